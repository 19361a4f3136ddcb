/-! IslandOffice$Shelf.hasPlace(I)Z -/
abbrev zy_S_hasPlace : MethodName := ⟨"IslandOffice$Shelf", "hasPlace", "(I)Z"⟩
abbrev zb_S_hasPlace : ByteArray := prog_10_method_6_code
abbrev zm_S_hasPlace : Room := { frames := 0, cells := 0, slots := 0, locals := 0 }
theorem zq_S_hasPlace : zMy zy_S_hasPlace zb_S_hasPlace 2 (some .boolean) 1 := ⟨zk_1148, zk_1146, zk_1147, zk_9, by decide, by decide, by decide +kernel⟩
theorem zd_S_hasPlace_0 : decode zb_S_hasPlace 0 = .ok (.iload_n 1, 1) := by decide +kernel
theorem zd_S_hasPlace_1 : decode zb_S_hasPlace 1 = .ok (.ifCond .lt 24, 3) := by decide +kernel
theorem zd_S_hasPlace_4 : decode zb_S_hasPlace 4 = .ok (.iload_n 1, 1) := by decide +kernel
theorem zd_S_hasPlace_5 : decode zb_S_hasPlace 5 = .ok (.aload_n 0, 1) := by decide +kernel
theorem zd_S_hasPlace_6 : decode zb_S_hasPlace 6 = .ok (.getfield 27, 3) := by decide +kernel
theorem zd_S_hasPlace_9 : decode zb_S_hasPlace 9 = .ok (.if_icmp .ge 16, 3) := by decide +kernel
theorem zd_S_hasPlace_12 : decode zb_S_hasPlace 12 = .ok (.iload_n 1, 1) := by decide +kernel
theorem zd_S_hasPlace_13 : decode zb_S_hasPlace 13 = .ok (.aload_n 0, 1) := by decide +kernel
theorem zd_S_hasPlace_14 : decode zb_S_hasPlace 14 = .ok (.getfield 30, 3) := by decide +kernel
theorem zd_S_hasPlace_17 : decode zb_S_hasPlace 17 = .ok (.arraylength, 1) := by decide +kernel
theorem zd_S_hasPlace_18 : decode zb_S_hasPlace 18 = .ok (.if_icmp .ge 7, 3) := by decide +kernel
theorem zd_S_hasPlace_21 : decode zb_S_hasPlace 21 = .ok (.iconst 1, 1) := by decide +kernel
theorem zd_S_hasPlace_22 : decode zb_S_hasPlace 22 = .ok (.goto 4, 3) := by decide +kernel
theorem zd_S_hasPlace_25 : decode zb_S_hasPlace 25 = .ok (.iconst 0, 1) := by decide +kernel
theorem zd_S_hasPlace_26 : decode zb_S_hasPlace 26 = .ok (.ireturn, 1) := by decide +kernel

def zf_S_hasPlace (r0 : Int) (x1 : Int) (S : Sg) : Option (Int × Sg) :=
    if x1 < 0 then (some (0, S)) else (if (S 2 r0 0 5) ≤ x1 then (some (0, S)) else (if 120 ≤ x1 then (some (0, S)) else (some (1, S))))
set_option maxHeartbeats 4000000 in
set_option maxRecDepth 100000 in
theorem zw_S_hasPlace {p : Program} {l : Launch} {e : Env} {s : State} {m : MethodId} {args : Array Value} {below : List Frame} {meth : Method} {c : Code} {B : zB} (C : CallFix p m c zb_S_hasPlace 2 s args zT "IslandOffice$Shelf") (hr : meth.sig.returnType = some .boolean) (hlk : meth.locks = false) (hK : zK B s) (hSt : zSt B s) (hap : zAp B) (r0 : Int) (hr0 : 0 ≤ r0 ∧ r0 < 8) {res : Int} {S9 : Sg} : ∀ (x1 : Int) (S : Sg) (nx1 : zn x1), zf_S_hasPlace r0 x1 S = some (res, S9) → ∀ (H : Heap) (locs : List Loc) (ls : Array Slot), zW B S H → va_S B.2.2.2 s.heap H locs → lv_has ls 2 [(0, .ref (B.2.1 2 (r0) (0))), (1, .int (zI (x1)))] → W p l e zm_S_hasPlace s m args below meth c H locs 0 0 (MQ below (zQi B res S9) args s 0 0 B.2.2.2) (F0 m 0 ls []) := by
  intro x1 S nx1 hf H locs ls hW hS hl
  unfold zf_S_hasPlace at hf
  refine lv_iload_n C.1 C.2.1 zd_S_hasPlace_0 rfl (lv_at hl 1 rfl) ?_
  refine zr_if_lt (tgt := 25) C nx1 zd_S_hasPlace_1 (by decide) (fun c1 => ?_) (fun c1 => ?_)
  · rw [if_pos c1] at hf
    refine zr_iconst C zd_S_hasPlace_25 ?_
    cases hf
    exact zre_z C hr hlk hK hW hS (znb rfl) (zb01 (by decide)) zd_S_hasPlace_26
  · rw [if_neg c1] at hf
    refine lv_iload_n C.1 C.2.1 zd_S_hasPlace_4 rfl (lv_at hl 1 rfl) ?_
    refine lv_aload_n C.1 C.2.1 zd_S_hasPlace_5 rfl (lv_at hl 0 rfl) ?_
    refine zg_S_size (r := r0) C hK hW (zvd_2 hr0 (by decide)) zk_353 zd_S_hasPlace_6 ?_
    refine zr_icmp_ge (tgt := 25) C nx1 (zWn hW _ _ _ _ rfl) zd_S_hasPlace_9 (by decide) (fun c2 => ?_) (fun c2 => ?_)
    · rw [if_pos c2] at hf
      refine zr_iconst C zd_S_hasPlace_25 ?_
      cases hf
      exact zre_z C hr hlk hK hW hS (znb rfl) (zb01 (by decide)) zd_S_hasPlace_26
    · rw [if_neg c2] at hf
      refine lv_iload_n C.1 C.2.1 zd_S_hasPlace_12 rfl (lv_at hl 1 rfl) ?_
      refine lv_aload_n C.1 C.2.1 zd_S_hasPlace_13 rfl (lv_at hl 0 rfl) ?_
      refine zg_S_cell (r := r0) C hK hW (zvd_2 hr0 (by decide)) zk_355 zd_S_hasPlace_14 ?_
      refine zalen (N := 120) C hK hW (zvd_2 hr0 (by decide)) (fun f => ze_2_1 B f (r0)) rfl zd_S_hasPlace_17 ?_
      refine zr_icmp_ge (tgt := 25) C nx1 (znb rfl) zd_S_hasPlace_18 (by decide) (fun c3 => ?_) (fun c3 => ?_)
      · rw [if_pos c3] at hf
        refine zr_iconst C zd_S_hasPlace_25 ?_
        cases hf
        exact zre_z C hr hlk hK hW hS (znb rfl) (zb01 (by decide)) zd_S_hasPlace_26
      · rw [if_neg c3] at hf
        refine zr_iconst C zd_S_hasPlace_21 ?_
        refine lv_goto (tgt := 26) C.1 C.2.1 zd_S_hasPlace_22 (by decide) ?_
        cases hf
        exact zre_z C hr hlk hK hW hS (znb rfl) (zb01 (by decide)) zd_S_hasPlace_26

theorem zc_S_hasPlace {l : Launch} {B : zB} (hap : zAp B) (r0 : Int) (hr0 : 0 ≤ r0 ∧ r0 < 8) (x1 : Int) (S : Sg) (nx1 : zn x1) {res : Int} {S9 : Sg} (hf : zf_S_hasPlace r0 x1 S = some (res, S9)) : Met l zy_S_hasPlace (Cond.code zy_S_hasPlace zb_S_hasPlace 2 (some .boolean) :: zT) zm_S_hasPlace (zP B S [.ref (B.2.1 2 (r0) (0)), .int (zI (x1))]) (zQi B res S9) 0 0 B.2.2.2 :=
  zmet (by decide) (Nat.le_of_ble_eq_true rfl) (fun p e s m args below meth c C hr hlk hK hSt hW ls hl => zw_S_hasPlace C hr hlk hK hSt hap r0 hr0 x1 S nx1 hf _ _ _ hW va_S.rf hl)
/-! IslandOffice.put(III)I -/
abbrev zy_O_put : MethodName := ⟨"IslandOffice", "put", "(III)I"⟩
abbrev zb_O_put : ByteArray := prog_1_method_42_code
abbrev zm_O_put : Room := { frames := 1, cells := 0, slots := 0, locals := 21 }
theorem zq_O_put : zMy zy_O_put zb_O_put 5 (some .int) 3 := ⟨zk_1144, zk_1142, zk_1143, zk_1, by decide, by decide, by decide +kernel⟩
theorem zd_O_put_0 : decode zb_O_put 0 = .ok (.iload_n 1, 1) := by decide +kernel
theorem zd_O_put_1 : decode zb_O_put 1 = .ok (.invokestatic 151, 3) := by decide +kernel
theorem zd_O_put_4 : decode zb_O_put 4 = .ok (.ifCond .ne 5, 3) := by decide +kernel
theorem zd_O_put_7 : decode zb_O_put 7 = .ok (.iconst (-1), 1) := by decide +kernel
theorem zd_O_put_8 : decode zb_O_put 8 = .ok (.ireturn, 1) := by decide +kernel
theorem zd_O_put_9 : decode zb_O_put 9 = .ok (.aload_n 0, 1) := by decide +kernel
theorem zd_O_put_10 : decode zb_O_put 10 = .ok (.getfield 36, 3) := by decide +kernel
theorem zd_O_put_13 : decode zb_O_put 13 = .ok (.iload_n 1, 1) := by decide +kernel
theorem zd_O_put_14 : decode zb_O_put 14 = .ok (.aaload, 1) := by decide +kernel
theorem zd_O_put_15 : decode zb_O_put 15 = .ok (.astore 4, 2) := by decide +kernel
theorem zd_O_put_17 : decode zb_O_put 17 = .ok (.aload 4, 2) := by decide +kernel
theorem zd_O_put_19 : decode zb_O_put 19 = .ok (.getfield 154, 3) := by decide +kernel
theorem zd_O_put_22 : decode zb_O_put 22 = .ok (.ifCond .ne 6, 3) := by decide +kernel
theorem zd_O_put_25 : decode zb_O_put 25 = .ok (.bipush (-11), 2) := by decide +kernel
theorem zd_O_put_27 : decode zb_O_put 27 = .ok (.ireturn, 1) := by decide +kernel
theorem zd_O_put_28 : decode zb_O_put 28 = .ok (.aload 4, 2) := by decide +kernel
theorem zd_O_put_30 : decode zb_O_put 30 = .ok (.getfield 154, 3) := by decide +kernel
theorem zd_O_put_33 : decode zb_O_put 33 = .ok (.iconst 3, 1) := by decide +kernel
theorem zd_O_put_34 : decode zb_O_put 34 = .ok (.if_icmp .eq 6, 3) := by decide +kernel
theorem zd_O_put_37 : decode zb_O_put 37 = .ok (.bipush (-12), 2) := by decide +kernel
theorem zd_O_put_39 : decode zb_O_put 39 = .ok (.ireturn, 1) := by decide +kernel
theorem zd_O_put_40 : decode zb_O_put 40 = .ok (.aload 4, 2) := by decide +kernel
theorem zd_O_put_42 : decode zb_O_put 42 = .ok (.iload_n 2, 1) := by decide +kernel
theorem zd_O_put_43 : decode zb_O_put 43 = .ok (.invokevirtual 366, 3) := by decide +kernel
theorem zd_O_put_46 : decode zb_O_put 46 = .ok (.ifCond .ne 6, 3) := by decide +kernel
theorem zd_O_put_49 : decode zb_O_put 49 = .ok (.bipush (-13), 2) := by decide +kernel
theorem zd_O_put_51 : decode zb_O_put 51 = .ok (.ireturn, 1) := by decide +kernel
theorem zd_O_put_52 : decode zb_O_put 52 = .ok (.aload 4, 2) := by decide +kernel
theorem zd_O_put_54 : decode zb_O_put 54 = .ok (.getfield 161, 3) := by decide +kernel
theorem zd_O_put_57 : decode zb_O_put 57 = .ok (.iload_n 2, 1) := by decide +kernel
theorem zd_O_put_58 : decode zb_O_put 58 = .ok (.aload 4, 2) := by decide +kernel
theorem zd_O_put_60 : decode zb_O_put 60 = .ok (.iload_n 3, 1) := by decide +kernel
theorem zd_O_put_61 : decode zb_O_put 61 = .ok (.invokevirtual 369, 3) := by decide +kernel
theorem zd_O_put_64 : decode zb_O_put 64 = .ok (.iastore, 1) := by decide +kernel
theorem zd_O_put_65 : decode zb_O_put 65 = .ok (.iconst 0, 1) := by decide +kernel
theorem zd_O_put_66 : decode zb_O_put 66 = .ok (.ireturn, 1) := by decide +kernel

def zf_O_put (x1 : Int) (x2 : Int) (x3 : Int) (S : Sg) : Option (Int × Sg) :=
    zbd (zf_O_isShelf x1 S) fun a1 S2 => if a1 = 0 then (some (-1, S2)) else (zck (0 ≤ x1 ∧ x1 < 8) <| if (S2 2 x1 0 0) = 0 then (some (-11, S2)) else (if (S2 2 x1 0 0) = 3 then (zbd (zf_S_hasPlace (x1) x2 S2) fun a7 S8 => if a7 = 0 then (some (-13, S8)) else (zbd (zf_S_cut (x1) x3 S8) fun a10 S11 => zck (0 ≤ x2 ∧ x2 < 120) <| zlt (zu S11 2 x1 1 x2 a10) fun S13 => some (0, S13))) else (some (-12, S2))))
set_option maxHeartbeats 4000000 in
set_option maxRecDepth 100000 in
theorem zw_O_put {p : Program} {l : Launch} {e : Env} {s : State} {m : MethodId} {args : Array Value} {below : List Frame} {meth : Method} {c : Code} {B : zB} (C : CallFix p m c zb_O_put 5 s args zT "IslandOffice") (hr : meth.sig.returnType = some .int) (hlk : meth.locks = false) (hK : zK B s) (hSt : zSt B s) (hap : zAp B) {res : Int} {S9 : Sg} : ∀ (x1 : Int) (x2 : Int) (x3 : Int) (S : Sg) (nx1 : zn x1) (nx2 : zn x2) (nx3 : zn x3), zf_O_put x1 x2 x3 S = some (res, S9) → ∀ (H : Heap) (locs : List Loc) (ls : Array Slot), zW B S H → va_S B.2.2.2 s.heap H locs → lv_has ls 5 [(0, .ref (B.2.1 3 (0) (0))), (1, .int (zI (x1))), (2, .int (zI (x2))), (3, .int (zI (x3)))] → W p l e zm_O_put s m args below meth c H locs 0 0 (MQ below (zQi B res S9) args s 0 0 B.2.2.2) (F0 m 0 ls []) := by
  intro x1 x2 x3 S nx1 nx2 nx3 hf H locs ls hW hS hl
  unfold zf_O_put at hf
  refine lv_iload_n C.1 C.2.1 zd_O_put_0 rfl (lv_at hl 1 rfl) ?_
  obtain ⟨a1, S2, ea1, hf⟩ := zbd_some hf
  refine zcSi (As := [.int (zI (x1))]) (rest := []) C hK hSt hW hS (zc_O_isShelf hap x1 S nx1 ea1) zq_O_isShelf zk_612 ⟨rfl, rfl, by decide, by decide⟩ ⟨Nat.zero_le _, Nat.zero_le _⟩ rfl hl.1 rfl (lv_room (Nat.le_of_ble_eq_true rfl)) zd_O_put_1 (fun na1 H locs hW hS => ?_)
  refine zr_if_ne (tgt := 9) C na1 zd_O_put_4 (by decide) (fun c3 => ?_) (fun c3 => ?_)
  · rw [if_neg c3] at hf
    refine lv_aload_n C.1 C.2.1 zd_O_put_9 rfl (lv_at hl 0 rfl) ?_
    refine zg_O_shelves (r := 0) C hK hW (zvd_3 (by decide) (by decide)) zk_497 zd_O_put_10 ?_
    refine lv_iload_n C.1 C.2.1 zd_O_put_13 rfl (lv_at hl 1 rfl) ?_
    obtain ⟨h4, hf⟩ := zck_some hf
    refine zaald (t0 := 3) C hK hW (zvd_3 (by decide) (by decide)) (fun f => ze_3_3 B f (0)) rfl rfl (by decide) h4 zd_O_put_14 (a := B.2.1 2 (x1) (0)) (by rw [Int.toNat_of_nonneg h4.1]) ?_
    refine lv_astore (lv' := [(4, .ref (B.2.1 2 (x1) (0))), (0, .ref (B.2.1 3 (0) (0))), (1, .int (zI (x1))), (2, .int (zI (x2))), (3, .int (zI (x3)))]) C.1 C.2.1 zd_O_put_15 hl (by decide) rfl (fun ls hl => ?_)
    refine lv_aload C.1 C.2.1 zd_O_put_17 (lv_at hl 0 rfl) ?_
    refine zg_S_holds (r := x1) C hK hW (zvd_2 h4 (by decide)) zk_344 zd_O_put_19 ?_
    refine zr_if_ne (tgt := 28) C (zWn hW _ _ _ _ rfl) zd_O_put_22 (by decide) (fun c5 => ?_) (fun c5 => ?_)
    · rw [if_neg c5] at hf
      refine lv_aload C.1 C.2.1 zd_O_put_28 (lv_at hl 0 rfl) ?_
      refine zg_S_holds (r := x1) C hK hW (zvd_2 h4 (by decide)) zk_344 zd_O_put_30 ?_
      refine zr_iconst C zd_O_put_33 ?_
      refine zr_icmp_eq (tgt := 40) C (zWn hW _ _ _ _ rfl) (znb rfl) zd_O_put_34 (by decide) (fun c6 => ?_) (fun c6 => ?_)
      · rw [if_pos c6] at hf
        refine lv_aload C.1 C.2.1 zd_O_put_40 (lv_at hl 0 rfl) ?_
        refine lv_iload_n C.1 C.2.1 zd_O_put_42 rfl (lv_at hl 3 rfl) ?_
        obtain ⟨a7, S8, ea7, hf⟩ := zbd_some hf
        refine zcVi (As := [.int (zI (x2))]) (rest := []) C hK hSt hW hS (zc_S_hasPlace hap (x1) h4 x2 S2 nx2 ea7) zq_S_hasPlace zk_1145 (zrecv hK hW (zvd_2 h4 (by decide)) (ze_2_0 B _ (x1)) rfl) ⟨rfl, rfl, by decide, by decide⟩ ⟨Nat.zero_le _, Nat.zero_le _⟩ rfl hl.1 rfl (lv_room (Nat.le_of_ble_eq_true rfl)) zd_O_put_43 (fun na7 H locs hW hS => ?_)
        refine zr_if_ne (tgt := 52) C na7 zd_O_put_46 (by decide) (fun c9 => ?_) (fun c9 => ?_)
        · rw [if_neg c9] at hf
          refine lv_aload C.1 C.2.1 zd_O_put_52 (lv_at hl 0 rfl) ?_
          refine zg_S_cell (r := x1) C hK hW (zvd_2 h4 (by decide)) zk_356 zd_O_put_54 ?_
          refine lv_iload_n C.1 C.2.1 zd_O_put_57 rfl (lv_at hl 3 rfl) ?_
          refine lv_aload C.1 C.2.1 zd_O_put_58 (lv_at hl 0 rfl) ?_
          refine lv_iload_n C.1 C.2.1 zd_O_put_60 rfl (lv_at hl 4 rfl) ?_
          obtain ⟨a10, S11, ea10, hf⟩ := zbd_some hf
          refine zcVi (As := [.int (zI (x3))]) (rest := [.int (zI (x2)), .ref (B.2.1 2 (x1) (1))]) C hK hSt hW hS (zc_S_cut hap (x1) h4 x3 S8 nx3 ea10) zq_S_cut zk_1149 (zrecv hK hW (zvd_2 h4 (by decide)) (ze_2_0 B _ (x1)) rfl) ⟨rfl, rfl, by decide, by decide⟩ ⟨Nat.zero_le _, Nat.zero_le _⟩ rfl hl.1 rfl (lv_room (Nat.le_of_ble_eq_true rfl)) zd_O_put_61 (fun na10 H locs hW hS => ?_)
          obtain ⟨h12, hf⟩ := zck_some hf
          obtain ⟨S13, eS13, hf⟩ := zlt_some hf
          refine ziast C hK hap hW hS (zvd_2 h4 (by decide)) (fun f => ze_2_1 B f (x1)) (by decide) rfl na10 h12 zd_O_put_64 (fun H locs hW hS => ?_)
          rw [eS13] at hW
          refine zr_iconst C zd_O_put_65 ?_
          cases hf
          exact zre_i C hr hlk hK hW hS (znb rfl) zd_O_put_66
        · rw [if_pos c9] at hf
          refine zr_bipush C zd_O_put_49 (by decide) ?_
          cases hf
          exact zre_i C hr hlk hK hW hS (znb rfl) zd_O_put_51
      · rw [if_neg c6] at hf
        refine zr_bipush C zd_O_put_37 (by decide) ?_
        cases hf
        exact zre_i C hr hlk hK hW hS (znb rfl) zd_O_put_39
    · rw [if_pos c5] at hf
      refine zr_bipush C zd_O_put_25 (by decide) ?_
      cases hf
      exact zre_i C hr hlk hK hW hS (znb rfl) zd_O_put_27
  · rw [if_pos c3] at hf
    refine zr_iconst C zd_O_put_7 ?_
    cases hf
    exact zre_i C hr hlk hK hW hS (znb rfl) zd_O_put_8

theorem zc_O_put {l : Launch} {B : zB} (hap : zAp B) (x1 : Int) (x2 : Int) (x3 : Int) (S : Sg) (nx1 : zn x1) (nx2 : zn x2) (nx3 : zn x3) {res : Int} {S9 : Sg} (hf : zf_O_put x1 x2 x3 S = some (res, S9)) : Met l zy_O_put (Cond.code zy_O_put zb_O_put 5 (some .int) :: zT) zm_O_put (zP B S [.ref (B.2.1 3 (0) (0)), .int (zI (x1)), .int (zI (x2)), .int (zI (x3))]) (zQi B res S9) 0 0 B.2.2.2 :=
  zmet (by decide) (Nat.le_of_ble_eq_true rfl) (fun p e s m args below meth c C hr hlk hK hSt hW ls hl => zw_O_put C hr hlk hK hSt hap   x1 x2 x3 S nx1 nx2 nx3 hf _ _ _ hW va_S.rf hl)
/-! IslandOffice$Shelf.hasRun(II)Z -/
abbrev zy_S_hasRun : MethodName := ⟨"IslandOffice$Shelf", "hasRun", "(II)Z"⟩
abbrev zb_S_hasRun : ByteArray := prog_10_method_7_code
abbrev zm_S_hasRun : Room := { frames := 0, cells := 0, slots := 0, locals := 0 }
theorem zq_S_hasRun : zMy zy_S_hasRun zb_S_hasRun 3 (some .boolean) 2 := ⟨zk_1160, zk_1158, zk_1159, zk_9, by decide, by decide, by decide +kernel⟩
theorem zd_S_hasRun_0 : decode zb_S_hasRun 0 = .ok (.iload_n 1, 1) := by decide +kernel
theorem zd_S_hasRun_1 : decode zb_S_hasRun 1 = .ok (.ifCond .lt 29, 3) := by decide +kernel
theorem zd_S_hasRun_4 : decode zb_S_hasRun 4 = .ok (.iload_n 2, 1) := by decide +kernel
theorem zd_S_hasRun_5 : decode zb_S_hasRun 5 = .ok (.ifCond .lt 25, 3) := by decide +kernel
theorem zd_S_hasRun_8 : decode zb_S_hasRun 8 = .ok (.iload_n 1, 1) := by decide +kernel
theorem zd_S_hasRun_9 : decode zb_S_hasRun 9 = .ok (.aload_n 0, 1) := by decide +kernel
theorem zd_S_hasRun_10 : decode zb_S_hasRun 10 = .ok (.getfield 27, 3) := by decide +kernel
theorem zd_S_hasRun_13 : decode zb_S_hasRun 13 = .ok (.if_icmp .gt 17, 3) := by decide +kernel
theorem zd_S_hasRun_16 : decode zb_S_hasRun 16 = .ok (.iload_n 2, 1) := by decide +kernel
theorem zd_S_hasRun_17 : decode zb_S_hasRun 17 = .ok (.aload_n 0, 1) := by decide +kernel
theorem zd_S_hasRun_18 : decode zb_S_hasRun 18 = .ok (.getfield 27, 3) := by decide +kernel
theorem zd_S_hasRun_21 : decode zb_S_hasRun 21 = .ok (.iload_n 1, 1) := by decide +kernel
theorem zd_S_hasRun_22 : decode zb_S_hasRun 22 = .ok (.isub, 1) := by decide +kernel
theorem zd_S_hasRun_23 : decode zb_S_hasRun 23 = .ok (.if_icmp .gt 7, 3) := by decide +kernel
theorem zd_S_hasRun_26 : decode zb_S_hasRun 26 = .ok (.iconst 1, 1) := by decide +kernel
theorem zd_S_hasRun_27 : decode zb_S_hasRun 27 = .ok (.goto 4, 3) := by decide +kernel
theorem zd_S_hasRun_30 : decode zb_S_hasRun 30 = .ok (.iconst 0, 1) := by decide +kernel
theorem zd_S_hasRun_31 : decode zb_S_hasRun 31 = .ok (.ireturn, 1) := by decide +kernel

def zf_S_hasRun (r0 : Int) (x1 : Int) (x2 : Int) (S : Sg) : Option (Int × Sg) :=
    if x1 < 0 then (some (0, S)) else (if x2 < 0 then (some (0, S)) else (if (S 2 r0 0 5) < x1 then (some (0, S)) else (if (zw ((S 2 r0 0 5) - x1)) < x2 then (some (0, S)) else (some (1, S)))))
set_option maxHeartbeats 4000000 in
set_option maxRecDepth 100000 in
theorem zw_S_hasRun {p : Program} {l : Launch} {e : Env} {s : State} {m : MethodId} {args : Array Value} {below : List Frame} {meth : Method} {c : Code} {B : zB} (C : CallFix p m c zb_S_hasRun 3 s args zT "IslandOffice$Shelf") (hr : meth.sig.returnType = some .boolean) (hlk : meth.locks = false) (hK : zK B s) (hSt : zSt B s) (hap : zAp B) (r0 : Int) (hr0 : 0 ≤ r0 ∧ r0 < 8) {res : Int} {S9 : Sg} : ∀ (x1 : Int) (x2 : Int) (S : Sg) (nx1 : zn x1) (nx2 : zn x2), zf_S_hasRun r0 x1 x2 S = some (res, S9) → ∀ (H : Heap) (locs : List Loc) (ls : Array Slot), zW B S H → va_S B.2.2.2 s.heap H locs → lv_has ls 3 [(0, .ref (B.2.1 2 (r0) (0))), (1, .int (zI (x1))), (2, .int (zI (x2)))] → W p l e zm_S_hasRun s m args below meth c H locs 0 0 (MQ below (zQi B res S9) args s 0 0 B.2.2.2) (F0 m 0 ls []) := by
  intro x1 x2 S nx1 nx2 hf H locs ls hW hS hl
  unfold zf_S_hasRun at hf
  refine lv_iload_n C.1 C.2.1 zd_S_hasRun_0 rfl (lv_at hl 1 rfl) ?_
  refine zr_if_lt (tgt := 30) C nx1 zd_S_hasRun_1 (by decide) (fun c1 => ?_) (fun c1 => ?_)
  · rw [if_pos c1] at hf
    refine zr_iconst C zd_S_hasRun_30 ?_
    cases hf
    exact zre_z C hr hlk hK hW hS (znb rfl) (zb01 (by decide)) zd_S_hasRun_31
  · rw [if_neg c1] at hf
    refine lv_iload_n C.1 C.2.1 zd_S_hasRun_4 rfl (lv_at hl 2 rfl) ?_
    refine zr_if_lt (tgt := 30) C nx2 zd_S_hasRun_5 (by decide) (fun c2 => ?_) (fun c2 => ?_)
    · rw [if_pos c2] at hf
      refine zr_iconst C zd_S_hasRun_30 ?_
      cases hf
      exact zre_z C hr hlk hK hW hS (znb rfl) (zb01 (by decide)) zd_S_hasRun_31
    · rw [if_neg c2] at hf
      refine lv_iload_n C.1 C.2.1 zd_S_hasRun_8 rfl (lv_at hl 1 rfl) ?_
      refine lv_aload_n C.1 C.2.1 zd_S_hasRun_9 rfl (lv_at hl 0 rfl) ?_
      refine zg_S_size (r := r0) C hK hW (zvd_2 hr0 (by decide)) zk_353 zd_S_hasRun_10 ?_
      refine zr_icmp_gt (tgt := 30) C nx1 (zWn hW _ _ _ _ rfl) zd_S_hasRun_13 (by decide) (fun c3 => ?_) (fun c3 => ?_)
      · rw [if_pos c3] at hf
        refine zr_iconst C zd_S_hasRun_30 ?_
        cases hf
        exact zre_z C hr hlk hK hW hS (znb rfl) (zb01 (by decide)) zd_S_hasRun_31
      · rw [if_neg c3] at hf
        refine lv_iload_n C.1 C.2.1 zd_S_hasRun_16 rfl (lv_at hl 2 rfl) ?_
        refine lv_aload_n C.1 C.2.1 zd_S_hasRun_17 rfl (lv_at hl 0 rfl) ?_
        refine zg_S_size (r := r0) C hK hW (zvd_2 hr0 (by decide)) zk_353 zd_S_hasRun_18 ?_
        refine lv_iload_n C.1 C.2.1 zd_S_hasRun_21 rfl (lv_at hl 1 rfl) ?_
        refine zr_isub C zd_S_hasRun_22 ?_
        refine zr_icmp_gt (tgt := 30) C nx2 (zn_w _) zd_S_hasRun_23 (by decide) (fun c4 => ?_) (fun c4 => ?_)
        · rw [if_pos c4] at hf
          refine zr_iconst C zd_S_hasRun_30 ?_
          cases hf
          exact zre_z C hr hlk hK hW hS (znb rfl) (zb01 (by decide)) zd_S_hasRun_31
        · rw [if_neg c4] at hf
          refine zr_iconst C zd_S_hasRun_26 ?_
          refine lv_goto (tgt := 31) C.1 C.2.1 zd_S_hasRun_27 (by decide) ?_
          cases hf
          exact zre_z C hr hlk hK hW hS (znb rfl) (zb01 (by decide)) zd_S_hasRun_31

theorem zc_S_hasRun {l : Launch} {B : zB} (hap : zAp B) (r0 : Int) (hr0 : 0 ≤ r0 ∧ r0 < 8) (x1 : Int) (x2 : Int) (S : Sg) (nx1 : zn x1) (nx2 : zn x2) {res : Int} {S9 : Sg} (hf : zf_S_hasRun r0 x1 x2 S = some (res, S9)) : Met l zy_S_hasRun (Cond.code zy_S_hasRun zb_S_hasRun 3 (some .boolean) :: zT) zm_S_hasRun (zP B S [.ref (B.2.1 2 (r0) (0)), .int (zI (x1)), .int (zI (x2))]) (zQi B res S9) 0 0 B.2.2.2 :=
  zmet (by decide) (Nat.le_of_ble_eq_true rfl) (fun p e s m args below meth c C hr hlk hK hSt hW ls hl => zw_S_hasRun C hr hlk hK hSt hap r0 hr0 x1 x2 S nx1 nx2 hf _ _ _ hW va_S.rf hl)
/-! IslandOffice.copy(IIIII)I -/
abbrev zy_O_copy : MethodName := ⟨"IslandOffice", "copy", "(IIIII)I"⟩
abbrev zb_O_copy : ByteArray := prog_1_method_44_code
abbrev zm_O_copy : Room := { frames := 1, cells := 0, slots := 0, locals := 64 }
theorem zq_O_copy : zMy zy_O_copy zb_O_copy 8 (some .int) 5 := ⟨zk_1156, zk_1154, zk_1155, zk_1, by decide, by decide, by decide +kernel⟩
theorem zd_O_copy_0 : decode zb_O_copy 0 = .ok (.iload_n 1, 1) := by decide +kernel
theorem zd_O_copy_1 : decode zb_O_copy 1 = .ok (.invokestatic 151, 3) := by decide +kernel
theorem zd_O_copy_4 : decode zb_O_copy 4 = .ok (.ifCond .eq 10, 3) := by decide +kernel
theorem zd_O_copy_7 : decode zb_O_copy 7 = .ok (.iload_n 3, 1) := by decide +kernel
theorem zd_O_copy_8 : decode zb_O_copy 8 = .ok (.invokestatic 151, 3) := by decide +kernel
theorem zd_O_copy_11 : decode zb_O_copy 11 = .ok (.ifCond .ne 5, 3) := by decide +kernel
theorem zd_O_copy_14 : decode zb_O_copy 14 = .ok (.iconst (-1), 1) := by decide +kernel
theorem zd_O_copy_15 : decode zb_O_copy 15 = .ok (.ireturn, 1) := by decide +kernel
theorem zd_O_copy_16 : decode zb_O_copy 16 = .ok (.aload_n 0, 1) := by decide +kernel
theorem zd_O_copy_17 : decode zb_O_copy 17 = .ok (.getfield 36, 3) := by decide +kernel
theorem zd_O_copy_20 : decode zb_O_copy 20 = .ok (.iload_n 1, 1) := by decide +kernel
theorem zd_O_copy_21 : decode zb_O_copy 21 = .ok (.aaload, 1) := by decide +kernel
theorem zd_O_copy_22 : decode zb_O_copy 22 = .ok (.astore 6, 2) := by decide +kernel
theorem zd_O_copy_24 : decode zb_O_copy 24 = .ok (.aload_n 0, 1) := by decide +kernel
theorem zd_O_copy_25 : decode zb_O_copy 25 = .ok (.getfield 36, 3) := by decide +kernel
theorem zd_O_copy_28 : decode zb_O_copy 28 = .ok (.iload_n 3, 1) := by decide +kernel
theorem zd_O_copy_29 : decode zb_O_copy 29 = .ok (.aaload, 1) := by decide +kernel
theorem zd_O_copy_30 : decode zb_O_copy 30 = .ok (.astore 7, 2) := by decide +kernel
theorem zd_O_copy_32 : decode zb_O_copy 32 = .ok (.aload 6, 2) := by decide +kernel
theorem zd_O_copy_34 : decode zb_O_copy 34 = .ok (.getfield 154, 3) := by decide +kernel
theorem zd_O_copy_37 : decode zb_O_copy 37 = .ok (.ifCond .eq 11, 3) := by decide +kernel
theorem zd_O_copy_40 : decode zb_O_copy 40 = .ok (.aload 7, 2) := by decide +kernel
theorem zd_O_copy_42 : decode zb_O_copy 42 = .ok (.getfield 154, 3) := by decide +kernel
theorem zd_O_copy_45 : decode zb_O_copy 45 = .ok (.ifCond .ne 6, 3) := by decide +kernel
theorem zd_O_copy_48 : decode zb_O_copy 48 = .ok (.bipush (-11), 2) := by decide +kernel
theorem zd_O_copy_50 : decode zb_O_copy 50 = .ok (.ireturn, 1) := by decide +kernel
theorem zd_O_copy_51 : decode zb_O_copy 51 = .ok (.aload 6, 2) := by decide +kernel
theorem zd_O_copy_53 : decode zb_O_copy 53 = .ok (.getfield 154, 3) := by decide +kernel
theorem zd_O_copy_56 : decode zb_O_copy 56 = .ok (.iconst 3, 1) := by decide +kernel
theorem zd_O_copy_57 : decode zb_O_copy 57 = .ok (.if_icmp .ne 25, 3) := by decide +kernel
theorem zd_O_copy_60 : decode zb_O_copy 60 = .ok (.aload 7, 2) := by decide +kernel
theorem zd_O_copy_62 : decode zb_O_copy 62 = .ok (.getfield 154, 3) := by decide +kernel
theorem zd_O_copy_65 : decode zb_O_copy 65 = .ok (.iconst 3, 1) := by decide +kernel
theorem zd_O_copy_66 : decode zb_O_copy 66 = .ok (.if_icmp .ne 16, 3) := by decide +kernel
theorem zd_O_copy_69 : decode zb_O_copy 69 = .ok (.aload 6, 2) := by decide +kernel
theorem zd_O_copy_71 : decode zb_O_copy 71 = .ok (.getfield 298, 3) := by decide +kernel
theorem zd_O_copy_74 : decode zb_O_copy 74 = .ok (.aload 7, 2) := by decide +kernel
theorem zd_O_copy_76 : decode zb_O_copy 76 = .ok (.getfield 298, 3) := by decide +kernel
theorem zd_O_copy_79 : decode zb_O_copy 79 = .ok (.if_icmp .eq 6, 3) := by decide +kernel
theorem zd_O_copy_82 : decode zb_O_copy 82 = .ok (.bipush (-12), 2) := by decide +kernel
theorem zd_O_copy_84 : decode zb_O_copy 84 = .ok (.ireturn, 1) := by decide +kernel
theorem zd_O_copy_85 : decode zb_O_copy 85 = .ok (.aload 6, 2) := by decide +kernel
theorem zd_O_copy_87 : decode zb_O_copy 87 = .ok (.iload_n 2, 1) := by decide +kernel
theorem zd_O_copy_88 : decode zb_O_copy 88 = .ok (.iload 5, 2) := by decide +kernel
theorem zd_O_copy_90 : decode zb_O_copy 90 = .ok (.invokevirtual 384, 3) := by decide +kernel
theorem zd_O_copy_93 : decode zb_O_copy 93 = .ok (.ifCond .eq 15, 3) := by decide +kernel
theorem zd_O_copy_96 : decode zb_O_copy 96 = .ok (.aload 7, 2) := by decide +kernel
theorem zd_O_copy_98 : decode zb_O_copy 98 = .ok (.iload 4, 2) := by decide +kernel
theorem zd_O_copy_100 : decode zb_O_copy 100 = .ok (.iload 5, 2) := by decide +kernel
theorem zd_O_copy_102 : decode zb_O_copy 102 = .ok (.invokevirtual 384, 3) := by decide +kernel
theorem zd_O_copy_105 : decode zb_O_copy 105 = .ok (.ifCond .ne 6, 3) := by decide +kernel
theorem zd_O_copy_108 : decode zb_O_copy 108 = .ok (.bipush (-13), 2) := by decide +kernel
theorem zd_O_copy_110 : decode zb_O_copy 110 = .ok (.ireturn, 1) := by decide +kernel
theorem zd_O_copy_111 : decode zb_O_copy 111 = .ok (.aload 6, 2) := by decide +kernel
theorem zd_O_copy_113 : decode zb_O_copy 113 = .ok (.getfield 161, 3) := by decide +kernel
theorem zd_O_copy_116 : decode zb_O_copy 116 = .ok (.iload_n 2, 1) := by decide +kernel
theorem zd_O_copy_117 : decode zb_O_copy 117 = .ok (.aload 7, 2) := by decide +kernel
theorem zd_O_copy_119 : decode zb_O_copy 119 = .ok (.getfield 161, 3) := by decide +kernel
theorem zd_O_copy_122 : decode zb_O_copy 122 = .ok (.iload 4, 2) := by decide +kernel
theorem zd_O_copy_124 : decode zb_O_copy 124 = .ok (.iload 5, 2) := by decide +kernel
theorem zd_O_copy_126 : decode zb_O_copy 126 = .ok (.invokestatic 388, 3) := by decide +kernel
theorem zd_O_copy_129 : decode zb_O_copy 129 = .ok (.iload 5, 2) := by decide +kernel
theorem zd_O_copy_131 : decode zb_O_copy 131 = .ok (.ireturn, 1) := by decide +kernel

def zf_O_copy (x1 : Int) (x2 : Int) (x3 : Int) (x4 : Int) (x5 : Int) (S : Sg) : Option (Int × Sg) :=
    zbd (zf_O_isShelf x1 S) fun a1 S2 => if a1 = 0 then (some (-1, S2)) else (zbd (zf_O_isShelf x3 S2) fun a4 S5 => if a4 = 0 then (some (-1, S5)) else (zck (0 ≤ x1 ∧ x1 < 8) <| zck (0 ≤ x3 ∧ x3 < 8) <| if (S5 2 x1 0 0) = 0 then (some (-11, S5)) else (if (S5 2 x3 0 0) = 0 then (some (-11, S5)) else (if (S5 2 x1 0 0) = 3 then (if (S5 2 x3 0 0) = 3 then (if (S5 2 x1 0 4) = (S5 2 x3 0 4) then (zbd (zf_S_hasRun (x1) x2 x5 S5) fun a14 S15 => if a14 = 0 then (some (-13, S15)) else (zbd (zf_S_hasRun (x3) x4 x5 S15) fun a17 S18 => if a17 = 0 then (some (-13, S18)) else (zck ((0 : Int) ≤ x2 ∧ (0 : Int) ≤ x4 ∧ (0 : Int) ≤ x5 ∧ (x2 + x5 : Int) ≤ 120 ∧ (x4 + x5 : Int) ≤ 120) <| zlt (zcp S18 2 x1 1 x2 2 x3 1 x4 x5) fun S21 => some (x5, S21)))) else (some (-12, S5))) else (some (-12, S5))) else (some (-12, S5))))))
set_option maxHeartbeats 4000000 in
set_option maxRecDepth 100000 in
theorem zw_O_copy {p : Program} {l : Launch} {e : Env} {s : State} {m : MethodId} {args : Array Value} {below : List Frame} {meth : Method} {c : Code} {B : zB} (C : CallFix p m c zb_O_copy 8 s args zT "IslandOffice") (hr : meth.sig.returnType = some .int) (hlk : meth.locks = false) (hK : zK B s) (hSt : zSt B s) (hap : zAp B) {res : Int} {S9 : Sg} : ∀ (x1 : Int) (x2 : Int) (x3 : Int) (x4 : Int) (x5 : Int) (S : Sg) (nx1 : zn x1) (nx2 : zn x2) (nx3 : zn x3) (nx4 : zn x4) (nx5 : zn x5), zf_O_copy x1 x2 x3 x4 x5 S = some (res, S9) → ∀ (H : Heap) (locs : List Loc) (ls : Array Slot), zW B S H → va_S B.2.2.2 s.heap H locs → lv_has ls 8 [(0, .ref (B.2.1 3 (0) (0))), (1, .int (zI (x1))), (2, .int (zI (x2))), (3, .int (zI (x3))), (4, .int (zI (x4))), (5, .int (zI (x5)))] → W p l e zm_O_copy s m args below meth c H locs 0 0 (MQ below (zQi B res S9) args s 0 0 B.2.2.2) (F0 m 0 ls []) := by
  intro x1 x2 x3 x4 x5 S nx1 nx2 nx3 nx4 nx5 hf H locs ls hW hS hl
  unfold zf_O_copy at hf
  refine lv_iload_n C.1 C.2.1 zd_O_copy_0 rfl (lv_at hl 1 rfl) ?_
  obtain ⟨a1, S2, ea1, hf⟩ := zbd_some hf
  refine zcSi (As := [.int (zI (x1))]) (rest := []) C hK hSt hW hS (zc_O_isShelf hap x1 S nx1 ea1) zq_O_isShelf zk_612 ⟨rfl, rfl, by decide, by decide⟩ ⟨Nat.zero_le _, Nat.zero_le _⟩ rfl hl.1 rfl (lv_room (Nat.le_of_ble_eq_true rfl)) zd_O_copy_1 (fun na1 H locs hW hS => ?_)
  refine zr_if_eq (tgt := 14) C na1 zd_O_copy_4 (by decide) (fun c3 => ?_) (fun c3 => ?_)
  · rw [if_pos c3] at hf
    refine zr_iconst C zd_O_copy_14 ?_
    cases hf
    exact zre_i C hr hlk hK hW hS (znb rfl) zd_O_copy_15
  · rw [if_neg c3] at hf
    refine lv_iload_n C.1 C.2.1 zd_O_copy_7 rfl (lv_at hl 3 rfl) ?_
    obtain ⟨a4, S5, ea4, hf⟩ := zbd_some hf
    refine zcSi (As := [.int (zI (x3))]) (rest := []) C hK hSt hW hS (zc_O_isShelf hap x3 S2 nx3 ea4) zq_O_isShelf zk_612 ⟨rfl, rfl, by decide, by decide⟩ ⟨Nat.zero_le _, Nat.zero_le _⟩ rfl hl.1 rfl (lv_room (Nat.le_of_ble_eq_true rfl)) zd_O_copy_8 (fun na4 H locs hW hS => ?_)
    refine zr_if_ne (tgt := 16) C na4 zd_O_copy_11 (by decide) (fun c6 => ?_) (fun c6 => ?_)
    · rw [if_neg c6] at hf
      refine lv_aload_n C.1 C.2.1 zd_O_copy_16 rfl (lv_at hl 0 rfl) ?_
      refine zg_O_shelves (r := 0) C hK hW (zvd_3 (by decide) (by decide)) zk_497 zd_O_copy_17 ?_
      refine lv_iload_n C.1 C.2.1 zd_O_copy_20 rfl (lv_at hl 1 rfl) ?_
      obtain ⟨h7, hf⟩ := zck_some hf
      refine zaald (t0 := 3) C hK hW (zvd_3 (by decide) (by decide)) (fun f => ze_3_3 B f (0)) rfl rfl (by decide) h7 zd_O_copy_21 (a := B.2.1 2 (x1) (0)) (by rw [Int.toNat_of_nonneg h7.1]) ?_
      refine lv_astore (lv' := [(6, .ref (B.2.1 2 (x1) (0))), (0, .ref (B.2.1 3 (0) (0))), (1, .int (zI (x1))), (2, .int (zI (x2))), (3, .int (zI (x3))), (4, .int (zI (x4))), (5, .int (zI (x5)))]) C.1 C.2.1 zd_O_copy_22 hl (by decide) rfl (fun ls hl => ?_)
      refine lv_aload_n C.1 C.2.1 zd_O_copy_24 rfl (lv_at hl 1 rfl) ?_
      refine zg_O_shelves (r := 0) C hK hW (zvd_3 (by decide) (by decide)) zk_497 zd_O_copy_25 ?_
      refine lv_iload_n C.1 C.2.1 zd_O_copy_28 rfl (lv_at hl 4 rfl) ?_
      obtain ⟨h8, hf⟩ := zck_some hf
      refine zaald (t0 := 3) C hK hW (zvd_3 (by decide) (by decide)) (fun f => ze_3_3 B f (0)) rfl rfl (by decide) h8 zd_O_copy_29 (a := B.2.1 2 (x3) (0)) (by rw [Int.toNat_of_nonneg h8.1]) ?_
      refine lv_astore (lv' := [(7, .ref (B.2.1 2 (x3) (0))), (6, .ref (B.2.1 2 (x1) (0))), (0, .ref (B.2.1 3 (0) (0))), (1, .int (zI (x1))), (2, .int (zI (x2))), (3, .int (zI (x3))), (4, .int (zI (x4))), (5, .int (zI (x5)))]) C.1 C.2.1 zd_O_copy_30 hl (by decide) rfl (fun ls hl => ?_)
      refine lv_aload C.1 C.2.1 zd_O_copy_32 (lv_at hl 1 rfl) ?_
      refine zg_S_holds (r := x1) C hK hW (zvd_2 h7 (by decide)) zk_344 zd_O_copy_34 ?_
      refine zr_if_eq (tgt := 48) C (zWn hW _ _ _ _ rfl) zd_O_copy_37 (by decide) (fun c9 => ?_) (fun c9 => ?_)
      · rw [if_pos c9] at hf
        refine zr_bipush C zd_O_copy_48 (by decide) ?_
        cases hf
        exact zre_i C hr hlk hK hW hS (znb rfl) zd_O_copy_50
      · rw [if_neg c9] at hf
        refine lv_aload C.1 C.2.1 zd_O_copy_40 (lv_at hl 0 rfl) ?_
        refine zg_S_holds (r := x3) C hK hW (zvd_2 h8 (by decide)) zk_344 zd_O_copy_42 ?_
        refine zr_if_ne (tgt := 51) C (zWn hW _ _ _ _ rfl) zd_O_copy_45 (by decide) (fun c10 => ?_) (fun c10 => ?_)
        · rw [if_neg c10] at hf
          refine lv_aload C.1 C.2.1 zd_O_copy_51 (lv_at hl 1 rfl) ?_
          refine zg_S_holds (r := x1) C hK hW (zvd_2 h7 (by decide)) zk_344 zd_O_copy_53 ?_
          refine zr_iconst C zd_O_copy_56 ?_
          refine zr_icmp_ne (tgt := 82) C (zWn hW _ _ _ _ rfl) (znb rfl) zd_O_copy_57 (by decide) (fun c11 => ?_) (fun c11 => ?_)
          · rw [if_neg c11] at hf
            refine zr_bipush C zd_O_copy_82 (by decide) ?_
            cases hf
            exact zre_i C hr hlk hK hW hS (znb rfl) zd_O_copy_84
          · rw [if_pos c11] at hf
            refine lv_aload C.1 C.2.1 zd_O_copy_60 (lv_at hl 0 rfl) ?_
            refine zg_S_holds (r := x3) C hK hW (zvd_2 h8 (by decide)) zk_344 zd_O_copy_62 ?_
            refine zr_iconst C zd_O_copy_65 ?_
            refine zr_icmp_ne (tgt := 82) C (zWn hW _ _ _ _ rfl) (znb rfl) zd_O_copy_66 (by decide) (fun c12 => ?_) (fun c12 => ?_)
            · rw [if_neg c12] at hf
              refine zr_bipush C zd_O_copy_82 (by decide) ?_
              cases hf
              exact zre_i C hr hlk hK hW hS (znb rfl) zd_O_copy_84
            · rw [if_pos c12] at hf
              refine lv_aload C.1 C.2.1 zd_O_copy_69 (lv_at hl 1 rfl) ?_
              refine zg_S_sort (r := x1) C hK hW (zvd_2 h7 (by decide)) zk_352 zd_O_copy_71 ?_
              refine lv_aload C.1 C.2.1 zd_O_copy_74 (lv_at hl 0 rfl) ?_
              refine zg_S_sort (r := x3) C hK hW (zvd_2 h8 (by decide)) zk_352 zd_O_copy_76 ?_
              refine zr_icmp_eq (tgt := 85) C (zWn hW _ _ _ _ rfl) (zWn hW _ _ _ _ rfl) zd_O_copy_79 (by decide) (fun c13 => ?_) (fun c13 => ?_)
              · rw [if_pos c13] at hf
                refine lv_aload C.1 C.2.1 zd_O_copy_85 (lv_at hl 1 rfl) ?_
                refine lv_iload_n C.1 C.2.1 zd_O_copy_87 rfl (lv_at hl 4 rfl) ?_
                refine lv_iload C.1 C.2.1 zd_O_copy_88 (lv_at hl 7 rfl) ?_
                obtain ⟨a14, S15, ea14, hf⟩ := zbd_some hf
                refine zcVi (As := [.int (zI (x2)), .int (zI (x5))]) (rest := []) C hK hSt hW hS (zc_S_hasRun hap (x1) h7 x2 x5 S5 nx2 nx5 ea14) zq_S_hasRun zk_1157 (zrecv hK hW (zvd_2 h7 (by decide)) (ze_2_0 B _ (x1)) rfl) ⟨rfl, rfl, by decide, by decide⟩ ⟨Nat.zero_le _, Nat.zero_le _⟩ rfl hl.1 rfl (lv_room (Nat.le_of_ble_eq_true rfl)) zd_O_copy_90 (fun na14 H locs hW hS => ?_)
                refine zr_if_eq (tgt := 108) C na14 zd_O_copy_93 (by decide) (fun c16 => ?_) (fun c16 => ?_)
                · rw [if_pos c16] at hf
                  refine zr_bipush C zd_O_copy_108 (by decide) ?_
                  cases hf
                  exact zre_i C hr hlk hK hW hS (znb rfl) zd_O_copy_110
                · rw [if_neg c16] at hf
                  refine lv_aload C.1 C.2.1 zd_O_copy_96 (lv_at hl 0 rfl) ?_
                  refine lv_iload C.1 C.2.1 zd_O_copy_98 (lv_at hl 6 rfl) ?_
                  refine lv_iload C.1 C.2.1 zd_O_copy_100 (lv_at hl 7 rfl) ?_
                  obtain ⟨a17, S18, ea17, hf⟩ := zbd_some hf
                  refine zcVi (As := [.int (zI (x4)), .int (zI (x5))]) (rest := []) C hK hSt hW hS (zc_S_hasRun hap (x3) h8 x4 x5 S15 nx4 nx5 ea17) zq_S_hasRun zk_1157 (zrecv hK hW (zvd_2 h8 (by decide)) (ze_2_0 B _ (x3)) rfl) ⟨rfl, rfl, by decide, by decide⟩ ⟨Nat.zero_le _, Nat.zero_le _⟩ rfl hl.1 rfl (lv_room (Nat.le_of_ble_eq_true rfl)) zd_O_copy_102 (fun na17 H locs hW hS => ?_)
                  refine zr_if_ne (tgt := 111) C na17 zd_O_copy_105 (by decide) (fun c19 => ?_) (fun c19 => ?_)
                  · rw [if_neg c19] at hf
                    refine lv_aload C.1 C.2.1 zd_O_copy_111 (lv_at hl 1 rfl) ?_
                    refine zg_S_cell (r := x1) C hK hW (zvd_2 h7 (by decide)) zk_356 zd_O_copy_113 ?_
                    refine lv_iload_n C.1 C.2.1 zd_O_copy_116 rfl (lv_at hl 4 rfl) ?_
                    refine lv_aload C.1 C.2.1 zd_O_copy_117 (lv_at hl 0 rfl) ?_
                    refine zg_S_cell (r := x3) C hK hW (zvd_2 h8 (by decide)) zk_356 zd_O_copy_119 ?_
                    refine lv_iload C.1 C.2.1 zd_O_copy_122 (lv_at hl 6 rfl) ?_
                    refine lv_iload C.1 C.2.1 zd_O_copy_124 (lv_at hl 7 rfl) ?_
                    obtain ⟨h20, hf⟩ := zck_some hf
                    obtain ⟨S21, eS21, hf⟩ := zlt_some hf
                    refine zcopy C hK hap hW hS hl.1 (zvd_2 h7 (by decide)) (zvd_2 h8 (by decide)) (fun f => ze_2_1 B f (x1)) (fun f => ze_2_1 B f (x3)) (by decide) (by decide) rfl rfl h20 zk_1161 zk_735 zk_734 zk_18 (by decide) (Nat.le_of_ble_eq_true rfl) zd_O_copy_126 (fun H locs hW hS => ?_)
                    rw [eS21] at hW
                    refine lv_iload C.1 C.2.1 zd_O_copy_129 (lv_at hl 7 rfl) ?_
                    cases hf
                    exact zre_i C hr hlk hK hW hS nx5 zd_O_copy_131
                  · rw [if_pos c19] at hf
                    refine zr_bipush C zd_O_copy_108 (by decide) ?_
                    cases hf
                    exact zre_i C hr hlk hK hW hS (znb rfl) zd_O_copy_110
              · rw [if_neg c13] at hf
                refine zr_bipush C zd_O_copy_82 (by decide) ?_
                cases hf
                exact zre_i C hr hlk hK hW hS (znb rfl) zd_O_copy_84
        · rw [if_pos c10] at hf
          refine zr_bipush C zd_O_copy_48 (by decide) ?_
          cases hf
          exact zre_i C hr hlk hK hW hS (znb rfl) zd_O_copy_50
    · rw [if_pos c6] at hf
      refine zr_iconst C zd_O_copy_14 ?_
      cases hf
      exact zre_i C hr hlk hK hW hS (znb rfl) zd_O_copy_15

theorem zc_O_copy {l : Launch} {B : zB} (hap : zAp B) (x1 : Int) (x2 : Int) (x3 : Int) (x4 : Int) (x5 : Int) (S : Sg) (nx1 : zn x1) (nx2 : zn x2) (nx3 : zn x3) (nx4 : zn x4) (nx5 : zn x5) {res : Int} {S9 : Sg} (hf : zf_O_copy x1 x2 x3 x4 x5 S = some (res, S9)) : Met l zy_O_copy (Cond.code zy_O_copy zb_O_copy 8 (some .int) :: zT) zm_O_copy (zP B S [.ref (B.2.1 3 (0) (0)), .int (zI (x1)), .int (zI (x2)), .int (zI (x3)), .int (zI (x4)), .int (zI (x5))]) (zQi B res S9) 0 0 B.2.2.2 :=
  zmet (by decide) (Nat.le_of_ble_eq_true rfl) (fun p e s m args below meth c C hr hlk hK hSt hW ls hl => zw_O_copy C hr hlk hK hSt hap   x1 x2 x3 x4 x5 S nx1 nx2 nx3 nx4 nx5 hf _ _ _ hW va_S.rf hl)
/-! IslandOffice.weight(I)I -/
abbrev zy_O_weight : MethodName := ⟨"IslandOffice", "weight", "(I)I"⟩
abbrev zb_O_weight : ByteArray := prog_1_method_45_code
abbrev zm_O_weight : Room := { frames := 1, cells := 0, slots := 0, locals := 20 }
theorem zq_O_weight : zMy zy_O_weight zb_O_weight 3 (some .int) 1 := ⟨zk_1165, zk_1163, zk_1164, zk_1, by decide, by decide, by decide +kernel⟩
theorem zd_O_weight_0 : decode zb_O_weight 0 = .ok (.iload_n 1, 1) := by decide +kernel
theorem zd_O_weight_1 : decode zb_O_weight 1 = .ok (.invokestatic 151, 3) := by decide +kernel
theorem zd_O_weight_4 : decode zb_O_weight 4 = .ok (.ifCond .ne 5, 3) := by decide +kernel
theorem zd_O_weight_7 : decode zb_O_weight 7 = .ok (.iconst (-1), 1) := by decide +kernel
theorem zd_O_weight_8 : decode zb_O_weight 8 = .ok (.ireturn, 1) := by decide +kernel
theorem zd_O_weight_9 : decode zb_O_weight 9 = .ok (.aload_n 0, 1) := by decide +kernel
theorem zd_O_weight_10 : decode zb_O_weight 10 = .ok (.getfield 36, 3) := by decide +kernel
theorem zd_O_weight_13 : decode zb_O_weight 13 = .ok (.iload_n 1, 1) := by decide +kernel
theorem zd_O_weight_14 : decode zb_O_weight 14 = .ok (.aaload, 1) := by decide +kernel
theorem zd_O_weight_15 : decode zb_O_weight 15 = .ok (.astore_n 2, 1) := by decide +kernel
theorem zd_O_weight_16 : decode zb_O_weight 16 = .ok (.aload_n 2, 1) := by decide +kernel
theorem zd_O_weight_17 : decode zb_O_weight 17 = .ok (.getfield 154, 3) := by decide +kernel
theorem zd_O_weight_20 : decode zb_O_weight 20 = .ok (.ifCond .ne 6, 3) := by decide +kernel
theorem zd_O_weight_23 : decode zb_O_weight 23 = .ok (.bipush (-11), 2) := by decide +kernel
theorem zd_O_weight_25 : decode zb_O_weight 25 = .ok (.ireturn, 1) := by decide +kernel
theorem zd_O_weight_26 : decode zb_O_weight 26 = .ok (.aload_n 2, 1) := by decide +kernel
theorem zd_O_weight_27 : decode zb_O_weight 27 = .ok (.getfield 154, 3) := by decide +kernel
theorem zd_O_weight_30 : decode zb_O_weight 30 = .ok (.iconst 3, 1) := by decide +kernel
theorem zd_O_weight_31 : decode zb_O_weight 31 = .ok (.if_icmp .ne 8, 3) := by decide +kernel
theorem zd_O_weight_34 : decode zb_O_weight 34 = .ok (.bipush (-12), 2) := by decide +kernel
theorem zd_O_weight_36 : decode zb_O_weight 36 = .ok (.goto 7, 3) := by decide +kernel
theorem zd_O_weight_39 : decode zb_O_weight 39 = .ok (.aload_n 2, 1) := by decide +kernel
theorem zd_O_weight_40 : decode zb_O_weight 40 = .ok (.getfield 394, 3) := by decide +kernel
theorem zd_O_weight_43 : decode zb_O_weight 43 = .ok (.ireturn, 1) := by decide +kernel

def zf_O_weight (x1 : Int) (S : Sg) : Option (Int × Sg) :=
    zbd (zf_O_isShelf x1 S) fun a1 S2 => if a1 = 0 then (some (-1, S2)) else (zck (0 ≤ x1 ∧ x1 < 8) <| if (S2 2 x1 0 0) = 0 then (some (-11, S2)) else (if (S2 2 x1 0 0) = 3 then (some (-12, S2)) else (some (S2 2 x1 0 1, S2))))
set_option maxHeartbeats 4000000 in
set_option maxRecDepth 100000 in
theorem zw_O_weight {p : Program} {l : Launch} {e : Env} {s : State} {m : MethodId} {args : Array Value} {below : List Frame} {meth : Method} {c : Code} {B : zB} (C : CallFix p m c zb_O_weight 3 s args zT "IslandOffice") (hr : meth.sig.returnType = some .int) (hlk : meth.locks = false) (hK : zK B s) (hSt : zSt B s) (hap : zAp B) {res : Int} {S9 : Sg} : ∀ (x1 : Int) (S : Sg) (nx1 : zn x1), zf_O_weight x1 S = some (res, S9) → ∀ (H : Heap) (locs : List Loc) (ls : Array Slot), zW B S H → va_S B.2.2.2 s.heap H locs → lv_has ls 3 [(0, .ref (B.2.1 3 (0) (0))), (1, .int (zI (x1)))] → W p l e zm_O_weight s m args below meth c H locs 0 0 (MQ below (zQi B res S9) args s 0 0 B.2.2.2) (F0 m 0 ls []) := by
  intro x1 S nx1 hf H locs ls hW hS hl
  unfold zf_O_weight at hf
  refine lv_iload_n C.1 C.2.1 zd_O_weight_0 rfl (lv_at hl 1 rfl) ?_
  obtain ⟨a1, S2, ea1, hf⟩ := zbd_some hf
  refine zcSi (As := [.int (zI (x1))]) (rest := []) C hK hSt hW hS (zc_O_isShelf hap x1 S nx1 ea1) zq_O_isShelf zk_612 ⟨rfl, rfl, by decide, by decide⟩ ⟨Nat.zero_le _, Nat.zero_le _⟩ rfl hl.1 rfl (lv_room (Nat.le_of_ble_eq_true rfl)) zd_O_weight_1 (fun na1 H locs hW hS => ?_)
  refine zr_if_ne (tgt := 9) C na1 zd_O_weight_4 (by decide) (fun c3 => ?_) (fun c3 => ?_)
  · rw [if_neg c3] at hf
    refine lv_aload_n C.1 C.2.1 zd_O_weight_9 rfl (lv_at hl 0 rfl) ?_
    refine zg_O_shelves (r := 0) C hK hW (zvd_3 (by decide) (by decide)) zk_497 zd_O_weight_10 ?_
    refine lv_iload_n C.1 C.2.1 zd_O_weight_13 rfl (lv_at hl 1 rfl) ?_
    obtain ⟨h4, hf⟩ := zck_some hf
    refine zaald (t0 := 3) C hK hW (zvd_3 (by decide) (by decide)) (fun f => ze_3_3 B f (0)) rfl rfl (by decide) h4 zd_O_weight_14 (a := B.2.1 2 (x1) (0)) (by rw [Int.toNat_of_nonneg h4.1]) ?_
    refine lv_astore_n (lv' := [(2, .ref (B.2.1 2 (x1) (0))), (0, .ref (B.2.1 3 (0) (0))), (1, .int (zI (x1)))]) C.1 C.2.1 zd_O_weight_15 rfl hl (by decide) rfl (fun ls hl => ?_)
    refine lv_aload_n C.1 C.2.1 zd_O_weight_16 rfl (lv_at hl 0 rfl) ?_
    refine zg_S_holds (r := x1) C hK hW (zvd_2 h4 (by decide)) zk_344 zd_O_weight_17 ?_
    refine zr_if_ne (tgt := 26) C (zWn hW _ _ _ _ rfl) zd_O_weight_20 (by decide) (fun c5 => ?_) (fun c5 => ?_)
    · rw [if_neg c5] at hf
      refine lv_aload_n C.1 C.2.1 zd_O_weight_26 rfl (lv_at hl 0 rfl) ?_
      refine zg_S_holds (r := x1) C hK hW (zvd_2 h4 (by decide)) zk_344 zd_O_weight_27 ?_
      refine zr_iconst C zd_O_weight_30 ?_
      refine zr_icmp_ne (tgt := 39) C (zWn hW _ _ _ _ rfl) (znb rfl) zd_O_weight_31 (by decide) (fun c6 => ?_) (fun c6 => ?_)
      · rw [if_neg c6] at hf
        refine lv_aload_n C.1 C.2.1 zd_O_weight_39 rfl (lv_at hl 0 rfl) ?_
        refine zg_S_heft (r := x1) C hK hW (zvd_2 h4 (by decide)) zk_346 zd_O_weight_40 ?_
        cases hf
        exact zre_i C hr hlk hK hW hS (zWn hW _ _ _ _ rfl) zd_O_weight_43
      · rw [if_pos c6] at hf
        refine zr_bipush C zd_O_weight_34 (by decide) ?_
        refine lv_goto (tgt := 43) C.1 C.2.1 zd_O_weight_36 (by decide) ?_
        cases hf
        exact zre_i C hr hlk hK hW hS (znb rfl) zd_O_weight_43
    · rw [if_pos c5] at hf
      refine zr_bipush C zd_O_weight_23 (by decide) ?_
      cases hf
      exact zre_i C hr hlk hK hW hS (znb rfl) zd_O_weight_25
  · rw [if_pos c3] at hf
    refine zr_iconst C zd_O_weight_7 ?_
    cases hf
    exact zre_i C hr hlk hK hW hS (znb rfl) zd_O_weight_8

theorem zc_O_weight {l : Launch} {B : zB} (hap : zAp B) (x1 : Int) (S : Sg) (nx1 : zn x1) {res : Int} {S9 : Sg} (hf : zf_O_weight x1 S = some (res, S9)) : Met l zy_O_weight (Cond.code zy_O_weight zb_O_weight 3 (some .int) :: zT) zm_O_weight (zP B S [.ref (B.2.1 3 (0) (0)), .int (zI (x1))]) (zQi B res S9) 0 0 B.2.2.2 :=
  zmet (by decide) (Nat.le_of_ble_eq_true rfl) (fun p e s m args below meth c C hr hlk hK hSt hW ls hl => zw_O_weight C hr hlk hK hSt hap   x1 S nx1 hf _ _ _ hW va_S.rf hl)
/-! IslandOffice.toss(I)I -/
abbrev zy_O_toss : MethodName := ⟨"IslandOffice", "toss", "(I)I"⟩
abbrev zb_O_toss : ByteArray := prog_1_method_46_code
abbrev zm_O_toss : Room := { frames := 1, cells := 0, slots := 0, locals := 21 }
theorem zq_O_toss : zMy zy_O_toss zb_O_toss 3 (some .int) 1 := ⟨zk_1169, zk_1167, zk_1168, zk_1, by decide, by decide, by decide +kernel⟩
theorem zd_O_toss_0 : decode zb_O_toss 0 = .ok (.iload_n 1, 1) := by decide +kernel
theorem zd_O_toss_1 : decode zb_O_toss 1 = .ok (.invokestatic 151, 3) := by decide +kernel
theorem zd_O_toss_4 : decode zb_O_toss 4 = .ok (.ifCond .ne 5, 3) := by decide +kernel
theorem zd_O_toss_7 : decode zb_O_toss 7 = .ok (.iconst (-1), 1) := by decide +kernel
theorem zd_O_toss_8 : decode zb_O_toss 8 = .ok (.ireturn, 1) := by decide +kernel
theorem zd_O_toss_9 : decode zb_O_toss 9 = .ok (.aload_n 0, 1) := by decide +kernel
theorem zd_O_toss_10 : decode zb_O_toss 10 = .ok (.getfield 36, 3) := by decide +kernel
theorem zd_O_toss_13 : decode zb_O_toss 13 = .ok (.iload_n 1, 1) := by decide +kernel
theorem zd_O_toss_14 : decode zb_O_toss 14 = .ok (.aaload, 1) := by decide +kernel
theorem zd_O_toss_15 : decode zb_O_toss 15 = .ok (.astore_n 2, 1) := by decide +kernel
theorem zd_O_toss_16 : decode zb_O_toss 16 = .ok (.aload_n 2, 1) := by decide +kernel
theorem zd_O_toss_17 : decode zb_O_toss 17 = .ok (.getfield 154, 3) := by decide +kernel
theorem zd_O_toss_20 : decode zb_O_toss 20 = .ok (.ifCond .ne 6, 3) := by decide +kernel
theorem zd_O_toss_23 : decode zb_O_toss 23 = .ok (.bipush (-11), 2) := by decide +kernel
theorem zd_O_toss_25 : decode zb_O_toss 25 = .ok (.ireturn, 1) := by decide +kernel
theorem zd_O_toss_26 : decode zb_O_toss 26 = .ok (.aload_n 2, 1) := by decide +kernel
theorem zd_O_toss_27 : decode zb_O_toss 27 = .ok (.getfield 154, 3) := by decide +kernel
theorem zd_O_toss_30 : decode zb_O_toss 30 = .ok (.iconst 3, 1) := by decide +kernel
theorem zd_O_toss_31 : decode zb_O_toss 31 = .ok (.if_icmp .ne 6, 3) := by decide +kernel
theorem zd_O_toss_34 : decode zb_O_toss 34 = .ok (.bipush (-12), 2) := by decide +kernel
theorem zd_O_toss_36 : decode zb_O_toss 36 = .ok (.ireturn, 1) := by decide +kernel
theorem zd_O_toss_37 : decode zb_O_toss 37 = .ok (.aload_n 2, 1) := by decide +kernel
theorem zd_O_toss_38 : decode zb_O_toss 38 = .ok (.getfield 154, 3) := by decide +kernel
theorem zd_O_toss_41 : decode zb_O_toss 41 = .ok (.iconst 2, 1) := by decide +kernel
theorem zd_O_toss_42 : decode zb_O_toss 42 = .ok (.if_icmp .ne 42, 3) := by decide +kernel
theorem zd_O_toss_45 : decode zb_O_toss 45 = .ok (.aload_n 0, 1) := by decide +kernel
theorem zd_O_toss_46 : decode zb_O_toss 46 = .ok (.getfield 16, 3) := by decide +kernel
theorem zd_O_toss_49 : decode zb_O_toss 49 = .ok (.getfield 178, 3) := by decide +kernel
theorem zd_O_toss_52 : decode zb_O_toss 52 = .ok (.aload_n 2, 1) := by decide +kernel
theorem zd_O_toss_53 : decode zb_O_toss 53 = .ok (.getfield 397, 3) := by decide +kernel
theorem zd_O_toss_56 : decode zb_O_toss 56 = .ok (.invokevirtual 188, 3) := by decide +kernel
theorem zd_O_toss_59 : decode zb_O_toss 59 = .ok (.ifCond .eq 25, 3) := by decide +kernel
theorem zd_O_toss_62 : decode zb_O_toss 62 = .ok (.aload_n 0, 1) := by decide +kernel
theorem zd_O_toss_63 : decode zb_O_toss 63 = .ok (.getfield 16, 3) := by decide +kernel
theorem zd_O_toss_66 : decode zb_O_toss 66 = .ok (.getfield 178, 3) := by decide +kernel
theorem zd_O_toss_69 : decode zb_O_toss 69 = .ok (.getfield 189, 3) := by decide +kernel
theorem zd_O_toss_72 : decode zb_O_toss 72 = .ok (.aload_n 2, 1) := by decide +kernel
theorem zd_O_toss_73 : decode zb_O_toss 73 = .ok (.getfield 397, 3) := by decide +kernel
theorem zd_O_toss_76 : decode zb_O_toss 76 = .ok (.iaload, 1) := by decide +kernel
theorem zd_O_toss_77 : decode zb_O_toss 77 = .ok (.iconst 1, 1) := by decide +kernel
theorem zd_O_toss_78 : decode zb_O_toss 78 = .ok (.if_icmp .ne 6, 3) := by decide +kernel
theorem zd_O_toss_81 : decode zb_O_toss 81 = .ok (.bipush (-15), 2) := by decide +kernel
theorem zd_O_toss_83 : decode zb_O_toss 83 = .ok (.ireturn, 1) := by decide +kernel
theorem zd_O_toss_84 : decode zb_O_toss 84 = .ok (.aload_n 2, 1) := by decide +kernel
theorem zd_O_toss_85 : decode zb_O_toss 85 = .ok (.getfield 400, 3) := by decide +kernel
theorem zd_O_toss_88 : decode zb_O_toss 88 = .ok (.ireturn, 1) := by decide +kernel

def zf_O_toss_84 (y2 : Int) (S : Sg) : Option (Int × Sg) :=
    some (S 2 y2 0 2, S)
set_option maxHeartbeats 4000000 in
set_option maxRecDepth 100000 in
theorem zw_O_toss_84 {p : Program} {l : Launch} {e : Env} {s : State} {m : MethodId} {args : Array Value} {below : List Frame} {meth : Method} {c : Code} {B : zB} (C : CallFix p m c zb_O_toss 3 s args zT "IslandOffice") (hr : meth.sig.returnType = some .int) (hlk : meth.locks = false) (hK : zK B s) (hSt : zSt B s) (hap : zAp B) {res : Int} {S9 : Sg} : ∀ (y2 : Int) (S : Sg) (hy2 : 0 ≤ y2 ∧ y2 < 8), zf_O_toss_84 y2 S = some (res, S9) → ∀ (H : Heap) (locs : List Loc) (ls : Array Slot), zW B S H → va_S B.2.2.2 s.heap H locs → lv_has ls 3 [(2, .ref (B.2.1 2 (y2) (0)))] → W p l e zm_O_toss s m args below meth c H locs 0 0 (MQ below (zQi B res S9) args s 0 0 B.2.2.2) (F0 m 84 ls []) := by
  intro y2 S hy2 hf H locs ls hW hS hl
  unfold zf_O_toss_84 at hf
  refine lv_aload_n C.1 C.2.1 zd_O_toss_84 rfl (lv_at hl 0 rfl) ?_
  refine zg_S_failure (r := y2) C hK hW (zvd_2 hy2 (by decide)) zk_348 zd_O_toss_85 ?_
  cases hf
  exact zre_i C hr hlk hK hW hS (zWn hW _ _ _ _ rfl) zd_O_toss_88

def zf_O_toss (x1 : Int) (S : Sg) : Option (Int × Sg) :=
    zbd (zf_O_isShelf x1 S) fun a1 S2 => if a1 = 0 then (some (-1, S2)) else (zck (0 ≤ x1 ∧ x1 < 8) <| if (S2 2 x1 0 0) = 0 then (some (-11, S2)) else (if (S2 2 x1 0 0) = 3 then (some (-12, S2)) else (if (S2 2 x1 0 0) = 2 then (zbd (zf_L_has (0) (S2 2 x1 0 3) S2) fun a8 S9 => if a8 = 0 then (zf_O_toss_84 (x1) S9) else (zck (0 ≤ (S9 2 x1 0 3) ∧ (S9 2 x1 0 3) < 12) <| if (S9 0 0 21 (S9 2 x1 0 3)) = 1 then (some (-15, S9)) else (zf_O_toss_84 (x1) S9))) else (zf_O_toss_84 (x1) S2))))
set_option maxHeartbeats 4000000 in
set_option maxRecDepth 100000 in
theorem zw_O_toss {p : Program} {l : Launch} {e : Env} {s : State} {m : MethodId} {args : Array Value} {below : List Frame} {meth : Method} {c : Code} {B : zB} (C : CallFix p m c zb_O_toss 3 s args zT "IslandOffice") (hr : meth.sig.returnType = some .int) (hlk : meth.locks = false) (hK : zK B s) (hSt : zSt B s) (hap : zAp B) {res : Int} {S9 : Sg} : ∀ (x1 : Int) (S : Sg) (nx1 : zn x1), zf_O_toss x1 S = some (res, S9) → ∀ (H : Heap) (locs : List Loc) (ls : Array Slot), zW B S H → va_S B.2.2.2 s.heap H locs → lv_has ls 3 [(0, .ref (B.2.1 3 (0) (0))), (1, .int (zI (x1)))] → W p l e zm_O_toss s m args below meth c H locs 0 0 (MQ below (zQi B res S9) args s 0 0 B.2.2.2) (F0 m 0 ls []) := by
  intro x1 S nx1 hf H locs ls hW hS hl
  unfold zf_O_toss at hf
  refine lv_iload_n C.1 C.2.1 zd_O_toss_0 rfl (lv_at hl 1 rfl) ?_
  obtain ⟨a1, S2, ea1, hf⟩ := zbd_some hf
  refine zcSi (As := [.int (zI (x1))]) (rest := []) C hK hSt hW hS (zc_O_isShelf hap x1 S nx1 ea1) zq_O_isShelf zk_612 ⟨rfl, rfl, by decide, by decide⟩ ⟨Nat.zero_le _, Nat.zero_le _⟩ rfl hl.1 rfl (lv_room (Nat.le_of_ble_eq_true rfl)) zd_O_toss_1 (fun na1 H locs hW hS => ?_)
  refine zr_if_ne (tgt := 9) C na1 zd_O_toss_4 (by decide) (fun c3 => ?_) (fun c3 => ?_)
  · rw [if_neg c3] at hf
    refine lv_aload_n C.1 C.2.1 zd_O_toss_9 rfl (lv_at hl 0 rfl) ?_
    refine zg_O_shelves (r := 0) C hK hW (zvd_3 (by decide) (by decide)) zk_497 zd_O_toss_10 ?_
    refine lv_iload_n C.1 C.2.1 zd_O_toss_13 rfl (lv_at hl 1 rfl) ?_
    obtain ⟨h4, hf⟩ := zck_some hf
    refine zaald (t0 := 3) C hK hW (zvd_3 (by decide) (by decide)) (fun f => ze_3_3 B f (0)) rfl rfl (by decide) h4 zd_O_toss_14 (a := B.2.1 2 (x1) (0)) (by rw [Int.toNat_of_nonneg h4.1]) ?_
    refine lv_astore_n (lv' := [(2, .ref (B.2.1 2 (x1) (0))), (0, .ref (B.2.1 3 (0) (0))), (1, .int (zI (x1)))]) C.1 C.2.1 zd_O_toss_15 rfl hl (by decide) rfl (fun ls hl => ?_)
    refine lv_aload_n C.1 C.2.1 zd_O_toss_16 rfl (lv_at hl 0 rfl) ?_
    refine zg_S_holds (r := x1) C hK hW (zvd_2 h4 (by decide)) zk_344 zd_O_toss_17 ?_
    refine zr_if_ne (tgt := 26) C (zWn hW _ _ _ _ rfl) zd_O_toss_20 (by decide) (fun c5 => ?_) (fun c5 => ?_)
    · rw [if_neg c5] at hf
      refine lv_aload_n C.1 C.2.1 zd_O_toss_26 rfl (lv_at hl 0 rfl) ?_
      refine zg_S_holds (r := x1) C hK hW (zvd_2 h4 (by decide)) zk_344 zd_O_toss_27 ?_
      refine zr_iconst C zd_O_toss_30 ?_
      refine zr_icmp_ne (tgt := 37) C (zWn hW _ _ _ _ rfl) (znb rfl) zd_O_toss_31 (by decide) (fun c6 => ?_) (fun c6 => ?_)
      · rw [if_neg c6] at hf
        refine lv_aload_n C.1 C.2.1 zd_O_toss_37 rfl (lv_at hl 0 rfl) ?_
        refine zg_S_holds (r := x1) C hK hW (zvd_2 h4 (by decide)) zk_344 zd_O_toss_38 ?_
        refine zr_iconst C zd_O_toss_41 ?_
        refine zr_icmp_ne (tgt := 84) C (zWn hW _ _ _ _ rfl) (znb rfl) zd_O_toss_42 (by decide) (fun c7 => ?_) (fun c7 => ?_)
        · rw [if_neg c7] at hf
          exact zw_O_toss_84 C hr hlk hK hSt hap   (x1) S2 h4 hf _ _ _ hW hS (lv_sub hl [0] rfl)
        · rw [if_pos c7] at hf
          refine lv_aload_n C.1 C.2.1 zd_O_toss_45 rfl (lv_at hl 1 rfl) ?_
          refine zg_O_now (r := 0) C hK hW (zvd_3 (by decide) (by decide)) zk_492 zd_O_toss_46 ?_
          refine zg_I_laws (r := 0) C hK hW (zvd_0 (by decide) (by decide)) zk_285 zd_O_toss_49 ?_
          refine lv_aload_n C.1 C.2.1 zd_O_toss_52 rfl (lv_at hl 0 rfl) ?_
          refine zg_S_number (r := x1) C hK hW (zvd_2 h4 (by decide)) zk_350 zd_O_toss_53 ?_
          obtain ⟨a8, S9, ea8, hf⟩ := zbd_some hf
          refine zcVi (As := [.int (zI (S2 2 x1 0 3))]) (rest := []) C hK hSt hW hS (zc_L_has hap (0) (by decide) (S2 2 x1 0 3) S2 (zWn hW _ _ _ _ rfl) ea8) zq_L_has zk_740 (zrecv hK hW (zvd_0 (by decide) (by decide)) (ze_0_16 B _ (0)) rfl) ⟨rfl, rfl, by decide, by decide⟩ ⟨Nat.zero_le _, Nat.zero_le _⟩ rfl hl.1 rfl (lv_room (Nat.le_of_ble_eq_true rfl)) zd_O_toss_56 (fun na8 H locs hW hS => ?_)
          refine zr_if_eq (tgt := 84) C na8 zd_O_toss_59 (by decide) (fun c10 => ?_) (fun c10 => ?_)
          · rw [if_pos c10] at hf
            exact zw_O_toss_84 C hr hlk hK hSt hap   (x1) S9 h4 hf _ _ _ hW hS (lv_sub hl [0] rfl)
          · rw [if_neg c10] at hf
            refine lv_aload_n C.1 C.2.1 zd_O_toss_62 rfl (lv_at hl 1 rfl) ?_
            refine zg_O_now (r := 0) C hK hW (zvd_3 (by decide) (by decide)) zk_492 zd_O_toss_63 ?_
            refine zg_I_laws (r := 0) C hK hW (zvd_0 (by decide) (by decide)) zk_285 zd_O_toss_66 ?_
            refine zg_L_isVoid (r := 0) C hK hW (zvd_0 (by decide) (by decide)) zk_128 zd_O_toss_69 ?_
            refine lv_aload_n C.1 C.2.1 zd_O_toss_72 rfl (lv_at hl 0 rfl) ?_
            refine zg_S_number (r := x1) C hK hW (zvd_2 h4 (by decide)) zk_350 zd_O_toss_73 ?_
            obtain ⟨h11, hf⟩ := zck_some hf
            refine ziald C hK hW (zvd_0 (by decide) (by decide)) (fun f => ze_0_21 B f (0)) (by decide) h11 zd_O_toss_76 ?_
            refine zr_iconst C zd_O_toss_77 ?_
            refine zr_icmp_ne (tgt := 84) C (zWn hW _ _ _ _ rfl) (znb rfl) zd_O_toss_78 (by decide) (fun c12 => ?_) (fun c12 => ?_)
            · rw [if_neg c12] at hf
              exact zw_O_toss_84 C hr hlk hK hSt hap   (x1) S9 h4 hf _ _ _ hW hS (lv_sub hl [0] rfl)
            · rw [if_pos c12] at hf
              refine zr_bipush C zd_O_toss_81 (by decide) ?_
              cases hf
              exact zre_i C hr hlk hK hW hS (znb rfl) zd_O_toss_83
      · rw [if_pos c6] at hf
        refine zr_bipush C zd_O_toss_34 (by decide) ?_
        cases hf
        exact zre_i C hr hlk hK hW hS (znb rfl) zd_O_toss_36
    · rw [if_pos c5] at hf
      refine zr_bipush C zd_O_toss_23 (by decide) ?_
      cases hf
      exact zre_i C hr hlk hK hW hS (znb rfl) zd_O_toss_25
  · rw [if_pos c3] at hf
    refine zr_iconst C zd_O_toss_7 ?_
    cases hf
    exact zre_i C hr hlk hK hW hS (znb rfl) zd_O_toss_8

theorem zc_O_toss {l : Launch} {B : zB} (hap : zAp B) (x1 : Int) (S : Sg) (nx1 : zn x1) {res : Int} {S9 : Sg} (hf : zf_O_toss x1 S = some (res, S9)) : Met l zy_O_toss (Cond.code zy_O_toss zb_O_toss 3 (some .int) :: zT) zm_O_toss (zP B S [.ref (B.2.1 3 (0) (0)), .int (zI (x1))]) (zQi B res S9) 0 0 B.2.2.2 :=
  zmet (by decide) (Nat.le_of_ble_eq_true rfl) (fun p e s m args below meth c C hr hlk hK hSt hW ls hl => zw_O_toss C hr hlk hK hSt hap   x1 S nx1 hf _ _ _ hW va_S.rf hl)
/-! IslandOfficeModel.thrown()I -/
abbrev zy_M_thrown : MethodName := ⟨"IslandOfficeModel", "thrown", "()I"⟩
abbrev zb_M_thrown : ByteArray := prog_14_method_2_code
abbrev zm_M_thrown : Room := { frames := 0, cells := 0, slots := 0, locals := 0 }
theorem zq_M_thrown : zMy zy_M_thrown zb_M_thrown 1 (some .int) 0 := ⟨zk_1549, zk_1547, zk_1548, zk_14, by decide, by decide, by decide +kernel⟩
theorem zd_M_thrown_0 : decode zb_M_thrown 0 = .ok (.aload_n 0, 1) := by decide +kernel
theorem zd_M_thrown_1 : decode zb_M_thrown 1 = .ok (.getfield 46, 3) := by decide +kernel
theorem zd_M_thrown_4 : decode zb_M_thrown 4 = .ok (.ireturn, 1) := by decide +kernel

def zf_M_thrown (S : Sg) : Option (Int × Sg) :=
    some (S 9 0 0 4, S)
set_option maxHeartbeats 4000000 in
set_option maxRecDepth 100000 in
theorem zw_M_thrown {p : Program} {l : Launch} {e : Env} {s : State} {m : MethodId} {args : Array Value} {below : List Frame} {meth : Method} {c : Code} {B : zB} (C : CallFix p m c zb_M_thrown 1 s args zT "IslandOfficeModel") (hr : meth.sig.returnType = some .int) (hlk : meth.locks = false) (hK : zK B s) (hSt : zSt B s) (hap : zAp B) {res : Int} {S9 : Sg} : ∀  (S : Sg) , zf_M_thrown  S = some (res, S9) → ∀ (H : Heap) (locs : List Loc) (ls : Array Slot), zW B S H → va_S B.2.2.2 s.heap H locs → lv_has ls 1 [(0, .ref (B.2.1 9 (0) (0)))] → W p l e zm_M_thrown s m args below meth c H locs 0 0 (MQ below (zQi B res S9) args s 0 0 B.2.2.2) (F0 m 0 ls []) := by
  intro S hf H locs ls hW hS hl
  unfold zf_M_thrown at hf
  refine lv_aload_n C.1 C.2.1 zd_M_thrown_0 rfl (lv_at hl 0 rfl) ?_
  refine zg_M_thrown (r := 0) C hK hW (zvd_9 (by decide) (by decide)) zk_1504 zd_M_thrown_1 ?_
  cases hf
  exact zre_i C hr hlk hK hW hS (zWn hW _ _ _ _ rfl) zd_M_thrown_4

theorem zc_M_thrown {l : Launch} {B : zB} (hap : zAp B) (S : Sg) {res : Int} {S9 : Sg} (hf : zf_M_thrown  S = some (res, S9)) : Met l zy_M_thrown (Cond.code zy_M_thrown zb_M_thrown 1 (some .int) :: zT) zm_M_thrown (zP B S [.ref (B.2.1 9 (0) (0))]) (zQi B res S9) 0 0 B.2.2.2 :=
  zmet (by decide) (Nat.le_of_ble_eq_true rfl) (fun p e s m args below meth c C hr hlk hK hSt hW ls hl => zw_M_thrown C hr hlk hK hSt hap    S  hf _ _ _ hW va_S.rf hl)
/-! IslandOfficeModel.comes(IIIII)I -/
abbrev zy_M_comes : MethodName := ⟨"IslandOfficeModel", "comes", "(IIIII)I"⟩
abbrev zb_M_comes : ByteArray := prog_14_method_9_code
abbrev zm_M_comes : Room := { frames := 0, cells := 0, slots := 0, locals := 0 }
theorem zq_M_comes : zMy zy_M_comes zb_M_comes 7 (some .int) 5 := ⟨zk_1571, zk_1570, zs_44, zk_14, by decide, by decide, by decide +kernel⟩
theorem zd_M_comes_0 : decode zb_M_comes 0 = .ok (.aload_n 0, 1) := by decide +kernel
theorem zd_M_comes_1 : decode zb_M_comes 1 = .ok (.getfield 10, 3) := by decide +kernel
theorem zd_M_comes_4 : decode zb_M_comes 4 = .ok (.dup, 1) := by decide +kernel
theorem zd_M_comes_5 : decode zb_M_comes 5 = .ok (.getfield 50, 3) := by decide +kernel
theorem zd_M_comes_8 : decode zb_M_comes 8 = .ok (.dup_x1, 1) := by decide +kernel
theorem zd_M_comes_9 : decode zb_M_comes 9 = .ok (.iconst 1, 1) := by decide +kernel
theorem zd_M_comes_10 : decode zb_M_comes 10 = .ok (.iadd, 1) := by decide +kernel
theorem zd_M_comes_11 : decode zb_M_comes 11 = .ok (.putfield 50, 3) := by decide +kernel
theorem zd_M_comes_14 : decode zb_M_comes 14 = .ok (.istore 6, 2) := by decide +kernel
theorem zd_M_comes_16 : decode zb_M_comes 16 = .ok (.aload_n 0, 1) := by decide +kernel
theorem zd_M_comes_17 : decode zb_M_comes 17 = .ok (.getfield 10, 3) := by decide +kernel
theorem zd_M_comes_20 : decode zb_M_comes 20 = .ok (.getfield 60, 3) := by decide +kernel
theorem zd_M_comes_23 : decode zb_M_comes 23 = .ok (.iload 6, 2) := by decide +kernel
theorem zd_M_comes_25 : decode zb_M_comes 25 = .ok (.iload_n 1, 1) := by decide +kernel
theorem zd_M_comes_26 : decode zb_M_comes 26 = .ok (.iastore, 1) := by decide +kernel
theorem zd_M_comes_27 : decode zb_M_comes 27 = .ok (.aload_n 0, 1) := by decide +kernel
theorem zd_M_comes_28 : decode zb_M_comes 28 = .ok (.getfield 10, 3) := by decide +kernel
theorem zd_M_comes_31 : decode zb_M_comes 31 = .ok (.getfield 63, 3) := by decide +kernel
theorem zd_M_comes_34 : decode zb_M_comes 34 = .ok (.iload 6, 2) := by decide +kernel
theorem zd_M_comes_36 : decode zb_M_comes 36 = .ok (.iload_n 2, 1) := by decide +kernel
theorem zd_M_comes_37 : decode zb_M_comes 37 = .ok (.iastore, 1) := by decide +kernel
theorem zd_M_comes_38 : decode zb_M_comes 38 = .ok (.aload_n 0, 1) := by decide +kernel
theorem zd_M_comes_39 : decode zb_M_comes 39 = .ok (.getfield 10, 3) := by decide +kernel
theorem zd_M_comes_42 : decode zb_M_comes 42 = .ok (.getfield 66, 3) := by decide +kernel
theorem zd_M_comes_45 : decode zb_M_comes 45 = .ok (.iload 6, 2) := by decide +kernel
theorem zd_M_comes_47 : decode zb_M_comes 47 = .ok (.iload_n 3, 1) := by decide +kernel
theorem zd_M_comes_48 : decode zb_M_comes 48 = .ok (.iastore, 1) := by decide +kernel
theorem zd_M_comes_49 : decode zb_M_comes 49 = .ok (.aload_n 0, 1) := by decide +kernel
theorem zd_M_comes_50 : decode zb_M_comes 50 = .ok (.getfield 10, 3) := by decide +kernel
theorem zd_M_comes_53 : decode zb_M_comes 53 = .ok (.getfield 69, 3) := by decide +kernel
theorem zd_M_comes_56 : decode zb_M_comes 56 = .ok (.iload 6, 2) := by decide +kernel
theorem zd_M_comes_58 : decode zb_M_comes 58 = .ok (.iload 4, 2) := by decide +kernel
theorem zd_M_comes_60 : decode zb_M_comes 60 = .ok (.iastore, 1) := by decide +kernel
theorem zd_M_comes_61 : decode zb_M_comes 61 = .ok (.aload_n 0, 1) := by decide +kernel
theorem zd_M_comes_62 : decode zb_M_comes 62 = .ok (.getfield 10, 3) := by decide +kernel
theorem zd_M_comes_65 : decode zb_M_comes 65 = .ok (.getfield 72, 3) := by decide +kernel
theorem zd_M_comes_68 : decode zb_M_comes 68 = .ok (.iload 6, 2) := by decide +kernel
theorem zd_M_comes_70 : decode zb_M_comes 70 = .ok (.iconst 0, 1) := by decide +kernel
theorem zd_M_comes_71 : decode zb_M_comes 71 = .ok (.iastore, 1) := by decide +kernel
theorem zd_M_comes_72 : decode zb_M_comes 72 = .ok (.aload_n 0, 1) := by decide +kernel
theorem zd_M_comes_73 : decode zb_M_comes 73 = .ok (.getfield 10, 3) := by decide +kernel
theorem zd_M_comes_76 : decode zb_M_comes 76 = .ok (.getfield 75, 3) := by decide +kernel
theorem zd_M_comes_79 : decode zb_M_comes 79 = .ok (.iload 6, 2) := by decide +kernel
theorem zd_M_comes_81 : decode zb_M_comes 81 = .ok (.iload 5, 2) := by decide +kernel
theorem zd_M_comes_83 : decode zb_M_comes 83 = .ok (.iastore, 1) := by decide +kernel
theorem zd_M_comes_84 : decode zb_M_comes 84 = .ok (.aload_n 0, 1) := by decide +kernel
theorem zd_M_comes_85 : decode zb_M_comes 85 = .ok (.getfield 10, 3) := by decide +kernel
theorem zd_M_comes_88 : decode zb_M_comes 88 = .ok (.getfield 78, 3) := by decide +kernel
theorem zd_M_comes_91 : decode zb_M_comes 91 = .ok (.iload 6, 2) := by decide +kernel
theorem zd_M_comes_93 : decode zb_M_comes 93 = .ok (.iconst 0, 1) := by decide +kernel
theorem zd_M_comes_94 : decode zb_M_comes 94 = .ok (.iastore, 1) := by decide +kernel
theorem zd_M_comes_95 : decode zb_M_comes 95 = .ok (.aload_n 0, 1) := by decide +kernel
theorem zd_M_comes_96 : decode zb_M_comes 96 = .ok (.getfield 10, 3) := by decide +kernel
theorem zd_M_comes_99 : decode zb_M_comes 99 = .ok (.getfield 81, 3) := by decide +kernel
theorem zd_M_comes_102 : decode zb_M_comes 102 = .ok (.iload 6, 2) := by decide +kernel
theorem zd_M_comes_104 : decode zb_M_comes 104 = .ok (.bipush (-2), 2) := by decide +kernel
theorem zd_M_comes_106 : decode zb_M_comes 106 = .ok (.iastore, 1) := by decide +kernel
theorem zd_M_comes_107 : decode zb_M_comes 107 = .ok (.aload_n 0, 1) := by decide +kernel
theorem zd_M_comes_108 : decode zb_M_comes 108 = .ok (.getfield 10, 3) := by decide +kernel
theorem zd_M_comes_111 : decode zb_M_comes 111 = .ok (.getfield 84, 3) := by decide +kernel
theorem zd_M_comes_114 : decode zb_M_comes 114 = .ok (.iload 6, 2) := by decide +kernel
theorem zd_M_comes_116 : decode zb_M_comes 116 = .ok (.iconst 0, 1) := by decide +kernel
theorem zd_M_comes_117 : decode zb_M_comes 117 = .ok (.iastore, 1) := by decide +kernel
theorem zd_M_comes_118 : decode zb_M_comes 118 = .ok (.iload 6, 2) := by decide +kernel
theorem zd_M_comes_120 : decode zb_M_comes 120 = .ok (.ireturn, 1) := by decide +kernel

def zf_M_comes (x1 : Int) (x2 : Int) (x3 : Int) (x4 : Int) (x5 : Int) (S : Sg) : Option (Int × Sg) :=
    zlt (zu S 5 0 0 1 (zw ((S 5 0 0 1) + 1))) fun S1 => zlt (S 5 0 0 1) fun v3 => zck (0 ≤ v3 ∧ v3 < 40) <| zlt (zu S1 5 0 1 v3 x1) fun S5 => zlt (zu S5 5 0 2 v3 x2) fun S6 => zlt (zu S6 5 0 3 v3 x3) fun S7 => zlt (zu S7 5 0 4 v3 x4) fun S8 => zlt (zu S8 5 0 5 v3 0) fun S9 => zlt (zu S9 5 0 6 v3 x5) fun S10 => zlt (zu S10 5 0 7 v3 0) fun S11 => zlt (zu S11 5 0 8 v3 (-2)) fun S12 => zlt (zu S12 5 0 9 v3 0) fun S13 => some (v3, S13)
set_option maxHeartbeats 4000000 in
set_option maxRecDepth 100000 in
theorem zw_M_comes {p : Program} {l : Launch} {e : Env} {s : State} {m : MethodId} {args : Array Value} {below : List Frame} {meth : Method} {c : Code} {B : zB} (C : CallFix p m c zb_M_comes 7 s args zT "IslandOfficeModel") (hr : meth.sig.returnType = some .int) (hlk : meth.locks = false) (hK : zK B s) (hSt : zSt B s) (hap : zAp B) {res : Int} {S9 : Sg} : ∀ (x1 : Int) (x2 : Int) (x3 : Int) (x4 : Int) (x5 : Int) (S : Sg) (nx1 : zn x1) (nx2 : zn x2) (nx3 : zn x3) (nx4 : zn x4) (nx5 : zn x5), zf_M_comes x1 x2 x3 x4 x5 S = some (res, S9) → ∀ (H : Heap) (locs : List Loc) (ls : Array Slot), zW B S H → va_S B.2.2.2 s.heap H locs → lv_has ls 7 [(0, .ref (B.2.1 9 (0) (0))), (1, .int (zI (x1))), (2, .int (zI (x2))), (3, .int (zI (x3))), (4, .int (zI (x4))), (5, .int (zI (x5)))] → W p l e zm_M_comes s m args below meth c H locs 0 0 (MQ below (zQi B res S9) args s 0 0 B.2.2.2) (F0 m 0 ls []) := by
  intro x1 x2 x3 x4 x5 S nx1 nx2 nx3 nx4 nx5 hf H locs ls hW hS hl
  unfold zf_M_comes at hf
  refine lv_aload_n C.1 C.2.1 zd_M_comes_0 rfl (lv_at hl 0 rfl) ?_
  refine zg_M_world (r := 0) C hK hW (zvd_9 (by decide) (by decide)) zk_1500 zd_M_comes_1 ?_
  refine lv_dup C.1 C.2.1 zd_M_comes_4 rfl ?_
  refine zg_W_people (r := 0) C hK hW (zvd_5 (by decide) (by decide)) zk_1278 zd_M_comes_5 ?_
  refine lv_dup_x1 C.1 C.2.1 zd_M_comes_8 rfl rfl ?_
  refine zr_iconst C zd_M_comes_9 ?_
  refine zr_iadd C zd_M_comes_10 ?_
  have w2 : zn (S 5 0 0 1) := (zWn hW _ _ _ _ rfl)
  obtain ⟨S1, eS1, hf⟩ := zlt_some hf
  refine zp_W_people (r := 0) C hK hap hW hS (zvd_5 (by decide) (by decide)) zk_1278 (zn_w _) zd_M_comes_11 (fun H locs hW hS => ?_)
  rw [eS1] at hW
  obtain ⟨v3, ev3, hf⟩ := zlt_some hf
  have nv3 : zn v3 := by rw [← ev3]; exact w2
  rw [ev3]
  refine lv_istore (lv' := [(6, .int (zI (v3))), (0, .ref (B.2.1 9 (0) (0))), (1, .int (zI (x1))), (2, .int (zI (x2))), (3, .int (zI (x3))), (4, .int (zI (x4))), (5, .int (zI (x5)))]) C.1 C.2.1 zd_M_comes_14 hl (by decide) rfl (fun ls hl => ?_)
  refine lv_aload_n C.1 C.2.1 zd_M_comes_16 rfl (lv_at hl 1 rfl) ?_
  refine zg_M_world (r := 0) C hK hW (zvd_9 (by decide) (by decide)) zk_1500 zd_M_comes_17 ?_
  refine zg_W_birth (r := 0) C hK hW (zvd_5 (by decide) (by decide)) zk_1280 zd_M_comes_20 ?_
  refine lv_iload C.1 C.2.1 zd_M_comes_23 (lv_at hl 0 rfl) ?_
  refine lv_iload_n C.1 C.2.1 zd_M_comes_25 rfl (lv_at hl 2 rfl) ?_
  obtain ⟨h4, hf⟩ := zck_some hf
  obtain ⟨S5, eS5, hf⟩ := zlt_some hf
  refine ziast C hK hap hW hS (zvd_5 (by decide) (by decide)) (fun f => ze_5_1 B f (0)) (by decide) rfl nx1 h4 zd_M_comes_26 (fun H locs hW hS => ?_)
  rw [eS5] at hW
  refine lv_aload_n C.1 C.2.1 zd_M_comes_27 rfl (lv_at hl 1 rfl) ?_
  refine zg_M_world (r := 0) C hK hW (zvd_9 (by decide) (by decide)) zk_1500 zd_M_comes_28 ?_
  refine zg_W_house (r := 0) C hK hW (zvd_5 (by decide) (by decide)) zk_1282 zd_M_comes_31 ?_
  refine lv_iload C.1 C.2.1 zd_M_comes_34 (lv_at hl 0 rfl) ?_
  refine lv_iload_n C.1 C.2.1 zd_M_comes_36 rfl (lv_at hl 3 rfl) ?_
  obtain ⟨S6, eS6, hf⟩ := zlt_some hf
  refine ziast C hK hap hW hS (zvd_5 (by decide) (by decide)) (fun f => ze_5_2 B f (0)) (by decide) rfl nx2 h4 zd_M_comes_37 (fun H locs hW hS => ?_)
  rw [eS6] at hW
  refine lv_aload_n C.1 C.2.1 zd_M_comes_38 rfl (lv_at hl 1 rfl) ?_
  refine zg_M_world (r := 0) C hK hW (zvd_9 (by decide) (by decide)) zk_1500 zd_M_comes_39 ?_
  refine zg_W_mother (r := 0) C hK hW (zvd_5 (by decide) (by decide)) zk_1284 zd_M_comes_42 ?_
  refine lv_iload C.1 C.2.1 zd_M_comes_45 (lv_at hl 0 rfl) ?_
  refine lv_iload_n C.1 C.2.1 zd_M_comes_47 rfl (lv_at hl 4 rfl) ?_
  obtain ⟨S7, eS7, hf⟩ := zlt_some hf
  refine ziast C hK hap hW hS (zvd_5 (by decide) (by decide)) (fun f => ze_5_3 B f (0)) (by decide) rfl nx3 h4 zd_M_comes_48 (fun H locs hW hS => ?_)
  rw [eS7] at hW
  refine lv_aload_n C.1 C.2.1 zd_M_comes_49 rfl (lv_at hl 1 rfl) ?_
  refine zg_M_world (r := 0) C hK hW (zvd_9 (by decide) (by decide)) zk_1500 zd_M_comes_50 ?_
  refine zg_W_skills (r := 0) C hK hW (zvd_5 (by decide) (by decide)) zk_1286 zd_M_comes_53 ?_
  refine lv_iload C.1 C.2.1 zd_M_comes_56 (lv_at hl 0 rfl) ?_
  refine lv_iload C.1 C.2.1 zd_M_comes_58 (lv_at hl 5 rfl) ?_
  obtain ⟨S8, eS8, hf⟩ := zlt_some hf
  refine ziast C hK hap hW hS (zvd_5 (by decide) (by decide)) (fun f => ze_5_4 B f (0)) (by decide) rfl nx4 h4 zd_M_comes_60 (fun H locs hW hS => ?_)
  rw [eS8] at hW
  refine lv_aload_n C.1 C.2.1 zd_M_comes_61 rfl (lv_at hl 1 rfl) ?_
  refine zg_M_world (r := 0) C hK hW (zvd_9 (by decide) (by decide)) zk_1500 zd_M_comes_62 ?_
  refine zg_W_state (r := 0) C hK hW (zvd_5 (by decide) (by decide)) zk_1288 zd_M_comes_65 ?_
  refine lv_iload C.1 C.2.1 zd_M_comes_68 (lv_at hl 0 rfl) ?_
  refine zr_iconst C zd_M_comes_70 ?_
  obtain ⟨S9, eS9, hf⟩ := zlt_some hf
  refine ziast C hK hap hW hS (zvd_5 (by decide) (by decide)) (fun f => ze_5_5 B f (0)) (by decide) rfl (znb rfl) h4 zd_M_comes_71 (fun H locs hW hS => ?_)
  rw [eS9] at hW
  refine lv_aload_n C.1 C.2.1 zd_M_comes_72 rfl (lv_at hl 1 rfl) ?_
  refine zg_M_world (r := 0) C hK hW (zvd_9 (by decide) (by decide)) zk_1500 zd_M_comes_73 ?_
  refine zg_W_end (r := 0) C hK hW (zvd_5 (by decide) (by decide)) zk_1290 zd_M_comes_76 ?_
  refine lv_iload C.1 C.2.1 zd_M_comes_79 (lv_at hl 0 rfl) ?_
  refine lv_iload C.1 C.2.1 zd_M_comes_81 (lv_at hl 6 rfl) ?_
  obtain ⟨S10, eS10, hf⟩ := zlt_some hf
  refine ziast C hK hap hW hS (zvd_5 (by decide) (by decide)) (fun f => ze_5_6 B f (0)) (by decide) rfl nx5 h4 zd_M_comes_83 (fun H locs hW hS => ?_)
  rw [eS10] at hW
  refine lv_aload_n C.1 C.2.1 zd_M_comes_84 rfl (lv_at hl 1 rfl) ?_
  refine zg_M_world (r := 0) C hK hW (zvd_9 (by decide) (by decide)) zk_1500 zd_M_comes_85 ?_
  refine zg_W_discontent (r := 0) C hK hW (zvd_5 (by decide) (by decide)) zk_1292 zd_M_comes_88 ?_
  refine lv_iload C.1 C.2.1 zd_M_comes_91 (lv_at hl 0 rfl) ?_
  refine zr_iconst C zd_M_comes_93 ?_
  obtain ⟨S11, eS11, hf⟩ := zlt_some hf
  refine ziast C hK hap hW hS (zvd_5 (by decide) (by decide)) (fun f => ze_5_7 B f (0)) (by decide) rfl (znb rfl) h4 zd_M_comes_94 (fun H locs hW hS => ?_)
  rw [eS11] at hW
  refine lv_aload_n C.1 C.2.1 zd_M_comes_95 rfl (lv_at hl 1 rfl) ?_
  refine zg_M_world (r := 0) C hK hW (zvd_9 (by decide) (by decide)) zk_1500 zd_M_comes_96 ?_
  refine zg_W_post (r := 0) C hK hW (zvd_5 (by decide) (by decide)) zk_1294 zd_M_comes_99 ?_
  refine lv_iload C.1 C.2.1 zd_M_comes_102 (lv_at hl 0 rfl) ?_
  refine zr_bipush C zd_M_comes_104 (by decide) ?_
  obtain ⟨S12, eS12, hf⟩ := zlt_some hf
  refine ziast C hK hap hW hS (zvd_5 (by decide) (by decide)) (fun f => ze_5_8 B f (0)) (by decide) rfl (znb rfl) h4 zd_M_comes_106 (fun H locs hW hS => ?_)
  rw [eS12] at hW
  refine lv_aload_n C.1 C.2.1 zd_M_comes_107 rfl (lv_at hl 1 rfl) ?_
  refine zg_M_world (r := 0) C hK hW (zvd_9 (by decide) (by decide)) zk_1500 zd_M_comes_108 ?_
  refine zg_W_hungry (r := 0) C hK hW (zvd_5 (by decide) (by decide)) zk_1296 zd_M_comes_111 ?_
  refine lv_iload C.1 C.2.1 zd_M_comes_114 (lv_at hl 0 rfl) ?_
  refine zr_iconst C zd_M_comes_116 ?_
  obtain ⟨S13, eS13, hf⟩ := zlt_some hf
  refine ziast C hK hap hW hS (zvd_5 (by decide) (by decide)) (fun f => ze_5_9 B f (0)) (by decide) rfl (znb rfl) h4 zd_M_comes_117 (fun H locs hW hS => ?_)
  rw [eS13] at hW
  refine lv_iload C.1 C.2.1 zd_M_comes_118 (lv_at hl 0 rfl) ?_
  cases hf
  exact zre_i C hr hlk hK hW hS nv3 zd_M_comes_120

theorem zc_M_comes {l : Launch} {B : zB} (hap : zAp B) (x1 : Int) (x2 : Int) (x3 : Int) (x4 : Int) (x5 : Int) (S : Sg) (nx1 : zn x1) (nx2 : zn x2) (nx3 : zn x3) (nx4 : zn x4) (nx5 : zn x5) {res : Int} {S9 : Sg} (hf : zf_M_comes x1 x2 x3 x4 x5 S = some (res, S9)) : Met l zy_M_comes (Cond.code zy_M_comes zb_M_comes 7 (some .int) :: zT) zm_M_comes (zP B S [.ref (B.2.1 9 (0) (0)), .int (zI (x1)), .int (zI (x2)), .int (zI (x3)), .int (zI (x4)), .int (zI (x5))]) (zQi B res S9) 0 0 B.2.2.2 :=
  zmet (by decide) (Nat.le_of_ble_eq_true rfl) (fun p e s m args below meth c C hr hlk hK hSt hW ls hl => zw_M_comes C hr hlk hK hSt hap   x1 x2 x3 x4 x5 S nx1 nx2 nx3 nx4 nx5 hf _ _ _ hW va_S.rf hl)
/-! IslandOfficeModel.in(III)Z -/
abbrev zy_M_in : MethodName := ⟨"IslandOfficeModel", "in", "(III)Z"⟩
abbrev zb_M_in : ByteArray := prog_14_method_3_code
abbrev zm_M_in : Room := { frames := 0, cells := 0, slots := 0, locals := 0 }
theorem zq_M_in : zMs zy_M_in zb_M_in 3 (some .boolean) 3 := ⟨zk_1560, zk_1559, zk_14, by decide, by decide, by decide +kernel⟩
theorem zd_M_in_0 : decode zb_M_in 0 = .ok (.iload_n 1, 1) := by decide +kernel
theorem zd_M_in_1 : decode zb_M_in 1 = .ok (.iload_n 0, 1) := by decide +kernel
theorem zd_M_in_2 : decode zb_M_in 2 = .ok (.if_icmp .gt 12, 3) := by decide +kernel
theorem zd_M_in_5 : decode zb_M_in 5 = .ok (.iload_n 0, 1) := by decide +kernel
theorem zd_M_in_6 : decode zb_M_in 6 = .ok (.iload_n 2, 1) := by decide +kernel
theorem zd_M_in_7 : decode zb_M_in 7 = .ok (.if_icmp .gt 7, 3) := by decide +kernel
theorem zd_M_in_10 : decode zb_M_in 10 = .ok (.iconst 1, 1) := by decide +kernel
theorem zd_M_in_11 : decode zb_M_in 11 = .ok (.goto 4, 3) := by decide +kernel
theorem zd_M_in_14 : decode zb_M_in 14 = .ok (.iconst 0, 1) := by decide +kernel
theorem zd_M_in_15 : decode zb_M_in 15 = .ok (.ireturn, 1) := by decide +kernel

def zf_M_in (x0 : Int) (x1 : Int) (x2 : Int) (S : Sg) : Option (Int × Sg) :=
    if x0 < x1 then (some (0, S)) else (if x2 < x0 then (some (0, S)) else (some (1, S)))
set_option maxHeartbeats 4000000 in
set_option maxRecDepth 100000 in
theorem zw_M_in {p : Program} {l : Launch} {e : Env} {s : State} {m : MethodId} {args : Array Value} {below : List Frame} {meth : Method} {c : Code} {B : zB} (C : CallFix p m c zb_M_in 3 s args zT "IslandOfficeModel") (hr : meth.sig.returnType = some .boolean) (hlk : meth.locks = false) (hK : zK B s) (hSt : zSt B s) (hap : zAp B) {res : Int} {S9 : Sg} : ∀ (x0 : Int) (x1 : Int) (x2 : Int) (S : Sg) (nx0 : zn x0) (nx1 : zn x1) (nx2 : zn x2), zf_M_in x0 x1 x2 S = some (res, S9) → ∀ (H : Heap) (locs : List Loc) (ls : Array Slot), zW B S H → va_S B.2.2.2 s.heap H locs → lv_has ls 3 [(0, .int (zI (x0))), (1, .int (zI (x1))), (2, .int (zI (x2)))] → W p l e zm_M_in s m args below meth c H locs 0 0 (MQ below (zQi B res S9) args s 0 0 B.2.2.2) (F0 m 0 ls []) := by
  intro x0 x1 x2 S nx0 nx1 nx2 hf H locs ls hW hS hl
  unfold zf_M_in at hf
  refine lv_iload_n C.1 C.2.1 zd_M_in_0 rfl (lv_at hl 1 rfl) ?_
  refine lv_iload_n C.1 C.2.1 zd_M_in_1 rfl (lv_at hl 0 rfl) ?_
  refine zr_icmp_gt (tgt := 14) C nx1 nx0 zd_M_in_2 (by decide) (fun c1 => ?_) (fun c1 => ?_)
  · rw [if_pos c1] at hf
    refine zr_iconst C zd_M_in_14 ?_
    cases hf
    exact zre_z C hr hlk hK hW hS (znb rfl) (zb01 (by decide)) zd_M_in_15
  · rw [if_neg c1] at hf
    refine lv_iload_n C.1 C.2.1 zd_M_in_5 rfl (lv_at hl 0 rfl) ?_
    refine lv_iload_n C.1 C.2.1 zd_M_in_6 rfl (lv_at hl 2 rfl) ?_
    refine zr_icmp_gt (tgt := 14) C nx0 nx2 zd_M_in_7 (by decide) (fun c2 => ?_) (fun c2 => ?_)
    · rw [if_pos c2] at hf
      refine zr_iconst C zd_M_in_14 ?_
      cases hf
      exact zre_z C hr hlk hK hW hS (znb rfl) (zb01 (by decide)) zd_M_in_15
    · rw [if_neg c2] at hf
      refine zr_iconst C zd_M_in_10 ?_
      refine lv_goto (tgt := 15) C.1 C.2.1 zd_M_in_11 (by decide) ?_
      cases hf
      exact zre_z C hr hlk hK hW hS (znb rfl) (zb01 (by decide)) zd_M_in_15

theorem zc_M_in {l : Launch} {B : zB} (hap : zAp B) (x0 : Int) (x1 : Int) (x2 : Int) (S : Sg) (nx0 : zn x0) (nx1 : zn x1) (nx2 : zn x2) {res : Int} {S9 : Sg} (hf : zf_M_in x0 x1 x2 S = some (res, S9)) : Met l zy_M_in (Cond.code zy_M_in zb_M_in 3 (some .boolean) :: zT) zm_M_in (zP B S [.int (zI (x0)), .int (zI (x1)), .int (zI (x2))]) (zQi B res S9) 0 0 B.2.2.2 :=
  zmet (by decide) (Nat.le_of_ble_eq_true rfl) (fun p e s m args below meth c C hr hlk hK hSt hW ls hl => zw_M_in C hr hlk hK hSt hap   x0 x1 x2 S nx0 nx1 nx2 hf _ _ _ hW va_S.rf hl)
/-! IslandOfficeModel.isHouse(I)Z -/
abbrev zy_M_isHouse : MethodName := ⟨"IslandOfficeModel", "isHouse", "(I)Z"⟩
abbrev zb_M_isHouse : ByteArray := prog_14_method_5_code
abbrev zm_M_isHouse : Room := { frames := 1, cells := 0, slots := 0, locals := 22 }
theorem zq_M_isHouse : zMs zy_M_isHouse zb_M_isHouse 1 (some .boolean) 1 := ⟨zk_1563, zk_1562, zk_14, by decide, by decide, by decide +kernel⟩
theorem zd_M_isHouse_0 : decode zb_M_isHouse 0 = .ok (.iload_n 0, 1) := by decide +kernel
theorem zd_M_isHouse_1 : decode zb_M_isHouse 1 = .ok (.iconst 0, 1) := by decide +kernel
theorem zd_M_isHouse_2 : decode zb_M_isHouse 2 = .ok (.bipush 11, 2) := by decide +kernel
theorem zd_M_isHouse_4 : decode zb_M_isHouse 4 = .ok (.invokestatic 53, 3) := by decide +kernel
theorem zd_M_isHouse_7 : decode zb_M_isHouse 7 = .ok (.ireturn, 1) := by decide +kernel

def zf_M_isHouse (x0 : Int) (S : Sg) : Option (Int × Sg) :=
    zbd (zf_M_in x0 0 11 S) fun a1 S2 => zck (a1 = 0 ∨ a1 = 1) <| some (a1, S2)
set_option maxHeartbeats 4000000 in
set_option maxRecDepth 100000 in
theorem zw_M_isHouse {p : Program} {l : Launch} {e : Env} {s : State} {m : MethodId} {args : Array Value} {below : List Frame} {meth : Method} {c : Code} {B : zB} (C : CallFix p m c zb_M_isHouse 1 s args zT "IslandOfficeModel") (hr : meth.sig.returnType = some .boolean) (hlk : meth.locks = false) (hK : zK B s) (hSt : zSt B s) (hap : zAp B) {res : Int} {S9 : Sg} : ∀ (x0 : Int) (S : Sg) (nx0 : zn x0), zf_M_isHouse x0 S = some (res, S9) → ∀ (H : Heap) (locs : List Loc) (ls : Array Slot), zW B S H → va_S B.2.2.2 s.heap H locs → lv_has ls 1 [(0, .int (zI (x0)))] → W p l e zm_M_isHouse s m args below meth c H locs 0 0 (MQ below (zQi B res S9) args s 0 0 B.2.2.2) (F0 m 0 ls []) := by
  intro x0 S nx0 hf H locs ls hW hS hl
  unfold zf_M_isHouse at hf
  refine lv_iload_n C.1 C.2.1 zd_M_isHouse_0 rfl (lv_at hl 0 rfl) ?_
  refine zr_iconst C zd_M_isHouse_1 ?_
  refine zr_bipush C zd_M_isHouse_2 (by decide) ?_
  obtain ⟨a1, S2, ea1, hf⟩ := zbd_some hf
  refine zcSi (As := [.int (zI (x0)), .int (zI (0)), .int (zI (11))]) (rest := []) C hK hSt hW hS (zc_M_in hap x0 0 11 S nx0 (znb rfl) (znb rfl) ea1) zq_M_in zk_1558 ⟨rfl, rfl, by decide, by decide⟩ ⟨Nat.zero_le _, Nat.zero_le _⟩ rfl hl.1 rfl (lv_room (Nat.le_of_ble_eq_true rfl)) zd_M_isHouse_4 (fun na1 H locs hW hS => ?_)
  obtain ⟨h3, hf⟩ := zck_some hf
  cases hf
  exact zre_z C hr hlk hK hW hS na1 (zb01 h3) zd_M_isHouse_7

theorem zc_M_isHouse {l : Launch} {B : zB} (hap : zAp B) (x0 : Int) (S : Sg) (nx0 : zn x0) {res : Int} {S9 : Sg} (hf : zf_M_isHouse x0 S = some (res, S9)) : Met l zy_M_isHouse (Cond.code zy_M_isHouse zb_M_isHouse 1 (some .boolean) :: zT) zm_M_isHouse (zP B S [.int (zI (x0))]) (zQi B res S9) 0 0 B.2.2.2 :=
  zmet (by decide) (Nat.le_of_ble_eq_true rfl) (fun p e s m args below meth c C hr hlk hK hSt hW ls hl => zw_M_isHouse C hr hlk hK hSt hap   x0 S nx0 hf _ _ _ hW va_S.rf hl)
/-! IslandOfficeModel.isBirth(III)Z -/
abbrev zy_M_isBirth : MethodName := ⟨"IslandOfficeModel", "isBirth", "(III)Z"⟩
abbrev zb_M_isBirth : ByteArray := prog_14_method_10_code
abbrev zm_M_isBirth : Room := { frames := 2, cells := 0, slots := 0, locals := 42 }
theorem zq_M_isBirth : zMy zy_M_isBirth zb_M_isBirth 4 (some .boolean) 3 := ⟨zk_1557, zk_1556, zs_42, zk_14, by decide, by decide, by decide +kernel⟩
theorem zd_M_isBirth_0 : decode zb_M_isBirth 0 = .ok (.iload_n 1, 1) := by decide +kernel
theorem zd_M_isBirth_1 : decode zb_M_isBirth 1 = .ok (.sipush (-5000), 3) := by decide +kernel
theorem zd_M_isBirth_4 : decode zb_M_isBirth 4 = .ok (.aload_n 0, 1) := by decide +kernel
theorem zd_M_isBirth_5 : decode zb_M_isBirth 5 = .ok (.getfield 10, 3) := by decide +kernel
theorem zd_M_isBirth_8 : decode zb_M_isBirth 8 = .ok (.getfield 87, 3) := by decide +kernel
theorem zd_M_isBirth_11 : decode zb_M_isBirth 11 = .ok (.invokestatic 53, 3) := by decide +kernel
theorem zd_M_isBirth_14 : decode zb_M_isBirth 14 = .ok (.ifCond .eq 25, 3) := by decide +kernel
theorem zd_M_isBirth_17 : decode zb_M_isBirth 17 = .ok (.iload_n 2, 1) := by decide +kernel
theorem zd_M_isBirth_18 : decode zb_M_isBirth 18 = .ok (.invokestatic 90, 3) := by decide +kernel
theorem zd_M_isBirth_21 : decode zb_M_isBirth 21 = .ok (.ifCond .eq 18, 3) := by decide +kernel
theorem zd_M_isBirth_24 : decode zb_M_isBirth 24 = .ok (.iload_n 3, 1) := by decide +kernel
theorem zd_M_isBirth_25 : decode zb_M_isBirth 25 = .ok (.iconst 0, 1) := by decide +kernel
theorem zd_M_isBirth_26 : decode zb_M_isBirth 26 = .ok (.sipush 255, 3) := by decide +kernel
theorem zd_M_isBirth_29 : decode zb_M_isBirth 29 = .ok (.invokestatic 53, 3) := by decide +kernel
theorem zd_M_isBirth_32 : decode zb_M_isBirth 32 = .ok (.ifCond .eq 7, 3) := by decide +kernel
theorem zd_M_isBirth_35 : decode zb_M_isBirth 35 = .ok (.iconst 1, 1) := by decide +kernel
theorem zd_M_isBirth_36 : decode zb_M_isBirth 36 = .ok (.goto 4, 3) := by decide +kernel
theorem zd_M_isBirth_39 : decode zb_M_isBirth 39 = .ok (.iconst 0, 1) := by decide +kernel
theorem zd_M_isBirth_40 : decode zb_M_isBirth 40 = .ok (.ireturn, 1) := by decide +kernel

def zf_M_isBirth (x1 : Int) (x2 : Int) (x3 : Int) (S : Sg) : Option (Int × Sg) :=
    zbd (zf_M_in x1 (-5000) (S 5 0 0 0) S) fun a1 S2 => if a1 = 0 then (some (0, S2)) else (zbd (zf_M_isHouse x2 S2) fun a4 S5 => if a4 = 0 then (some (0, S5)) else (zbd (zf_M_in x3 0 255 S5) fun a7 S8 => if a7 = 0 then (some (0, S8)) else (some (1, S8))))
set_option maxHeartbeats 4000000 in
set_option maxRecDepth 100000 in
theorem zw_M_isBirth {p : Program} {l : Launch} {e : Env} {s : State} {m : MethodId} {args : Array Value} {below : List Frame} {meth : Method} {c : Code} {B : zB} (C : CallFix p m c zb_M_isBirth 4 s args zT "IslandOfficeModel") (hr : meth.sig.returnType = some .boolean) (hlk : meth.locks = false) (hK : zK B s) (hSt : zSt B s) (hap : zAp B) {res : Int} {S9 : Sg} : ∀ (x1 : Int) (x2 : Int) (x3 : Int) (S : Sg) (nx1 : zn x1) (nx2 : zn x2) (nx3 : zn x3), zf_M_isBirth x1 x2 x3 S = some (res, S9) → ∀ (H : Heap) (locs : List Loc) (ls : Array Slot), zW B S H → va_S B.2.2.2 s.heap H locs → lv_has ls 4 [(0, .ref (B.2.1 9 (0) (0))), (1, .int (zI (x1))), (2, .int (zI (x2))), (3, .int (zI (x3)))] → W p l e zm_M_isBirth s m args below meth c H locs 0 0 (MQ below (zQi B res S9) args s 0 0 B.2.2.2) (F0 m 0 ls []) := by
  intro x1 x2 x3 S nx1 nx2 nx3 hf H locs ls hW hS hl
  unfold zf_M_isBirth at hf
  refine lv_iload_n C.1 C.2.1 zd_M_isBirth_0 rfl (lv_at hl 1 rfl) ?_
  refine zr_sipush C zd_M_isBirth_1 (by decide) ?_
  refine lv_aload_n C.1 C.2.1 zd_M_isBirth_4 rfl (lv_at hl 0 rfl) ?_
  refine zg_M_world (r := 0) C hK hW (zvd_9 (by decide) (by decide)) zk_1500 zd_M_isBirth_5 ?_
  refine zg_W_week (r := 0) C hK hW (zvd_5 (by decide) (by decide)) zk_1276 zd_M_isBirth_8 ?_
  obtain ⟨a1, S2, ea1, hf⟩ := zbd_some hf
  refine zcSi (As := [.int (zI (x1)), .int (zI (-5000)), .int (zI (S 5 0 0 0))]) (rest := []) C hK hSt hW hS (zc_M_in hap x1 (-5000) (S 5 0 0 0) S nx1 (znb rfl) (zWn hW _ _ _ _ rfl) ea1) zq_M_in zk_1558 ⟨rfl, rfl, by decide, by decide⟩ ⟨Nat.zero_le _, Nat.zero_le _⟩ rfl hl.1 rfl (lv_room (Nat.le_of_ble_eq_true rfl)) zd_M_isBirth_11 (fun na1 H locs hW hS => ?_)
  refine zr_if_eq (tgt := 39) C na1 zd_M_isBirth_14 (by decide) (fun c3 => ?_) (fun c3 => ?_)
  · rw [if_pos c3] at hf
    refine zr_iconst C zd_M_isBirth_39 ?_
    cases hf
    exact zre_z C hr hlk hK hW hS (znb rfl) (zb01 (by decide)) zd_M_isBirth_40
  · rw [if_neg c3] at hf
    refine lv_iload_n C.1 C.2.1 zd_M_isBirth_17 rfl (lv_at hl 2 rfl) ?_
    obtain ⟨a4, S5, ea4, hf⟩ := zbd_some hf
    refine zcSi (As := [.int (zI (x2))]) (rest := []) C hK hSt hW hS (zc_M_isHouse hap x2 S2 nx2 ea4) zq_M_isHouse zk_1561 ⟨rfl, rfl, by decide, by decide⟩ ⟨Nat.zero_le _, Nat.zero_le _⟩ rfl hl.1 rfl (lv_room (Nat.le_of_ble_eq_true rfl)) zd_M_isBirth_18 (fun na4 H locs hW hS => ?_)
    refine zr_if_eq (tgt := 39) C na4 zd_M_isBirth_21 (by decide) (fun c6 => ?_) (fun c6 => ?_)
    · rw [if_pos c6] at hf
      refine zr_iconst C zd_M_isBirth_39 ?_
      cases hf
      exact zre_z C hr hlk hK hW hS (znb rfl) (zb01 (by decide)) zd_M_isBirth_40
    · rw [if_neg c6] at hf
      refine lv_iload_n C.1 C.2.1 zd_M_isBirth_24 rfl (lv_at hl 3 rfl) ?_
      refine zr_iconst C zd_M_isBirth_25 ?_
      refine zr_sipush C zd_M_isBirth_26 (by decide) ?_
      obtain ⟨a7, S8, ea7, hf⟩ := zbd_some hf
      refine zcSi (As := [.int (zI (x3)), .int (zI (0)), .int (zI (255))]) (rest := []) C hK hSt hW hS (zc_M_in hap x3 0 255 S5 nx3 (znb rfl) (znb rfl) ea7) zq_M_in zk_1558 ⟨rfl, rfl, by decide, by decide⟩ ⟨Nat.zero_le _, Nat.zero_le _⟩ rfl hl.1 rfl (lv_room (Nat.le_of_ble_eq_true rfl)) zd_M_isBirth_29 (fun na7 H locs hW hS => ?_)
      refine zr_if_eq (tgt := 39) C na7 zd_M_isBirth_32 (by decide) (fun c9 => ?_) (fun c9 => ?_)
      · rw [if_pos c9] at hf
        refine zr_iconst C zd_M_isBirth_39 ?_
        cases hf
        exact zre_z C hr hlk hK hW hS (znb rfl) (zb01 (by decide)) zd_M_isBirth_40
      · rw [if_neg c9] at hf
        refine zr_iconst C zd_M_isBirth_35 ?_
        refine lv_goto (tgt := 40) C.1 C.2.1 zd_M_isBirth_36 (by decide) ?_
        cases hf
        exact zre_z C hr hlk hK hW hS (znb rfl) (zb01 (by decide)) zd_M_isBirth_40

theorem zc_M_isBirth {l : Launch} {B : zB} (hap : zAp B) (x1 : Int) (x2 : Int) (x3 : Int) (S : Sg) (nx1 : zn x1) (nx2 : zn x2) (nx3 : zn x3) {res : Int} {S9 : Sg} (hf : zf_M_isBirth x1 x2 x3 S = some (res, S9)) : Met l zy_M_isBirth (Cond.code zy_M_isBirth zb_M_isBirth 4 (some .boolean) :: zT) zm_M_isBirth (zP B S [.ref (B.2.1 9 (0) (0)), .int (zI (x1)), .int (zI (x2)), .int (zI (x3))]) (zQi B res S9) 0 0 B.2.2.2 :=
  zmet (by decide) (Nat.le_of_ble_eq_true rfl) (fun p e s m args below meth c C hr hlk hK hSt hW ls hl => zw_M_isBirth C hr hlk hK hSt hap   x1 x2 x3 S nx1 nx2 nx3 hf _ _ _ hW va_S.rf hl)
/-! IslandOfficeModel.isPerson(I)Z -/
abbrev zy_M_isPerson : MethodName := ⟨"IslandOfficeModel", "isPerson", "(I)Z"⟩
abbrev zb_M_isPerson : ByteArray := prog_14_method_4_code
abbrev zm_M_isPerson : Room := { frames := 1, cells := 0, slots := 0, locals := 22 }
theorem zq_M_isPerson : zMy zy_M_isPerson zb_M_isPerson 2 (some .boolean) 1 := ⟨zk_1567, zk_1566, zs_43, zk_14, by decide, by decide, by decide +kernel⟩
theorem zd_M_isPerson_0 : decode zb_M_isPerson 0 = .ok (.iload_n 1, 1) := by decide +kernel
theorem zd_M_isPerson_1 : decode zb_M_isPerson 1 = .ok (.iconst 0, 1) := by decide +kernel
theorem zd_M_isPerson_2 : decode zb_M_isPerson 2 = .ok (.aload_n 0, 1) := by decide +kernel
theorem zd_M_isPerson_3 : decode zb_M_isPerson 3 = .ok (.getfield 10, 3) := by decide +kernel
theorem zd_M_isPerson_6 : decode zb_M_isPerson 6 = .ok (.getfield 50, 3) := by decide +kernel
theorem zd_M_isPerson_9 : decode zb_M_isPerson 9 = .ok (.iconst 1, 1) := by decide +kernel
theorem zd_M_isPerson_10 : decode zb_M_isPerson 10 = .ok (.isub, 1) := by decide +kernel
theorem zd_M_isPerson_11 : decode zb_M_isPerson 11 = .ok (.invokestatic 53, 3) := by decide +kernel
theorem zd_M_isPerson_14 : decode zb_M_isPerson 14 = .ok (.ireturn, 1) := by decide +kernel

def zf_M_isPerson (x1 : Int) (S : Sg) : Option (Int × Sg) :=
    zbd (zf_M_in x1 0 (zw ((S 5 0 0 1) - 1)) S) fun a1 S2 => zck (a1 = 0 ∨ a1 = 1) <| some (a1, S2)
set_option maxHeartbeats 4000000 in
set_option maxRecDepth 100000 in
theorem zw_M_isPerson {p : Program} {l : Launch} {e : Env} {s : State} {m : MethodId} {args : Array Value} {below : List Frame} {meth : Method} {c : Code} {B : zB} (C : CallFix p m c zb_M_isPerson 2 s args zT "IslandOfficeModel") (hr : meth.sig.returnType = some .boolean) (hlk : meth.locks = false) (hK : zK B s) (hSt : zSt B s) (hap : zAp B) {res : Int} {S9 : Sg} : ∀ (x1 : Int) (S : Sg) (nx1 : zn x1), zf_M_isPerson x1 S = some (res, S9) → ∀ (H : Heap) (locs : List Loc) (ls : Array Slot), zW B S H → va_S B.2.2.2 s.heap H locs → lv_has ls 2 [(0, .ref (B.2.1 9 (0) (0))), (1, .int (zI (x1)))] → W p l e zm_M_isPerson s m args below meth c H locs 0 0 (MQ below (zQi B res S9) args s 0 0 B.2.2.2) (F0 m 0 ls []) := by
  intro x1 S nx1 hf H locs ls hW hS hl
  unfold zf_M_isPerson at hf
  refine lv_iload_n C.1 C.2.1 zd_M_isPerson_0 rfl (lv_at hl 1 rfl) ?_
  refine zr_iconst C zd_M_isPerson_1 ?_
  refine lv_aload_n C.1 C.2.1 zd_M_isPerson_2 rfl (lv_at hl 0 rfl) ?_
  refine zg_M_world (r := 0) C hK hW (zvd_9 (by decide) (by decide)) zk_1500 zd_M_isPerson_3 ?_
  refine zg_W_people (r := 0) C hK hW (zvd_5 (by decide) (by decide)) zk_1278 zd_M_isPerson_6 ?_
  refine zr_iconst C zd_M_isPerson_9 ?_
  refine zr_isub C zd_M_isPerson_10 ?_
  obtain ⟨a1, S2, ea1, hf⟩ := zbd_some hf
  refine zcSi (As := [.int (zI (x1)), .int (zI (0)), .int (zI (zw ((S 5 0 0 1) - 1)))]) (rest := []) C hK hSt hW hS (zc_M_in hap x1 0 (zw ((S 5 0 0 1) - 1)) S nx1 (znb rfl) (zn_w _) ea1) zq_M_in zk_1558 ⟨rfl, rfl, by decide, by decide⟩ ⟨Nat.zero_le _, Nat.zero_le _⟩ rfl hl.1 rfl (lv_room (Nat.le_of_ble_eq_true rfl)) zd_M_isPerson_11 (fun na1 H locs hW hS => ?_)
  obtain ⟨h3, hf⟩ := zck_some hf
  cases hf
  exact zre_z C hr hlk hK hW hS na1 (zb01 h3) zd_M_isPerson_14

theorem zc_M_isPerson {l : Launch} {B : zB} (hap : zAp B) (x1 : Int) (S : Sg) (nx1 : zn x1) {res : Int} {S9 : Sg} (hf : zf_M_isPerson x1 S = some (res, S9)) : Met l zy_M_isPerson (Cond.code zy_M_isPerson zb_M_isPerson 2 (some .boolean) :: zT) zm_M_isPerson (zP B S [.ref (B.2.1 9 (0) (0)), .int (zI (x1))]) (zQi B res S9) 0 0 B.2.2.2 :=
  zmet (by decide) (Nat.le_of_ble_eq_true rfl) (fun p e s m args below meth c C hr hlk hK hSt hW ls hl => zw_M_isPerson C hr hlk hK hSt hap   x1 S nx1 hf _ _ _ hW va_S.rf hl)
/-! IslandOfficeModel.person(IIII)I -/
abbrev zy_M_person : MethodName := ⟨"IslandOfficeModel", "person", "(IIII)I"⟩
abbrev zb_M_person : ByteArray := prog_14_method_11_code
abbrev zm_M_person : Room := { frames := 3, cells := 0, slots := 0, locals := 65 }
theorem zq_M_person : zMy zy_M_person zb_M_person 5 (some .int) 4 := ⟨zk_1553, zk_1551, zk_1552, zk_14, by decide, by decide, by decide +kernel⟩
theorem zd_M_person_0 : decode zb_M_person 0 = .ok (.aload_n 0, 1) := by decide +kernel
theorem zd_M_person_1 : decode zb_M_person 1 = .ok (.iconst 0, 1) := by decide +kernel
theorem zd_M_person_2 : decode zb_M_person 2 = .ok (.putfield 46, 3) := by decide +kernel
theorem zd_M_person_5 : decode zb_M_person 5 = .ok (.aload_n 0, 1) := by decide +kernel
theorem zd_M_person_6 : decode zb_M_person 6 = .ok (.iload_n 1, 1) := by decide +kernel
theorem zd_M_person_7 : decode zb_M_person 7 = .ok (.iload_n 2, 1) := by decide +kernel
theorem zd_M_person_8 : decode zb_M_person 8 = .ok (.iload 4, 2) := by decide +kernel
theorem zd_M_person_10 : decode zb_M_person 10 = .ok (.invokevirtual 94, 3) := by decide +kernel
theorem zd_M_person_13 : decode zb_M_person 13 = .ok (.ifCond .eq 16, 3) := by decide +kernel
theorem zd_M_person_16 : decode zb_M_person 16 = .ok (.iload_n 3, 1) := by decide +kernel
theorem zd_M_person_17 : decode zb_M_person 17 = .ok (.iconst (-1), 1) := by decide +kernel
theorem zd_M_person_18 : decode zb_M_person 18 = .ok (.if_icmp .eq 13, 3) := by decide +kernel
theorem zd_M_person_21 : decode zb_M_person 21 = .ok (.aload_n 0, 1) := by decide +kernel
theorem zd_M_person_22 : decode zb_M_person 22 = .ok (.iload_n 3, 1) := by decide +kernel
theorem zd_M_person_23 : decode zb_M_person 23 = .ok (.invokevirtual 97, 3) := by decide +kernel
theorem zd_M_person_26 : decode zb_M_person 26 = .ok (.ifCond .ne 5, 3) := by decide +kernel
theorem zd_M_person_29 : decode zb_M_person 29 = .ok (.iconst (-1), 1) := by decide +kernel
theorem zd_M_person_30 : decode zb_M_person 30 = .ok (.ireturn, 1) := by decide +kernel
theorem zd_M_person_31 : decode zb_M_person 31 = .ok (.aload_n 0, 1) := by decide +kernel
theorem zd_M_person_32 : decode zb_M_person 32 = .ok (.getfield 10, 3) := by decide +kernel
theorem zd_M_person_35 : decode zb_M_person 35 = .ok (.getfield 50, 3) := by decide +kernel
theorem zd_M_person_38 : decode zb_M_person 38 = .ok (.bipush 40, 2) := by decide +kernel
theorem zd_M_person_40 : decode zb_M_person 40 = .ok (.if_icmp .ne 8, 3) := by decide +kernel
theorem zd_M_person_43 : decode zb_M_person 43 = .ok (.bipush (-2), 2) := by decide +kernel
theorem zd_M_person_45 : decode zb_M_person 45 = .ok (.goto 23, 3) := by decide +kernel
theorem zd_M_person_48 : decode zb_M_person 48 = .ok (.aload_n 0, 1) := by decide +kernel
theorem zd_M_person_49 : decode zb_M_person 49 = .ok (.iload_n 1, 1) := by decide +kernel
theorem zd_M_person_50 : decode zb_M_person 50 = .ok (.iload_n 2, 1) := by decide +kernel
theorem zd_M_person_51 : decode zb_M_person 51 = .ok (.iload_n 3, 1) := by decide +kernel
theorem zd_M_person_52 : decode zb_M_person 52 = .ok (.iconst (-1), 1) := by decide +kernel
theorem zd_M_person_53 : decode zb_M_person 53 = .ok (.if_icmp .ne 8, 3) := by decide +kernel
theorem zd_M_person_56 : decode zb_M_person 56 = .ok (.bipush (-2), 2) := by decide +kernel
theorem zd_M_person_58 : decode zb_M_person 58 = .ok (.goto 4, 3) := by decide +kernel
theorem zd_M_person_61 : decode zb_M_person 61 = .ok (.iload_n 3, 1) := by decide +kernel
theorem zd_M_person_62 : decode zb_M_person 62 = .ok (.iload 4, 2) := by decide +kernel
theorem zd_M_person_64 : decode zb_M_person 64 = .ok (.iconst (-1), 1) := by decide +kernel
theorem zd_M_person_65 : decode zb_M_person 65 = .ok (.invokevirtual 100, 3) := by decide +kernel
theorem zd_M_person_68 : decode zb_M_person 68 = .ok (.ireturn, 1) := by decide +kernel

def zf_M_person_62 (x4 : Int) (xt1 : Int) (xt2 : Int) (xt3 : Int) (S : Sg) : Option (Int × Sg) :=
    zbd (zf_M_comes xt1 xt2 xt3 x4 (-1) S) fun a1 S2 => some (a1, S2)
set_option maxHeartbeats 4000000 in
set_option maxRecDepth 100000 in
theorem zw_M_person_62 {p : Program} {l : Launch} {e : Env} {s : State} {m : MethodId} {args : Array Value} {below : List Frame} {meth : Method} {c : Code} {B : zB} (C : CallFix p m c zb_M_person 5 s args zT "IslandOfficeModel") (hr : meth.sig.returnType = some .int) (hlk : meth.locks = false) (hK : zK B s) (hSt : zSt B s) (hap : zAp B) {res : Int} {S9 : Sg} : ∀ (x4 : Int) (xt1 : Int) (xt2 : Int) (xt3 : Int) (S : Sg) (nx4 : zn x4) (nxt1 : zn xt1) (nxt2 : zn xt2) (nxt3 : zn xt3), zf_M_person_62 x4 xt1 xt2 xt3 S = some (res, S9) → ∀ (H : Heap) (locs : List Loc) (ls : Array Slot), zW B S H → va_S B.2.2.2 s.heap H locs → lv_has ls 5 [(4, .int (zI (x4)))] → W p l e zm_M_person s m args below meth c H locs 0 0 (MQ below (zQi B res S9) args s 0 0 B.2.2.2) (F0 m 62 ls [.int (zI (xt3)), .int (zI (xt2)), .int (zI (xt1)), .ref (B.2.1 9 (0) (0))]) := by
  intro x4 xt1 xt2 xt3 S nx4 nxt1 nxt2 nxt3 hf H locs ls hW hS hl
  unfold zf_M_person_62 at hf
  refine lv_iload C.1 C.2.1 zd_M_person_62 (lv_at hl 0 rfl) ?_
  refine zr_iconst C zd_M_person_64 ?_
  obtain ⟨a1, S2, ea1, hf⟩ := zbd_some hf
  refine zcVi (As := [.int (zI (xt1)), .int (zI (xt2)), .int (zI (xt3)), .int (zI (x4)), .int (zI (-1))]) (rest := []) C hK hSt hW hS (zc_M_comes hap xt1 xt2 xt3 x4 (-1) S nxt1 nxt2 nxt3 nx4 (znb rfl) ea1) zq_M_comes zk_1568 (zrecv hK hW (zvd_9 (by decide) (by decide)) (ze_9_0 B _ (0)) rfl) ⟨rfl, rfl, by decide, by decide⟩ ⟨Nat.zero_le _, Nat.zero_le _⟩ rfl hl.1 rfl (lv_room (Nat.le_of_ble_eq_true rfl)) zd_M_person_65 (fun na1 H locs hW hS => ?_)
  cases hf
  exact zre_i C hr hlk hK hW hS na1 zd_M_person_68

def zf_M_person_31 (x1 : Int) (x2 : Int) (x3 : Int) (x4 : Int) (S : Sg) : Option (Int × Sg) :=
    if (S 5 0 0 1) = 40 then (some (-2, S)) else (if x3 = (-1) then (zf_M_person_62 (x4) (x1) (x2) (-2) S) else (zf_M_person_62 (x4) (x1) (x2) (x3) S))
set_option maxHeartbeats 4000000 in
set_option maxRecDepth 100000 in
theorem zw_M_person_31 {p : Program} {l : Launch} {e : Env} {s : State} {m : MethodId} {args : Array Value} {below : List Frame} {meth : Method} {c : Code} {B : zB} (C : CallFix p m c zb_M_person 5 s args zT "IslandOfficeModel") (hr : meth.sig.returnType = some .int) (hlk : meth.locks = false) (hK : zK B s) (hSt : zSt B s) (hap : zAp B) {res : Int} {S9 : Sg} : ∀ (x1 : Int) (x2 : Int) (x3 : Int) (x4 : Int) (S : Sg) (nx1 : zn x1) (nx2 : zn x2) (nx3 : zn x3) (nx4 : zn x4), zf_M_person_31 x1 x2 x3 x4 S = some (res, S9) → ∀ (H : Heap) (locs : List Loc) (ls : Array Slot), zW B S H → va_S B.2.2.2 s.heap H locs → lv_has ls 5 [(0, .ref (B.2.1 9 (0) (0))), (1, .int (zI (x1))), (2, .int (zI (x2))), (3, .int (zI (x3))), (4, .int (zI (x4)))] → W p l e zm_M_person s m args below meth c H locs 0 0 (MQ below (zQi B res S9) args s 0 0 B.2.2.2) (F0 m 31 ls []) := by
  intro x1 x2 x3 x4 S nx1 nx2 nx3 nx4 hf H locs ls hW hS hl
  unfold zf_M_person_31 at hf
  refine lv_aload_n C.1 C.2.1 zd_M_person_31 rfl (lv_at hl 0 rfl) ?_
  refine zg_M_world (r := 0) C hK hW (zvd_9 (by decide) (by decide)) zk_1500 zd_M_person_32 ?_
  refine zg_W_people (r := 0) C hK hW (zvd_5 (by decide) (by decide)) zk_1278 zd_M_person_35 ?_
  refine zr_bipush C zd_M_person_38 (by decide) ?_
  refine zr_icmp_ne (tgt := 48) C (zWn hW _ _ _ _ rfl) (znb rfl) zd_M_person_40 (by decide) (fun c1 => ?_) (fun c1 => ?_)
  · rw [if_neg c1] at hf
    refine lv_aload_n C.1 C.2.1 zd_M_person_48 rfl (lv_at hl 0 rfl) ?_
    refine lv_iload_n C.1 C.2.1 zd_M_person_49 rfl (lv_at hl 1 rfl) ?_
    refine lv_iload_n C.1 C.2.1 zd_M_person_50 rfl (lv_at hl 2 rfl) ?_
    refine lv_iload_n C.1 C.2.1 zd_M_person_51 rfl (lv_at hl 3 rfl) ?_
    refine zr_iconst C zd_M_person_52 ?_
    refine zr_icmp_ne (tgt := 61) C nx3 (znb rfl) zd_M_person_53 (by decide) (fun c2 => ?_) (fun c2 => ?_)
    · rw [if_neg c2] at hf
      refine lv_iload_n C.1 C.2.1 zd_M_person_61 rfl (lv_at hl 3 rfl) ?_
      exact zw_M_person_62 C hr hlk hK hSt hap   (x4) (x1) (x2) (x3) S nx4 nx1 nx2 nx3 hf _ _ _ hW hS (lv_sub hl [4] rfl)
    · rw [if_pos c2] at hf
      refine zr_bipush C zd_M_person_56 (by decide) ?_
      refine lv_goto (tgt := 62) C.1 C.2.1 zd_M_person_58 (by decide) ?_
      exact zw_M_person_62 C hr hlk hK hSt hap   (x4) (x1) (x2) (-2) S nx4 nx1 nx2 (znb rfl) hf _ _ _ hW hS (lv_sub hl [4] rfl)
  · rw [if_pos c1] at hf
    refine zr_bipush C zd_M_person_43 (by decide) ?_
    refine lv_goto (tgt := 68) C.1 C.2.1 zd_M_person_45 (by decide) ?_
    cases hf
    exact zre_i C hr hlk hK hW hS (znb rfl) zd_M_person_68

def zf_M_person (x1 : Int) (x2 : Int) (x3 : Int) (x4 : Int) (S : Sg) : Option (Int × Sg) :=
    zlt (zu S 9 0 0 4 0) fun S1 => zbd (zf_M_isBirth x1 x2 x4 S1) fun a2 S3 => if a2 = 0 then (some (-1, S3)) else (if x3 = (-1) then (zf_M_person_31 (x1) (x2) (x3) (x4) S3) else (zbd (zf_M_isPerson x3 S3) fun a6 S7 => if a6 = 0 then (some (-1, S7)) else (zf_M_person_31 (x1) (x2) (x3) (x4) S7)))
set_option maxHeartbeats 4000000 in
set_option maxRecDepth 100000 in
theorem zw_M_person {p : Program} {l : Launch} {e : Env} {s : State} {m : MethodId} {args : Array Value} {below : List Frame} {meth : Method} {c : Code} {B : zB} (C : CallFix p m c zb_M_person 5 s args zT "IslandOfficeModel") (hr : meth.sig.returnType = some .int) (hlk : meth.locks = false) (hK : zK B s) (hSt : zSt B s) (hap : zAp B) {res : Int} {S9 : Sg} : ∀ (x1 : Int) (x2 : Int) (x3 : Int) (x4 : Int) (S : Sg) (nx1 : zn x1) (nx2 : zn x2) (nx3 : zn x3) (nx4 : zn x4), zf_M_person x1 x2 x3 x4 S = some (res, S9) → ∀ (H : Heap) (locs : List Loc) (ls : Array Slot), zW B S H → va_S B.2.2.2 s.heap H locs → lv_has ls 5 [(0, .ref (B.2.1 9 (0) (0))), (1, .int (zI (x1))), (2, .int (zI (x2))), (3, .int (zI (x3))), (4, .int (zI (x4)))] → W p l e zm_M_person s m args below meth c H locs 0 0 (MQ below (zQi B res S9) args s 0 0 B.2.2.2) (F0 m 0 ls []) := by
  intro x1 x2 x3 x4 S nx1 nx2 nx3 nx4 hf H locs ls hW hS hl
  unfold zf_M_person at hf
  refine lv_aload_n C.1 C.2.1 zd_M_person_0 rfl (lv_at hl 0 rfl) ?_
  refine zr_iconst C zd_M_person_1 ?_
  obtain ⟨S1, eS1, hf⟩ := zlt_some hf
  refine zp_M_thrown (r := 0) C hK hap hW hS (zvd_9 (by decide) (by decide)) zk_1504 (znb rfl) zd_M_person_2 (fun H locs hW hS => ?_)
  rw [eS1] at hW
  refine lv_aload_n C.1 C.2.1 zd_M_person_5 rfl (lv_at hl 0 rfl) ?_
  refine lv_iload_n C.1 C.2.1 zd_M_person_6 rfl (lv_at hl 1 rfl) ?_
  refine lv_iload_n C.1 C.2.1 zd_M_person_7 rfl (lv_at hl 2 rfl) ?_
  refine lv_iload C.1 C.2.1 zd_M_person_8 (lv_at hl 4 rfl) ?_
  obtain ⟨a2, S3, ea2, hf⟩ := zbd_some hf
  refine zcVi (As := [.int (zI (x1)), .int (zI (x2)), .int (zI (x4))]) (rest := []) C hK hSt hW hS (zc_M_isBirth hap x1 x2 x4 S1 nx1 nx2 nx4 ea2) zq_M_isBirth zk_1554 (zrecv hK hW (zvd_9 (by decide) (by decide)) (ze_9_0 B _ (0)) rfl) ⟨rfl, rfl, by decide, by decide⟩ ⟨Nat.zero_le _, Nat.zero_le _⟩ rfl hl.1 rfl (lv_room (Nat.le_of_ble_eq_true rfl)) zd_M_person_10 (fun na2 H locs hW hS => ?_)
  refine zr_if_eq (tgt := 29) C na2 zd_M_person_13 (by decide) (fun c4 => ?_) (fun c4 => ?_)
  · rw [if_pos c4] at hf
    refine zr_iconst C zd_M_person_29 ?_
    cases hf
    exact zre_i C hr hlk hK hW hS (znb rfl) zd_M_person_30
  · rw [if_neg c4] at hf
    refine lv_iload_n C.1 C.2.1 zd_M_person_16 rfl (lv_at hl 3 rfl) ?_
    refine zr_iconst C zd_M_person_17 ?_
    refine zr_icmp_eq (tgt := 31) C nx3 (znb rfl) zd_M_person_18 (by decide) (fun c5 => ?_) (fun c5 => ?_)
    · rw [if_pos c5] at hf
      exact zw_M_person_31 C hr hlk hK hSt hap   (x1) (x2) (x3) (x4) S3 nx1 nx2 nx3 nx4 hf _ _ _ hW hS (lv_sub hl [0, 1, 2, 3, 4] rfl)
    · rw [if_neg c5] at hf
      refine lv_aload_n C.1 C.2.1 zd_M_person_21 rfl (lv_at hl 0 rfl) ?_
      refine lv_iload_n C.1 C.2.1 zd_M_person_22 rfl (lv_at hl 3 rfl) ?_
      obtain ⟨a6, S7, ea6, hf⟩ := zbd_some hf
      refine zcVi (As := [.int (zI (x3))]) (rest := []) C hK hSt hW hS (zc_M_isPerson hap x3 S3 nx3 ea6) zq_M_isPerson zk_1564 (zrecv hK hW (zvd_9 (by decide) (by decide)) (ze_9_0 B _ (0)) rfl) ⟨rfl, rfl, by decide, by decide⟩ ⟨Nat.zero_le _, Nat.zero_le _⟩ rfl hl.1 rfl (lv_room (Nat.le_of_ble_eq_true rfl)) zd_M_person_23 (fun na6 H locs hW hS => ?_)
      refine zr_if_ne (tgt := 31) C na6 zd_M_person_26 (by decide) (fun c8 => ?_) (fun c8 => ?_)
      · rw [if_neg c8] at hf
        exact zw_M_person_31 C hr hlk hK hSt hap   (x1) (x2) (x3) (x4) S7 nx1 nx2 nx3 nx4 hf _ _ _ hW hS (lv_sub hl [0, 1, 2, 3, 4] rfl)
      · rw [if_pos c8] at hf
        refine zr_iconst C zd_M_person_29 ?_
        cases hf
        exact zre_i C hr hlk hK hW hS (znb rfl) zd_M_person_30

theorem zc_M_person {l : Launch} {B : zB} (hap : zAp B) (x1 : Int) (x2 : Int) (x3 : Int) (x4 : Int) (S : Sg) (nx1 : zn x1) (nx2 : zn x2) (nx3 : zn x3) (nx4 : zn x4) {res : Int} {S9 : Sg} (hf : zf_M_person x1 x2 x3 x4 S = some (res, S9)) : Met l zy_M_person (Cond.code zy_M_person zb_M_person 5 (some .int) :: zT) zm_M_person (zP B S [.ref (B.2.1 9 (0) (0)), .int (zI (x1)), .int (zI (x2)), .int (zI (x3)), .int (zI (x4))]) (zQi B res S9) 0 0 B.2.2.2 :=
  zmet (by decide) (Nat.le_of_ble_eq_true rfl) (fun p e s m args below meth c C hr hlk hK hSt hW ls hl => zw_M_person C hr hlk hK hSt hap   x1 x2 x3 x4 S nx1 nx2 nx3 nx4 hf _ _ _ hW va_S.rf hl)
/-! IslandOfficeModel.guest(IIII)I -/
abbrev zy_M_guest : MethodName := ⟨"IslandOfficeModel", "guest", "(IIII)I"⟩
abbrev zb_M_guest : ByteArray := prog_14_method_12_code
abbrev zm_M_guest : Room := { frames := 3, cells := 0, slots := 0, locals := 65 }
theorem zq_M_guest : zMy zy_M_guest zb_M_guest 5 (some .int) 4 := ⟨zk_1575, zk_1573, zk_1574, zk_14, by decide, by decide, by decide +kernel⟩
theorem zd_M_guest_0 : decode zb_M_guest 0 = .ok (.aload_n 0, 1) := by decide +kernel
theorem zd_M_guest_1 : decode zb_M_guest 1 = .ok (.iconst 0, 1) := by decide +kernel
theorem zd_M_guest_2 : decode zb_M_guest 2 = .ok (.putfield 46, 3) := by decide +kernel
theorem zd_M_guest_5 : decode zb_M_guest 5 = .ok (.aload_n 0, 1) := by decide +kernel
theorem zd_M_guest_6 : decode zb_M_guest 6 = .ok (.iload_n 1, 1) := by decide +kernel
theorem zd_M_guest_7 : decode zb_M_guest 7 = .ok (.iload_n 2, 1) := by decide +kernel
theorem zd_M_guest_8 : decode zb_M_guest 8 = .ok (.iload_n 3, 1) := by decide +kernel
theorem zd_M_guest_9 : decode zb_M_guest 9 = .ok (.invokevirtual 94, 3) := by decide +kernel
theorem zd_M_guest_12 : decode zb_M_guest 12 = .ok (.ifCond .eq 21, 3) := by decide +kernel
theorem zd_M_guest_15 : decode zb_M_guest 15 = .ok (.iload 4, 2) := by decide +kernel
theorem zd_M_guest_17 : decode zb_M_guest 17 = .ok (.aload_n 0, 1) := by decide +kernel
theorem zd_M_guest_18 : decode zb_M_guest 18 = .ok (.getfield 10, 3) := by decide +kernel
theorem zd_M_guest_21 : decode zb_M_guest 21 = .ok (.getfield 87, 3) := by decide +kernel
theorem zd_M_guest_24 : decode zb_M_guest 24 = .ok (.sipush 400, 3) := by decide +kernel
theorem zd_M_guest_27 : decode zb_M_guest 27 = .ok (.invokestatic 53, 3) := by decide +kernel
theorem zd_M_guest_30 : decode zb_M_guest 30 = .ok (.ifCond .ne 5, 3) := by decide +kernel
theorem zd_M_guest_33 : decode zb_M_guest 33 = .ok (.iconst (-1), 1) := by decide +kernel
theorem zd_M_guest_34 : decode zb_M_guest 34 = .ok (.ireturn, 1) := by decide +kernel
theorem zd_M_guest_35 : decode zb_M_guest 35 = .ok (.aload_n 0, 1) := by decide +kernel
theorem zd_M_guest_36 : decode zb_M_guest 36 = .ok (.getfield 10, 3) := by decide +kernel
theorem zd_M_guest_39 : decode zb_M_guest 39 = .ok (.getfield 50, 3) := by decide +kernel
theorem zd_M_guest_42 : decode zb_M_guest 42 = .ok (.bipush 40, 2) := by decide +kernel
theorem zd_M_guest_44 : decode zb_M_guest 44 = .ok (.if_icmp .ne 8, 3) := by decide +kernel
theorem zd_M_guest_47 : decode zb_M_guest 47 = .ok (.bipush (-2), 2) := by decide +kernel
theorem zd_M_guest_49 : decode zb_M_guest 49 = .ok (.goto 14, 3) := by decide +kernel
theorem zd_M_guest_52 : decode zb_M_guest 52 = .ok (.aload_n 0, 1) := by decide +kernel
theorem zd_M_guest_53 : decode zb_M_guest 53 = .ok (.iload_n 1, 1) := by decide +kernel
theorem zd_M_guest_54 : decode zb_M_guest 54 = .ok (.iload_n 2, 1) := by decide +kernel
theorem zd_M_guest_55 : decode zb_M_guest 55 = .ok (.bipush (-2), 2) := by decide +kernel
theorem zd_M_guest_57 : decode zb_M_guest 57 = .ok (.iload_n 3, 1) := by decide +kernel
theorem zd_M_guest_58 : decode zb_M_guest 58 = .ok (.iload 4, 2) := by decide +kernel
theorem zd_M_guest_60 : decode zb_M_guest 60 = .ok (.invokevirtual 100, 3) := by decide +kernel
theorem zd_M_guest_63 : decode zb_M_guest 63 = .ok (.ireturn, 1) := by decide +kernel

def zf_M_guest (x1 : Int) (x2 : Int) (x3 : Int) (x4 : Int) (S : Sg) : Option (Int × Sg) :=
    zlt (zu S 9 0 0 4 0) fun S1 => zbd (zf_M_isBirth x1 x2 x3 S1) fun a2 S3 => if a2 = 0 then (some (-1, S3)) else (zbd (zf_M_in x4 (S3 5 0 0 0) 400 S3) fun a5 S6 => if a5 = 0 then (some (-1, S6)) else (if (S6 5 0 0 1) = 40 then (some (-2, S6)) else (zbd (zf_M_comes x1 x2 (-2) x3 x4 S6) fun a9 S10 => some (a9, S10))))
set_option maxHeartbeats 4000000 in
set_option maxRecDepth 100000 in
theorem zw_M_guest {p : Program} {l : Launch} {e : Env} {s : State} {m : MethodId} {args : Array Value} {below : List Frame} {meth : Method} {c : Code} {B : zB} (C : CallFix p m c zb_M_guest 5 s args zT "IslandOfficeModel") (hr : meth.sig.returnType = some .int) (hlk : meth.locks = false) (hK : zK B s) (hSt : zSt B s) (hap : zAp B) {res : Int} {S9 : Sg} : ∀ (x1 : Int) (x2 : Int) (x3 : Int) (x4 : Int) (S : Sg) (nx1 : zn x1) (nx2 : zn x2) (nx3 : zn x3) (nx4 : zn x4), zf_M_guest x1 x2 x3 x4 S = some (res, S9) → ∀ (H : Heap) (locs : List Loc) (ls : Array Slot), zW B S H → va_S B.2.2.2 s.heap H locs → lv_has ls 5 [(0, .ref (B.2.1 9 (0) (0))), (1, .int (zI (x1))), (2, .int (zI (x2))), (3, .int (zI (x3))), (4, .int (zI (x4)))] → W p l e zm_M_guest s m args below meth c H locs 0 0 (MQ below (zQi B res S9) args s 0 0 B.2.2.2) (F0 m 0 ls []) := by
  intro x1 x2 x3 x4 S nx1 nx2 nx3 nx4 hf H locs ls hW hS hl
  unfold zf_M_guest at hf
  refine lv_aload_n C.1 C.2.1 zd_M_guest_0 rfl (lv_at hl 0 rfl) ?_
  refine zr_iconst C zd_M_guest_1 ?_
  obtain ⟨S1, eS1, hf⟩ := zlt_some hf
  refine zp_M_thrown (r := 0) C hK hap hW hS (zvd_9 (by decide) (by decide)) zk_1504 (znb rfl) zd_M_guest_2 (fun H locs hW hS => ?_)
  rw [eS1] at hW
  refine lv_aload_n C.1 C.2.1 zd_M_guest_5 rfl (lv_at hl 0 rfl) ?_
  refine lv_iload_n C.1 C.2.1 zd_M_guest_6 rfl (lv_at hl 1 rfl) ?_
  refine lv_iload_n C.1 C.2.1 zd_M_guest_7 rfl (lv_at hl 2 rfl) ?_
  refine lv_iload_n C.1 C.2.1 zd_M_guest_8 rfl (lv_at hl 3 rfl) ?_
  obtain ⟨a2, S3, ea2, hf⟩ := zbd_some hf
  refine zcVi (As := [.int (zI (x1)), .int (zI (x2)), .int (zI (x3))]) (rest := []) C hK hSt hW hS (zc_M_isBirth hap x1 x2 x3 S1 nx1 nx2 nx3 ea2) zq_M_isBirth zk_1554 (zrecv hK hW (zvd_9 (by decide) (by decide)) (ze_9_0 B _ (0)) rfl) ⟨rfl, rfl, by decide, by decide⟩ ⟨Nat.zero_le _, Nat.zero_le _⟩ rfl hl.1 rfl (lv_room (Nat.le_of_ble_eq_true rfl)) zd_M_guest_9 (fun na2 H locs hW hS => ?_)
  refine zr_if_eq (tgt := 33) C na2 zd_M_guest_12 (by decide) (fun c4 => ?_) (fun c4 => ?_)
  · rw [if_pos c4] at hf
    refine zr_iconst C zd_M_guest_33 ?_
    cases hf
    exact zre_i C hr hlk hK hW hS (znb rfl) zd_M_guest_34
  · rw [if_neg c4] at hf
    refine lv_iload C.1 C.2.1 zd_M_guest_15 (lv_at hl 4 rfl) ?_
    refine lv_aload_n C.1 C.2.1 zd_M_guest_17 rfl (lv_at hl 0 rfl) ?_
    refine zg_M_world (r := 0) C hK hW (zvd_9 (by decide) (by decide)) zk_1500 zd_M_guest_18 ?_
    refine zg_W_week (r := 0) C hK hW (zvd_5 (by decide) (by decide)) zk_1276 zd_M_guest_21 ?_
    refine zr_sipush C zd_M_guest_24 (by decide) ?_
    obtain ⟨a5, S6, ea5, hf⟩ := zbd_some hf
    refine zcSi (As := [.int (zI (x4)), .int (zI (S3 5 0 0 0)), .int (zI (400))]) (rest := []) C hK hSt hW hS (zc_M_in hap x4 (S3 5 0 0 0) 400 S3 nx4 (zWn hW _ _ _ _ rfl) (znb rfl) ea5) zq_M_in zk_1558 ⟨rfl, rfl, by decide, by decide⟩ ⟨Nat.zero_le _, Nat.zero_le _⟩ rfl hl.1 rfl (lv_room (Nat.le_of_ble_eq_true rfl)) zd_M_guest_27 (fun na5 H locs hW hS => ?_)
    refine zr_if_ne (tgt := 35) C na5 zd_M_guest_30 (by decide) (fun c7 => ?_) (fun c7 => ?_)
    · rw [if_neg c7] at hf
      refine lv_aload_n C.1 C.2.1 zd_M_guest_35 rfl (lv_at hl 0 rfl) ?_
      refine zg_M_world (r := 0) C hK hW (zvd_9 (by decide) (by decide)) zk_1500 zd_M_guest_36 ?_
      refine zg_W_people (r := 0) C hK hW (zvd_5 (by decide) (by decide)) zk_1278 zd_M_guest_39 ?_
      refine zr_bipush C zd_M_guest_42 (by decide) ?_
      refine zr_icmp_ne (tgt := 52) C (zWn hW _ _ _ _ rfl) (znb rfl) zd_M_guest_44 (by decide) (fun c8 => ?_) (fun c8 => ?_)
      · rw [if_neg c8] at hf
        refine lv_aload_n C.1 C.2.1 zd_M_guest_52 rfl (lv_at hl 0 rfl) ?_
        refine lv_iload_n C.1 C.2.1 zd_M_guest_53 rfl (lv_at hl 1 rfl) ?_
        refine lv_iload_n C.1 C.2.1 zd_M_guest_54 rfl (lv_at hl 2 rfl) ?_
        refine zr_bipush C zd_M_guest_55 (by decide) ?_
        refine lv_iload_n C.1 C.2.1 zd_M_guest_57 rfl (lv_at hl 3 rfl) ?_
        refine lv_iload C.1 C.2.1 zd_M_guest_58 (lv_at hl 4 rfl) ?_
        obtain ⟨a9, S10, ea9, hf⟩ := zbd_some hf
        refine zcVi (As := [.int (zI (x1)), .int (zI (x2)), .int (zI (-2)), .int (zI (x3)), .int (zI (x4))]) (rest := []) C hK hSt hW hS (zc_M_comes hap x1 x2 (-2) x3 x4 S6 nx1 nx2 (znb rfl) nx3 nx4 ea9) zq_M_comes zk_1568 (zrecv hK hW (zvd_9 (by decide) (by decide)) (ze_9_0 B _ (0)) rfl) ⟨rfl, rfl, by decide, by decide⟩ ⟨Nat.zero_le _, Nat.zero_le _⟩ rfl hl.1 rfl (lv_room (Nat.le_of_ble_eq_true rfl)) zd_M_guest_60 (fun na9 H locs hW hS => ?_)
        cases hf
        exact zre_i C hr hlk hK hW hS na9 zd_M_guest_63
      · rw [if_pos c8] at hf
        refine zr_bipush C zd_M_guest_47 (by decide) ?_
        refine lv_goto (tgt := 63) C.1 C.2.1 zd_M_guest_49 (by decide) ?_
        cases hf
        exact zre_i C hr hlk hK hW hS (znb rfl) zd_M_guest_63
    · rw [if_pos c7] at hf
      refine zr_iconst C zd_M_guest_33 ?_
      cases hf
      exact zre_i C hr hlk hK hW hS (znb rfl) zd_M_guest_34

theorem zc_M_guest {l : Launch} {B : zB} (hap : zAp B) (x1 : Int) (x2 : Int) (x3 : Int) (x4 : Int) (S : Sg) (nx1 : zn x1) (nx2 : zn x2) (nx3 : zn x3) (nx4 : zn x4) {res : Int} {S9 : Sg} (hf : zf_M_guest x1 x2 x3 x4 S = some (res, S9)) : Met l zy_M_guest (Cond.code zy_M_guest zb_M_guest 5 (some .int) :: zT) zm_M_guest (zP B S [.ref (B.2.1 9 (0) (0)), .int (zI (x1)), .int (zI (x2)), .int (zI (x3)), .int (zI (x4))]) (zQi B res S9) 0 0 B.2.2.2 :=
  zmet (by decide) (Nat.le_of_ble_eq_true rfl) (fun p e s m args below meth c C hr hlk hK hSt hW ls hl => zw_M_guest C hr hlk hK hSt hap   x1 x2 x3 x4 S nx1 nx2 nx3 nx4 hf _ _ _ hW va_S.rf hl)
/-! IslandOfficeModel$World.age(I)I -/
abbrev zy_W_age : MethodName := ⟨"IslandOfficeModel$World", "age", "(I)I"⟩
abbrev zb_W_age : ByteArray := prog_15_method_4_code
abbrev zm_W_age : Room := { frames := 0, cells := 0, slots := 0, locals := 0 }
theorem zq_W_age : zMy zy_W_age zb_W_age 2 (some .int) 1 := ⟨zk_1587, zk_1585, zk_1586, zk_15, by decide, by decide, by decide +kernel⟩
theorem zd_W_age_0 : decode zb_W_age 0 = .ok (.aload_n 0, 1) := by decide +kernel
theorem zd_W_age_1 : decode zb_W_age 1 = .ok (.getfield 155, 3) := by decide +kernel
theorem zd_W_age_4 : decode zb_W_age 4 = .ok (.aload_n 0, 1) := by decide +kernel
theorem zd_W_age_5 : decode zb_W_age 5 = .ok (.getfield 9, 3) := by decide +kernel
theorem zd_W_age_8 : decode zb_W_age 8 = .ok (.iload_n 1, 1) := by decide +kernel
theorem zd_W_age_9 : decode zb_W_age 9 = .ok (.iaload, 1) := by decide +kernel
theorem zd_W_age_10 : decode zb_W_age 10 = .ok (.isub, 1) := by decide +kernel
theorem zd_W_age_11 : decode zb_W_age 11 = .ok (.bipush 52, 2) := by decide +kernel
theorem zd_W_age_13 : decode zb_W_age 13 = .ok (.idiv, 1) := by decide +kernel
theorem zd_W_age_14 : decode zb_W_age 14 = .ok (.ireturn, 1) := by decide +kernel

def zf_W_age (r0 : Int) (x1 : Int) (S : Sg) : Option (Int × Sg) :=
    zck (0 ≤ x1 ∧ x1 < 40) <| some (zdiv (zw ((S 5 r0 0 0) - (S 5 r0 1 x1))) 52, S)
set_option maxHeartbeats 4000000 in
set_option maxRecDepth 100000 in
theorem zw_W_age {p : Program} {l : Launch} {e : Env} {s : State} {m : MethodId} {args : Array Value} {below : List Frame} {meth : Method} {c : Code} {B : zB} (C : CallFix p m c zb_W_age 2 s args zT "IslandOfficeModel$World") (hr : meth.sig.returnType = some .int) (hlk : meth.locks = false) (hK : zK B s) (hSt : zSt B s) (hap : zAp B) (r0 : Int) (hr0 : 0 ≤ r0 ∧ r0 < 3) {res : Int} {S9 : Sg} : ∀ (x1 : Int) (S : Sg) (nx1 : zn x1), zf_W_age r0 x1 S = some (res, S9) → ∀ (H : Heap) (locs : List Loc) (ls : Array Slot), zW B S H → va_S B.2.2.2 s.heap H locs → lv_has ls 2 [(0, .ref (B.2.1 5 (r0) (0))), (1, .int (zI (x1)))] → W p l e zm_W_age s m args below meth c H locs 0 0 (MQ below (zQi B res S9) args s 0 0 B.2.2.2) (F0 m 0 ls []) := by
  intro x1 S nx1 hf H locs ls hW hS hl
  unfold zf_W_age at hf
  refine lv_aload_n C.1 C.2.1 zd_W_age_0 rfl (lv_at hl 0 rfl) ?_
  refine zg_W_week (r := r0) C hK hW (zvd_5 hr0 (by decide)) zk_1275 zd_W_age_1 ?_
  refine lv_aload_n C.1 C.2.1 zd_W_age_4 rfl (lv_at hl 0 rfl) ?_
  refine zg_W_birth (r := r0) C hK hW (zvd_5 hr0 (by decide)) zk_1279 zd_W_age_5 ?_
  refine lv_iload_n C.1 C.2.1 zd_W_age_8 rfl (lv_at hl 1 rfl) ?_
  obtain ⟨h1, hf⟩ := zck_some hf
  refine ziald C hK hW (zvd_5 hr0 (by decide)) (fun f => ze_5_1 B f (r0)) (by decide) h1 zd_W_age_9 ?_
  refine zr_isub C zd_W_age_10 ?_
  refine zr_bipush C zd_W_age_11 (by decide) ?_
  refine zr_idiv C (zn_w _) (znb rfl) (by decide) zd_W_age_13 ?_
  cases hf
  exact zre_i C hr hlk hK hW hS (zn_div _ _) zd_W_age_14

theorem zc_W_age {l : Launch} {B : zB} (hap : zAp B) (r0 : Int) (hr0 : 0 ≤ r0 ∧ r0 < 3) (x1 : Int) (S : Sg) (nx1 : zn x1) {res : Int} {S9 : Sg} (hf : zf_W_age r0 x1 S = some (res, S9)) : Met l zy_W_age (Cond.code zy_W_age zb_W_age 2 (some .int) :: zT) zm_W_age (zP B S [.ref (B.2.1 5 (r0) (0)), .int (zI (x1))]) (zQi B res S9) 0 0 B.2.2.2 :=
  zmet (by decide) (Nat.le_of_ble_eq_true rfl) (fun p e s m args below meth c C hr hlk hK hSt hW ls hl => zw_W_age C hr hlk hK hSt hap r0 hr0 x1 S nx1 hf _ _ _ hW va_S.rf hl)
/-! IslandOfficeModel$World.kind(I)I -/
abbrev zy_W_kind : MethodName := ⟨"IslandOfficeModel$World", "kind", "(I)I"⟩
abbrev zb_W_kind : ByteArray := prog_15_method_5_code
abbrev zm_W_kind : Room := { frames := 1, cells := 0, slots := 0, locals := 21 }
theorem zq_W_kind : zMy zy_W_kind zb_W_kind 2 (some .int) 1 := ⟨zk_1583, zk_1581, zk_1582, zk_15, by decide, by decide, by decide +kernel⟩
theorem zd_W_kind_0 : decode zb_W_kind 0 = .ok (.aload_n 0, 1) := by decide +kernel
theorem zd_W_kind_1 : decode zb_W_kind 1 = .ok (.getfield 24, 3) := by decide +kernel
theorem zd_W_kind_4 : decode zb_W_kind 4 = .ok (.iload_n 1, 1) := by decide +kernel
theorem zd_W_kind_5 : decode zb_W_kind 5 = .ok (.iaload, 1) := by decide +kernel
theorem zd_W_kind_6 : decode zb_W_kind 6 = .ok (.iconst 2, 1) := by decide +kernel
theorem zd_W_kind_7 : decode zb_W_kind 7 = .ok (.if_icmp .ne 6, 3) := by decide +kernel
theorem zd_W_kind_10 : decode zb_W_kind 10 = .ok (.bipush (-2), 2) := by decide +kernel
theorem zd_W_kind_12 : decode zb_W_kind 12 = .ok (.ireturn, 1) := by decide +kernel
theorem zd_W_kind_13 : decode zb_W_kind 13 = .ok (.aload_n 0, 1) := by decide +kernel
theorem zd_W_kind_14 : decode zb_W_kind 14 = .ok (.getfield 24, 3) := by decide +kernel
theorem zd_W_kind_17 : decode zb_W_kind 17 = .ok (.iload_n 1, 1) := by decide +kernel
theorem zd_W_kind_18 : decode zb_W_kind 18 = .ok (.iaload, 1) := by decide +kernel
theorem zd_W_kind_19 : decode zb_W_kind 19 = .ok (.iconst 1, 1) := by decide +kernel
theorem zd_W_kind_20 : decode zb_W_kind 20 = .ok (.if_icmp .ne 5, 3) := by decide +kernel
theorem zd_W_kind_23 : decode zb_W_kind 23 = .ok (.iconst 3, 1) := by decide +kernel
theorem zd_W_kind_24 : decode zb_W_kind 24 = .ok (.ireturn, 1) := by decide +kernel
theorem zd_W_kind_25 : decode zb_W_kind 25 = .ok (.aload_n 0, 1) := by decide +kernel
theorem zd_W_kind_26 : decode zb_W_kind 26 = .ok (.getfield 27, 3) := by decide +kernel
theorem zd_W_kind_29 : decode zb_W_kind 29 = .ok (.iload_n 1, 1) := by decide +kernel
theorem zd_W_kind_30 : decode zb_W_kind 30 = .ok (.iaload, 1) := by decide +kernel
theorem zd_W_kind_31 : decode zb_W_kind 31 = .ok (.ifCond .lt 5, 3) := by decide +kernel
theorem zd_W_kind_34 : decode zb_W_kind 34 = .ok (.iconst 5, 1) := by decide +kernel
theorem zd_W_kind_35 : decode zb_W_kind 35 = .ok (.ireturn, 1) := by decide +kernel
theorem zd_W_kind_36 : decode zb_W_kind 36 = .ok (.aload_n 0, 1) := by decide +kernel
theorem zd_W_kind_37 : decode zb_W_kind 37 = .ok (.iload_n 1, 1) := by decide +kernel
theorem zd_W_kind_38 : decode zb_W_kind 38 = .ok (.invokevirtual 189, 3) := by decide +kernel
theorem zd_W_kind_41 : decode zb_W_kind 41 = .ok (.bipush 16, 2) := by decide +kernel
theorem zd_W_kind_43 : decode zb_W_kind 43 = .ok (.if_icmp .ge 7, 3) := by decide +kernel
theorem zd_W_kind_46 : decode zb_W_kind 46 = .ok (.iconst 1, 1) := by decide +kernel
theorem zd_W_kind_47 : decode zb_W_kind 47 = .ok (.goto 31, 3) := by decide +kernel
theorem zd_W_kind_50 : decode zb_W_kind 50 = .ok (.aload_n 0, 1) := by decide +kernel
theorem zd_W_kind_51 : decode zb_W_kind 51 = .ok (.iload_n 1, 1) := by decide +kernel
theorem zd_W_kind_52 : decode zb_W_kind 52 = .ok (.invokevirtual 189, 3) := by decide +kernel
theorem zd_W_kind_55 : decode zb_W_kind 55 = .ok (.bipush 65, 2) := by decide +kernel
theorem zd_W_kind_57 : decode zb_W_kind 57 = .ok (.if_icmp .lt 7, 3) := by decide +kernel
theorem zd_W_kind_60 : decode zb_W_kind 60 = .ok (.iconst 4, 1) := by decide +kernel
theorem zd_W_kind_61 : decode zb_W_kind 61 = .ok (.goto 17, 3) := by decide +kernel
theorem zd_W_kind_64 : decode zb_W_kind 64 = .ok (.aload_n 0, 1) := by decide +kernel
theorem zd_W_kind_65 : decode zb_W_kind 65 = .ok (.getfield 21, 3) := by decide +kernel
theorem zd_W_kind_68 : decode zb_W_kind 68 = .ok (.iload_n 1, 1) := by decide +kernel
theorem zd_W_kind_69 : decode zb_W_kind 69 = .ok (.iaload, 1) := by decide +kernel
theorem zd_W_kind_70 : decode zb_W_kind 70 = .ok (.ifCond .eq 7, 3) := by decide +kernel
theorem zd_W_kind_73 : decode zb_W_kind 73 = .ok (.iconst 2, 1) := by decide +kernel
theorem zd_W_kind_74 : decode zb_W_kind 74 = .ok (.goto 4, 3) := by decide +kernel
theorem zd_W_kind_77 : decode zb_W_kind 77 = .ok (.iconst 0, 1) := by decide +kernel
theorem zd_W_kind_78 : decode zb_W_kind 78 = .ok (.ireturn, 1) := by decide +kernel

def zf_W_kind (r0 : Int) (x1 : Int) (S : Sg) : Option (Int × Sg) :=
    zck (0 ≤ x1 ∧ x1 < 40) <| if (S 5 r0 5 x1) = 2 then (some (-2, S)) else (if (S 5 r0 5 x1) = 1 then (some (3, S)) else (if (S 5 r0 6 x1) < 0 then (zbd (zf_W_age (r0) x1 S) fun a5 S6 => if 16 ≤ a5 then (zbd (zf_W_age (r0) x1 S6) fun a8 S9 => if a8 < 65 then (if (S9 5 r0 4 x1) = 0 then (some (0, S9)) else (some (2, S9))) else (some (4, S9))) else (some (1, S6))) else (some (5, S))))
set_option maxHeartbeats 4000000 in
set_option maxRecDepth 100000 in
theorem zw_W_kind {p : Program} {l : Launch} {e : Env} {s : State} {m : MethodId} {args : Array Value} {below : List Frame} {meth : Method} {c : Code} {B : zB} (C : CallFix p m c zb_W_kind 2 s args zT "IslandOfficeModel$World") (hr : meth.sig.returnType = some .int) (hlk : meth.locks = false) (hK : zK B s) (hSt : zSt B s) (hap : zAp B) (r0 : Int) (hr0 : 0 ≤ r0 ∧ r0 < 3) {res : Int} {S9 : Sg} : ∀ (x1 : Int) (S : Sg) (nx1 : zn x1), zf_W_kind r0 x1 S = some (res, S9) → ∀ (H : Heap) (locs : List Loc) (ls : Array Slot), zW B S H → va_S B.2.2.2 s.heap H locs → lv_has ls 2 [(0, .ref (B.2.1 5 (r0) (0))), (1, .int (zI (x1)))] → W p l e zm_W_kind s m args below meth c H locs 0 0 (MQ below (zQi B res S9) args s 0 0 B.2.2.2) (F0 m 0 ls []) := by
  intro x1 S nx1 hf H locs ls hW hS hl
  unfold zf_W_kind at hf
  refine lv_aload_n C.1 C.2.1 zd_W_kind_0 rfl (lv_at hl 0 rfl) ?_
  refine zg_W_state (r := r0) C hK hW (zvd_5 hr0 (by decide)) zk_1287 zd_W_kind_1 ?_
  refine lv_iload_n C.1 C.2.1 zd_W_kind_4 rfl (lv_at hl 1 rfl) ?_
  obtain ⟨h1, hf⟩ := zck_some hf
  refine ziald C hK hW (zvd_5 hr0 (by decide)) (fun f => ze_5_5 B f (r0)) (by decide) h1 zd_W_kind_5 ?_
  refine zr_iconst C zd_W_kind_6 ?_
  refine zr_icmp_ne (tgt := 13) C (zWn hW _ _ _ _ rfl) (znb rfl) zd_W_kind_7 (by decide) (fun c2 => ?_) (fun c2 => ?_)
  · rw [if_neg c2] at hf
    refine lv_aload_n C.1 C.2.1 zd_W_kind_13 rfl (lv_at hl 0 rfl) ?_
    refine zg_W_state (r := r0) C hK hW (zvd_5 hr0 (by decide)) zk_1287 zd_W_kind_14 ?_
    refine lv_iload_n C.1 C.2.1 zd_W_kind_17 rfl (lv_at hl 1 rfl) ?_
    refine ziald C hK hW (zvd_5 hr0 (by decide)) (fun f => ze_5_5 B f (r0)) (by decide) h1 zd_W_kind_18 ?_
    refine zr_iconst C zd_W_kind_19 ?_
    refine zr_icmp_ne (tgt := 25) C (zWn hW _ _ _ _ rfl) (znb rfl) zd_W_kind_20 (by decide) (fun c3 => ?_) (fun c3 => ?_)
    · rw [if_neg c3] at hf
      refine lv_aload_n C.1 C.2.1 zd_W_kind_25 rfl (lv_at hl 0 rfl) ?_
      refine zg_W_end (r := r0) C hK hW (zvd_5 hr0 (by decide)) zk_1289 zd_W_kind_26 ?_
      refine lv_iload_n C.1 C.2.1 zd_W_kind_29 rfl (lv_at hl 1 rfl) ?_
      refine ziald C hK hW (zvd_5 hr0 (by decide)) (fun f => ze_5_6 B f (r0)) (by decide) h1 zd_W_kind_30 ?_
      refine zr_if_lt (tgt := 36) C (zWn hW _ _ _ _ rfl) zd_W_kind_31 (by decide) (fun c4 => ?_) (fun c4 => ?_)
      · rw [if_pos c4] at hf
        refine lv_aload_n C.1 C.2.1 zd_W_kind_36 rfl (lv_at hl 0 rfl) ?_
        refine lv_iload_n C.1 C.2.1 zd_W_kind_37 rfl (lv_at hl 1 rfl) ?_
        obtain ⟨a5, S6, ea5, hf⟩ := zbd_some hf
        refine zcVi (As := [.int (zI (x1))]) (rest := []) C hK hSt hW hS (zc_W_age hap (r0) hr0 x1 S nx1 ea5) zq_W_age zk_1584 (zrecv hK hW (zvd_5 hr0 (by decide)) (ze_5_0 B _ (r0)) rfl) ⟨rfl, rfl, by decide, by decide⟩ ⟨Nat.zero_le _, Nat.zero_le _⟩ rfl hl.1 rfl (lv_room (Nat.le_of_ble_eq_true rfl)) zd_W_kind_38 (fun na5 H locs hW hS => ?_)
        refine zr_bipush C zd_W_kind_41 (by decide) ?_
        refine zr_icmp_ge (tgt := 50) C na5 (znb rfl) zd_W_kind_43 (by decide) (fun c7 => ?_) (fun c7 => ?_)
        · rw [if_pos c7] at hf
          refine lv_aload_n C.1 C.2.1 zd_W_kind_50 rfl (lv_at hl 0 rfl) ?_
          refine lv_iload_n C.1 C.2.1 zd_W_kind_51 rfl (lv_at hl 1 rfl) ?_
          obtain ⟨a8, S9, ea8, hf⟩ := zbd_some hf
          refine zcVi (As := [.int (zI (x1))]) (rest := []) C hK hSt hW hS (zc_W_age hap (r0) hr0 x1 S6 nx1 ea8) zq_W_age zk_1584 (zrecv hK hW (zvd_5 hr0 (by decide)) (ze_5_0 B _ (r0)) rfl) ⟨rfl, rfl, by decide, by decide⟩ ⟨Nat.zero_le _, Nat.zero_le _⟩ rfl hl.1 rfl (lv_room (Nat.le_of_ble_eq_true rfl)) zd_W_kind_52 (fun na8 H locs hW hS => ?_)
          refine zr_bipush C zd_W_kind_55 (by decide) ?_
          refine zr_icmp_lt (tgt := 64) C na8 (znb rfl) zd_W_kind_57 (by decide) (fun c10 => ?_) (fun c10 => ?_)
          · rw [if_pos c10] at hf
            refine lv_aload_n C.1 C.2.1 zd_W_kind_64 rfl (lv_at hl 0 rfl) ?_
            refine zg_W_skills (r := r0) C hK hW (zvd_5 hr0 (by decide)) zk_1285 zd_W_kind_65 ?_
            refine lv_iload_n C.1 C.2.1 zd_W_kind_68 rfl (lv_at hl 1 rfl) ?_
            refine ziald C hK hW (zvd_5 hr0 (by decide)) (fun f => ze_5_4 B f (r0)) (by decide) h1 zd_W_kind_69 ?_
            refine zr_if_eq (tgt := 77) C (zWn hW _ _ _ _ rfl) zd_W_kind_70 (by decide) (fun c11 => ?_) (fun c11 => ?_)
            · rw [if_pos c11] at hf
              refine zr_iconst C zd_W_kind_77 ?_
              cases hf
              exact zre_i C hr hlk hK hW hS (znb rfl) zd_W_kind_78
            · rw [if_neg c11] at hf
              refine zr_iconst C zd_W_kind_73 ?_
              refine lv_goto (tgt := 78) C.1 C.2.1 zd_W_kind_74 (by decide) ?_
              cases hf
              exact zre_i C hr hlk hK hW hS (znb rfl) zd_W_kind_78
          · rw [if_neg c10] at hf
            refine zr_iconst C zd_W_kind_60 ?_
            refine lv_goto (tgt := 78) C.1 C.2.1 zd_W_kind_61 (by decide) ?_
            cases hf
            exact zre_i C hr hlk hK hW hS (znb rfl) zd_W_kind_78
        · rw [if_neg c7] at hf
          refine zr_iconst C zd_W_kind_46 ?_
          refine lv_goto (tgt := 78) C.1 C.2.1 zd_W_kind_47 (by decide) ?_
          cases hf
          exact zre_i C hr hlk hK hW hS (znb rfl) zd_W_kind_78
      · rw [if_neg c4] at hf
        refine zr_iconst C zd_W_kind_34 ?_
        cases hf
        exact zre_i C hr hlk hK hW hS (znb rfl) zd_W_kind_35
    · rw [if_pos c3] at hf
      refine zr_iconst C zd_W_kind_23 ?_
      cases hf
      exact zre_i C hr hlk hK hW hS (znb rfl) zd_W_kind_24
  · rw [if_pos c2] at hf
    refine zr_bipush C zd_W_kind_10 (by decide) ?_
    cases hf
    exact zre_i C hr hlk hK hW hS (znb rfl) zd_W_kind_12

theorem zc_W_kind {l : Launch} {B : zB} (hap : zAp B) (r0 : Int) (hr0 : 0 ≤ r0 ∧ r0 < 3) (x1 : Int) (S : Sg) (nx1 : zn x1) {res : Int} {S9 : Sg} (hf : zf_W_kind r0 x1 S = some (res, S9)) : Met l zy_W_kind (Cond.code zy_W_kind zb_W_kind 2 (some .int) :: zT) zm_W_kind (zP B S [.ref (B.2.1 5 (r0) (0)), .int (zI (x1))]) (zQi B res S9) 0 0 B.2.2.2 :=
  zmet (by decide) (Nat.le_of_ble_eq_true rfl) (fun p e s m args below meth c C hr hlk hK hSt hW ls hl => zw_W_kind C hr hlk hK hSt hap r0 hr0 x1 S nx1 hf _ _ _ hW va_S.rf hl)
/-! IslandOfficeModel.birth(I)I -/
abbrev zy_M_birth : MethodName := ⟨"IslandOfficeModel", "birth", "(I)I"⟩
abbrev zb_M_birth : ByteArray := prog_14_method_13_code
abbrev zm_M_birth : Room := { frames := 2, cells := 0, slots := 0, locals := 43 }
theorem zq_M_birth : zMy zy_M_birth zb_M_birth 3 (some .int) 1 := ⟨zk_1579, zk_1577, zk_1578, zk_14, by decide, by decide, by decide +kernel⟩
theorem zd_M_birth_0 : decode zb_M_birth 0 = .ok (.aload_n 0, 1) := by decide +kernel
theorem zd_M_birth_1 : decode zb_M_birth 1 = .ok (.iconst 0, 1) := by decide +kernel
theorem zd_M_birth_2 : decode zb_M_birth 2 = .ok (.putfield 46, 3) := by decide +kernel
theorem zd_M_birth_5 : decode zb_M_birth 5 = .ok (.aload_n 0, 1) := by decide +kernel
theorem zd_M_birth_6 : decode zb_M_birth 6 = .ok (.iload_n 1, 1) := by decide +kernel
theorem zd_M_birth_7 : decode zb_M_birth 7 = .ok (.invokevirtual 97, 3) := by decide +kernel
theorem zd_M_birth_10 : decode zb_M_birth 10 = .ok (.ifCond .ne 5, 3) := by decide +kernel
theorem zd_M_birth_13 : decode zb_M_birth 13 = .ok (.iconst (-1), 1) := by decide +kernel
theorem zd_M_birth_14 : decode zb_M_birth 14 = .ok (.ireturn, 1) := by decide +kernel
theorem zd_M_birth_15 : decode zb_M_birth 15 = .ok (.aload_n 0, 1) := by decide +kernel
theorem zd_M_birth_16 : decode zb_M_birth 16 = .ok (.getfield 10, 3) := by decide +kernel
theorem zd_M_birth_19 : decode zb_M_birth 19 = .ok (.getfield 50, 3) := by decide +kernel
theorem zd_M_birth_22 : decode zb_M_birth 22 = .ok (.bipush 40, 2) := by decide +kernel
theorem zd_M_birth_24 : decode zb_M_birth 24 = .ok (.if_icmp .ne 6, 3) := by decide +kernel
theorem zd_M_birth_27 : decode zb_M_birth 27 = .ok (.bipush (-2), 2) := by decide +kernel
theorem zd_M_birth_29 : decode zb_M_birth 29 = .ok (.ireturn, 1) := by decide +kernel
theorem zd_M_birth_30 : decode zb_M_birth 30 = .ok (.aload_n 0, 1) := by decide +kernel
theorem zd_M_birth_31 : decode zb_M_birth 31 = .ok (.getfield 10, 3) := by decide +kernel
theorem zd_M_birth_34 : decode zb_M_birth 34 = .ok (.iload_n 1, 1) := by decide +kernel
theorem zd_M_birth_35 : decode zb_M_birth 35 = .ok (.invokevirtual 104, 3) := by decide +kernel
theorem zd_M_birth_38 : decode zb_M_birth 38 = .ok (.istore_n 2, 1) := by decide +kernel
theorem zd_M_birth_39 : decode zb_M_birth 39 = .ok (.iload_n 2, 1) := by decide +kernel
theorem zd_M_birth_40 : decode zb_M_birth 40 = .ok (.ifCond .eq 11, 3) := by decide +kernel
theorem zd_M_birth_43 : decode zb_M_birth 43 = .ok (.iload_n 2, 1) := by decide +kernel
theorem zd_M_birth_44 : decode zb_M_birth 44 = .ok (.iconst 2, 1) := by decide +kernel
theorem zd_M_birth_45 : decode zb_M_birth 45 = .ok (.if_icmp .eq 6, 3) := by decide +kernel
theorem zd_M_birth_48 : decode zb_M_birth 48 = .ok (.bipush (-3), 2) := by decide +kernel
theorem zd_M_birth_50 : decode zb_M_birth 50 = .ok (.ireturn, 1) := by decide +kernel
theorem zd_M_birth_51 : decode zb_M_birth 51 = .ok (.aload_n 0, 1) := by decide +kernel
theorem zd_M_birth_52 : decode zb_M_birth 52 = .ok (.aload_n 0, 1) := by decide +kernel
theorem zd_M_birth_53 : decode zb_M_birth 53 = .ok (.getfield 10, 3) := by decide +kernel
theorem zd_M_birth_56 : decode zb_M_birth 56 = .ok (.getfield 87, 3) := by decide +kernel
theorem zd_M_birth_59 : decode zb_M_birth 59 = .ok (.aload_n 0, 1) := by decide +kernel
theorem zd_M_birth_60 : decode zb_M_birth 60 = .ok (.getfield 10, 3) := by decide +kernel
theorem zd_M_birth_63 : decode zb_M_birth 63 = .ok (.getfield 63, 3) := by decide +kernel
theorem zd_M_birth_66 : decode zb_M_birth 66 = .ok (.iload_n 1, 1) := by decide +kernel
theorem zd_M_birth_67 : decode zb_M_birth 67 = .ok (.iaload, 1) := by decide +kernel
theorem zd_M_birth_68 : decode zb_M_birth 68 = .ok (.iload_n 1, 1) := by decide +kernel
theorem zd_M_birth_69 : decode zb_M_birth 69 = .ok (.iconst 0, 1) := by decide +kernel
theorem zd_M_birth_70 : decode zb_M_birth 70 = .ok (.iconst (-1), 1) := by decide +kernel
theorem zd_M_birth_71 : decode zb_M_birth 71 = .ok (.invokevirtual 100, 3) := by decide +kernel
theorem zd_M_birth_74 : decode zb_M_birth 74 = .ok (.ireturn, 1) := by decide +kernel

def zf_M_birth_51 (x1 : Int) (S : Sg) : Option (Int × Sg) :=
    zck (0 ≤ x1 ∧ x1 < 40) <| zbd (zf_M_comes (S 5 0 0 0) (S 5 0 2 x1) x1 0 (-1) S) fun a2 S3 => some (a2, S3)
set_option maxHeartbeats 4000000 in
set_option maxRecDepth 100000 in
theorem zw_M_birth_51 {p : Program} {l : Launch} {e : Env} {s : State} {m : MethodId} {args : Array Value} {below : List Frame} {meth : Method} {c : Code} {B : zB} (C : CallFix p m c zb_M_birth 3 s args zT "IslandOfficeModel") (hr : meth.sig.returnType = some .int) (hlk : meth.locks = false) (hK : zK B s) (hSt : zSt B s) (hap : zAp B) {res : Int} {S9 : Sg} : ∀ (x1 : Int) (S : Sg) (nx1 : zn x1), zf_M_birth_51 x1 S = some (res, S9) → ∀ (H : Heap) (locs : List Loc) (ls : Array Slot), zW B S H → va_S B.2.2.2 s.heap H locs → lv_has ls 3 [(0, .ref (B.2.1 9 (0) (0))), (1, .int (zI (x1)))] → W p l e zm_M_birth s m args below meth c H locs 0 0 (MQ below (zQi B res S9) args s 0 0 B.2.2.2) (F0 m 51 ls []) := by
  intro x1 S nx1 hf H locs ls hW hS hl
  unfold zf_M_birth_51 at hf
  refine lv_aload_n C.1 C.2.1 zd_M_birth_51 rfl (lv_at hl 0 rfl) ?_
  refine lv_aload_n C.1 C.2.1 zd_M_birth_52 rfl (lv_at hl 0 rfl) ?_
  refine zg_M_world (r := 0) C hK hW (zvd_9 (by decide) (by decide)) zk_1500 zd_M_birth_53 ?_
  refine zg_W_week (r := 0) C hK hW (zvd_5 (by decide) (by decide)) zk_1276 zd_M_birth_56 ?_
  refine lv_aload_n C.1 C.2.1 zd_M_birth_59 rfl (lv_at hl 0 rfl) ?_
  refine zg_M_world (r := 0) C hK hW (zvd_9 (by decide) (by decide)) zk_1500 zd_M_birth_60 ?_
  refine zg_W_house (r := 0) C hK hW (zvd_5 (by decide) (by decide)) zk_1282 zd_M_birth_63 ?_
  refine lv_iload_n C.1 C.2.1 zd_M_birth_66 rfl (lv_at hl 1 rfl) ?_
  obtain ⟨h1, hf⟩ := zck_some hf
  refine ziald C hK hW (zvd_5 (by decide) (by decide)) (fun f => ze_5_2 B f (0)) (by decide) h1 zd_M_birth_67 ?_
  refine lv_iload_n C.1 C.2.1 zd_M_birth_68 rfl (lv_at hl 1 rfl) ?_
  refine zr_iconst C zd_M_birth_69 ?_
  refine zr_iconst C zd_M_birth_70 ?_
  obtain ⟨a2, S3, ea2, hf⟩ := zbd_some hf
  refine zcVi (As := [.int (zI (S 5 0 0 0)), .int (zI (S 5 0 2 x1)), .int (zI (x1)), .int (zI (0)), .int (zI (-1))]) (rest := []) C hK hSt hW hS (zc_M_comes hap (S 5 0 0 0) (S 5 0 2 x1) x1 0 (-1) S (zWn hW _ _ _ _ rfl) (zWn hW _ _ _ _ rfl) nx1 (znb rfl) (znb rfl) ea2) zq_M_comes zk_1568 (zrecv hK hW (zvd_9 (by decide) (by decide)) (ze_9_0 B _ (0)) rfl) ⟨rfl, rfl, by decide, by decide⟩ ⟨Nat.zero_le _, Nat.zero_le _⟩ rfl hl.1 rfl (lv_room (Nat.le_of_ble_eq_true rfl)) zd_M_birth_71 (fun na2 H locs hW hS => ?_)
  cases hf
  exact zre_i C hr hlk hK hW hS na2 zd_M_birth_74

def zf_M_birth (x1 : Int) (S : Sg) : Option (Int × Sg) :=
    zlt (zu S 9 0 0 4 0) fun S1 => zbd (zf_M_isPerson x1 S1) fun a2 S3 => if a2 = 0 then (some (-1, S3)) else (if (S3 5 0 0 1) = 40 then (some (-2, S3)) else (zbd (zf_W_kind (0) x1 S3) fun a6 S7 => if a6 = 0 then (zf_M_birth_51 (x1) S7) else (if a6 = 2 then (zf_M_birth_51 (x1) S7) else (some (-3, S7)))))
set_option maxHeartbeats 4000000 in
set_option maxRecDepth 100000 in
theorem zw_M_birth {p : Program} {l : Launch} {e : Env} {s : State} {m : MethodId} {args : Array Value} {below : List Frame} {meth : Method} {c : Code} {B : zB} (C : CallFix p m c zb_M_birth 3 s args zT "IslandOfficeModel") (hr : meth.sig.returnType = some .int) (hlk : meth.locks = false) (hK : zK B s) (hSt : zSt B s) (hap : zAp B) {res : Int} {S9 : Sg} : ∀ (x1 : Int) (S : Sg) (nx1 : zn x1), zf_M_birth x1 S = some (res, S9) → ∀ (H : Heap) (locs : List Loc) (ls : Array Slot), zW B S H → va_S B.2.2.2 s.heap H locs → lv_has ls 3 [(0, .ref (B.2.1 9 (0) (0))), (1, .int (zI (x1)))] → W p l e zm_M_birth s m args below meth c H locs 0 0 (MQ below (zQi B res S9) args s 0 0 B.2.2.2) (F0 m 0 ls []) := by
  intro x1 S nx1 hf H locs ls hW hS hl
  unfold zf_M_birth at hf
  refine lv_aload_n C.1 C.2.1 zd_M_birth_0 rfl (lv_at hl 0 rfl) ?_
  refine zr_iconst C zd_M_birth_1 ?_
  obtain ⟨S1, eS1, hf⟩ := zlt_some hf
  refine zp_M_thrown (r := 0) C hK hap hW hS (zvd_9 (by decide) (by decide)) zk_1504 (znb rfl) zd_M_birth_2 (fun H locs hW hS => ?_)
  rw [eS1] at hW
  refine lv_aload_n C.1 C.2.1 zd_M_birth_5 rfl (lv_at hl 0 rfl) ?_
  refine lv_iload_n C.1 C.2.1 zd_M_birth_6 rfl (lv_at hl 1 rfl) ?_
  obtain ⟨a2, S3, ea2, hf⟩ := zbd_some hf
  refine zcVi (As := [.int (zI (x1))]) (rest := []) C hK hSt hW hS (zc_M_isPerson hap x1 S1 nx1 ea2) zq_M_isPerson zk_1564 (zrecv hK hW (zvd_9 (by decide) (by decide)) (ze_9_0 B _ (0)) rfl) ⟨rfl, rfl, by decide, by decide⟩ ⟨Nat.zero_le _, Nat.zero_le _⟩ rfl hl.1 rfl (lv_room (Nat.le_of_ble_eq_true rfl)) zd_M_birth_7 (fun na2 H locs hW hS => ?_)
  refine zr_if_ne (tgt := 15) C na2 zd_M_birth_10 (by decide) (fun c4 => ?_) (fun c4 => ?_)
  · rw [if_neg c4] at hf
    refine lv_aload_n C.1 C.2.1 zd_M_birth_15 rfl (lv_at hl 0 rfl) ?_
    refine zg_M_world (r := 0) C hK hW (zvd_9 (by decide) (by decide)) zk_1500 zd_M_birth_16 ?_
    refine zg_W_people (r := 0) C hK hW (zvd_5 (by decide) (by decide)) zk_1278 zd_M_birth_19 ?_
    refine zr_bipush C zd_M_birth_22 (by decide) ?_
    refine zr_icmp_ne (tgt := 30) C (zWn hW _ _ _ _ rfl) (znb rfl) zd_M_birth_24 (by decide) (fun c5 => ?_) (fun c5 => ?_)
    · rw [if_neg c5] at hf
      refine lv_aload_n C.1 C.2.1 zd_M_birth_30 rfl (lv_at hl 0 rfl) ?_
      refine zg_M_world (r := 0) C hK hW (zvd_9 (by decide) (by decide)) zk_1500 zd_M_birth_31 ?_
      refine lv_iload_n C.1 C.2.1 zd_M_birth_34 rfl (lv_at hl 1 rfl) ?_
      obtain ⟨a6, S7, ea6, hf⟩ := zbd_some hf
      refine zcVi (As := [.int (zI (x1))]) (rest := []) C hK hSt hW hS (zc_W_kind hap (0) (by decide) x1 S3 nx1 ea6) zq_W_kind zk_1580 (zrecv hK hW (zvd_5 (by decide) (by decide)) (ze_5_0 B _ (0)) rfl) ⟨rfl, rfl, by decide, by decide⟩ ⟨Nat.zero_le _, Nat.zero_le _⟩ rfl hl.1 rfl (lv_room (Nat.le_of_ble_eq_true rfl)) zd_M_birth_35 (fun na6 H locs hW hS => ?_)
      refine lv_istore_n (lv' := [(2, .int (zI (a6))), (0, .ref (B.2.1 9 (0) (0))), (1, .int (zI (x1)))]) C.1 C.2.1 zd_M_birth_38 rfl hl (by decide) rfl (fun ls hl => ?_)
      refine lv_iload_n C.1 C.2.1 zd_M_birth_39 rfl (lv_at hl 0 rfl) ?_
      refine zr_if_eq (tgt := 51) C na6 zd_M_birth_40 (by decide) (fun c8 => ?_) (fun c8 => ?_)
      · rw [if_pos c8] at hf
        exact zw_M_birth_51 C hr hlk hK hSt hap   (x1) S7 nx1 hf _ _ _ hW hS (lv_sub hl [1, 2] rfl)
      · rw [if_neg c8] at hf
        refine lv_iload_n C.1 C.2.1 zd_M_birth_43 rfl (lv_at hl 0 rfl) ?_
        refine zr_iconst C zd_M_birth_44 ?_
        refine zr_icmp_eq (tgt := 51) C na6 (znb rfl) zd_M_birth_45 (by decide) (fun c9 => ?_) (fun c9 => ?_)
        · rw [if_pos c9] at hf
          exact zw_M_birth_51 C hr hlk hK hSt hap   (x1) S7 nx1 hf _ _ _ hW hS (lv_sub hl [1, 2] rfl)
        · rw [if_neg c9] at hf
          refine zr_bipush C zd_M_birth_48 (by decide) ?_
          cases hf
          exact zre_i C hr hlk hK hW hS (znb rfl) zd_M_birth_50
    · rw [if_pos c5] at hf
      refine zr_bipush C zd_M_birth_27 (by decide) ?_
      cases hf
      exact zre_i C hr hlk hK hW hS (znb rfl) zd_M_birth_29
  · rw [if_pos c4] at hf
    refine zr_iconst C zd_M_birth_13 ?_
    cases hf
    exact zre_i C hr hlk hK hW hS (znb rfl) zd_M_birth_14

theorem zc_M_birth {l : Launch} {B : zB} (hap : zAp B) (x1 : Int) (S : Sg) (nx1 : zn x1) {res : Int} {S9 : Sg} (hf : zf_M_birth x1 S = some (res, S9)) : Met l zy_M_birth (Cond.code zy_M_birth zb_M_birth 3 (some .int) :: zT) zm_M_birth (zP B S [.ref (B.2.1 9 (0) (0)), .int (zI (x1))]) (zQi B res S9) 0 0 B.2.2.2 :=
  zmet (by decide) (Nat.le_of_ble_eq_true rfl) (fun p e s m args below meth c C hr hlk hK hSt hW ls hl => zw_M_birth C hr hlk hK hSt hap   x1 S nx1 hf _ _ _ hW va_S.rf hl)
/-! IslandOfficeModel.death(I)I -/
abbrev zy_M_death : MethodName := ⟨"IslandOfficeModel", "death", "(I)I"⟩
abbrev zb_M_death : ByteArray := prog_14_method_14_code
abbrev zm_M_death : Room := { frames := 2, cells := 0, slots := 0, locals := 43 }
theorem zq_M_death : zMy zy_M_death zb_M_death 2 (some .int) 1 := ⟨zk_1591, zk_1589, zk_1590, zk_14, by decide, by decide, by decide +kernel⟩
theorem zd_M_death_0 : decode zb_M_death 0 = .ok (.aload_n 0, 1) := by decide +kernel
theorem zd_M_death_1 : decode zb_M_death 1 = .ok (.iconst 0, 1) := by decide +kernel
theorem zd_M_death_2 : decode zb_M_death 2 = .ok (.putfield 46, 3) := by decide +kernel
theorem zd_M_death_5 : decode zb_M_death 5 = .ok (.aload_n 0, 1) := by decide +kernel
theorem zd_M_death_6 : decode zb_M_death 6 = .ok (.iload_n 1, 1) := by decide +kernel
theorem zd_M_death_7 : decode zb_M_death 7 = .ok (.invokevirtual 97, 3) := by decide +kernel
theorem zd_M_death_10 : decode zb_M_death 10 = .ok (.ifCond .ne 5, 3) := by decide +kernel
theorem zd_M_death_13 : decode zb_M_death 13 = .ok (.iconst (-1), 1) := by decide +kernel
theorem zd_M_death_14 : decode zb_M_death 14 = .ok (.ireturn, 1) := by decide +kernel
theorem zd_M_death_15 : decode zb_M_death 15 = .ok (.aload_n 0, 1) := by decide +kernel
theorem zd_M_death_16 : decode zb_M_death 16 = .ok (.getfield 10, 3) := by decide +kernel
theorem zd_M_death_19 : decode zb_M_death 19 = .ok (.getfield 72, 3) := by decide +kernel
theorem zd_M_death_22 : decode zb_M_death 22 = .ok (.iload_n 1, 1) := by decide +kernel
theorem zd_M_death_23 : decode zb_M_death 23 = .ok (.iaload, 1) := by decide +kernel
theorem zd_M_death_24 : decode zb_M_death 24 = .ok (.iconst 2, 1) := by decide +kernel
theorem zd_M_death_25 : decode zb_M_death 25 = .ok (.if_icmp .ne 6, 3) := by decide +kernel
theorem zd_M_death_28 : decode zb_M_death 28 = .ok (.bipush (-3), 2) := by decide +kernel
theorem zd_M_death_30 : decode zb_M_death 30 = .ok (.ireturn, 1) := by decide +kernel
theorem zd_M_death_31 : decode zb_M_death 31 = .ok (.aload_n 0, 1) := by decide +kernel
theorem zd_M_death_32 : decode zb_M_death 32 = .ok (.getfield 10, 3) := by decide +kernel
theorem zd_M_death_35 : decode zb_M_death 35 = .ok (.getfield 72, 3) := by decide +kernel
theorem zd_M_death_38 : decode zb_M_death 38 = .ok (.iload_n 1, 1) := by decide +kernel
theorem zd_M_death_39 : decode zb_M_death 39 = .ok (.iconst 2, 1) := by decide +kernel
theorem zd_M_death_40 : decode zb_M_death 40 = .ok (.iastore, 1) := by decide +kernel
theorem zd_M_death_41 : decode zb_M_death 41 = .ok (.aload_n 0, 1) := by decide +kernel
theorem zd_M_death_42 : decode zb_M_death 42 = .ok (.getfield 10, 3) := by decide +kernel
theorem zd_M_death_45 : decode zb_M_death 45 = .ok (.iload_n 1, 1) := by decide +kernel
theorem zd_M_death_46 : decode zb_M_death 46 = .ok (.invokevirtual 108, 3) := by decide +kernel
theorem zd_M_death_49 : decode zb_M_death 49 = .ok (.ireturn, 1) := by decide +kernel

def zf_M_death (x1 : Int) (S : Sg) : Option (Int × Sg) :=
    zlt (zu S 9 0 0 4 0) fun S1 => zbd (zf_M_isPerson x1 S1) fun a2 S3 => if a2 = 0 then (some (-1, S3)) else (zck (0 ≤ x1 ∧ x1 < 40) <| if (S3 5 0 5 x1) = 2 then (some (-3, S3)) else (zlt (zu S3 5 0 5 x1 2) fun S7 => zbd (zf_W_age (0) x1 S7) fun a8 S9 => some (a8, S9)))
set_option maxHeartbeats 4000000 in
set_option maxRecDepth 100000 in
theorem zw_M_death {p : Program} {l : Launch} {e : Env} {s : State} {m : MethodId} {args : Array Value} {below : List Frame} {meth : Method} {c : Code} {B : zB} (C : CallFix p m c zb_M_death 2 s args zT "IslandOfficeModel") (hr : meth.sig.returnType = some .int) (hlk : meth.locks = false) (hK : zK B s) (hSt : zSt B s) (hap : zAp B) {res : Int} {S9 : Sg} : ∀ (x1 : Int) (S : Sg) (nx1 : zn x1), zf_M_death x1 S = some (res, S9) → ∀ (H : Heap) (locs : List Loc) (ls : Array Slot), zW B S H → va_S B.2.2.2 s.heap H locs → lv_has ls 2 [(0, .ref (B.2.1 9 (0) (0))), (1, .int (zI (x1)))] → W p l e zm_M_death s m args below meth c H locs 0 0 (MQ below (zQi B res S9) args s 0 0 B.2.2.2) (F0 m 0 ls []) := by
  intro x1 S nx1 hf H locs ls hW hS hl
  unfold zf_M_death at hf
  refine lv_aload_n C.1 C.2.1 zd_M_death_0 rfl (lv_at hl 0 rfl) ?_
  refine zr_iconst C zd_M_death_1 ?_
  obtain ⟨S1, eS1, hf⟩ := zlt_some hf
  refine zp_M_thrown (r := 0) C hK hap hW hS (zvd_9 (by decide) (by decide)) zk_1504 (znb rfl) zd_M_death_2 (fun H locs hW hS => ?_)
  rw [eS1] at hW
  refine lv_aload_n C.1 C.2.1 zd_M_death_5 rfl (lv_at hl 0 rfl) ?_
  refine lv_iload_n C.1 C.2.1 zd_M_death_6 rfl (lv_at hl 1 rfl) ?_
  obtain ⟨a2, S3, ea2, hf⟩ := zbd_some hf
  refine zcVi (As := [.int (zI (x1))]) (rest := []) C hK hSt hW hS (zc_M_isPerson hap x1 S1 nx1 ea2) zq_M_isPerson zk_1564 (zrecv hK hW (zvd_9 (by decide) (by decide)) (ze_9_0 B _ (0)) rfl) ⟨rfl, rfl, by decide, by decide⟩ ⟨Nat.zero_le _, Nat.zero_le _⟩ rfl hl.1 rfl (lv_room (Nat.le_of_ble_eq_true rfl)) zd_M_death_7 (fun na2 H locs hW hS => ?_)
  refine zr_if_ne (tgt := 15) C na2 zd_M_death_10 (by decide) (fun c4 => ?_) (fun c4 => ?_)
  · rw [if_neg c4] at hf
    refine lv_aload_n C.1 C.2.1 zd_M_death_15 rfl (lv_at hl 0 rfl) ?_
    refine zg_M_world (r := 0) C hK hW (zvd_9 (by decide) (by decide)) zk_1500 zd_M_death_16 ?_
    refine zg_W_state (r := 0) C hK hW (zvd_5 (by decide) (by decide)) zk_1288 zd_M_death_19 ?_
    refine lv_iload_n C.1 C.2.1 zd_M_death_22 rfl (lv_at hl 1 rfl) ?_
    obtain ⟨h5, hf⟩ := zck_some hf
    refine ziald C hK hW (zvd_5 (by decide) (by decide)) (fun f => ze_5_5 B f (0)) (by decide) h5 zd_M_death_23 ?_
    refine zr_iconst C zd_M_death_24 ?_
    refine zr_icmp_ne (tgt := 31) C (zWn hW _ _ _ _ rfl) (znb rfl) zd_M_death_25 (by decide) (fun c6 => ?_) (fun c6 => ?_)
    · rw [if_neg c6] at hf
      refine lv_aload_n C.1 C.2.1 zd_M_death_31 rfl (lv_at hl 0 rfl) ?_
      refine zg_M_world (r := 0) C hK hW (zvd_9 (by decide) (by decide)) zk_1500 zd_M_death_32 ?_
      refine zg_W_state (r := 0) C hK hW (zvd_5 (by decide) (by decide)) zk_1288 zd_M_death_35 ?_
      refine lv_iload_n C.1 C.2.1 zd_M_death_38 rfl (lv_at hl 1 rfl) ?_
      refine zr_iconst C zd_M_death_39 ?_
      obtain ⟨S7, eS7, hf⟩ := zlt_some hf
      refine ziast C hK hap hW hS (zvd_5 (by decide) (by decide)) (fun f => ze_5_5 B f (0)) (by decide) rfl (znb rfl) h5 zd_M_death_40 (fun H locs hW hS => ?_)
      rw [eS7] at hW
      refine lv_aload_n C.1 C.2.1 zd_M_death_41 rfl (lv_at hl 0 rfl) ?_
      refine zg_M_world (r := 0) C hK hW (zvd_9 (by decide) (by decide)) zk_1500 zd_M_death_42 ?_
      refine lv_iload_n C.1 C.2.1 zd_M_death_45 rfl (lv_at hl 1 rfl) ?_
      obtain ⟨a8, S9, ea8, hf⟩ := zbd_some hf
      refine zcVi (As := [.int (zI (x1))]) (rest := []) C hK hSt hW hS (zc_W_age hap (0) (by decide) x1 S7 nx1 ea8) zq_W_age zk_1592 (zrecv hK hW (zvd_5 (by decide) (by decide)) (ze_5_0 B _ (0)) rfl) ⟨rfl, rfl, by decide, by decide⟩ ⟨Nat.zero_le _, Nat.zero_le _⟩ rfl hl.1 rfl (lv_room (Nat.le_of_ble_eq_true rfl)) zd_M_death_46 (fun na8 H locs hW hS => ?_)
      cases hf
      exact zre_i C hr hlk hK hW hS na8 zd_M_death_49
    · rw [if_pos c6] at hf
      refine zr_bipush C zd_M_death_28 (by decide) ?_
      cases hf
      exact zre_i C hr hlk hK hW hS (znb rfl) zd_M_death_30
  · rw [if_pos c4] at hf
    refine zr_iconst C zd_M_death_13 ?_
    cases hf
    exact zre_i C hr hlk hK hW hS (znb rfl) zd_M_death_14

theorem zc_M_death {l : Launch} {B : zB} (hap : zAp B) (x1 : Int) (S : Sg) (nx1 : zn x1) {res : Int} {S9 : Sg} (hf : zf_M_death x1 S = some (res, S9)) : Met l zy_M_death (Cond.code zy_M_death zb_M_death 2 (some .int) :: zT) zm_M_death (zP B S [.ref (B.2.1 9 (0) (0)), .int (zI (x1))]) (zQi B res S9) 0 0 B.2.2.2 :=
  zmet (by decide) (Nat.le_of_ble_eq_true rfl) (fun p e s m args below meth c C hr hlk hK hSt hW ls hl => zw_M_death C hr hlk hK hSt hap   x1 S nx1 hf _ _ _ hW va_S.rf hl)
/-! IslandOfficeModel.back(I)I -/
abbrev zy_M_back : MethodName := ⟨"IslandOfficeModel", "back", "(I)I"⟩
abbrev zb_M_back : ByteArray := prog_14_method_15_code
abbrev zm_M_back : Room := { frames := 2, cells := 0, slots := 0, locals := 43 }
theorem zq_M_back : zMy zy_M_back zb_M_back 2 (some .int) 1 := ⟨zk_1596, zk_1594, zk_1595, zk_14, by decide, by decide, by decide +kernel⟩
theorem zd_M_back_0 : decode zb_M_back 0 = .ok (.aload_n 0, 1) := by decide +kernel
theorem zd_M_back_1 : decode zb_M_back 1 = .ok (.iconst 0, 1) := by decide +kernel
theorem zd_M_back_2 : decode zb_M_back 2 = .ok (.putfield 46, 3) := by decide +kernel
theorem zd_M_back_5 : decode zb_M_back 5 = .ok (.aload_n 0, 1) := by decide +kernel
theorem zd_M_back_6 : decode zb_M_back 6 = .ok (.iload_n 1, 1) := by decide +kernel
theorem zd_M_back_7 : decode zb_M_back 7 = .ok (.invokevirtual 97, 3) := by decide +kernel
theorem zd_M_back_10 : decode zb_M_back 10 = .ok (.ifCond .ne 5, 3) := by decide +kernel
theorem zd_M_back_13 : decode zb_M_back 13 = .ok (.iconst (-1), 1) := by decide +kernel
theorem zd_M_back_14 : decode zb_M_back 14 = .ok (.ireturn, 1) := by decide +kernel
theorem zd_M_back_15 : decode zb_M_back 15 = .ok (.aload_n 0, 1) := by decide +kernel
theorem zd_M_back_16 : decode zb_M_back 16 = .ok (.getfield 10, 3) := by decide +kernel
theorem zd_M_back_19 : decode zb_M_back 19 = .ok (.getfield 72, 3) := by decide +kernel
theorem zd_M_back_22 : decode zb_M_back 22 = .ok (.iload_n 1, 1) := by decide +kernel
theorem zd_M_back_23 : decode zb_M_back 23 = .ok (.iaload, 1) := by decide +kernel
theorem zd_M_back_24 : decode zb_M_back 24 = .ok (.iconst 1, 1) := by decide +kernel
theorem zd_M_back_25 : decode zb_M_back 25 = .ok (.if_icmp .eq 6, 3) := by decide +kernel
theorem zd_M_back_28 : decode zb_M_back 28 = .ok (.bipush (-3), 2) := by decide +kernel
theorem zd_M_back_30 : decode zb_M_back 30 = .ok (.ireturn, 1) := by decide +kernel
theorem zd_M_back_31 : decode zb_M_back 31 = .ok (.aload_n 0, 1) := by decide +kernel
theorem zd_M_back_32 : decode zb_M_back 32 = .ok (.getfield 10, 3) := by decide +kernel
theorem zd_M_back_35 : decode zb_M_back 35 = .ok (.getfield 72, 3) := by decide +kernel
theorem zd_M_back_38 : decode zb_M_back 38 = .ok (.iload_n 1, 1) := by decide +kernel
theorem zd_M_back_39 : decode zb_M_back 39 = .ok (.iconst 0, 1) := by decide +kernel
theorem zd_M_back_40 : decode zb_M_back 40 = .ok (.iastore, 1) := by decide +kernel
theorem zd_M_back_41 : decode zb_M_back 41 = .ok (.aload_n 0, 1) := by decide +kernel
theorem zd_M_back_42 : decode zb_M_back 42 = .ok (.getfield 10, 3) := by decide +kernel
theorem zd_M_back_45 : decode zb_M_back 45 = .ok (.getfield 78, 3) := by decide +kernel
theorem zd_M_back_48 : decode zb_M_back 48 = .ok (.iload_n 1, 1) := by decide +kernel
theorem zd_M_back_49 : decode zb_M_back 49 = .ok (.iconst 0, 1) := by decide +kernel
theorem zd_M_back_50 : decode zb_M_back 50 = .ok (.iastore, 1) := by decide +kernel
theorem zd_M_back_51 : decode zb_M_back 51 = .ok (.aload_n 0, 1) := by decide +kernel
theorem zd_M_back_52 : decode zb_M_back 52 = .ok (.getfield 10, 3) := by decide +kernel
theorem zd_M_back_55 : decode zb_M_back 55 = .ok (.iload_n 1, 1) := by decide +kernel
theorem zd_M_back_56 : decode zb_M_back 56 = .ok (.invokevirtual 108, 3) := by decide +kernel
theorem zd_M_back_59 : decode zb_M_back 59 = .ok (.ireturn, 1) := by decide +kernel

def zf_M_back (x1 : Int) (S : Sg) : Option (Int × Sg) :=
    zlt (zu S 9 0 0 4 0) fun S1 => zbd (zf_M_isPerson x1 S1) fun a2 S3 => if a2 = 0 then (some (-1, S3)) else (zck (0 ≤ x1 ∧ x1 < 40) <| if (S3 5 0 5 x1) = 1 then (zlt (zu S3 5 0 5 x1 0) fun S7 => zlt (zu S7 5 0 7 x1 0) fun S8 => zbd (zf_W_age (0) x1 S8) fun a9 S10 => some (a9, S10)) else (some (-3, S3)))
set_option maxHeartbeats 4000000 in
set_option maxRecDepth 100000 in
theorem zw_M_back {p : Program} {l : Launch} {e : Env} {s : State} {m : MethodId} {args : Array Value} {below : List Frame} {meth : Method} {c : Code} {B : zB} (C : CallFix p m c zb_M_back 2 s args zT "IslandOfficeModel") (hr : meth.sig.returnType = some .int) (hlk : meth.locks = false) (hK : zK B s) (hSt : zSt B s) (hap : zAp B) {res : Int} {S9 : Sg} : ∀ (x1 : Int) (S : Sg) (nx1 : zn x1), zf_M_back x1 S = some (res, S9) → ∀ (H : Heap) (locs : List Loc) (ls : Array Slot), zW B S H → va_S B.2.2.2 s.heap H locs → lv_has ls 2 [(0, .ref (B.2.1 9 (0) (0))), (1, .int (zI (x1)))] → W p l e zm_M_back s m args below meth c H locs 0 0 (MQ below (zQi B res S9) args s 0 0 B.2.2.2) (F0 m 0 ls []) := by
  intro x1 S nx1 hf H locs ls hW hS hl
  unfold zf_M_back at hf
  refine lv_aload_n C.1 C.2.1 zd_M_back_0 rfl (lv_at hl 0 rfl) ?_
  refine zr_iconst C zd_M_back_1 ?_
  obtain ⟨S1, eS1, hf⟩ := zlt_some hf
  refine zp_M_thrown (r := 0) C hK hap hW hS (zvd_9 (by decide) (by decide)) zk_1504 (znb rfl) zd_M_back_2 (fun H locs hW hS => ?_)
  rw [eS1] at hW
  refine lv_aload_n C.1 C.2.1 zd_M_back_5 rfl (lv_at hl 0 rfl) ?_
  refine lv_iload_n C.1 C.2.1 zd_M_back_6 rfl (lv_at hl 1 rfl) ?_
  obtain ⟨a2, S3, ea2, hf⟩ := zbd_some hf
  refine zcVi (As := [.int (zI (x1))]) (rest := []) C hK hSt hW hS (zc_M_isPerson hap x1 S1 nx1 ea2) zq_M_isPerson zk_1564 (zrecv hK hW (zvd_9 (by decide) (by decide)) (ze_9_0 B _ (0)) rfl) ⟨rfl, rfl, by decide, by decide⟩ ⟨Nat.zero_le _, Nat.zero_le _⟩ rfl hl.1 rfl (lv_room (Nat.le_of_ble_eq_true rfl)) zd_M_back_7 (fun na2 H locs hW hS => ?_)
  refine zr_if_ne (tgt := 15) C na2 zd_M_back_10 (by decide) (fun c4 => ?_) (fun c4 => ?_)
  · rw [if_neg c4] at hf
    refine lv_aload_n C.1 C.2.1 zd_M_back_15 rfl (lv_at hl 0 rfl) ?_
    refine zg_M_world (r := 0) C hK hW (zvd_9 (by decide) (by decide)) zk_1500 zd_M_back_16 ?_
    refine zg_W_state (r := 0) C hK hW (zvd_5 (by decide) (by decide)) zk_1288 zd_M_back_19 ?_
    refine lv_iload_n C.1 C.2.1 zd_M_back_22 rfl (lv_at hl 1 rfl) ?_
    obtain ⟨h5, hf⟩ := zck_some hf
    refine ziald C hK hW (zvd_5 (by decide) (by decide)) (fun f => ze_5_5 B f (0)) (by decide) h5 zd_M_back_23 ?_
    refine zr_iconst C zd_M_back_24 ?_
    refine zr_icmp_eq (tgt := 31) C (zWn hW _ _ _ _ rfl) (znb rfl) zd_M_back_25 (by decide) (fun c6 => ?_) (fun c6 => ?_)
    · rw [if_pos c6] at hf
      refine lv_aload_n C.1 C.2.1 zd_M_back_31 rfl (lv_at hl 0 rfl) ?_
      refine zg_M_world (r := 0) C hK hW (zvd_9 (by decide) (by decide)) zk_1500 zd_M_back_32 ?_
      refine zg_W_state (r := 0) C hK hW (zvd_5 (by decide) (by decide)) zk_1288 zd_M_back_35 ?_
      refine lv_iload_n C.1 C.2.1 zd_M_back_38 rfl (lv_at hl 1 rfl) ?_
      refine zr_iconst C zd_M_back_39 ?_
      obtain ⟨S7, eS7, hf⟩ := zlt_some hf
      refine ziast C hK hap hW hS (zvd_5 (by decide) (by decide)) (fun f => ze_5_5 B f (0)) (by decide) rfl (znb rfl) h5 zd_M_back_40 (fun H locs hW hS => ?_)
      rw [eS7] at hW
      refine lv_aload_n C.1 C.2.1 zd_M_back_41 rfl (lv_at hl 0 rfl) ?_
      refine zg_M_world (r := 0) C hK hW (zvd_9 (by decide) (by decide)) zk_1500 zd_M_back_42 ?_
      refine zg_W_discontent (r := 0) C hK hW (zvd_5 (by decide) (by decide)) zk_1292 zd_M_back_45 ?_
      refine lv_iload_n C.1 C.2.1 zd_M_back_48 rfl (lv_at hl 1 rfl) ?_
      refine zr_iconst C zd_M_back_49 ?_
      obtain ⟨S8, eS8, hf⟩ := zlt_some hf
      refine ziast C hK hap hW hS (zvd_5 (by decide) (by decide)) (fun f => ze_5_7 B f (0)) (by decide) rfl (znb rfl) h5 zd_M_back_50 (fun H locs hW hS => ?_)
      rw [eS8] at hW
      refine lv_aload_n C.1 C.2.1 zd_M_back_51 rfl (lv_at hl 0 rfl) ?_
      refine zg_M_world (r := 0) C hK hW (zvd_9 (by decide) (by decide)) zk_1500 zd_M_back_52 ?_
      refine lv_iload_n C.1 C.2.1 zd_M_back_55 rfl (lv_at hl 1 rfl) ?_
      obtain ⟨a9, S10, ea9, hf⟩ := zbd_some hf
      refine zcVi (As := [.int (zI (x1))]) (rest := []) C hK hSt hW hS (zc_W_age hap (0) (by decide) x1 S8 nx1 ea9) zq_W_age zk_1592 (zrecv hK hW (zvd_5 (by decide) (by decide)) (ze_5_0 B _ (0)) rfl) ⟨rfl, rfl, by decide, by decide⟩ ⟨Nat.zero_le _, Nat.zero_le _⟩ rfl hl.1 rfl (lv_room (Nat.le_of_ble_eq_true rfl)) zd_M_back_56 (fun na9 H locs hW hS => ?_)
      cases hf
      exact zre_i C hr hlk hK hW hS na9 zd_M_back_59
    · rw [if_neg c6] at hf
      refine zr_bipush C zd_M_back_28 (by decide) ?_
      cases hf
      exact zre_i C hr hlk hK hW hS (znb rfl) zd_M_back_30
  · rw [if_pos c4] at hf
    refine zr_iconst C zd_M_back_13 ?_
    cases hf
    exact zre_i C hr hlk hK hW hS (znb rfl) zd_M_back_14

theorem zc_M_back {l : Launch} {B : zB} (hap : zAp B) (x1 : Int) (S : Sg) (nx1 : zn x1) {res : Int} {S9 : Sg} (hf : zf_M_back x1 S = some (res, S9)) : Met l zy_M_back (Cond.code zy_M_back zb_M_back 2 (some .int) :: zT) zm_M_back (zP B S [.ref (B.2.1 9 (0) (0)), .int (zI (x1))]) (zQi B res S9) 0 0 B.2.2.2 :=
  zmet (by decide) (Nat.le_of_ble_eq_true rfl) (fun p e s m args below meth c C hr hlk hK hSt hW ls hl => zw_M_back C hr hlk hK hSt hap   x1 S nx1 hf _ _ _ hW va_S.rf hl)
/-! IslandOfficeModel.skill(IIZ)I -/
abbrev zy_M_skill : MethodName := ⟨"IslandOfficeModel", "skill", "(IIZ)I"⟩
abbrev zb_M_skill : ByteArray := prog_14_method_16_code
abbrev zm_M_skill : Room := { frames := 2, cells := 0, slots := 0, locals := 43 }
theorem zq_M_skill : zMy zy_M_skill zb_M_skill 5 (some .int) 3 := ⟨zk_1600, zk_1598, zk_1599, zk_14, by decide, by decide, by decide +kernel⟩
theorem zd_M_skill_0 : decode zb_M_skill 0 = .ok (.aload_n 0, 1) := by decide +kernel
theorem zd_M_skill_1 : decode zb_M_skill 1 = .ok (.iconst 0, 1) := by decide +kernel
theorem zd_M_skill_2 : decode zb_M_skill 2 = .ok (.putfield 46, 3) := by decide +kernel
theorem zd_M_skill_5 : decode zb_M_skill 5 = .ok (.aload_n 0, 1) := by decide +kernel
theorem zd_M_skill_6 : decode zb_M_skill 6 = .ok (.iload_n 1, 1) := by decide +kernel
theorem zd_M_skill_7 : decode zb_M_skill 7 = .ok (.invokevirtual 97, 3) := by decide +kernel
theorem zd_M_skill_10 : decode zb_M_skill 10 = .ok (.ifCond .eq 13, 3) := by decide +kernel
theorem zd_M_skill_13 : decode zb_M_skill 13 = .ok (.iload_n 2, 1) := by decide +kernel
theorem zd_M_skill_14 : decode zb_M_skill 14 = .ok (.iconst 0, 1) := by decide +kernel
theorem zd_M_skill_15 : decode zb_M_skill 15 = .ok (.bipush 7, 2) := by decide +kernel
theorem zd_M_skill_17 : decode zb_M_skill 17 = .ok (.invokestatic 53, 3) := by decide +kernel
theorem zd_M_skill_20 : decode zb_M_skill 20 = .ok (.ifCond .ne 5, 3) := by decide +kernel
theorem zd_M_skill_23 : decode zb_M_skill 23 = .ok (.iconst (-1), 1) := by decide +kernel
theorem zd_M_skill_24 : decode zb_M_skill 24 = .ok (.ireturn, 1) := by decide +kernel
theorem zd_M_skill_25 : decode zb_M_skill 25 = .ok (.aload_n 0, 1) := by decide +kernel
theorem zd_M_skill_26 : decode zb_M_skill 26 = .ok (.getfield 10, 3) := by decide +kernel
theorem zd_M_skill_29 : decode zb_M_skill 29 = .ok (.getfield 72, 3) := by decide +kernel
theorem zd_M_skill_32 : decode zb_M_skill 32 = .ok (.iload_n 1, 1) := by decide +kernel
theorem zd_M_skill_33 : decode zb_M_skill 33 = .ok (.iaload, 1) := by decide +kernel
theorem zd_M_skill_34 : decode zb_M_skill 34 = .ok (.iconst 2, 1) := by decide +kernel
theorem zd_M_skill_35 : decode zb_M_skill 35 = .ok (.if_icmp .ne 6, 3) := by decide +kernel
theorem zd_M_skill_38 : decode zb_M_skill 38 = .ok (.bipush (-3), 2) := by decide +kernel
theorem zd_M_skill_40 : decode zb_M_skill 40 = .ok (.ireturn, 1) := by decide +kernel
theorem zd_M_skill_41 : decode zb_M_skill 41 = .ok (.aload_n 0, 1) := by decide +kernel
theorem zd_M_skill_42 : decode zb_M_skill 42 = .ok (.getfield 10, 3) := by decide +kernel
theorem zd_M_skill_45 : decode zb_M_skill 45 = .ok (.getfield 69, 3) := by decide +kernel
theorem zd_M_skill_48 : decode zb_M_skill 48 = .ok (.iload_n 1, 1) := by decide +kernel
theorem zd_M_skill_49 : decode zb_M_skill 49 = .ok (.iaload, 1) := by decide +kernel
theorem zd_M_skill_50 : decode zb_M_skill 50 = .ok (.iload_n 2, 1) := by decide +kernel
theorem zd_M_skill_51 : decode zb_M_skill 51 = .ok (.ishr, 1) := by decide +kernel
theorem zd_M_skill_52 : decode zb_M_skill 52 = .ok (.iconst 1, 1) := by decide +kernel
theorem zd_M_skill_53 : decode zb_M_skill 53 = .ok (.iand, 1) := by decide +kernel
theorem zd_M_skill_54 : decode zb_M_skill 54 = .ok (.iconst 1, 1) := by decide +kernel
theorem zd_M_skill_55 : decode zb_M_skill 55 = .ok (.if_icmp .ne 7, 3) := by decide +kernel
theorem zd_M_skill_58 : decode zb_M_skill 58 = .ok (.iconst 1, 1) := by decide +kernel
theorem zd_M_skill_59 : decode zb_M_skill 59 = .ok (.goto 4, 3) := by decide +kernel
theorem zd_M_skill_62 : decode zb_M_skill 62 = .ok (.iconst 0, 1) := by decide +kernel
theorem zd_M_skill_63 : decode zb_M_skill 63 = .ok (.istore 4, 2) := by decide +kernel
theorem zd_M_skill_65 : decode zb_M_skill 65 = .ok (.aload_n 0, 1) := by decide +kernel
theorem zd_M_skill_66 : decode zb_M_skill 66 = .ok (.getfield 10, 3) := by decide +kernel
theorem zd_M_skill_69 : decode zb_M_skill 69 = .ok (.getfield 69, 3) := by decide +kernel
theorem zd_M_skill_72 : decode zb_M_skill 72 = .ok (.iload_n 1, 1) := by decide +kernel
theorem zd_M_skill_73 : decode zb_M_skill 73 = .ok (.iload_n 3, 1) := by decide +kernel
theorem zd_M_skill_74 : decode zb_M_skill 74 = .ok (.ifCond .eq 19, 3) := by decide +kernel
theorem zd_M_skill_77 : decode zb_M_skill 77 = .ok (.aload_n 0, 1) := by decide +kernel
theorem zd_M_skill_78 : decode zb_M_skill 78 = .ok (.getfield 10, 3) := by decide +kernel
theorem zd_M_skill_81 : decode zb_M_skill 81 = .ok (.getfield 69, 3) := by decide +kernel
theorem zd_M_skill_84 : decode zb_M_skill 84 = .ok (.iload_n 1, 1) := by decide +kernel
theorem zd_M_skill_85 : decode zb_M_skill 85 = .ok (.iaload, 1) := by decide +kernel
theorem zd_M_skill_86 : decode zb_M_skill 86 = .ok (.iconst 1, 1) := by decide +kernel
theorem zd_M_skill_87 : decode zb_M_skill 87 = .ok (.iload_n 2, 1) := by decide +kernel
theorem zd_M_skill_88 : decode zb_M_skill 88 = .ok (.ishl, 1) := by decide +kernel
theorem zd_M_skill_89 : decode zb_M_skill 89 = .ok (.ior, 1) := by decide +kernel
theorem zd_M_skill_90 : decode zb_M_skill 90 = .ok (.goto 18, 3) := by decide +kernel
theorem zd_M_skill_93 : decode zb_M_skill 93 = .ok (.aload_n 0, 1) := by decide +kernel
theorem zd_M_skill_94 : decode zb_M_skill 94 = .ok (.getfield 10, 3) := by decide +kernel
theorem zd_M_skill_97 : decode zb_M_skill 97 = .ok (.getfield 69, 3) := by decide +kernel
theorem zd_M_skill_100 : decode zb_M_skill 100 = .ok (.iload_n 1, 1) := by decide +kernel
theorem zd_M_skill_101 : decode zb_M_skill 101 = .ok (.iaload, 1) := by decide +kernel
theorem zd_M_skill_102 : decode zb_M_skill 102 = .ok (.iconst 1, 1) := by decide +kernel
theorem zd_M_skill_103 : decode zb_M_skill 103 = .ok (.iload_n 2, 1) := by decide +kernel
theorem zd_M_skill_104 : decode zb_M_skill 104 = .ok (.ishl, 1) := by decide +kernel
theorem zd_M_skill_105 : decode zb_M_skill 105 = .ok (.iconst (-1), 1) := by decide +kernel
theorem zd_M_skill_106 : decode zb_M_skill 106 = .ok (.ixor, 1) := by decide +kernel
theorem zd_M_skill_107 : decode zb_M_skill 107 = .ok (.iand, 1) := by decide +kernel
theorem zd_M_skill_108 : decode zb_M_skill 108 = .ok (.iastore, 1) := by decide +kernel
theorem zd_M_skill_109 : decode zb_M_skill 109 = .ok (.iload 4, 2) := by decide +kernel
theorem zd_M_skill_111 : decode zb_M_skill 111 = .ok (.iload_n 3, 1) := by decide +kernel
theorem zd_M_skill_112 : decode zb_M_skill 112 = .ok (.if_icmp .eq 7, 3) := by decide +kernel
theorem zd_M_skill_115 : decode zb_M_skill 115 = .ok (.iconst 1, 1) := by decide +kernel
theorem zd_M_skill_116 : decode zb_M_skill 116 = .ok (.goto 4, 3) := by decide +kernel
theorem zd_M_skill_119 : decode zb_M_skill 119 = .ok (.iconst 0, 1) := by decide +kernel
theorem zd_M_skill_120 : decode zb_M_skill 120 = .ok (.ireturn, 1) := by decide +kernel

def zf_M_skill_108 (x3 : Int) (x4 : Int) (xt1 : Int) (xt2 : Int) (S : Sg) : Option (Int × Sg) :=
    zck (0 ≤ xt1 ∧ xt1 < 40) <| zlt (zu S 5 0 4 xt1 xt2) fun S2 => if x4 = x3 then (some (0, S2)) else (some (1, S2))
set_option maxHeartbeats 4000000 in
set_option maxRecDepth 100000 in
theorem zw_M_skill_108 {p : Program} {l : Launch} {e : Env} {s : State} {m : MethodId} {args : Array Value} {below : List Frame} {meth : Method} {c : Code} {B : zB} (C : CallFix p m c zb_M_skill 5 s args zT "IslandOfficeModel") (hr : meth.sig.returnType = some .int) (hlk : meth.locks = false) (hK : zK B s) (hSt : zSt B s) (hap : zAp B) {res : Int} {S9 : Sg} : ∀ (x3 : Int) (x4 : Int) (xt1 : Int) (xt2 : Int) (S : Sg) (nx3 : zn x3) (nx4 : zn x4) (nxt1 : zn xt1) (nxt2 : zn xt2), zf_M_skill_108 x3 x4 xt1 xt2 S = some (res, S9) → ∀ (H : Heap) (locs : List Loc) (ls : Array Slot), zW B S H → va_S B.2.2.2 s.heap H locs → lv_has ls 5 [(3, .int (zI (x3))), (4, .int (zI (x4)))] → W p l e zm_M_skill s m args below meth c H locs 0 0 (MQ below (zQi B res S9) args s 0 0 B.2.2.2) (F0 m 108 ls [.int (zI (xt2)), .int (zI (xt1)), .ref (B.2.1 5 (0) (4))]) := by
  intro x3 x4 xt1 xt2 S nx3 nx4 nxt1 nxt2 hf H locs ls hW hS hl
  unfold zf_M_skill_108 at hf
  obtain ⟨h1, hf⟩ := zck_some hf
  obtain ⟨S2, eS2, hf⟩ := zlt_some hf
  refine ziast C hK hap hW hS (zvd_5 (by decide) (by decide)) (fun f => ze_5_4 B f (0)) (by decide) rfl nxt2 h1 zd_M_skill_108 (fun H locs hW hS => ?_)
  rw [eS2] at hW
  refine lv_iload C.1 C.2.1 zd_M_skill_109 (lv_at hl 1 rfl) ?_
  refine lv_iload_n C.1 C.2.1 zd_M_skill_111 rfl (lv_at hl 0 rfl) ?_
  refine zr_icmp_eq (tgt := 119) C nx4 nx3 zd_M_skill_112 (by decide) (fun c3 => ?_) (fun c3 => ?_)
  · rw [if_pos c3] at hf
    refine zr_iconst C zd_M_skill_119 ?_
    cases hf
    exact zre_i C hr hlk hK hW hS (znb rfl) zd_M_skill_120
  · rw [if_neg c3] at hf
    refine zr_iconst C zd_M_skill_115 ?_
    refine lv_goto (tgt := 120) C.1 C.2.1 zd_M_skill_116 (by decide) ?_
    cases hf
    exact zre_i C hr hlk hK hW hS (znb rfl) zd_M_skill_120

def zf_M_skill_63 (x1 : Int) (x2 : Int) (x3 : Int) (xt0 : Int) (S : Sg) : Option (Int × Sg) :=
    if x3 = 0 then (zck (0 ≤ x1 ∧ x1 < 40) <| zf_M_skill_108 (x3) (xt0) (x1) (zand (S 5 0 4 x1) (zxor (zshl 1 x2) (-1))) S) else (zck (0 ≤ x1 ∧ x1 < 40) <| zf_M_skill_108 (x3) (xt0) (x1) (zor (S 5 0 4 x1) (zshl 1 x2)) S)
set_option maxHeartbeats 4000000 in
set_option maxRecDepth 100000 in
theorem zw_M_skill_63 {p : Program} {l : Launch} {e : Env} {s : State} {m : MethodId} {args : Array Value} {below : List Frame} {meth : Method} {c : Code} {B : zB} (C : CallFix p m c zb_M_skill 5 s args zT "IslandOfficeModel") (hr : meth.sig.returnType = some .int) (hlk : meth.locks = false) (hK : zK B s) (hSt : zSt B s) (hap : zAp B) {res : Int} {S9 : Sg} : ∀ (x1 : Int) (x2 : Int) (x3 : Int) (xt0 : Int) (S : Sg) (nx1 : zn x1) (nx2 : zn x2) (nx3 : zn x3) (nxt0 : zn xt0), zf_M_skill_63 x1 x2 x3 xt0 S = some (res, S9) → ∀ (H : Heap) (locs : List Loc) (ls : Array Slot), zW B S H → va_S B.2.2.2 s.heap H locs → lv_has ls 5 [(0, .ref (B.2.1 9 (0) (0))), (1, .int (zI (x1))), (2, .int (zI (x2))), (3, .int (zI (x3)))] → W p l e zm_M_skill s m args below meth c H locs 0 0 (MQ below (zQi B res S9) args s 0 0 B.2.2.2) (F0 m 63 ls [.int (zI (xt0))]) := by
  intro x1 x2 x3 xt0 S nx1 nx2 nx3 nxt0 hf H locs ls hW hS hl
  unfold zf_M_skill_63 at hf
  refine lv_istore (lv' := [(4, .int (zI (xt0))), (0, .ref (B.2.1 9 (0) (0))), (1, .int (zI (x1))), (2, .int (zI (x2))), (3, .int (zI (x3)))]) C.1 C.2.1 zd_M_skill_63 hl (by decide) rfl (fun ls hl => ?_)
  refine lv_aload_n C.1 C.2.1 zd_M_skill_65 rfl (lv_at hl 1 rfl) ?_
  refine zg_M_world (r := 0) C hK hW (zvd_9 (by decide) (by decide)) zk_1500 zd_M_skill_66 ?_
  refine zg_W_skills (r := 0) C hK hW (zvd_5 (by decide) (by decide)) zk_1286 zd_M_skill_69 ?_
  refine lv_iload_n C.1 C.2.1 zd_M_skill_72 rfl (lv_at hl 2 rfl) ?_
  refine lv_iload_n C.1 C.2.1 zd_M_skill_73 rfl (lv_at hl 4 rfl) ?_
  refine zr_if_eq (tgt := 93) C nx3 zd_M_skill_74 (by decide) (fun c1 => ?_) (fun c1 => ?_)
  · rw [if_pos c1] at hf
    refine lv_aload_n C.1 C.2.1 zd_M_skill_93 rfl (lv_at hl 1 rfl) ?_
    refine zg_M_world (r := 0) C hK hW (zvd_9 (by decide) (by decide)) zk_1500 zd_M_skill_94 ?_
    refine zg_W_skills (r := 0) C hK hW (zvd_5 (by decide) (by decide)) zk_1286 zd_M_skill_97 ?_
    refine lv_iload_n C.1 C.2.1 zd_M_skill_100 rfl (lv_at hl 2 rfl) ?_
    obtain ⟨h2, hf⟩ := zck_some hf
    refine ziald C hK hW (zvd_5 (by decide) (by decide)) (fun f => ze_5_4 B f (0)) (by decide) h2 zd_M_skill_101 ?_
    refine zr_iconst C zd_M_skill_102 ?_
    refine lv_iload_n C.1 C.2.1 zd_M_skill_103 rfl (lv_at hl 3 rfl) ?_
    refine zr_ishl C zd_M_skill_104 ?_
    refine zr_iconst C zd_M_skill_105 ?_
    refine zr_ixor C zd_M_skill_106 ?_
    refine zr_iand C zd_M_skill_107 ?_
    exact zw_M_skill_108 C hr hlk hK hSt hap   (x3) (xt0) (x1) (zand (S 5 0 4 x1) (zxor (zshl 1 x2) (-1))) S nx3 nxt0 nx1 (zn_and _ _) hf _ _ _ hW hS (lv_sub hl [4, 0] rfl)
  · rw [if_neg c1] at hf
    refine lv_aload_n C.1 C.2.1 zd_M_skill_77 rfl (lv_at hl 1 rfl) ?_
    refine zg_M_world (r := 0) C hK hW (zvd_9 (by decide) (by decide)) zk_1500 zd_M_skill_78 ?_
    refine zg_W_skills (r := 0) C hK hW (zvd_5 (by decide) (by decide)) zk_1286 zd_M_skill_81 ?_
    refine lv_iload_n C.1 C.2.1 zd_M_skill_84 rfl (lv_at hl 2 rfl) ?_
    obtain ⟨h3, hf⟩ := zck_some hf
    refine ziald C hK hW (zvd_5 (by decide) (by decide)) (fun f => ze_5_4 B f (0)) (by decide) h3 zd_M_skill_85 ?_
    refine zr_iconst C zd_M_skill_86 ?_
    refine lv_iload_n C.1 C.2.1 zd_M_skill_87 rfl (lv_at hl 3 rfl) ?_
    refine zr_ishl C zd_M_skill_88 ?_
    refine zr_ior C zd_M_skill_89 ?_
    refine lv_goto (tgt := 108) C.1 C.2.1 zd_M_skill_90 (by decide) ?_
    exact zw_M_skill_108 C hr hlk hK hSt hap   (x3) (xt0) (x1) (zor (S 5 0 4 x1) (zshl 1 x2)) S nx3 nxt0 nx1 (zn_or _ _) hf _ _ _ hW hS (lv_sub hl [4, 0] rfl)

def zf_M_skill (x1 : Int) (x2 : Int) (x3 : Int) (S : Sg) : Option (Int × Sg) :=
    zlt (zu S 9 0 0 4 0) fun S1 => zbd (zf_M_isPerson x1 S1) fun a2 S3 => if a2 = 0 then (some (-1, S3)) else (zbd (zf_M_in x2 0 7 S3) fun a5 S6 => if a5 = 0 then (some (-1, S6)) else (zck (0 ≤ x1 ∧ x1 < 40) <| if (S6 5 0 5 x1) = 2 then (some (-3, S6)) else (if (zand (zshr (S6 5 0 4 x1) x2) 1) = 1 then (zf_M_skill_63 (x1) (x2) (x3) (1) S6) else (zf_M_skill_63 (x1) (x2) (x3) (0) S6))))
set_option maxHeartbeats 4000000 in
set_option maxRecDepth 100000 in
theorem zw_M_skill {p : Program} {l : Launch} {e : Env} {s : State} {m : MethodId} {args : Array Value} {below : List Frame} {meth : Method} {c : Code} {B : zB} (C : CallFix p m c zb_M_skill 5 s args zT "IslandOfficeModel") (hr : meth.sig.returnType = some .int) (hlk : meth.locks = false) (hK : zK B s) (hSt : zSt B s) (hap : zAp B) {res : Int} {S9 : Sg} : ∀ (x1 : Int) (x2 : Int) (x3 : Int) (S : Sg) (nx1 : zn x1) (nx2 : zn x2) (nx3 : zn x3), zf_M_skill x1 x2 x3 S = some (res, S9) → ∀ (H : Heap) (locs : List Loc) (ls : Array Slot), zW B S H → va_S B.2.2.2 s.heap H locs → lv_has ls 5 [(0, .ref (B.2.1 9 (0) (0))), (1, .int (zI (x1))), (2, .int (zI (x2))), (3, .int (zI (x3)))] → W p l e zm_M_skill s m args below meth c H locs 0 0 (MQ below (zQi B res S9) args s 0 0 B.2.2.2) (F0 m 0 ls []) := by
  intro x1 x2 x3 S nx1 nx2 nx3 hf H locs ls hW hS hl
  unfold zf_M_skill at hf
  refine lv_aload_n C.1 C.2.1 zd_M_skill_0 rfl (lv_at hl 0 rfl) ?_
  refine zr_iconst C zd_M_skill_1 ?_
  obtain ⟨S1, eS1, hf⟩ := zlt_some hf
  refine zp_M_thrown (r := 0) C hK hap hW hS (zvd_9 (by decide) (by decide)) zk_1504 (znb rfl) zd_M_skill_2 (fun H locs hW hS => ?_)
  rw [eS1] at hW
  refine lv_aload_n C.1 C.2.1 zd_M_skill_5 rfl (lv_at hl 0 rfl) ?_
  refine lv_iload_n C.1 C.2.1 zd_M_skill_6 rfl (lv_at hl 1 rfl) ?_
  obtain ⟨a2, S3, ea2, hf⟩ := zbd_some hf
  refine zcVi (As := [.int (zI (x1))]) (rest := []) C hK hSt hW hS (zc_M_isPerson hap x1 S1 nx1 ea2) zq_M_isPerson zk_1564 (zrecv hK hW (zvd_9 (by decide) (by decide)) (ze_9_0 B _ (0)) rfl) ⟨rfl, rfl, by decide, by decide⟩ ⟨Nat.zero_le _, Nat.zero_le _⟩ rfl hl.1 rfl (lv_room (Nat.le_of_ble_eq_true rfl)) zd_M_skill_7 (fun na2 H locs hW hS => ?_)
  refine zr_if_eq (tgt := 23) C na2 zd_M_skill_10 (by decide) (fun c4 => ?_) (fun c4 => ?_)
  · rw [if_pos c4] at hf
    refine zr_iconst C zd_M_skill_23 ?_
    cases hf
    exact zre_i C hr hlk hK hW hS (znb rfl) zd_M_skill_24
  · rw [if_neg c4] at hf
    refine lv_iload_n C.1 C.2.1 zd_M_skill_13 rfl (lv_at hl 2 rfl) ?_
    refine zr_iconst C zd_M_skill_14 ?_
    refine zr_bipush C zd_M_skill_15 (by decide) ?_
    obtain ⟨a5, S6, ea5, hf⟩ := zbd_some hf
    refine zcSi (As := [.int (zI (x2)), .int (zI (0)), .int (zI (7))]) (rest := []) C hK hSt hW hS (zc_M_in hap x2 0 7 S3 nx2 (znb rfl) (znb rfl) ea5) zq_M_in zk_1558 ⟨rfl, rfl, by decide, by decide⟩ ⟨Nat.zero_le _, Nat.zero_le _⟩ rfl hl.1 rfl (lv_room (Nat.le_of_ble_eq_true rfl)) zd_M_skill_17 (fun na5 H locs hW hS => ?_)
    refine zr_if_ne (tgt := 25) C na5 zd_M_skill_20 (by decide) (fun c7 => ?_) (fun c7 => ?_)
    · rw [if_neg c7] at hf
      refine lv_aload_n C.1 C.2.1 zd_M_skill_25 rfl (lv_at hl 0 rfl) ?_
      refine zg_M_world (r := 0) C hK hW (zvd_9 (by decide) (by decide)) zk_1500 zd_M_skill_26 ?_
      refine zg_W_state (r := 0) C hK hW (zvd_5 (by decide) (by decide)) zk_1288 zd_M_skill_29 ?_
      refine lv_iload_n C.1 C.2.1 zd_M_skill_32 rfl (lv_at hl 1 rfl) ?_
      obtain ⟨h8, hf⟩ := zck_some hf
      refine ziald C hK hW (zvd_5 (by decide) (by decide)) (fun f => ze_5_5 B f (0)) (by decide) h8 zd_M_skill_33 ?_
      refine zr_iconst C zd_M_skill_34 ?_
      refine zr_icmp_ne (tgt := 41) C (zWn hW _ _ _ _ rfl) (znb rfl) zd_M_skill_35 (by decide) (fun c9 => ?_) (fun c9 => ?_)
      · rw [if_neg c9] at hf
        refine lv_aload_n C.1 C.2.1 zd_M_skill_41 rfl (lv_at hl 0 rfl) ?_
        refine zg_M_world (r := 0) C hK hW (zvd_9 (by decide) (by decide)) zk_1500 zd_M_skill_42 ?_
        refine zg_W_skills (r := 0) C hK hW (zvd_5 (by decide) (by decide)) zk_1286 zd_M_skill_45 ?_
        refine lv_iload_n C.1 C.2.1 zd_M_skill_48 rfl (lv_at hl 1 rfl) ?_
        refine ziald C hK hW (zvd_5 (by decide) (by decide)) (fun f => ze_5_4 B f (0)) (by decide) h8 zd_M_skill_49 ?_
        refine lv_iload_n C.1 C.2.1 zd_M_skill_50 rfl (lv_at hl 2 rfl) ?_
        refine zr_ishr C zd_M_skill_51 ?_
        refine zr_iconst C zd_M_skill_52 ?_
        refine zr_iand C zd_M_skill_53 ?_
        refine zr_iconst C zd_M_skill_54 ?_
        refine zr_icmp_ne (tgt := 62) C (zn_and _ _) (znb rfl) zd_M_skill_55 (by decide) (fun c10 => ?_) (fun c10 => ?_)
        · rw [if_neg c10] at hf
          refine zr_iconst C zd_M_skill_62 ?_
          exact zw_M_skill_63 C hr hlk hK hSt hap   (x1) (x2) (x3) (0) S6 nx1 nx2 nx3 (znb rfl) hf _ _ _ hW hS (lv_sub hl [0, 1, 2, 3] rfl)
        · rw [if_pos c10] at hf
          refine zr_iconst C zd_M_skill_58 ?_
          refine lv_goto (tgt := 63) C.1 C.2.1 zd_M_skill_59 (by decide) ?_
          exact zw_M_skill_63 C hr hlk hK hSt hap   (x1) (x2) (x3) (1) S6 nx1 nx2 nx3 (znb rfl) hf _ _ _ hW hS (lv_sub hl [0, 1, 2, 3] rfl)
      · rw [if_pos c9] at hf
        refine zr_bipush C zd_M_skill_38 (by decide) ?_
        cases hf
        exact zre_i C hr hlk hK hW hS (znb rfl) zd_M_skill_40
    · rw [if_pos c7] at hf
      refine zr_iconst C zd_M_skill_23 ?_
      cases hf
      exact zre_i C hr hlk hK hW hS (znb rfl) zd_M_skill_24

theorem zc_M_skill {l : Launch} {B : zB} (hap : zAp B) (x1 : Int) (x2 : Int) (x3 : Int) (S : Sg) (nx1 : zn x1) (nx2 : zn x2) (nx3 : zn x3) {res : Int} {S9 : Sg} (hf : zf_M_skill x1 x2 x3 S = some (res, S9)) : Met l zy_M_skill (Cond.code zy_M_skill zb_M_skill 5 (some .int) :: zT) zm_M_skill (zP B S [.ref (B.2.1 9 (0) (0)), .int (zI (x1)), .int (zI (x2)), .int (zI (x3))]) (zQi B res S9) 0 0 B.2.2.2 :=
  zmet (by decide) (Nat.le_of_ble_eq_true rfl) (fun p e s m args below meth c C hr hlk hK hSt hW ls hl => zw_M_skill C hr hlk hK hSt hap   x1 x2 x3 S nx1 nx2 nx3 hf _ _ _ hW va_S.rf hl)
/-! IslandOfficeModel$World.here(I)Z -/
abbrev zy_W_here : MethodName := ⟨"IslandOfficeModel$World", "here", "(I)Z"⟩
abbrev zb_W_here : ByteArray := prog_15_method_6_code
abbrev zm_W_here : Room := { frames := 0, cells := 0, slots := 0, locals := 0 }
theorem zq_W_here : zMy zy_W_here zb_W_here 2 (some .boolean) 1 := ⟨zk_1608, zk_1606, zk_1607, zk_15, by decide, by decide, by decide +kernel⟩
theorem zd_W_here_0 : decode zb_W_here 0 = .ok (.aload_n 0, 1) := by decide +kernel
theorem zd_W_here_1 : decode zb_W_here 1 = .ok (.getfield 24, 3) := by decide +kernel
theorem zd_W_here_4 : decode zb_W_here 4 = .ok (.iload_n 1, 1) := by decide +kernel
theorem zd_W_here_5 : decode zb_W_here 5 = .ok (.iaload, 1) := by decide +kernel
theorem zd_W_here_6 : decode zb_W_here 6 = .ok (.ifCond .ne 7, 3) := by decide +kernel
theorem zd_W_here_9 : decode zb_W_here 9 = .ok (.iconst 1, 1) := by decide +kernel
theorem zd_W_here_10 : decode zb_W_here 10 = .ok (.goto 4, 3) := by decide +kernel
theorem zd_W_here_13 : decode zb_W_here 13 = .ok (.iconst 0, 1) := by decide +kernel
theorem zd_W_here_14 : decode zb_W_here 14 = .ok (.ireturn, 1) := by decide +kernel

def zf_W_here (r0 : Int) (x1 : Int) (S : Sg) : Option (Int × Sg) :=
    zck (0 ≤ x1 ∧ x1 < 40) <| if (S 5 r0 5 x1) = 0 then (some (1, S)) else (some (0, S))
set_option maxHeartbeats 4000000 in
set_option maxRecDepth 100000 in
theorem zw_W_here {p : Program} {l : Launch} {e : Env} {s : State} {m : MethodId} {args : Array Value} {below : List Frame} {meth : Method} {c : Code} {B : zB} (C : CallFix p m c zb_W_here 2 s args zT "IslandOfficeModel$World") (hr : meth.sig.returnType = some .boolean) (hlk : meth.locks = false) (hK : zK B s) (hSt : zSt B s) (hap : zAp B) (r0 : Int) (hr0 : 0 ≤ r0 ∧ r0 < 3) {res : Int} {S9 : Sg} : ∀ (x1 : Int) (S : Sg) (nx1 : zn x1), zf_W_here r0 x1 S = some (res, S9) → ∀ (H : Heap) (locs : List Loc) (ls : Array Slot), zW B S H → va_S B.2.2.2 s.heap H locs → lv_has ls 2 [(0, .ref (B.2.1 5 (r0) (0))), (1, .int (zI (x1)))] → W p l e zm_W_here s m args below meth c H locs 0 0 (MQ below (zQi B res S9) args s 0 0 B.2.2.2) (F0 m 0 ls []) := by
  intro x1 S nx1 hf H locs ls hW hS hl
  unfold zf_W_here at hf
  refine lv_aload_n C.1 C.2.1 zd_W_here_0 rfl (lv_at hl 0 rfl) ?_
  refine zg_W_state (r := r0) C hK hW (zvd_5 hr0 (by decide)) zk_1287 zd_W_here_1 ?_
  refine lv_iload_n C.1 C.2.1 zd_W_here_4 rfl (lv_at hl 1 rfl) ?_
  obtain ⟨h1, hf⟩ := zck_some hf
  refine ziald C hK hW (zvd_5 hr0 (by decide)) (fun f => ze_5_5 B f (r0)) (by decide) h1 zd_W_here_5 ?_
  refine zr_if_ne (tgt := 13) C (zWn hW _ _ _ _ rfl) zd_W_here_6 (by decide) (fun c2 => ?_) (fun c2 => ?_)
  · rw [if_neg c2] at hf
    refine zr_iconst C zd_W_here_13 ?_
    cases hf
    exact zre_z C hr hlk hK hW hS (znb rfl) (zb01 (by decide)) zd_W_here_14
  · rw [if_pos c2] at hf
    refine zr_iconst C zd_W_here_9 ?_
    refine lv_goto (tgt := 14) C.1 C.2.1 zd_W_here_10 (by decide) ?_
    cases hf
    exact zre_z C hr hlk hK hW hS (znb rfl) (zb01 (by decide)) zd_W_here_14

theorem zc_W_here {l : Launch} {B : zB} (hap : zAp B) (r0 : Int) (hr0 : 0 ≤ r0 ∧ r0 < 3) (x1 : Int) (S : Sg) (nx1 : zn x1) {res : Int} {S9 : Sg} (hf : zf_W_here r0 x1 S = some (res, S9)) : Met l zy_W_here (Cond.code zy_W_here zb_W_here 2 (some .boolean) :: zT) zm_W_here (zP B S [.ref (B.2.1 5 (r0) (0)), .int (zI (x1))]) (zQi B res S9) 0 0 B.2.2.2 :=
  zmet (by decide) (Nat.le_of_ble_eq_true rfl) (fun p e s m args below meth c C hr hlk hK hSt hW ls hl => zw_W_here C hr hlk hK hSt hap r0 hr0 x1 S nx1 hf _ _ _ hW va_S.rf hl)
/-! IslandOfficeModel.move(II)I -/
abbrev zy_M_move : MethodName := ⟨"IslandOfficeModel", "move", "(II)I"⟩
abbrev zb_M_move : ByteArray := prog_14_method_17_code
abbrev zm_M_move : Room := { frames := 2, cells := 0, slots := 0, locals := 43 }
theorem zq_M_move : zMy zy_M_move zb_M_move 4 (some .int) 2 := ⟨zk_1604, zk_1602, zk_1603, zk_14, by decide, by decide, by decide +kernel⟩
theorem zd_M_move_0 : decode zb_M_move 0 = .ok (.aload_n 0, 1) := by decide +kernel
theorem zd_M_move_1 : decode zb_M_move 1 = .ok (.iconst 0, 1) := by decide +kernel
theorem zd_M_move_2 : decode zb_M_move 2 = .ok (.putfield 46, 3) := by decide +kernel
theorem zd_M_move_5 : decode zb_M_move 5 = .ok (.aload_n 0, 1) := by decide +kernel
theorem zd_M_move_6 : decode zb_M_move 6 = .ok (.iload_n 1, 1) := by decide +kernel
theorem zd_M_move_7 : decode zb_M_move 7 = .ok (.invokevirtual 97, 3) := by decide +kernel
theorem zd_M_move_10 : decode zb_M_move 10 = .ok (.ifCond .eq 10, 3) := by decide +kernel
theorem zd_M_move_13 : decode zb_M_move 13 = .ok (.iload_n 2, 1) := by decide +kernel
theorem zd_M_move_14 : decode zb_M_move 14 = .ok (.invokestatic 90, 3) := by decide +kernel
theorem zd_M_move_17 : decode zb_M_move 17 = .ok (.ifCond .ne 5, 3) := by decide +kernel
theorem zd_M_move_20 : decode zb_M_move 20 = .ok (.iconst (-1), 1) := by decide +kernel
theorem zd_M_move_21 : decode zb_M_move 21 = .ok (.ireturn, 1) := by decide +kernel
theorem zd_M_move_22 : decode zb_M_move 22 = .ok (.aload_n 0, 1) := by decide +kernel
theorem zd_M_move_23 : decode zb_M_move 23 = .ok (.getfield 10, 3) := by decide +kernel
theorem zd_M_move_26 : decode zb_M_move 26 = .ok (.iload_n 1, 1) := by decide +kernel
theorem zd_M_move_27 : decode zb_M_move 27 = .ok (.invokevirtual 111, 3) := by decide +kernel
theorem zd_M_move_30 : decode zb_M_move 30 = .ok (.ifCond .ne 6, 3) := by decide +kernel
theorem zd_M_move_33 : decode zb_M_move 33 = .ok (.bipush (-3), 2) := by decide +kernel
theorem zd_M_move_35 : decode zb_M_move 35 = .ok (.ireturn, 1) := by decide +kernel
theorem zd_M_move_36 : decode zb_M_move 36 = .ok (.aload_n 0, 1) := by decide +kernel
theorem zd_M_move_37 : decode zb_M_move 37 = .ok (.getfield 10, 3) := by decide +kernel
theorem zd_M_move_40 : decode zb_M_move 40 = .ok (.getfield 63, 3) := by decide +kernel
theorem zd_M_move_43 : decode zb_M_move 43 = .ok (.iload_n 1, 1) := by decide +kernel
theorem zd_M_move_44 : decode zb_M_move 44 = .ok (.iaload, 1) := by decide +kernel
theorem zd_M_move_45 : decode zb_M_move 45 = .ok (.istore_n 3, 1) := by decide +kernel
theorem zd_M_move_46 : decode zb_M_move 46 = .ok (.aload_n 0, 1) := by decide +kernel
theorem zd_M_move_47 : decode zb_M_move 47 = .ok (.getfield 10, 3) := by decide +kernel
theorem zd_M_move_50 : decode zb_M_move 50 = .ok (.getfield 63, 3) := by decide +kernel
theorem zd_M_move_53 : decode zb_M_move 53 = .ok (.iload_n 1, 1) := by decide +kernel
theorem zd_M_move_54 : decode zb_M_move 54 = .ok (.iload_n 2, 1) := by decide +kernel
theorem zd_M_move_55 : decode zb_M_move 55 = .ok (.iastore, 1) := by decide +kernel
theorem zd_M_move_56 : decode zb_M_move 56 = .ok (.iload_n 3, 1) := by decide +kernel
theorem zd_M_move_57 : decode zb_M_move 57 = .ok (.ireturn, 1) := by decide +kernel

def zf_M_move (x1 : Int) (x2 : Int) (S : Sg) : Option (Int × Sg) :=
    zlt (zu S 9 0 0 4 0) fun S1 => zbd (zf_M_isPerson x1 S1) fun a2 S3 => if a2 = 0 then (some (-1, S3)) else (zbd (zf_M_isHouse x2 S3) fun a5 S6 => if a5 = 0 then (some (-1, S6)) else (zbd (zf_W_here (0) x1 S6) fun a8 S9 => if a8 = 0 then (some (-3, S9)) else (zck (0 ≤ x1 ∧ x1 < 40) <| zlt (S9 5 0 2 x1) fun v12 => zlt (zu S9 5 0 2 x1 x2) fun S13 => some (v12, S13))))
set_option maxHeartbeats 4000000 in
set_option maxRecDepth 100000 in
theorem zw_M_move {p : Program} {l : Launch} {e : Env} {s : State} {m : MethodId} {args : Array Value} {below : List Frame} {meth : Method} {c : Code} {B : zB} (C : CallFix p m c zb_M_move 4 s args zT "IslandOfficeModel") (hr : meth.sig.returnType = some .int) (hlk : meth.locks = false) (hK : zK B s) (hSt : zSt B s) (hap : zAp B) {res : Int} {S9 : Sg} : ∀ (x1 : Int) (x2 : Int) (S : Sg) (nx1 : zn x1) (nx2 : zn x2), zf_M_move x1 x2 S = some (res, S9) → ∀ (H : Heap) (locs : List Loc) (ls : Array Slot), zW B S H → va_S B.2.2.2 s.heap H locs → lv_has ls 4 [(0, .ref (B.2.1 9 (0) (0))), (1, .int (zI (x1))), (2, .int (zI (x2)))] → W p l e zm_M_move s m args below meth c H locs 0 0 (MQ below (zQi B res S9) args s 0 0 B.2.2.2) (F0 m 0 ls []) := by
  intro x1 x2 S nx1 nx2 hf H locs ls hW hS hl
  unfold zf_M_move at hf
  refine lv_aload_n C.1 C.2.1 zd_M_move_0 rfl (lv_at hl 0 rfl) ?_
  refine zr_iconst C zd_M_move_1 ?_
  obtain ⟨S1, eS1, hf⟩ := zlt_some hf
  refine zp_M_thrown (r := 0) C hK hap hW hS (zvd_9 (by decide) (by decide)) zk_1504 (znb rfl) zd_M_move_2 (fun H locs hW hS => ?_)
  rw [eS1] at hW
  refine lv_aload_n C.1 C.2.1 zd_M_move_5 rfl (lv_at hl 0 rfl) ?_
  refine lv_iload_n C.1 C.2.1 zd_M_move_6 rfl (lv_at hl 1 rfl) ?_
  obtain ⟨a2, S3, ea2, hf⟩ := zbd_some hf
  refine zcVi (As := [.int (zI (x1))]) (rest := []) C hK hSt hW hS (zc_M_isPerson hap x1 S1 nx1 ea2) zq_M_isPerson zk_1564 (zrecv hK hW (zvd_9 (by decide) (by decide)) (ze_9_0 B _ (0)) rfl) ⟨rfl, rfl, by decide, by decide⟩ ⟨Nat.zero_le _, Nat.zero_le _⟩ rfl hl.1 rfl (lv_room (Nat.le_of_ble_eq_true rfl)) zd_M_move_7 (fun na2 H locs hW hS => ?_)
  refine zr_if_eq (tgt := 20) C na2 zd_M_move_10 (by decide) (fun c4 => ?_) (fun c4 => ?_)
  · rw [if_pos c4] at hf
    refine zr_iconst C zd_M_move_20 ?_
    cases hf
    exact zre_i C hr hlk hK hW hS (znb rfl) zd_M_move_21
  · rw [if_neg c4] at hf
    refine lv_iload_n C.1 C.2.1 zd_M_move_13 rfl (lv_at hl 2 rfl) ?_
    obtain ⟨a5, S6, ea5, hf⟩ := zbd_some hf
    refine zcSi (As := [.int (zI (x2))]) (rest := []) C hK hSt hW hS (zc_M_isHouse hap x2 S3 nx2 ea5) zq_M_isHouse zk_1561 ⟨rfl, rfl, by decide, by decide⟩ ⟨Nat.zero_le _, Nat.zero_le _⟩ rfl hl.1 rfl (lv_room (Nat.le_of_ble_eq_true rfl)) zd_M_move_14 (fun na5 H locs hW hS => ?_)
    refine zr_if_ne (tgt := 22) C na5 zd_M_move_17 (by decide) (fun c7 => ?_) (fun c7 => ?_)
    · rw [if_neg c7] at hf
      refine lv_aload_n C.1 C.2.1 zd_M_move_22 rfl (lv_at hl 0 rfl) ?_
      refine zg_M_world (r := 0) C hK hW (zvd_9 (by decide) (by decide)) zk_1500 zd_M_move_23 ?_
      refine lv_iload_n C.1 C.2.1 zd_M_move_26 rfl (lv_at hl 1 rfl) ?_
      obtain ⟨a8, S9, ea8, hf⟩ := zbd_some hf
      refine zcVi (As := [.int (zI (x1))]) (rest := []) C hK hSt hW hS (zc_W_here hap (0) (by decide) x1 S6 nx1 ea8) zq_W_here zk_1605 (zrecv hK hW (zvd_5 (by decide) (by decide)) (ze_5_0 B _ (0)) rfl) ⟨rfl, rfl, by decide, by decide⟩ ⟨Nat.zero_le _, Nat.zero_le _⟩ rfl hl.1 rfl (lv_room (Nat.le_of_ble_eq_true rfl)) zd_M_move_27 (fun na8 H locs hW hS => ?_)
      refine zr_if_ne (tgt := 36) C na8 zd_M_move_30 (by decide) (fun c10 => ?_) (fun c10 => ?_)
      · rw [if_neg c10] at hf
        refine lv_aload_n C.1 C.2.1 zd_M_move_36 rfl (lv_at hl 0 rfl) ?_
        refine zg_M_world (r := 0) C hK hW (zvd_9 (by decide) (by decide)) zk_1500 zd_M_move_37 ?_
        refine zg_W_house (r := 0) C hK hW (zvd_5 (by decide) (by decide)) zk_1282 zd_M_move_40 ?_
        refine lv_iload_n C.1 C.2.1 zd_M_move_43 rfl (lv_at hl 1 rfl) ?_
        obtain ⟨h11, hf⟩ := zck_some hf
        refine ziald C hK hW (zvd_5 (by decide) (by decide)) (fun f => ze_5_2 B f (0)) (by decide) h11 zd_M_move_44 ?_
        obtain ⟨v12, ev12, hf⟩ := zlt_some hf
        have nv12 : zn v12 := by rw [← ev12]; exact (zWn hW _ _ _ _ rfl)
        rw [ev12]
        refine lv_istore_n (lv' := [(3, .int (zI (v12))), (0, .ref (B.2.1 9 (0) (0))), (1, .int (zI (x1))), (2, .int (zI (x2)))]) C.1 C.2.1 zd_M_move_45 rfl hl (by decide) rfl (fun ls hl => ?_)
        refine lv_aload_n C.1 C.2.1 zd_M_move_46 rfl (lv_at hl 1 rfl) ?_
        refine zg_M_world (r := 0) C hK hW (zvd_9 (by decide) (by decide)) zk_1500 zd_M_move_47 ?_
        refine zg_W_house (r := 0) C hK hW (zvd_5 (by decide) (by decide)) zk_1282 zd_M_move_50 ?_
        refine lv_iload_n C.1 C.2.1 zd_M_move_53 rfl (lv_at hl 2 rfl) ?_
        refine lv_iload_n C.1 C.2.1 zd_M_move_54 rfl (lv_at hl 3 rfl) ?_
        obtain ⟨S13, eS13, hf⟩ := zlt_some hf
        refine ziast C hK hap hW hS (zvd_5 (by decide) (by decide)) (fun f => ze_5_2 B f (0)) (by decide) rfl nx2 h11 zd_M_move_55 (fun H locs hW hS => ?_)
        rw [eS13] at hW
        refine lv_iload_n C.1 C.2.1 zd_M_move_56 rfl (lv_at hl 0 rfl) ?_
        cases hf
        exact zre_i C hr hlk hK hW hS nv12 zd_M_move_57
      · rw [if_pos c10] at hf
        refine zr_bipush C zd_M_move_33 (by decide) ?_
        cases hf
        exact zre_i C hr hlk hK hW hS (znb rfl) zd_M_move_35
    · rw [if_pos c7] at hf
      refine zr_iconst C zd_M_move_20 ?_
      cases hf
      exact zre_i C hr hlk hK hW hS (znb rfl) zd_M_move_21

theorem zc_M_move {l : Launch} {B : zB} (hap : zAp B) (x1 : Int) (x2 : Int) (S : Sg) (nx1 : zn x1) (nx2 : zn x2) {res : Int} {S9 : Sg} (hf : zf_M_move x1 x2 S = some (res, S9)) : Met l zy_M_move (Cond.code zy_M_move zb_M_move 4 (some .int) :: zT) zm_M_move (zP B S [.ref (B.2.1 9 (0) (0)), .int (zI (x1)), .int (zI (x2))]) (zQi B res S9) 0 0 B.2.2.2 :=
  zmet (by decide) (Nat.le_of_ble_eq_true rfl) (fun p e s m args below meth c C hr hlk hK hSt hW ls hl => zw_M_move C hr hlk hK hSt hap   x1 x2 S nx1 nx2 hf _ _ _ hW va_S.rf hl)
/-! IslandOfficeModel.house(III)I -/
abbrev zy_M_house : MethodName := ⟨"IslandOfficeModel", "house", "(III)I"⟩
abbrev zb_M_house : ByteArray := prog_14_method_18_code
abbrev zm_M_house : Room := { frames := 2, cells := 0, slots := 0, locals := 42 }
theorem zq_M_house : zMy zy_M_house zb_M_house 5 (some .int) 3 := ⟨zk_1612, zk_1610, zk_1611, zk_14, by decide, by decide, by decide +kernel⟩
theorem zd_M_house_0 : decode zb_M_house 0 = .ok (.aload_n 0, 1) := by decide +kernel
theorem zd_M_house_1 : decode zb_M_house 1 = .ok (.iconst 0, 1) := by decide +kernel
theorem zd_M_house_2 : decode zb_M_house 2 = .ok (.putfield 46, 3) := by decide +kernel
theorem zd_M_house_5 : decode zb_M_house 5 = .ok (.iload_n 1, 1) := by decide +kernel
theorem zd_M_house_6 : decode zb_M_house 6 = .ok (.invokestatic 90, 3) := by decide +kernel
theorem zd_M_house_9 : decode zb_M_house 9 = .ok (.ifCond .eq 23, 3) := by decide +kernel
theorem zd_M_house_12 : decode zb_M_house 12 = .ok (.iload_n 2, 1) := by decide +kernel
theorem zd_M_house_13 : decode zb_M_house 13 = .ok (.iconst 0, 1) := by decide +kernel
theorem zd_M_house_14 : decode zb_M_house 14 = .ok (.bipush 20, 2) := by decide +kernel
theorem zd_M_house_16 : decode zb_M_house 16 = .ok (.invokestatic 53, 3) := by decide +kernel
theorem zd_M_house_19 : decode zb_M_house 19 = .ok (.ifCond .eq 13, 3) := by decide +kernel
theorem zd_M_house_22 : decode zb_M_house 22 = .ok (.iload_n 3, 1) := by decide +kernel
theorem zd_M_house_23 : decode zb_M_house 23 = .ok (.iconst 1, 1) := by decide +kernel
theorem zd_M_house_24 : decode zb_M_house 24 = .ok (.bipush 9, 2) := by decide +kernel
theorem zd_M_house_26 : decode zb_M_house 26 = .ok (.invokestatic 53, 3) := by decide +kernel
theorem zd_M_house_29 : decode zb_M_house 29 = .ok (.ifCond .ne 5, 3) := by decide +kernel
theorem zd_M_house_32 : decode zb_M_house 32 = .ok (.iconst (-1), 1) := by decide +kernel
theorem zd_M_house_33 : decode zb_M_house 33 = .ok (.ireturn, 1) := by decide +kernel
theorem zd_M_house_34 : decode zb_M_house 34 = .ok (.aload_n 0, 1) := by decide +kernel
theorem zd_M_house_35 : decode zb_M_house 35 = .ok (.getfield 10, 3) := by decide +kernel
theorem zd_M_house_38 : decode zb_M_house 38 = .ok (.getfield 114, 3) := by decide +kernel
theorem zd_M_house_41 : decode zb_M_house 41 = .ok (.iload_n 1, 1) := by decide +kernel
theorem zd_M_house_42 : decode zb_M_house 42 = .ok (.iaload, 1) := by decide +kernel
theorem zd_M_house_43 : decode zb_M_house 43 = .ok (.iload_n 2, 1) := by decide +kernel
theorem zd_M_house_44 : decode zb_M_house 44 = .ok (.if_icmp .ne 16, 3) := by decide +kernel
theorem zd_M_house_47 : decode zb_M_house 47 = .ok (.aload_n 0, 1) := by decide +kernel
theorem zd_M_house_48 : decode zb_M_house 48 = .ok (.getfield 10, 3) := by decide +kernel
theorem zd_M_house_51 : decode zb_M_house 51 = .ok (.getfield 43, 3) := by decide +kernel
theorem zd_M_house_54 : decode zb_M_house 54 = .ok (.iload_n 1, 1) := by decide +kernel
theorem zd_M_house_55 : decode zb_M_house 55 = .ok (.iaload, 1) := by decide +kernel
theorem zd_M_house_56 : decode zb_M_house 56 = .ok (.iload_n 3, 1) := by decide +kernel
theorem zd_M_house_57 : decode zb_M_house 57 = .ok (.if_icmp .eq 7, 3) := by decide +kernel
theorem zd_M_house_60 : decode zb_M_house 60 = .ok (.iconst 1, 1) := by decide +kernel
theorem zd_M_house_61 : decode zb_M_house 61 = .ok (.goto 4, 3) := by decide +kernel
theorem zd_M_house_64 : decode zb_M_house 64 = .ok (.iconst 0, 1) := by decide +kernel
theorem zd_M_house_65 : decode zb_M_house 65 = .ok (.istore 4, 2) := by decide +kernel
theorem zd_M_house_67 : decode zb_M_house 67 = .ok (.aload_n 0, 1) := by decide +kernel
theorem zd_M_house_68 : decode zb_M_house 68 = .ok (.getfield 10, 3) := by decide +kernel
theorem zd_M_house_71 : decode zb_M_house 71 = .ok (.getfield 114, 3) := by decide +kernel
theorem zd_M_house_74 : decode zb_M_house 74 = .ok (.iload_n 1, 1) := by decide +kernel
theorem zd_M_house_75 : decode zb_M_house 75 = .ok (.iload_n 2, 1) := by decide +kernel
theorem zd_M_house_76 : decode zb_M_house 76 = .ok (.iastore, 1) := by decide +kernel
theorem zd_M_house_77 : decode zb_M_house 77 = .ok (.aload_n 0, 1) := by decide +kernel
theorem zd_M_house_78 : decode zb_M_house 78 = .ok (.getfield 10, 3) := by decide +kernel
theorem zd_M_house_81 : decode zb_M_house 81 = .ok (.getfield 43, 3) := by decide +kernel
theorem zd_M_house_84 : decode zb_M_house 84 = .ok (.iload_n 1, 1) := by decide +kernel
theorem zd_M_house_85 : decode zb_M_house 85 = .ok (.iload_n 3, 1) := by decide +kernel
theorem zd_M_house_86 : decode zb_M_house 86 = .ok (.iastore, 1) := by decide +kernel
theorem zd_M_house_87 : decode zb_M_house 87 = .ok (.iload 4, 2) := by decide +kernel
theorem zd_M_house_89 : decode zb_M_house 89 = .ok (.ifCond .eq 7, 3) := by decide +kernel
theorem zd_M_house_92 : decode zb_M_house 92 = .ok (.iconst 1, 1) := by decide +kernel
theorem zd_M_house_93 : decode zb_M_house 93 = .ok (.goto 4, 3) := by decide +kernel
theorem zd_M_house_96 : decode zb_M_house 96 = .ok (.iconst 0, 1) := by decide +kernel
theorem zd_M_house_97 : decode zb_M_house 97 = .ok (.ireturn, 1) := by decide +kernel

def zf_M_house_65 (x1 : Int) (x2 : Int) (x3 : Int) (xt0 : Int) (S : Sg) : Option (Int × Sg) :=
    zck (0 ≤ x1 ∧ x1 < 12) <| zlt (zu S 5 0 10 x1 x2) fun S2 => zlt (zu S2 5 0 12 x1 x3) fun S3 => if xt0 = 0 then (some (0, S3)) else (some (1, S3))
set_option maxHeartbeats 4000000 in
set_option maxRecDepth 100000 in
theorem zw_M_house_65 {p : Program} {l : Launch} {e : Env} {s : State} {m : MethodId} {args : Array Value} {below : List Frame} {meth : Method} {c : Code} {B : zB} (C : CallFix p m c zb_M_house 5 s args zT "IslandOfficeModel") (hr : meth.sig.returnType = some .int) (hlk : meth.locks = false) (hK : zK B s) (hSt : zSt B s) (hap : zAp B) {res : Int} {S9 : Sg} : ∀ (x1 : Int) (x2 : Int) (x3 : Int) (xt0 : Int) (S : Sg) (nx1 : zn x1) (nx2 : zn x2) (nx3 : zn x3) (nxt0 : zn xt0), zf_M_house_65 x1 x2 x3 xt0 S = some (res, S9) → ∀ (H : Heap) (locs : List Loc) (ls : Array Slot), zW B S H → va_S B.2.2.2 s.heap H locs → lv_has ls 5 [(0, .ref (B.2.1 9 (0) (0))), (1, .int (zI (x1))), (2, .int (zI (x2))), (3, .int (zI (x3)))] → W p l e zm_M_house s m args below meth c H locs 0 0 (MQ below (zQi B res S9) args s 0 0 B.2.2.2) (F0 m 65 ls [.int (zI (xt0))]) := by
  intro x1 x2 x3 xt0 S nx1 nx2 nx3 nxt0 hf H locs ls hW hS hl
  unfold zf_M_house_65 at hf
  refine lv_istore (lv' := [(4, .int (zI (xt0))), (0, .ref (B.2.1 9 (0) (0))), (1, .int (zI (x1))), (2, .int (zI (x2))), (3, .int (zI (x3)))]) C.1 C.2.1 zd_M_house_65 hl (by decide) rfl (fun ls hl => ?_)
  refine lv_aload_n C.1 C.2.1 zd_M_house_67 rfl (lv_at hl 1 rfl) ?_
  refine zg_M_world (r := 0) C hK hW (zvd_9 (by decide) (by decide)) zk_1500 zd_M_house_68 ?_
  refine zg_W_cattle (r := 0) C hK hW (zvd_5 (by decide) (by decide)) zk_1298 zd_M_house_71 ?_
  refine lv_iload_n C.1 C.2.1 zd_M_house_74 rfl (lv_at hl 2 rfl) ?_
  refine lv_iload_n C.1 C.2.1 zd_M_house_75 rfl (lv_at hl 3 rfl) ?_
  obtain ⟨h1, hf⟩ := zck_some hf
  obtain ⟨S2, eS2, hf⟩ := zlt_some hf
  refine ziast C hK hap hW hS (zvd_5 (by decide) (by decide)) (fun f => ze_5_10 B f (0)) (by decide) rfl nx2 h1 zd_M_house_76 (fun H locs hW hS => ?_)
  rw [eS2] at hW
  refine lv_aload_n C.1 C.2.1 zd_M_house_77 rfl (lv_at hl 1 rfl) ?_
  refine zg_M_world (r := 0) C hK hW (zvd_9 (by decide) (by decide)) zk_1500 zd_M_house_78 ?_
  refine zg_W_roof (r := 0) C hK hW (zvd_5 (by decide) (by decide)) zk_1302 zd_M_house_81 ?_
  refine lv_iload_n C.1 C.2.1 zd_M_house_84 rfl (lv_at hl 2 rfl) ?_
  refine lv_iload_n C.1 C.2.1 zd_M_house_85 rfl (lv_at hl 4 rfl) ?_
  obtain ⟨S3, eS3, hf⟩ := zlt_some hf
  refine ziast C hK hap hW hS (zvd_5 (by decide) (by decide)) (fun f => ze_5_12 B f (0)) (by decide) rfl nx3 h1 zd_M_house_86 (fun H locs hW hS => ?_)
  rw [eS3] at hW
  refine lv_iload C.1 C.2.1 zd_M_house_87 (lv_at hl 0 rfl) ?_
  refine zr_if_eq (tgt := 96) C nxt0 zd_M_house_89 (by decide) (fun c4 => ?_) (fun c4 => ?_)
  · rw [if_pos c4] at hf
    refine zr_iconst C zd_M_house_96 ?_
    cases hf
    exact zre_i C hr hlk hK hW hS (znb rfl) zd_M_house_97
  · rw [if_neg c4] at hf
    refine zr_iconst C zd_M_house_92 ?_
    refine lv_goto (tgt := 97) C.1 C.2.1 zd_M_house_93 (by decide) ?_
    cases hf
    exact zre_i C hr hlk hK hW hS (znb rfl) zd_M_house_97

def zf_M_house_60 (x1 : Int) (x2 : Int) (x3 : Int) (S : Sg) : Option (Int × Sg) :=
    zf_M_house_65 (x1) (x2) (x3) (1) S
set_option maxHeartbeats 4000000 in
set_option maxRecDepth 100000 in
theorem zw_M_house_60 {p : Program} {l : Launch} {e : Env} {s : State} {m : MethodId} {args : Array Value} {below : List Frame} {meth : Method} {c : Code} {B : zB} (C : CallFix p m c zb_M_house 5 s args zT "IslandOfficeModel") (hr : meth.sig.returnType = some .int) (hlk : meth.locks = false) (hK : zK B s) (hSt : zSt B s) (hap : zAp B) {res : Int} {S9 : Sg} : ∀ (x1 : Int) (x2 : Int) (x3 : Int) (S : Sg) (nx1 : zn x1) (nx2 : zn x2) (nx3 : zn x3), zf_M_house_60 x1 x2 x3 S = some (res, S9) → ∀ (H : Heap) (locs : List Loc) (ls : Array Slot), zW B S H → va_S B.2.2.2 s.heap H locs → lv_has ls 5 [(0, .ref (B.2.1 9 (0) (0))), (1, .int (zI (x1))), (2, .int (zI (x2))), (3, .int (zI (x3)))] → W p l e zm_M_house s m args below meth c H locs 0 0 (MQ below (zQi B res S9) args s 0 0 B.2.2.2) (F0 m 60 ls []) := by
  intro x1 x2 x3 S nx1 nx2 nx3 hf H locs ls hW hS hl
  unfold zf_M_house_60 at hf
  refine zr_iconst C zd_M_house_60 ?_
  refine lv_goto (tgt := 65) C.1 C.2.1 zd_M_house_61 (by decide) ?_
  exact zw_M_house_65 C hr hlk hK hSt hap   (x1) (x2) (x3) (1) S nx1 nx2 nx3 (znb rfl) hf _ _ _ hW hS (lv_sub hl [0, 1, 2, 3] rfl)

def zf_M_house (x1 : Int) (x2 : Int) (x3 : Int) (S : Sg) : Option (Int × Sg) :=
    zlt (zu S 9 0 0 4 0) fun S1 => zbd (zf_M_isHouse x1 S1) fun a2 S3 => if a2 = 0 then (some (-1, S3)) else (zbd (zf_M_in x2 0 20 S3) fun a5 S6 => if a5 = 0 then (some (-1, S6)) else (zbd (zf_M_in x3 1 9 S6) fun a8 S9 => if a8 = 0 then (some (-1, S9)) else (zck (0 ≤ x1 ∧ x1 < 12) <| if (S9 5 0 10 x1) = x2 then (if (S9 5 0 12 x1) = x3 then (zf_M_house_65 (x1) (x2) (x3) (0) S9) else (zf_M_house_60 (x1) (x2) (x3) S9)) else (zf_M_house_60 (x1) (x2) (x3) S9))))
set_option maxHeartbeats 4000000 in
set_option maxRecDepth 100000 in
theorem zw_M_house {p : Program} {l : Launch} {e : Env} {s : State} {m : MethodId} {args : Array Value} {below : List Frame} {meth : Method} {c : Code} {B : zB} (C : CallFix p m c zb_M_house 5 s args zT "IslandOfficeModel") (hr : meth.sig.returnType = some .int) (hlk : meth.locks = false) (hK : zK B s) (hSt : zSt B s) (hap : zAp B) {res : Int} {S9 : Sg} : ∀ (x1 : Int) (x2 : Int) (x3 : Int) (S : Sg) (nx1 : zn x1) (nx2 : zn x2) (nx3 : zn x3), zf_M_house x1 x2 x3 S = some (res, S9) → ∀ (H : Heap) (locs : List Loc) (ls : Array Slot), zW B S H → va_S B.2.2.2 s.heap H locs → lv_has ls 5 [(0, .ref (B.2.1 9 (0) (0))), (1, .int (zI (x1))), (2, .int (zI (x2))), (3, .int (zI (x3)))] → W p l e zm_M_house s m args below meth c H locs 0 0 (MQ below (zQi B res S9) args s 0 0 B.2.2.2) (F0 m 0 ls []) := by
  intro x1 x2 x3 S nx1 nx2 nx3 hf H locs ls hW hS hl
  unfold zf_M_house at hf
  refine lv_aload_n C.1 C.2.1 zd_M_house_0 rfl (lv_at hl 0 rfl) ?_
  refine zr_iconst C zd_M_house_1 ?_
  obtain ⟨S1, eS1, hf⟩ := zlt_some hf
  refine zp_M_thrown (r := 0) C hK hap hW hS (zvd_9 (by decide) (by decide)) zk_1504 (znb rfl) zd_M_house_2 (fun H locs hW hS => ?_)
  rw [eS1] at hW
  refine lv_iload_n C.1 C.2.1 zd_M_house_5 rfl (lv_at hl 1 rfl) ?_
  obtain ⟨a2, S3, ea2, hf⟩ := zbd_some hf
  refine zcSi (As := [.int (zI (x1))]) (rest := []) C hK hSt hW hS (zc_M_isHouse hap x1 S1 nx1 ea2) zq_M_isHouse zk_1561 ⟨rfl, rfl, by decide, by decide⟩ ⟨Nat.zero_le _, Nat.zero_le _⟩ rfl hl.1 rfl (lv_room (Nat.le_of_ble_eq_true rfl)) zd_M_house_6 (fun na2 H locs hW hS => ?_)
  refine zr_if_eq (tgt := 32) C na2 zd_M_house_9 (by decide) (fun c4 => ?_) (fun c4 => ?_)
  · rw [if_pos c4] at hf
    refine zr_iconst C zd_M_house_32 ?_
    cases hf
    exact zre_i C hr hlk hK hW hS (znb rfl) zd_M_house_33
  · rw [if_neg c4] at hf
    refine lv_iload_n C.1 C.2.1 zd_M_house_12 rfl (lv_at hl 2 rfl) ?_
    refine zr_iconst C zd_M_house_13 ?_
    refine zr_bipush C zd_M_house_14 (by decide) ?_
    obtain ⟨a5, S6, ea5, hf⟩ := zbd_some hf
    refine zcSi (As := [.int (zI (x2)), .int (zI (0)), .int (zI (20))]) (rest := []) C hK hSt hW hS (zc_M_in hap x2 0 20 S3 nx2 (znb rfl) (znb rfl) ea5) zq_M_in zk_1558 ⟨rfl, rfl, by decide, by decide⟩ ⟨Nat.zero_le _, Nat.zero_le _⟩ rfl hl.1 rfl (lv_room (Nat.le_of_ble_eq_true rfl)) zd_M_house_16 (fun na5 H locs hW hS => ?_)
    refine zr_if_eq (tgt := 32) C na5 zd_M_house_19 (by decide) (fun c7 => ?_) (fun c7 => ?_)
    · rw [if_pos c7] at hf
      refine zr_iconst C zd_M_house_32 ?_
      cases hf
      exact zre_i C hr hlk hK hW hS (znb rfl) zd_M_house_33
    · rw [if_neg c7] at hf
      refine lv_iload_n C.1 C.2.1 zd_M_house_22 rfl (lv_at hl 3 rfl) ?_
      refine zr_iconst C zd_M_house_23 ?_
      refine zr_bipush C zd_M_house_24 (by decide) ?_
      obtain ⟨a8, S9, ea8, hf⟩ := zbd_some hf
      refine zcSi (As := [.int (zI (x3)), .int (zI (1)), .int (zI (9))]) (rest := []) C hK hSt hW hS (zc_M_in hap x3 1 9 S6 nx3 (znb rfl) (znb rfl) ea8) zq_M_in zk_1558 ⟨rfl, rfl, by decide, by decide⟩ ⟨Nat.zero_le _, Nat.zero_le _⟩ rfl hl.1 rfl (lv_room (Nat.le_of_ble_eq_true rfl)) zd_M_house_26 (fun na8 H locs hW hS => ?_)
      refine zr_if_ne (tgt := 34) C na8 zd_M_house_29 (by decide) (fun c10 => ?_) (fun c10 => ?_)
      · rw [if_neg c10] at hf
        refine lv_aload_n C.1 C.2.1 zd_M_house_34 rfl (lv_at hl 0 rfl) ?_
        refine zg_M_world (r := 0) C hK hW (zvd_9 (by decide) (by decide)) zk_1500 zd_M_house_35 ?_
        refine zg_W_cattle (r := 0) C hK hW (zvd_5 (by decide) (by decide)) zk_1298 zd_M_house_38 ?_
        refine lv_iload_n C.1 C.2.1 zd_M_house_41 rfl (lv_at hl 1 rfl) ?_
        obtain ⟨h11, hf⟩ := zck_some hf
        refine ziald C hK hW (zvd_5 (by decide) (by decide)) (fun f => ze_5_10 B f (0)) (by decide) h11 zd_M_house_42 ?_
        refine lv_iload_n C.1 C.2.1 zd_M_house_43 rfl (lv_at hl 2 rfl) ?_
        refine zr_icmp_ne (tgt := 60) C (zWn hW _ _ _ _ rfl) nx2 zd_M_house_44 (by decide) (fun c12 => ?_) (fun c12 => ?_)
        · rw [if_neg c12] at hf
          exact zw_M_house_60 C hr hlk hK hSt hap   (x1) (x2) (x3) S9 nx1 nx2 nx3 hf _ _ _ hW hS (lv_sub hl [0, 1, 2, 3] rfl)
        · rw [if_pos c12] at hf
          refine lv_aload_n C.1 C.2.1 zd_M_house_47 rfl (lv_at hl 0 rfl) ?_
          refine zg_M_world (r := 0) C hK hW (zvd_9 (by decide) (by decide)) zk_1500 zd_M_house_48 ?_
          refine zg_W_roof (r := 0) C hK hW (zvd_5 (by decide) (by decide)) zk_1302 zd_M_house_51 ?_
          refine lv_iload_n C.1 C.2.1 zd_M_house_54 rfl (lv_at hl 1 rfl) ?_
          refine ziald C hK hW (zvd_5 (by decide) (by decide)) (fun f => ze_5_12 B f (0)) (by decide) h11 zd_M_house_55 ?_
          refine lv_iload_n C.1 C.2.1 zd_M_house_56 rfl (lv_at hl 3 rfl) ?_
          refine zr_icmp_eq (tgt := 64) C (zWn hW _ _ _ _ rfl) nx3 zd_M_house_57 (by decide) (fun c13 => ?_) (fun c13 => ?_)
          · rw [if_pos c13] at hf
            refine zr_iconst C zd_M_house_64 ?_
            exact zw_M_house_65 C hr hlk hK hSt hap   (x1) (x2) (x3) (0) S9 nx1 nx2 nx3 (znb rfl) hf _ _ _ hW hS (lv_sub hl [0, 1, 2, 3] rfl)
          · rw [if_neg c13] at hf
            exact zw_M_house_60 C hr hlk hK hSt hap   (x1) (x2) (x3) S9 nx1 nx2 nx3 hf _ _ _ hW hS (lv_sub hl [0, 1, 2, 3] rfl)
      · rw [if_pos c10] at hf
        refine zr_iconst C zd_M_house_32 ?_
        cases hf
        exact zre_i C hr hlk hK hW hS (znb rfl) zd_M_house_33

theorem zc_M_house {l : Launch} {B : zB} (hap : zAp B) (x1 : Int) (x2 : Int) (x3 : Int) (S : Sg) (nx1 : zn x1) (nx2 : zn x2) (nx3 : zn x3) {res : Int} {S9 : Sg} (hf : zf_M_house x1 x2 x3 S = some (res, S9)) : Met l zy_M_house (Cond.code zy_M_house zb_M_house 5 (some .int) :: zT) zm_M_house (zP B S [.ref (B.2.1 9 (0) (0)), .int (zI (x1)), .int (zI (x2)), .int (zI (x3))]) (zQi B res S9) 0 0 B.2.2.2 :=
  zmet (by decide) (Nat.le_of_ble_eq_true rfl) (fun p e s m args below meth c C hr hlk hK hSt hW ls hl => zw_M_house C hr hlk hK hSt hap   x1 x2 x3 S nx1 nx2 nx3 hf _ _ _ hW va_S.rf hl)
/-! IslandOfficeModel$World.need(IZ)I -/
abbrev zy_W_need : MethodName := ⟨"IslandOfficeModel$World", "need", "(IZ)I"⟩
abbrev zb_W_need : ByteArray := prog_15_method_7_code
abbrev zm_W_need : Room := { frames := 0, cells := 0, slots := 0, locals := 0 }
theorem zq_W_need : zMs zy_W_need zb_W_need 2 (some .int) 2 := ⟨zk_1624, zk_1623, zk_15, by decide, by decide, by decide +kernel⟩
theorem zd_W_need_0 : decode zb_W_need 0 = .ok (.iload_n 0, 1) := by decide +kernel
theorem zd_W_need_1 : decode zb_W_need 1 = .ok (.tableswitch 63 0 5 #[39, 41, 43, 63, 41, 53], 39) := by decide +kernel
theorem zd_W_need_40 : decode zb_W_need 40 = .ok (.iconst 3, 1) := by decide +kernel
theorem zd_W_need_41 : decode zb_W_need 41 = .ok (.ireturn, 1) := by decide +kernel
theorem zd_W_need_42 : decode zb_W_need 42 = .ok (.iconst 2, 1) := by decide +kernel
theorem zd_W_need_43 : decode zb_W_need 43 = .ok (.ireturn, 1) := by decide +kernel
theorem zd_W_need_44 : decode zb_W_need 44 = .ok (.iload_n 1, 1) := by decide +kernel
theorem zd_W_need_45 : decode zb_W_need 45 = .ok (.ifCond .eq 7, 3) := by decide +kernel
theorem zd_W_need_48 : decode zb_W_need 48 = .ok (.iconst 4, 1) := by decide +kernel
theorem zd_W_need_49 : decode zb_W_need 49 = .ok (.goto 4, 3) := by decide +kernel
theorem zd_W_need_52 : decode zb_W_need 52 = .ok (.iconst 3, 1) := by decide +kernel
theorem zd_W_need_53 : decode zb_W_need 53 = .ok (.ireturn, 1) := by decide +kernel
theorem zd_W_need_54 : decode zb_W_need 54 = .ok (.iload_n 1, 1) := by decide +kernel
theorem zd_W_need_55 : decode zb_W_need 55 = .ok (.ifCond .eq 7, 3) := by decide +kernel
theorem zd_W_need_58 : decode zb_W_need 58 = .ok (.iconst 5, 1) := by decide +kernel
theorem zd_W_need_59 : decode zb_W_need 59 = .ok (.goto 4, 3) := by decide +kernel
theorem zd_W_need_62 : decode zb_W_need 62 = .ok (.iconst 4, 1) := by decide +kernel
theorem zd_W_need_63 : decode zb_W_need 63 = .ok (.ireturn, 1) := by decide +kernel
theorem zd_W_need_64 : decode zb_W_need 64 = .ok (.iconst 0, 1) := by decide +kernel
theorem zd_W_need_65 : decode zb_W_need 65 = .ok (.ireturn, 1) := by decide +kernel

def zf_W_need (x0 : Int) (x1 : Int) (S : Sg) : Option (Int × Sg) :=
    if x0 = 0 then (some (3, S)) else (if x0 = 1 then (some (2, S)) else (if x0 = 2 then (if x1 = 0 then (some (3, S)) else (some (4, S))) else (if x0 = 3 then (some (0, S)) else (if x0 = 4 then (some (2, S)) else (if x0 = 5 then (if x1 = 0 then (some (4, S)) else (some (5, S))) else (some (0, S)))))))
set_option maxHeartbeats 4000000 in
set_option maxRecDepth 100000 in
theorem zw_W_need {p : Program} {l : Launch} {e : Env} {s : State} {m : MethodId} {args : Array Value} {below : List Frame} {meth : Method} {c : Code} {B : zB} (C : CallFix p m c zb_W_need 2 s args zT "IslandOfficeModel$World") (hr : meth.sig.returnType = some .int) (hlk : meth.locks = false) (hK : zK B s) (hSt : zSt B s) (hap : zAp B) {res : Int} {S9 : Sg} : ∀ (x0 : Int) (x1 : Int) (S : Sg) (nx0 : zn x0) (nx1 : zn x1), zf_W_need x0 x1 S = some (res, S9) → ∀ (H : Heap) (locs : List Loc) (ls : Array Slot), zW B S H → va_S B.2.2.2 s.heap H locs → lv_has ls 2 [(0, .int (zI (x0))), (1, .int (zI (x1)))] → W p l e zm_W_need s m args below meth c H locs 0 0 (MQ below (zQi B res S9) args s 0 0 B.2.2.2) (F0 m 0 ls []) := by
  intro x0 x1 S nx0 nx1 hf H locs ls hW hS hl
  unfold zf_W_need at hf
  refine lv_iload_n C.1 C.2.1 zd_W_need_0 rfl (lv_at hl 0 rfl) ?_
  by_cases c1 : x0 = 0
  · rw [if_pos c1] at hf
    refine zr_tab (off := 39) (tgt := 40) C nx0 zd_W_need_1 (by omega) (by omega) (by rw [c1]; rfl) (by decide) ?_
    refine zr_iconst C zd_W_need_40 ?_
    cases hf
    exact zre_i C hr hlk hK hW hS (znb rfl) zd_W_need_41
  rw [if_neg c1] at hf
  by_cases c2 : x0 = 1
  · rw [if_pos c2] at hf
    refine zr_tab (off := 41) (tgt := 42) C nx0 zd_W_need_1 (by omega) (by omega) (by rw [c2]; rfl) (by decide) ?_
    refine zr_iconst C zd_W_need_42 ?_
    cases hf
    exact zre_i C hr hlk hK hW hS (znb rfl) zd_W_need_43
  rw [if_neg c2] at hf
  by_cases c3 : x0 = 2
  · rw [if_pos c3] at hf
    refine zr_tab (off := 43) (tgt := 44) C nx0 zd_W_need_1 (by omega) (by omega) (by rw [c3]; rfl) (by decide) ?_
    refine lv_iload_n C.1 C.2.1 zd_W_need_44 rfl (lv_at hl 1 rfl) ?_
    refine zr_if_eq (tgt := 52) C nx1 zd_W_need_45 (by decide) (fun c4 => ?_) (fun c4 => ?_)
    · rw [if_pos c4] at hf
      refine zr_iconst C zd_W_need_52 ?_
      cases hf
      exact zre_i C hr hlk hK hW hS (znb rfl) zd_W_need_53
    · rw [if_neg c4] at hf
      refine zr_iconst C zd_W_need_48 ?_
      refine lv_goto (tgt := 53) C.1 C.2.1 zd_W_need_49 (by decide) ?_
      cases hf
      exact zre_i C hr hlk hK hW hS (znb rfl) zd_W_need_53
  rw [if_neg c3] at hf
  by_cases c5 : x0 = 3
  · rw [if_pos c5] at hf
    refine zr_tab (off := 63) (tgt := 64) C nx0 zd_W_need_1 (by omega) (by omega) (by rw [c5]; rfl) (by decide) ?_
    refine zr_iconst C zd_W_need_64 ?_
    cases hf
    exact zre_i C hr hlk hK hW hS (znb rfl) zd_W_need_65
  rw [if_neg c5] at hf
  by_cases c6 : x0 = 4
  · rw [if_pos c6] at hf
    refine zr_tab (off := 41) (tgt := 42) C nx0 zd_W_need_1 (by omega) (by omega) (by rw [c6]; rfl) (by decide) ?_
    refine zr_iconst C zd_W_need_42 ?_
    cases hf
    exact zre_i C hr hlk hK hW hS (znb rfl) zd_W_need_43
  rw [if_neg c6] at hf
  by_cases c7 : x0 = 5
  · rw [if_pos c7] at hf
    refine zr_tab (off := 53) (tgt := 54) C nx0 zd_W_need_1 (by omega) (by omega) (by rw [c7]; rfl) (by decide) ?_
    refine lv_iload_n C.1 C.2.1 zd_W_need_54 rfl (lv_at hl 1 rfl) ?_
    refine zr_if_eq (tgt := 62) C nx1 zd_W_need_55 (by decide) (fun c8 => ?_) (fun c8 => ?_)
    · rw [if_pos c8] at hf
      refine zr_iconst C zd_W_need_62 ?_
      cases hf
      exact zre_i C hr hlk hK hW hS (znb rfl) zd_W_need_63
    · rw [if_neg c8] at hf
      refine zr_iconst C zd_W_need_58 ?_
      refine lv_goto (tgt := 63) C.1 C.2.1 zd_W_need_59 (by decide) ?_
      cases hf
      exact zre_i C hr hlk hK hW hS (znb rfl) zd_W_need_63
  rw [if_neg c7] at hf
  refine zr_tabo (tgt := 64) C nx0 zd_W_need_1 (by omega) (by decide) ?_
  refine zr_iconst C zd_W_need_64 ?_
  cases hf
  exact zre_i C hr hlk hK hW hS (znb rfl) zd_W_need_65

theorem zc_W_need {l : Launch} {B : zB} (hap : zAp B) (x0 : Int) (x1 : Int) (S : Sg) (nx0 : zn x0) (nx1 : zn x1) {res : Int} {S9 : Sg} (hf : zf_W_need x0 x1 S = some (res, S9)) : Met l zy_W_need (Cond.code zy_W_need zb_W_need 2 (some .int) :: zT) zm_W_need (zP B S [.int (zI (x0)), .int (zI (x1))]) (zQi B res S9) 0 0 B.2.2.2 :=
  zmet (by decide) (Nat.le_of_ble_eq_true rfl) (fun p e s m args below meth c C hr hlk hK hSt hW ls hl => zw_W_need C hr hlk hK hSt hap   x0 x1 S nx0 nx1 hf _ _ _ hW va_S.rf hl)
/-! IslandOfficeModel$World.needOf(I)I -/
abbrev zy_W_needOf : MethodName := ⟨"IslandOfficeModel$World", "needOf", "(I)I"⟩
abbrev zb_W_needOf : ByteArray := prog_15_method_9_code
abbrev zm_W_needOf : Room := { frames := 2, cells := 0, slots := 0, locals := 42 }
theorem zq_W_needOf : zMy zy_W_needOf zb_W_needOf 2 (some .int) 1 := ⟨zk_1620, zk_1618, zk_1619, zk_15, by decide, by decide, by decide +kernel⟩
theorem zd_W_needOf_0 : decode zb_W_needOf 0 = .ok (.aload_n 0, 1) := by decide +kernel
theorem zd_W_needOf_1 : decode zb_W_needOf 1 = .ok (.iload_n 1, 1) := by decide +kernel
theorem zd_W_needOf_2 : decode zb_W_needOf 2 = .ok (.invokevirtual 193, 3) := by decide +kernel
theorem zd_W_needOf_5 : decode zb_W_needOf 5 = .ok (.aload_n 0, 1) := by decide +kernel
theorem zd_W_needOf_6 : decode zb_W_needOf 6 = .ok (.getfield 33, 3) := by decide +kernel
theorem zd_W_needOf_9 : decode zb_W_needOf 9 = .ok (.iload_n 1, 1) := by decide +kernel
theorem zd_W_needOf_10 : decode zb_W_needOf 10 = .ok (.iaload, 1) := by decide +kernel
theorem zd_W_needOf_11 : decode zb_W_needOf 11 = .ok (.ifCond .lt 7, 3) := by decide +kernel
theorem zd_W_needOf_14 : decode zb_W_needOf 14 = .ok (.iconst 1, 1) := by decide +kernel
theorem zd_W_needOf_15 : decode zb_W_needOf 15 = .ok (.goto 4, 3) := by decide +kernel
theorem zd_W_needOf_18 : decode zb_W_needOf 18 = .ok (.iconst 0, 1) := by decide +kernel
theorem zd_W_needOf_19 : decode zb_W_needOf 19 = .ok (.invokestatic 196, 3) := by decide +kernel
theorem zd_W_needOf_22 : decode zb_W_needOf 22 = .ok (.ireturn, 1) := by decide +kernel

def zf_W_needOf_19 (r0 : Int) (xt0 : Int) (xt1 : Int) (S : Sg) : Option (Int × Sg) :=
    zbd (zf_W_need xt0 xt1 S) fun a1 S2 => some (a1, S2)
set_option maxHeartbeats 4000000 in
set_option maxRecDepth 100000 in
theorem zw_W_needOf_19 {p : Program} {l : Launch} {e : Env} {s : State} {m : MethodId} {args : Array Value} {below : List Frame} {meth : Method} {c : Code} {B : zB} (C : CallFix p m c zb_W_needOf 2 s args zT "IslandOfficeModel$World") (hr : meth.sig.returnType = some .int) (hlk : meth.locks = false) (hK : zK B s) (hSt : zSt B s) (hap : zAp B) (r0 : Int) (hr0 : 0 ≤ r0 ∧ r0 < 3) {res : Int} {S9 : Sg} : ∀ (xt0 : Int) (xt1 : Int) (S : Sg) (nxt0 : zn xt0) (nxt1 : zn xt1), zf_W_needOf_19 r0 xt0 xt1 S = some (res, S9) → ∀ (H : Heap) (locs : List Loc) (ls : Array Slot), zW B S H → va_S B.2.2.2 s.heap H locs → lv_has ls 2 [] → W p l e zm_W_needOf s m args below meth c H locs 0 0 (MQ below (zQi B res S9) args s 0 0 B.2.2.2) (F0 m 19 ls [.int (zI (xt1)), .int (zI (xt0))]) := by
  intro xt0 xt1 S nxt0 nxt1 hf H locs ls hW hS hl
  unfold zf_W_needOf_19 at hf
  obtain ⟨a1, S2, ea1, hf⟩ := zbd_some hf
  refine zcSi (As := [.int (zI (xt0)), .int (zI (xt1))]) (rest := []) C hK hSt hW hS (zc_W_need hap xt0 xt1 S nxt0 nxt1 ea1) zq_W_need zk_1622 ⟨rfl, rfl, by decide, by decide⟩ ⟨Nat.zero_le _, Nat.zero_le _⟩ rfl hl.1 rfl (lv_room (Nat.le_of_ble_eq_true rfl)) zd_W_needOf_19 (fun na1 H locs hW hS => ?_)
  cases hf
  exact zre_i C hr hlk hK hW hS na1 zd_W_needOf_22

def zf_W_needOf (r0 : Int) (x1 : Int) (S : Sg) : Option (Int × Sg) :=
    zbd (zf_W_kind (r0) x1 S) fun a1 S2 => zck (0 ≤ x1 ∧ x1 < 40) <| if (S2 5 r0 8 x1) < 0 then (zf_W_needOf_19 r0 (a1) (0) S2) else (zf_W_needOf_19 r0 (a1) (1) S2)
set_option maxHeartbeats 4000000 in
set_option maxRecDepth 100000 in
theorem zw_W_needOf {p : Program} {l : Launch} {e : Env} {s : State} {m : MethodId} {args : Array Value} {below : List Frame} {meth : Method} {c : Code} {B : zB} (C : CallFix p m c zb_W_needOf 2 s args zT "IslandOfficeModel$World") (hr : meth.sig.returnType = some .int) (hlk : meth.locks = false) (hK : zK B s) (hSt : zSt B s) (hap : zAp B) (r0 : Int) (hr0 : 0 ≤ r0 ∧ r0 < 3) {res : Int} {S9 : Sg} : ∀ (x1 : Int) (S : Sg) (nx1 : zn x1), zf_W_needOf r0 x1 S = some (res, S9) → ∀ (H : Heap) (locs : List Loc) (ls : Array Slot), zW B S H → va_S B.2.2.2 s.heap H locs → lv_has ls 2 [(0, .ref (B.2.1 5 (r0) (0))), (1, .int (zI (x1)))] → W p l e zm_W_needOf s m args below meth c H locs 0 0 (MQ below (zQi B res S9) args s 0 0 B.2.2.2) (F0 m 0 ls []) := by
  intro x1 S nx1 hf H locs ls hW hS hl
  unfold zf_W_needOf at hf
  refine lv_aload_n C.1 C.2.1 zd_W_needOf_0 rfl (lv_at hl 0 rfl) ?_
  refine lv_iload_n C.1 C.2.1 zd_W_needOf_1 rfl (lv_at hl 1 rfl) ?_
  obtain ⟨a1, S2, ea1, hf⟩ := zbd_some hf
  refine zcVi (As := [.int (zI (x1))]) (rest := []) C hK hSt hW hS (zc_W_kind hap (r0) hr0 x1 S nx1 ea1) zq_W_kind zk_1621 (zrecv hK hW (zvd_5 hr0 (by decide)) (ze_5_0 B _ (r0)) rfl) ⟨rfl, rfl, by decide, by decide⟩ ⟨Nat.zero_le _, Nat.zero_le _⟩ rfl hl.1 rfl (lv_room (Nat.le_of_ble_eq_true rfl)) zd_W_needOf_2 (fun na1 H locs hW hS => ?_)
  refine lv_aload_n C.1 C.2.1 zd_W_needOf_5 rfl (lv_at hl 0 rfl) ?_
  refine zg_W_post (r := r0) C hK hW (zvd_5 hr0 (by decide)) zk_1293 zd_W_needOf_6 ?_
  refine lv_iload_n C.1 C.2.1 zd_W_needOf_9 rfl (lv_at hl 1 rfl) ?_
  obtain ⟨h3, hf⟩ := zck_some hf
  refine ziald C hK hW (zvd_5 hr0 (by decide)) (fun f => ze_5_8 B f (r0)) (by decide) h3 zd_W_needOf_10 ?_
  refine zr_if_lt (tgt := 18) C (zWn hW _ _ _ _ rfl) zd_W_needOf_11 (by decide) (fun c4 => ?_) (fun c4 => ?_)
  · rw [if_pos c4] at hf
    refine zr_iconst C zd_W_needOf_18 ?_
    exact zw_W_needOf_19 C hr hlk hK hSt hap r0 hr0 (a1) (0) S2 na1 (znb rfl) hf _ _ _ hW hS (lv_sub hl [] rfl)
  · rw [if_neg c4] at hf
    refine zr_iconst C zd_W_needOf_14 ?_
    refine lv_goto (tgt := 19) C.1 C.2.1 zd_W_needOf_15 (by decide) ?_
    exact zw_W_needOf_19 C hr hlk hK hSt hap r0 hr0 (a1) (1) S2 na1 (znb rfl) hf _ _ _ hW hS (lv_sub hl [] rfl)

theorem zc_W_needOf {l : Launch} {B : zB} (hap : zAp B) (r0 : Int) (hr0 : 0 ≤ r0 ∧ r0 < 3) (x1 : Int) (S : Sg) (nx1 : zn x1) {res : Int} {S9 : Sg} (hf : zf_W_needOf r0 x1 S = some (res, S9)) : Met l zy_W_needOf (Cond.code zy_W_needOf zb_W_needOf 2 (some .int) :: zT) zm_W_needOf (zP B S [.ref (B.2.1 5 (r0) (0)), .int (zI (x1))]) (zQi B res S9) 0 0 B.2.2.2 :=
  zmet (by decide) (Nat.le_of_ble_eq_true rfl) (fun p e s m args below meth c C hr hlk hK hSt hW ls hl => zw_W_needOf C hr hlk hK hSt hap r0 hr0 x1 S nx1 hf _ _ _ hW va_S.rf hl)
/-! IslandOfficeModel$World.wage(IZ)I -/
abbrev zy_W_wage : MethodName := ⟨"IslandOfficeModel$World", "wage", "(IZ)I"⟩
abbrev zb_W_wage : ByteArray := prog_15_method_8_code
abbrev zm_W_wage : Room := { frames := 0, cells := 0, slots := 0, locals := 0 }
theorem zq_W_wage : zMs zy_W_wage zb_W_wage 2 (some .int) 2 := ⟨zk_1631, zk_1630, zk_15, by decide, by decide, by decide +kernel⟩
theorem zd_W_wage_0 : decode zb_W_wage 0 = .ok (.iload_n 0, 1) := by decide +kernel
theorem zd_W_wage_1 : decode zb_W_wage 1 = .ok (.tableswitch 54 2 5 #[31, 54, 52, 41], 31) := by decide +kernel
theorem zd_W_wage_32 : decode zb_W_wage 32 = .ok (.iload_n 1, 1) := by decide +kernel
theorem zd_W_wage_33 : decode zb_W_wage 33 = .ok (.ifCond .eq 7, 3) := by decide +kernel
theorem zd_W_wage_36 : decode zb_W_wage 36 = .ok (.iconst 3, 1) := by decide +kernel
theorem zd_W_wage_37 : decode zb_W_wage 37 = .ok (.goto 4, 3) := by decide +kernel
theorem zd_W_wage_40 : decode zb_W_wage 40 = .ok (.iconst 0, 1) := by decide +kernel
theorem zd_W_wage_41 : decode zb_W_wage 41 = .ok (.ireturn, 1) := by decide +kernel
theorem zd_W_wage_42 : decode zb_W_wage 42 = .ok (.iload_n 1, 1) := by decide +kernel
theorem zd_W_wage_43 : decode zb_W_wage 43 = .ok (.ifCond .eq 8, 3) := by decide +kernel
theorem zd_W_wage_46 : decode zb_W_wage 46 = .ok (.bipush 6, 2) := by decide +kernel
theorem zd_W_wage_48 : decode zb_W_wage 48 = .ok (.goto 4, 3) := by decide +kernel
theorem zd_W_wage_51 : decode zb_W_wage 51 = .ok (.iconst 0, 1) := by decide +kernel
theorem zd_W_wage_52 : decode zb_W_wage 52 = .ok (.ireturn, 1) := by decide +kernel
theorem zd_W_wage_53 : decode zb_W_wage 53 = .ok (.iconst 2, 1) := by decide +kernel
theorem zd_W_wage_54 : decode zb_W_wage 54 = .ok (.ireturn, 1) := by decide +kernel
theorem zd_W_wage_55 : decode zb_W_wage 55 = .ok (.iconst 0, 1) := by decide +kernel
theorem zd_W_wage_56 : decode zb_W_wage 56 = .ok (.ireturn, 1) := by decide +kernel

def zf_W_wage (x0 : Int) (x1 : Int) (S : Sg) : Option (Int × Sg) :=
    if x0 = 2 then (if x1 = 0 then (some (0, S)) else (some (3, S))) else (if x0 = 3 then (some (0, S)) else (if x0 = 4 then (some (2, S)) else (if x0 = 5 then (if x1 = 0 then (some (0, S)) else (some (6, S))) else (some (0, S)))))
set_option maxHeartbeats 4000000 in
set_option maxRecDepth 100000 in
theorem zw_W_wage {p : Program} {l : Launch} {e : Env} {s : State} {m : MethodId} {args : Array Value} {below : List Frame} {meth : Method} {c : Code} {B : zB} (C : CallFix p m c zb_W_wage 2 s args zT "IslandOfficeModel$World") (hr : meth.sig.returnType = some .int) (hlk : meth.locks = false) (hK : zK B s) (hSt : zSt B s) (hap : zAp B) {res : Int} {S9 : Sg} : ∀ (x0 : Int) (x1 : Int) (S : Sg) (nx0 : zn x0) (nx1 : zn x1), zf_W_wage x0 x1 S = some (res, S9) → ∀ (H : Heap) (locs : List Loc) (ls : Array Slot), zW B S H → va_S B.2.2.2 s.heap H locs → lv_has ls 2 [(0, .int (zI (x0))), (1, .int (zI (x1)))] → W p l e zm_W_wage s m args below meth c H locs 0 0 (MQ below (zQi B res S9) args s 0 0 B.2.2.2) (F0 m 0 ls []) := by
  intro x0 x1 S nx0 nx1 hf H locs ls hW hS hl
  unfold zf_W_wage at hf
  refine lv_iload_n C.1 C.2.1 zd_W_wage_0 rfl (lv_at hl 0 rfl) ?_
  by_cases c1 : x0 = 2
  · rw [if_pos c1] at hf
    refine zr_tab (off := 31) (tgt := 32) C nx0 zd_W_wage_1 (by omega) (by omega) (by rw [c1]; rfl) (by decide) ?_
    refine lv_iload_n C.1 C.2.1 zd_W_wage_32 rfl (lv_at hl 1 rfl) ?_
    refine zr_if_eq (tgt := 40) C nx1 zd_W_wage_33 (by decide) (fun c2 => ?_) (fun c2 => ?_)
    · rw [if_pos c2] at hf
      refine zr_iconst C zd_W_wage_40 ?_
      cases hf
      exact zre_i C hr hlk hK hW hS (znb rfl) zd_W_wage_41
    · rw [if_neg c2] at hf
      refine zr_iconst C zd_W_wage_36 ?_
      refine lv_goto (tgt := 41) C.1 C.2.1 zd_W_wage_37 (by decide) ?_
      cases hf
      exact zre_i C hr hlk hK hW hS (znb rfl) zd_W_wage_41
  rw [if_neg c1] at hf
  by_cases c3 : x0 = 3
  · rw [if_pos c3] at hf
    refine zr_tab (off := 54) (tgt := 55) C nx0 zd_W_wage_1 (by omega) (by omega) (by rw [c3]; rfl) (by decide) ?_
    refine zr_iconst C zd_W_wage_55 ?_
    cases hf
    exact zre_i C hr hlk hK hW hS (znb rfl) zd_W_wage_56
  rw [if_neg c3] at hf
  by_cases c4 : x0 = 4
  · rw [if_pos c4] at hf
    refine zr_tab (off := 52) (tgt := 53) C nx0 zd_W_wage_1 (by omega) (by omega) (by rw [c4]; rfl) (by decide) ?_
    refine zr_iconst C zd_W_wage_53 ?_
    cases hf
    exact zre_i C hr hlk hK hW hS (znb rfl) zd_W_wage_54
  rw [if_neg c4] at hf
  by_cases c5 : x0 = 5
  · rw [if_pos c5] at hf
    refine zr_tab (off := 41) (tgt := 42) C nx0 zd_W_wage_1 (by omega) (by omega) (by rw [c5]; rfl) (by decide) ?_
    refine lv_iload_n C.1 C.2.1 zd_W_wage_42 rfl (lv_at hl 1 rfl) ?_
    refine zr_if_eq (tgt := 51) C nx1 zd_W_wage_43 (by decide) (fun c6 => ?_) (fun c6 => ?_)
    · rw [if_pos c6] at hf
      refine zr_iconst C zd_W_wage_51 ?_
      cases hf
      exact zre_i C hr hlk hK hW hS (znb rfl) zd_W_wage_52
    · rw [if_neg c6] at hf
      refine zr_bipush C zd_W_wage_46 (by decide) ?_
      refine lv_goto (tgt := 52) C.1 C.2.1 zd_W_wage_48 (by decide) ?_
      cases hf
      exact zre_i C hr hlk hK hW hS (znb rfl) zd_W_wage_52
  rw [if_neg c5] at hf
  refine zr_tabo (tgt := 55) C nx0 zd_W_wage_1 (by omega) (by decide) ?_
  refine zr_iconst C zd_W_wage_55 ?_
  cases hf
  exact zre_i C hr hlk hK hW hS (znb rfl) zd_W_wage_56

theorem zc_W_wage {l : Launch} {B : zB} (hap : zAp B) (x0 : Int) (x1 : Int) (S : Sg) (nx0 : zn x0) (nx1 : zn x1) {res : Int} {S9 : Sg} (hf : zf_W_wage x0 x1 S = some (res, S9)) : Met l zy_W_wage (Cond.code zy_W_wage zb_W_wage 2 (some .int) :: zT) zm_W_wage (zP B S [.int (zI (x0)), .int (zI (x1))]) (zQi B res S9) 0 0 B.2.2.2 :=
  zmet (by decide) (Nat.le_of_ble_eq_true rfl) (fun p e s m args below meth c C hr hlk hK hSt hW ls hl => zw_W_wage C hr hlk hK hSt hap   x0 x1 S nx0 nx1 hf _ _ _ hW va_S.rf hl)
/-! IslandOfficeModel$World.wageOf(I)I -/
abbrev zy_W_wageOf : MethodName := ⟨"IslandOfficeModel$World", "wageOf", "(I)I"⟩
abbrev zb_W_wageOf : ByteArray := prog_15_method_10_code
abbrev zm_W_wageOf : Room := { frames := 2, cells := 0, slots := 0, locals := 42 }
theorem zq_W_wageOf : zMy zy_W_wageOf zb_W_wageOf 2 (some .int) 1 := ⟨zk_1628, zk_1626, zk_1627, zk_15, by decide, by decide, by decide +kernel⟩
theorem zd_W_wageOf_0 : decode zb_W_wageOf 0 = .ok (.aload_n 0, 1) := by decide +kernel
theorem zd_W_wageOf_1 : decode zb_W_wageOf 1 = .ok (.iload_n 1, 1) := by decide +kernel
theorem zd_W_wageOf_2 : decode zb_W_wageOf 2 = .ok (.invokevirtual 193, 3) := by decide +kernel
theorem zd_W_wageOf_5 : decode zb_W_wageOf 5 = .ok (.aload_n 0, 1) := by decide +kernel
theorem zd_W_wageOf_6 : decode zb_W_wageOf 6 = .ok (.getfield 33, 3) := by decide +kernel
theorem zd_W_wageOf_9 : decode zb_W_wageOf 9 = .ok (.iload_n 1, 1) := by decide +kernel
theorem zd_W_wageOf_10 : decode zb_W_wageOf 10 = .ok (.iaload, 1) := by decide +kernel
theorem zd_W_wageOf_11 : decode zb_W_wageOf 11 = .ok (.ifCond .lt 7, 3) := by decide +kernel
theorem zd_W_wageOf_14 : decode zb_W_wageOf 14 = .ok (.iconst 1, 1) := by decide +kernel
theorem zd_W_wageOf_15 : decode zb_W_wageOf 15 = .ok (.goto 4, 3) := by decide +kernel
theorem zd_W_wageOf_18 : decode zb_W_wageOf 18 = .ok (.iconst 0, 1) := by decide +kernel
theorem zd_W_wageOf_19 : decode zb_W_wageOf 19 = .ok (.invokestatic 200, 3) := by decide +kernel
theorem zd_W_wageOf_22 : decode zb_W_wageOf 22 = .ok (.ireturn, 1) := by decide +kernel

def zf_W_wageOf_19 (r0 : Int) (xt0 : Int) (xt1 : Int) (S : Sg) : Option (Int × Sg) :=
    zbd (zf_W_wage xt0 xt1 S) fun a1 S2 => some (a1, S2)
set_option maxHeartbeats 4000000 in
set_option maxRecDepth 100000 in
theorem zw_W_wageOf_19 {p : Program} {l : Launch} {e : Env} {s : State} {m : MethodId} {args : Array Value} {below : List Frame} {meth : Method} {c : Code} {B : zB} (C : CallFix p m c zb_W_wageOf 2 s args zT "IslandOfficeModel$World") (hr : meth.sig.returnType = some .int) (hlk : meth.locks = false) (hK : zK B s) (hSt : zSt B s) (hap : zAp B) (r0 : Int) (hr0 : 0 ≤ r0 ∧ r0 < 3) {res : Int} {S9 : Sg} : ∀ (xt0 : Int) (xt1 : Int) (S : Sg) (nxt0 : zn xt0) (nxt1 : zn xt1), zf_W_wageOf_19 r0 xt0 xt1 S = some (res, S9) → ∀ (H : Heap) (locs : List Loc) (ls : Array Slot), zW B S H → va_S B.2.2.2 s.heap H locs → lv_has ls 2 [] → W p l e zm_W_wageOf s m args below meth c H locs 0 0 (MQ below (zQi B res S9) args s 0 0 B.2.2.2) (F0 m 19 ls [.int (zI (xt1)), .int (zI (xt0))]) := by
  intro xt0 xt1 S nxt0 nxt1 hf H locs ls hW hS hl
  unfold zf_W_wageOf_19 at hf
  obtain ⟨a1, S2, ea1, hf⟩ := zbd_some hf
  refine zcSi (As := [.int (zI (xt0)), .int (zI (xt1))]) (rest := []) C hK hSt hW hS (zc_W_wage hap xt0 xt1 S nxt0 nxt1 ea1) zq_W_wage zk_1629 ⟨rfl, rfl, by decide, by decide⟩ ⟨Nat.zero_le _, Nat.zero_le _⟩ rfl hl.1 rfl (lv_room (Nat.le_of_ble_eq_true rfl)) zd_W_wageOf_19 (fun na1 H locs hW hS => ?_)
  cases hf
  exact zre_i C hr hlk hK hW hS na1 zd_W_wageOf_22

def zf_W_wageOf (r0 : Int) (x1 : Int) (S : Sg) : Option (Int × Sg) :=
    zbd (zf_W_kind (r0) x1 S) fun a1 S2 => zck (0 ≤ x1 ∧ x1 < 40) <| if (S2 5 r0 8 x1) < 0 then (zf_W_wageOf_19 r0 (a1) (0) S2) else (zf_W_wageOf_19 r0 (a1) (1) S2)
set_option maxHeartbeats 4000000 in
set_option maxRecDepth 100000 in
theorem zw_W_wageOf {p : Program} {l : Launch} {e : Env} {s : State} {m : MethodId} {args : Array Value} {below : List Frame} {meth : Method} {c : Code} {B : zB} (C : CallFix p m c zb_W_wageOf 2 s args zT "IslandOfficeModel$World") (hr : meth.sig.returnType = some .int) (hlk : meth.locks = false) (hK : zK B s) (hSt : zSt B s) (hap : zAp B) (r0 : Int) (hr0 : 0 ≤ r0 ∧ r0 < 3) {res : Int} {S9 : Sg} : ∀ (x1 : Int) (S : Sg) (nx1 : zn x1), zf_W_wageOf r0 x1 S = some (res, S9) → ∀ (H : Heap) (locs : List Loc) (ls : Array Slot), zW B S H → va_S B.2.2.2 s.heap H locs → lv_has ls 2 [(0, .ref (B.2.1 5 (r0) (0))), (1, .int (zI (x1)))] → W p l e zm_W_wageOf s m args below meth c H locs 0 0 (MQ below (zQi B res S9) args s 0 0 B.2.2.2) (F0 m 0 ls []) := by
  intro x1 S nx1 hf H locs ls hW hS hl
  unfold zf_W_wageOf at hf
  refine lv_aload_n C.1 C.2.1 zd_W_wageOf_0 rfl (lv_at hl 0 rfl) ?_
  refine lv_iload_n C.1 C.2.1 zd_W_wageOf_1 rfl (lv_at hl 1 rfl) ?_
  obtain ⟨a1, S2, ea1, hf⟩ := zbd_some hf
  refine zcVi (As := [.int (zI (x1))]) (rest := []) C hK hSt hW hS (zc_W_kind hap (r0) hr0 x1 S nx1 ea1) zq_W_kind zk_1621 (zrecv hK hW (zvd_5 hr0 (by decide)) (ze_5_0 B _ (r0)) rfl) ⟨rfl, rfl, by decide, by decide⟩ ⟨Nat.zero_le _, Nat.zero_le _⟩ rfl hl.1 rfl (lv_room (Nat.le_of_ble_eq_true rfl)) zd_W_wageOf_2 (fun na1 H locs hW hS => ?_)
  refine lv_aload_n C.1 C.2.1 zd_W_wageOf_5 rfl (lv_at hl 0 rfl) ?_
  refine zg_W_post (r := r0) C hK hW (zvd_5 hr0 (by decide)) zk_1293 zd_W_wageOf_6 ?_
  refine lv_iload_n C.1 C.2.1 zd_W_wageOf_9 rfl (lv_at hl 1 rfl) ?_
  obtain ⟨h3, hf⟩ := zck_some hf
  refine ziald C hK hW (zvd_5 hr0 (by decide)) (fun f => ze_5_8 B f (r0)) (by decide) h3 zd_W_wageOf_10 ?_
  refine zr_if_lt (tgt := 18) C (zWn hW _ _ _ _ rfl) zd_W_wageOf_11 (by decide) (fun c4 => ?_) (fun c4 => ?_)
  · rw [if_pos c4] at hf
    refine zr_iconst C zd_W_wageOf_18 ?_
    exact zw_W_wageOf_19 C hr hlk hK hSt hap r0 hr0 (a1) (0) S2 na1 (znb rfl) hf _ _ _ hW hS (lv_sub hl [] rfl)
  · rw [if_neg c4] at hf
    refine zr_iconst C zd_W_wageOf_14 ?_
    refine lv_goto (tgt := 19) C.1 C.2.1 zd_W_wageOf_15 (by decide) ?_
    exact zw_W_wageOf_19 C hr hlk hK hSt hap r0 hr0 (a1) (1) S2 na1 (znb rfl) hf _ _ _ hW hS (lv_sub hl [] rfl)

theorem zc_W_wageOf {l : Launch} {B : zB} (hap : zAp B) (r0 : Int) (hr0 : 0 ≤ r0 ∧ r0 < 3) (x1 : Int) (S : Sg) (nx1 : zn x1) {res : Int} {S9 : Sg} (hf : zf_W_wageOf r0 x1 S = some (res, S9)) : Met l zy_W_wageOf (Cond.code zy_W_wageOf zb_W_wageOf 2 (some .int) :: zT) zm_W_wageOf (zP B S [.ref (B.2.1 5 (r0) (0)), .int (zI (x1))]) (zQi B res S9) 0 0 B.2.2.2 :=
  zmet (by decide) (Nat.le_of_ble_eq_true rfl) (fun p e s m args below meth c C hr hlk hK hSt hW ls hl => zw_W_wageOf C hr hlk hK hSt hap r0 hr0 x1 S nx1 hf _ _ _ hW va_S.rf hl)
/-! IslandOfficeModel.about(II)I -/
abbrev zy_M_about : MethodName := ⟨"IslandOfficeModel", "about", "(II)I"⟩
abbrev zb_M_about : ByteArray := prog_14_method_19_code
abbrev zm_M_about : Room := { frames := 3, cells := 0, slots := 0, locals := 63 }
theorem zq_M_about : zMy zy_M_about zb_M_about 3 (some .int) 2 := ⟨zk_1616, zk_1614, zk_1615, zk_14, by decide, by decide, by decide +kernel⟩
theorem zd_M_about_0 : decode zb_M_about 0 = .ok (.aload_n 0, 1) := by decide +kernel
theorem zd_M_about_1 : decode zb_M_about 1 = .ok (.iconst 0, 1) := by decide +kernel
theorem zd_M_about_2 : decode zb_M_about 2 = .ok (.putfield 46, 3) := by decide +kernel
theorem zd_M_about_5 : decode zb_M_about 5 = .ok (.aload_n 0, 1) := by decide +kernel
theorem zd_M_about_6 : decode zb_M_about 6 = .ok (.iload_n 1, 1) := by decide +kernel
theorem zd_M_about_7 : decode zb_M_about 7 = .ok (.invokevirtual 97, 3) := by decide +kernel
theorem zd_M_about_10 : decode zb_M_about 10 = .ok (.ifCond .ne 5, 3) := by decide +kernel
theorem zd_M_about_13 : decode zb_M_about 13 = .ok (.iconst (-1), 1) := by decide +kernel
theorem zd_M_about_14 : decode zb_M_about 14 = .ok (.ireturn, 1) := by decide +kernel
theorem zd_M_about_15 : decode zb_M_about 15 = .ok (.iload_n 2, 1) := by decide +kernel
theorem zd_M_about_16 : decode zb_M_about 16 = .ok (.tableswitch 166 0 10 #[60, 69, 78, 88, 98, 108, 118, 128, 138, 147, 156], 60) := by decide +kernel
theorem zd_M_about_76 : decode zb_M_about 76 = .ok (.aload_n 0, 1) := by decide +kernel
theorem zd_M_about_77 : decode zb_M_about 77 = .ok (.getfield 10, 3) := by decide +kernel
theorem zd_M_about_80 : decode zb_M_about 80 = .ok (.iload_n 1, 1) := by decide +kernel
theorem zd_M_about_81 : decode zb_M_about 81 = .ok (.invokevirtual 104, 3) := by decide +kernel
theorem zd_M_about_84 : decode zb_M_about 84 = .ok (.ireturn, 1) := by decide +kernel
theorem zd_M_about_85 : decode zb_M_about 85 = .ok (.aload_n 0, 1) := by decide +kernel
theorem zd_M_about_86 : decode zb_M_about 86 = .ok (.getfield 10, 3) := by decide +kernel
theorem zd_M_about_89 : decode zb_M_about 89 = .ok (.iload_n 1, 1) := by decide +kernel
theorem zd_M_about_90 : decode zb_M_about 90 = .ok (.invokevirtual 108, 3) := by decide +kernel
theorem zd_M_about_93 : decode zb_M_about 93 = .ok (.ireturn, 1) := by decide +kernel
theorem zd_M_about_94 : decode zb_M_about 94 = .ok (.aload_n 0, 1) := by decide +kernel
theorem zd_M_about_95 : decode zb_M_about 95 = .ok (.getfield 10, 3) := by decide +kernel
theorem zd_M_about_98 : decode zb_M_about 98 = .ok (.getfield 63, 3) := by decide +kernel
theorem zd_M_about_101 : decode zb_M_about 101 = .ok (.iload_n 1, 1) := by decide +kernel
theorem zd_M_about_102 : decode zb_M_about 102 = .ok (.iaload, 1) := by decide +kernel
theorem zd_M_about_103 : decode zb_M_about 103 = .ok (.ireturn, 1) := by decide +kernel
theorem zd_M_about_104 : decode zb_M_about 104 = .ok (.aload_n 0, 1) := by decide +kernel
theorem zd_M_about_105 : decode zb_M_about 105 = .ok (.getfield 10, 3) := by decide +kernel
theorem zd_M_about_108 : decode zb_M_about 108 = .ok (.getfield 66, 3) := by decide +kernel
theorem zd_M_about_111 : decode zb_M_about 111 = .ok (.iload_n 1, 1) := by decide +kernel
theorem zd_M_about_112 : decode zb_M_about 112 = .ok (.iaload, 1) := by decide +kernel
theorem zd_M_about_113 : decode zb_M_about 113 = .ok (.ireturn, 1) := by decide +kernel
theorem zd_M_about_114 : decode zb_M_about 114 = .ok (.aload_n 0, 1) := by decide +kernel
theorem zd_M_about_115 : decode zb_M_about 115 = .ok (.getfield 10, 3) := by decide +kernel
theorem zd_M_about_118 : decode zb_M_about 118 = .ok (.getfield 69, 3) := by decide +kernel
theorem zd_M_about_121 : decode zb_M_about 121 = .ok (.iload_n 1, 1) := by decide +kernel
theorem zd_M_about_122 : decode zb_M_about 122 = .ok (.iaload, 1) := by decide +kernel
theorem zd_M_about_123 : decode zb_M_about 123 = .ok (.ireturn, 1) := by decide +kernel
theorem zd_M_about_124 : decode zb_M_about 124 = .ok (.aload_n 0, 1) := by decide +kernel
theorem zd_M_about_125 : decode zb_M_about 125 = .ok (.getfield 10, 3) := by decide +kernel
theorem zd_M_about_128 : decode zb_M_about 128 = .ok (.getfield 72, 3) := by decide +kernel
theorem zd_M_about_131 : decode zb_M_about 131 = .ok (.iload_n 1, 1) := by decide +kernel
theorem zd_M_about_132 : decode zb_M_about 132 = .ok (.iaload, 1) := by decide +kernel
theorem zd_M_about_133 : decode zb_M_about 133 = .ok (.ireturn, 1) := by decide +kernel
theorem zd_M_about_134 : decode zb_M_about 134 = .ok (.aload_n 0, 1) := by decide +kernel
theorem zd_M_about_135 : decode zb_M_about 135 = .ok (.getfield 10, 3) := by decide +kernel
theorem zd_M_about_138 : decode zb_M_about 138 = .ok (.getfield 78, 3) := by decide +kernel
theorem zd_M_about_141 : decode zb_M_about 141 = .ok (.iload_n 1, 1) := by decide +kernel
theorem zd_M_about_142 : decode zb_M_about 142 = .ok (.iaload, 1) := by decide +kernel
theorem zd_M_about_143 : decode zb_M_about 143 = .ok (.ireturn, 1) := by decide +kernel
theorem zd_M_about_144 : decode zb_M_about 144 = .ok (.aload_n 0, 1) := by decide +kernel
theorem zd_M_about_145 : decode zb_M_about 145 = .ok (.getfield 10, 3) := by decide +kernel
theorem zd_M_about_148 : decode zb_M_about 148 = .ok (.getfield 81, 3) := by decide +kernel
theorem zd_M_about_151 : decode zb_M_about 151 = .ok (.iload_n 1, 1) := by decide +kernel
theorem zd_M_about_152 : decode zb_M_about 152 = .ok (.iaload, 1) := by decide +kernel
theorem zd_M_about_153 : decode zb_M_about 153 = .ok (.ireturn, 1) := by decide +kernel
theorem zd_M_about_154 : decode zb_M_about 154 = .ok (.aload_n 0, 1) := by decide +kernel
theorem zd_M_about_155 : decode zb_M_about 155 = .ok (.getfield 10, 3) := by decide +kernel
theorem zd_M_about_158 : decode zb_M_about 158 = .ok (.iload_n 1, 1) := by decide +kernel
theorem zd_M_about_159 : decode zb_M_about 159 = .ok (.invokevirtual 117, 3) := by decide +kernel
theorem zd_M_about_162 : decode zb_M_about 162 = .ok (.ireturn, 1) := by decide +kernel
theorem zd_M_about_163 : decode zb_M_about 163 = .ok (.aload_n 0, 1) := by decide +kernel
theorem zd_M_about_164 : decode zb_M_about 164 = .ok (.getfield 10, 3) := by decide +kernel
theorem zd_M_about_167 : decode zb_M_about 167 = .ok (.iload_n 1, 1) := by decide +kernel
theorem zd_M_about_168 : decode zb_M_about 168 = .ok (.invokevirtual 120, 3) := by decide +kernel
theorem zd_M_about_171 : decode zb_M_about 171 = .ok (.ireturn, 1) := by decide +kernel
theorem zd_M_about_172 : decode zb_M_about 172 = .ok (.aload_n 0, 1) := by decide +kernel
theorem zd_M_about_173 : decode zb_M_about 173 = .ok (.getfield 10, 3) := by decide +kernel
theorem zd_M_about_176 : decode zb_M_about 176 = .ok (.getfield 84, 3) := by decide +kernel
theorem zd_M_about_179 : decode zb_M_about 179 = .ok (.iload_n 1, 1) := by decide +kernel
theorem zd_M_about_180 : decode zb_M_about 180 = .ok (.iaload, 1) := by decide +kernel
theorem zd_M_about_181 : decode zb_M_about 181 = .ok (.ireturn, 1) := by decide +kernel
theorem zd_M_about_182 : decode zb_M_about 182 = .ok (.iconst (-1), 1) := by decide +kernel
theorem zd_M_about_183 : decode zb_M_about 183 = .ok (.ireturn, 1) := by decide +kernel

def zf_M_about (x1 : Int) (x2 : Int) (S : Sg) : Option (Int × Sg) :=
    zlt (zu S 9 0 0 4 0) fun S1 => zbd (zf_M_isPerson x1 S1) fun a2 S3 => if a2 = 0 then (some (-1, S3)) else (if x2 = 0 then (zbd (zf_W_kind (0) x1 S3) fun a6 S7 => some (a6, S7)) else (if x2 = 1 then (zbd (zf_W_age (0) x1 S3) fun a9 S10 => some (a9, S10)) else (if x2 = 2 then (zck (0 ≤ x1 ∧ x1 < 40) <| some (S3 5 0 2 x1, S3)) else (if x2 = 3 then (zck (0 ≤ x1 ∧ x1 < 40) <| some (S3 5 0 3 x1, S3)) else (if x2 = 4 then (zck (0 ≤ x1 ∧ x1 < 40) <| some (S3 5 0 4 x1, S3)) else (if x2 = 5 then (zck (0 ≤ x1 ∧ x1 < 40) <| some (S3 5 0 5 x1, S3)) else (if x2 = 6 then (zck (0 ≤ x1 ∧ x1 < 40) <| some (S3 5 0 7 x1, S3)) else (if x2 = 7 then (zck (0 ≤ x1 ∧ x1 < 40) <| some (S3 5 0 8 x1, S3)) else (if x2 = 8 then (zbd (zf_W_needOf (0) x1 S3) fun a24 S25 => some (a24, S25)) else (if x2 = 9 then (zbd (zf_W_wageOf (0) x1 S3) fun a27 S28 => some (a27, S28)) else (if x2 = 10 then (zck (0 ≤ x1 ∧ x1 < 40) <| some (S3 5 0 9 x1, S3)) else (some (-1, S3)))))))))))))
set_option maxHeartbeats 4000000 in
set_option maxRecDepth 100000 in
theorem zw_M_about {p : Program} {l : Launch} {e : Env} {s : State} {m : MethodId} {args : Array Value} {below : List Frame} {meth : Method} {c : Code} {B : zB} (C : CallFix p m c zb_M_about 3 s args zT "IslandOfficeModel") (hr : meth.sig.returnType = some .int) (hlk : meth.locks = false) (hK : zK B s) (hSt : zSt B s) (hap : zAp B) {res : Int} {S9 : Sg} : ∀ (x1 : Int) (x2 : Int) (S : Sg) (nx1 : zn x1) (nx2 : zn x2), zf_M_about x1 x2 S = some (res, S9) → ∀ (H : Heap) (locs : List Loc) (ls : Array Slot), zW B S H → va_S B.2.2.2 s.heap H locs → lv_has ls 3 [(0, .ref (B.2.1 9 (0) (0))), (1, .int (zI (x1))), (2, .int (zI (x2)))] → W p l e zm_M_about s m args below meth c H locs 0 0 (MQ below (zQi B res S9) args s 0 0 B.2.2.2) (F0 m 0 ls []) := by
  intro x1 x2 S nx1 nx2 hf H locs ls hW hS hl
  unfold zf_M_about at hf
  refine lv_aload_n C.1 C.2.1 zd_M_about_0 rfl (lv_at hl 0 rfl) ?_
  refine zr_iconst C zd_M_about_1 ?_
  obtain ⟨S1, eS1, hf⟩ := zlt_some hf
  refine zp_M_thrown (r := 0) C hK hap hW hS (zvd_9 (by decide) (by decide)) zk_1504 (znb rfl) zd_M_about_2 (fun H locs hW hS => ?_)
  rw [eS1] at hW
  refine lv_aload_n C.1 C.2.1 zd_M_about_5 rfl (lv_at hl 0 rfl) ?_
  refine lv_iload_n C.1 C.2.1 zd_M_about_6 rfl (lv_at hl 1 rfl) ?_
  obtain ⟨a2, S3, ea2, hf⟩ := zbd_some hf
  refine zcVi (As := [.int (zI (x1))]) (rest := []) C hK hSt hW hS (zc_M_isPerson hap x1 S1 nx1 ea2) zq_M_isPerson zk_1564 (zrecv hK hW (zvd_9 (by decide) (by decide)) (ze_9_0 B _ (0)) rfl) ⟨rfl, rfl, by decide, by decide⟩ ⟨Nat.zero_le _, Nat.zero_le _⟩ rfl hl.1 rfl (lv_room (Nat.le_of_ble_eq_true rfl)) zd_M_about_7 (fun na2 H locs hW hS => ?_)
  refine zr_if_ne (tgt := 15) C na2 zd_M_about_10 (by decide) (fun c4 => ?_) (fun c4 => ?_)
  · rw [if_neg c4] at hf
    refine lv_iload_n C.1 C.2.1 zd_M_about_15 rfl (lv_at hl 2 rfl) ?_
    by_cases c5 : x2 = 0
    · rw [if_pos c5] at hf
      refine zr_tab (off := 60) (tgt := 76) C nx2 zd_M_about_16 (by omega) (by omega) (by rw [c5]; rfl) (by decide) ?_
      refine lv_aload_n C.1 C.2.1 zd_M_about_76 rfl (lv_at hl 0 rfl) ?_
      refine zg_M_world (r := 0) C hK hW (zvd_9 (by decide) (by decide)) zk_1500 zd_M_about_77 ?_
      refine lv_iload_n C.1 C.2.1 zd_M_about_80 rfl (lv_at hl 1 rfl) ?_
      obtain ⟨a6, S7, ea6, hf⟩ := zbd_some hf
      refine zcVi (As := [.int (zI (x1))]) (rest := []) C hK hSt hW hS (zc_W_kind hap (0) (by decide) x1 S3 nx1 ea6) zq_W_kind zk_1580 (zrecv hK hW (zvd_5 (by decide) (by decide)) (ze_5_0 B _ (0)) rfl) ⟨rfl, rfl, by decide, by decide⟩ ⟨Nat.zero_le _, Nat.zero_le _⟩ rfl hl.1 rfl (lv_room (Nat.le_of_ble_eq_true rfl)) zd_M_about_81 (fun na6 H locs hW hS => ?_)
      cases hf
      exact zre_i C hr hlk hK hW hS na6 zd_M_about_84
    rw [if_neg c5] at hf
    by_cases c8 : x2 = 1
    · rw [if_pos c8] at hf
      refine zr_tab (off := 69) (tgt := 85) C nx2 zd_M_about_16 (by omega) (by omega) (by rw [c8]; rfl) (by decide) ?_
      refine lv_aload_n C.1 C.2.1 zd_M_about_85 rfl (lv_at hl 0 rfl) ?_
      refine zg_M_world (r := 0) C hK hW (zvd_9 (by decide) (by decide)) zk_1500 zd_M_about_86 ?_
      refine lv_iload_n C.1 C.2.1 zd_M_about_89 rfl (lv_at hl 1 rfl) ?_
      obtain ⟨a9, S10, ea9, hf⟩ := zbd_some hf
      refine zcVi (As := [.int (zI (x1))]) (rest := []) C hK hSt hW hS (zc_W_age hap (0) (by decide) x1 S3 nx1 ea9) zq_W_age zk_1592 (zrecv hK hW (zvd_5 (by decide) (by decide)) (ze_5_0 B _ (0)) rfl) ⟨rfl, rfl, by decide, by decide⟩ ⟨Nat.zero_le _, Nat.zero_le _⟩ rfl hl.1 rfl (lv_room (Nat.le_of_ble_eq_true rfl)) zd_M_about_90 (fun na9 H locs hW hS => ?_)
      cases hf
      exact zre_i C hr hlk hK hW hS na9 zd_M_about_93
    rw [if_neg c8] at hf
    by_cases c11 : x2 = 2
    · rw [if_pos c11] at hf
      refine zr_tab (off := 78) (tgt := 94) C nx2 zd_M_about_16 (by omega) (by omega) (by rw [c11]; rfl) (by decide) ?_
      refine lv_aload_n C.1 C.2.1 zd_M_about_94 rfl (lv_at hl 0 rfl) ?_
      refine zg_M_world (r := 0) C hK hW (zvd_9 (by decide) (by decide)) zk_1500 zd_M_about_95 ?_
      refine zg_W_house (r := 0) C hK hW (zvd_5 (by decide) (by decide)) zk_1282 zd_M_about_98 ?_
      refine lv_iload_n C.1 C.2.1 zd_M_about_101 rfl (lv_at hl 1 rfl) ?_
      obtain ⟨h12, hf⟩ := zck_some hf
      refine ziald C hK hW (zvd_5 (by decide) (by decide)) (fun f => ze_5_2 B f (0)) (by decide) h12 zd_M_about_102 ?_
      cases hf
      exact zre_i C hr hlk hK hW hS (zWn hW _ _ _ _ rfl) zd_M_about_103
    rw [if_neg c11] at hf
    by_cases c13 : x2 = 3
    · rw [if_pos c13] at hf
      refine zr_tab (off := 88) (tgt := 104) C nx2 zd_M_about_16 (by omega) (by omega) (by rw [c13]; rfl) (by decide) ?_
      refine lv_aload_n C.1 C.2.1 zd_M_about_104 rfl (lv_at hl 0 rfl) ?_
      refine zg_M_world (r := 0) C hK hW (zvd_9 (by decide) (by decide)) zk_1500 zd_M_about_105 ?_
      refine zg_W_mother (r := 0) C hK hW (zvd_5 (by decide) (by decide)) zk_1284 zd_M_about_108 ?_
      refine lv_iload_n C.1 C.2.1 zd_M_about_111 rfl (lv_at hl 1 rfl) ?_
      obtain ⟨h14, hf⟩ := zck_some hf
      refine ziald C hK hW (zvd_5 (by decide) (by decide)) (fun f => ze_5_3 B f (0)) (by decide) h14 zd_M_about_112 ?_
      cases hf
      exact zre_i C hr hlk hK hW hS (zWn hW _ _ _ _ rfl) zd_M_about_113
    rw [if_neg c13] at hf
    by_cases c15 : x2 = 4
    · rw [if_pos c15] at hf
      refine zr_tab (off := 98) (tgt := 114) C nx2 zd_M_about_16 (by omega) (by omega) (by rw [c15]; rfl) (by decide) ?_
      refine lv_aload_n C.1 C.2.1 zd_M_about_114 rfl (lv_at hl 0 rfl) ?_
      refine zg_M_world (r := 0) C hK hW (zvd_9 (by decide) (by decide)) zk_1500 zd_M_about_115 ?_
      refine zg_W_skills (r := 0) C hK hW (zvd_5 (by decide) (by decide)) zk_1286 zd_M_about_118 ?_
      refine lv_iload_n C.1 C.2.1 zd_M_about_121 rfl (lv_at hl 1 rfl) ?_
      obtain ⟨h16, hf⟩ := zck_some hf
      refine ziald C hK hW (zvd_5 (by decide) (by decide)) (fun f => ze_5_4 B f (0)) (by decide) h16 zd_M_about_122 ?_
      cases hf
      exact zre_i C hr hlk hK hW hS (zWn hW _ _ _ _ rfl) zd_M_about_123
    rw [if_neg c15] at hf
    by_cases c17 : x2 = 5
    · rw [if_pos c17] at hf
      refine zr_tab (off := 108) (tgt := 124) C nx2 zd_M_about_16 (by omega) (by omega) (by rw [c17]; rfl) (by decide) ?_
      refine lv_aload_n C.1 C.2.1 zd_M_about_124 rfl (lv_at hl 0 rfl) ?_
      refine zg_M_world (r := 0) C hK hW (zvd_9 (by decide) (by decide)) zk_1500 zd_M_about_125 ?_
      refine zg_W_state (r := 0) C hK hW (zvd_5 (by decide) (by decide)) zk_1288 zd_M_about_128 ?_
      refine lv_iload_n C.1 C.2.1 zd_M_about_131 rfl (lv_at hl 1 rfl) ?_
      obtain ⟨h18, hf⟩ := zck_some hf
      refine ziald C hK hW (zvd_5 (by decide) (by decide)) (fun f => ze_5_5 B f (0)) (by decide) h18 zd_M_about_132 ?_
      cases hf
      exact zre_i C hr hlk hK hW hS (zWn hW _ _ _ _ rfl) zd_M_about_133
    rw [if_neg c17] at hf
    by_cases c19 : x2 = 6
    · rw [if_pos c19] at hf
      refine zr_tab (off := 118) (tgt := 134) C nx2 zd_M_about_16 (by omega) (by omega) (by rw [c19]; rfl) (by decide) ?_
      refine lv_aload_n C.1 C.2.1 zd_M_about_134 rfl (lv_at hl 0 rfl) ?_
      refine zg_M_world (r := 0) C hK hW (zvd_9 (by decide) (by decide)) zk_1500 zd_M_about_135 ?_
      refine zg_W_discontent (r := 0) C hK hW (zvd_5 (by decide) (by decide)) zk_1292 zd_M_about_138 ?_
      refine lv_iload_n C.1 C.2.1 zd_M_about_141 rfl (lv_at hl 1 rfl) ?_
      obtain ⟨h20, hf⟩ := zck_some hf
      refine ziald C hK hW (zvd_5 (by decide) (by decide)) (fun f => ze_5_7 B f (0)) (by decide) h20 zd_M_about_142 ?_
      cases hf
      exact zre_i C hr hlk hK hW hS (zWn hW _ _ _ _ rfl) zd_M_about_143
    rw [if_neg c19] at hf
    by_cases c21 : x2 = 7
    · rw [if_pos c21] at hf
      refine zr_tab (off := 128) (tgt := 144) C nx2 zd_M_about_16 (by omega) (by omega) (by rw [c21]; rfl) (by decide) ?_
      refine lv_aload_n C.1 C.2.1 zd_M_about_144 rfl (lv_at hl 0 rfl) ?_
      refine zg_M_world (r := 0) C hK hW (zvd_9 (by decide) (by decide)) zk_1500 zd_M_about_145 ?_
      refine zg_W_post (r := 0) C hK hW (zvd_5 (by decide) (by decide)) zk_1294 zd_M_about_148 ?_
      refine lv_iload_n C.1 C.2.1 zd_M_about_151 rfl (lv_at hl 1 rfl) ?_
      obtain ⟨h22, hf⟩ := zck_some hf
      refine ziald C hK hW (zvd_5 (by decide) (by decide)) (fun f => ze_5_8 B f (0)) (by decide) h22 zd_M_about_152 ?_
      cases hf
      exact zre_i C hr hlk hK hW hS (zWn hW _ _ _ _ rfl) zd_M_about_153
    rw [if_neg c21] at hf
    by_cases c23 : x2 = 8
    · rw [if_pos c23] at hf
      refine zr_tab (off := 138) (tgt := 154) C nx2 zd_M_about_16 (by omega) (by omega) (by rw [c23]; rfl) (by decide) ?_
      refine lv_aload_n C.1 C.2.1 zd_M_about_154 rfl (lv_at hl 0 rfl) ?_
      refine zg_M_world (r := 0) C hK hW (zvd_9 (by decide) (by decide)) zk_1500 zd_M_about_155 ?_
      refine lv_iload_n C.1 C.2.1 zd_M_about_158 rfl (lv_at hl 1 rfl) ?_
      obtain ⟨a24, S25, ea24, hf⟩ := zbd_some hf
      refine zcVi (As := [.int (zI (x1))]) (rest := []) C hK hSt hW hS (zc_W_needOf hap (0) (by decide) x1 S3 nx1 ea24) zq_W_needOf zk_1617 (zrecv hK hW (zvd_5 (by decide) (by decide)) (ze_5_0 B _ (0)) rfl) ⟨rfl, rfl, by decide, by decide⟩ ⟨Nat.zero_le _, Nat.zero_le _⟩ rfl hl.1 rfl (lv_room (Nat.le_of_ble_eq_true rfl)) zd_M_about_159 (fun na24 H locs hW hS => ?_)
      cases hf
      exact zre_i C hr hlk hK hW hS na24 zd_M_about_162
    rw [if_neg c23] at hf
    by_cases c26 : x2 = 9
    · rw [if_pos c26] at hf
      refine zr_tab (off := 147) (tgt := 163) C nx2 zd_M_about_16 (by omega) (by omega) (by rw [c26]; rfl) (by decide) ?_
      refine lv_aload_n C.1 C.2.1 zd_M_about_163 rfl (lv_at hl 0 rfl) ?_
      refine zg_M_world (r := 0) C hK hW (zvd_9 (by decide) (by decide)) zk_1500 zd_M_about_164 ?_
      refine lv_iload_n C.1 C.2.1 zd_M_about_167 rfl (lv_at hl 1 rfl) ?_
      obtain ⟨a27, S28, ea27, hf⟩ := zbd_some hf
      refine zcVi (As := [.int (zI (x1))]) (rest := []) C hK hSt hW hS (zc_W_wageOf hap (0) (by decide) x1 S3 nx1 ea27) zq_W_wageOf zk_1625 (zrecv hK hW (zvd_5 (by decide) (by decide)) (ze_5_0 B _ (0)) rfl) ⟨rfl, rfl, by decide, by decide⟩ ⟨Nat.zero_le _, Nat.zero_le _⟩ rfl hl.1 rfl (lv_room (Nat.le_of_ble_eq_true rfl)) zd_M_about_168 (fun na27 H locs hW hS => ?_)
      cases hf
      exact zre_i C hr hlk hK hW hS na27 zd_M_about_171
    rw [if_neg c26] at hf
    by_cases c29 : x2 = 10
    · rw [if_pos c29] at hf
      refine zr_tab (off := 156) (tgt := 172) C nx2 zd_M_about_16 (by omega) (by omega) (by rw [c29]; rfl) (by decide) ?_
      refine lv_aload_n C.1 C.2.1 zd_M_about_172 rfl (lv_at hl 0 rfl) ?_
      refine zg_M_world (r := 0) C hK hW (zvd_9 (by decide) (by decide)) zk_1500 zd_M_about_173 ?_
      refine zg_W_hungry (r := 0) C hK hW (zvd_5 (by decide) (by decide)) zk_1296 zd_M_about_176 ?_
      refine lv_iload_n C.1 C.2.1 zd_M_about_179 rfl (lv_at hl 1 rfl) ?_
      obtain ⟨h30, hf⟩ := zck_some hf
      refine ziald C hK hW (zvd_5 (by decide) (by decide)) (fun f => ze_5_9 B f (0)) (by decide) h30 zd_M_about_180 ?_
      cases hf
      exact zre_i C hr hlk hK hW hS (zWn hW _ _ _ _ rfl) zd_M_about_181
    rw [if_neg c29] at hf
    refine zr_tabo (tgt := 182) C nx2 zd_M_about_16 (by omega) (by decide) ?_
    refine zr_iconst C zd_M_about_182 ?_
    cases hf
    exact zre_i C hr hlk hK hW hS (znb rfl) zd_M_about_183
  · rw [if_pos c4] at hf
    refine zr_iconst C zd_M_about_13 ?_
    cases hf
    exact zre_i C hr hlk hK hW hS (znb rfl) zd_M_about_14

theorem zc_M_about {l : Launch} {B : zB} (hap : zAp B) (x1 : Int) (x2 : Int) (S : Sg) (nx1 : zn x1) (nx2 : zn x2) {res : Int} {S9 : Sg} (hf : zf_M_about x1 x2 S = some (res, S9)) : Met l zy_M_about (Cond.code zy_M_about zb_M_about 3 (some .int) :: zT) zm_M_about (zP B S [.ref (B.2.1 9 (0) (0)), .int (zI (x1)), .int (zI (x2))]) (zQi B res S9) 0 0 B.2.2.2 :=
  zmet (by decide) (Nat.le_of_ble_eq_true rfl) (fun p e s m args below meth c C hr hlk hK hSt hW ls hl => zw_M_about C hr hlk hK hSt hap   x1 x2 S nx1 nx2 hf _ _ _ hW va_S.rf hl)
/-! IslandOfficeModel$World.heads(I)I -/
abbrev zy_W_heads : MethodName := ⟨"IslandOfficeModel$World", "heads", "(I)I"⟩
abbrev zb_W_heads : ByteArray := prog_15_method_11_code
abbrev zm_W_heads : Room := { frames := 1, cells := 0, slots := 0, locals := 21 }
theorem zq_W_heads : zMy zy_W_heads zb_W_heads 4 (some .int) 1 := ⟨zk_1639, zk_1637, zk_1638, zk_15, by decide, by decide, by decide +kernel⟩
theorem zd_W_heads_0 : decode zb_W_heads 0 = .ok (.iconst 0, 1) := by decide +kernel
theorem zd_W_heads_1 : decode zb_W_heads 1 = .ok (.istore_n 2, 1) := by decide +kernel
theorem zd_W_heads_2 : decode zb_W_heads 2 = .ok (.iconst 0, 1) := by decide +kernel
theorem zd_W_heads_3 : decode zb_W_heads 3 = .ok (.istore_n 3, 1) := by decide +kernel
theorem zd_W_heads_4 : decode zb_W_heads 4 = .ok (.iload_n 3, 1) := by decide +kernel
theorem zd_W_heads_5 : decode zb_W_heads 5 = .ok (.aload_n 0, 1) := by decide +kernel
theorem zd_W_heads_6 : decode zb_W_heads 6 = .ok (.getfield 158, 3) := by decide +kernel
theorem zd_W_heads_9 : decode zb_W_heads 9 = .ok (.if_icmp .ge 35, 3) := by decide +kernel
theorem zd_W_heads_12 : decode zb_W_heads 12 = .ok (.iload_n 2, 1) := by decide +kernel
theorem zd_W_heads_13 : decode zb_W_heads 13 = .ok (.aload_n 0, 1) := by decide +kernel
theorem zd_W_heads_14 : decode zb_W_heads 14 = .ok (.iload_n 3, 1) := by decide +kernel
theorem zd_W_heads_15 : decode zb_W_heads 15 = .ok (.invokevirtual 203, 3) := by decide +kernel
theorem zd_W_heads_18 : decode zb_W_heads 18 = .ok (.ifCond .eq 17, 3) := by decide +kernel
theorem zd_W_heads_21 : decode zb_W_heads 21 = .ok (.aload_n 0, 1) := by decide +kernel
theorem zd_W_heads_22 : decode zb_W_heads 22 = .ok (.getfield 15, 3) := by decide +kernel
theorem zd_W_heads_25 : decode zb_W_heads 25 = .ok (.iload_n 3, 1) := by decide +kernel
theorem zd_W_heads_26 : decode zb_W_heads 26 = .ok (.iaload, 1) := by decide +kernel
theorem zd_W_heads_27 : decode zb_W_heads 27 = .ok (.iload_n 1, 1) := by decide +kernel
theorem zd_W_heads_28 : decode zb_W_heads 28 = .ok (.if_icmp .ne 7, 3) := by decide +kernel
theorem zd_W_heads_31 : decode zb_W_heads 31 = .ok (.iconst 1, 1) := by decide +kernel
theorem zd_W_heads_32 : decode zb_W_heads 32 = .ok (.goto 4, 3) := by decide +kernel
theorem zd_W_heads_35 : decode zb_W_heads 35 = .ok (.iconst 0, 1) := by decide +kernel
theorem zd_W_heads_36 : decode zb_W_heads 36 = .ok (.iadd, 1) := by decide +kernel
theorem zd_W_heads_37 : decode zb_W_heads 37 = .ok (.istore_n 2, 1) := by decide +kernel
theorem zd_W_heads_38 : decode zb_W_heads 38 = .ok (.iinc 3 1, 3) := by decide +kernel
theorem zd_W_heads_41 : decode zb_W_heads 41 = .ok (.goto (-37), 3) := by decide +kernel
theorem zd_W_heads_44 : decode zb_W_heads 44 = .ok (.iload_n 2, 1) := by decide +kernel
theorem zd_W_heads_45 : decode zb_W_heads 45 = .ok (.ireturn, 1) := by decide +kernel

def zf_W_heads_36 (r0 : Int) (q4 : Int → Int → Int → Sg → Option (Int × Sg)) (x1 : Int) (x3 : Int) (xt0 : Int) (xt1 : Int) (S : Sg) : Option (Int × Sg) :=
    zlt (zw (xt0 + xt1)) fun v1 => zlt (zw (x3 + 1)) fun v2 => q4 (x1) (v1) (v2) S
set_option maxHeartbeats 4000000 in
set_option maxRecDepth 100000 in
theorem zw_W_heads_36 {p : Program} {l : Launch} {e : Env} {s : State} {m : MethodId} {args : Array Value} {below : List Frame} {meth : Method} {c : Code} {B : zB} (C : CallFix p m c zb_W_heads 4 s args zT "IslandOfficeModel$World") (hr : meth.sig.returnType = some .int) (hlk : meth.locks = false) (hK : zK B s) (hSt : zSt B s) (hap : zAp B) (r0 : Int) (hr0 : 0 ≤ r0 ∧ r0 < 3) {res : Int} {S9 : Sg} (q4 : Int → Int → Int → Sg → Option (Int × Sg)) (hq4 : ∀ (x1 : Int) (x2 : Int) (x3 : Int) (S : Sg) (nx1 : zn x1) (nx2 : zn x2) (nx3 : zn x3), q4 x1 x2 x3 S = some (res, S9) → ∀ (H : Heap) (locs : List Loc) (ls : Array Slot), zW B S H → va_S B.2.2.2 s.heap H locs → lv_has ls 4 [(0, .ref (B.2.1 5 (r0) (0))), (1, .int (zI (x1))), (2, .int (zI (x2))), (3, .int (zI (x3)))] → W p l e zm_W_heads s m args below meth c H locs 0 0 (MQ below (zQi B res S9) args s 0 0 B.2.2.2) (F0 m 4 ls [])) : ∀ (x1 : Int) (x3 : Int) (xt0 : Int) (xt1 : Int) (S : Sg) (nx1 : zn x1) (nx3 : zn x3) (nxt0 : zn xt0) (nxt1 : zn xt1), zf_W_heads_36 r0 q4 x1 x3 xt0 xt1 S = some (res, S9) → ∀ (H : Heap) (locs : List Loc) (ls : Array Slot), zW B S H → va_S B.2.2.2 s.heap H locs → lv_has ls 4 [(0, .ref (B.2.1 5 (r0) (0))), (1, .int (zI (x1))), (3, .int (zI (x3)))] → W p l e zm_W_heads s m args below meth c H locs 0 0 (MQ below (zQi B res S9) args s 0 0 B.2.2.2) (F0 m 36 ls [.int (zI (xt1)), .int (zI (xt0))]) := by
  intro x1 x3 xt0 xt1 S nx1 nx3 nxt0 nxt1 hf H locs ls hW hS hl
  unfold zf_W_heads_36 at hf
  refine zr_iadd C zd_W_heads_36 ?_
  obtain ⟨v1, ev1, hf⟩ := zlt_some hf
  have nv1 : zn v1 := by rw [← ev1]; exact (zn_w _)
  rw [ev1]
  refine lv_istore_n (lv' := [(2, .int (zI (v1))), (0, .ref (B.2.1 5 (r0) (0))), (1, .int (zI (x1))), (3, .int (zI (x3)))]) C.1 C.2.1 zd_W_heads_37 rfl hl (by decide) rfl (fun ls hl => ?_)
  obtain ⟨v2, ev2, hf⟩ := zlt_some hf
  have nv2 : zn v2 := by rw [← ev2]; exact zn_w _
  refine lv_iinc (v := zI v2) (lv' := [(3, .int (zI (v2))), (2, .int (zI (v1))), (0, .ref (B.2.1 5 (r0) (0))), (1, .int (zI (x1)))]) C.1 C.2.1 zd_W_heads_38 hl (k := 3) rfl (by rw [← ev2, ← zI_add]; rfl) (by decide) rfl (fun ls hl => ?_)
  refine lv_goto (tgt := 4) C.1 C.2.1 zd_W_heads_41 (by decide) ?_
  exact hq4 (x1) (v1) (v2) S nx1 nv1 nv2 hf _ _ _ hW hS (lv_sub hl [2, 3, 1, 0] rfl)

def zf_W_heads_35 (r0 : Int) (q4 : Int → Int → Int → Sg → Option (Int × Sg)) (x1 : Int) (x3 : Int) (xt0 : Int) (S : Sg) : Option (Int × Sg) :=
    zf_W_heads_36 r0 q4 (x1) (x3) (xt0) (0) S
set_option maxHeartbeats 4000000 in
set_option maxRecDepth 100000 in
theorem zw_W_heads_35 {p : Program} {l : Launch} {e : Env} {s : State} {m : MethodId} {args : Array Value} {below : List Frame} {meth : Method} {c : Code} {B : zB} (C : CallFix p m c zb_W_heads 4 s args zT "IslandOfficeModel$World") (hr : meth.sig.returnType = some .int) (hlk : meth.locks = false) (hK : zK B s) (hSt : zSt B s) (hap : zAp B) (r0 : Int) (hr0 : 0 ≤ r0 ∧ r0 < 3) {res : Int} {S9 : Sg} (q4 : Int → Int → Int → Sg → Option (Int × Sg)) (hq4 : ∀ (x1 : Int) (x2 : Int) (x3 : Int) (S : Sg) (nx1 : zn x1) (nx2 : zn x2) (nx3 : zn x3), q4 x1 x2 x3 S = some (res, S9) → ∀ (H : Heap) (locs : List Loc) (ls : Array Slot), zW B S H → va_S B.2.2.2 s.heap H locs → lv_has ls 4 [(0, .ref (B.2.1 5 (r0) (0))), (1, .int (zI (x1))), (2, .int (zI (x2))), (3, .int (zI (x3)))] → W p l e zm_W_heads s m args below meth c H locs 0 0 (MQ below (zQi B res S9) args s 0 0 B.2.2.2) (F0 m 4 ls [])) : ∀ (x1 : Int) (x3 : Int) (xt0 : Int) (S : Sg) (nx1 : zn x1) (nx3 : zn x3) (nxt0 : zn xt0), zf_W_heads_35 r0 q4 x1 x3 xt0 S = some (res, S9) → ∀ (H : Heap) (locs : List Loc) (ls : Array Slot), zW B S H → va_S B.2.2.2 s.heap H locs → lv_has ls 4 [(0, .ref (B.2.1 5 (r0) (0))), (1, .int (zI (x1))), (3, .int (zI (x3)))] → W p l e zm_W_heads s m args below meth c H locs 0 0 (MQ below (zQi B res S9) args s 0 0 B.2.2.2) (F0 m 35 ls [.int (zI (xt0))]) := by
  intro x1 x3 xt0 S nx1 nx3 nxt0 hf H locs ls hW hS hl
  unfold zf_W_heads_35 at hf
  refine zr_iconst C zd_W_heads_35 ?_
  exact zw_W_heads_36 C hr hlk hK hSt hap r0 hr0 q4 hq4 (x1) (x3) (xt0) (0) S nx1 nx3 nxt0 (znb rfl) hf _ _ _ hW hS (lv_sub hl [0, 1, 2] rfl)

def zf_W_heads_4 (r0 : Int) : Nat → Int → Int → Int → Sg → Option (Int × Sg)
  | 0, _, _, _, _ => none
  | n + 1, x1, x2, x3, S =>
    if (S 5 r0 0 1) ≤ x3 then (some (x2, S)) else (zbd (zf_W_here (r0) x3 S) fun a2 S3 => if a2 = 0 then (zf_W_heads_35 r0 (zf_W_heads_4 r0 n) (x1) (x3) (x2) S3) else (zck (0 ≤ x3 ∧ x3 < 40) <| if (S3 5 r0 2 x3) = x1 then (zf_W_heads_36 r0 (zf_W_heads_4 r0 n) (x1) (x3) (x2) (1) S3) else (zf_W_heads_35 r0 (zf_W_heads_4 r0 n) (x1) (x3) (x2) S3)))
set_option maxHeartbeats 4000000 in
set_option maxRecDepth 100000 in
theorem zw_W_heads_4 {p : Program} {l : Launch} {e : Env} {s : State} {m : MethodId} {args : Array Value} {below : List Frame} {meth : Method} {c : Code} {B : zB} (C : CallFix p m c zb_W_heads 4 s args zT "IslandOfficeModel$World") (hr : meth.sig.returnType = some .int) (hlk : meth.locks = false) (hK : zK B s) (hSt : zSt B s) (hap : zAp B) (r0 : Int) (hr0 : 0 ≤ r0 ∧ r0 < 3) {res : Int} {S9 : Sg} : ∀ n : Nat, ∀ (x1 : Int) (x2 : Int) (x3 : Int) (S : Sg) (nx1 : zn x1) (nx2 : zn x2) (nx3 : zn x3), zf_W_heads_4 r0 n x1 x2 x3 S = some (res, S9) → ∀ (H : Heap) (locs : List Loc) (ls : Array Slot), zW B S H → va_S B.2.2.2 s.heap H locs → lv_has ls 4 [(0, .ref (B.2.1 5 (r0) (0))), (1, .int (zI (x1))), (2, .int (zI (x2))), (3, .int (zI (x3)))] → W p l e zm_W_heads s m args below meth c H locs 0 0 (MQ below (zQi B res S9) args s 0 0 B.2.2.2) (F0 m 4 ls []) := by
  intro n
  induction n with
  | zero =>
    intro x1 x2 x3 S nx1 nx2 nx3 hf H locs ls hW hS hl
    cases hf
  | succ n ih =>
    intro x1 x2 x3 S nx1 nx2 nx3 hf H locs ls hW hS hl
    rw [zf_W_heads_4] at hf
    refine lv_iload_n C.1 C.2.1 zd_W_heads_4 rfl (lv_at hl 3 rfl) ?_
    refine lv_aload_n C.1 C.2.1 zd_W_heads_5 rfl (lv_at hl 0 rfl) ?_
    refine zg_W_people (r := r0) C hK hW (zvd_5 hr0 (by decide)) zk_1277 zd_W_heads_6 ?_
    refine zr_icmp_ge (tgt := 44) C nx3 (zWn hW _ _ _ _ rfl) zd_W_heads_9 (by decide) (fun c1 => ?_) (fun c1 => ?_)
    · rw [if_pos c1] at hf
      refine lv_iload_n C.1 C.2.1 zd_W_heads_44 rfl (lv_at hl 2 rfl) ?_
      cases hf
      exact zre_i C hr hlk hK hW hS nx2 zd_W_heads_45
    · rw [if_neg c1] at hf
      refine lv_iload_n C.1 C.2.1 zd_W_heads_12 rfl (lv_at hl 2 rfl) ?_
      refine lv_aload_n C.1 C.2.1 zd_W_heads_13 rfl (lv_at hl 0 rfl) ?_
      refine lv_iload_n C.1 C.2.1 zd_W_heads_14 rfl (lv_at hl 3 rfl) ?_
      obtain ⟨a2, S3, ea2, hf⟩ := zbd_some hf
      refine zcVi (As := [.int (zI (x3))]) (rest := [.int (zI (x2))]) C hK hSt hW hS (zc_W_here hap (r0) hr0 x3 S nx3 ea2) zq_W_here zk_1640 (zrecv hK hW (zvd_5 hr0 (by decide)) (ze_5_0 B _ (r0)) rfl) ⟨rfl, rfl, by decide, by decide⟩ ⟨Nat.zero_le _, Nat.zero_le _⟩ rfl hl.1 rfl (lv_room (Nat.le_of_ble_eq_true rfl)) zd_W_heads_15 (fun na2 H locs hW hS => ?_)
      refine zr_if_eq (tgt := 35) C na2 zd_W_heads_18 (by decide) (fun c4 => ?_) (fun c4 => ?_)
      · rw [if_pos c4] at hf
        exact zw_W_heads_35 C hr hlk hK hSt hap r0 hr0 (zf_W_heads_4 r0 n) (ih) (x1) (x3) (x2) S3 nx1 nx3 nx2 hf _ _ _ hW hS (lv_sub hl [0, 1, 3] rfl)
      · rw [if_neg c4] at hf
        refine lv_aload_n C.1 C.2.1 zd_W_heads_21 rfl (lv_at hl 0 rfl) ?_
        refine zg_W_house (r := r0) C hK hW (zvd_5 hr0 (by decide)) zk_1281 zd_W_heads_22 ?_
        refine lv_iload_n C.1 C.2.1 zd_W_heads_25 rfl (lv_at hl 3 rfl) ?_
        obtain ⟨h5, hf⟩ := zck_some hf
        refine ziald C hK hW (zvd_5 hr0 (by decide)) (fun f => ze_5_2 B f (r0)) (by decide) h5 zd_W_heads_26 ?_
        refine lv_iload_n C.1 C.2.1 zd_W_heads_27 rfl (lv_at hl 1 rfl) ?_
        refine zr_icmp_ne (tgt := 35) C (zWn hW _ _ _ _ rfl) nx1 zd_W_heads_28 (by decide) (fun c6 => ?_) (fun c6 => ?_)
        · rw [if_neg c6] at hf
          exact zw_W_heads_35 C hr hlk hK hSt hap r0 hr0 (zf_W_heads_4 r0 n) (ih) (x1) (x3) (x2) S3 nx1 nx3 nx2 hf _ _ _ hW hS (lv_sub hl [0, 1, 3] rfl)
        · rw [if_pos c6] at hf
          refine zr_iconst C zd_W_heads_31 ?_
          refine lv_goto (tgt := 36) C.1 C.2.1 zd_W_heads_32 (by decide) ?_
          exact zw_W_heads_36 C hr hlk hK hSt hap r0 hr0 (zf_W_heads_4 r0 n) (ih) (x1) (x3) (x2) (1) S3 nx1 nx3 nx2 (znb rfl) hf _ _ _ hW hS (lv_sub hl [0, 1, 3] rfl)

def zf_W_heads (r0 : Int) (x1 : Int) (S : Sg) : Option (Int × Sg) :=
    zf_W_heads_4 r0 4096 (x1) (0) (0) S
set_option maxHeartbeats 4000000 in
set_option maxRecDepth 100000 in
theorem zw_W_heads {p : Program} {l : Launch} {e : Env} {s : State} {m : MethodId} {args : Array Value} {below : List Frame} {meth : Method} {c : Code} {B : zB} (C : CallFix p m c zb_W_heads 4 s args zT "IslandOfficeModel$World") (hr : meth.sig.returnType = some .int) (hlk : meth.locks = false) (hK : zK B s) (hSt : zSt B s) (hap : zAp B) (r0 : Int) (hr0 : 0 ≤ r0 ∧ r0 < 3) {res : Int} {S9 : Sg} : ∀ (x1 : Int) (S : Sg) (nx1 : zn x1), zf_W_heads r0 x1 S = some (res, S9) → ∀ (H : Heap) (locs : List Loc) (ls : Array Slot), zW B S H → va_S B.2.2.2 s.heap H locs → lv_has ls 4 [(0, .ref (B.2.1 5 (r0) (0))), (1, .int (zI (x1)))] → W p l e zm_W_heads s m args below meth c H locs 0 0 (MQ below (zQi B res S9) args s 0 0 B.2.2.2) (F0 m 0 ls []) := by
  intro x1 S nx1 hf H locs ls hW hS hl
  unfold zf_W_heads at hf
  refine zr_iconst C zd_W_heads_0 ?_
  refine lv_istore_n (lv' := [(2, .int (zI (0))), (0, .ref (B.2.1 5 (r0) (0))), (1, .int (zI (x1)))]) C.1 C.2.1 zd_W_heads_1 rfl hl (by decide) rfl (fun ls hl => ?_)
  refine zr_iconst C zd_W_heads_2 ?_
  refine lv_istore_n (lv' := [(3, .int (zI (0))), (2, .int (zI (0))), (0, .ref (B.2.1 5 (r0) (0))), (1, .int (zI (x1)))]) C.1 C.2.1 zd_W_heads_3 rfl hl (by decide) rfl (fun ls hl => ?_)
  exact zw_W_heads_4 C hr hlk hK hSt hap r0 hr0 4096 (x1) (0) (0) S nx1 (znb rfl) (znb rfl) hf _ _ _ hW hS (lv_sub hl [2, 3, 1, 0] rfl)

theorem zc_W_heads {l : Launch} {B : zB} (hap : zAp B) (r0 : Int) (hr0 : 0 ≤ r0 ∧ r0 < 3) (x1 : Int) (S : Sg) (nx1 : zn x1) {res : Int} {S9 : Sg} (hf : zf_W_heads r0 x1 S = some (res, S9)) : Met l zy_W_heads (Cond.code zy_W_heads zb_W_heads 4 (some .int) :: zT) zm_W_heads (zP B S [.ref (B.2.1 5 (r0) (0)), .int (zI (x1))]) (zQi B res S9) 0 0 B.2.2.2 :=
  zmet (by decide) (Nat.le_of_ble_eq_true rfl) (fun p e s m args below meth c C hr hlk hK hSt hW ls hl => zw_W_heads C hr hlk hK hSt hap r0 hr0 x1 S nx1 hf _ _ _ hW va_S.rf hl)
/-! IslandOfficeModel.home(II)I -/
abbrev zy_M_home : MethodName := ⟨"IslandOfficeModel", "home", "(II)I"⟩
abbrev zb_M_home : ByteArray := prog_14_method_20_code
abbrev zm_M_home : Room := { frames := 2, cells := 0, slots := 0, locals := 44 }
theorem zq_M_home : zMy zy_M_home zb_M_home 3 (some .int) 2 := ⟨zk_1635, zk_1633, zk_1634, zk_14, by decide, by decide, by decide +kernel⟩
theorem zd_M_home_0 : decode zb_M_home 0 = .ok (.aload_n 0, 1) := by decide +kernel
theorem zd_M_home_1 : decode zb_M_home 1 = .ok (.iconst 0, 1) := by decide +kernel
theorem zd_M_home_2 : decode zb_M_home 2 = .ok (.putfield 46, 3) := by decide +kernel
theorem zd_M_home_5 : decode zb_M_home 5 = .ok (.iload_n 1, 1) := by decide +kernel
theorem zd_M_home_6 : decode zb_M_home 6 = .ok (.invokestatic 90, 3) := by decide +kernel
theorem zd_M_home_9 : decode zb_M_home 9 = .ok (.ifCond .ne 5, 3) := by decide +kernel
theorem zd_M_home_12 : decode zb_M_home 12 = .ok (.iconst (-1), 1) := by decide +kernel
theorem zd_M_home_13 : decode zb_M_home 13 = .ok (.ireturn, 1) := by decide +kernel
theorem zd_M_home_14 : decode zb_M_home 14 = .ok (.iload_n 2, 1) := by decide +kernel
theorem zd_M_home_15 : decode zb_M_home 15 = .ok (.tableswitch 82 0 4 #[33, 42, 52, 62, 72], 33) := by decide +kernel
theorem zd_M_home_48 : decode zb_M_home 48 = .ok (.aload_n 0, 1) := by decide +kernel
theorem zd_M_home_49 : decode zb_M_home 49 = .ok (.getfield 10, 3) := by decide +kernel
theorem zd_M_home_52 : decode zb_M_home 52 = .ok (.iload_n 1, 1) := by decide +kernel
theorem zd_M_home_53 : decode zb_M_home 53 = .ok (.invokevirtual 123, 3) := by decide +kernel
theorem zd_M_home_56 : decode zb_M_home 56 = .ok (.ireturn, 1) := by decide +kernel
theorem zd_M_home_57 : decode zb_M_home 57 = .ok (.aload_n 0, 1) := by decide +kernel
theorem zd_M_home_58 : decode zb_M_home 58 = .ok (.getfield 10, 3) := by decide +kernel
theorem zd_M_home_61 : decode zb_M_home 61 = .ok (.getfield 114, 3) := by decide +kernel
theorem zd_M_home_64 : decode zb_M_home 64 = .ok (.iload_n 1, 1) := by decide +kernel
theorem zd_M_home_65 : decode zb_M_home 65 = .ok (.iaload, 1) := by decide +kernel
theorem zd_M_home_66 : decode zb_M_home 66 = .ok (.ireturn, 1) := by decide +kernel
theorem zd_M_home_67 : decode zb_M_home 67 = .ok (.aload_n 0, 1) := by decide +kernel
theorem zd_M_home_68 : decode zb_M_home 68 = .ok (.getfield 10, 3) := by decide +kernel
theorem zd_M_home_71 : decode zb_M_home 71 = .ok (.getfield 40, 3) := by decide +kernel
theorem zd_M_home_74 : decode zb_M_home 74 = .ok (.iload_n 1, 1) := by decide +kernel
theorem zd_M_home_75 : decode zb_M_home 75 = .ok (.iaload, 1) := by decide +kernel
theorem zd_M_home_76 : decode zb_M_home 76 = .ok (.ireturn, 1) := by decide +kernel
theorem zd_M_home_77 : decode zb_M_home 77 = .ok (.aload_n 0, 1) := by decide +kernel
theorem zd_M_home_78 : decode zb_M_home 78 = .ok (.getfield 10, 3) := by decide +kernel
theorem zd_M_home_81 : decode zb_M_home 81 = .ok (.getfield 43, 3) := by decide +kernel
theorem zd_M_home_84 : decode zb_M_home 84 = .ok (.iload_n 1, 1) := by decide +kernel
theorem zd_M_home_85 : decode zb_M_home 85 = .ok (.iaload, 1) := by decide +kernel
theorem zd_M_home_86 : decode zb_M_home 86 = .ok (.ireturn, 1) := by decide +kernel
theorem zd_M_home_87 : decode zb_M_home 87 = .ok (.aload_n 0, 1) := by decide +kernel
theorem zd_M_home_88 : decode zb_M_home 88 = .ok (.getfield 10, 3) := by decide +kernel
theorem zd_M_home_91 : decode zb_M_home 91 = .ok (.getfield 126, 3) := by decide +kernel
theorem zd_M_home_94 : decode zb_M_home 94 = .ok (.iload_n 1, 1) := by decide +kernel
theorem zd_M_home_95 : decode zb_M_home 95 = .ok (.iaload, 1) := by decide +kernel
theorem zd_M_home_96 : decode zb_M_home 96 = .ok (.ireturn, 1) := by decide +kernel
theorem zd_M_home_97 : decode zb_M_home 97 = .ok (.iconst (-1), 1) := by decide +kernel
theorem zd_M_home_98 : decode zb_M_home 98 = .ok (.ireturn, 1) := by decide +kernel

def zf_M_home (x1 : Int) (x2 : Int) (S : Sg) : Option (Int × Sg) :=
    zlt (zu S 9 0 0 4 0) fun S1 => zbd (zf_M_isHouse x1 S1) fun a2 S3 => if a2 = 0 then (some (-1, S3)) else (if x2 = 0 then (zbd (zf_W_heads (0) x1 S3) fun a6 S7 => some (a6, S7)) else (if x2 = 1 then (zck (0 ≤ x1 ∧ x1 < 12) <| some (S3 5 0 10 x1, S3)) else (if x2 = 2 then (zck (0 ≤ x1 ∧ x1 < 12) <| some (S3 5 0 11 x1, S3)) else (if x2 = 3 then (zck (0 ≤ x1 ∧ x1 < 12) <| some (S3 5 0 12 x1, S3)) else (if x2 = 4 then (zck (0 ≤ x1 ∧ x1 < 12) <| some (S3 5 0 13 x1, S3)) else (some (-1, S3)))))))
set_option maxHeartbeats 4000000 in
set_option maxRecDepth 100000 in
theorem zw_M_home {p : Program} {l : Launch} {e : Env} {s : State} {m : MethodId} {args : Array Value} {below : List Frame} {meth : Method} {c : Code} {B : zB} (C : CallFix p m c zb_M_home 3 s args zT "IslandOfficeModel") (hr : meth.sig.returnType = some .int) (hlk : meth.locks = false) (hK : zK B s) (hSt : zSt B s) (hap : zAp B) {res : Int} {S9 : Sg} : ∀ (x1 : Int) (x2 : Int) (S : Sg) (nx1 : zn x1) (nx2 : zn x2), zf_M_home x1 x2 S = some (res, S9) → ∀ (H : Heap) (locs : List Loc) (ls : Array Slot), zW B S H → va_S B.2.2.2 s.heap H locs → lv_has ls 3 [(0, .ref (B.2.1 9 (0) (0))), (1, .int (zI (x1))), (2, .int (zI (x2)))] → W p l e zm_M_home s m args below meth c H locs 0 0 (MQ below (zQi B res S9) args s 0 0 B.2.2.2) (F0 m 0 ls []) := by
  intro x1 x2 S nx1 nx2 hf H locs ls hW hS hl
  unfold zf_M_home at hf
  refine lv_aload_n C.1 C.2.1 zd_M_home_0 rfl (lv_at hl 0 rfl) ?_
  refine zr_iconst C zd_M_home_1 ?_
  obtain ⟨S1, eS1, hf⟩ := zlt_some hf
  refine zp_M_thrown (r := 0) C hK hap hW hS (zvd_9 (by decide) (by decide)) zk_1504 (znb rfl) zd_M_home_2 (fun H locs hW hS => ?_)
  rw [eS1] at hW
  refine lv_iload_n C.1 C.2.1 zd_M_home_5 rfl (lv_at hl 1 rfl) ?_
  obtain ⟨a2, S3, ea2, hf⟩ := zbd_some hf
  refine zcSi (As := [.int (zI (x1))]) (rest := []) C hK hSt hW hS (zc_M_isHouse hap x1 S1 nx1 ea2) zq_M_isHouse zk_1561 ⟨rfl, rfl, by decide, by decide⟩ ⟨Nat.zero_le _, Nat.zero_le _⟩ rfl hl.1 rfl (lv_room (Nat.le_of_ble_eq_true rfl)) zd_M_home_6 (fun na2 H locs hW hS => ?_)
  refine zr_if_ne (tgt := 14) C na2 zd_M_home_9 (by decide) (fun c4 => ?_) (fun c4 => ?_)
  · rw [if_neg c4] at hf
    refine lv_iload_n C.1 C.2.1 zd_M_home_14 rfl (lv_at hl 2 rfl) ?_
    by_cases c5 : x2 = 0
    · rw [if_pos c5] at hf
      refine zr_tab (off := 33) (tgt := 48) C nx2 zd_M_home_15 (by omega) (by omega) (by rw [c5]; rfl) (by decide) ?_
      refine lv_aload_n C.1 C.2.1 zd_M_home_48 rfl (lv_at hl 0 rfl) ?_
      refine zg_M_world (r := 0) C hK hW (zvd_9 (by decide) (by decide)) zk_1500 zd_M_home_49 ?_
      refine lv_iload_n C.1 C.2.1 zd_M_home_52 rfl (lv_at hl 1 rfl) ?_
      obtain ⟨a6, S7, ea6, hf⟩ := zbd_some hf
      refine zcVi (As := [.int (zI (x1))]) (rest := []) C hK hSt hW hS (zc_W_heads hap (0) (by decide) x1 S3 nx1 ea6) zq_W_heads zk_1636 (zrecv hK hW (zvd_5 (by decide) (by decide)) (ze_5_0 B _ (0)) rfl) ⟨rfl, rfl, by decide, by decide⟩ ⟨Nat.zero_le _, Nat.zero_le _⟩ rfl hl.1 rfl (lv_room (Nat.le_of_ble_eq_true rfl)) zd_M_home_53 (fun na6 H locs hW hS => ?_)
      cases hf
      exact zre_i C hr hlk hK hW hS na6 zd_M_home_56
    rw [if_neg c5] at hf
    by_cases c8 : x2 = 1
    · rw [if_pos c8] at hf
      refine zr_tab (off := 42) (tgt := 57) C nx2 zd_M_home_15 (by omega) (by omega) (by rw [c8]; rfl) (by decide) ?_
      refine lv_aload_n C.1 C.2.1 zd_M_home_57 rfl (lv_at hl 0 rfl) ?_
      refine zg_M_world (r := 0) C hK hW (zvd_9 (by decide) (by decide)) zk_1500 zd_M_home_58 ?_
      refine zg_W_cattle (r := 0) C hK hW (zvd_5 (by decide) (by decide)) zk_1298 zd_M_home_61 ?_
      refine lv_iload_n C.1 C.2.1 zd_M_home_64 rfl (lv_at hl 1 rfl) ?_
      obtain ⟨h9, hf⟩ := zck_some hf
      refine ziald C hK hW (zvd_5 (by decide) (by decide)) (fun f => ze_5_10 B f (0)) (by decide) h9 zd_M_home_65 ?_
      cases hf
      exact zre_i C hr hlk hK hW hS (zWn hW _ _ _ _ rfl) zd_M_home_66
    rw [if_neg c8] at hf
    by_cases c10 : x2 = 2
    · rw [if_pos c10] at hf
      refine zr_tab (off := 52) (tgt := 67) C nx2 zd_M_home_15 (by omega) (by omega) (by rw [c10]; rfl) (by decide) ?_
      refine lv_aload_n C.1 C.2.1 zd_M_home_67 rfl (lv_at hl 0 rfl) ?_
      refine zg_M_world (r := 0) C hK hW (zvd_9 (by decide) (by decide)) zk_1500 zd_M_home_68 ?_
      refine zg_W_tank (r := 0) C hK hW (zvd_5 (by decide) (by decide)) zk_1300 zd_M_home_71 ?_
      refine lv_iload_n C.1 C.2.1 zd_M_home_74 rfl (lv_at hl 1 rfl) ?_
      obtain ⟨h11, hf⟩ := zck_some hf
      refine ziald C hK hW (zvd_5 (by decide) (by decide)) (fun f => ze_5_11 B f (0)) (by decide) h11 zd_M_home_75 ?_
      cases hf
      exact zre_i C hr hlk hK hW hS (zWn hW _ _ _ _ rfl) zd_M_home_76
    rw [if_neg c10] at hf
    by_cases c12 : x2 = 3
    · rw [if_pos c12] at hf
      refine zr_tab (off := 62) (tgt := 77) C nx2 zd_M_home_15 (by omega) (by omega) (by rw [c12]; rfl) (by decide) ?_
      refine lv_aload_n C.1 C.2.1 zd_M_home_77 rfl (lv_at hl 0 rfl) ?_
      refine zg_M_world (r := 0) C hK hW (zvd_9 (by decide) (by decide)) zk_1500 zd_M_home_78 ?_
      refine zg_W_roof (r := 0) C hK hW (zvd_5 (by decide) (by decide)) zk_1302 zd_M_home_81 ?_
      refine lv_iload_n C.1 C.2.1 zd_M_home_84 rfl (lv_at hl 1 rfl) ?_
      obtain ⟨h13, hf⟩ := zck_some hf
      refine ziald C hK hW (zvd_5 (by decide) (by decide)) (fun f => ze_5_12 B f (0)) (by decide) h13 zd_M_home_85 ?_
      cases hf
      exact zre_i C hr hlk hK hW hS (zWn hW _ _ _ _ rfl) zd_M_home_86
    rw [if_neg c12] at hf
    by_cases c14 : x2 = 4
    · rw [if_pos c14] at hf
      refine zr_tab (off := 72) (tgt := 87) C nx2 zd_M_home_15 (by omega) (by omega) (by rw [c14]; rfl) (by decide) ?_
      refine lv_aload_n C.1 C.2.1 zd_M_home_87 rfl (lv_at hl 0 rfl) ?_
      refine zg_M_world (r := 0) C hK hW (zvd_9 (by decide) (by decide)) zk_1500 zd_M_home_88 ?_
      refine zg_W_dry (r := 0) C hK hW (zvd_5 (by decide) (by decide)) zk_1304 zd_M_home_91 ?_
      refine lv_iload_n C.1 C.2.1 zd_M_home_94 rfl (lv_at hl 1 rfl) ?_
      obtain ⟨h15, hf⟩ := zck_some hf
      refine ziald C hK hW (zvd_5 (by decide) (by decide)) (fun f => ze_5_13 B f (0)) (by decide) h15 zd_M_home_95 ?_
      cases hf
      exact zre_i C hr hlk hK hW hS (zWn hW _ _ _ _ rfl) zd_M_home_96
    rw [if_neg c14] at hf
    refine zr_tabo (tgt := 97) C nx2 zd_M_home_15 (by omega) (by decide) ?_
    refine zr_iconst C zd_M_home_97 ?_
    cases hf
    exact zre_i C hr hlk hK hW hS (znb rfl) zd_M_home_98
  · rw [if_pos c4] at hf
    refine zr_iconst C zd_M_home_12 ?_
    cases hf
    exact zre_i C hr hlk hK hW hS (znb rfl) zd_M_home_13

theorem zc_M_home {l : Launch} {B : zB} (hap : zAp B) (x1 : Int) (x2 : Int) (S : Sg) (nx1 : zn x1) (nx2 : zn x2) {res : Int} {S9 : Sg} (hf : zf_M_home x1 x2 S = some (res, S9)) : Met l zy_M_home (Cond.code zy_M_home zb_M_home 3 (some .int) :: zT) zm_M_home (zP B S [.ref (B.2.1 9 (0) (0)), .int (zI (x1)), .int (zI (x2))]) (zQi B res S9) 0 0 B.2.2.2 :=
  zmet (by decide) (Nat.le_of_ble_eq_true rfl) (fun p e s m args below meth c C hr hlk hK hSt hW ls hl => zw_M_home C hr hlk hK hSt hap   x1 x2 S nx1 nx2 hf _ _ _ hW va_S.rf hl)
/-! IslandOfficeModel.here()I -/
abbrev zy_M_here : MethodName := ⟨"IslandOfficeModel", "here", "()I"⟩
abbrev zb_M_here : ByteArray := prog_14_method_21_code
abbrev zm_M_here : Room := { frames := 0, cells := 0, slots := 0, locals := 0 }
theorem zq_M_here : zMy zy_M_here zb_M_here 1 (some .int) 0 := ⟨zk_1663, zk_1662, zs_48, zk_14, by decide, by decide, by decide +kernel⟩
theorem zd_M_here_0 : decode zb_M_here 0 = .ok (.aload_n 0, 1) := by decide +kernel
theorem zd_M_here_1 : decode zb_M_here 1 = .ok (.getfield 129, 3) := by decide +kernel
theorem zd_M_here_4 : decode zb_M_here 4 = .ok (.aload_n 0, 1) := by decide +kernel
theorem zd_M_here_5 : decode zb_M_here 5 = .ok (.getfield 132, 3) := by decide +kernel
theorem zd_M_here_8 : decode zb_M_here 8 = .ok (.if_icmp .ge 15, 3) := by decide +kernel
theorem zd_M_here_11 : decode zb_M_here 11 = .ok (.aload_n 0, 1) := by decide +kernel
theorem zd_M_here_12 : decode zb_M_here 12 = .ok (.getfield 135, 3) := by decide +kernel
theorem zd_M_here_15 : decode zb_M_here 15 = .ok (.aload_n 0, 1) := by decide +kernel
theorem zd_M_here_16 : decode zb_M_here 16 = .ok (.getfield 129, 3) := by decide +kernel
theorem zd_M_here_19 : decode zb_M_here 19 = .ok (.iaload, 1) := by decide +kernel
theorem zd_M_here_20 : decode zb_M_here 20 = .ok (.goto 4, 3) := by decide +kernel
theorem zd_M_here_23 : decode zb_M_here 23 = .ok (.iconst (-1), 1) := by decide +kernel
theorem zd_M_here_24 : decode zb_M_here 24 = .ok (.ireturn, 1) := by decide +kernel

def zf_M_here (S : Sg) : Option (Int × Sg) :=
    if (S 9 0 0 11) ≤ (S 9 0 0 12) then (some (-1, S)) else (zck (1 ≤ S 9 0 0 10 ∧ S 9 0 0 10 < 9) <| zck (0 ≤ (S 9 0 0 12) ∧ (S 9 0 0 12) < 120) <| some (S 10 (S 9 0 0 10 - 1) 0 (S 9 0 0 12), S))
set_option maxHeartbeats 4000000 in
set_option maxRecDepth 100000 in
theorem zw_M_here {p : Program} {l : Launch} {e : Env} {s : State} {m : MethodId} {args : Array Value} {below : List Frame} {meth : Method} {c : Code} {B : zB} (C : CallFix p m c zb_M_here 1 s args zT "IslandOfficeModel") (hr : meth.sig.returnType = some .int) (hlk : meth.locks = false) (hK : zK B s) (hSt : zSt B s) (hap : zAp B) {res : Int} {S9 : Sg} : ∀  (S : Sg) , zf_M_here  S = some (res, S9) → ∀ (H : Heap) (locs : List Loc) (ls : Array Slot), zW B S H → va_S B.2.2.2 s.heap H locs → lv_has ls 1 [(0, .ref (B.2.1 9 (0) (0)))] → W p l e zm_M_here s m args below meth c H locs 0 0 (MQ below (zQi B res S9) args s 0 0 B.2.2.2) (F0 m 0 ls []) := by
  intro S hf H locs ls hW hS hl
  unfold zf_M_here at hf
  refine lv_aload_n C.1 C.2.1 zd_M_here_0 rfl (lv_at hl 0 rfl) ?_
  refine zg_M_at (r := 0) C hK hW (zvd_9 (by decide) (by decide)) zk_1512 zd_M_here_1 ?_
  refine lv_aload_n C.1 C.2.1 zd_M_here_4 rfl (lv_at hl 0 rfl) ?_
  refine zg_M_size (r := 0) C hK hW (zvd_9 (by decide) (by decide)) zk_1511 zd_M_here_5 ?_
  refine zr_icmp_ge (tgt := 23) C (zWn hW _ _ _ _ rfl) (zWn hW _ _ _ _ rfl) zd_M_here_8 (by decide) (fun c1 => ?_) (fun c1 => ?_)
  · rw [if_pos c1] at hf
    refine zr_iconst C zd_M_here_23 ?_
    cases hf
    exact zre_i C hr hlk hK hW hS (znb rfl) zd_M_here_24
  · rw [if_neg c1] at hf
    refine lv_aload_n C.1 C.2.1 zd_M_here_11 rfl (lv_at hl 0 rfl) ?_
    obtain ⟨h2, hf⟩ := zck_some hf
    refine zg_M_letters (r := 0) C hK hW (zvd_9 (by decide) (by decide)) zk_1510 zd_M_here_12 h2 ?_
    refine lv_aload_n C.1 C.2.1 zd_M_here_15 rfl (lv_at hl 0 rfl) ?_
    refine zg_M_at (r := 0) C hK hW (zvd_9 (by decide) (by decide)) zk_1512 zd_M_here_16 ?_
    obtain ⟨h3, hf⟩ := zck_some hf
    refine ziald C hK hW (zvd_10 (zmm1 h2) (by decide)) (fun f => ze_10_0 B f (S 9 0 0 10 - 1)) (by decide) h3 zd_M_here_19 ?_
    refine lv_goto (tgt := 24) C.1 C.2.1 zd_M_here_20 (by decide) ?_
    cases hf
    exact zre_i C hr hlk hK hW hS (zWn hW _ _ _ _ rfl) zd_M_here_24

theorem zc_M_here {l : Launch} {B : zB} (hap : zAp B) (S : Sg) {res : Int} {S9 : Sg} (hf : zf_M_here  S = some (res, S9)) : Met l zy_M_here (Cond.code zy_M_here zb_M_here 1 (some .int) :: zT) zm_M_here (zP B S [.ref (B.2.1 9 (0) (0))]) (zQi B res S9) 0 0 B.2.2.2 :=
  zmet (by decide) (Nat.le_of_ble_eq_true rfl) (fun p e s m args below meth c C hr hlk hK hSt hW ls hl => zw_M_here C hr hlk hK hSt hap    S  hf _ _ _ hW va_S.rf hl)
/-! IslandOfficeModel.digitHere()Z -/
abbrev zy_M_digitHere : MethodName := ⟨"IslandOfficeModel", "digitHere", "()Z"⟩
abbrev zb_M_digitHere : ByteArray := prog_14_method_23_code
abbrev zm_M_digitHere : Room := { frames := 1, cells := 0, slots := 0, locals := 20 }
theorem zq_M_digitHere : zMy zy_M_digitHere zb_M_digitHere 1 (some .boolean) 0 := ⟨zk_1691, zk_1690, zs_55, zk_14, by decide, by decide, by decide +kernel⟩
theorem zd_M_digitHere_0 : decode zb_M_digitHere 0 = .ok (.aload_n 0, 1) := by decide +kernel
theorem zd_M_digitHere_1 : decode zb_M_digitHere 1 = .ok (.invokevirtual 141, 3) := by decide +kernel
theorem zd_M_digitHere_4 : decode zb_M_digitHere 4 = .ok (.bipush 48, 2) := by decide +kernel
theorem zd_M_digitHere_6 : decode zb_M_digitHere 6 = .ok (.if_icmp .lt 16, 3) := by decide +kernel
theorem zd_M_digitHere_9 : decode zb_M_digitHere 9 = .ok (.aload_n 0, 1) := by decide +kernel
theorem zd_M_digitHere_10 : decode zb_M_digitHere 10 = .ok (.invokevirtual 141, 3) := by decide +kernel
theorem zd_M_digitHere_13 : decode zb_M_digitHere 13 = .ok (.bipush 57, 2) := by decide +kernel
theorem zd_M_digitHere_15 : decode zb_M_digitHere 15 = .ok (.if_icmp .gt 7, 3) := by decide +kernel
theorem zd_M_digitHere_18 : decode zb_M_digitHere 18 = .ok (.iconst 1, 1) := by decide +kernel
theorem zd_M_digitHere_19 : decode zb_M_digitHere 19 = .ok (.goto 4, 3) := by decide +kernel
theorem zd_M_digitHere_22 : decode zb_M_digitHere 22 = .ok (.iconst 0, 1) := by decide +kernel
theorem zd_M_digitHere_23 : decode zb_M_digitHere 23 = .ok (.ireturn, 1) := by decide +kernel

def zf_M_digitHere (S : Sg) : Option (Int × Sg) :=
    zbd (zf_M_here  S) fun a1 S2 => if a1 < 48 then (some (0, S2)) else (zbd (zf_M_here  S2) fun a4 S5 => if 57 < a4 then (some (0, S5)) else (some (1, S5)))
set_option maxHeartbeats 4000000 in
set_option maxRecDepth 100000 in
theorem zw_M_digitHere {p : Program} {l : Launch} {e : Env} {s : State} {m : MethodId} {args : Array Value} {below : List Frame} {meth : Method} {c : Code} {B : zB} (C : CallFix p m c zb_M_digitHere 1 s args zT "IslandOfficeModel") (hr : meth.sig.returnType = some .boolean) (hlk : meth.locks = false) (hK : zK B s) (hSt : zSt B s) (hap : zAp B) {res : Int} {S9 : Sg} : ∀  (S : Sg) , zf_M_digitHere  S = some (res, S9) → ∀ (H : Heap) (locs : List Loc) (ls : Array Slot), zW B S H → va_S B.2.2.2 s.heap H locs → lv_has ls 1 [(0, .ref (B.2.1 9 (0) (0)))] → W p l e zm_M_digitHere s m args below meth c H locs 0 0 (MQ below (zQi B res S9) args s 0 0 B.2.2.2) (F0 m 0 ls []) := by
  intro S hf H locs ls hW hS hl
  unfold zf_M_digitHere at hf
  refine lv_aload_n C.1 C.2.1 zd_M_digitHere_0 rfl (lv_at hl 0 rfl) ?_
  obtain ⟨a1, S2, ea1, hf⟩ := zbd_some hf
  refine zcVi (As := []) (rest := []) C hK hSt hW hS (zc_M_here hap S ea1) zq_M_here zk_1660 (zrecv hK hW (zvd_9 (by decide) (by decide)) (ze_9_0 B _ (0)) rfl) ⟨rfl, rfl, by decide, by decide⟩ ⟨Nat.zero_le _, Nat.zero_le _⟩ rfl hl.1 rfl (lv_room (Nat.le_of_ble_eq_true rfl)) zd_M_digitHere_1 (fun na1 H locs hW hS => ?_)
  refine zr_bipush C zd_M_digitHere_4 (by decide) ?_
  refine zr_icmp_lt (tgt := 22) C na1 (znb rfl) zd_M_digitHere_6 (by decide) (fun c3 => ?_) (fun c3 => ?_)
  · rw [if_pos c3] at hf
    refine zr_iconst C zd_M_digitHere_22 ?_
    cases hf
    exact zre_z C hr hlk hK hW hS (znb rfl) (zb01 (by decide)) zd_M_digitHere_23
  · rw [if_neg c3] at hf
    refine lv_aload_n C.1 C.2.1 zd_M_digitHere_9 rfl (lv_at hl 0 rfl) ?_
    obtain ⟨a4, S5, ea4, hf⟩ := zbd_some hf
    refine zcVi (As := []) (rest := []) C hK hSt hW hS (zc_M_here hap S2 ea4) zq_M_here zk_1660 (zrecv hK hW (zvd_9 (by decide) (by decide)) (ze_9_0 B _ (0)) rfl) ⟨rfl, rfl, by decide, by decide⟩ ⟨Nat.zero_le _, Nat.zero_le _⟩ rfl hl.1 rfl (lv_room (Nat.le_of_ble_eq_true rfl)) zd_M_digitHere_10 (fun na4 H locs hW hS => ?_)
    refine zr_bipush C zd_M_digitHere_13 (by decide) ?_
    refine zr_icmp_gt (tgt := 22) C na4 (znb rfl) zd_M_digitHere_15 (by decide) (fun c6 => ?_) (fun c6 => ?_)
    · rw [if_pos c6] at hf
      refine zr_iconst C zd_M_digitHere_22 ?_
      cases hf
      exact zre_z C hr hlk hK hW hS (znb rfl) (zb01 (by decide)) zd_M_digitHere_23
    · rw [if_neg c6] at hf
      refine zr_iconst C zd_M_digitHere_18 ?_
      refine lv_goto (tgt := 23) C.1 C.2.1 zd_M_digitHere_19 (by decide) ?_
      cases hf
      exact zre_z C hr hlk hK hW hS (znb rfl) (zb01 (by decide)) zd_M_digitHere_23

theorem zc_M_digitHere {l : Launch} {B : zB} (hap : zAp B) (S : Sg) {res : Int} {S9 : Sg} (hf : zf_M_digitHere  S = some (res, S9)) : Met l zy_M_digitHere (Cond.code zy_M_digitHere zb_M_digitHere 1 (some .boolean) :: zT) zm_M_digitHere (zP B S [.ref (B.2.1 9 (0) (0))]) (zQi B res S9) 0 0 B.2.2.2 :=
  zmet (by decide) (Nat.le_of_ble_eq_true rfl) (fun p e s m args below meth c C hr hlk hK hSt hW ls hl => zw_M_digitHere C hr hlk hK hSt hap    S  hf _ _ _ hW va_S.rf hl)
/-! IslandOfficeModel.wrong()Z -/
abbrev zy_M_wrong : MethodName := ⟨"IslandOfficeModel", "wrong", "()Z"⟩
abbrev zb_M_wrong : ByteArray := prog_14_method_22_code
abbrev zm_M_wrong : Room := { frames := 0, cells := 0, slots := 0, locals := 0 }
theorem zq_M_wrong : zMy zy_M_wrong zb_M_wrong 1 (some .boolean) 0 := ⟨zk_1667, zk_1666, zs_49, zk_14, by decide, by decide, by decide +kernel⟩
theorem zd_M_wrong_0 : decode zb_M_wrong 0 = .ok (.aload_n 0, 1) := by decide +kernel
theorem zd_M_wrong_1 : decode zb_M_wrong 1 = .ok (.aload_n 0, 1) := by decide +kernel
theorem zd_M_wrong_2 : decode zb_M_wrong 2 = .ok (.getfield 129, 3) := by decide +kernel
theorem zd_M_wrong_5 : decode zb_M_wrong 5 = .ok (.putfield 138, 3) := by decide +kernel
theorem zd_M_wrong_8 : decode zb_M_wrong 8 = .ok (.iconst 0, 1) := by decide +kernel
theorem zd_M_wrong_9 : decode zb_M_wrong 9 = .ok (.ireturn, 1) := by decide +kernel

def zf_M_wrong (S : Sg) : Option (Int × Sg) :=
    zlt (zu S 9 0 0 14 (S 9 0 0 12)) fun S1 => some (0, S1)
set_option maxHeartbeats 4000000 in
set_option maxRecDepth 100000 in
theorem zw_M_wrong {p : Program} {l : Launch} {e : Env} {s : State} {m : MethodId} {args : Array Value} {below : List Frame} {meth : Method} {c : Code} {B : zB} (C : CallFix p m c zb_M_wrong 1 s args zT "IslandOfficeModel") (hr : meth.sig.returnType = some .boolean) (hlk : meth.locks = false) (hK : zK B s) (hSt : zSt B s) (hap : zAp B) {res : Int} {S9 : Sg} : ∀  (S : Sg) , zf_M_wrong  S = some (res, S9) → ∀ (H : Heap) (locs : List Loc) (ls : Array Slot), zW B S H → va_S B.2.2.2 s.heap H locs → lv_has ls 1 [(0, .ref (B.2.1 9 (0) (0)))] → W p l e zm_M_wrong s m args below meth c H locs 0 0 (MQ below (zQi B res S9) args s 0 0 B.2.2.2) (F0 m 0 ls []) := by
  intro S hf H locs ls hW hS hl
  unfold zf_M_wrong at hf
  refine lv_aload_n C.1 C.2.1 zd_M_wrong_0 rfl (lv_at hl 0 rfl) ?_
  refine lv_aload_n C.1 C.2.1 zd_M_wrong_1 rfl (lv_at hl 0 rfl) ?_
  refine zg_M_at (r := 0) C hK hW (zvd_9 (by decide) (by decide)) zk_1512 zd_M_wrong_2 ?_
  obtain ⟨S1, eS1, hf⟩ := zlt_some hf
  refine zp_M_fault (r := 0) C hK hap hW hS (zvd_9 (by decide) (by decide)) zk_1514 (zWn hW _ _ _ _ rfl) zd_M_wrong_5 (fun H locs hW hS => ?_)
  rw [eS1] at hW
  refine zr_iconst C zd_M_wrong_8 ?_
  cases hf
  exact zre_z C hr hlk hK hW hS (znb rfl) (zb01 (by decide)) zd_M_wrong_9

theorem zc_M_wrong {l : Launch} {B : zB} (hap : zAp B) (S : Sg) {res : Int} {S9 : Sg} (hf : zf_M_wrong  S = some (res, S9)) : Met l zy_M_wrong (Cond.code zy_M_wrong zb_M_wrong 1 (some .boolean) :: zT) zm_M_wrong (zP B S [.ref (B.2.1 9 (0) (0))]) (zQi B res S9) 0 0 B.2.2.2 :=
  zmet (by decide) (Nat.le_of_ble_eq_true rfl) (fun p e s m args below meth c C hr hlk hK hSt hW ls hl => zw_M_wrong C hr hlk hK hSt hap    S  hf _ _ _ hW va_S.rf hl)
/-! IslandOfficeModel.atom()Z -/
abbrev zy_M_atom : MethodName := ⟨"IslandOfficeModel", "atom", "()Z"⟩
abbrev zb_M_atom : ByteArray := prog_14_method_24_code
abbrev zm_M_atom : Room := { frames := 2, cells := 0, slots := 0, locals := 40 }
theorem zq_M_atom : zMy zy_M_atom zb_M_atom 3 (some .boolean) 0 := ⟨zk_1687, zk_1686, zs_54, zk_14, by decide, by decide, by decide +kernel⟩
theorem zd_M_atom_0 : decode zb_M_atom 0 = .ok (.aload_n 0, 1) := by decide +kernel
theorem zd_M_atom_1 : decode zb_M_atom 1 = .ok (.invokevirtual 144, 3) := by decide +kernel
theorem zd_M_atom_4 : decode zb_M_atom 4 = .ok (.ifCond .eq 64, 3) := by decide +kernel
theorem zd_M_atom_7 : decode zb_M_atom 7 = .ok (.aload_n 0, 1) := by decide +kernel
theorem zd_M_atom_8 : decode zb_M_atom 8 = .ok (.invokevirtual 141, 3) := by decide +kernel
theorem zd_M_atom_11 : decode zb_M_atom 11 = .ok (.bipush 48, 2) := by decide +kernel
theorem zd_M_atom_13 : decode zb_M_atom 13 = .ok (.if_icmp .ne 7, 3) := by decide +kernel
theorem zd_M_atom_16 : decode zb_M_atom 16 = .ok (.iconst 1, 1) := by decide +kernel
theorem zd_M_atom_17 : decode zb_M_atom 17 = .ok (.goto 4, 3) := by decide +kernel
theorem zd_M_atom_20 : decode zb_M_atom 20 = .ok (.iconst 0, 1) := by decide +kernel
theorem zd_M_atom_21 : decode zb_M_atom 21 = .ok (.istore_n 1, 1) := by decide +kernel
theorem zd_M_atom_22 : decode zb_M_atom 22 = .ok (.iconst 0, 1) := by decide +kernel
theorem zd_M_atom_23 : decode zb_M_atom 23 = .ok (.istore_n 2, 1) := by decide +kernel
theorem zd_M_atom_24 : decode zb_M_atom 24 = .ok (.aload_n 0, 1) := by decide +kernel
theorem zd_M_atom_25 : decode zb_M_atom 25 = .ok (.invokevirtual 144, 3) := by decide +kernel
theorem zd_M_atom_28 : decode zb_M_atom 28 = .ok (.ifCond .eq 38, 3) := by decide +kernel
theorem zd_M_atom_31 : decode zb_M_atom 31 = .ok (.iload_n 2, 1) := by decide +kernel
theorem zd_M_atom_32 : decode zb_M_atom 32 = .ok (.iconst 4, 1) := by decide +kernel
theorem zd_M_atom_33 : decode zb_M_atom 33 = .ok (.if_icmp .eq 12, 3) := by decide +kernel
theorem zd_M_atom_36 : decode zb_M_atom 36 = .ok (.iload_n 1, 1) := by decide +kernel
theorem zd_M_atom_37 : decode zb_M_atom 37 = .ok (.ifCond .eq 13, 3) := by decide +kernel
theorem zd_M_atom_40 : decode zb_M_atom 40 = .ok (.iload_n 2, 1) := by decide +kernel
theorem zd_M_atom_41 : decode zb_M_atom 41 = .ok (.iconst 1, 1) := by decide +kernel
theorem zd_M_atom_42 : decode zb_M_atom 42 = .ok (.if_icmp .ne 8, 3) := by decide +kernel
theorem zd_M_atom_45 : decode zb_M_atom 45 = .ok (.aload_n 0, 1) := by decide +kernel
theorem zd_M_atom_46 : decode zb_M_atom 46 = .ok (.invokevirtual 148, 3) := by decide +kernel
theorem zd_M_atom_49 : decode zb_M_atom 49 = .ok (.ireturn, 1) := by decide +kernel
theorem zd_M_atom_50 : decode zb_M_atom 50 = .ok (.iinc 2 1, 3) := by decide +kernel
theorem zd_M_atom_53 : decode zb_M_atom 53 = .ok (.aload_n 0, 1) := by decide +kernel
theorem zd_M_atom_54 : decode zb_M_atom 54 = .ok (.dup, 1) := by decide +kernel
theorem zd_M_atom_55 : decode zb_M_atom 55 = .ok (.getfield 129, 3) := by decide +kernel
theorem zd_M_atom_58 : decode zb_M_atom 58 = .ok (.iconst 1, 1) := by decide +kernel
theorem zd_M_atom_59 : decode zb_M_atom 59 = .ok (.iadd, 1) := by decide +kernel
theorem zd_M_atom_60 : decode zb_M_atom 60 = .ok (.putfield 129, 3) := by decide +kernel
theorem zd_M_atom_63 : decode zb_M_atom 63 = .ok (.goto (-39), 3) := by decide +kernel
theorem zd_M_atom_66 : decode zb_M_atom 66 = .ok (.iconst 1, 1) := by decide +kernel
theorem zd_M_atom_67 : decode zb_M_atom 67 = .ok (.ireturn, 1) := by decide +kernel
theorem zd_M_atom_68 : decode zb_M_atom 68 = .ok (.aload_n 0, 1) := by decide +kernel
theorem zd_M_atom_69 : decode zb_M_atom 69 = .ok (.invokevirtual 141, 3) := by decide +kernel
theorem zd_M_atom_72 : decode zb_M_atom 72 = .ok (.istore_n 1, 1) := by decide +kernel
theorem zd_M_atom_73 : decode zb_M_atom 73 = .ok (.iload_n 1, 1) := by decide +kernel
theorem zd_M_atom_74 : decode zb_M_atom 74 = .ok (.bipush 97, 2) := by decide +kernel
theorem zd_M_atom_76 : decode zb_M_atom 76 = .ok (.if_icmp .eq 39, 3) := by decide +kernel
theorem zd_M_atom_79 : decode zb_M_atom 79 = .ok (.iload_n 1, 1) := by decide +kernel
theorem zd_M_atom_80 : decode zb_M_atom 80 = .ok (.bipush 107, 2) := by decide +kernel
theorem zd_M_atom_82 : decode zb_M_atom 82 = .ok (.if_icmp .eq 33, 3) := by decide +kernel
theorem zd_M_atom_85 : decode zb_M_atom 85 = .ok (.iload_n 1, 1) := by decide +kernel
theorem zd_M_atom_86 : decode zb_M_atom 86 = .ok (.bipush 104, 2) := by decide +kernel
theorem zd_M_atom_88 : decode zb_M_atom 88 = .ok (.if_icmp .eq 27, 3) := by decide +kernel
theorem zd_M_atom_91 : decode zb_M_atom 91 = .ok (.iload_n 1, 1) := by decide +kernel
theorem zd_M_atom_92 : decode zb_M_atom 92 = .ok (.bipush 99, 2) := by decide +kernel
theorem zd_M_atom_94 : decode zb_M_atom 94 = .ok (.if_icmp .eq 21, 3) := by decide +kernel
theorem zd_M_atom_97 : decode zb_M_atom 97 = .ok (.iload_n 1, 1) := by decide +kernel
theorem zd_M_atom_98 : decode zb_M_atom 98 = .ok (.bipush 115, 2) := by decide +kernel
theorem zd_M_atom_100 : decode zb_M_atom 100 = .ok (.if_icmp .eq 15, 3) := by decide +kernel
theorem zd_M_atom_103 : decode zb_M_atom 103 = .ok (.iload_n 1, 1) := by decide +kernel
theorem zd_M_atom_104 : decode zb_M_atom 104 = .ok (.bipush 119, 2) := by decide +kernel
theorem zd_M_atom_106 : decode zb_M_atom 106 = .ok (.if_icmp .eq 9, 3) := by decide +kernel
theorem zd_M_atom_109 : decode zb_M_atom 109 = .ok (.iload_n 1, 1) := by decide +kernel
theorem zd_M_atom_110 : decode zb_M_atom 110 = .ok (.bipush 100, 2) := by decide +kernel
theorem zd_M_atom_112 : decode zb_M_atom 112 = .ok (.if_icmp .ne 15, 3) := by decide +kernel
theorem zd_M_atom_115 : decode zb_M_atom 115 = .ok (.aload_n 0, 1) := by decide +kernel
theorem zd_M_atom_116 : decode zb_M_atom 116 = .ok (.dup, 1) := by decide +kernel
theorem zd_M_atom_117 : decode zb_M_atom 117 = .ok (.getfield 129, 3) := by decide +kernel
theorem zd_M_atom_120 : decode zb_M_atom 120 = .ok (.iconst 1, 1) := by decide +kernel
theorem zd_M_atom_121 : decode zb_M_atom 121 = .ok (.iadd, 1) := by decide +kernel
theorem zd_M_atom_122 : decode zb_M_atom 122 = .ok (.putfield 129, 3) := by decide +kernel
theorem zd_M_atom_125 : decode zb_M_atom 125 = .ok (.iconst 1, 1) := by decide +kernel
theorem zd_M_atom_126 : decode zb_M_atom 126 = .ok (.ireturn, 1) := by decide +kernel
theorem zd_M_atom_127 : decode zb_M_atom 127 = .ok (.aload_n 0, 1) := by decide +kernel
theorem zd_M_atom_128 : decode zb_M_atom 128 = .ok (.invokevirtual 148, 3) := by decide +kernel
theorem zd_M_atom_131 : decode zb_M_atom 131 = .ok (.ireturn, 1) := by decide +kernel

def zf_M_atom_115 (S : Sg) : Option (Int × Sg) :=
    zlt (zu S 9 0 0 12 (zw ((S 9 0 0 12) + 1))) fun S1 => some (1, S1)
set_option maxHeartbeats 4000000 in
set_option maxRecDepth 100000 in
theorem zw_M_atom_115 {p : Program} {l : Launch} {e : Env} {s : State} {m : MethodId} {args : Array Value} {below : List Frame} {meth : Method} {c : Code} {B : zB} (C : CallFix p m c zb_M_atom 3 s args zT "IslandOfficeModel") (hr : meth.sig.returnType = some .boolean) (hlk : meth.locks = false) (hK : zK B s) (hSt : zSt B s) (hap : zAp B) {res : Int} {S9 : Sg} : ∀  (S : Sg) , zf_M_atom_115  S = some (res, S9) → ∀ (H : Heap) (locs : List Loc) (ls : Array Slot), zW B S H → va_S B.2.2.2 s.heap H locs → lv_has ls 3 [(0, .ref (B.2.1 9 (0) (0)))] → W p l e zm_M_atom s m args below meth c H locs 0 0 (MQ below (zQi B res S9) args s 0 0 B.2.2.2) (F0 m 115 ls []) := by
  intro S hf H locs ls hW hS hl
  unfold zf_M_atom_115 at hf
  refine lv_aload_n C.1 C.2.1 zd_M_atom_115 rfl (lv_at hl 0 rfl) ?_
  refine lv_dup C.1 C.2.1 zd_M_atom_116 rfl ?_
  refine zg_M_at (r := 0) C hK hW (zvd_9 (by decide) (by decide)) zk_1512 zd_M_atom_117 ?_
  refine zr_iconst C zd_M_atom_120 ?_
  refine zr_iadd C zd_M_atom_121 ?_
  obtain ⟨S1, eS1, hf⟩ := zlt_some hf
  refine zp_M_at (r := 0) C hK hap hW hS (zvd_9 (by decide) (by decide)) zk_1512 (zn_w _) zd_M_atom_122 (fun H locs hW hS => ?_)
  rw [eS1] at hW
  refine zr_iconst C zd_M_atom_125 ?_
  cases hf
  exact zre_z C hr hlk hK hW hS (znb rfl) (zb01 (by decide)) zd_M_atom_126

def zf_M_atom_45 (S : Sg) : Option (Int × Sg) :=
    zbd (zf_M_wrong  S) fun a1 S2 => zck (a1 = 0 ∨ a1 = 1) <| some (a1, S2)
set_option maxHeartbeats 4000000 in
set_option maxRecDepth 100000 in
theorem zw_M_atom_45 {p : Program} {l : Launch} {e : Env} {s : State} {m : MethodId} {args : Array Value} {below : List Frame} {meth : Method} {c : Code} {B : zB} (C : CallFix p m c zb_M_atom 3 s args zT "IslandOfficeModel") (hr : meth.sig.returnType = some .boolean) (hlk : meth.locks = false) (hK : zK B s) (hSt : zSt B s) (hap : zAp B) {res : Int} {S9 : Sg} : ∀  (S : Sg) , zf_M_atom_45  S = some (res, S9) → ∀ (H : Heap) (locs : List Loc) (ls : Array Slot), zW B S H → va_S B.2.2.2 s.heap H locs → lv_has ls 3 [(0, .ref (B.2.1 9 (0) (0)))] → W p l e zm_M_atom s m args below meth c H locs 0 0 (MQ below (zQi B res S9) args s 0 0 B.2.2.2) (F0 m 45 ls []) := by
  intro S hf H locs ls hW hS hl
  unfold zf_M_atom_45 at hf
  refine lv_aload_n C.1 C.2.1 zd_M_atom_45 rfl (lv_at hl 0 rfl) ?_
  obtain ⟨a1, S2, ea1, hf⟩ := zbd_some hf
  refine zcVi (As := []) (rest := []) C hK hSt hW hS (zc_M_wrong hap S ea1) zq_M_wrong zk_1664 (zrecv hK hW (zvd_9 (by decide) (by decide)) (ze_9_0 B _ (0)) rfl) ⟨rfl, rfl, by decide, by decide⟩ ⟨Nat.zero_le _, Nat.zero_le _⟩ rfl hl.1 rfl (lv_room (Nat.le_of_ble_eq_true rfl)) zd_M_atom_46 (fun na1 H locs hW hS => ?_)
  obtain ⟨h3, hf⟩ := zck_some hf
  cases hf
  exact zre_z C hr hlk hK hW hS na1 (zb01 h3) zd_M_atom_49

def zf_M_atom_50 (q24 : Int → Int → Sg → Option (Int × Sg)) (x1 : Int) (x2 : Int) (S : Sg) : Option (Int × Sg) :=
    zlt (zw (x2 + 1)) fun v1 => zlt (zu S 9 0 0 12 (zw ((S 9 0 0 12) + 1))) fun S2 => q24 (x1) (v1) S2
set_option maxHeartbeats 4000000 in
set_option maxRecDepth 100000 in
theorem zw_M_atom_50 {p : Program} {l : Launch} {e : Env} {s : State} {m : MethodId} {args : Array Value} {below : List Frame} {meth : Method} {c : Code} {B : zB} (C : CallFix p m c zb_M_atom 3 s args zT "IslandOfficeModel") (hr : meth.sig.returnType = some .boolean) (hlk : meth.locks = false) (hK : zK B s) (hSt : zSt B s) (hap : zAp B) {res : Int} {S9 : Sg} (q24 : Int → Int → Sg → Option (Int × Sg)) (hq24 : ∀ (x1 : Int) (x2 : Int) (S : Sg) (nx1 : zn x1) (nx2 : zn x2), q24 x1 x2 S = some (res, S9) → ∀ (H : Heap) (locs : List Loc) (ls : Array Slot), zW B S H → va_S B.2.2.2 s.heap H locs → lv_has ls 3 [(0, .ref (B.2.1 9 (0) (0))), (1, .int (zI (x1))), (2, .int (zI (x2)))] → W p l e zm_M_atom s m args below meth c H locs 0 0 (MQ below (zQi B res S9) args s 0 0 B.2.2.2) (F0 m 24 ls [])) : ∀ (x1 : Int) (x2 : Int) (S : Sg) (nx1 : zn x1) (nx2 : zn x2), zf_M_atom_50 q24 x1 x2 S = some (res, S9) → ∀ (H : Heap) (locs : List Loc) (ls : Array Slot), zW B S H → va_S B.2.2.2 s.heap H locs → lv_has ls 3 [(0, .ref (B.2.1 9 (0) (0))), (1, .int (zI (x1))), (2, .int (zI (x2)))] → W p l e zm_M_atom s m args below meth c H locs 0 0 (MQ below (zQi B res S9) args s 0 0 B.2.2.2) (F0 m 50 ls []) := by
  intro x1 x2 S nx1 nx2 hf H locs ls hW hS hl
  unfold zf_M_atom_50 at hf
  obtain ⟨v1, ev1, hf⟩ := zlt_some hf
  have nv1 : zn v1 := by rw [← ev1]; exact zn_w _
  refine lv_iinc (v := zI v1) (lv' := [(2, .int (zI (v1))), (0, .ref (B.2.1 9 (0) (0))), (1, .int (zI (x1)))]) C.1 C.2.1 zd_M_atom_50 hl (k := 2) rfl (by rw [← ev1, ← zI_add]; rfl) (by decide) rfl (fun ls hl => ?_)
  refine lv_aload_n C.1 C.2.1 zd_M_atom_53 rfl (lv_at hl 1 rfl) ?_
  refine lv_dup C.1 C.2.1 zd_M_atom_54 rfl ?_
  refine zg_M_at (r := 0) C hK hW (zvd_9 (by decide) (by decide)) zk_1512 zd_M_atom_55 ?_
  refine zr_iconst C zd_M_atom_58 ?_
  refine zr_iadd C zd_M_atom_59 ?_
  obtain ⟨S2, eS2, hf⟩ := zlt_some hf
  refine zp_M_at (r := 0) C hK hap hW hS (zvd_9 (by decide) (by decide)) zk_1512 (zn_w _) zd_M_atom_60 (fun H locs hW hS => ?_)
  rw [eS2] at hW
  refine lv_goto (tgt := 24) C.1 C.2.1 zd_M_atom_63 (by decide) ?_
  exact hq24 (x1) (v1) S2 nx1 nv1 hf _ _ _ hW hS (lv_sub hl [1, 2, 0] rfl)

def zf_M_atom_24 : Nat → Int → Int → Sg → Option (Int × Sg)
  | 0, _, _, _ => none
  | n + 1, x1, x2, S =>
    zbd (zf_M_digitHere  S) fun a1 S2 => if a1 = 0 then (some (1, S2)) else (if x2 = 4 then (zf_M_atom_45  S2) else (if x1 = 0 then (zf_M_atom_50 (zf_M_atom_24 n) (x1) (x2) S2) else (if x2 = 1 then (zf_M_atom_45  S2) else (zf_M_atom_50 (zf_M_atom_24 n) (x1) (x2) S2))))
set_option maxHeartbeats 4000000 in
set_option maxRecDepth 100000 in
theorem zw_M_atom_24 {p : Program} {l : Launch} {e : Env} {s : State} {m : MethodId} {args : Array Value} {below : List Frame} {meth : Method} {c : Code} {B : zB} (C : CallFix p m c zb_M_atom 3 s args zT "IslandOfficeModel") (hr : meth.sig.returnType = some .boolean) (hlk : meth.locks = false) (hK : zK B s) (hSt : zSt B s) (hap : zAp B) {res : Int} {S9 : Sg} : ∀ n : Nat, ∀ (x1 : Int) (x2 : Int) (S : Sg) (nx1 : zn x1) (nx2 : zn x2), zf_M_atom_24 n x1 x2 S = some (res, S9) → ∀ (H : Heap) (locs : List Loc) (ls : Array Slot), zW B S H → va_S B.2.2.2 s.heap H locs → lv_has ls 3 [(0, .ref (B.2.1 9 (0) (0))), (1, .int (zI (x1))), (2, .int (zI (x2)))] → W p l e zm_M_atom s m args below meth c H locs 0 0 (MQ below (zQi B res S9) args s 0 0 B.2.2.2) (F0 m 24 ls []) := by
  intro n
  induction n with
  | zero =>
    intro x1 x2 S nx1 nx2 hf H locs ls hW hS hl
    cases hf
  | succ n ih =>
    intro x1 x2 S nx1 nx2 hf H locs ls hW hS hl
    rw [zf_M_atom_24] at hf
    refine lv_aload_n C.1 C.2.1 zd_M_atom_24 rfl (lv_at hl 0 rfl) ?_
    obtain ⟨a1, S2, ea1, hf⟩ := zbd_some hf
    refine zcVi (As := []) (rest := []) C hK hSt hW hS (zc_M_digitHere hap S ea1) zq_M_digitHere zk_1688 (zrecv hK hW (zvd_9 (by decide) (by decide)) (ze_9_0 B _ (0)) rfl) ⟨rfl, rfl, by decide, by decide⟩ ⟨Nat.zero_le _, Nat.zero_le _⟩ rfl hl.1 rfl (lv_room (Nat.le_of_ble_eq_true rfl)) zd_M_atom_25 (fun na1 H locs hW hS => ?_)
    refine zr_if_eq (tgt := 66) C na1 zd_M_atom_28 (by decide) (fun c3 => ?_) (fun c3 => ?_)
    · rw [if_pos c3] at hf
      refine zr_iconst C zd_M_atom_66 ?_
      cases hf
      exact zre_z C hr hlk hK hW hS (znb rfl) (zb01 (by decide)) zd_M_atom_67
    · rw [if_neg c3] at hf
      refine lv_iload_n C.1 C.2.1 zd_M_atom_31 rfl (lv_at hl 2 rfl) ?_
      refine zr_iconst C zd_M_atom_32 ?_
      refine zr_icmp_eq (tgt := 45) C nx2 (znb rfl) zd_M_atom_33 (by decide) (fun c4 => ?_) (fun c4 => ?_)
      · rw [if_pos c4] at hf
        exact zw_M_atom_45 C hr hlk hK hSt hap    S2  hf _ _ _ hW hS (lv_sub hl [0] rfl)
      · rw [if_neg c4] at hf
        refine lv_iload_n C.1 C.2.1 zd_M_atom_36 rfl (lv_at hl 1 rfl) ?_
        refine zr_if_eq (tgt := 50) C nx1 zd_M_atom_37 (by decide) (fun c5 => ?_) (fun c5 => ?_)
        · rw [if_pos c5] at hf
          exact zw_M_atom_50 C hr hlk hK hSt hap   (zf_M_atom_24 n) (ih) (x1) (x2) S2 nx1 nx2 hf _ _ _ hW hS (lv_sub hl [0, 1, 2] rfl)
        · rw [if_neg c5] at hf
          refine lv_iload_n C.1 C.2.1 zd_M_atom_40 rfl (lv_at hl 2 rfl) ?_
          refine zr_iconst C zd_M_atom_41 ?_
          refine zr_icmp_ne (tgt := 50) C nx2 (znb rfl) zd_M_atom_42 (by decide) (fun c6 => ?_) (fun c6 => ?_)
          · rw [if_neg c6] at hf
            exact zw_M_atom_50 C hr hlk hK hSt hap   (zf_M_atom_24 n) (ih) (x1) (x2) S2 nx1 nx2 hf _ _ _ hW hS (lv_sub hl [0, 1, 2] rfl)
          · rw [if_pos c6] at hf
            exact zw_M_atom_45 C hr hlk hK hSt hap    S2  hf _ _ _ hW hS (lv_sub hl [0] rfl)

def zf_M_atom_21 (xt0 : Int) (S : Sg) : Option (Int × Sg) :=
    zf_M_atom_24 4096 (xt0) (0) S
set_option maxHeartbeats 4000000 in
set_option maxRecDepth 100000 in
theorem zw_M_atom_21 {p : Program} {l : Launch} {e : Env} {s : State} {m : MethodId} {args : Array Value} {below : List Frame} {meth : Method} {c : Code} {B : zB} (C : CallFix p m c zb_M_atom 3 s args zT "IslandOfficeModel") (hr : meth.sig.returnType = some .boolean) (hlk : meth.locks = false) (hK : zK B s) (hSt : zSt B s) (hap : zAp B) {res : Int} {S9 : Sg} : ∀ (xt0 : Int) (S : Sg) (nxt0 : zn xt0), zf_M_atom_21 xt0 S = some (res, S9) → ∀ (H : Heap) (locs : List Loc) (ls : Array Slot), zW B S H → va_S B.2.2.2 s.heap H locs → lv_has ls 3 [(0, .ref (B.2.1 9 (0) (0)))] → W p l e zm_M_atom s m args below meth c H locs 0 0 (MQ below (zQi B res S9) args s 0 0 B.2.2.2) (F0 m 21 ls [.int (zI (xt0))]) := by
  intro xt0 S nxt0 hf H locs ls hW hS hl
  unfold zf_M_atom_21 at hf
  refine lv_istore_n (lv' := [(1, .int (zI (xt0))), (0, .ref (B.2.1 9 (0) (0)))]) C.1 C.2.1 zd_M_atom_21 rfl hl (by decide) rfl (fun ls hl => ?_)
  refine zr_iconst C zd_M_atom_22 ?_
  refine lv_istore_n (lv' := [(2, .int (zI (0))), (1, .int (zI (xt0))), (0, .ref (B.2.1 9 (0) (0)))]) C.1 C.2.1 zd_M_atom_23 rfl hl (by decide) rfl (fun ls hl => ?_)
  exact zw_M_atom_24 C hr hlk hK hSt hap   4096 (xt0) (0) S nxt0 (znb rfl) hf _ _ _ hW hS (lv_sub hl [2, 1, 0] rfl)

def zf_M_atom (S : Sg) : Option (Int × Sg) :=
    zbd (zf_M_digitHere  S) fun a1 S2 => if a1 = 0 then (zbd (zf_M_here  S2) fun a4 S5 => if a4 = 97 then (zf_M_atom_115  S5) else (if a4 = 107 then (zf_M_atom_115  S5) else (if a4 = 104 then (zf_M_atom_115  S5) else (if a4 = 99 then (zf_M_atom_115  S5) else (if a4 = 115 then (zf_M_atom_115  S5) else (if a4 = 119 then (zf_M_atom_115  S5) else (if a4 = 100 then (zf_M_atom_115  S5) else (zbd (zf_M_wrong  S5) fun a13 S14 => zck (a13 = 0 ∨ a13 = 1) <| some (a13, S14))))))))) else (zbd (zf_M_here  S2) fun a16 S17 => if a16 = 48 then (zf_M_atom_21 (1) S17) else (zf_M_atom_21 (0) S17))
set_option maxHeartbeats 4000000 in
set_option maxRecDepth 100000 in
theorem zw_M_atom {p : Program} {l : Launch} {e : Env} {s : State} {m : MethodId} {args : Array Value} {below : List Frame} {meth : Method} {c : Code} {B : zB} (C : CallFix p m c zb_M_atom 3 s args zT "IslandOfficeModel") (hr : meth.sig.returnType = some .boolean) (hlk : meth.locks = false) (hK : zK B s) (hSt : zSt B s) (hap : zAp B) {res : Int} {S9 : Sg} : ∀  (S : Sg) , zf_M_atom  S = some (res, S9) → ∀ (H : Heap) (locs : List Loc) (ls : Array Slot), zW B S H → va_S B.2.2.2 s.heap H locs → lv_has ls 3 [(0, .ref (B.2.1 9 (0) (0)))] → W p l e zm_M_atom s m args below meth c H locs 0 0 (MQ below (zQi B res S9) args s 0 0 B.2.2.2) (F0 m 0 ls []) := by
  intro S hf H locs ls hW hS hl
  unfold zf_M_atom at hf
  refine lv_aload_n C.1 C.2.1 zd_M_atom_0 rfl (lv_at hl 0 rfl) ?_
  obtain ⟨a1, S2, ea1, hf⟩ := zbd_some hf
  refine zcVi (As := []) (rest := []) C hK hSt hW hS (zc_M_digitHere hap S ea1) zq_M_digitHere zk_1688 (zrecv hK hW (zvd_9 (by decide) (by decide)) (ze_9_0 B _ (0)) rfl) ⟨rfl, rfl, by decide, by decide⟩ ⟨Nat.zero_le _, Nat.zero_le _⟩ rfl hl.1 rfl (lv_room (Nat.le_of_ble_eq_true rfl)) zd_M_atom_1 (fun na1 H locs hW hS => ?_)
  refine zr_if_eq (tgt := 68) C na1 zd_M_atom_4 (by decide) (fun c3 => ?_) (fun c3 => ?_)
  · rw [if_pos c3] at hf
    refine lv_aload_n C.1 C.2.1 zd_M_atom_68 rfl (lv_at hl 0 rfl) ?_
    obtain ⟨a4, S5, ea4, hf⟩ := zbd_some hf
    refine zcVi (As := []) (rest := []) C hK hSt hW hS (zc_M_here hap S2 ea4) zq_M_here zk_1660 (zrecv hK hW (zvd_9 (by decide) (by decide)) (ze_9_0 B _ (0)) rfl) ⟨rfl, rfl, by decide, by decide⟩ ⟨Nat.zero_le _, Nat.zero_le _⟩ rfl hl.1 rfl (lv_room (Nat.le_of_ble_eq_true rfl)) zd_M_atom_69 (fun na4 H locs hW hS => ?_)
    refine lv_istore_n (lv' := [(1, .int (zI (a4))), (0, .ref (B.2.1 9 (0) (0)))]) C.1 C.2.1 zd_M_atom_72 rfl hl (by decide) rfl (fun ls hl => ?_)
    refine lv_iload_n C.1 C.2.1 zd_M_atom_73 rfl (lv_at hl 0 rfl) ?_
    refine zr_bipush C zd_M_atom_74 (by decide) ?_
    refine zr_icmp_eq (tgt := 115) C na4 (znb rfl) zd_M_atom_76 (by decide) (fun c6 => ?_) (fun c6 => ?_)
    · rw [if_pos c6] at hf
      exact zw_M_atom_115 C hr hlk hK hSt hap    S5  hf _ _ _ hW hS (lv_sub hl [1] rfl)
    · rw [if_neg c6] at hf
      refine lv_iload_n C.1 C.2.1 zd_M_atom_79 rfl (lv_at hl 0 rfl) ?_
      refine zr_bipush C zd_M_atom_80 (by decide) ?_
      refine zr_icmp_eq (tgt := 115) C na4 (znb rfl) zd_M_atom_82 (by decide) (fun c7 => ?_) (fun c7 => ?_)
      · rw [if_pos c7] at hf
        exact zw_M_atom_115 C hr hlk hK hSt hap    S5  hf _ _ _ hW hS (lv_sub hl [1] rfl)
      · rw [if_neg c7] at hf
        refine lv_iload_n C.1 C.2.1 zd_M_atom_85 rfl (lv_at hl 0 rfl) ?_
        refine zr_bipush C zd_M_atom_86 (by decide) ?_
        refine zr_icmp_eq (tgt := 115) C na4 (znb rfl) zd_M_atom_88 (by decide) (fun c8 => ?_) (fun c8 => ?_)
        · rw [if_pos c8] at hf
          exact zw_M_atom_115 C hr hlk hK hSt hap    S5  hf _ _ _ hW hS (lv_sub hl [1] rfl)
        · rw [if_neg c8] at hf
          refine lv_iload_n C.1 C.2.1 zd_M_atom_91 rfl (lv_at hl 0 rfl) ?_
          refine zr_bipush C zd_M_atom_92 (by decide) ?_
          refine zr_icmp_eq (tgt := 115) C na4 (znb rfl) zd_M_atom_94 (by decide) (fun c9 => ?_) (fun c9 => ?_)
          · rw [if_pos c9] at hf
            exact zw_M_atom_115 C hr hlk hK hSt hap    S5  hf _ _ _ hW hS (lv_sub hl [1] rfl)
          · rw [if_neg c9] at hf
            refine lv_iload_n C.1 C.2.1 zd_M_atom_97 rfl (lv_at hl 0 rfl) ?_
            refine zr_bipush C zd_M_atom_98 (by decide) ?_
            refine zr_icmp_eq (tgt := 115) C na4 (znb rfl) zd_M_atom_100 (by decide) (fun c10 => ?_) (fun c10 => ?_)
            · rw [if_pos c10] at hf
              exact zw_M_atom_115 C hr hlk hK hSt hap    S5  hf _ _ _ hW hS (lv_sub hl [1] rfl)
            · rw [if_neg c10] at hf
              refine lv_iload_n C.1 C.2.1 zd_M_atom_103 rfl (lv_at hl 0 rfl) ?_
              refine zr_bipush C zd_M_atom_104 (by decide) ?_
              refine zr_icmp_eq (tgt := 115) C na4 (znb rfl) zd_M_atom_106 (by decide) (fun c11 => ?_) (fun c11 => ?_)
              · rw [if_pos c11] at hf
                exact zw_M_atom_115 C hr hlk hK hSt hap    S5  hf _ _ _ hW hS (lv_sub hl [1] rfl)
              · rw [if_neg c11] at hf
                refine lv_iload_n C.1 C.2.1 zd_M_atom_109 rfl (lv_at hl 0 rfl) ?_
                refine zr_bipush C zd_M_atom_110 (by decide) ?_
                refine zr_icmp_ne (tgt := 127) C na4 (znb rfl) zd_M_atom_112 (by decide) (fun c12 => ?_) (fun c12 => ?_)
                · rw [if_neg c12] at hf
                  refine lv_aload_n C.1 C.2.1 zd_M_atom_127 rfl (lv_at hl 1 rfl) ?_
                  obtain ⟨a13, S14, ea13, hf⟩ := zbd_some hf
                  refine zcVi (As := []) (rest := []) C hK hSt hW hS (zc_M_wrong hap S5 ea13) zq_M_wrong zk_1664 (zrecv hK hW (zvd_9 (by decide) (by decide)) (ze_9_0 B _ (0)) rfl) ⟨rfl, rfl, by decide, by decide⟩ ⟨Nat.zero_le _, Nat.zero_le _⟩ rfl hl.1 rfl (lv_room (Nat.le_of_ble_eq_true rfl)) zd_M_atom_128 (fun na13 H locs hW hS => ?_)
                  obtain ⟨h15, hf⟩ := zck_some hf
                  cases hf
                  exact zre_z C hr hlk hK hW hS na13 (zb01 h15) zd_M_atom_131
                · rw [if_pos c12] at hf
                  exact zw_M_atom_115 C hr hlk hK hSt hap    S5  hf _ _ _ hW hS (lv_sub hl [1] rfl)
  · rw [if_neg c3] at hf
    refine lv_aload_n C.1 C.2.1 zd_M_atom_7 rfl (lv_at hl 0 rfl) ?_
    obtain ⟨a16, S17, ea16, hf⟩ := zbd_some hf
    refine zcVi (As := []) (rest := []) C hK hSt hW hS (zc_M_here hap S2 ea16) zq_M_here zk_1660 (zrecv hK hW (zvd_9 (by decide) (by decide)) (ze_9_0 B _ (0)) rfl) ⟨rfl, rfl, by decide, by decide⟩ ⟨Nat.zero_le _, Nat.zero_le _⟩ rfl hl.1 rfl (lv_room (Nat.le_of_ble_eq_true rfl)) zd_M_atom_8 (fun na16 H locs hW hS => ?_)
    refine zr_bipush C zd_M_atom_11 (by decide) ?_
    refine zr_icmp_ne (tgt := 20) C na16 (znb rfl) zd_M_atom_13 (by decide) (fun c18 => ?_) (fun c18 => ?_)
    · rw [if_neg c18] at hf
      refine zr_iconst C zd_M_atom_20 ?_
      exact zw_M_atom_21 C hr hlk hK hSt hap   (0) S17 (znb rfl) hf _ _ _ hW hS (lv_sub hl [0] rfl)
    · rw [if_pos c18] at hf
      refine zr_iconst C zd_M_atom_16 ?_
      refine lv_goto (tgt := 21) C.1 C.2.1 zd_M_atom_17 (by decide) ?_
      exact zw_M_atom_21 C hr hlk hK hSt hap   (1) S17 (znb rfl) hf _ _ _ hW hS (lv_sub hl [0] rfl)

theorem zc_M_atom {l : Launch} {B : zB} (hap : zAp B) (S : Sg) {res : Int} {S9 : Sg} (hf : zf_M_atom  S = some (res, S9)) : Met l zy_M_atom (Cond.code zy_M_atom zb_M_atom 3 (some .boolean) :: zT) zm_M_atom (zP B S [.ref (B.2.1 9 (0) (0))]) (zQi B res S9) 0 0 B.2.2.2 :=
  zmet (by decide) (Nat.le_of_ble_eq_true rfl) (fun p e s m args below meth c C hr hlk hK hSt hW ls hl => zw_M_atom C hr hlk hK hSt hap    S  hf _ _ _ hW va_S.rf hl)
/-! IslandOfficeModel.sum()Z -/
abbrev zy_M_sum : MethodName := ⟨"IslandOfficeModel", "sum", "()Z"⟩
abbrev zb_M_sum : ByteArray := prog_14_method_25_code
abbrev zm_M_sum : Room := { frames := 3, cells := 0, slots := 0, locals := 62 }
theorem zq_M_sum : zMy zy_M_sum zb_M_sum 1 (some .boolean) 0 := ⟨zk_1683, zk_1682, zs_53, zk_14, by decide, by decide, by decide +kernel⟩
theorem zd_M_sum_0 : decode zb_M_sum 0 = .ok (.aload_n 0, 1) := by decide +kernel
theorem zd_M_sum_1 : decode zb_M_sum 1 = .ok (.invokevirtual 151, 3) := by decide +kernel
theorem zd_M_sum_4 : decode zb_M_sum 4 = .ok (.ifCond .ne 5, 3) := by decide +kernel
theorem zd_M_sum_7 : decode zb_M_sum 7 = .ok (.iconst 0, 1) := by decide +kernel
theorem zd_M_sum_8 : decode zb_M_sum 8 = .ok (.ireturn, 1) := by decide +kernel
theorem zd_M_sum_9 : decode zb_M_sum 9 = .ok (.aload_n 0, 1) := by decide +kernel
theorem zd_M_sum_10 : decode zb_M_sum 10 = .ok (.invokevirtual 141, 3) := by decide +kernel
theorem zd_M_sum_13 : decode zb_M_sum 13 = .ok (.bipush 43, 2) := by decide +kernel
theorem zd_M_sum_15 : decode zb_M_sum 15 = .ok (.if_icmp .eq 12, 3) := by decide +kernel
theorem zd_M_sum_18 : decode zb_M_sum 18 = .ok (.aload_n 0, 1) := by decide +kernel
theorem zd_M_sum_19 : decode zb_M_sum 19 = .ok (.invokevirtual 141, 3) := by decide +kernel
theorem zd_M_sum_22 : decode zb_M_sum 22 = .ok (.bipush 45, 2) := by decide +kernel
theorem zd_M_sum_24 : decode zb_M_sum 24 = .ok (.if_icmp .ne 22, 3) := by decide +kernel
theorem zd_M_sum_27 : decode zb_M_sum 27 = .ok (.aload_n 0, 1) := by decide +kernel
theorem zd_M_sum_28 : decode zb_M_sum 28 = .ok (.dup, 1) := by decide +kernel
theorem zd_M_sum_29 : decode zb_M_sum 29 = .ok (.getfield 129, 3) := by decide +kernel
theorem zd_M_sum_32 : decode zb_M_sum 32 = .ok (.iconst 1, 1) := by decide +kernel
theorem zd_M_sum_33 : decode zb_M_sum 33 = .ok (.iadd, 1) := by decide +kernel
theorem zd_M_sum_34 : decode zb_M_sum 34 = .ok (.putfield 129, 3) := by decide +kernel
theorem zd_M_sum_37 : decode zb_M_sum 37 = .ok (.aload_n 0, 1) := by decide +kernel
theorem zd_M_sum_38 : decode zb_M_sum 38 = .ok (.invokevirtual 151, 3) := by decide +kernel
theorem zd_M_sum_41 : decode zb_M_sum 41 = .ok (.ifCond .ne (-32), 3) := by decide +kernel
theorem zd_M_sum_44 : decode zb_M_sum 44 = .ok (.iconst 0, 1) := by decide +kernel
theorem zd_M_sum_45 : decode zb_M_sum 45 = .ok (.ireturn, 1) := by decide +kernel
theorem zd_M_sum_46 : decode zb_M_sum 46 = .ok (.iconst 1, 1) := by decide +kernel
theorem zd_M_sum_47 : decode zb_M_sum 47 = .ok (.ireturn, 1) := by decide +kernel

def zf_M_sum_27 (q9 : Sg → Option (Int × Sg)) (S : Sg) : Option (Int × Sg) :=
    zlt (zu S 9 0 0 12 (zw ((S 9 0 0 12) + 1))) fun S1 => zbd (zf_M_atom  S1) fun a2 S3 => if a2 = 0 then (some (0, S3)) else (q9  S3)
set_option maxHeartbeats 4000000 in
set_option maxRecDepth 100000 in
theorem zw_M_sum_27 {p : Program} {l : Launch} {e : Env} {s : State} {m : MethodId} {args : Array Value} {below : List Frame} {meth : Method} {c : Code} {B : zB} (C : CallFix p m c zb_M_sum 1 s args zT "IslandOfficeModel") (hr : meth.sig.returnType = some .boolean) (hlk : meth.locks = false) (hK : zK B s) (hSt : zSt B s) (hap : zAp B) {res : Int} {S9 : Sg} (q9 : Sg → Option (Int × Sg)) (hq9 : ∀  (S : Sg) , q9  S = some (res, S9) → ∀ (H : Heap) (locs : List Loc) (ls : Array Slot), zW B S H → va_S B.2.2.2 s.heap H locs → lv_has ls 1 [(0, .ref (B.2.1 9 (0) (0)))] → W p l e zm_M_sum s m args below meth c H locs 0 0 (MQ below (zQi B res S9) args s 0 0 B.2.2.2) (F0 m 9 ls [])) : ∀  (S : Sg) , zf_M_sum_27 q9  S = some (res, S9) → ∀ (H : Heap) (locs : List Loc) (ls : Array Slot), zW B S H → va_S B.2.2.2 s.heap H locs → lv_has ls 1 [(0, .ref (B.2.1 9 (0) (0)))] → W p l e zm_M_sum s m args below meth c H locs 0 0 (MQ below (zQi B res S9) args s 0 0 B.2.2.2) (F0 m 27 ls []) := by
  intro S hf H locs ls hW hS hl
  unfold zf_M_sum_27 at hf
  refine lv_aload_n C.1 C.2.1 zd_M_sum_27 rfl (lv_at hl 0 rfl) ?_
  refine lv_dup C.1 C.2.1 zd_M_sum_28 rfl ?_
  refine zg_M_at (r := 0) C hK hW (zvd_9 (by decide) (by decide)) zk_1512 zd_M_sum_29 ?_
  refine zr_iconst C zd_M_sum_32 ?_
  refine zr_iadd C zd_M_sum_33 ?_
  obtain ⟨S1, eS1, hf⟩ := zlt_some hf
  refine zp_M_at (r := 0) C hK hap hW hS (zvd_9 (by decide) (by decide)) zk_1512 (zn_w _) zd_M_sum_34 (fun H locs hW hS => ?_)
  rw [eS1] at hW
  refine lv_aload_n C.1 C.2.1 zd_M_sum_37 rfl (lv_at hl 0 rfl) ?_
  obtain ⟨a2, S3, ea2, hf⟩ := zbd_some hf
  refine zcVi (As := []) (rest := []) C hK hSt hW hS (zc_M_atom hap S1 ea2) zq_M_atom zk_1684 (zrecv hK hW (zvd_9 (by decide) (by decide)) (ze_9_0 B _ (0)) rfl) ⟨rfl, rfl, by decide, by decide⟩ ⟨Nat.zero_le _, Nat.zero_le _⟩ rfl hl.1 rfl (lv_room (Nat.le_of_ble_eq_true rfl)) zd_M_sum_38 (fun na2 H locs hW hS => ?_)
  refine zr_if_ne (tgt := 9) C na2 zd_M_sum_41 (by decide) (fun c4 => ?_) (fun c4 => ?_)
  · rw [if_neg c4] at hf
    exact hq9  S3  hf _ _ _ hW hS (lv_sub hl [0] rfl)
  · rw [if_pos c4] at hf
    refine zr_iconst C zd_M_sum_44 ?_
    cases hf
    exact zre_z C hr hlk hK hW hS (znb rfl) (zb01 (by decide)) zd_M_sum_45

def zf_M_sum_9 : Nat → Sg → Option (Int × Sg)
  | 0, _ => none
  | n + 1, S =>
    zbd (zf_M_here  S) fun a1 S2 => if a1 = 43 then (zf_M_sum_27 (zf_M_sum_9 n)  S2) else (zbd (zf_M_here  S2) fun a4 S5 => if a4 = 45 then (zf_M_sum_27 (zf_M_sum_9 n)  S5) else (some (1, S5)))
set_option maxHeartbeats 4000000 in
set_option maxRecDepth 100000 in
theorem zw_M_sum_9 {p : Program} {l : Launch} {e : Env} {s : State} {m : MethodId} {args : Array Value} {below : List Frame} {meth : Method} {c : Code} {B : zB} (C : CallFix p m c zb_M_sum 1 s args zT "IslandOfficeModel") (hr : meth.sig.returnType = some .boolean) (hlk : meth.locks = false) (hK : zK B s) (hSt : zSt B s) (hap : zAp B) {res : Int} {S9 : Sg} : ∀ n : Nat, ∀  (S : Sg) , zf_M_sum_9 n  S = some (res, S9) → ∀ (H : Heap) (locs : List Loc) (ls : Array Slot), zW B S H → va_S B.2.2.2 s.heap H locs → lv_has ls 1 [(0, .ref (B.2.1 9 (0) (0)))] → W p l e zm_M_sum s m args below meth c H locs 0 0 (MQ below (zQi B res S9) args s 0 0 B.2.2.2) (F0 m 9 ls []) := by
  intro n
  induction n with
  | zero =>
    intro S hf H locs ls hW hS hl
    cases hf
  | succ n ih =>
    intro S hf H locs ls hW hS hl
    rw [zf_M_sum_9] at hf
    refine lv_aload_n C.1 C.2.1 zd_M_sum_9 rfl (lv_at hl 0 rfl) ?_
    obtain ⟨a1, S2, ea1, hf⟩ := zbd_some hf
    refine zcVi (As := []) (rest := []) C hK hSt hW hS (zc_M_here hap S ea1) zq_M_here zk_1660 (zrecv hK hW (zvd_9 (by decide) (by decide)) (ze_9_0 B _ (0)) rfl) ⟨rfl, rfl, by decide, by decide⟩ ⟨Nat.zero_le _, Nat.zero_le _⟩ rfl hl.1 rfl (lv_room (Nat.le_of_ble_eq_true rfl)) zd_M_sum_10 (fun na1 H locs hW hS => ?_)
    refine zr_bipush C zd_M_sum_13 (by decide) ?_
    refine zr_icmp_eq (tgt := 27) C na1 (znb rfl) zd_M_sum_15 (by decide) (fun c3 => ?_) (fun c3 => ?_)
    · rw [if_pos c3] at hf
      exact zw_M_sum_27 C hr hlk hK hSt hap   (zf_M_sum_9 n) (ih)  S2  hf _ _ _ hW hS (lv_sub hl [0] rfl)
    · rw [if_neg c3] at hf
      refine lv_aload_n C.1 C.2.1 zd_M_sum_18 rfl (lv_at hl 0 rfl) ?_
      obtain ⟨a4, S5, ea4, hf⟩ := zbd_some hf
      refine zcVi (As := []) (rest := []) C hK hSt hW hS (zc_M_here hap S2 ea4) zq_M_here zk_1660 (zrecv hK hW (zvd_9 (by decide) (by decide)) (ze_9_0 B _ (0)) rfl) ⟨rfl, rfl, by decide, by decide⟩ ⟨Nat.zero_le _, Nat.zero_le _⟩ rfl hl.1 rfl (lv_room (Nat.le_of_ble_eq_true rfl)) zd_M_sum_19 (fun na4 H locs hW hS => ?_)
      refine zr_bipush C zd_M_sum_22 (by decide) ?_
      refine zr_icmp_ne (tgt := 46) C na4 (znb rfl) zd_M_sum_24 (by decide) (fun c6 => ?_) (fun c6 => ?_)
      · rw [if_neg c6] at hf
        refine zr_iconst C zd_M_sum_46 ?_
        cases hf
        exact zre_z C hr hlk hK hW hS (znb rfl) (zb01 (by decide)) zd_M_sum_47
      · rw [if_pos c6] at hf
        exact zw_M_sum_27 C hr hlk hK hSt hap   (zf_M_sum_9 n) (ih)  S5  hf _ _ _ hW hS (lv_sub hl [0] rfl)

def zf_M_sum (S : Sg) : Option (Int × Sg) :=
    zbd (zf_M_atom  S) fun a1 S2 => if a1 = 0 then (some (0, S2)) else (zf_M_sum_9 4096  S2)
set_option maxHeartbeats 4000000 in
set_option maxRecDepth 100000 in
theorem zw_M_sum {p : Program} {l : Launch} {e : Env} {s : State} {m : MethodId} {args : Array Value} {below : List Frame} {meth : Method} {c : Code} {B : zB} (C : CallFix p m c zb_M_sum 1 s args zT "IslandOfficeModel") (hr : meth.sig.returnType = some .boolean) (hlk : meth.locks = false) (hK : zK B s) (hSt : zSt B s) (hap : zAp B) {res : Int} {S9 : Sg} : ∀  (S : Sg) , zf_M_sum  S = some (res, S9) → ∀ (H : Heap) (locs : List Loc) (ls : Array Slot), zW B S H → va_S B.2.2.2 s.heap H locs → lv_has ls 1 [(0, .ref (B.2.1 9 (0) (0)))] → W p l e zm_M_sum s m args below meth c H locs 0 0 (MQ below (zQi B res S9) args s 0 0 B.2.2.2) (F0 m 0 ls []) := by
  intro S hf H locs ls hW hS hl
  unfold zf_M_sum at hf
  refine lv_aload_n C.1 C.2.1 zd_M_sum_0 rfl (lv_at hl 0 rfl) ?_
  obtain ⟨a1, S2, ea1, hf⟩ := zbd_some hf
  refine zcVi (As := []) (rest := []) C hK hSt hW hS (zc_M_atom hap S ea1) zq_M_atom zk_1684 (zrecv hK hW (zvd_9 (by decide) (by decide)) (ze_9_0 B _ (0)) rfl) ⟨rfl, rfl, by decide, by decide⟩ ⟨Nat.zero_le _, Nat.zero_le _⟩ rfl hl.1 rfl (lv_room (Nat.le_of_ble_eq_true rfl)) zd_M_sum_1 (fun na1 H locs hW hS => ?_)
  refine zr_if_ne (tgt := 9) C na1 zd_M_sum_4 (by decide) (fun c3 => ?_) (fun c3 => ?_)
  · rw [if_neg c3] at hf
    exact zw_M_sum_9 C hr hlk hK hSt hap   4096  S2  hf _ _ _ hW hS (lv_sub hl [0] rfl)
  · rw [if_pos c3] at hf
    refine zr_iconst C zd_M_sum_7 ?_
    cases hf
    exact zre_z C hr hlk hK hW hS (znb rfl) (zb01 (by decide)) zd_M_sum_8

theorem zc_M_sum {l : Launch} {B : zB} (hap : zAp B) (S : Sg) {res : Int} {S9 : Sg} (hf : zf_M_sum  S = some (res, S9)) : Met l zy_M_sum (Cond.code zy_M_sum zb_M_sum 1 (some .boolean) :: zT) zm_M_sum (zP B S [.ref (B.2.1 9 (0) (0))]) (zQi B res S9) 0 0 B.2.2.2 :=
  zmet (by decide) (Nat.le_of_ble_eq_true rfl) (fun p e s m args below meth c C hr hlk hK hSt hW ls hl => zw_M_sum C hr hlk hK hSt hap    S  hf _ _ _ hW va_S.rf hl)
abbrev zy_M_factor : MethodName := ⟨"IslandOfficeModel", "factor", "()Z"⟩
abbrev zb_M_factor : ByteArray := prog_14_method_26_code
abbrev zm_M_factor : Room := { frames := 388, cells := 0, slots := 0, locals := 7762 }
theorem zq_M_factor : zMy zy_M_factor zb_M_factor 1 (some .boolean) 0 := ⟨zk_1679, zk_1678, zs_52, zk_14, by decide, by decide, by decide +kernel⟩
theorem zd_M_factor_0 : decode zb_M_factor 0 = .ok (.aload_n 0, 1) := by decide +kernel
theorem zd_M_factor_1 : decode zb_M_factor 1 = .ok (.invokevirtual 141, 3) := by decide +kernel
theorem zd_M_factor_4 : decode zb_M_factor 4 = .ok (.bipush 33, 2) := by decide +kernel
theorem zd_M_factor_6 : decode zb_M_factor 6 = .ok (.if_icmp .ne 18, 3) := by decide +kernel
theorem zd_M_factor_9 : decode zb_M_factor 9 = .ok (.aload_n 0, 1) := by decide +kernel
theorem zd_M_factor_10 : decode zb_M_factor 10 = .ok (.dup, 1) := by decide +kernel
theorem zd_M_factor_11 : decode zb_M_factor 11 = .ok (.getfield 129, 3) := by decide +kernel
theorem zd_M_factor_14 : decode zb_M_factor 14 = .ok (.iconst 1, 1) := by decide +kernel
theorem zd_M_factor_15 : decode zb_M_factor 15 = .ok (.iadd, 1) := by decide +kernel
theorem zd_M_factor_16 : decode zb_M_factor 16 = .ok (.putfield 129, 3) := by decide +kernel
theorem zd_M_factor_19 : decode zb_M_factor 19 = .ok (.aload_n 0, 1) := by decide +kernel
theorem zd_M_factor_20 : decode zb_M_factor 20 = .ok (.invokevirtual 154, 3) := by decide +kernel
theorem zd_M_factor_23 : decode zb_M_factor 23 = .ok (.ireturn, 1) := by decide +kernel
theorem zd_M_factor_24 : decode zb_M_factor 24 = .ok (.aload_n 0, 1) := by decide +kernel
theorem zd_M_factor_25 : decode zb_M_factor 25 = .ok (.invokevirtual 141, 3) := by decide +kernel
theorem zd_M_factor_28 : decode zb_M_factor 28 = .ok (.bipush 40, 2) := by decide +kernel
theorem zd_M_factor_30 : decode zb_M_factor 30 = .ok (.if_icmp .ne 82, 3) := by decide +kernel
theorem zd_M_factor_33 : decode zb_M_factor 33 = .ok (.aload_n 0, 1) := by decide +kernel
theorem zd_M_factor_34 : decode zb_M_factor 34 = .ok (.getfield 157, 3) := by decide +kernel
theorem zd_M_factor_37 : decode zb_M_factor 37 = .ok (.bipush 8, 2) := by decide +kernel
theorem zd_M_factor_39 : decode zb_M_factor 39 = .ok (.if_icmp .ne 8, 3) := by decide +kernel
theorem zd_M_factor_42 : decode zb_M_factor 42 = .ok (.aload_n 0, 1) := by decide +kernel
theorem zd_M_factor_43 : decode zb_M_factor 43 = .ok (.invokevirtual 148, 3) := by decide +kernel
theorem zd_M_factor_46 : decode zb_M_factor 46 = .ok (.ireturn, 1) := by decide +kernel
theorem zd_M_factor_47 : decode zb_M_factor 47 = .ok (.aload_n 0, 1) := by decide +kernel
theorem zd_M_factor_48 : decode zb_M_factor 48 = .ok (.dup, 1) := by decide +kernel
theorem zd_M_factor_49 : decode zb_M_factor 49 = .ok (.getfield 157, 3) := by decide +kernel
theorem zd_M_factor_52 : decode zb_M_factor 52 = .ok (.iconst 1, 1) := by decide +kernel
theorem zd_M_factor_53 : decode zb_M_factor 53 = .ok (.iadd, 1) := by decide +kernel
theorem zd_M_factor_54 : decode zb_M_factor 54 = .ok (.putfield 157, 3) := by decide +kernel
theorem zd_M_factor_57 : decode zb_M_factor 57 = .ok (.aload_n 0, 1) := by decide +kernel
theorem zd_M_factor_58 : decode zb_M_factor 58 = .ok (.dup, 1) := by decide +kernel
theorem zd_M_factor_59 : decode zb_M_factor 59 = .ok (.getfield 129, 3) := by decide +kernel
theorem zd_M_factor_62 : decode zb_M_factor 62 = .ok (.iconst 1, 1) := by decide +kernel
theorem zd_M_factor_63 : decode zb_M_factor 63 = .ok (.iadd, 1) := by decide +kernel
theorem zd_M_factor_64 : decode zb_M_factor 64 = .ok (.putfield 129, 3) := by decide +kernel
theorem zd_M_factor_67 : decode zb_M_factor 67 = .ok (.aload_n 0, 1) := by decide +kernel
theorem zd_M_factor_68 : decode zb_M_factor 68 = .ok (.invokevirtual 160, 3) := by decide +kernel
theorem zd_M_factor_71 : decode zb_M_factor 71 = .ok (.ifCond .ne 5, 3) := by decide +kernel
theorem zd_M_factor_74 : decode zb_M_factor 74 = .ok (.iconst 0, 1) := by decide +kernel
theorem zd_M_factor_75 : decode zb_M_factor 75 = .ok (.ireturn, 1) := by decide +kernel
theorem zd_M_factor_76 : decode zb_M_factor 76 = .ok (.aload_n 0, 1) := by decide +kernel
theorem zd_M_factor_77 : decode zb_M_factor 77 = .ok (.invokevirtual 141, 3) := by decide +kernel
theorem zd_M_factor_80 : decode zb_M_factor 80 = .ok (.bipush 41, 2) := by decide +kernel
theorem zd_M_factor_82 : decode zb_M_factor 82 = .ok (.if_icmp .eq 8, 3) := by decide +kernel
theorem zd_M_factor_85 : decode zb_M_factor 85 = .ok (.aload_n 0, 1) := by decide +kernel
theorem zd_M_factor_86 : decode zb_M_factor 86 = .ok (.invokevirtual 148, 3) := by decide +kernel
theorem zd_M_factor_89 : decode zb_M_factor 89 = .ok (.ireturn, 1) := by decide +kernel
theorem zd_M_factor_90 : decode zb_M_factor 90 = .ok (.aload_n 0, 1) := by decide +kernel
theorem zd_M_factor_91 : decode zb_M_factor 91 = .ok (.dup, 1) := by decide +kernel
theorem zd_M_factor_92 : decode zb_M_factor 92 = .ok (.getfield 129, 3) := by decide +kernel
theorem zd_M_factor_95 : decode zb_M_factor 95 = .ok (.iconst 1, 1) := by decide +kernel
theorem zd_M_factor_96 : decode zb_M_factor 96 = .ok (.iadd, 1) := by decide +kernel
theorem zd_M_factor_97 : decode zb_M_factor 97 = .ok (.putfield 129, 3) := by decide +kernel
theorem zd_M_factor_100 : decode zb_M_factor 100 = .ok (.aload_n 0, 1) := by decide +kernel
theorem zd_M_factor_101 : decode zb_M_factor 101 = .ok (.dup, 1) := by decide +kernel
theorem zd_M_factor_102 : decode zb_M_factor 102 = .ok (.getfield 157, 3) := by decide +kernel
theorem zd_M_factor_105 : decode zb_M_factor 105 = .ok (.iconst 1, 1) := by decide +kernel
theorem zd_M_factor_106 : decode zb_M_factor 106 = .ok (.isub, 1) := by decide +kernel
theorem zd_M_factor_107 : decode zb_M_factor 107 = .ok (.putfield 157, 3) := by decide +kernel
theorem zd_M_factor_110 : decode zb_M_factor 110 = .ok (.iconst 1, 1) := by decide +kernel
theorem zd_M_factor_111 : decode zb_M_factor 111 = .ok (.ireturn, 1) := by decide +kernel
theorem zd_M_factor_112 : decode zb_M_factor 112 = .ok (.aload_n 0, 1) := by decide +kernel
theorem zd_M_factor_113 : decode zb_M_factor 113 = .ok (.invokevirtual 163, 3) := by decide +kernel
theorem zd_M_factor_116 : decode zb_M_factor 116 = .ok (.ifCond .ne 5, 3) := by decide +kernel
theorem zd_M_factor_119 : decode zb_M_factor 119 = .ok (.iconst 0, 1) := by decide +kernel
theorem zd_M_factor_120 : decode zb_M_factor 120 = .ok (.ireturn, 1) := by decide +kernel
theorem zd_M_factor_121 : decode zb_M_factor 121 = .ok (.aload_n 0, 1) := by decide +kernel
theorem zd_M_factor_122 : decode zb_M_factor 122 = .ok (.invokevirtual 141, 3) := by decide +kernel
theorem zd_M_factor_125 : decode zb_M_factor 125 = .ok (.bipush 60, 2) := by decide +kernel
theorem zd_M_factor_127 : decode zb_M_factor 127 = .ok (.if_icmp .eq 26, 3) := by decide +kernel
theorem zd_M_factor_130 : decode zb_M_factor 130 = .ok (.aload_n 0, 1) := by decide +kernel
theorem zd_M_factor_131 : decode zb_M_factor 131 = .ok (.invokevirtual 141, 3) := by decide +kernel
theorem zd_M_factor_134 : decode zb_M_factor 134 = .ok (.bipush 62, 2) := by decide +kernel
theorem zd_M_factor_136 : decode zb_M_factor 136 = .ok (.if_icmp .eq 17, 3) := by decide +kernel
theorem zd_M_factor_139 : decode zb_M_factor 139 = .ok (.aload_n 0, 1) := by decide +kernel
theorem zd_M_factor_140 : decode zb_M_factor 140 = .ok (.invokevirtual 141, 3) := by decide +kernel
theorem zd_M_factor_143 : decode zb_M_factor 143 = .ok (.bipush 61, 2) := by decide +kernel
theorem zd_M_factor_145 : decode zb_M_factor 145 = .ok (.if_icmp .eq 8, 3) := by decide +kernel
theorem zd_M_factor_148 : decode zb_M_factor 148 = .ok (.aload_n 0, 1) := by decide +kernel
theorem zd_M_factor_149 : decode zb_M_factor 149 = .ok (.invokevirtual 148, 3) := by decide +kernel
theorem zd_M_factor_152 : decode zb_M_factor 152 = .ok (.ireturn, 1) := by decide +kernel
theorem zd_M_factor_153 : decode zb_M_factor 153 = .ok (.aload_n 0, 1) := by decide +kernel
theorem zd_M_factor_154 : decode zb_M_factor 154 = .ok (.dup, 1) := by decide +kernel
theorem zd_M_factor_155 : decode zb_M_factor 155 = .ok (.getfield 129, 3) := by decide +kernel
theorem zd_M_factor_158 : decode zb_M_factor 158 = .ok (.iconst 1, 1) := by decide +kernel
theorem zd_M_factor_159 : decode zb_M_factor 159 = .ok (.iadd, 1) := by decide +kernel
theorem zd_M_factor_160 : decode zb_M_factor 160 = .ok (.putfield 129, 3) := by decide +kernel
theorem zd_M_factor_163 : decode zb_M_factor 163 = .ok (.aload_n 0, 1) := by decide +kernel
theorem zd_M_factor_164 : decode zb_M_factor 164 = .ok (.invokevirtual 163, 3) := by decide +kernel
theorem zd_M_factor_167 : decode zb_M_factor 167 = .ok (.ireturn, 1) := by decide +kernel

abbrev zy_M_term : MethodName := ⟨"IslandOfficeModel", "term", "()Z"⟩
abbrev zb_M_term : ByteArray := prog_14_method_27_code
abbrev zm_M_term : Room := { frames := 389, cells := 0, slots := 0, locals := 7782 }
theorem zq_M_term : zMy zy_M_term zb_M_term 1 (some .boolean) 0 := ⟨zk_1675, zk_1674, zs_51, zk_14, by decide, by decide, by decide +kernel⟩
theorem zd_M_term_0 : decode zb_M_term 0 = .ok (.aload_n 0, 1) := by decide +kernel
theorem zd_M_term_1 : decode zb_M_term 1 = .ok (.invokevirtual 154, 3) := by decide +kernel
theorem zd_M_term_4 : decode zb_M_term 4 = .ok (.ifCond .ne 5, 3) := by decide +kernel
theorem zd_M_term_7 : decode zb_M_term 7 = .ok (.iconst 0, 1) := by decide +kernel
theorem zd_M_term_8 : decode zb_M_term 8 = .ok (.ireturn, 1) := by decide +kernel
theorem zd_M_term_9 : decode zb_M_term 9 = .ok (.aload_n 0, 1) := by decide +kernel
theorem zd_M_term_10 : decode zb_M_term 10 = .ok (.invokevirtual 141, 3) := by decide +kernel
theorem zd_M_term_13 : decode zb_M_term 13 = .ok (.bipush 38, 2) := by decide +kernel
theorem zd_M_term_15 : decode zb_M_term 15 = .ok (.if_icmp .ne 22, 3) := by decide +kernel
theorem zd_M_term_18 : decode zb_M_term 18 = .ok (.aload_n 0, 1) := by decide +kernel
theorem zd_M_term_19 : decode zb_M_term 19 = .ok (.dup, 1) := by decide +kernel
theorem zd_M_term_20 : decode zb_M_term 20 = .ok (.getfield 129, 3) := by decide +kernel
theorem zd_M_term_23 : decode zb_M_term 23 = .ok (.iconst 1, 1) := by decide +kernel
theorem zd_M_term_24 : decode zb_M_term 24 = .ok (.iadd, 1) := by decide +kernel
theorem zd_M_term_25 : decode zb_M_term 25 = .ok (.putfield 129, 3) := by decide +kernel
theorem zd_M_term_28 : decode zb_M_term 28 = .ok (.aload_n 0, 1) := by decide +kernel
theorem zd_M_term_29 : decode zb_M_term 29 = .ok (.invokevirtual 154, 3) := by decide +kernel
theorem zd_M_term_32 : decode zb_M_term 32 = .ok (.ifCond .ne (-23), 3) := by decide +kernel
theorem zd_M_term_35 : decode zb_M_term 35 = .ok (.iconst 0, 1) := by decide +kernel
theorem zd_M_term_36 : decode zb_M_term 36 = .ok (.ireturn, 1) := by decide +kernel
theorem zd_M_term_37 : decode zb_M_term 37 = .ok (.iconst 1, 1) := by decide +kernel
theorem zd_M_term_38 : decode zb_M_term 38 = .ok (.ireturn, 1) := by decide +kernel

abbrev zy_M_expr : MethodName := ⟨"IslandOfficeModel", "expr", "()Z"⟩
abbrev zb_M_expr : ByteArray := prog_14_method_28_code
abbrev zm_M_expr : Room := { frames := 390, cells := 0, slots := 0, locals := 7802 }
theorem zq_M_expr : zMy zy_M_expr zb_M_expr 1 (some .boolean) 0 := ⟨zk_1671, zk_1670, zs_50, zk_14, by decide, by decide, by decide +kernel⟩
theorem zd_M_expr_0 : decode zb_M_expr 0 = .ok (.aload_n 0, 1) := by decide +kernel
theorem zd_M_expr_1 : decode zb_M_expr 1 = .ok (.invokevirtual 166, 3) := by decide +kernel
theorem zd_M_expr_4 : decode zb_M_expr 4 = .ok (.ifCond .ne 5, 3) := by decide +kernel
theorem zd_M_expr_7 : decode zb_M_expr 7 = .ok (.iconst 0, 1) := by decide +kernel
theorem zd_M_expr_8 : decode zb_M_expr 8 = .ok (.ireturn, 1) := by decide +kernel
theorem zd_M_expr_9 : decode zb_M_expr 9 = .ok (.aload_n 0, 1) := by decide +kernel
theorem zd_M_expr_10 : decode zb_M_expr 10 = .ok (.invokevirtual 141, 3) := by decide +kernel
theorem zd_M_expr_13 : decode zb_M_expr 13 = .ok (.bipush 124, 2) := by decide +kernel
theorem zd_M_expr_15 : decode zb_M_expr 15 = .ok (.if_icmp .ne 22, 3) := by decide +kernel
theorem zd_M_expr_18 : decode zb_M_expr 18 = .ok (.aload_n 0, 1) := by decide +kernel
theorem zd_M_expr_19 : decode zb_M_expr 19 = .ok (.dup, 1) := by decide +kernel
theorem zd_M_expr_20 : decode zb_M_expr 20 = .ok (.getfield 129, 3) := by decide +kernel
theorem zd_M_expr_23 : decode zb_M_expr 23 = .ok (.iconst 1, 1) := by decide +kernel
theorem zd_M_expr_24 : decode zb_M_expr 24 = .ok (.iadd, 1) := by decide +kernel
theorem zd_M_expr_25 : decode zb_M_expr 25 = .ok (.putfield 129, 3) := by decide +kernel
theorem zd_M_expr_28 : decode zb_M_expr 28 = .ok (.aload_n 0, 1) := by decide +kernel
theorem zd_M_expr_29 : decode zb_M_expr 29 = .ok (.invokevirtual 166, 3) := by decide +kernel
theorem zd_M_expr_32 : decode zb_M_expr 32 = .ok (.ifCond .ne (-23), 3) := by decide +kernel
theorem zd_M_expr_35 : decode zb_M_expr 35 = .ok (.iconst 0, 1) := by decide +kernel
theorem zd_M_expr_36 : decode zb_M_expr 36 = .ok (.ireturn, 1) := by decide +kernel
theorem zd_M_expr_37 : decode zb_M_expr 37 = .ok (.iconst 1, 1) := by decide +kernel
theorem zd_M_expr_38 : decode zb_M_expr 38 = .ok (.ireturn, 1) := by decide +kernel

def zhr_M_factor (rm : Room) : Prop := 4 ≤ rm.frames ∧ 82 ≤ rm.locals
def zhr_M_term (rm : Room) : Prop := 4 ≤ rm.frames ∧ 82 ≤ rm.locals
def zhr_M_expr (rm : Room) : Prop := 4 ≤ rm.frames ∧ 82 ≤ rm.locals
def zf_M_factor_153 (F_M_factor : Sg → Option (Int × Sg)) (F_M_expr : Sg → Option (Int × Sg)) (S : Sg) : Option (Int × Sg) :=
    zlt (zu S 9 0 0 12 (zw ((S 9 0 0 12) + 1))) fun S1 => zbd (zf_M_sum  S1) fun a2 S3 => zck (a2 = 0 ∨ a2 = 1) <| some (a2, S3)
set_option maxHeartbeats 4000000 in
set_option maxRecDepth 100000 in
theorem zw_M_factor_153 {p : Program} {l : Launch} {e : Env} {s : State} {m : MethodId} {args : Array Value} {below : List Frame} {meth : Method} {c : Code} {B : zB} (C : CallFix p m c zb_M_factor 1 s args zT "IslandOfficeModel") (hr : meth.sig.returnType = some .boolean) (hlk : meth.locks = false) (hK : zK B s) (hSt : zSt B s) (hap : zAp B) (F_M_factor : Sg → Option (Int × Sg)) (F_M_expr : Sg → Option (Int × Sg)) {rm : Room} (hrm : zhr_M_factor rm) {rq_M_factor : Room} (hF_M_factor : ∀ (S : Sg) {res : Int} {S9 : Sg}, F_M_factor S = some (res, S9) → Met l zy_M_factor (Cond.code zy_M_factor zb_M_factor 1 (some .boolean) :: zT) rq_M_factor (zP B S [.ref (B.2.1 9 (0) (0))]) (zQi B res S9) 0 0 B.2.2.2) (hq_M_factor : zRm rm rq_M_factor 1) {rq_M_expr : Room} (hF_M_expr : ∀ (S : Sg) {res : Int} {S9 : Sg}, F_M_expr S = some (res, S9) → Met l zy_M_expr (Cond.code zy_M_expr zb_M_expr 1 (some .boolean) :: zT) rq_M_expr (zP B S [.ref (B.2.1 9 (0) (0))]) (zQi B res S9) 0 0 B.2.2.2) (hq_M_expr : zRm rm rq_M_expr 1) {res : Int} {S9 : Sg} : ∀  (S : Sg) , zf_M_factor_153 F_M_factor F_M_expr  S = some (res, S9) → ∀ (H : Heap) (locs : List Loc) (ls : Array Slot), zW B S H → va_S B.2.2.2 s.heap H locs → lv_has ls 1 [(0, .ref (B.2.1 9 (0) (0)))] → W p l e rm s m args below meth c H locs 0 0 (MQ below (zQi B res S9) args s 0 0 B.2.2.2) (F0 m 153 ls []) := by
  intro S hf H locs ls hW hS hl
  unfold zf_M_factor_153 at hf
  refine lv_aload_n C.1 C.2.1 zd_M_factor_153 rfl (lv_at hl 0 rfl) ?_
  refine lv_dup C.1 C.2.1 zd_M_factor_154 rfl ?_
  refine zg_M_at (r := 0) C hK hW (zvd_9 (by decide) (by decide)) zk_1512 zd_M_factor_155 ?_
  refine zr_iconst C zd_M_factor_158 ?_
  refine zr_iadd C zd_M_factor_159 ?_
  obtain ⟨S1, eS1, hf⟩ := zlt_some hf
  refine zp_M_at (r := 0) C hK hap hW hS (zvd_9 (by decide) (by decide)) zk_1512 (zn_w _) zd_M_factor_160 (fun H locs hW hS => ?_)
  rw [eS1] at hW
  refine lv_aload_n C.1 C.2.1 zd_M_factor_163 rfl (lv_at hl 0 rfl) ?_
  obtain ⟨a2, S3, ea2, hf⟩ := zbd_some hf
  refine zcVi (As := []) (rest := []) C hK hSt hW hS (zc_M_sum hap S1 ea2) zq_M_sum zk_1680 (zrecv hK hW (zvd_9 (by decide) (by decide)) (ze_9_0 B _ (0)) rfl) ⟨rfl, rfl, Nat.le_trans (by decide) hrm.1, Nat.le_trans (by decide) hrm.2⟩ ⟨Nat.zero_le _, Nat.zero_le _⟩ rfl hl.1 rfl (lv_room (Nat.le_of_ble_eq_true rfl)) zd_M_factor_164 (fun na2 H locs hW hS => ?_)
  obtain ⟨h4, hf⟩ := zck_some hf
  cases hf
  exact zre_z C hr hlk hK hW hS na2 (zb01 h4) zd_M_factor_167

def zf_M_factor_B (F_M_factor : Sg → Option (Int × Sg)) (F_M_expr : Sg → Option (Int × Sg)) (S : Sg) : Option (Int × Sg) :=
    zbd (zf_M_here  S) fun a1 S2 => if a1 = 33 then (zlt (zu S2 9 0 0 12 (zw ((S2 9 0 0 12) + 1))) fun S39 => zbd (F_M_factor  S39) fun a40 S41 => zck (a40 = 0 ∨ a40 = 1) <| some (a40, S41)) else (zbd (zf_M_here  S2) fun a4 S5 => if a4 = 40 then (if (S5 9 0 0 13) = 8 then (zbd (zf_M_wrong  S5) fun a36 S37 => zck (a36 = 0 ∨ a36 = 1) <| some (a36, S37)) else (zlt (zu S5 9 0 0 13 (zw ((S5 9 0 0 13) + 1))) fun S23 => zlt (zu S23 9 0 0 12 (zw ((S23 9 0 0 12) + 1))) fun S24 => zbd (F_M_expr  S24) fun a25 S26 => if a25 = 0 then (some (0, S26)) else (zbd (zf_M_here  S26) fun a28 S29 => if a28 = 41 then (zlt (zu S29 9 0 0 12 (zw ((S29 9 0 0 12) + 1))) fun S31 => zlt (zu S31 9 0 0 13 (zw ((S31 9 0 0 13) - 1))) fun S32 => some (1, S32)) else (zbd (zf_M_wrong  S29) fun a33 S34 => zck (a33 = 0 ∨ a33 = 1) <| some (a33, S34))))) else (zbd (zf_M_sum  S5) fun a7 S8 => if a7 = 0 then (some (0, S8)) else (zbd (zf_M_here  S8) fun a10 S11 => if a10 = 60 then (zf_M_factor_153 F_M_factor F_M_expr  S11) else (zbd (zf_M_here  S11) fun a13 S14 => if a13 = 62 then (zf_M_factor_153 F_M_factor F_M_expr  S14) else (zbd (zf_M_here  S14) fun a16 S17 => if a16 = 61 then (zf_M_factor_153 F_M_factor F_M_expr  S17) else (zbd (zf_M_wrong  S17) fun a19 S20 => zck (a19 = 0 ∨ a19 = 1) <| some (a19, S20)))))))
set_option maxHeartbeats 4000000 in
set_option maxRecDepth 100000 in
theorem zw_M_factor {p : Program} {l : Launch} {e : Env} {s : State} {m : MethodId} {args : Array Value} {below : List Frame} {meth : Method} {c : Code} {B : zB} (C : CallFix p m c zb_M_factor 1 s args zT "IslandOfficeModel") (hr : meth.sig.returnType = some .boolean) (hlk : meth.locks = false) (hK : zK B s) (hSt : zSt B s) (hap : zAp B) (F_M_factor : Sg → Option (Int × Sg)) (F_M_expr : Sg → Option (Int × Sg)) {rm : Room} (hrm : zhr_M_factor rm) {rq_M_factor : Room} (hF_M_factor : ∀ (S : Sg) {res : Int} {S9 : Sg}, F_M_factor S = some (res, S9) → Met l zy_M_factor (Cond.code zy_M_factor zb_M_factor 1 (some .boolean) :: zT) rq_M_factor (zP B S [.ref (B.2.1 9 (0) (0))]) (zQi B res S9) 0 0 B.2.2.2) (hq_M_factor : zRm rm rq_M_factor 1) {rq_M_expr : Room} (hF_M_expr : ∀ (S : Sg) {res : Int} {S9 : Sg}, F_M_expr S = some (res, S9) → Met l zy_M_expr (Cond.code zy_M_expr zb_M_expr 1 (some .boolean) :: zT) rq_M_expr (zP B S [.ref (B.2.1 9 (0) (0))]) (zQi B res S9) 0 0 B.2.2.2) (hq_M_expr : zRm rm rq_M_expr 1) {res : Int} {S9 : Sg} : ∀  (S : Sg) , zf_M_factor_B F_M_factor F_M_expr  S = some (res, S9) → ∀ (H : Heap) (locs : List Loc) (ls : Array Slot), zW B S H → va_S B.2.2.2 s.heap H locs → lv_has ls 1 [(0, .ref (B.2.1 9 (0) (0)))] → W p l e rm s m args below meth c H locs 0 0 (MQ below (zQi B res S9) args s 0 0 B.2.2.2) (F0 m 0 ls []) := by
  intro S hf H locs ls hW hS hl
  unfold zf_M_factor_B at hf
  refine lv_aload_n C.1 C.2.1 zd_M_factor_0 rfl (lv_at hl 0 rfl) ?_
  obtain ⟨a1, S2, ea1, hf⟩ := zbd_some hf
  refine zcVi (As := []) (rest := []) C hK hSt hW hS (zc_M_here hap S ea1) zq_M_here zk_1660 (zrecv hK hW (zvd_9 (by decide) (by decide)) (ze_9_0 B _ (0)) rfl) ⟨rfl, rfl, Nat.le_trans (by decide) hrm.1, Nat.le_trans (by decide) hrm.2⟩ ⟨Nat.zero_le _, Nat.zero_le _⟩ rfl hl.1 rfl (lv_room (Nat.le_of_ble_eq_true rfl)) zd_M_factor_1 (fun na1 H locs hW hS => ?_)
  refine zr_bipush C zd_M_factor_4 (by decide) ?_
  refine zr_icmp_ne (tgt := 24) C na1 (znb rfl) zd_M_factor_6 (by decide) (fun c3 => ?_) (fun c3 => ?_)
  · rw [if_neg c3] at hf
    refine lv_aload_n C.1 C.2.1 zd_M_factor_24 rfl (lv_at hl 0 rfl) ?_
    obtain ⟨a4, S5, ea4, hf⟩ := zbd_some hf
    refine zcVi (As := []) (rest := []) C hK hSt hW hS (zc_M_here hap S2 ea4) zq_M_here zk_1660 (zrecv hK hW (zvd_9 (by decide) (by decide)) (ze_9_0 B _ (0)) rfl) ⟨rfl, rfl, Nat.le_trans (by decide) hrm.1, Nat.le_trans (by decide) hrm.2⟩ ⟨Nat.zero_le _, Nat.zero_le _⟩ rfl hl.1 rfl (lv_room (Nat.le_of_ble_eq_true rfl)) zd_M_factor_25 (fun na4 H locs hW hS => ?_)
    refine zr_bipush C zd_M_factor_28 (by decide) ?_
    refine zr_icmp_ne (tgt := 112) C na4 (znb rfl) zd_M_factor_30 (by decide) (fun c6 => ?_) (fun c6 => ?_)
    · rw [if_neg c6] at hf
      refine lv_aload_n C.1 C.2.1 zd_M_factor_112 rfl (lv_at hl 0 rfl) ?_
      obtain ⟨a7, S8, ea7, hf⟩ := zbd_some hf
      refine zcVi (As := []) (rest := []) C hK hSt hW hS (zc_M_sum hap S5 ea7) zq_M_sum zk_1680 (zrecv hK hW (zvd_9 (by decide) (by decide)) (ze_9_0 B _ (0)) rfl) ⟨rfl, rfl, Nat.le_trans (by decide) hrm.1, Nat.le_trans (by decide) hrm.2⟩ ⟨Nat.zero_le _, Nat.zero_le _⟩ rfl hl.1 rfl (lv_room (Nat.le_of_ble_eq_true rfl)) zd_M_factor_113 (fun na7 H locs hW hS => ?_)
      refine zr_if_ne (tgt := 121) C na7 zd_M_factor_116 (by decide) (fun c9 => ?_) (fun c9 => ?_)
      · rw [if_neg c9] at hf
        refine lv_aload_n C.1 C.2.1 zd_M_factor_121 rfl (lv_at hl 0 rfl) ?_
        obtain ⟨a10, S11, ea10, hf⟩ := zbd_some hf
        refine zcVi (As := []) (rest := []) C hK hSt hW hS (zc_M_here hap S8 ea10) zq_M_here zk_1660 (zrecv hK hW (zvd_9 (by decide) (by decide)) (ze_9_0 B _ (0)) rfl) ⟨rfl, rfl, Nat.le_trans (by decide) hrm.1, Nat.le_trans (by decide) hrm.2⟩ ⟨Nat.zero_le _, Nat.zero_le _⟩ rfl hl.1 rfl (lv_room (Nat.le_of_ble_eq_true rfl)) zd_M_factor_122 (fun na10 H locs hW hS => ?_)
        refine zr_bipush C zd_M_factor_125 (by decide) ?_
        refine zr_icmp_eq (tgt := 153) C na10 (znb rfl) zd_M_factor_127 (by decide) (fun c12 => ?_) (fun c12 => ?_)
        · rw [if_pos c12] at hf
          exact zw_M_factor_153 C hr hlk hK hSt hap F_M_factor F_M_expr  hrm hF_M_factor hq_M_factor hF_M_expr hq_M_expr  S11  hf _ _ _ hW hS (lv_sub hl [0] rfl)
        · rw [if_neg c12] at hf
          refine lv_aload_n C.1 C.2.1 zd_M_factor_130 rfl (lv_at hl 0 rfl) ?_
          obtain ⟨a13, S14, ea13, hf⟩ := zbd_some hf
          refine zcVi (As := []) (rest := []) C hK hSt hW hS (zc_M_here hap S11 ea13) zq_M_here zk_1660 (zrecv hK hW (zvd_9 (by decide) (by decide)) (ze_9_0 B _ (0)) rfl) ⟨rfl, rfl, Nat.le_trans (by decide) hrm.1, Nat.le_trans (by decide) hrm.2⟩ ⟨Nat.zero_le _, Nat.zero_le _⟩ rfl hl.1 rfl (lv_room (Nat.le_of_ble_eq_true rfl)) zd_M_factor_131 (fun na13 H locs hW hS => ?_)
          refine zr_bipush C zd_M_factor_134 (by decide) ?_
          refine zr_icmp_eq (tgt := 153) C na13 (znb rfl) zd_M_factor_136 (by decide) (fun c15 => ?_) (fun c15 => ?_)
          · rw [if_pos c15] at hf
            exact zw_M_factor_153 C hr hlk hK hSt hap F_M_factor F_M_expr  hrm hF_M_factor hq_M_factor hF_M_expr hq_M_expr  S14  hf _ _ _ hW hS (lv_sub hl [0] rfl)
          · rw [if_neg c15] at hf
            refine lv_aload_n C.1 C.2.1 zd_M_factor_139 rfl (lv_at hl 0 rfl) ?_
            obtain ⟨a16, S17, ea16, hf⟩ := zbd_some hf
            refine zcVi (As := []) (rest := []) C hK hSt hW hS (zc_M_here hap S14 ea16) zq_M_here zk_1660 (zrecv hK hW (zvd_9 (by decide) (by decide)) (ze_9_0 B _ (0)) rfl) ⟨rfl, rfl, Nat.le_trans (by decide) hrm.1, Nat.le_trans (by decide) hrm.2⟩ ⟨Nat.zero_le _, Nat.zero_le _⟩ rfl hl.1 rfl (lv_room (Nat.le_of_ble_eq_true rfl)) zd_M_factor_140 (fun na16 H locs hW hS => ?_)
            refine zr_bipush C zd_M_factor_143 (by decide) ?_
            refine zr_icmp_eq (tgt := 153) C na16 (znb rfl) zd_M_factor_145 (by decide) (fun c18 => ?_) (fun c18 => ?_)
            · rw [if_pos c18] at hf
              exact zw_M_factor_153 C hr hlk hK hSt hap F_M_factor F_M_expr  hrm hF_M_factor hq_M_factor hF_M_expr hq_M_expr  S17  hf _ _ _ hW hS (lv_sub hl [0] rfl)
            · rw [if_neg c18] at hf
              refine lv_aload_n C.1 C.2.1 zd_M_factor_148 rfl (lv_at hl 0 rfl) ?_
              obtain ⟨a19, S20, ea19, hf⟩ := zbd_some hf
              refine zcVi (As := []) (rest := []) C hK hSt hW hS (zc_M_wrong hap S17 ea19) zq_M_wrong zk_1664 (zrecv hK hW (zvd_9 (by decide) (by decide)) (ze_9_0 B _ (0)) rfl) ⟨rfl, rfl, Nat.le_trans (by decide) hrm.1, Nat.le_trans (by decide) hrm.2⟩ ⟨Nat.zero_le _, Nat.zero_le _⟩ rfl hl.1 rfl (lv_room (Nat.le_of_ble_eq_true rfl)) zd_M_factor_149 (fun na19 H locs hW hS => ?_)
              obtain ⟨h21, hf⟩ := zck_some hf
              cases hf
              exact zre_z C hr hlk hK hW hS na19 (zb01 h21) zd_M_factor_152
      · rw [if_pos c9] at hf
        refine zr_iconst C zd_M_factor_119 ?_
        cases hf
        exact zre_z C hr hlk hK hW hS (znb rfl) (zb01 (by decide)) zd_M_factor_120
    · rw [if_pos c6] at hf
      refine lv_aload_n C.1 C.2.1 zd_M_factor_33 rfl (lv_at hl 0 rfl) ?_
      refine zg_M_deep (r := 0) C hK hW (zvd_9 (by decide) (by decide)) zk_1513 zd_M_factor_34 ?_
      refine zr_bipush C zd_M_factor_37 (by decide) ?_
      refine zr_icmp_ne (tgt := 47) C (zWn hW _ _ _ _ rfl) (znb rfl) zd_M_factor_39 (by decide) (fun c22 => ?_) (fun c22 => ?_)
      · rw [if_neg c22] at hf
        refine lv_aload_n C.1 C.2.1 zd_M_factor_47 rfl (lv_at hl 0 rfl) ?_
        refine lv_dup C.1 C.2.1 zd_M_factor_48 rfl ?_
        refine zg_M_deep (r := 0) C hK hW (zvd_9 (by decide) (by decide)) zk_1513 zd_M_factor_49 ?_
        refine zr_iconst C zd_M_factor_52 ?_
        refine zr_iadd C zd_M_factor_53 ?_
        obtain ⟨S23, eS23, hf⟩ := zlt_some hf
        refine zp_M_deep (r := 0) C hK hap hW hS (zvd_9 (by decide) (by decide)) zk_1513 (zn_w _) zd_M_factor_54 (fun H locs hW hS => ?_)
        rw [eS23] at hW
        refine lv_aload_n C.1 C.2.1 zd_M_factor_57 rfl (lv_at hl 0 rfl) ?_
        refine lv_dup C.1 C.2.1 zd_M_factor_58 rfl ?_
        refine zg_M_at (r := 0) C hK hW (zvd_9 (by decide) (by decide)) zk_1512 zd_M_factor_59 ?_
        refine zr_iconst C zd_M_factor_62 ?_
        refine zr_iadd C zd_M_factor_63 ?_
        obtain ⟨S24, eS24, hf⟩ := zlt_some hf
        refine zp_M_at (r := 0) C hK hap hW hS (zvd_9 (by decide) (by decide)) zk_1512 (zn_w _) zd_M_factor_64 (fun H locs hW hS => ?_)
        rw [eS24] at hW
        refine lv_aload_n C.1 C.2.1 zd_M_factor_67 rfl (lv_at hl 0 rfl) ?_
        obtain ⟨a25, S26, ea25, hf⟩ := zbd_some hf
        refine zcVi (As := []) (rest := []) C hK hSt hW hS (hF_M_expr S24 ea25) zq_M_expr zk_1668 (zrecv hK hW (zvd_9 (by decide) (by decide)) (ze_9_0 B _ (0)) rfl) hq_M_expr ⟨Nat.zero_le _, Nat.zero_le _⟩ rfl hl.1 rfl (lv_room (Nat.le_of_ble_eq_true rfl)) zd_M_factor_68 (fun na25 H locs hW hS => ?_)
        refine zr_if_ne (tgt := 76) C na25 zd_M_factor_71 (by decide) (fun c27 => ?_) (fun c27 => ?_)
        · rw [if_neg c27] at hf
          refine lv_aload_n C.1 C.2.1 zd_M_factor_76 rfl (lv_at hl 0 rfl) ?_
          obtain ⟨a28, S29, ea28, hf⟩ := zbd_some hf
          refine zcVi (As := []) (rest := []) C hK hSt hW hS (zc_M_here hap S26 ea28) zq_M_here zk_1660 (zrecv hK hW (zvd_9 (by decide) (by decide)) (ze_9_0 B _ (0)) rfl) ⟨rfl, rfl, Nat.le_trans (by decide) hrm.1, Nat.le_trans (by decide) hrm.2⟩ ⟨Nat.zero_le _, Nat.zero_le _⟩ rfl hl.1 rfl (lv_room (Nat.le_of_ble_eq_true rfl)) zd_M_factor_77 (fun na28 H locs hW hS => ?_)
          refine zr_bipush C zd_M_factor_80 (by decide) ?_
          refine zr_icmp_eq (tgt := 90) C na28 (znb rfl) zd_M_factor_82 (by decide) (fun c30 => ?_) (fun c30 => ?_)
          · rw [if_pos c30] at hf
            refine lv_aload_n C.1 C.2.1 zd_M_factor_90 rfl (lv_at hl 0 rfl) ?_
            refine lv_dup C.1 C.2.1 zd_M_factor_91 rfl ?_
            refine zg_M_at (r := 0) C hK hW (zvd_9 (by decide) (by decide)) zk_1512 zd_M_factor_92 ?_
            refine zr_iconst C zd_M_factor_95 ?_
            refine zr_iadd C zd_M_factor_96 ?_
            obtain ⟨S31, eS31, hf⟩ := zlt_some hf
            refine zp_M_at (r := 0) C hK hap hW hS (zvd_9 (by decide) (by decide)) zk_1512 (zn_w _) zd_M_factor_97 (fun H locs hW hS => ?_)
            rw [eS31] at hW
            refine lv_aload_n C.1 C.2.1 zd_M_factor_100 rfl (lv_at hl 0 rfl) ?_
            refine lv_dup C.1 C.2.1 zd_M_factor_101 rfl ?_
            refine zg_M_deep (r := 0) C hK hW (zvd_9 (by decide) (by decide)) zk_1513 zd_M_factor_102 ?_
            refine zr_iconst C zd_M_factor_105 ?_
            refine zr_isub C zd_M_factor_106 ?_
            obtain ⟨S32, eS32, hf⟩ := zlt_some hf
            refine zp_M_deep (r := 0) C hK hap hW hS (zvd_9 (by decide) (by decide)) zk_1513 (zn_w _) zd_M_factor_107 (fun H locs hW hS => ?_)
            rw [eS32] at hW
            refine zr_iconst C zd_M_factor_110 ?_
            cases hf
            exact zre_z C hr hlk hK hW hS (znb rfl) (zb01 (by decide)) zd_M_factor_111
          · rw [if_neg c30] at hf
            refine lv_aload_n C.1 C.2.1 zd_M_factor_85 rfl (lv_at hl 0 rfl) ?_
            obtain ⟨a33, S34, ea33, hf⟩ := zbd_some hf
            refine zcVi (As := []) (rest := []) C hK hSt hW hS (zc_M_wrong hap S29 ea33) zq_M_wrong zk_1664 (zrecv hK hW (zvd_9 (by decide) (by decide)) (ze_9_0 B _ (0)) rfl) ⟨rfl, rfl, Nat.le_trans (by decide) hrm.1, Nat.le_trans (by decide) hrm.2⟩ ⟨Nat.zero_le _, Nat.zero_le _⟩ rfl hl.1 rfl (lv_room (Nat.le_of_ble_eq_true rfl)) zd_M_factor_86 (fun na33 H locs hW hS => ?_)
            obtain ⟨h35, hf⟩ := zck_some hf
            cases hf
            exact zre_z C hr hlk hK hW hS na33 (zb01 h35) zd_M_factor_89
        · rw [if_pos c27] at hf
          refine zr_iconst C zd_M_factor_74 ?_
          cases hf
          exact zre_z C hr hlk hK hW hS (znb rfl) (zb01 (by decide)) zd_M_factor_75
      · rw [if_pos c22] at hf
        refine lv_aload_n C.1 C.2.1 zd_M_factor_42 rfl (lv_at hl 0 rfl) ?_
        obtain ⟨a36, S37, ea36, hf⟩ := zbd_some hf
        refine zcVi (As := []) (rest := []) C hK hSt hW hS (zc_M_wrong hap S5 ea36) zq_M_wrong zk_1664 (zrecv hK hW (zvd_9 (by decide) (by decide)) (ze_9_0 B _ (0)) rfl) ⟨rfl, rfl, Nat.le_trans (by decide) hrm.1, Nat.le_trans (by decide) hrm.2⟩ ⟨Nat.zero_le _, Nat.zero_le _⟩ rfl hl.1 rfl (lv_room (Nat.le_of_ble_eq_true rfl)) zd_M_factor_43 (fun na36 H locs hW hS => ?_)
        obtain ⟨h38, hf⟩ := zck_some hf
        cases hf
        exact zre_z C hr hlk hK hW hS na36 (zb01 h38) zd_M_factor_46
  · rw [if_pos c3] at hf
    refine lv_aload_n C.1 C.2.1 zd_M_factor_9 rfl (lv_at hl 0 rfl) ?_
    refine lv_dup C.1 C.2.1 zd_M_factor_10 rfl ?_
    refine zg_M_at (r := 0) C hK hW (zvd_9 (by decide) (by decide)) zk_1512 zd_M_factor_11 ?_
    refine zr_iconst C zd_M_factor_14 ?_
    refine zr_iadd C zd_M_factor_15 ?_
    obtain ⟨S39, eS39, hf⟩ := zlt_some hf
    refine zp_M_at (r := 0) C hK hap hW hS (zvd_9 (by decide) (by decide)) zk_1512 (zn_w _) zd_M_factor_16 (fun H locs hW hS => ?_)
    rw [eS39] at hW
    refine lv_aload_n C.1 C.2.1 zd_M_factor_19 rfl (lv_at hl 0 rfl) ?_
    obtain ⟨a40, S41, ea40, hf⟩ := zbd_some hf
    refine zcVi (As := []) (rest := []) C hK hSt hW hS (hF_M_factor S39 ea40) zq_M_factor zk_1676 (zrecv hK hW (zvd_9 (by decide) (by decide)) (ze_9_0 B _ (0)) rfl) hq_M_factor ⟨Nat.zero_le _, Nat.zero_le _⟩ rfl hl.1 rfl (lv_room (Nat.le_of_ble_eq_true rfl)) zd_M_factor_20 (fun na40 H locs hW hS => ?_)
    obtain ⟨h42, hf⟩ := zck_some hf
    cases hf
    exact zre_z C hr hlk hK hW hS na40 (zb01 h42) zd_M_factor_23

theorem zcb_M_factor {l : Launch} {B : zB} (hap : zAp B) (F_M_factor : Sg → Option (Int × Sg)) (F_M_expr : Sg → Option (Int × Sg)) {rm : Room} (hrm : zhr_M_factor rm) {rq_M_factor : Room} (hF_M_factor : ∀ (S : Sg) {res : Int} {S9 : Sg}, F_M_factor S = some (res, S9) → Met l zy_M_factor (Cond.code zy_M_factor zb_M_factor 1 (some .boolean) :: zT) rq_M_factor (zP B S [.ref (B.2.1 9 (0) (0))]) (zQi B res S9) 0 0 B.2.2.2) (hq_M_factor : zRm rm rq_M_factor 1) {rq_M_expr : Room} (hF_M_expr : ∀ (S : Sg) {res : Int} {S9 : Sg}, F_M_expr S = some (res, S9) → Met l zy_M_expr (Cond.code zy_M_expr zb_M_expr 1 (some .boolean) :: zT) rq_M_expr (zP B S [.ref (B.2.1 9 (0) (0))]) (zQi B res S9) 0 0 B.2.2.2) (hq_M_expr : zRm rm rq_M_expr 1) (S : Sg) {res : Int} {S9 : Sg} (hf : zf_M_factor_B F_M_factor F_M_expr S = some (res, S9)) : Met l zy_M_factor (Cond.code zy_M_factor zb_M_factor 1 (some .boolean) :: zT) rm (zP B S [.ref (B.2.1 9 (0) (0))]) (zQi B res S9) 0 0 B.2.2.2 :=
  zmet (by decide) (Nat.le_of_ble_eq_true rfl) (fun p e s m args below meth c C hr hlk hK hSt hW ls hl => zw_M_factor C hr hlk hK hSt hap F_M_factor F_M_expr  hrm hF_M_factor hq_M_factor hF_M_expr hq_M_expr  S  hf _ _ _ hW va_S.rf hl)
def zf_M_term_9 (F_M_factor : Sg → Option (Int × Sg)) : Nat → Sg → Option (Int × Sg)
  | 0, _ => none
  | n + 1, S =>
    zbd (zf_M_here  S) fun a1 S2 => if a1 = 38 then (zlt (zu S2 9 0 0 12 (zw ((S2 9 0 0 12) + 1))) fun S4 => zbd (F_M_factor  S4) fun a5 S6 => if a5 = 0 then (some (0, S6)) else ((zf_M_term_9 F_M_factor n)  S6)) else (some (1, S2))
set_option maxHeartbeats 4000000 in
set_option maxRecDepth 100000 in
theorem zw_M_term_9 {p : Program} {l : Launch} {e : Env} {s : State} {m : MethodId} {args : Array Value} {below : List Frame} {meth : Method} {c : Code} {B : zB} (C : CallFix p m c zb_M_term 1 s args zT "IslandOfficeModel") (hr : meth.sig.returnType = some .boolean) (hlk : meth.locks = false) (hK : zK B s) (hSt : zSt B s) (hap : zAp B) (F_M_factor : Sg → Option (Int × Sg)) {rm : Room} (hrm : zhr_M_term rm) {rq_M_factor : Room} (hF_M_factor : ∀ (S : Sg) {res : Int} {S9 : Sg}, F_M_factor S = some (res, S9) → Met l zy_M_factor (Cond.code zy_M_factor zb_M_factor 1 (some .boolean) :: zT) rq_M_factor (zP B S [.ref (B.2.1 9 (0) (0))]) (zQi B res S9) 0 0 B.2.2.2) (hq_M_factor : zRm rm rq_M_factor 1) {res : Int} {S9 : Sg} : ∀ n : Nat, ∀  (S : Sg) , zf_M_term_9 F_M_factor n  S = some (res, S9) → ∀ (H : Heap) (locs : List Loc) (ls : Array Slot), zW B S H → va_S B.2.2.2 s.heap H locs → lv_has ls 1 [(0, .ref (B.2.1 9 (0) (0)))] → W p l e rm s m args below meth c H locs 0 0 (MQ below (zQi B res S9) args s 0 0 B.2.2.2) (F0 m 9 ls []) := by
  intro n
  induction n with
  | zero =>
    intro S hf H locs ls hW hS hl
    cases hf
  | succ n ih =>
    intro S hf H locs ls hW hS hl
    rw [zf_M_term_9] at hf
    refine lv_aload_n C.1 C.2.1 zd_M_term_9 rfl (lv_at hl 0 rfl) ?_
    obtain ⟨a1, S2, ea1, hf⟩ := zbd_some hf
    refine zcVi (As := []) (rest := []) C hK hSt hW hS (zc_M_here hap S ea1) zq_M_here zk_1660 (zrecv hK hW (zvd_9 (by decide) (by decide)) (ze_9_0 B _ (0)) rfl) ⟨rfl, rfl, Nat.le_trans (by decide) hrm.1, Nat.le_trans (by decide) hrm.2⟩ ⟨Nat.zero_le _, Nat.zero_le _⟩ rfl hl.1 rfl (lv_room (Nat.le_of_ble_eq_true rfl)) zd_M_term_10 (fun na1 H locs hW hS => ?_)
    refine zr_bipush C zd_M_term_13 (by decide) ?_
    refine zr_icmp_ne (tgt := 37) C na1 (znb rfl) zd_M_term_15 (by decide) (fun c3 => ?_) (fun c3 => ?_)
    · rw [if_neg c3] at hf
      refine zr_iconst C zd_M_term_37 ?_
      cases hf
      exact zre_z C hr hlk hK hW hS (znb rfl) (zb01 (by decide)) zd_M_term_38
    · rw [if_pos c3] at hf
      refine lv_aload_n C.1 C.2.1 zd_M_term_18 rfl (lv_at hl 0 rfl) ?_
      refine lv_dup C.1 C.2.1 zd_M_term_19 rfl ?_
      refine zg_M_at (r := 0) C hK hW (zvd_9 (by decide) (by decide)) zk_1512 zd_M_term_20 ?_
      refine zr_iconst C zd_M_term_23 ?_
      refine zr_iadd C zd_M_term_24 ?_
      obtain ⟨S4, eS4, hf⟩ := zlt_some hf
      refine zp_M_at (r := 0) C hK hap hW hS (zvd_9 (by decide) (by decide)) zk_1512 (zn_w _) zd_M_term_25 (fun H locs hW hS => ?_)
      rw [eS4] at hW
      refine lv_aload_n C.1 C.2.1 zd_M_term_28 rfl (lv_at hl 0 rfl) ?_
      obtain ⟨a5, S6, ea5, hf⟩ := zbd_some hf
      refine zcVi (As := []) (rest := []) C hK hSt hW hS (hF_M_factor S4 ea5) zq_M_factor zk_1676 (zrecv hK hW (zvd_9 (by decide) (by decide)) (ze_9_0 B _ (0)) rfl) hq_M_factor ⟨Nat.zero_le _, Nat.zero_le _⟩ rfl hl.1 rfl (lv_room (Nat.le_of_ble_eq_true rfl)) zd_M_term_29 (fun na5 H locs hW hS => ?_)
      refine zr_if_ne (tgt := 9) C na5 zd_M_term_32 (by decide) (fun c7 => ?_) (fun c7 => ?_)
      · rw [if_neg c7] at hf
        exact ih  S6  hf _ _ _ hW hS (lv_sub hl [0] rfl)
      · rw [if_pos c7] at hf
        refine zr_iconst C zd_M_term_35 ?_
        cases hf
        exact zre_z C hr hlk hK hW hS (znb rfl) (zb01 (by decide)) zd_M_term_36

def zf_M_term_B (F_M_factor : Sg → Option (Int × Sg)) (S : Sg) : Option (Int × Sg) :=
    zbd (F_M_factor  S) fun a1 S2 => if a1 = 0 then (some (0, S2)) else (zf_M_term_9 F_M_factor 4096  S2)
set_option maxHeartbeats 4000000 in
set_option maxRecDepth 100000 in
theorem zw_M_term {p : Program} {l : Launch} {e : Env} {s : State} {m : MethodId} {args : Array Value} {below : List Frame} {meth : Method} {c : Code} {B : zB} (C : CallFix p m c zb_M_term 1 s args zT "IslandOfficeModel") (hr : meth.sig.returnType = some .boolean) (hlk : meth.locks = false) (hK : zK B s) (hSt : zSt B s) (hap : zAp B) (F_M_factor : Sg → Option (Int × Sg)) {rm : Room} (hrm : zhr_M_term rm) {rq_M_factor : Room} (hF_M_factor : ∀ (S : Sg) {res : Int} {S9 : Sg}, F_M_factor S = some (res, S9) → Met l zy_M_factor (Cond.code zy_M_factor zb_M_factor 1 (some .boolean) :: zT) rq_M_factor (zP B S [.ref (B.2.1 9 (0) (0))]) (zQi B res S9) 0 0 B.2.2.2) (hq_M_factor : zRm rm rq_M_factor 1) {res : Int} {S9 : Sg} : ∀  (S : Sg) , zf_M_term_B F_M_factor  S = some (res, S9) → ∀ (H : Heap) (locs : List Loc) (ls : Array Slot), zW B S H → va_S B.2.2.2 s.heap H locs → lv_has ls 1 [(0, .ref (B.2.1 9 (0) (0)))] → W p l e rm s m args below meth c H locs 0 0 (MQ below (zQi B res S9) args s 0 0 B.2.2.2) (F0 m 0 ls []) := by
  intro S hf H locs ls hW hS hl
  unfold zf_M_term_B at hf
  refine lv_aload_n C.1 C.2.1 zd_M_term_0 rfl (lv_at hl 0 rfl) ?_
  obtain ⟨a1, S2, ea1, hf⟩ := zbd_some hf
  refine zcVi (As := []) (rest := []) C hK hSt hW hS (hF_M_factor S ea1) zq_M_factor zk_1676 (zrecv hK hW (zvd_9 (by decide) (by decide)) (ze_9_0 B _ (0)) rfl) hq_M_factor ⟨Nat.zero_le _, Nat.zero_le _⟩ rfl hl.1 rfl (lv_room (Nat.le_of_ble_eq_true rfl)) zd_M_term_1 (fun na1 H locs hW hS => ?_)
  refine zr_if_ne (tgt := 9) C na1 zd_M_term_4 (by decide) (fun c3 => ?_) (fun c3 => ?_)
  · rw [if_neg c3] at hf
    exact zw_M_term_9 C hr hlk hK hSt hap F_M_factor  hrm hF_M_factor hq_M_factor 4096  S2  hf _ _ _ hW hS (lv_sub hl [0] rfl)
  · rw [if_pos c3] at hf
    refine zr_iconst C zd_M_term_7 ?_
    cases hf
    exact zre_z C hr hlk hK hW hS (znb rfl) (zb01 (by decide)) zd_M_term_8

theorem zcb_M_term {l : Launch} {B : zB} (hap : zAp B) (F_M_factor : Sg → Option (Int × Sg)) {rm : Room} (hrm : zhr_M_term rm) {rq_M_factor : Room} (hF_M_factor : ∀ (S : Sg) {res : Int} {S9 : Sg}, F_M_factor S = some (res, S9) → Met l zy_M_factor (Cond.code zy_M_factor zb_M_factor 1 (some .boolean) :: zT) rq_M_factor (zP B S [.ref (B.2.1 9 (0) (0))]) (zQi B res S9) 0 0 B.2.2.2) (hq_M_factor : zRm rm rq_M_factor 1) (S : Sg) {res : Int} {S9 : Sg} (hf : zf_M_term_B F_M_factor S = some (res, S9)) : Met l zy_M_term (Cond.code zy_M_term zb_M_term 1 (some .boolean) :: zT) rm (zP B S [.ref (B.2.1 9 (0) (0))]) (zQi B res S9) 0 0 B.2.2.2 :=
  zmet (by decide) (Nat.le_of_ble_eq_true rfl) (fun p e s m args below meth c C hr hlk hK hSt hW ls hl => zw_M_term C hr hlk hK hSt hap F_M_factor  hrm hF_M_factor hq_M_factor  S  hf _ _ _ hW va_S.rf hl)
def zf_M_expr_9 (F_M_term : Sg → Option (Int × Sg)) : Nat → Sg → Option (Int × Sg)
  | 0, _ => none
  | n + 1, S =>
    zbd (zf_M_here  S) fun a1 S2 => if a1 = 124 then (zlt (zu S2 9 0 0 12 (zw ((S2 9 0 0 12) + 1))) fun S4 => zbd (F_M_term  S4) fun a5 S6 => if a5 = 0 then (some (0, S6)) else ((zf_M_expr_9 F_M_term n)  S6)) else (some (1, S2))
set_option maxHeartbeats 4000000 in
set_option maxRecDepth 100000 in
theorem zw_M_expr_9 {p : Program} {l : Launch} {e : Env} {s : State} {m : MethodId} {args : Array Value} {below : List Frame} {meth : Method} {c : Code} {B : zB} (C : CallFix p m c zb_M_expr 1 s args zT "IslandOfficeModel") (hr : meth.sig.returnType = some .boolean) (hlk : meth.locks = false) (hK : zK B s) (hSt : zSt B s) (hap : zAp B) (F_M_term : Sg → Option (Int × Sg)) {rm : Room} (hrm : zhr_M_expr rm) {rq_M_term : Room} (hF_M_term : ∀ (S : Sg) {res : Int} {S9 : Sg}, F_M_term S = some (res, S9) → Met l zy_M_term (Cond.code zy_M_term zb_M_term 1 (some .boolean) :: zT) rq_M_term (zP B S [.ref (B.2.1 9 (0) (0))]) (zQi B res S9) 0 0 B.2.2.2) (hq_M_term : zRm rm rq_M_term 1) {res : Int} {S9 : Sg} : ∀ n : Nat, ∀  (S : Sg) , zf_M_expr_9 F_M_term n  S = some (res, S9) → ∀ (H : Heap) (locs : List Loc) (ls : Array Slot), zW B S H → va_S B.2.2.2 s.heap H locs → lv_has ls 1 [(0, .ref (B.2.1 9 (0) (0)))] → W p l e rm s m args below meth c H locs 0 0 (MQ below (zQi B res S9) args s 0 0 B.2.2.2) (F0 m 9 ls []) := by
  intro n
  induction n with
  | zero =>
    intro S hf H locs ls hW hS hl
    cases hf
  | succ n ih =>
    intro S hf H locs ls hW hS hl
    rw [zf_M_expr_9] at hf
    refine lv_aload_n C.1 C.2.1 zd_M_expr_9 rfl (lv_at hl 0 rfl) ?_
    obtain ⟨a1, S2, ea1, hf⟩ := zbd_some hf
    refine zcVi (As := []) (rest := []) C hK hSt hW hS (zc_M_here hap S ea1) zq_M_here zk_1660 (zrecv hK hW (zvd_9 (by decide) (by decide)) (ze_9_0 B _ (0)) rfl) ⟨rfl, rfl, Nat.le_trans (by decide) hrm.1, Nat.le_trans (by decide) hrm.2⟩ ⟨Nat.zero_le _, Nat.zero_le _⟩ rfl hl.1 rfl (lv_room (Nat.le_of_ble_eq_true rfl)) zd_M_expr_10 (fun na1 H locs hW hS => ?_)
    refine zr_bipush C zd_M_expr_13 (by decide) ?_
    refine zr_icmp_ne (tgt := 37) C na1 (znb rfl) zd_M_expr_15 (by decide) (fun c3 => ?_) (fun c3 => ?_)
    · rw [if_neg c3] at hf
      refine zr_iconst C zd_M_expr_37 ?_
      cases hf
      exact zre_z C hr hlk hK hW hS (znb rfl) (zb01 (by decide)) zd_M_expr_38
    · rw [if_pos c3] at hf
      refine lv_aload_n C.1 C.2.1 zd_M_expr_18 rfl (lv_at hl 0 rfl) ?_
      refine lv_dup C.1 C.2.1 zd_M_expr_19 rfl ?_
      refine zg_M_at (r := 0) C hK hW (zvd_9 (by decide) (by decide)) zk_1512 zd_M_expr_20 ?_
      refine zr_iconst C zd_M_expr_23 ?_
      refine zr_iadd C zd_M_expr_24 ?_
      obtain ⟨S4, eS4, hf⟩ := zlt_some hf
      refine zp_M_at (r := 0) C hK hap hW hS (zvd_9 (by decide) (by decide)) zk_1512 (zn_w _) zd_M_expr_25 (fun H locs hW hS => ?_)
      rw [eS4] at hW
      refine lv_aload_n C.1 C.2.1 zd_M_expr_28 rfl (lv_at hl 0 rfl) ?_
      obtain ⟨a5, S6, ea5, hf⟩ := zbd_some hf
      refine zcVi (As := []) (rest := []) C hK hSt hW hS (hF_M_term S4 ea5) zq_M_term zk_1672 (zrecv hK hW (zvd_9 (by decide) (by decide)) (ze_9_0 B _ (0)) rfl) hq_M_term ⟨Nat.zero_le _, Nat.zero_le _⟩ rfl hl.1 rfl (lv_room (Nat.le_of_ble_eq_true rfl)) zd_M_expr_29 (fun na5 H locs hW hS => ?_)
      refine zr_if_ne (tgt := 9) C na5 zd_M_expr_32 (by decide) (fun c7 => ?_) (fun c7 => ?_)
      · rw [if_neg c7] at hf
        exact ih  S6  hf _ _ _ hW hS (lv_sub hl [0] rfl)
      · rw [if_pos c7] at hf
        refine zr_iconst C zd_M_expr_35 ?_
        cases hf
        exact zre_z C hr hlk hK hW hS (znb rfl) (zb01 (by decide)) zd_M_expr_36

def zf_M_expr_B (F_M_term : Sg → Option (Int × Sg)) (S : Sg) : Option (Int × Sg) :=
    zbd (F_M_term  S) fun a1 S2 => if a1 = 0 then (some (0, S2)) else (zf_M_expr_9 F_M_term 4096  S2)
set_option maxHeartbeats 4000000 in
set_option maxRecDepth 100000 in
theorem zw_M_expr {p : Program} {l : Launch} {e : Env} {s : State} {m : MethodId} {args : Array Value} {below : List Frame} {meth : Method} {c : Code} {B : zB} (C : CallFix p m c zb_M_expr 1 s args zT "IslandOfficeModel") (hr : meth.sig.returnType = some .boolean) (hlk : meth.locks = false) (hK : zK B s) (hSt : zSt B s) (hap : zAp B) (F_M_term : Sg → Option (Int × Sg)) {rm : Room} (hrm : zhr_M_expr rm) {rq_M_term : Room} (hF_M_term : ∀ (S : Sg) {res : Int} {S9 : Sg}, F_M_term S = some (res, S9) → Met l zy_M_term (Cond.code zy_M_term zb_M_term 1 (some .boolean) :: zT) rq_M_term (zP B S [.ref (B.2.1 9 (0) (0))]) (zQi B res S9) 0 0 B.2.2.2) (hq_M_term : zRm rm rq_M_term 1) {res : Int} {S9 : Sg} : ∀  (S : Sg) , zf_M_expr_B F_M_term  S = some (res, S9) → ∀ (H : Heap) (locs : List Loc) (ls : Array Slot), zW B S H → va_S B.2.2.2 s.heap H locs → lv_has ls 1 [(0, .ref (B.2.1 9 (0) (0)))] → W p l e rm s m args below meth c H locs 0 0 (MQ below (zQi B res S9) args s 0 0 B.2.2.2) (F0 m 0 ls []) := by
  intro S hf H locs ls hW hS hl
  unfold zf_M_expr_B at hf
  refine lv_aload_n C.1 C.2.1 zd_M_expr_0 rfl (lv_at hl 0 rfl) ?_
  obtain ⟨a1, S2, ea1, hf⟩ := zbd_some hf
  refine zcVi (As := []) (rest := []) C hK hSt hW hS (hF_M_term S ea1) zq_M_term zk_1672 (zrecv hK hW (zvd_9 (by decide) (by decide)) (ze_9_0 B _ (0)) rfl) hq_M_term ⟨Nat.zero_le _, Nat.zero_le _⟩ rfl hl.1 rfl (lv_room (Nat.le_of_ble_eq_true rfl)) zd_M_expr_1 (fun na1 H locs hW hS => ?_)
  refine zr_if_ne (tgt := 9) C na1 zd_M_expr_4 (by decide) (fun c3 => ?_) (fun c3 => ?_)
  · rw [if_neg c3] at hf
    exact zw_M_expr_9 C hr hlk hK hSt hap F_M_term  hrm hF_M_term hq_M_term 4096  S2  hf _ _ _ hW hS (lv_sub hl [0] rfl)
  · rw [if_pos c3] at hf
    refine zr_iconst C zd_M_expr_7 ?_
    cases hf
    exact zre_z C hr hlk hK hW hS (znb rfl) (zb01 (by decide)) zd_M_expr_8

theorem zcb_M_expr {l : Launch} {B : zB} (hap : zAp B) (F_M_term : Sg → Option (Int × Sg)) {rm : Room} (hrm : zhr_M_expr rm) {rq_M_term : Room} (hF_M_term : ∀ (S : Sg) {res : Int} {S9 : Sg}, F_M_term S = some (res, S9) → Met l zy_M_term (Cond.code zy_M_term zb_M_term 1 (some .boolean) :: zT) rq_M_term (zP B S [.ref (B.2.1 9 (0) (0))]) (zQi B res S9) 0 0 B.2.2.2) (hq_M_term : zRm rm rq_M_term 1) (S : Sg) {res : Int} {S9 : Sg} (hf : zf_M_expr_B F_M_term S = some (res, S9)) : Met l zy_M_expr (Cond.code zy_M_expr zb_M_expr 1 (some .boolean) :: zT) rm (zP B S [.ref (B.2.1 9 (0) (0))]) (zQi B res S9) 0 0 B.2.2.2 :=
  zmet (by decide) (Nat.le_of_ble_eq_true rfl) (fun p e s m args below meth c C hr hlk hK hSt hW ls hl => zw_M_expr C hr hlk hK hSt hap F_M_term  hrm hF_M_term hq_M_term  S  hf _ _ _ hW va_S.rf hl)
def zf_M_factor_D : Nat → Sg → Option (Int × Sg)
  | 0, _ => none
  | n + 1, S => zf_M_factor_B (zf_M_factor_D n) (zf_M_expr_B (zf_M_term_B (zf_M_factor_D n))) S
def zf_M_factor (S : Sg) : Option (Int × Sg) := zf_M_factor_D 128 S
def zf_M_term (S : Sg) : Option (Int × Sg) := zf_M_term_B (zf_M_factor_D 128) S
def zf_M_expr (S : Sg) : Option (Int × Sg) := zf_M_expr_B (zf_M_term_B (zf_M_factor_D 128)) S
theorem zct_M_term {l : Launch} {B : zB} (hap : zAp B) (d : Nat) (hF : ∀ (S : Sg) {res : Int} {S9 : Sg}, zf_M_factor_D d S = some (res, S9) → Met l zy_M_factor (Cond.code zy_M_factor zb_M_factor 1 (some .boolean) :: zT) ({ frames := 4 + 3 * d + 0, cells := 0, slots := 0, locals := 82 + 60 * d + 0 }) (zP B S [.ref (B.2.1 9 (0) (0))]) (zQi B res S9) 0 0 B.2.2.2) (S : Sg) {res : Int} {S9 : Sg} (hf : zf_M_term_B (zf_M_factor_D d) S = some (res, S9)) : Met l zy_M_term (Cond.code zy_M_term zb_M_term 1 (some .boolean) :: zT) ({ frames := 4 + 3 * d + 1, cells := 0, slots := 0, locals := 82 + 60 * d + 20 }) (zP B S [.ref (B.2.1 9 (0) (0))]) (zQi B res S9) 0 0 B.2.2.2 :=
  zcb_M_term hap (zf_M_factor_D d) ⟨by dsimp only; omega, by dsimp only; omega⟩ hF ⟨rfl, rfl, by dsimp only; omega, by dsimp only; omega⟩ S hf
theorem zct_M_expr {l : Launch} {B : zB} (hap : zAp B) (d : Nat) (hF : ∀ (S : Sg) {res : Int} {S9 : Sg}, zf_M_factor_D d S = some (res, S9) → Met l zy_M_factor (Cond.code zy_M_factor zb_M_factor 1 (some .boolean) :: zT) ({ frames := 4 + 3 * d + 0, cells := 0, slots := 0, locals := 82 + 60 * d + 0 }) (zP B S [.ref (B.2.1 9 (0) (0))]) (zQi B res S9) 0 0 B.2.2.2) (S : Sg) {res : Int} {S9 : Sg} (hf : zf_M_expr_B (zf_M_term_B (zf_M_factor_D d)) S = some (res, S9)) : Met l zy_M_expr (Cond.code zy_M_expr zb_M_expr 1 (some .boolean) :: zT) ({ frames := 4 + 3 * d + 2, cells := 0, slots := 0, locals := 82 + 60 * d + 40 }) (zP B S [.ref (B.2.1 9 (0) (0))]) (zQi B res S9) 0 0 B.2.2.2 :=
  zcb_M_expr hap (zf_M_term_B (zf_M_factor_D d)) ⟨by dsimp only; omega, by dsimp only; omega⟩ (fun S _ _ h => zct_M_term hap d hF S h) ⟨rfl, rfl, by dsimp only; omega, by dsimp only; omega⟩ S hf
theorem zct_M_factor {l : Launch} {B : zB} (hap : zAp B) : ∀ (d : Nat) (S : Sg) {res : Int} {S9 : Sg}, zf_M_factor_D d S = some (res, S9) → Met l zy_M_factor (Cond.code zy_M_factor zb_M_factor 1 (some .boolean) :: zT) ({ frames := 4 + 3 * d + 0, cells := 0, slots := 0, locals := 82 + 60 * d + 0 }) (zP B S [.ref (B.2.1 9 (0) (0))]) (zQi B res S9) 0 0 B.2.2.2 := by
  intro d
  induction d with
  | zero =>
    intro S res S9 hf
    cases hf
  | succ d ih =>
    intro S res S9 hf
    rw [zf_M_factor_D] at hf
    exact zcb_M_factor hap (zf_M_factor_D d) (zf_M_expr_B (zf_M_term_B (zf_M_factor_D d))) ⟨by dsimp only; omega, by dsimp only; omega⟩ (fun S _ _ h => ih S h) ⟨rfl, rfl, by dsimp only; omega, by dsimp only; omega⟩ (fun S _ _ h => zct_M_expr hap d (fun S _ _ h => ih S h) S h) ⟨rfl, rfl, by dsimp only; omega, by dsimp only; omega⟩ S hf
theorem zc_M_factor {l : Launch} {B : zB} (hap : zAp B) (S : Sg) {res : Int} {S9 : Sg} (hf : zf_M_factor S = some (res, S9)) : Met l zy_M_factor (Cond.code zy_M_factor zb_M_factor 1 (some .boolean) :: zT) zm_M_factor (zP B S [.ref (B.2.1 9 (0) (0))]) (zQi B res S9) 0 0 B.2.2.2 :=
  zct_M_factor hap 128 S hf
theorem zc_M_term {l : Launch} {B : zB} (hap : zAp B) (S : Sg) {res : Int} {S9 : Sg} (hf : zf_M_term S = some (res, S9)) : Met l zy_M_term (Cond.code zy_M_term zb_M_term 1 (some .boolean) :: zT) zm_M_term (zP B S [.ref (B.2.1 9 (0) (0))]) (zQi B res S9) 0 0 B.2.2.2 :=
  zct_M_term hap 128 (fun S _ _ h => zct_M_factor hap 128 S h) S hf
theorem zc_M_expr {l : Launch} {B : zB} (hap : zAp B) (S : Sg) {res : Int} {S9 : Sg} (hf : zf_M_expr S = some (res, S9)) : Met l zy_M_expr (Cond.code zy_M_expr zb_M_expr 1 (some .boolean) :: zT) zm_M_expr (zP B S [.ref (B.2.1 9 (0) (0))]) (zQi B res S9) 0 0 B.2.2.2 :=
  zct_M_expr hap 128 (fun S _ _ h => zct_M_factor hap 128 S h) S hf
