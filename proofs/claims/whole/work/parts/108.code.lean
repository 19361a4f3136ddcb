/-! IslandOfficeModel.tell(II)V -/
abbrev zy_M_tell : MethodName := ⟨"IslandOfficeModel", "tell", "(II)V"⟩
abbrev zb_M_tell : ByteArray := prog_14_method_60_code
abbrev zm_M_tell : Room := { frames := 0, cells := 0, slots := 0, locals := 0 }
theorem zq_M_tell : zMy zy_M_tell zb_M_tell 3 (none) 2 := ⟨zk_2015, zk_2014, zs_95, zk_14, by decide, by decide, by decide +kernel⟩
theorem zd_M_tell_0 : decode zb_M_tell 0 = .ok (.iload_n 2, 1) := by decide +kernel
theorem zd_M_tell_1 : decode zb_M_tell 1 = .ok (.ifCond .le 48, 3) := by decide +kernel
theorem zd_M_tell_4 : decode zb_M_tell 4 = .ok (.aload_n 0, 1) := by decide +kernel
theorem zd_M_tell_5 : decode zb_M_tell 5 = .ok (.getfield 16, 3) := by decide +kernel
theorem zd_M_tell_8 : decode zb_M_tell 8 = .ok (.getfield 269, 3) := by decide +kernel
theorem zd_M_tell_11 : decode zb_M_tell 11 = .ok (.aload_n 0, 1) := by decide +kernel
theorem zd_M_tell_12 : decode zb_M_tell 12 = .ok (.getfield 16, 3) := by decide +kernel
theorem zd_M_tell_15 : decode zb_M_tell 15 = .ok (.getfield 266, 3) := by decide +kernel
theorem zd_M_tell_18 : decode zb_M_tell 18 = .ok (.iload_n 1, 1) := by decide +kernel
theorem zd_M_tell_19 : decode zb_M_tell 19 = .ok (.iastore, 1) := by decide +kernel
theorem zd_M_tell_20 : decode zb_M_tell 20 = .ok (.aload_n 0, 1) := by decide +kernel
theorem zd_M_tell_21 : decode zb_M_tell 21 = .ok (.getfield 16, 3) := by decide +kernel
theorem zd_M_tell_24 : decode zb_M_tell 24 = .ok (.getfield 272, 3) := by decide +kernel
theorem zd_M_tell_27 : decode zb_M_tell 27 = .ok (.aload_n 0, 1) := by decide +kernel
theorem zd_M_tell_28 : decode zb_M_tell 28 = .ok (.getfield 16, 3) := by decide +kernel
theorem zd_M_tell_31 : decode zb_M_tell 31 = .ok (.getfield 266, 3) := by decide +kernel
theorem zd_M_tell_34 : decode zb_M_tell 34 = .ok (.iload_n 2, 1) := by decide +kernel
theorem zd_M_tell_35 : decode zb_M_tell 35 = .ok (.iastore, 1) := by decide +kernel
theorem zd_M_tell_36 : decode zb_M_tell 36 = .ok (.aload_n 0, 1) := by decide +kernel
theorem zd_M_tell_37 : decode zb_M_tell 37 = .ok (.getfield 16, 3) := by decide +kernel
theorem zd_M_tell_40 : decode zb_M_tell 40 = .ok (.dup, 1) := by decide +kernel
theorem zd_M_tell_41 : decode zb_M_tell 41 = .ok (.getfield 266, 3) := by decide +kernel
theorem zd_M_tell_44 : decode zb_M_tell 44 = .ok (.iconst 1, 1) := by decide +kernel
theorem zd_M_tell_45 : decode zb_M_tell 45 = .ok (.iadd, 1) := by decide +kernel
theorem zd_M_tell_46 : decode zb_M_tell 46 = .ok (.putfield 266, 3) := by decide +kernel
theorem zd_M_tell_49 : decode zb_M_tell 49 = .ok (.return_, 1) := by decide +kernel

def zf_M_tell (x1 : Int) (x2 : Int) (S : Sg) : Option (Int × Sg) :=
    if x2 ≤ 0 then (some (0, S)) else (zck (0 ≤ (S 5 1 0 33) ∧ (S 5 1 0 33) < 30) <| zlt (zu S 5 1 28 (S 5 1 0 33) x1) fun S3 => zck (0 ≤ (S3 5 1 0 33) ∧ (S3 5 1 0 33) < 30) <| zlt (zu S3 5 1 29 (S3 5 1 0 33) x2) fun S5 => zlt (zu S5 5 1 0 33 (zw ((S5 5 1 0 33) + 1))) fun S6 => some (0, S6))
set_option maxHeartbeats 4000000 in
set_option maxRecDepth 100000 in
theorem zw_M_tell {p : Program} {l : Launch} {e : Env} {s : State} {m : MethodId} {args : Array Value} {below : List Frame} {meth : Method} {c : Code} {B : zB} (C : CallFix p m c zb_M_tell 3 s args zT "IslandOfficeModel") (hr : meth.sig.returnType = none) (hlk : meth.locks = false) (hK : zK B s) (hSt : zSt B s) (hap : zAp B) {res : Int} {S9 : Sg} : ∀ (x1 : Int) (x2 : Int) (S : Sg) (nx1 : zn x1) (nx2 : zn x2), zf_M_tell x1 x2 S = some (res, S9) → ∀ (H : Heap) (locs : List Loc) (ls : Array Slot), zW B S H → va_S B.2.2.2 s.heap H locs → lv_has ls 3 [(0, .ref (B.2.1 9 (0) (0))), (1, .int (zI (x1))), (2, .int (zI (x2)))] → W p l e zm_M_tell s m args below meth c H locs 0 0 (MQ below (zQv B S9) args s 0 0 B.2.2.2) (F0 m 0 ls []) := by
  intro x1 x2 S nx1 nx2 hf H locs ls hW hS hl
  unfold zf_M_tell at hf
  refine lv_iload_n C.1 C.2.1 zd_M_tell_0 rfl (lv_at hl 2 rfl) ?_
  refine zr_if_le (tgt := 49) C nx2 zd_M_tell_1 (by decide) (fun c1 => ?_) (fun c1 => ?_)
  · rw [if_pos c1] at hf
    cases hf
    exact zre_v C hr hlk hK hW hS zd_M_tell_49
  · rw [if_neg c1] at hf
    refine lv_aload_n C.1 C.2.1 zd_M_tell_4 rfl (lv_at hl 0 rfl) ?_
    refine zg_M_mind (r := 0) C hK hW (zvd_9 (by decide) (by decide)) zk_1501 zd_M_tell_5 ?_
    refine zg_W_orderGood (r := 1) C hK hW (zvd_5 (by decide) (by decide)) zk_1344 zd_M_tell_8 ?_
    refine lv_aload_n C.1 C.2.1 zd_M_tell_11 rfl (lv_at hl 0 rfl) ?_
    refine zg_M_mind (r := 0) C hK hW (zvd_9 (by decide) (by decide)) zk_1501 zd_M_tell_12 ?_
    refine zg_W_orders (r := 1) C hK hW (zvd_5 (by decide) (by decide)) zk_1342 zd_M_tell_15 ?_
    refine lv_iload_n C.1 C.2.1 zd_M_tell_18 rfl (lv_at hl 1 rfl) ?_
    obtain ⟨h2, hf⟩ := zck_some hf
    obtain ⟨S3, eS3, hf⟩ := zlt_some hf
    refine ziast C hK hap hW hS (zvd_5 (by decide) (by decide)) (fun f => ze_5_28 B f (1)) (by decide) rfl nx1 h2 zd_M_tell_19 (fun H locs hW hS => ?_)
    rw [eS3] at hW
    refine lv_aload_n C.1 C.2.1 zd_M_tell_20 rfl (lv_at hl 0 rfl) ?_
    refine zg_M_mind (r := 0) C hK hW (zvd_9 (by decide) (by decide)) zk_1501 zd_M_tell_21 ?_
    refine zg_W_orderDue (r := 1) C hK hW (zvd_5 (by decide) (by decide)) zk_1346 zd_M_tell_24 ?_
    refine lv_aload_n C.1 C.2.1 zd_M_tell_27 rfl (lv_at hl 0 rfl) ?_
    refine zg_M_mind (r := 0) C hK hW (zvd_9 (by decide) (by decide)) zk_1501 zd_M_tell_28 ?_
    refine zg_W_orders (r := 1) C hK hW (zvd_5 (by decide) (by decide)) zk_1342 zd_M_tell_31 ?_
    refine lv_iload_n C.1 C.2.1 zd_M_tell_34 rfl (lv_at hl 2 rfl) ?_
    obtain ⟨h4, hf⟩ := zck_some hf
    obtain ⟨S5, eS5, hf⟩ := zlt_some hf
    refine ziast C hK hap hW hS (zvd_5 (by decide) (by decide)) (fun f => ze_5_29 B f (1)) (by decide) rfl nx2 h4 zd_M_tell_35 (fun H locs hW hS => ?_)
    rw [eS5] at hW
    refine lv_aload_n C.1 C.2.1 zd_M_tell_36 rfl (lv_at hl 0 rfl) ?_
    refine zg_M_mind (r := 0) C hK hW (zvd_9 (by decide) (by decide)) zk_1501 zd_M_tell_37 ?_
    refine lv_dup C.1 C.2.1 zd_M_tell_40 rfl ?_
    refine zg_W_orders (r := 1) C hK hW (zvd_5 (by decide) (by decide)) zk_1342 zd_M_tell_41 ?_
    refine zr_iconst C zd_M_tell_44 ?_
    refine zr_iadd C zd_M_tell_45 ?_
    obtain ⟨S6, eS6, hf⟩ := zlt_some hf
    refine zp_W_orders (r := 1) C hK hap hW hS (zvd_5 (by decide) (by decide)) zk_1342 (zn_w _) zd_M_tell_46 (fun H locs hW hS => ?_)
    rw [eS6] at hW
    cases hf
    exact zre_v C hr hlk hK hW hS zd_M_tell_49

theorem zc_M_tell {l : Launch} {B : zB} (hap : zAp B) (x1 : Int) (x2 : Int) (S : Sg) (nx1 : zn x1) (nx2 : zn x2) {res : Int} {S9 : Sg} (hf : zf_M_tell x1 x2 S = some (res, S9)) : Met l zy_M_tell (Cond.code zy_M_tell zb_M_tell 3 (none) :: zT) zm_M_tell (zP B S [.ref (B.2.1 9 (0) (0)), .int (zI (x1)), .int (zI (x2))]) (zQv B S9) 0 0 B.2.2.2 :=
  zmet (by decide) (Nat.le_of_ble_eq_true rfl) (fun p e s m args below meth c C hr hlk hK hSt hW ls hl => zw_M_tell C hr hlk hK hSt hap   x1 x2 S nx1 nx2 hf _ _ _ hW va_S.rf hl)
/-! IslandOfficeModel.image()I -/
abbrev zy_M_image : MethodName := ⟨"IslandOfficeModel", "image", "()I"⟩
abbrev zb_M_image : ByteArray := prog_14_method_63_code
abbrev zm_M_image : Room := { frames := 3, cells := 0, slots := 0, locals := 107 }
theorem zq_M_image : zMy zy_M_image zb_M_image 1 (some .int) 0 := ⟨zk_2019, zk_2017, zk_2018, zk_14, by decide, by decide, by decide +kernel⟩
theorem zd_M_image_0 : decode zb_M_image 0 = .ok (.aload_n 0, 1) := by decide +kernel
theorem zd_M_image_1 : decode zb_M_image 1 = .ok (.iconst 0, 1) := by decide +kernel
theorem zd_M_image_2 : decode zb_M_image 2 = .ok (.putfield 46, 3) := by decide +kernel
theorem zd_M_image_5 : decode zb_M_image 5 = .ok (.aload_n 0, 1) := by decide +kernel
theorem zd_M_image_6 : decode zb_M_image 6 = .ok (.getfield 19, 3) := by decide +kernel
theorem zd_M_image_9 : decode zb_M_image 9 = .ok (.aload_n 0, 1) := by decide +kernel
theorem zd_M_image_10 : decode zb_M_image 10 = .ok (.getfield 10, 3) := by decide +kernel
theorem zd_M_image_13 : decode zb_M_image 13 = .ok (.invokevirtual 309, 3) := by decide +kernel
theorem zd_M_image_16 : decode zb_M_image 16 = .ok (.aload_n 0, 1) := by decide +kernel
theorem zd_M_image_17 : decode zb_M_image 17 = .ok (.iconst 1, 1) := by decide +kernel
theorem zd_M_image_18 : decode zb_M_image 18 = .ok (.putfield 326, 3) := by decide +kernel
theorem zd_M_image_21 : decode zb_M_image 21 = .ok (.aload_n 0, 1) := by decide +kernel
theorem zd_M_image_22 : decode zb_M_image 22 = .ok (.getfield 10, 3) := by decide +kernel
theorem zd_M_image_25 : decode zb_M_image 25 = .ok (.getfield 87, 3) := by decide +kernel
theorem zd_M_image_28 : decode zb_M_image 28 = .ok (.ireturn, 1) := by decide +kernel

def zf_M_image (S : Sg) : Option (Int × Sg) :=
    zlt (zu S 9 0 0 4 0) fun S1 => zbd (zf_W_like (2) (0) S1) fun a2 S3 => zlt (zu S3 9 0 0 3 1) fun S4 => some (S4 5 0 0 0, S4)
set_option maxHeartbeats 4000000 in
set_option maxRecDepth 100000 in
theorem zw_M_image {p : Program} {l : Launch} {e : Env} {s : State} {m : MethodId} {args : Array Value} {below : List Frame} {meth : Method} {c : Code} {B : zB} (C : CallFix p m c zb_M_image 1 s args zT "IslandOfficeModel") (hr : meth.sig.returnType = some .int) (hlk : meth.locks = false) (hK : zK B s) (hSt : zSt B s) (hap : zAp B) {res : Int} {S9 : Sg} : ∀  (S : Sg) , zf_M_image  S = some (res, S9) → ∀ (H : Heap) (locs : List Loc) (ls : Array Slot), zW B S H → va_S B.2.2.2 s.heap H locs → lv_has ls 1 [(0, .ref (B.2.1 9 (0) (0)))] → W p l e zm_M_image s m args below meth c H locs 0 0 (MQ below (zQi B res S9) args s 0 0 B.2.2.2) (F0 m 0 ls []) := by
  intro S hf H locs ls hW hS hl
  unfold zf_M_image at hf
  refine lv_aload_n C.1 C.2.1 zd_M_image_0 rfl (lv_at hl 0 rfl) ?_
  refine zr_iconst C zd_M_image_1 ?_
  obtain ⟨S1, eS1, hf⟩ := zlt_some hf
  refine zp_M_thrown (r := 0) C hK hap hW hS (zvd_9 (by decide) (by decide)) zk_1504 (znb rfl) zd_M_image_2 (fun H locs hW hS => ?_)
  rw [eS1] at hW
  refine lv_aload_n C.1 C.2.1 zd_M_image_5 rfl (lv_at hl 0 rfl) ?_
  refine zg_M_image (r := 0) C hK hW (zvd_9 (by decide) (by decide)) zk_1502 zd_M_image_6 ?_
  refine lv_aload_n C.1 C.2.1 zd_M_image_9 rfl (lv_at hl 0 rfl) ?_
  refine zg_M_world (r := 0) C hK hW (zvd_9 (by decide) (by decide)) zk_1500 zd_M_image_10 ?_
  obtain ⟨a2, S3, ea2, hf⟩ := zbd_some hf
  refine zcVv (As := [.ref (B.2.1 5 (0) (0))]) (rest := []) C hK hSt hW hS (zc_W_like hap (2) (0) (by decide) (by decide) S1 ea2) zq_W_like zk_1989 (zrecv hK hW (zvd_5 (by decide) (by decide)) (ze_5_0 B _ (2)) rfl) ⟨rfl, rfl, by decide, by decide⟩ ⟨by decide, by decide⟩ rfl hl.1 rfl (lv_room (Nat.le_of_ble_eq_true rfl)) zd_M_image_13 (fun H locs hW hS => ?_)
  refine lv_aload_n C.1 C.2.1 zd_M_image_16 rfl (lv_at hl 0 rfl) ?_
  refine zr_iconst C zd_M_image_17 ?_
  obtain ⟨S4, eS4, hf⟩ := zlt_some hf
  refine zp_M_imaged (r := 0) C hK hap hW hS (zvd_9 (by decide) (by decide)) zk_1503 (znb rfl) rfl rfl zd_M_image_18 (fun H locs hW hS => ?_)
  rw [eS4] at hW
  refine lv_aload_n C.1 C.2.1 zd_M_image_21 rfl (lv_at hl 0 rfl) ?_
  refine zg_M_world (r := 0) C hK hW (zvd_9 (by decide) (by decide)) zk_1500 zd_M_image_22 ?_
  refine zg_W_week (r := 0) C hK hW (zvd_5 (by decide) (by decide)) zk_1276 zd_M_image_25 ?_
  cases hf
  exact zre_i C hr hlk hK hW hS (zWn hW _ _ _ _ rfl) zd_M_image_28

theorem zc_M_image {l : Launch} {B : zB} (hap : zAp B) (S : Sg) {res : Int} {S9 : Sg} (hf : zf_M_image  S = some (res, S9)) : Met l zy_M_image (Cond.code zy_M_image zb_M_image 1 (some .int) :: zT) zm_M_image (zP B S [.ref (B.2.1 9 (0) (0))]) (zQi B res S9) 0 0 B.2.2.2 :=
  zmet (by decide) (Nat.le_of_ble_eq_true rfl) (fun p e s m args below meth c C hr hlk hK hSt hW ls hl => zw_M_image C hr hlk hK hSt hap    S  hf _ _ _ hW va_S.rf hl)
/-! IslandOfficeModel.restore()I -/
abbrev zy_M_restore : MethodName := ⟨"IslandOfficeModel", "restore", "()I"⟩
abbrev zb_M_restore : ByteArray := prog_14_method_64_code
abbrev zm_M_restore : Room := { frames := 3, cells := 0, slots := 0, locals := 107 }
theorem zq_M_restore : zMy zy_M_restore zb_M_restore 1 (some .int) 0 := ⟨zk_2023, zk_2021, zk_2022, zk_14, by decide, by decide, by decide +kernel⟩
theorem zd_M_restore_0 : decode zb_M_restore 0 = .ok (.aload_n 0, 1) := by decide +kernel
theorem zd_M_restore_1 : decode zb_M_restore 1 = .ok (.iconst 0, 1) := by decide +kernel
theorem zd_M_restore_2 : decode zb_M_restore 2 = .ok (.putfield 46, 3) := by decide +kernel
theorem zd_M_restore_5 : decode zb_M_restore 5 = .ok (.aload_n 0, 1) := by decide +kernel
theorem zd_M_restore_6 : decode zb_M_restore 6 = .ok (.getfield 326, 3) := by decide +kernel
theorem zd_M_restore_9 : decode zb_M_restore 9 = .ok (.ifCond .ne 6, 3) := by decide +kernel
theorem zd_M_restore_12 : decode zb_M_restore 12 = .ok (.bipush (-3), 2) := by decide +kernel
theorem zd_M_restore_14 : decode zb_M_restore 14 = .ok (.ireturn, 1) := by decide +kernel
theorem zd_M_restore_15 : decode zb_M_restore 15 = .ok (.aload_n 0, 1) := by decide +kernel
theorem zd_M_restore_16 : decode zb_M_restore 16 = .ok (.getfield 10, 3) := by decide +kernel
theorem zd_M_restore_19 : decode zb_M_restore 19 = .ok (.aload_n 0, 1) := by decide +kernel
theorem zd_M_restore_20 : decode zb_M_restore 20 = .ok (.getfield 19, 3) := by decide +kernel
theorem zd_M_restore_23 : decode zb_M_restore 23 = .ok (.invokevirtual 309, 3) := by decide +kernel
theorem zd_M_restore_26 : decode zb_M_restore 26 = .ok (.aload_n 0, 1) := by decide +kernel
theorem zd_M_restore_27 : decode zb_M_restore 27 = .ok (.getfield 10, 3) := by decide +kernel
theorem zd_M_restore_30 : decode zb_M_restore 30 = .ok (.getfield 87, 3) := by decide +kernel
theorem zd_M_restore_33 : decode zb_M_restore 33 = .ok (.ireturn, 1) := by decide +kernel

def zf_M_restore (S : Sg) : Option (Int × Sg) :=
    zlt (zu S 9 0 0 4 0) fun S1 => if (S1 9 0 0 3) = 0 then (some (-3, S1)) else (zbd (zf_W_like (0) (2) S1) fun a3 S4 => some (S4 5 0 0 0, S4))
set_option maxHeartbeats 4000000 in
set_option maxRecDepth 100000 in
theorem zw_M_restore {p : Program} {l : Launch} {e : Env} {s : State} {m : MethodId} {args : Array Value} {below : List Frame} {meth : Method} {c : Code} {B : zB} (C : CallFix p m c zb_M_restore 1 s args zT "IslandOfficeModel") (hr : meth.sig.returnType = some .int) (hlk : meth.locks = false) (hK : zK B s) (hSt : zSt B s) (hap : zAp B) {res : Int} {S9 : Sg} : ∀  (S : Sg) , zf_M_restore  S = some (res, S9) → ∀ (H : Heap) (locs : List Loc) (ls : Array Slot), zW B S H → va_S B.2.2.2 s.heap H locs → lv_has ls 1 [(0, .ref (B.2.1 9 (0) (0)))] → W p l e zm_M_restore s m args below meth c H locs 0 0 (MQ below (zQi B res S9) args s 0 0 B.2.2.2) (F0 m 0 ls []) := by
  intro S hf H locs ls hW hS hl
  unfold zf_M_restore at hf
  refine lv_aload_n C.1 C.2.1 zd_M_restore_0 rfl (lv_at hl 0 rfl) ?_
  refine zr_iconst C zd_M_restore_1 ?_
  obtain ⟨S1, eS1, hf⟩ := zlt_some hf
  refine zp_M_thrown (r := 0) C hK hap hW hS (zvd_9 (by decide) (by decide)) zk_1504 (znb rfl) zd_M_restore_2 (fun H locs hW hS => ?_)
  rw [eS1] at hW
  refine lv_aload_n C.1 C.2.1 zd_M_restore_5 rfl (lv_at hl 0 rfl) ?_
  refine zg_M_imaged (r := 0) C hK hW (zvd_9 (by decide) (by decide)) zk_1503 zd_M_restore_6 ?_
  refine zr_if_ne (tgt := 15) C (zWn hW _ _ _ _ rfl) zd_M_restore_9 (by decide) (fun c2 => ?_) (fun c2 => ?_)
  · rw [if_neg c2] at hf
    refine lv_aload_n C.1 C.2.1 zd_M_restore_15 rfl (lv_at hl 0 rfl) ?_
    refine zg_M_world (r := 0) C hK hW (zvd_9 (by decide) (by decide)) zk_1500 zd_M_restore_16 ?_
    refine lv_aload_n C.1 C.2.1 zd_M_restore_19 rfl (lv_at hl 0 rfl) ?_
    refine zg_M_image (r := 0) C hK hW (zvd_9 (by decide) (by decide)) zk_1502 zd_M_restore_20 ?_
    obtain ⟨a3, S4, ea3, hf⟩ := zbd_some hf
    refine zcVv (As := [.ref (B.2.1 5 (2) (0))]) (rest := []) C hK hSt hW hS (zc_W_like hap (0) (2) (by decide) (by decide) S1 ea3) zq_W_like zk_1989 (zrecv hK hW (zvd_5 (by decide) (by decide)) (ze_5_0 B _ (0)) rfl) ⟨rfl, rfl, by decide, by decide⟩ ⟨by decide, by decide⟩ rfl hl.1 rfl (lv_room (Nat.le_of_ble_eq_true rfl)) zd_M_restore_23 (fun H locs hW hS => ?_)
    refine lv_aload_n C.1 C.2.1 zd_M_restore_26 rfl (lv_at hl 0 rfl) ?_
    refine zg_M_world (r := 0) C hK hW (zvd_9 (by decide) (by decide)) zk_1500 zd_M_restore_27 ?_
    refine zg_W_week (r := 0) C hK hW (zvd_5 (by decide) (by decide)) zk_1276 zd_M_restore_30 ?_
    cases hf
    exact zre_i C hr hlk hK hW hS (zWn hW _ _ _ _ rfl) zd_M_restore_33
  · rw [if_pos c2] at hf
    refine zr_bipush C zd_M_restore_12 (by decide) ?_
    cases hf
    exact zre_i C hr hlk hK hW hS (znb rfl) zd_M_restore_14

theorem zc_M_restore {l : Launch} {B : zB} (hap : zAp B) (S : Sg) {res : Int} {S9 : Sg} (hf : zf_M_restore  S = some (res, S9)) : Met l zy_M_restore (Cond.code zy_M_restore zb_M_restore 1 (some .int) :: zT) zm_M_restore (zP B S [.ref (B.2.1 9 (0) (0))]) (zQi B res S9) 0 0 B.2.2.2 :=
  zmet (by decide) (Nat.le_of_ble_eq_true rfl) (fun p e s m args below meth c C hr hlk hK hSt hW ls hl => zw_M_restore C hr hlk hK hSt hap    S  hf _ _ _ hW va_S.rf hl)
/-! IslandOfficeModel.keep(III)I -/
abbrev zy_M_keep : MethodName := ⟨"IslandOfficeModel", "keep", "(III)I"⟩
abbrev zb_M_keep : ByteArray := prog_14_method_66_code
abbrev zm_M_keep : Room := { frames := 2, cells := 0, slots := 0, locals := 43 }
theorem zq_M_keep : zMy zy_M_keep zb_M_keep 4 (some .int) 3 := ⟨zk_2031, zk_2029, zk_2030, zk_14, by decide, by decide, by decide +kernel⟩
theorem zd_M_keep_0 : decode zb_M_keep 0 = .ok (.aload_n 0, 1) := by decide +kernel
theorem zd_M_keep_1 : decode zb_M_keep 1 = .ok (.iconst 0, 1) := by decide +kernel
theorem zd_M_keep_2 : decode zb_M_keep 2 = .ok (.putfield 46, 3) := by decide +kernel
theorem zd_M_keep_5 : decode zb_M_keep 5 = .ok (.iload_n 1, 1) := by decide +kernel
theorem zd_M_keep_6 : decode zb_M_keep 6 = .ok (.invokestatic 172, 3) := by decide +kernel
theorem zd_M_keep_9 : decode zb_M_keep 9 = .ok (.ifCond .eq 38, 3) := by decide +kernel
theorem zd_M_keep_12 : decode zb_M_keep 12 = .ok (.iload_n 2, 1) := by decide +kernel
theorem zd_M_keep_13 : decode zb_M_keep 13 = .ok (.iconst 0, 1) := by decide +kernel
theorem zd_M_keep_14 : decode zb_M_keep 14 = .ok (.iconst 2, 1) := by decide +kernel
theorem zd_M_keep_15 : decode zb_M_keep 15 = .ok (.invokestatic 53, 3) := by decide +kernel
theorem zd_M_keep_18 : decode zb_M_keep 18 = .ok (.ifCond .eq 29, 3) := by decide +kernel
theorem zd_M_keep_21 : decode zb_M_keep 21 = .ok (.iload_n 2, 1) := by decide +kernel
theorem zd_M_keep_22 : decode zb_M_keep 22 = .ok (.iconst 1, 1) := by decide +kernel
theorem zd_M_keep_23 : decode zb_M_keep 23 = .ok (.if_icmp .ne 11, 3) := by decide +kernel
theorem zd_M_keep_26 : decode zb_M_keep 26 = .ok (.aload_n 0, 1) := by decide +kernel
theorem zd_M_keep_27 : decode zb_M_keep 27 = .ok (.iload_n 3, 1) := by decide +kernel
theorem zd_M_keep_28 : decode zb_M_keep 28 = .ok (.invokevirtual 97, 3) := by decide +kernel
theorem zd_M_keep_31 : decode zb_M_keep 31 = .ok (.ifCond .eq 16, 3) := by decide +kernel
theorem zd_M_keep_34 : decode zb_M_keep 34 = .ok (.iload_n 2, 1) := by decide +kernel
theorem zd_M_keep_35 : decode zb_M_keep 35 = .ok (.iconst 2, 1) := by decide +kernel
theorem zd_M_keep_36 : decode zb_M_keep 36 = .ok (.if_icmp .ne 13, 3) := by decide +kernel
theorem zd_M_keep_39 : decode zb_M_keep 39 = .ok (.aload_n 0, 1) := by decide +kernel
theorem zd_M_keep_40 : decode zb_M_keep 40 = .ok (.iload_n 3, 1) := by decide +kernel
theorem zd_M_keep_41 : decode zb_M_keep 41 = .ok (.invokevirtual 216, 3) := by decide +kernel
theorem zd_M_keep_44 : decode zb_M_keep 44 = .ok (.ifCond .ne 5, 3) := by decide +kernel
theorem zd_M_keep_47 : decode zb_M_keep 47 = .ok (.iconst (-1), 1) := by decide +kernel
theorem zd_M_keep_48 : decode zb_M_keep 48 = .ok (.ireturn, 1) := by decide +kernel
theorem zd_M_keep_49 : decode zb_M_keep 49 = .ok (.iload_n 2, 1) := by decide +kernel
theorem zd_M_keep_50 : decode zb_M_keep 50 = .ok (.iconst 1, 1) := by decide +kernel
theorem zd_M_keep_51 : decode zb_M_keep 51 = .ok (.if_icmp .ne 19, 3) := by decide +kernel
theorem zd_M_keep_54 : decode zb_M_keep 54 = .ok (.aload_n 0, 1) := by decide +kernel
theorem zd_M_keep_55 : decode zb_M_keep 55 = .ok (.getfield 10, 3) := by decide +kernel
theorem zd_M_keep_58 : decode zb_M_keep 58 = .ok (.getfield 72, 3) := by decide +kernel
theorem zd_M_keep_61 : decode zb_M_keep 61 = .ok (.iload_n 3, 1) := by decide +kernel
theorem zd_M_keep_62 : decode zb_M_keep 62 = .ok (.iaload, 1) := by decide +kernel
theorem zd_M_keep_63 : decode zb_M_keep 63 = .ok (.iconst 2, 1) := by decide +kernel
theorem zd_M_keep_64 : decode zb_M_keep 64 = .ok (.if_icmp .ne 6, 3) := by decide +kernel
theorem zd_M_keep_67 : decode zb_M_keep 67 = .ok (.bipush (-3), 2) := by decide +kernel
theorem zd_M_keep_69 : decode zb_M_keep 69 = .ok (.ireturn, 1) := by decide +kernel
theorem zd_M_keep_70 : decode zb_M_keep 70 = .ok (.aload_n 0, 1) := by decide +kernel
theorem zd_M_keep_71 : decode zb_M_keep 71 = .ok (.getfield 22, 3) := by decide +kernel
theorem zd_M_keep_74 : decode zb_M_keep 74 = .ok (.iload_n 1, 1) := by decide +kernel
theorem zd_M_keep_75 : decode zb_M_keep 75 = .ok (.iload_n 2, 1) := by decide +kernel
theorem zd_M_keep_76 : decode zb_M_keep 76 = .ok (.iastore, 1) := by decide +kernel
theorem zd_M_keep_77 : decode zb_M_keep 77 = .ok (.iload_n 2, 1) := by decide +kernel
theorem zd_M_keep_78 : decode zb_M_keep 78 = .ok (.iconst 1, 1) := by decide +kernel
theorem zd_M_keep_79 : decode zb_M_keep 79 = .ok (.if_icmp .ne 55, 3) := by decide +kernel
theorem zd_M_keep_82 : decode zb_M_keep 82 = .ok (.aload_n 0, 1) := by decide +kernel
theorem zd_M_keep_83 : decode zb_M_keep 83 = .ok (.getfield 37, 3) := by decide +kernel
theorem zd_M_keep_86 : decode zb_M_keep 86 = .ok (.iload_n 1, 1) := by decide +kernel
theorem zd_M_keep_87 : decode zb_M_keep 87 = .ok (.aaload, 1) := by decide +kernel
theorem zd_M_keep_88 : decode zb_M_keep 88 = .ok (.iconst 0, 1) := by decide +kernel
theorem zd_M_keep_89 : decode zb_M_keep 89 = .ok (.aload_n 0, 1) := by decide +kernel
theorem zd_M_keep_90 : decode zb_M_keep 90 = .ok (.getfield 10, 3) := by decide +kernel
theorem zd_M_keep_93 : decode zb_M_keep 93 = .ok (.iload_n 3, 1) := by decide +kernel
theorem zd_M_keep_94 : decode zb_M_keep 94 = .ok (.invokevirtual 104, 3) := by decide +kernel
theorem zd_M_keep_97 : decode zb_M_keep 97 = .ok (.iastore, 1) := by decide +kernel
theorem zd_M_keep_98 : decode zb_M_keep 98 = .ok (.aload_n 0, 1) := by decide +kernel
theorem zd_M_keep_99 : decode zb_M_keep 99 = .ok (.getfield 37, 3) := by decide +kernel
theorem zd_M_keep_102 : decode zb_M_keep 102 = .ok (.iload_n 1, 1) := by decide +kernel
theorem zd_M_keep_103 : decode zb_M_keep 103 = .ok (.aaload, 1) := by decide +kernel
theorem zd_M_keep_104 : decode zb_M_keep 104 = .ok (.iconst 1, 1) := by decide +kernel
theorem zd_M_keep_105 : decode zb_M_keep 105 = .ok (.aload_n 0, 1) := by decide +kernel
theorem zd_M_keep_106 : decode zb_M_keep 106 = .ok (.getfield 10, 3) := by decide +kernel
theorem zd_M_keep_109 : decode zb_M_keep 109 = .ok (.iload_n 3, 1) := by decide +kernel
theorem zd_M_keep_110 : decode zb_M_keep 110 = .ok (.invokevirtual 108, 3) := by decide +kernel
theorem zd_M_keep_113 : decode zb_M_keep 113 = .ok (.iastore, 1) := by decide +kernel
theorem zd_M_keep_114 : decode zb_M_keep 114 = .ok (.aload_n 0, 1) := by decide +kernel
theorem zd_M_keep_115 : decode zb_M_keep 115 = .ok (.getfield 37, 3) := by decide +kernel
theorem zd_M_keep_118 : decode zb_M_keep 118 = .ok (.iload_n 1, 1) := by decide +kernel
theorem zd_M_keep_119 : decode zb_M_keep 119 = .ok (.aaload, 1) := by decide +kernel
theorem zd_M_keep_120 : decode zb_M_keep 120 = .ok (.iconst 2, 1) := by decide +kernel
theorem zd_M_keep_121 : decode zb_M_keep 121 = .ok (.aload_n 0, 1) := by decide +kernel
theorem zd_M_keep_122 : decode zb_M_keep 122 = .ok (.getfield 10, 3) := by decide +kernel
theorem zd_M_keep_125 : decode zb_M_keep 125 = .ok (.getfield 63, 3) := by decide +kernel
theorem zd_M_keep_128 : decode zb_M_keep 128 = .ok (.iload_n 3, 1) := by decide +kernel
theorem zd_M_keep_129 : decode zb_M_keep 129 = .ok (.iaload, 1) := by decide +kernel
theorem zd_M_keep_130 : decode zb_M_keep 130 = .ok (.iastore, 1) := by decide +kernel
theorem zd_M_keep_131 : decode zb_M_keep 131 = .ok (.goto 67, 3) := by decide +kernel
theorem zd_M_keep_134 : decode zb_M_keep 134 = .ok (.iload_n 2, 1) := by decide +kernel
theorem zd_M_keep_135 : decode zb_M_keep 135 = .ok (.iconst 2, 1) := by decide +kernel
theorem zd_M_keep_136 : decode zb_M_keep 136 = .ok (.if_icmp .ne 62, 3) := by decide +kernel
theorem zd_M_keep_139 : decode zb_M_keep 139 = .ok (.aload_n 0, 1) := by decide +kernel
theorem zd_M_keep_140 : decode zb_M_keep 140 = .ok (.getfield 37, 3) := by decide +kernel
theorem zd_M_keep_143 : decode zb_M_keep 143 = .ok (.iload_n 1, 1) := by decide +kernel
theorem zd_M_keep_144 : decode zb_M_keep 144 = .ok (.aaload, 1) := by decide +kernel
theorem zd_M_keep_145 : decode zb_M_keep 145 = .ok (.iconst 0, 1) := by decide +kernel
theorem zd_M_keep_146 : decode zb_M_keep 146 = .ok (.iload_n 3, 1) := by decide +kernel
theorem zd_M_keep_147 : decode zb_M_keep 147 = .ok (.iastore, 1) := by decide +kernel
theorem zd_M_keep_148 : decode zb_M_keep 148 = .ok (.aload_n 0, 1) := by decide +kernel
theorem zd_M_keep_149 : decode zb_M_keep 149 = .ok (.getfield 37, 3) := by decide +kernel
theorem zd_M_keep_152 : decode zb_M_keep 152 = .ok (.iload_n 1, 1) := by decide +kernel
theorem zd_M_keep_153 : decode zb_M_keep 153 = .ok (.aaload, 1) := by decide +kernel
theorem zd_M_keep_154 : decode zb_M_keep 154 = .ok (.iconst 1, 1) := by decide +kernel
theorem zd_M_keep_155 : decode zb_M_keep 155 = .ok (.aload_n 0, 1) := by decide +kernel
theorem zd_M_keep_156 : decode zb_M_keep 156 = .ok (.getfield 10, 3) := by decide +kernel
theorem zd_M_keep_159 : decode zb_M_keep 159 = .ok (.iload_n 3, 1) := by decide +kernel
theorem zd_M_keep_160 : decode zb_M_keep 160 = .ok (.invokevirtual 226, 3) := by decide +kernel
theorem zd_M_keep_163 : decode zb_M_keep 163 = .ok (.iastore, 1) := by decide +kernel
theorem zd_M_keep_164 : decode zb_M_keep 164 = .ok (.aload_n 0, 1) := by decide +kernel
theorem zd_M_keep_165 : decode zb_M_keep 165 = .ok (.getfield 37, 3) := by decide +kernel
theorem zd_M_keep_168 : decode zb_M_keep 168 = .ok (.iload_n 1, 1) := by decide +kernel
theorem zd_M_keep_169 : decode zb_M_keep 169 = .ok (.aaload, 1) := by decide +kernel
theorem zd_M_keep_170 : decode zb_M_keep 170 = .ok (.iconst 2, 1) := by decide +kernel
theorem zd_M_keep_171 : decode zb_M_keep 171 = .ok (.aload_n 0, 1) := by decide +kernel
theorem zd_M_keep_172 : decode zb_M_keep 172 = .ok (.getfield 10, 3) := by decide +kernel
theorem zd_M_keep_175 : decode zb_M_keep 175 = .ok (.getfield 192, 3) := by decide +kernel
theorem zd_M_keep_178 : decode zb_M_keep 178 = .ok (.iload_n 3, 1) := by decide +kernel
theorem zd_M_keep_179 : decode zb_M_keep 179 = .ok (.iaload, 1) := by decide +kernel
theorem zd_M_keep_180 : decode zb_M_keep 180 = .ok (.iastore, 1) := by decide +kernel
theorem zd_M_keep_181 : decode zb_M_keep 181 = .ok (.aload_n 0, 1) := by decide +kernel
theorem zd_M_keep_182 : decode zb_M_keep 182 = .ok (.getfield 37, 3) := by decide +kernel
theorem zd_M_keep_185 : decode zb_M_keep 185 = .ok (.iload_n 1, 1) := by decide +kernel
theorem zd_M_keep_186 : decode zb_M_keep 186 = .ok (.aaload, 1) := by decide +kernel
theorem zd_M_keep_187 : decode zb_M_keep 187 = .ok (.iconst 3, 1) := by decide +kernel
theorem zd_M_keep_188 : decode zb_M_keep 188 = .ok (.aload_n 0, 1) := by decide +kernel
theorem zd_M_keep_189 : decode zb_M_keep 189 = .ok (.getfield 10, 3) := by decide +kernel
theorem zd_M_keep_192 : decode zb_M_keep 192 = .ok (.getfield 200, 3) := by decide +kernel
theorem zd_M_keep_195 : decode zb_M_keep 195 = .ok (.iload_n 3, 1) := by decide +kernel
theorem zd_M_keep_196 : decode zb_M_keep 196 = .ok (.iaload, 1) := by decide +kernel
theorem zd_M_keep_197 : decode zb_M_keep 197 = .ok (.iastore, 1) := by decide +kernel
theorem zd_M_keep_198 : decode zb_M_keep 198 = .ok (.iconst 0, 1) := by decide +kernel
theorem zd_M_keep_199 : decode zb_M_keep 199 = .ok (.ireturn, 1) := by decide +kernel

def zf_M_keep_70 (x1 : Int) (x2 : Int) (x3 : Int) (S : Sg) : Option (Int × Sg) :=
    zck (0 ≤ x1 ∧ x1 < 8) <| zlt (zu S 9 0 1 x1 x2) fun S2 => if x2 = 1 then (zbd (zf_W_kind (0) x3 S2) fun a12 S13 => zlt (zu S13 11 x1 0 0 a12) fun S14 => zbd (zf_W_age (0) x3 S14) fun a15 S16 => zlt (zu S16 11 x1 0 1 a15) fun S17 => zck (0 ≤ x3 ∧ x3 < 40) <| zlt (zu S17 11 x1 0 2 (S17 5 0 2 x3)) fun S19 => some (0, S19)) else (if x2 = 2 then (zlt (zu S2 11 x1 0 0 x3) fun S5 => zbd (zf_W_subject (0) x3 S5) fun a6 S7 => zlt (zu S7 11 x1 0 1 a6) fun S8 => zck (0 ≤ x3 ∧ x3 < 12) <| zlt (zu S8 11 x1 0 2 (S8 5 0 14 x3)) fun S10 => zlt (zu S10 11 x1 0 3 (S10 5 0 17 x3)) fun S11 => some (0, S11)) else (some (0, S2)))
set_option maxHeartbeats 4000000 in
set_option maxRecDepth 100000 in
theorem zw_M_keep_70 {p : Program} {l : Launch} {e : Env} {s : State} {m : MethodId} {args : Array Value} {below : List Frame} {meth : Method} {c : Code} {B : zB} (C : CallFix p m c zb_M_keep 4 s args zT "IslandOfficeModel") (hr : meth.sig.returnType = some .int) (hlk : meth.locks = false) (hK : zK B s) (hSt : zSt B s) (hap : zAp B) {res : Int} {S9 : Sg} : ∀ (x1 : Int) (x2 : Int) (x3 : Int) (S : Sg) (nx1 : zn x1) (nx2 : zn x2) (nx3 : zn x3), zf_M_keep_70 x1 x2 x3 S = some (res, S9) → ∀ (H : Heap) (locs : List Loc) (ls : Array Slot), zW B S H → va_S B.2.2.2 s.heap H locs → lv_has ls 4 [(0, .ref (B.2.1 9 (0) (0))), (1, .int (zI (x1))), (2, .int (zI (x2))), (3, .int (zI (x3)))] → W p l e zm_M_keep s m args below meth c H locs 0 0 (MQ below (zQi B res S9) args s 0 0 B.2.2.2) (F0 m 70 ls []) := by
  intro x1 x2 x3 S nx1 nx2 nx3 hf H locs ls hW hS hl
  unfold zf_M_keep_70 at hf
  refine lv_aload_n C.1 C.2.1 zd_M_keep_70 rfl (lv_at hl 0 rfl) ?_
  refine zg_M_held (r := 0) C hK hW (zvd_9 (by decide) (by decide)) zk_1505 zd_M_keep_71 ?_
  refine lv_iload_n C.1 C.2.1 zd_M_keep_74 rfl (lv_at hl 1 rfl) ?_
  refine lv_iload_n C.1 C.2.1 zd_M_keep_75 rfl (lv_at hl 2 rfl) ?_
  obtain ⟨h1, hf⟩ := zck_some hf
  obtain ⟨S2, eS2, hf⟩ := zlt_some hf
  refine ziast C hK hap hW hS (zvd_9 (by decide) (by decide)) (fun f => ze_9_1 B f (0)) (by decide) rfl nx2 h1 zd_M_keep_76 (fun H locs hW hS => ?_)
  rw [eS2] at hW
  refine lv_iload_n C.1 C.2.1 zd_M_keep_77 rfl (lv_at hl 2 rfl) ?_
  refine zr_iconst C zd_M_keep_78 ?_
  refine zr_icmp_ne (tgt := 134) C nx2 (znb rfl) zd_M_keep_79 (by decide) (fun c3 => ?_) (fun c3 => ?_)
  · rw [if_neg c3] at hf
    refine lv_iload_n C.1 C.2.1 zd_M_keep_134 rfl (lv_at hl 2 rfl) ?_
    refine zr_iconst C zd_M_keep_135 ?_
    refine zr_icmp_ne (tgt := 198) C nx2 (znb rfl) zd_M_keep_136 (by decide) (fun c4 => ?_) (fun c4 => ?_)
    · rw [if_neg c4] at hf
      refine zr_iconst C zd_M_keep_198 ?_
      cases hf
      exact zre_i C hr hlk hK hW hS (znb rfl) zd_M_keep_199
    · rw [if_pos c4] at hf
      refine lv_aload_n C.1 C.2.1 zd_M_keep_139 rfl (lv_at hl 0 rfl) ?_
      refine zg_M_kept (r := 0) C hK hW (zvd_9 (by decide) (by decide)) zk_1509 zd_M_keep_140 ?_
      refine lv_iload_n C.1 C.2.1 zd_M_keep_143 rfl (lv_at hl 1 rfl) ?_
      refine zaald (t0 := 4) C hK hW (zvd_9 (by decide) (by decide)) (fun f => ze_9_5 B f (0)) rfl rfl (by decide) h1 zd_M_keep_144 (a := B.2.1 11 (x1) (0)) (by rw [Int.toNat_of_nonneg h1.1]) ?_
      refine zr_iconst C zd_M_keep_145 ?_
      refine lv_iload_n C.1 C.2.1 zd_M_keep_146 rfl (lv_at hl 3 rfl) ?_
      obtain ⟨S5, eS5, hf⟩ := zlt_some hf
      refine ziast C hK hap hW hS (zvd_11 h1 (by decide)) (fun f => ze_11_0 B f (x1)) (by decide) rfl nx3 (by decide) zd_M_keep_147 (fun H locs hW hS => ?_)
      rw [eS5] at hW
      refine lv_aload_n C.1 C.2.1 zd_M_keep_148 rfl (lv_at hl 0 rfl) ?_
      refine zg_M_kept (r := 0) C hK hW (zvd_9 (by decide) (by decide)) zk_1509 zd_M_keep_149 ?_
      refine lv_iload_n C.1 C.2.1 zd_M_keep_152 rfl (lv_at hl 1 rfl) ?_
      refine zaald (t0 := 4) C hK hW (zvd_9 (by decide) (by decide)) (fun f => ze_9_5 B f (0)) rfl rfl (by decide) h1 zd_M_keep_153 (a := B.2.1 11 (x1) (0)) (by rw [Int.toNat_of_nonneg h1.1]) ?_
      refine zr_iconst C zd_M_keep_154 ?_
      refine lv_aload_n C.1 C.2.1 zd_M_keep_155 rfl (lv_at hl 0 rfl) ?_
      refine zg_M_world (r := 0) C hK hW (zvd_9 (by decide) (by decide)) zk_1500 zd_M_keep_156 ?_
      refine lv_iload_n C.1 C.2.1 zd_M_keep_159 rfl (lv_at hl 3 rfl) ?_
      obtain ⟨a6, S7, ea6, hf⟩ := zbd_some hf
      refine zcVi (As := [.int (zI (x3))]) (rest := [.int (zI (1)), .ref (B.2.1 11 (x1) (0))]) C hK hSt hW hS (zc_W_subject hap (0) (by decide) x3 S5 nx3 ea6) zq_W_subject zk_1774 (zrecv hK hW (zvd_5 (by decide) (by decide)) (ze_5_0 B _ (0)) rfl) ⟨rfl, rfl, by decide, by decide⟩ ⟨by decide, by decide⟩ rfl hl.1 rfl (lv_room (Nat.le_of_ble_eq_true rfl)) zd_M_keep_160 (fun na6 H locs hW hS => ?_)
      obtain ⟨S8, eS8, hf⟩ := zlt_some hf
      refine ziast C hK hap hW hS (zvd_11 h1 (by decide)) (fun f => ze_11_0 B f (x1)) (by decide) rfl na6 (by decide) zd_M_keep_163 (fun H locs hW hS => ?_)
      rw [eS8] at hW
      refine lv_aload_n C.1 C.2.1 zd_M_keep_164 rfl (lv_at hl 0 rfl) ?_
      refine zg_M_kept (r := 0) C hK hW (zvd_9 (by decide) (by decide)) zk_1509 zd_M_keep_165 ?_
      refine lv_iload_n C.1 C.2.1 zd_M_keep_168 rfl (lv_at hl 1 rfl) ?_
      refine zaald (t0 := 4) C hK hW (zvd_9 (by decide) (by decide)) (fun f => ze_9_5 B f (0)) rfl rfl (by decide) h1 zd_M_keep_169 (a := B.2.1 11 (x1) (0)) (by rw [Int.toNat_of_nonneg h1.1]) ?_
      refine zr_iconst C zd_M_keep_170 ?_
      refine lv_aload_n C.1 C.2.1 zd_M_keep_171 rfl (lv_at hl 0 rfl) ?_
      refine zg_M_world (r := 0) C hK hW (zvd_9 (by decide) (by decide)) zk_1500 zd_M_keep_172 ?_
      refine zg_W_size (r := 0) C hK hW (zvd_5 (by decide) (by decide)) zk_1312 zd_M_keep_175 ?_
      refine lv_iload_n C.1 C.2.1 zd_M_keep_178 rfl (lv_at hl 3 rfl) ?_
      obtain ⟨h9, hf⟩ := zck_some hf
      refine ziald C hK hW (zvd_5 (by decide) (by decide)) (fun f => ze_5_14 B f (0)) (by decide) h9 zd_M_keep_179 ?_
      obtain ⟨S10, eS10, hf⟩ := zlt_some hf
      refine ziast C hK hap hW hS (zvd_11 h1 (by decide)) (fun f => ze_11_0 B f (x1)) (by decide) rfl (zWn hW _ _ _ _ rfl) (by decide) zd_M_keep_180 (fun H locs hW hS => ?_)
      rw [eS10] at hW
      refine lv_aload_n C.1 C.2.1 zd_M_keep_181 rfl (lv_at hl 0 rfl) ?_
      refine zg_M_kept (r := 0) C hK hW (zvd_9 (by decide) (by decide)) zk_1509 zd_M_keep_182 ?_
      refine lv_iload_n C.1 C.2.1 zd_M_keep_185 rfl (lv_at hl 1 rfl) ?_
      refine zaald (t0 := 4) C hK hW (zvd_9 (by decide) (by decide)) (fun f => ze_9_5 B f (0)) rfl rfl (by decide) h1 zd_M_keep_186 (a := B.2.1 11 (x1) (0)) (by rw [Int.toNat_of_nonneg h1.1]) ?_
      refine zr_iconst C zd_M_keep_187 ?_
      refine lv_aload_n C.1 C.2.1 zd_M_keep_188 rfl (lv_at hl 0 rfl) ?_
      refine zg_M_world (r := 0) C hK hW (zvd_9 (by decide) (by decide)) zk_1500 zd_M_keep_189 ?_
      refine zg_W_voters (r := 0) C hK hW (zvd_5 (by decide) (by decide)) zk_1318 zd_M_keep_192 ?_
      refine lv_iload_n C.1 C.2.1 zd_M_keep_195 rfl (lv_at hl 3 rfl) ?_
      refine ziald C hK hW (zvd_5 (by decide) (by decide)) (fun f => ze_5_17 B f (0)) (by decide) h9 zd_M_keep_196 ?_
      obtain ⟨S11, eS11, hf⟩ := zlt_some hf
      refine ziast C hK hap hW hS (zvd_11 h1 (by decide)) (fun f => ze_11_0 B f (x1)) (by decide) rfl (zWn hW _ _ _ _ rfl) (by decide) zd_M_keep_197 (fun H locs hW hS => ?_)
      rw [eS11] at hW
      refine zr_iconst C zd_M_keep_198 ?_
      cases hf
      exact zre_i C hr hlk hK hW hS (znb rfl) zd_M_keep_199
  · rw [if_pos c3] at hf
    refine lv_aload_n C.1 C.2.1 zd_M_keep_82 rfl (lv_at hl 0 rfl) ?_
    refine zg_M_kept (r := 0) C hK hW (zvd_9 (by decide) (by decide)) zk_1509 zd_M_keep_83 ?_
    refine lv_iload_n C.1 C.2.1 zd_M_keep_86 rfl (lv_at hl 1 rfl) ?_
    refine zaald (t0 := 4) C hK hW (zvd_9 (by decide) (by decide)) (fun f => ze_9_5 B f (0)) rfl rfl (by decide) h1 zd_M_keep_87 (a := B.2.1 11 (x1) (0)) (by rw [Int.toNat_of_nonneg h1.1]) ?_
    refine zr_iconst C zd_M_keep_88 ?_
    refine lv_aload_n C.1 C.2.1 zd_M_keep_89 rfl (lv_at hl 0 rfl) ?_
    refine zg_M_world (r := 0) C hK hW (zvd_9 (by decide) (by decide)) zk_1500 zd_M_keep_90 ?_
    refine lv_iload_n C.1 C.2.1 zd_M_keep_93 rfl (lv_at hl 3 rfl) ?_
    obtain ⟨a12, S13, ea12, hf⟩ := zbd_some hf
    refine zcVi (As := [.int (zI (x3))]) (rest := [.int (zI (0)), .ref (B.2.1 11 (x1) (0))]) C hK hSt hW hS (zc_W_kind hap (0) (by decide) x3 S2 nx3 ea12) zq_W_kind zk_1580 (zrecv hK hW (zvd_5 (by decide) (by decide)) (ze_5_0 B _ (0)) rfl) ⟨rfl, rfl, by decide, by decide⟩ ⟨by decide, by decide⟩ rfl hl.1 rfl (lv_room (Nat.le_of_ble_eq_true rfl)) zd_M_keep_94 (fun na12 H locs hW hS => ?_)
    obtain ⟨S14, eS14, hf⟩ := zlt_some hf
    refine ziast C hK hap hW hS (zvd_11 h1 (by decide)) (fun f => ze_11_0 B f (x1)) (by decide) rfl na12 (by decide) zd_M_keep_97 (fun H locs hW hS => ?_)
    rw [eS14] at hW
    refine lv_aload_n C.1 C.2.1 zd_M_keep_98 rfl (lv_at hl 0 rfl) ?_
    refine zg_M_kept (r := 0) C hK hW (zvd_9 (by decide) (by decide)) zk_1509 zd_M_keep_99 ?_
    refine lv_iload_n C.1 C.2.1 zd_M_keep_102 rfl (lv_at hl 1 rfl) ?_
    refine zaald (t0 := 4) C hK hW (zvd_9 (by decide) (by decide)) (fun f => ze_9_5 B f (0)) rfl rfl (by decide) h1 zd_M_keep_103 (a := B.2.1 11 (x1) (0)) (by rw [Int.toNat_of_nonneg h1.1]) ?_
    refine zr_iconst C zd_M_keep_104 ?_
    refine lv_aload_n C.1 C.2.1 zd_M_keep_105 rfl (lv_at hl 0 rfl) ?_
    refine zg_M_world (r := 0) C hK hW (zvd_9 (by decide) (by decide)) zk_1500 zd_M_keep_106 ?_
    refine lv_iload_n C.1 C.2.1 zd_M_keep_109 rfl (lv_at hl 3 rfl) ?_
    obtain ⟨a15, S16, ea15, hf⟩ := zbd_some hf
    refine zcVi (As := [.int (zI (x3))]) (rest := [.int (zI (1)), .ref (B.2.1 11 (x1) (0))]) C hK hSt hW hS (zc_W_age hap (0) (by decide) x3 S14 nx3 ea15) zq_W_age zk_1592 (zrecv hK hW (zvd_5 (by decide) (by decide)) (ze_5_0 B _ (0)) rfl) ⟨rfl, rfl, by decide, by decide⟩ ⟨by decide, by decide⟩ rfl hl.1 rfl (lv_room (Nat.le_of_ble_eq_true rfl)) zd_M_keep_110 (fun na15 H locs hW hS => ?_)
    obtain ⟨S17, eS17, hf⟩ := zlt_some hf
    refine ziast C hK hap hW hS (zvd_11 h1 (by decide)) (fun f => ze_11_0 B f (x1)) (by decide) rfl na15 (by decide) zd_M_keep_113 (fun H locs hW hS => ?_)
    rw [eS17] at hW
    refine lv_aload_n C.1 C.2.1 zd_M_keep_114 rfl (lv_at hl 0 rfl) ?_
    refine zg_M_kept (r := 0) C hK hW (zvd_9 (by decide) (by decide)) zk_1509 zd_M_keep_115 ?_
    refine lv_iload_n C.1 C.2.1 zd_M_keep_118 rfl (lv_at hl 1 rfl) ?_
    refine zaald (t0 := 4) C hK hW (zvd_9 (by decide) (by decide)) (fun f => ze_9_5 B f (0)) rfl rfl (by decide) h1 zd_M_keep_119 (a := B.2.1 11 (x1) (0)) (by rw [Int.toNat_of_nonneg h1.1]) ?_
    refine zr_iconst C zd_M_keep_120 ?_
    refine lv_aload_n C.1 C.2.1 zd_M_keep_121 rfl (lv_at hl 0 rfl) ?_
    refine zg_M_world (r := 0) C hK hW (zvd_9 (by decide) (by decide)) zk_1500 zd_M_keep_122 ?_
    refine zg_W_house (r := 0) C hK hW (zvd_5 (by decide) (by decide)) zk_1282 zd_M_keep_125 ?_
    refine lv_iload_n C.1 C.2.1 zd_M_keep_128 rfl (lv_at hl 3 rfl) ?_
    obtain ⟨h18, hf⟩ := zck_some hf
    refine ziald C hK hW (zvd_5 (by decide) (by decide)) (fun f => ze_5_2 B f (0)) (by decide) h18 zd_M_keep_129 ?_
    obtain ⟨S19, eS19, hf⟩ := zlt_some hf
    refine ziast C hK hap hW hS (zvd_11 h1 (by decide)) (fun f => ze_11_0 B f (x1)) (by decide) rfl (zWn hW _ _ _ _ rfl) (by decide) zd_M_keep_130 (fun H locs hW hS => ?_)
    rw [eS19] at hW
    refine lv_goto (tgt := 198) C.1 C.2.1 zd_M_keep_131 (by decide) ?_
    refine zr_iconst C zd_M_keep_198 ?_
    cases hf
    exact zre_i C hr hlk hK hW hS (znb rfl) zd_M_keep_199

def zf_M_keep_49 (x1 : Int) (x2 : Int) (x3 : Int) (S : Sg) : Option (Int × Sg) :=
    if x2 = 1 then (zck (0 ≤ x3 ∧ x3 < 40) <| if (S 5 0 5 x3) = 2 then (some (-3, S)) else (zf_M_keep_70 (x1) (x2) (x3) S)) else (zf_M_keep_70 (x1) (x2) (x3) S)
set_option maxHeartbeats 4000000 in
set_option maxRecDepth 100000 in
theorem zw_M_keep_49 {p : Program} {l : Launch} {e : Env} {s : State} {m : MethodId} {args : Array Value} {below : List Frame} {meth : Method} {c : Code} {B : zB} (C : CallFix p m c zb_M_keep 4 s args zT "IslandOfficeModel") (hr : meth.sig.returnType = some .int) (hlk : meth.locks = false) (hK : zK B s) (hSt : zSt B s) (hap : zAp B) {res : Int} {S9 : Sg} : ∀ (x1 : Int) (x2 : Int) (x3 : Int) (S : Sg) (nx1 : zn x1) (nx2 : zn x2) (nx3 : zn x3), zf_M_keep_49 x1 x2 x3 S = some (res, S9) → ∀ (H : Heap) (locs : List Loc) (ls : Array Slot), zW B S H → va_S B.2.2.2 s.heap H locs → lv_has ls 4 [(0, .ref (B.2.1 9 (0) (0))), (1, .int (zI (x1))), (2, .int (zI (x2))), (3, .int (zI (x3)))] → W p l e zm_M_keep s m args below meth c H locs 0 0 (MQ below (zQi B res S9) args s 0 0 B.2.2.2) (F0 m 49 ls []) := by
  intro x1 x2 x3 S nx1 nx2 nx3 hf H locs ls hW hS hl
  unfold zf_M_keep_49 at hf
  refine lv_iload_n C.1 C.2.1 zd_M_keep_49 rfl (lv_at hl 2 rfl) ?_
  refine zr_iconst C zd_M_keep_50 ?_
  refine zr_icmp_ne (tgt := 70) C nx2 (znb rfl) zd_M_keep_51 (by decide) (fun c1 => ?_) (fun c1 => ?_)
  · rw [if_neg c1] at hf
    exact zw_M_keep_70 C hr hlk hK hSt hap   (x1) (x2) (x3) S nx1 nx2 nx3 hf _ _ _ hW hS (lv_sub hl [0, 1, 2, 3] rfl)
  · rw [if_pos c1] at hf
    refine lv_aload_n C.1 C.2.1 zd_M_keep_54 rfl (lv_at hl 0 rfl) ?_
    refine zg_M_world (r := 0) C hK hW (zvd_9 (by decide) (by decide)) zk_1500 zd_M_keep_55 ?_
    refine zg_W_state (r := 0) C hK hW (zvd_5 (by decide) (by decide)) zk_1288 zd_M_keep_58 ?_
    refine lv_iload_n C.1 C.2.1 zd_M_keep_61 rfl (lv_at hl 3 rfl) ?_
    obtain ⟨h2, hf⟩ := zck_some hf
    refine ziald C hK hW (zvd_5 (by decide) (by decide)) (fun f => ze_5_5 B f (0)) (by decide) h2 zd_M_keep_62 ?_
    refine zr_iconst C zd_M_keep_63 ?_
    refine zr_icmp_ne (tgt := 70) C (zWn hW _ _ _ _ rfl) (znb rfl) zd_M_keep_64 (by decide) (fun c3 => ?_) (fun c3 => ?_)
    · rw [if_neg c3] at hf
      exact zw_M_keep_70 C hr hlk hK hSt hap   (x1) (x2) (x3) S nx1 nx2 nx3 hf _ _ _ hW hS (lv_sub hl [0, 1, 2, 3] rfl)
    · rw [if_pos c3] at hf
      refine zr_bipush C zd_M_keep_67 (by decide) ?_
      cases hf
      exact zre_i C hr hlk hK hW hS (znb rfl) zd_M_keep_69

def zf_M_keep_34 (x1 : Int) (x2 : Int) (x3 : Int) (S : Sg) : Option (Int × Sg) :=
    if x2 = 2 then (zbd (zf_M_isLaw x3 S) fun a2 S3 => if a2 = 0 then (some (-1, S3)) else (zf_M_keep_49 (x1) (x2) (x3) S3)) else (zf_M_keep_49 (x1) (x2) (x3) S)
set_option maxHeartbeats 4000000 in
set_option maxRecDepth 100000 in
theorem zw_M_keep_34 {p : Program} {l : Launch} {e : Env} {s : State} {m : MethodId} {args : Array Value} {below : List Frame} {meth : Method} {c : Code} {B : zB} (C : CallFix p m c zb_M_keep 4 s args zT "IslandOfficeModel") (hr : meth.sig.returnType = some .int) (hlk : meth.locks = false) (hK : zK B s) (hSt : zSt B s) (hap : zAp B) {res : Int} {S9 : Sg} : ∀ (x1 : Int) (x2 : Int) (x3 : Int) (S : Sg) (nx1 : zn x1) (nx2 : zn x2) (nx3 : zn x3), zf_M_keep_34 x1 x2 x3 S = some (res, S9) → ∀ (H : Heap) (locs : List Loc) (ls : Array Slot), zW B S H → va_S B.2.2.2 s.heap H locs → lv_has ls 4 [(0, .ref (B.2.1 9 (0) (0))), (1, .int (zI (x1))), (2, .int (zI (x2))), (3, .int (zI (x3)))] → W p l e zm_M_keep s m args below meth c H locs 0 0 (MQ below (zQi B res S9) args s 0 0 B.2.2.2) (F0 m 34 ls []) := by
  intro x1 x2 x3 S nx1 nx2 nx3 hf H locs ls hW hS hl
  unfold zf_M_keep_34 at hf
  refine lv_iload_n C.1 C.2.1 zd_M_keep_34 rfl (lv_at hl 2 rfl) ?_
  refine zr_iconst C zd_M_keep_35 ?_
  refine zr_icmp_ne (tgt := 49) C nx2 (znb rfl) zd_M_keep_36 (by decide) (fun c1 => ?_) (fun c1 => ?_)
  · rw [if_neg c1] at hf
    exact zw_M_keep_49 C hr hlk hK hSt hap   (x1) (x2) (x3) S nx1 nx2 nx3 hf _ _ _ hW hS (lv_sub hl [0, 1, 2, 3] rfl)
  · rw [if_pos c1] at hf
    refine lv_aload_n C.1 C.2.1 zd_M_keep_39 rfl (lv_at hl 0 rfl) ?_
    refine lv_iload_n C.1 C.2.1 zd_M_keep_40 rfl (lv_at hl 3 rfl) ?_
    obtain ⟨a2, S3, ea2, hf⟩ := zbd_some hf
    refine zcVi (As := [.int (zI (x3))]) (rest := []) C hK hSt hW hS (zc_M_isLaw hap x3 S nx3 ea2) zq_M_isLaw zk_1749 (zrecv hK hW (zvd_9 (by decide) (by decide)) (ze_9_0 B _ (0)) rfl) ⟨rfl, rfl, by decide, by decide⟩ ⟨by decide, by decide⟩ rfl hl.1 rfl (lv_room (Nat.le_of_ble_eq_true rfl)) zd_M_keep_41 (fun na2 H locs hW hS => ?_)
    refine zr_if_ne (tgt := 49) C na2 zd_M_keep_44 (by decide) (fun c4 => ?_) (fun c4 => ?_)
    · rw [if_neg c4] at hf
      exact zw_M_keep_49 C hr hlk hK hSt hap   (x1) (x2) (x3) S3 nx1 nx2 nx3 hf _ _ _ hW hS (lv_sub hl [0, 1, 2, 3] rfl)
    · rw [if_pos c4] at hf
      refine zr_iconst C zd_M_keep_47 ?_
      cases hf
      exact zre_i C hr hlk hK hW hS (znb rfl) zd_M_keep_48

def zf_M_keep (x1 : Int) (x2 : Int) (x3 : Int) (S : Sg) : Option (Int × Sg) :=
    zlt (zu S 9 0 0 4 0) fun S1 => zbd (zf_M_isShelf x1 S1) fun a2 S3 => if a2 = 0 then (some (-1, S3)) else (zbd (zf_M_in x2 0 2 S3) fun a5 S6 => if a5 = 0 then (some (-1, S6)) else (if x2 = 1 then (zbd (zf_M_isPerson x3 S6) fun a9 S10 => if a9 = 0 then (some (-1, S10)) else (zf_M_keep_34 (x1) (x2) (x3) S10)) else (zf_M_keep_34 (x1) (x2) (x3) S6)))
set_option maxHeartbeats 4000000 in
set_option maxRecDepth 100000 in
theorem zw_M_keep {p : Program} {l : Launch} {e : Env} {s : State} {m : MethodId} {args : Array Value} {below : List Frame} {meth : Method} {c : Code} {B : zB} (C : CallFix p m c zb_M_keep 4 s args zT "IslandOfficeModel") (hr : meth.sig.returnType = some .int) (hlk : meth.locks = false) (hK : zK B s) (hSt : zSt B s) (hap : zAp B) {res : Int} {S9 : Sg} : ∀ (x1 : Int) (x2 : Int) (x3 : Int) (S : Sg) (nx1 : zn x1) (nx2 : zn x2) (nx3 : zn x3), zf_M_keep x1 x2 x3 S = some (res, S9) → ∀ (H : Heap) (locs : List Loc) (ls : Array Slot), zW B S H → va_S B.2.2.2 s.heap H locs → lv_has ls 4 [(0, .ref (B.2.1 9 (0) (0))), (1, .int (zI (x1))), (2, .int (zI (x2))), (3, .int (zI (x3)))] → W p l e zm_M_keep s m args below meth c H locs 0 0 (MQ below (zQi B res S9) args s 0 0 B.2.2.2) (F0 m 0 ls []) := by
  intro x1 x2 x3 S nx1 nx2 nx3 hf H locs ls hW hS hl
  unfold zf_M_keep at hf
  refine lv_aload_n C.1 C.2.1 zd_M_keep_0 rfl (lv_at hl 0 rfl) ?_
  refine zr_iconst C zd_M_keep_1 ?_
  obtain ⟨S1, eS1, hf⟩ := zlt_some hf
  refine zp_M_thrown (r := 0) C hK hap hW hS (zvd_9 (by decide) (by decide)) zk_1504 (znb rfl) zd_M_keep_2 (fun H locs hW hS => ?_)
  rw [eS1] at hW
  refine lv_iload_n C.1 C.2.1 zd_M_keep_5 rfl (lv_at hl 1 rfl) ?_
  obtain ⟨a2, S3, ea2, hf⟩ := zbd_some hf
  refine zcSi (As := [.int (zI (x1))]) (rest := []) C hK hSt hW hS (zc_M_isShelf hap x1 S1 nx1 ea2) zq_M_isShelf zk_1645 ⟨rfl, rfl, by decide, by decide⟩ ⟨by decide, by decide⟩ rfl hl.1 rfl (lv_room (Nat.le_of_ble_eq_true rfl)) zd_M_keep_6 (fun na2 H locs hW hS => ?_)
  refine zr_if_eq (tgt := 47) C na2 zd_M_keep_9 (by decide) (fun c4 => ?_) (fun c4 => ?_)
  · rw [if_pos c4] at hf
    refine zr_iconst C zd_M_keep_47 ?_
    cases hf
    exact zre_i C hr hlk hK hW hS (znb rfl) zd_M_keep_48
  · rw [if_neg c4] at hf
    refine lv_iload_n C.1 C.2.1 zd_M_keep_12 rfl (lv_at hl 2 rfl) ?_
    refine zr_iconst C zd_M_keep_13 ?_
    refine zr_iconst C zd_M_keep_14 ?_
    obtain ⟨a5, S6, ea5, hf⟩ := zbd_some hf
    refine zcSi (As := [.int (zI (x2)), .int (zI (0)), .int (zI (2))]) (rest := []) C hK hSt hW hS (zc_M_in hap x2 0 2 S3 nx2 (znb rfl) (znb rfl) ea5) zq_M_in zk_1558 ⟨rfl, rfl, by decide, by decide⟩ ⟨by decide, by decide⟩ rfl hl.1 rfl (lv_room (Nat.le_of_ble_eq_true rfl)) zd_M_keep_15 (fun na5 H locs hW hS => ?_)
    refine zr_if_eq (tgt := 47) C na5 zd_M_keep_18 (by decide) (fun c7 => ?_) (fun c7 => ?_)
    · rw [if_pos c7] at hf
      refine zr_iconst C zd_M_keep_47 ?_
      cases hf
      exact zre_i C hr hlk hK hW hS (znb rfl) zd_M_keep_48
    · rw [if_neg c7] at hf
      refine lv_iload_n C.1 C.2.1 zd_M_keep_21 rfl (lv_at hl 2 rfl) ?_
      refine zr_iconst C zd_M_keep_22 ?_
      refine zr_icmp_ne (tgt := 34) C nx2 (znb rfl) zd_M_keep_23 (by decide) (fun c8 => ?_) (fun c8 => ?_)
      · rw [if_neg c8] at hf
        exact zw_M_keep_34 C hr hlk hK hSt hap   (x1) (x2) (x3) S6 nx1 nx2 nx3 hf _ _ _ hW hS (lv_sub hl [0, 1, 2, 3] rfl)
      · rw [if_pos c8] at hf
        refine lv_aload_n C.1 C.2.1 zd_M_keep_26 rfl (lv_at hl 0 rfl) ?_
        refine lv_iload_n C.1 C.2.1 zd_M_keep_27 rfl (lv_at hl 3 rfl) ?_
        obtain ⟨a9, S10, ea9, hf⟩ := zbd_some hf
        refine zcVi (As := [.int (zI (x3))]) (rest := []) C hK hSt hW hS (zc_M_isPerson hap x3 S6 nx3 ea9) zq_M_isPerson zk_1564 (zrecv hK hW (zvd_9 (by decide) (by decide)) (ze_9_0 B _ (0)) rfl) ⟨rfl, rfl, by decide, by decide⟩ ⟨by decide, by decide⟩ rfl hl.1 rfl (lv_room (Nat.le_of_ble_eq_true rfl)) zd_M_keep_28 (fun na9 H locs hW hS => ?_)
        refine zr_if_eq (tgt := 47) C na9 zd_M_keep_31 (by decide) (fun c11 => ?_) (fun c11 => ?_)
        · rw [if_pos c11] at hf
          refine zr_iconst C zd_M_keep_47 ?_
          cases hf
          exact zre_i C hr hlk hK hW hS (znb rfl) zd_M_keep_48
        · rw [if_neg c11] at hf
          exact zw_M_keep_34 C hr hlk hK hSt hap   (x1) (x2) (x3) S10 nx1 nx2 nx3 hf _ _ _ hW hS (lv_sub hl [0, 1, 2, 3] rfl)

theorem zc_M_keep {l : Launch} {B : zB} (hap : zAp B) (x1 : Int) (x2 : Int) (x3 : Int) (S : Sg) (nx1 : zn x1) (nx2 : zn x2) (nx3 : zn x3) {res : Int} {S9 : Sg} (hf : zf_M_keep x1 x2 x3 S = some (res, S9)) : Met l zy_M_keep (Cond.code zy_M_keep zb_M_keep 4 (some .int) :: zT) zm_M_keep (zP B S [.ref (B.2.1 9 (0) (0)), .int (zI (x1)), .int (zI (x2)), .int (zI (x3))]) (zQi B res S9) 0 0 B.2.2.2 :=
  zmet (by decide) (Nat.le_of_ble_eq_true rfl) (fun p e s m args below meth c C hr hlk hK hSt hW ls hl => zw_M_keep C hr hlk hK hSt hap   x1 x2 x3 S nx1 nx2 nx3 hf _ _ _ hW va_S.rf hl)
/-! IslandOfficeModel.row(III)I -/
abbrev zy_M_row : MethodName := ⟨"IslandOfficeModel", "row", "(III)I"⟩
abbrev zb_M_row : ByteArray := prog_14_method_67_code
abbrev zm_M_row : Room := { frames := 2, cells := 0, slots := 0, locals := 42 }
theorem zq_M_row : zMy zy_M_row zb_M_row 5 (some .int) 3 := ⟨zk_2035, zk_2033, zk_2034, zk_14, by decide, by decide, by decide +kernel⟩
theorem zd_M_row_0 : decode zb_M_row 0 = .ok (.aload_n 0, 1) := by decide +kernel
theorem zd_M_row_1 : decode zb_M_row 1 = .ok (.iconst 0, 1) := by decide +kernel
theorem zd_M_row_2 : decode zb_M_row 2 = .ok (.putfield 46, 3) := by decide +kernel
theorem zd_M_row_5 : decode zb_M_row 5 = .ok (.iload_n 1, 1) := by decide +kernel
theorem zd_M_row_6 : decode zb_M_row 6 = .ok (.invokestatic 172, 3) := by decide +kernel
theorem zd_M_row_9 : decode zb_M_row 9 = .ok (.ifCond .eq 18, 3) := by decide +kernel
theorem zd_M_row_12 : decode zb_M_row 12 = .ok (.iload_n 2, 1) := by decide +kernel
theorem zd_M_row_13 : decode zb_M_row 13 = .ok (.iconst 0, 1) := by decide +kernel
theorem zd_M_row_14 : decode zb_M_row 14 = .ok (.iconst 2, 1) := by decide +kernel
theorem zd_M_row_15 : decode zb_M_row 15 = .ok (.invokestatic 53, 3) := by decide +kernel
theorem zd_M_row_18 : decode zb_M_row 18 = .ok (.ifCond .eq 9, 3) := by decide +kernel
theorem zd_M_row_21 : decode zb_M_row 21 = .ok (.iload_n 3, 1) := by decide +kernel
theorem zd_M_row_22 : decode zb_M_row 22 = .ok (.bipush 120, 2) := by decide +kernel
theorem zd_M_row_24 : decode zb_M_row 24 = .ok (.if_icmp .le 5, 3) := by decide +kernel
theorem zd_M_row_27 : decode zb_M_row 27 = .ok (.iconst (-1), 1) := by decide +kernel
theorem zd_M_row_28 : decode zb_M_row 28 = .ok (.ireturn, 1) := by decide +kernel
theorem zd_M_row_29 : decode zb_M_row 29 = .ok (.iload_n 3, 1) := by decide +kernel
theorem zd_M_row_30 : decode zb_M_row 30 = .ok (.ifCond .ge 6, 3) := by decide +kernel
theorem zd_M_row_33 : decode zb_M_row 33 = .ok (.bipush (-14), 2) := by decide +kernel
theorem zd_M_row_35 : decode zb_M_row 35 = .ok (.ireturn, 1) := by decide +kernel
theorem zd_M_row_36 : decode zb_M_row 36 = .ok (.aload_n 0, 1) := by decide +kernel
theorem zd_M_row_37 : decode zb_M_row 37 = .ok (.getfield 22, 3) := by decide +kernel
theorem zd_M_row_40 : decode zb_M_row 40 = .ok (.iload_n 1, 1) := by decide +kernel
theorem zd_M_row_41 : decode zb_M_row 41 = .ok (.iconst 3, 1) := by decide +kernel
theorem zd_M_row_42 : decode zb_M_row 42 = .ok (.iastore, 1) := by decide +kernel
theorem zd_M_row_43 : decode zb_M_row 43 = .ok (.aload_n 0, 1) := by decide +kernel
theorem zd_M_row_44 : decode zb_M_row 44 = .ok (.getfield 26, 3) := by decide +kernel
theorem zd_M_row_47 : decode zb_M_row 47 = .ok (.iload_n 1, 1) := by decide +kernel
theorem zd_M_row_48 : decode zb_M_row 48 = .ok (.iload_n 2, 1) := by decide +kernel
theorem zd_M_row_49 : decode zb_M_row 49 = .ok (.iastore, 1) := by decide +kernel
theorem zd_M_row_50 : decode zb_M_row 50 = .ok (.aload_n 0, 1) := by decide +kernel
theorem zd_M_row_51 : decode zb_M_row 51 = .ok (.getfield 29, 3) := by decide +kernel
theorem zd_M_row_54 : decode zb_M_row 54 = .ok (.iload_n 1, 1) := by decide +kernel
theorem zd_M_row_55 : decode zb_M_row 55 = .ok (.iload_n 3, 1) := by decide +kernel
theorem zd_M_row_56 : decode zb_M_row 56 = .ok (.iastore, 1) := by decide +kernel
theorem zd_M_row_57 : decode zb_M_row 57 = .ok (.iconst 0, 1) := by decide +kernel
theorem zd_M_row_58 : decode zb_M_row 58 = .ok (.istore 4, 2) := by decide +kernel
theorem zd_M_row_60 : decode zb_M_row 60 = .ok (.iload 4, 2) := by decide +kernel
theorem zd_M_row_62 : decode zb_M_row 62 = .ok (.bipush 120, 2) := by decide +kernel
theorem zd_M_row_64 : decode zb_M_row 64 = .ok (.if_icmp .ge 19, 3) := by decide +kernel
theorem zd_M_row_67 : decode zb_M_row 67 = .ok (.aload_n 0, 1) := by decide +kernel
theorem zd_M_row_68 : decode zb_M_row 68 = .ok (.getfield 34, 3) := by decide +kernel
theorem zd_M_row_71 : decode zb_M_row 71 = .ok (.iload_n 1, 1) := by decide +kernel
theorem zd_M_row_72 : decode zb_M_row 72 = .ok (.aaload, 1) := by decide +kernel
theorem zd_M_row_73 : decode zb_M_row 73 = .ok (.iload 4, 2) := by decide +kernel
theorem zd_M_row_75 : decode zb_M_row 75 = .ok (.iconst 0, 1) := by decide +kernel
theorem zd_M_row_76 : decode zb_M_row 76 = .ok (.iastore, 1) := by decide +kernel
theorem zd_M_row_77 : decode zb_M_row 77 = .ok (.iinc 4 1, 3) := by decide +kernel
theorem zd_M_row_80 : decode zb_M_row 80 = .ok (.goto (-20), 3) := by decide +kernel
theorem zd_M_row_83 : decode zb_M_row 83 = .ok (.iconst 0, 1) := by decide +kernel
theorem zd_M_row_84 : decode zb_M_row 84 = .ok (.ireturn, 1) := by decide +kernel

def zf_M_row_60 : Nat → Int → Int → Sg → Option (Int × Sg)
  | 0, _, _, _ => none
  | n + 1, x1, x4, S =>
    if 120 ≤ x4 then (some (0, S)) else (zck (0 ≤ x1 ∧ x1 < 8) <| zck (0 ≤ x4 ∧ x4 < 120) <| zlt (zu S 10 x1 0 x4 0) fun S4 => zlt (zw (x4 + 1)) fun v5 => (zf_M_row_60 n) (x1) (v5) S4)
set_option maxHeartbeats 4000000 in
set_option maxRecDepth 100000 in
theorem zw_M_row_60 {p : Program} {l : Launch} {e : Env} {s : State} {m : MethodId} {args : Array Value} {below : List Frame} {meth : Method} {c : Code} {B : zB} (C : CallFix p m c zb_M_row 5 s args zT "IslandOfficeModel") (hr : meth.sig.returnType = some .int) (hlk : meth.locks = false) (hK : zK B s) (hSt : zSt B s) (hap : zAp B) {res : Int} {S9 : Sg} : ∀ n : Nat, ∀ (x1 : Int) (x4 : Int) (S : Sg) (nx1 : zn x1) (nx4 : zn x4), zf_M_row_60 n x1 x4 S = some (res, S9) → ∀ (H : Heap) (locs : List Loc) (ls : Array Slot), zW B S H → va_S B.2.2.2 s.heap H locs → lv_has ls 5 [(0, .ref (B.2.1 9 (0) (0))), (1, .int (zI (x1))), (4, .int (zI (x4)))] → W p l e zm_M_row s m args below meth c H locs 0 0 (MQ below (zQi B res S9) args s 0 0 B.2.2.2) (F0 m 60 ls []) := by
  intro n
  induction n with
  | zero =>
    intro x1 x4 S nx1 nx4 hf H locs ls hW hS hl
    cases hf
  | succ n ih =>
    intro x1 x4 S nx1 nx4 hf H locs ls hW hS hl
    rw [zf_M_row_60] at hf
    refine lv_iload C.1 C.2.1 zd_M_row_60 (lv_at hl 2 rfl) ?_
    refine zr_bipush C zd_M_row_62 (by decide) ?_
    refine zr_icmp_ge (tgt := 83) C nx4 (znb rfl) zd_M_row_64 (by decide) (fun c1 => ?_) (fun c1 => ?_)
    · rw [if_pos c1] at hf
      refine zr_iconst C zd_M_row_83 ?_
      cases hf
      exact zre_i C hr hlk hK hW hS (znb rfl) zd_M_row_84
    · rw [if_neg c1] at hf
      refine lv_aload_n C.1 C.2.1 zd_M_row_67 rfl (lv_at hl 0 rfl) ?_
      refine zg_M_rows (r := 0) C hK hW (zvd_9 (by decide) (by decide)) zk_1508 zd_M_row_68 ?_
      refine lv_iload_n C.1 C.2.1 zd_M_row_71 rfl (lv_at hl 1 rfl) ?_
      obtain ⟨h2, hf⟩ := zck_some hf
      refine zaald (t0 := 4) C hK hW (zvd_9 (by decide) (by decide)) (fun f => ze_9_4 B f (0)) rfl rfl (by decide) h2 zd_M_row_72 (a := B.2.1 10 (x1) (0)) (by rw [Int.toNat_of_nonneg h2.1]) ?_
      refine lv_iload C.1 C.2.1 zd_M_row_73 (lv_at hl 2 rfl) ?_
      refine zr_iconst C zd_M_row_75 ?_
      obtain ⟨h3, hf⟩ := zck_some hf
      obtain ⟨S4, eS4, hf⟩ := zlt_some hf
      refine ziast C hK hap hW hS (zvd_10 h2 (by decide)) (fun f => ze_10_0 B f (x1)) (by decide) rfl (znb rfl) h3 zd_M_row_76 (fun H locs hW hS => ?_)
      rw [eS4] at hW
      obtain ⟨v5, ev5, hf⟩ := zlt_some hf
      have nv5 : zn v5 := by rw [← ev5]; exact zn_w _
      refine lv_iinc (v := zI v5) (lv' := [(4, .int (zI (v5))), (0, .ref (B.2.1 9 (0) (0))), (1, .int (zI (x1)))]) C.1 C.2.1 zd_M_row_77 hl (k := 2) rfl (by rw [← ev5, ← zI_add]; rfl) (by decide) rfl (fun ls hl => ?_)
      refine lv_goto (tgt := 60) C.1 C.2.1 zd_M_row_80 (by decide) ?_
      exact ih (x1) (v5) S4 nx1 nv5 hf _ _ _ hW hS (lv_sub hl [1, 2, 0] rfl)

def zf_M_row (x1 : Int) (x2 : Int) (x3 : Int) (S : Sg) : Option (Int × Sg) :=
    zlt (zu S 9 0 0 4 0) fun S1 => zbd (zf_M_isShelf x1 S1) fun a2 S3 => if a2 = 0 then (some (-1, S3)) else (zbd (zf_M_in x2 0 2 S3) fun a5 S6 => if a5 = 0 then (some (-1, S6)) else (if x3 ≤ 120 then (if 0 ≤ x3 then (zck (0 ≤ x1 ∧ x1 < 8) <| zlt (zu S6 9 0 1 x1 3) fun S11 => zlt (zu S11 9 0 2 x1 x2) fun S12 => zlt (zu S12 9 0 3 x1 x3) fun S13 => zf_M_row_60 4096 (x1) (0) S13) else (some (-14, S6))) else (some (-1, S6))))
set_option maxHeartbeats 4000000 in
set_option maxRecDepth 100000 in
theorem zw_M_row {p : Program} {l : Launch} {e : Env} {s : State} {m : MethodId} {args : Array Value} {below : List Frame} {meth : Method} {c : Code} {B : zB} (C : CallFix p m c zb_M_row 5 s args zT "IslandOfficeModel") (hr : meth.sig.returnType = some .int) (hlk : meth.locks = false) (hK : zK B s) (hSt : zSt B s) (hap : zAp B) {res : Int} {S9 : Sg} : ∀ (x1 : Int) (x2 : Int) (x3 : Int) (S : Sg) (nx1 : zn x1) (nx2 : zn x2) (nx3 : zn x3), zf_M_row x1 x2 x3 S = some (res, S9) → ∀ (H : Heap) (locs : List Loc) (ls : Array Slot), zW B S H → va_S B.2.2.2 s.heap H locs → lv_has ls 5 [(0, .ref (B.2.1 9 (0) (0))), (1, .int (zI (x1))), (2, .int (zI (x2))), (3, .int (zI (x3)))] → W p l e zm_M_row s m args below meth c H locs 0 0 (MQ below (zQi B res S9) args s 0 0 B.2.2.2) (F0 m 0 ls []) := by
  intro x1 x2 x3 S nx1 nx2 nx3 hf H locs ls hW hS hl
  unfold zf_M_row at hf
  refine lv_aload_n C.1 C.2.1 zd_M_row_0 rfl (lv_at hl 0 rfl) ?_
  refine zr_iconst C zd_M_row_1 ?_
  obtain ⟨S1, eS1, hf⟩ := zlt_some hf
  refine zp_M_thrown (r := 0) C hK hap hW hS (zvd_9 (by decide) (by decide)) zk_1504 (znb rfl) zd_M_row_2 (fun H locs hW hS => ?_)
  rw [eS1] at hW
  refine lv_iload_n C.1 C.2.1 zd_M_row_5 rfl (lv_at hl 1 rfl) ?_
  obtain ⟨a2, S3, ea2, hf⟩ := zbd_some hf
  refine zcSi (As := [.int (zI (x1))]) (rest := []) C hK hSt hW hS (zc_M_isShelf hap x1 S1 nx1 ea2) zq_M_isShelf zk_1645 ⟨rfl, rfl, by decide, by decide⟩ ⟨by decide, by decide⟩ rfl hl.1 rfl (lv_room (Nat.le_of_ble_eq_true rfl)) zd_M_row_6 (fun na2 H locs hW hS => ?_)
  refine zr_if_eq (tgt := 27) C na2 zd_M_row_9 (by decide) (fun c4 => ?_) (fun c4 => ?_)
  · rw [if_pos c4] at hf
    refine zr_iconst C zd_M_row_27 ?_
    cases hf
    exact zre_i C hr hlk hK hW hS (znb rfl) zd_M_row_28
  · rw [if_neg c4] at hf
    refine lv_iload_n C.1 C.2.1 zd_M_row_12 rfl (lv_at hl 2 rfl) ?_
    refine zr_iconst C zd_M_row_13 ?_
    refine zr_iconst C zd_M_row_14 ?_
    obtain ⟨a5, S6, ea5, hf⟩ := zbd_some hf
    refine zcSi (As := [.int (zI (x2)), .int (zI (0)), .int (zI (2))]) (rest := []) C hK hSt hW hS (zc_M_in hap x2 0 2 S3 nx2 (znb rfl) (znb rfl) ea5) zq_M_in zk_1558 ⟨rfl, rfl, by decide, by decide⟩ ⟨by decide, by decide⟩ rfl hl.1 rfl (lv_room (Nat.le_of_ble_eq_true rfl)) zd_M_row_15 (fun na5 H locs hW hS => ?_)
    refine zr_if_eq (tgt := 27) C na5 zd_M_row_18 (by decide) (fun c7 => ?_) (fun c7 => ?_)
    · rw [if_pos c7] at hf
      refine zr_iconst C zd_M_row_27 ?_
      cases hf
      exact zre_i C hr hlk hK hW hS (znb rfl) zd_M_row_28
    · rw [if_neg c7] at hf
      refine lv_iload_n C.1 C.2.1 zd_M_row_21 rfl (lv_at hl 3 rfl) ?_
      refine zr_bipush C zd_M_row_22 (by decide) ?_
      refine zr_icmp_le (tgt := 29) C nx3 (znb rfl) zd_M_row_24 (by decide) (fun c8 => ?_) (fun c8 => ?_)
      · rw [if_pos c8] at hf
        refine lv_iload_n C.1 C.2.1 zd_M_row_29 rfl (lv_at hl 3 rfl) ?_
        refine zr_if_ge (tgt := 36) C nx3 zd_M_row_30 (by decide) (fun c9 => ?_) (fun c9 => ?_)
        · rw [if_pos c9] at hf
          refine lv_aload_n C.1 C.2.1 zd_M_row_36 rfl (lv_at hl 0 rfl) ?_
          refine zg_M_held (r := 0) C hK hW (zvd_9 (by decide) (by decide)) zk_1505 zd_M_row_37 ?_
          refine lv_iload_n C.1 C.2.1 zd_M_row_40 rfl (lv_at hl 1 rfl) ?_
          refine zr_iconst C zd_M_row_41 ?_
          obtain ⟨h10, hf⟩ := zck_some hf
          obtain ⟨S11, eS11, hf⟩ := zlt_some hf
          refine ziast C hK hap hW hS (zvd_9 (by decide) (by decide)) (fun f => ze_9_1 B f (0)) (by decide) rfl (znb rfl) h10 zd_M_row_42 (fun H locs hW hS => ?_)
          rw [eS11] at hW
          refine lv_aload_n C.1 C.2.1 zd_M_row_43 rfl (lv_at hl 0 rfl) ?_
          refine zg_M_rowSort (r := 0) C hK hW (zvd_9 (by decide) (by decide)) zk_1506 zd_M_row_44 ?_
          refine lv_iload_n C.1 C.2.1 zd_M_row_47 rfl (lv_at hl 1 rfl) ?_
          refine lv_iload_n C.1 C.2.1 zd_M_row_48 rfl (lv_at hl 2 rfl) ?_
          obtain ⟨S12, eS12, hf⟩ := zlt_some hf
          refine ziast C hK hap hW hS (zvd_9 (by decide) (by decide)) (fun f => ze_9_2 B f (0)) (by decide) rfl nx2 h10 zd_M_row_49 (fun H locs hW hS => ?_)
          rw [eS12] at hW
          refine lv_aload_n C.1 C.2.1 zd_M_row_50 rfl (lv_at hl 0 rfl) ?_
          refine zg_M_rowSize (r := 0) C hK hW (zvd_9 (by decide) (by decide)) zk_1507 zd_M_row_51 ?_
          refine lv_iload_n C.1 C.2.1 zd_M_row_54 rfl (lv_at hl 1 rfl) ?_
          refine lv_iload_n C.1 C.2.1 zd_M_row_55 rfl (lv_at hl 3 rfl) ?_
          obtain ⟨S13, eS13, hf⟩ := zlt_some hf
          refine ziast C hK hap hW hS (zvd_9 (by decide) (by decide)) (fun f => ze_9_3 B f (0)) (by decide) rfl nx3 h10 zd_M_row_56 (fun H locs hW hS => ?_)
          rw [eS13] at hW
          refine zr_iconst C zd_M_row_57 ?_
          refine lv_istore (lv' := [(4, .int (zI (0))), (0, .ref (B.2.1 9 (0) (0))), (1, .int (zI (x1))), (2, .int (zI (x2))), (3, .int (zI (x3)))]) C.1 C.2.1 zd_M_row_58 hl (by decide) rfl (fun ls hl => ?_)
          exact zw_M_row_60 C hr hlk hK hSt hap   4096 (x1) (0) S13 nx1 (znb rfl) hf _ _ _ hW hS (lv_sub hl [1, 2, 0] rfl)
        · rw [if_neg c9] at hf
          refine zr_bipush C zd_M_row_33 (by decide) ?_
          cases hf
          exact zre_i C hr hlk hK hW hS (znb rfl) zd_M_row_35
      · rw [if_neg c8] at hf
        refine zr_iconst C zd_M_row_27 ?_
        cases hf
        exact zre_i C hr hlk hK hW hS (znb rfl) zd_M_row_28

theorem zc_M_row {l : Launch} {B : zB} (hap : zAp B) (x1 : Int) (x2 : Int) (x3 : Int) (S : Sg) (nx1 : zn x1) (nx2 : zn x2) (nx3 : zn x3) {res : Int} {S9 : Sg} (hf : zf_M_row x1 x2 x3 S = some (res, S9)) : Met l zy_M_row (Cond.code zy_M_row zb_M_row 5 (some .int) :: zT) zm_M_row (zP B S [.ref (B.2.1 9 (0) (0)), .int (zI (x1)), .int (zI (x2)), .int (zI (x3))]) (zQi B res S9) 0 0 B.2.2.2 :=
  zmet (by decide) (Nat.le_of_ble_eq_true rfl) (fun p e s m args below meth c C hr hlk hK hSt hW ls hl => zw_M_row C hr hlk hK hSt hap   x1 x2 x3 S nx1 nx2 nx3 hf _ _ _ hW va_S.rf hl)
/-! IslandOfficeModel.put(III)I -/
abbrev zy_M_put : MethodName := ⟨"IslandOfficeModel", "put", "(III)I"⟩
abbrev zb_M_put : ByteArray := prog_14_method_68_code
abbrev zm_M_put : Room := { frames := 2, cells := 0, slots := 0, locals := 42 }
theorem zq_M_put : zMy zy_M_put zb_M_put 4 (some .int) 3 := ⟨zk_2039, zk_2037, zk_2038, zk_14, by decide, by decide, by decide +kernel⟩
theorem zd_M_put_0 : decode zb_M_put 0 = .ok (.aload_n 0, 1) := by decide +kernel
theorem zd_M_put_1 : decode zb_M_put 1 = .ok (.iconst 0, 1) := by decide +kernel
theorem zd_M_put_2 : decode zb_M_put 2 = .ok (.putfield 46, 3) := by decide +kernel
theorem zd_M_put_5 : decode zb_M_put 5 = .ok (.iload_n 1, 1) := by decide +kernel
theorem zd_M_put_6 : decode zb_M_put 6 = .ok (.invokestatic 172, 3) := by decide +kernel
theorem zd_M_put_9 : decode zb_M_put 9 = .ok (.ifCond .ne 5, 3) := by decide +kernel
theorem zd_M_put_12 : decode zb_M_put 12 = .ok (.iconst (-1), 1) := by decide +kernel
theorem zd_M_put_13 : decode zb_M_put 13 = .ok (.ireturn, 1) := by decide +kernel
theorem zd_M_put_14 : decode zb_M_put 14 = .ok (.aload_n 0, 1) := by decide +kernel
theorem zd_M_put_15 : decode zb_M_put 15 = .ok (.iload_n 1, 1) := by decide +kernel
theorem zd_M_put_16 : decode zb_M_put 16 = .ok (.invokevirtual 285, 3) := by decide +kernel
theorem zd_M_put_19 : decode zb_M_put 19 = .ok (.ifCond .eq 9, 3) := by decide +kernel
theorem zd_M_put_22 : decode zb_M_put 22 = .ok (.aload_n 0, 1) := by decide +kernel
theorem zd_M_put_23 : decode zb_M_put 23 = .ok (.iload_n 1, 1) := by decide +kernel
theorem zd_M_put_24 : decode zb_M_put 24 = .ok (.invokevirtual 285, 3) := by decide +kernel
theorem zd_M_put_27 : decode zb_M_put 27 = .ok (.ireturn, 1) := by decide +kernel
theorem zd_M_put_28 : decode zb_M_put 28 = .ok (.iload_n 2, 1) := by decide +kernel
theorem zd_M_put_29 : decode zb_M_put 29 = .ok (.iconst 0, 1) := by decide +kernel
theorem zd_M_put_30 : decode zb_M_put 30 = .ok (.aload_n 0, 1) := by decide +kernel
theorem zd_M_put_31 : decode zb_M_put 31 = .ok (.getfield 29, 3) := by decide +kernel
theorem zd_M_put_34 : decode zb_M_put 34 = .ok (.iload_n 1, 1) := by decide +kernel
theorem zd_M_put_35 : decode zb_M_put 35 = .ok (.iaload, 1) := by decide +kernel
theorem zd_M_put_36 : decode zb_M_put 36 = .ok (.iconst 1, 1) := by decide +kernel
theorem zd_M_put_37 : decode zb_M_put 37 = .ok (.isub, 1) := by decide +kernel
theorem zd_M_put_38 : decode zb_M_put 38 = .ok (.invokestatic 53, 3) := by decide +kernel
theorem zd_M_put_41 : decode zb_M_put 41 = .ok (.ifCond .ne 6, 3) := by decide +kernel
theorem zd_M_put_44 : decode zb_M_put 44 = .ok (.bipush (-13), 2) := by decide +kernel
theorem zd_M_put_46 : decode zb_M_put 46 = .ok (.ireturn, 1) := by decide +kernel
theorem zd_M_put_47 : decode zb_M_put 47 = .ok (.aload_n 0, 1) := by decide +kernel
theorem zd_M_put_48 : decode zb_M_put 48 = .ok (.getfield 34, 3) := by decide +kernel
theorem zd_M_put_51 : decode zb_M_put 51 = .ok (.iload_n 1, 1) := by decide +kernel
theorem zd_M_put_52 : decode zb_M_put 52 = .ok (.aaload, 1) := by decide +kernel
theorem zd_M_put_53 : decode zb_M_put 53 = .ok (.iload_n 2, 1) := by decide +kernel
theorem zd_M_put_54 : decode zb_M_put 54 = .ok (.aload_n 0, 1) := by decide +kernel
theorem zd_M_put_55 : decode zb_M_put 55 = .ok (.getfield 26, 3) := by decide +kernel
theorem zd_M_put_58 : decode zb_M_put 58 = .ok (.iload_n 1, 1) := by decide +kernel
theorem zd_M_put_59 : decode zb_M_put 59 = .ok (.iaload, 1) := by decide +kernel
theorem zd_M_put_60 : decode zb_M_put 60 = .ok (.ifCond .ne 8, 3) := by decide +kernel
theorem zd_M_put_63 : decode zb_M_put 63 = .ok (.iload_n 3, 1) := by decide +kernel
theorem zd_M_put_64 : decode zb_M_put 64 = .ok (.i2b, 1) := by decide +kernel
theorem zd_M_put_65 : decode zb_M_put 65 = .ok (.goto 19, 3) := by decide +kernel
theorem zd_M_put_68 : decode zb_M_put 68 = .ok (.aload_n 0, 1) := by decide +kernel
theorem zd_M_put_69 : decode zb_M_put 69 = .ok (.getfield 26, 3) := by decide +kernel
theorem zd_M_put_72 : decode zb_M_put 72 = .ok (.iload_n 1, 1) := by decide +kernel
theorem zd_M_put_73 : decode zb_M_put 73 = .ok (.iaload, 1) := by decide +kernel
theorem zd_M_put_74 : decode zb_M_put 74 = .ok (.iconst 1, 1) := by decide +kernel
theorem zd_M_put_75 : decode zb_M_put 75 = .ok (.if_icmp .ne 8, 3) := by decide +kernel
theorem zd_M_put_78 : decode zb_M_put 78 = .ok (.iload_n 3, 1) := by decide +kernel
theorem zd_M_put_79 : decode zb_M_put 79 = .ok (.i2s, 1) := by decide +kernel
theorem zd_M_put_80 : decode zb_M_put 80 = .ok (.goto 4, 3) := by decide +kernel
theorem zd_M_put_83 : decode zb_M_put 83 = .ok (.iload_n 3, 1) := by decide +kernel
theorem zd_M_put_84 : decode zb_M_put 84 = .ok (.iastore, 1) := by decide +kernel
theorem zd_M_put_85 : decode zb_M_put 85 = .ok (.iconst 0, 1) := by decide +kernel
theorem zd_M_put_86 : decode zb_M_put 86 = .ok (.ireturn, 1) := by decide +kernel

def zf_M_put_84 (yt0 : Int) (xt1 : Int) (xt2 : Int) (S : Sg) : Option (Int × Sg) :=
    zck (0 ≤ xt1 ∧ xt1 < 120) <| zlt (zu S 10 yt0 0 xt1 xt2) fun S2 => some (0, S2)
set_option maxHeartbeats 4000000 in
set_option maxRecDepth 100000 in
theorem zw_M_put_84 {p : Program} {l : Launch} {e : Env} {s : State} {m : MethodId} {args : Array Value} {below : List Frame} {meth : Method} {c : Code} {B : zB} (C : CallFix p m c zb_M_put 4 s args zT "IslandOfficeModel") (hr : meth.sig.returnType = some .int) (hlk : meth.locks = false) (hK : zK B s) (hSt : zSt B s) (hap : zAp B) {res : Int} {S9 : Sg} : ∀ (yt0 : Int) (xt1 : Int) (xt2 : Int) (S : Sg) (hyt0 : 0 ≤ yt0 ∧ yt0 < 8) (nxt1 : zn xt1) (nxt2 : zn xt2), zf_M_put_84 yt0 xt1 xt2 S = some (res, S9) → ∀ (H : Heap) (locs : List Loc) (ls : Array Slot), zW B S H → va_S B.2.2.2 s.heap H locs → lv_has ls 4 [] → W p l e zm_M_put s m args below meth c H locs 0 0 (MQ below (zQi B res S9) args s 0 0 B.2.2.2) (F0 m 84 ls [.int (zI (xt2)), .int (zI (xt1)), .ref (B.2.1 10 (yt0) (0))]) := by
  intro yt0 xt1 xt2 S hyt0 nxt1 nxt2 hf H locs ls hW hS hl
  unfold zf_M_put_84 at hf
  obtain ⟨h1, hf⟩ := zck_some hf
  obtain ⟨S2, eS2, hf⟩ := zlt_some hf
  refine ziast C hK hap hW hS (zvd_10 hyt0 (by decide)) (fun f => ze_10_0 B f (yt0)) (by decide) rfl nxt2 h1 zd_M_put_84 (fun H locs hW hS => ?_)
  rw [eS2] at hW
  refine zr_iconst C zd_M_put_85 ?_
  cases hf
  exact zre_i C hr hlk hK hW hS (znb rfl) zd_M_put_86

def zf_M_put (x1 : Int) (x2 : Int) (x3 : Int) (S : Sg) : Option (Int × Sg) :=
    zlt (zu S 9 0 0 4 0) fun S1 => zbd (zf_M_isShelf x1 S1) fun a2 S3 => if a2 = 0 then (some (-1, S3)) else (zbd (zf_M_noRow x1 S3) fun a5 S6 => if a5 = 0 then (zck (0 ≤ x1 ∧ x1 < 8) <| zbd (zf_M_in x2 0 (zw ((S6 9 0 3 x1) - 1)) S6) fun a9 S10 => if a9 = 0 then (some (-13, S10)) else (if (S10 9 0 2 x1) = 0 then (zf_M_put_84 (x1) (x2) (zi2b x3) S10) else (if (S10 9 0 2 x1) = 1 then (zf_M_put_84 (x1) (x2) (zi2s x3) S10) else (zf_M_put_84 (x1) (x2) (x3) S10)))) else (zbd (zf_M_noRow x1 S6) fun a14 S15 => some (a14, S15)))
set_option maxHeartbeats 4000000 in
set_option maxRecDepth 100000 in
theorem zw_M_put {p : Program} {l : Launch} {e : Env} {s : State} {m : MethodId} {args : Array Value} {below : List Frame} {meth : Method} {c : Code} {B : zB} (C : CallFix p m c zb_M_put 4 s args zT "IslandOfficeModel") (hr : meth.sig.returnType = some .int) (hlk : meth.locks = false) (hK : zK B s) (hSt : zSt B s) (hap : zAp B) {res : Int} {S9 : Sg} : ∀ (x1 : Int) (x2 : Int) (x3 : Int) (S : Sg) (nx1 : zn x1) (nx2 : zn x2) (nx3 : zn x3), zf_M_put x1 x2 x3 S = some (res, S9) → ∀ (H : Heap) (locs : List Loc) (ls : Array Slot), zW B S H → va_S B.2.2.2 s.heap H locs → lv_has ls 4 [(0, .ref (B.2.1 9 (0) (0))), (1, .int (zI (x1))), (2, .int (zI (x2))), (3, .int (zI (x3)))] → W p l e zm_M_put s m args below meth c H locs 0 0 (MQ below (zQi B res S9) args s 0 0 B.2.2.2) (F0 m 0 ls []) := by
  intro x1 x2 x3 S nx1 nx2 nx3 hf H locs ls hW hS hl
  unfold zf_M_put at hf
  refine lv_aload_n C.1 C.2.1 zd_M_put_0 rfl (lv_at hl 0 rfl) ?_
  refine zr_iconst C zd_M_put_1 ?_
  obtain ⟨S1, eS1, hf⟩ := zlt_some hf
  refine zp_M_thrown (r := 0) C hK hap hW hS (zvd_9 (by decide) (by decide)) zk_1504 (znb rfl) zd_M_put_2 (fun H locs hW hS => ?_)
  rw [eS1] at hW
  refine lv_iload_n C.1 C.2.1 zd_M_put_5 rfl (lv_at hl 1 rfl) ?_
  obtain ⟨a2, S3, ea2, hf⟩ := zbd_some hf
  refine zcSi (As := [.int (zI (x1))]) (rest := []) C hK hSt hW hS (zc_M_isShelf hap x1 S1 nx1 ea2) zq_M_isShelf zk_1645 ⟨rfl, rfl, by decide, by decide⟩ ⟨by decide, by decide⟩ rfl hl.1 rfl (lv_room (Nat.le_of_ble_eq_true rfl)) zd_M_put_6 (fun na2 H locs hW hS => ?_)
  refine zr_if_ne (tgt := 14) C na2 zd_M_put_9 (by decide) (fun c4 => ?_) (fun c4 => ?_)
  · rw [if_neg c4] at hf
    refine lv_aload_n C.1 C.2.1 zd_M_put_14 rfl (lv_at hl 0 rfl) ?_
    refine lv_iload_n C.1 C.2.1 zd_M_put_15 rfl (lv_at hl 1 rfl) ?_
    obtain ⟨a5, S6, ea5, hf⟩ := zbd_some hf
    refine zcVi (As := [.int (zI (x1))]) (rest := []) C hK hSt hW hS (zc_M_noRow hap x1 S3 nx1 ea5) zq_M_noRow zk_1875 (zrecv hK hW (zvd_9 (by decide) (by decide)) (ze_9_0 B _ (0)) rfl) ⟨rfl, rfl, by decide, by decide⟩ ⟨by decide, by decide⟩ rfl hl.1 rfl (lv_room (Nat.le_of_ble_eq_true rfl)) zd_M_put_16 (fun na5 H locs hW hS => ?_)
    refine zr_if_eq (tgt := 28) C na5 zd_M_put_19 (by decide) (fun c7 => ?_) (fun c7 => ?_)
    · rw [if_pos c7] at hf
      refine lv_iload_n C.1 C.2.1 zd_M_put_28 rfl (lv_at hl 2 rfl) ?_
      refine zr_iconst C zd_M_put_29 ?_
      refine lv_aload_n C.1 C.2.1 zd_M_put_30 rfl (lv_at hl 0 rfl) ?_
      refine zg_M_rowSize (r := 0) C hK hW (zvd_9 (by decide) (by decide)) zk_1507 zd_M_put_31 ?_
      refine lv_iload_n C.1 C.2.1 zd_M_put_34 rfl (lv_at hl 1 rfl) ?_
      obtain ⟨h8, hf⟩ := zck_some hf
      refine ziald C hK hW (zvd_9 (by decide) (by decide)) (fun f => ze_9_3 B f (0)) (by decide) h8 zd_M_put_35 ?_
      refine zr_iconst C zd_M_put_36 ?_
      refine zr_isub C zd_M_put_37 ?_
      obtain ⟨a9, S10, ea9, hf⟩ := zbd_some hf
      refine zcSi (As := [.int (zI (x2)), .int (zI (0)), .int (zI (zw ((S6 9 0 3 x1) - 1)))]) (rest := []) C hK hSt hW hS (zc_M_in hap x2 0 (zw ((S6 9 0 3 x1) - 1)) S6 nx2 (znb rfl) (zn_w _) ea9) zq_M_in zk_1558 ⟨rfl, rfl, by decide, by decide⟩ ⟨by decide, by decide⟩ rfl hl.1 rfl (lv_room (Nat.le_of_ble_eq_true rfl)) zd_M_put_38 (fun na9 H locs hW hS => ?_)
      refine zr_if_ne (tgt := 47) C na9 zd_M_put_41 (by decide) (fun c11 => ?_) (fun c11 => ?_)
      · rw [if_neg c11] at hf
        refine lv_aload_n C.1 C.2.1 zd_M_put_47 rfl (lv_at hl 0 rfl) ?_
        refine zg_M_rows (r := 0) C hK hW (zvd_9 (by decide) (by decide)) zk_1508 zd_M_put_48 ?_
        refine lv_iload_n C.1 C.2.1 zd_M_put_51 rfl (lv_at hl 1 rfl) ?_
        refine zaald (t0 := 4) C hK hW (zvd_9 (by decide) (by decide)) (fun f => ze_9_4 B f (0)) rfl rfl (by decide) h8 zd_M_put_52 (a := B.2.1 10 (x1) (0)) (by rw [Int.toNat_of_nonneg h8.1]) ?_
        refine lv_iload_n C.1 C.2.1 zd_M_put_53 rfl (lv_at hl 2 rfl) ?_
        refine lv_aload_n C.1 C.2.1 zd_M_put_54 rfl (lv_at hl 0 rfl) ?_
        refine zg_M_rowSort (r := 0) C hK hW (zvd_9 (by decide) (by decide)) zk_1506 zd_M_put_55 ?_
        refine lv_iload_n C.1 C.2.1 zd_M_put_58 rfl (lv_at hl 1 rfl) ?_
        refine ziald C hK hW (zvd_9 (by decide) (by decide)) (fun f => ze_9_2 B f (0)) (by decide) h8 zd_M_put_59 ?_
        refine zr_if_ne (tgt := 68) C (zWn hW _ _ _ _ rfl) zd_M_put_60 (by decide) (fun c12 => ?_) (fun c12 => ?_)
        · rw [if_neg c12] at hf
          refine lv_aload_n C.1 C.2.1 zd_M_put_68 rfl (lv_at hl 0 rfl) ?_
          refine zg_M_rowSort (r := 0) C hK hW (zvd_9 (by decide) (by decide)) zk_1506 zd_M_put_69 ?_
          refine lv_iload_n C.1 C.2.1 zd_M_put_72 rfl (lv_at hl 1 rfl) ?_
          refine ziald C hK hW (zvd_9 (by decide) (by decide)) (fun f => ze_9_2 B f (0)) (by decide) h8 zd_M_put_73 ?_
          refine zr_iconst C zd_M_put_74 ?_
          refine zr_icmp_ne (tgt := 83) C (zWn hW _ _ _ _ rfl) (znb rfl) zd_M_put_75 (by decide) (fun c13 => ?_) (fun c13 => ?_)
          · rw [if_neg c13] at hf
            refine lv_iload_n C.1 C.2.1 zd_M_put_83 rfl (lv_at hl 3 rfl) ?_
            exact zw_M_put_84 C hr hlk hK hSt hap   (x1) (x2) (x3) S10 h8 nx2 nx3 hf _ _ _ hW hS (lv_sub hl [] rfl)
          · rw [if_pos c13] at hf
            refine lv_iload_n C.1 C.2.1 zd_M_put_78 rfl (lv_at hl 3 rfl) ?_
            refine zr_i2s C zd_M_put_79 ?_
            refine lv_goto (tgt := 84) C.1 C.2.1 zd_M_put_80 (by decide) ?_
            exact zw_M_put_84 C hr hlk hK hSt hap   (x1) (x2) (zi2s x3) S10 h8 nx2 (zn_i2s _) hf _ _ _ hW hS (lv_sub hl [] rfl)
        · rw [if_pos c12] at hf
          refine lv_iload_n C.1 C.2.1 zd_M_put_63 rfl (lv_at hl 3 rfl) ?_
          refine zr_i2b C zd_M_put_64 ?_
          refine lv_goto (tgt := 84) C.1 C.2.1 zd_M_put_65 (by decide) ?_
          exact zw_M_put_84 C hr hlk hK hSt hap   (x1) (x2) (zi2b x3) S10 h8 nx2 (zn_i2b _) hf _ _ _ hW hS (lv_sub hl [] rfl)
      · rw [if_pos c11] at hf
        refine zr_bipush C zd_M_put_44 (by decide) ?_
        cases hf
        exact zre_i C hr hlk hK hW hS (znb rfl) zd_M_put_46
    · rw [if_neg c7] at hf
      refine lv_aload_n C.1 C.2.1 zd_M_put_22 rfl (lv_at hl 0 rfl) ?_
      refine lv_iload_n C.1 C.2.1 zd_M_put_23 rfl (lv_at hl 1 rfl) ?_
      obtain ⟨a14, S15, ea14, hf⟩ := zbd_some hf
      refine zcVi (As := [.int (zI (x1))]) (rest := []) C hK hSt hW hS (zc_M_noRow hap x1 S6 nx1 ea14) zq_M_noRow zk_1875 (zrecv hK hW (zvd_9 (by decide) (by decide)) (ze_9_0 B _ (0)) rfl) ⟨rfl, rfl, by decide, by decide⟩ ⟨by decide, by decide⟩ rfl hl.1 rfl (lv_room (Nat.le_of_ble_eq_true rfl)) zd_M_put_24 (fun na14 H locs hW hS => ?_)
      cases hf
      exact zre_i C hr hlk hK hW hS na14 zd_M_put_27
  · rw [if_pos c4] at hf
    refine zr_iconst C zd_M_put_12 ?_
    cases hf
    exact zre_i C hr hlk hK hW hS (znb rfl) zd_M_put_13

theorem zc_M_put {l : Launch} {B : zB} (hap : zAp B) (x1 : Int) (x2 : Int) (x3 : Int) (S : Sg) (nx1 : zn x1) (nx2 : zn x2) (nx3 : zn x3) {res : Int} {S9 : Sg} (hf : zf_M_put x1 x2 x3 S = some (res, S9)) : Met l zy_M_put (Cond.code zy_M_put zb_M_put 4 (some .int) :: zT) zm_M_put (zP B S [.ref (B.2.1 9 (0) (0)), .int (zI (x1)), .int (zI (x2)), .int (zI (x3))]) (zQi B res S9) 0 0 B.2.2.2 :=
  zmet (by decide) (Nat.le_of_ble_eq_true rfl) (fun p e s m args below meth c C hr hlk hK hSt hW ls hl => zw_M_put C hr hlk hK hSt hap   x1 x2 x3 S nx1 nx2 nx3 hf _ _ _ hW va_S.rf hl)
/-! IslandOfficeModel.element(II)J -/
abbrev zy_M_element : MethodName := ⟨"IslandOfficeModel", "element", "(II)J"⟩
abbrev zb_M_element : ByteArray := prog_14_method_69_code
abbrev zm_M_element : Room := { frames := 2, cells := 0, slots := 0, locals := 42 }
theorem zq_M_element : zMy zy_M_element zb_M_element 3 (some .long) 2 := ⟨zk_2043, zk_2041, zk_2042, zk_14, by decide, by decide, by decide +kernel⟩
theorem zd_M_element_0 : decode zb_M_element 0 = .ok (.aload_n 0, 1) := by decide +kernel
theorem zd_M_element_1 : decode zb_M_element 1 = .ok (.iconst 0, 1) := by decide +kernel
theorem zd_M_element_2 : decode zb_M_element 2 = .ok (.putfield 46, 3) := by decide +kernel
theorem zd_M_element_5 : decode zb_M_element 5 = .ok (.iload_n 1, 1) := by decide +kernel
theorem zd_M_element_6 : decode zb_M_element 6 = .ok (.invokestatic 172, 3) := by decide +kernel
theorem zd_M_element_9 : decode zb_M_element 9 = .ok (.ifCond .ne 10, 3) := by decide +kernel
theorem zd_M_element_12 : decode zb_M_element 12 = .ok (.aload_n 0, 1) := by decide +kernel
theorem zd_M_element_13 : decode zb_M_element 13 = .ok (.iconst 1, 1) := by decide +kernel
theorem zd_M_element_14 : decode zb_M_element 14 = .ok (.putfield 46, 3) := by decide +kernel
theorem zd_M_element_17 : decode zb_M_element 17 = .ok (.lconst 0, 1) := by decide +kernel
theorem zd_M_element_18 : decode zb_M_element 18 = .ok (.lreturn, 1) := by decide +kernel
theorem zd_M_element_19 : decode zb_M_element 19 = .ok (.aload_n 0, 1) := by decide +kernel
theorem zd_M_element_20 : decode zb_M_element 20 = .ok (.getfield 22, 3) := by decide +kernel
theorem zd_M_element_23 : decode zb_M_element 23 = .ok (.iload_n 1, 1) := by decide +kernel
theorem zd_M_element_24 : decode zb_M_element 24 = .ok (.iaload, 1) := by decide +kernel
theorem zd_M_element_25 : decode zb_M_element 25 = .ok (.iconst 3, 1) := by decide +kernel
theorem zd_M_element_26 : decode zb_M_element 26 = .ok (.if_icmp .ne 19, 3) := by decide +kernel
theorem zd_M_element_29 : decode zb_M_element 29 = .ok (.iload_n 2, 1) := by decide +kernel
theorem zd_M_element_30 : decode zb_M_element 30 = .ok (.iconst 0, 1) := by decide +kernel
theorem zd_M_element_31 : decode zb_M_element 31 = .ok (.aload_n 0, 1) := by decide +kernel
theorem zd_M_element_32 : decode zb_M_element 32 = .ok (.getfield 29, 3) := by decide +kernel
theorem zd_M_element_35 : decode zb_M_element 35 = .ok (.iload_n 1, 1) := by decide +kernel
theorem zd_M_element_36 : decode zb_M_element 36 = .ok (.iaload, 1) := by decide +kernel
theorem zd_M_element_37 : decode zb_M_element 37 = .ok (.iconst 1, 1) := by decide +kernel
theorem zd_M_element_38 : decode zb_M_element 38 = .ok (.isub, 1) := by decide +kernel
theorem zd_M_element_39 : decode zb_M_element 39 = .ok (.invokestatic 53, 3) := by decide +kernel
theorem zd_M_element_42 : decode zb_M_element 42 = .ok (.ifCond .ne 10, 3) := by decide +kernel
theorem zd_M_element_45 : decode zb_M_element 45 = .ok (.aload_n 0, 1) := by decide +kernel
theorem zd_M_element_46 : decode zb_M_element 46 = .ok (.iconst 2, 1) := by decide +kernel
theorem zd_M_element_47 : decode zb_M_element 47 = .ok (.putfield 46, 3) := by decide +kernel
theorem zd_M_element_50 : decode zb_M_element 50 = .ok (.lconst 0, 1) := by decide +kernel
theorem zd_M_element_51 : decode zb_M_element 51 = .ok (.lreturn, 1) := by decide +kernel
theorem zd_M_element_52 : decode zb_M_element 52 = .ok (.aload_n 0, 1) := by decide +kernel
theorem zd_M_element_53 : decode zb_M_element 53 = .ok (.getfield 34, 3) := by decide +kernel
theorem zd_M_element_56 : decode zb_M_element 56 = .ok (.iload_n 1, 1) := by decide +kernel
theorem zd_M_element_57 : decode zb_M_element 57 = .ok (.aaload, 1) := by decide +kernel
theorem zd_M_element_58 : decode zb_M_element 58 = .ok (.iload_n 2, 1) := by decide +kernel
theorem zd_M_element_59 : decode zb_M_element 59 = .ok (.iaload, 1) := by decide +kernel
theorem zd_M_element_60 : decode zb_M_element 60 = .ok (.i2l, 1) := by decide +kernel
theorem zd_M_element_61 : decode zb_M_element 61 = .ok (.lreturn, 1) := by decide +kernel

def zf_M_element_45 (S : Sg) : Option (Int × Sg) :=
    zlt (zu S 9 0 0 4 2) fun S1 => some (0, S1)
set_option maxHeartbeats 4000000 in
set_option maxRecDepth 100000 in
theorem zw_M_element_45 {p : Program} {l : Launch} {e : Env} {s : State} {m : MethodId} {args : Array Value} {below : List Frame} {meth : Method} {c : Code} {B : zB} (C : CallFix p m c zb_M_element 3 s args zT "IslandOfficeModel") (hr : meth.sig.returnType = some .long) (hlk : meth.locks = false) (hK : zK B s) (hSt : zSt B s) (hap : zAp B) {res : Int} {S9 : Sg} : ∀  (S : Sg) , zf_M_element_45  S = some (res, S9) → ∀ (H : Heap) (locs : List Loc) (ls : Array Slot), zW B S H → va_S B.2.2.2 s.heap H locs → lv_has ls 3 [(0, .ref (B.2.1 9 (0) (0)))] → W p l e zm_M_element s m args below meth c H locs 0 0 (MQ below (zQl B res S9) args s 0 0 B.2.2.2) (F0 m 45 ls []) := by
  intro S hf H locs ls hW hS hl
  unfold zf_M_element_45 at hf
  refine lv_aload_n C.1 C.2.1 zd_M_element_45 rfl (lv_at hl 0 rfl) ?_
  refine zr_iconst C zd_M_element_46 ?_
  obtain ⟨S1, eS1, hf⟩ := zlt_some hf
  refine zp_M_thrown (r := 0) C hK hap hW hS (zvd_9 (by decide) (by decide)) zk_1504 (znb rfl) zd_M_element_47 (fun H locs hW hS => ?_)
  rw [eS1] at hW
  refine zr_lconst (k := 0) C zd_M_element_50 rfl ?_
  cases hf
  exact zre_l C hr hlk hK hW hS (zmb rfl) zd_M_element_51

def zf_M_element (x1 : Int) (x2 : Int) (S : Sg) : Option (Int × Sg) :=
    zlt (zu S 9 0 0 4 0) fun S1 => zbd (zf_M_isShelf x1 S1) fun a2 S3 => if a2 = 0 then (zlt (zu S3 9 0 0 4 1) fun S11 => some (0, S11)) else (zck (0 ≤ x1 ∧ x1 < 8) <| if (S3 9 0 1 x1) = 3 then (zbd (zf_M_in x2 0 (zw ((S3 9 0 3 x1) - 1)) S3) fun a7 S8 => if a7 = 0 then (zf_M_element_45  S8) else (zck (0 ≤ x2 ∧ x2 < 120) <| some (S8 10 x1 0 x2, S8))) else (zf_M_element_45  S3))
set_option maxHeartbeats 4000000 in
set_option maxRecDepth 100000 in
theorem zw_M_element {p : Program} {l : Launch} {e : Env} {s : State} {m : MethodId} {args : Array Value} {below : List Frame} {meth : Method} {c : Code} {B : zB} (C : CallFix p m c zb_M_element 3 s args zT "IslandOfficeModel") (hr : meth.sig.returnType = some .long) (hlk : meth.locks = false) (hK : zK B s) (hSt : zSt B s) (hap : zAp B) {res : Int} {S9 : Sg} : ∀ (x1 : Int) (x2 : Int) (S : Sg) (nx1 : zn x1) (nx2 : zn x2), zf_M_element x1 x2 S = some (res, S9) → ∀ (H : Heap) (locs : List Loc) (ls : Array Slot), zW B S H → va_S B.2.2.2 s.heap H locs → lv_has ls 3 [(0, .ref (B.2.1 9 (0) (0))), (1, .int (zI (x1))), (2, .int (zI (x2)))] → W p l e zm_M_element s m args below meth c H locs 0 0 (MQ below (zQl B res S9) args s 0 0 B.2.2.2) (F0 m 0 ls []) := by
  intro x1 x2 S nx1 nx2 hf H locs ls hW hS hl
  unfold zf_M_element at hf
  refine lv_aload_n C.1 C.2.1 zd_M_element_0 rfl (lv_at hl 0 rfl) ?_
  refine zr_iconst C zd_M_element_1 ?_
  obtain ⟨S1, eS1, hf⟩ := zlt_some hf
  refine zp_M_thrown (r := 0) C hK hap hW hS (zvd_9 (by decide) (by decide)) zk_1504 (znb rfl) zd_M_element_2 (fun H locs hW hS => ?_)
  rw [eS1] at hW
  refine lv_iload_n C.1 C.2.1 zd_M_element_5 rfl (lv_at hl 1 rfl) ?_
  obtain ⟨a2, S3, ea2, hf⟩ := zbd_some hf
  refine zcSi (As := [.int (zI (x1))]) (rest := []) C hK hSt hW hS (zc_M_isShelf hap x1 S1 nx1 ea2) zq_M_isShelf zk_1645 ⟨rfl, rfl, by decide, by decide⟩ ⟨by decide, by decide⟩ rfl hl.1 rfl (lv_room (Nat.le_of_ble_eq_true rfl)) zd_M_element_6 (fun na2 H locs hW hS => ?_)
  refine zr_if_ne (tgt := 19) C na2 zd_M_element_9 (by decide) (fun c4 => ?_) (fun c4 => ?_)
  · rw [if_neg c4] at hf
    refine lv_aload_n C.1 C.2.1 zd_M_element_19 rfl (lv_at hl 0 rfl) ?_
    refine zg_M_held (r := 0) C hK hW (zvd_9 (by decide) (by decide)) zk_1505 zd_M_element_20 ?_
    refine lv_iload_n C.1 C.2.1 zd_M_element_23 rfl (lv_at hl 1 rfl) ?_
    obtain ⟨h5, hf⟩ := zck_some hf
    refine ziald C hK hW (zvd_9 (by decide) (by decide)) (fun f => ze_9_1 B f (0)) (by decide) h5 zd_M_element_24 ?_
    refine zr_iconst C zd_M_element_25 ?_
    refine zr_icmp_ne (tgt := 45) C (zWn hW _ _ _ _ rfl) (znb rfl) zd_M_element_26 (by decide) (fun c6 => ?_) (fun c6 => ?_)
    · rw [if_neg c6] at hf
      exact zw_M_element_45 C hr hlk hK hSt hap    S3  hf _ _ _ hW hS (lv_sub hl [0] rfl)
    · rw [if_pos c6] at hf
      refine lv_iload_n C.1 C.2.1 zd_M_element_29 rfl (lv_at hl 2 rfl) ?_
      refine zr_iconst C zd_M_element_30 ?_
      refine lv_aload_n C.1 C.2.1 zd_M_element_31 rfl (lv_at hl 0 rfl) ?_
      refine zg_M_rowSize (r := 0) C hK hW (zvd_9 (by decide) (by decide)) zk_1507 zd_M_element_32 ?_
      refine lv_iload_n C.1 C.2.1 zd_M_element_35 rfl (lv_at hl 1 rfl) ?_
      refine ziald C hK hW (zvd_9 (by decide) (by decide)) (fun f => ze_9_3 B f (0)) (by decide) h5 zd_M_element_36 ?_
      refine zr_iconst C zd_M_element_37 ?_
      refine zr_isub C zd_M_element_38 ?_
      obtain ⟨a7, S8, ea7, hf⟩ := zbd_some hf
      refine zcSi (As := [.int (zI (x2)), .int (zI (0)), .int (zI (zw ((S3 9 0 3 x1) - 1)))]) (rest := []) C hK hSt hW hS (zc_M_in hap x2 0 (zw ((S3 9 0 3 x1) - 1)) S3 nx2 (znb rfl) (zn_w _) ea7) zq_M_in zk_1558 ⟨rfl, rfl, by decide, by decide⟩ ⟨by decide, by decide⟩ rfl hl.1 rfl (lv_room (Nat.le_of_ble_eq_true rfl)) zd_M_element_39 (fun na7 H locs hW hS => ?_)
      refine zr_if_ne (tgt := 52) C na7 zd_M_element_42 (by decide) (fun c9 => ?_) (fun c9 => ?_)
      · rw [if_neg c9] at hf
        refine lv_aload_n C.1 C.2.1 zd_M_element_52 rfl (lv_at hl 0 rfl) ?_
        refine zg_M_rows (r := 0) C hK hW (zvd_9 (by decide) (by decide)) zk_1508 zd_M_element_53 ?_
        refine lv_iload_n C.1 C.2.1 zd_M_element_56 rfl (lv_at hl 1 rfl) ?_
        refine zaald (t0 := 4) C hK hW (zvd_9 (by decide) (by decide)) (fun f => ze_9_4 B f (0)) rfl rfl (by decide) h5 zd_M_element_57 (a := B.2.1 10 (x1) (0)) (by rw [Int.toNat_of_nonneg h5.1]) ?_
        refine lv_iload_n C.1 C.2.1 zd_M_element_58 rfl (lv_at hl 2 rfl) ?_
        obtain ⟨h10, hf⟩ := zck_some hf
        refine ziald C hK hW (zvd_10 h5 (by decide)) (fun f => ze_10_0 B f (x1)) (by decide) h10 zd_M_element_59 ?_
        refine zr_i2l C (zWn hW _ _ _ _ rfl) zd_M_element_60 ?_
        cases hf
        exact zre_l C hr hlk hK hW hS (zm_n (zWn hW _ _ _ _ rfl)) zd_M_element_61
      · rw [if_pos c9] at hf
        exact zw_M_element_45 C hr hlk hK hSt hap    S8  hf _ _ _ hW hS (lv_sub hl [0] rfl)
  · rw [if_pos c4] at hf
    refine lv_aload_n C.1 C.2.1 zd_M_element_12 rfl (lv_at hl 0 rfl) ?_
    refine zr_iconst C zd_M_element_13 ?_
    obtain ⟨S11, eS11, hf⟩ := zlt_some hf
    refine zp_M_thrown (r := 0) C hK hap hW hS (zvd_9 (by decide) (by decide)) zk_1504 (znb rfl) zd_M_element_14 (fun H locs hW hS => ?_)
    rw [eS11] at hW
    refine zr_lconst (k := 0) C zd_M_element_17 rfl ?_
    cases hf
    exact zre_l C hr hlk hK hW hS (zmb rfl) zd_M_element_18

theorem zc_M_element {l : Launch} {B : zB} (hap : zAp B) (x1 : Int) (x2 : Int) (S : Sg) (nx1 : zn x1) (nx2 : zn x2) {res : Int} {S9 : Sg} (hf : zf_M_element x1 x2 S = some (res, S9)) : Met l zy_M_element (Cond.code zy_M_element zb_M_element 3 (some .long) :: zT) zm_M_element (zP B S [.ref (B.2.1 9 (0) (0)), .int (zI (x1)), .int (zI (x2))]) (zQl B res S9) 0 0 B.2.2.2 :=
  zmet (by decide) (Nat.le_of_ble_eq_true rfl) (fun p e s m args below meth c C hr hlk hK hSt hW ls hl => zw_M_element C hr hlk hK hSt hap   x1 x2 S nx1 nx2 hf _ _ _ hW va_S.rf hl)
/-! IslandOfficeModel.copy(IIIII)I -/
abbrev zy_M_copy : MethodName := ⟨"IslandOfficeModel", "copy", "(IIIII)I"⟩
abbrev zb_M_copy : ByteArray := prog_14_method_70_code
abbrev zm_M_copy : Room := { frames := 2, cells := 0, slots := 0, locals := 64 }
theorem zq_M_copy : zMy zy_M_copy zb_M_copy 6 (some .int) 5 := ⟨zk_2047, zk_2045, zk_2046, zk_14, by decide, by decide, by decide +kernel⟩
theorem zd_M_copy_0 : decode zb_M_copy 0 = .ok (.aload_n 0, 1) := by decide +kernel
theorem zd_M_copy_1 : decode zb_M_copy 1 = .ok (.iconst 0, 1) := by decide +kernel
theorem zd_M_copy_2 : decode zb_M_copy 2 = .ok (.putfield 46, 3) := by decide +kernel
theorem zd_M_copy_5 : decode zb_M_copy 5 = .ok (.iload_n 1, 1) := by decide +kernel
theorem zd_M_copy_6 : decode zb_M_copy 6 = .ok (.invokestatic 172, 3) := by decide +kernel
theorem zd_M_copy_9 : decode zb_M_copy 9 = .ok (.ifCond .eq 10, 3) := by decide +kernel
theorem zd_M_copy_12 : decode zb_M_copy 12 = .ok (.iload_n 3, 1) := by decide +kernel
theorem zd_M_copy_13 : decode zb_M_copy 13 = .ok (.invokestatic 172, 3) := by decide +kernel
theorem zd_M_copy_16 : decode zb_M_copy 16 = .ok (.ifCond .ne 5, 3) := by decide +kernel
theorem zd_M_copy_19 : decode zb_M_copy 19 = .ok (.iconst (-1), 1) := by decide +kernel
theorem zd_M_copy_20 : decode zb_M_copy 20 = .ok (.ireturn, 1) := by decide +kernel
theorem zd_M_copy_21 : decode zb_M_copy 21 = .ok (.aload_n 0, 1) := by decide +kernel
theorem zd_M_copy_22 : decode zb_M_copy 22 = .ok (.getfield 22, 3) := by decide +kernel
theorem zd_M_copy_25 : decode zb_M_copy 25 = .ok (.iload_n 1, 1) := by decide +kernel
theorem zd_M_copy_26 : decode zb_M_copy 26 = .ok (.iaload, 1) := by decide +kernel
theorem zd_M_copy_27 : decode zb_M_copy 27 = .ok (.ifCond .eq 12, 3) := by decide +kernel
theorem zd_M_copy_30 : decode zb_M_copy 30 = .ok (.aload_n 0, 1) := by decide +kernel
theorem zd_M_copy_31 : decode zb_M_copy 31 = .ok (.getfield 22, 3) := by decide +kernel
theorem zd_M_copy_34 : decode zb_M_copy 34 = .ok (.iload_n 3, 1) := by decide +kernel
theorem zd_M_copy_35 : decode zb_M_copy 35 = .ok (.iaload, 1) := by decide +kernel
theorem zd_M_copy_36 : decode zb_M_copy 36 = .ok (.ifCond .ne 6, 3) := by decide +kernel
theorem zd_M_copy_39 : decode zb_M_copy 39 = .ok (.bipush (-11), 2) := by decide +kernel
theorem zd_M_copy_41 : decode zb_M_copy 41 = .ok (.ireturn, 1) := by decide +kernel
theorem zd_M_copy_42 : decode zb_M_copy 42 = .ok (.aload_n 0, 1) := by decide +kernel
theorem zd_M_copy_43 : decode zb_M_copy 43 = .ok (.getfield 22, 3) := by decide +kernel
theorem zd_M_copy_46 : decode zb_M_copy 46 = .ok (.iload_n 1, 1) := by decide +kernel
theorem zd_M_copy_47 : decode zb_M_copy 47 = .ok (.iaload, 1) := by decide +kernel
theorem zd_M_copy_48 : decode zb_M_copy 48 = .ok (.iconst 3, 1) := by decide +kernel
theorem zd_M_copy_49 : decode zb_M_copy 49 = .ok (.if_icmp .ne 28, 3) := by decide +kernel
theorem zd_M_copy_52 : decode zb_M_copy 52 = .ok (.aload_n 0, 1) := by decide +kernel
theorem zd_M_copy_53 : decode zb_M_copy 53 = .ok (.getfield 22, 3) := by decide +kernel
theorem zd_M_copy_56 : decode zb_M_copy 56 = .ok (.iload_n 3, 1) := by decide +kernel
theorem zd_M_copy_57 : decode zb_M_copy 57 = .ok (.iaload, 1) := by decide +kernel
theorem zd_M_copy_58 : decode zb_M_copy 58 = .ok (.iconst 3, 1) := by decide +kernel
theorem zd_M_copy_59 : decode zb_M_copy 59 = .ok (.if_icmp .ne 18, 3) := by decide +kernel
theorem zd_M_copy_62 : decode zb_M_copy 62 = .ok (.aload_n 0, 1) := by decide +kernel
theorem zd_M_copy_63 : decode zb_M_copy 63 = .ok (.getfield 26, 3) := by decide +kernel
theorem zd_M_copy_66 : decode zb_M_copy 66 = .ok (.iload_n 1, 1) := by decide +kernel
theorem zd_M_copy_67 : decode zb_M_copy 67 = .ok (.iaload, 1) := by decide +kernel
theorem zd_M_copy_68 : decode zb_M_copy 68 = .ok (.aload_n 0, 1) := by decide +kernel
theorem zd_M_copy_69 : decode zb_M_copy 69 = .ok (.getfield 26, 3) := by decide +kernel
theorem zd_M_copy_72 : decode zb_M_copy 72 = .ok (.iload_n 3, 1) := by decide +kernel
theorem zd_M_copy_73 : decode zb_M_copy 73 = .ok (.iaload, 1) := by decide +kernel
theorem zd_M_copy_74 : decode zb_M_copy 74 = .ok (.if_icmp .eq 6, 3) := by decide +kernel
theorem zd_M_copy_77 : decode zb_M_copy 77 = .ok (.bipush (-12), 2) := by decide +kernel
theorem zd_M_copy_79 : decode zb_M_copy 79 = .ok (.ireturn, 1) := by decide +kernel
theorem zd_M_copy_80 : decode zb_M_copy 80 = .ok (.iload_n 2, 1) := by decide +kernel
theorem zd_M_copy_81 : decode zb_M_copy 81 = .ok (.ifCond .lt 48, 3) := by decide +kernel
theorem zd_M_copy_84 : decode zb_M_copy 84 = .ok (.iload 4, 2) := by decide +kernel
theorem zd_M_copy_86 : decode zb_M_copy 86 = .ok (.ifCond .lt 43, 3) := by decide +kernel
theorem zd_M_copy_89 : decode zb_M_copy 89 = .ok (.iload 5, 2) := by decide +kernel
theorem zd_M_copy_91 : decode zb_M_copy 91 = .ok (.ifCond .lt 38, 3) := by decide +kernel
theorem zd_M_copy_94 : decode zb_M_copy 94 = .ok (.iload_n 2, 1) := by decide +kernel
theorem zd_M_copy_95 : decode zb_M_copy 95 = .ok (.i2l, 1) := by decide +kernel
theorem zd_M_copy_96 : decode zb_M_copy 96 = .ok (.iload 5, 2) := by decide +kernel
theorem zd_M_copy_98 : decode zb_M_copy 98 = .ok (.i2l, 1) := by decide +kernel
theorem zd_M_copy_99 : decode zb_M_copy 99 = .ok (.ladd, 1) := by decide +kernel
theorem zd_M_copy_100 : decode zb_M_copy 100 = .ok (.aload_n 0, 1) := by decide +kernel
theorem zd_M_copy_101 : decode zb_M_copy 101 = .ok (.getfield 29, 3) := by decide +kernel
theorem zd_M_copy_104 : decode zb_M_copy 104 = .ok (.iload_n 1, 1) := by decide +kernel
theorem zd_M_copy_105 : decode zb_M_copy 105 = .ok (.iaload, 1) := by decide +kernel
theorem zd_M_copy_106 : decode zb_M_copy 106 = .ok (.i2l, 1) := by decide +kernel
theorem zd_M_copy_107 : decode zb_M_copy 107 = .ok (.lcmp, 1) := by decide +kernel
theorem zd_M_copy_108 : decode zb_M_copy 108 = .ok (.ifCond .gt 21, 3) := by decide +kernel
theorem zd_M_copy_111 : decode zb_M_copy 111 = .ok (.iload 4, 2) := by decide +kernel
theorem zd_M_copy_113 : decode zb_M_copy 113 = .ok (.i2l, 1) := by decide +kernel
theorem zd_M_copy_114 : decode zb_M_copy 114 = .ok (.iload 5, 2) := by decide +kernel
theorem zd_M_copy_116 : decode zb_M_copy 116 = .ok (.i2l, 1) := by decide +kernel
theorem zd_M_copy_117 : decode zb_M_copy 117 = .ok (.ladd, 1) := by decide +kernel
theorem zd_M_copy_118 : decode zb_M_copy 118 = .ok (.aload_n 0, 1) := by decide +kernel
theorem zd_M_copy_119 : decode zb_M_copy 119 = .ok (.getfield 29, 3) := by decide +kernel
theorem zd_M_copy_122 : decode zb_M_copy 122 = .ok (.iload_n 3, 1) := by decide +kernel
theorem zd_M_copy_123 : decode zb_M_copy 123 = .ok (.iaload, 1) := by decide +kernel
theorem zd_M_copy_124 : decode zb_M_copy 124 = .ok (.i2l, 1) := by decide +kernel
theorem zd_M_copy_125 : decode zb_M_copy 125 = .ok (.lcmp, 1) := by decide +kernel
theorem zd_M_copy_126 : decode zb_M_copy 126 = .ok (.ifCond .le 6, 3) := by decide +kernel
theorem zd_M_copy_129 : decode zb_M_copy 129 = .ok (.bipush (-13), 2) := by decide +kernel
theorem zd_M_copy_131 : decode zb_M_copy 131 = .ok (.ireturn, 1) := by decide +kernel
theorem zd_M_copy_132 : decode zb_M_copy 132 = .ok (.aload_n 0, 1) := by decide +kernel
theorem zd_M_copy_133 : decode zb_M_copy 133 = .ok (.getfield 34, 3) := by decide +kernel
theorem zd_M_copy_136 : decode zb_M_copy 136 = .ok (.iload_n 1, 1) := by decide +kernel
theorem zd_M_copy_137 : decode zb_M_copy 137 = .ok (.aaload, 1) := by decide +kernel
theorem zd_M_copy_138 : decode zb_M_copy 138 = .ok (.iload_n 2, 1) := by decide +kernel
theorem zd_M_copy_139 : decode zb_M_copy 139 = .ok (.aload_n 0, 1) := by decide +kernel
theorem zd_M_copy_140 : decode zb_M_copy 140 = .ok (.getfield 34, 3) := by decide +kernel
theorem zd_M_copy_143 : decode zb_M_copy 143 = .ok (.iload_n 3, 1) := by decide +kernel
theorem zd_M_copy_144 : decode zb_M_copy 144 = .ok (.aaload, 1) := by decide +kernel
theorem zd_M_copy_145 : decode zb_M_copy 145 = .ok (.iload 4, 2) := by decide +kernel
theorem zd_M_copy_147 : decode zb_M_copy 147 = .ok (.iload 5, 2) := by decide +kernel
theorem zd_M_copy_149 : decode zb_M_copy 149 = .ok (.invokestatic 186, 3) := by decide +kernel
theorem zd_M_copy_152 : decode zb_M_copy 152 = .ok (.iload 5, 2) := by decide +kernel
theorem zd_M_copy_154 : decode zb_M_copy 154 = .ok (.ireturn, 1) := by decide +kernel

def zf_M_copy (x1 : Int) (x2 : Int) (x3 : Int) (x4 : Int) (x5 : Int) (S : Sg) : Option (Int × Sg) :=
    zlt (zu S 9 0 0 4 0) fun S1 => zbd (zf_M_isShelf x1 S1) fun a2 S3 => if a2 = 0 then (some (-1, S3)) else (zbd (zf_M_isShelf x3 S3) fun a5 S6 => if a5 = 0 then (some (-1, S6)) else (zck (0 ≤ x1 ∧ x1 < 8) <| if (S6 9 0 1 x1) = 0 then (some (-11, S6)) else (zck (0 ≤ x3 ∧ x3 < 8) <| if (S6 9 0 1 x3) = 0 then (some (-11, S6)) else (if (S6 9 0 1 x1) = 3 then (if (S6 9 0 1 x3) = 3 then (if (S6 9 0 2 x1) = (S6 9 0 2 x3) then (if x2 < 0 then (some (-13, S6)) else (if x4 < 0 then (some (-13, S6)) else (if x5 < 0 then (some (-13, S6)) else (if 0 < (zcmp (zv (x2 + x5)) (S6 9 0 3 x1)) then (some (-13, S6)) else (if (zcmp (zv (x4 + x5)) (S6 9 0 3 x3)) ≤ 0 then (zck ((0 : Int) ≤ x2 ∧ (0 : Int) ≤ x4 ∧ (0 : Int) ≤ x5 ∧ (x2 + x5 : Int) ≤ 120 ∧ (x4 + x5 : Int) ≤ 120) <| zlt (zcp S6 10 x1 0 x2 10 x3 0 x4 x5) fun S21 => some (x5, S21)) else (some (-13, S6))))))) else (some (-12, S6))) else (some (-12, S6))) else (some (-12, S6))))))
set_option maxHeartbeats 4000000 in
set_option maxRecDepth 100000 in
theorem zw_M_copy {p : Program} {l : Launch} {e : Env} {s : State} {m : MethodId} {args : Array Value} {below : List Frame} {meth : Method} {c : Code} {B : zB} (C : CallFix p m c zb_M_copy 6 s args zT "IslandOfficeModel") (hr : meth.sig.returnType = some .int) (hlk : meth.locks = false) (hK : zK B s) (hSt : zSt B s) (hap : zAp B) {res : Int} {S9 : Sg} : ∀ (x1 : Int) (x2 : Int) (x3 : Int) (x4 : Int) (x5 : Int) (S : Sg) (nx1 : zn x1) (nx2 : zn x2) (nx3 : zn x3) (nx4 : zn x4) (nx5 : zn x5), zf_M_copy x1 x2 x3 x4 x5 S = some (res, S9) → ∀ (H : Heap) (locs : List Loc) (ls : Array Slot), zW B S H → va_S B.2.2.2 s.heap H locs → lv_has ls 6 [(0, .ref (B.2.1 9 (0) (0))), (1, .int (zI (x1))), (2, .int (zI (x2))), (3, .int (zI (x3))), (4, .int (zI (x4))), (5, .int (zI (x5)))] → W p l e zm_M_copy s m args below meth c H locs 0 0 (MQ below (zQi B res S9) args s 0 0 B.2.2.2) (F0 m 0 ls []) := by
  intro x1 x2 x3 x4 x5 S nx1 nx2 nx3 nx4 nx5 hf H locs ls hW hS hl
  unfold zf_M_copy at hf
  refine lv_aload_n C.1 C.2.1 zd_M_copy_0 rfl (lv_at hl 0 rfl) ?_
  refine zr_iconst C zd_M_copy_1 ?_
  obtain ⟨S1, eS1, hf⟩ := zlt_some hf
  refine zp_M_thrown (r := 0) C hK hap hW hS (zvd_9 (by decide) (by decide)) zk_1504 (znb rfl) zd_M_copy_2 (fun H locs hW hS => ?_)
  rw [eS1] at hW
  refine lv_iload_n C.1 C.2.1 zd_M_copy_5 rfl (lv_at hl 1 rfl) ?_
  obtain ⟨a2, S3, ea2, hf⟩ := zbd_some hf
  refine zcSi (As := [.int (zI (x1))]) (rest := []) C hK hSt hW hS (zc_M_isShelf hap x1 S1 nx1 ea2) zq_M_isShelf zk_1645 ⟨rfl, rfl, by decide, by decide⟩ ⟨by decide, by decide⟩ rfl hl.1 rfl (lv_room (Nat.le_of_ble_eq_true rfl)) zd_M_copy_6 (fun na2 H locs hW hS => ?_)
  refine zr_if_eq (tgt := 19) C na2 zd_M_copy_9 (by decide) (fun c4 => ?_) (fun c4 => ?_)
  · rw [if_pos c4] at hf
    refine zr_iconst C zd_M_copy_19 ?_
    cases hf
    exact zre_i C hr hlk hK hW hS (znb rfl) zd_M_copy_20
  · rw [if_neg c4] at hf
    refine lv_iload_n C.1 C.2.1 zd_M_copy_12 rfl (lv_at hl 3 rfl) ?_
    obtain ⟨a5, S6, ea5, hf⟩ := zbd_some hf
    refine zcSi (As := [.int (zI (x3))]) (rest := []) C hK hSt hW hS (zc_M_isShelf hap x3 S3 nx3 ea5) zq_M_isShelf zk_1645 ⟨rfl, rfl, by decide, by decide⟩ ⟨by decide, by decide⟩ rfl hl.1 rfl (lv_room (Nat.le_of_ble_eq_true rfl)) zd_M_copy_13 (fun na5 H locs hW hS => ?_)
    refine zr_if_ne (tgt := 21) C na5 zd_M_copy_16 (by decide) (fun c7 => ?_) (fun c7 => ?_)
    · rw [if_neg c7] at hf
      refine lv_aload_n C.1 C.2.1 zd_M_copy_21 rfl (lv_at hl 0 rfl) ?_
      refine zg_M_held (r := 0) C hK hW (zvd_9 (by decide) (by decide)) zk_1505 zd_M_copy_22 ?_
      refine lv_iload_n C.1 C.2.1 zd_M_copy_25 rfl (lv_at hl 1 rfl) ?_
      obtain ⟨h8, hf⟩ := zck_some hf
      refine ziald C hK hW (zvd_9 (by decide) (by decide)) (fun f => ze_9_1 B f (0)) (by decide) h8 zd_M_copy_26 ?_
      refine zr_if_eq (tgt := 39) C (zWn hW _ _ _ _ rfl) zd_M_copy_27 (by decide) (fun c9 => ?_) (fun c9 => ?_)
      · rw [if_pos c9] at hf
        refine zr_bipush C zd_M_copy_39 (by decide) ?_
        cases hf
        exact zre_i C hr hlk hK hW hS (znb rfl) zd_M_copy_41
      · rw [if_neg c9] at hf
        refine lv_aload_n C.1 C.2.1 zd_M_copy_30 rfl (lv_at hl 0 rfl) ?_
        refine zg_M_held (r := 0) C hK hW (zvd_9 (by decide) (by decide)) zk_1505 zd_M_copy_31 ?_
        refine lv_iload_n C.1 C.2.1 zd_M_copy_34 rfl (lv_at hl 3 rfl) ?_
        obtain ⟨h10, hf⟩ := zck_some hf
        refine ziald C hK hW (zvd_9 (by decide) (by decide)) (fun f => ze_9_1 B f (0)) (by decide) h10 zd_M_copy_35 ?_
        refine zr_if_ne (tgt := 42) C (zWn hW _ _ _ _ rfl) zd_M_copy_36 (by decide) (fun c11 => ?_) (fun c11 => ?_)
        · rw [if_neg c11] at hf
          refine lv_aload_n C.1 C.2.1 zd_M_copy_42 rfl (lv_at hl 0 rfl) ?_
          refine zg_M_held (r := 0) C hK hW (zvd_9 (by decide) (by decide)) zk_1505 zd_M_copy_43 ?_
          refine lv_iload_n C.1 C.2.1 zd_M_copy_46 rfl (lv_at hl 1 rfl) ?_
          refine ziald C hK hW (zvd_9 (by decide) (by decide)) (fun f => ze_9_1 B f (0)) (by decide) h8 zd_M_copy_47 ?_
          refine zr_iconst C zd_M_copy_48 ?_
          refine zr_icmp_ne (tgt := 77) C (zWn hW _ _ _ _ rfl) (znb rfl) zd_M_copy_49 (by decide) (fun c12 => ?_) (fun c12 => ?_)
          · rw [if_neg c12] at hf
            refine zr_bipush C zd_M_copy_77 (by decide) ?_
            cases hf
            exact zre_i C hr hlk hK hW hS (znb rfl) zd_M_copy_79
          · rw [if_pos c12] at hf
            refine lv_aload_n C.1 C.2.1 zd_M_copy_52 rfl (lv_at hl 0 rfl) ?_
            refine zg_M_held (r := 0) C hK hW (zvd_9 (by decide) (by decide)) zk_1505 zd_M_copy_53 ?_
            refine lv_iload_n C.1 C.2.1 zd_M_copy_56 rfl (lv_at hl 3 rfl) ?_
            refine ziald C hK hW (zvd_9 (by decide) (by decide)) (fun f => ze_9_1 B f (0)) (by decide) h10 zd_M_copy_57 ?_
            refine zr_iconst C zd_M_copy_58 ?_
            refine zr_icmp_ne (tgt := 77) C (zWn hW _ _ _ _ rfl) (znb rfl) zd_M_copy_59 (by decide) (fun c13 => ?_) (fun c13 => ?_)
            · rw [if_neg c13] at hf
              refine zr_bipush C zd_M_copy_77 (by decide) ?_
              cases hf
              exact zre_i C hr hlk hK hW hS (znb rfl) zd_M_copy_79
            · rw [if_pos c13] at hf
              refine lv_aload_n C.1 C.2.1 zd_M_copy_62 rfl (lv_at hl 0 rfl) ?_
              refine zg_M_rowSort (r := 0) C hK hW (zvd_9 (by decide) (by decide)) zk_1506 zd_M_copy_63 ?_
              refine lv_iload_n C.1 C.2.1 zd_M_copy_66 rfl (lv_at hl 1 rfl) ?_
              refine ziald C hK hW (zvd_9 (by decide) (by decide)) (fun f => ze_9_2 B f (0)) (by decide) h8 zd_M_copy_67 ?_
              refine lv_aload_n C.1 C.2.1 zd_M_copy_68 rfl (lv_at hl 0 rfl) ?_
              refine zg_M_rowSort (r := 0) C hK hW (zvd_9 (by decide) (by decide)) zk_1506 zd_M_copy_69 ?_
              refine lv_iload_n C.1 C.2.1 zd_M_copy_72 rfl (lv_at hl 3 rfl) ?_
              refine ziald C hK hW (zvd_9 (by decide) (by decide)) (fun f => ze_9_2 B f (0)) (by decide) h10 zd_M_copy_73 ?_
              refine zr_icmp_eq (tgt := 80) C (zWn hW _ _ _ _ rfl) (zWn hW _ _ _ _ rfl) zd_M_copy_74 (by decide) (fun c14 => ?_) (fun c14 => ?_)
              · rw [if_pos c14] at hf
                refine lv_iload_n C.1 C.2.1 zd_M_copy_80 rfl (lv_at hl 2 rfl) ?_
                refine zr_if_lt (tgt := 129) C nx2 zd_M_copy_81 (by decide) (fun c15 => ?_) (fun c15 => ?_)
                · rw [if_pos c15] at hf
                  refine zr_bipush C zd_M_copy_129 (by decide) ?_
                  cases hf
                  exact zre_i C hr hlk hK hW hS (znb rfl) zd_M_copy_131
                · rw [if_neg c15] at hf
                  refine lv_iload C.1 C.2.1 zd_M_copy_84 (lv_at hl 4 rfl) ?_
                  refine zr_if_lt (tgt := 129) C nx4 zd_M_copy_86 (by decide) (fun c16 => ?_) (fun c16 => ?_)
                  · rw [if_pos c16] at hf
                    refine zr_bipush C zd_M_copy_129 (by decide) ?_
                    cases hf
                    exact zre_i C hr hlk hK hW hS (znb rfl) zd_M_copy_131
                  · rw [if_neg c16] at hf
                    refine lv_iload C.1 C.2.1 zd_M_copy_89 (lv_at hl 5 rfl) ?_
                    refine zr_if_lt (tgt := 129) C nx5 zd_M_copy_91 (by decide) (fun c17 => ?_) (fun c17 => ?_)
                    · rw [if_pos c17] at hf
                      refine zr_bipush C zd_M_copy_129 (by decide) ?_
                      cases hf
                      exact zre_i C hr hlk hK hW hS (znb rfl) zd_M_copy_131
                    · rw [if_neg c17] at hf
                      refine lv_iload_n C.1 C.2.1 zd_M_copy_94 rfl (lv_at hl 2 rfl) ?_
                      refine zr_i2l C nx2 zd_M_copy_95 ?_
                      refine lv_iload C.1 C.2.1 zd_M_copy_96 (lv_at hl 5 rfl) ?_
                      refine zr_i2l C nx5 zd_M_copy_98 ?_
                      refine zr_ladd C zd_M_copy_99 ?_
                      refine lv_aload_n C.1 C.2.1 zd_M_copy_100 rfl (lv_at hl 0 rfl) ?_
                      refine zg_M_rowSize (r := 0) C hK hW (zvd_9 (by decide) (by decide)) zk_1507 zd_M_copy_101 ?_
                      refine lv_iload_n C.1 C.2.1 zd_M_copy_104 rfl (lv_at hl 1 rfl) ?_
                      refine ziald C hK hW (zvd_9 (by decide) (by decide)) (fun f => ze_9_3 B f (0)) (by decide) h8 zd_M_copy_105 ?_
                      refine zr_i2l C (zWn hW _ _ _ _ rfl) zd_M_copy_106 ?_
                      refine zr_lcmp C (zm_v _) (zm_n (zWn hW _ _ _ _ rfl)) zd_M_copy_107 ?_
                      refine zr_if_gt (tgt := 129) C (zn_cmp _ _) zd_M_copy_108 (by decide) (fun c18 => ?_) (fun c18 => ?_)
                      · rw [if_pos c18] at hf
                        refine zr_bipush C zd_M_copy_129 (by decide) ?_
                        cases hf
                        exact zre_i C hr hlk hK hW hS (znb rfl) zd_M_copy_131
                      · rw [if_neg c18] at hf
                        refine lv_iload C.1 C.2.1 zd_M_copy_111 (lv_at hl 4 rfl) ?_
                        refine zr_i2l C nx4 zd_M_copy_113 ?_
                        refine lv_iload C.1 C.2.1 zd_M_copy_114 (lv_at hl 5 rfl) ?_
                        refine zr_i2l C nx5 zd_M_copy_116 ?_
                        refine zr_ladd C zd_M_copy_117 ?_
                        refine lv_aload_n C.1 C.2.1 zd_M_copy_118 rfl (lv_at hl 0 rfl) ?_
                        refine zg_M_rowSize (r := 0) C hK hW (zvd_9 (by decide) (by decide)) zk_1507 zd_M_copy_119 ?_
                        refine lv_iload_n C.1 C.2.1 zd_M_copy_122 rfl (lv_at hl 3 rfl) ?_
                        refine ziald C hK hW (zvd_9 (by decide) (by decide)) (fun f => ze_9_3 B f (0)) (by decide) h10 zd_M_copy_123 ?_
                        refine zr_i2l C (zWn hW _ _ _ _ rfl) zd_M_copy_124 ?_
                        refine zr_lcmp C (zm_v _) (zm_n (zWn hW _ _ _ _ rfl)) zd_M_copy_125 ?_
                        refine zr_if_le (tgt := 132) C (zn_cmp _ _) zd_M_copy_126 (by decide) (fun c19 => ?_) (fun c19 => ?_)
                        · rw [if_pos c19] at hf
                          refine lv_aload_n C.1 C.2.1 zd_M_copy_132 rfl (lv_at hl 0 rfl) ?_
                          refine zg_M_rows (r := 0) C hK hW (zvd_9 (by decide) (by decide)) zk_1508 zd_M_copy_133 ?_
                          refine lv_iload_n C.1 C.2.1 zd_M_copy_136 rfl (lv_at hl 1 rfl) ?_
                          refine zaald (t0 := 4) C hK hW (zvd_9 (by decide) (by decide)) (fun f => ze_9_4 B f (0)) rfl rfl (by decide) h8 zd_M_copy_137 (a := B.2.1 10 (x1) (0)) (by rw [Int.toNat_of_nonneg h8.1]) ?_
                          refine lv_iload_n C.1 C.2.1 zd_M_copy_138 rfl (lv_at hl 2 rfl) ?_
                          refine lv_aload_n C.1 C.2.1 zd_M_copy_139 rfl (lv_at hl 0 rfl) ?_
                          refine zg_M_rows (r := 0) C hK hW (zvd_9 (by decide) (by decide)) zk_1508 zd_M_copy_140 ?_
                          refine lv_iload_n C.1 C.2.1 zd_M_copy_143 rfl (lv_at hl 3 rfl) ?_
                          refine zaald (t0 := 4) C hK hW (zvd_9 (by decide) (by decide)) (fun f => ze_9_4 B f (0)) rfl rfl (by decide) h10 zd_M_copy_144 (a := B.2.1 10 (x3) (0)) (by rw [Int.toNat_of_nonneg h10.1]) ?_
                          refine lv_iload C.1 C.2.1 zd_M_copy_145 (lv_at hl 4 rfl) ?_
                          refine lv_iload C.1 C.2.1 zd_M_copy_147 (lv_at hl 5 rfl) ?_
                          obtain ⟨h20, hf⟩ := zck_some hf
                          obtain ⟨S21, eS21, hf⟩ := zlt_some hf
                          refine zcopy C hK hap hW hS hl.1 (zvd_10 h8 (by decide)) (zvd_10 h10 (by decide)) (fun f => ze_10_0 B f (x1)) (fun f => ze_10_0 B f (x3)) (by decide) (by decide) rfl rfl h20 zk_1743 zk_735 zk_734 zk_18 (by decide) (Nat.le_of_ble_eq_true rfl) zd_M_copy_149 (fun H locs hW hS => ?_)
                          rw [eS21] at hW
                          refine lv_iload C.1 C.2.1 zd_M_copy_152 (lv_at hl 5 rfl) ?_
                          cases hf
                          exact zre_i C hr hlk hK hW hS nx5 zd_M_copy_154
                        · rw [if_neg c19] at hf
                          refine zr_bipush C zd_M_copy_129 (by decide) ?_
                          cases hf
                          exact zre_i C hr hlk hK hW hS (znb rfl) zd_M_copy_131
              · rw [if_neg c14] at hf
                refine zr_bipush C zd_M_copy_77 (by decide) ?_
                cases hf
                exact zre_i C hr hlk hK hW hS (znb rfl) zd_M_copy_79
        · rw [if_pos c11] at hf
          refine zr_bipush C zd_M_copy_39 (by decide) ?_
          cases hf
          exact zre_i C hr hlk hK hW hS (znb rfl) zd_M_copy_41
    · rw [if_pos c7] at hf
      refine zr_iconst C zd_M_copy_19 ?_
      cases hf
      exact zre_i C hr hlk hK hW hS (znb rfl) zd_M_copy_20

theorem zc_M_copy {l : Launch} {B : zB} (hap : zAp B) (x1 : Int) (x2 : Int) (x3 : Int) (x4 : Int) (x5 : Int) (S : Sg) (nx1 : zn x1) (nx2 : zn x2) (nx3 : zn x3) (nx4 : zn x4) (nx5 : zn x5) {res : Int} {S9 : Sg} (hf : zf_M_copy x1 x2 x3 x4 x5 S = some (res, S9)) : Met l zy_M_copy (Cond.code zy_M_copy zb_M_copy 6 (some .int) :: zT) zm_M_copy (zP B S [.ref (B.2.1 9 (0) (0)), .int (zI (x1)), .int (zI (x2)), .int (zI (x3)), .int (zI (x4)), .int (zI (x5))]) (zQi B res S9) 0 0 B.2.2.2 :=
  zmet (by decide) (Nat.le_of_ble_eq_true rfl) (fun p e s m args below meth c C hr hlk hK hSt hW ls hl => zw_M_copy C hr hlk hK hSt hap   x1 x2 x3 x4 x5 S nx1 nx2 nx3 nx4 nx5 hf _ _ _ hW va_S.rf hl)
/-! IslandOfficeModel.noThing(I)I -/
abbrev zy_M_noThing : MethodName := ⟨"IslandOfficeModel", "noThing", "(I)I"⟩
abbrev zb_M_noThing : ByteArray := prog_14_method_71_code
abbrev zm_M_noThing : Room := { frames := 0, cells := 0, slots := 0, locals := 0 }
theorem zq_M_noThing : zMy zy_M_noThing zb_M_noThing 2 (some .int) 1 := ⟨zk_2055, zk_2054, zs_96, zk_14, by decide, by decide, by decide +kernel⟩
theorem zd_M_noThing_0 : decode zb_M_noThing 0 = .ok (.aload_n 0, 1) := by decide +kernel
theorem zd_M_noThing_1 : decode zb_M_noThing 1 = .ok (.getfield 22, 3) := by decide +kernel
theorem zd_M_noThing_4 : decode zb_M_noThing 4 = .ok (.iload_n 1, 1) := by decide +kernel
theorem zd_M_noThing_5 : decode zb_M_noThing 5 = .ok (.iaload, 1) := by decide +kernel
theorem zd_M_noThing_6 : decode zb_M_noThing 6 = .ok (.ifCond .ne 8, 3) := by decide +kernel
theorem zd_M_noThing_9 : decode zb_M_noThing 9 = .ok (.bipush (-11), 2) := by decide +kernel
theorem zd_M_noThing_11 : decode zb_M_noThing 11 = .ok (.goto 19, 3) := by decide +kernel
theorem zd_M_noThing_14 : decode zb_M_noThing 14 = .ok (.aload_n 0, 1) := by decide +kernel
theorem zd_M_noThing_15 : decode zb_M_noThing 15 = .ok (.getfield 22, 3) := by decide +kernel
theorem zd_M_noThing_18 : decode zb_M_noThing 18 = .ok (.iload_n 1, 1) := by decide +kernel
theorem zd_M_noThing_19 : decode zb_M_noThing 19 = .ok (.iaload, 1) := by decide +kernel
theorem zd_M_noThing_20 : decode zb_M_noThing 20 = .ok (.iconst 3, 1) := by decide +kernel
theorem zd_M_noThing_21 : decode zb_M_noThing 21 = .ok (.if_icmp .ne 8, 3) := by decide +kernel
theorem zd_M_noThing_24 : decode zb_M_noThing 24 = .ok (.bipush (-12), 2) := by decide +kernel
theorem zd_M_noThing_26 : decode zb_M_noThing 26 = .ok (.goto 4, 3) := by decide +kernel
theorem zd_M_noThing_29 : decode zb_M_noThing 29 = .ok (.iconst 0, 1) := by decide +kernel
theorem zd_M_noThing_30 : decode zb_M_noThing 30 = .ok (.ireturn, 1) := by decide +kernel

def zf_M_noThing (x1 : Int) (S : Sg) : Option (Int × Sg) :=
    zck (0 ≤ x1 ∧ x1 < 8) <| if (S 9 0 1 x1) = 0 then (some (-11, S)) else (if (S 9 0 1 x1) = 3 then (some (-12, S)) else (some (0, S)))
set_option maxHeartbeats 4000000 in
set_option maxRecDepth 100000 in
theorem zw_M_noThing {p : Program} {l : Launch} {e : Env} {s : State} {m : MethodId} {args : Array Value} {below : List Frame} {meth : Method} {c : Code} {B : zB} (C : CallFix p m c zb_M_noThing 2 s args zT "IslandOfficeModel") (hr : meth.sig.returnType = some .int) (hlk : meth.locks = false) (hK : zK B s) (hSt : zSt B s) (hap : zAp B) {res : Int} {S9 : Sg} : ∀ (x1 : Int) (S : Sg) (nx1 : zn x1), zf_M_noThing x1 S = some (res, S9) → ∀ (H : Heap) (locs : List Loc) (ls : Array Slot), zW B S H → va_S B.2.2.2 s.heap H locs → lv_has ls 2 [(0, .ref (B.2.1 9 (0) (0))), (1, .int (zI (x1)))] → W p l e zm_M_noThing s m args below meth c H locs 0 0 (MQ below (zQi B res S9) args s 0 0 B.2.2.2) (F0 m 0 ls []) := by
  intro x1 S nx1 hf H locs ls hW hS hl
  unfold zf_M_noThing at hf
  refine lv_aload_n C.1 C.2.1 zd_M_noThing_0 rfl (lv_at hl 0 rfl) ?_
  refine zg_M_held (r := 0) C hK hW (zvd_9 (by decide) (by decide)) zk_1505 zd_M_noThing_1 ?_
  refine lv_iload_n C.1 C.2.1 zd_M_noThing_4 rfl (lv_at hl 1 rfl) ?_
  obtain ⟨h1, hf⟩ := zck_some hf
  refine ziald C hK hW (zvd_9 (by decide) (by decide)) (fun f => ze_9_1 B f (0)) (by decide) h1 zd_M_noThing_5 ?_
  refine zr_if_ne (tgt := 14) C (zWn hW _ _ _ _ rfl) zd_M_noThing_6 (by decide) (fun c2 => ?_) (fun c2 => ?_)
  · rw [if_neg c2] at hf
    refine lv_aload_n C.1 C.2.1 zd_M_noThing_14 rfl (lv_at hl 0 rfl) ?_
    refine zg_M_held (r := 0) C hK hW (zvd_9 (by decide) (by decide)) zk_1505 zd_M_noThing_15 ?_
    refine lv_iload_n C.1 C.2.1 zd_M_noThing_18 rfl (lv_at hl 1 rfl) ?_
    refine ziald C hK hW (zvd_9 (by decide) (by decide)) (fun f => ze_9_1 B f (0)) (by decide) h1 zd_M_noThing_19 ?_
    refine zr_iconst C zd_M_noThing_20 ?_
    refine zr_icmp_ne (tgt := 29) C (zWn hW _ _ _ _ rfl) (znb rfl) zd_M_noThing_21 (by decide) (fun c3 => ?_) (fun c3 => ?_)
    · rw [if_neg c3] at hf
      refine zr_iconst C zd_M_noThing_29 ?_
      cases hf
      exact zre_i C hr hlk hK hW hS (znb rfl) zd_M_noThing_30
    · rw [if_pos c3] at hf
      refine zr_bipush C zd_M_noThing_24 (by decide) ?_
      refine lv_goto (tgt := 30) C.1 C.2.1 zd_M_noThing_26 (by decide) ?_
      cases hf
      exact zre_i C hr hlk hK hW hS (znb rfl) zd_M_noThing_30
  · rw [if_pos c2] at hf
    refine zr_bipush C zd_M_noThing_9 (by decide) ?_
    refine lv_goto (tgt := 30) C.1 C.2.1 zd_M_noThing_11 (by decide) ?_
    cases hf
    exact zre_i C hr hlk hK hW hS (znb rfl) zd_M_noThing_30

theorem zc_M_noThing {l : Launch} {B : zB} (hap : zAp B) (x1 : Int) (S : Sg) (nx1 : zn x1) {res : Int} {S9 : Sg} (hf : zf_M_noThing x1 S = some (res, S9)) : Met l zy_M_noThing (Cond.code zy_M_noThing zb_M_noThing 2 (some .int) :: zT) zm_M_noThing (zP B S [.ref (B.2.1 9 (0) (0)), .int (zI (x1))]) (zQi B res S9) 0 0 B.2.2.2 :=
  zmet (by decide) (Nat.le_of_ble_eq_true rfl) (fun p e s m args below meth c C hr hlk hK hSt hW ls hl => zw_M_noThing C hr hlk hK hSt hap   x1 S nx1 hf _ _ _ hW va_S.rf hl)
/-! IslandOfficeModel.weight(I)I -/
abbrev zy_M_weight : MethodName := ⟨"IslandOfficeModel", "weight", "(I)I"⟩
abbrev zb_M_weight : ByteArray := prog_14_method_72_code
abbrev zm_M_weight : Room := { frames := 2, cells := 0, slots := 0, locals := 42 }
theorem zq_M_weight : zMy zy_M_weight zb_M_weight 4 (some .int) 1 := ⟨zk_2051, zk_2049, zk_2050, zk_14, by decide, by decide, by decide +kernel⟩
theorem zd_M_weight_0 : decode zb_M_weight 0 = .ok (.aload_n 0, 1) := by decide +kernel
theorem zd_M_weight_1 : decode zb_M_weight 1 = .ok (.iconst 0, 1) := by decide +kernel
theorem zd_M_weight_2 : decode zb_M_weight 2 = .ok (.putfield 46, 3) := by decide +kernel
theorem zd_M_weight_5 : decode zb_M_weight 5 = .ok (.iload_n 1, 1) := by decide +kernel
theorem zd_M_weight_6 : decode zb_M_weight 6 = .ok (.invokestatic 172, 3) := by decide +kernel
theorem zd_M_weight_9 : decode zb_M_weight 9 = .ok (.ifCond .ne 5, 3) := by decide +kernel
theorem zd_M_weight_12 : decode zb_M_weight 12 = .ok (.iconst (-1), 1) := by decide +kernel
theorem zd_M_weight_13 : decode zb_M_weight 13 = .ok (.ireturn, 1) := by decide +kernel
theorem zd_M_weight_14 : decode zb_M_weight 14 = .ok (.aload_n 0, 1) := by decide +kernel
theorem zd_M_weight_15 : decode zb_M_weight 15 = .ok (.iload_n 1, 1) := by decide +kernel
theorem zd_M_weight_16 : decode zb_M_weight 16 = .ok (.invokevirtual 342, 3) := by decide +kernel
theorem zd_M_weight_19 : decode zb_M_weight 19 = .ok (.ifCond .eq 9, 3) := by decide +kernel
theorem zd_M_weight_22 : decode zb_M_weight 22 = .ok (.aload_n 0, 1) := by decide +kernel
theorem zd_M_weight_23 : decode zb_M_weight 23 = .ok (.iload_n 1, 1) := by decide +kernel
theorem zd_M_weight_24 : decode zb_M_weight 24 = .ok (.invokevirtual 342, 3) := by decide +kernel
theorem zd_M_weight_27 : decode zb_M_weight 27 = .ok (.ireturn, 1) := by decide +kernel
theorem zd_M_weight_28 : decode zb_M_weight 28 = .ok (.aload_n 0, 1) := by decide +kernel
theorem zd_M_weight_29 : decode zb_M_weight 29 = .ok (.getfield 22, 3) := by decide +kernel
theorem zd_M_weight_32 : decode zb_M_weight 32 = .ok (.iload_n 1, 1) := by decide +kernel
theorem zd_M_weight_33 : decode zb_M_weight 33 = .ok (.iaload, 1) := by decide +kernel
theorem zd_M_weight_34 : decode zb_M_weight 34 = .ok (.iconst 2, 1) := by decide +kernel
theorem zd_M_weight_35 : decode zb_M_weight 35 = .ok (.if_icmp .ne 25, 3) := by decide +kernel
theorem zd_M_weight_38 : decode zb_M_weight 38 = .ok (.sipush 1000, 3) := by decide +kernel
theorem zd_M_weight_41 : decode zb_M_weight 41 = .ok (.aload_n 0, 1) := by decide +kernel
theorem zd_M_weight_42 : decode zb_M_weight 42 = .ok (.getfield 37, 3) := by decide +kernel
theorem zd_M_weight_45 : decode zb_M_weight 45 = .ok (.iload_n 1, 1) := by decide +kernel
theorem zd_M_weight_46 : decode zb_M_weight 46 = .ok (.aaload, 1) := by decide +kernel
theorem zd_M_weight_47 : decode zb_M_weight 47 = .ok (.iconst 1, 1) := by decide +kernel
theorem zd_M_weight_48 : decode zb_M_weight 48 = .ok (.iaload, 1) := by decide +kernel
theorem zd_M_weight_49 : decode zb_M_weight 49 = .ok (.iadd, 1) := by decide +kernel
theorem zd_M_weight_50 : decode zb_M_weight 50 = .ok (.aload_n 0, 1) := by decide +kernel
theorem zd_M_weight_51 : decode zb_M_weight 51 = .ok (.getfield 37, 3) := by decide +kernel
theorem zd_M_weight_54 : decode zb_M_weight 54 = .ok (.iload_n 1, 1) := by decide +kernel
theorem zd_M_weight_55 : decode zb_M_weight 55 = .ok (.aaload, 1) := by decide +kernel
theorem zd_M_weight_56 : decode zb_M_weight 56 = .ok (.iconst 2, 1) := by decide +kernel
theorem zd_M_weight_57 : decode zb_M_weight 57 = .ok (.iaload, 1) := by decide +kernel
theorem zd_M_weight_58 : decode zb_M_weight 58 = .ok (.iadd, 1) := by decide +kernel
theorem zd_M_weight_59 : decode zb_M_weight 59 = .ok (.ireturn, 1) := by decide +kernel
theorem zd_M_weight_60 : decode zb_M_weight 60 = .ok (.aload_n 0, 1) := by decide +kernel
theorem zd_M_weight_61 : decode zb_M_weight 61 = .ok (.getfield 37, 3) := by decide +kernel
theorem zd_M_weight_64 : decode zb_M_weight 64 = .ok (.iload_n 1, 1) := by decide +kernel
theorem zd_M_weight_65 : decode zb_M_weight 65 = .ok (.aaload, 1) := by decide +kernel
theorem zd_M_weight_66 : decode zb_M_weight 66 = .ok (.iconst 0, 1) := by decide +kernel
theorem zd_M_weight_67 : decode zb_M_weight 67 = .ok (.iaload, 1) := by decide +kernel
theorem zd_M_weight_68 : decode zb_M_weight 68 = .ok (.istore_n 2, 1) := by decide +kernel
theorem zd_M_weight_69 : decode zb_M_weight 69 = .ok (.bipush 10, 2) := by decide +kernel
theorem zd_M_weight_71 : decode zb_M_weight 71 = .ok (.iload_n 2, 1) := by decide +kernel
theorem zd_M_weight_72 : decode zb_M_weight 72 = .ok (.iconst 0, 1) := by decide +kernel
theorem zd_M_weight_73 : decode zb_M_weight 73 = .ok (.invokestatic 345, 3) := by decide +kernel
theorem zd_M_weight_76 : decode zb_M_weight 76 = .ok (.iadd, 1) := by decide +kernel
theorem zd_M_weight_77 : decode zb_M_weight 77 = .ok (.iload_n 2, 1) := by decide +kernel
theorem zd_M_weight_78 : decode zb_M_weight 78 = .ok (.iconst 0, 1) := by decide +kernel
theorem zd_M_weight_79 : decode zb_M_weight 79 = .ok (.invokestatic 349, 3) := by decide +kernel
theorem zd_M_weight_82 : decode zb_M_weight 82 = .ok (.iadd, 1) := by decide +kernel
theorem zd_M_weight_83 : decode zb_M_weight 83 = .ok (.iload_n 2, 1) := by decide +kernel
theorem zd_M_weight_84 : decode zb_M_weight 84 = .ok (.iadd, 1) := by decide +kernel
theorem zd_M_weight_85 : decode zb_M_weight 85 = .ok (.istore_n 3, 1) := by decide +kernel
theorem zd_M_weight_86 : decode zb_M_weight 86 = .ok (.iload_n 2, 1) := by decide +kernel
theorem zd_M_weight_87 : decode zb_M_weight 87 = .ok (.iconst 1, 1) := by decide +kernel
theorem zd_M_weight_88 : decode zb_M_weight 88 = .ok (.if_icmp .ne 16, 3) := by decide +kernel
theorem zd_M_weight_91 : decode zb_M_weight 91 = .ok (.iload_n 3, 1) := by decide +kernel
theorem zd_M_weight_92 : decode zb_M_weight 92 = .ok (.aload_n 0, 1) := by decide +kernel
theorem zd_M_weight_93 : decode zb_M_weight 93 = .ok (.getfield 37, 3) := by decide +kernel
theorem zd_M_weight_96 : decode zb_M_weight 96 = .ok (.iload_n 1, 1) := by decide +kernel
theorem zd_M_weight_97 : decode zb_M_weight 97 = .ok (.aaload, 1) := by decide +kernel
theorem zd_M_weight_98 : decode zb_M_weight 98 = .ok (.iconst 1, 1) := by decide +kernel
theorem zd_M_weight_99 : decode zb_M_weight 99 = .ok (.iaload, 1) := by decide +kernel
theorem zd_M_weight_100 : decode zb_M_weight 100 = .ok (.iadd, 1) := by decide +kernel
theorem zd_M_weight_101 : decode zb_M_weight 101 = .ok (.goto 15, 3) := by decide +kernel
theorem zd_M_weight_104 : decode zb_M_weight 104 = .ok (.iload_n 2, 1) := by decide +kernel
theorem zd_M_weight_105 : decode zb_M_weight 105 = .ok (.iconst 5, 1) := by decide +kernel
theorem zd_M_weight_106 : decode zb_M_weight 106 = .ok (.if_icmp .ne 9, 3) := by decide +kernel
theorem zd_M_weight_109 : decode zb_M_weight 109 = .ok (.iconst 2, 1) := by decide +kernel
theorem zd_M_weight_110 : decode zb_M_weight 110 = .ok (.iload_n 3, 1) := by decide +kernel
theorem zd_M_weight_111 : decode zb_M_weight 111 = .ok (.imul, 1) := by decide +kernel
theorem zd_M_weight_112 : decode zb_M_weight 112 = .ok (.goto 4, 3) := by decide +kernel
theorem zd_M_weight_115 : decode zb_M_weight 115 = .ok (.iload_n 3, 1) := by decide +kernel
theorem zd_M_weight_116 : decode zb_M_weight 116 = .ok (.ireturn, 1) := by decide +kernel

def zf_M_weight (x1 : Int) (S : Sg) : Option (Int × Sg) :=
    zlt (zu S 9 0 0 4 0) fun S1 => zbd (zf_M_isShelf x1 S1) fun a2 S3 => if a2 = 0 then (some (-1, S3)) else (zbd (zf_M_noThing x1 S3) fun a5 S6 => if a5 = 0 then (zck (0 ≤ x1 ∧ x1 < 8) <| if (S6 9 0 1 x1) = 2 then (some (zw ((zw (1000 + (S6 11 x1 0 1))) + (S6 11 x1 0 2)), S6)) else (zlt (S6 11 x1 0 0) fun v10 => zbd (zf_W_need v10 0 S6) fun a11 S12 => zbd (zf_W_wage v10 0 S12) fun a13 S14 => zlt (zw ((zw ((zw (10 + a11)) + a13)) + v10)) fun v15 => if v10 = 1 then (some (zw (v15 + (S14 11 x1 0 1)), S14)) else (if v10 = 5 then (some (zw (2 * v15), S14)) else (some (v15, S14))))) else (zbd (zf_M_noThing x1 S6) fun a18 S19 => some (a18, S19)))
set_option maxHeartbeats 4000000 in
set_option maxRecDepth 100000 in
theorem zw_M_weight {p : Program} {l : Launch} {e : Env} {s : State} {m : MethodId} {args : Array Value} {below : List Frame} {meth : Method} {c : Code} {B : zB} (C : CallFix p m c zb_M_weight 4 s args zT "IslandOfficeModel") (hr : meth.sig.returnType = some .int) (hlk : meth.locks = false) (hK : zK B s) (hSt : zSt B s) (hap : zAp B) {res : Int} {S9 : Sg} : ∀ (x1 : Int) (S : Sg) (nx1 : zn x1), zf_M_weight x1 S = some (res, S9) → ∀ (H : Heap) (locs : List Loc) (ls : Array Slot), zW B S H → va_S B.2.2.2 s.heap H locs → lv_has ls 4 [(0, .ref (B.2.1 9 (0) (0))), (1, .int (zI (x1)))] → W p l e zm_M_weight s m args below meth c H locs 0 0 (MQ below (zQi B res S9) args s 0 0 B.2.2.2) (F0 m 0 ls []) := by
  intro x1 S nx1 hf H locs ls hW hS hl
  unfold zf_M_weight at hf
  refine lv_aload_n C.1 C.2.1 zd_M_weight_0 rfl (lv_at hl 0 rfl) ?_
  refine zr_iconst C zd_M_weight_1 ?_
  obtain ⟨S1, eS1, hf⟩ := zlt_some hf
  refine zp_M_thrown (r := 0) C hK hap hW hS (zvd_9 (by decide) (by decide)) zk_1504 (znb rfl) zd_M_weight_2 (fun H locs hW hS => ?_)
  rw [eS1] at hW
  refine lv_iload_n C.1 C.2.1 zd_M_weight_5 rfl (lv_at hl 1 rfl) ?_
  obtain ⟨a2, S3, ea2, hf⟩ := zbd_some hf
  refine zcSi (As := [.int (zI (x1))]) (rest := []) C hK hSt hW hS (zc_M_isShelf hap x1 S1 nx1 ea2) zq_M_isShelf zk_1645 ⟨rfl, rfl, by decide, by decide⟩ ⟨by decide, by decide⟩ rfl hl.1 rfl (lv_room (Nat.le_of_ble_eq_true rfl)) zd_M_weight_6 (fun na2 H locs hW hS => ?_)
  refine zr_if_ne (tgt := 14) C na2 zd_M_weight_9 (by decide) (fun c4 => ?_) (fun c4 => ?_)
  · rw [if_neg c4] at hf
    refine lv_aload_n C.1 C.2.1 zd_M_weight_14 rfl (lv_at hl 0 rfl) ?_
    refine lv_iload_n C.1 C.2.1 zd_M_weight_15 rfl (lv_at hl 1 rfl) ?_
    obtain ⟨a5, S6, ea5, hf⟩ := zbd_some hf
    refine zcVi (As := [.int (zI (x1))]) (rest := []) C hK hSt hW hS (zc_M_noThing hap x1 S3 nx1 ea5) zq_M_noThing zk_2052 (zrecv hK hW (zvd_9 (by decide) (by decide)) (ze_9_0 B _ (0)) rfl) ⟨rfl, rfl, by decide, by decide⟩ ⟨by decide, by decide⟩ rfl hl.1 rfl (lv_room (Nat.le_of_ble_eq_true rfl)) zd_M_weight_16 (fun na5 H locs hW hS => ?_)
    refine zr_if_eq (tgt := 28) C na5 zd_M_weight_19 (by decide) (fun c7 => ?_) (fun c7 => ?_)
    · rw [if_pos c7] at hf
      refine lv_aload_n C.1 C.2.1 zd_M_weight_28 rfl (lv_at hl 0 rfl) ?_
      refine zg_M_held (r := 0) C hK hW (zvd_9 (by decide) (by decide)) zk_1505 zd_M_weight_29 ?_
      refine lv_iload_n C.1 C.2.1 zd_M_weight_32 rfl (lv_at hl 1 rfl) ?_
      obtain ⟨h8, hf⟩ := zck_some hf
      refine ziald C hK hW (zvd_9 (by decide) (by decide)) (fun f => ze_9_1 B f (0)) (by decide) h8 zd_M_weight_33 ?_
      refine zr_iconst C zd_M_weight_34 ?_
      refine zr_icmp_ne (tgt := 60) C (zWn hW _ _ _ _ rfl) (znb rfl) zd_M_weight_35 (by decide) (fun c9 => ?_) (fun c9 => ?_)
      · rw [if_neg c9] at hf
        refine lv_aload_n C.1 C.2.1 zd_M_weight_60 rfl (lv_at hl 0 rfl) ?_
        refine zg_M_kept (r := 0) C hK hW (zvd_9 (by decide) (by decide)) zk_1509 zd_M_weight_61 ?_
        refine lv_iload_n C.1 C.2.1 zd_M_weight_64 rfl (lv_at hl 1 rfl) ?_
        refine zaald (t0 := 4) C hK hW (zvd_9 (by decide) (by decide)) (fun f => ze_9_5 B f (0)) rfl rfl (by decide) h8 zd_M_weight_65 (a := B.2.1 11 (x1) (0)) (by rw [Int.toNat_of_nonneg h8.1]) ?_
        refine zr_iconst C zd_M_weight_66 ?_
        refine ziald C hK hW (zvd_11 h8 (by decide)) (fun f => ze_11_0 B f (x1)) (by decide) (by decide) zd_M_weight_67 ?_
        obtain ⟨v10, ev10, hf⟩ := zlt_some hf
        have nv10 : zn v10 := by rw [← ev10]; exact (zWn hW _ _ _ _ rfl)
        rw [ev10]
        refine lv_istore_n (lv' := [(2, .int (zI (v10))), (0, .ref (B.2.1 9 (0) (0))), (1, .int (zI (x1)))]) C.1 C.2.1 zd_M_weight_68 rfl hl (by decide) rfl (fun ls hl => ?_)
        refine zr_bipush C zd_M_weight_69 (by decide) ?_
        refine lv_iload_n C.1 C.2.1 zd_M_weight_71 rfl (lv_at hl 0 rfl) ?_
        refine zr_iconst C zd_M_weight_72 ?_
        obtain ⟨a11, S12, ea11, hf⟩ := zbd_some hf
        refine zcSi (As := [.int (zI (v10)), .int (zI (0))]) (rest := [.int (zI (10))]) C hK hSt hW hS (zc_W_need hap v10 0 S6 nv10 (znb rfl) ea11) zq_W_need zk_2056 ⟨rfl, rfl, by decide, by decide⟩ ⟨by decide, by decide⟩ rfl hl.1 rfl (lv_room (Nat.le_of_ble_eq_true rfl)) zd_M_weight_73 (fun na11 H locs hW hS => ?_)
        refine zr_iadd C zd_M_weight_76 ?_
        refine lv_iload_n C.1 C.2.1 zd_M_weight_77 rfl (lv_at hl 0 rfl) ?_
        refine zr_iconst C zd_M_weight_78 ?_
        obtain ⟨a13, S14, ea13, hf⟩ := zbd_some hf
        refine zcSi (As := [.int (zI (v10)), .int (zI (0))]) (rest := [.int (zI (zw (10 + a11)))]) C hK hSt hW hS (zc_W_wage hap v10 0 S12 nv10 (znb rfl) ea13) zq_W_wage zk_2057 ⟨rfl, rfl, by decide, by decide⟩ ⟨by decide, by decide⟩ rfl hl.1 rfl (lv_room (Nat.le_of_ble_eq_true rfl)) zd_M_weight_79 (fun na13 H locs hW hS => ?_)
        refine zr_iadd C zd_M_weight_82 ?_
        refine lv_iload_n C.1 C.2.1 zd_M_weight_83 rfl (lv_at hl 0 rfl) ?_
        refine zr_iadd C zd_M_weight_84 ?_
        obtain ⟨v15, ev15, hf⟩ := zlt_some hf
        have nv15 : zn v15 := by rw [← ev15]; exact (zn_w _)
        rw [ev15]
        refine lv_istore_n (lv' := [(3, .int (zI (v15))), (2, .int (zI (v10))), (0, .ref (B.2.1 9 (0) (0))), (1, .int (zI (x1)))]) C.1 C.2.1 zd_M_weight_85 rfl hl (by decide) rfl (fun ls hl => ?_)
        refine lv_iload_n C.1 C.2.1 zd_M_weight_86 rfl (lv_at hl 1 rfl) ?_
        refine zr_iconst C zd_M_weight_87 ?_
        refine zr_icmp_ne (tgt := 104) C nv10 (znb rfl) zd_M_weight_88 (by decide) (fun c16 => ?_) (fun c16 => ?_)
        · rw [if_neg c16] at hf
          refine lv_iload_n C.1 C.2.1 zd_M_weight_104 rfl (lv_at hl 1 rfl) ?_
          refine zr_iconst C zd_M_weight_105 ?_
          refine zr_icmp_ne (tgt := 115) C nv10 (znb rfl) zd_M_weight_106 (by decide) (fun c17 => ?_) (fun c17 => ?_)
          · rw [if_neg c17] at hf
            refine lv_iload_n C.1 C.2.1 zd_M_weight_115 rfl (lv_at hl 0 rfl) ?_
            cases hf
            exact zre_i C hr hlk hK hW hS nv15 zd_M_weight_116
          · rw [if_pos c17] at hf
            refine zr_iconst C zd_M_weight_109 ?_
            refine lv_iload_n C.1 C.2.1 zd_M_weight_110 rfl (lv_at hl 0 rfl) ?_
            refine zr_imul C zd_M_weight_111 ?_
            refine lv_goto (tgt := 116) C.1 C.2.1 zd_M_weight_112 (by decide) ?_
            cases hf
            exact zre_i C hr hlk hK hW hS (zn_w _) zd_M_weight_116
        · rw [if_pos c16] at hf
          refine lv_iload_n C.1 C.2.1 zd_M_weight_91 rfl (lv_at hl 0 rfl) ?_
          refine lv_aload_n C.1 C.2.1 zd_M_weight_92 rfl (lv_at hl 2 rfl) ?_
          refine zg_M_kept (r := 0) C hK hW (zvd_9 (by decide) (by decide)) zk_1509 zd_M_weight_93 ?_
          refine lv_iload_n C.1 C.2.1 zd_M_weight_96 rfl (lv_at hl 3 rfl) ?_
          refine zaald (t0 := 4) C hK hW (zvd_9 (by decide) (by decide)) (fun f => ze_9_5 B f (0)) rfl rfl (by decide) h8 zd_M_weight_97 (a := B.2.1 11 (x1) (0)) (by rw [Int.toNat_of_nonneg h8.1]) ?_
          refine zr_iconst C zd_M_weight_98 ?_
          refine ziald C hK hW (zvd_11 h8 (by decide)) (fun f => ze_11_0 B f (x1)) (by decide) (by decide) zd_M_weight_99 ?_
          refine zr_iadd C zd_M_weight_100 ?_
          refine lv_goto (tgt := 116) C.1 C.2.1 zd_M_weight_101 (by decide) ?_
          cases hf
          exact zre_i C hr hlk hK hW hS (zn_w _) zd_M_weight_116
      · rw [if_pos c9] at hf
        refine zr_sipush C zd_M_weight_38 (by decide) ?_
        refine lv_aload_n C.1 C.2.1 zd_M_weight_41 rfl (lv_at hl 0 rfl) ?_
        refine zg_M_kept (r := 0) C hK hW (zvd_9 (by decide) (by decide)) zk_1509 zd_M_weight_42 ?_
        refine lv_iload_n C.1 C.2.1 zd_M_weight_45 rfl (lv_at hl 1 rfl) ?_
        refine zaald (t0 := 4) C hK hW (zvd_9 (by decide) (by decide)) (fun f => ze_9_5 B f (0)) rfl rfl (by decide) h8 zd_M_weight_46 (a := B.2.1 11 (x1) (0)) (by rw [Int.toNat_of_nonneg h8.1]) ?_
        refine zr_iconst C zd_M_weight_47 ?_
        refine ziald C hK hW (zvd_11 h8 (by decide)) (fun f => ze_11_0 B f (x1)) (by decide) (by decide) zd_M_weight_48 ?_
        refine zr_iadd C zd_M_weight_49 ?_
        refine lv_aload_n C.1 C.2.1 zd_M_weight_50 rfl (lv_at hl 0 rfl) ?_
        refine zg_M_kept (r := 0) C hK hW (zvd_9 (by decide) (by decide)) zk_1509 zd_M_weight_51 ?_
        refine lv_iload_n C.1 C.2.1 zd_M_weight_54 rfl (lv_at hl 1 rfl) ?_
        refine zaald (t0 := 4) C hK hW (zvd_9 (by decide) (by decide)) (fun f => ze_9_5 B f (0)) rfl rfl (by decide) h8 zd_M_weight_55 (a := B.2.1 11 (x1) (0)) (by rw [Int.toNat_of_nonneg h8.1]) ?_
        refine zr_iconst C zd_M_weight_56 ?_
        refine ziald C hK hW (zvd_11 h8 (by decide)) (fun f => ze_11_0 B f (x1)) (by decide) (by decide) zd_M_weight_57 ?_
        refine zr_iadd C zd_M_weight_58 ?_
        cases hf
        exact zre_i C hr hlk hK hW hS (zn_w _) zd_M_weight_59
    · rw [if_neg c7] at hf
      refine lv_aload_n C.1 C.2.1 zd_M_weight_22 rfl (lv_at hl 0 rfl) ?_
      refine lv_iload_n C.1 C.2.1 zd_M_weight_23 rfl (lv_at hl 1 rfl) ?_
      obtain ⟨a18, S19, ea18, hf⟩ := zbd_some hf
      refine zcVi (As := [.int (zI (x1))]) (rest := []) C hK hSt hW hS (zc_M_noThing hap x1 S6 nx1 ea18) zq_M_noThing zk_2052 (zrecv hK hW (zvd_9 (by decide) (by decide)) (ze_9_0 B _ (0)) rfl) ⟨rfl, rfl, by decide, by decide⟩ ⟨by decide, by decide⟩ rfl hl.1 rfl (lv_room (Nat.le_of_ble_eq_true rfl)) zd_M_weight_24 (fun na18 H locs hW hS => ?_)
      cases hf
      exact zre_i C hr hlk hK hW hS na18 zd_M_weight_27
  · rw [if_pos c4] at hf
    refine zr_iconst C zd_M_weight_12 ?_
    cases hf
    exact zre_i C hr hlk hK hW hS (znb rfl) zd_M_weight_13

theorem zc_M_weight {l : Launch} {B : zB} (hap : zAp B) (x1 : Int) (S : Sg) (nx1 : zn x1) {res : Int} {S9 : Sg} (hf : zf_M_weight x1 S = some (res, S9)) : Met l zy_M_weight (Cond.code zy_M_weight zb_M_weight 4 (some .int) :: zT) zm_M_weight (zP B S [.ref (B.2.1 9 (0) (0)), .int (zI (x1))]) (zQi B res S9) 0 0 B.2.2.2 :=
  zmet (by decide) (Nat.le_of_ble_eq_true rfl) (fun p e s m args below meth c C hr hlk hK hSt hW ls hl => zw_M_weight C hr hlk hK hSt hap   x1 S nx1 hf _ _ _ hW va_S.rf hl)
/-! IslandOfficeModel.toss(I)I -/
abbrev zy_M_toss : MethodName := ⟨"IslandOfficeModel", "toss", "(I)I"⟩
abbrev zb_M_toss : ByteArray := prog_14_method_73_code
abbrev zm_M_toss : Room := { frames := 2, cells := 0, slots := 0, locals := 43 }
theorem zq_M_toss : zMy zy_M_toss zb_M_toss 3 (some .int) 1 := ⟨zk_2061, zk_2059, zk_2060, zk_14, by decide, by decide, by decide +kernel⟩
theorem zd_M_toss_0 : decode zb_M_toss 0 = .ok (.aload_n 0, 1) := by decide +kernel
theorem zd_M_toss_1 : decode zb_M_toss 1 = .ok (.iconst 0, 1) := by decide +kernel
theorem zd_M_toss_2 : decode zb_M_toss 2 = .ok (.putfield 46, 3) := by decide +kernel
theorem zd_M_toss_5 : decode zb_M_toss 5 = .ok (.iload_n 1, 1) := by decide +kernel
theorem zd_M_toss_6 : decode zb_M_toss 6 = .ok (.invokestatic 172, 3) := by decide +kernel
theorem zd_M_toss_9 : decode zb_M_toss 9 = .ok (.ifCond .ne 5, 3) := by decide +kernel
theorem zd_M_toss_12 : decode zb_M_toss 12 = .ok (.iconst (-1), 1) := by decide +kernel
theorem zd_M_toss_13 : decode zb_M_toss 13 = .ok (.ireturn, 1) := by decide +kernel
theorem zd_M_toss_14 : decode zb_M_toss 14 = .ok (.aload_n 0, 1) := by decide +kernel
theorem zd_M_toss_15 : decode zb_M_toss 15 = .ok (.iload_n 1, 1) := by decide +kernel
theorem zd_M_toss_16 : decode zb_M_toss 16 = .ok (.invokevirtual 342, 3) := by decide +kernel
theorem zd_M_toss_19 : decode zb_M_toss 19 = .ok (.ifCond .eq 9, 3) := by decide +kernel
theorem zd_M_toss_22 : decode zb_M_toss 22 = .ok (.aload_n 0, 1) := by decide +kernel
theorem zd_M_toss_23 : decode zb_M_toss 23 = .ok (.iload_n 1, 1) := by decide +kernel
theorem zd_M_toss_24 : decode zb_M_toss 24 = .ok (.invokevirtual 342, 3) := by decide +kernel
theorem zd_M_toss_27 : decode zb_M_toss 27 = .ok (.ireturn, 1) := by decide +kernel
theorem zd_M_toss_28 : decode zb_M_toss 28 = .ok (.aload_n 0, 1) := by decide +kernel
theorem zd_M_toss_29 : decode zb_M_toss 29 = .ok (.getfield 22, 3) := by decide +kernel
theorem zd_M_toss_32 : decode zb_M_toss 32 = .ok (.iload_n 1, 1) := by decide +kernel
theorem zd_M_toss_33 : decode zb_M_toss 33 = .ok (.iaload, 1) := by decide +kernel
theorem zd_M_toss_34 : decode zb_M_toss 34 = .ok (.iconst 2, 1) := by decide +kernel
theorem zd_M_toss_35 : decode zb_M_toss 35 = .ok (.if_icmp .ne 62, 3) := by decide +kernel
theorem zd_M_toss_38 : decode zb_M_toss 38 = .ok (.aload_n 0, 1) := by decide +kernel
theorem zd_M_toss_39 : decode zb_M_toss 39 = .ok (.aload_n 0, 1) := by decide +kernel
theorem zd_M_toss_40 : decode zb_M_toss 40 = .ok (.getfield 37, 3) := by decide +kernel
theorem zd_M_toss_43 : decode zb_M_toss 43 = .ok (.iload_n 1, 1) := by decide +kernel
theorem zd_M_toss_44 : decode zb_M_toss 44 = .ok (.aaload, 1) := by decide +kernel
theorem zd_M_toss_45 : decode zb_M_toss 45 = .ok (.iconst 0, 1) := by decide +kernel
theorem zd_M_toss_46 : decode zb_M_toss 46 = .ok (.iaload, 1) := by decide +kernel
theorem zd_M_toss_47 : decode zb_M_toss 47 = .ok (.invokevirtual 216, 3) := by decide +kernel
theorem zd_M_toss_50 : decode zb_M_toss 50 = .ok (.ifCond .eq 27, 3) := by decide +kernel
theorem zd_M_toss_53 : decode zb_M_toss 53 = .ok (.aload_n 0, 1) := by decide +kernel
theorem zd_M_toss_54 : decode zb_M_toss 54 = .ok (.getfield 10, 3) := by decide +kernel
theorem zd_M_toss_57 : decode zb_M_toss 57 = .ok (.getfield 210, 3) := by decide +kernel
theorem zd_M_toss_60 : decode zb_M_toss 60 = .ok (.aload_n 0, 1) := by decide +kernel
theorem zd_M_toss_61 : decode zb_M_toss 61 = .ok (.getfield 37, 3) := by decide +kernel
theorem zd_M_toss_64 : decode zb_M_toss 64 = .ok (.iload_n 1, 1) := by decide +kernel
theorem zd_M_toss_65 : decode zb_M_toss 65 = .ok (.aaload, 1) := by decide +kernel
theorem zd_M_toss_66 : decode zb_M_toss 66 = .ok (.iconst 0, 1) := by decide +kernel
theorem zd_M_toss_67 : decode zb_M_toss 67 = .ok (.iaload, 1) := by decide +kernel
theorem zd_M_toss_68 : decode zb_M_toss 68 = .ok (.iaload, 1) := by decide +kernel
theorem zd_M_toss_69 : decode zb_M_toss 69 = .ok (.iconst 1, 1) := by decide +kernel
theorem zd_M_toss_70 : decode zb_M_toss 70 = .ok (.if_icmp .ne 7, 3) := by decide +kernel
theorem zd_M_toss_73 : decode zb_M_toss 73 = .ok (.iconst 1, 1) := by decide +kernel
theorem zd_M_toss_74 : decode zb_M_toss 74 = .ok (.goto 4, 3) := by decide +kernel
theorem zd_M_toss_77 : decode zb_M_toss 77 = .ok (.iconst 0, 1) := by decide +kernel
theorem zd_M_toss_78 : decode zb_M_toss 78 = .ok (.istore_n 2, 1) := by decide +kernel
theorem zd_M_toss_79 : decode zb_M_toss 79 = .ok (.iload_n 2, 1) := by decide +kernel
theorem zd_M_toss_80 : decode zb_M_toss 80 = .ok (.ifCond .eq 8, 3) := by decide +kernel
theorem zd_M_toss_83 : decode zb_M_toss 83 = .ok (.bipush (-15), 2) := by decide +kernel
theorem zd_M_toss_85 : decode zb_M_toss 85 = .ok (.goto 11, 3) := by decide +kernel
theorem zd_M_toss_88 : decode zb_M_toss 88 = .ok (.aload_n 0, 1) := by decide +kernel
theorem zd_M_toss_89 : decode zb_M_toss 89 = .ok (.getfield 37, 3) := by decide +kernel
theorem zd_M_toss_92 : decode zb_M_toss 92 = .ok (.iload_n 1, 1) := by decide +kernel
theorem zd_M_toss_93 : decode zb_M_toss 93 = .ok (.aaload, 1) := by decide +kernel
theorem zd_M_toss_94 : decode zb_M_toss 94 = .ok (.iconst 3, 1) := by decide +kernel
theorem zd_M_toss_95 : decode zb_M_toss 95 = .ok (.iaload, 1) := by decide +kernel
theorem zd_M_toss_96 : decode zb_M_toss 96 = .ok (.ireturn, 1) := by decide +kernel
theorem zd_M_toss_97 : decode zb_M_toss 97 = .ok (.aload_n 0, 1) := by decide +kernel
theorem zd_M_toss_98 : decode zb_M_toss 98 = .ok (.getfield 37, 3) := by decide +kernel
theorem zd_M_toss_101 : decode zb_M_toss 101 = .ok (.iload_n 1, 1) := by decide +kernel
theorem zd_M_toss_102 : decode zb_M_toss 102 = .ok (.aaload, 1) := by decide +kernel
theorem zd_M_toss_103 : decode zb_M_toss 103 = .ok (.iconst 0, 1) := by decide +kernel
theorem zd_M_toss_104 : decode zb_M_toss 104 = .ok (.iaload, 1) := by decide +kernel
theorem zd_M_toss_105 : decode zb_M_toss 105 = .ok (.iconst 3, 1) := by decide +kernel
theorem zd_M_toss_106 : decode zb_M_toss 106 = .ok (.if_icmp .ne 8, 3) := by decide +kernel
theorem zd_M_toss_109 : decode zb_M_toss 109 = .ok (.bipush (-15), 2) := by decide +kernel
theorem zd_M_toss_111 : decode zb_M_toss 111 = .ok (.goto 37, 3) := by decide +kernel
theorem zd_M_toss_114 : decode zb_M_toss 114 = .ok (.aload_n 0, 1) := by decide +kernel
theorem zd_M_toss_115 : decode zb_M_toss 115 = .ok (.getfield 37, 3) := by decide +kernel
theorem zd_M_toss_118 : decode zb_M_toss 118 = .ok (.iload_n 1, 1) := by decide +kernel
theorem zd_M_toss_119 : decode zb_M_toss 119 = .ok (.aaload, 1) := by decide +kernel
theorem zd_M_toss_120 : decode zb_M_toss 120 = .ok (.iconst 0, 1) := by decide +kernel
theorem zd_M_toss_121 : decode zb_M_toss 121 = .ok (.iaload, 1) := by decide +kernel
theorem zd_M_toss_122 : decode zb_M_toss 122 = .ok (.iconst 5, 1) := by decide +kernel
theorem zd_M_toss_123 : decode zb_M_toss 123 = .ok (.if_icmp .ne 17, 3) := by decide +kernel
theorem zd_M_toss_126 : decode zb_M_toss 126 = .ok (.aload_n 0, 1) := by decide +kernel
theorem zd_M_toss_127 : decode zb_M_toss 127 = .ok (.getfield 37, 3) := by decide +kernel
theorem zd_M_toss_130 : decode zb_M_toss 130 = .ok (.iload_n 1, 1) := by decide +kernel
theorem zd_M_toss_131 : decode zb_M_toss 131 = .ok (.aaload, 1) := by decide +kernel
theorem zd_M_toss_132 : decode zb_M_toss 132 = .ok (.iconst 2, 1) := by decide +kernel
theorem zd_M_toss_133 : decode zb_M_toss 133 = .ok (.iaload, 1) := by decide +kernel
theorem zd_M_toss_134 : decode zb_M_toss 134 = .ok (.bipush 100, 2) := by decide +kernel
theorem zd_M_toss_136 : decode zb_M_toss 136 = .ok (.iadd, 1) := by decide +kernel
theorem zd_M_toss_137 : decode zb_M_toss 137 = .ok (.goto 11, 3) := by decide +kernel
theorem zd_M_toss_140 : decode zb_M_toss 140 = .ok (.aload_n 0, 1) := by decide +kernel
theorem zd_M_toss_141 : decode zb_M_toss 141 = .ok (.getfield 37, 3) := by decide +kernel
theorem zd_M_toss_144 : decode zb_M_toss 144 = .ok (.iload_n 1, 1) := by decide +kernel
theorem zd_M_toss_145 : decode zb_M_toss 145 = .ok (.aaload, 1) := by decide +kernel
theorem zd_M_toss_146 : decode zb_M_toss 146 = .ok (.iconst 2, 1) := by decide +kernel
theorem zd_M_toss_147 : decode zb_M_toss 147 = .ok (.iaload, 1) := by decide +kernel
theorem zd_M_toss_148 : decode zb_M_toss 148 = .ok (.ireturn, 1) := by decide +kernel

def zf_M_toss_78 (x1 : Int) (xt0 : Int) (S : Sg) : Option (Int × Sg) :=
    if xt0 = 0 then (zck (0 ≤ x1 ∧ x1 < 8) <| some (S 11 x1 0 3, S)) else (some (-15, S))
set_option maxHeartbeats 4000000 in
set_option maxRecDepth 100000 in
theorem zw_M_toss_78 {p : Program} {l : Launch} {e : Env} {s : State} {m : MethodId} {args : Array Value} {below : List Frame} {meth : Method} {c : Code} {B : zB} (C : CallFix p m c zb_M_toss 3 s args zT "IslandOfficeModel") (hr : meth.sig.returnType = some .int) (hlk : meth.locks = false) (hK : zK B s) (hSt : zSt B s) (hap : zAp B) {res : Int} {S9 : Sg} : ∀ (x1 : Int) (xt0 : Int) (S : Sg) (nx1 : zn x1) (nxt0 : zn xt0), zf_M_toss_78 x1 xt0 S = some (res, S9) → ∀ (H : Heap) (locs : List Loc) (ls : Array Slot), zW B S H → va_S B.2.2.2 s.heap H locs → lv_has ls 3 [(0, .ref (B.2.1 9 (0) (0))), (1, .int (zI (x1)))] → W p l e zm_M_toss s m args below meth c H locs 0 0 (MQ below (zQi B res S9) args s 0 0 B.2.2.2) (F0 m 78 ls [.int (zI (xt0))]) := by
  intro x1 xt0 S nx1 nxt0 hf H locs ls hW hS hl
  unfold zf_M_toss_78 at hf
  refine lv_istore_n (lv' := [(2, .int (zI (xt0))), (0, .ref (B.2.1 9 (0) (0))), (1, .int (zI (x1)))]) C.1 C.2.1 zd_M_toss_78 rfl hl (by decide) rfl (fun ls hl => ?_)
  refine lv_iload_n C.1 C.2.1 zd_M_toss_79 rfl (lv_at hl 0 rfl) ?_
  refine zr_if_eq (tgt := 88) C nxt0 zd_M_toss_80 (by decide) (fun c1 => ?_) (fun c1 => ?_)
  · rw [if_pos c1] at hf
    refine lv_aload_n C.1 C.2.1 zd_M_toss_88 rfl (lv_at hl 1 rfl) ?_
    refine zg_M_kept (r := 0) C hK hW (zvd_9 (by decide) (by decide)) zk_1509 zd_M_toss_89 ?_
    refine lv_iload_n C.1 C.2.1 zd_M_toss_92 rfl (lv_at hl 2 rfl) ?_
    obtain ⟨h2, hf⟩ := zck_some hf
    refine zaald (t0 := 4) C hK hW (zvd_9 (by decide) (by decide)) (fun f => ze_9_5 B f (0)) rfl rfl (by decide) h2 zd_M_toss_93 (a := B.2.1 11 (x1) (0)) (by rw [Int.toNat_of_nonneg h2.1]) ?_
    refine zr_iconst C zd_M_toss_94 ?_
    refine ziald C hK hW (zvd_11 h2 (by decide)) (fun f => ze_11_0 B f (x1)) (by decide) (by decide) zd_M_toss_95 ?_
    cases hf
    exact zre_i C hr hlk hK hW hS (zWn hW _ _ _ _ rfl) zd_M_toss_96
  · rw [if_neg c1] at hf
    refine zr_bipush C zd_M_toss_83 (by decide) ?_
    refine lv_goto (tgt := 96) C.1 C.2.1 zd_M_toss_85 (by decide) ?_
    cases hf
    exact zre_i C hr hlk hK hW hS (znb rfl) zd_M_toss_96

def zf_M_toss_77 (x1 : Int) (S : Sg) : Option (Int × Sg) :=
    zf_M_toss_78 (x1) (0) S
set_option maxHeartbeats 4000000 in
set_option maxRecDepth 100000 in
theorem zw_M_toss_77 {p : Program} {l : Launch} {e : Env} {s : State} {m : MethodId} {args : Array Value} {below : List Frame} {meth : Method} {c : Code} {B : zB} (C : CallFix p m c zb_M_toss 3 s args zT "IslandOfficeModel") (hr : meth.sig.returnType = some .int) (hlk : meth.locks = false) (hK : zK B s) (hSt : zSt B s) (hap : zAp B) {res : Int} {S9 : Sg} : ∀ (x1 : Int) (S : Sg) (nx1 : zn x1), zf_M_toss_77 x1 S = some (res, S9) → ∀ (H : Heap) (locs : List Loc) (ls : Array Slot), zW B S H → va_S B.2.2.2 s.heap H locs → lv_has ls 3 [(0, .ref (B.2.1 9 (0) (0))), (1, .int (zI (x1)))] → W p l e zm_M_toss s m args below meth c H locs 0 0 (MQ below (zQi B res S9) args s 0 0 B.2.2.2) (F0 m 77 ls []) := by
  intro x1 S nx1 hf H locs ls hW hS hl
  unfold zf_M_toss_77 at hf
  refine zr_iconst C zd_M_toss_77 ?_
  exact zw_M_toss_78 C hr hlk hK hSt hap   (x1) (0) S nx1 (znb rfl) hf _ _ _ hW hS (lv_sub hl [0, 1] rfl)

def zf_M_toss (x1 : Int) (S : Sg) : Option (Int × Sg) :=
    zlt (zu S 9 0 0 4 0) fun S1 => zbd (zf_M_isShelf x1 S1) fun a2 S3 => if a2 = 0 then (some (-1, S3)) else (zbd (zf_M_noThing x1 S3) fun a5 S6 => if a5 = 0 then (zck (0 ≤ x1 ∧ x1 < 8) <| if (S6 9 0 1 x1) = 2 then (zbd (zf_M_isLaw (S6 11 x1 0 0) S6) fun a12 S13 => if a12 = 0 then (zf_M_toss_77 (x1) S13) else (zck (0 ≤ (S13 11 x1 0 0) ∧ (S13 11 x1 0 0) < 12) <| if (S13 5 0 19 (S13 11 x1 0 0)) = 1 then (zf_M_toss_78 (x1) (1) S13) else (zf_M_toss_77 (x1) S13))) else (if (S6 11 x1 0 0) = 3 then (some (-15, S6)) else (if (S6 11 x1 0 0) = 5 then (some (zw ((S6 11 x1 0 2) + 100), S6)) else (some (S6 11 x1 0 2, S6))))) else (zbd (zf_M_noThing x1 S6) fun a17 S18 => some (a17, S18)))
set_option maxHeartbeats 4000000 in
set_option maxRecDepth 100000 in
theorem zw_M_toss {p : Program} {l : Launch} {e : Env} {s : State} {m : MethodId} {args : Array Value} {below : List Frame} {meth : Method} {c : Code} {B : zB} (C : CallFix p m c zb_M_toss 3 s args zT "IslandOfficeModel") (hr : meth.sig.returnType = some .int) (hlk : meth.locks = false) (hK : zK B s) (hSt : zSt B s) (hap : zAp B) {res : Int} {S9 : Sg} : ∀ (x1 : Int) (S : Sg) (nx1 : zn x1), zf_M_toss x1 S = some (res, S9) → ∀ (H : Heap) (locs : List Loc) (ls : Array Slot), zW B S H → va_S B.2.2.2 s.heap H locs → lv_has ls 3 [(0, .ref (B.2.1 9 (0) (0))), (1, .int (zI (x1)))] → W p l e zm_M_toss s m args below meth c H locs 0 0 (MQ below (zQi B res S9) args s 0 0 B.2.2.2) (F0 m 0 ls []) := by
  intro x1 S nx1 hf H locs ls hW hS hl
  unfold zf_M_toss at hf
  refine lv_aload_n C.1 C.2.1 zd_M_toss_0 rfl (lv_at hl 0 rfl) ?_
  refine zr_iconst C zd_M_toss_1 ?_
  obtain ⟨S1, eS1, hf⟩ := zlt_some hf
  refine zp_M_thrown (r := 0) C hK hap hW hS (zvd_9 (by decide) (by decide)) zk_1504 (znb rfl) zd_M_toss_2 (fun H locs hW hS => ?_)
  rw [eS1] at hW
  refine lv_iload_n C.1 C.2.1 zd_M_toss_5 rfl (lv_at hl 1 rfl) ?_
  obtain ⟨a2, S3, ea2, hf⟩ := zbd_some hf
  refine zcSi (As := [.int (zI (x1))]) (rest := []) C hK hSt hW hS (zc_M_isShelf hap x1 S1 nx1 ea2) zq_M_isShelf zk_1645 ⟨rfl, rfl, by decide, by decide⟩ ⟨by decide, by decide⟩ rfl hl.1 rfl (lv_room (Nat.le_of_ble_eq_true rfl)) zd_M_toss_6 (fun na2 H locs hW hS => ?_)
  refine zr_if_ne (tgt := 14) C na2 zd_M_toss_9 (by decide) (fun c4 => ?_) (fun c4 => ?_)
  · rw [if_neg c4] at hf
    refine lv_aload_n C.1 C.2.1 zd_M_toss_14 rfl (lv_at hl 0 rfl) ?_
    refine lv_iload_n C.1 C.2.1 zd_M_toss_15 rfl (lv_at hl 1 rfl) ?_
    obtain ⟨a5, S6, ea5, hf⟩ := zbd_some hf
    refine zcVi (As := [.int (zI (x1))]) (rest := []) C hK hSt hW hS (zc_M_noThing hap x1 S3 nx1 ea5) zq_M_noThing zk_2052 (zrecv hK hW (zvd_9 (by decide) (by decide)) (ze_9_0 B _ (0)) rfl) ⟨rfl, rfl, by decide, by decide⟩ ⟨by decide, by decide⟩ rfl hl.1 rfl (lv_room (Nat.le_of_ble_eq_true rfl)) zd_M_toss_16 (fun na5 H locs hW hS => ?_)
    refine zr_if_eq (tgt := 28) C na5 zd_M_toss_19 (by decide) (fun c7 => ?_) (fun c7 => ?_)
    · rw [if_pos c7] at hf
      refine lv_aload_n C.1 C.2.1 zd_M_toss_28 rfl (lv_at hl 0 rfl) ?_
      refine zg_M_held (r := 0) C hK hW (zvd_9 (by decide) (by decide)) zk_1505 zd_M_toss_29 ?_
      refine lv_iload_n C.1 C.2.1 zd_M_toss_32 rfl (lv_at hl 1 rfl) ?_
      obtain ⟨h8, hf⟩ := zck_some hf
      refine ziald C hK hW (zvd_9 (by decide) (by decide)) (fun f => ze_9_1 B f (0)) (by decide) h8 zd_M_toss_33 ?_
      refine zr_iconst C zd_M_toss_34 ?_
      refine zr_icmp_ne (tgt := 97) C (zWn hW _ _ _ _ rfl) (znb rfl) zd_M_toss_35 (by decide) (fun c9 => ?_) (fun c9 => ?_)
      · rw [if_neg c9] at hf
        refine lv_aload_n C.1 C.2.1 zd_M_toss_97 rfl (lv_at hl 0 rfl) ?_
        refine zg_M_kept (r := 0) C hK hW (zvd_9 (by decide) (by decide)) zk_1509 zd_M_toss_98 ?_
        refine lv_iload_n C.1 C.2.1 zd_M_toss_101 rfl (lv_at hl 1 rfl) ?_
        refine zaald (t0 := 4) C hK hW (zvd_9 (by decide) (by decide)) (fun f => ze_9_5 B f (0)) rfl rfl (by decide) h8 zd_M_toss_102 (a := B.2.1 11 (x1) (0)) (by rw [Int.toNat_of_nonneg h8.1]) ?_
        refine zr_iconst C zd_M_toss_103 ?_
        refine ziald C hK hW (zvd_11 h8 (by decide)) (fun f => ze_11_0 B f (x1)) (by decide) (by decide) zd_M_toss_104 ?_
        refine zr_iconst C zd_M_toss_105 ?_
        refine zr_icmp_ne (tgt := 114) C (zWn hW _ _ _ _ rfl) (znb rfl) zd_M_toss_106 (by decide) (fun c10 => ?_) (fun c10 => ?_)
        · rw [if_neg c10] at hf
          refine lv_aload_n C.1 C.2.1 zd_M_toss_114 rfl (lv_at hl 0 rfl) ?_
          refine zg_M_kept (r := 0) C hK hW (zvd_9 (by decide) (by decide)) zk_1509 zd_M_toss_115 ?_
          refine lv_iload_n C.1 C.2.1 zd_M_toss_118 rfl (lv_at hl 1 rfl) ?_
          refine zaald (t0 := 4) C hK hW (zvd_9 (by decide) (by decide)) (fun f => ze_9_5 B f (0)) rfl rfl (by decide) h8 zd_M_toss_119 (a := B.2.1 11 (x1) (0)) (by rw [Int.toNat_of_nonneg h8.1]) ?_
          refine zr_iconst C zd_M_toss_120 ?_
          refine ziald C hK hW (zvd_11 h8 (by decide)) (fun f => ze_11_0 B f (x1)) (by decide) (by decide) zd_M_toss_121 ?_
          refine zr_iconst C zd_M_toss_122 ?_
          refine zr_icmp_ne (tgt := 140) C (zWn hW _ _ _ _ rfl) (znb rfl) zd_M_toss_123 (by decide) (fun c11 => ?_) (fun c11 => ?_)
          · rw [if_neg c11] at hf
            refine lv_aload_n C.1 C.2.1 zd_M_toss_140 rfl (lv_at hl 0 rfl) ?_
            refine zg_M_kept (r := 0) C hK hW (zvd_9 (by decide) (by decide)) zk_1509 zd_M_toss_141 ?_
            refine lv_iload_n C.1 C.2.1 zd_M_toss_144 rfl (lv_at hl 1 rfl) ?_
            refine zaald (t0 := 4) C hK hW (zvd_9 (by decide) (by decide)) (fun f => ze_9_5 B f (0)) rfl rfl (by decide) h8 zd_M_toss_145 (a := B.2.1 11 (x1) (0)) (by rw [Int.toNat_of_nonneg h8.1]) ?_
            refine zr_iconst C zd_M_toss_146 ?_
            refine ziald C hK hW (zvd_11 h8 (by decide)) (fun f => ze_11_0 B f (x1)) (by decide) (by decide) zd_M_toss_147 ?_
            cases hf
            exact zre_i C hr hlk hK hW hS (zWn hW _ _ _ _ rfl) zd_M_toss_148
          · rw [if_pos c11] at hf
            refine lv_aload_n C.1 C.2.1 zd_M_toss_126 rfl (lv_at hl 0 rfl) ?_
            refine zg_M_kept (r := 0) C hK hW (zvd_9 (by decide) (by decide)) zk_1509 zd_M_toss_127 ?_
            refine lv_iload_n C.1 C.2.1 zd_M_toss_130 rfl (lv_at hl 1 rfl) ?_
            refine zaald (t0 := 4) C hK hW (zvd_9 (by decide) (by decide)) (fun f => ze_9_5 B f (0)) rfl rfl (by decide) h8 zd_M_toss_131 (a := B.2.1 11 (x1) (0)) (by rw [Int.toNat_of_nonneg h8.1]) ?_
            refine zr_iconst C zd_M_toss_132 ?_
            refine ziald C hK hW (zvd_11 h8 (by decide)) (fun f => ze_11_0 B f (x1)) (by decide) (by decide) zd_M_toss_133 ?_
            refine zr_bipush C zd_M_toss_134 (by decide) ?_
            refine zr_iadd C zd_M_toss_136 ?_
            refine lv_goto (tgt := 148) C.1 C.2.1 zd_M_toss_137 (by decide) ?_
            cases hf
            exact zre_i C hr hlk hK hW hS (zn_w _) zd_M_toss_148
        · rw [if_pos c10] at hf
          refine zr_bipush C zd_M_toss_109 (by decide) ?_
          refine lv_goto (tgt := 148) C.1 C.2.1 zd_M_toss_111 (by decide) ?_
          cases hf
          exact zre_i C hr hlk hK hW hS (znb rfl) zd_M_toss_148
      · rw [if_pos c9] at hf
        refine lv_aload_n C.1 C.2.1 zd_M_toss_38 rfl (lv_at hl 0 rfl) ?_
        refine lv_aload_n C.1 C.2.1 zd_M_toss_39 rfl (lv_at hl 0 rfl) ?_
        refine zg_M_kept (r := 0) C hK hW (zvd_9 (by decide) (by decide)) zk_1509 zd_M_toss_40 ?_
        refine lv_iload_n C.1 C.2.1 zd_M_toss_43 rfl (lv_at hl 1 rfl) ?_
        refine zaald (t0 := 4) C hK hW (zvd_9 (by decide) (by decide)) (fun f => ze_9_5 B f (0)) rfl rfl (by decide) h8 zd_M_toss_44 (a := B.2.1 11 (x1) (0)) (by rw [Int.toNat_of_nonneg h8.1]) ?_
        refine zr_iconst C zd_M_toss_45 ?_
        refine ziald C hK hW (zvd_11 h8 (by decide)) (fun f => ze_11_0 B f (x1)) (by decide) (by decide) zd_M_toss_46 ?_
        obtain ⟨a12, S13, ea12, hf⟩ := zbd_some hf
        refine zcVi (As := [.int (zI (S6 11 x1 0 0))]) (rest := []) C hK hSt hW hS (zc_M_isLaw hap (S6 11 x1 0 0) S6 (zWn hW _ _ _ _ rfl) ea12) zq_M_isLaw zk_1749 (zrecv hK hW (zvd_9 (by decide) (by decide)) (ze_9_0 B _ (0)) rfl) ⟨rfl, rfl, by decide, by decide⟩ ⟨by decide, by decide⟩ rfl hl.1 rfl (lv_room (Nat.le_of_ble_eq_true rfl)) zd_M_toss_47 (fun na12 H locs hW hS => ?_)
        refine zr_if_eq (tgt := 77) C na12 zd_M_toss_50 (by decide) (fun c14 => ?_) (fun c14 => ?_)
        · rw [if_pos c14] at hf
          exact zw_M_toss_77 C hr hlk hK hSt hap   (x1) S13 nx1 hf _ _ _ hW hS (lv_sub hl [0, 1] rfl)
        · rw [if_neg c14] at hf
          refine lv_aload_n C.1 C.2.1 zd_M_toss_53 rfl (lv_at hl 0 rfl) ?_
          refine zg_M_world (r := 0) C hK hW (zvd_9 (by decide) (by decide)) zk_1500 zd_M_toss_54 ?_
          refine zg_W_isVoid (r := 0) C hK hW (zvd_5 (by decide) (by decide)) zk_1322 zd_M_toss_57 ?_
          refine lv_aload_n C.1 C.2.1 zd_M_toss_60 rfl (lv_at hl 0 rfl) ?_
          refine zg_M_kept (r := 0) C hK hW (zvd_9 (by decide) (by decide)) zk_1509 zd_M_toss_61 ?_
          refine lv_iload_n C.1 C.2.1 zd_M_toss_64 rfl (lv_at hl 1 rfl) ?_
          refine zaald (t0 := 4) C hK hW (zvd_9 (by decide) (by decide)) (fun f => ze_9_5 B f (0)) rfl rfl (by decide) h8 zd_M_toss_65 (a := B.2.1 11 (x1) (0)) (by rw [Int.toNat_of_nonneg h8.1]) ?_
          refine zr_iconst C zd_M_toss_66 ?_
          refine ziald C hK hW (zvd_11 h8 (by decide)) (fun f => ze_11_0 B f (x1)) (by decide) (by decide) zd_M_toss_67 ?_
          obtain ⟨h15, hf⟩ := zck_some hf
          refine ziald C hK hW (zvd_5 (by decide) (by decide)) (fun f => ze_5_19 B f (0)) (by decide) h15 zd_M_toss_68 ?_
          refine zr_iconst C zd_M_toss_69 ?_
          refine zr_icmp_ne (tgt := 77) C (zWn hW _ _ _ _ rfl) (znb rfl) zd_M_toss_70 (by decide) (fun c16 => ?_) (fun c16 => ?_)
          · rw [if_neg c16] at hf
            exact zw_M_toss_77 C hr hlk hK hSt hap   (x1) S13 nx1 hf _ _ _ hW hS (lv_sub hl [0, 1] rfl)
          · rw [if_pos c16] at hf
            refine zr_iconst C zd_M_toss_73 ?_
            refine lv_goto (tgt := 78) C.1 C.2.1 zd_M_toss_74 (by decide) ?_
            exact zw_M_toss_78 C hr hlk hK hSt hap   (x1) (1) S13 nx1 (znb rfl) hf _ _ _ hW hS (lv_sub hl [0, 1] rfl)
    · rw [if_neg c7] at hf
      refine lv_aload_n C.1 C.2.1 zd_M_toss_22 rfl (lv_at hl 0 rfl) ?_
      refine lv_iload_n C.1 C.2.1 zd_M_toss_23 rfl (lv_at hl 1 rfl) ?_
      obtain ⟨a17, S18, ea17, hf⟩ := zbd_some hf
      refine zcVi (As := [.int (zI (x1))]) (rest := []) C hK hSt hW hS (zc_M_noThing hap x1 S6 nx1 ea17) zq_M_noThing zk_2052 (zrecv hK hW (zvd_9 (by decide) (by decide)) (ze_9_0 B _ (0)) rfl) ⟨rfl, rfl, by decide, by decide⟩ ⟨by decide, by decide⟩ rfl hl.1 rfl (lv_room (Nat.le_of_ble_eq_true rfl)) zd_M_toss_24 (fun na17 H locs hW hS => ?_)
      cases hf
      exact zre_i C hr hlk hK hW hS na17 zd_M_toss_27
  · rw [if_pos c4] at hf
    refine zr_iconst C zd_M_toss_12 ?_
    cases hf
    exact zre_i C hr hlk hK hW hS (znb rfl) zd_M_toss_13

theorem zc_M_toss {l : Launch} {B : zB} (hap : zAp B) (x1 : Int) (S : Sg) (nx1 : zn x1) {res : Int} {S9 : Sg} (hf : zf_M_toss x1 S = some (res, S9)) : Met l zy_M_toss (Cond.code zy_M_toss zb_M_toss 3 (some .int) :: zT) zm_M_toss (zP B S [.ref (B.2.1 9 (0) (0)), .int (zI (x1))]) (zQi B res S9) 0 0 B.2.2.2 :=
  zmet (by decide) (Nat.le_of_ble_eq_true rfl) (fun p e s m args below meth c C hr hlk hK hSt hW ls hl => zw_M_toss C hr hlk hK hSt hap   x1 S nx1 hf _ _ _ hW va_S.rf hl)
