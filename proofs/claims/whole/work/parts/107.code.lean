/-! IslandOfficeModel.earn(I)I -/
abbrev zy_M_earn : MethodName := ⟨"IslandOfficeModel", "earn", "(I)I"⟩
abbrev zb_M_earn : ByteArray := prog_14_method_51_code
abbrev zm_M_earn : Room := { frames := 1, cells := 0, slots := 0, locals := 22 }
theorem zq_M_earn : zMy zy_M_earn zb_M_earn 2 (some .int) 1 := ⟨zk_1869, zk_1867, zk_1868, zk_14, by decide, by decide, by decide +kernel⟩
theorem zd_M_earn_0 : decode zb_M_earn 0 = .ok (.aload_n 0, 1) := by decide +kernel
theorem zd_M_earn_1 : decode zb_M_earn 1 = .ok (.iconst 0, 1) := by decide +kernel
theorem zd_M_earn_2 : decode zb_M_earn 2 = .ok (.putfield 46, 3) := by decide +kernel
theorem zd_M_earn_5 : decode zb_M_earn 5 = .ok (.iload_n 1, 1) := by decide +kernel
theorem zd_M_earn_6 : decode zb_M_earn 6 = .ok (.iconst 1, 1) := by decide +kernel
theorem zd_M_earn_7 : decode zb_M_earn 7 = .ok (.sipush 10000, 3) := by decide +kernel
theorem zd_M_earn_10 : decode zb_M_earn 10 = .ok (.invokestatic 53, 3) := by decide +kernel
theorem zd_M_earn_13 : decode zb_M_earn 13 = .ok (.ifCond .ne 5, 3) := by decide +kernel
theorem zd_M_earn_16 : decode zb_M_earn 16 = .ok (.iconst (-1), 1) := by decide +kernel
theorem zd_M_earn_17 : decode zb_M_earn 17 = .ok (.ireturn, 1) := by decide +kernel
theorem zd_M_earn_18 : decode zb_M_earn 18 = .ok (.aload_n 0, 1) := by decide +kernel
theorem zd_M_earn_19 : decode zb_M_earn 19 = .ok (.getfield 10, 3) := by decide +kernel
theorem zd_M_earn_22 : decode zb_M_earn 22 = .ok (.getfield 281, 3) := by decide +kernel
theorem zd_M_earn_25 : decode zb_M_earn 25 = .ok (.iload_n 1, 1) := by decide +kernel
theorem zd_M_earn_26 : decode zb_M_earn 26 = .ok (.iadd, 1) := by decide +kernel
theorem zd_M_earn_27 : decode zb_M_earn 27 = .ok (.ldc_w 284, 3) := by decide +kernel
theorem zd_M_earn_30 : decode zb_M_earn 30 = .ok (.if_icmp .le 6, 3) := by decide +kernel
theorem zd_M_earn_33 : decode zb_M_earn 33 = .ok (.bipush (-2), 2) := by decide +kernel
theorem zd_M_earn_35 : decode zb_M_earn 35 = .ok (.ireturn, 1) := by decide +kernel
theorem zd_M_earn_36 : decode zb_M_earn 36 = .ok (.aload_n 0, 1) := by decide +kernel
theorem zd_M_earn_37 : decode zb_M_earn 37 = .ok (.getfield 10, 3) := by decide +kernel
theorem zd_M_earn_40 : decode zb_M_earn 40 = .ok (.dup, 1) := by decide +kernel
theorem zd_M_earn_41 : decode zb_M_earn 41 = .ok (.getfield 281, 3) := by decide +kernel
theorem zd_M_earn_44 : decode zb_M_earn 44 = .ok (.iload_n 1, 1) := by decide +kernel
theorem zd_M_earn_45 : decode zb_M_earn 45 = .ok (.iadd, 1) := by decide +kernel
theorem zd_M_earn_46 : decode zb_M_earn 46 = .ok (.putfield 281, 3) := by decide +kernel
theorem zd_M_earn_49 : decode zb_M_earn 49 = .ok (.aload_n 0, 1) := by decide +kernel
theorem zd_M_earn_50 : decode zb_M_earn 50 = .ok (.getfield 10, 3) := by decide +kernel
theorem zd_M_earn_53 : decode zb_M_earn 53 = .ok (.getfield 281, 3) := by decide +kernel
theorem zd_M_earn_56 : decode zb_M_earn 56 = .ok (.ireturn, 1) := by decide +kernel

def zf_M_earn (x1 : Int) (S : Sg) : Option (Int × Sg) :=
    zlt (zu S 9 0 0 4 0) fun S1 => zbd (zf_M_in x1 1 10000 S1) fun a2 S3 => if a2 = 0 then (some (-1, S3)) else (if (zw ((S3 5 0 0 38) + x1)) ≤ 1000000 then (zlt (zu S3 5 0 0 38 (zw ((S3 5 0 0 38) + x1))) fun S6 => some (S6 5 0 0 38, S6)) else (some (-2, S3)))
set_option maxHeartbeats 4000000 in
set_option maxRecDepth 100000 in
theorem zw_M_earn {p : Program} {l : Launch} {e : Env} {s : State} {m : MethodId} {args : Array Value} {below : List Frame} {meth : Method} {c : Code} {B : zB} (C : CallFix p m c zb_M_earn 2 s args zT "IslandOfficeModel") (hr : meth.sig.returnType = some .int) (hlk : meth.locks = false) (hK : zK B s) (hSt : zSt B s) (hap : zAp B) {res : Int} {S9 : Sg} : ∀ (x1 : Int) (S : Sg) (nx1 : zn x1), zf_M_earn x1 S = some (res, S9) → ∀ (H : Heap) (locs : List Loc) (ls : Array Slot), zW B S H → va_S B.2.2.2 s.heap H locs → lv_has ls 2 [(0, .ref (B.2.1 9 (0) (0))), (1, .int (zI (x1)))] → W p l e zm_M_earn s m args below meth c H locs 0 0 (MQ below (zQi B res S9) args s 0 0 B.2.2.2) (F0 m 0 ls []) := by
  intro x1 S nx1 hf H locs ls hW hS hl
  unfold zf_M_earn at hf
  refine lv_aload_n C.1 C.2.1 zd_M_earn_0 rfl (lv_at hl 0 rfl) ?_
  refine zr_iconst C zd_M_earn_1 ?_
  obtain ⟨S1, eS1, hf⟩ := zlt_some hf
  refine zp_M_thrown (r := 0) C hK hap hW hS (zvd_9 (by decide) (by decide)) zk_1504 (znb rfl) zd_M_earn_2 (fun H locs hW hS => ?_)
  rw [eS1] at hW
  refine lv_iload_n C.1 C.2.1 zd_M_earn_5 rfl (lv_at hl 1 rfl) ?_
  refine zr_iconst C zd_M_earn_6 ?_
  refine zr_sipush C zd_M_earn_7 (by decide) ?_
  obtain ⟨a2, S3, ea2, hf⟩ := zbd_some hf
  refine zcSi (As := [.int (zI (x1)), .int (zI (1)), .int (zI (10000))]) (rest := []) C hK hSt hW hS (zc_M_in hap x1 1 10000 S1 nx1 (znb rfl) (znb rfl) ea2) zq_M_in zk_1558 ⟨rfl, rfl, by decide, by decide⟩ ⟨by decide, by decide⟩ rfl hl.1 rfl (lv_room (Nat.le_of_ble_eq_true rfl)) zd_M_earn_10 (fun na2 H locs hW hS => ?_)
  refine zr_if_ne (tgt := 18) C na2 zd_M_earn_13 (by decide) (fun c4 => ?_) (fun c4 => ?_)
  · rw [if_neg c4] at hf
    refine lv_aload_n C.1 C.2.1 zd_M_earn_18 rfl (lv_at hl 0 rfl) ?_
    refine zg_M_world (r := 0) C hK hW (zvd_9 (by decide) (by decide)) zk_1500 zd_M_earn_19 ?_
    refine zg_W_purse (r := 0) C hK hW (zvd_5 (by decide) (by decide)) zk_1352 zd_M_earn_22 ?_
    refine lv_iload_n C.1 C.2.1 zd_M_earn_25 rfl (lv_at hl 1 rfl) ?_
    refine zr_iadd C zd_M_earn_26 ?_
    refine zr_ldcw (n := 1000000) C zk_1870 (by decide) zd_M_earn_27 ?_
    refine zr_icmp_le (tgt := 36) C (zn_w _) (znb rfl) zd_M_earn_30 (by decide) (fun c5 => ?_) (fun c5 => ?_)
    · rw [if_pos c5] at hf
      refine lv_aload_n C.1 C.2.1 zd_M_earn_36 rfl (lv_at hl 0 rfl) ?_
      refine zg_M_world (r := 0) C hK hW (zvd_9 (by decide) (by decide)) zk_1500 zd_M_earn_37 ?_
      refine lv_dup C.1 C.2.1 zd_M_earn_40 rfl ?_
      refine zg_W_purse (r := 0) C hK hW (zvd_5 (by decide) (by decide)) zk_1352 zd_M_earn_41 ?_
      refine lv_iload_n C.1 C.2.1 zd_M_earn_44 rfl (lv_at hl 1 rfl) ?_
      refine zr_iadd C zd_M_earn_45 ?_
      obtain ⟨S6, eS6, hf⟩ := zlt_some hf
      refine zp_W_purse (r := 0) C hK hap hW hS (zvd_5 (by decide) (by decide)) zk_1352 (zn_w _) zd_M_earn_46 (fun H locs hW hS => ?_)
      rw [eS6] at hW
      refine lv_aload_n C.1 C.2.1 zd_M_earn_49 rfl (lv_at hl 0 rfl) ?_
      refine zg_M_world (r := 0) C hK hW (zvd_9 (by decide) (by decide)) zk_1500 zd_M_earn_50 ?_
      refine zg_W_purse (r := 0) C hK hW (zvd_5 (by decide) (by decide)) zk_1352 zd_M_earn_53 ?_
      cases hf
      exact zre_i C hr hlk hK hW hS (zWn hW _ _ _ _ rfl) zd_M_earn_56
    · rw [if_neg c5] at hf
      refine zr_bipush C zd_M_earn_33 (by decide) ?_
      cases hf
      exact zre_i C hr hlk hK hW hS (znb rfl) zd_M_earn_35
  · rw [if_pos c4] at hf
    refine zr_iconst C zd_M_earn_16 ?_
    cases hf
    exact zre_i C hr hlk hK hW hS (znb rfl) zd_M_earn_17

theorem zc_M_earn {l : Launch} {B : zB} (hap : zAp B) (x1 : Int) (S : Sg) (nx1 : zn x1) {res : Int} {S9 : Sg} (hf : zf_M_earn x1 S = some (res, S9)) : Met l zy_M_earn (Cond.code zy_M_earn zb_M_earn 2 (some .int) :: zT) zm_M_earn (zP B S [.ref (B.2.1 9 (0) (0)), .int (zI (x1))]) (zQi B res S9) 0 0 B.2.2.2 :=
  zmet (by decide) (Nat.le_of_ble_eq_true rfl) (fun p e s m args below meth c C hr hlk hK hSt hW ls hl => zw_M_earn C hr hlk hK hSt hap   x1 S nx1 hf _ _ _ hW va_S.rf hl)
/-! IslandOfficeModel.noRow(I)I -/
abbrev zy_M_noRow : MethodName := ⟨"IslandOfficeModel", "noRow", "(I)I"⟩
abbrev zb_M_noRow : ByteArray := prog_14_method_52_code
abbrev zm_M_noRow : Room := { frames := 0, cells := 0, slots := 0, locals := 0 }
theorem zq_M_noRow : zMy zy_M_noRow zb_M_noRow 2 (some .int) 1 := ⟨zk_1878, zk_1877, zs_75, zk_14, by decide, by decide, by decide +kernel⟩
theorem zd_M_noRow_0 : decode zb_M_noRow 0 = .ok (.aload_n 0, 1) := by decide +kernel
theorem zd_M_noRow_1 : decode zb_M_noRow 1 = .ok (.getfield 22, 3) := by decide +kernel
theorem zd_M_noRow_4 : decode zb_M_noRow 4 = .ok (.iload_n 1, 1) := by decide +kernel
theorem zd_M_noRow_5 : decode zb_M_noRow 5 = .ok (.iaload, 1) := by decide +kernel
theorem zd_M_noRow_6 : decode zb_M_noRow 6 = .ok (.ifCond .ne 8, 3) := by decide +kernel
theorem zd_M_noRow_9 : decode zb_M_noRow 9 = .ok (.bipush (-11), 2) := by decide +kernel
theorem zd_M_noRow_11 : decode zb_M_noRow 11 = .ok (.goto 19, 3) := by decide +kernel
theorem zd_M_noRow_14 : decode zb_M_noRow 14 = .ok (.aload_n 0, 1) := by decide +kernel
theorem zd_M_noRow_15 : decode zb_M_noRow 15 = .ok (.getfield 22, 3) := by decide +kernel
theorem zd_M_noRow_18 : decode zb_M_noRow 18 = .ok (.iload_n 1, 1) := by decide +kernel
theorem zd_M_noRow_19 : decode zb_M_noRow 19 = .ok (.iaload, 1) := by decide +kernel
theorem zd_M_noRow_20 : decode zb_M_noRow 20 = .ok (.iconst 3, 1) := by decide +kernel
theorem zd_M_noRow_21 : decode zb_M_noRow 21 = .ok (.if_icmp .eq 8, 3) := by decide +kernel
theorem zd_M_noRow_24 : decode zb_M_noRow 24 = .ok (.bipush (-12), 2) := by decide +kernel
theorem zd_M_noRow_26 : decode zb_M_noRow 26 = .ok (.goto 4, 3) := by decide +kernel
theorem zd_M_noRow_29 : decode zb_M_noRow 29 = .ok (.iconst 0, 1) := by decide +kernel
theorem zd_M_noRow_30 : decode zb_M_noRow 30 = .ok (.ireturn, 1) := by decide +kernel

def zf_M_noRow (x1 : Int) (S : Sg) : Option (Int × Sg) :=
    zck (0 ≤ x1 ∧ x1 < 8) <| if (S 9 0 1 x1) = 0 then (some (-11, S)) else (if (S 9 0 1 x1) = 3 then (some (0, S)) else (some (-12, S)))
set_option maxHeartbeats 4000000 in
set_option maxRecDepth 100000 in
theorem zw_M_noRow {p : Program} {l : Launch} {e : Env} {s : State} {m : MethodId} {args : Array Value} {below : List Frame} {meth : Method} {c : Code} {B : zB} (C : CallFix p m c zb_M_noRow 2 s args zT "IslandOfficeModel") (hr : meth.sig.returnType = some .int) (hlk : meth.locks = false) (hK : zK B s) (hSt : zSt B s) (hap : zAp B) {res : Int} {S9 : Sg} : ∀ (x1 : Int) (S : Sg) (nx1 : zn x1), zf_M_noRow x1 S = some (res, S9) → ∀ (H : Heap) (locs : List Loc) (ls : Array Slot), zW B S H → va_S B.2.2.2 s.heap H locs → lv_has ls 2 [(0, .ref (B.2.1 9 (0) (0))), (1, .int (zI (x1)))] → W p l e zm_M_noRow s m args below meth c H locs 0 0 (MQ below (zQi B res S9) args s 0 0 B.2.2.2) (F0 m 0 ls []) := by
  intro x1 S nx1 hf H locs ls hW hS hl
  unfold zf_M_noRow at hf
  refine lv_aload_n C.1 C.2.1 zd_M_noRow_0 rfl (lv_at hl 0 rfl) ?_
  refine zg_M_held (r := 0) C hK hW (zvd_9 (by decide) (by decide)) zk_1505 zd_M_noRow_1 ?_
  refine lv_iload_n C.1 C.2.1 zd_M_noRow_4 rfl (lv_at hl 1 rfl) ?_
  obtain ⟨h1, hf⟩ := zck_some hf
  refine ziald C hK hW (zvd_9 (by decide) (by decide)) (fun f => ze_9_1 B f (0)) (by decide) h1 zd_M_noRow_5 ?_
  refine zr_if_ne (tgt := 14) C (zWn hW _ _ _ _ rfl) zd_M_noRow_6 (by decide) (fun c2 => ?_) (fun c2 => ?_)
  · rw [if_neg c2] at hf
    refine lv_aload_n C.1 C.2.1 zd_M_noRow_14 rfl (lv_at hl 0 rfl) ?_
    refine zg_M_held (r := 0) C hK hW (zvd_9 (by decide) (by decide)) zk_1505 zd_M_noRow_15 ?_
    refine lv_iload_n C.1 C.2.1 zd_M_noRow_18 rfl (lv_at hl 1 rfl) ?_
    refine ziald C hK hW (zvd_9 (by decide) (by decide)) (fun f => ze_9_1 B f (0)) (by decide) h1 zd_M_noRow_19 ?_
    refine zr_iconst C zd_M_noRow_20 ?_
    refine zr_icmp_eq (tgt := 29) C (zWn hW _ _ _ _ rfl) (znb rfl) zd_M_noRow_21 (by decide) (fun c3 => ?_) (fun c3 => ?_)
    · rw [if_pos c3] at hf
      refine zr_iconst C zd_M_noRow_29 ?_
      cases hf
      exact zre_i C hr hlk hK hW hS (znb rfl) zd_M_noRow_30
    · rw [if_neg c3] at hf
      refine zr_bipush C zd_M_noRow_24 (by decide) ?_
      refine lv_goto (tgt := 30) C.1 C.2.1 zd_M_noRow_26 (by decide) ?_
      cases hf
      exact zre_i C hr hlk hK hW hS (znb rfl) zd_M_noRow_30
  · rw [if_pos c2] at hf
    refine zr_bipush C zd_M_noRow_9 (by decide) ?_
    refine lv_goto (tgt := 30) C.1 C.2.1 zd_M_noRow_11 (by decide) ?_
    cases hf
    exact zre_i C hr hlk hK hW hS (znb rfl) zd_M_noRow_30

theorem zc_M_noRow {l : Launch} {B : zB} (hap : zAp B) (x1 : Int) (S : Sg) (nx1 : zn x1) {res : Int} {S9 : Sg} (hf : zf_M_noRow x1 S = some (res, S9)) : Met l zy_M_noRow (Cond.code zy_M_noRow zb_M_noRow 2 (some .int) :: zT) zm_M_noRow (zP B S [.ref (B.2.1 9 (0) (0)), .int (zI (x1))]) (zQi B res S9) 0 0 B.2.2.2 :=
  zmet (by decide) (Nat.le_of_ble_eq_true rfl) (fun p e s m args below meth c C hr hlk hK hSt hW ls hl => zw_M_noRow C hr hlk hK hSt hap   x1 S nx1 hf _ _ _ hW va_S.rf hl)
/-! IslandOfficeModel.weather(IZ)I -/
abbrev zy_M_weather : MethodName := ⟨"IslandOfficeModel", "weather", "(IZ)I"⟩
abbrev zb_M_weather : ByteArray := prog_14_method_53_code
abbrev zm_M_weather : Room := { frames := 2, cells := 0, slots := 0, locals := 64 }
theorem zq_M_weather : zMy zy_M_weather zb_M_weather 4 (some .int) 2 := ⟨zk_1874, zk_1872, zk_1873, zk_14, by decide, by decide, by decide +kernel⟩
theorem zd_M_weather_0 : decode zb_M_weather 0 = .ok (.aload_n 0, 1) := by decide +kernel
theorem zd_M_weather_1 : decode zb_M_weather 1 = .ok (.iconst 0, 1) := by decide +kernel
theorem zd_M_weather_2 : decode zb_M_weather 2 = .ok (.putfield 46, 3) := by decide +kernel
theorem zd_M_weather_5 : decode zb_M_weather 5 = .ok (.iload_n 1, 1) := by decide +kernel
theorem zd_M_weather_6 : decode zb_M_weather 6 = .ok (.invokestatic 172, 3) := by decide +kernel
theorem zd_M_weather_9 : decode zb_M_weather 9 = .ok (.ifCond .ne 5, 3) := by decide +kernel
theorem zd_M_weather_12 : decode zb_M_weather 12 = .ok (.iconst (-1), 1) := by decide +kernel
theorem zd_M_weather_13 : decode zb_M_weather 13 = .ok (.ireturn, 1) := by decide +kernel
theorem zd_M_weather_14 : decode zb_M_weather 14 = .ok (.aload_n 0, 1) := by decide +kernel
theorem zd_M_weather_15 : decode zb_M_weather 15 = .ok (.iload_n 1, 1) := by decide +kernel
theorem zd_M_weather_16 : decode zb_M_weather 16 = .ok (.invokevirtual 285, 3) := by decide +kernel
theorem zd_M_weather_19 : decode zb_M_weather 19 = .ok (.ifCond .eq 9, 3) := by decide +kernel
theorem zd_M_weather_22 : decode zb_M_weather 22 = .ok (.aload_n 0, 1) := by decide +kernel
theorem zd_M_weather_23 : decode zb_M_weather 23 = .ok (.iload_n 1, 1) := by decide +kernel
theorem zd_M_weather_24 : decode zb_M_weather 24 = .ok (.invokevirtual 285, 3) := by decide +kernel
theorem zd_M_weather_27 : decode zb_M_weather 27 = .ok (.ireturn, 1) := by decide +kernel
theorem zd_M_weather_28 : decode zb_M_weather 28 = .ok (.iload_n 2, 1) := by decide +kernel
theorem zd_M_weather_29 : decode zb_M_weather 29 = .ok (.ifCond .eq 7, 3) := by decide +kernel
theorem zd_M_weather_32 : decode zb_M_weather 32 = .ok (.iconst 1, 1) := by decide +kernel
theorem zd_M_weather_33 : decode zb_M_weather 33 = .ok (.goto 4, 3) := by decide +kernel
theorem zd_M_weather_36 : decode zb_M_weather 36 = .ok (.iconst 0, 1) := by decide +kernel
theorem zd_M_weather_37 : decode zb_M_weather 37 = .ok (.istore_n 3, 1) := by decide +kernel
theorem zd_M_weather_38 : decode zb_M_weather 38 = .ok (.aload_n 0, 1) := by decide +kernel
theorem zd_M_weather_39 : decode zb_M_weather 39 = .ok (.getfield 10, 3) := by decide +kernel
theorem zd_M_weather_42 : decode zb_M_weather 42 = .ok (.getfield 288, 3) := by decide +kernel
theorem zd_M_weather_45 : decode zb_M_weather 45 = .ok (.iload_n 3, 1) := by decide +kernel
theorem zd_M_weather_46 : decode zb_M_weather 46 = .ok (.aload_n 0, 1) := by decide +kernel
theorem zd_M_weather_47 : decode zb_M_weather 47 = .ok (.getfield 26, 3) := by decide +kernel
theorem zd_M_weather_50 : decode zb_M_weather 50 = .ok (.iload_n 1, 1) := by decide +kernel
theorem zd_M_weather_51 : decode zb_M_weather 51 = .ok (.iaload, 1) := by decide +kernel
theorem zd_M_weather_52 : decode zb_M_weather 52 = .ok (.iastore, 1) := by decide +kernel
theorem zd_M_weather_53 : decode zb_M_weather 53 = .ok (.aload_n 0, 1) := by decide +kernel
theorem zd_M_weather_54 : decode zb_M_weather 54 = .ok (.getfield 10, 3) := by decide +kernel
theorem zd_M_weather_57 : decode zb_M_weather 57 = .ok (.getfield 291, 3) := by decide +kernel
theorem zd_M_weather_60 : decode zb_M_weather 60 = .ok (.iload_n 3, 1) := by decide +kernel
theorem zd_M_weather_61 : decode zb_M_weather 61 = .ok (.aload_n 0, 1) := by decide +kernel
theorem zd_M_weather_62 : decode zb_M_weather 62 = .ok (.getfield 29, 3) := by decide +kernel
theorem zd_M_weather_65 : decode zb_M_weather 65 = .ok (.iload_n 1, 1) := by decide +kernel
theorem zd_M_weather_66 : decode zb_M_weather 66 = .ok (.iaload, 1) := by decide +kernel
theorem zd_M_weather_67 : decode zb_M_weather 67 = .ok (.iastore, 1) := by decide +kernel
theorem zd_M_weather_68 : decode zb_M_weather 68 = .ok (.aload_n 0, 1) := by decide +kernel
theorem zd_M_weather_69 : decode zb_M_weather 69 = .ok (.getfield 34, 3) := by decide +kernel
theorem zd_M_weather_72 : decode zb_M_weather 72 = .ok (.iload_n 1, 1) := by decide +kernel
theorem zd_M_weather_73 : decode zb_M_weather 73 = .ok (.aaload, 1) := by decide +kernel
theorem zd_M_weather_74 : decode zb_M_weather 74 = .ok (.iconst 0, 1) := by decide +kernel
theorem zd_M_weather_75 : decode zb_M_weather 75 = .ok (.aload_n 0, 1) := by decide +kernel
theorem zd_M_weather_76 : decode zb_M_weather 76 = .ok (.getfield 10, 3) := by decide +kernel
theorem zd_M_weather_79 : decode zb_M_weather 79 = .ok (.getfield 294, 3) := by decide +kernel
theorem zd_M_weather_82 : decode zb_M_weather 82 = .ok (.iload_n 3, 1) := by decide +kernel
theorem zd_M_weather_83 : decode zb_M_weather 83 = .ok (.aaload, 1) := by decide +kernel
theorem zd_M_weather_84 : decode zb_M_weather 84 = .ok (.iconst 0, 1) := by decide +kernel
theorem zd_M_weather_85 : decode zb_M_weather 85 = .ok (.bipush 120, 2) := by decide +kernel
theorem zd_M_weather_87 : decode zb_M_weather 87 = .ok (.invokestatic 186, 3) := by decide +kernel
theorem zd_M_weather_90 : decode zb_M_weather 90 = .ok (.aload_n 0, 1) := by decide +kernel
theorem zd_M_weather_91 : decode zb_M_weather 91 = .ok (.getfield 29, 3) := by decide +kernel
theorem zd_M_weather_94 : decode zb_M_weather 94 = .ok (.iload_n 1, 1) := by decide +kernel
theorem zd_M_weather_95 : decode zb_M_weather 95 = .ok (.iaload, 1) := by decide +kernel
theorem zd_M_weather_96 : decode zb_M_weather 96 = .ok (.ireturn, 1) := by decide +kernel

def zf_M_weather_37 (x1 : Int) (xt0 : Int) (S : Sg) : Option (Int × Sg) :=
    zck (0 ≤ x1 ∧ x1 < 8) <| zck (0 ≤ xt0 ∧ xt0 < 2) <| zlt (zu S 5 0 32 xt0 (S 9 0 2 x1)) fun S3 => zlt (zu S3 5 0 33 xt0 (S3 9 0 3 x1)) fun S4 => zlt (zcp S4 10 x1 0 0 7 0 xt0 0 120) fun S5 => some (S5 9 0 3 x1, S5)
set_option maxHeartbeats 4000000 in
set_option maxRecDepth 100000 in
theorem zw_M_weather_37 {p : Program} {l : Launch} {e : Env} {s : State} {m : MethodId} {args : Array Value} {below : List Frame} {meth : Method} {c : Code} {B : zB} (C : CallFix p m c zb_M_weather 4 s args zT "IslandOfficeModel") (hr : meth.sig.returnType = some .int) (hlk : meth.locks = false) (hK : zK B s) (hSt : zSt B s) (hap : zAp B) {res : Int} {S9 : Sg} : ∀ (x1 : Int) (xt0 : Int) (S : Sg) (nx1 : zn x1) (nxt0 : zn xt0), zf_M_weather_37 x1 xt0 S = some (res, S9) → ∀ (H : Heap) (locs : List Loc) (ls : Array Slot), zW B S H → va_S B.2.2.2 s.heap H locs → lv_has ls 4 [(0, .ref (B.2.1 9 (0) (0))), (1, .int (zI (x1)))] → W p l e zm_M_weather s m args below meth c H locs 0 0 (MQ below (zQi B res S9) args s 0 0 B.2.2.2) (F0 m 37 ls [.int (zI (xt0))]) := by
  intro x1 xt0 S nx1 nxt0 hf H locs ls hW hS hl
  unfold zf_M_weather_37 at hf
  refine lv_istore_n (lv' := [(3, .int (zI (xt0))), (0, .ref (B.2.1 9 (0) (0))), (1, .int (zI (x1)))]) C.1 C.2.1 zd_M_weather_37 rfl hl (by decide) rfl (fun ls hl => ?_)
  refine lv_aload_n C.1 C.2.1 zd_M_weather_38 rfl (lv_at hl 1 rfl) ?_
  refine zg_M_world (r := 0) C hK hW (zvd_9 (by decide) (by decide)) zk_1500 zd_M_weather_39 ?_
  refine zg_W_skySort (r := 0) C hK hW (zvd_5 (by decide) (by decide)) zk_1360 zd_M_weather_42 ?_
  refine lv_iload_n C.1 C.2.1 zd_M_weather_45 rfl (lv_at hl 0 rfl) ?_
  refine lv_aload_n C.1 C.2.1 zd_M_weather_46 rfl (lv_at hl 1 rfl) ?_
  refine zg_M_rowSort (r := 0) C hK hW (zvd_9 (by decide) (by decide)) zk_1506 zd_M_weather_47 ?_
  refine lv_iload_n C.1 C.2.1 zd_M_weather_50 rfl (lv_at hl 2 rfl) ?_
  obtain ⟨h1, hf⟩ := zck_some hf
  refine ziald C hK hW (zvd_9 (by decide) (by decide)) (fun f => ze_9_2 B f (0)) (by decide) h1 zd_M_weather_51 ?_
  obtain ⟨h2, hf⟩ := zck_some hf
  obtain ⟨S3, eS3, hf⟩ := zlt_some hf
  refine ziast C hK hap hW hS (zvd_5 (by decide) (by decide)) (fun f => ze_5_32 B f (0)) (by decide) rfl (zWn hW _ _ _ _ rfl) h2 zd_M_weather_52 (fun H locs hW hS => ?_)
  rw [eS3] at hW
  refine lv_aload_n C.1 C.2.1 zd_M_weather_53 rfl (lv_at hl 1 rfl) ?_
  refine zg_M_world (r := 0) C hK hW (zvd_9 (by decide) (by decide)) zk_1500 zd_M_weather_54 ?_
  refine zg_W_skySize (r := 0) C hK hW (zvd_5 (by decide) (by decide)) zk_1362 zd_M_weather_57 ?_
  refine lv_iload_n C.1 C.2.1 zd_M_weather_60 rfl (lv_at hl 0 rfl) ?_
  refine lv_aload_n C.1 C.2.1 zd_M_weather_61 rfl (lv_at hl 1 rfl) ?_
  refine zg_M_rowSize (r := 0) C hK hW (zvd_9 (by decide) (by decide)) zk_1507 zd_M_weather_62 ?_
  refine lv_iload_n C.1 C.2.1 zd_M_weather_65 rfl (lv_at hl 2 rfl) ?_
  refine ziald C hK hW (zvd_9 (by decide) (by decide)) (fun f => ze_9_3 B f (0)) (by decide) h1 zd_M_weather_66 ?_
  obtain ⟨S4, eS4, hf⟩ := zlt_some hf
  refine ziast C hK hap hW hS (zvd_5 (by decide) (by decide)) (fun f => ze_5_33 B f (0)) (by decide) rfl (zWn hW _ _ _ _ rfl) h2 zd_M_weather_67 (fun H locs hW hS => ?_)
  rw [eS4] at hW
  refine lv_aload_n C.1 C.2.1 zd_M_weather_68 rfl (lv_at hl 1 rfl) ?_
  refine zg_M_rows (r := 0) C hK hW (zvd_9 (by decide) (by decide)) zk_1508 zd_M_weather_69 ?_
  refine lv_iload_n C.1 C.2.1 zd_M_weather_72 rfl (lv_at hl 2 rfl) ?_
  refine zaald (t0 := 4) C hK hW (zvd_9 (by decide) (by decide)) (fun f => ze_9_4 B f (0)) rfl rfl (by decide) h1 zd_M_weather_73 (a := B.2.1 10 (x1) (0)) (by rw [Int.toNat_of_nonneg h1.1]) ?_
  refine zr_iconst C zd_M_weather_74 ?_
  refine lv_aload_n C.1 C.2.1 zd_M_weather_75 rfl (lv_at hl 1 rfl) ?_
  refine zg_M_world (r := 0) C hK hW (zvd_9 (by decide) (by decide)) zk_1500 zd_M_weather_76 ?_
  refine zg_W_sky (r := 0) C hK hW (zvd_5 (by decide) (by decide)) zk_1364 zd_M_weather_79 ?_
  refine lv_iload_n C.1 C.2.1 zd_M_weather_82 rfl (lv_at hl 0 rfl) ?_
  refine zaald (t0 := 4) C hK hW (zvd_5 (by decide) (by decide)) (fun f => ze_5_42 B f (0)) rfl rfl (by decide) h2 zd_M_weather_83 (a := B.2.1 7 (0) (xt0)) (by rw [Int.toNat_of_nonneg h2.1]) ?_
  refine zr_iconst C zd_M_weather_84 ?_
  refine zr_bipush C zd_M_weather_85 (by decide) ?_
  obtain ⟨S5, eS5, hf⟩ := zlt_some hf
  refine zcopy C hK hap hW hS hl.1 (zvd_10 h1 (by decide)) (zvd_7 (by decide) h2) (fun f => ze_10_0 B f (x1)) (fun f => ze_7 B f (0) (xt0)) (by decide) (by decide) rfl rfl (by decide) zk_1743 zk_735 zk_734 zk_18 (by decide) (Nat.le_of_ble_eq_true rfl) zd_M_weather_87 (fun H locs hW hS => ?_)
  rw [eS5] at hW
  refine lv_aload_n C.1 C.2.1 zd_M_weather_90 rfl (lv_at hl 1 rfl) ?_
  refine zg_M_rowSize (r := 0) C hK hW (zvd_9 (by decide) (by decide)) zk_1507 zd_M_weather_91 ?_
  refine lv_iload_n C.1 C.2.1 zd_M_weather_94 rfl (lv_at hl 2 rfl) ?_
  refine ziald C hK hW (zvd_9 (by decide) (by decide)) (fun f => ze_9_3 B f (0)) (by decide) h1 zd_M_weather_95 ?_
  cases hf
  exact zre_i C hr hlk hK hW hS (zWn hW _ _ _ _ rfl) zd_M_weather_96

def zf_M_weather (x1 : Int) (x2 : Int) (S : Sg) : Option (Int × Sg) :=
    zlt (zu S 9 0 0 4 0) fun S1 => zbd (zf_M_isShelf x1 S1) fun a2 S3 => if a2 = 0 then (some (-1, S3)) else (zbd (zf_M_noRow x1 S3) fun a5 S6 => if a5 = 0 then (if x2 = 0 then (zf_M_weather_37 (x1) (0) S6) else (zf_M_weather_37 (x1) (1) S6)) else (zbd (zf_M_noRow x1 S6) fun a9 S10 => some (a9, S10)))
set_option maxHeartbeats 4000000 in
set_option maxRecDepth 100000 in
theorem zw_M_weather {p : Program} {l : Launch} {e : Env} {s : State} {m : MethodId} {args : Array Value} {below : List Frame} {meth : Method} {c : Code} {B : zB} (C : CallFix p m c zb_M_weather 4 s args zT "IslandOfficeModel") (hr : meth.sig.returnType = some .int) (hlk : meth.locks = false) (hK : zK B s) (hSt : zSt B s) (hap : zAp B) {res : Int} {S9 : Sg} : ∀ (x1 : Int) (x2 : Int) (S : Sg) (nx1 : zn x1) (nx2 : zn x2), zf_M_weather x1 x2 S = some (res, S9) → ∀ (H : Heap) (locs : List Loc) (ls : Array Slot), zW B S H → va_S B.2.2.2 s.heap H locs → lv_has ls 4 [(0, .ref (B.2.1 9 (0) (0))), (1, .int (zI (x1))), (2, .int (zI (x2)))] → W p l e zm_M_weather s m args below meth c H locs 0 0 (MQ below (zQi B res S9) args s 0 0 B.2.2.2) (F0 m 0 ls []) := by
  intro x1 x2 S nx1 nx2 hf H locs ls hW hS hl
  unfold zf_M_weather at hf
  refine lv_aload_n C.1 C.2.1 zd_M_weather_0 rfl (lv_at hl 0 rfl) ?_
  refine zr_iconst C zd_M_weather_1 ?_
  obtain ⟨S1, eS1, hf⟩ := zlt_some hf
  refine zp_M_thrown (r := 0) C hK hap hW hS (zvd_9 (by decide) (by decide)) zk_1504 (znb rfl) zd_M_weather_2 (fun H locs hW hS => ?_)
  rw [eS1] at hW
  refine lv_iload_n C.1 C.2.1 zd_M_weather_5 rfl (lv_at hl 1 rfl) ?_
  obtain ⟨a2, S3, ea2, hf⟩ := zbd_some hf
  refine zcSi (As := [.int (zI (x1))]) (rest := []) C hK hSt hW hS (zc_M_isShelf hap x1 S1 nx1 ea2) zq_M_isShelf zk_1645 ⟨rfl, rfl, by decide, by decide⟩ ⟨by decide, by decide⟩ rfl hl.1 rfl (lv_room (Nat.le_of_ble_eq_true rfl)) zd_M_weather_6 (fun na2 H locs hW hS => ?_)
  refine zr_if_ne (tgt := 14) C na2 zd_M_weather_9 (by decide) (fun c4 => ?_) (fun c4 => ?_)
  · rw [if_neg c4] at hf
    refine lv_aload_n C.1 C.2.1 zd_M_weather_14 rfl (lv_at hl 0 rfl) ?_
    refine lv_iload_n C.1 C.2.1 zd_M_weather_15 rfl (lv_at hl 1 rfl) ?_
    obtain ⟨a5, S6, ea5, hf⟩ := zbd_some hf
    refine zcVi (As := [.int (zI (x1))]) (rest := []) C hK hSt hW hS (zc_M_noRow hap x1 S3 nx1 ea5) zq_M_noRow zk_1875 (zrecv hK hW (zvd_9 (by decide) (by decide)) (ze_9_0 B _ (0)) rfl) ⟨rfl, rfl, by decide, by decide⟩ ⟨by decide, by decide⟩ rfl hl.1 rfl (lv_room (Nat.le_of_ble_eq_true rfl)) zd_M_weather_16 (fun na5 H locs hW hS => ?_)
    refine zr_if_eq (tgt := 28) C na5 zd_M_weather_19 (by decide) (fun c7 => ?_) (fun c7 => ?_)
    · rw [if_pos c7] at hf
      refine lv_iload_n C.1 C.2.1 zd_M_weather_28 rfl (lv_at hl 2 rfl) ?_
      refine zr_if_eq (tgt := 36) C nx2 zd_M_weather_29 (by decide) (fun c8 => ?_) (fun c8 => ?_)
      · rw [if_pos c8] at hf
        refine zr_iconst C zd_M_weather_36 ?_
        exact zw_M_weather_37 C hr hlk hK hSt hap   (x1) (0) S6 nx1 (znb rfl) hf _ _ _ hW hS (lv_sub hl [0, 1] rfl)
      · rw [if_neg c8] at hf
        refine zr_iconst C zd_M_weather_32 ?_
        refine lv_goto (tgt := 37) C.1 C.2.1 zd_M_weather_33 (by decide) ?_
        exact zw_M_weather_37 C hr hlk hK hSt hap   (x1) (1) S6 nx1 (znb rfl) hf _ _ _ hW hS (lv_sub hl [0, 1] rfl)
    · rw [if_neg c7] at hf
      refine lv_aload_n C.1 C.2.1 zd_M_weather_22 rfl (lv_at hl 0 rfl) ?_
      refine lv_iload_n C.1 C.2.1 zd_M_weather_23 rfl (lv_at hl 1 rfl) ?_
      obtain ⟨a9, S10, ea9, hf⟩ := zbd_some hf
      refine zcVi (As := [.int (zI (x1))]) (rest := []) C hK hSt hW hS (zc_M_noRow hap x1 S6 nx1 ea9) zq_M_noRow zk_1875 (zrecv hK hW (zvd_9 (by decide) (by decide)) (ze_9_0 B _ (0)) rfl) ⟨rfl, rfl, by decide, by decide⟩ ⟨by decide, by decide⟩ rfl hl.1 rfl (lv_room (Nat.le_of_ble_eq_true rfl)) zd_M_weather_24 (fun na9 H locs hW hS => ?_)
      cases hf
      exact zre_i C hr hlk hK hW hS na9 zd_M_weather_27
  · rw [if_pos c4] at hf
    refine zr_iconst C zd_M_weather_12 ?_
    cases hf
    exact zre_i C hr hlk hK hW hS (znb rfl) zd_M_weather_13

theorem zc_M_weather {l : Launch} {B : zB} (hap : zAp B) (x1 : Int) (x2 : Int) (S : Sg) (nx1 : zn x1) (nx2 : zn x2) {res : Int} {S9 : Sg} (hf : zf_M_weather x1 x2 S = some (res, S9)) : Met l zy_M_weather (Cond.code zy_M_weather zb_M_weather 4 (some .int) :: zT) zm_M_weather (zP B S [.ref (B.2.1 9 (0) (0)), .int (zI (x1)), .int (zI (x2))]) (zQi B res S9) 0 0 B.2.2.2 :=
  zmet (by decide) (Nat.le_of_ble_eq_true rfl) (fun p e s m args below meth c C hr hlk hK hSt hW ls hl => zw_M_weather C hr hlk hK hSt hap   x1 x2 S nx1 nx2 hf _ _ _ hW va_S.rf hl)
/-! IslandOfficeModel$World.leastOf(I)J -/
abbrev zy_W_leastOf : MethodName := ⟨"IslandOfficeModel$World", "leastOf", "(I)J"⟩
abbrev zb_W_leastOf : ByteArray := prog_15_method_36_code
abbrev zm_W_leastOf : Room := { frames := 0, cells := 0, slots := 0, locals := 0 }
theorem zq_W_leastOf : zMy zy_W_leastOf zb_W_leastOf 2 (some .long) 1 := ⟨zk_1894, zk_1893, zs_77, zk_15, by decide, by decide, by decide +kernel⟩
theorem zd_W_leastOf_0 : decode zb_W_leastOf 0 = .ok (.aload_n 0, 1) := by decide +kernel
theorem zd_W_leastOf_1 : decode zb_W_leastOf 1 = .ok (.getfield 117, 3) := by decide +kernel
theorem zd_W_leastOf_4 : decode zb_W_leastOf 4 = .ok (.iload_n 1, 1) := by decide +kernel
theorem zd_W_leastOf_5 : decode zb_W_leastOf 5 = .ok (.iaload, 1) := by decide +kernel
theorem zd_W_leastOf_6 : decode zb_W_leastOf 6 = .ok (.ifCond .ne 9, 3) := by decide +kernel
theorem zd_W_leastOf_9 : decode zb_W_leastOf 9 = .ok (.ldc2_w 294, 3) := by decide +kernel
theorem zd_W_leastOf_12 : decode zb_W_leastOf 12 = .ok (.goto 22, 3) := by decide +kernel
theorem zd_W_leastOf_15 : decode zb_W_leastOf 15 = .ok (.aload_n 0, 1) := by decide +kernel
theorem zd_W_leastOf_16 : decode zb_W_leastOf 16 = .ok (.getfield 117, 3) := by decide +kernel
theorem zd_W_leastOf_19 : decode zb_W_leastOf 19 = .ok (.iload_n 1, 1) := by decide +kernel
theorem zd_W_leastOf_20 : decode zb_W_leastOf 20 = .ok (.iaload, 1) := by decide +kernel
theorem zd_W_leastOf_21 : decode zb_W_leastOf 21 = .ok (.iconst 1, 1) := by decide +kernel
theorem zd_W_leastOf_22 : decode zb_W_leastOf 22 = .ok (.if_icmp .ne 9, 3) := by decide +kernel
theorem zd_W_leastOf_25 : decode zb_W_leastOf 25 = .ok (.ldc2_w 298, 3) := by decide +kernel
theorem zd_W_leastOf_28 : decode zb_W_leastOf 28 = .ok (.goto 6, 3) := by decide +kernel
theorem zd_W_leastOf_31 : decode zb_W_leastOf 31 = .ok (.ldc2_w 300, 3) := by decide +kernel
theorem zd_W_leastOf_34 : decode zb_W_leastOf 34 = .ok (.lreturn, 1) := by decide +kernel

def zf_W_leastOf (r0 : Int) (x1 : Int) (S : Sg) : Option (Int × Sg) :=
    zck (0 ≤ x1 ∧ x1 < 2) <| if (S 5 r0 32 x1) = 0 then (some (-128, S)) else (if (S 5 r0 32 x1) = 1 then (some (-32768, S)) else (some (-2147483648, S)))
set_option maxHeartbeats 4000000 in
set_option maxRecDepth 100000 in
theorem zw_W_leastOf {p : Program} {l : Launch} {e : Env} {s : State} {m : MethodId} {args : Array Value} {below : List Frame} {meth : Method} {c : Code} {B : zB} (C : CallFix p m c zb_W_leastOf 2 s args zT "IslandOfficeModel$World") (hr : meth.sig.returnType = some .long) (hlk : meth.locks = false) (hK : zK B s) (hSt : zSt B s) (hap : zAp B) (r0 : Int) (hr0 : 0 ≤ r0 ∧ r0 < 3) {res : Int} {S9 : Sg} : ∀ (x1 : Int) (S : Sg) (nx1 : zn x1), zf_W_leastOf r0 x1 S = some (res, S9) → ∀ (H : Heap) (locs : List Loc) (ls : Array Slot), zW B S H → va_S B.2.2.2 s.heap H locs → lv_has ls 2 [(0, .ref (B.2.1 5 (r0) (0))), (1, .int (zI (x1)))] → W p l e zm_W_leastOf s m args below meth c H locs 0 0 (MQ below (zQl B res S9) args s 0 0 B.2.2.2) (F0 m 0 ls []) := by
  intro x1 S nx1 hf H locs ls hW hS hl
  unfold zf_W_leastOf at hf
  refine lv_aload_n C.1 C.2.1 zd_W_leastOf_0 rfl (lv_at hl 0 rfl) ?_
  refine zg_W_skySort (r := r0) C hK hW (zvd_5 hr0 (by decide)) zk_1359 zd_W_leastOf_1 ?_
  refine lv_iload_n C.1 C.2.1 zd_W_leastOf_4 rfl (lv_at hl 1 rfl) ?_
  obtain ⟨h1, hf⟩ := zck_some hf
  refine ziald C hK hW (zvd_5 hr0 (by decide)) (fun f => ze_5_32 B f (r0)) (by decide) h1 zd_W_leastOf_5 ?_
  refine zr_if_ne (tgt := 15) C (zWn hW _ _ _ _ rfl) zd_W_leastOf_6 (by decide) (fun c2 => ?_) (fun c2 => ?_)
  · rw [if_neg c2] at hf
    refine lv_aload_n C.1 C.2.1 zd_W_leastOf_15 rfl (lv_at hl 0 rfl) ?_
    refine zg_W_skySort (r := r0) C hK hW (zvd_5 hr0 (by decide)) zk_1359 zd_W_leastOf_16 ?_
    refine lv_iload_n C.1 C.2.1 zd_W_leastOf_19 rfl (lv_at hl 1 rfl) ?_
    refine ziald C hK hW (zvd_5 hr0 (by decide)) (fun f => ze_5_32 B f (r0)) (by decide) h1 zd_W_leastOf_20 ?_
    refine zr_iconst C zd_W_leastOf_21 ?_
    refine zr_icmp_ne (tgt := 31) C (zWn hW _ _ _ _ rfl) (znb rfl) zd_W_leastOf_22 (by decide) (fun c3 => ?_) (fun c3 => ?_)
    · rw [if_neg c3] at hf
      refine zr_ldc2 (n := -2147483648) C zk_1897 (by decide) zd_W_leastOf_31 ?_
      cases hf
      exact zre_l C hr hlk hK hW hS (zmb rfl) zd_W_leastOf_34
    · rw [if_pos c3] at hf
      refine zr_ldc2 (n := -32768) C zk_1896 (by decide) zd_W_leastOf_25 ?_
      refine lv_goto (tgt := 34) C.1 C.2.1 zd_W_leastOf_28 (by decide) ?_
      cases hf
      exact zre_l C hr hlk hK hW hS (zmb rfl) zd_W_leastOf_34
  · rw [if_pos c2] at hf
    refine zr_ldc2 (n := -128) C zk_1895 (by decide) zd_W_leastOf_9 ?_
    refine lv_goto (tgt := 34) C.1 C.2.1 zd_W_leastOf_12 (by decide) ?_
    cases hf
    exact zre_l C hr hlk hK hW hS (zmb rfl) zd_W_leastOf_34

theorem zc_W_leastOf {l : Launch} {B : zB} (hap : zAp B) (r0 : Int) (hr0 : 0 ≤ r0 ∧ r0 < 3) (x1 : Int) (S : Sg) (nx1 : zn x1) {res : Int} {S9 : Sg} (hf : zf_W_leastOf r0 x1 S = some (res, S9)) : Met l zy_W_leastOf (Cond.code zy_W_leastOf zb_W_leastOf 2 (some .long) :: zT) zm_W_leastOf (zP B S [.ref (B.2.1 5 (r0) (0)), .int (zI (x1))]) (zQl B res S9) 0 0 B.2.2.2 :=
  zmet (by decide) (Nat.le_of_ble_eq_true rfl) (fun p e s m args below meth c C hr hlk hK hSt hW ls hl => zw_W_leastOf C hr hlk hK hSt hap r0 hr0 x1 S nx1 hf _ _ _ hW va_S.rf hl)
/-! IslandOfficeModel$World.missing(II)Z -/
abbrev zy_W_missing : MethodName := ⟨"IslandOfficeModel$World", "missing", "(II)Z"⟩
abbrev zb_W_missing : ByteArray := prog_15_method_37_code
abbrev zm_W_missing : Room := { frames := 1, cells := 0, slots := 0, locals := 21 }
theorem zq_W_missing : zMy zy_W_missing zb_W_missing 3 (some .boolean) 2 := ⟨zk_1890, zk_1889, zs_76, zk_15, by decide, by decide, by decide +kernel⟩
theorem zd_W_missing_0 : decode zb_W_missing 0 = .ok (.iload_n 2, 1) := by decide +kernel
theorem zd_W_missing_1 : decode zb_W_missing 1 = .ok (.aload_n 0, 1) := by decide +kernel
theorem zd_W_missing_2 : decode zb_W_missing 2 = .ok (.getfield 120, 3) := by decide +kernel
theorem zd_W_missing_5 : decode zb_W_missing 5 = .ok (.iload_n 1, 1) := by decide +kernel
theorem zd_W_missing_6 : decode zb_W_missing 6 = .ok (.iaload, 1) := by decide +kernel
theorem zd_W_missing_7 : decode zb_W_missing 7 = .ok (.if_icmp .ge 25, 3) := by decide +kernel
theorem zd_W_missing_10 : decode zb_W_missing 10 = .ok (.aload_n 0, 1) := by decide +kernel
theorem zd_W_missing_11 : decode zb_W_missing 11 = .ok (.getfield 123, 3) := by decide +kernel
theorem zd_W_missing_14 : decode zb_W_missing 14 = .ok (.iload_n 1, 1) := by decide +kernel
theorem zd_W_missing_15 : decode zb_W_missing 15 = .ok (.aaload, 1) := by decide +kernel
theorem zd_W_missing_16 : decode zb_W_missing 16 = .ok (.iload_n 2, 1) := by decide +kernel
theorem zd_W_missing_17 : decode zb_W_missing 17 = .ok (.iaload, 1) := by decide +kernel
theorem zd_W_missing_18 : decode zb_W_missing 18 = .ok (.i2l, 1) := by decide +kernel
theorem zd_W_missing_19 : decode zb_W_missing 19 = .ok (.aload_n 0, 1) := by decide +kernel
theorem zd_W_missing_20 : decode zb_W_missing 20 = .ok (.iload_n 1, 1) := by decide +kernel
theorem zd_W_missing_21 : decode zb_W_missing 21 = .ok (.invokevirtual 302, 3) := by decide +kernel
theorem zd_W_missing_24 : decode zb_W_missing 24 = .ok (.lcmp, 1) := by decide +kernel
theorem zd_W_missing_25 : decode zb_W_missing 25 = .ok (.ifCond .ne 7, 3) := by decide +kernel
theorem zd_W_missing_28 : decode zb_W_missing 28 = .ok (.iconst 1, 1) := by decide +kernel
theorem zd_W_missing_29 : decode zb_W_missing 29 = .ok (.goto 4, 3) := by decide +kernel
theorem zd_W_missing_32 : decode zb_W_missing 32 = .ok (.iconst 0, 1) := by decide +kernel
theorem zd_W_missing_33 : decode zb_W_missing 33 = .ok (.ireturn, 1) := by decide +kernel

def zf_W_missing (r0 : Int) (x1 : Int) (x2 : Int) (S : Sg) : Option (Int × Sg) :=
    zck (0 ≤ x1 ∧ x1 < 2) <| if (S 5 r0 33 x1) ≤ x2 then (some (0, S)) else (zck (0 ≤ x2 ∧ x2 < 120) <| zbd (zf_W_leastOf (r0) x1 S) fun a4 S5 => if (zcmp (S 7 r0 x1 x2) a4) = 0 then (some (1, S5)) else (some (0, S5)))
set_option maxHeartbeats 4000000 in
set_option maxRecDepth 100000 in
theorem zw_W_missing {p : Program} {l : Launch} {e : Env} {s : State} {m : MethodId} {args : Array Value} {below : List Frame} {meth : Method} {c : Code} {B : zB} (C : CallFix p m c zb_W_missing 3 s args zT "IslandOfficeModel$World") (hr : meth.sig.returnType = some .boolean) (hlk : meth.locks = false) (hK : zK B s) (hSt : zSt B s) (hap : zAp B) (r0 : Int) (hr0 : 0 ≤ r0 ∧ r0 < 3) {res : Int} {S9 : Sg} : ∀ (x1 : Int) (x2 : Int) (S : Sg) (nx1 : zn x1) (nx2 : zn x2), zf_W_missing r0 x1 x2 S = some (res, S9) → ∀ (H : Heap) (locs : List Loc) (ls : Array Slot), zW B S H → va_S B.2.2.2 s.heap H locs → lv_has ls 3 [(0, .ref (B.2.1 5 (r0) (0))), (1, .int (zI (x1))), (2, .int (zI (x2)))] → W p l e zm_W_missing s m args below meth c H locs 0 0 (MQ below (zQi B res S9) args s 0 0 B.2.2.2) (F0 m 0 ls []) := by
  intro x1 x2 S nx1 nx2 hf H locs ls hW hS hl
  unfold zf_W_missing at hf
  refine lv_iload_n C.1 C.2.1 zd_W_missing_0 rfl (lv_at hl 2 rfl) ?_
  refine lv_aload_n C.1 C.2.1 zd_W_missing_1 rfl (lv_at hl 0 rfl) ?_
  refine zg_W_skySize (r := r0) C hK hW (zvd_5 hr0 (by decide)) zk_1361 zd_W_missing_2 ?_
  refine lv_iload_n C.1 C.2.1 zd_W_missing_5 rfl (lv_at hl 1 rfl) ?_
  obtain ⟨h1, hf⟩ := zck_some hf
  refine ziald C hK hW (zvd_5 hr0 (by decide)) (fun f => ze_5_33 B f (r0)) (by decide) h1 zd_W_missing_6 ?_
  refine zr_icmp_ge (tgt := 32) C nx2 (zWn hW _ _ _ _ rfl) zd_W_missing_7 (by decide) (fun c2 => ?_) (fun c2 => ?_)
  · rw [if_pos c2] at hf
    refine zr_iconst C zd_W_missing_32 ?_
    cases hf
    exact zre_z C hr hlk hK hW hS (znb rfl) (zb01 (by decide)) zd_W_missing_33
  · rw [if_neg c2] at hf
    refine lv_aload_n C.1 C.2.1 zd_W_missing_10 rfl (lv_at hl 0 rfl) ?_
    refine zg_W_sky (r := r0) C hK hW (zvd_5 hr0 (by decide)) zk_1363 zd_W_missing_11 ?_
    refine lv_iload_n C.1 C.2.1 zd_W_missing_14 rfl (lv_at hl 1 rfl) ?_
    refine zaald (t0 := 4) C hK hW (zvd_5 hr0 (by decide)) (fun f => ze_5_42 B f (r0)) rfl rfl (by decide) h1 zd_W_missing_15 (a := B.2.1 7 (r0) (x1)) (by rw [Int.toNat_of_nonneg h1.1]) ?_
    refine lv_iload_n C.1 C.2.1 zd_W_missing_16 rfl (lv_at hl 2 rfl) ?_
    obtain ⟨h3, hf⟩ := zck_some hf
    refine ziald C hK hW (zvd_7 hr0 h1) (fun f => ze_7 B f (r0) (x1)) (by decide) h3 zd_W_missing_17 ?_
    refine zr_i2l C (zWn hW _ _ _ _ rfl) zd_W_missing_18 ?_
    refine lv_aload_n C.1 C.2.1 zd_W_missing_19 rfl (lv_at hl 0 rfl) ?_
    refine lv_iload_n C.1 C.2.1 zd_W_missing_20 rfl (lv_at hl 1 rfl) ?_
    have w6 : zm (S 7 r0 x1 x2) := (zm_n (zWn hW _ _ _ _ rfl))
    obtain ⟨a4, S5, ea4, hf⟩ := zbd_some hf
    refine zcVl (As := [.int (zI (x1))]) (rest := [.long (zL (S 7 r0 x1 x2))]) C hK hSt hW hS (zc_W_leastOf hap (r0) hr0 x1 S nx1 ea4) zq_W_leastOf zk_1891 (zrecv hK hW (zvd_5 hr0 (by decide)) (ze_5_0 B _ (r0)) rfl) ⟨rfl, rfl, by decide, by decide⟩ ⟨by decide, by decide⟩ rfl hl.1 rfl (lv_room (Nat.le_of_ble_eq_true rfl)) zd_W_missing_21 (fun na4 H locs hW hS => ?_)
    refine zr_lcmp C w6 na4 zd_W_missing_24 ?_
    refine zr_if_ne (tgt := 32) C (zn_cmp _ _) zd_W_missing_25 (by decide) (fun c7 => ?_) (fun c7 => ?_)
    · rw [if_neg c7] at hf
      refine zr_iconst C zd_W_missing_32 ?_
      cases hf
      exact zre_z C hr hlk hK hW hS (znb rfl) (zb01 (by decide)) zd_W_missing_33
    · rw [if_pos c7] at hf
      refine zr_iconst C zd_W_missing_28 ?_
      refine lv_goto (tgt := 33) C.1 C.2.1 zd_W_missing_29 (by decide) ?_
      cases hf
      exact zre_z C hr hlk hK hW hS (znb rfl) (zb01 (by decide)) zd_W_missing_33

theorem zc_W_missing {l : Launch} {B : zB} (hap : zAp B) (r0 : Int) (hr0 : 0 ≤ r0 ∧ r0 < 3) (x1 : Int) (x2 : Int) (S : Sg) (nx1 : zn x1) (nx2 : zn x2) {res : Int} {S9 : Sg} (hf : zf_W_missing r0 x1 x2 S = some (res, S9)) : Met l zy_W_missing (Cond.code zy_W_missing zb_W_missing 3 (some .boolean) :: zT) zm_W_missing (zP B S [.ref (B.2.1 5 (r0) (0)), .int (zI (x1)), .int (zI (x2))]) (zQi B res S9) 0 0 B.2.2.2 :=
  zmet (by decide) (Nat.le_of_ble_eq_true rfl) (fun p e s m args below meth c C hr hlk hK hSt hW ls hl => zw_W_missing C hr hlk hK hSt hap r0 hr0 x1 x2 S nx1 nx2 hf _ _ _ hW va_S.rf hl)
/-! IslandOfficeModel$World.skyOf(II)I -/
abbrev zy_W_skyOf : MethodName := ⟨"IslandOfficeModel$World", "skyOf", "(II)I"⟩
abbrev zb_W_skyOf : ByteArray := prog_15_method_38_code
abbrev zm_W_skyOf : Room := { frames := 2, cells := 0, slots := 0, locals := 64 }
theorem zq_W_skyOf : zMy zy_W_skyOf zb_W_skyOf 7 (some .int) 2 := ⟨zk_1886, zk_1884, zk_1885, zk_15, by decide, by decide, by decide +kernel⟩
theorem zd_W_skyOf_0 : decode zb_W_skyOf 0 = .ok (.iload_n 2, 1) := by decide +kernel
theorem zd_W_skyOf_1 : decode zb_W_skyOf 1 = .ok (.aload_n 0, 1) := by decide +kernel
theorem zd_W_skyOf_2 : decode zb_W_skyOf 2 = .ok (.getfield 120, 3) := by decide +kernel
theorem zd_W_skyOf_5 : decode zb_W_skyOf 5 = .ok (.iload_n 1, 1) := by decide +kernel
theorem zd_W_skyOf_6 : decode zb_W_skyOf 6 = .ok (.iaload, 1) := by decide +kernel
theorem zd_W_skyOf_7 : decode zb_W_skyOf 7 = .ok (.if_icmp .lt 5, 3) := by decide +kernel
theorem zd_W_skyOf_10 : decode zb_W_skyOf 10 = .ok (.iconst 0, 1) := by decide +kernel
theorem zd_W_skyOf_11 : decode zb_W_skyOf 11 = .ok (.ireturn, 1) := by decide +kernel
theorem zd_W_skyOf_12 : decode zb_W_skyOf 12 = .ok (.aload_n 0, 1) := by decide +kernel
theorem zd_W_skyOf_13 : decode zb_W_skyOf 13 = .ok (.iload_n 1, 1) := by decide +kernel
theorem zd_W_skyOf_14 : decode zb_W_skyOf 14 = .ok (.iload_n 2, 1) := by decide +kernel
theorem zd_W_skyOf_15 : decode zb_W_skyOf 15 = .ok (.invokevirtual 306, 3) := by decide +kernel
theorem zd_W_skyOf_18 : decode zb_W_skyOf 18 = .ok (.ifCond .ne 16, 3) := by decide +kernel
theorem zd_W_skyOf_21 : decode zb_W_skyOf 21 = .ok (.iconst 0, 1) := by decide +kernel
theorem zd_W_skyOf_22 : decode zb_W_skyOf 22 = .ok (.aload_n 0, 1) := by decide +kernel
theorem zd_W_skyOf_23 : decode zb_W_skyOf 23 = .ok (.getfield 123, 3) := by decide +kernel
theorem zd_W_skyOf_26 : decode zb_W_skyOf 26 = .ok (.iload_n 1, 1) := by decide +kernel
theorem zd_W_skyOf_27 : decode zb_W_skyOf 27 = .ok (.aaload, 1) := by decide +kernel
theorem zd_W_skyOf_28 : decode zb_W_skyOf 28 = .ok (.iload_n 2, 1) := by decide +kernel
theorem zd_W_skyOf_29 : decode zb_W_skyOf 29 = .ok (.iaload, 1) := by decide +kernel
theorem zd_W_skyOf_30 : decode zb_W_skyOf 30 = .ok (.invokestatic 309, 3) := by decide +kernel
theorem zd_W_skyOf_33 : decode zb_W_skyOf 33 = .ok (.ireturn, 1) := by decide +kernel
theorem zd_W_skyOf_34 : decode zb_W_skyOf 34 = .ok (.lconst 0, 1) := by decide +kernel
theorem zd_W_skyOf_35 : decode zb_W_skyOf 35 = .ok (.lstore_n 3, 1) := by decide +kernel
theorem zd_W_skyOf_36 : decode zb_W_skyOf 36 = .ok (.iconst 0, 1) := by decide +kernel
theorem zd_W_skyOf_37 : decode zb_W_skyOf 37 = .ok (.istore 5, 2) := by decide +kernel
theorem zd_W_skyOf_39 : decode zb_W_skyOf 39 = .ok (.iload_n 2, 1) := by decide +kernel
theorem zd_W_skyOf_40 : decode zb_W_skyOf 40 = .ok (.iconst 4, 1) := by decide +kernel
theorem zd_W_skyOf_41 : decode zb_W_skyOf 41 = .ok (.idiv, 1) := by decide +kernel
theorem zd_W_skyOf_42 : decode zb_W_skyOf 42 = .ok (.iconst 4, 1) := by decide +kernel
theorem zd_W_skyOf_43 : decode zb_W_skyOf 43 = .ok (.imul, 1) := by decide +kernel
theorem zd_W_skyOf_44 : decode zb_W_skyOf 44 = .ok (.istore 6, 2) := by decide +kernel
theorem zd_W_skyOf_46 : decode zb_W_skyOf 46 = .ok (.iload 6, 2) := by decide +kernel
theorem zd_W_skyOf_48 : decode zb_W_skyOf 48 = .ok (.iload_n 2, 1) := by decide +kernel
theorem zd_W_skyOf_49 : decode zb_W_skyOf 49 = .ok (.iconst 4, 1) := by decide +kernel
theorem zd_W_skyOf_50 : decode zb_W_skyOf 50 = .ok (.idiv, 1) := by decide +kernel
theorem zd_W_skyOf_51 : decode zb_W_skyOf 51 = .ok (.iconst 4, 1) := by decide +kernel
theorem zd_W_skyOf_52 : decode zb_W_skyOf 52 = .ok (.imul, 1) := by decide +kernel
theorem zd_W_skyOf_53 : decode zb_W_skyOf 53 = .ok (.iconst 4, 1) := by decide +kernel
theorem zd_W_skyOf_54 : decode zb_W_skyOf 54 = .ok (.iadd, 1) := by decide +kernel
theorem zd_W_skyOf_55 : decode zb_W_skyOf 55 = .ok (.if_icmp .ge 50, 3) := by decide +kernel
theorem zd_W_skyOf_58 : decode zb_W_skyOf 58 = .ok (.iload 6, 2) := by decide +kernel
theorem zd_W_skyOf_60 : decode zb_W_skyOf 60 = .ok (.aload_n 0, 1) := by decide +kernel
theorem zd_W_skyOf_61 : decode zb_W_skyOf 61 = .ok (.getfield 120, 3) := by decide +kernel
theorem zd_W_skyOf_64 : decode zb_W_skyOf 64 = .ok (.iload_n 1, 1) := by decide +kernel
theorem zd_W_skyOf_65 : decode zb_W_skyOf 65 = .ok (.iaload, 1) := by decide +kernel
theorem zd_W_skyOf_66 : decode zb_W_skyOf 66 = .ok (.if_icmp .ge 33, 3) := by decide +kernel
theorem zd_W_skyOf_69 : decode zb_W_skyOf 69 = .ok (.aload_n 0, 1) := by decide +kernel
theorem zd_W_skyOf_70 : decode zb_W_skyOf 70 = .ok (.iload_n 1, 1) := by decide +kernel
theorem zd_W_skyOf_71 : decode zb_W_skyOf 71 = .ok (.iload 6, 2) := by decide +kernel
theorem zd_W_skyOf_73 : decode zb_W_skyOf 73 = .ok (.invokevirtual 306, 3) := by decide +kernel
theorem zd_W_skyOf_76 : decode zb_W_skyOf 76 = .ok (.ifCond .ne 23, 3) := by decide +kernel
theorem zd_W_skyOf_79 : decode zb_W_skyOf 79 = .ok (.lload_n 3, 1) := by decide +kernel
theorem zd_W_skyOf_80 : decode zb_W_skyOf 80 = .ok (.iconst 0, 1) := by decide +kernel
theorem zd_W_skyOf_81 : decode zb_W_skyOf 81 = .ok (.aload_n 0, 1) := by decide +kernel
theorem zd_W_skyOf_82 : decode zb_W_skyOf 82 = .ok (.getfield 123, 3) := by decide +kernel
theorem zd_W_skyOf_85 : decode zb_W_skyOf 85 = .ok (.iload_n 1, 1) := by decide +kernel
theorem zd_W_skyOf_86 : decode zb_W_skyOf 86 = .ok (.aaload, 1) := by decide +kernel
theorem zd_W_skyOf_87 : decode zb_W_skyOf 87 = .ok (.iload 6, 2) := by decide +kernel
theorem zd_W_skyOf_89 : decode zb_W_skyOf 89 = .ok (.iaload, 1) := by decide +kernel
theorem zd_W_skyOf_90 : decode zb_W_skyOf 90 = .ok (.invokestatic 309, 3) := by decide +kernel
theorem zd_W_skyOf_93 : decode zb_W_skyOf 93 = .ok (.i2l, 1) := by decide +kernel
theorem zd_W_skyOf_94 : decode zb_W_skyOf 94 = .ok (.ladd, 1) := by decide +kernel
theorem zd_W_skyOf_95 : decode zb_W_skyOf 95 = .ok (.lstore_n 3, 1) := by decide +kernel
theorem zd_W_skyOf_96 : decode zb_W_skyOf 96 = .ok (.iinc 5 1, 3) := by decide +kernel
theorem zd_W_skyOf_99 : decode zb_W_skyOf 99 = .ok (.iinc 6 1, 3) := by decide +kernel
theorem zd_W_skyOf_102 : decode zb_W_skyOf 102 = .ok (.goto (-56), 3) := by decide +kernel
theorem zd_W_skyOf_105 : decode zb_W_skyOf 105 = .ok (.iload 5, 2) := by decide +kernel
theorem zd_W_skyOf_107 : decode zb_W_skyOf 107 = .ok (.ifCond .ne 7, 3) := by decide +kernel
theorem zd_W_skyOf_110 : decode zb_W_skyOf 110 = .ok (.iconst 0, 1) := by decide +kernel
theorem zd_W_skyOf_111 : decode zb_W_skyOf 111 = .ok (.goto 9, 3) := by decide +kernel
theorem zd_W_skyOf_114 : decode zb_W_skyOf 114 = .ok (.lload_n 3, 1) := by decide +kernel
theorem zd_W_skyOf_115 : decode zb_W_skyOf 115 = .ok (.iload 5, 2) := by decide +kernel
theorem zd_W_skyOf_117 : decode zb_W_skyOf 117 = .ok (.i2l, 1) := by decide +kernel
theorem zd_W_skyOf_118 : decode zb_W_skyOf 118 = .ok (.ldiv, 1) := by decide +kernel
theorem zd_W_skyOf_119 : decode zb_W_skyOf 119 = .ok (.l2i, 1) := by decide +kernel
theorem zd_W_skyOf_120 : decode zb_W_skyOf 120 = .ok (.ireturn, 1) := by decide +kernel

def zf_W_skyOf_99 (r0 : Int) (q46 : Int → Int → Int → Int → Int → Sg → Option (Int × Sg)) (x1 : Int) (x2 : Int) (x3 : Int) (x5 : Int) (x6 : Int) (S : Sg) : Option (Int × Sg) :=
    zlt (zw (x6 + 1)) fun v1 => q46 (x1) (x2) (x3) (x5) (v1) S
set_option maxHeartbeats 4000000 in
set_option maxRecDepth 100000 in
theorem zw_W_skyOf_99 {p : Program} {l : Launch} {e : Env} {s : State} {m : MethodId} {args : Array Value} {below : List Frame} {meth : Method} {c : Code} {B : zB} (C : CallFix p m c zb_W_skyOf 7 s args zT "IslandOfficeModel$World") (hr : meth.sig.returnType = some .int) (hlk : meth.locks = false) (hK : zK B s) (hSt : zSt B s) (hap : zAp B) (r0 : Int) (hr0 : 0 ≤ r0 ∧ r0 < 3) {res : Int} {S9 : Sg} (q46 : Int → Int → Int → Int → Int → Sg → Option (Int × Sg)) (hq46 : ∀ (x1 : Int) (x2 : Int) (x3 : Int) (x5 : Int) (x6 : Int) (S : Sg) (nx1 : zn x1) (nx2 : zn x2) (nx3 : zm x3) (nx5 : zn x5) (nx6 : zn x6), q46 x1 x2 x3 x5 x6 S = some (res, S9) → ∀ (H : Heap) (locs : List Loc) (ls : Array Slot), zW B S H → va_S B.2.2.2 s.heap H locs → lv_has ls 7 [(0, .ref (B.2.1 5 (r0) (0))), (1, .int (zI (x1))), (2, .int (zI (x2))), (3, .long (zL (x3))), (5, .int (zI (x5))), (6, .int (zI (x6)))] → W p l e zm_W_skyOf s m args below meth c H locs 0 0 (MQ below (zQi B res S9) args s 0 0 B.2.2.2) (F0 m 46 ls [])) : ∀ (x1 : Int) (x2 : Int) (x3 : Int) (x5 : Int) (x6 : Int) (S : Sg) (nx1 : zn x1) (nx2 : zn x2) (nx3 : zm x3) (nx5 : zn x5) (nx6 : zn x6), zf_W_skyOf_99 r0 q46 x1 x2 x3 x5 x6 S = some (res, S9) → ∀ (H : Heap) (locs : List Loc) (ls : Array Slot), zW B S H → va_S B.2.2.2 s.heap H locs → lv_has ls 7 [(0, .ref (B.2.1 5 (r0) (0))), (1, .int (zI (x1))), (2, .int (zI (x2))), (3, .long (zL (x3))), (5, .int (zI (x5))), (6, .int (zI (x6)))] → W p l e zm_W_skyOf s m args below meth c H locs 0 0 (MQ below (zQi B res S9) args s 0 0 B.2.2.2) (F0 m 99 ls []) := by
  intro x1 x2 x3 x5 x6 S nx1 nx2 nx3 nx5 nx6 hf H locs ls hW hS hl
  unfold zf_W_skyOf_99 at hf
  obtain ⟨v1, ev1, hf⟩ := zlt_some hf
  have nv1 : zn v1 := by rw [← ev1]; exact zn_w _
  refine lv_iinc (v := zI v1) (lv' := [(6, .int (zI (v1))), (0, .ref (B.2.1 5 (r0) (0))), (1, .int (zI (x1))), (2, .int (zI (x2))), (3, .long (zL (x3))), (5, .int (zI (x5)))]) C.1 C.2.1 zd_W_skyOf_99 hl (k := 5) rfl (by rw [← ev1, ← zI_add]; rfl) (by decide) rfl (fun ls hl => ?_)
  refine lv_goto (tgt := 46) C.1 C.2.1 zd_W_skyOf_102 (by decide) ?_
  exact hq46 (x1) (x2) (x3) (x5) (v1) S nx1 nx2 nx3 nx5 nv1 hf _ _ _ hW hS (lv_sub hl [1, 2, 3, 4, 5, 0] rfl)

def zf_W_skyOf_46 (r0 : Int) : Nat → Int → Int → Int → Int → Int → Sg → Option (Int × Sg)
  | 0, _, _, _, _, _, _ => none
  | n + 1, x1, x2, x3, x5, x6, S =>
    if (zw ((zw ((zdiv x2 4) * 4)) + 4)) ≤ x6 then (if x5 = 0 then (some (0, S)) else (zck (¬ x5 = 0) <| some (zw (zldv x3 x5), S))) else (zck (0 ≤ x1 ∧ x1 < 2) <| if (S 5 r0 33 x1) ≤ x6 then (zf_W_skyOf_99 r0 (zf_W_skyOf_46 r0 n) (x1) (x2) (x3) (x5) (x6) S) else (zbd (zf_W_missing (r0) x1 x6 S) fun a6 S7 => if a6 = 0 then (zck (0 ≤ x6 ∧ x6 < 120) <| zlt (zv (x3 + (max 0 (S7 7 r0 x1 x6)))) fun v10 => zlt (zw (x5 + 1)) fun v11 => zf_W_skyOf_99 r0 (zf_W_skyOf_46 r0 n) (x1) (x2) (v10) (v11) (x6) S7) else (zf_W_skyOf_99 r0 (zf_W_skyOf_46 r0 n) (x1) (x2) (x3) (x5) (x6) S7)))
set_option maxHeartbeats 4000000 in
set_option maxRecDepth 100000 in
theorem zw_W_skyOf_46 {p : Program} {l : Launch} {e : Env} {s : State} {m : MethodId} {args : Array Value} {below : List Frame} {meth : Method} {c : Code} {B : zB} (C : CallFix p m c zb_W_skyOf 7 s args zT "IslandOfficeModel$World") (hr : meth.sig.returnType = some .int) (hlk : meth.locks = false) (hK : zK B s) (hSt : zSt B s) (hap : zAp B) (r0 : Int) (hr0 : 0 ≤ r0 ∧ r0 < 3) {res : Int} {S9 : Sg} : ∀ n : Nat, ∀ (x1 : Int) (x2 : Int) (x3 : Int) (x5 : Int) (x6 : Int) (S : Sg) (nx1 : zn x1) (nx2 : zn x2) (nx3 : zm x3) (nx5 : zn x5) (nx6 : zn x6), zf_W_skyOf_46 r0 n x1 x2 x3 x5 x6 S = some (res, S9) → ∀ (H : Heap) (locs : List Loc) (ls : Array Slot), zW B S H → va_S B.2.2.2 s.heap H locs → lv_has ls 7 [(0, .ref (B.2.1 5 (r0) (0))), (1, .int (zI (x1))), (2, .int (zI (x2))), (3, .long (zL (x3))), (5, .int (zI (x5))), (6, .int (zI (x6)))] → W p l e zm_W_skyOf s m args below meth c H locs 0 0 (MQ below (zQi B res S9) args s 0 0 B.2.2.2) (F0 m 46 ls []) := by
  intro n
  induction n with
  | zero =>
    intro x1 x2 x3 x5 x6 S nx1 nx2 nx3 nx5 nx6 hf H locs ls hW hS hl
    cases hf
  | succ n ih =>
    intro x1 x2 x3 x5 x6 S nx1 nx2 nx3 nx5 nx6 hf H locs ls hW hS hl
    rw [zf_W_skyOf_46] at hf
    refine lv_iload C.1 C.2.1 zd_W_skyOf_46 (lv_at hl 5 rfl) ?_
    refine lv_iload_n C.1 C.2.1 zd_W_skyOf_48 rfl (lv_at hl 2 rfl) ?_
    refine zr_iconst C zd_W_skyOf_49 ?_
    refine zr_idiv C nx2 (znb rfl) (by decide) zd_W_skyOf_50 ?_
    refine zr_iconst C zd_W_skyOf_51 ?_
    refine zr_imul C zd_W_skyOf_52 ?_
    refine zr_iconst C zd_W_skyOf_53 ?_
    refine zr_iadd C zd_W_skyOf_54 ?_
    refine zr_icmp_ge (tgt := 105) C nx6 (zn_w _) zd_W_skyOf_55 (by decide) (fun c1 => ?_) (fun c1 => ?_)
    · rw [if_pos c1] at hf
      refine lv_iload C.1 C.2.1 zd_W_skyOf_105 (lv_at hl 4 rfl) ?_
      refine zr_if_ne (tgt := 114) C nx5 zd_W_skyOf_107 (by decide) (fun c2 => ?_) (fun c2 => ?_)
      · rw [if_neg c2] at hf
        refine lv_lload_n C.1 C.2.1 zd_W_skyOf_114 rfl (lv_at hl 3 rfl) ?_
        refine lv_iload C.1 C.2.1 zd_W_skyOf_115 (lv_at hl 4 rfl) ?_
        refine zr_i2l C nx5 zd_W_skyOf_117 ?_
        obtain ⟨h3, hf⟩ := zck_some hf
        refine zr_ldiv C nx3 (zm_n nx5) h3 zd_W_skyOf_118 ?_
        refine zr_l2i C (zm_ldv _ _) zd_W_skyOf_119 ?_
        cases hf
        exact zre_i C hr hlk hK hW hS (zn_w _) zd_W_skyOf_120
      · rw [if_pos c2] at hf
        refine zr_iconst C zd_W_skyOf_110 ?_
        refine lv_goto (tgt := 120) C.1 C.2.1 zd_W_skyOf_111 (by decide) ?_
        cases hf
        exact zre_i C hr hlk hK hW hS (znb rfl) zd_W_skyOf_120
    · rw [if_neg c1] at hf
      refine lv_iload C.1 C.2.1 zd_W_skyOf_58 (lv_at hl 5 rfl) ?_
      refine lv_aload_n C.1 C.2.1 zd_W_skyOf_60 rfl (lv_at hl 0 rfl) ?_
      refine zg_W_skySize (r := r0) C hK hW (zvd_5 hr0 (by decide)) zk_1361 zd_W_skyOf_61 ?_
      refine lv_iload_n C.1 C.2.1 zd_W_skyOf_64 rfl (lv_at hl 1 rfl) ?_
      obtain ⟨h4, hf⟩ := zck_some hf
      refine ziald C hK hW (zvd_5 hr0 (by decide)) (fun f => ze_5_33 B f (r0)) (by decide) h4 zd_W_skyOf_65 ?_
      refine zr_icmp_ge (tgt := 99) C nx6 (zWn hW _ _ _ _ rfl) zd_W_skyOf_66 (by decide) (fun c5 => ?_) (fun c5 => ?_)
      · rw [if_pos c5] at hf
        exact zw_W_skyOf_99 C hr hlk hK hSt hap r0 hr0 (zf_W_skyOf_46 r0 n) (ih) (x1) (x2) (x3) (x5) (x6) S nx1 nx2 nx3 nx5 nx6 hf _ _ _ hW hS (lv_sub hl [0, 1, 2, 3, 4, 5] rfl)
      · rw [if_neg c5] at hf
        refine lv_aload_n C.1 C.2.1 zd_W_skyOf_69 rfl (lv_at hl 0 rfl) ?_
        refine lv_iload_n C.1 C.2.1 zd_W_skyOf_70 rfl (lv_at hl 1 rfl) ?_
        refine lv_iload C.1 C.2.1 zd_W_skyOf_71 (lv_at hl 5 rfl) ?_
        obtain ⟨a6, S7, ea6, hf⟩ := zbd_some hf
        refine zcVi (As := [.int (zI (x1)), .int (zI (x6))]) (rest := []) C hK hSt hW hS (zc_W_missing hap (r0) hr0 x1 x6 S nx1 nx6 ea6) zq_W_missing zk_1887 (zrecv hK hW (zvd_5 hr0 (by decide)) (ze_5_0 B _ (r0)) rfl) ⟨rfl, rfl, by decide, by decide⟩ ⟨by decide, by decide⟩ rfl hl.1 rfl (lv_room (Nat.le_of_ble_eq_true rfl)) zd_W_skyOf_73 (fun na6 H locs hW hS => ?_)
        refine zr_if_ne (tgt := 99) C na6 zd_W_skyOf_76 (by decide) (fun c8 => ?_) (fun c8 => ?_)
        · rw [if_neg c8] at hf
          exact zw_W_skyOf_99 C hr hlk hK hSt hap r0 hr0 (zf_W_skyOf_46 r0 n) (ih) (x1) (x2) (x3) (x5) (x6) S7 nx1 nx2 nx3 nx5 nx6 hf _ _ _ hW hS (lv_sub hl [0, 1, 2, 3, 4, 5] rfl)
        · rw [if_pos c8] at hf
          refine lv_lload_n C.1 C.2.1 zd_W_skyOf_79 rfl (lv_at hl 3 rfl) ?_
          refine zr_iconst C zd_W_skyOf_80 ?_
          refine lv_aload_n C.1 C.2.1 zd_W_skyOf_81 rfl (lv_at hl 0 rfl) ?_
          refine zg_W_sky (r := r0) C hK hW (zvd_5 hr0 (by decide)) zk_1363 zd_W_skyOf_82 ?_
          refine lv_iload_n C.1 C.2.1 zd_W_skyOf_85 rfl (lv_at hl 1 rfl) ?_
          refine zaald (t0 := 4) C hK hW (zvd_5 hr0 (by decide)) (fun f => ze_5_42 B f (r0)) rfl rfl (by decide) h4 zd_W_skyOf_86 (a := B.2.1 7 (r0) (x1)) (by rw [Int.toNat_of_nonneg h4.1]) ?_
          refine lv_iload C.1 C.2.1 zd_W_skyOf_87 (lv_at hl 5 rfl) ?_
          obtain ⟨h9, hf⟩ := zck_some hf
          refine ziald C hK hW (zvd_7 hr0 h4) (fun f => ze_7 B f (r0) (x1)) (by decide) h9 zd_W_skyOf_89 ?_
          refine zr_max C hl.1 (znb rfl) (zWn hW _ _ _ _ rfl) zk_1898 zk_678 zk_16 zk_679 (by decide) (Nat.le_of_ble_eq_true rfl) ⟨by decide, by decide⟩ zd_W_skyOf_90 ?_
          refine zr_i2l C (zn_max (znb rfl) (zWn hW _ _ _ _ rfl)) zd_W_skyOf_93 ?_
          refine zr_ladd C zd_W_skyOf_94 ?_
          obtain ⟨v10, ev10, hf⟩ := zlt_some hf
          have nv10 : zm v10 := by rw [← ev10]; exact (zm_v _)
          rw [ev10]
          refine lv_lstore_n (lv' := [(3, .long (zL (v10))), (0, .ref (B.2.1 5 (r0) (0))), (1, .int (zI (x1))), (2, .int (zI (x2))), (5, .int (zI (x5))), (6, .int (zI (x6)))]) C.1 C.2.1 zd_W_skyOf_95 rfl hl (by decide) rfl (fun ls hl => ?_)
          obtain ⟨v11, ev11, hf⟩ := zlt_some hf
          have nv11 : zn v11 := by rw [← ev11]; exact zn_w _
          refine lv_iinc (v := zI v11) (lv' := [(5, .int (zI (v11))), (3, .long (zL (v10))), (0, .ref (B.2.1 5 (r0) (0))), (1, .int (zI (x1))), (2, .int (zI (x2))), (6, .int (zI (x6)))]) C.1 C.2.1 zd_W_skyOf_96 hl (k := 4) rfl (by rw [← ev11, ← zI_add]; rfl) (by decide) rfl (fun ls hl => ?_)
          exact zw_W_skyOf_99 C hr hlk hK hSt hap r0 hr0 (zf_W_skyOf_46 r0 n) (ih) (x1) (x2) (v10) (v11) (x6) S7 nx1 nx2 nv10 nv11 nx6 hf _ _ _ hW hS (lv_sub hl [2, 3, 4, 1, 0, 5] rfl)

def zf_W_skyOf (r0 : Int) (x1 : Int) (x2 : Int) (S : Sg) : Option (Int × Sg) :=
    zck (0 ≤ x1 ∧ x1 < 2) <| if x2 < (S 5 r0 33 x1) then (zbd (zf_W_missing (r0) x1 x2 S) fun a3 S4 => if a3 = 0 then (zck (0 ≤ x2 ∧ x2 < 120) <| some (max 0 (S4 7 r0 x1 x2), S4)) else (zlt (zw ((zdiv x2 4) * 4)) fun v6 => zf_W_skyOf_46 r0 4096 (x1) (x2) (0) (0) (v6) S4)) else (some (0, S))
set_option maxHeartbeats 4000000 in
set_option maxRecDepth 100000 in
theorem zw_W_skyOf {p : Program} {l : Launch} {e : Env} {s : State} {m : MethodId} {args : Array Value} {below : List Frame} {meth : Method} {c : Code} {B : zB} (C : CallFix p m c zb_W_skyOf 7 s args zT "IslandOfficeModel$World") (hr : meth.sig.returnType = some .int) (hlk : meth.locks = false) (hK : zK B s) (hSt : zSt B s) (hap : zAp B) (r0 : Int) (hr0 : 0 ≤ r0 ∧ r0 < 3) {res : Int} {S9 : Sg} : ∀ (x1 : Int) (x2 : Int) (S : Sg) (nx1 : zn x1) (nx2 : zn x2), zf_W_skyOf r0 x1 x2 S = some (res, S9) → ∀ (H : Heap) (locs : List Loc) (ls : Array Slot), zW B S H → va_S B.2.2.2 s.heap H locs → lv_has ls 7 [(0, .ref (B.2.1 5 (r0) (0))), (1, .int (zI (x1))), (2, .int (zI (x2)))] → W p l e zm_W_skyOf s m args below meth c H locs 0 0 (MQ below (zQi B res S9) args s 0 0 B.2.2.2) (F0 m 0 ls []) := by
  intro x1 x2 S nx1 nx2 hf H locs ls hW hS hl
  unfold zf_W_skyOf at hf
  refine lv_iload_n C.1 C.2.1 zd_W_skyOf_0 rfl (lv_at hl 2 rfl) ?_
  refine lv_aload_n C.1 C.2.1 zd_W_skyOf_1 rfl (lv_at hl 0 rfl) ?_
  refine zg_W_skySize (r := r0) C hK hW (zvd_5 hr0 (by decide)) zk_1361 zd_W_skyOf_2 ?_
  refine lv_iload_n C.1 C.2.1 zd_W_skyOf_5 rfl (lv_at hl 1 rfl) ?_
  obtain ⟨h1, hf⟩ := zck_some hf
  refine ziald C hK hW (zvd_5 hr0 (by decide)) (fun f => ze_5_33 B f (r0)) (by decide) h1 zd_W_skyOf_6 ?_
  refine zr_icmp_lt (tgt := 12) C nx2 (zWn hW _ _ _ _ rfl) zd_W_skyOf_7 (by decide) (fun c2 => ?_) (fun c2 => ?_)
  · rw [if_pos c2] at hf
    refine lv_aload_n C.1 C.2.1 zd_W_skyOf_12 rfl (lv_at hl 0 rfl) ?_
    refine lv_iload_n C.1 C.2.1 zd_W_skyOf_13 rfl (lv_at hl 1 rfl) ?_
    refine lv_iload_n C.1 C.2.1 zd_W_skyOf_14 rfl (lv_at hl 2 rfl) ?_
    obtain ⟨a3, S4, ea3, hf⟩ := zbd_some hf
    refine zcVi (As := [.int (zI (x1)), .int (zI (x2))]) (rest := []) C hK hSt hW hS (zc_W_missing hap (r0) hr0 x1 x2 S nx1 nx2 ea3) zq_W_missing zk_1887 (zrecv hK hW (zvd_5 hr0 (by decide)) (ze_5_0 B _ (r0)) rfl) ⟨rfl, rfl, by decide, by decide⟩ ⟨by decide, by decide⟩ rfl hl.1 rfl (lv_room (Nat.le_of_ble_eq_true rfl)) zd_W_skyOf_15 (fun na3 H locs hW hS => ?_)
    refine zr_if_ne (tgt := 34) C na3 zd_W_skyOf_18 (by decide) (fun c5 => ?_) (fun c5 => ?_)
    · rw [if_neg c5] at hf
      refine zr_lconst (k := 0) C zd_W_skyOf_34 rfl ?_
      refine lv_lstore_n (lv' := [(3, .long (zL (0))), (0, .ref (B.2.1 5 (r0) (0))), (1, .int (zI (x1))), (2, .int (zI (x2)))]) C.1 C.2.1 zd_W_skyOf_35 rfl hl (by decide) rfl (fun ls hl => ?_)
      refine zr_iconst C zd_W_skyOf_36 ?_
      refine lv_istore (lv' := [(5, .int (zI (0))), (3, .long (zL (0))), (0, .ref (B.2.1 5 (r0) (0))), (1, .int (zI (x1))), (2, .int (zI (x2)))]) C.1 C.2.1 zd_W_skyOf_37 hl (by decide) rfl (fun ls hl => ?_)
      refine lv_iload_n C.1 C.2.1 zd_W_skyOf_39 rfl (lv_at hl 4 rfl) ?_
      refine zr_iconst C zd_W_skyOf_40 ?_
      refine zr_idiv C nx2 (znb rfl) (by decide) zd_W_skyOf_41 ?_
      refine zr_iconst C zd_W_skyOf_42 ?_
      refine zr_imul C zd_W_skyOf_43 ?_
      obtain ⟨v6, ev6, hf⟩ := zlt_some hf
      have nv6 : zn v6 := by rw [← ev6]; exact (zn_w _)
      rw [ev6]
      refine lv_istore (lv' := [(6, .int (zI (v6))), (5, .int (zI (0))), (3, .long (zL (0))), (0, .ref (B.2.1 5 (r0) (0))), (1, .int (zI (x1))), (2, .int (zI (x2)))]) C.1 C.2.1 zd_W_skyOf_44 hl (by decide) rfl (fun ls hl => ?_)
      exact zw_W_skyOf_46 C hr hlk hK hSt hap r0 hr0 4096 (x1) (x2) (0) (0) (v6) S4 nx1 nx2 (zmb rfl) (znb rfl) nv6 hf _ _ _ hW hS (lv_sub hl [3, 4, 5, 2, 1, 0] rfl)
    · rw [if_pos c5] at hf
      refine zr_iconst C zd_W_skyOf_21 ?_
      refine lv_aload_n C.1 C.2.1 zd_W_skyOf_22 rfl (lv_at hl 0 rfl) ?_
      refine zg_W_sky (r := r0) C hK hW (zvd_5 hr0 (by decide)) zk_1363 zd_W_skyOf_23 ?_
      refine lv_iload_n C.1 C.2.1 zd_W_skyOf_26 rfl (lv_at hl 1 rfl) ?_
      refine zaald (t0 := 4) C hK hW (zvd_5 hr0 (by decide)) (fun f => ze_5_42 B f (r0)) rfl rfl (by decide) h1 zd_W_skyOf_27 (a := B.2.1 7 (r0) (x1)) (by rw [Int.toNat_of_nonneg h1.1]) ?_
      refine lv_iload_n C.1 C.2.1 zd_W_skyOf_28 rfl (lv_at hl 2 rfl) ?_
      obtain ⟨h7, hf⟩ := zck_some hf
      refine ziald C hK hW (zvd_7 hr0 h1) (fun f => ze_7 B f (r0) (x1)) (by decide) h7 zd_W_skyOf_29 ?_
      refine zr_max C hl.1 (znb rfl) (zWn hW _ _ _ _ rfl) zk_1898 zk_678 zk_16 zk_679 (by decide) (Nat.le_of_ble_eq_true rfl) ⟨by decide, by decide⟩ zd_W_skyOf_30 ?_
      cases hf
      exact zre_i C hr hlk hK hW hS (zn_max (znb rfl) (zWn hW _ _ _ _ rfl)) zd_W_skyOf_33
  · rw [if_neg c2] at hf
    refine zr_iconst C zd_W_skyOf_10 ?_
    cases hf
    exact zre_i C hr hlk hK hW hS (znb rfl) zd_W_skyOf_11

theorem zc_W_skyOf {l : Launch} {B : zB} (hap : zAp B) (r0 : Int) (hr0 : 0 ≤ r0 ∧ r0 < 3) (x1 : Int) (x2 : Int) (S : Sg) (nx1 : zn x1) (nx2 : zn x2) {res : Int} {S9 : Sg} (hf : zf_W_skyOf r0 x1 x2 S = some (res, S9)) : Met l zy_W_skyOf (Cond.code zy_W_skyOf zb_W_skyOf 7 (some .int) :: zT) zm_W_skyOf (zP B S [.ref (B.2.1 5 (r0) (0)), .int (zI (x1)), .int (zI (x2))]) (zQi B res S9) 0 0 B.2.2.2 :=
  zmet (by decide) (Nat.le_of_ble_eq_true rfl) (fun p e s m args below meth c C hr hlk hK hSt hW ls hl => zw_W_skyOf C hr hlk hK hSt hap r0 hr0 x1 x2 S nx1 nx2 hf _ _ _ hW va_S.rf hl)
/-! IslandOfficeModel.sky(IZ)I -/
abbrev zy_M_sky : MethodName := ⟨"IslandOfficeModel", "sky", "(IZ)I"⟩
abbrev zb_M_sky : ByteArray := prog_14_method_54_code
abbrev zm_M_sky : Room := { frames := 3, cells := 0, slots := 0, locals := 90 }
theorem zq_M_sky : zMy zy_M_sky zb_M_sky 3 (some .int) 2 := ⟨zk_1882, zk_1880, zk_1881, zk_14, by decide, by decide, by decide +kernel⟩
theorem zd_M_sky_0 : decode zb_M_sky 0 = .ok (.aload_n 0, 1) := by decide +kernel
theorem zd_M_sky_1 : decode zb_M_sky 1 = .ok (.iconst 0, 1) := by decide +kernel
theorem zd_M_sky_2 : decode zb_M_sky 2 = .ok (.putfield 46, 3) := by decide +kernel
theorem zd_M_sky_5 : decode zb_M_sky 5 = .ok (.iload_n 1, 1) := by decide +kernel
theorem zd_M_sky_6 : decode zb_M_sky 6 = .ok (.iconst 0, 1) := by decide +kernel
theorem zd_M_sky_7 : decode zb_M_sky 7 = .ok (.sipush 400, 3) := by decide +kernel
theorem zd_M_sky_10 : decode zb_M_sky 10 = .ok (.invokestatic 53, 3) := by decide +kernel
theorem zd_M_sky_13 : decode zb_M_sky 13 = .ok (.ifCond .eq 23, 3) := by decide +kernel
theorem zd_M_sky_16 : decode zb_M_sky 16 = .ok (.aload_n 0, 1) := by decide +kernel
theorem zd_M_sky_17 : decode zb_M_sky 17 = .ok (.getfield 10, 3) := by decide +kernel
theorem zd_M_sky_20 : decode zb_M_sky 20 = .ok (.iload_n 2, 1) := by decide +kernel
theorem zd_M_sky_21 : decode zb_M_sky 21 = .ok (.ifCond .eq 7, 3) := by decide +kernel
theorem zd_M_sky_24 : decode zb_M_sky 24 = .ok (.iconst 1, 1) := by decide +kernel
theorem zd_M_sky_25 : decode zb_M_sky 25 = .ok (.goto 4, 3) := by decide +kernel
theorem zd_M_sky_28 : decode zb_M_sky 28 = .ok (.iconst 0, 1) := by decide +kernel
theorem zd_M_sky_29 : decode zb_M_sky 29 = .ok (.iload_n 1, 1) := by decide +kernel
theorem zd_M_sky_30 : decode zb_M_sky 30 = .ok (.invokevirtual 297, 3) := by decide +kernel
theorem zd_M_sky_33 : decode zb_M_sky 33 = .ok (.goto 4, 3) := by decide +kernel
theorem zd_M_sky_36 : decode zb_M_sky 36 = .ok (.iconst (-1), 1) := by decide +kernel
theorem zd_M_sky_37 : decode zb_M_sky 37 = .ok (.ireturn, 1) := by decide +kernel

def zf_M_sky_29 (x1 : Int) (xt1 : Int) (S : Sg) : Option (Int × Sg) :=
    zbd (zf_W_skyOf (0) xt1 x1 S) fun a1 S2 => some (a1, S2)
set_option maxHeartbeats 4000000 in
set_option maxRecDepth 100000 in
theorem zw_M_sky_29 {p : Program} {l : Launch} {e : Env} {s : State} {m : MethodId} {args : Array Value} {below : List Frame} {meth : Method} {c : Code} {B : zB} (C : CallFix p m c zb_M_sky 3 s args zT "IslandOfficeModel") (hr : meth.sig.returnType = some .int) (hlk : meth.locks = false) (hK : zK B s) (hSt : zSt B s) (hap : zAp B) {res : Int} {S9 : Sg} : ∀ (x1 : Int) (xt1 : Int) (S : Sg) (nx1 : zn x1) (nxt1 : zn xt1), zf_M_sky_29 x1 xt1 S = some (res, S9) → ∀ (H : Heap) (locs : List Loc) (ls : Array Slot), zW B S H → va_S B.2.2.2 s.heap H locs → lv_has ls 3 [(1, .int (zI (x1)))] → W p l e zm_M_sky s m args below meth c H locs 0 0 (MQ below (zQi B res S9) args s 0 0 B.2.2.2) (F0 m 29 ls [.int (zI (xt1)), .ref (B.2.1 5 (0) (0))]) := by
  intro x1 xt1 S nx1 nxt1 hf H locs ls hW hS hl
  unfold zf_M_sky_29 at hf
  refine lv_iload_n C.1 C.2.1 zd_M_sky_29 rfl (lv_at hl 0 rfl) ?_
  obtain ⟨a1, S2, ea1, hf⟩ := zbd_some hf
  refine zcVi (As := [.int (zI (xt1)), .int (zI (x1))]) (rest := []) C hK hSt hW hS (zc_W_skyOf hap (0) (by decide) xt1 x1 S nxt1 nx1 ea1) zq_W_skyOf zk_1883 (zrecv hK hW (zvd_5 (by decide) (by decide)) (ze_5_0 B _ (0)) rfl) ⟨rfl, rfl, by decide, by decide⟩ ⟨by decide, by decide⟩ rfl hl.1 rfl (lv_room (Nat.le_of_ble_eq_true rfl)) zd_M_sky_30 (fun na1 H locs hW hS => ?_)
  refine lv_goto (tgt := 37) C.1 C.2.1 zd_M_sky_33 (by decide) ?_
  cases hf
  exact zre_i C hr hlk hK hW hS na1 zd_M_sky_37

def zf_M_sky (x1 : Int) (x2 : Int) (S : Sg) : Option (Int × Sg) :=
    zlt (zu S 9 0 0 4 0) fun S1 => zbd (zf_M_in x1 0 400 S1) fun a2 S3 => if a2 = 0 then (some (-1, S3)) else (if x2 = 0 then (zf_M_sky_29 (x1) (0) S3) else (zf_M_sky_29 (x1) (1) S3))
set_option maxHeartbeats 4000000 in
set_option maxRecDepth 100000 in
theorem zw_M_sky {p : Program} {l : Launch} {e : Env} {s : State} {m : MethodId} {args : Array Value} {below : List Frame} {meth : Method} {c : Code} {B : zB} (C : CallFix p m c zb_M_sky 3 s args zT "IslandOfficeModel") (hr : meth.sig.returnType = some .int) (hlk : meth.locks = false) (hK : zK B s) (hSt : zSt B s) (hap : zAp B) {res : Int} {S9 : Sg} : ∀ (x1 : Int) (x2 : Int) (S : Sg) (nx1 : zn x1) (nx2 : zn x2), zf_M_sky x1 x2 S = some (res, S9) → ∀ (H : Heap) (locs : List Loc) (ls : Array Slot), zW B S H → va_S B.2.2.2 s.heap H locs → lv_has ls 3 [(0, .ref (B.2.1 9 (0) (0))), (1, .int (zI (x1))), (2, .int (zI (x2)))] → W p l e zm_M_sky s m args below meth c H locs 0 0 (MQ below (zQi B res S9) args s 0 0 B.2.2.2) (F0 m 0 ls []) := by
  intro x1 x2 S nx1 nx2 hf H locs ls hW hS hl
  unfold zf_M_sky at hf
  refine lv_aload_n C.1 C.2.1 zd_M_sky_0 rfl (lv_at hl 0 rfl) ?_
  refine zr_iconst C zd_M_sky_1 ?_
  obtain ⟨S1, eS1, hf⟩ := zlt_some hf
  refine zp_M_thrown (r := 0) C hK hap hW hS (zvd_9 (by decide) (by decide)) zk_1504 (znb rfl) zd_M_sky_2 (fun H locs hW hS => ?_)
  rw [eS1] at hW
  refine lv_iload_n C.1 C.2.1 zd_M_sky_5 rfl (lv_at hl 1 rfl) ?_
  refine zr_iconst C zd_M_sky_6 ?_
  refine zr_sipush C zd_M_sky_7 (by decide) ?_
  obtain ⟨a2, S3, ea2, hf⟩ := zbd_some hf
  refine zcSi (As := [.int (zI (x1)), .int (zI (0)), .int (zI (400))]) (rest := []) C hK hSt hW hS (zc_M_in hap x1 0 400 S1 nx1 (znb rfl) (znb rfl) ea2) zq_M_in zk_1558 ⟨rfl, rfl, by decide, by decide⟩ ⟨by decide, by decide⟩ rfl hl.1 rfl (lv_room (Nat.le_of_ble_eq_true rfl)) zd_M_sky_10 (fun na2 H locs hW hS => ?_)
  refine zr_if_eq (tgt := 36) C na2 zd_M_sky_13 (by decide) (fun c4 => ?_) (fun c4 => ?_)
  · rw [if_pos c4] at hf
    refine zr_iconst C zd_M_sky_36 ?_
    cases hf
    exact zre_i C hr hlk hK hW hS (znb rfl) zd_M_sky_37
  · rw [if_neg c4] at hf
    refine lv_aload_n C.1 C.2.1 zd_M_sky_16 rfl (lv_at hl 0 rfl) ?_
    refine zg_M_world (r := 0) C hK hW (zvd_9 (by decide) (by decide)) zk_1500 zd_M_sky_17 ?_
    refine lv_iload_n C.1 C.2.1 zd_M_sky_20 rfl (lv_at hl 2 rfl) ?_
    refine zr_if_eq (tgt := 28) C nx2 zd_M_sky_21 (by decide) (fun c5 => ?_) (fun c5 => ?_)
    · rw [if_pos c5] at hf
      refine zr_iconst C zd_M_sky_28 ?_
      exact zw_M_sky_29 C hr hlk hK hSt hap   (x1) (0) S3 nx1 (znb rfl) hf _ _ _ hW hS (lv_sub hl [1] rfl)
    · rw [if_neg c5] at hf
      refine zr_iconst C zd_M_sky_24 ?_
      refine lv_goto (tgt := 29) C.1 C.2.1 zd_M_sky_25 (by decide) ?_
      exact zw_M_sky_29 C hr hlk hK hSt hap   (x1) (1) S3 nx1 (znb rfl) hf _ _ _ hW hS (lv_sub hl [1] rfl)

theorem zc_M_sky {l : Launch} {B : zB} (hap : zAp B) (x1 : Int) (x2 : Int) (S : Sg) (nx1 : zn x1) (nx2 : zn x2) {res : Int} {S9 : Sg} (hf : zf_M_sky x1 x2 S = some (res, S9)) : Met l zy_M_sky (Cond.code zy_M_sky zb_M_sky 3 (some .int) :: zT) zm_M_sky (zP B S [.ref (B.2.1 9 (0) (0)), .int (zI (x1)), .int (zI (x2))]) (zQi B res S9) 0 0 B.2.2.2 :=
  zmet (by decide) (Nat.le_of_ble_eq_true rfl) (fun p e s m args below meth c C hr hlk hK hSt hW ls hl => zw_M_sky C hr hlk hK hSt hap   x1 x2 S nx1 nx2 hf _ _ _ hW va_S.rf hl)
/-! IslandOfficeModel$World.inState(I)I -/
abbrev zy_W_inState : MethodName := ⟨"IslandOfficeModel$World", "inState", "(I)I"⟩
abbrev zb_W_inState : ByteArray := prog_15_method_12_code
abbrev zm_W_inState : Room := { frames := 0, cells := 0, slots := 0, locals := 0 }
theorem zq_W_inState : zMy zy_W_inState zb_W_inState 4 (some .int) 1 := ⟨zk_1966, zk_1964, zk_1965, zk_15, by decide, by decide, by decide +kernel⟩
theorem zd_W_inState_0 : decode zb_W_inState 0 = .ok (.iconst 0, 1) := by decide +kernel
theorem zd_W_inState_1 : decode zb_W_inState 1 = .ok (.istore_n 2, 1) := by decide +kernel
theorem zd_W_inState_2 : decode zb_W_inState 2 = .ok (.iconst 0, 1) := by decide +kernel
theorem zd_W_inState_3 : decode zb_W_inState 3 = .ok (.istore_n 3, 1) := by decide +kernel
theorem zd_W_inState_4 : decode zb_W_inState 4 = .ok (.iload_n 3, 1) := by decide +kernel
theorem zd_W_inState_5 : decode zb_W_inState 5 = .ok (.aload_n 0, 1) := by decide +kernel
theorem zd_W_inState_6 : decode zb_W_inState 6 = .ok (.getfield 158, 3) := by decide +kernel
theorem zd_W_inState_9 : decode zb_W_inState 9 = .ok (.if_icmp .ge 27, 3) := by decide +kernel
theorem zd_W_inState_12 : decode zb_W_inState 12 = .ok (.iload_n 2, 1) := by decide +kernel
theorem zd_W_inState_13 : decode zb_W_inState 13 = .ok (.aload_n 0, 1) := by decide +kernel
theorem zd_W_inState_14 : decode zb_W_inState 14 = .ok (.getfield 24, 3) := by decide +kernel
theorem zd_W_inState_17 : decode zb_W_inState 17 = .ok (.iload_n 3, 1) := by decide +kernel
theorem zd_W_inState_18 : decode zb_W_inState 18 = .ok (.iaload, 1) := by decide +kernel
theorem zd_W_inState_19 : decode zb_W_inState 19 = .ok (.iload_n 1, 1) := by decide +kernel
theorem zd_W_inState_20 : decode zb_W_inState 20 = .ok (.if_icmp .ne 7, 3) := by decide +kernel
theorem zd_W_inState_23 : decode zb_W_inState 23 = .ok (.iconst 1, 1) := by decide +kernel
theorem zd_W_inState_24 : decode zb_W_inState 24 = .ok (.goto 4, 3) := by decide +kernel
theorem zd_W_inState_27 : decode zb_W_inState 27 = .ok (.iconst 0, 1) := by decide +kernel
theorem zd_W_inState_28 : decode zb_W_inState 28 = .ok (.iadd, 1) := by decide +kernel
theorem zd_W_inState_29 : decode zb_W_inState 29 = .ok (.istore_n 2, 1) := by decide +kernel
theorem zd_W_inState_30 : decode zb_W_inState 30 = .ok (.iinc 3 1, 3) := by decide +kernel
theorem zd_W_inState_33 : decode zb_W_inState 33 = .ok (.goto (-29), 3) := by decide +kernel
theorem zd_W_inState_36 : decode zb_W_inState 36 = .ok (.iload_n 2, 1) := by decide +kernel
theorem zd_W_inState_37 : decode zb_W_inState 37 = .ok (.ireturn, 1) := by decide +kernel

def zf_W_inState_28 (r0 : Int) (q4 : Int → Int → Int → Sg → Option (Int × Sg)) (x1 : Int) (x3 : Int) (xt0 : Int) (xt1 : Int) (S : Sg) : Option (Int × Sg) :=
    zlt (zw (xt0 + xt1)) fun v1 => zlt (zw (x3 + 1)) fun v2 => q4 (x1) (v1) (v2) S
set_option maxHeartbeats 4000000 in
set_option maxRecDepth 100000 in
theorem zw_W_inState_28 {p : Program} {l : Launch} {e : Env} {s : State} {m : MethodId} {args : Array Value} {below : List Frame} {meth : Method} {c : Code} {B : zB} (C : CallFix p m c zb_W_inState 4 s args zT "IslandOfficeModel$World") (hr : meth.sig.returnType = some .int) (hlk : meth.locks = false) (hK : zK B s) (hSt : zSt B s) (hap : zAp B) (r0 : Int) (hr0 : 0 ≤ r0 ∧ r0 < 3) {res : Int} {S9 : Sg} (q4 : Int → Int → Int → Sg → Option (Int × Sg)) (hq4 : ∀ (x1 : Int) (x2 : Int) (x3 : Int) (S : Sg) (nx1 : zn x1) (nx2 : zn x2) (nx3 : zn x3), q4 x1 x2 x3 S = some (res, S9) → ∀ (H : Heap) (locs : List Loc) (ls : Array Slot), zW B S H → va_S B.2.2.2 s.heap H locs → lv_has ls 4 [(0, .ref (B.2.1 5 (r0) (0))), (1, .int (zI (x1))), (2, .int (zI (x2))), (3, .int (zI (x3)))] → W p l e zm_W_inState s m args below meth c H locs 0 0 (MQ below (zQi B res S9) args s 0 0 B.2.2.2) (F0 m 4 ls [])) : ∀ (x1 : Int) (x3 : Int) (xt0 : Int) (xt1 : Int) (S : Sg) (nx1 : zn x1) (nx3 : zn x3) (nxt0 : zn xt0) (nxt1 : zn xt1), zf_W_inState_28 r0 q4 x1 x3 xt0 xt1 S = some (res, S9) → ∀ (H : Heap) (locs : List Loc) (ls : Array Slot), zW B S H → va_S B.2.2.2 s.heap H locs → lv_has ls 4 [(0, .ref (B.2.1 5 (r0) (0))), (1, .int (zI (x1))), (3, .int (zI (x3)))] → W p l e zm_W_inState s m args below meth c H locs 0 0 (MQ below (zQi B res S9) args s 0 0 B.2.2.2) (F0 m 28 ls [.int (zI (xt1)), .int (zI (xt0))]) := by
  intro x1 x3 xt0 xt1 S nx1 nx3 nxt0 nxt1 hf H locs ls hW hS hl
  unfold zf_W_inState_28 at hf
  refine zr_iadd C zd_W_inState_28 ?_
  obtain ⟨v1, ev1, hf⟩ := zlt_some hf
  have nv1 : zn v1 := by rw [← ev1]; exact (zn_w _)
  rw [ev1]
  refine lv_istore_n (lv' := [(2, .int (zI (v1))), (0, .ref (B.2.1 5 (r0) (0))), (1, .int (zI (x1))), (3, .int (zI (x3)))]) C.1 C.2.1 zd_W_inState_29 rfl hl (by decide) rfl (fun ls hl => ?_)
  obtain ⟨v2, ev2, hf⟩ := zlt_some hf
  have nv2 : zn v2 := by rw [← ev2]; exact zn_w _
  refine lv_iinc (v := zI v2) (lv' := [(3, .int (zI (v2))), (2, .int (zI (v1))), (0, .ref (B.2.1 5 (r0) (0))), (1, .int (zI (x1)))]) C.1 C.2.1 zd_W_inState_30 hl (k := 3) rfl (by rw [← ev2, ← zI_add]; rfl) (by decide) rfl (fun ls hl => ?_)
  refine lv_goto (tgt := 4) C.1 C.2.1 zd_W_inState_33 (by decide) ?_
  exact hq4 (x1) (v1) (v2) S nx1 nv1 nv2 hf _ _ _ hW hS (lv_sub hl [2, 3, 1, 0] rfl)

def zf_W_inState_4 (r0 : Int) : Nat → Int → Int → Int → Sg → Option (Int × Sg)
  | 0, _, _, _, _ => none
  | n + 1, x1, x2, x3, S =>
    if (S 5 r0 0 1) ≤ x3 then (some (x2, S)) else (zck (0 ≤ x3 ∧ x3 < 40) <| if (S 5 r0 5 x3) = x1 then (zf_W_inState_28 r0 (zf_W_inState_4 r0 n) (x1) (x3) (x2) (1) S) else (zf_W_inState_28 r0 (zf_W_inState_4 r0 n) (x1) (x3) (x2) (0) S))
set_option maxHeartbeats 4000000 in
set_option maxRecDepth 100000 in
theorem zw_W_inState_4 {p : Program} {l : Launch} {e : Env} {s : State} {m : MethodId} {args : Array Value} {below : List Frame} {meth : Method} {c : Code} {B : zB} (C : CallFix p m c zb_W_inState 4 s args zT "IslandOfficeModel$World") (hr : meth.sig.returnType = some .int) (hlk : meth.locks = false) (hK : zK B s) (hSt : zSt B s) (hap : zAp B) (r0 : Int) (hr0 : 0 ≤ r0 ∧ r0 < 3) {res : Int} {S9 : Sg} : ∀ n : Nat, ∀ (x1 : Int) (x2 : Int) (x3 : Int) (S : Sg) (nx1 : zn x1) (nx2 : zn x2) (nx3 : zn x3), zf_W_inState_4 r0 n x1 x2 x3 S = some (res, S9) → ∀ (H : Heap) (locs : List Loc) (ls : Array Slot), zW B S H → va_S B.2.2.2 s.heap H locs → lv_has ls 4 [(0, .ref (B.2.1 5 (r0) (0))), (1, .int (zI (x1))), (2, .int (zI (x2))), (3, .int (zI (x3)))] → W p l e zm_W_inState s m args below meth c H locs 0 0 (MQ below (zQi B res S9) args s 0 0 B.2.2.2) (F0 m 4 ls []) := by
  intro n
  induction n with
  | zero =>
    intro x1 x2 x3 S nx1 nx2 nx3 hf H locs ls hW hS hl
    cases hf
  | succ n ih =>
    intro x1 x2 x3 S nx1 nx2 nx3 hf H locs ls hW hS hl
    rw [zf_W_inState_4] at hf
    refine lv_iload_n C.1 C.2.1 zd_W_inState_4 rfl (lv_at hl 3 rfl) ?_
    refine lv_aload_n C.1 C.2.1 zd_W_inState_5 rfl (lv_at hl 0 rfl) ?_
    refine zg_W_people (r := r0) C hK hW (zvd_5 hr0 (by decide)) zk_1277 zd_W_inState_6 ?_
    refine zr_icmp_ge (tgt := 36) C nx3 (zWn hW _ _ _ _ rfl) zd_W_inState_9 (by decide) (fun c1 => ?_) (fun c1 => ?_)
    · rw [if_pos c1] at hf
      refine lv_iload_n C.1 C.2.1 zd_W_inState_36 rfl (lv_at hl 2 rfl) ?_
      cases hf
      exact zre_i C hr hlk hK hW hS nx2 zd_W_inState_37
    · rw [if_neg c1] at hf
      refine lv_iload_n C.1 C.2.1 zd_W_inState_12 rfl (lv_at hl 2 rfl) ?_
      refine lv_aload_n C.1 C.2.1 zd_W_inState_13 rfl (lv_at hl 0 rfl) ?_
      refine zg_W_state (r := r0) C hK hW (zvd_5 hr0 (by decide)) zk_1287 zd_W_inState_14 ?_
      refine lv_iload_n C.1 C.2.1 zd_W_inState_17 rfl (lv_at hl 3 rfl) ?_
      obtain ⟨h2, hf⟩ := zck_some hf
      refine ziald C hK hW (zvd_5 hr0 (by decide)) (fun f => ze_5_5 B f (r0)) (by decide) h2 zd_W_inState_18 ?_
      refine lv_iload_n C.1 C.2.1 zd_W_inState_19 rfl (lv_at hl 1 rfl) ?_
      refine zr_icmp_ne (tgt := 27) C (zWn hW _ _ _ _ rfl) nx1 zd_W_inState_20 (by decide) (fun c3 => ?_) (fun c3 => ?_)
      · rw [if_neg c3] at hf
        refine zr_iconst C zd_W_inState_27 ?_
        exact zw_W_inState_28 C hr hlk hK hSt hap r0 hr0 (zf_W_inState_4 r0 n) (ih) (x1) (x3) (x2) (0) S nx1 nx3 nx2 (znb rfl) hf _ _ _ hW hS (lv_sub hl [0, 1, 3] rfl)
      · rw [if_pos c3] at hf
        refine zr_iconst C zd_W_inState_23 ?_
        refine lv_goto (tgt := 28) C.1 C.2.1 zd_W_inState_24 (by decide) ?_
        exact zw_W_inState_28 C hr hlk hK hSt hap r0 hr0 (zf_W_inState_4 r0 n) (ih) (x1) (x3) (x2) (1) S nx1 nx3 nx2 (znb rfl) hf _ _ _ hW hS (lv_sub hl [0, 1, 3] rfl)

def zf_W_inState (r0 : Int) (x1 : Int) (S : Sg) : Option (Int × Sg) :=
    zf_W_inState_4 r0 4096 (x1) (0) (0) S
set_option maxHeartbeats 4000000 in
set_option maxRecDepth 100000 in
theorem zw_W_inState {p : Program} {l : Launch} {e : Env} {s : State} {m : MethodId} {args : Array Value} {below : List Frame} {meth : Method} {c : Code} {B : zB} (C : CallFix p m c zb_W_inState 4 s args zT "IslandOfficeModel$World") (hr : meth.sig.returnType = some .int) (hlk : meth.locks = false) (hK : zK B s) (hSt : zSt B s) (hap : zAp B) (r0 : Int) (hr0 : 0 ≤ r0 ∧ r0 < 3) {res : Int} {S9 : Sg} : ∀ (x1 : Int) (S : Sg) (nx1 : zn x1), zf_W_inState r0 x1 S = some (res, S9) → ∀ (H : Heap) (locs : List Loc) (ls : Array Slot), zW B S H → va_S B.2.2.2 s.heap H locs → lv_has ls 4 [(0, .ref (B.2.1 5 (r0) (0))), (1, .int (zI (x1)))] → W p l e zm_W_inState s m args below meth c H locs 0 0 (MQ below (zQi B res S9) args s 0 0 B.2.2.2) (F0 m 0 ls []) := by
  intro x1 S nx1 hf H locs ls hW hS hl
  unfold zf_W_inState at hf
  refine zr_iconst C zd_W_inState_0 ?_
  refine lv_istore_n (lv' := [(2, .int (zI (0))), (0, .ref (B.2.1 5 (r0) (0))), (1, .int (zI (x1)))]) C.1 C.2.1 zd_W_inState_1 rfl hl (by decide) rfl (fun ls hl => ?_)
  refine zr_iconst C zd_W_inState_2 ?_
  refine lv_istore_n (lv' := [(3, .int (zI (0))), (2, .int (zI (0))), (0, .ref (B.2.1 5 (r0) (0))), (1, .int (zI (x1)))]) C.1 C.2.1 zd_W_inState_3 rfl hl (by decide) rfl (fun ls hl => ?_)
  exact zw_W_inState_4 C hr hlk hK hSt hap r0 hr0 4096 (x1) (0) (0) S nx1 (znb rfl) (znb rfl) hf _ _ _ hW hS (lv_sub hl [2, 3, 1, 0] rfl)

theorem zc_W_inState {l : Launch} {B : zB} (hap : zAp B) (r0 : Int) (hr0 : 0 ≤ r0 ∧ r0 < 3) (x1 : Int) (S : Sg) (nx1 : zn x1) {res : Int} {S9 : Sg} (hf : zf_W_inState r0 x1 S = some (res, S9)) : Met l zy_W_inState (Cond.code zy_W_inState zb_W_inState 4 (some .int) :: zT) zm_W_inState (zP B S [.ref (B.2.1 5 (r0) (0)), .int (zI (x1))]) (zQi B res S9) 0 0 B.2.2.2 :=
  zmet (by decide) (Nat.le_of_ble_eq_true rfl) (fun p e s m args below meth c C hr hlk hK hSt hW ls hl => zw_W_inState C hr hlk hK hSt hap r0 hr0 x1 S nx1 hf _ _ _ hW va_S.rf hl)
/-! IslandOfficeModel$World.water()V -/
abbrev zy_W_water : MethodName := ⟨"IslandOfficeModel$World", "water", "()V"⟩
abbrev zb_W_water : ByteArray := prog_15_method_40_code
abbrev zm_W_water : Room := { frames := 3, cells := 0, slots := 0, locals := 90 }
theorem zq_W_water : zMy zy_W_water zb_W_water 5 (none) 0 := ⟨zk_1910, zk_1909, zs_78, zk_15, by decide, by decide, by decide +kernel⟩
theorem zd_W_water_0 : decode zb_W_water 0 = .ok (.aload_n 0, 1) := by decide +kernel
theorem zd_W_water_1 : decode zb_W_water 1 = .ok (.iconst 1, 1) := by decide +kernel
theorem zd_W_water_2 : decode zb_W_water 2 = .ok (.aload_n 0, 1) := by decide +kernel
theorem zd_W_water_3 : decode zb_W_water 3 = .ok (.getfield 155, 3) := by decide +kernel
theorem zd_W_water_6 : decode zb_W_water 6 = .ok (.invokevirtual 317, 3) := by decide +kernel
theorem zd_W_water_9 : decode zb_W_water 9 = .ok (.i2l, 1) := by decide +kernel
theorem zd_W_water_10 : decode zb_W_water 10 = .ok (.lstore_n 1, 1) := by decide +kernel
theorem zd_W_water_11 : decode zb_W_water 11 = .ok (.iconst 0, 1) := by decide +kernel
theorem zd_W_water_12 : decode zb_W_water 12 = .ok (.istore_n 3, 1) := by decide +kernel
theorem zd_W_water_13 : decode zb_W_water 13 = .ok (.iload_n 3, 1) := by decide +kernel
theorem zd_W_water_14 : decode zb_W_water 14 = .ok (.bipush 12, 2) := by decide +kernel
theorem zd_W_water_16 : decode zb_W_water 16 = .ok (.if_icmp .ge 39, 3) := by decide +kernel
theorem zd_W_water_19 : decode zb_W_water 19 = .ok (.aload_n 0, 1) := by decide +kernel
theorem zd_W_water_20 : decode zb_W_water 20 = .ok (.getfield 42, 3) := by decide +kernel
theorem zd_W_water_23 : decode zb_W_water 23 = .ok (.iload_n 3, 1) := by decide +kernel
theorem zd_W_water_24 : decode zb_W_water 24 = .ok (.ldc2_w 320, 3) := by decide +kernel
theorem zd_W_water_27 : decode zb_W_water 27 = .ok (.aload_n 0, 1) := by decide +kernel
theorem zd_W_water_28 : decode zb_W_water 28 = .ok (.getfield 42, 3) := by decide +kernel
theorem zd_W_water_31 : decode zb_W_water 31 = .ok (.iload_n 3, 1) := by decide +kernel
theorem zd_W_water_32 : decode zb_W_water 32 = .ok (.iaload, 1) := by decide +kernel
theorem zd_W_water_33 : decode zb_W_water 33 = .ok (.i2l, 1) := by decide +kernel
theorem zd_W_water_34 : decode zb_W_water 34 = .ok (.lload_n 1, 1) := by decide +kernel
theorem zd_W_water_35 : decode zb_W_water 35 = .ok (.aload_n 0, 1) := by decide +kernel
theorem zd_W_water_36 : decode zb_W_water 36 = .ok (.getfield 45, 3) := by decide +kernel
theorem zd_W_water_39 : decode zb_W_water 39 = .ok (.iload_n 3, 1) := by decide +kernel
theorem zd_W_water_40 : decode zb_W_water 40 = .ok (.iaload, 1) := by decide +kernel
theorem zd_W_water_41 : decode zb_W_water 41 = .ok (.i2l, 1) := by decide +kernel
theorem zd_W_water_42 : decode zb_W_water 42 = .ok (.lmul, 1) := by decide +kernel
theorem zd_W_water_43 : decode zb_W_water 43 = .ok (.ladd, 1) := by decide +kernel
theorem zd_W_water_44 : decode zb_W_water 44 = .ok (.invokestatic 322, 3) := by decide +kernel
theorem zd_W_water_47 : decode zb_W_water 47 = .ok (.l2i, 1) := by decide +kernel
theorem zd_W_water_48 : decode zb_W_water 48 = .ok (.iastore, 1) := by decide +kernel
theorem zd_W_water_49 : decode zb_W_water 49 = .ok (.iinc 3 1, 3) := by decide +kernel
theorem zd_W_water_52 : decode zb_W_water 52 = .ok (.goto (-39), 3) := by decide +kernel
theorem zd_W_water_55 : decode zb_W_water 55 = .ok (.aload_n 0, 1) := by decide +kernel
theorem zd_W_water_56 : decode zb_W_water 56 = .ok (.ldc2_w 325, 3) := by decide +kernel
theorem zd_W_water_59 : decode zb_W_water 59 = .ok (.aload_n 0, 1) := by decide +kernel
theorem zd_W_water_60 : decode zb_W_water 60 = .ok (.getfield 51, 3) := by decide +kernel
theorem zd_W_water_63 : decode zb_W_water 63 = .ok (.i2l, 1) := by decide +kernel
theorem zd_W_water_64 : decode zb_W_water 64 = .ok (.lload_n 1, 1) := by decide +kernel
theorem zd_W_water_65 : decode zb_W_water 65 = .ok (.ladd, 1) := by decide +kernel
theorem zd_W_water_66 : decode zb_W_water 66 = .ok (.invokestatic 322, 3) := by decide +kernel
theorem zd_W_water_69 : decode zb_W_water 69 = .ok (.l2i, 1) := by decide +kernel
theorem zd_W_water_70 : decode zb_W_water 70 = .ok (.putfield 51, 3) := by decide +kernel
theorem zd_W_water_73 : decode zb_W_water 73 = .ok (.iconst 0, 1) := by decide +kernel
theorem zd_W_water_74 : decode zb_W_water 74 = .ok (.istore_n 3, 1) := by decide +kernel
theorem zd_W_water_75 : decode zb_W_water 75 = .ok (.iload_n 3, 1) := by decide +kernel
theorem zd_W_water_76 : decode zb_W_water 76 = .ok (.bipush 12, 2) := by decide +kernel
theorem zd_W_water_78 : decode zb_W_water 78 = .ok (.if_icmp .ge 64, 3) := by decide +kernel
theorem zd_W_water_81 : decode zb_W_water 81 = .ok (.aload_n 0, 1) := by decide +kernel
theorem zd_W_water_82 : decode zb_W_water 82 = .ok (.iload_n 3, 1) := by decide +kernel
theorem zd_W_water_83 : decode zb_W_water 83 = .ok (.invokevirtual 210, 3) := by decide +kernel
theorem zd_W_water_86 : decode zb_W_water 86 = .ok (.aload_n 0, 1) := by decide +kernel
theorem zd_W_water_87 : decode zb_W_water 87 = .ok (.getfield 39, 3) := by decide +kernel
theorem zd_W_water_90 : decode zb_W_water 90 = .ok (.iload_n 3, 1) := by decide +kernel
theorem zd_W_water_91 : decode zb_W_water 91 = .ok (.iaload, 1) := by decide +kernel
theorem zd_W_water_92 : decode zb_W_water 92 = .ok (.iadd, 1) := by decide +kernel
theorem zd_W_water_93 : decode zb_W_water 93 = .ok (.istore 4, 2) := by decide +kernel
theorem zd_W_water_95 : decode zb_W_water 95 = .ok (.aload_n 0, 1) := by decide +kernel
theorem zd_W_water_96 : decode zb_W_water 96 = .ok (.getfield 48, 3) := by decide +kernel
theorem zd_W_water_99 : decode zb_W_water 99 = .ok (.iload_n 3, 1) := by decide +kernel
theorem zd_W_water_100 : decode zb_W_water 100 = .ok (.aload_n 0, 1) := by decide +kernel
theorem zd_W_water_101 : decode zb_W_water 101 = .ok (.getfield 42, 3) := by decide +kernel
theorem zd_W_water_104 : decode zb_W_water 104 = .ok (.iload_n 3, 1) := by decide +kernel
theorem zd_W_water_105 : decode zb_W_water 105 = .ok (.iaload, 1) := by decide +kernel
theorem zd_W_water_106 : decode zb_W_water 106 = .ok (.iload 4, 2) := by decide +kernel
theorem zd_W_water_108 : decode zb_W_water 108 = .ok (.if_icmp .ge 7, 3) := by decide +kernel
theorem zd_W_water_111 : decode zb_W_water 111 = .ok (.iconst 1, 1) := by decide +kernel
theorem zd_W_water_112 : decode zb_W_water 112 = .ok (.goto 4, 3) := by decide +kernel
theorem zd_W_water_115 : decode zb_W_water 115 = .ok (.iconst 0, 1) := by decide +kernel
theorem zd_W_water_116 : decode zb_W_water 116 = .ok (.iastore, 1) := by decide +kernel
theorem zd_W_water_117 : decode zb_W_water 117 = .ok (.aload_n 0, 1) := by decide +kernel
theorem zd_W_water_118 : decode zb_W_water 118 = .ok (.getfield 42, 3) := by decide +kernel
theorem zd_W_water_121 : decode zb_W_water 121 = .ok (.iload_n 3, 1) := by decide +kernel
theorem zd_W_water_122 : decode zb_W_water 122 = .ok (.iconst 0, 1) := by decide +kernel
theorem zd_W_water_123 : decode zb_W_water 123 = .ok (.aload_n 0, 1) := by decide +kernel
theorem zd_W_water_124 : decode zb_W_water 124 = .ok (.getfield 42, 3) := by decide +kernel
theorem zd_W_water_127 : decode zb_W_water 127 = .ok (.iload_n 3, 1) := by decide +kernel
theorem zd_W_water_128 : decode zb_W_water 128 = .ok (.iaload, 1) := by decide +kernel
theorem zd_W_water_129 : decode zb_W_water 129 = .ok (.iload 4, 2) := by decide +kernel
theorem zd_W_water_131 : decode zb_W_water 131 = .ok (.isub, 1) := by decide +kernel
theorem zd_W_water_132 : decode zb_W_water 132 = .ok (.invokestatic 309, 3) := by decide +kernel
theorem zd_W_water_135 : decode zb_W_water 135 = .ok (.iastore, 1) := by decide +kernel
theorem zd_W_water_136 : decode zb_W_water 136 = .ok (.iinc 3 1, 3) := by decide +kernel
theorem zd_W_water_139 : decode zb_W_water 139 = .ok (.goto (-64), 3) := by decide +kernel
theorem zd_W_water_142 : decode zb_W_water 142 = .ok (.return_, 1) := by decide +kernel

def zf_W_water_116 (r0 : Int) (q75 : Int → Sg → Option (Int × Sg)) (x3 : Int) (x4 : Int) (xt1 : Int) (xt2 : Int) (S : Sg) : Option (Int × Sg) :=
    zck (0 ≤ xt1 ∧ xt1 < 12) <| zlt (zu S 5 r0 13 xt1 xt2) fun S2 => zck (0 ≤ x3 ∧ x3 < 12) <| zlt (zu S2 5 r0 11 x3 (max 0 (zw ((S2 5 r0 11 x3) - x4)))) fun S4 => zlt (zw (x3 + 1)) fun v5 => q75 (v5) S4
set_option maxHeartbeats 4000000 in
set_option maxRecDepth 100000 in
theorem zw_W_water_116 {p : Program} {l : Launch} {e : Env} {s : State} {m : MethodId} {args : Array Value} {below : List Frame} {meth : Method} {c : Code} {B : zB} (C : CallFix p m c zb_W_water 5 s args zT "IslandOfficeModel$World") (hr : meth.sig.returnType = none) (hlk : meth.locks = false) (hK : zK B s) (hSt : zSt B s) (hap : zAp B) (r0 : Int) (hr0 : 0 ≤ r0 ∧ r0 < 3) {res : Int} {S9 : Sg} (q75 : Int → Sg → Option (Int × Sg)) (hq75 : ∀ (x3 : Int) (S : Sg) (nx3 : zn x3), q75 x3 S = some (res, S9) → ∀ (H : Heap) (locs : List Loc) (ls : Array Slot), zW B S H → va_S B.2.2.2 s.heap H locs → lv_has ls 5 [(0, .ref (B.2.1 5 (r0) (0))), (3, .int (zI (x3)))] → W p l e zm_W_water s m args below meth c H locs 0 0 (MQ below (zQv B S9) args s 0 0 B.2.2.2) (F0 m 75 ls [])) : ∀ (x3 : Int) (x4 : Int) (xt1 : Int) (xt2 : Int) (S : Sg) (nx3 : zn x3) (nx4 : zn x4) (nxt1 : zn xt1) (nxt2 : zn xt2), zf_W_water_116 r0 q75 x3 x4 xt1 xt2 S = some (res, S9) → ∀ (H : Heap) (locs : List Loc) (ls : Array Slot), zW B S H → va_S B.2.2.2 s.heap H locs → lv_has ls 5 [(0, .ref (B.2.1 5 (r0) (0))), (3, .int (zI (x3))), (4, .int (zI (x4)))] → W p l e zm_W_water s m args below meth c H locs 0 0 (MQ below (zQv B S9) args s 0 0 B.2.2.2) (F0 m 116 ls [.int (zI (xt2)), .int (zI (xt1)), .ref (B.2.1 5 (r0) (13))]) := by
  intro x3 x4 xt1 xt2 S nx3 nx4 nxt1 nxt2 hf H locs ls hW hS hl
  unfold zf_W_water_116 at hf
  obtain ⟨h1, hf⟩ := zck_some hf
  obtain ⟨S2, eS2, hf⟩ := zlt_some hf
  refine ziast C hK hap hW hS (zvd_5 hr0 (by decide)) (fun f => ze_5_13 B f (r0)) (by decide) rfl nxt2 h1 zd_W_water_116 (fun H locs hW hS => ?_)
  rw [eS2] at hW
  refine lv_aload_n C.1 C.2.1 zd_W_water_117 rfl (lv_at hl 0 rfl) ?_
  refine zg_W_tank (r := r0) C hK hW (zvd_5 hr0 (by decide)) zk_1299 zd_W_water_118 ?_
  refine lv_iload_n C.1 C.2.1 zd_W_water_121 rfl (lv_at hl 1 rfl) ?_
  refine zr_iconst C zd_W_water_122 ?_
  refine lv_aload_n C.1 C.2.1 zd_W_water_123 rfl (lv_at hl 0 rfl) ?_
  refine zg_W_tank (r := r0) C hK hW (zvd_5 hr0 (by decide)) zk_1299 zd_W_water_124 ?_
  refine lv_iload_n C.1 C.2.1 zd_W_water_127 rfl (lv_at hl 1 rfl) ?_
  obtain ⟨h3, hf⟩ := zck_some hf
  refine ziald C hK hW (zvd_5 hr0 (by decide)) (fun f => ze_5_11 B f (r0)) (by decide) h3 zd_W_water_128 ?_
  refine lv_iload C.1 C.2.1 zd_W_water_129 (lv_at hl 2 rfl) ?_
  refine zr_isub C zd_W_water_131 ?_
  refine zr_max C hl.1 (znb rfl) (zn_w _) zk_1898 zk_678 zk_16 zk_679 (by decide) (Nat.le_of_ble_eq_true rfl) ⟨by decide, by decide⟩ zd_W_water_132 ?_
  obtain ⟨S4, eS4, hf⟩ := zlt_some hf
  refine ziast C hK hap hW hS (zvd_5 hr0 (by decide)) (fun f => ze_5_11 B f (r0)) (by decide) rfl (zn_max (znb rfl) (zn_w _)) h3 zd_W_water_135 (fun H locs hW hS => ?_)
  rw [eS4] at hW
  obtain ⟨v5, ev5, hf⟩ := zlt_some hf
  have nv5 : zn v5 := by rw [← ev5]; exact zn_w _
  refine lv_iinc (v := zI v5) (lv' := [(3, .int (zI (v5))), (0, .ref (B.2.1 5 (r0) (0))), (4, .int (zI (x4)))]) C.1 C.2.1 zd_W_water_136 hl (k := 1) rfl (by rw [← ev5, ← zI_add]; rfl) (by decide) rfl (fun ls hl => ?_)
  refine lv_goto (tgt := 75) C.1 C.2.1 zd_W_water_139 (by decide) ?_
  exact hq75 (v5) S4 nv5 hf _ _ _ hW hS (lv_sub hl [1, 0] rfl)

def zf_W_water_75 (r0 : Int) : Nat → Int → Sg → Option (Int × Sg)
  | 0, _, _ => none
  | n + 1, x3, S =>
    if 12 ≤ x3 then (some (0, S)) else (zbd (zf_W_heads (r0) x3 S) fun a2 S3 => zck (0 ≤ x3 ∧ x3 < 12) <| zlt (zw (a2 + (S3 5 r0 10 x3))) fun v5 => if v5 ≤ (S3 5 r0 11 x3) then (zf_W_water_116 r0 (zf_W_water_75 r0 n) (x3) (v5) (x3) (0) S3) else (zf_W_water_116 r0 (zf_W_water_75 r0 n) (x3) (v5) (x3) (1) S3))
set_option maxHeartbeats 4000000 in
set_option maxRecDepth 100000 in
theorem zw_W_water_75 {p : Program} {l : Launch} {e : Env} {s : State} {m : MethodId} {args : Array Value} {below : List Frame} {meth : Method} {c : Code} {B : zB} (C : CallFix p m c zb_W_water 5 s args zT "IslandOfficeModel$World") (hr : meth.sig.returnType = none) (hlk : meth.locks = false) (hK : zK B s) (hSt : zSt B s) (hap : zAp B) (r0 : Int) (hr0 : 0 ≤ r0 ∧ r0 < 3) {res : Int} {S9 : Sg} : ∀ n : Nat, ∀ (x3 : Int) (S : Sg) (nx3 : zn x3), zf_W_water_75 r0 n x3 S = some (res, S9) → ∀ (H : Heap) (locs : List Loc) (ls : Array Slot), zW B S H → va_S B.2.2.2 s.heap H locs → lv_has ls 5 [(0, .ref (B.2.1 5 (r0) (0))), (3, .int (zI (x3)))] → W p l e zm_W_water s m args below meth c H locs 0 0 (MQ below (zQv B S9) args s 0 0 B.2.2.2) (F0 m 75 ls []) := by
  intro n
  induction n with
  | zero =>
    intro x3 S nx3 hf H locs ls hW hS hl
    cases hf
  | succ n ih =>
    intro x3 S nx3 hf H locs ls hW hS hl
    rw [zf_W_water_75] at hf
    refine lv_iload_n C.1 C.2.1 zd_W_water_75 rfl (lv_at hl 1 rfl) ?_
    refine zr_bipush C zd_W_water_76 (by decide) ?_
    refine zr_icmp_ge (tgt := 142) C nx3 (znb rfl) zd_W_water_78 (by decide) (fun c1 => ?_) (fun c1 => ?_)
    · rw [if_pos c1] at hf
      cases hf
      exact zre_v C hr hlk hK hW hS zd_W_water_142
    · rw [if_neg c1] at hf
      refine lv_aload_n C.1 C.2.1 zd_W_water_81 rfl (lv_at hl 0 rfl) ?_
      refine lv_iload_n C.1 C.2.1 zd_W_water_82 rfl (lv_at hl 1 rfl) ?_
      obtain ⟨a2, S3, ea2, hf⟩ := zbd_some hf
      refine zcVi (As := [.int (zI (x3))]) (rest := []) C hK hSt hW hS (zc_W_heads hap (r0) hr0 x3 S nx3 ea2) zq_W_heads zk_1741 (zrecv hK hW (zvd_5 hr0 (by decide)) (ze_5_0 B _ (r0)) rfl) ⟨rfl, rfl, by decide, by decide⟩ ⟨by decide, by decide⟩ rfl hl.1 rfl (lv_room (Nat.le_of_ble_eq_true rfl)) zd_W_water_83 (fun na2 H locs hW hS => ?_)
      refine lv_aload_n C.1 C.2.1 zd_W_water_86 rfl (lv_at hl 0 rfl) ?_
      refine zg_W_cattle (r := r0) C hK hW (zvd_5 hr0 (by decide)) zk_1297 zd_W_water_87 ?_
      refine lv_iload_n C.1 C.2.1 zd_W_water_90 rfl (lv_at hl 1 rfl) ?_
      obtain ⟨h4, hf⟩ := zck_some hf
      refine ziald C hK hW (zvd_5 hr0 (by decide)) (fun f => ze_5_10 B f (r0)) (by decide) h4 zd_W_water_91 ?_
      refine zr_iadd C zd_W_water_92 ?_
      obtain ⟨v5, ev5, hf⟩ := zlt_some hf
      have nv5 : zn v5 := by rw [← ev5]; exact (zn_w _)
      rw [ev5]
      refine lv_istore (lv' := [(4, .int (zI (v5))), (0, .ref (B.2.1 5 (r0) (0))), (3, .int (zI (x3)))]) C.1 C.2.1 zd_W_water_93 hl (by decide) rfl (fun ls hl => ?_)
      refine lv_aload_n C.1 C.2.1 zd_W_water_95 rfl (lv_at hl 1 rfl) ?_
      refine zg_W_dry (r := r0) C hK hW (zvd_5 hr0 (by decide)) zk_1303 zd_W_water_96 ?_
      refine lv_iload_n C.1 C.2.1 zd_W_water_99 rfl (lv_at hl 2 rfl) ?_
      refine lv_aload_n C.1 C.2.1 zd_W_water_100 rfl (lv_at hl 1 rfl) ?_
      refine zg_W_tank (r := r0) C hK hW (zvd_5 hr0 (by decide)) zk_1299 zd_W_water_101 ?_
      refine lv_iload_n C.1 C.2.1 zd_W_water_104 rfl (lv_at hl 2 rfl) ?_
      refine ziald C hK hW (zvd_5 hr0 (by decide)) (fun f => ze_5_11 B f (r0)) (by decide) h4 zd_W_water_105 ?_
      refine lv_iload C.1 C.2.1 zd_W_water_106 (lv_at hl 0 rfl) ?_
      refine zr_icmp_ge (tgt := 115) C (zWn hW _ _ _ _ rfl) nv5 zd_W_water_108 (by decide) (fun c6 => ?_) (fun c6 => ?_)
      · rw [if_pos c6] at hf
        refine zr_iconst C zd_W_water_115 ?_
        exact zw_W_water_116 C hr hlk hK hSt hap r0 hr0 (zf_W_water_75 r0 n) (ih) (x3) (v5) (x3) (0) S3 nx3 nv5 nx3 (znb rfl) hf _ _ _ hW hS (lv_sub hl [1, 2, 0] rfl)
      · rw [if_neg c6] at hf
        refine zr_iconst C zd_W_water_111 ?_
        refine lv_goto (tgt := 116) C.1 C.2.1 zd_W_water_112 (by decide) ?_
        exact zw_W_water_116 C hr hlk hK hSt hap r0 hr0 (zf_W_water_75 r0 n) (ih) (x3) (v5) (x3) (1) S3 nx3 nv5 nx3 (znb rfl) hf _ _ _ hW hS (lv_sub hl [1, 2, 0] rfl)

def zf_W_water_13 (r0 : Int) : Nat → Int → Int → Sg → Option (Int × Sg)
  | 0, _, _, _ => none
  | n + 1, x1, x3, S =>
    if 12 ≤ x3 then (zlt (zu S 5 r0 0 15 (zw (min 500 (zv ((S 5 r0 0 15) + x1))))) fun S2 => zf_W_water_75 r0 4096 (0) S2) else (zck (0 ≤ x3 ∧ x3 < 12) <| zlt (zu S 5 r0 11 x3 (zw (min 200 (zv ((S 5 r0 11 x3) + (zv (x1 * (S 5 r0 12 x3)))))))) fun S4 => zlt (zw (x3 + 1)) fun v5 => (zf_W_water_13 r0 n) (x1) (v5) S4)
set_option maxHeartbeats 4000000 in
set_option maxRecDepth 100000 in
theorem zw_W_water_13 {p : Program} {l : Launch} {e : Env} {s : State} {m : MethodId} {args : Array Value} {below : List Frame} {meth : Method} {c : Code} {B : zB} (C : CallFix p m c zb_W_water 5 s args zT "IslandOfficeModel$World") (hr : meth.sig.returnType = none) (hlk : meth.locks = false) (hK : zK B s) (hSt : zSt B s) (hap : zAp B) (r0 : Int) (hr0 : 0 ≤ r0 ∧ r0 < 3) {res : Int} {S9 : Sg} : ∀ n : Nat, ∀ (x1 : Int) (x3 : Int) (S : Sg) (nx1 : zm x1) (nx3 : zn x3), zf_W_water_13 r0 n x1 x3 S = some (res, S9) → ∀ (H : Heap) (locs : List Loc) (ls : Array Slot), zW B S H → va_S B.2.2.2 s.heap H locs → lv_has ls 5 [(0, .ref (B.2.1 5 (r0) (0))), (1, .long (zL (x1))), (3, .int (zI (x3)))] → W p l e zm_W_water s m args below meth c H locs 0 0 (MQ below (zQv B S9) args s 0 0 B.2.2.2) (F0 m 13 ls []) := by
  intro n
  induction n with
  | zero =>
    intro x1 x3 S nx1 nx3 hf H locs ls hW hS hl
    cases hf
  | succ n ih =>
    intro x1 x3 S nx1 nx3 hf H locs ls hW hS hl
    rw [zf_W_water_13] at hf
    refine lv_iload_n C.1 C.2.1 zd_W_water_13 rfl (lv_at hl 2 rfl) ?_
    refine zr_bipush C zd_W_water_14 (by decide) ?_
    refine zr_icmp_ge (tgt := 55) C nx3 (znb rfl) zd_W_water_16 (by decide) (fun c1 => ?_) (fun c1 => ?_)
    · rw [if_pos c1] at hf
      refine lv_aload_n C.1 C.2.1 zd_W_water_55 rfl (lv_at hl 0 rfl) ?_
      refine zr_ldc2 (n := 500) C zk_1914 (by decide) zd_W_water_56 ?_
      refine lv_aload_n C.1 C.2.1 zd_W_water_59 rfl (lv_at hl 0 rfl) ?_
      refine zg_W_grass (r := r0) C hK hW (zvd_5 hr0 (by decide)) zk_1305 zd_W_water_60 ?_
      refine zr_i2l C (zWn hW _ _ _ _ rfl) zd_W_water_63 ?_
      refine lv_lload_n C.1 C.2.1 zd_W_water_64 rfl (lv_at hl 1 rfl) ?_
      refine zr_ladd C zd_W_water_65 ?_
      refine zr_minl C hl.1 (zmb rfl) (zm_v _) zk_1913 zk_947 zk_16 zk_948 (by decide) (Nat.le_of_ble_eq_true rfl) ⟨by decide, by decide⟩ zd_W_water_66 ?_
      refine zr_l2i C (zm_min (zmb rfl) (zm_v _)) zd_W_water_69 ?_
      obtain ⟨S2, eS2, hf⟩ := zlt_some hf
      refine zp_W_grass (r := r0) C hK hap hW hS (zvd_5 hr0 (by decide)) zk_1305 (zn_w _) zd_W_water_70 (fun H locs hW hS => ?_)
      rw [eS2] at hW
      refine zr_iconst C zd_W_water_73 ?_
      refine lv_istore_n (lv' := [(3, .int (zI (0))), (0, .ref (B.2.1 5 (r0) (0))), (1, .long (zL (x1)))]) C.1 C.2.1 zd_W_water_74 rfl hl (by decide) rfl (fun ls hl => ?_)
      exact zw_W_water_75 C hr hlk hK hSt hap r0 hr0 4096 (0) S2 (znb rfl) hf _ _ _ hW hS (lv_sub hl [1, 0] rfl)
    · rw [if_neg c1] at hf
      refine lv_aload_n C.1 C.2.1 zd_W_water_19 rfl (lv_at hl 0 rfl) ?_
      refine zg_W_tank (r := r0) C hK hW (zvd_5 hr0 (by decide)) zk_1299 zd_W_water_20 ?_
      refine lv_iload_n C.1 C.2.1 zd_W_water_23 rfl (lv_at hl 2 rfl) ?_
      refine zr_ldc2 (n := 200) C zk_1912 (by decide) zd_W_water_24 ?_
      refine lv_aload_n C.1 C.2.1 zd_W_water_27 rfl (lv_at hl 0 rfl) ?_
      refine zg_W_tank (r := r0) C hK hW (zvd_5 hr0 (by decide)) zk_1299 zd_W_water_28 ?_
      refine lv_iload_n C.1 C.2.1 zd_W_water_31 rfl (lv_at hl 2 rfl) ?_
      obtain ⟨h3, hf⟩ := zck_some hf
      refine ziald C hK hW (zvd_5 hr0 (by decide)) (fun f => ze_5_11 B f (r0)) (by decide) h3 zd_W_water_32 ?_
      refine zr_i2l C (zWn hW _ _ _ _ rfl) zd_W_water_33 ?_
      refine lv_lload_n C.1 C.2.1 zd_W_water_34 rfl (lv_at hl 1 rfl) ?_
      refine lv_aload_n C.1 C.2.1 zd_W_water_35 rfl (lv_at hl 0 rfl) ?_
      refine zg_W_roof (r := r0) C hK hW (zvd_5 hr0 (by decide)) zk_1301 zd_W_water_36 ?_
      refine lv_iload_n C.1 C.2.1 zd_W_water_39 rfl (lv_at hl 2 rfl) ?_
      refine ziald C hK hW (zvd_5 hr0 (by decide)) (fun f => ze_5_12 B f (r0)) (by decide) h3 zd_W_water_40 ?_
      refine zr_i2l C (zWn hW _ _ _ _ rfl) zd_W_water_41 ?_
      refine zr_lmul C zd_W_water_42 ?_
      refine zr_ladd C zd_W_water_43 ?_
      refine zr_minl C hl.1 (zmb rfl) (zm_v _) zk_1913 zk_947 zk_16 zk_948 (by decide) (Nat.le_of_ble_eq_true rfl) ⟨by decide, by decide⟩ zd_W_water_44 ?_
      refine zr_l2i C (zm_min (zmb rfl) (zm_v _)) zd_W_water_47 ?_
      obtain ⟨S4, eS4, hf⟩ := zlt_some hf
      refine ziast C hK hap hW hS (zvd_5 hr0 (by decide)) (fun f => ze_5_11 B f (r0)) (by decide) rfl (zn_w _) h3 zd_W_water_48 (fun H locs hW hS => ?_)
      rw [eS4] at hW
      obtain ⟨v5, ev5, hf⟩ := zlt_some hf
      have nv5 : zn v5 := by rw [← ev5]; exact zn_w _
      refine lv_iinc (v := zI v5) (lv' := [(3, .int (zI (v5))), (0, .ref (B.2.1 5 (r0) (0))), (1, .long (zL (x1)))]) C.1 C.2.1 zd_W_water_49 hl (k := 2) rfl (by rw [← ev5, ← zI_add]; rfl) (by decide) rfl (fun ls hl => ?_)
      refine lv_goto (tgt := 13) C.1 C.2.1 zd_W_water_52 (by decide) ?_
      exact ih (x1) (v5) S4 nx1 nv5 hf _ _ _ hW hS (lv_sub hl [1, 2, 0] rfl)

def zf_W_water (r0 : Int) (S : Sg) : Option (Int × Sg) :=
    zbd (zf_W_skyOf (r0) 1 (S 5 r0 0 0) S) fun a1 S2 => zf_W_water_13 r0 4096 (a1) (0) S2
set_option maxHeartbeats 4000000 in
set_option maxRecDepth 100000 in
theorem zw_W_water {p : Program} {l : Launch} {e : Env} {s : State} {m : MethodId} {args : Array Value} {below : List Frame} {meth : Method} {c : Code} {B : zB} (C : CallFix p m c zb_W_water 5 s args zT "IslandOfficeModel$World") (hr : meth.sig.returnType = none) (hlk : meth.locks = false) (hK : zK B s) (hSt : zSt B s) (hap : zAp B) (r0 : Int) (hr0 : 0 ≤ r0 ∧ r0 < 3) {res : Int} {S9 : Sg} : ∀  (S : Sg) , zf_W_water r0  S = some (res, S9) → ∀ (H : Heap) (locs : List Loc) (ls : Array Slot), zW B S H → va_S B.2.2.2 s.heap H locs → lv_has ls 5 [(0, .ref (B.2.1 5 (r0) (0)))] → W p l e zm_W_water s m args below meth c H locs 0 0 (MQ below (zQv B S9) args s 0 0 B.2.2.2) (F0 m 0 ls []) := by
  intro S hf H locs ls hW hS hl
  unfold zf_W_water at hf
  refine lv_aload_n C.1 C.2.1 zd_W_water_0 rfl (lv_at hl 0 rfl) ?_
  refine zr_iconst C zd_W_water_1 ?_
  refine lv_aload_n C.1 C.2.1 zd_W_water_2 rfl (lv_at hl 0 rfl) ?_
  refine zg_W_week (r := r0) C hK hW (zvd_5 hr0 (by decide)) zk_1275 zd_W_water_3 ?_
  obtain ⟨a1, S2, ea1, hf⟩ := zbd_some hf
  refine zcVi (As := [.int (zI (1)), .int (zI (S 5 r0 0 0))]) (rest := []) C hK hSt hW hS (zc_W_skyOf hap (r0) hr0 1 (S 5 r0 0 0) S (znb rfl) (zWn hW _ _ _ _ rfl) ea1) zq_W_skyOf zk_1911 (zrecv hK hW (zvd_5 hr0 (by decide)) (ze_5_0 B _ (r0)) rfl) ⟨rfl, rfl, by decide, by decide⟩ ⟨by decide, by decide⟩ rfl hl.1 rfl (lv_room (Nat.le_of_ble_eq_true rfl)) zd_W_water_6 (fun na1 H locs hW hS => ?_)
  refine zr_i2l C na1 zd_W_water_9 ?_
  refine lv_lstore_n (lv' := [(1, .long (zL (a1))), (0, .ref (B.2.1 5 (r0) (0)))]) C.1 C.2.1 zd_W_water_10 rfl hl (by decide) rfl (fun ls hl => ?_)
  refine zr_iconst C zd_W_water_11 ?_
  refine lv_istore_n (lv' := [(3, .int (zI (0))), (1, .long (zL (a1))), (0, .ref (B.2.1 5 (r0) (0)))]) C.1 C.2.1 zd_W_water_12 rfl hl (by decide) rfl (fun ls hl => ?_)
  exact zw_W_water_13 C hr hlk hK hSt hap r0 hr0 4096 (a1) (0) S2 (zm_n na1) (znb rfl) hf _ _ _ hW hS (lv_sub hl [2, 1, 0] rfl)

theorem zc_W_water {l : Launch} {B : zB} (hap : zAp B) (r0 : Int) (hr0 : 0 ≤ r0 ∧ r0 < 3) (S : Sg) {res : Int} {S9 : Sg} (hf : zf_W_water r0 S = some (res, S9)) : Met l zy_W_water (Cond.code zy_W_water zb_W_water 5 (none) :: zT) zm_W_water (zP B S [.ref (B.2.1 5 (r0) (0))]) (zQv B S9) 0 0 B.2.2.2 :=
  zmet (by decide) (Nat.le_of_ble_eq_true rfl) (fun p e s m args below meth c C hr hlk hK hSt hW ls hl => zw_W_water C hr hlk hK hSt hap r0 hr0  S  hf _ _ _ hW va_S.rf hl)
/-! IslandOfficeModel$World.graze()V -/
abbrev zy_W_graze : MethodName := ⟨"IslandOfficeModel$World", "graze", "()V"⟩
abbrev zb_W_graze : ByteArray := prog_15_method_41_code
abbrev zm_W_graze : Room := { frames := 0, cells := 0, slots := 0, locals := 0 }
theorem zq_W_graze : zMy zy_W_graze zb_W_graze 4 (none) 0 := ⟨zk_1918, zk_1917, zs_79, zk_15, by decide, by decide, by decide +kernel⟩
theorem zd_W_graze_0 : decode zb_W_graze 0 = .ok (.iconst 0, 1) := by decide +kernel
theorem zd_W_graze_1 : decode zb_W_graze 1 = .ok (.istore_n 1, 1) := by decide +kernel
theorem zd_W_graze_2 : decode zb_W_graze 2 = .ok (.iload_n 1, 1) := by decide +kernel
theorem zd_W_graze_3 : decode zb_W_graze 3 = .ok (.bipush 12, 2) := by decide +kernel
theorem zd_W_graze_5 : decode zb_W_graze 5 = .ok (.if_icmp .ge 84, 3) := by decide +kernel
theorem zd_W_graze_8 : decode zb_W_graze 8 = .ok (.iconst 0, 1) := by decide +kernel
theorem zd_W_graze_9 : decode zb_W_graze 9 = .ok (.istore_n 2, 1) := by decide +kernel
theorem zd_W_graze_10 : decode zb_W_graze 10 = .ok (.iconst 0, 1) := by decide +kernel
theorem zd_W_graze_11 : decode zb_W_graze 11 = .ok (.istore_n 3, 1) := by decide +kernel
theorem zd_W_graze_12 : decode zb_W_graze 12 = .ok (.iload_n 3, 1) := by decide +kernel
theorem zd_W_graze_13 : decode zb_W_graze 13 = .ok (.aload_n 0, 1) := by decide +kernel
theorem zd_W_graze_14 : decode zb_W_graze 14 = .ok (.getfield 39, 3) := by decide +kernel
theorem zd_W_graze_17 : decode zb_W_graze 17 = .ok (.iload_n 1, 1) := by decide +kernel
theorem zd_W_graze_18 : decode zb_W_graze 18 = .ok (.iaload, 1) := by decide +kernel
theorem zd_W_graze_19 : decode zb_W_graze 19 = .ok (.if_icmp .ge 54, 3) := by decide +kernel
theorem zd_W_graze_22 : decode zb_W_graze 22 = .ok (.aload_n 0, 1) := by decide +kernel
theorem zd_W_graze_23 : decode zb_W_graze 23 = .ok (.getfield 51, 3) := by decide +kernel
theorem zd_W_graze_26 : decode zb_W_graze 26 = .ok (.ifCond .le 16, 3) := by decide +kernel
theorem zd_W_graze_29 : decode zb_W_graze 29 = .ok (.aload_n 0, 1) := by decide +kernel
theorem zd_W_graze_30 : decode zb_W_graze 30 = .ok (.dup, 1) := by decide +kernel
theorem zd_W_graze_31 : decode zb_W_graze 31 = .ok (.getfield 51, 3) := by decide +kernel
theorem zd_W_graze_34 : decode zb_W_graze 34 = .ok (.iconst 1, 1) := by decide +kernel
theorem zd_W_graze_35 : decode zb_W_graze 35 = .ok (.isub, 1) := by decide +kernel
theorem zd_W_graze_36 : decode zb_W_graze 36 = .ok (.putfield 51, 3) := by decide +kernel
theorem zd_W_graze_39 : decode zb_W_graze 39 = .ok (.goto 28, 3) := by decide +kernel
theorem zd_W_graze_42 : decode zb_W_graze 42 = .ok (.aload_n 0, 1) := by decide +kernel
theorem zd_W_graze_43 : decode zb_W_graze 43 = .ok (.getfield 93, 3) := by decide +kernel
theorem zd_W_graze_46 : decode zb_W_graze 46 = .ok (.iconst 2, 1) := by decide +kernel
theorem zd_W_graze_47 : decode zb_W_graze 47 = .ok (.iaload, 1) := by decide +kernel
theorem zd_W_graze_48 : decode zb_W_graze 48 = .ok (.ifCond .le 16, 3) := by decide +kernel
theorem zd_W_graze_51 : decode zb_W_graze 51 = .ok (.aload_n 0, 1) := by decide +kernel
theorem zd_W_graze_52 : decode zb_W_graze 52 = .ok (.getfield 93, 3) := by decide +kernel
theorem zd_W_graze_55 : decode zb_W_graze 55 = .ok (.iconst 2, 1) := by decide +kernel
theorem zd_W_graze_56 : decode zb_W_graze 56 = .ok (.dup2, 1) := by decide +kernel
theorem zd_W_graze_57 : decode zb_W_graze 57 = .ok (.iaload, 1) := by decide +kernel
theorem zd_W_graze_58 : decode zb_W_graze 58 = .ok (.iconst 1, 1) := by decide +kernel
theorem zd_W_graze_59 : decode zb_W_graze 59 = .ok (.isub, 1) := by decide +kernel
theorem zd_W_graze_60 : decode zb_W_graze 60 = .ok (.iastore, 1) := by decide +kernel
theorem zd_W_graze_61 : decode zb_W_graze 61 = .ok (.goto 6, 3) := by decide +kernel
theorem zd_W_graze_64 : decode zb_W_graze 64 = .ok (.iinc 2 1, 3) := by decide +kernel
theorem zd_W_graze_67 : decode zb_W_graze 67 = .ok (.iinc 3 1, 3) := by decide +kernel
theorem zd_W_graze_70 : decode zb_W_graze 70 = .ok (.goto (-58), 3) := by decide +kernel
theorem zd_W_graze_73 : decode zb_W_graze 73 = .ok (.aload_n 0, 1) := by decide +kernel
theorem zd_W_graze_74 : decode zb_W_graze 74 = .ok (.getfield 39, 3) := by decide +kernel
theorem zd_W_graze_77 : decode zb_W_graze 77 = .ok (.iload_n 1, 1) := by decide +kernel
theorem zd_W_graze_78 : decode zb_W_graze 78 = .ok (.dup2, 1) := by decide +kernel
theorem zd_W_graze_79 : decode zb_W_graze 79 = .ok (.iaload, 1) := by decide +kernel
theorem zd_W_graze_80 : decode zb_W_graze 80 = .ok (.iload_n 2, 1) := by decide +kernel
theorem zd_W_graze_81 : decode zb_W_graze 81 = .ok (.isub, 1) := by decide +kernel
theorem zd_W_graze_82 : decode zb_W_graze 82 = .ok (.iastore, 1) := by decide +kernel
theorem zd_W_graze_83 : decode zb_W_graze 83 = .ok (.iinc 1 1, 3) := by decide +kernel
theorem zd_W_graze_86 : decode zb_W_graze 86 = .ok (.goto (-84), 3) := by decide +kernel
theorem zd_W_graze_89 : decode zb_W_graze 89 = .ok (.return_, 1) := by decide +kernel

def zf_W_graze_67 (r0 : Int) (q2 : Int → Sg → Option (Int × Sg)) (q12 : Int → Int → Int → Sg → Option (Int × Sg)) (x1 : Int) (x2 : Int) (x3 : Int) (S : Sg) : Option (Int × Sg) :=
    zlt (zw (x3 + 1)) fun v1 => q12 (x1) (x2) (v1) S
set_option maxHeartbeats 4000000 in
set_option maxRecDepth 100000 in
theorem zw_W_graze_67 {p : Program} {l : Launch} {e : Env} {s : State} {m : MethodId} {args : Array Value} {below : List Frame} {meth : Method} {c : Code} {B : zB} (C : CallFix p m c zb_W_graze 4 s args zT "IslandOfficeModel$World") (hr : meth.sig.returnType = none) (hlk : meth.locks = false) (hK : zK B s) (hSt : zSt B s) (hap : zAp B) (r0 : Int) (hr0 : 0 ≤ r0 ∧ r0 < 3) {res : Int} {S9 : Sg} (q2 : Int → Sg → Option (Int × Sg)) (hq2 : ∀ (x1 : Int) (S : Sg) (nx1 : zn x1), q2 x1 S = some (res, S9) → ∀ (H : Heap) (locs : List Loc) (ls : Array Slot), zW B S H → va_S B.2.2.2 s.heap H locs → lv_has ls 4 [(0, .ref (B.2.1 5 (r0) (0))), (1, .int (zI (x1)))] → W p l e zm_W_graze s m args below meth c H locs 0 0 (MQ below (zQv B S9) args s 0 0 B.2.2.2) (F0 m 2 ls [])) (q12 : Int → Int → Int → Sg → Option (Int × Sg)) (hq12 : ∀ (x1 : Int) (x2 : Int) (x3 : Int) (S : Sg) (nx1 : zn x1) (nx2 : zn x2) (nx3 : zn x3), q12 x1 x2 x3 S = some (res, S9) → ∀ (H : Heap) (locs : List Loc) (ls : Array Slot), zW B S H → va_S B.2.2.2 s.heap H locs → lv_has ls 4 [(0, .ref (B.2.1 5 (r0) (0))), (1, .int (zI (x1))), (2, .int (zI (x2))), (3, .int (zI (x3)))] → W p l e zm_W_graze s m args below meth c H locs 0 0 (MQ below (zQv B S9) args s 0 0 B.2.2.2) (F0 m 12 ls [])) : ∀ (x1 : Int) (x2 : Int) (x3 : Int) (S : Sg) (nx1 : zn x1) (nx2 : zn x2) (nx3 : zn x3), zf_W_graze_67 r0 q2 q12 x1 x2 x3 S = some (res, S9) → ∀ (H : Heap) (locs : List Loc) (ls : Array Slot), zW B S H → va_S B.2.2.2 s.heap H locs → lv_has ls 4 [(0, .ref (B.2.1 5 (r0) (0))), (1, .int (zI (x1))), (2, .int (zI (x2))), (3, .int (zI (x3)))] → W p l e zm_W_graze s m args below meth c H locs 0 0 (MQ below (zQv B S9) args s 0 0 B.2.2.2) (F0 m 67 ls []) := by
  intro x1 x2 x3 S nx1 nx2 nx3 hf H locs ls hW hS hl
  unfold zf_W_graze_67 at hf
  obtain ⟨v1, ev1, hf⟩ := zlt_some hf
  have nv1 : zn v1 := by rw [← ev1]; exact zn_w _
  refine lv_iinc (v := zI v1) (lv' := [(3, .int (zI (v1))), (0, .ref (B.2.1 5 (r0) (0))), (1, .int (zI (x1))), (2, .int (zI (x2)))]) C.1 C.2.1 zd_W_graze_67 hl (k := 3) rfl (by rw [← ev1, ← zI_add]; rfl) (by decide) rfl (fun ls hl => ?_)
  refine lv_goto (tgt := 12) C.1 C.2.1 zd_W_graze_70 (by decide) ?_
  exact hq12 (x1) (x2) (v1) S nx1 nx2 nv1 hf _ _ _ hW hS (lv_sub hl [1, 2, 3, 0] rfl)

def zf_W_graze_12 (r0 : Int) (q2 : Int → Sg → Option (Int × Sg)) : Nat → Int → Int → Int → Sg → Option (Int × Sg)
  | 0, _, _, _, _ => none
  | n + 1, x1, x2, x3, S =>
    zck (0 ≤ x1 ∧ x1 < 12) <| if (S 5 r0 10 x1) ≤ x3 then (zlt (zu S 5 r0 10 x1 (zw ((S 5 r0 10 x1) - x2))) fun S3 => zlt (zw (x1 + 1)) fun v4 => q2 (v4) S3) else (if (S 5 r0 0 15) ≤ 0 then (if (S 5 r0 25 2) ≤ 0 then (zlt (zw (x2 + 1)) fun v7 => zf_W_graze_67 r0 q2 (zf_W_graze_12 r0 q2 n) (x1) (v7) (x3) S) else (zlt (zu S 5 r0 25 2 (zw ((S 5 r0 25 2) - 1))) fun S8 => zf_W_graze_67 r0 q2 (zf_W_graze_12 r0 q2 n) (x1) (x2) (x3) S8)) else (zlt (zu S 5 r0 0 15 (zw ((S 5 r0 0 15) - 1))) fun S9 => zf_W_graze_67 r0 q2 (zf_W_graze_12 r0 q2 n) (x1) (x2) (x3) S9))
set_option maxHeartbeats 4000000 in
set_option maxRecDepth 100000 in
theorem zw_W_graze_12 {p : Program} {l : Launch} {e : Env} {s : State} {m : MethodId} {args : Array Value} {below : List Frame} {meth : Method} {c : Code} {B : zB} (C : CallFix p m c zb_W_graze 4 s args zT "IslandOfficeModel$World") (hr : meth.sig.returnType = none) (hlk : meth.locks = false) (hK : zK B s) (hSt : zSt B s) (hap : zAp B) (r0 : Int) (hr0 : 0 ≤ r0 ∧ r0 < 3) {res : Int} {S9 : Sg} (q2 : Int → Sg → Option (Int × Sg)) (hq2 : ∀ (x1 : Int) (S : Sg) (nx1 : zn x1), q2 x1 S = some (res, S9) → ∀ (H : Heap) (locs : List Loc) (ls : Array Slot), zW B S H → va_S B.2.2.2 s.heap H locs → lv_has ls 4 [(0, .ref (B.2.1 5 (r0) (0))), (1, .int (zI (x1)))] → W p l e zm_W_graze s m args below meth c H locs 0 0 (MQ below (zQv B S9) args s 0 0 B.2.2.2) (F0 m 2 ls [])) : ∀ n : Nat, ∀ (x1 : Int) (x2 : Int) (x3 : Int) (S : Sg) (nx1 : zn x1) (nx2 : zn x2) (nx3 : zn x3), zf_W_graze_12 r0 q2 n x1 x2 x3 S = some (res, S9) → ∀ (H : Heap) (locs : List Loc) (ls : Array Slot), zW B S H → va_S B.2.2.2 s.heap H locs → lv_has ls 4 [(0, .ref (B.2.1 5 (r0) (0))), (1, .int (zI (x1))), (2, .int (zI (x2))), (3, .int (zI (x3)))] → W p l e zm_W_graze s m args below meth c H locs 0 0 (MQ below (zQv B S9) args s 0 0 B.2.2.2) (F0 m 12 ls []) := by
  intro n
  induction n with
  | zero =>
    intro x1 x2 x3 S nx1 nx2 nx3 hf H locs ls hW hS hl
    cases hf
  | succ n ih =>
    intro x1 x2 x3 S nx1 nx2 nx3 hf H locs ls hW hS hl
    rw [zf_W_graze_12] at hf
    refine lv_iload_n C.1 C.2.1 zd_W_graze_12 rfl (lv_at hl 3 rfl) ?_
    refine lv_aload_n C.1 C.2.1 zd_W_graze_13 rfl (lv_at hl 0 rfl) ?_
    refine zg_W_cattle (r := r0) C hK hW (zvd_5 hr0 (by decide)) zk_1297 zd_W_graze_14 ?_
    refine lv_iload_n C.1 C.2.1 zd_W_graze_17 rfl (lv_at hl 1 rfl) ?_
    obtain ⟨h1, hf⟩ := zck_some hf
    refine ziald C hK hW (zvd_5 hr0 (by decide)) (fun f => ze_5_10 B f (r0)) (by decide) h1 zd_W_graze_18 ?_
    refine zr_icmp_ge (tgt := 73) C nx3 (zWn hW _ _ _ _ rfl) zd_W_graze_19 (by decide) (fun c2 => ?_) (fun c2 => ?_)
    · rw [if_pos c2] at hf
      refine lv_aload_n C.1 C.2.1 zd_W_graze_73 rfl (lv_at hl 0 rfl) ?_
      refine zg_W_cattle (r := r0) C hK hW (zvd_5 hr0 (by decide)) zk_1297 zd_W_graze_74 ?_
      refine lv_iload_n C.1 C.2.1 zd_W_graze_77 rfl (lv_at hl 1 rfl) ?_
      refine lv_dup2_11 C.1 C.2.1 zd_W_graze_78 rfl rfl ?_
      refine ziald C hK hW (zvd_5 hr0 (by decide)) (fun f => ze_5_10 B f (r0)) (by decide) h1 zd_W_graze_79 ?_
      refine lv_iload_n C.1 C.2.1 zd_W_graze_80 rfl (lv_at hl 2 rfl) ?_
      refine zr_isub C zd_W_graze_81 ?_
      obtain ⟨S3, eS3, hf⟩ := zlt_some hf
      refine ziast C hK hap hW hS (zvd_5 hr0 (by decide)) (fun f => ze_5_10 B f (r0)) (by decide) rfl (zn_w _) h1 zd_W_graze_82 (fun H locs hW hS => ?_)
      rw [eS3] at hW
      obtain ⟨v4, ev4, hf⟩ := zlt_some hf
      have nv4 : zn v4 := by rw [← ev4]; exact zn_w _
      refine lv_iinc (v := zI v4) (lv' := [(1, .int (zI (v4))), (0, .ref (B.2.1 5 (r0) (0))), (2, .int (zI (x2))), (3, .int (zI (x3)))]) C.1 C.2.1 zd_W_graze_83 hl (k := 1) rfl (by rw [← ev4, ← zI_add]; rfl) (by decide) rfl (fun ls hl => ?_)
      refine lv_goto (tgt := 2) C.1 C.2.1 zd_W_graze_86 (by decide) ?_
      exact hq2 (v4) S3 nv4 hf _ _ _ hW hS (lv_sub hl [1, 0] rfl)
    · rw [if_neg c2] at hf
      refine lv_aload_n C.1 C.2.1 zd_W_graze_22 rfl (lv_at hl 0 rfl) ?_
      refine zg_W_grass (r := r0) C hK hW (zvd_5 hr0 (by decide)) zk_1305 zd_W_graze_23 ?_
      refine zr_if_le (tgt := 42) C (zWn hW _ _ _ _ rfl) zd_W_graze_26 (by decide) (fun c5 => ?_) (fun c5 => ?_)
      · rw [if_pos c5] at hf
        refine lv_aload_n C.1 C.2.1 zd_W_graze_42 rfl (lv_at hl 0 rfl) ?_
        refine zg_W_store (r := r0) C hK hW (zvd_5 hr0 (by decide)) zk_1335 zd_W_graze_43 ?_
        refine zr_iconst C zd_W_graze_46 ?_
        refine ziald C hK hW (zvd_5 hr0 (by decide)) (fun f => ze_5_25 B f (r0)) (by decide) (by decide) zd_W_graze_47 ?_
        refine zr_if_le (tgt := 64) C (zWn hW _ _ _ _ rfl) zd_W_graze_48 (by decide) (fun c6 => ?_) (fun c6 => ?_)
        · rw [if_pos c6] at hf
          obtain ⟨v7, ev7, hf⟩ := zlt_some hf
          have nv7 : zn v7 := by rw [← ev7]; exact zn_w _
          refine lv_iinc (v := zI v7) (lv' := [(2, .int (zI (v7))), (0, .ref (B.2.1 5 (r0) (0))), (1, .int (zI (x1))), (3, .int (zI (x3)))]) C.1 C.2.1 zd_W_graze_64 hl (k := 2) rfl (by rw [← ev7, ← zI_add]; rfl) (by decide) rfl (fun ls hl => ?_)
          exact zw_W_graze_67 C hr hlk hK hSt hap r0 hr0 q2 hq2 (zf_W_graze_12 r0 q2 n) (ih) (x1) (v7) (x3) S nx1 nv7 nx3 hf _ _ _ hW hS (lv_sub hl [1, 2, 0, 3] rfl)
        · rw [if_neg c6] at hf
          refine lv_aload_n C.1 C.2.1 zd_W_graze_51 rfl (lv_at hl 0 rfl) ?_
          refine zg_W_store (r := r0) C hK hW (zvd_5 hr0 (by decide)) zk_1335 zd_W_graze_52 ?_
          refine zr_iconst C zd_W_graze_55 ?_
          refine lv_dup2_11 C.1 C.2.1 zd_W_graze_56 rfl rfl ?_
          refine ziald C hK hW (zvd_5 hr0 (by decide)) (fun f => ze_5_25 B f (r0)) (by decide) (by decide) zd_W_graze_57 ?_
          refine zr_iconst C zd_W_graze_58 ?_
          refine zr_isub C zd_W_graze_59 ?_
          obtain ⟨S8, eS8, hf⟩ := zlt_some hf
          refine ziast C hK hap hW hS (zvd_5 hr0 (by decide)) (fun f => ze_5_25 B f (r0)) (by decide) rfl (zn_w _) (by decide) zd_W_graze_60 (fun H locs hW hS => ?_)
          rw [eS8] at hW
          refine lv_goto (tgt := 67) C.1 C.2.1 zd_W_graze_61 (by decide) ?_
          exact zw_W_graze_67 C hr hlk hK hSt hap r0 hr0 q2 hq2 (zf_W_graze_12 r0 q2 n) (ih) (x1) (x2) (x3) S8 nx1 nx2 nx3 hf _ _ _ hW hS (lv_sub hl [0, 1, 2, 3] rfl)
      · rw [if_neg c5] at hf
        refine lv_aload_n C.1 C.2.1 zd_W_graze_29 rfl (lv_at hl 0 rfl) ?_
        refine lv_dup C.1 C.2.1 zd_W_graze_30 rfl ?_
        refine zg_W_grass (r := r0) C hK hW (zvd_5 hr0 (by decide)) zk_1305 zd_W_graze_31 ?_
        refine zr_iconst C zd_W_graze_34 ?_
        refine zr_isub C zd_W_graze_35 ?_
        obtain ⟨S9, eS9, hf⟩ := zlt_some hf
        refine zp_W_grass (r := r0) C hK hap hW hS (zvd_5 hr0 (by decide)) zk_1305 (zn_w _) zd_W_graze_36 (fun H locs hW hS => ?_)
        rw [eS9] at hW
        refine lv_goto (tgt := 67) C.1 C.2.1 zd_W_graze_39 (by decide) ?_
        exact zw_W_graze_67 C hr hlk hK hSt hap r0 hr0 q2 hq2 (zf_W_graze_12 r0 q2 n) (ih) (x1) (x2) (x3) S9 nx1 nx2 nx3 hf _ _ _ hW hS (lv_sub hl [0, 1, 2, 3] rfl)

def zf_W_graze_2 (r0 : Int) : Nat → Int → Sg → Option (Int × Sg)
  | 0, _, _ => none
  | n + 1, x1, S =>
    if 12 ≤ x1 then (some (0, S)) else (zf_W_graze_12 r0 (zf_W_graze_2 r0 n) 4096 (x1) (0) (0) S)
set_option maxHeartbeats 4000000 in
set_option maxRecDepth 100000 in
theorem zw_W_graze_2 {p : Program} {l : Launch} {e : Env} {s : State} {m : MethodId} {args : Array Value} {below : List Frame} {meth : Method} {c : Code} {B : zB} (C : CallFix p m c zb_W_graze 4 s args zT "IslandOfficeModel$World") (hr : meth.sig.returnType = none) (hlk : meth.locks = false) (hK : zK B s) (hSt : zSt B s) (hap : zAp B) (r0 : Int) (hr0 : 0 ≤ r0 ∧ r0 < 3) {res : Int} {S9 : Sg} : ∀ n : Nat, ∀ (x1 : Int) (S : Sg) (nx1 : zn x1), zf_W_graze_2 r0 n x1 S = some (res, S9) → ∀ (H : Heap) (locs : List Loc) (ls : Array Slot), zW B S H → va_S B.2.2.2 s.heap H locs → lv_has ls 4 [(0, .ref (B.2.1 5 (r0) (0))), (1, .int (zI (x1)))] → W p l e zm_W_graze s m args below meth c H locs 0 0 (MQ below (zQv B S9) args s 0 0 B.2.2.2) (F0 m 2 ls []) := by
  intro n
  induction n with
  | zero =>
    intro x1 S nx1 hf H locs ls hW hS hl
    cases hf
  | succ n ih =>
    intro x1 S nx1 hf H locs ls hW hS hl
    rw [zf_W_graze_2] at hf
    refine lv_iload_n C.1 C.2.1 zd_W_graze_2 rfl (lv_at hl 1 rfl) ?_
    refine zr_bipush C zd_W_graze_3 (by decide) ?_
    refine zr_icmp_ge (tgt := 89) C nx1 (znb rfl) zd_W_graze_5 (by decide) (fun c1 => ?_) (fun c1 => ?_)
    · rw [if_pos c1] at hf
      cases hf
      exact zre_v C hr hlk hK hW hS zd_W_graze_89
    · rw [if_neg c1] at hf
      refine zr_iconst C zd_W_graze_8 ?_
      refine lv_istore_n (lv' := [(2, .int (zI (0))), (0, .ref (B.2.1 5 (r0) (0))), (1, .int (zI (x1)))]) C.1 C.2.1 zd_W_graze_9 rfl hl (by decide) rfl (fun ls hl => ?_)
      refine zr_iconst C zd_W_graze_10 ?_
      refine lv_istore_n (lv' := [(3, .int (zI (0))), (2, .int (zI (0))), (0, .ref (B.2.1 5 (r0) (0))), (1, .int (zI (x1)))]) C.1 C.2.1 zd_W_graze_11 rfl hl (by decide) rfl (fun ls hl => ?_)
      exact zw_W_graze_12 C hr hlk hK hSt hap r0 hr0 (zf_W_graze_2 r0 n) (ih) 4096 (x1) (0) (0) S nx1 (znb rfl) (znb rfl) hf _ _ _ hW hS (lv_sub hl [2, 3, 1, 0] rfl)

def zf_W_graze (r0 : Int) (S : Sg) : Option (Int × Sg) :=
    zf_W_graze_2 r0 4096 (0) S
set_option maxHeartbeats 4000000 in
set_option maxRecDepth 100000 in
theorem zw_W_graze {p : Program} {l : Launch} {e : Env} {s : State} {m : MethodId} {args : Array Value} {below : List Frame} {meth : Method} {c : Code} {B : zB} (C : CallFix p m c zb_W_graze 4 s args zT "IslandOfficeModel$World") (hr : meth.sig.returnType = none) (hlk : meth.locks = false) (hK : zK B s) (hSt : zSt B s) (hap : zAp B) (r0 : Int) (hr0 : 0 ≤ r0 ∧ r0 < 3) {res : Int} {S9 : Sg} : ∀  (S : Sg) , zf_W_graze r0  S = some (res, S9) → ∀ (H : Heap) (locs : List Loc) (ls : Array Slot), zW B S H → va_S B.2.2.2 s.heap H locs → lv_has ls 4 [(0, .ref (B.2.1 5 (r0) (0)))] → W p l e zm_W_graze s m args below meth c H locs 0 0 (MQ below (zQv B S9) args s 0 0 B.2.2.2) (F0 m 0 ls []) := by
  intro S hf H locs ls hW hS hl
  unfold zf_W_graze at hf
  refine zr_iconst C zd_W_graze_0 ?_
  refine lv_istore_n (lv' := [(1, .int (zI (0))), (0, .ref (B.2.1 5 (r0) (0)))]) C.1 C.2.1 zd_W_graze_1 rfl hl (by decide) rfl (fun ls hl => ?_)
  exact zw_W_graze_2 C hr hlk hK hSt hap r0 hr0 4096 (0) S (znb rfl) hf _ _ _ hW hS (lv_sub hl [1, 0] rfl)

theorem zc_W_graze {l : Launch} {B : zB} (hap : zAp B) (r0 : Int) (hr0 : 0 ≤ r0 ∧ r0 < 3) (S : Sg) {res : Int} {S9 : Sg} (hf : zf_W_graze r0 S = some (res, S9)) : Met l zy_W_graze (Cond.code zy_W_graze zb_W_graze 4 (none) :: zT) zm_W_graze (zP B S [.ref (B.2.1 5 (r0) (0))]) (zQv B S9) 0 0 B.2.2.2 :=
  zmet (by decide) (Nat.le_of_ble_eq_true rfl) (fun p e s m args below meth c C hr hlk hK hSt hW ls hl => zw_W_graze C hr hlk hK hSt hap r0 hr0  S  hf _ _ _ hW va_S.rf hl)
/-! IslandOfficeModel$World.stored(II)V -/
abbrev zy_W_stored : MethodName := ⟨"IslandOfficeModel$World", "stored", "(II)V"⟩
abbrev zb_W_stored : ByteArray := prog_15_method_39_code
abbrev zm_W_stored : Room := { frames := 1, cells := 0, slots := 0, locals := 64 }
theorem zq_W_stored : zMy zy_W_stored zb_W_stored 3 (none) 2 := ⟨zk_1927, zk_1926, zs_81, zk_15, by decide, by decide, by decide +kernel⟩
theorem zd_W_stored_0 : decode zb_W_stored 0 = .ok (.aload_n 0, 1) := by decide +kernel
theorem zd_W_stored_1 : decode zb_W_stored 1 = .ok (.getfield 93, 3) := by decide +kernel
theorem zd_W_stored_4 : decode zb_W_stored 4 = .ok (.iload_n 1, 1) := by decide +kernel
theorem zd_W_stored_5 : decode zb_W_stored 5 = .ok (.sipush 9999, 3) := by decide +kernel
theorem zd_W_stored_8 : decode zb_W_stored 8 = .ok (.aload_n 0, 1) := by decide +kernel
theorem zd_W_stored_9 : decode zb_W_stored 9 = .ok (.getfield 93, 3) := by decide +kernel
theorem zd_W_stored_12 : decode zb_W_stored 12 = .ok (.iload_n 1, 1) := by decide +kernel
theorem zd_W_stored_13 : decode zb_W_stored 13 = .ok (.iaload, 1) := by decide +kernel
theorem zd_W_stored_14 : decode zb_W_stored 14 = .ok (.iload_n 2, 1) := by decide +kernel
theorem zd_W_stored_15 : decode zb_W_stored 15 = .ok (.iadd, 1) := by decide +kernel
theorem zd_W_stored_16 : decode zb_W_stored 16 = .ok (.invokestatic 314, 3) := by decide +kernel
theorem zd_W_stored_19 : decode zb_W_stored 19 = .ok (.iastore, 1) := by decide +kernel
theorem zd_W_stored_20 : decode zb_W_stored 20 = .ok (.return_, 1) := by decide +kernel

def zf_W_stored (r0 : Int) (x1 : Int) (x2 : Int) (S : Sg) : Option (Int × Sg) :=
    zck (0 ≤ x1 ∧ x1 < 4) <| zlt (zu S 5 r0 25 x1 (min 9999 (zw ((S 5 r0 25 x1) + x2)))) fun S2 => some (0, S2)
set_option maxHeartbeats 4000000 in
set_option maxRecDepth 100000 in
theorem zw_W_stored {p : Program} {l : Launch} {e : Env} {s : State} {m : MethodId} {args : Array Value} {below : List Frame} {meth : Method} {c : Code} {B : zB} (C : CallFix p m c zb_W_stored 3 s args zT "IslandOfficeModel$World") (hr : meth.sig.returnType = none) (hlk : meth.locks = false) (hK : zK B s) (hSt : zSt B s) (hap : zAp B) (r0 : Int) (hr0 : 0 ≤ r0 ∧ r0 < 3) {res : Int} {S9 : Sg} : ∀ (x1 : Int) (x2 : Int) (S : Sg) (nx1 : zn x1) (nx2 : zn x2), zf_W_stored r0 x1 x2 S = some (res, S9) → ∀ (H : Heap) (locs : List Loc) (ls : Array Slot), zW B S H → va_S B.2.2.2 s.heap H locs → lv_has ls 3 [(0, .ref (B.2.1 5 (r0) (0))), (1, .int (zI (x1))), (2, .int (zI (x2)))] → W p l e zm_W_stored s m args below meth c H locs 0 0 (MQ below (zQv B S9) args s 0 0 B.2.2.2) (F0 m 0 ls []) := by
  intro x1 x2 S nx1 nx2 hf H locs ls hW hS hl
  unfold zf_W_stored at hf
  refine lv_aload_n C.1 C.2.1 zd_W_stored_0 rfl (lv_at hl 0 rfl) ?_
  refine zg_W_store (r := r0) C hK hW (zvd_5 hr0 (by decide)) zk_1335 zd_W_stored_1 ?_
  refine lv_iload_n C.1 C.2.1 zd_W_stored_4 rfl (lv_at hl 1 rfl) ?_
  refine zr_sipush C zd_W_stored_5 (by decide) ?_
  refine lv_aload_n C.1 C.2.1 zd_W_stored_8 rfl (lv_at hl 0 rfl) ?_
  refine zg_W_store (r := r0) C hK hW (zvd_5 hr0 (by decide)) zk_1335 zd_W_stored_9 ?_
  refine lv_iload_n C.1 C.2.1 zd_W_stored_12 rfl (lv_at hl 1 rfl) ?_
  obtain ⟨h1, hf⟩ := zck_some hf
  refine ziald C hK hW (zvd_5 hr0 (by decide)) (fun f => ze_5_25 B f (r0)) (by decide) h1 zd_W_stored_13 ?_
  refine lv_iload_n C.1 C.2.1 zd_W_stored_14 rfl (lv_at hl 2 rfl) ?_
  refine zr_iadd C zd_W_stored_15 ?_
  refine zr_min C hl.1 (znb rfl) (zn_w _) zk_1928 zk_909 zk_16 zk_910 (by decide) (Nat.le_of_ble_eq_true rfl) ⟨by decide, by decide⟩ zd_W_stored_16 ?_
  obtain ⟨S2, eS2, hf⟩ := zlt_some hf
  refine ziast C hK hap hW hS (zvd_5 hr0 (by decide)) (fun f => ze_5_25 B f (r0)) (by decide) rfl (zn_min (znb rfl) (zn_w _)) h1 zd_W_stored_19 (fun H locs hW hS => ?_)
  rw [eS2] at hW
  cases hf
  exact zre_v C hr hlk hK hW hS zd_W_stored_20

theorem zc_W_stored {l : Launch} {B : zB} (hap : zAp B) (r0 : Int) (hr0 : 0 ≤ r0 ∧ r0 < 3) (x1 : Int) (x2 : Int) (S : Sg) (nx1 : zn x1) (nx2 : zn x2) {res : Int} {S9 : Sg} (hf : zf_W_stored r0 x1 x2 S = some (res, S9)) : Met l zy_W_stored (Cond.code zy_W_stored zb_W_stored 3 (none) :: zT) zm_W_stored (zP B S [.ref (B.2.1 5 (r0) (0)), .int (zI (x1)), .int (zI (x2))]) (zQv B S9) 0 0 B.2.2.2 :=
  zmet (by decide) (Nat.le_of_ble_eq_true rfl) (fun p e s m args below meth c C hr hlk hK hSt hW ls hl => zw_W_stored C hr hlk hK hSt hap r0 hr0 x1 x2 S nx1 nx2 hf _ _ _ hW va_S.rf hl)
/-! IslandOfficeModel$World.ship()Z -/
abbrev zy_W_ship : MethodName := ⟨"IslandOfficeModel$World", "ship", "()Z"⟩
abbrev zb_W_ship : ByteArray := prog_15_method_43_code
abbrev zm_W_ship : Room := { frames := 3, cells := 0, slots := 0, locals := 90 }
theorem zq_W_ship : zMy zy_W_ship zb_W_ship 5 (some .boolean) 0 := ⟨zk_1932, zk_1931, zs_82, zk_15, by decide, by decide, by decide +kernel⟩
theorem zd_W_ship_0 : decode zb_W_ship 0 = .ok (.aload_n 0, 1) := by decide +kernel
theorem zd_W_ship_1 : decode zb_W_ship 1 = .ok (.getfield 155, 3) := by decide +kernel
theorem zd_W_ship_4 : decode zb_W_ship 4 = .ok (.iconst 4, 1) := by decide +kernel
theorem zd_W_ship_5 : decode zb_W_ship 5 = .ok (.if_icmp .lt 36, 3) := by decide +kernel
theorem zd_W_ship_8 : decode zb_W_ship 8 = .ok (.aload_n 0, 1) := by decide +kernel
theorem zd_W_ship_9 : decode zb_W_ship 9 = .ok (.getfield 114, 3) := by decide +kernel
theorem zd_W_ship_12 : decode zb_W_ship 12 = .ok (.aload_n 0, 1) := by decide +kernel
theorem zd_W_ship_13 : decode zb_W_ship 13 = .ok (.getfield 155, 3) := by decide +kernel
theorem zd_W_ship_16 : decode zb_W_ship 16 = .ok (.iconst 4, 1) := by decide +kernel
theorem zd_W_ship_17 : decode zb_W_ship 17 = .ok (.idiv, 1) := by decide +kernel
theorem zd_W_ship_18 : decode zb_W_ship 18 = .ok (.iconst 4, 1) := by decide +kernel
theorem zd_W_ship_19 : decode zb_W_ship 19 = .ok (.imul, 1) := by decide +kernel
theorem zd_W_ship_20 : decode zb_W_ship 20 = .ok (.if_icmp .ge 21, 3) := by decide +kernel
theorem zd_W_ship_23 : decode zb_W_ship 23 = .ok (.aload_n 0, 1) := by decide +kernel
theorem zd_W_ship_24 : decode zb_W_ship 24 = .ok (.iconst 0, 1) := by decide +kernel
theorem zd_W_ship_25 : decode zb_W_ship 25 = .ok (.aload_n 0, 1) := by decide +kernel
theorem zd_W_ship_26 : decode zb_W_ship 26 = .ok (.getfield 155, 3) := by decide +kernel
theorem zd_W_ship_29 : decode zb_W_ship 29 = .ok (.invokevirtual 317, 3) := by decide +kernel
theorem zd_W_ship_32 : decode zb_W_ship 32 = .ok (.aload_n 0, 1) := by decide +kernel
theorem zd_W_ship_33 : decode zb_W_ship 33 = .ok (.getfield 108, 3) := by decide +kernel
theorem zd_W_ship_36 : decode zb_W_ship 36 = .ok (.iconst 1, 1) := by decide +kernel
theorem zd_W_ship_37 : decode zb_W_ship 37 = .ok (.iaload, 1) := by decide +kernel
theorem zd_W_ship_38 : decode zb_W_ship 38 = .ok (.if_icmp .le 5, 3) := by decide +kernel
theorem zd_W_ship_41 : decode zb_W_ship 41 = .ok (.iconst 0, 1) := by decide +kernel
theorem zd_W_ship_42 : decode zb_W_ship 42 = .ok (.ireturn, 1) := by decide +kernel
theorem zd_W_ship_43 : decode zb_W_ship 43 = .ok (.aload_n 0, 1) := by decide +kernel
theorem zd_W_ship_44 : decode zb_W_ship 44 = .ok (.aload_n 0, 1) := by decide +kernel
theorem zd_W_ship_45 : decode zb_W_ship 45 = .ok (.getfield 155, 3) := by decide +kernel
theorem zd_W_ship_48 : decode zb_W_ship 48 = .ok (.putfield 114, 3) := by decide +kernel
theorem zd_W_ship_51 : decode zb_W_ship 51 = .ok (.aload_n 0, 1) := by decide +kernel
theorem zd_W_ship_52 : decode zb_W_ship 52 = .ok (.getfield 108, 3) := by decide +kernel
theorem zd_W_ship_55 : decode zb_W_ship 55 = .ok (.iconst 0, 1) := by decide +kernel
theorem zd_W_ship_56 : decode zb_W_ship 56 = .ok (.iaload, 1) := by decide +kernel
theorem zd_W_ship_57 : decode zb_W_ship 57 = .ok (.istore_n 1, 1) := by decide +kernel
theorem zd_W_ship_58 : decode zb_W_ship 58 = .ok (.iconst 0, 1) := by decide +kernel
theorem zd_W_ship_59 : decode zb_W_ship 59 = .ok (.istore_n 2, 1) := by decide +kernel
theorem zd_W_ship_60 : decode zb_W_ship 60 = .ok (.iload_n 2, 1) := by decide +kernel
theorem zd_W_ship_61 : decode zb_W_ship 61 = .ok (.bipush 9, 2) := by decide +kernel
theorem zd_W_ship_63 : decode zb_W_ship 63 = .ok (.if_icmp .gt 80, 3) := by decide +kernel
theorem zd_W_ship_66 : decode zb_W_ship 66 = .ok (.iconst 0, 1) := by decide +kernel
theorem zd_W_ship_67 : decode zb_W_ship 67 = .ok (.istore_n 3, 1) := by decide +kernel
theorem zd_W_ship_68 : decode zb_W_ship 68 = .ok (.iload_n 3, 1) := by decide +kernel
theorem zd_W_ship_69 : decode zb_W_ship 69 = .ok (.aload_n 0, 1) := by decide +kernel
theorem zd_W_ship_70 : decode zb_W_ship 70 = .ok (.getfield 171, 3) := by decide +kernel
theorem zd_W_ship_73 : decode zb_W_ship 73 = .ok (.if_icmp .ge 64, 3) := by decide +kernel
theorem zd_W_ship_76 : decode zb_W_ship 76 = .ok (.aload_n 0, 1) := by decide +kernel
theorem zd_W_ship_77 : decode zb_W_ship 77 = .ok (.getfield 96, 3) := by decide +kernel
theorem zd_W_ship_80 : decode zb_W_ship 80 = .ok (.aload_n 0, 1) := by decide +kernel
theorem zd_W_ship_81 : decode zb_W_ship 81 = .ok (.getfield 102, 3) := by decide +kernel
theorem zd_W_ship_84 : decode zb_W_ship 84 = .ok (.iload_n 3, 1) := by decide +kernel
theorem zd_W_ship_85 : decode zb_W_ship 85 = .ok (.iaload, 1) := by decide +kernel
theorem zd_W_ship_86 : decode zb_W_ship 86 = .ok (.iaload, 1) := by decide +kernel
theorem zd_W_ship_87 : decode zb_W_ship 87 = .ok (.iload_n 2, 1) := by decide +kernel
theorem zd_W_ship_88 : decode zb_W_ship 88 = .ok (.if_icmp .ne 43, 3) := by decide +kernel
theorem zd_W_ship_91 : decode zb_W_ship 91 = .ok (.iload_n 1, 1) := by decide +kernel
theorem zd_W_ship_92 : decode zb_W_ship 92 = .ok (.aload_n 0, 1) := by decide +kernel
theorem zd_W_ship_93 : decode zb_W_ship 93 = .ok (.getfield 105, 3) := by decide +kernel
theorem zd_W_ship_96 : decode zb_W_ship 96 = .ok (.iload_n 3, 1) := by decide +kernel
theorem zd_W_ship_97 : decode zb_W_ship 97 = .ok (.iaload, 1) := by decide +kernel
theorem zd_W_ship_98 : decode zb_W_ship 98 = .ok (.invokestatic 314, 3) := by decide +kernel
theorem zd_W_ship_101 : decode zb_W_ship 101 = .ok (.istore 4, 2) := by decide +kernel
theorem zd_W_ship_103 : decode zb_W_ship 103 = .ok (.aload_n 0, 1) := by decide +kernel
theorem zd_W_ship_104 : decode zb_W_ship 104 = .ok (.getfield 105, 3) := by decide +kernel
theorem zd_W_ship_107 : decode zb_W_ship 107 = .ok (.iload_n 3, 1) := by decide +kernel
theorem zd_W_ship_108 : decode zb_W_ship 108 = .ok (.dup2, 1) := by decide +kernel
theorem zd_W_ship_109 : decode zb_W_ship 109 = .ok (.iaload, 1) := by decide +kernel
theorem zd_W_ship_110 : decode zb_W_ship 110 = .ok (.iload 4, 2) := by decide +kernel
theorem zd_W_ship_112 : decode zb_W_ship 112 = .ok (.isub, 1) := by decide +kernel
theorem zd_W_ship_113 : decode zb_W_ship 113 = .ok (.iastore, 1) := by decide +kernel
theorem zd_W_ship_114 : decode zb_W_ship 114 = .ok (.iload_n 1, 1) := by decide +kernel
theorem zd_W_ship_115 : decode zb_W_ship 115 = .ok (.iload 4, 2) := by decide +kernel
theorem zd_W_ship_117 : decode zb_W_ship 117 = .ok (.isub, 1) := by decide +kernel
theorem zd_W_ship_118 : decode zb_W_ship 118 = .ok (.istore_n 1, 1) := by decide +kernel
theorem zd_W_ship_119 : decode zb_W_ship 119 = .ok (.aload_n 0, 1) := by decide +kernel
theorem zd_W_ship_120 : decode zb_W_ship 120 = .ok (.aload_n 0, 1) := by decide +kernel
theorem zd_W_ship_121 : decode zb_W_ship 121 = .ok (.getfield 102, 3) := by decide +kernel
theorem zd_W_ship_124 : decode zb_W_ship 124 = .ok (.iload_n 3, 1) := by decide +kernel
theorem zd_W_ship_125 : decode zb_W_ship 125 = .ok (.iaload, 1) := by decide +kernel
theorem zd_W_ship_126 : decode zb_W_ship 126 = .ok (.iload 4, 2) := by decide +kernel
theorem zd_W_ship_128 : decode zb_W_ship 128 = .ok (.invokevirtual 330, 3) := by decide +kernel
theorem zd_W_ship_131 : decode zb_W_ship 131 = .ok (.iinc 3 1, 3) := by decide +kernel
theorem zd_W_ship_134 : decode zb_W_ship 134 = .ok (.goto (-66), 3) := by decide +kernel
theorem zd_W_ship_137 : decode zb_W_ship 137 = .ok (.iinc 2 1, 3) := by decide +kernel
theorem zd_W_ship_140 : decode zb_W_ship 140 = .ok (.goto (-80), 3) := by decide +kernel
theorem zd_W_ship_143 : decode zb_W_ship 143 = .ok (.iconst 1, 1) := by decide +kernel
theorem zd_W_ship_144 : decode zb_W_ship 144 = .ok (.ireturn, 1) := by decide +kernel

def zf_W_ship_131 (r0 : Int) (q60 : Int → Int → Sg → Option (Int × Sg)) (q68 : Int → Int → Int → Sg → Option (Int × Sg)) (x1 : Int) (x2 : Int) (x3 : Int) (S : Sg) : Option (Int × Sg) :=
    zlt (zw (x3 + 1)) fun v1 => q68 (x1) (x2) (v1) S
set_option maxHeartbeats 4000000 in
set_option maxRecDepth 100000 in
theorem zw_W_ship_131 {p : Program} {l : Launch} {e : Env} {s : State} {m : MethodId} {args : Array Value} {below : List Frame} {meth : Method} {c : Code} {B : zB} (C : CallFix p m c zb_W_ship 5 s args zT "IslandOfficeModel$World") (hr : meth.sig.returnType = some .boolean) (hlk : meth.locks = false) (hK : zK B s) (hSt : zSt B s) (hap : zAp B) (r0 : Int) (hr0 : 0 ≤ r0 ∧ r0 < 3) {res : Int} {S9 : Sg} (q60 : Int → Int → Sg → Option (Int × Sg)) (hq60 : ∀ (x1 : Int) (x2 : Int) (S : Sg) (nx1 : zn x1) (nx2 : zn x2), q60 x1 x2 S = some (res, S9) → ∀ (H : Heap) (locs : List Loc) (ls : Array Slot), zW B S H → va_S B.2.2.2 s.heap H locs → lv_has ls 5 [(0, .ref (B.2.1 5 (r0) (0))), (1, .int (zI (x1))), (2, .int (zI (x2)))] → W p l e zm_W_ship s m args below meth c H locs 0 0 (MQ below (zQi B res S9) args s 0 0 B.2.2.2) (F0 m 60 ls [])) (q68 : Int → Int → Int → Sg → Option (Int × Sg)) (hq68 : ∀ (x1 : Int) (x2 : Int) (x3 : Int) (S : Sg) (nx1 : zn x1) (nx2 : zn x2) (nx3 : zn x3), q68 x1 x2 x3 S = some (res, S9) → ∀ (H : Heap) (locs : List Loc) (ls : Array Slot), zW B S H → va_S B.2.2.2 s.heap H locs → lv_has ls 5 [(0, .ref (B.2.1 5 (r0) (0))), (1, .int (zI (x1))), (2, .int (zI (x2))), (3, .int (zI (x3)))] → W p l e zm_W_ship s m args below meth c H locs 0 0 (MQ below (zQi B res S9) args s 0 0 B.2.2.2) (F0 m 68 ls [])) : ∀ (x1 : Int) (x2 : Int) (x3 : Int) (S : Sg) (nx1 : zn x1) (nx2 : zn x2) (nx3 : zn x3), zf_W_ship_131 r0 q60 q68 x1 x2 x3 S = some (res, S9) → ∀ (H : Heap) (locs : List Loc) (ls : Array Slot), zW B S H → va_S B.2.2.2 s.heap H locs → lv_has ls 5 [(0, .ref (B.2.1 5 (r0) (0))), (1, .int (zI (x1))), (2, .int (zI (x2))), (3, .int (zI (x3)))] → W p l e zm_W_ship s m args below meth c H locs 0 0 (MQ below (zQi B res S9) args s 0 0 B.2.2.2) (F0 m 131 ls []) := by
  intro x1 x2 x3 S nx1 nx2 nx3 hf H locs ls hW hS hl
  unfold zf_W_ship_131 at hf
  obtain ⟨v1, ev1, hf⟩ := zlt_some hf
  have nv1 : zn v1 := by rw [← ev1]; exact zn_w _
  refine lv_iinc (v := zI v1) (lv' := [(3, .int (zI (v1))), (0, .ref (B.2.1 5 (r0) (0))), (1, .int (zI (x1))), (2, .int (zI (x2)))]) C.1 C.2.1 zd_W_ship_131 hl (k := 3) rfl (by rw [← ev1, ← zI_add]; rfl) (by decide) rfl (fun ls hl => ?_)
  refine lv_goto (tgt := 68) C.1 C.2.1 zd_W_ship_134 (by decide) ?_
  exact hq68 (x1) (x2) (v1) S nx1 nx2 nv1 hf _ _ _ hW hS (lv_sub hl [1, 2, 3, 0] rfl)

def zf_W_ship_68 (r0 : Int) (q60 : Int → Int → Sg → Option (Int × Sg)) : Nat → Int → Int → Int → Sg → Option (Int × Sg)
  | 0, _, _, _, _ => none
  | n + 1, x1, x2, x3, S =>
    if (S 5 r0 0 33) ≤ x3 then (zlt (zw (x2 + 1)) fun v2 => q60 (x1) (v2) S) else (zck (0 ≤ x3 ∧ x3 < 30) <| zck (0 ≤ (S 5 r0 28 x3) ∧ (S 5 r0 28 x3) < 4) <| if (S 5 r0 26 (S 5 r0 28 x3)) = x2 then (zlt (min x1 (S 5 r0 29 x3)) fun v6 => zlt (zu S 5 r0 29 x3 (zw ((S 5 r0 29 x3) - v6))) fun S7 => zlt (zw (x1 - v6)) fun v8 => zbd (zf_W_stored (r0) (S7 5 r0 28 x3) v6 S7) fun a9 S10 => zf_W_ship_131 r0 q60 (zf_W_ship_68 r0 q60 n) (v8) (x2) (x3) S10) else (zf_W_ship_131 r0 q60 (zf_W_ship_68 r0 q60 n) (x1) (x2) (x3) S))
set_option maxHeartbeats 4000000 in
set_option maxRecDepth 100000 in
theorem zw_W_ship_68 {p : Program} {l : Launch} {e : Env} {s : State} {m : MethodId} {args : Array Value} {below : List Frame} {meth : Method} {c : Code} {B : zB} (C : CallFix p m c zb_W_ship 5 s args zT "IslandOfficeModel$World") (hr : meth.sig.returnType = some .boolean) (hlk : meth.locks = false) (hK : zK B s) (hSt : zSt B s) (hap : zAp B) (r0 : Int) (hr0 : 0 ≤ r0 ∧ r0 < 3) {res : Int} {S9 : Sg} (q60 : Int → Int → Sg → Option (Int × Sg)) (hq60 : ∀ (x1 : Int) (x2 : Int) (S : Sg) (nx1 : zn x1) (nx2 : zn x2), q60 x1 x2 S = some (res, S9) → ∀ (H : Heap) (locs : List Loc) (ls : Array Slot), zW B S H → va_S B.2.2.2 s.heap H locs → lv_has ls 5 [(0, .ref (B.2.1 5 (r0) (0))), (1, .int (zI (x1))), (2, .int (zI (x2)))] → W p l e zm_W_ship s m args below meth c H locs 0 0 (MQ below (zQi B res S9) args s 0 0 B.2.2.2) (F0 m 60 ls [])) : ∀ n : Nat, ∀ (x1 : Int) (x2 : Int) (x3 : Int) (S : Sg) (nx1 : zn x1) (nx2 : zn x2) (nx3 : zn x3), zf_W_ship_68 r0 q60 n x1 x2 x3 S = some (res, S9) → ∀ (H : Heap) (locs : List Loc) (ls : Array Slot), zW B S H → va_S B.2.2.2 s.heap H locs → lv_has ls 5 [(0, .ref (B.2.1 5 (r0) (0))), (1, .int (zI (x1))), (2, .int (zI (x2))), (3, .int (zI (x3)))] → W p l e zm_W_ship s m args below meth c H locs 0 0 (MQ below (zQi B res S9) args s 0 0 B.2.2.2) (F0 m 68 ls []) := by
  intro n
  induction n with
  | zero =>
    intro x1 x2 x3 S nx1 nx2 nx3 hf H locs ls hW hS hl
    cases hf
  | succ n ih =>
    intro x1 x2 x3 S nx1 nx2 nx3 hf H locs ls hW hS hl
    rw [zf_W_ship_68] at hf
    refine lv_iload_n C.1 C.2.1 zd_W_ship_68 rfl (lv_at hl 3 rfl) ?_
    refine lv_aload_n C.1 C.2.1 zd_W_ship_69 rfl (lv_at hl 0 rfl) ?_
    refine zg_W_orders (r := r0) C hK hW (zvd_5 hr0 (by decide)) zk_1341 zd_W_ship_70 ?_
    refine zr_icmp_ge (tgt := 137) C nx3 (zWn hW _ _ _ _ rfl) zd_W_ship_73 (by decide) (fun c1 => ?_) (fun c1 => ?_)
    · rw [if_pos c1] at hf
      obtain ⟨v2, ev2, hf⟩ := zlt_some hf
      have nv2 : zn v2 := by rw [← ev2]; exact zn_w _
      refine lv_iinc (v := zI v2) (lv' := [(2, .int (zI (v2))), (0, .ref (B.2.1 5 (r0) (0))), (1, .int (zI (x1))), (3, .int (zI (x3)))]) C.1 C.2.1 zd_W_ship_137 hl (k := 2) rfl (by rw [← ev2, ← zI_add]; rfl) (by decide) rfl (fun ls hl => ?_)
      refine lv_goto (tgt := 60) C.1 C.2.1 zd_W_ship_140 (by decide) ?_
      exact hq60 (x1) (v2) S nx1 nv2 hf _ _ _ hW hS (lv_sub hl [1, 2, 0] rfl)
    · rw [if_neg c1] at hf
      refine lv_aload_n C.1 C.2.1 zd_W_ship_76 rfl (lv_at hl 0 rfl) ?_
      refine zg_W_rank (r := r0) C hK hW (zvd_5 hr0 (by decide)) zk_1337 zd_W_ship_77 ?_
      refine lv_aload_n C.1 C.2.1 zd_W_ship_80 rfl (lv_at hl 0 rfl) ?_
      refine zg_W_orderGood (r := r0) C hK hW (zvd_5 hr0 (by decide)) zk_1343 zd_W_ship_81 ?_
      refine lv_iload_n C.1 C.2.1 zd_W_ship_84 rfl (lv_at hl 3 rfl) ?_
      obtain ⟨h3, hf⟩ := zck_some hf
      refine ziald C hK hW (zvd_5 hr0 (by decide)) (fun f => ze_5_28 B f (r0)) (by decide) h3 zd_W_ship_85 ?_
      obtain ⟨h4, hf⟩ := zck_some hf
      refine ziald C hK hW (zvd_5 hr0 (by decide)) (fun f => ze_5_26 B f (r0)) (by decide) h4 zd_W_ship_86 ?_
      refine lv_iload_n C.1 C.2.1 zd_W_ship_87 rfl (lv_at hl 2 rfl) ?_
      refine zr_icmp_ne (tgt := 131) C (zWn hW _ _ _ _ rfl) nx2 zd_W_ship_88 (by decide) (fun c5 => ?_) (fun c5 => ?_)
      · rw [if_neg c5] at hf
        exact zw_W_ship_131 C hr hlk hK hSt hap r0 hr0 q60 hq60 (zf_W_ship_68 r0 q60 n) (ih) (x1) (x2) (x3) S nx1 nx2 nx3 hf _ _ _ hW hS (lv_sub hl [0, 1, 2, 3] rfl)
      · rw [if_pos c5] at hf
        refine lv_iload_n C.1 C.2.1 zd_W_ship_91 rfl (lv_at hl 1 rfl) ?_
        refine lv_aload_n C.1 C.2.1 zd_W_ship_92 rfl (lv_at hl 0 rfl) ?_
        refine zg_W_orderDue (r := r0) C hK hW (zvd_5 hr0 (by decide)) zk_1345 zd_W_ship_93 ?_
        refine lv_iload_n C.1 C.2.1 zd_W_ship_96 rfl (lv_at hl 3 rfl) ?_
        refine ziald C hK hW (zvd_5 hr0 (by decide)) (fun f => ze_5_29 B f (r0)) (by decide) h3 zd_W_ship_97 ?_
        refine zr_min C hl.1 nx1 (zWn hW _ _ _ _ rfl) zk_1928 zk_909 zk_16 zk_910 (by decide) (Nat.le_of_ble_eq_true rfl) ⟨by decide, by decide⟩ zd_W_ship_98 ?_
        obtain ⟨v6, ev6, hf⟩ := zlt_some hf
        have nv6 : zn v6 := by rw [← ev6]; exact (zn_min nx1 (zWn hW _ _ _ _ rfl))
        rw [ev6]
        refine lv_istore (lv' := [(4, .int (zI (v6))), (0, .ref (B.2.1 5 (r0) (0))), (1, .int (zI (x1))), (2, .int (zI (x2))), (3, .int (zI (x3)))]) C.1 C.2.1 zd_W_ship_101 hl (by decide) rfl (fun ls hl => ?_)
        refine lv_aload_n C.1 C.2.1 zd_W_ship_103 rfl (lv_at hl 1 rfl) ?_
        refine zg_W_orderDue (r := r0) C hK hW (zvd_5 hr0 (by decide)) zk_1345 zd_W_ship_104 ?_
        refine lv_iload_n C.1 C.2.1 zd_W_ship_107 rfl (lv_at hl 4 rfl) ?_
        refine lv_dup2_11 C.1 C.2.1 zd_W_ship_108 rfl rfl ?_
        refine ziald C hK hW (zvd_5 hr0 (by decide)) (fun f => ze_5_29 B f (r0)) (by decide) h3 zd_W_ship_109 ?_
        refine lv_iload C.1 C.2.1 zd_W_ship_110 (lv_at hl 0 rfl) ?_
        refine zr_isub C zd_W_ship_112 ?_
        obtain ⟨S7, eS7, hf⟩ := zlt_some hf
        refine ziast C hK hap hW hS (zvd_5 hr0 (by decide)) (fun f => ze_5_29 B f (r0)) (by decide) rfl (zn_w _) h3 zd_W_ship_113 (fun H locs hW hS => ?_)
        rw [eS7] at hW
        refine lv_iload_n C.1 C.2.1 zd_W_ship_114 rfl (lv_at hl 2 rfl) ?_
        refine lv_iload C.1 C.2.1 zd_W_ship_115 (lv_at hl 0 rfl) ?_
        refine zr_isub C zd_W_ship_117 ?_
        obtain ⟨v8, ev8, hf⟩ := zlt_some hf
        have nv8 : zn v8 := by rw [← ev8]; exact (zn_w _)
        rw [ev8]
        refine lv_istore_n (lv' := [(1, .int (zI (v8))), (4, .int (zI (v6))), (0, .ref (B.2.1 5 (r0) (0))), (2, .int (zI (x2))), (3, .int (zI (x3)))]) C.1 C.2.1 zd_W_ship_118 rfl hl (by decide) rfl (fun ls hl => ?_)
        refine lv_aload_n C.1 C.2.1 zd_W_ship_119 rfl (lv_at hl 2 rfl) ?_
        refine lv_aload_n C.1 C.2.1 zd_W_ship_120 rfl (lv_at hl 2 rfl) ?_
        refine zg_W_orderGood (r := r0) C hK hW (zvd_5 hr0 (by decide)) zk_1343 zd_W_ship_121 ?_
        refine lv_iload_n C.1 C.2.1 zd_W_ship_124 rfl (lv_at hl 4 rfl) ?_
        refine ziald C hK hW (zvd_5 hr0 (by decide)) (fun f => ze_5_28 B f (r0)) (by decide) h3 zd_W_ship_125 ?_
        refine lv_iload C.1 C.2.1 zd_W_ship_126 (lv_at hl 1 rfl) ?_
        obtain ⟨a9, S10, ea9, hf⟩ := zbd_some hf
        refine zcVv (As := [.int (zI (S7 5 r0 28 x3)), .int (zI (v6))]) (rest := []) C hK hSt hW hS (zc_W_stored hap (r0) hr0 (S7 5 r0 28 x3) v6 S7 (zWn hW _ _ _ _ rfl) nv6 ea9) zq_W_stored zk_1924 (zrecv hK hW (zvd_5 hr0 (by decide)) (ze_5_0 B _ (r0)) rfl) ⟨rfl, rfl, by decide, by decide⟩ ⟨by decide, by decide⟩ rfl hl.1 rfl (lv_room (Nat.le_of_ble_eq_true rfl)) zd_W_ship_128 (fun H locs hW hS => ?_)
        exact zw_W_ship_131 C hr hlk hK hSt hap r0 hr0 q60 hq60 (zf_W_ship_68 r0 q60 n) (ih) (v8) (x2) (x3) S10 nv8 nx2 nx3 hf _ _ _ hW hS (lv_sub hl [2, 0, 3, 4] rfl)

def zf_W_ship_60 (r0 : Int) : Nat → Int → Int → Sg → Option (Int × Sg)
  | 0, _, _, _ => none
  | n + 1, x1, x2, S =>
    if 9 < x2 then (some (1, S)) else (zf_W_ship_68 r0 (zf_W_ship_60 r0 n) 4096 (x1) (x2) (0) S)
set_option maxHeartbeats 4000000 in
set_option maxRecDepth 100000 in
theorem zw_W_ship_60 {p : Program} {l : Launch} {e : Env} {s : State} {m : MethodId} {args : Array Value} {below : List Frame} {meth : Method} {c : Code} {B : zB} (C : CallFix p m c zb_W_ship 5 s args zT "IslandOfficeModel$World") (hr : meth.sig.returnType = some .boolean) (hlk : meth.locks = false) (hK : zK B s) (hSt : zSt B s) (hap : zAp B) (r0 : Int) (hr0 : 0 ≤ r0 ∧ r0 < 3) {res : Int} {S9 : Sg} : ∀ n : Nat, ∀ (x1 : Int) (x2 : Int) (S : Sg) (nx1 : zn x1) (nx2 : zn x2), zf_W_ship_60 r0 n x1 x2 S = some (res, S9) → ∀ (H : Heap) (locs : List Loc) (ls : Array Slot), zW B S H → va_S B.2.2.2 s.heap H locs → lv_has ls 5 [(0, .ref (B.2.1 5 (r0) (0))), (1, .int (zI (x1))), (2, .int (zI (x2)))] → W p l e zm_W_ship s m args below meth c H locs 0 0 (MQ below (zQi B res S9) args s 0 0 B.2.2.2) (F0 m 60 ls []) := by
  intro n
  induction n with
  | zero =>
    intro x1 x2 S nx1 nx2 hf H locs ls hW hS hl
    cases hf
  | succ n ih =>
    intro x1 x2 S nx1 nx2 hf H locs ls hW hS hl
    rw [zf_W_ship_60] at hf
    refine lv_iload_n C.1 C.2.1 zd_W_ship_60 rfl (lv_at hl 2 rfl) ?_
    refine zr_bipush C zd_W_ship_61 (by decide) ?_
    refine zr_icmp_gt (tgt := 143) C nx2 (znb rfl) zd_W_ship_63 (by decide) (fun c1 => ?_) (fun c1 => ?_)
    · rw [if_pos c1] at hf
      refine zr_iconst C zd_W_ship_143 ?_
      cases hf
      exact zre_z C hr hlk hK hW hS (znb rfl) (zb01 (by decide)) zd_W_ship_144
    · rw [if_neg c1] at hf
      refine zr_iconst C zd_W_ship_66 ?_
      refine lv_istore_n (lv' := [(3, .int (zI (0))), (0, .ref (B.2.1 5 (r0) (0))), (1, .int (zI (x1))), (2, .int (zI (x2)))]) C.1 C.2.1 zd_W_ship_67 rfl hl (by decide) rfl (fun ls hl => ?_)
      exact zw_W_ship_68 C hr hlk hK hSt hap r0 hr0 (zf_W_ship_60 r0 n) (ih) 4096 (x1) (x2) (0) S nx1 nx2 (znb rfl) hf _ _ _ hW hS (lv_sub hl [1, 2, 3, 0] rfl)

def zf_W_ship (r0 : Int) (S : Sg) : Option (Int × Sg) :=
    if (S 5 r0 0 0) < 4 then (some (0, S)) else (if (zw ((zdiv (S 5 r0 0 0) 4) * 4)) ≤ (S 5 r0 0 41) then (some (0, S)) else (zbd (zf_W_skyOf (r0) 0 (S 5 r0 0 0) S) fun a3 S4 => if a3 ≤ (S4 5 r0 30 1) then (zlt (zu S4 5 r0 0 41 (S4 5 r0 0 0)) fun S6 => zlt (S6 5 r0 30 0) fun v7 => zf_W_ship_60 r0 4096 (v7) (0) S6) else (some (0, S4))))
set_option maxHeartbeats 4000000 in
set_option maxRecDepth 100000 in
theorem zw_W_ship {p : Program} {l : Launch} {e : Env} {s : State} {m : MethodId} {args : Array Value} {below : List Frame} {meth : Method} {c : Code} {B : zB} (C : CallFix p m c zb_W_ship 5 s args zT "IslandOfficeModel$World") (hr : meth.sig.returnType = some .boolean) (hlk : meth.locks = false) (hK : zK B s) (hSt : zSt B s) (hap : zAp B) (r0 : Int) (hr0 : 0 ≤ r0 ∧ r0 < 3) {res : Int} {S9 : Sg} : ∀  (S : Sg) , zf_W_ship r0  S = some (res, S9) → ∀ (H : Heap) (locs : List Loc) (ls : Array Slot), zW B S H → va_S B.2.2.2 s.heap H locs → lv_has ls 5 [(0, .ref (B.2.1 5 (r0) (0)))] → W p l e zm_W_ship s m args below meth c H locs 0 0 (MQ below (zQi B res S9) args s 0 0 B.2.2.2) (F0 m 0 ls []) := by
  intro S hf H locs ls hW hS hl
  unfold zf_W_ship at hf
  refine lv_aload_n C.1 C.2.1 zd_W_ship_0 rfl (lv_at hl 0 rfl) ?_
  refine zg_W_week (r := r0) C hK hW (zvd_5 hr0 (by decide)) zk_1275 zd_W_ship_1 ?_
  refine zr_iconst C zd_W_ship_4 ?_
  refine zr_icmp_lt (tgt := 41) C (zWn hW _ _ _ _ rfl) (znb rfl) zd_W_ship_5 (by decide) (fun c1 => ?_) (fun c1 => ?_)
  · rw [if_pos c1] at hf
    refine zr_iconst C zd_W_ship_41 ?_
    cases hf
    exact zre_z C hr hlk hK hW hS (znb rfl) (zb01 (by decide)) zd_W_ship_42
  · rw [if_neg c1] at hf
    refine lv_aload_n C.1 C.2.1 zd_W_ship_8 rfl (lv_at hl 0 rfl) ?_
    refine zg_W_landed (r := r0) C hK hW (zvd_5 hr0 (by decide)) zk_1357 zd_W_ship_9 ?_
    refine lv_aload_n C.1 C.2.1 zd_W_ship_12 rfl (lv_at hl 0 rfl) ?_
    refine zg_W_week (r := r0) C hK hW (zvd_5 hr0 (by decide)) zk_1275 zd_W_ship_13 ?_
    refine zr_iconst C zd_W_ship_16 ?_
    refine zr_idiv C (zWn hW _ _ _ _ rfl) (znb rfl) (by decide) zd_W_ship_17 ?_
    refine zr_iconst C zd_W_ship_18 ?_
    refine zr_imul C zd_W_ship_19 ?_
    refine zr_icmp_ge (tgt := 41) C (zWn hW _ _ _ _ rfl) (zn_w _) zd_W_ship_20 (by decide) (fun c2 => ?_) (fun c2 => ?_)
    · rw [if_pos c2] at hf
      refine zr_iconst C zd_W_ship_41 ?_
      cases hf
      exact zre_z C hr hlk hK hW hS (znb rfl) (zb01 (by decide)) zd_W_ship_42
    · rw [if_neg c2] at hf
      refine lv_aload_n C.1 C.2.1 zd_W_ship_23 rfl (lv_at hl 0 rfl) ?_
      refine zr_iconst C zd_W_ship_24 ?_
      refine lv_aload_n C.1 C.2.1 zd_W_ship_25 rfl (lv_at hl 0 rfl) ?_
      refine zg_W_week (r := r0) C hK hW (zvd_5 hr0 (by decide)) zk_1275 zd_W_ship_26 ?_
      obtain ⟨a3, S4, ea3, hf⟩ := zbd_some hf
      refine zcVi (As := [.int (zI (0)), .int (zI (S 5 r0 0 0))]) (rest := []) C hK hSt hW hS (zc_W_skyOf hap (r0) hr0 0 (S 5 r0 0 0) S (znb rfl) (zWn hW _ _ _ _ rfl) ea3) zq_W_skyOf zk_1911 (zrecv hK hW (zvd_5 hr0 (by decide)) (ze_5_0 B _ (r0)) rfl) ⟨rfl, rfl, by decide, by decide⟩ ⟨by decide, by decide⟩ rfl hl.1 rfl (lv_room (Nat.le_of_ble_eq_true rfl)) zd_W_ship_29 (fun na3 H locs hW hS => ?_)
      refine lv_aload_n C.1 C.2.1 zd_W_ship_32 rfl (lv_at hl 0 rfl) ?_
      refine zg_W_set (r := r0) C hK hW (zvd_5 hr0 (by decide)) zk_1347 zd_W_ship_33 ?_
      refine zr_iconst C zd_W_ship_36 ?_
      refine ziald C hK hW (zvd_5 hr0 (by decide)) (fun f => ze_5_30 B f (r0)) (by decide) (by decide) zd_W_ship_37 ?_
      refine zr_icmp_le (tgt := 43) C na3 (zWn hW _ _ _ _ rfl) zd_W_ship_38 (by decide) (fun c5 => ?_) (fun c5 => ?_)
      · rw [if_pos c5] at hf
        refine lv_aload_n C.1 C.2.1 zd_W_ship_43 rfl (lv_at hl 0 rfl) ?_
        refine lv_aload_n C.1 C.2.1 zd_W_ship_44 rfl (lv_at hl 0 rfl) ?_
        refine zg_W_week (r := r0) C hK hW (zvd_5 hr0 (by decide)) zk_1275 zd_W_ship_45 ?_
        obtain ⟨S6, eS6, hf⟩ := zlt_some hf
        refine zp_W_landed (r := r0) C hK hap hW hS (zvd_5 hr0 (by decide)) zk_1357 (zWn hW _ _ _ _ rfl) zd_W_ship_48 (fun H locs hW hS => ?_)
        rw [eS6] at hW
        refine lv_aload_n C.1 C.2.1 zd_W_ship_51 rfl (lv_at hl 0 rfl) ?_
        refine zg_W_set (r := r0) C hK hW (zvd_5 hr0 (by decide)) zk_1347 zd_W_ship_52 ?_
        refine zr_iconst C zd_W_ship_55 ?_
        refine ziald C hK hW (zvd_5 hr0 (by decide)) (fun f => ze_5_30 B f (r0)) (by decide) (by decide) zd_W_ship_56 ?_
        obtain ⟨v7, ev7, hf⟩ := zlt_some hf
        have nv7 : zn v7 := by rw [← ev7]; exact (zWn hW _ _ _ _ rfl)
        rw [ev7]
        refine lv_istore_n (lv' := [(1, .int (zI (v7))), (0, .ref (B.2.1 5 (r0) (0)))]) C.1 C.2.1 zd_W_ship_57 rfl hl (by decide) rfl (fun ls hl => ?_)
        refine zr_iconst C zd_W_ship_58 ?_
        refine lv_istore_n (lv' := [(2, .int (zI (0))), (1, .int (zI (v7))), (0, .ref (B.2.1 5 (r0) (0)))]) C.1 C.2.1 zd_W_ship_59 rfl hl (by decide) rfl (fun ls hl => ?_)
        exact zw_W_ship_60 C hr hlk hK hSt hap r0 hr0 4096 (v7) (0) S6 nv7 (znb rfl) hf _ _ _ hW hS (lv_sub hl [2, 1, 0] rfl)
      · rw [if_neg c5] at hf
        refine zr_iconst C zd_W_ship_41 ?_
        cases hf
        exact zre_z C hr hlk hK hW hS (znb rfl) (zb01 (by decide)) zd_W_ship_42

theorem zc_W_ship {l : Launch} {B : zB} (hap : zAp B) (r0 : Int) (hr0 : 0 ≤ r0 ∧ r0 < 3) (S : Sg) {res : Int} {S9 : Sg} (hf : zf_W_ship r0 S = some (res, S9)) : Met l zy_W_ship (Cond.code zy_W_ship zb_W_ship 5 (some .boolean) :: zT) zm_W_ship (zP B S [.ref (B.2.1 5 (r0) (0))]) (zQi B res S9) 0 0 B.2.2.2 :=
  zmet (by decide) (Nat.le_of_ble_eq_true rfl) (fun p e s m args below meth c C hr hlk hK hSt hW ls hl => zw_W_ship C hr hlk hK hSt hap r0 hr0  S  hf _ _ _ hW va_S.rf hl)
/-! IslandOfficeModel$World.useGoods()V -/
abbrev zy_W_useGoods : MethodName := ⟨"IslandOfficeModel$World", "useGoods", "()V"⟩
abbrev zb_W_useGoods : ByteArray := prog_15_method_45_code
abbrev zm_W_useGoods : Room := { frames := 2, cells := 0, slots := 0, locals := 64 }
theorem zq_W_useGoods : zMy zy_W_useGoods zb_W_useGoods 4 (none) 0 := ⟨zk_1941, zk_1940, zs_84, zk_15, by decide, by decide, by decide +kernel⟩
theorem zd_W_useGoods_0 : decode zb_W_useGoods 0 = .ok (.iconst 1, 1) := by decide +kernel
theorem zd_W_useGoods_1 : decode zb_W_useGoods 1 = .ok (.istore_n 1, 1) := by decide +kernel
theorem zd_W_useGoods_2 : decode zb_W_useGoods 2 = .ok (.iload_n 1, 1) := by decide +kernel
theorem zd_W_useGoods_3 : decode zb_W_useGoods 3 = .ok (.iconst 4, 1) := by decide +kernel
theorem zd_W_useGoods_4 : decode zb_W_useGoods 4 = .ok (.if_icmp .ge 90, 3) := by decide +kernel
theorem zd_W_useGoods_7 : decode zb_W_useGoods 7 = .ok (.aload_n 0, 1) := by decide +kernel
theorem zd_W_useGoods_8 : decode zb_W_useGoods 8 = .ok (.getfield 99, 3) := by decide +kernel
theorem zd_W_useGoods_11 : decode zb_W_useGoods 11 = .ok (.iload_n 1, 1) := by decide +kernel
theorem zd_W_useGoods_12 : decode zb_W_useGoods 12 = .ok (.iaload, 1) := by decide +kernel
theorem zd_W_useGoods_13 : decode zb_W_useGoods 13 = .ok (.istore_n 2, 1) := by decide +kernel
theorem zd_W_useGoods_14 : decode zb_W_useGoods 14 = .ok (.iconst 0, 1) := by decide +kernel
theorem zd_W_useGoods_15 : decode zb_W_useGoods 15 = .ok (.istore_n 3, 1) := by decide +kernel
theorem zd_W_useGoods_16 : decode zb_W_useGoods 16 = .ok (.iload_n 1, 1) := by decide +kernel
theorem zd_W_useGoods_17 : decode zb_W_useGoods 17 = .ok (.iconst 1, 1) := by decide +kernel
theorem zd_W_useGoods_18 : decode zb_W_useGoods 18 = .ok (.if_icmp .ne 31, 3) := by decide +kernel
theorem zd_W_useGoods_21 : decode zb_W_useGoods 21 = .ok (.iload_n 3, 1) := by decide +kernel
theorem zd_W_useGoods_22 : decode zb_W_useGoods 22 = .ok (.bipush 12, 2) := by decide +kernel
theorem zd_W_useGoods_24 : decode zb_W_useGoods 24 = .ok (.if_icmp .ge 25, 3) := by decide +kernel
theorem zd_W_useGoods_27 : decode zb_W_useGoods 27 = .ok (.iload_n 2, 1) := by decide +kernel
theorem zd_W_useGoods_28 : decode zb_W_useGoods 28 = .ok (.aload_n 0, 1) := by decide +kernel
theorem zd_W_useGoods_29 : decode zb_W_useGoods 29 = .ok (.iload_n 3, 1) := by decide +kernel
theorem zd_W_useGoods_30 : decode zb_W_useGoods 30 = .ok (.invokevirtual 210, 3) := by decide +kernel
theorem zd_W_useGoods_33 : decode zb_W_useGoods 33 = .ok (.ifCond .le 7, 3) := by decide +kernel
theorem zd_W_useGoods_36 : decode zb_W_useGoods 36 = .ok (.iconst 1, 1) := by decide +kernel
theorem zd_W_useGoods_37 : decode zb_W_useGoods 37 = .ok (.goto 4, 3) := by decide +kernel
theorem zd_W_useGoods_40 : decode zb_W_useGoods 40 = .ok (.iconst 0, 1) := by decide +kernel
theorem zd_W_useGoods_41 : decode zb_W_useGoods 41 = .ok (.iadd, 1) := by decide +kernel
theorem zd_W_useGoods_42 : decode zb_W_useGoods 42 = .ok (.istore_n 2, 1) := by decide +kernel
theorem zd_W_useGoods_43 : decode zb_W_useGoods 43 = .ok (.iinc 3 1, 3) := by decide +kernel
theorem zd_W_useGoods_46 : decode zb_W_useGoods 46 = .ok (.goto (-30), 3) := by decide +kernel
theorem zd_W_useGoods_49 : decode zb_W_useGoods 49 = .ok (.aload_n 0, 1) := by decide +kernel
theorem zd_W_useGoods_50 : decode zb_W_useGoods 50 = .ok (.getfield 129, 3) := by decide +kernel
theorem zd_W_useGoods_53 : decode zb_W_useGoods 53 = .ok (.iload_n 1, 1) := by decide +kernel
theorem zd_W_useGoods_54 : decode zb_W_useGoods 54 = .ok (.aload_n 0, 1) := by decide +kernel
theorem zd_W_useGoods_55 : decode zb_W_useGoods 55 = .ok (.getfield 93, 3) := by decide +kernel
theorem zd_W_useGoods_58 : decode zb_W_useGoods 58 = .ok (.iload_n 1, 1) := by decide +kernel
theorem zd_W_useGoods_59 : decode zb_W_useGoods 59 = .ok (.iaload, 1) := by decide +kernel
theorem zd_W_useGoods_60 : decode zb_W_useGoods 60 = .ok (.iload_n 2, 1) := by decide +kernel
theorem zd_W_useGoods_61 : decode zb_W_useGoods 61 = .ok (.if_icmp .ge 7, 3) := by decide +kernel
theorem zd_W_useGoods_64 : decode zb_W_useGoods 64 = .ok (.iconst 1, 1) := by decide +kernel
theorem zd_W_useGoods_65 : decode zb_W_useGoods 65 = .ok (.goto 4, 3) := by decide +kernel
theorem zd_W_useGoods_68 : decode zb_W_useGoods 68 = .ok (.iconst 0, 1) := by decide +kernel
theorem zd_W_useGoods_69 : decode zb_W_useGoods 69 = .ok (.iastore, 1) := by decide +kernel
theorem zd_W_useGoods_70 : decode zb_W_useGoods 70 = .ok (.aload_n 0, 1) := by decide +kernel
theorem zd_W_useGoods_71 : decode zb_W_useGoods 71 = .ok (.getfield 93, 3) := by decide +kernel
theorem zd_W_useGoods_74 : decode zb_W_useGoods 74 = .ok (.iload_n 1, 1) := by decide +kernel
theorem zd_W_useGoods_75 : decode zb_W_useGoods 75 = .ok (.iconst 0, 1) := by decide +kernel
theorem zd_W_useGoods_76 : decode zb_W_useGoods 76 = .ok (.aload_n 0, 1) := by decide +kernel
theorem zd_W_useGoods_77 : decode zb_W_useGoods 77 = .ok (.getfield 93, 3) := by decide +kernel
theorem zd_W_useGoods_80 : decode zb_W_useGoods 80 = .ok (.iload_n 1, 1) := by decide +kernel
theorem zd_W_useGoods_81 : decode zb_W_useGoods 81 = .ok (.iaload, 1) := by decide +kernel
theorem zd_W_useGoods_82 : decode zb_W_useGoods 82 = .ok (.iload_n 2, 1) := by decide +kernel
theorem zd_W_useGoods_83 : decode zb_W_useGoods 83 = .ok (.isub, 1) := by decide +kernel
theorem zd_W_useGoods_84 : decode zb_W_useGoods 84 = .ok (.invokestatic 309, 3) := by decide +kernel
theorem zd_W_useGoods_87 : decode zb_W_useGoods 87 = .ok (.iastore, 1) := by decide +kernel
theorem zd_W_useGoods_88 : decode zb_W_useGoods 88 = .ok (.iinc 1 1, 3) := by decide +kernel
theorem zd_W_useGoods_91 : decode zb_W_useGoods 91 = .ok (.goto (-89), 3) := by decide +kernel
theorem zd_W_useGoods_94 : decode zb_W_useGoods 94 = .ok (.return_, 1) := by decide +kernel

def zf_W_useGoods_69 (r0 : Int) (q2 : Int → Sg → Option (Int × Sg)) (x1 : Int) (x2 : Int) (xt1 : Int) (xt2 : Int) (S : Sg) : Option (Int × Sg) :=
    zck (0 ≤ xt1 ∧ xt1 < 4) <| zlt (zu S 5 r0 34 xt1 xt2) fun S2 => zck (0 ≤ x1 ∧ x1 < 4) <| zlt (zu S2 5 r0 25 x1 (max 0 (zw ((S2 5 r0 25 x1) - x2)))) fun S4 => zlt (zw (x1 + 1)) fun v5 => q2 (v5) S4
set_option maxHeartbeats 4000000 in
set_option maxRecDepth 100000 in
theorem zw_W_useGoods_69 {p : Program} {l : Launch} {e : Env} {s : State} {m : MethodId} {args : Array Value} {below : List Frame} {meth : Method} {c : Code} {B : zB} (C : CallFix p m c zb_W_useGoods 4 s args zT "IslandOfficeModel$World") (hr : meth.sig.returnType = none) (hlk : meth.locks = false) (hK : zK B s) (hSt : zSt B s) (hap : zAp B) (r0 : Int) (hr0 : 0 ≤ r0 ∧ r0 < 3) {res : Int} {S9 : Sg} (q2 : Int → Sg → Option (Int × Sg)) (hq2 : ∀ (x1 : Int) (S : Sg) (nx1 : zn x1), q2 x1 S = some (res, S9) → ∀ (H : Heap) (locs : List Loc) (ls : Array Slot), zW B S H → va_S B.2.2.2 s.heap H locs → lv_has ls 4 [(0, .ref (B.2.1 5 (r0) (0))), (1, .int (zI (x1)))] → W p l e zm_W_useGoods s m args below meth c H locs 0 0 (MQ below (zQv B S9) args s 0 0 B.2.2.2) (F0 m 2 ls [])) : ∀ (x1 : Int) (x2 : Int) (xt1 : Int) (xt2 : Int) (S : Sg) (nx1 : zn x1) (nx2 : zn x2) (nxt1 : zn xt1) (nxt2 : zn xt2), zf_W_useGoods_69 r0 q2 x1 x2 xt1 xt2 S = some (res, S9) → ∀ (H : Heap) (locs : List Loc) (ls : Array Slot), zW B S H → va_S B.2.2.2 s.heap H locs → lv_has ls 4 [(0, .ref (B.2.1 5 (r0) (0))), (1, .int (zI (x1))), (2, .int (zI (x2)))] → W p l e zm_W_useGoods s m args below meth c H locs 0 0 (MQ below (zQv B S9) args s 0 0 B.2.2.2) (F0 m 69 ls [.int (zI (xt2)), .int (zI (xt1)), .ref (B.2.1 5 (r0) (34))]) := by
  intro x1 x2 xt1 xt2 S nx1 nx2 nxt1 nxt2 hf H locs ls hW hS hl
  unfold zf_W_useGoods_69 at hf
  obtain ⟨h1, hf⟩ := zck_some hf
  obtain ⟨S2, eS2, hf⟩ := zlt_some hf
  refine ziast C hK hap hW hS (zvd_5 hr0 (by decide)) (fun f => ze_5_34 B f (r0)) (by decide) rfl nxt2 h1 zd_W_useGoods_69 (fun H locs hW hS => ?_)
  rw [eS2] at hW
  refine lv_aload_n C.1 C.2.1 zd_W_useGoods_70 rfl (lv_at hl 0 rfl) ?_
  refine zg_W_store (r := r0) C hK hW (zvd_5 hr0 (by decide)) zk_1335 zd_W_useGoods_71 ?_
  refine lv_iload_n C.1 C.2.1 zd_W_useGoods_74 rfl (lv_at hl 1 rfl) ?_
  refine zr_iconst C zd_W_useGoods_75 ?_
  refine lv_aload_n C.1 C.2.1 zd_W_useGoods_76 rfl (lv_at hl 0 rfl) ?_
  refine zg_W_store (r := r0) C hK hW (zvd_5 hr0 (by decide)) zk_1335 zd_W_useGoods_77 ?_
  refine lv_iload_n C.1 C.2.1 zd_W_useGoods_80 rfl (lv_at hl 1 rfl) ?_
  obtain ⟨h3, hf⟩ := zck_some hf
  refine ziald C hK hW (zvd_5 hr0 (by decide)) (fun f => ze_5_25 B f (r0)) (by decide) h3 zd_W_useGoods_81 ?_
  refine lv_iload_n C.1 C.2.1 zd_W_useGoods_82 rfl (lv_at hl 2 rfl) ?_
  refine zr_isub C zd_W_useGoods_83 ?_
  refine zr_max C hl.1 (znb rfl) (zn_w _) zk_1898 zk_678 zk_16 zk_679 (by decide) (Nat.le_of_ble_eq_true rfl) ⟨by decide, by decide⟩ zd_W_useGoods_84 ?_
  obtain ⟨S4, eS4, hf⟩ := zlt_some hf
  refine ziast C hK hap hW hS (zvd_5 hr0 (by decide)) (fun f => ze_5_25 B f (r0)) (by decide) rfl (zn_max (znb rfl) (zn_w _)) h3 zd_W_useGoods_87 (fun H locs hW hS => ?_)
  rw [eS4] at hW
  obtain ⟨v5, ev5, hf⟩ := zlt_some hf
  have nv5 : zn v5 := by rw [← ev5]; exact zn_w _
  refine lv_iinc (v := zI v5) (lv' := [(1, .int (zI (v5))), (0, .ref (B.2.1 5 (r0) (0))), (2, .int (zI (x2)))]) C.1 C.2.1 zd_W_useGoods_88 hl (k := 1) rfl (by rw [← ev5, ← zI_add]; rfl) (by decide) rfl (fun ls hl => ?_)
  refine lv_goto (tgt := 2) C.1 C.2.1 zd_W_useGoods_91 (by decide) ?_
  exact hq2 (v5) S4 nv5 hf _ _ _ hW hS (lv_sub hl [1, 0] rfl)

def zf_W_useGoods_49 (r0 : Int) (q2 : Int → Sg → Option (Int × Sg)) (x1 : Int) (x2 : Int) (S : Sg) : Option (Int × Sg) :=
    zck (0 ≤ x1 ∧ x1 < 4) <| if x2 ≤ (S 5 r0 25 x1) then (zf_W_useGoods_69 r0 q2 (x1) (x2) (x1) (0) S) else (zf_W_useGoods_69 r0 q2 (x1) (x2) (x1) (1) S)
set_option maxHeartbeats 4000000 in
set_option maxRecDepth 100000 in
theorem zw_W_useGoods_49 {p : Program} {l : Launch} {e : Env} {s : State} {m : MethodId} {args : Array Value} {below : List Frame} {meth : Method} {c : Code} {B : zB} (C : CallFix p m c zb_W_useGoods 4 s args zT "IslandOfficeModel$World") (hr : meth.sig.returnType = none) (hlk : meth.locks = false) (hK : zK B s) (hSt : zSt B s) (hap : zAp B) (r0 : Int) (hr0 : 0 ≤ r0 ∧ r0 < 3) {res : Int} {S9 : Sg} (q2 : Int → Sg → Option (Int × Sg)) (hq2 : ∀ (x1 : Int) (S : Sg) (nx1 : zn x1), q2 x1 S = some (res, S9) → ∀ (H : Heap) (locs : List Loc) (ls : Array Slot), zW B S H → va_S B.2.2.2 s.heap H locs → lv_has ls 4 [(0, .ref (B.2.1 5 (r0) (0))), (1, .int (zI (x1)))] → W p l e zm_W_useGoods s m args below meth c H locs 0 0 (MQ below (zQv B S9) args s 0 0 B.2.2.2) (F0 m 2 ls [])) : ∀ (x1 : Int) (x2 : Int) (S : Sg) (nx1 : zn x1) (nx2 : zn x2), zf_W_useGoods_49 r0 q2 x1 x2 S = some (res, S9) → ∀ (H : Heap) (locs : List Loc) (ls : Array Slot), zW B S H → va_S B.2.2.2 s.heap H locs → lv_has ls 4 [(0, .ref (B.2.1 5 (r0) (0))), (1, .int (zI (x1))), (2, .int (zI (x2)))] → W p l e zm_W_useGoods s m args below meth c H locs 0 0 (MQ below (zQv B S9) args s 0 0 B.2.2.2) (F0 m 49 ls []) := by
  intro x1 x2 S nx1 nx2 hf H locs ls hW hS hl
  unfold zf_W_useGoods_49 at hf
  refine lv_aload_n C.1 C.2.1 zd_W_useGoods_49 rfl (lv_at hl 0 rfl) ?_
  refine zg_W_lacking (r := r0) C hK hW (zvd_5 hr0 (by decide)) zk_1367 zd_W_useGoods_50 ?_
  refine lv_iload_n C.1 C.2.1 zd_W_useGoods_53 rfl (lv_at hl 1 rfl) ?_
  refine lv_aload_n C.1 C.2.1 zd_W_useGoods_54 rfl (lv_at hl 0 rfl) ?_
  refine zg_W_store (r := r0) C hK hW (zvd_5 hr0 (by decide)) zk_1335 zd_W_useGoods_55 ?_
  refine lv_iload_n C.1 C.2.1 zd_W_useGoods_58 rfl (lv_at hl 1 rfl) ?_
  obtain ⟨h1, hf⟩ := zck_some hf
  refine ziald C hK hW (zvd_5 hr0 (by decide)) (fun f => ze_5_25 B f (r0)) (by decide) h1 zd_W_useGoods_59 ?_
  refine lv_iload_n C.1 C.2.1 zd_W_useGoods_60 rfl (lv_at hl 2 rfl) ?_
  refine zr_icmp_ge (tgt := 68) C (zWn hW _ _ _ _ rfl) nx2 zd_W_useGoods_61 (by decide) (fun c2 => ?_) (fun c2 => ?_)
  · rw [if_pos c2] at hf
    refine zr_iconst C zd_W_useGoods_68 ?_
    exact zw_W_useGoods_69 C hr hlk hK hSt hap r0 hr0 q2 hq2 (x1) (x2) (x1) (0) S nx1 nx2 nx1 (znb rfl) hf _ _ _ hW hS (lv_sub hl [0, 1, 2] rfl)
  · rw [if_neg c2] at hf
    refine zr_iconst C zd_W_useGoods_64 ?_
    refine lv_goto (tgt := 69) C.1 C.2.1 zd_W_useGoods_65 (by decide) ?_
    exact zw_W_useGoods_69 C hr hlk hK hSt hap r0 hr0 q2 hq2 (x1) (x2) (x1) (1) S nx1 nx2 nx1 (znb rfl) hf _ _ _ hW hS (lv_sub hl [0, 1, 2] rfl)

def zf_W_useGoods_41 (r0 : Int) (q2 : Int → Sg → Option (Int × Sg)) (q16 : Int → Int → Int → Sg → Option (Int × Sg)) (x1 : Int) (x3 : Int) (xt0 : Int) (xt1 : Int) (S : Sg) : Option (Int × Sg) :=
    zlt (zw (xt0 + xt1)) fun v1 => zlt (zw (x3 + 1)) fun v2 => q16 (x1) (v1) (v2) S
set_option maxHeartbeats 4000000 in
set_option maxRecDepth 100000 in
theorem zw_W_useGoods_41 {p : Program} {l : Launch} {e : Env} {s : State} {m : MethodId} {args : Array Value} {below : List Frame} {meth : Method} {c : Code} {B : zB} (C : CallFix p m c zb_W_useGoods 4 s args zT "IslandOfficeModel$World") (hr : meth.sig.returnType = none) (hlk : meth.locks = false) (hK : zK B s) (hSt : zSt B s) (hap : zAp B) (r0 : Int) (hr0 : 0 ≤ r0 ∧ r0 < 3) {res : Int} {S9 : Sg} (q2 : Int → Sg → Option (Int × Sg)) (hq2 : ∀ (x1 : Int) (S : Sg) (nx1 : zn x1), q2 x1 S = some (res, S9) → ∀ (H : Heap) (locs : List Loc) (ls : Array Slot), zW B S H → va_S B.2.2.2 s.heap H locs → lv_has ls 4 [(0, .ref (B.2.1 5 (r0) (0))), (1, .int (zI (x1)))] → W p l e zm_W_useGoods s m args below meth c H locs 0 0 (MQ below (zQv B S9) args s 0 0 B.2.2.2) (F0 m 2 ls [])) (q16 : Int → Int → Int → Sg → Option (Int × Sg)) (hq16 : ∀ (x1 : Int) (x2 : Int) (x3 : Int) (S : Sg) (nx1 : zn x1) (nx2 : zn x2) (nx3 : zn x3), q16 x1 x2 x3 S = some (res, S9) → ∀ (H : Heap) (locs : List Loc) (ls : Array Slot), zW B S H → va_S B.2.2.2 s.heap H locs → lv_has ls 4 [(0, .ref (B.2.1 5 (r0) (0))), (1, .int (zI (x1))), (2, .int (zI (x2))), (3, .int (zI (x3)))] → W p l e zm_W_useGoods s m args below meth c H locs 0 0 (MQ below (zQv B S9) args s 0 0 B.2.2.2) (F0 m 16 ls [])) : ∀ (x1 : Int) (x3 : Int) (xt0 : Int) (xt1 : Int) (S : Sg) (nx1 : zn x1) (nx3 : zn x3) (nxt0 : zn xt0) (nxt1 : zn xt1), zf_W_useGoods_41 r0 q2 q16 x1 x3 xt0 xt1 S = some (res, S9) → ∀ (H : Heap) (locs : List Loc) (ls : Array Slot), zW B S H → va_S B.2.2.2 s.heap H locs → lv_has ls 4 [(0, .ref (B.2.1 5 (r0) (0))), (1, .int (zI (x1))), (3, .int (zI (x3)))] → W p l e zm_W_useGoods s m args below meth c H locs 0 0 (MQ below (zQv B S9) args s 0 0 B.2.2.2) (F0 m 41 ls [.int (zI (xt1)), .int (zI (xt0))]) := by
  intro x1 x3 xt0 xt1 S nx1 nx3 nxt0 nxt1 hf H locs ls hW hS hl
  unfold zf_W_useGoods_41 at hf
  refine zr_iadd C zd_W_useGoods_41 ?_
  obtain ⟨v1, ev1, hf⟩ := zlt_some hf
  have nv1 : zn v1 := by rw [← ev1]; exact (zn_w _)
  rw [ev1]
  refine lv_istore_n (lv' := [(2, .int (zI (v1))), (0, .ref (B.2.1 5 (r0) (0))), (1, .int (zI (x1))), (3, .int (zI (x3)))]) C.1 C.2.1 zd_W_useGoods_42 rfl hl (by decide) rfl (fun ls hl => ?_)
  obtain ⟨v2, ev2, hf⟩ := zlt_some hf
  have nv2 : zn v2 := by rw [← ev2]; exact zn_w _
  refine lv_iinc (v := zI v2) (lv' := [(3, .int (zI (v2))), (2, .int (zI (v1))), (0, .ref (B.2.1 5 (r0) (0))), (1, .int (zI (x1)))]) C.1 C.2.1 zd_W_useGoods_43 hl (k := 3) rfl (by rw [← ev2, ← zI_add]; rfl) (by decide) rfl (fun ls hl => ?_)
  refine lv_goto (tgt := 16) C.1 C.2.1 zd_W_useGoods_46 (by decide) ?_
  exact hq16 (x1) (v1) (v2) S nx1 nv1 nv2 hf _ _ _ hW hS (lv_sub hl [2, 3, 1, 0] rfl)

def zf_W_useGoods_16 (r0 : Int) (q2 : Int → Sg → Option (Int × Sg)) : Nat → Int → Int → Int → Sg → Option (Int × Sg)
  | 0, _, _, _, _ => none
  | n + 1, x1, x2, x3, S =>
    if x1 = 1 then (if 12 ≤ x3 then (zf_W_useGoods_49 r0 q2 (x1) (x2) S) else (zbd (zf_W_heads (r0) x3 S) fun a3 S4 => if a3 ≤ 0 then (zf_W_useGoods_41 r0 q2 (zf_W_useGoods_16 r0 q2 n) (x1) (x3) (x2) (0) S4) else (zf_W_useGoods_41 r0 q2 (zf_W_useGoods_16 r0 q2 n) (x1) (x3) (x2) (1) S4))) else (zf_W_useGoods_49 r0 q2 (x1) (x2) S)
set_option maxHeartbeats 4000000 in
set_option maxRecDepth 100000 in
theorem zw_W_useGoods_16 {p : Program} {l : Launch} {e : Env} {s : State} {m : MethodId} {args : Array Value} {below : List Frame} {meth : Method} {c : Code} {B : zB} (C : CallFix p m c zb_W_useGoods 4 s args zT "IslandOfficeModel$World") (hr : meth.sig.returnType = none) (hlk : meth.locks = false) (hK : zK B s) (hSt : zSt B s) (hap : zAp B) (r0 : Int) (hr0 : 0 ≤ r0 ∧ r0 < 3) {res : Int} {S9 : Sg} (q2 : Int → Sg → Option (Int × Sg)) (hq2 : ∀ (x1 : Int) (S : Sg) (nx1 : zn x1), q2 x1 S = some (res, S9) → ∀ (H : Heap) (locs : List Loc) (ls : Array Slot), zW B S H → va_S B.2.2.2 s.heap H locs → lv_has ls 4 [(0, .ref (B.2.1 5 (r0) (0))), (1, .int (zI (x1)))] → W p l e zm_W_useGoods s m args below meth c H locs 0 0 (MQ below (zQv B S9) args s 0 0 B.2.2.2) (F0 m 2 ls [])) : ∀ n : Nat, ∀ (x1 : Int) (x2 : Int) (x3 : Int) (S : Sg) (nx1 : zn x1) (nx2 : zn x2) (nx3 : zn x3), zf_W_useGoods_16 r0 q2 n x1 x2 x3 S = some (res, S9) → ∀ (H : Heap) (locs : List Loc) (ls : Array Slot), zW B S H → va_S B.2.2.2 s.heap H locs → lv_has ls 4 [(0, .ref (B.2.1 5 (r0) (0))), (1, .int (zI (x1))), (2, .int (zI (x2))), (3, .int (zI (x3)))] → W p l e zm_W_useGoods s m args below meth c H locs 0 0 (MQ below (zQv B S9) args s 0 0 B.2.2.2) (F0 m 16 ls []) := by
  intro n
  induction n with
  | zero =>
    intro x1 x2 x3 S nx1 nx2 nx3 hf H locs ls hW hS hl
    cases hf
  | succ n ih =>
    intro x1 x2 x3 S nx1 nx2 nx3 hf H locs ls hW hS hl
    rw [zf_W_useGoods_16] at hf
    refine lv_iload_n C.1 C.2.1 zd_W_useGoods_16 rfl (lv_at hl 1 rfl) ?_
    refine zr_iconst C zd_W_useGoods_17 ?_
    refine zr_icmp_ne (tgt := 49) C nx1 (znb rfl) zd_W_useGoods_18 (by decide) (fun c1 => ?_) (fun c1 => ?_)
    · rw [if_neg c1] at hf
      exact zw_W_useGoods_49 C hr hlk hK hSt hap r0 hr0 q2 hq2 (x1) (x2) S nx1 nx2 hf _ _ _ hW hS (lv_sub hl [0, 1, 2] rfl)
    · rw [if_pos c1] at hf
      refine lv_iload_n C.1 C.2.1 zd_W_useGoods_21 rfl (lv_at hl 3 rfl) ?_
      refine zr_bipush C zd_W_useGoods_22 (by decide) ?_
      refine zr_icmp_ge (tgt := 49) C nx3 (znb rfl) zd_W_useGoods_24 (by decide) (fun c2 => ?_) (fun c2 => ?_)
      · rw [if_pos c2] at hf
        exact zw_W_useGoods_49 C hr hlk hK hSt hap r0 hr0 q2 hq2 (x1) (x2) S nx1 nx2 hf _ _ _ hW hS (lv_sub hl [0, 1, 2] rfl)
      · rw [if_neg c2] at hf
        refine lv_iload_n C.1 C.2.1 zd_W_useGoods_27 rfl (lv_at hl 2 rfl) ?_
        refine lv_aload_n C.1 C.2.1 zd_W_useGoods_28 rfl (lv_at hl 0 rfl) ?_
        refine lv_iload_n C.1 C.2.1 zd_W_useGoods_29 rfl (lv_at hl 3 rfl) ?_
        obtain ⟨a3, S4, ea3, hf⟩ := zbd_some hf
        refine zcVi (As := [.int (zI (x3))]) (rest := [.int (zI (x2))]) C hK hSt hW hS (zc_W_heads hap (r0) hr0 x3 S nx3 ea3) zq_W_heads zk_1741 (zrecv hK hW (zvd_5 hr0 (by decide)) (ze_5_0 B _ (r0)) rfl) ⟨rfl, rfl, by decide, by decide⟩ ⟨by decide, by decide⟩ rfl hl.1 rfl (lv_room (Nat.le_of_ble_eq_true rfl)) zd_W_useGoods_30 (fun na3 H locs hW hS => ?_)
        refine zr_if_le (tgt := 40) C na3 zd_W_useGoods_33 (by decide) (fun c5 => ?_) (fun c5 => ?_)
        · rw [if_pos c5] at hf
          refine zr_iconst C zd_W_useGoods_40 ?_
          exact zw_W_useGoods_41 C hr hlk hK hSt hap r0 hr0 q2 hq2 (zf_W_useGoods_16 r0 q2 n) (ih) (x1) (x3) (x2) (0) S4 nx1 nx3 nx2 (znb rfl) hf _ _ _ hW hS (lv_sub hl [0, 1, 3] rfl)
        · rw [if_neg c5] at hf
          refine zr_iconst C zd_W_useGoods_36 ?_
          refine lv_goto (tgt := 41) C.1 C.2.1 zd_W_useGoods_37 (by decide) ?_
          exact zw_W_useGoods_41 C hr hlk hK hSt hap r0 hr0 q2 hq2 (zf_W_useGoods_16 r0 q2 n) (ih) (x1) (x3) (x2) (1) S4 nx1 nx3 nx2 (znb rfl) hf _ _ _ hW hS (lv_sub hl [0, 1, 3] rfl)

def zf_W_useGoods_2 (r0 : Int) : Nat → Int → Sg → Option (Int × Sg)
  | 0, _, _ => none
  | n + 1, x1, S =>
    if 4 ≤ x1 then (some (0, S)) else (zck (0 ≤ x1 ∧ x1 < 4) <| zlt (S 5 r0 27 x1) fun v3 => zf_W_useGoods_16 r0 (zf_W_useGoods_2 r0 n) 4096 (x1) (v3) (0) S)
set_option maxHeartbeats 4000000 in
set_option maxRecDepth 100000 in
theorem zw_W_useGoods_2 {p : Program} {l : Launch} {e : Env} {s : State} {m : MethodId} {args : Array Value} {below : List Frame} {meth : Method} {c : Code} {B : zB} (C : CallFix p m c zb_W_useGoods 4 s args zT "IslandOfficeModel$World") (hr : meth.sig.returnType = none) (hlk : meth.locks = false) (hK : zK B s) (hSt : zSt B s) (hap : zAp B) (r0 : Int) (hr0 : 0 ≤ r0 ∧ r0 < 3) {res : Int} {S9 : Sg} : ∀ n : Nat, ∀ (x1 : Int) (S : Sg) (nx1 : zn x1), zf_W_useGoods_2 r0 n x1 S = some (res, S9) → ∀ (H : Heap) (locs : List Loc) (ls : Array Slot), zW B S H → va_S B.2.2.2 s.heap H locs → lv_has ls 4 [(0, .ref (B.2.1 5 (r0) (0))), (1, .int (zI (x1)))] → W p l e zm_W_useGoods s m args below meth c H locs 0 0 (MQ below (zQv B S9) args s 0 0 B.2.2.2) (F0 m 2 ls []) := by
  intro n
  induction n with
  | zero =>
    intro x1 S nx1 hf H locs ls hW hS hl
    cases hf
  | succ n ih =>
    intro x1 S nx1 hf H locs ls hW hS hl
    rw [zf_W_useGoods_2] at hf
    refine lv_iload_n C.1 C.2.1 zd_W_useGoods_2 rfl (lv_at hl 1 rfl) ?_
    refine zr_iconst C zd_W_useGoods_3 ?_
    refine zr_icmp_ge (tgt := 94) C nx1 (znb rfl) zd_W_useGoods_4 (by decide) (fun c1 => ?_) (fun c1 => ?_)
    · rw [if_pos c1] at hf
      cases hf
      exact zre_v C hr hlk hK hW hS zd_W_useGoods_94
    · rw [if_neg c1] at hf
      refine lv_aload_n C.1 C.2.1 zd_W_useGoods_7 rfl (lv_at hl 0 rfl) ?_
      refine zg_W_use (r := r0) C hK hW (zvd_5 hr0 (by decide)) zk_1339 zd_W_useGoods_8 ?_
      refine lv_iload_n C.1 C.2.1 zd_W_useGoods_11 rfl (lv_at hl 1 rfl) ?_
      obtain ⟨h2, hf⟩ := zck_some hf
      refine ziald C hK hW (zvd_5 hr0 (by decide)) (fun f => ze_5_27 B f (r0)) (by decide) h2 zd_W_useGoods_12 ?_
      obtain ⟨v3, ev3, hf⟩ := zlt_some hf
      have nv3 : zn v3 := by rw [← ev3]; exact (zWn hW _ _ _ _ rfl)
      rw [ev3]
      refine lv_istore_n (lv' := [(2, .int (zI (v3))), (0, .ref (B.2.1 5 (r0) (0))), (1, .int (zI (x1)))]) C.1 C.2.1 zd_W_useGoods_13 rfl hl (by decide) rfl (fun ls hl => ?_)
      refine zr_iconst C zd_W_useGoods_14 ?_
      refine lv_istore_n (lv' := [(3, .int (zI (0))), (2, .int (zI (v3))), (0, .ref (B.2.1 5 (r0) (0))), (1, .int (zI (x1)))]) C.1 C.2.1 zd_W_useGoods_15 rfl hl (by decide) rfl (fun ls hl => ?_)
      exact zw_W_useGoods_16 C hr hlk hK hSt hap r0 hr0 (zf_W_useGoods_2 r0 n) (ih) 4096 (x1) (v3) (0) S nx1 nv3 (znb rfl) hf _ _ _ hW hS (lv_sub hl [2, 3, 1, 0] rfl)

def zf_W_useGoods (r0 : Int) (S : Sg) : Option (Int × Sg) :=
    zf_W_useGoods_2 r0 4096 (1) S
set_option maxHeartbeats 4000000 in
set_option maxRecDepth 100000 in
theorem zw_W_useGoods {p : Program} {l : Launch} {e : Env} {s : State} {m : MethodId} {args : Array Value} {below : List Frame} {meth : Method} {c : Code} {B : zB} (C : CallFix p m c zb_W_useGoods 4 s args zT "IslandOfficeModel$World") (hr : meth.sig.returnType = none) (hlk : meth.locks = false) (hK : zK B s) (hSt : zSt B s) (hap : zAp B) (r0 : Int) (hr0 : 0 ≤ r0 ∧ r0 < 3) {res : Int} {S9 : Sg} : ∀  (S : Sg) , zf_W_useGoods r0  S = some (res, S9) → ∀ (H : Heap) (locs : List Loc) (ls : Array Slot), zW B S H → va_S B.2.2.2 s.heap H locs → lv_has ls 4 [(0, .ref (B.2.1 5 (r0) (0)))] → W p l e zm_W_useGoods s m args below meth c H locs 0 0 (MQ below (zQv B S9) args s 0 0 B.2.2.2) (F0 m 0 ls []) := by
  intro S hf H locs ls hW hS hl
  unfold zf_W_useGoods at hf
  refine zr_iconst C zd_W_useGoods_0 ?_
  refine lv_istore_n (lv' := [(1, .int (zI (1))), (0, .ref (B.2.1 5 (r0) (0)))]) C.1 C.2.1 zd_W_useGoods_1 rfl hl (by decide) rfl (fun ls hl => ?_)
  exact zw_W_useGoods_2 C hr hlk hK hSt hap r0 hr0 4096 (1) S (znb rfl) hf _ _ _ hW hS (lv_sub hl [1, 0] rfl)

theorem zc_W_useGoods {l : Launch} {B : zB} (hap : zAp B) (r0 : Int) (hr0 : 0 ≤ r0 ∧ r0 < 3) (S : Sg) {res : Int} {S9 : Sg} (hf : zf_W_useGoods r0 S = some (res, S9)) : Met l zy_W_useGoods (Cond.code zy_W_useGoods zb_W_useGoods 4 (none) :: zT) zm_W_useGoods (zP B S [.ref (B.2.1 5 (r0) (0))]) (zQv B S9) 0 0 B.2.2.2 :=
  zmet (by decide) (Nat.le_of_ble_eq_true rfl) (fun p e s m args below meth c C hr hlk hK hSt hW ls hl => zw_W_useGoods C hr hlk hK hSt hap r0 hr0  S  hf _ _ _ hW va_S.rf hl)
/-! IslandOfficeModel$World.anyFilled(I)Z -/
abbrev zy_W_anyFilled : MethodName := ⟨"IslandOfficeModel$World", "anyFilled", "(I)Z"⟩
abbrev zb_W_anyFilled : ByteArray := prog_15_method_35_code
abbrev zm_W_anyFilled : Room := { frames := 0, cells := 0, slots := 0, locals := 0 }
theorem zq_W_anyFilled : zMy zy_W_anyFilled zb_W_anyFilled 3 (some .boolean) 1 := ⟨zk_1949, zk_1948, zs_86, zk_15, by decide, by decide, by decide +kernel⟩
theorem zd_W_anyFilled_0 : decode zb_W_anyFilled 0 = .ok (.iconst 0, 1) := by decide +kernel
theorem zd_W_anyFilled_1 : decode zb_W_anyFilled 1 = .ok (.istore_n 2, 1) := by decide +kernel
theorem zd_W_anyFilled_2 : decode zb_W_anyFilled 2 = .ok (.iload_n 2, 1) := by decide +kernel
theorem zd_W_anyFilled_3 : decode zb_W_anyFilled 3 = .ok (.aload_n 0, 1) := by decide +kernel
theorem zd_W_anyFilled_4 : decode zb_W_anyFilled 4 = .ok (.getfield 168, 3) := by decide +kernel
theorem zd_W_anyFilled_7 : decode zb_W_anyFilled 7 = .ok (.if_icmp .ge 30, 3) := by decide +kernel
theorem zd_W_anyFilled_10 : decode zb_W_anyFilled 10 = .ok (.aload_n 0, 1) := by decide +kernel
theorem zd_W_anyFilled_11 : decode zb_W_anyFilled 11 = .ok (.getfield 142, 3) := by decide +kernel
theorem zd_W_anyFilled_14 : decode zb_W_anyFilled 14 = .ok (.iload_n 2, 1) := by decide +kernel
theorem zd_W_anyFilled_15 : decode zb_W_anyFilled 15 = .ok (.baload, 1) := by decide +kernel
theorem zd_W_anyFilled_16 : decode zb_W_anyFilled 16 = .ok (.ifCond .eq 15, 3) := by decide +kernel
theorem zd_W_anyFilled_19 : decode zb_W_anyFilled 19 = .ok (.aload_n 0, 1) := by decide +kernel
theorem zd_W_anyFilled_20 : decode zb_W_anyFilled 20 = .ok (.getfield 87, 3) := by decide +kernel
theorem zd_W_anyFilled_23 : decode zb_W_anyFilled 23 = .ok (.iload_n 2, 1) := by decide +kernel
theorem zd_W_anyFilled_24 : decode zb_W_anyFilled 24 = .ok (.iaload, 1) := by decide +kernel
theorem zd_W_anyFilled_25 : decode zb_W_anyFilled 25 = .ok (.iload_n 1, 1) := by decide +kernel
theorem zd_W_anyFilled_26 : decode zb_W_anyFilled 26 = .ok (.if_icmp .ne 5, 3) := by decide +kernel
theorem zd_W_anyFilled_29 : decode zb_W_anyFilled 29 = .ok (.iconst 1, 1) := by decide +kernel
theorem zd_W_anyFilled_30 : decode zb_W_anyFilled 30 = .ok (.ireturn, 1) := by decide +kernel
theorem zd_W_anyFilled_31 : decode zb_W_anyFilled 31 = .ok (.iinc 2 1, 3) := by decide +kernel
theorem zd_W_anyFilled_34 : decode zb_W_anyFilled 34 = .ok (.goto (-32), 3) := by decide +kernel
theorem zd_W_anyFilled_37 : decode zb_W_anyFilled 37 = .ok (.iconst 0, 1) := by decide +kernel
theorem zd_W_anyFilled_38 : decode zb_W_anyFilled 38 = .ok (.ireturn, 1) := by decide +kernel

def zf_W_anyFilled_31 (r0 : Int) (q2 : Int → Int → Sg → Option (Int × Sg)) (x1 : Int) (x2 : Int) (S : Sg) : Option (Int × Sg) :=
    zlt (zw (x2 + 1)) fun v1 => q2 (x1) (v1) S
set_option maxHeartbeats 4000000 in
set_option maxRecDepth 100000 in
theorem zw_W_anyFilled_31 {p : Program} {l : Launch} {e : Env} {s : State} {m : MethodId} {args : Array Value} {below : List Frame} {meth : Method} {c : Code} {B : zB} (C : CallFix p m c zb_W_anyFilled 3 s args zT "IslandOfficeModel$World") (hr : meth.sig.returnType = some .boolean) (hlk : meth.locks = false) (hK : zK B s) (hSt : zSt B s) (hap : zAp B) (r0 : Int) (hr0 : 0 ≤ r0 ∧ r0 < 3) {res : Int} {S9 : Sg} (q2 : Int → Int → Sg → Option (Int × Sg)) (hq2 : ∀ (x1 : Int) (x2 : Int) (S : Sg) (nx1 : zn x1) (nx2 : zn x2), q2 x1 x2 S = some (res, S9) → ∀ (H : Heap) (locs : List Loc) (ls : Array Slot), zW B S H → va_S B.2.2.2 s.heap H locs → lv_has ls 3 [(0, .ref (B.2.1 5 (r0) (0))), (1, .int (zI (x1))), (2, .int (zI (x2)))] → W p l e zm_W_anyFilled s m args below meth c H locs 0 0 (MQ below (zQi B res S9) args s 0 0 B.2.2.2) (F0 m 2 ls [])) : ∀ (x1 : Int) (x2 : Int) (S : Sg) (nx1 : zn x1) (nx2 : zn x2), zf_W_anyFilled_31 r0 q2 x1 x2 S = some (res, S9) → ∀ (H : Heap) (locs : List Loc) (ls : Array Slot), zW B S H → va_S B.2.2.2 s.heap H locs → lv_has ls 3 [(0, .ref (B.2.1 5 (r0) (0))), (1, .int (zI (x1))), (2, .int (zI (x2)))] → W p l e zm_W_anyFilled s m args below meth c H locs 0 0 (MQ below (zQi B res S9) args s 0 0 B.2.2.2) (F0 m 31 ls []) := by
  intro x1 x2 S nx1 nx2 hf H locs ls hW hS hl
  unfold zf_W_anyFilled_31 at hf
  obtain ⟨v1, ev1, hf⟩ := zlt_some hf
  have nv1 : zn v1 := by rw [← ev1]; exact zn_w _
  refine lv_iinc (v := zI v1) (lv' := [(2, .int (zI (v1))), (0, .ref (B.2.1 5 (r0) (0))), (1, .int (zI (x1)))]) C.1 C.2.1 zd_W_anyFilled_31 hl (k := 2) rfl (by rw [← ev1, ← zI_add]; rfl) (by decide) rfl (fun ls hl => ?_)
  refine lv_goto (tgt := 2) C.1 C.2.1 zd_W_anyFilled_34 (by decide) ?_
  exact hq2 (x1) (v1) S nx1 nv1 hf _ _ _ hW hS (lv_sub hl [1, 2, 0] rfl)

def zf_W_anyFilled_2 (r0 : Int) : Nat → Int → Int → Sg → Option (Int × Sg)
  | 0, _, _, _ => none
  | n + 1, x1, x2, S =>
    if (S 5 r0 0 25) ≤ x2 then (some (0, S)) else (zck (0 ≤ x2 ∧ x2 < 8) <| if (S 5 r0 37 x2) = 0 then (zf_W_anyFilled_31 r0 (zf_W_anyFilled_2 r0 n) (x1) (x2) S) else (if (S 5 r0 23 x2) = x1 then (some (1, S)) else (zf_W_anyFilled_31 r0 (zf_W_anyFilled_2 r0 n) (x1) (x2) S)))
set_option maxHeartbeats 4000000 in
set_option maxRecDepth 100000 in
theorem zw_W_anyFilled_2 {p : Program} {l : Launch} {e : Env} {s : State} {m : MethodId} {args : Array Value} {below : List Frame} {meth : Method} {c : Code} {B : zB} (C : CallFix p m c zb_W_anyFilled 3 s args zT "IslandOfficeModel$World") (hr : meth.sig.returnType = some .boolean) (hlk : meth.locks = false) (hK : zK B s) (hSt : zSt B s) (hap : zAp B) (r0 : Int) (hr0 : 0 ≤ r0 ∧ r0 < 3) {res : Int} {S9 : Sg} : ∀ n : Nat, ∀ (x1 : Int) (x2 : Int) (S : Sg) (nx1 : zn x1) (nx2 : zn x2), zf_W_anyFilled_2 r0 n x1 x2 S = some (res, S9) → ∀ (H : Heap) (locs : List Loc) (ls : Array Slot), zW B S H → va_S B.2.2.2 s.heap H locs → lv_has ls 3 [(0, .ref (B.2.1 5 (r0) (0))), (1, .int (zI (x1))), (2, .int (zI (x2)))] → W p l e zm_W_anyFilled s m args below meth c H locs 0 0 (MQ below (zQi B res S9) args s 0 0 B.2.2.2) (F0 m 2 ls []) := by
  intro n
  induction n with
  | zero =>
    intro x1 x2 S nx1 nx2 hf H locs ls hW hS hl
    cases hf
  | succ n ih =>
    intro x1 x2 S nx1 nx2 hf H locs ls hW hS hl
    rw [zf_W_anyFilled_2] at hf
    refine lv_iload_n C.1 C.2.1 zd_W_anyFilled_2 rfl (lv_at hl 2 rfl) ?_
    refine lv_aload_n C.1 C.2.1 zd_W_anyFilled_3 rfl (lv_at hl 0 rfl) ?_
    refine zg_W_posts (r := r0) C hK hW (zvd_5 hr0 (by decide)) zk_1325 zd_W_anyFilled_4 ?_
    refine zr_icmp_ge (tgt := 37) C nx2 (zWn hW _ _ _ _ rfl) zd_W_anyFilled_7 (by decide) (fun c1 => ?_) (fun c1 => ?_)
    · rw [if_pos c1] at hf
      refine zr_iconst C zd_W_anyFilled_37 ?_
      cases hf
      exact zre_z C hr hlk hK hW hS (znb rfl) (zb01 (by decide)) zd_W_anyFilled_38
    · rw [if_neg c1] at hf
      refine lv_aload_n C.1 C.2.1 zd_W_anyFilled_10 rfl (lv_at hl 0 rfl) ?_
      refine zg_W_isFilled (r := r0) C hK hW (zvd_5 hr0 (by decide)) zk_1377 zd_W_anyFilled_11 ?_
      refine lv_iload_n C.1 C.2.1 zd_W_anyFilled_14 rfl (lv_at hl 2 rfl) ?_
      obtain ⟨h2, hf⟩ := zck_some hf
      refine zzald C hK hW (zvd_5 hr0 (by decide)) (fun f => ze_5_37 B f (r0)) (by decide) h2 zd_W_anyFilled_15 ?_
      refine zr_if_eq (tgt := 31) C (zWn hW _ _ _ _ rfl) zd_W_anyFilled_16 (by decide) (fun c3 => ?_) (fun c3 => ?_)
      · rw [if_pos c3] at hf
        exact zw_W_anyFilled_31 C hr hlk hK hSt hap r0 hr0 (zf_W_anyFilled_2 r0 n) (ih) (x1) (x2) S nx1 nx2 hf _ _ _ hW hS (lv_sub hl [0, 1, 2] rfl)
      · rw [if_neg c3] at hf
        refine lv_aload_n C.1 C.2.1 zd_W_anyFilled_19 rfl (lv_at hl 0 rfl) ?_
        refine zg_W_postSort (r := r0) C hK hW (zvd_5 hr0 (by decide)) zk_1331 zd_W_anyFilled_20 ?_
        refine lv_iload_n C.1 C.2.1 zd_W_anyFilled_23 rfl (lv_at hl 2 rfl) ?_
        refine ziald C hK hW (zvd_5 hr0 (by decide)) (fun f => ze_5_23 B f (r0)) (by decide) h2 zd_W_anyFilled_24 ?_
        refine lv_iload_n C.1 C.2.1 zd_W_anyFilled_25 rfl (lv_at hl 1 rfl) ?_
        refine zr_icmp_ne (tgt := 31) C (zWn hW _ _ _ _ rfl) nx1 zd_W_anyFilled_26 (by decide) (fun c4 => ?_) (fun c4 => ?_)
        · rw [if_neg c4] at hf
          exact zw_W_anyFilled_31 C hr hlk hK hSt hap r0 hr0 (zf_W_anyFilled_2 r0 n) (ih) (x1) (x2) S nx1 nx2 hf _ _ _ hW hS (lv_sub hl [0, 1, 2] rfl)
        · rw [if_pos c4] at hf
          refine zr_iconst C zd_W_anyFilled_29 ?_
          cases hf
          exact zre_z C hr hlk hK hW hS (znb rfl) (zb01 (by decide)) zd_W_anyFilled_30

def zf_W_anyFilled (r0 : Int) (x1 : Int) (S : Sg) : Option (Int × Sg) :=
    zf_W_anyFilled_2 r0 4096 (x1) (0) S
set_option maxHeartbeats 4000000 in
set_option maxRecDepth 100000 in
theorem zw_W_anyFilled {p : Program} {l : Launch} {e : Env} {s : State} {m : MethodId} {args : Array Value} {below : List Frame} {meth : Method} {c : Code} {B : zB} (C : CallFix p m c zb_W_anyFilled 3 s args zT "IslandOfficeModel$World") (hr : meth.sig.returnType = some .boolean) (hlk : meth.locks = false) (hK : zK B s) (hSt : zSt B s) (hap : zAp B) (r0 : Int) (hr0 : 0 ≤ r0 ∧ r0 < 3) {res : Int} {S9 : Sg} : ∀ (x1 : Int) (S : Sg) (nx1 : zn x1), zf_W_anyFilled r0 x1 S = some (res, S9) → ∀ (H : Heap) (locs : List Loc) (ls : Array Slot), zW B S H → va_S B.2.2.2 s.heap H locs → lv_has ls 3 [(0, .ref (B.2.1 5 (r0) (0))), (1, .int (zI (x1)))] → W p l e zm_W_anyFilled s m args below meth c H locs 0 0 (MQ below (zQi B res S9) args s 0 0 B.2.2.2) (F0 m 0 ls []) := by
  intro x1 S nx1 hf H locs ls hW hS hl
  unfold zf_W_anyFilled at hf
  refine zr_iconst C zd_W_anyFilled_0 ?_
  refine lv_istore_n (lv' := [(2, .int (zI (0))), (0, .ref (B.2.1 5 (r0) (0))), (1, .int (zI (x1)))]) C.1 C.2.1 zd_W_anyFilled_1 rfl hl (by decide) rfl (fun ls hl => ?_)
  exact zw_W_anyFilled_2 C hr hlk hK hSt hap r0 hr0 4096 (x1) (0) S nx1 (znb rfl) hf _ _ _ hW hS (lv_sub hl [1, 2, 0] rfl)

theorem zc_W_anyFilled {l : Launch} {B : zB} (hap : zAp B) (r0 : Int) (hr0 : 0 ≤ r0 ∧ r0 < 3) (x1 : Int) (S : Sg) (nx1 : zn x1) {res : Int} {S9 : Sg} (hf : zf_W_anyFilled r0 x1 S = some (res, S9)) : Met l zy_W_anyFilled (Cond.code zy_W_anyFilled zb_W_anyFilled 3 (some .boolean) :: zT) zm_W_anyFilled (zP B S [.ref (B.2.1 5 (r0) (0)), .int (zI (x1))]) (zQi B res S9) 0 0 B.2.2.2 :=
  zmet (by decide) (Nat.le_of_ble_eq_true rfl) (fun p e s m args below meth c C hr hlk hK hSt hW ls hl => zw_W_anyFilled C hr hlk hK hSt hap r0 hr0 x1 S nx1 hf _ _ _ hW va_S.rf hl)
/-! IslandOfficeModel$World.isMother(I)Z -/
abbrev zy_W_isMother : MethodName := ⟨"IslandOfficeModel$World", "isMother", "(I)Z"⟩
abbrev zb_W_isMother : ByteArray := prog_15_method_46_code
abbrev zm_W_isMother : Room := { frames := 2, cells := 0, slots := 0, locals := 42 }
theorem zq_W_isMother : zMy zy_W_isMother zb_W_isMother 3 (some .boolean) 1 := ⟨zk_1953, zk_1952, zs_87, zk_15, by decide, by decide, by decide +kernel⟩
theorem zd_W_isMother_0 : decode zb_W_isMother 0 = .ok (.iconst 0, 1) := by decide +kernel
theorem zd_W_isMother_1 : decode zb_W_isMother 1 = .ok (.istore_n 2, 1) := by decide +kernel
theorem zd_W_isMother_2 : decode zb_W_isMother 2 = .ok (.iload_n 2, 1) := by decide +kernel
theorem zd_W_isMother_3 : decode zb_W_isMother 3 = .ok (.aload_n 0, 1) := by decide +kernel
theorem zd_W_isMother_4 : decode zb_W_isMother 4 = .ok (.getfield 158, 3) := by decide +kernel
theorem zd_W_isMother_7 : decode zb_W_isMother 7 = .ok (.if_icmp .ge 30, 3) := by decide +kernel
theorem zd_W_isMother_10 : decode zb_W_isMother 10 = .ok (.aload_n 0, 1) := by decide +kernel
theorem zd_W_isMother_11 : decode zb_W_isMother 11 = .ok (.getfield 18, 3) := by decide +kernel
theorem zd_W_isMother_14 : decode zb_W_isMother 14 = .ok (.iload_n 2, 1) := by decide +kernel
theorem zd_W_isMother_15 : decode zb_W_isMother 15 = .ok (.iaload, 1) := by decide +kernel
theorem zd_W_isMother_16 : decode zb_W_isMother 16 = .ok (.iload_n 1, 1) := by decide +kernel
theorem zd_W_isMother_17 : decode zb_W_isMother 17 = .ok (.if_icmp .ne 14, 3) := by decide +kernel
theorem zd_W_isMother_20 : decode zb_W_isMother 20 = .ok (.aload_n 0, 1) := by decide +kernel
theorem zd_W_isMother_21 : decode zb_W_isMother 21 = .ok (.iload_n 2, 1) := by decide +kernel
theorem zd_W_isMother_22 : decode zb_W_isMother 22 = .ok (.invokevirtual 193, 3) := by decide +kernel
theorem zd_W_isMother_25 : decode zb_W_isMother 25 = .ok (.iconst 1, 1) := by decide +kernel
theorem zd_W_isMother_26 : decode zb_W_isMother 26 = .ok (.if_icmp .ne 5, 3) := by decide +kernel
theorem zd_W_isMother_29 : decode zb_W_isMother 29 = .ok (.iconst 1, 1) := by decide +kernel
theorem zd_W_isMother_30 : decode zb_W_isMother 30 = .ok (.ireturn, 1) := by decide +kernel
theorem zd_W_isMother_31 : decode zb_W_isMother 31 = .ok (.iinc 2 1, 3) := by decide +kernel
theorem zd_W_isMother_34 : decode zb_W_isMother 34 = .ok (.goto (-32), 3) := by decide +kernel
theorem zd_W_isMother_37 : decode zb_W_isMother 37 = .ok (.iconst 0, 1) := by decide +kernel
theorem zd_W_isMother_38 : decode zb_W_isMother 38 = .ok (.ireturn, 1) := by decide +kernel

def zf_W_isMother_31 (r0 : Int) (q2 : Int → Int → Sg → Option (Int × Sg)) (x1 : Int) (x2 : Int) (S : Sg) : Option (Int × Sg) :=
    zlt (zw (x2 + 1)) fun v1 => q2 (x1) (v1) S
set_option maxHeartbeats 4000000 in
set_option maxRecDepth 100000 in
theorem zw_W_isMother_31 {p : Program} {l : Launch} {e : Env} {s : State} {m : MethodId} {args : Array Value} {below : List Frame} {meth : Method} {c : Code} {B : zB} (C : CallFix p m c zb_W_isMother 3 s args zT "IslandOfficeModel$World") (hr : meth.sig.returnType = some .boolean) (hlk : meth.locks = false) (hK : zK B s) (hSt : zSt B s) (hap : zAp B) (r0 : Int) (hr0 : 0 ≤ r0 ∧ r0 < 3) {res : Int} {S9 : Sg} (q2 : Int → Int → Sg → Option (Int × Sg)) (hq2 : ∀ (x1 : Int) (x2 : Int) (S : Sg) (nx1 : zn x1) (nx2 : zn x2), q2 x1 x2 S = some (res, S9) → ∀ (H : Heap) (locs : List Loc) (ls : Array Slot), zW B S H → va_S B.2.2.2 s.heap H locs → lv_has ls 3 [(0, .ref (B.2.1 5 (r0) (0))), (1, .int (zI (x1))), (2, .int (zI (x2)))] → W p l e zm_W_isMother s m args below meth c H locs 0 0 (MQ below (zQi B res S9) args s 0 0 B.2.2.2) (F0 m 2 ls [])) : ∀ (x1 : Int) (x2 : Int) (S : Sg) (nx1 : zn x1) (nx2 : zn x2), zf_W_isMother_31 r0 q2 x1 x2 S = some (res, S9) → ∀ (H : Heap) (locs : List Loc) (ls : Array Slot), zW B S H → va_S B.2.2.2 s.heap H locs → lv_has ls 3 [(0, .ref (B.2.1 5 (r0) (0))), (1, .int (zI (x1))), (2, .int (zI (x2)))] → W p l e zm_W_isMother s m args below meth c H locs 0 0 (MQ below (zQi B res S9) args s 0 0 B.2.2.2) (F0 m 31 ls []) := by
  intro x1 x2 S nx1 nx2 hf H locs ls hW hS hl
  unfold zf_W_isMother_31 at hf
  obtain ⟨v1, ev1, hf⟩ := zlt_some hf
  have nv1 : zn v1 := by rw [← ev1]; exact zn_w _
  refine lv_iinc (v := zI v1) (lv' := [(2, .int (zI (v1))), (0, .ref (B.2.1 5 (r0) (0))), (1, .int (zI (x1)))]) C.1 C.2.1 zd_W_isMother_31 hl (k := 2) rfl (by rw [← ev1, ← zI_add]; rfl) (by decide) rfl (fun ls hl => ?_)
  refine lv_goto (tgt := 2) C.1 C.2.1 zd_W_isMother_34 (by decide) ?_
  exact hq2 (x1) (v1) S nx1 nv1 hf _ _ _ hW hS (lv_sub hl [1, 2, 0] rfl)

def zf_W_isMother_2 (r0 : Int) : Nat → Int → Int → Sg → Option (Int × Sg)
  | 0, _, _, _ => none
  | n + 1, x1, x2, S =>
    if (S 5 r0 0 1) ≤ x2 then (some (0, S)) else (zck (0 ≤ x2 ∧ x2 < 40) <| if (S 5 r0 3 x2) = x1 then (zbd (zf_W_kind (r0) x2 S) fun a4 S5 => if a4 = 1 then (some (1, S5)) else (zf_W_isMother_31 r0 (zf_W_isMother_2 r0 n) (x1) (x2) S5)) else (zf_W_isMother_31 r0 (zf_W_isMother_2 r0 n) (x1) (x2) S))
set_option maxHeartbeats 4000000 in
set_option maxRecDepth 100000 in
theorem zw_W_isMother_2 {p : Program} {l : Launch} {e : Env} {s : State} {m : MethodId} {args : Array Value} {below : List Frame} {meth : Method} {c : Code} {B : zB} (C : CallFix p m c zb_W_isMother 3 s args zT "IslandOfficeModel$World") (hr : meth.sig.returnType = some .boolean) (hlk : meth.locks = false) (hK : zK B s) (hSt : zSt B s) (hap : zAp B) (r0 : Int) (hr0 : 0 ≤ r0 ∧ r0 < 3) {res : Int} {S9 : Sg} : ∀ n : Nat, ∀ (x1 : Int) (x2 : Int) (S : Sg) (nx1 : zn x1) (nx2 : zn x2), zf_W_isMother_2 r0 n x1 x2 S = some (res, S9) → ∀ (H : Heap) (locs : List Loc) (ls : Array Slot), zW B S H → va_S B.2.2.2 s.heap H locs → lv_has ls 3 [(0, .ref (B.2.1 5 (r0) (0))), (1, .int (zI (x1))), (2, .int (zI (x2)))] → W p l e zm_W_isMother s m args below meth c H locs 0 0 (MQ below (zQi B res S9) args s 0 0 B.2.2.2) (F0 m 2 ls []) := by
  intro n
  induction n with
  | zero =>
    intro x1 x2 S nx1 nx2 hf H locs ls hW hS hl
    cases hf
  | succ n ih =>
    intro x1 x2 S nx1 nx2 hf H locs ls hW hS hl
    rw [zf_W_isMother_2] at hf
    refine lv_iload_n C.1 C.2.1 zd_W_isMother_2 rfl (lv_at hl 2 rfl) ?_
    refine lv_aload_n C.1 C.2.1 zd_W_isMother_3 rfl (lv_at hl 0 rfl) ?_
    refine zg_W_people (r := r0) C hK hW (zvd_5 hr0 (by decide)) zk_1277 zd_W_isMother_4 ?_
    refine zr_icmp_ge (tgt := 37) C nx2 (zWn hW _ _ _ _ rfl) zd_W_isMother_7 (by decide) (fun c1 => ?_) (fun c1 => ?_)
    · rw [if_pos c1] at hf
      refine zr_iconst C zd_W_isMother_37 ?_
      cases hf
      exact zre_z C hr hlk hK hW hS (znb rfl) (zb01 (by decide)) zd_W_isMother_38
    · rw [if_neg c1] at hf
      refine lv_aload_n C.1 C.2.1 zd_W_isMother_10 rfl (lv_at hl 0 rfl) ?_
      refine zg_W_mother (r := r0) C hK hW (zvd_5 hr0 (by decide)) zk_1283 zd_W_isMother_11 ?_
      refine lv_iload_n C.1 C.2.1 zd_W_isMother_14 rfl (lv_at hl 2 rfl) ?_
      obtain ⟨h2, hf⟩ := zck_some hf
      refine ziald C hK hW (zvd_5 hr0 (by decide)) (fun f => ze_5_3 B f (r0)) (by decide) h2 zd_W_isMother_15 ?_
      refine lv_iload_n C.1 C.2.1 zd_W_isMother_16 rfl (lv_at hl 1 rfl) ?_
      refine zr_icmp_ne (tgt := 31) C (zWn hW _ _ _ _ rfl) nx1 zd_W_isMother_17 (by decide) (fun c3 => ?_) (fun c3 => ?_)
      · rw [if_neg c3] at hf
        exact zw_W_isMother_31 C hr hlk hK hSt hap r0 hr0 (zf_W_isMother_2 r0 n) (ih) (x1) (x2) S nx1 nx2 hf _ _ _ hW hS (lv_sub hl [0, 1, 2] rfl)
      · rw [if_pos c3] at hf
        refine lv_aload_n C.1 C.2.1 zd_W_isMother_20 rfl (lv_at hl 0 rfl) ?_
        refine lv_iload_n C.1 C.2.1 zd_W_isMother_21 rfl (lv_at hl 2 rfl) ?_
        obtain ⟨a4, S5, ea4, hf⟩ := zbd_some hf
        refine zcVi (As := [.int (zI (x2))]) (rest := []) C hK hSt hW hS (zc_W_kind hap (r0) hr0 x2 S nx2 ea4) zq_W_kind zk_1621 (zrecv hK hW (zvd_5 hr0 (by decide)) (ze_5_0 B _ (r0)) rfl) ⟨rfl, rfl, by decide, by decide⟩ ⟨by decide, by decide⟩ rfl hl.1 rfl (lv_room (Nat.le_of_ble_eq_true rfl)) zd_W_isMother_22 (fun na4 H locs hW hS => ?_)
        refine zr_iconst C zd_W_isMother_25 ?_
        refine zr_icmp_ne (tgt := 31) C na4 (znb rfl) zd_W_isMother_26 (by decide) (fun c6 => ?_) (fun c6 => ?_)
        · rw [if_neg c6] at hf
          exact zw_W_isMother_31 C hr hlk hK hSt hap r0 hr0 (zf_W_isMother_2 r0 n) (ih) (x1) (x2) S5 nx1 nx2 hf _ _ _ hW hS (lv_sub hl [0, 1, 2] rfl)
        · rw [if_pos c6] at hf
          refine zr_iconst C zd_W_isMother_29 ?_
          cases hf
          exact zre_z C hr hlk hK hW hS (znb rfl) (zb01 (by decide)) zd_W_isMother_30

def zf_W_isMother (r0 : Int) (x1 : Int) (S : Sg) : Option (Int × Sg) :=
    zf_W_isMother_2 r0 4096 (x1) (0) S
set_option maxHeartbeats 4000000 in
set_option maxRecDepth 100000 in
theorem zw_W_isMother {p : Program} {l : Launch} {e : Env} {s : State} {m : MethodId} {args : Array Value} {below : List Frame} {meth : Method} {c : Code} {B : zB} (C : CallFix p m c zb_W_isMother 3 s args zT "IslandOfficeModel$World") (hr : meth.sig.returnType = some .boolean) (hlk : meth.locks = false) (hK : zK B s) (hSt : zSt B s) (hap : zAp B) (r0 : Int) (hr0 : 0 ≤ r0 ∧ r0 < 3) {res : Int} {S9 : Sg} : ∀ (x1 : Int) (S : Sg) (nx1 : zn x1), zf_W_isMother r0 x1 S = some (res, S9) → ∀ (H : Heap) (locs : List Loc) (ls : Array Slot), zW B S H → va_S B.2.2.2 s.heap H locs → lv_has ls 3 [(0, .ref (B.2.1 5 (r0) (0))), (1, .int (zI (x1)))] → W p l e zm_W_isMother s m args below meth c H locs 0 0 (MQ below (zQi B res S9) args s 0 0 B.2.2.2) (F0 m 0 ls []) := by
  intro x1 S nx1 hf H locs ls hW hS hl
  unfold zf_W_isMother at hf
  refine zr_iconst C zd_W_isMother_0 ?_
  refine lv_istore_n (lv' := [(2, .int (zI (0))), (0, .ref (B.2.1 5 (r0) (0))), (1, .int (zI (x1)))]) C.1 C.2.1 zd_W_isMother_1 rfl hl (by decide) rfl (fun ls hl => ?_)
  exact zw_W_isMother_2 C hr hlk hK hSt hap r0 hr0 4096 (x1) (0) S nx1 (znb rfl) hf _ _ _ hW hS (lv_sub hl [1, 2, 0] rfl)

theorem zc_W_isMother {l : Launch} {B : zB} (hap : zAp B) (r0 : Int) (hr0 : 0 ≤ r0 ∧ r0 < 3) (x1 : Int) (S : Sg) (nx1 : zn x1) {res : Int} {S9 : Sg} (hf : zf_W_isMother r0 x1 S = some (res, S9)) : Met l zy_W_isMother (Cond.code zy_W_isMother zb_W_isMother 3 (some .boolean) :: zT) zm_W_isMother (zP B S [.ref (B.2.1 5 (r0) (0)), .int (zI (x1))]) (zQi B res S9) 0 0 B.2.2.2 :=
  zmet (by decide) (Nat.le_of_ble_eq_true rfl) (fun p e s m args below meth c C hr hlk hK hSt hW ls hl => zw_W_isMother C hr hlk hK hSt hap r0 hr0 x1 S nx1 hf _ _ _ hW va_S.rf hl)
/-! IslandOfficeModel$World.oldIn(I)Z -/
abbrev zy_W_oldIn : MethodName := ⟨"IslandOfficeModel$World", "oldIn", "(I)Z"⟩
abbrev zb_W_oldIn : ByteArray := prog_15_method_47_code
abbrev zm_W_oldIn : Room := { frames := 2, cells := 0, slots := 0, locals := 42 }
theorem zq_W_oldIn : zMy zy_W_oldIn zb_W_oldIn 3 (some .boolean) 1 := ⟨zk_1957, zk_1956, zs_88, zk_15, by decide, by decide, by decide +kernel⟩
theorem zd_W_oldIn_0 : decode zb_W_oldIn 0 = .ok (.iconst 0, 1) := by decide +kernel
theorem zd_W_oldIn_1 : decode zb_W_oldIn 1 = .ok (.istore_n 2, 1) := by decide +kernel
theorem zd_W_oldIn_2 : decode zb_W_oldIn 2 = .ok (.iload_n 2, 1) := by decide +kernel
theorem zd_W_oldIn_3 : decode zb_W_oldIn 3 = .ok (.aload_n 0, 1) := by decide +kernel
theorem zd_W_oldIn_4 : decode zb_W_oldIn 4 = .ok (.getfield 158, 3) := by decide +kernel
theorem zd_W_oldIn_7 : decode zb_W_oldIn 7 = .ok (.if_icmp .ge 30, 3) := by decide +kernel
theorem zd_W_oldIn_10 : decode zb_W_oldIn 10 = .ok (.aload_n 0, 1) := by decide +kernel
theorem zd_W_oldIn_11 : decode zb_W_oldIn 11 = .ok (.iload_n 2, 1) := by decide +kernel
theorem zd_W_oldIn_12 : decode zb_W_oldIn 12 = .ok (.invokevirtual 193, 3) := by decide +kernel
theorem zd_W_oldIn_15 : decode zb_W_oldIn 15 = .ok (.iconst 4, 1) := by decide +kernel
theorem zd_W_oldIn_16 : decode zb_W_oldIn 16 = .ok (.if_icmp .ne 15, 3) := by decide +kernel
theorem zd_W_oldIn_19 : decode zb_W_oldIn 19 = .ok (.aload_n 0, 1) := by decide +kernel
theorem zd_W_oldIn_20 : decode zb_W_oldIn 20 = .ok (.getfield 15, 3) := by decide +kernel
theorem zd_W_oldIn_23 : decode zb_W_oldIn 23 = .ok (.iload_n 2, 1) := by decide +kernel
theorem zd_W_oldIn_24 : decode zb_W_oldIn 24 = .ok (.iaload, 1) := by decide +kernel
theorem zd_W_oldIn_25 : decode zb_W_oldIn 25 = .ok (.iload_n 1, 1) := by decide +kernel
theorem zd_W_oldIn_26 : decode zb_W_oldIn 26 = .ok (.if_icmp .ne 5, 3) := by decide +kernel
theorem zd_W_oldIn_29 : decode zb_W_oldIn 29 = .ok (.iconst 1, 1) := by decide +kernel
theorem zd_W_oldIn_30 : decode zb_W_oldIn 30 = .ok (.ireturn, 1) := by decide +kernel
theorem zd_W_oldIn_31 : decode zb_W_oldIn 31 = .ok (.iinc 2 1, 3) := by decide +kernel
theorem zd_W_oldIn_34 : decode zb_W_oldIn 34 = .ok (.goto (-32), 3) := by decide +kernel
theorem zd_W_oldIn_37 : decode zb_W_oldIn 37 = .ok (.iconst 0, 1) := by decide +kernel
theorem zd_W_oldIn_38 : decode zb_W_oldIn 38 = .ok (.ireturn, 1) := by decide +kernel

def zf_W_oldIn_31 (r0 : Int) (q2 : Int → Int → Sg → Option (Int × Sg)) (x1 : Int) (x2 : Int) (S : Sg) : Option (Int × Sg) :=
    zlt (zw (x2 + 1)) fun v1 => q2 (x1) (v1) S
set_option maxHeartbeats 4000000 in
set_option maxRecDepth 100000 in
theorem zw_W_oldIn_31 {p : Program} {l : Launch} {e : Env} {s : State} {m : MethodId} {args : Array Value} {below : List Frame} {meth : Method} {c : Code} {B : zB} (C : CallFix p m c zb_W_oldIn 3 s args zT "IslandOfficeModel$World") (hr : meth.sig.returnType = some .boolean) (hlk : meth.locks = false) (hK : zK B s) (hSt : zSt B s) (hap : zAp B) (r0 : Int) (hr0 : 0 ≤ r0 ∧ r0 < 3) {res : Int} {S9 : Sg} (q2 : Int → Int → Sg → Option (Int × Sg)) (hq2 : ∀ (x1 : Int) (x2 : Int) (S : Sg) (nx1 : zn x1) (nx2 : zn x2), q2 x1 x2 S = some (res, S9) → ∀ (H : Heap) (locs : List Loc) (ls : Array Slot), zW B S H → va_S B.2.2.2 s.heap H locs → lv_has ls 3 [(0, .ref (B.2.1 5 (r0) (0))), (1, .int (zI (x1))), (2, .int (zI (x2)))] → W p l e zm_W_oldIn s m args below meth c H locs 0 0 (MQ below (zQi B res S9) args s 0 0 B.2.2.2) (F0 m 2 ls [])) : ∀ (x1 : Int) (x2 : Int) (S : Sg) (nx1 : zn x1) (nx2 : zn x2), zf_W_oldIn_31 r0 q2 x1 x2 S = some (res, S9) → ∀ (H : Heap) (locs : List Loc) (ls : Array Slot), zW B S H → va_S B.2.2.2 s.heap H locs → lv_has ls 3 [(0, .ref (B.2.1 5 (r0) (0))), (1, .int (zI (x1))), (2, .int (zI (x2)))] → W p l e zm_W_oldIn s m args below meth c H locs 0 0 (MQ below (zQi B res S9) args s 0 0 B.2.2.2) (F0 m 31 ls []) := by
  intro x1 x2 S nx1 nx2 hf H locs ls hW hS hl
  unfold zf_W_oldIn_31 at hf
  obtain ⟨v1, ev1, hf⟩ := zlt_some hf
  have nv1 : zn v1 := by rw [← ev1]; exact zn_w _
  refine lv_iinc (v := zI v1) (lv' := [(2, .int (zI (v1))), (0, .ref (B.2.1 5 (r0) (0))), (1, .int (zI (x1)))]) C.1 C.2.1 zd_W_oldIn_31 hl (k := 2) rfl (by rw [← ev1, ← zI_add]; rfl) (by decide) rfl (fun ls hl => ?_)
  refine lv_goto (tgt := 2) C.1 C.2.1 zd_W_oldIn_34 (by decide) ?_
  exact hq2 (x1) (v1) S nx1 nv1 hf _ _ _ hW hS (lv_sub hl [1, 2, 0] rfl)

def zf_W_oldIn_2 (r0 : Int) : Nat → Int → Int → Sg → Option (Int × Sg)
  | 0, _, _, _ => none
  | n + 1, x1, x2, S =>
    if (S 5 r0 0 1) ≤ x2 then (some (0, S)) else (zbd (zf_W_kind (r0) x2 S) fun a2 S3 => if a2 = 4 then (zck (0 ≤ x2 ∧ x2 < 40) <| if (S3 5 r0 2 x2) = x1 then (some (1, S3)) else (zf_W_oldIn_31 r0 (zf_W_oldIn_2 r0 n) (x1) (x2) S3)) else (zf_W_oldIn_31 r0 (zf_W_oldIn_2 r0 n) (x1) (x2) S3))
set_option maxHeartbeats 4000000 in
set_option maxRecDepth 100000 in
theorem zw_W_oldIn_2 {p : Program} {l : Launch} {e : Env} {s : State} {m : MethodId} {args : Array Value} {below : List Frame} {meth : Method} {c : Code} {B : zB} (C : CallFix p m c zb_W_oldIn 3 s args zT "IslandOfficeModel$World") (hr : meth.sig.returnType = some .boolean) (hlk : meth.locks = false) (hK : zK B s) (hSt : zSt B s) (hap : zAp B) (r0 : Int) (hr0 : 0 ≤ r0 ∧ r0 < 3) {res : Int} {S9 : Sg} : ∀ n : Nat, ∀ (x1 : Int) (x2 : Int) (S : Sg) (nx1 : zn x1) (nx2 : zn x2), zf_W_oldIn_2 r0 n x1 x2 S = some (res, S9) → ∀ (H : Heap) (locs : List Loc) (ls : Array Slot), zW B S H → va_S B.2.2.2 s.heap H locs → lv_has ls 3 [(0, .ref (B.2.1 5 (r0) (0))), (1, .int (zI (x1))), (2, .int (zI (x2)))] → W p l e zm_W_oldIn s m args below meth c H locs 0 0 (MQ below (zQi B res S9) args s 0 0 B.2.2.2) (F0 m 2 ls []) := by
  intro n
  induction n with
  | zero =>
    intro x1 x2 S nx1 nx2 hf H locs ls hW hS hl
    cases hf
  | succ n ih =>
    intro x1 x2 S nx1 nx2 hf H locs ls hW hS hl
    rw [zf_W_oldIn_2] at hf
    refine lv_iload_n C.1 C.2.1 zd_W_oldIn_2 rfl (lv_at hl 2 rfl) ?_
    refine lv_aload_n C.1 C.2.1 zd_W_oldIn_3 rfl (lv_at hl 0 rfl) ?_
    refine zg_W_people (r := r0) C hK hW (zvd_5 hr0 (by decide)) zk_1277 zd_W_oldIn_4 ?_
    refine zr_icmp_ge (tgt := 37) C nx2 (zWn hW _ _ _ _ rfl) zd_W_oldIn_7 (by decide) (fun c1 => ?_) (fun c1 => ?_)
    · rw [if_pos c1] at hf
      refine zr_iconst C zd_W_oldIn_37 ?_
      cases hf
      exact zre_z C hr hlk hK hW hS (znb rfl) (zb01 (by decide)) zd_W_oldIn_38
    · rw [if_neg c1] at hf
      refine lv_aload_n C.1 C.2.1 zd_W_oldIn_10 rfl (lv_at hl 0 rfl) ?_
      refine lv_iload_n C.1 C.2.1 zd_W_oldIn_11 rfl (lv_at hl 2 rfl) ?_
      obtain ⟨a2, S3, ea2, hf⟩ := zbd_some hf
      refine zcVi (As := [.int (zI (x2))]) (rest := []) C hK hSt hW hS (zc_W_kind hap (r0) hr0 x2 S nx2 ea2) zq_W_kind zk_1621 (zrecv hK hW (zvd_5 hr0 (by decide)) (ze_5_0 B _ (r0)) rfl) ⟨rfl, rfl, by decide, by decide⟩ ⟨by decide, by decide⟩ rfl hl.1 rfl (lv_room (Nat.le_of_ble_eq_true rfl)) zd_W_oldIn_12 (fun na2 H locs hW hS => ?_)
      refine zr_iconst C zd_W_oldIn_15 ?_
      refine zr_icmp_ne (tgt := 31) C na2 (znb rfl) zd_W_oldIn_16 (by decide) (fun c4 => ?_) (fun c4 => ?_)
      · rw [if_neg c4] at hf
        exact zw_W_oldIn_31 C hr hlk hK hSt hap r0 hr0 (zf_W_oldIn_2 r0 n) (ih) (x1) (x2) S3 nx1 nx2 hf _ _ _ hW hS (lv_sub hl [0, 1, 2] rfl)
      · rw [if_pos c4] at hf
        refine lv_aload_n C.1 C.2.1 zd_W_oldIn_19 rfl (lv_at hl 0 rfl) ?_
        refine zg_W_house (r := r0) C hK hW (zvd_5 hr0 (by decide)) zk_1281 zd_W_oldIn_20 ?_
        refine lv_iload_n C.1 C.2.1 zd_W_oldIn_23 rfl (lv_at hl 2 rfl) ?_
        obtain ⟨h5, hf⟩ := zck_some hf
        refine ziald C hK hW (zvd_5 hr0 (by decide)) (fun f => ze_5_2 B f (r0)) (by decide) h5 zd_W_oldIn_24 ?_
        refine lv_iload_n C.1 C.2.1 zd_W_oldIn_25 rfl (lv_at hl 1 rfl) ?_
        refine zr_icmp_ne (tgt := 31) C (zWn hW _ _ _ _ rfl) nx1 zd_W_oldIn_26 (by decide) (fun c6 => ?_) (fun c6 => ?_)
        · rw [if_neg c6] at hf
          exact zw_W_oldIn_31 C hr hlk hK hSt hap r0 hr0 (zf_W_oldIn_2 r0 n) (ih) (x1) (x2) S3 nx1 nx2 hf _ _ _ hW hS (lv_sub hl [0, 1, 2] rfl)
        · rw [if_pos c6] at hf
          refine zr_iconst C zd_W_oldIn_29 ?_
          cases hf
          exact zre_z C hr hlk hK hW hS (znb rfl) (zb01 (by decide)) zd_W_oldIn_30

def zf_W_oldIn (r0 : Int) (x1 : Int) (S : Sg) : Option (Int × Sg) :=
    zf_W_oldIn_2 r0 4096 (x1) (0) S
set_option maxHeartbeats 4000000 in
set_option maxRecDepth 100000 in
theorem zw_W_oldIn {p : Program} {l : Launch} {e : Env} {s : State} {m : MethodId} {args : Array Value} {below : List Frame} {meth : Method} {c : Code} {B : zB} (C : CallFix p m c zb_W_oldIn 3 s args zT "IslandOfficeModel$World") (hr : meth.sig.returnType = some .boolean) (hlk : meth.locks = false) (hK : zK B s) (hSt : zSt B s) (hap : zAp B) (r0 : Int) (hr0 : 0 ≤ r0 ∧ r0 < 3) {res : Int} {S9 : Sg} : ∀ (x1 : Int) (S : Sg) (nx1 : zn x1), zf_W_oldIn r0 x1 S = some (res, S9) → ∀ (H : Heap) (locs : List Loc) (ls : Array Slot), zW B S H → va_S B.2.2.2 s.heap H locs → lv_has ls 3 [(0, .ref (B.2.1 5 (r0) (0))), (1, .int (zI (x1)))] → W p l e zm_W_oldIn s m args below meth c H locs 0 0 (MQ below (zQi B res S9) args s 0 0 B.2.2.2) (F0 m 0 ls []) := by
  intro x1 S nx1 hf H locs ls hW hS hl
  unfold zf_W_oldIn at hf
  refine zr_iconst C zd_W_oldIn_0 ?_
  refine lv_istore_n (lv' := [(2, .int (zI (0))), (0, .ref (B.2.1 5 (r0) (0))), (1, .int (zI (x1)))]) C.1 C.2.1 zd_W_oldIn_1 rfl hl (by decide) rfl (fun ls hl => ?_)
  exact zw_W_oldIn_2 C hr hlk hK hSt hap r0 hr0 4096 (x1) (0) S nx1 (znb rfl) hf _ _ _ hW hS (lv_sub hl [1, 2, 0] rfl)

theorem zc_W_oldIn {l : Launch} {B : zB} (hap : zAp B) (r0 : Int) (hr0 : 0 ≤ r0 ∧ r0 < 3) (x1 : Int) (S : Sg) (nx1 : zn x1) {res : Int} {S9 : Sg} (hf : zf_W_oldIn r0 x1 S = some (res, S9)) : Met l zy_W_oldIn (Cond.code zy_W_oldIn zb_W_oldIn 3 (some .boolean) :: zT) zm_W_oldIn (zP B S [.ref (B.2.1 5 (r0) (0)), .int (zI (x1))]) (zQi B res S9) 0 0 B.2.2.2 :=
  zmet (by decide) (Nat.le_of_ble_eq_true rfl) (fun p e s m args below meth c C hr hlk hK hSt hW ls hl => zw_W_oldIn C hr hlk hK hSt hap r0 hr0 x1 S nx1 hf _ _ _ hW va_S.rf hl)
/-! IslandOfficeModel$World.grumble()V -/
abbrev zy_W_grumble : MethodName := ⟨"IslandOfficeModel$World", "grumble", "()V"⟩
abbrev zb_W_grumble : ByteArray := prog_15_method_48_code
abbrev zm_W_grumble : Room := { frames := 3, cells := 0, slots := 0, locals := 64 }
theorem zq_W_grumble : zMy zy_W_grumble zb_W_grumble 5 (none) 0 := ⟨zk_1945, zk_1944, zs_85, zk_15, by decide, by decide, by decide +kernel⟩
theorem zd_W_grumble_0 : decode zb_W_grumble 0 = .ok (.aload_n 0, 1) := by decide +kernel
theorem zd_W_grumble_1 : decode zb_W_grumble 1 = .ok (.iconst 1, 1) := by decide +kernel
theorem zd_W_grumble_2 : decode zb_W_grumble 2 = .ok (.invokevirtual 337, 3) := by decide +kernel
theorem zd_W_grumble_5 : decode zb_W_grumble 5 = .ok (.istore_n 1, 1) := by decide +kernel
theorem zd_W_grumble_6 : decode zb_W_grumble 6 = .ok (.aload_n 0, 1) := by decide +kernel
theorem zd_W_grumble_7 : decode zb_W_grumble 7 = .ok (.iconst 2, 1) := by decide +kernel
theorem zd_W_grumble_8 : decode zb_W_grumble 8 = .ok (.invokevirtual 337, 3) := by decide +kernel
theorem zd_W_grumble_11 : decode zb_W_grumble 11 = .ok (.istore_n 2, 1) := by decide +kernel
theorem zd_W_grumble_12 : decode zb_W_grumble 12 = .ok (.iconst 0, 1) := by decide +kernel
theorem zd_W_grumble_13 : decode zb_W_grumble 13 = .ok (.istore_n 3, 1) := by decide +kernel
theorem zd_W_grumble_14 : decode zb_W_grumble 14 = .ok (.iload_n 3, 1) := by decide +kernel
theorem zd_W_grumble_15 : decode zb_W_grumble 15 = .ok (.aload_n 0, 1) := by decide +kernel
theorem zd_W_grumble_16 : decode zb_W_grumble 16 = .ok (.getfield 158, 3) := by decide +kernel
theorem zd_W_grumble_19 : decode zb_W_grumble 19 = .ok (.if_icmp .ge 131, 3) := by decide +kernel
theorem zd_W_grumble_22 : decode zb_W_grumble 22 = .ok (.aload_n 0, 1) := by decide +kernel
theorem zd_W_grumble_23 : decode zb_W_grumble 23 = .ok (.iload_n 3, 1) := by decide +kernel
theorem zd_W_grumble_24 : decode zb_W_grumble 24 = .ok (.invokevirtual 203, 3) := by decide +kernel
theorem zd_W_grumble_27 : decode zb_W_grumble 27 = .ok (.ifCond .ne 6, 3) := by decide +kernel
theorem zd_W_grumble_30 : decode zb_W_grumble 30 = .ok (.goto 114, 3) := by decide +kernel
theorem zd_W_grumble_33 : decode zb_W_grumble 33 = .ok (.iconst 2, 1) := by decide +kernel
theorem zd_W_grumble_34 : decode zb_W_grumble 34 = .ok (.aload_n 0, 1) := by decide +kernel
theorem zd_W_grumble_35 : decode zb_W_grumble 35 = .ok (.getfield 36, 3) := by decide +kernel
theorem zd_W_grumble_38 : decode zb_W_grumble 38 = .ok (.iload_n 3, 1) := by decide +kernel
theorem zd_W_grumble_39 : decode zb_W_grumble 39 = .ok (.iaload, 1) := by decide +kernel
theorem zd_W_grumble_40 : decode zb_W_grumble 40 = .ok (.imul, 1) := by decide +kernel
theorem zd_W_grumble_41 : decode zb_W_grumble 41 = .ok (.aload_n 0, 1) := by decide +kernel
theorem zd_W_grumble_42 : decode zb_W_grumble 42 = .ok (.getfield 48, 3) := by decide +kernel
theorem zd_W_grumble_45 : decode zb_W_grumble 45 = .ok (.aload_n 0, 1) := by decide +kernel
theorem zd_W_grumble_46 : decode zb_W_grumble 46 = .ok (.getfield 15, 3) := by decide +kernel
theorem zd_W_grumble_49 : decode zb_W_grumble 49 = .ok (.iload_n 3, 1) := by decide +kernel
theorem zd_W_grumble_50 : decode zb_W_grumble 50 = .ok (.iaload, 1) := by decide +kernel
theorem zd_W_grumble_51 : decode zb_W_grumble 51 = .ok (.iaload, 1) := by decide +kernel
theorem zd_W_grumble_52 : decode zb_W_grumble 52 = .ok (.iadd, 1) := by decide +kernel
theorem zd_W_grumble_53 : decode zb_W_grumble 53 = .ok (.aload_n 0, 1) := by decide +kernel
theorem zd_W_grumble_54 : decode zb_W_grumble 54 = .ok (.getfield 129, 3) := by decide +kernel
theorem zd_W_grumble_57 : decode zb_W_grumble 57 = .ok (.iconst 1, 1) := by decide +kernel
theorem zd_W_grumble_58 : decode zb_W_grumble 58 = .ok (.iaload, 1) := by decide +kernel
theorem zd_W_grumble_59 : decode zb_W_grumble 59 = .ok (.iadd, 1) := by decide +kernel
theorem zd_W_grumble_60 : decode zb_W_grumble 60 = .ok (.istore 4, 2) := by decide +kernel
theorem zd_W_grumble_62 : decode zb_W_grumble 62 = .ok (.iload 4, 2) := by decide +kernel
theorem zd_W_grumble_64 : decode zb_W_grumble 64 = .ok (.iload_n 1, 1) := by decide +kernel
theorem zd_W_grumble_65 : decode zb_W_grumble 65 = .ok (.ifCond .ne 15, 3) := by decide +kernel
theorem zd_W_grumble_68 : decode zb_W_grumble 68 = .ok (.aload_n 0, 1) := by decide +kernel
theorem zd_W_grumble_69 : decode zb_W_grumble 69 = .ok (.iload_n 3, 1) := by decide +kernel
theorem zd_W_grumble_70 : decode zb_W_grumble 70 = .ok (.invokevirtual 340, 3) := by decide +kernel
theorem zd_W_grumble_73 : decode zb_W_grumble 73 = .ok (.ifCond .eq 7, 3) := by decide +kernel
theorem zd_W_grumble_76 : decode zb_W_grumble 76 = .ok (.iconst 2, 1) := by decide +kernel
theorem zd_W_grumble_77 : decode zb_W_grumble 77 = .ok (.goto 4, 3) := by decide +kernel
theorem zd_W_grumble_80 : decode zb_W_grumble 80 = .ok (.iconst 0, 1) := by decide +kernel
theorem zd_W_grumble_81 : decode zb_W_grumble 81 = .ok (.iadd, 1) := by decide +kernel
theorem zd_W_grumble_82 : decode zb_W_grumble 82 = .ok (.istore 4, 2) := by decide +kernel
theorem zd_W_grumble_84 : decode zb_W_grumble 84 = .ok (.iload 4, 2) := by decide +kernel
theorem zd_W_grumble_86 : decode zb_W_grumble 86 = .ok (.iload_n 2, 1) := by decide +kernel
theorem zd_W_grumble_87 : decode zb_W_grumble 87 = .ok (.ifCond .ne 20, 3) := by decide +kernel
theorem zd_W_grumble_90 : decode zb_W_grumble 90 = .ok (.aload_n 0, 1) := by decide +kernel
theorem zd_W_grumble_91 : decode zb_W_grumble 91 = .ok (.aload_n 0, 1) := by decide +kernel
theorem zd_W_grumble_92 : decode zb_W_grumble 92 = .ok (.getfield 15, 3) := by decide +kernel
theorem zd_W_grumble_95 : decode zb_W_grumble 95 = .ok (.iload_n 3, 1) := by decide +kernel
theorem zd_W_grumble_96 : decode zb_W_grumble 96 = .ok (.iaload, 1) := by decide +kernel
theorem zd_W_grumble_97 : decode zb_W_grumble 97 = .ok (.invokevirtual 343, 3) := by decide +kernel
theorem zd_W_grumble_100 : decode zb_W_grumble 100 = .ok (.ifCond .eq 7, 3) := by decide +kernel
theorem zd_W_grumble_103 : decode zb_W_grumble 103 = .ok (.iconst 1, 1) := by decide +kernel
theorem zd_W_grumble_104 : decode zb_W_grumble 104 = .ok (.goto 4, 3) := by decide +kernel
theorem zd_W_grumble_107 : decode zb_W_grumble 107 = .ok (.iconst 0, 1) := by decide +kernel
theorem zd_W_grumble_108 : decode zb_W_grumble 108 = .ok (.iadd, 1) := by decide +kernel
theorem zd_W_grumble_109 : decode zb_W_grumble 109 = .ok (.istore 4, 2) := by decide +kernel
theorem zd_W_grumble_111 : decode zb_W_grumble 111 = .ok (.aload_n 0, 1) := by decide +kernel
theorem zd_W_grumble_112 : decode zb_W_grumble 112 = .ok (.getfield 30, 3) := by decide +kernel
theorem zd_W_grumble_115 : decode zb_W_grumble 115 = .ok (.iload_n 3, 1) := by decide +kernel
theorem zd_W_grumble_116 : decode zb_W_grumble 116 = .ok (.iconst 0, 1) := by decide +kernel
theorem zd_W_grumble_117 : decode zb_W_grumble 117 = .ok (.bipush 99, 2) := by decide +kernel
theorem zd_W_grumble_119 : decode zb_W_grumble 119 = .ok (.aload_n 0, 1) := by decide +kernel
theorem zd_W_grumble_120 : decode zb_W_grumble 120 = .ok (.getfield 30, 3) := by decide +kernel
theorem zd_W_grumble_123 : decode zb_W_grumble 123 = .ok (.iload_n 3, 1) := by decide +kernel
theorem zd_W_grumble_124 : decode zb_W_grumble 124 = .ok (.iaload, 1) := by decide +kernel
theorem zd_W_grumble_125 : decode zb_W_grumble 125 = .ok (.iload 4, 2) := by decide +kernel
theorem zd_W_grumble_127 : decode zb_W_grumble 127 = .ok (.ifCond .ne 7, 3) := by decide +kernel
theorem zd_W_grumble_130 : decode zb_W_grumble 130 = .ok (.iconst (-1), 1) := by decide +kernel
theorem zd_W_grumble_131 : decode zb_W_grumble 131 = .ok (.goto 5, 3) := by decide +kernel
theorem zd_W_grumble_134 : decode zb_W_grumble 134 = .ok (.iload 4, 2) := by decide +kernel
theorem zd_W_grumble_136 : decode zb_W_grumble 136 = .ok (.iadd, 1) := by decide +kernel
theorem zd_W_grumble_137 : decode zb_W_grumble 137 = .ok (.invokestatic 314, 3) := by decide +kernel
theorem zd_W_grumble_140 : decode zb_W_grumble 140 = .ok (.invokestatic 309, 3) := by decide +kernel
theorem zd_W_grumble_143 : decode zb_W_grumble 143 = .ok (.iastore, 1) := by decide +kernel
theorem zd_W_grumble_144 : decode zb_W_grumble 144 = .ok (.iinc 3 1, 3) := by decide +kernel
theorem zd_W_grumble_147 : decode zb_W_grumble 147 = .ok (.goto (-133), 3) := by decide +kernel
theorem zd_W_grumble_150 : decode zb_W_grumble 150 = .ok (.return_, 1) := by decide +kernel

def zf_W_grumble_144 (r0 : Int) (q14 : Int → Int → Int → Sg → Option (Int × Sg)) (x1 : Int) (x2 : Int) (x3 : Int) (S : Sg) : Option (Int × Sg) :=
    zlt (zw (x3 + 1)) fun v1 => q14 (x1) (x2) (v1) S
set_option maxHeartbeats 4000000 in
set_option maxRecDepth 100000 in
theorem zw_W_grumble_144 {p : Program} {l : Launch} {e : Env} {s : State} {m : MethodId} {args : Array Value} {below : List Frame} {meth : Method} {c : Code} {B : zB} (C : CallFix p m c zb_W_grumble 5 s args zT "IslandOfficeModel$World") (hr : meth.sig.returnType = none) (hlk : meth.locks = false) (hK : zK B s) (hSt : zSt B s) (hap : zAp B) (r0 : Int) (hr0 : 0 ≤ r0 ∧ r0 < 3) {res : Int} {S9 : Sg} (q14 : Int → Int → Int → Sg → Option (Int × Sg)) (hq14 : ∀ (x1 : Int) (x2 : Int) (x3 : Int) (S : Sg) (nx1 : zn x1) (nx2 : zn x2) (nx3 : zn x3), q14 x1 x2 x3 S = some (res, S9) → ∀ (H : Heap) (locs : List Loc) (ls : Array Slot), zW B S H → va_S B.2.2.2 s.heap H locs → lv_has ls 5 [(0, .ref (B.2.1 5 (r0) (0))), (1, .int (zI (x1))), (2, .int (zI (x2))), (3, .int (zI (x3)))] → W p l e zm_W_grumble s m args below meth c H locs 0 0 (MQ below (zQv B S9) args s 0 0 B.2.2.2) (F0 m 14 ls [])) : ∀ (x1 : Int) (x2 : Int) (x3 : Int) (S : Sg) (nx1 : zn x1) (nx2 : zn x2) (nx3 : zn x3), zf_W_grumble_144 r0 q14 x1 x2 x3 S = some (res, S9) → ∀ (H : Heap) (locs : List Loc) (ls : Array Slot), zW B S H → va_S B.2.2.2 s.heap H locs → lv_has ls 5 [(0, .ref (B.2.1 5 (r0) (0))), (1, .int (zI (x1))), (2, .int (zI (x2))), (3, .int (zI (x3)))] → W p l e zm_W_grumble s m args below meth c H locs 0 0 (MQ below (zQv B S9) args s 0 0 B.2.2.2) (F0 m 144 ls []) := by
  intro x1 x2 x3 S nx1 nx2 nx3 hf H locs ls hW hS hl
  unfold zf_W_grumble_144 at hf
  obtain ⟨v1, ev1, hf⟩ := zlt_some hf
  have nv1 : zn v1 := by rw [← ev1]; exact zn_w _
  refine lv_iinc (v := zI v1) (lv' := [(3, .int (zI (v1))), (0, .ref (B.2.1 5 (r0) (0))), (1, .int (zI (x1))), (2, .int (zI (x2)))]) C.1 C.2.1 zd_W_grumble_144 hl (k := 3) rfl (by rw [← ev1, ← zI_add]; rfl) (by decide) rfl (fun ls hl => ?_)
  refine lv_goto (tgt := 14) C.1 C.2.1 zd_W_grumble_147 (by decide) ?_
  exact hq14 (x1) (x2) (v1) S nx1 nx2 nv1 hf _ _ _ hW hS (lv_sub hl [1, 2, 3, 0] rfl)

def zf_W_grumble_136 (r0 : Int) (q14 : Int → Int → Int → Sg → Option (Int × Sg)) (x1 : Int) (x2 : Int) (x3 : Int) (xt1 : Int) (xt2 : Int) (xt3 : Int) (xt4 : Int) (xt5 : Int) (S : Sg) : Option (Int × Sg) :=
    zck (0 ≤ xt1 ∧ xt1 < 40) <| zlt (zu S 5 r0 7 xt1 (max xt2 (min xt3 (zw (xt4 + xt5))))) fun S2 => zf_W_grumble_144 r0 q14 (x1) (x2) (x3) S2
set_option maxHeartbeats 4000000 in
set_option maxRecDepth 100000 in
theorem zw_W_grumble_136 {p : Program} {l : Launch} {e : Env} {s : State} {m : MethodId} {args : Array Value} {below : List Frame} {meth : Method} {c : Code} {B : zB} (C : CallFix p m c zb_W_grumble 5 s args zT "IslandOfficeModel$World") (hr : meth.sig.returnType = none) (hlk : meth.locks = false) (hK : zK B s) (hSt : zSt B s) (hap : zAp B) (r0 : Int) (hr0 : 0 ≤ r0 ∧ r0 < 3) {res : Int} {S9 : Sg} (q14 : Int → Int → Int → Sg → Option (Int × Sg)) (hq14 : ∀ (x1 : Int) (x2 : Int) (x3 : Int) (S : Sg) (nx1 : zn x1) (nx2 : zn x2) (nx3 : zn x3), q14 x1 x2 x3 S = some (res, S9) → ∀ (H : Heap) (locs : List Loc) (ls : Array Slot), zW B S H → va_S B.2.2.2 s.heap H locs → lv_has ls 5 [(0, .ref (B.2.1 5 (r0) (0))), (1, .int (zI (x1))), (2, .int (zI (x2))), (3, .int (zI (x3)))] → W p l e zm_W_grumble s m args below meth c H locs 0 0 (MQ below (zQv B S9) args s 0 0 B.2.2.2) (F0 m 14 ls [])) : ∀ (x1 : Int) (x2 : Int) (x3 : Int) (xt1 : Int) (xt2 : Int) (xt3 : Int) (xt4 : Int) (xt5 : Int) (S : Sg) (nx1 : zn x1) (nx2 : zn x2) (nx3 : zn x3) (nxt1 : zn xt1) (nxt2 : zn xt2) (nxt3 : zn xt3) (nxt4 : zn xt4) (nxt5 : zn xt5), zf_W_grumble_136 r0 q14 x1 x2 x3 xt1 xt2 xt3 xt4 xt5 S = some (res, S9) → ∀ (H : Heap) (locs : List Loc) (ls : Array Slot), zW B S H → va_S B.2.2.2 s.heap H locs → lv_has ls 5 [(0, .ref (B.2.1 5 (r0) (0))), (1, .int (zI (x1))), (2, .int (zI (x2))), (3, .int (zI (x3)))] → W p l e zm_W_grumble s m args below meth c H locs 0 0 (MQ below (zQv B S9) args s 0 0 B.2.2.2) (F0 m 136 ls [.int (zI (xt5)), .int (zI (xt4)), .int (zI (xt3)), .int (zI (xt2)), .int (zI (xt1)), .ref (B.2.1 5 (r0) (7))]) := by
  intro x1 x2 x3 xt1 xt2 xt3 xt4 xt5 S nx1 nx2 nx3 nxt1 nxt2 nxt3 nxt4 nxt5 hf H locs ls hW hS hl
  unfold zf_W_grumble_136 at hf
  refine zr_iadd C zd_W_grumble_136 ?_
  refine zr_min C hl.1 nxt3 (zn_w _) zk_1928 zk_909 zk_16 zk_910 (by decide) (Nat.le_of_ble_eq_true rfl) ⟨by decide, by decide⟩ zd_W_grumble_137 ?_
  refine zr_max C hl.1 nxt2 (zn_min nxt3 (zn_w _)) zk_1898 zk_678 zk_16 zk_679 (by decide) (Nat.le_of_ble_eq_true rfl) ⟨by decide, by decide⟩ zd_W_grumble_140 ?_
  obtain ⟨h1, hf⟩ := zck_some hf
  obtain ⟨S2, eS2, hf⟩ := zlt_some hf
  refine ziast C hK hap hW hS (zvd_5 hr0 (by decide)) (fun f => ze_5_7 B f (r0)) (by decide) rfl (zn_max nxt2 (zn_min nxt3 (zn_w _))) h1 zd_W_grumble_143 (fun H locs hW hS => ?_)
  rw [eS2] at hW
  exact zw_W_grumble_144 C hr hlk hK hSt hap r0 hr0 q14 hq14 (x1) (x2) (x3) S2 nx1 nx2 nx3 hf _ _ _ hW hS (lv_sub hl [0, 1, 2, 3] rfl)

def zf_W_grumble_108 (r0 : Int) (q14 : Int → Int → Int → Sg → Option (Int × Sg)) (x1 : Int) (x2 : Int) (x3 : Int) (xt0 : Int) (xt1 : Int) (S : Sg) : Option (Int × Sg) :=
    zlt (zw (xt0 + xt1)) fun v1 => zck (0 ≤ x3 ∧ x3 < 40) <| if v1 = 0 then (zf_W_grumble_136 r0 q14 (x1) (x2) (x3) (x3) (0) (99) (S 5 r0 7 x3) (-1) S) else (zf_W_grumble_136 r0 q14 (x1) (x2) (x3) (x3) (0) (99) (S 5 r0 7 x3) (v1) S)
set_option maxHeartbeats 4000000 in
set_option maxRecDepth 100000 in
theorem zw_W_grumble_108 {p : Program} {l : Launch} {e : Env} {s : State} {m : MethodId} {args : Array Value} {below : List Frame} {meth : Method} {c : Code} {B : zB} (C : CallFix p m c zb_W_grumble 5 s args zT "IslandOfficeModel$World") (hr : meth.sig.returnType = none) (hlk : meth.locks = false) (hK : zK B s) (hSt : zSt B s) (hap : zAp B) (r0 : Int) (hr0 : 0 ≤ r0 ∧ r0 < 3) {res : Int} {S9 : Sg} (q14 : Int → Int → Int → Sg → Option (Int × Sg)) (hq14 : ∀ (x1 : Int) (x2 : Int) (x3 : Int) (S : Sg) (nx1 : zn x1) (nx2 : zn x2) (nx3 : zn x3), q14 x1 x2 x3 S = some (res, S9) → ∀ (H : Heap) (locs : List Loc) (ls : Array Slot), zW B S H → va_S B.2.2.2 s.heap H locs → lv_has ls 5 [(0, .ref (B.2.1 5 (r0) (0))), (1, .int (zI (x1))), (2, .int (zI (x2))), (3, .int (zI (x3)))] → W p l e zm_W_grumble s m args below meth c H locs 0 0 (MQ below (zQv B S9) args s 0 0 B.2.2.2) (F0 m 14 ls [])) : ∀ (x1 : Int) (x2 : Int) (x3 : Int) (xt0 : Int) (xt1 : Int) (S : Sg) (nx1 : zn x1) (nx2 : zn x2) (nx3 : zn x3) (nxt0 : zn xt0) (nxt1 : zn xt1), zf_W_grumble_108 r0 q14 x1 x2 x3 xt0 xt1 S = some (res, S9) → ∀ (H : Heap) (locs : List Loc) (ls : Array Slot), zW B S H → va_S B.2.2.2 s.heap H locs → lv_has ls 5 [(0, .ref (B.2.1 5 (r0) (0))), (1, .int (zI (x1))), (2, .int (zI (x2))), (3, .int (zI (x3)))] → W p l e zm_W_grumble s m args below meth c H locs 0 0 (MQ below (zQv B S9) args s 0 0 B.2.2.2) (F0 m 108 ls [.int (zI (xt1)), .int (zI (xt0))]) := by
  intro x1 x2 x3 xt0 xt1 S nx1 nx2 nx3 nxt0 nxt1 hf H locs ls hW hS hl
  unfold zf_W_grumble_108 at hf
  refine zr_iadd C zd_W_grumble_108 ?_
  obtain ⟨v1, ev1, hf⟩ := zlt_some hf
  have nv1 : zn v1 := by rw [← ev1]; exact (zn_w _)
  rw [ev1]
  refine lv_istore (lv' := [(4, .int (zI (v1))), (0, .ref (B.2.1 5 (r0) (0))), (1, .int (zI (x1))), (2, .int (zI (x2))), (3, .int (zI (x3)))]) C.1 C.2.1 zd_W_grumble_109 hl (by decide) rfl (fun ls hl => ?_)
  refine lv_aload_n C.1 C.2.1 zd_W_grumble_111 rfl (lv_at hl 1 rfl) ?_
  refine zg_W_discontent (r := r0) C hK hW (zvd_5 hr0 (by decide)) zk_1291 zd_W_grumble_112 ?_
  refine lv_iload_n C.1 C.2.1 zd_W_grumble_115 rfl (lv_at hl 4 rfl) ?_
  refine zr_iconst C zd_W_grumble_116 ?_
  refine zr_bipush C zd_W_grumble_117 (by decide) ?_
  refine lv_aload_n C.1 C.2.1 zd_W_grumble_119 rfl (lv_at hl 1 rfl) ?_
  refine zg_W_discontent (r := r0) C hK hW (zvd_5 hr0 (by decide)) zk_1291 zd_W_grumble_120 ?_
  refine lv_iload_n C.1 C.2.1 zd_W_grumble_123 rfl (lv_at hl 4 rfl) ?_
  obtain ⟨h2, hf⟩ := zck_some hf
  refine ziald C hK hW (zvd_5 hr0 (by decide)) (fun f => ze_5_7 B f (r0)) (by decide) h2 zd_W_grumble_124 ?_
  refine lv_iload C.1 C.2.1 zd_W_grumble_125 (lv_at hl 0 rfl) ?_
  refine zr_if_ne (tgt := 134) C nv1 zd_W_grumble_127 (by decide) (fun c3 => ?_) (fun c3 => ?_)
  · rw [if_neg c3] at hf
    refine lv_iload C.1 C.2.1 zd_W_grumble_134 (lv_at hl 0 rfl) ?_
    exact zw_W_grumble_136 C hr hlk hK hSt hap r0 hr0 q14 hq14 (x1) (x2) (x3) (x3) (0) (99) (S 5 r0 7 x3) (v1) S nx1 nx2 nx3 nx3 (znb rfl) (znb rfl) (zWn hW _ _ _ _ rfl) nv1 hf _ _ _ hW hS (lv_sub hl [1, 2, 3, 4] rfl)
  · rw [if_pos c3] at hf
    refine zr_iconst C zd_W_grumble_130 ?_
    refine lv_goto (tgt := 136) C.1 C.2.1 zd_W_grumble_131 (by decide) ?_
    exact zw_W_grumble_136 C hr hlk hK hSt hap r0 hr0 q14 hq14 (x1) (x2) (x3) (x3) (0) (99) (S 5 r0 7 x3) (-1) S nx1 nx2 nx3 nx3 (znb rfl) (znb rfl) (zWn hW _ _ _ _ rfl) (znb rfl) hf _ _ _ hW hS (lv_sub hl [1, 2, 3, 4] rfl)

def zf_W_grumble_107 (r0 : Int) (q14 : Int → Int → Int → Sg → Option (Int × Sg)) (x1 : Int) (x2 : Int) (x3 : Int) (xt0 : Int) (S : Sg) : Option (Int × Sg) :=
    zf_W_grumble_108 r0 q14 (x1) (x2) (x3) (xt0) (0) S
set_option maxHeartbeats 4000000 in
set_option maxRecDepth 100000 in
theorem zw_W_grumble_107 {p : Program} {l : Launch} {e : Env} {s : State} {m : MethodId} {args : Array Value} {below : List Frame} {meth : Method} {c : Code} {B : zB} (C : CallFix p m c zb_W_grumble 5 s args zT "IslandOfficeModel$World") (hr : meth.sig.returnType = none) (hlk : meth.locks = false) (hK : zK B s) (hSt : zSt B s) (hap : zAp B) (r0 : Int) (hr0 : 0 ≤ r0 ∧ r0 < 3) {res : Int} {S9 : Sg} (q14 : Int → Int → Int → Sg → Option (Int × Sg)) (hq14 : ∀ (x1 : Int) (x2 : Int) (x3 : Int) (S : Sg) (nx1 : zn x1) (nx2 : zn x2) (nx3 : zn x3), q14 x1 x2 x3 S = some (res, S9) → ∀ (H : Heap) (locs : List Loc) (ls : Array Slot), zW B S H → va_S B.2.2.2 s.heap H locs → lv_has ls 5 [(0, .ref (B.2.1 5 (r0) (0))), (1, .int (zI (x1))), (2, .int (zI (x2))), (3, .int (zI (x3)))] → W p l e zm_W_grumble s m args below meth c H locs 0 0 (MQ below (zQv B S9) args s 0 0 B.2.2.2) (F0 m 14 ls [])) : ∀ (x1 : Int) (x2 : Int) (x3 : Int) (xt0 : Int) (S : Sg) (nx1 : zn x1) (nx2 : zn x2) (nx3 : zn x3) (nxt0 : zn xt0), zf_W_grumble_107 r0 q14 x1 x2 x3 xt0 S = some (res, S9) → ∀ (H : Heap) (locs : List Loc) (ls : Array Slot), zW B S H → va_S B.2.2.2 s.heap H locs → lv_has ls 5 [(0, .ref (B.2.1 5 (r0) (0))), (1, .int (zI (x1))), (2, .int (zI (x2))), (3, .int (zI (x3)))] → W p l e zm_W_grumble s m args below meth c H locs 0 0 (MQ below (zQv B S9) args s 0 0 B.2.2.2) (F0 m 107 ls [.int (zI (xt0))]) := by
  intro x1 x2 x3 xt0 S nx1 nx2 nx3 nxt0 hf H locs ls hW hS hl
  unfold zf_W_grumble_107 at hf
  refine zr_iconst C zd_W_grumble_107 ?_
  exact zw_W_grumble_108 C hr hlk hK hSt hap r0 hr0 q14 hq14 (x1) (x2) (x3) (xt0) (0) S nx1 nx2 nx3 nxt0 (znb rfl) hf _ _ _ hW hS (lv_sub hl [0, 1, 2, 3] rfl)

def zf_W_grumble_81 (r0 : Int) (q14 : Int → Int → Int → Sg → Option (Int × Sg)) (x1 : Int) (x2 : Int) (x3 : Int) (xt0 : Int) (xt1 : Int) (S : Sg) : Option (Int × Sg) :=
    zlt (zw (xt0 + xt1)) fun v1 => if x2 = 0 then (zck (0 ≤ x3 ∧ x3 < 40) <| zbd (zf_W_oldIn (r0) (S 5 r0 2 x3) S) fun a4 S5 => if a4 = 0 then (zf_W_grumble_107 r0 q14 (x1) (x2) (x3) (v1) S5) else (zf_W_grumble_108 r0 q14 (x1) (x2) (x3) (v1) (1) S5)) else (zf_W_grumble_107 r0 q14 (x1) (x2) (x3) (v1) S)
set_option maxHeartbeats 4000000 in
set_option maxRecDepth 100000 in
theorem zw_W_grumble_81 {p : Program} {l : Launch} {e : Env} {s : State} {m : MethodId} {args : Array Value} {below : List Frame} {meth : Method} {c : Code} {B : zB} (C : CallFix p m c zb_W_grumble 5 s args zT "IslandOfficeModel$World") (hr : meth.sig.returnType = none) (hlk : meth.locks = false) (hK : zK B s) (hSt : zSt B s) (hap : zAp B) (r0 : Int) (hr0 : 0 ≤ r0 ∧ r0 < 3) {res : Int} {S9 : Sg} (q14 : Int → Int → Int → Sg → Option (Int × Sg)) (hq14 : ∀ (x1 : Int) (x2 : Int) (x3 : Int) (S : Sg) (nx1 : zn x1) (nx2 : zn x2) (nx3 : zn x3), q14 x1 x2 x3 S = some (res, S9) → ∀ (H : Heap) (locs : List Loc) (ls : Array Slot), zW B S H → va_S B.2.2.2 s.heap H locs → lv_has ls 5 [(0, .ref (B.2.1 5 (r0) (0))), (1, .int (zI (x1))), (2, .int (zI (x2))), (3, .int (zI (x3)))] → W p l e zm_W_grumble s m args below meth c H locs 0 0 (MQ below (zQv B S9) args s 0 0 B.2.2.2) (F0 m 14 ls [])) : ∀ (x1 : Int) (x2 : Int) (x3 : Int) (xt0 : Int) (xt1 : Int) (S : Sg) (nx1 : zn x1) (nx2 : zn x2) (nx3 : zn x3) (nxt0 : zn xt0) (nxt1 : zn xt1), zf_W_grumble_81 r0 q14 x1 x2 x3 xt0 xt1 S = some (res, S9) → ∀ (H : Heap) (locs : List Loc) (ls : Array Slot), zW B S H → va_S B.2.2.2 s.heap H locs → lv_has ls 5 [(0, .ref (B.2.1 5 (r0) (0))), (1, .int (zI (x1))), (2, .int (zI (x2))), (3, .int (zI (x3)))] → W p l e zm_W_grumble s m args below meth c H locs 0 0 (MQ below (zQv B S9) args s 0 0 B.2.2.2) (F0 m 81 ls [.int (zI (xt1)), .int (zI (xt0))]) := by
  intro x1 x2 x3 xt0 xt1 S nx1 nx2 nx3 nxt0 nxt1 hf H locs ls hW hS hl
  unfold zf_W_grumble_81 at hf
  refine zr_iadd C zd_W_grumble_81 ?_
  obtain ⟨v1, ev1, hf⟩ := zlt_some hf
  have nv1 : zn v1 := by rw [← ev1]; exact (zn_w _)
  rw [ev1]
  refine lv_istore (lv' := [(4, .int (zI (v1))), (0, .ref (B.2.1 5 (r0) (0))), (1, .int (zI (x1))), (2, .int (zI (x2))), (3, .int (zI (x3)))]) C.1 C.2.1 zd_W_grumble_82 hl (by decide) rfl (fun ls hl => ?_)
  refine lv_iload C.1 C.2.1 zd_W_grumble_84 (lv_at hl 0 rfl) ?_
  refine lv_iload_n C.1 C.2.1 zd_W_grumble_86 rfl (lv_at hl 3 rfl) ?_
  refine zr_if_ne (tgt := 107) C nx2 zd_W_grumble_87 (by decide) (fun c2 => ?_) (fun c2 => ?_)
  · rw [if_neg c2] at hf
    exact zw_W_grumble_107 C hr hlk hK hSt hap r0 hr0 q14 hq14 (x1) (x2) (x3) (v1) S nx1 nx2 nx3 nv1 hf _ _ _ hW hS (lv_sub hl [1, 2, 3, 4] rfl)
  · rw [if_pos c2] at hf
    refine lv_aload_n C.1 C.2.1 zd_W_grumble_90 rfl (lv_at hl 1 rfl) ?_
    refine lv_aload_n C.1 C.2.1 zd_W_grumble_91 rfl (lv_at hl 1 rfl) ?_
    refine zg_W_house (r := r0) C hK hW (zvd_5 hr0 (by decide)) zk_1281 zd_W_grumble_92 ?_
    refine lv_iload_n C.1 C.2.1 zd_W_grumble_95 rfl (lv_at hl 4 rfl) ?_
    obtain ⟨h3, hf⟩ := zck_some hf
    refine ziald C hK hW (zvd_5 hr0 (by decide)) (fun f => ze_5_2 B f (r0)) (by decide) h3 zd_W_grumble_96 ?_
    obtain ⟨a4, S5, ea4, hf⟩ := zbd_some hf
    refine zcVi (As := [.int (zI (S 5 r0 2 x3))]) (rest := [.int (zI (v1))]) C hK hSt hW hS (zc_W_oldIn hap (r0) hr0 (S 5 r0 2 x3) S (zWn hW _ _ _ _ rfl) ea4) zq_W_oldIn zk_1954 (zrecv hK hW (zvd_5 hr0 (by decide)) (ze_5_0 B _ (r0)) rfl) ⟨rfl, rfl, by decide, by decide⟩ ⟨by decide, by decide⟩ rfl hl.1 rfl (lv_room (Nat.le_of_ble_eq_true rfl)) zd_W_grumble_97 (fun na4 H locs hW hS => ?_)
    refine zr_if_eq (tgt := 107) C na4 zd_W_grumble_100 (by decide) (fun c6 => ?_) (fun c6 => ?_)
    · rw [if_pos c6] at hf
      exact zw_W_grumble_107 C hr hlk hK hSt hap r0 hr0 q14 hq14 (x1) (x2) (x3) (v1) S5 nx1 nx2 nx3 nv1 hf _ _ _ hW hS (lv_sub hl [1, 2, 3, 4] rfl)
    · rw [if_neg c6] at hf
      refine zr_iconst C zd_W_grumble_103 ?_
      refine lv_goto (tgt := 108) C.1 C.2.1 zd_W_grumble_104 (by decide) ?_
      exact zw_W_grumble_108 C hr hlk hK hSt hap r0 hr0 q14 hq14 (x1) (x2) (x3) (v1) (1) S5 nx1 nx2 nx3 nv1 (znb rfl) hf _ _ _ hW hS (lv_sub hl [1, 2, 3, 4] rfl)

def zf_W_grumble_80 (r0 : Int) (q14 : Int → Int → Int → Sg → Option (Int × Sg)) (x1 : Int) (x2 : Int) (x3 : Int) (xt0 : Int) (S : Sg) : Option (Int × Sg) :=
    zf_W_grumble_81 r0 q14 (x1) (x2) (x3) (xt0) (0) S
set_option maxHeartbeats 4000000 in
set_option maxRecDepth 100000 in
theorem zw_W_grumble_80 {p : Program} {l : Launch} {e : Env} {s : State} {m : MethodId} {args : Array Value} {below : List Frame} {meth : Method} {c : Code} {B : zB} (C : CallFix p m c zb_W_grumble 5 s args zT "IslandOfficeModel$World") (hr : meth.sig.returnType = none) (hlk : meth.locks = false) (hK : zK B s) (hSt : zSt B s) (hap : zAp B) (r0 : Int) (hr0 : 0 ≤ r0 ∧ r0 < 3) {res : Int} {S9 : Sg} (q14 : Int → Int → Int → Sg → Option (Int × Sg)) (hq14 : ∀ (x1 : Int) (x2 : Int) (x3 : Int) (S : Sg) (nx1 : zn x1) (nx2 : zn x2) (nx3 : zn x3), q14 x1 x2 x3 S = some (res, S9) → ∀ (H : Heap) (locs : List Loc) (ls : Array Slot), zW B S H → va_S B.2.2.2 s.heap H locs → lv_has ls 5 [(0, .ref (B.2.1 5 (r0) (0))), (1, .int (zI (x1))), (2, .int (zI (x2))), (3, .int (zI (x3)))] → W p l e zm_W_grumble s m args below meth c H locs 0 0 (MQ below (zQv B S9) args s 0 0 B.2.2.2) (F0 m 14 ls [])) : ∀ (x1 : Int) (x2 : Int) (x3 : Int) (xt0 : Int) (S : Sg) (nx1 : zn x1) (nx2 : zn x2) (nx3 : zn x3) (nxt0 : zn xt0), zf_W_grumble_80 r0 q14 x1 x2 x3 xt0 S = some (res, S9) → ∀ (H : Heap) (locs : List Loc) (ls : Array Slot), zW B S H → va_S B.2.2.2 s.heap H locs → lv_has ls 5 [(0, .ref (B.2.1 5 (r0) (0))), (1, .int (zI (x1))), (2, .int (zI (x2))), (3, .int (zI (x3)))] → W p l e zm_W_grumble s m args below meth c H locs 0 0 (MQ below (zQv B S9) args s 0 0 B.2.2.2) (F0 m 80 ls [.int (zI (xt0))]) := by
  intro x1 x2 x3 xt0 S nx1 nx2 nx3 nxt0 hf H locs ls hW hS hl
  unfold zf_W_grumble_80 at hf
  refine zr_iconst C zd_W_grumble_80 ?_
  exact zw_W_grumble_81 C hr hlk hK hSt hap r0 hr0 q14 hq14 (x1) (x2) (x3) (xt0) (0) S nx1 nx2 nx3 nxt0 (znb rfl) hf _ _ _ hW hS (lv_sub hl [0, 1, 2, 3] rfl)

def zf_W_grumble_14 (r0 : Int) : Nat → Int → Int → Int → Sg → Option (Int × Sg)
  | 0, _, _, _, _ => none
  | n + 1, x1, x2, x3, S =>
    if (S 5 r0 0 1) ≤ x3 then (some (0, S)) else (zbd (zf_W_here (r0) x3 S) fun a2 S3 => if a2 = 0 then (zf_W_grumble_144 r0 (zf_W_grumble_14 r0 n) (x1) (x2) (x3) S3) else (zck (0 ≤ x3 ∧ x3 < 40) <| zck (0 ≤ (S3 5 r0 2 x3) ∧ (S3 5 r0 2 x3) < 12) <| zlt (zw ((zw ((zw (2 * (S3 5 r0 9 x3))) + (S3 5 r0 13 (S3 5 r0 2 x3)))) + (S3 5 r0 34 1))) fun v7 => if x1 = 0 then (zbd (zf_W_isMother (r0) x3 S3) fun a9 S10 => if a9 = 0 then (zf_W_grumble_80 r0 (zf_W_grumble_14 r0 n) (x1) (x2) (x3) (v7) S10) else (zf_W_grumble_81 r0 (zf_W_grumble_14 r0 n) (x1) (x2) (x3) (v7) (2) S10)) else (zf_W_grumble_80 r0 (zf_W_grumble_14 r0 n) (x1) (x2) (x3) (v7) S3)))
set_option maxHeartbeats 4000000 in
set_option maxRecDepth 100000 in
theorem zw_W_grumble_14 {p : Program} {l : Launch} {e : Env} {s : State} {m : MethodId} {args : Array Value} {below : List Frame} {meth : Method} {c : Code} {B : zB} (C : CallFix p m c zb_W_grumble 5 s args zT "IslandOfficeModel$World") (hr : meth.sig.returnType = none) (hlk : meth.locks = false) (hK : zK B s) (hSt : zSt B s) (hap : zAp B) (r0 : Int) (hr0 : 0 ≤ r0 ∧ r0 < 3) {res : Int} {S9 : Sg} : ∀ n : Nat, ∀ (x1 : Int) (x2 : Int) (x3 : Int) (S : Sg) (nx1 : zn x1) (nx2 : zn x2) (nx3 : zn x3), zf_W_grumble_14 r0 n x1 x2 x3 S = some (res, S9) → ∀ (H : Heap) (locs : List Loc) (ls : Array Slot), zW B S H → va_S B.2.2.2 s.heap H locs → lv_has ls 5 [(0, .ref (B.2.1 5 (r0) (0))), (1, .int (zI (x1))), (2, .int (zI (x2))), (3, .int (zI (x3)))] → W p l e zm_W_grumble s m args below meth c H locs 0 0 (MQ below (zQv B S9) args s 0 0 B.2.2.2) (F0 m 14 ls []) := by
  intro n
  induction n with
  | zero =>
    intro x1 x2 x3 S nx1 nx2 nx3 hf H locs ls hW hS hl
    cases hf
  | succ n ih =>
    intro x1 x2 x3 S nx1 nx2 nx3 hf H locs ls hW hS hl
    rw [zf_W_grumble_14] at hf
    refine lv_iload_n C.1 C.2.1 zd_W_grumble_14 rfl (lv_at hl 3 rfl) ?_
    refine lv_aload_n C.1 C.2.1 zd_W_grumble_15 rfl (lv_at hl 0 rfl) ?_
    refine zg_W_people (r := r0) C hK hW (zvd_5 hr0 (by decide)) zk_1277 zd_W_grumble_16 ?_
    refine zr_icmp_ge (tgt := 150) C nx3 (zWn hW _ _ _ _ rfl) zd_W_grumble_19 (by decide) (fun c1 => ?_) (fun c1 => ?_)
    · rw [if_pos c1] at hf
      cases hf
      exact zre_v C hr hlk hK hW hS zd_W_grumble_150
    · rw [if_neg c1] at hf
      refine lv_aload_n C.1 C.2.1 zd_W_grumble_22 rfl (lv_at hl 0 rfl) ?_
      refine lv_iload_n C.1 C.2.1 zd_W_grumble_23 rfl (lv_at hl 3 rfl) ?_
      obtain ⟨a2, S3, ea2, hf⟩ := zbd_some hf
      refine zcVi (As := [.int (zI (x3))]) (rest := []) C hK hSt hW hS (zc_W_here hap (r0) hr0 x3 S nx3 ea2) zq_W_here zk_1640 (zrecv hK hW (zvd_5 hr0 (by decide)) (ze_5_0 B _ (r0)) rfl) ⟨rfl, rfl, by decide, by decide⟩ ⟨by decide, by decide⟩ rfl hl.1 rfl (lv_room (Nat.le_of_ble_eq_true rfl)) zd_W_grumble_24 (fun na2 H locs hW hS => ?_)
      refine zr_if_ne (tgt := 33) C na2 zd_W_grumble_27 (by decide) (fun c4 => ?_) (fun c4 => ?_)
      · rw [if_neg c4] at hf
        refine zr_iconst C zd_W_grumble_33 ?_
        refine lv_aload_n C.1 C.2.1 zd_W_grumble_34 rfl (lv_at hl 0 rfl) ?_
        refine zg_W_hungry (r := r0) C hK hW (zvd_5 hr0 (by decide)) zk_1295 zd_W_grumble_35 ?_
        refine lv_iload_n C.1 C.2.1 zd_W_grumble_38 rfl (lv_at hl 3 rfl) ?_
        obtain ⟨h5, hf⟩ := zck_some hf
        refine ziald C hK hW (zvd_5 hr0 (by decide)) (fun f => ze_5_9 B f (r0)) (by decide) h5 zd_W_grumble_39 ?_
        refine zr_imul C zd_W_grumble_40 ?_
        refine lv_aload_n C.1 C.2.1 zd_W_grumble_41 rfl (lv_at hl 0 rfl) ?_
        refine zg_W_dry (r := r0) C hK hW (zvd_5 hr0 (by decide)) zk_1303 zd_W_grumble_42 ?_
        refine lv_aload_n C.1 C.2.1 zd_W_grumble_45 rfl (lv_at hl 0 rfl) ?_
        refine zg_W_house (r := r0) C hK hW (zvd_5 hr0 (by decide)) zk_1281 zd_W_grumble_46 ?_
        refine lv_iload_n C.1 C.2.1 zd_W_grumble_49 rfl (lv_at hl 3 rfl) ?_
        refine ziald C hK hW (zvd_5 hr0 (by decide)) (fun f => ze_5_2 B f (r0)) (by decide) h5 zd_W_grumble_50 ?_
        obtain ⟨h6, hf⟩ := zck_some hf
        refine ziald C hK hW (zvd_5 hr0 (by decide)) (fun f => ze_5_13 B f (r0)) (by decide) h6 zd_W_grumble_51 ?_
        refine zr_iadd C zd_W_grumble_52 ?_
        refine lv_aload_n C.1 C.2.1 zd_W_grumble_53 rfl (lv_at hl 0 rfl) ?_
        refine zg_W_lacking (r := r0) C hK hW (zvd_5 hr0 (by decide)) zk_1367 zd_W_grumble_54 ?_
        refine zr_iconst C zd_W_grumble_57 ?_
        refine ziald C hK hW (zvd_5 hr0 (by decide)) (fun f => ze_5_34 B f (r0)) (by decide) (by decide) zd_W_grumble_58 ?_
        refine zr_iadd C zd_W_grumble_59 ?_
        obtain ⟨v7, ev7, hf⟩ := zlt_some hf
        have nv7 : zn v7 := by rw [← ev7]; exact (zn_w _)
        rw [ev7]
        refine lv_istore (lv' := [(4, .int (zI (v7))), (0, .ref (B.2.1 5 (r0) (0))), (1, .int (zI (x1))), (2, .int (zI (x2))), (3, .int (zI (x3)))]) C.1 C.2.1 zd_W_grumble_60 hl (by decide) rfl (fun ls hl => ?_)
        refine lv_iload C.1 C.2.1 zd_W_grumble_62 (lv_at hl 0 rfl) ?_
        refine lv_iload_n C.1 C.2.1 zd_W_grumble_64 rfl (lv_at hl 2 rfl) ?_
        refine zr_if_ne (tgt := 80) C nx1 zd_W_grumble_65 (by decide) (fun c8 => ?_) (fun c8 => ?_)
        · rw [if_neg c8] at hf
          exact zw_W_grumble_80 C hr hlk hK hSt hap r0 hr0 (zf_W_grumble_14 r0 n) (ih) (x1) (x2) (x3) (v7) S3 nx1 nx2 nx3 nv7 hf _ _ _ hW hS (lv_sub hl [1, 2, 3, 4] rfl)
        · rw [if_pos c8] at hf
          refine lv_aload_n C.1 C.2.1 zd_W_grumble_68 rfl (lv_at hl 1 rfl) ?_
          refine lv_iload_n C.1 C.2.1 zd_W_grumble_69 rfl (lv_at hl 4 rfl) ?_
          obtain ⟨a9, S10, ea9, hf⟩ := zbd_some hf
          refine zcVi (As := [.int (zI (x3))]) (rest := [.int (zI (v7))]) C hK hSt hW hS (zc_W_isMother hap (r0) hr0 x3 S3 nx3 ea9) zq_W_isMother zk_1950 (zrecv hK hW (zvd_5 hr0 (by decide)) (ze_5_0 B _ (r0)) rfl) ⟨rfl, rfl, by decide, by decide⟩ ⟨by decide, by decide⟩ rfl hl.1 rfl (lv_room (Nat.le_of_ble_eq_true rfl)) zd_W_grumble_70 (fun na9 H locs hW hS => ?_)
          refine zr_if_eq (tgt := 80) C na9 zd_W_grumble_73 (by decide) (fun c11 => ?_) (fun c11 => ?_)
          · rw [if_pos c11] at hf
            exact zw_W_grumble_80 C hr hlk hK hSt hap r0 hr0 (zf_W_grumble_14 r0 n) (ih) (x1) (x2) (x3) (v7) S10 nx1 nx2 nx3 nv7 hf _ _ _ hW hS (lv_sub hl [1, 2, 3, 4] rfl)
          · rw [if_neg c11] at hf
            refine zr_iconst C zd_W_grumble_76 ?_
            refine lv_goto (tgt := 81) C.1 C.2.1 zd_W_grumble_77 (by decide) ?_
            exact zw_W_grumble_81 C hr hlk hK hSt hap r0 hr0 (zf_W_grumble_14 r0 n) (ih) (x1) (x2) (x3) (v7) (2) S10 nx1 nx2 nx3 nv7 (znb rfl) hf _ _ _ hW hS (lv_sub hl [1, 2, 3, 4] rfl)
      · rw [if_pos c4] at hf
        refine lv_goto (tgt := 144) C.1 C.2.1 zd_W_grumble_30 (by decide) ?_
        exact zw_W_grumble_144 C hr hlk hK hSt hap r0 hr0 (zf_W_grumble_14 r0 n) (ih) (x1) (x2) (x3) S3 nx1 nx2 nx3 hf _ _ _ hW hS (lv_sub hl [0, 1, 2, 3] rfl)

def zf_W_grumble (r0 : Int) (S : Sg) : Option (Int × Sg) :=
    zbd (zf_W_anyFilled (r0) 1 S) fun a1 S2 => zbd (zf_W_anyFilled (r0) 2 S2) fun a3 S4 => zf_W_grumble_14 r0 4096 (a1) (a3) (0) S4
set_option maxHeartbeats 4000000 in
set_option maxRecDepth 100000 in
theorem zw_W_grumble {p : Program} {l : Launch} {e : Env} {s : State} {m : MethodId} {args : Array Value} {below : List Frame} {meth : Method} {c : Code} {B : zB} (C : CallFix p m c zb_W_grumble 5 s args zT "IslandOfficeModel$World") (hr : meth.sig.returnType = none) (hlk : meth.locks = false) (hK : zK B s) (hSt : zSt B s) (hap : zAp B) (r0 : Int) (hr0 : 0 ≤ r0 ∧ r0 < 3) {res : Int} {S9 : Sg} : ∀  (S : Sg) , zf_W_grumble r0  S = some (res, S9) → ∀ (H : Heap) (locs : List Loc) (ls : Array Slot), zW B S H → va_S B.2.2.2 s.heap H locs → lv_has ls 5 [(0, .ref (B.2.1 5 (r0) (0)))] → W p l e zm_W_grumble s m args below meth c H locs 0 0 (MQ below (zQv B S9) args s 0 0 B.2.2.2) (F0 m 0 ls []) := by
  intro S hf H locs ls hW hS hl
  unfold zf_W_grumble at hf
  refine lv_aload_n C.1 C.2.1 zd_W_grumble_0 rfl (lv_at hl 0 rfl) ?_
  refine zr_iconst C zd_W_grumble_1 ?_
  obtain ⟨a1, S2, ea1, hf⟩ := zbd_some hf
  refine zcVi (As := [.int (zI (1))]) (rest := []) C hK hSt hW hS (zc_W_anyFilled hap (r0) hr0 1 S (znb rfl) ea1) zq_W_anyFilled zk_1946 (zrecv hK hW (zvd_5 hr0 (by decide)) (ze_5_0 B _ (r0)) rfl) ⟨rfl, rfl, by decide, by decide⟩ ⟨by decide, by decide⟩ rfl hl.1 rfl (lv_room (Nat.le_of_ble_eq_true rfl)) zd_W_grumble_2 (fun na1 H locs hW hS => ?_)
  refine lv_istore_n (lv' := [(1, .int (zI (a1))), (0, .ref (B.2.1 5 (r0) (0)))]) C.1 C.2.1 zd_W_grumble_5 rfl hl (by decide) rfl (fun ls hl => ?_)
  refine lv_aload_n C.1 C.2.1 zd_W_grumble_6 rfl (lv_at hl 1 rfl) ?_
  refine zr_iconst C zd_W_grumble_7 ?_
  obtain ⟨a3, S4, ea3, hf⟩ := zbd_some hf
  refine zcVi (As := [.int (zI (2))]) (rest := []) C hK hSt hW hS (zc_W_anyFilled hap (r0) hr0 2 S2 (znb rfl) ea3) zq_W_anyFilled zk_1946 (zrecv hK hW (zvd_5 hr0 (by decide)) (ze_5_0 B _ (r0)) rfl) ⟨rfl, rfl, by decide, by decide⟩ ⟨by decide, by decide⟩ rfl hl.1 rfl (lv_room (Nat.le_of_ble_eq_true rfl)) zd_W_grumble_8 (fun na3 H locs hW hS => ?_)
  refine lv_istore_n (lv' := [(2, .int (zI (a3))), (1, .int (zI (a1))), (0, .ref (B.2.1 5 (r0) (0)))]) C.1 C.2.1 zd_W_grumble_11 rfl hl (by decide) rfl (fun ls hl => ?_)
  refine zr_iconst C zd_W_grumble_12 ?_
  refine lv_istore_n (lv' := [(3, .int (zI (0))), (2, .int (zI (a3))), (1, .int (zI (a1))), (0, .ref (B.2.1 5 (r0) (0)))]) C.1 C.2.1 zd_W_grumble_13 rfl hl (by decide) rfl (fun ls hl => ?_)
  exact zw_W_grumble_14 C hr hlk hK hSt hap r0 hr0 4096 (a1) (a3) (0) S4 na1 na3 (znb rfl) hf _ _ _ hW hS (lv_sub hl [3, 2, 1, 0] rfl)

theorem zc_W_grumble {l : Launch} {B : zB} (hap : zAp B) (r0 : Int) (hr0 : 0 ≤ r0 ∧ r0 < 3) (S : Sg) {res : Int} {S9 : Sg} (hf : zf_W_grumble r0 S = some (res, S9)) : Met l zy_W_grumble (Cond.code zy_W_grumble zb_W_grumble 5 (none) :: zT) zm_W_grumble (zP B S [.ref (B.2.1 5 (r0) (0))]) (zQv B S9) 0 0 B.2.2.2 :=
  zmet (by decide) (Nat.le_of_ble_eq_true rfl) (fun p e s m args below meth c C hr hlk hK hSt hW ls hl => zw_W_grumble C hr hlk hK hSt hap r0 hr0  S  hf _ _ _ hW va_S.rf hl)
/-! IslandOfficeModel$World.payOne(I)V -/
abbrev zy_W_payOne : MethodName := ⟨"IslandOfficeModel$World", "payOne", "(I)V"⟩
abbrev zb_W_payOne : ByteArray := prog_15_method_49_code
abbrev zm_W_payOne : Room := { frames := 0, cells := 0, slots := 0, locals := 0 }
theorem zq_W_payOne : zMy zy_W_payOne zb_W_payOne 2 (none) 1 := ⟨zk_1971, zk_1970, zs_90, zk_15, by decide, by decide, by decide +kernel⟩
theorem zd_W_payOne_0 : decode zb_W_payOne 0 = .ok (.iload_n 1, 1) := by decide +kernel
theorem zd_W_payOne_1 : decode zb_W_payOne 1 = .ok (.ifCond .ne 4, 3) := by decide +kernel
theorem zd_W_payOne_4 : decode zb_W_payOne 4 = .ok (.return_, 1) := by decide +kernel
theorem zd_W_payOne_5 : decode zb_W_payOne 5 = .ok (.aload_n 0, 1) := by decide +kernel
theorem zd_W_payOne_6 : decode zb_W_payOne 6 = .ok (.getfield 174, 3) := by decide +kernel
theorem zd_W_payOne_9 : decode zb_W_payOne 9 = .ok (.iload_n 1, 1) := by decide +kernel
theorem zd_W_payOne_10 : decode zb_W_payOne 10 = .ok (.if_icmp .lt 16, 3) := by decide +kernel
theorem zd_W_payOne_13 : decode zb_W_payOne 13 = .ok (.aload_n 0, 1) := by decide +kernel
theorem zd_W_payOne_14 : decode zb_W_payOne 14 = .ok (.dup, 1) := by decide +kernel
theorem zd_W_payOne_15 : decode zb_W_payOne 15 = .ok (.getfield 174, 3) := by decide +kernel
theorem zd_W_payOne_18 : decode zb_W_payOne 18 = .ok (.iload_n 1, 1) := by decide +kernel
theorem zd_W_payOne_19 : decode zb_W_payOne 19 = .ok (.isub, 1) := by decide +kernel
theorem zd_W_payOne_20 : decode zb_W_payOne 20 = .ok (.putfield 174, 3) := by decide +kernel
theorem zd_W_payOne_23 : decode zb_W_payOne 23 = .ok (.goto 13, 3) := by decide +kernel
theorem zd_W_payOne_26 : decode zb_W_payOne 26 = .ok (.aload_n 0, 1) := by decide +kernel
theorem zd_W_payOne_27 : decode zb_W_payOne 27 = .ok (.dup, 1) := by decide +kernel
theorem zd_W_payOne_28 : decode zb_W_payOne 28 = .ok (.getfield 180, 3) := by decide +kernel
theorem zd_W_payOne_31 : decode zb_W_payOne 31 = .ok (.iconst 1, 1) := by decide +kernel
theorem zd_W_payOne_32 : decode zb_W_payOne 32 = .ok (.iadd, 1) := by decide +kernel
theorem zd_W_payOne_33 : decode zb_W_payOne 33 = .ok (.putfield 180, 3) := by decide +kernel
theorem zd_W_payOne_36 : decode zb_W_payOne 36 = .ok (.return_, 1) := by decide +kernel

def zf_W_payOne (r0 : Int) (x1 : Int) (S : Sg) : Option (Int × Sg) :=
    if x1 = 0 then (some (0, S)) else (if (S 5 r0 0 38) < x1 then (zlt (zu S 5 r0 0 40 (zw ((S 5 r0 0 40) + 1))) fun S3 => some (0, S3)) else (zlt (zu S 5 r0 0 38 (zw ((S 5 r0 0 38) - x1))) fun S4 => some (0, S4)))
set_option maxHeartbeats 4000000 in
set_option maxRecDepth 100000 in
theorem zw_W_payOne {p : Program} {l : Launch} {e : Env} {s : State} {m : MethodId} {args : Array Value} {below : List Frame} {meth : Method} {c : Code} {B : zB} (C : CallFix p m c zb_W_payOne 2 s args zT "IslandOfficeModel$World") (hr : meth.sig.returnType = none) (hlk : meth.locks = false) (hK : zK B s) (hSt : zSt B s) (hap : zAp B) (r0 : Int) (hr0 : 0 ≤ r0 ∧ r0 < 3) {res : Int} {S9 : Sg} : ∀ (x1 : Int) (S : Sg) (nx1 : zn x1), zf_W_payOne r0 x1 S = some (res, S9) → ∀ (H : Heap) (locs : List Loc) (ls : Array Slot), zW B S H → va_S B.2.2.2 s.heap H locs → lv_has ls 2 [(0, .ref (B.2.1 5 (r0) (0))), (1, .int (zI (x1)))] → W p l e zm_W_payOne s m args below meth c H locs 0 0 (MQ below (zQv B S9) args s 0 0 B.2.2.2) (F0 m 0 ls []) := by
  intro x1 S nx1 hf H locs ls hW hS hl
  unfold zf_W_payOne at hf
  refine lv_iload_n C.1 C.2.1 zd_W_payOne_0 rfl (lv_at hl 1 rfl) ?_
  refine zr_if_ne (tgt := 5) C nx1 zd_W_payOne_1 (by decide) (fun c1 => ?_) (fun c1 => ?_)
  · rw [if_neg c1] at hf
    refine lv_aload_n C.1 C.2.1 zd_W_payOne_5 rfl (lv_at hl 0 rfl) ?_
    refine zg_W_purse (r := r0) C hK hW (zvd_5 hr0 (by decide)) zk_1351 zd_W_payOne_6 ?_
    refine lv_iload_n C.1 C.2.1 zd_W_payOne_9 rfl (lv_at hl 1 rfl) ?_
    refine zr_icmp_lt (tgt := 26) C (zWn hW _ _ _ _ rfl) nx1 zd_W_payOne_10 (by decide) (fun c2 => ?_) (fun c2 => ?_)
    · rw [if_pos c2] at hf
      refine lv_aload_n C.1 C.2.1 zd_W_payOne_26 rfl (lv_at hl 0 rfl) ?_
      refine lv_dup C.1 C.2.1 zd_W_payOne_27 rfl ?_
      refine zg_W_unpaid (r := r0) C hK hW (zvd_5 hr0 (by decide)) zk_1355 zd_W_payOne_28 ?_
      refine zr_iconst C zd_W_payOne_31 ?_
      refine zr_iadd C zd_W_payOne_32 ?_
      obtain ⟨S3, eS3, hf⟩ := zlt_some hf
      refine zp_W_unpaid (r := r0) C hK hap hW hS (zvd_5 hr0 (by decide)) zk_1355 (zn_w _) zd_W_payOne_33 (fun H locs hW hS => ?_)
      rw [eS3] at hW
      cases hf
      exact zre_v C hr hlk hK hW hS zd_W_payOne_36
    · rw [if_neg c2] at hf
      refine lv_aload_n C.1 C.2.1 zd_W_payOne_13 rfl (lv_at hl 0 rfl) ?_
      refine lv_dup C.1 C.2.1 zd_W_payOne_14 rfl ?_
      refine zg_W_purse (r := r0) C hK hW (zvd_5 hr0 (by decide)) zk_1351 zd_W_payOne_15 ?_
      refine lv_iload_n C.1 C.2.1 zd_W_payOne_18 rfl (lv_at hl 1 rfl) ?_
      refine zr_isub C zd_W_payOne_19 ?_
      obtain ⟨S4, eS4, hf⟩ := zlt_some hf
      refine zp_W_purse (r := r0) C hK hap hW hS (zvd_5 hr0 (by decide)) zk_1351 (zn_w _) zd_W_payOne_20 (fun H locs hW hS => ?_)
      rw [eS4] at hW
      refine lv_goto (tgt := 36) C.1 C.2.1 zd_W_payOne_23 (by decide) ?_
      cases hf
      exact zre_v C hr hlk hK hW hS zd_W_payOne_36
  · rw [if_pos c1] at hf
    cases hf
    exact zre_v C hr hlk hK hW hS zd_W_payOne_4

theorem zc_W_payOne {l : Launch} {B : zB} (hap : zAp B) (r0 : Int) (hr0 : 0 ≤ r0 ∧ r0 < 3) (x1 : Int) (S : Sg) (nx1 : zn x1) {res : Int} {S9 : Sg} (hf : zf_W_payOne r0 x1 S = some (res, S9)) : Met l zy_W_payOne (Cond.code zy_W_payOne zb_W_payOne 2 (none) :: zT) zm_W_payOne (zP B S [.ref (B.2.1 5 (r0) (0)), .int (zI (x1))]) (zQv B S9) 0 0 B.2.2.2 :=
  zmet (by decide) (Nat.le_of_ble_eq_true rfl) (fun p e s m args below meth c C hr hlk hK hSt hW ls hl => zw_W_payOne C hr hlk hK hSt hap r0 hr0 x1 S nx1 hf _ _ _ hW va_S.rf hl)
/-! IslandOfficeModel$World.pay()V -/
abbrev zy_W_pay : MethodName := ⟨"IslandOfficeModel$World", "pay", "()V"⟩
abbrev zb_W_pay : ByteArray := prog_15_method_50_code
abbrev zm_W_pay : Room := { frames := 3, cells := 0, slots := 0, locals := 64 }
theorem zq_W_pay : zMy zy_W_pay zb_W_pay 4 (none) 0 := ⟨zk_1961, zk_1960, zs_89, zk_15, by decide, by decide, by decide +kernel⟩
theorem zd_W_pay_0 : decode zb_W_pay 0 = .ok (.aload_n 0, 1) := by decide +kernel
theorem zd_W_pay_1 : decode zb_W_pay 1 = .ok (.ldc_w 346, 3) := by decide +kernel
theorem zd_W_pay_4 : decode zb_W_pay 4 = .ok (.aload_n 0, 1) := by decide +kernel
theorem zd_W_pay_5 : decode zb_W_pay 5 = .ok (.getfield 174, 3) := by decide +kernel
theorem zd_W_pay_8 : decode zb_W_pay 8 = .ok (.iconst 5, 1) := by decide +kernel
theorem zd_W_pay_9 : decode zb_W_pay 9 = .ok (.aload_n 0, 1) := by decide +kernel
theorem zd_W_pay_10 : decode zb_W_pay 10 = .ok (.iconst 1, 1) := by decide +kernel
theorem zd_W_pay_11 : decode zb_W_pay 11 = .ok (.invokevirtual 347, 3) := by decide +kernel
theorem zd_W_pay_14 : decode zb_W_pay 14 = .ok (.imul, 1) := by decide +kernel
theorem zd_W_pay_15 : decode zb_W_pay 15 = .ok (.iadd, 1) := by decide +kernel
theorem zd_W_pay_16 : decode zb_W_pay 16 = .ok (.invokestatic 314, 3) := by decide +kernel
theorem zd_W_pay_19 : decode zb_W_pay 19 = .ok (.putfield 174, 3) := by decide +kernel
theorem zd_W_pay_22 : decode zb_W_pay 22 = .ok (.iconst 0, 1) := by decide +kernel
theorem zd_W_pay_23 : decode zb_W_pay 23 = .ok (.istore_n 1, 1) := by decide +kernel
theorem zd_W_pay_24 : decode zb_W_pay 24 = .ok (.iload_n 1, 1) := by decide +kernel
theorem zd_W_pay_25 : decode zb_W_pay 25 = .ok (.iconst 3, 1) := by decide +kernel
theorem zd_W_pay_26 : decode zb_W_pay 26 = .ok (.if_icmp .ge 133, 3) := by decide +kernel
theorem zd_W_pay_29 : decode zb_W_pay 29 = .ok (.aload_n 0, 1) := by decide +kernel
theorem zd_W_pay_30 : decode zb_W_pay 30 = .ok (.getfield 111, 3) := by decide +kernel
theorem zd_W_pay_33 : decode zb_W_pay 33 = .ok (.iload_n 1, 1) := by decide +kernel
theorem zd_W_pay_34 : decode zb_W_pay 34 = .ok (.iaload, 1) := by decide +kernel
theorem zd_W_pay_35 : decode zb_W_pay 35 = .ok (.iconst 2, 1) := by decide +kernel
theorem zd_W_pay_36 : decode zb_W_pay 36 = .ok (.if_icmp .ne 34, 3) := by decide +kernel
theorem zd_W_pay_39 : decode zb_W_pay 39 = .ok (.aload_n 0, 1) := by decide +kernel
theorem zd_W_pay_40 : decode zb_W_pay 40 = .ok (.getfield 174, 3) := by decide +kernel
theorem zd_W_pay_43 : decode zb_W_pay 43 = .ok (.iconst 5, 1) := by decide +kernel
theorem zd_W_pay_44 : decode zb_W_pay 44 = .ok (.if_icmp .lt 109, 3) := by decide +kernel
theorem zd_W_pay_47 : decode zb_W_pay 47 = .ok (.aload_n 0, 1) := by decide +kernel
theorem zd_W_pay_48 : decode zb_W_pay 48 = .ok (.dup, 1) := by decide +kernel
theorem zd_W_pay_49 : decode zb_W_pay 49 = .ok (.getfield 174, 3) := by decide +kernel
theorem zd_W_pay_52 : decode zb_W_pay 52 = .ok (.iconst 5, 1) := by decide +kernel
theorem zd_W_pay_53 : decode zb_W_pay 53 = .ok (.isub, 1) := by decide +kernel
theorem zd_W_pay_54 : decode zb_W_pay 54 = .ok (.putfield 174, 3) := by decide +kernel
theorem zd_W_pay_57 : decode zb_W_pay 57 = .ok (.aload_n 0, 1) := by decide +kernel
theorem zd_W_pay_58 : decode zb_W_pay 58 = .ok (.dup, 1) := by decide +kernel
theorem zd_W_pay_59 : decode zb_W_pay 59 = .ok (.getfield 177, 3) := by decide +kernel
theorem zd_W_pay_62 : decode zb_W_pay 62 = .ok (.iconst 5, 1) := by decide +kernel
theorem zd_W_pay_63 : decode zb_W_pay 63 = .ok (.iadd, 1) := by decide +kernel
theorem zd_W_pay_64 : decode zb_W_pay 64 = .ok (.putfield 177, 3) := by decide +kernel
theorem zd_W_pay_67 : decode zb_W_pay 67 = .ok (.goto 86, 3) := by decide +kernel
theorem zd_W_pay_70 : decode zb_W_pay 70 = .ok (.iconst 0, 1) := by decide +kernel
theorem zd_W_pay_71 : decode zb_W_pay 71 = .ok (.istore_n 2, 1) := by decide +kernel
theorem zd_W_pay_72 : decode zb_W_pay 72 = .ok (.iload_n 2, 1) := by decide +kernel
theorem zd_W_pay_73 : decode zb_W_pay 73 = .ok (.aload_n 0, 1) := by decide +kernel
theorem zd_W_pay_74 : decode zb_W_pay 74 = .ok (.getfield 158, 3) := by decide +kernel
theorem zd_W_pay_77 : decode zb_W_pay 77 = .ok (.if_icmp .ge 76, 3) := by decide +kernel
theorem zd_W_pay_80 : decode zb_W_pay 80 = .ok (.aload_n 0, 1) := by decide +kernel
theorem zd_W_pay_81 : decode zb_W_pay 81 = .ok (.iload_n 2, 1) := by decide +kernel
theorem zd_W_pay_82 : decode zb_W_pay 82 = .ok (.invokevirtual 193, 3) := by decide +kernel
theorem zd_W_pay_85 : decode zb_W_pay 85 = .ok (.iconst 2, 1) := by decide +kernel
theorem zd_W_pay_86 : decode zb_W_pay 86 = .ok (.if_icmp .eq 12, 3) := by decide +kernel
theorem zd_W_pay_89 : decode zb_W_pay 89 = .ok (.aload_n 0, 1) := by decide +kernel
theorem zd_W_pay_90 : decode zb_W_pay 90 = .ok (.iload_n 2, 1) := by decide +kernel
theorem zd_W_pay_91 : decode zb_W_pay 91 = .ok (.invokevirtual 193, 3) := by decide +kernel
theorem zd_W_pay_94 : decode zb_W_pay 94 = .ok (.iconst 5, 1) := by decide +kernel
theorem zd_W_pay_95 : decode zb_W_pay 95 = .ok (.if_icmp .ne 7, 3) := by decide +kernel
theorem zd_W_pay_98 : decode zb_W_pay 98 = .ok (.iconst 1, 1) := by decide +kernel
theorem zd_W_pay_99 : decode zb_W_pay 99 = .ok (.goto 4, 3) := by decide +kernel
theorem zd_W_pay_102 : decode zb_W_pay 102 = .ok (.iconst 0, 1) := by decide +kernel
theorem zd_W_pay_103 : decode zb_W_pay 103 = .ok (.istore_n 3, 1) := by decide +kernel
theorem zd_W_pay_104 : decode zb_W_pay 104 = .ok (.aload_n 0, 1) := by decide +kernel
theorem zd_W_pay_105 : decode zb_W_pay 105 = .ok (.getfield 111, 3) := by decide +kernel
theorem zd_W_pay_108 : decode zb_W_pay 108 = .ok (.iload_n 1, 1) := by decide +kernel
theorem zd_W_pay_109 : decode zb_W_pay 109 = .ok (.iaload, 1) := by decide +kernel
theorem zd_W_pay_110 : decode zb_W_pay 110 = .ok (.ifCond .ne 19, 3) := by decide +kernel
theorem zd_W_pay_113 : decode zb_W_pay 113 = .ok (.iload_n 3, 1) := by decide +kernel
theorem zd_W_pay_114 : decode zb_W_pay 114 = .ok (.ifCond .eq 33, 3) := by decide +kernel
theorem zd_W_pay_117 : decode zb_W_pay 117 = .ok (.aload_n 0, 1) := by decide +kernel
theorem zd_W_pay_118 : decode zb_W_pay 118 = .ok (.getfield 33, 3) := by decide +kernel
theorem zd_W_pay_121 : decode zb_W_pay 121 = .ok (.iload_n 2, 1) := by decide +kernel
theorem zd_W_pay_122 : decode zb_W_pay 122 = .ok (.iaload, 1) := by decide +kernel
theorem zd_W_pay_123 : decode zb_W_pay 123 = .ok (.ifCond .lt 24, 3) := by decide +kernel
theorem zd_W_pay_126 : decode zb_W_pay 126 = .ok (.goto 12, 3) := by decide +kernel
theorem zd_W_pay_129 : decode zb_W_pay 129 = .ok (.aload_n 0, 1) := by decide +kernel
theorem zd_W_pay_130 : decode zb_W_pay 130 = .ok (.iload_n 2, 1) := by decide +kernel
theorem zd_W_pay_131 : decode zb_W_pay 131 = .ok (.invokevirtual 193, 3) := by decide +kernel
theorem zd_W_pay_134 : decode zb_W_pay 134 = .ok (.iconst 4, 1) := by decide +kernel
theorem zd_W_pay_135 : decode zb_W_pay 135 = .ok (.if_icmp .ne 12, 3) := by decide +kernel
theorem zd_W_pay_138 : decode zb_W_pay 138 = .ok (.aload_n 0, 1) := by decide +kernel
theorem zd_W_pay_139 : decode zb_W_pay 139 = .ok (.aload_n 0, 1) := by decide +kernel
theorem zd_W_pay_140 : decode zb_W_pay 140 = .ok (.iload_n 2, 1) := by decide +kernel
theorem zd_W_pay_141 : decode zb_W_pay 141 = .ok (.invokevirtual 350, 3) := by decide +kernel
theorem zd_W_pay_144 : decode zb_W_pay 144 = .ok (.invokevirtual 353, 3) := by decide +kernel
theorem zd_W_pay_147 : decode zb_W_pay 147 = .ok (.iinc 2 1, 3) := by decide +kernel
theorem zd_W_pay_150 : decode zb_W_pay 150 = .ok (.goto (-78), 3) := by decide +kernel
theorem zd_W_pay_153 : decode zb_W_pay 153 = .ok (.iinc 1 1, 3) := by decide +kernel
theorem zd_W_pay_156 : decode zb_W_pay 156 = .ok (.goto (-132), 3) := by decide +kernel
theorem zd_W_pay_159 : decode zb_W_pay 159 = .ok (.return_, 1) := by decide +kernel

def zf_W_pay_153 (r0 : Int) (q24 : Int → Sg → Option (Int × Sg)) (x1 : Int) (S : Sg) : Option (Int × Sg) :=
    zlt (zw (x1 + 1)) fun v1 => q24 (v1) S
set_option maxHeartbeats 4000000 in
set_option maxRecDepth 100000 in
theorem zw_W_pay_153 {p : Program} {l : Launch} {e : Env} {s : State} {m : MethodId} {args : Array Value} {below : List Frame} {meth : Method} {c : Code} {B : zB} (C : CallFix p m c zb_W_pay 4 s args zT "IslandOfficeModel$World") (hr : meth.sig.returnType = none) (hlk : meth.locks = false) (hK : zK B s) (hSt : zSt B s) (hap : zAp B) (r0 : Int) (hr0 : 0 ≤ r0 ∧ r0 < 3) {res : Int} {S9 : Sg} (q24 : Int → Sg → Option (Int × Sg)) (hq24 : ∀ (x1 : Int) (S : Sg) (nx1 : zn x1), q24 x1 S = some (res, S9) → ∀ (H : Heap) (locs : List Loc) (ls : Array Slot), zW B S H → va_S B.2.2.2 s.heap H locs → lv_has ls 4 [(0, .ref (B.2.1 5 (r0) (0))), (1, .int (zI (x1)))] → W p l e zm_W_pay s m args below meth c H locs 0 0 (MQ below (zQv B S9) args s 0 0 B.2.2.2) (F0 m 24 ls [])) : ∀ (x1 : Int) (S : Sg) (nx1 : zn x1), zf_W_pay_153 r0 q24 x1 S = some (res, S9) → ∀ (H : Heap) (locs : List Loc) (ls : Array Slot), zW B S H → va_S B.2.2.2 s.heap H locs → lv_has ls 4 [(0, .ref (B.2.1 5 (r0) (0))), (1, .int (zI (x1)))] → W p l e zm_W_pay s m args below meth c H locs 0 0 (MQ below (zQv B S9) args s 0 0 B.2.2.2) (F0 m 153 ls []) := by
  intro x1 S nx1 hf H locs ls hW hS hl
  unfold zf_W_pay_153 at hf
  obtain ⟨v1, ev1, hf⟩ := zlt_some hf
  have nv1 : zn v1 := by rw [← ev1]; exact zn_w _
  refine lv_iinc (v := zI v1) (lv' := [(1, .int (zI (v1))), (0, .ref (B.2.1 5 (r0) (0)))]) C.1 C.2.1 zd_W_pay_153 hl (k := 1) rfl (by rw [← ev1, ← zI_add]; rfl) (by decide) rfl (fun ls hl => ?_)
  refine lv_goto (tgt := 24) C.1 C.2.1 zd_W_pay_156 (by decide) ?_
  exact hq24 (v1) S nv1 hf _ _ _ hW hS (lv_sub hl [1, 0] rfl)

def zf_W_pay_147 (r0 : Int) (q24 : Int → Sg → Option (Int × Sg)) (q72 : Int → Int → Sg → Option (Int × Sg)) (x1 : Int) (x2 : Int) (S : Sg) : Option (Int × Sg) :=
    zlt (zw (x2 + 1)) fun v1 => q72 (x1) (v1) S
set_option maxHeartbeats 4000000 in
set_option maxRecDepth 100000 in
theorem zw_W_pay_147 {p : Program} {l : Launch} {e : Env} {s : State} {m : MethodId} {args : Array Value} {below : List Frame} {meth : Method} {c : Code} {B : zB} (C : CallFix p m c zb_W_pay 4 s args zT "IslandOfficeModel$World") (hr : meth.sig.returnType = none) (hlk : meth.locks = false) (hK : zK B s) (hSt : zSt B s) (hap : zAp B) (r0 : Int) (hr0 : 0 ≤ r0 ∧ r0 < 3) {res : Int} {S9 : Sg} (q24 : Int → Sg → Option (Int × Sg)) (hq24 : ∀ (x1 : Int) (S : Sg) (nx1 : zn x1), q24 x1 S = some (res, S9) → ∀ (H : Heap) (locs : List Loc) (ls : Array Slot), zW B S H → va_S B.2.2.2 s.heap H locs → lv_has ls 4 [(0, .ref (B.2.1 5 (r0) (0))), (1, .int (zI (x1)))] → W p l e zm_W_pay s m args below meth c H locs 0 0 (MQ below (zQv B S9) args s 0 0 B.2.2.2) (F0 m 24 ls [])) (q72 : Int → Int → Sg → Option (Int × Sg)) (hq72 : ∀ (x1 : Int) (x2 : Int) (S : Sg) (nx1 : zn x1) (nx2 : zn x2), q72 x1 x2 S = some (res, S9) → ∀ (H : Heap) (locs : List Loc) (ls : Array Slot), zW B S H → va_S B.2.2.2 s.heap H locs → lv_has ls 4 [(0, .ref (B.2.1 5 (r0) (0))), (1, .int (zI (x1))), (2, .int (zI (x2)))] → W p l e zm_W_pay s m args below meth c H locs 0 0 (MQ below (zQv B S9) args s 0 0 B.2.2.2) (F0 m 72 ls [])) : ∀ (x1 : Int) (x2 : Int) (S : Sg) (nx1 : zn x1) (nx2 : zn x2), zf_W_pay_147 r0 q24 q72 x1 x2 S = some (res, S9) → ∀ (H : Heap) (locs : List Loc) (ls : Array Slot), zW B S H → va_S B.2.2.2 s.heap H locs → lv_has ls 4 [(0, .ref (B.2.1 5 (r0) (0))), (1, .int (zI (x1))), (2, .int (zI (x2)))] → W p l e zm_W_pay s m args below meth c H locs 0 0 (MQ below (zQv B S9) args s 0 0 B.2.2.2) (F0 m 147 ls []) := by
  intro x1 x2 S nx1 nx2 hf H locs ls hW hS hl
  unfold zf_W_pay_147 at hf
  obtain ⟨v1, ev1, hf⟩ := zlt_some hf
  have nv1 : zn v1 := by rw [← ev1]; exact zn_w _
  refine lv_iinc (v := zI v1) (lv' := [(2, .int (zI (v1))), (0, .ref (B.2.1 5 (r0) (0))), (1, .int (zI (x1)))]) C.1 C.2.1 zd_W_pay_147 hl (k := 2) rfl (by rw [← ev1, ← zI_add]; rfl) (by decide) rfl (fun ls hl => ?_)
  refine lv_goto (tgt := 72) C.1 C.2.1 zd_W_pay_150 (by decide) ?_
  exact hq72 (x1) (v1) S nx1 nv1 hf _ _ _ hW hS (lv_sub hl [1, 2, 0] rfl)

def zf_W_pay_138 (r0 : Int) (q24 : Int → Sg → Option (Int × Sg)) (q72 : Int → Int → Sg → Option (Int × Sg)) (x1 : Int) (x2 : Int) (S : Sg) : Option (Int × Sg) :=
    zbd (zf_W_wageOf (r0) x2 S) fun a1 S2 => zbd (zf_W_payOne (r0) a1 S2) fun a3 S4 => zf_W_pay_147 r0 q24 q72 (x1) (x2) S4
set_option maxHeartbeats 4000000 in
set_option maxRecDepth 100000 in
theorem zw_W_pay_138 {p : Program} {l : Launch} {e : Env} {s : State} {m : MethodId} {args : Array Value} {below : List Frame} {meth : Method} {c : Code} {B : zB} (C : CallFix p m c zb_W_pay 4 s args zT "IslandOfficeModel$World") (hr : meth.sig.returnType = none) (hlk : meth.locks = false) (hK : zK B s) (hSt : zSt B s) (hap : zAp B) (r0 : Int) (hr0 : 0 ≤ r0 ∧ r0 < 3) {res : Int} {S9 : Sg} (q24 : Int → Sg → Option (Int × Sg)) (hq24 : ∀ (x1 : Int) (S : Sg) (nx1 : zn x1), q24 x1 S = some (res, S9) → ∀ (H : Heap) (locs : List Loc) (ls : Array Slot), zW B S H → va_S B.2.2.2 s.heap H locs → lv_has ls 4 [(0, .ref (B.2.1 5 (r0) (0))), (1, .int (zI (x1)))] → W p l e zm_W_pay s m args below meth c H locs 0 0 (MQ below (zQv B S9) args s 0 0 B.2.2.2) (F0 m 24 ls [])) (q72 : Int → Int → Sg → Option (Int × Sg)) (hq72 : ∀ (x1 : Int) (x2 : Int) (S : Sg) (nx1 : zn x1) (nx2 : zn x2), q72 x1 x2 S = some (res, S9) → ∀ (H : Heap) (locs : List Loc) (ls : Array Slot), zW B S H → va_S B.2.2.2 s.heap H locs → lv_has ls 4 [(0, .ref (B.2.1 5 (r0) (0))), (1, .int (zI (x1))), (2, .int (zI (x2)))] → W p l e zm_W_pay s m args below meth c H locs 0 0 (MQ below (zQv B S9) args s 0 0 B.2.2.2) (F0 m 72 ls [])) : ∀ (x1 : Int) (x2 : Int) (S : Sg) (nx1 : zn x1) (nx2 : zn x2), zf_W_pay_138 r0 q24 q72 x1 x2 S = some (res, S9) → ∀ (H : Heap) (locs : List Loc) (ls : Array Slot), zW B S H → va_S B.2.2.2 s.heap H locs → lv_has ls 4 [(0, .ref (B.2.1 5 (r0) (0))), (1, .int (zI (x1))), (2, .int (zI (x2)))] → W p l e zm_W_pay s m args below meth c H locs 0 0 (MQ below (zQv B S9) args s 0 0 B.2.2.2) (F0 m 138 ls []) := by
  intro x1 x2 S nx1 nx2 hf H locs ls hW hS hl
  unfold zf_W_pay_138 at hf
  refine lv_aload_n C.1 C.2.1 zd_W_pay_138 rfl (lv_at hl 0 rfl) ?_
  refine lv_aload_n C.1 C.2.1 zd_W_pay_139 rfl (lv_at hl 0 rfl) ?_
  refine lv_iload_n C.1 C.2.1 zd_W_pay_140 rfl (lv_at hl 2 rfl) ?_
  obtain ⟨a1, S2, ea1, hf⟩ := zbd_some hf
  refine zcVi (As := [.int (zI (x2))]) (rest := [.ref (B.2.1 5 (r0) (0))]) C hK hSt hW hS (zc_W_wageOf hap (r0) hr0 x2 S nx2 ea1) zq_W_wageOf zk_1967 (zrecv hK hW (zvd_5 hr0 (by decide)) (ze_5_0 B _ (r0)) rfl) ⟨rfl, rfl, by decide, by decide⟩ ⟨by decide, by decide⟩ rfl hl.1 rfl (lv_room (Nat.le_of_ble_eq_true rfl)) zd_W_pay_141 (fun na1 H locs hW hS => ?_)
  obtain ⟨a3, S4, ea3, hf⟩ := zbd_some hf
  refine zcVv (As := [.int (zI (a1))]) (rest := []) C hK hSt hW hS (zc_W_payOne hap (r0) hr0 a1 S2 na1 ea3) zq_W_payOne zk_1968 (zrecv hK hW (zvd_5 hr0 (by decide)) (ze_5_0 B _ (r0)) rfl) ⟨rfl, rfl, by decide, by decide⟩ ⟨by decide, by decide⟩ rfl hl.1 rfl (lv_room (Nat.le_of_ble_eq_true rfl)) zd_W_pay_144 (fun H locs hW hS => ?_)
  exact zw_W_pay_147 C hr hlk hK hSt hap r0 hr0 q24 hq24 q72 hq72 (x1) (x2) S4 nx1 nx2 hf _ _ _ hW hS (lv_sub hl [0, 1, 2] rfl)

def zf_W_pay_103 (r0 : Int) (q24 : Int → Sg → Option (Int × Sg)) (q72 : Int → Int → Sg → Option (Int × Sg)) (x1 : Int) (x2 : Int) (xt0 : Int) (S : Sg) : Option (Int × Sg) :=
    zck (0 ≤ x1 ∧ x1 < 3) <| if (S 5 r0 31 x1) = 0 then (if xt0 = 0 then (zf_W_pay_147 r0 q24 q72 (x1) (x2) S) else (zck (0 ≤ x2 ∧ x2 < 40) <| if (S 5 r0 8 x2) < 0 then (zf_W_pay_147 r0 q24 q72 (x1) (x2) S) else (zf_W_pay_138 r0 q24 q72 (x1) (x2) S))) else (zbd (zf_W_kind (r0) x2 S) fun a3 S4 => if a3 = 4 then (zf_W_pay_138 r0 q24 q72 (x1) (x2) S4) else (zf_W_pay_147 r0 q24 q72 (x1) (x2) S4))
set_option maxHeartbeats 4000000 in
set_option maxRecDepth 100000 in
theorem zw_W_pay_103 {p : Program} {l : Launch} {e : Env} {s : State} {m : MethodId} {args : Array Value} {below : List Frame} {meth : Method} {c : Code} {B : zB} (C : CallFix p m c zb_W_pay 4 s args zT "IslandOfficeModel$World") (hr : meth.sig.returnType = none) (hlk : meth.locks = false) (hK : zK B s) (hSt : zSt B s) (hap : zAp B) (r0 : Int) (hr0 : 0 ≤ r0 ∧ r0 < 3) {res : Int} {S9 : Sg} (q24 : Int → Sg → Option (Int × Sg)) (hq24 : ∀ (x1 : Int) (S : Sg) (nx1 : zn x1), q24 x1 S = some (res, S9) → ∀ (H : Heap) (locs : List Loc) (ls : Array Slot), zW B S H → va_S B.2.2.2 s.heap H locs → lv_has ls 4 [(0, .ref (B.2.1 5 (r0) (0))), (1, .int (zI (x1)))] → W p l e zm_W_pay s m args below meth c H locs 0 0 (MQ below (zQv B S9) args s 0 0 B.2.2.2) (F0 m 24 ls [])) (q72 : Int → Int → Sg → Option (Int × Sg)) (hq72 : ∀ (x1 : Int) (x2 : Int) (S : Sg) (nx1 : zn x1) (nx2 : zn x2), q72 x1 x2 S = some (res, S9) → ∀ (H : Heap) (locs : List Loc) (ls : Array Slot), zW B S H → va_S B.2.2.2 s.heap H locs → lv_has ls 4 [(0, .ref (B.2.1 5 (r0) (0))), (1, .int (zI (x1))), (2, .int (zI (x2)))] → W p l e zm_W_pay s m args below meth c H locs 0 0 (MQ below (zQv B S9) args s 0 0 B.2.2.2) (F0 m 72 ls [])) : ∀ (x1 : Int) (x2 : Int) (xt0 : Int) (S : Sg) (nx1 : zn x1) (nx2 : zn x2) (nxt0 : zn xt0), zf_W_pay_103 r0 q24 q72 x1 x2 xt0 S = some (res, S9) → ∀ (H : Heap) (locs : List Loc) (ls : Array Slot), zW B S H → va_S B.2.2.2 s.heap H locs → lv_has ls 4 [(0, .ref (B.2.1 5 (r0) (0))), (1, .int (zI (x1))), (2, .int (zI (x2)))] → W p l e zm_W_pay s m args below meth c H locs 0 0 (MQ below (zQv B S9) args s 0 0 B.2.2.2) (F0 m 103 ls [.int (zI (xt0))]) := by
  intro x1 x2 xt0 S nx1 nx2 nxt0 hf H locs ls hW hS hl
  unfold zf_W_pay_103 at hf
  refine lv_istore_n (lv' := [(3, .int (zI (xt0))), (0, .ref (B.2.1 5 (r0) (0))), (1, .int (zI (x1))), (2, .int (zI (x2)))]) C.1 C.2.1 zd_W_pay_103 rfl hl (by decide) rfl (fun ls hl => ?_)
  refine lv_aload_n C.1 C.2.1 zd_W_pay_104 rfl (lv_at hl 1 rfl) ?_
  refine zg_W_pays (r := r0) C hK hW (zvd_5 hr0 (by decide)) zk_1349 zd_W_pay_105 ?_
  refine lv_iload_n C.1 C.2.1 zd_W_pay_108 rfl (lv_at hl 2 rfl) ?_
  obtain ⟨h1, hf⟩ := zck_some hf
  refine ziald C hK hW (zvd_5 hr0 (by decide)) (fun f => ze_5_31 B f (r0)) (by decide) h1 zd_W_pay_109 ?_
  refine zr_if_ne (tgt := 129) C (zWn hW _ _ _ _ rfl) zd_W_pay_110 (by decide) (fun c2 => ?_) (fun c2 => ?_)
  · rw [if_neg c2] at hf
    refine lv_aload_n C.1 C.2.1 zd_W_pay_129 rfl (lv_at hl 1 rfl) ?_
    refine lv_iload_n C.1 C.2.1 zd_W_pay_130 rfl (lv_at hl 3 rfl) ?_
    obtain ⟨a3, S4, ea3, hf⟩ := zbd_some hf
    refine zcVi (As := [.int (zI (x2))]) (rest := []) C hK hSt hW hS (zc_W_kind hap (r0) hr0 x2 S nx2 ea3) zq_W_kind zk_1621 (zrecv hK hW (zvd_5 hr0 (by decide)) (ze_5_0 B _ (r0)) rfl) ⟨rfl, rfl, by decide, by decide⟩ ⟨by decide, by decide⟩ rfl hl.1 rfl (lv_room (Nat.le_of_ble_eq_true rfl)) zd_W_pay_131 (fun na3 H locs hW hS => ?_)
    refine zr_iconst C zd_W_pay_134 ?_
    refine zr_icmp_ne (tgt := 147) C na3 (znb rfl) zd_W_pay_135 (by decide) (fun c5 => ?_) (fun c5 => ?_)
    · rw [if_neg c5] at hf
      exact zw_W_pay_147 C hr hlk hK hSt hap r0 hr0 q24 hq24 q72 hq72 (x1) (x2) S4 nx1 nx2 hf _ _ _ hW hS (lv_sub hl [1, 2, 3] rfl)
    · rw [if_pos c5] at hf
      exact zw_W_pay_138 C hr hlk hK hSt hap r0 hr0 q24 hq24 q72 hq72 (x1) (x2) S4 nx1 nx2 hf _ _ _ hW hS (lv_sub hl [1, 2, 3] rfl)
  · rw [if_pos c2] at hf
    refine lv_iload_n C.1 C.2.1 zd_W_pay_113 rfl (lv_at hl 0 rfl) ?_
    refine zr_if_eq (tgt := 147) C nxt0 zd_W_pay_114 (by decide) (fun c6 => ?_) (fun c6 => ?_)
    · rw [if_pos c6] at hf
      exact zw_W_pay_147 C hr hlk hK hSt hap r0 hr0 q24 hq24 q72 hq72 (x1) (x2) S nx1 nx2 hf _ _ _ hW hS (lv_sub hl [1, 2, 3] rfl)
    · rw [if_neg c6] at hf
      refine lv_aload_n C.1 C.2.1 zd_W_pay_117 rfl (lv_at hl 1 rfl) ?_
      refine zg_W_post (r := r0) C hK hW (zvd_5 hr0 (by decide)) zk_1293 zd_W_pay_118 ?_
      refine lv_iload_n C.1 C.2.1 zd_W_pay_121 rfl (lv_at hl 3 rfl) ?_
      obtain ⟨h7, hf⟩ := zck_some hf
      refine ziald C hK hW (zvd_5 hr0 (by decide)) (fun f => ze_5_8 B f (r0)) (by decide) h7 zd_W_pay_122 ?_
      refine zr_if_lt (tgt := 147) C (zWn hW _ _ _ _ rfl) zd_W_pay_123 (by decide) (fun c8 => ?_) (fun c8 => ?_)
      · rw [if_pos c8] at hf
        exact zw_W_pay_147 C hr hlk hK hSt hap r0 hr0 q24 hq24 q72 hq72 (x1) (x2) S nx1 nx2 hf _ _ _ hW hS (lv_sub hl [1, 2, 3] rfl)
      · rw [if_neg c8] at hf
        refine lv_goto (tgt := 138) C.1 C.2.1 zd_W_pay_126 (by decide) ?_
        exact zw_W_pay_138 C hr hlk hK hSt hap r0 hr0 q24 hq24 q72 hq72 (x1) (x2) S nx1 nx2 hf _ _ _ hW hS (lv_sub hl [1, 2, 3] rfl)

def zf_W_pay_98 (r0 : Int) (q24 : Int → Sg → Option (Int × Sg)) (q72 : Int → Int → Sg → Option (Int × Sg)) (x1 : Int) (x2 : Int) (S : Sg) : Option (Int × Sg) :=
    zf_W_pay_103 r0 q24 q72 (x1) (x2) (1) S
set_option maxHeartbeats 4000000 in
set_option maxRecDepth 100000 in
theorem zw_W_pay_98 {p : Program} {l : Launch} {e : Env} {s : State} {m : MethodId} {args : Array Value} {below : List Frame} {meth : Method} {c : Code} {B : zB} (C : CallFix p m c zb_W_pay 4 s args zT "IslandOfficeModel$World") (hr : meth.sig.returnType = none) (hlk : meth.locks = false) (hK : zK B s) (hSt : zSt B s) (hap : zAp B) (r0 : Int) (hr0 : 0 ≤ r0 ∧ r0 < 3) {res : Int} {S9 : Sg} (q24 : Int → Sg → Option (Int × Sg)) (hq24 : ∀ (x1 : Int) (S : Sg) (nx1 : zn x1), q24 x1 S = some (res, S9) → ∀ (H : Heap) (locs : List Loc) (ls : Array Slot), zW B S H → va_S B.2.2.2 s.heap H locs → lv_has ls 4 [(0, .ref (B.2.1 5 (r0) (0))), (1, .int (zI (x1)))] → W p l e zm_W_pay s m args below meth c H locs 0 0 (MQ below (zQv B S9) args s 0 0 B.2.2.2) (F0 m 24 ls [])) (q72 : Int → Int → Sg → Option (Int × Sg)) (hq72 : ∀ (x1 : Int) (x2 : Int) (S : Sg) (nx1 : zn x1) (nx2 : zn x2), q72 x1 x2 S = some (res, S9) → ∀ (H : Heap) (locs : List Loc) (ls : Array Slot), zW B S H → va_S B.2.2.2 s.heap H locs → lv_has ls 4 [(0, .ref (B.2.1 5 (r0) (0))), (1, .int (zI (x1))), (2, .int (zI (x2)))] → W p l e zm_W_pay s m args below meth c H locs 0 0 (MQ below (zQv B S9) args s 0 0 B.2.2.2) (F0 m 72 ls [])) : ∀ (x1 : Int) (x2 : Int) (S : Sg) (nx1 : zn x1) (nx2 : zn x2), zf_W_pay_98 r0 q24 q72 x1 x2 S = some (res, S9) → ∀ (H : Heap) (locs : List Loc) (ls : Array Slot), zW B S H → va_S B.2.2.2 s.heap H locs → lv_has ls 4 [(0, .ref (B.2.1 5 (r0) (0))), (1, .int (zI (x1))), (2, .int (zI (x2)))] → W p l e zm_W_pay s m args below meth c H locs 0 0 (MQ below (zQv B S9) args s 0 0 B.2.2.2) (F0 m 98 ls []) := by
  intro x1 x2 S nx1 nx2 hf H locs ls hW hS hl
  unfold zf_W_pay_98 at hf
  refine zr_iconst C zd_W_pay_98 ?_
  refine lv_goto (tgt := 103) C.1 C.2.1 zd_W_pay_99 (by decide) ?_
  exact zw_W_pay_103 C hr hlk hK hSt hap r0 hr0 q24 hq24 q72 hq72 (x1) (x2) (1) S nx1 nx2 (znb rfl) hf _ _ _ hW hS (lv_sub hl [0, 1, 2] rfl)

def zf_W_pay_72 (r0 : Int) (q24 : Int → Sg → Option (Int × Sg)) : Nat → Int → Int → Sg → Option (Int × Sg)
  | 0, _, _, _ => none
  | n + 1, x1, x2, S =>
    if (S 5 r0 0 1) ≤ x2 then (zf_W_pay_153 r0 q24 (x1) S) else (zbd (zf_W_kind (r0) x2 S) fun a2 S3 => if a2 = 2 then (zf_W_pay_98 r0 q24 (zf_W_pay_72 r0 q24 n) (x1) (x2) S3) else (zbd (zf_W_kind (r0) x2 S3) fun a5 S6 => if a5 = 5 then (zf_W_pay_98 r0 q24 (zf_W_pay_72 r0 q24 n) (x1) (x2) S6) else (zf_W_pay_103 r0 q24 (zf_W_pay_72 r0 q24 n) (x1) (x2) (0) S6)))
set_option maxHeartbeats 4000000 in
set_option maxRecDepth 100000 in
theorem zw_W_pay_72 {p : Program} {l : Launch} {e : Env} {s : State} {m : MethodId} {args : Array Value} {below : List Frame} {meth : Method} {c : Code} {B : zB} (C : CallFix p m c zb_W_pay 4 s args zT "IslandOfficeModel$World") (hr : meth.sig.returnType = none) (hlk : meth.locks = false) (hK : zK B s) (hSt : zSt B s) (hap : zAp B) (r0 : Int) (hr0 : 0 ≤ r0 ∧ r0 < 3) {res : Int} {S9 : Sg} (q24 : Int → Sg → Option (Int × Sg)) (hq24 : ∀ (x1 : Int) (S : Sg) (nx1 : zn x1), q24 x1 S = some (res, S9) → ∀ (H : Heap) (locs : List Loc) (ls : Array Slot), zW B S H → va_S B.2.2.2 s.heap H locs → lv_has ls 4 [(0, .ref (B.2.1 5 (r0) (0))), (1, .int (zI (x1)))] → W p l e zm_W_pay s m args below meth c H locs 0 0 (MQ below (zQv B S9) args s 0 0 B.2.2.2) (F0 m 24 ls [])) : ∀ n : Nat, ∀ (x1 : Int) (x2 : Int) (S : Sg) (nx1 : zn x1) (nx2 : zn x2), zf_W_pay_72 r0 q24 n x1 x2 S = some (res, S9) → ∀ (H : Heap) (locs : List Loc) (ls : Array Slot), zW B S H → va_S B.2.2.2 s.heap H locs → lv_has ls 4 [(0, .ref (B.2.1 5 (r0) (0))), (1, .int (zI (x1))), (2, .int (zI (x2)))] → W p l e zm_W_pay s m args below meth c H locs 0 0 (MQ below (zQv B S9) args s 0 0 B.2.2.2) (F0 m 72 ls []) := by
  intro n
  induction n with
  | zero =>
    intro x1 x2 S nx1 nx2 hf H locs ls hW hS hl
    cases hf
  | succ n ih =>
    intro x1 x2 S nx1 nx2 hf H locs ls hW hS hl
    rw [zf_W_pay_72] at hf
    refine lv_iload_n C.1 C.2.1 zd_W_pay_72 rfl (lv_at hl 2 rfl) ?_
    refine lv_aload_n C.1 C.2.1 zd_W_pay_73 rfl (lv_at hl 0 rfl) ?_
    refine zg_W_people (r := r0) C hK hW (zvd_5 hr0 (by decide)) zk_1277 zd_W_pay_74 ?_
    refine zr_icmp_ge (tgt := 153) C nx2 (zWn hW _ _ _ _ rfl) zd_W_pay_77 (by decide) (fun c1 => ?_) (fun c1 => ?_)
    · rw [if_pos c1] at hf
      exact zw_W_pay_153 C hr hlk hK hSt hap r0 hr0 q24 hq24 (x1) S nx1 hf _ _ _ hW hS (lv_sub hl [0, 1] rfl)
    · rw [if_neg c1] at hf
      refine lv_aload_n C.1 C.2.1 zd_W_pay_80 rfl (lv_at hl 0 rfl) ?_
      refine lv_iload_n C.1 C.2.1 zd_W_pay_81 rfl (lv_at hl 2 rfl) ?_
      obtain ⟨a2, S3, ea2, hf⟩ := zbd_some hf
      refine zcVi (As := [.int (zI (x2))]) (rest := []) C hK hSt hW hS (zc_W_kind hap (r0) hr0 x2 S nx2 ea2) zq_W_kind zk_1621 (zrecv hK hW (zvd_5 hr0 (by decide)) (ze_5_0 B _ (r0)) rfl) ⟨rfl, rfl, by decide, by decide⟩ ⟨by decide, by decide⟩ rfl hl.1 rfl (lv_room (Nat.le_of_ble_eq_true rfl)) zd_W_pay_82 (fun na2 H locs hW hS => ?_)
      refine zr_iconst C zd_W_pay_85 ?_
      refine zr_icmp_eq (tgt := 98) C na2 (znb rfl) zd_W_pay_86 (by decide) (fun c4 => ?_) (fun c4 => ?_)
      · rw [if_pos c4] at hf
        exact zw_W_pay_98 C hr hlk hK hSt hap r0 hr0 q24 hq24 (zf_W_pay_72 r0 q24 n) (ih) (x1) (x2) S3 nx1 nx2 hf _ _ _ hW hS (lv_sub hl [0, 1, 2] rfl)
      · rw [if_neg c4] at hf
        refine lv_aload_n C.1 C.2.1 zd_W_pay_89 rfl (lv_at hl 0 rfl) ?_
        refine lv_iload_n C.1 C.2.1 zd_W_pay_90 rfl (lv_at hl 2 rfl) ?_
        obtain ⟨a5, S6, ea5, hf⟩ := zbd_some hf
        refine zcVi (As := [.int (zI (x2))]) (rest := []) C hK hSt hW hS (zc_W_kind hap (r0) hr0 x2 S3 nx2 ea5) zq_W_kind zk_1621 (zrecv hK hW (zvd_5 hr0 (by decide)) (ze_5_0 B _ (r0)) rfl) ⟨rfl, rfl, by decide, by decide⟩ ⟨by decide, by decide⟩ rfl hl.1 rfl (lv_room (Nat.le_of_ble_eq_true rfl)) zd_W_pay_91 (fun na5 H locs hW hS => ?_)
        refine zr_iconst C zd_W_pay_94 ?_
        refine zr_icmp_ne (tgt := 102) C na5 (znb rfl) zd_W_pay_95 (by decide) (fun c7 => ?_) (fun c7 => ?_)
        · rw [if_neg c7] at hf
          refine zr_iconst C zd_W_pay_102 ?_
          exact zw_W_pay_103 C hr hlk hK hSt hap r0 hr0 q24 hq24 (zf_W_pay_72 r0 q24 n) (ih) (x1) (x2) (0) S6 nx1 nx2 (znb rfl) hf _ _ _ hW hS (lv_sub hl [0, 1, 2] rfl)
        · rw [if_pos c7] at hf
          exact zw_W_pay_98 C hr hlk hK hSt hap r0 hr0 q24 hq24 (zf_W_pay_72 r0 q24 n) (ih) (x1) (x2) S6 nx1 nx2 hf _ _ _ hW hS (lv_sub hl [0, 1, 2] rfl)

def zf_W_pay_24 (r0 : Int) : Nat → Int → Sg → Option (Int × Sg)
  | 0, _, _ => none
  | n + 1, x1, S =>
    if 3 ≤ x1 then (some (0, S)) else (zck (0 ≤ x1 ∧ x1 < 3) <| if (S 5 r0 31 x1) = 2 then (if (S 5 r0 0 38) < 5 then (zf_W_pay_153 r0 (zf_W_pay_24 r0 n) (x1) S) else (zlt (zu S 5 r0 0 38 (zw ((S 5 r0 0 38) - 5))) fun S5 => zlt (zu S5 5 r0 0 39 (zw ((S5 5 r0 0 39) + 5))) fun S6 => zf_W_pay_153 r0 (zf_W_pay_24 r0 n) (x1) S6)) else (zf_W_pay_72 r0 (zf_W_pay_24 r0 n) 4096 (x1) (0) S))
set_option maxHeartbeats 4000000 in
set_option maxRecDepth 100000 in
theorem zw_W_pay_24 {p : Program} {l : Launch} {e : Env} {s : State} {m : MethodId} {args : Array Value} {below : List Frame} {meth : Method} {c : Code} {B : zB} (C : CallFix p m c zb_W_pay 4 s args zT "IslandOfficeModel$World") (hr : meth.sig.returnType = none) (hlk : meth.locks = false) (hK : zK B s) (hSt : zSt B s) (hap : zAp B) (r0 : Int) (hr0 : 0 ≤ r0 ∧ r0 < 3) {res : Int} {S9 : Sg} : ∀ n : Nat, ∀ (x1 : Int) (S : Sg) (nx1 : zn x1), zf_W_pay_24 r0 n x1 S = some (res, S9) → ∀ (H : Heap) (locs : List Loc) (ls : Array Slot), zW B S H → va_S B.2.2.2 s.heap H locs → lv_has ls 4 [(0, .ref (B.2.1 5 (r0) (0))), (1, .int (zI (x1)))] → W p l e zm_W_pay s m args below meth c H locs 0 0 (MQ below (zQv B S9) args s 0 0 B.2.2.2) (F0 m 24 ls []) := by
  intro n
  induction n with
  | zero =>
    intro x1 S nx1 hf H locs ls hW hS hl
    cases hf
  | succ n ih =>
    intro x1 S nx1 hf H locs ls hW hS hl
    rw [zf_W_pay_24] at hf
    refine lv_iload_n C.1 C.2.1 zd_W_pay_24 rfl (lv_at hl 1 rfl) ?_
    refine zr_iconst C zd_W_pay_25 ?_
    refine zr_icmp_ge (tgt := 159) C nx1 (znb rfl) zd_W_pay_26 (by decide) (fun c1 => ?_) (fun c1 => ?_)
    · rw [if_pos c1] at hf
      cases hf
      exact zre_v C hr hlk hK hW hS zd_W_pay_159
    · rw [if_neg c1] at hf
      refine lv_aload_n C.1 C.2.1 zd_W_pay_29 rfl (lv_at hl 0 rfl) ?_
      refine zg_W_pays (r := r0) C hK hW (zvd_5 hr0 (by decide)) zk_1349 zd_W_pay_30 ?_
      refine lv_iload_n C.1 C.2.1 zd_W_pay_33 rfl (lv_at hl 1 rfl) ?_
      obtain ⟨h2, hf⟩ := zck_some hf
      refine ziald C hK hW (zvd_5 hr0 (by decide)) (fun f => ze_5_31 B f (r0)) (by decide) h2 zd_W_pay_34 ?_
      refine zr_iconst C zd_W_pay_35 ?_
      refine zr_icmp_ne (tgt := 70) C (zWn hW _ _ _ _ rfl) (znb rfl) zd_W_pay_36 (by decide) (fun c3 => ?_) (fun c3 => ?_)
      · rw [if_neg c3] at hf
        refine zr_iconst C zd_W_pay_70 ?_
        refine lv_istore_n (lv' := [(2, .int (zI (0))), (0, .ref (B.2.1 5 (r0) (0))), (1, .int (zI (x1)))]) C.1 C.2.1 zd_W_pay_71 rfl hl (by decide) rfl (fun ls hl => ?_)
        exact zw_W_pay_72 C hr hlk hK hSt hap r0 hr0 (zf_W_pay_24 r0 n) (ih) 4096 (x1) (0) S nx1 (znb rfl) hf _ _ _ hW hS (lv_sub hl [1, 2, 0] rfl)
      · rw [if_pos c3] at hf
        refine lv_aload_n C.1 C.2.1 zd_W_pay_39 rfl (lv_at hl 0 rfl) ?_
        refine zg_W_purse (r := r0) C hK hW (zvd_5 hr0 (by decide)) zk_1351 zd_W_pay_40 ?_
        refine zr_iconst C zd_W_pay_43 ?_
        refine zr_icmp_lt (tgt := 153) C (zWn hW _ _ _ _ rfl) (znb rfl) zd_W_pay_44 (by decide) (fun c4 => ?_) (fun c4 => ?_)
        · rw [if_pos c4] at hf
          exact zw_W_pay_153 C hr hlk hK hSt hap r0 hr0 (zf_W_pay_24 r0 n) (ih) (x1) S nx1 hf _ _ _ hW hS (lv_sub hl [0, 1] rfl)
        · rw [if_neg c4] at hf
          refine lv_aload_n C.1 C.2.1 zd_W_pay_47 rfl (lv_at hl 0 rfl) ?_
          refine lv_dup C.1 C.2.1 zd_W_pay_48 rfl ?_
          refine zg_W_purse (r := r0) C hK hW (zvd_5 hr0 (by decide)) zk_1351 zd_W_pay_49 ?_
          refine zr_iconst C zd_W_pay_52 ?_
          refine zr_isub C zd_W_pay_53 ?_
          obtain ⟨S5, eS5, hf⟩ := zlt_some hf
          refine zp_W_purse (r := r0) C hK hap hW hS (zvd_5 hr0 (by decide)) zk_1351 (zn_w _) zd_W_pay_54 (fun H locs hW hS => ?_)
          rw [eS5] at hW
          refine lv_aload_n C.1 C.2.1 zd_W_pay_57 rfl (lv_at hl 0 rfl) ?_
          refine lv_dup C.1 C.2.1 zd_W_pay_58 rfl ?_
          refine zg_W_fund (r := r0) C hK hW (zvd_5 hr0 (by decide)) zk_1353 zd_W_pay_59 ?_
          refine zr_iconst C zd_W_pay_62 ?_
          refine zr_iadd C zd_W_pay_63 ?_
          obtain ⟨S6, eS6, hf⟩ := zlt_some hf
          refine zp_W_fund (r := r0) C hK hap hW hS (zvd_5 hr0 (by decide)) zk_1353 (zn_w _) zd_W_pay_64 (fun H locs hW hS => ?_)
          rw [eS6] at hW
          refine lv_goto (tgt := 153) C.1 C.2.1 zd_W_pay_67 (by decide) ?_
          exact zw_W_pay_153 C hr hlk hK hSt hap r0 hr0 (zf_W_pay_24 r0 n) (ih) (x1) S6 nx1 hf _ _ _ hW hS (lv_sub hl [0, 1] rfl)

def zf_W_pay (r0 : Int) (S : Sg) : Option (Int × Sg) :=
    zbd (zf_W_inState (r0) 1 S) fun a1 S2 => zlt (zu S2 5 r0 0 38 (min 1000000 (zw ((S 5 r0 0 38) + (zw (5 * a1)))))) fun S4 => zf_W_pay_24 r0 4096 (0) S4
set_option maxHeartbeats 4000000 in
set_option maxRecDepth 100000 in
theorem zw_W_pay {p : Program} {l : Launch} {e : Env} {s : State} {m : MethodId} {args : Array Value} {below : List Frame} {meth : Method} {c : Code} {B : zB} (C : CallFix p m c zb_W_pay 4 s args zT "IslandOfficeModel$World") (hr : meth.sig.returnType = none) (hlk : meth.locks = false) (hK : zK B s) (hSt : zSt B s) (hap : zAp B) (r0 : Int) (hr0 : 0 ≤ r0 ∧ r0 < 3) {res : Int} {S9 : Sg} : ∀  (S : Sg) , zf_W_pay r0  S = some (res, S9) → ∀ (H : Heap) (locs : List Loc) (ls : Array Slot), zW B S H → va_S B.2.2.2 s.heap H locs → lv_has ls 4 [(0, .ref (B.2.1 5 (r0) (0)))] → W p l e zm_W_pay s m args below meth c H locs 0 0 (MQ below (zQv B S9) args s 0 0 B.2.2.2) (F0 m 0 ls []) := by
  intro S hf H locs ls hW hS hl
  unfold zf_W_pay at hf
  refine lv_aload_n C.1 C.2.1 zd_W_pay_0 rfl (lv_at hl 0 rfl) ?_
  refine zr_ldcw (n := 1000000) C zk_1962 (by decide) zd_W_pay_1 ?_
  refine lv_aload_n C.1 C.2.1 zd_W_pay_4 rfl (lv_at hl 0 rfl) ?_
  refine zg_W_purse (r := r0) C hK hW (zvd_5 hr0 (by decide)) zk_1351 zd_W_pay_5 ?_
  refine zr_iconst C zd_W_pay_8 ?_
  refine lv_aload_n C.1 C.2.1 zd_W_pay_9 rfl (lv_at hl 0 rfl) ?_
  refine zr_iconst C zd_W_pay_10 ?_
  have w3 : zn (S 5 r0 0 38) := (zWn hW _ _ _ _ rfl)
  obtain ⟨a1, S2, ea1, hf⟩ := zbd_some hf
  refine zcVi (As := [.int (zI (1))]) (rest := [.int (zI (5)), .int (zI (S 5 r0 0 38)), .int (zI (1000000)), .ref (B.2.1 5 (r0) (0))]) C hK hSt hW hS (zc_W_inState hap (r0) hr0 1 S (znb rfl) ea1) zq_W_inState zk_1963 (zrecv hK hW (zvd_5 hr0 (by decide)) (ze_5_0 B _ (r0)) rfl) ⟨rfl, rfl, by decide, by decide⟩ ⟨by decide, by decide⟩ rfl hl.1 rfl (lv_room (Nat.le_of_ble_eq_true rfl)) zd_W_pay_11 (fun na1 H locs hW hS => ?_)
  refine zr_imul C zd_W_pay_14 ?_
  refine zr_iadd C zd_W_pay_15 ?_
  refine zr_min C hl.1 (znb rfl) (zn_w _) zk_1928 zk_909 zk_16 zk_910 (by decide) (Nat.le_of_ble_eq_true rfl) ⟨by decide, by decide⟩ zd_W_pay_16 ?_
  obtain ⟨S4, eS4, hf⟩ := zlt_some hf
  refine zp_W_purse (r := r0) C hK hap hW hS (zvd_5 hr0 (by decide)) zk_1351 (zn_min (znb rfl) (zn_w _)) zd_W_pay_19 (fun H locs hW hS => ?_)
  rw [eS4] at hW
  refine zr_iconst C zd_W_pay_22 ?_
  refine lv_istore_n (lv' := [(1, .int (zI (0))), (0, .ref (B.2.1 5 (r0) (0)))]) C.1 C.2.1 zd_W_pay_23 rfl hl (by decide) rfl (fun ls hl => ?_)
  exact zw_W_pay_24 C hr hlk hK hSt hap r0 hr0 4096 (0) S4 (znb rfl) hf _ _ _ hW hS (lv_sub hl [1, 0] rfl)

theorem zc_W_pay {l : Launch} {B : zB} (hap : zAp B) (r0 : Int) (hr0 : 0 ≤ r0 ∧ r0 < 3) (S : Sg) {res : Int} {S9 : Sg} (hf : zf_W_pay r0 S = some (res, S9)) : Met l zy_W_pay (Cond.code zy_W_pay zb_W_pay 4 (none) :: zT) zm_W_pay (zP B S [.ref (B.2.1 5 (r0) (0))]) (zQv B S9) 0 0 B.2.2.2 :=
  zmet (by decide) (Nat.le_of_ble_eq_true rfl) (fun p e s m args below meth c C hr hlk hK hSt hW ls hl => zw_W_pay C hr hlk hK hSt hap r0 hr0  S  hf _ _ _ hW va_S.rf hl)
/-! IslandOfficeModel$World.go(I)V -/
abbrev zy_W_go : MethodName := ⟨"IslandOfficeModel$World", "go", "(I)V"⟩
abbrev zb_W_go : ByteArray := prog_15_method_51_code
abbrev zm_W_go : Room := { frames := 0, cells := 0, slots := 0, locals := 0 }
theorem zq_W_go : zMy zy_W_go zb_W_go 2 (none) 1 := ⟨zk_1979, zk_1978, zs_92, zk_15, by decide, by decide, by decide +kernel⟩
theorem zd_W_go_0 : decode zb_W_go 0 = .ok (.aload_n 0, 1) := by decide +kernel
theorem zd_W_go_1 : decode zb_W_go 1 = .ok (.getfield 24, 3) := by decide +kernel
theorem zd_W_go_4 : decode zb_W_go 4 = .ok (.iload_n 1, 1) := by decide +kernel
theorem zd_W_go_5 : decode zb_W_go 5 = .ok (.iconst 1, 1) := by decide +kernel
theorem zd_W_go_6 : decode zb_W_go 6 = .ok (.iastore, 1) := by decide +kernel
theorem zd_W_go_7 : decode zb_W_go 7 = .ok (.aload_n 0, 1) := by decide +kernel
theorem zd_W_go_8 : decode zb_W_go 8 = .ok (.getfield 30, 3) := by decide +kernel
theorem zd_W_go_11 : decode zb_W_go 11 = .ok (.iload_n 1, 1) := by decide +kernel
theorem zd_W_go_12 : decode zb_W_go 12 = .ok (.iconst 0, 1) := by decide +kernel
theorem zd_W_go_13 : decode zb_W_go 13 = .ok (.iastore, 1) := by decide +kernel
theorem zd_W_go_14 : decode zb_W_go 14 = .ok (.return_, 1) := by decide +kernel

def zf_W_go (r0 : Int) (x1 : Int) (S : Sg) : Option (Int × Sg) :=
    zck (0 ≤ x1 ∧ x1 < 40) <| zlt (zu S 5 r0 5 x1 1) fun S2 => zlt (zu S2 5 r0 7 x1 0) fun S3 => some (0, S3)
set_option maxHeartbeats 4000000 in
set_option maxRecDepth 100000 in
theorem zw_W_go {p : Program} {l : Launch} {e : Env} {s : State} {m : MethodId} {args : Array Value} {below : List Frame} {meth : Method} {c : Code} {B : zB} (C : CallFix p m c zb_W_go 2 s args zT "IslandOfficeModel$World") (hr : meth.sig.returnType = none) (hlk : meth.locks = false) (hK : zK B s) (hSt : zSt B s) (hap : zAp B) (r0 : Int) (hr0 : 0 ≤ r0 ∧ r0 < 3) {res : Int} {S9 : Sg} : ∀ (x1 : Int) (S : Sg) (nx1 : zn x1), zf_W_go r0 x1 S = some (res, S9) → ∀ (H : Heap) (locs : List Loc) (ls : Array Slot), zW B S H → va_S B.2.2.2 s.heap H locs → lv_has ls 2 [(0, .ref (B.2.1 5 (r0) (0))), (1, .int (zI (x1)))] → W p l e zm_W_go s m args below meth c H locs 0 0 (MQ below (zQv B S9) args s 0 0 B.2.2.2) (F0 m 0 ls []) := by
  intro x1 S nx1 hf H locs ls hW hS hl
  unfold zf_W_go at hf
  refine lv_aload_n C.1 C.2.1 zd_W_go_0 rfl (lv_at hl 0 rfl) ?_
  refine zg_W_state (r := r0) C hK hW (zvd_5 hr0 (by decide)) zk_1287 zd_W_go_1 ?_
  refine lv_iload_n C.1 C.2.1 zd_W_go_4 rfl (lv_at hl 1 rfl) ?_
  refine zr_iconst C zd_W_go_5 ?_
  obtain ⟨h1, hf⟩ := zck_some hf
  obtain ⟨S2, eS2, hf⟩ := zlt_some hf
  refine ziast C hK hap hW hS (zvd_5 hr0 (by decide)) (fun f => ze_5_5 B f (r0)) (by decide) rfl (znb rfl) h1 zd_W_go_6 (fun H locs hW hS => ?_)
  rw [eS2] at hW
  refine lv_aload_n C.1 C.2.1 zd_W_go_7 rfl (lv_at hl 0 rfl) ?_
  refine zg_W_discontent (r := r0) C hK hW (zvd_5 hr0 (by decide)) zk_1291 zd_W_go_8 ?_
  refine lv_iload_n C.1 C.2.1 zd_W_go_11 rfl (lv_at hl 1 rfl) ?_
  refine zr_iconst C zd_W_go_12 ?_
  obtain ⟨S3, eS3, hf⟩ := zlt_some hf
  refine ziast C hK hap hW hS (zvd_5 hr0 (by decide)) (fun f => ze_5_7 B f (r0)) (by decide) rfl (znb rfl) h1 zd_W_go_13 (fun H locs hW hS => ?_)
  rw [eS3] at hW
  cases hf
  exact zre_v C hr hlk hK hW hS zd_W_go_14

theorem zc_W_go {l : Launch} {B : zB} (hap : zAp B) (r0 : Int) (hr0 : 0 ≤ r0 ∧ r0 < 3) (x1 : Int) (S : Sg) (nx1 : zn x1) {res : Int} {S9 : Sg} (hf : zf_W_go r0 x1 S = some (res, S9)) : Met l zy_W_go (Cond.code zy_W_go zb_W_go 2 (none) :: zT) zm_W_go (zP B S [.ref (B.2.1 5 (r0) (0)), .int (zI (x1))]) (zQv B S9) 0 0 B.2.2.2 :=
  zmet (by decide) (Nat.le_of_ble_eq_true rfl) (fun p e s m args below meth c C hr hlk hK hSt hW ls hl => zw_W_go C hr hlk hK hSt hap r0 hr0 x1 S nx1 hf _ _ _ hW va_S.rf hl)
/-! IslandOfficeModel.record(II)I -/
abbrev zy_M_record : MethodName := ⟨"IslandOfficeModel", "record", "(II)I"⟩
abbrev zb_M_record : ByteArray := prog_14_method_56_code
abbrev zm_M_record : Room := { frames := 1, cells := 0, slots := 0, locals := 22 }
theorem zq_M_record : zMy zy_M_record zb_M_record 3 (some .int) 2 := ⟨zk_1984, zk_1982, zk_1983, zk_14, by decide, by decide, by decide +kernel⟩
theorem zd_M_record_0 : decode zb_M_record 0 = .ok (.aload_n 0, 1) := by decide +kernel
theorem zd_M_record_1 : decode zb_M_record 1 = .ok (.iconst 0, 1) := by decide +kernel
theorem zd_M_record_2 : decode zb_M_record 2 = .ok (.putfield 46, 3) := by decide +kernel
theorem zd_M_record_5 : decode zb_M_record 5 = .ok (.iload_n 1, 1) := by decide +kernel
theorem zd_M_record_6 : decode zb_M_record 6 = .ok (.iconst 0, 1) := by decide +kernel
theorem zd_M_record_7 : decode zb_M_record 7 = .ok (.sipush 400, 3) := by decide +kernel
theorem zd_M_record_10 : decode zb_M_record 10 = .ok (.invokestatic 53, 3) := by decide +kernel
theorem zd_M_record_13 : decode zb_M_record 13 = .ok (.ifCond .eq 12, 3) := by decide +kernel
theorem zd_M_record_16 : decode zb_M_record 16 = .ok (.iload_n 2, 1) := by decide +kernel
theorem zd_M_record_17 : decode zb_M_record 17 = .ok (.iconst 0, 1) := by decide +kernel
theorem zd_M_record_18 : decode zb_M_record 18 = .ok (.iconst 4, 1) := by decide +kernel
theorem zd_M_record_19 : decode zb_M_record 19 = .ok (.invokestatic 53, 3) := by decide +kernel
theorem zd_M_record_22 : decode zb_M_record 22 = .ok (.ifCond .ne 5, 3) := by decide +kernel
theorem zd_M_record_25 : decode zb_M_record 25 = .ok (.iconst (-1), 1) := by decide +kernel
theorem zd_M_record_26 : decode zb_M_record 26 = .ok (.ireturn, 1) := by decide +kernel
theorem zd_M_record_27 : decode zb_M_record 27 = .ok (.iload_n 1, 1) := by decide +kernel
theorem zd_M_record_28 : decode zb_M_record 28 = .ok (.aload_n 0, 1) := by decide +kernel
theorem zd_M_record_29 : decode zb_M_record 29 = .ok (.getfield 10, 3) := by decide +kernel
theorem zd_M_record_32 : decode zb_M_record 32 = .ok (.getfield 87, 3) := by decide +kernel
theorem zd_M_record_35 : decode zb_M_record 35 = .ok (.if_icmp .lt 8, 3) := by decide +kernel
theorem zd_M_record_38 : decode zb_M_record 38 = .ok (.bipush (-3), 2) := by decide +kernel
theorem zd_M_record_40 : decode zb_M_record 40 = .ok (.goto 14, 3) := by decide +kernel
theorem zd_M_record_43 : decode zb_M_record 43 = .ok (.aload_n 0, 1) := by decide +kernel
theorem zd_M_record_44 : decode zb_M_record 44 = .ok (.getfield 10, 3) := by decide +kernel
theorem zd_M_record_47 : decode zb_M_record 47 = .ok (.getfield 306, 3) := by decide +kernel
theorem zd_M_record_50 : decode zb_M_record 50 = .ok (.iload_n 2, 1) := by decide +kernel
theorem zd_M_record_51 : decode zb_M_record 51 = .ok (.aaload, 1) := by decide +kernel
theorem zd_M_record_52 : decode zb_M_record 52 = .ok (.iload_n 1, 1) := by decide +kernel
theorem zd_M_record_53 : decode zb_M_record 53 = .ok (.iaload, 1) := by decide +kernel
theorem zd_M_record_54 : decode zb_M_record 54 = .ok (.ireturn, 1) := by decide +kernel

def zf_M_record (x1 : Int) (x2 : Int) (S : Sg) : Option (Int × Sg) :=
    zlt (zu S 9 0 0 4 0) fun S1 => zbd (zf_M_in x1 0 400 S1) fun a2 S3 => if a2 = 0 then (some (-1, S3)) else (zbd (zf_M_in x2 0 4 S3) fun a5 S6 => if a5 = 0 then (some (-1, S6)) else (if x1 < (S6 5 0 0 0) then (zck (0 ≤ x2 ∧ x2 < 5) <| zck (0 ≤ x1 ∧ x1 < 401) <| some (S6 8 0 x2 x1, S6)) else (some (-3, S6))))
set_option maxHeartbeats 4000000 in
set_option maxRecDepth 100000 in
theorem zw_M_record {p : Program} {l : Launch} {e : Env} {s : State} {m : MethodId} {args : Array Value} {below : List Frame} {meth : Method} {c : Code} {B : zB} (C : CallFix p m c zb_M_record 3 s args zT "IslandOfficeModel") (hr : meth.sig.returnType = some .int) (hlk : meth.locks = false) (hK : zK B s) (hSt : zSt B s) (hap : zAp B) {res : Int} {S9 : Sg} : ∀ (x1 : Int) (x2 : Int) (S : Sg) (nx1 : zn x1) (nx2 : zn x2), zf_M_record x1 x2 S = some (res, S9) → ∀ (H : Heap) (locs : List Loc) (ls : Array Slot), zW B S H → va_S B.2.2.2 s.heap H locs → lv_has ls 3 [(0, .ref (B.2.1 9 (0) (0))), (1, .int (zI (x1))), (2, .int (zI (x2)))] → W p l e zm_M_record s m args below meth c H locs 0 0 (MQ below (zQi B res S9) args s 0 0 B.2.2.2) (F0 m 0 ls []) := by
  intro x1 x2 S nx1 nx2 hf H locs ls hW hS hl
  unfold zf_M_record at hf
  refine lv_aload_n C.1 C.2.1 zd_M_record_0 rfl (lv_at hl 0 rfl) ?_
  refine zr_iconst C zd_M_record_1 ?_
  obtain ⟨S1, eS1, hf⟩ := zlt_some hf
  refine zp_M_thrown (r := 0) C hK hap hW hS (zvd_9 (by decide) (by decide)) zk_1504 (znb rfl) zd_M_record_2 (fun H locs hW hS => ?_)
  rw [eS1] at hW
  refine lv_iload_n C.1 C.2.1 zd_M_record_5 rfl (lv_at hl 1 rfl) ?_
  refine zr_iconst C zd_M_record_6 ?_
  refine zr_sipush C zd_M_record_7 (by decide) ?_
  obtain ⟨a2, S3, ea2, hf⟩ := zbd_some hf
  refine zcSi (As := [.int (zI (x1)), .int (zI (0)), .int (zI (400))]) (rest := []) C hK hSt hW hS (zc_M_in hap x1 0 400 S1 nx1 (znb rfl) (znb rfl) ea2) zq_M_in zk_1558 ⟨rfl, rfl, by decide, by decide⟩ ⟨by decide, by decide⟩ rfl hl.1 rfl (lv_room (Nat.le_of_ble_eq_true rfl)) zd_M_record_10 (fun na2 H locs hW hS => ?_)
  refine zr_if_eq (tgt := 25) C na2 zd_M_record_13 (by decide) (fun c4 => ?_) (fun c4 => ?_)
  · rw [if_pos c4] at hf
    refine zr_iconst C zd_M_record_25 ?_
    cases hf
    exact zre_i C hr hlk hK hW hS (znb rfl) zd_M_record_26
  · rw [if_neg c4] at hf
    refine lv_iload_n C.1 C.2.1 zd_M_record_16 rfl (lv_at hl 2 rfl) ?_
    refine zr_iconst C zd_M_record_17 ?_
    refine zr_iconst C zd_M_record_18 ?_
    obtain ⟨a5, S6, ea5, hf⟩ := zbd_some hf
    refine zcSi (As := [.int (zI (x2)), .int (zI (0)), .int (zI (4))]) (rest := []) C hK hSt hW hS (zc_M_in hap x2 0 4 S3 nx2 (znb rfl) (znb rfl) ea5) zq_M_in zk_1558 ⟨rfl, rfl, by decide, by decide⟩ ⟨by decide, by decide⟩ rfl hl.1 rfl (lv_room (Nat.le_of_ble_eq_true rfl)) zd_M_record_19 (fun na5 H locs hW hS => ?_)
    refine zr_if_ne (tgt := 27) C na5 zd_M_record_22 (by decide) (fun c7 => ?_) (fun c7 => ?_)
    · rw [if_neg c7] at hf
      refine lv_iload_n C.1 C.2.1 zd_M_record_27 rfl (lv_at hl 1 rfl) ?_
      refine lv_aload_n C.1 C.2.1 zd_M_record_28 rfl (lv_at hl 0 rfl) ?_
      refine zg_M_world (r := 0) C hK hW (zvd_9 (by decide) (by decide)) zk_1500 zd_M_record_29 ?_
      refine zg_W_week (r := 0) C hK hW (zvd_5 (by decide) (by decide)) zk_1276 zd_M_record_32 ?_
      refine zr_icmp_lt (tgt := 43) C nx1 (zWn hW _ _ _ _ rfl) zd_M_record_35 (by decide) (fun c8 => ?_) (fun c8 => ?_)
      · rw [if_pos c8] at hf
        refine lv_aload_n C.1 C.2.1 zd_M_record_43 rfl (lv_at hl 0 rfl) ?_
        refine zg_M_world (r := 0) C hK hW (zvd_9 (by decide) (by decide)) zk_1500 zd_M_record_44 ?_
        refine zg_W_record (r := 0) C hK hW (zvd_5 (by decide) (by decide)) zk_1366 zd_M_record_47 ?_
        refine lv_iload_n C.1 C.2.1 zd_M_record_50 rfl (lv_at hl 2 rfl) ?_
        obtain ⟨h9, hf⟩ := zck_some hf
        refine zaald (t0 := 4) C hK hW (zvd_5 (by decide) (by decide)) (fun f => ze_5_43 B f (0)) rfl rfl (by decide) h9 zd_M_record_51 (a := B.2.1 8 (0) (x2)) (by rw [Int.toNat_of_nonneg h9.1]) ?_
        refine lv_iload_n C.1 C.2.1 zd_M_record_52 rfl (lv_at hl 1 rfl) ?_
        obtain ⟨h10, hf⟩ := zck_some hf
        refine ziald C hK hW (zvd_8 (by decide) h9) (fun f => ze_8 B f (0) (x2)) (by decide) h10 zd_M_record_53 ?_
        cases hf
        exact zre_i C hr hlk hK hW hS (zWn hW _ _ _ _ rfl) zd_M_record_54
      · rw [if_neg c8] at hf
        refine zr_bipush C zd_M_record_38 (by decide) ?_
        refine lv_goto (tgt := 54) C.1 C.2.1 zd_M_record_40 (by decide) ?_
        cases hf
        exact zre_i C hr hlk hK hW hS (znb rfl) zd_M_record_54
    · rw [if_pos c7] at hf
      refine zr_iconst C zd_M_record_25 ?_
      cases hf
      exact zre_i C hr hlk hK hW hS (znb rfl) zd_M_record_26

theorem zc_M_record {l : Launch} {B : zB} (hap : zAp B) (x1 : Int) (x2 : Int) (S : Sg) (nx1 : zn x1) (nx2 : zn x2) {res : Int} {S9 : Sg} (hf : zf_M_record x1 x2 S = some (res, S9)) : Met l zy_M_record (Cond.code zy_M_record zb_M_record 3 (some .int) :: zT) zm_M_record (zP B S [.ref (B.2.1 9 (0) (0)), .int (zI (x1)), .int (zI (x2))]) (zQi B res S9) 0 0 B.2.2.2 :=
  zmet (by decide) (Nat.le_of_ble_eq_true rfl) (fun p e s m args below meth c C hr hlk hK hSt hW ls hl => zw_M_record C hr hlk hK hSt hap   x1 x2 S nx1 nx2 hf _ _ _ hW va_S.rf hl)
/-! IslandOfficeModel$World.copy([I[I)V -/
abbrev zy_W_copy : MethodName := ⟨"IslandOfficeModel$World", "copy", "([I[I)V"⟩
abbrev zb_W_copy : ByteArray := prog_15_method_3_code
abbrev zm_W_copy : Room := { frames := 1, cells := 0, slots := 0, locals := 64 }
theorem zq_W_copy : zMs zy_W_copy zb_W_copy 2 (none) 2 := ⟨zk_1995, zk_1994, zk_15, by decide, by decide, by decide +kernel⟩
theorem zd_W_copy_0 : decode zb_W_copy 0 = .ok (.aload_n 0, 1) := by decide +kernel
theorem zd_W_copy_1 : decode zb_W_copy 1 = .ok (.iconst 0, 1) := by decide +kernel
theorem zd_W_copy_2 : decode zb_W_copy 2 = .ok (.aload_n 1, 1) := by decide +kernel
theorem zd_W_copy_3 : decode zb_W_copy 3 = .ok (.iconst 0, 1) := by decide +kernel
theorem zd_W_copy_4 : decode zb_W_copy 4 = .ok (.aload_n 0, 1) := by decide +kernel
theorem zd_W_copy_5 : decode zb_W_copy 5 = .ok (.arraylength, 1) := by decide +kernel
theorem zd_W_copy_6 : decode zb_W_copy 6 = .ok (.invokestatic 183, 3) := by decide +kernel
theorem zd_W_copy_9 : decode zb_W_copy 9 = .ok (.return_, 1) := by decide +kernel

def zf_W_copy (g0 : Nat) (r0 : Int) (k0 : Int) (n0 : Nat) (g1 : Nat) (r1 : Int) (k1 : Int) (n1 : Nat) (S : Sg) : Option (Int × Sg) :=
    zck ((0 : Int) ≤ 0 ∧ (0 : Int) ≤ 0 ∧ (0 : Int) ≤ ((n0 : Int)) ∧ (0 + ((n0 : Int)) : Int) ≤ (n0 : Int) ∧ (0 + ((n0 : Int)) : Int) ≤ (n1 : Int)) <| zlt (zcp S g0 r0 k0 0 g1 r1 k1 0 ((n0 : Int))) fun S2 => some (0, S2)
set_option maxHeartbeats 4000000 in
set_option maxRecDepth 100000 in
theorem zw_W_copy {p : Program} {l : Launch} {e : Env} {s : State} {m : MethodId} {args : Array Value} {below : List Frame} {meth : Method} {c : Code} {B : zB} (C : CallFix p m c zb_W_copy 2 s args zT "IslandOfficeModel$World") (hr : meth.sig.returnType = none) (hlk : meth.locks = false) (hK : zK B s) (hSt : zSt B s) (hap : zAp B) (g0 : Nat) (r0 : Int) (k0 : Int) (n0 : Nat) (g1 : Nat) (r1 : Int) (k1 : Int) (n1 : Nat) (hv0 : zvd g0 r0 k0) (he0 : ∀ f, zce B f g0 r0 k0 = .inl (B.2.2.1 0, n0, .inl (fun j : Nat => zI (f (j : Int))))) (hn0 : n0 ≤ 65536) (hg0 : (decide (20 ≤ g0)) = false) (hv1 : zvd g1 r1 k1) (he1 : ∀ f, zce B f g1 r1 k1 = .inl (B.2.2.1 0, n1, .inl (fun j : Nat => zI (f (j : Int))))) (hn1 : n1 ≤ 65536) (hg1 : (decide (20 ≤ g1)) = false) {res : Int} {S9 : Sg} : ∀  (S : Sg) , zf_W_copy g0 r0 k0 n0 g1 r1 k1 n1  S = some (res, S9) → ∀ (H : Heap) (locs : List Loc) (ls : Array Slot), zW B S H → va_S B.2.2.2 s.heap H locs → lv_has ls 2 [(0, .ref (B.2.1 g0 (r0) (k0))), (1, .ref (B.2.1 g1 (r1) (k1)))] → W p l e zm_W_copy s m args below meth c H locs 0 0 (MQ below (zQv B S9) args s 0 0 B.2.2.2) (F0 m 0 ls []) := by
  intro S hf H locs ls hW hS hl
  unfold zf_W_copy at hf
  refine lv_aload_n C.1 C.2.1 zd_W_copy_0 rfl (lv_at hl 0 rfl) ?_
  refine zr_iconst C zd_W_copy_1 ?_
  refine lv_aload_n C.1 C.2.1 zd_W_copy_2 rfl (lv_at hl 1 rfl) ?_
  refine zr_iconst C zd_W_copy_3 ?_
  refine lv_aload_n C.1 C.2.1 zd_W_copy_4 rfl (lv_at hl 0 rfl) ?_
  refine zalen (N := (n0 : Int)) C hK hW hv0 he0 rfl zd_W_copy_5 ?_
  obtain ⟨h1, hf⟩ := zck_some hf
  obtain ⟨S2, eS2, hf⟩ := zlt_some hf
  refine zcopy C hK hap hW hS hl.1 hv0 hv1 he0 he1 hn0 hn1 hg0 hg1 h1 zk_1716 zk_735 zk_734 zk_18 (by decide) (Nat.le_of_ble_eq_true rfl) zd_W_copy_6 (fun H locs hW hS => ?_)
  rw [eS2] at hW
  cases hf
  exact zre_v C hr hlk hK hW hS zd_W_copy_9

theorem zc_W_copy {l : Launch} {B : zB} (hap : zAp B) (g0 : Nat) (r0 : Int) (k0 : Int) (n0 : Nat) (g1 : Nat) (r1 : Int) (k1 : Int) (n1 : Nat) (hv0 : zvd g0 r0 k0) (he0 : ∀ f, zce B f g0 r0 k0 = .inl (B.2.2.1 0, n0, .inl (fun j : Nat => zI (f (j : Int))))) (hn0 : n0 ≤ 65536) (hg0 : (decide (20 ≤ g0)) = false) (hv1 : zvd g1 r1 k1) (he1 : ∀ f, zce B f g1 r1 k1 = .inl (B.2.2.1 0, n1, .inl (fun j : Nat => zI (f (j : Int))))) (hn1 : n1 ≤ 65536) (hg1 : (decide (20 ≤ g1)) = false) (S : Sg) {res : Int} {S9 : Sg} (hf : zf_W_copy g0 r0 k0 n0 g1 r1 k1 n1 S = some (res, S9)) : Met l zy_W_copy (Cond.code zy_W_copy zb_W_copy 2 (none) :: zT) zm_W_copy (zP B S [.ref (B.2.1 g0 (r0) (k0)), .ref (B.2.1 g1 (r1) (k1))]) (zQv B S9) 0 0 B.2.2.2 :=
  zmet (by decide) (Nat.le_of_ble_eq_true rfl) (fun p e s m args below meth c C hr hlk hK hSt hW ls hl => zw_W_copy C hr hlk hK hSt hap g0 r0 k0 n0 g1 r1 k1 n1 hv0 he0 hn0 hg0 hv1 he1 hn1 hg1  S  hf _ _ _ hW va_S.rf hl)
/-! IslandOfficeModel$World.like(LIslandOfficeModel$World;)V -/
abbrev zy_W_like : MethodName := ⟨"IslandOfficeModel$World", "like", "(LIslandOfficeModel$World;)V"⟩
abbrev zb_W_like : ByteArray := prog_15_method_2_code
abbrev zm_W_like : Room := { frames := 2, cells := 0, slots := 0, locals := 85 }
theorem zq_W_like : zMy zy_W_like zb_W_like 3 (none) 1 := ⟨zk_1992, zk_1990, zk_1991, zk_15, by decide, by decide, by decide +kernel⟩
theorem zd_W_like_0 : decode zb_W_like 0 = .ok (.aload_n 0, 1) := by decide +kernel
theorem zd_W_like_1 : decode zb_W_like 1 = .ok (.aload_n 1, 1) := by decide +kernel
theorem zd_W_like_2 : decode zb_W_like 2 = .ok (.getfield 155, 3) := by decide +kernel
theorem zd_W_like_5 : decode zb_W_like 5 = .ok (.putfield 155, 3) := by decide +kernel
theorem zd_W_like_8 : decode zb_W_like 8 = .ok (.aload_n 0, 1) := by decide +kernel
theorem zd_W_like_9 : decode zb_W_like 9 = .ok (.aload_n 1, 1) := by decide +kernel
theorem zd_W_like_10 : decode zb_W_like 10 = .ok (.getfield 158, 3) := by decide +kernel
theorem zd_W_like_13 : decode zb_W_like 13 = .ok (.putfield 158, 3) := by decide +kernel
theorem zd_W_like_16 : decode zb_W_like 16 = .ok (.aload_n 1, 1) := by decide +kernel
theorem zd_W_like_17 : decode zb_W_like 17 = .ok (.getfield 9, 3) := by decide +kernel
theorem zd_W_like_20 : decode zb_W_like 20 = .ok (.aload_n 0, 1) := by decide +kernel
theorem zd_W_like_21 : decode zb_W_like 21 = .ok (.getfield 9, 3) := by decide +kernel
theorem zd_W_like_24 : decode zb_W_like 24 = .ok (.invokestatic 161, 3) := by decide +kernel
theorem zd_W_like_27 : decode zb_W_like 27 = .ok (.aload_n 1, 1) := by decide +kernel
theorem zd_W_like_28 : decode zb_W_like 28 = .ok (.getfield 15, 3) := by decide +kernel
theorem zd_W_like_31 : decode zb_W_like 31 = .ok (.aload_n 0, 1) := by decide +kernel
theorem zd_W_like_32 : decode zb_W_like 32 = .ok (.getfield 15, 3) := by decide +kernel
theorem zd_W_like_35 : decode zb_W_like 35 = .ok (.invokestatic 161, 3) := by decide +kernel
theorem zd_W_like_38 : decode zb_W_like 38 = .ok (.aload_n 1, 1) := by decide +kernel
theorem zd_W_like_39 : decode zb_W_like 39 = .ok (.getfield 18, 3) := by decide +kernel
theorem zd_W_like_42 : decode zb_W_like 42 = .ok (.aload_n 0, 1) := by decide +kernel
theorem zd_W_like_43 : decode zb_W_like 43 = .ok (.getfield 18, 3) := by decide +kernel
theorem zd_W_like_46 : decode zb_W_like 46 = .ok (.invokestatic 161, 3) := by decide +kernel
theorem zd_W_like_49 : decode zb_W_like 49 = .ok (.aload_n 1, 1) := by decide +kernel
theorem zd_W_like_50 : decode zb_W_like 50 = .ok (.getfield 21, 3) := by decide +kernel
theorem zd_W_like_53 : decode zb_W_like 53 = .ok (.aload_n 0, 1) := by decide +kernel
theorem zd_W_like_54 : decode zb_W_like 54 = .ok (.getfield 21, 3) := by decide +kernel
theorem zd_W_like_57 : decode zb_W_like 57 = .ok (.invokestatic 161, 3) := by decide +kernel
theorem zd_W_like_60 : decode zb_W_like 60 = .ok (.aload_n 1, 1) := by decide +kernel
theorem zd_W_like_61 : decode zb_W_like 61 = .ok (.getfield 24, 3) := by decide +kernel
theorem zd_W_like_64 : decode zb_W_like 64 = .ok (.aload_n 0, 1) := by decide +kernel
theorem zd_W_like_65 : decode zb_W_like 65 = .ok (.getfield 24, 3) := by decide +kernel
theorem zd_W_like_68 : decode zb_W_like 68 = .ok (.invokestatic 161, 3) := by decide +kernel
theorem zd_W_like_71 : decode zb_W_like 71 = .ok (.aload_n 1, 1) := by decide +kernel
theorem zd_W_like_72 : decode zb_W_like 72 = .ok (.getfield 27, 3) := by decide +kernel
theorem zd_W_like_75 : decode zb_W_like 75 = .ok (.aload_n 0, 1) := by decide +kernel
theorem zd_W_like_76 : decode zb_W_like 76 = .ok (.getfield 27, 3) := by decide +kernel
theorem zd_W_like_79 : decode zb_W_like 79 = .ok (.invokestatic 161, 3) := by decide +kernel
theorem zd_W_like_82 : decode zb_W_like 82 = .ok (.aload_n 1, 1) := by decide +kernel
theorem zd_W_like_83 : decode zb_W_like 83 = .ok (.getfield 30, 3) := by decide +kernel
theorem zd_W_like_86 : decode zb_W_like 86 = .ok (.aload_n 0, 1) := by decide +kernel
theorem zd_W_like_87 : decode zb_W_like 87 = .ok (.getfield 30, 3) := by decide +kernel
theorem zd_W_like_90 : decode zb_W_like 90 = .ok (.invokestatic 161, 3) := by decide +kernel
theorem zd_W_like_93 : decode zb_W_like 93 = .ok (.aload_n 1, 1) := by decide +kernel
theorem zd_W_like_94 : decode zb_W_like 94 = .ok (.getfield 33, 3) := by decide +kernel
theorem zd_W_like_97 : decode zb_W_like 97 = .ok (.aload_n 0, 1) := by decide +kernel
theorem zd_W_like_98 : decode zb_W_like 98 = .ok (.getfield 33, 3) := by decide +kernel
theorem zd_W_like_101 : decode zb_W_like 101 = .ok (.invokestatic 161, 3) := by decide +kernel
theorem zd_W_like_104 : decode zb_W_like 104 = .ok (.aload_n 1, 1) := by decide +kernel
theorem zd_W_like_105 : decode zb_W_like 105 = .ok (.getfield 36, 3) := by decide +kernel
theorem zd_W_like_108 : decode zb_W_like 108 = .ok (.aload_n 0, 1) := by decide +kernel
theorem zd_W_like_109 : decode zb_W_like 109 = .ok (.getfield 36, 3) := by decide +kernel
theorem zd_W_like_112 : decode zb_W_like 112 = .ok (.invokestatic 161, 3) := by decide +kernel
theorem zd_W_like_115 : decode zb_W_like 115 = .ok (.aload_n 1, 1) := by decide +kernel
theorem zd_W_like_116 : decode zb_W_like 116 = .ok (.getfield 39, 3) := by decide +kernel
theorem zd_W_like_119 : decode zb_W_like 119 = .ok (.aload_n 0, 1) := by decide +kernel
theorem zd_W_like_120 : decode zb_W_like 120 = .ok (.getfield 39, 3) := by decide +kernel
theorem zd_W_like_123 : decode zb_W_like 123 = .ok (.invokestatic 161, 3) := by decide +kernel
theorem zd_W_like_126 : decode zb_W_like 126 = .ok (.aload_n 1, 1) := by decide +kernel
theorem zd_W_like_127 : decode zb_W_like 127 = .ok (.getfield 42, 3) := by decide +kernel
theorem zd_W_like_130 : decode zb_W_like 130 = .ok (.aload_n 0, 1) := by decide +kernel
theorem zd_W_like_131 : decode zb_W_like 131 = .ok (.getfield 42, 3) := by decide +kernel
theorem zd_W_like_134 : decode zb_W_like 134 = .ok (.invokestatic 161, 3) := by decide +kernel
theorem zd_W_like_137 : decode zb_W_like 137 = .ok (.aload_n 1, 1) := by decide +kernel
theorem zd_W_like_138 : decode zb_W_like 138 = .ok (.getfield 45, 3) := by decide +kernel
theorem zd_W_like_141 : decode zb_W_like 141 = .ok (.aload_n 0, 1) := by decide +kernel
theorem zd_W_like_142 : decode zb_W_like 142 = .ok (.getfield 45, 3) := by decide +kernel
theorem zd_W_like_145 : decode zb_W_like 145 = .ok (.invokestatic 161, 3) := by decide +kernel
theorem zd_W_like_148 : decode zb_W_like 148 = .ok (.aload_n 1, 1) := by decide +kernel
theorem zd_W_like_149 : decode zb_W_like 149 = .ok (.getfield 48, 3) := by decide +kernel
theorem zd_W_like_152 : decode zb_W_like 152 = .ok (.aload_n 0, 1) := by decide +kernel
theorem zd_W_like_153 : decode zb_W_like 153 = .ok (.getfield 48, 3) := by decide +kernel
theorem zd_W_like_156 : decode zb_W_like 156 = .ok (.invokestatic 161, 3) := by decide +kernel
theorem zd_W_like_159 : decode zb_W_like 159 = .ok (.aload_n 0, 1) := by decide +kernel
theorem zd_W_like_160 : decode zb_W_like 160 = .ok (.aload_n 1, 1) := by decide +kernel
theorem zd_W_like_161 : decode zb_W_like 161 = .ok (.getfield 51, 3) := by decide +kernel
theorem zd_W_like_164 : decode zb_W_like 164 = .ok (.putfield 51, 3) := by decide +kernel
theorem zd_W_like_167 : decode zb_W_like 167 = .ok (.aload_n 0, 1) := by decide +kernel
theorem zd_W_like_168 : decode zb_W_like 168 = .ok (.aload_n 1, 1) := by decide +kernel
theorem zd_W_like_169 : decode zb_W_like 169 = .ok (.getfield 165, 3) := by decide +kernel
theorem zd_W_like_172 : decode zb_W_like 172 = .ok (.putfield 165, 3) := by decide +kernel
theorem zd_W_like_175 : decode zb_W_like 175 = .ok (.iconst 0, 1) := by decide +kernel
theorem zd_W_like_176 : decode zb_W_like 176 = .ok (.istore_n 2, 1) := by decide +kernel
theorem zd_W_like_177 : decode zb_W_like 177 = .ok (.iload_n 2, 1) := by decide +kernel
theorem zd_W_like_178 : decode zb_W_like 178 = .ok (.bipush 12, 2) := by decide +kernel
theorem zd_W_like_180 : decode zb_W_like 180 = .ok (.if_icmp .ge 24, 3) := by decide +kernel
theorem zd_W_like_183 : decode zb_W_like 183 = .ok (.aload_n 1, 1) := by decide +kernel
theorem zd_W_like_184 : decode zb_W_like 184 = .ok (.getfield 57, 3) := by decide +kernel
theorem zd_W_like_187 : decode zb_W_like 187 = .ok (.iload_n 2, 1) := by decide +kernel
theorem zd_W_like_188 : decode zb_W_like 188 = .ok (.aaload, 1) := by decide +kernel
theorem zd_W_like_189 : decode zb_W_like 189 = .ok (.aload_n 0, 1) := by decide +kernel
theorem zd_W_like_190 : decode zb_W_like 190 = .ok (.getfield 57, 3) := by decide +kernel
theorem zd_W_like_193 : decode zb_W_like 193 = .ok (.iload_n 2, 1) := by decide +kernel
theorem zd_W_like_194 : decode zb_W_like 194 = .ok (.aaload, 1) := by decide +kernel
theorem zd_W_like_195 : decode zb_W_like 195 = .ok (.invokestatic 161, 3) := by decide +kernel
theorem zd_W_like_198 : decode zb_W_like 198 = .ok (.iinc 2 1, 3) := by decide +kernel
theorem zd_W_like_201 : decode zb_W_like 201 = .ok (.goto (-24), 3) := by decide +kernel
theorem zd_W_like_204 : decode zb_W_like 204 = .ok (.aload_n 1, 1) := by decide +kernel
theorem zd_W_like_205 : decode zb_W_like 205 = .ok (.getfield 60, 3) := by decide +kernel
theorem zd_W_like_208 : decode zb_W_like 208 = .ok (.aload_n 0, 1) := by decide +kernel
theorem zd_W_like_209 : decode zb_W_like 209 = .ok (.getfield 60, 3) := by decide +kernel
theorem zd_W_like_212 : decode zb_W_like 212 = .ok (.invokestatic 161, 3) := by decide +kernel
theorem zd_W_like_215 : decode zb_W_like 215 = .ok (.aload_n 1, 1) := by decide +kernel
theorem zd_W_like_216 : decode zb_W_like 216 = .ok (.getfield 63, 3) := by decide +kernel
theorem zd_W_like_219 : decode zb_W_like 219 = .ok (.aload_n 0, 1) := by decide +kernel
theorem zd_W_like_220 : decode zb_W_like 220 = .ok (.getfield 63, 3) := by decide +kernel
theorem zd_W_like_223 : decode zb_W_like 223 = .ok (.invokestatic 161, 3) := by decide +kernel
theorem zd_W_like_226 : decode zb_W_like 226 = .ok (.aload_n 1, 1) := by decide +kernel
theorem zd_W_like_227 : decode zb_W_like 227 = .ok (.getfield 66, 3) := by decide +kernel
theorem zd_W_like_230 : decode zb_W_like 230 = .ok (.aload_n 0, 1) := by decide +kernel
theorem zd_W_like_231 : decode zb_W_like 231 = .ok (.getfield 66, 3) := by decide +kernel
theorem zd_W_like_234 : decode zb_W_like 234 = .ok (.invokestatic 161, 3) := by decide +kernel
theorem zd_W_like_237 : decode zb_W_like 237 = .ok (.aload_n 1, 1) := by decide +kernel
theorem zd_W_like_238 : decode zb_W_like 238 = .ok (.getfield 69, 3) := by decide +kernel
theorem zd_W_like_241 : decode zb_W_like 241 = .ok (.aload_n 0, 1) := by decide +kernel
theorem zd_W_like_242 : decode zb_W_like 242 = .ok (.getfield 69, 3) := by decide +kernel
theorem zd_W_like_245 : decode zb_W_like 245 = .ok (.invokestatic 161, 3) := by decide +kernel
theorem zd_W_like_248 : decode zb_W_like 248 = .ok (.aload_n 1, 1) := by decide +kernel
theorem zd_W_like_249 : decode zb_W_like 249 = .ok (.getfield 72, 3) := by decide +kernel
theorem zd_W_like_252 : decode zb_W_like 252 = .ok (.aload_n 0, 1) := by decide +kernel
theorem zd_W_like_253 : decode zb_W_like 253 = .ok (.getfield 72, 3) := by decide +kernel
theorem zd_W_like_256 : decode zb_W_like 256 = .ok (.invokestatic 161, 3) := by decide +kernel
theorem zd_W_like_259 : decode zb_W_like 259 = .ok (.aload_n 1, 1) := by decide +kernel
theorem zd_W_like_260 : decode zb_W_like 260 = .ok (.getfield 75, 3) := by decide +kernel
theorem zd_W_like_263 : decode zb_W_like 263 = .ok (.aload_n 0, 1) := by decide +kernel
theorem zd_W_like_264 : decode zb_W_like 264 = .ok (.getfield 75, 3) := by decide +kernel
theorem zd_W_like_267 : decode zb_W_like 267 = .ok (.invokestatic 161, 3) := by decide +kernel
theorem zd_W_like_270 : decode zb_W_like 270 = .ok (.aload_n 1, 1) := by decide +kernel
theorem zd_W_like_271 : decode zb_W_like 271 = .ok (.getfield 78, 3) := by decide +kernel
theorem zd_W_like_274 : decode zb_W_like 274 = .ok (.aload_n 0, 1) := by decide +kernel
theorem zd_W_like_275 : decode zb_W_like 275 = .ok (.getfield 78, 3) := by decide +kernel
theorem zd_W_like_278 : decode zb_W_like 278 = .ok (.invokestatic 161, 3) := by decide +kernel
theorem zd_W_like_281 : decode zb_W_like 281 = .ok (.aload_n 0, 1) := by decide +kernel
theorem zd_W_like_282 : decode zb_W_like 282 = .ok (.aload_n 1, 1) := by decide +kernel
theorem zd_W_like_283 : decode zb_W_like 283 = .ok (.getfield 168, 3) := by decide +kernel
theorem zd_W_like_286 : decode zb_W_like 286 = .ok (.putfield 168, 3) := by decide +kernel
theorem zd_W_like_289 : decode zb_W_like 289 = .ok (.aload_n 1, 1) := by decide +kernel
theorem zd_W_like_290 : decode zb_W_like 290 = .ok (.getfield 81, 3) := by decide +kernel
theorem zd_W_like_293 : decode zb_W_like 293 = .ok (.aload_n 0, 1) := by decide +kernel
theorem zd_W_like_294 : decode zb_W_like 294 = .ok (.getfield 81, 3) := by decide +kernel
theorem zd_W_like_297 : decode zb_W_like 297 = .ok (.invokestatic 161, 3) := by decide +kernel
theorem zd_W_like_300 : decode zb_W_like 300 = .ok (.aload_n 1, 1) := by decide +kernel
theorem zd_W_like_301 : decode zb_W_like 301 = .ok (.getfield 84, 3) := by decide +kernel
theorem zd_W_like_304 : decode zb_W_like 304 = .ok (.aload_n 0, 1) := by decide +kernel
theorem zd_W_like_305 : decode zb_W_like 305 = .ok (.getfield 84, 3) := by decide +kernel
theorem zd_W_like_308 : decode zb_W_like 308 = .ok (.invokestatic 161, 3) := by decide +kernel
theorem zd_W_like_311 : decode zb_W_like 311 = .ok (.aload_n 1, 1) := by decide +kernel
theorem zd_W_like_312 : decode zb_W_like 312 = .ok (.getfield 87, 3) := by decide +kernel
theorem zd_W_like_315 : decode zb_W_like 315 = .ok (.aload_n 0, 1) := by decide +kernel
theorem zd_W_like_316 : decode zb_W_like 316 = .ok (.getfield 87, 3) := by decide +kernel
theorem zd_W_like_319 : decode zb_W_like 319 = .ok (.invokestatic 161, 3) := by decide +kernel
theorem zd_W_like_322 : decode zb_W_like 322 = .ok (.aload_n 1, 1) := by decide +kernel
theorem zd_W_like_323 : decode zb_W_like 323 = .ok (.getfield 90, 3) := by decide +kernel
theorem zd_W_like_326 : decode zb_W_like 326 = .ok (.aload_n 0, 1) := by decide +kernel
theorem zd_W_like_327 : decode zb_W_like 327 = .ok (.getfield 90, 3) := by decide +kernel
theorem zd_W_like_330 : decode zb_W_like 330 = .ok (.invokestatic 161, 3) := by decide +kernel
theorem zd_W_like_333 : decode zb_W_like 333 = .ok (.aload_n 1, 1) := by decide +kernel
theorem zd_W_like_334 : decode zb_W_like 334 = .ok (.getfield 93, 3) := by decide +kernel
theorem zd_W_like_337 : decode zb_W_like 337 = .ok (.aload_n 0, 1) := by decide +kernel
theorem zd_W_like_338 : decode zb_W_like 338 = .ok (.getfield 93, 3) := by decide +kernel
theorem zd_W_like_341 : decode zb_W_like 341 = .ok (.invokestatic 161, 3) := by decide +kernel
theorem zd_W_like_344 : decode zb_W_like 344 = .ok (.aload_n 1, 1) := by decide +kernel
theorem zd_W_like_345 : decode zb_W_like 345 = .ok (.getfield 96, 3) := by decide +kernel
theorem zd_W_like_348 : decode zb_W_like 348 = .ok (.aload_n 0, 1) := by decide +kernel
theorem zd_W_like_349 : decode zb_W_like 349 = .ok (.getfield 96, 3) := by decide +kernel
theorem zd_W_like_352 : decode zb_W_like 352 = .ok (.invokestatic 161, 3) := by decide +kernel
theorem zd_W_like_355 : decode zb_W_like 355 = .ok (.aload_n 1, 1) := by decide +kernel
theorem zd_W_like_356 : decode zb_W_like 356 = .ok (.getfield 99, 3) := by decide +kernel
theorem zd_W_like_359 : decode zb_W_like 359 = .ok (.aload_n 0, 1) := by decide +kernel
theorem zd_W_like_360 : decode zb_W_like 360 = .ok (.getfield 99, 3) := by decide +kernel
theorem zd_W_like_363 : decode zb_W_like 363 = .ok (.invokestatic 161, 3) := by decide +kernel
theorem zd_W_like_366 : decode zb_W_like 366 = .ok (.aload_n 0, 1) := by decide +kernel
theorem zd_W_like_367 : decode zb_W_like 367 = .ok (.aload_n 1, 1) := by decide +kernel
theorem zd_W_like_368 : decode zb_W_like 368 = .ok (.getfield 171, 3) := by decide +kernel
theorem zd_W_like_371 : decode zb_W_like 371 = .ok (.putfield 171, 3) := by decide +kernel
theorem zd_W_like_374 : decode zb_W_like 374 = .ok (.aload_n 1, 1) := by decide +kernel
theorem zd_W_like_375 : decode zb_W_like 375 = .ok (.getfield 102, 3) := by decide +kernel
theorem zd_W_like_378 : decode zb_W_like 378 = .ok (.aload_n 0, 1) := by decide +kernel
theorem zd_W_like_379 : decode zb_W_like 379 = .ok (.getfield 102, 3) := by decide +kernel
theorem zd_W_like_382 : decode zb_W_like 382 = .ok (.invokestatic 161, 3) := by decide +kernel
theorem zd_W_like_385 : decode zb_W_like 385 = .ok (.aload_n 1, 1) := by decide +kernel
theorem zd_W_like_386 : decode zb_W_like 386 = .ok (.getfield 105, 3) := by decide +kernel
theorem zd_W_like_389 : decode zb_W_like 389 = .ok (.aload_n 0, 1) := by decide +kernel
theorem zd_W_like_390 : decode zb_W_like 390 = .ok (.getfield 105, 3) := by decide +kernel
theorem zd_W_like_393 : decode zb_W_like 393 = .ok (.invokestatic 161, 3) := by decide +kernel
theorem zd_W_like_396 : decode zb_W_like 396 = .ok (.aload_n 1, 1) := by decide +kernel
theorem zd_W_like_397 : decode zb_W_like 397 = .ok (.getfield 108, 3) := by decide +kernel
theorem zd_W_like_400 : decode zb_W_like 400 = .ok (.aload_n 0, 1) := by decide +kernel
theorem zd_W_like_401 : decode zb_W_like 401 = .ok (.getfield 108, 3) := by decide +kernel
theorem zd_W_like_404 : decode zb_W_like 404 = .ok (.invokestatic 161, 3) := by decide +kernel
theorem zd_W_like_407 : decode zb_W_like 407 = .ok (.aload_n 1, 1) := by decide +kernel
theorem zd_W_like_408 : decode zb_W_like 408 = .ok (.getfield 111, 3) := by decide +kernel
theorem zd_W_like_411 : decode zb_W_like 411 = .ok (.aload_n 0, 1) := by decide +kernel
theorem zd_W_like_412 : decode zb_W_like 412 = .ok (.getfield 111, 3) := by decide +kernel
theorem zd_W_like_415 : decode zb_W_like 415 = .ok (.invokestatic 161, 3) := by decide +kernel
theorem zd_W_like_418 : decode zb_W_like 418 = .ok (.aload_n 0, 1) := by decide +kernel
theorem zd_W_like_419 : decode zb_W_like 419 = .ok (.aload_n 1, 1) := by decide +kernel
theorem zd_W_like_420 : decode zb_W_like 420 = .ok (.getfield 174, 3) := by decide +kernel
theorem zd_W_like_423 : decode zb_W_like 423 = .ok (.putfield 174, 3) := by decide +kernel
theorem zd_W_like_426 : decode zb_W_like 426 = .ok (.aload_n 0, 1) := by decide +kernel
theorem zd_W_like_427 : decode zb_W_like 427 = .ok (.aload_n 1, 1) := by decide +kernel
theorem zd_W_like_428 : decode zb_W_like 428 = .ok (.getfield 177, 3) := by decide +kernel
theorem zd_W_like_431 : decode zb_W_like 431 = .ok (.putfield 177, 3) := by decide +kernel
theorem zd_W_like_434 : decode zb_W_like 434 = .ok (.aload_n 0, 1) := by decide +kernel
theorem zd_W_like_435 : decode zb_W_like 435 = .ok (.aload_n 1, 1) := by decide +kernel
theorem zd_W_like_436 : decode zb_W_like 436 = .ok (.getfield 180, 3) := by decide +kernel
theorem zd_W_like_439 : decode zb_W_like 439 = .ok (.putfield 180, 3) := by decide +kernel
theorem zd_W_like_442 : decode zb_W_like 442 = .ok (.aload_n 0, 1) := by decide +kernel
theorem zd_W_like_443 : decode zb_W_like 443 = .ok (.aload_n 1, 1) := by decide +kernel
theorem zd_W_like_444 : decode zb_W_like 444 = .ok (.getfield 114, 3) := by decide +kernel
theorem zd_W_like_447 : decode zb_W_like 447 = .ok (.putfield 114, 3) := by decide +kernel
theorem zd_W_like_450 : decode zb_W_like 450 = .ok (.aload_n 1, 1) := by decide +kernel
theorem zd_W_like_451 : decode zb_W_like 451 = .ok (.getfield 117, 3) := by decide +kernel
theorem zd_W_like_454 : decode zb_W_like 454 = .ok (.aload_n 0, 1) := by decide +kernel
theorem zd_W_like_455 : decode zb_W_like 455 = .ok (.getfield 117, 3) := by decide +kernel
theorem zd_W_like_458 : decode zb_W_like 458 = .ok (.invokestatic 161, 3) := by decide +kernel
theorem zd_W_like_461 : decode zb_W_like 461 = .ok (.aload_n 1, 1) := by decide +kernel
theorem zd_W_like_462 : decode zb_W_like 462 = .ok (.getfield 120, 3) := by decide +kernel
theorem zd_W_like_465 : decode zb_W_like 465 = .ok (.aload_n 0, 1) := by decide +kernel
theorem zd_W_like_466 : decode zb_W_like 466 = .ok (.getfield 120, 3) := by decide +kernel
theorem zd_W_like_469 : decode zb_W_like 469 = .ok (.invokestatic 161, 3) := by decide +kernel
theorem zd_W_like_472 : decode zb_W_like 472 = .ok (.aload_n 1, 1) := by decide +kernel
theorem zd_W_like_473 : decode zb_W_like 473 = .ok (.getfield 123, 3) := by decide +kernel
theorem zd_W_like_476 : decode zb_W_like 476 = .ok (.iconst 0, 1) := by decide +kernel
theorem zd_W_like_477 : decode zb_W_like 477 = .ok (.aaload, 1) := by decide +kernel
theorem zd_W_like_478 : decode zb_W_like 478 = .ok (.aload_n 0, 1) := by decide +kernel
theorem zd_W_like_479 : decode zb_W_like 479 = .ok (.getfield 123, 3) := by decide +kernel
theorem zd_W_like_482 : decode zb_W_like 482 = .ok (.iconst 0, 1) := by decide +kernel
theorem zd_W_like_483 : decode zb_W_like 483 = .ok (.aaload, 1) := by decide +kernel
theorem zd_W_like_484 : decode zb_W_like 484 = .ok (.invokestatic 161, 3) := by decide +kernel
theorem zd_W_like_487 : decode zb_W_like 487 = .ok (.aload_n 1, 1) := by decide +kernel
theorem zd_W_like_488 : decode zb_W_like 488 = .ok (.getfield 123, 3) := by decide +kernel
theorem zd_W_like_491 : decode zb_W_like 491 = .ok (.iconst 1, 1) := by decide +kernel
theorem zd_W_like_492 : decode zb_W_like 492 = .ok (.aaload, 1) := by decide +kernel
theorem zd_W_like_493 : decode zb_W_like 493 = .ok (.aload_n 0, 1) := by decide +kernel
theorem zd_W_like_494 : decode zb_W_like 494 = .ok (.getfield 123, 3) := by decide +kernel
theorem zd_W_like_497 : decode zb_W_like 497 = .ok (.iconst 1, 1) := by decide +kernel
theorem zd_W_like_498 : decode zb_W_like 498 = .ok (.aaload, 1) := by decide +kernel
theorem zd_W_like_499 : decode zb_W_like 499 = .ok (.invokestatic 161, 3) := by decide +kernel
theorem zd_W_like_502 : decode zb_W_like 502 = .ok (.iconst 0, 1) := by decide +kernel
theorem zd_W_like_503 : decode zb_W_like 503 = .ok (.istore_n 2, 1) := by decide +kernel
theorem zd_W_like_504 : decode zb_W_like 504 = .ok (.iload_n 2, 1) := by decide +kernel
theorem zd_W_like_505 : decode zb_W_like 505 = .ok (.iconst 5, 1) := by decide +kernel
theorem zd_W_like_506 : decode zb_W_like 506 = .ok (.if_icmp .ge 24, 3) := by decide +kernel
theorem zd_W_like_509 : decode zb_W_like 509 = .ok (.aload_n 1, 1) := by decide +kernel
theorem zd_W_like_510 : decode zb_W_like 510 = .ok (.getfield 126, 3) := by decide +kernel
theorem zd_W_like_513 : decode zb_W_like 513 = .ok (.iload_n 2, 1) := by decide +kernel
theorem zd_W_like_514 : decode zb_W_like 514 = .ok (.aaload, 1) := by decide +kernel
theorem zd_W_like_515 : decode zb_W_like 515 = .ok (.aload_n 0, 1) := by decide +kernel
theorem zd_W_like_516 : decode zb_W_like 516 = .ok (.getfield 126, 3) := by decide +kernel
theorem zd_W_like_519 : decode zb_W_like 519 = .ok (.iload_n 2, 1) := by decide +kernel
theorem zd_W_like_520 : decode zb_W_like 520 = .ok (.aaload, 1) := by decide +kernel
theorem zd_W_like_521 : decode zb_W_like 521 = .ok (.invokestatic 161, 3) := by decide +kernel
theorem zd_W_like_524 : decode zb_W_like 524 = .ok (.iinc 2 1, 3) := by decide +kernel
theorem zd_W_like_527 : decode zb_W_like 527 = .ok (.goto (-23), 3) := by decide +kernel
theorem zd_W_like_530 : decode zb_W_like 530 = .ok (.aload_n 1, 1) := by decide +kernel
theorem zd_W_like_531 : decode zb_W_like 531 = .ok (.getfield 129, 3) := by decide +kernel
theorem zd_W_like_534 : decode zb_W_like 534 = .ok (.aload_n 0, 1) := by decide +kernel
theorem zd_W_like_535 : decode zb_W_like 535 = .ok (.getfield 129, 3) := by decide +kernel
theorem zd_W_like_538 : decode zb_W_like 538 = .ok (.invokestatic 161, 3) := by decide +kernel
theorem zd_W_like_541 : decode zb_W_like 541 = .ok (.return_, 1) := by decide +kernel

def zf_W_like_504 (r0 : Int) (r1 : Int) : Nat → Int → Sg → Option (Int × Sg)
  | 0, _, _ => none
  | n + 1, x2, S =>
    if 5 ≤ x2 then (zbd (zf_W_copy 5 (r1) (34) 4 5 (r0) (34) 4 S) fun a2 S3 => some (0, S3)) else (zck (0 ≤ x2 ∧ x2 < 5) <| zbd (zf_W_copy 8 (r1) (x2) 401 8 (r0) (x2) 401 S) fun a5 S6 => zlt (zw (x2 + 1)) fun v7 => (zf_W_like_504 r0 r1 n) (v7) S6)
set_option maxHeartbeats 4000000 in
set_option maxRecDepth 100000 in
theorem zw_W_like_504 {p : Program} {l : Launch} {e : Env} {s : State} {m : MethodId} {args : Array Value} {below : List Frame} {meth : Method} {c : Code} {B : zB} (C : CallFix p m c zb_W_like 3 s args zT "IslandOfficeModel$World") (hr : meth.sig.returnType = none) (hlk : meth.locks = false) (hK : zK B s) (hSt : zSt B s) (hap : zAp B) (r0 : Int) (r1 : Int) (hr0 : 0 ≤ r0 ∧ r0 < 3) (hr1 : 0 ≤ r1 ∧ r1 < 3) {res : Int} {S9 : Sg} : ∀ n : Nat, ∀ (x2 : Int) (S : Sg) (nx2 : zn x2), zf_W_like_504 r0 r1 n x2 S = some (res, S9) → ∀ (H : Heap) (locs : List Loc) (ls : Array Slot), zW B S H → va_S B.2.2.2 s.heap H locs → lv_has ls 3 [(0, .ref (B.2.1 5 (r0) (0))), (1, .ref (B.2.1 5 (r1) (0))), (2, .int (zI (x2)))] → W p l e zm_W_like s m args below meth c H locs 0 0 (MQ below (zQv B S9) args s 0 0 B.2.2.2) (F0 m 504 ls []) := by
  intro n
  induction n with
  | zero =>
    intro x2 S nx2 hf H locs ls hW hS hl
    cases hf
  | succ n ih =>
    intro x2 S nx2 hf H locs ls hW hS hl
    rw [zf_W_like_504] at hf
    refine lv_iload_n C.1 C.2.1 zd_W_like_504 rfl (lv_at hl 2 rfl) ?_
    refine zr_iconst C zd_W_like_505 ?_
    refine zr_icmp_ge (tgt := 530) C nx2 (znb rfl) zd_W_like_506 (by decide) (fun c1 => ?_) (fun c1 => ?_)
    · rw [if_pos c1] at hf
      refine lv_aload_n C.1 C.2.1 zd_W_like_530 rfl (lv_at hl 1 rfl) ?_
      refine zg_W_lacking (r := r1) C hK hW (zvd_5 hr1 (by decide)) zk_1367 zd_W_like_531 ?_
      refine lv_aload_n C.1 C.2.1 zd_W_like_534 rfl (lv_at hl 0 rfl) ?_
      refine zg_W_lacking (r := r0) C hK hW (zvd_5 hr0 (by decide)) zk_1367 zd_W_like_535 ?_
      obtain ⟨a2, S3, ea2, hf⟩ := zbd_some hf
      refine zcSv (As := [.ref (B.2.1 5 (r1) (34)), .ref (B.2.1 5 (r0) (34))]) (rest := []) C hK hSt hW hS (zc_W_copy hap 5 (r1) (34) 4 5 (r0) (34) 4 (zvd_5 hr1 (by decide)) (fun f => ze_5_34 B f (r1)) (by decide) rfl (zvd_5 hr0 (by decide)) (fun f => ze_5_34 B f (r0)) (by decide) rfl S ea2) zq_W_copy zk_1993 ⟨rfl, rfl, by decide, by decide⟩ ⟨by decide, by decide⟩ rfl hl.1 rfl (lv_room (Nat.le_of_ble_eq_true rfl)) zd_W_like_538 (fun H locs hW hS => ?_)
      cases hf
      exact zre_v C hr hlk hK hW hS zd_W_like_541
    · rw [if_neg c1] at hf
      refine lv_aload_n C.1 C.2.1 zd_W_like_509 rfl (lv_at hl 1 rfl) ?_
      refine zg_W_record (r := r1) C hK hW (zvd_5 hr1 (by decide)) zk_1365 zd_W_like_510 ?_
      refine lv_iload_n C.1 C.2.1 zd_W_like_513 rfl (lv_at hl 2 rfl) ?_
      obtain ⟨h4, hf⟩ := zck_some hf
      refine zaald (t0 := 4) C hK hW (zvd_5 hr1 (by decide)) (fun f => ze_5_43 B f (r1)) rfl rfl (by decide) h4 zd_W_like_514 (a := B.2.1 8 (r1) (x2)) (by rw [Int.toNat_of_nonneg h4.1]) ?_
      refine lv_aload_n C.1 C.2.1 zd_W_like_515 rfl (lv_at hl 0 rfl) ?_
      refine zg_W_record (r := r0) C hK hW (zvd_5 hr0 (by decide)) zk_1365 zd_W_like_516 ?_
      refine lv_iload_n C.1 C.2.1 zd_W_like_519 rfl (lv_at hl 2 rfl) ?_
      refine zaald (t0 := 4) C hK hW (zvd_5 hr0 (by decide)) (fun f => ze_5_43 B f (r0)) rfl rfl (by decide) h4 zd_W_like_520 (a := B.2.1 8 (r0) (x2)) (by rw [Int.toNat_of_nonneg h4.1]) ?_
      obtain ⟨a5, S6, ea5, hf⟩ := zbd_some hf
      refine zcSv (As := [.ref (B.2.1 8 (r1) (x2)), .ref (B.2.1 8 (r0) (x2))]) (rest := []) C hK hSt hW hS (zc_W_copy hap 8 (r1) (x2) 401 8 (r0) (x2) 401 (zvd_8 hr1 h4) (fun f => ze_8 B f (r1) (x2)) (by decide) rfl (zvd_8 hr0 h4) (fun f => ze_8 B f (r0) (x2)) (by decide) rfl S ea5) zq_W_copy zk_1993 ⟨rfl, rfl, by decide, by decide⟩ ⟨by decide, by decide⟩ rfl hl.1 rfl (lv_room (Nat.le_of_ble_eq_true rfl)) zd_W_like_521 (fun H locs hW hS => ?_)
      obtain ⟨v7, ev7, hf⟩ := zlt_some hf
      have nv7 : zn v7 := by rw [← ev7]; exact zn_w _
      refine lv_iinc (v := zI v7) (lv' := [(2, .int (zI (v7))), (0, .ref (B.2.1 5 (r0) (0))), (1, .ref (B.2.1 5 (r1) (0)))]) C.1 C.2.1 zd_W_like_524 hl (k := 2) rfl (by rw [← ev7, ← zI_add]; rfl) (by decide) rfl (fun ls hl => ?_)
      refine lv_goto (tgt := 504) C.1 C.2.1 zd_W_like_527 (by decide) ?_
      exact ih (v7) S6 nv7 hf _ _ _ hW hS (lv_sub hl [1, 2, 0] rfl)

def zf_W_like_177 (r0 : Int) (r1 : Int) : Nat → Int → Sg → Option (Int × Sg)
  | 0, _, _ => none
  | n + 1, x2, S =>
    if 12 ≤ x2 then (zbd (zf_W_copy 5 (r1) (14) 12 5 (r0) (14) 12 S) fun a2 S3 => zbd (zf_W_copy 5 (r1) (15) 12 5 (r0) (15) 12 S3) fun a4 S5 => zbd (zf_W_copy 5 (r1) (16) 12 5 (r0) (16) 12 S5) fun a6 S7 => zbd (zf_W_copy 5 (r1) (17) 12 5 (r0) (17) 12 S7) fun a8 S9 => zbd (zf_W_copy 5 (r1) (18) 12 5 (r0) (18) 12 S9) fun a10 S11 => zbd (zf_W_copy 5 (r1) (19) 12 5 (r0) (19) 12 S11) fun a12 S13 => zbd (zf_W_copy 5 (r1) (20) 12 5 (r0) (20) 12 S13) fun a14 S15 => zlt (zu S15 5 r0 0 25 (S15 5 r1 0 25)) fun S16 => zbd (zf_W_copy 5 (r1) (21) 8 5 (r0) (21) 8 S16) fun a17 S18 => zbd (zf_W_copy 5 (r1) (22) 8 5 (r0) (22) 8 S18) fun a19 S20 => zbd (zf_W_copy 5 (r1) (23) 8 5 (r0) (23) 8 S20) fun a21 S22 => zbd (zf_W_copy 5 (r1) (24) 8 5 (r0) (24) 8 S22) fun a23 S24 => zbd (zf_W_copy 5 (r1) (25) 4 5 (r0) (25) 4 S24) fun a25 S26 => zbd (zf_W_copy 5 (r1) (26) 4 5 (r0) (26) 4 S26) fun a27 S28 => zbd (zf_W_copy 5 (r1) (27) 4 5 (r0) (27) 4 S28) fun a29 S30 => zlt (zu S30 5 r0 0 33 (S30 5 r1 0 33)) fun S31 => zbd (zf_W_copy 5 (r1) (28) 30 5 (r0) (28) 30 S31) fun a32 S33 => zbd (zf_W_copy 5 (r1) (29) 30 5 (r0) (29) 30 S33) fun a34 S35 => zbd (zf_W_copy 5 (r1) (30) 4 5 (r0) (30) 4 S35) fun a36 S37 => zbd (zf_W_copy 5 (r1) (31) 3 5 (r0) (31) 3 S37) fun a38 S39 => zlt (zu S39 5 r0 0 38 (S39 5 r1 0 38)) fun S40 => zlt (zu S40 5 r0 0 39 (S40 5 r1 0 39)) fun S41 => zlt (zu S41 5 r0 0 40 (S41 5 r1 0 40)) fun S42 => zlt (zu S42 5 r0 0 41 (S42 5 r1 0 41)) fun S43 => zbd (zf_W_copy 5 (r1) (32) 2 5 (r0) (32) 2 S43) fun a44 S45 => zbd (zf_W_copy 5 (r1) (33) 2 5 (r0) (33) 2 S45) fun a46 S47 => zbd (zf_W_copy 7 (r1) (0) 120 7 (r0) (0) 120 S47) fun a48 S49 => zbd (zf_W_copy 7 (r1) (1) 120 7 (r0) (1) 120 S49) fun a50 S51 => zf_W_like_504 r0 r1 4096 (0) S51) else (zck (0 ≤ x2 ∧ x2 < 12) <| zbd (zf_W_copy 6 (r1) (x2) 120 6 (r0) (x2) 120 S) fun a53 S54 => zlt (zw (x2 + 1)) fun v55 => (zf_W_like_177 r0 r1 n) (v55) S54)
set_option maxHeartbeats 4000000 in
set_option maxRecDepth 100000 in
theorem zw_W_like_177 {p : Program} {l : Launch} {e : Env} {s : State} {m : MethodId} {args : Array Value} {below : List Frame} {meth : Method} {c : Code} {B : zB} (C : CallFix p m c zb_W_like 3 s args zT "IslandOfficeModel$World") (hr : meth.sig.returnType = none) (hlk : meth.locks = false) (hK : zK B s) (hSt : zSt B s) (hap : zAp B) (r0 : Int) (r1 : Int) (hr0 : 0 ≤ r0 ∧ r0 < 3) (hr1 : 0 ≤ r1 ∧ r1 < 3) {res : Int} {S9 : Sg} : ∀ n : Nat, ∀ (x2 : Int) (S : Sg) (nx2 : zn x2), zf_W_like_177 r0 r1 n x2 S = some (res, S9) → ∀ (H : Heap) (locs : List Loc) (ls : Array Slot), zW B S H → va_S B.2.2.2 s.heap H locs → lv_has ls 3 [(0, .ref (B.2.1 5 (r0) (0))), (1, .ref (B.2.1 5 (r1) (0))), (2, .int (zI (x2)))] → W p l e zm_W_like s m args below meth c H locs 0 0 (MQ below (zQv B S9) args s 0 0 B.2.2.2) (F0 m 177 ls []) := by
  intro n
  induction n with
  | zero =>
    intro x2 S nx2 hf H locs ls hW hS hl
    cases hf
  | succ n ih =>
    intro x2 S nx2 hf H locs ls hW hS hl
    rw [zf_W_like_177] at hf
    refine lv_iload_n C.1 C.2.1 zd_W_like_177 rfl (lv_at hl 2 rfl) ?_
    refine zr_bipush C zd_W_like_178 (by decide) ?_
    refine zr_icmp_ge (tgt := 204) C nx2 (znb rfl) zd_W_like_180 (by decide) (fun c1 => ?_) (fun c1 => ?_)
    · rw [if_pos c1] at hf
      refine lv_aload_n C.1 C.2.1 zd_W_like_204 rfl (lv_at hl 1 rfl) ?_
      refine zg_W_size (r := r1) C hK hW (zvd_5 hr1 (by decide)) zk_1311 zd_W_like_205 ?_
      refine lv_aload_n C.1 C.2.1 zd_W_like_208 rfl (lv_at hl 0 rfl) ?_
      refine zg_W_size (r := r0) C hK hW (zvd_5 hr0 (by decide)) zk_1311 zd_W_like_209 ?_
      obtain ⟨a2, S3, ea2, hf⟩ := zbd_some hf
      refine zcSv (As := [.ref (B.2.1 5 (r1) (14)), .ref (B.2.1 5 (r0) (14))]) (rest := []) C hK hSt hW hS (zc_W_copy hap 5 (r1) (14) 12 5 (r0) (14) 12 (zvd_5 hr1 (by decide)) (fun f => ze_5_14 B f (r1)) (by decide) rfl (zvd_5 hr0 (by decide)) (fun f => ze_5_14 B f (r0)) (by decide) rfl S ea2) zq_W_copy zk_1993 ⟨rfl, rfl, by decide, by decide⟩ ⟨by decide, by decide⟩ rfl hl.1 rfl (lv_room (Nat.le_of_ble_eq_true rfl)) zd_W_like_212 (fun H locs hW hS => ?_)
      refine lv_aload_n C.1 C.2.1 zd_W_like_215 rfl (lv_at hl 1 rfl) ?_
      refine zg_W_from (r := r1) C hK hW (zvd_5 hr1 (by decide)) zk_1313 zd_W_like_216 ?_
      refine lv_aload_n C.1 C.2.1 zd_W_like_219 rfl (lv_at hl 0 rfl) ?_
      refine zg_W_from (r := r0) C hK hW (zvd_5 hr0 (by decide)) zk_1313 zd_W_like_220 ?_
      obtain ⟨a4, S5, ea4, hf⟩ := zbd_some hf
      refine zcSv (As := [.ref (B.2.1 5 (r1) (15)), .ref (B.2.1 5 (r0) (15))]) (rest := []) C hK hSt hW hS (zc_W_copy hap 5 (r1) (15) 12 5 (r0) (15) 12 (zvd_5 hr1 (by decide)) (fun f => ze_5_15 B f (r1)) (by decide) rfl (zvd_5 hr0 (by decide)) (fun f => ze_5_15 B f (r0)) (by decide) rfl S3 ea4) zq_W_copy zk_1993 ⟨rfl, rfl, by decide, by decide⟩ ⟨by decide, by decide⟩ rfl hl.1 rfl (lv_room (Nat.le_of_ble_eq_true rfl)) zd_W_like_223 (fun H locs hW hS => ?_)
      refine lv_aload_n C.1 C.2.1 zd_W_like_226 rfl (lv_at hl 1 rfl) ?_
      refine zg_W_votes (r := r1) C hK hW (zvd_5 hr1 (by decide)) zk_1315 zd_W_like_227 ?_
      refine lv_aload_n C.1 C.2.1 zd_W_like_230 rfl (lv_at hl 0 rfl) ?_
      refine zg_W_votes (r := r0) C hK hW (zvd_5 hr0 (by decide)) zk_1315 zd_W_like_231 ?_
      obtain ⟨a6, S7, ea6, hf⟩ := zbd_some hf
      refine zcSv (As := [.ref (B.2.1 5 (r1) (16)), .ref (B.2.1 5 (r0) (16))]) (rest := []) C hK hSt hW hS (zc_W_copy hap 5 (r1) (16) 12 5 (r0) (16) 12 (zvd_5 hr1 (by decide)) (fun f => ze_5_16 B f (r1)) (by decide) rfl (zvd_5 hr0 (by decide)) (fun f => ze_5_16 B f (r0)) (by decide) rfl S5 ea6) zq_W_copy zk_1993 ⟨rfl, rfl, by decide, by decide⟩ ⟨by decide, by decide⟩ rfl hl.1 rfl (lv_room (Nat.le_of_ble_eq_true rfl)) zd_W_like_234 (fun H locs hW hS => ?_)
      refine lv_aload_n C.1 C.2.1 zd_W_like_237 rfl (lv_at hl 1 rfl) ?_
      refine zg_W_voters (r := r1) C hK hW (zvd_5 hr1 (by decide)) zk_1317 zd_W_like_238 ?_
      refine lv_aload_n C.1 C.2.1 zd_W_like_241 rfl (lv_at hl 0 rfl) ?_
      refine zg_W_voters (r := r0) C hK hW (zvd_5 hr0 (by decide)) zk_1317 zd_W_like_242 ?_
      obtain ⟨a8, S9, ea8, hf⟩ := zbd_some hf
      refine zcSv (As := [.ref (B.2.1 5 (r1) (17)), .ref (B.2.1 5 (r0) (17))]) (rest := []) C hK hSt hW hS (zc_W_copy hap 5 (r1) (17) 12 5 (r0) (17) 12 (zvd_5 hr1 (by decide)) (fun f => ze_5_17 B f (r1)) (by decide) rfl (zvd_5 hr0 (by decide)) (fun f => ze_5_17 B f (r0)) (by decide) rfl S7 ea8) zq_W_copy zk_1993 ⟨rfl, rfl, by decide, by decide⟩ ⟨by decide, by decide⟩ rfl hl.1 rfl (lv_room (Nat.le_of_ble_eq_true rfl)) zd_W_like_245 (fun H locs hW hS => ?_)
      refine lv_aload_n C.1 C.2.1 zd_W_like_248 rfl (lv_at hl 1 rfl) ?_
      refine zg_W_under (r := r1) C hK hW (zvd_5 hr1 (by decide)) zk_1319 zd_W_like_249 ?_
      refine lv_aload_n C.1 C.2.1 zd_W_like_252 rfl (lv_at hl 0 rfl) ?_
      refine zg_W_under (r := r0) C hK hW (zvd_5 hr0 (by decide)) zk_1319 zd_W_like_253 ?_
      obtain ⟨a10, S11, ea10, hf⟩ := zbd_some hf
      refine zcSv (As := [.ref (B.2.1 5 (r1) (18)), .ref (B.2.1 5 (r0) (18))]) (rest := []) C hK hSt hW hS (zc_W_copy hap 5 (r1) (18) 12 5 (r0) (18) 12 (zvd_5 hr1 (by decide)) (fun f => ze_5_18 B f (r1)) (by decide) rfl (zvd_5 hr0 (by decide)) (fun f => ze_5_18 B f (r0)) (by decide) rfl S9 ea10) zq_W_copy zk_1993 ⟨rfl, rfl, by decide, by decide⟩ ⟨by decide, by decide⟩ rfl hl.1 rfl (lv_room (Nat.le_of_ble_eq_true rfl)) zd_W_like_256 (fun H locs hW hS => ?_)
      refine lv_aload_n C.1 C.2.1 zd_W_like_259 rfl (lv_at hl 1 rfl) ?_
      refine zg_W_isVoid (r := r1) C hK hW (zvd_5 hr1 (by decide)) zk_1321 zd_W_like_260 ?_
      refine lv_aload_n C.1 C.2.1 zd_W_like_263 rfl (lv_at hl 0 rfl) ?_
      refine zg_W_isVoid (r := r0) C hK hW (zvd_5 hr0 (by decide)) zk_1321 zd_W_like_264 ?_
      obtain ⟨a12, S13, ea12, hf⟩ := zbd_some hf
      refine zcSv (As := [.ref (B.2.1 5 (r1) (19)), .ref (B.2.1 5 (r0) (19))]) (rest := []) C hK hSt hW hS (zc_W_copy hap 5 (r1) (19) 12 5 (r0) (19) 12 (zvd_5 hr1 (by decide)) (fun f => ze_5_19 B f (r1)) (by decide) rfl (zvd_5 hr0 (by decide)) (fun f => ze_5_19 B f (r0)) (by decide) rfl S11 ea12) zq_W_copy zk_1993 ⟨rfl, rfl, by decide, by decide⟩ ⟨by decide, by decide⟩ rfl hl.1 rfl (lv_room (Nat.le_of_ble_eq_true rfl)) zd_W_like_267 (fun H locs hW hS => ?_)
      refine lv_aload_n C.1 C.2.1 zd_W_like_270 rfl (lv_at hl 1 rfl) ?_
      refine zg_W_repealed (r := r1) C hK hW (zvd_5 hr1 (by decide)) zk_1323 zd_W_like_271 ?_
      refine lv_aload_n C.1 C.2.1 zd_W_like_274 rfl (lv_at hl 0 rfl) ?_
      refine zg_W_repealed (r := r0) C hK hW (zvd_5 hr0 (by decide)) zk_1323 zd_W_like_275 ?_
      obtain ⟨a14, S15, ea14, hf⟩ := zbd_some hf
      refine zcSv (As := [.ref (B.2.1 5 (r1) (20)), .ref (B.2.1 5 (r0) (20))]) (rest := []) C hK hSt hW hS (zc_W_copy hap 5 (r1) (20) 12 5 (r0) (20) 12 (zvd_5 hr1 (by decide)) (fun f => ze_5_20 B f (r1)) (by decide) rfl (zvd_5 hr0 (by decide)) (fun f => ze_5_20 B f (r0)) (by decide) rfl S13 ea14) zq_W_copy zk_1993 ⟨rfl, rfl, by decide, by decide⟩ ⟨by decide, by decide⟩ rfl hl.1 rfl (lv_room (Nat.le_of_ble_eq_true rfl)) zd_W_like_278 (fun H locs hW hS => ?_)
      refine lv_aload_n C.1 C.2.1 zd_W_like_281 rfl (lv_at hl 0 rfl) ?_
      refine lv_aload_n C.1 C.2.1 zd_W_like_282 rfl (lv_at hl 1 rfl) ?_
      refine zg_W_posts (r := r1) C hK hW (zvd_5 hr1 (by decide)) zk_1325 zd_W_like_283 ?_
      obtain ⟨S16, eS16, hf⟩ := zlt_some hf
      refine zp_W_posts (r := r0) C hK hap hW hS (zvd_5 hr0 (by decide)) zk_1325 (zWn hW _ _ _ _ rfl) zd_W_like_286 (fun H locs hW hS => ?_)
      rw [eS16] at hW
      refine lv_aload_n C.1 C.2.1 zd_W_like_289 rfl (lv_at hl 1 rfl) ?_
      refine zg_W_postSkill (r := r1) C hK hW (zvd_5 hr1 (by decide)) zk_1327 zd_W_like_290 ?_
      refine lv_aload_n C.1 C.2.1 zd_W_like_293 rfl (lv_at hl 0 rfl) ?_
      refine zg_W_postSkill (r := r0) C hK hW (zvd_5 hr0 (by decide)) zk_1327 zd_W_like_294 ?_
      obtain ⟨a17, S18, ea17, hf⟩ := zbd_some hf
      refine zcSv (As := [.ref (B.2.1 5 (r1) (21)), .ref (B.2.1 5 (r0) (21))]) (rest := []) C hK hSt hW hS (zc_W_copy hap 5 (r1) (21) 8 5 (r0) (21) 8 (zvd_5 hr1 (by decide)) (fun f => ze_5_21 B f (r1)) (by decide) rfl (zvd_5 hr0 (by decide)) (fun f => ze_5_21 B f (r0)) (by decide) rfl S16 ea17) zq_W_copy zk_1993 ⟨rfl, rfl, by decide, by decide⟩ ⟨by decide, by decide⟩ rfl hl.1 rfl (lv_room (Nat.le_of_ble_eq_true rfl)) zd_W_like_297 (fun H locs hW hS => ?_)
      refine lv_aload_n C.1 C.2.1 zd_W_like_300 rfl (lv_at hl 1 rfl) ?_
      refine zg_W_postHands (r := r1) C hK hW (zvd_5 hr1 (by decide)) zk_1329 zd_W_like_301 ?_
      refine lv_aload_n C.1 C.2.1 zd_W_like_304 rfl (lv_at hl 0 rfl) ?_
      refine zg_W_postHands (r := r0) C hK hW (zvd_5 hr0 (by decide)) zk_1329 zd_W_like_305 ?_
      obtain ⟨a19, S20, ea19, hf⟩ := zbd_some hf
      refine zcSv (As := [.ref (B.2.1 5 (r1) (22)), .ref (B.2.1 5 (r0) (22))]) (rest := []) C hK hSt hW hS (zc_W_copy hap 5 (r1) (22) 8 5 (r0) (22) 8 (zvd_5 hr1 (by decide)) (fun f => ze_5_22 B f (r1)) (by decide) rfl (zvd_5 hr0 (by decide)) (fun f => ze_5_22 B f (r0)) (by decide) rfl S18 ea19) zq_W_copy zk_1993 ⟨rfl, rfl, by decide, by decide⟩ ⟨by decide, by decide⟩ rfl hl.1 rfl (lv_room (Nat.le_of_ble_eq_true rfl)) zd_W_like_308 (fun H locs hW hS => ?_)
      refine lv_aload_n C.1 C.2.1 zd_W_like_311 rfl (lv_at hl 1 rfl) ?_
      refine zg_W_postSort (r := r1) C hK hW (zvd_5 hr1 (by decide)) zk_1331 zd_W_like_312 ?_
      refine lv_aload_n C.1 C.2.1 zd_W_like_315 rfl (lv_at hl 0 rfl) ?_
      refine zg_W_postSort (r := r0) C hK hW (zvd_5 hr0 (by decide)) zk_1331 zd_W_like_316 ?_
      obtain ⟨a21, S22, ea21, hf⟩ := zbd_some hf
      refine zcSv (As := [.ref (B.2.1 5 (r1) (23)), .ref (B.2.1 5 (r0) (23))]) (rest := []) C hK hSt hW hS (zc_W_copy hap 5 (r1) (23) 8 5 (r0) (23) 8 (zvd_5 hr1 (by decide)) (fun f => ze_5_23 B f (r1)) (by decide) rfl (zvd_5 hr0 (by decide)) (fun f => ze_5_23 B f (r0)) (by decide) rfl S20 ea21) zq_W_copy zk_1993 ⟨rfl, rfl, by decide, by decide⟩ ⟨by decide, by decide⟩ rfl hl.1 rfl (lv_room (Nat.le_of_ble_eq_true rfl)) zd_W_like_319 (fun H locs hW hS => ?_)
      refine lv_aload_n C.1 C.2.1 zd_W_like_322 rfl (lv_at hl 1 rfl) ?_
      refine zg_W_postOpen (r := r1) C hK hW (zvd_5 hr1 (by decide)) zk_1333 zd_W_like_323 ?_
      refine lv_aload_n C.1 C.2.1 zd_W_like_326 rfl (lv_at hl 0 rfl) ?_
      refine zg_W_postOpen (r := r0) C hK hW (zvd_5 hr0 (by decide)) zk_1333 zd_W_like_327 ?_
      obtain ⟨a23, S24, ea23, hf⟩ := zbd_some hf
      refine zcSv (As := [.ref (B.2.1 5 (r1) (24)), .ref (B.2.1 5 (r0) (24))]) (rest := []) C hK hSt hW hS (zc_W_copy hap 5 (r1) (24) 8 5 (r0) (24) 8 (zvd_5 hr1 (by decide)) (fun f => ze_5_24 B f (r1)) (by decide) rfl (zvd_5 hr0 (by decide)) (fun f => ze_5_24 B f (r0)) (by decide) rfl S22 ea23) zq_W_copy zk_1993 ⟨rfl, rfl, by decide, by decide⟩ ⟨by decide, by decide⟩ rfl hl.1 rfl (lv_room (Nat.le_of_ble_eq_true rfl)) zd_W_like_330 (fun H locs hW hS => ?_)
      refine lv_aload_n C.1 C.2.1 zd_W_like_333 rfl (lv_at hl 1 rfl) ?_
      refine zg_W_store (r := r1) C hK hW (zvd_5 hr1 (by decide)) zk_1335 zd_W_like_334 ?_
      refine lv_aload_n C.1 C.2.1 zd_W_like_337 rfl (lv_at hl 0 rfl) ?_
      refine zg_W_store (r := r0) C hK hW (zvd_5 hr0 (by decide)) zk_1335 zd_W_like_338 ?_
      obtain ⟨a25, S26, ea25, hf⟩ := zbd_some hf
      refine zcSv (As := [.ref (B.2.1 5 (r1) (25)), .ref (B.2.1 5 (r0) (25))]) (rest := []) C hK hSt hW hS (zc_W_copy hap 5 (r1) (25) 4 5 (r0) (25) 4 (zvd_5 hr1 (by decide)) (fun f => ze_5_25 B f (r1)) (by decide) rfl (zvd_5 hr0 (by decide)) (fun f => ze_5_25 B f (r0)) (by decide) rfl S24 ea25) zq_W_copy zk_1993 ⟨rfl, rfl, by decide, by decide⟩ ⟨by decide, by decide⟩ rfl hl.1 rfl (lv_room (Nat.le_of_ble_eq_true rfl)) zd_W_like_341 (fun H locs hW hS => ?_)
      refine lv_aload_n C.1 C.2.1 zd_W_like_344 rfl (lv_at hl 1 rfl) ?_
      refine zg_W_rank (r := r1) C hK hW (zvd_5 hr1 (by decide)) zk_1337 zd_W_like_345 ?_
      refine lv_aload_n C.1 C.2.1 zd_W_like_348 rfl (lv_at hl 0 rfl) ?_
      refine zg_W_rank (r := r0) C hK hW (zvd_5 hr0 (by decide)) zk_1337 zd_W_like_349 ?_
      obtain ⟨a27, S28, ea27, hf⟩ := zbd_some hf
      refine zcSv (As := [.ref (B.2.1 5 (r1) (26)), .ref (B.2.1 5 (r0) (26))]) (rest := []) C hK hSt hW hS (zc_W_copy hap 5 (r1) (26) 4 5 (r0) (26) 4 (zvd_5 hr1 (by decide)) (fun f => ze_5_26 B f (r1)) (by decide) rfl (zvd_5 hr0 (by decide)) (fun f => ze_5_26 B f (r0)) (by decide) rfl S26 ea27) zq_W_copy zk_1993 ⟨rfl, rfl, by decide, by decide⟩ ⟨by decide, by decide⟩ rfl hl.1 rfl (lv_room (Nat.le_of_ble_eq_true rfl)) zd_W_like_352 (fun H locs hW hS => ?_)
      refine lv_aload_n C.1 C.2.1 zd_W_like_355 rfl (lv_at hl 1 rfl) ?_
      refine zg_W_use (r := r1) C hK hW (zvd_5 hr1 (by decide)) zk_1339 zd_W_like_356 ?_
      refine lv_aload_n C.1 C.2.1 zd_W_like_359 rfl (lv_at hl 0 rfl) ?_
      refine zg_W_use (r := r0) C hK hW (zvd_5 hr0 (by decide)) zk_1339 zd_W_like_360 ?_
      obtain ⟨a29, S30, ea29, hf⟩ := zbd_some hf
      refine zcSv (As := [.ref (B.2.1 5 (r1) (27)), .ref (B.2.1 5 (r0) (27))]) (rest := []) C hK hSt hW hS (zc_W_copy hap 5 (r1) (27) 4 5 (r0) (27) 4 (zvd_5 hr1 (by decide)) (fun f => ze_5_27 B f (r1)) (by decide) rfl (zvd_5 hr0 (by decide)) (fun f => ze_5_27 B f (r0)) (by decide) rfl S28 ea29) zq_W_copy zk_1993 ⟨rfl, rfl, by decide, by decide⟩ ⟨by decide, by decide⟩ rfl hl.1 rfl (lv_room (Nat.le_of_ble_eq_true rfl)) zd_W_like_363 (fun H locs hW hS => ?_)
      refine lv_aload_n C.1 C.2.1 zd_W_like_366 rfl (lv_at hl 0 rfl) ?_
      refine lv_aload_n C.1 C.2.1 zd_W_like_367 rfl (lv_at hl 1 rfl) ?_
      refine zg_W_orders (r := r1) C hK hW (zvd_5 hr1 (by decide)) zk_1341 zd_W_like_368 ?_
      obtain ⟨S31, eS31, hf⟩ := zlt_some hf
      refine zp_W_orders (r := r0) C hK hap hW hS (zvd_5 hr0 (by decide)) zk_1341 (zWn hW _ _ _ _ rfl) zd_W_like_371 (fun H locs hW hS => ?_)
      rw [eS31] at hW
      refine lv_aload_n C.1 C.2.1 zd_W_like_374 rfl (lv_at hl 1 rfl) ?_
      refine zg_W_orderGood (r := r1) C hK hW (zvd_5 hr1 (by decide)) zk_1343 zd_W_like_375 ?_
      refine lv_aload_n C.1 C.2.1 zd_W_like_378 rfl (lv_at hl 0 rfl) ?_
      refine zg_W_orderGood (r := r0) C hK hW (zvd_5 hr0 (by decide)) zk_1343 zd_W_like_379 ?_
      obtain ⟨a32, S33, ea32, hf⟩ := zbd_some hf
      refine zcSv (As := [.ref (B.2.1 5 (r1) (28)), .ref (B.2.1 5 (r0) (28))]) (rest := []) C hK hSt hW hS (zc_W_copy hap 5 (r1) (28) 30 5 (r0) (28) 30 (zvd_5 hr1 (by decide)) (fun f => ze_5_28 B f (r1)) (by decide) rfl (zvd_5 hr0 (by decide)) (fun f => ze_5_28 B f (r0)) (by decide) rfl S31 ea32) zq_W_copy zk_1993 ⟨rfl, rfl, by decide, by decide⟩ ⟨by decide, by decide⟩ rfl hl.1 rfl (lv_room (Nat.le_of_ble_eq_true rfl)) zd_W_like_382 (fun H locs hW hS => ?_)
      refine lv_aload_n C.1 C.2.1 zd_W_like_385 rfl (lv_at hl 1 rfl) ?_
      refine zg_W_orderDue (r := r1) C hK hW (zvd_5 hr1 (by decide)) zk_1345 zd_W_like_386 ?_
      refine lv_aload_n C.1 C.2.1 zd_W_like_389 rfl (lv_at hl 0 rfl) ?_
      refine zg_W_orderDue (r := r0) C hK hW (zvd_5 hr0 (by decide)) zk_1345 zd_W_like_390 ?_
      obtain ⟨a34, S35, ea34, hf⟩ := zbd_some hf
      refine zcSv (As := [.ref (B.2.1 5 (r1) (29)), .ref (B.2.1 5 (r0) (29))]) (rest := []) C hK hSt hW hS (zc_W_copy hap 5 (r1) (29) 30 5 (r0) (29) 30 (zvd_5 hr1 (by decide)) (fun f => ze_5_29 B f (r1)) (by decide) rfl (zvd_5 hr0 (by decide)) (fun f => ze_5_29 B f (r0)) (by decide) rfl S33 ea34) zq_W_copy zk_1993 ⟨rfl, rfl, by decide, by decide⟩ ⟨by decide, by decide⟩ rfl hl.1 rfl (lv_room (Nat.le_of_ble_eq_true rfl)) zd_W_like_393 (fun H locs hW hS => ?_)
      refine lv_aload_n C.1 C.2.1 zd_W_like_396 rfl (lv_at hl 1 rfl) ?_
      refine zg_W_set (r := r1) C hK hW (zvd_5 hr1 (by decide)) zk_1347 zd_W_like_397 ?_
      refine lv_aload_n C.1 C.2.1 zd_W_like_400 rfl (lv_at hl 0 rfl) ?_
      refine zg_W_set (r := r0) C hK hW (zvd_5 hr0 (by decide)) zk_1347 zd_W_like_401 ?_
      obtain ⟨a36, S37, ea36, hf⟩ := zbd_some hf
      refine zcSv (As := [.ref (B.2.1 5 (r1) (30)), .ref (B.2.1 5 (r0) (30))]) (rest := []) C hK hSt hW hS (zc_W_copy hap 5 (r1) (30) 4 5 (r0) (30) 4 (zvd_5 hr1 (by decide)) (fun f => ze_5_30 B f (r1)) (by decide) rfl (zvd_5 hr0 (by decide)) (fun f => ze_5_30 B f (r0)) (by decide) rfl S35 ea36) zq_W_copy zk_1993 ⟨rfl, rfl, by decide, by decide⟩ ⟨by decide, by decide⟩ rfl hl.1 rfl (lv_room (Nat.le_of_ble_eq_true rfl)) zd_W_like_404 (fun H locs hW hS => ?_)
      refine lv_aload_n C.1 C.2.1 zd_W_like_407 rfl (lv_at hl 1 rfl) ?_
      refine zg_W_pays (r := r1) C hK hW (zvd_5 hr1 (by decide)) zk_1349 zd_W_like_408 ?_
      refine lv_aload_n C.1 C.2.1 zd_W_like_411 rfl (lv_at hl 0 rfl) ?_
      refine zg_W_pays (r := r0) C hK hW (zvd_5 hr0 (by decide)) zk_1349 zd_W_like_412 ?_
      obtain ⟨a38, S39, ea38, hf⟩ := zbd_some hf
      refine zcSv (As := [.ref (B.2.1 5 (r1) (31)), .ref (B.2.1 5 (r0) (31))]) (rest := []) C hK hSt hW hS (zc_W_copy hap 5 (r1) (31) 3 5 (r0) (31) 3 (zvd_5 hr1 (by decide)) (fun f => ze_5_31 B f (r1)) (by decide) rfl (zvd_5 hr0 (by decide)) (fun f => ze_5_31 B f (r0)) (by decide) rfl S37 ea38) zq_W_copy zk_1993 ⟨rfl, rfl, by decide, by decide⟩ ⟨by decide, by decide⟩ rfl hl.1 rfl (lv_room (Nat.le_of_ble_eq_true rfl)) zd_W_like_415 (fun H locs hW hS => ?_)
      refine lv_aload_n C.1 C.2.1 zd_W_like_418 rfl (lv_at hl 0 rfl) ?_
      refine lv_aload_n C.1 C.2.1 zd_W_like_419 rfl (lv_at hl 1 rfl) ?_
      refine zg_W_purse (r := r1) C hK hW (zvd_5 hr1 (by decide)) zk_1351 zd_W_like_420 ?_
      obtain ⟨S40, eS40, hf⟩ := zlt_some hf
      refine zp_W_purse (r := r0) C hK hap hW hS (zvd_5 hr0 (by decide)) zk_1351 (zWn hW _ _ _ _ rfl) zd_W_like_423 (fun H locs hW hS => ?_)
      rw [eS40] at hW
      refine lv_aload_n C.1 C.2.1 zd_W_like_426 rfl (lv_at hl 0 rfl) ?_
      refine lv_aload_n C.1 C.2.1 zd_W_like_427 rfl (lv_at hl 1 rfl) ?_
      refine zg_W_fund (r := r1) C hK hW (zvd_5 hr1 (by decide)) zk_1353 zd_W_like_428 ?_
      obtain ⟨S41, eS41, hf⟩ := zlt_some hf
      refine zp_W_fund (r := r0) C hK hap hW hS (zvd_5 hr0 (by decide)) zk_1353 (zWn hW _ _ _ _ rfl) zd_W_like_431 (fun H locs hW hS => ?_)
      rw [eS41] at hW
      refine lv_aload_n C.1 C.2.1 zd_W_like_434 rfl (lv_at hl 0 rfl) ?_
      refine lv_aload_n C.1 C.2.1 zd_W_like_435 rfl (lv_at hl 1 rfl) ?_
      refine zg_W_unpaid (r := r1) C hK hW (zvd_5 hr1 (by decide)) zk_1355 zd_W_like_436 ?_
      obtain ⟨S42, eS42, hf⟩ := zlt_some hf
      refine zp_W_unpaid (r := r0) C hK hap hW hS (zvd_5 hr0 (by decide)) zk_1355 (zWn hW _ _ _ _ rfl) zd_W_like_439 (fun H locs hW hS => ?_)
      rw [eS42] at hW
      refine lv_aload_n C.1 C.2.1 zd_W_like_442 rfl (lv_at hl 0 rfl) ?_
      refine lv_aload_n C.1 C.2.1 zd_W_like_443 rfl (lv_at hl 1 rfl) ?_
      refine zg_W_landed (r := r1) C hK hW (zvd_5 hr1 (by decide)) zk_1357 zd_W_like_444 ?_
      obtain ⟨S43, eS43, hf⟩ := zlt_some hf
      refine zp_W_landed (r := r0) C hK hap hW hS (zvd_5 hr0 (by decide)) zk_1357 (zWn hW _ _ _ _ rfl) zd_W_like_447 (fun H locs hW hS => ?_)
      rw [eS43] at hW
      refine lv_aload_n C.1 C.2.1 zd_W_like_450 rfl (lv_at hl 1 rfl) ?_
      refine zg_W_skySort (r := r1) C hK hW (zvd_5 hr1 (by decide)) zk_1359 zd_W_like_451 ?_
      refine lv_aload_n C.1 C.2.1 zd_W_like_454 rfl (lv_at hl 0 rfl) ?_
      refine zg_W_skySort (r := r0) C hK hW (zvd_5 hr0 (by decide)) zk_1359 zd_W_like_455 ?_
      obtain ⟨a44, S45, ea44, hf⟩ := zbd_some hf
      refine zcSv (As := [.ref (B.2.1 5 (r1) (32)), .ref (B.2.1 5 (r0) (32))]) (rest := []) C hK hSt hW hS (zc_W_copy hap 5 (r1) (32) 2 5 (r0) (32) 2 (zvd_5 hr1 (by decide)) (fun f => ze_5_32 B f (r1)) (by decide) rfl (zvd_5 hr0 (by decide)) (fun f => ze_5_32 B f (r0)) (by decide) rfl S43 ea44) zq_W_copy zk_1993 ⟨rfl, rfl, by decide, by decide⟩ ⟨by decide, by decide⟩ rfl hl.1 rfl (lv_room (Nat.le_of_ble_eq_true rfl)) zd_W_like_458 (fun H locs hW hS => ?_)
      refine lv_aload_n C.1 C.2.1 zd_W_like_461 rfl (lv_at hl 1 rfl) ?_
      refine zg_W_skySize (r := r1) C hK hW (zvd_5 hr1 (by decide)) zk_1361 zd_W_like_462 ?_
      refine lv_aload_n C.1 C.2.1 zd_W_like_465 rfl (lv_at hl 0 rfl) ?_
      refine zg_W_skySize (r := r0) C hK hW (zvd_5 hr0 (by decide)) zk_1361 zd_W_like_466 ?_
      obtain ⟨a46, S47, ea46, hf⟩ := zbd_some hf
      refine zcSv (As := [.ref (B.2.1 5 (r1) (33)), .ref (B.2.1 5 (r0) (33))]) (rest := []) C hK hSt hW hS (zc_W_copy hap 5 (r1) (33) 2 5 (r0) (33) 2 (zvd_5 hr1 (by decide)) (fun f => ze_5_33 B f (r1)) (by decide) rfl (zvd_5 hr0 (by decide)) (fun f => ze_5_33 B f (r0)) (by decide) rfl S45 ea46) zq_W_copy zk_1993 ⟨rfl, rfl, by decide, by decide⟩ ⟨by decide, by decide⟩ rfl hl.1 rfl (lv_room (Nat.le_of_ble_eq_true rfl)) zd_W_like_469 (fun H locs hW hS => ?_)
      refine lv_aload_n C.1 C.2.1 zd_W_like_472 rfl (lv_at hl 1 rfl) ?_
      refine zg_W_sky (r := r1) C hK hW (zvd_5 hr1 (by decide)) zk_1363 zd_W_like_473 ?_
      refine zr_iconst C zd_W_like_476 ?_
      refine zaald (t0 := 4) C hK hW (zvd_5 hr1 (by decide)) (fun f => ze_5_42 B f (r1)) rfl rfl (by decide) (by decide) zd_W_like_477 (a := B.2.1 7 (r1) (0)) rfl ?_
      refine lv_aload_n C.1 C.2.1 zd_W_like_478 rfl (lv_at hl 0 rfl) ?_
      refine zg_W_sky (r := r0) C hK hW (zvd_5 hr0 (by decide)) zk_1363 zd_W_like_479 ?_
      refine zr_iconst C zd_W_like_482 ?_
      refine zaald (t0 := 4) C hK hW (zvd_5 hr0 (by decide)) (fun f => ze_5_42 B f (r0)) rfl rfl (by decide) (by decide) zd_W_like_483 (a := B.2.1 7 (r0) (0)) rfl ?_
      obtain ⟨a48, S49, ea48, hf⟩ := zbd_some hf
      refine zcSv (As := [.ref (B.2.1 7 (r1) (0)), .ref (B.2.1 7 (r0) (0))]) (rest := []) C hK hSt hW hS (zc_W_copy hap 7 (r1) (0) 120 7 (r0) (0) 120 (zvd_7 hr1 (by decide)) (fun f => ze_7 B f (r1) (0)) (by decide) rfl (zvd_7 hr0 (by decide)) (fun f => ze_7 B f (r0) (0)) (by decide) rfl S47 ea48) zq_W_copy zk_1993 ⟨rfl, rfl, by decide, by decide⟩ ⟨by decide, by decide⟩ rfl hl.1 rfl (lv_room (Nat.le_of_ble_eq_true rfl)) zd_W_like_484 (fun H locs hW hS => ?_)
      refine lv_aload_n C.1 C.2.1 zd_W_like_487 rfl (lv_at hl 1 rfl) ?_
      refine zg_W_sky (r := r1) C hK hW (zvd_5 hr1 (by decide)) zk_1363 zd_W_like_488 ?_
      refine zr_iconst C zd_W_like_491 ?_
      refine zaald (t0 := 4) C hK hW (zvd_5 hr1 (by decide)) (fun f => ze_5_42 B f (r1)) rfl rfl (by decide) (by decide) zd_W_like_492 (a := B.2.1 7 (r1) (1)) rfl ?_
      refine lv_aload_n C.1 C.2.1 zd_W_like_493 rfl (lv_at hl 0 rfl) ?_
      refine zg_W_sky (r := r0) C hK hW (zvd_5 hr0 (by decide)) zk_1363 zd_W_like_494 ?_
      refine zr_iconst C zd_W_like_497 ?_
      refine zaald (t0 := 4) C hK hW (zvd_5 hr0 (by decide)) (fun f => ze_5_42 B f (r0)) rfl rfl (by decide) (by decide) zd_W_like_498 (a := B.2.1 7 (r0) (1)) rfl ?_
      obtain ⟨a50, S51, ea50, hf⟩ := zbd_some hf
      refine zcSv (As := [.ref (B.2.1 7 (r1) (1)), .ref (B.2.1 7 (r0) (1))]) (rest := []) C hK hSt hW hS (zc_W_copy hap 7 (r1) (1) 120 7 (r0) (1) 120 (zvd_7 hr1 (by decide)) (fun f => ze_7 B f (r1) (1)) (by decide) rfl (zvd_7 hr0 (by decide)) (fun f => ze_7 B f (r0) (1)) (by decide) rfl S49 ea50) zq_W_copy zk_1993 ⟨rfl, rfl, by decide, by decide⟩ ⟨by decide, by decide⟩ rfl hl.1 rfl (lv_room (Nat.le_of_ble_eq_true rfl)) zd_W_like_499 (fun H locs hW hS => ?_)
      refine zr_iconst C zd_W_like_502 ?_
      refine lv_istore_n (lv' := [(2, .int (zI (0))), (0, .ref (B.2.1 5 (r0) (0))), (1, .ref (B.2.1 5 (r1) (0)))]) C.1 C.2.1 zd_W_like_503 rfl hl (by decide) rfl (fun ls hl => ?_)
      exact zw_W_like_504 C hr hlk hK hSt hap r0 r1 hr0 hr1 4096 (0) S51 (znb rfl) hf _ _ _ hW hS (lv_sub hl [1, 2, 0] rfl)
    · rw [if_neg c1] at hf
      refine lv_aload_n C.1 C.2.1 zd_W_like_183 rfl (lv_at hl 1 rfl) ?_
      refine zg_W_text (r := r1) C hK hW (zvd_5 hr1 (by decide)) zk_1309 zd_W_like_184 ?_
      refine lv_iload_n C.1 C.2.1 zd_W_like_187 rfl (lv_at hl 2 rfl) ?_
      obtain ⟨h52, hf⟩ := zck_some hf
      refine zaald (t0 := 4) C hK hW (zvd_5 hr1 (by decide)) (fun f => ze_5_41 B f (r1)) rfl rfl (by decide) h52 zd_W_like_188 (a := B.2.1 6 (r1) (x2)) (by rw [Int.toNat_of_nonneg h52.1]) ?_
      refine lv_aload_n C.1 C.2.1 zd_W_like_189 rfl (lv_at hl 0 rfl) ?_
      refine zg_W_text (r := r0) C hK hW (zvd_5 hr0 (by decide)) zk_1309 zd_W_like_190 ?_
      refine lv_iload_n C.1 C.2.1 zd_W_like_193 rfl (lv_at hl 2 rfl) ?_
      refine zaald (t0 := 4) C hK hW (zvd_5 hr0 (by decide)) (fun f => ze_5_41 B f (r0)) rfl rfl (by decide) h52 zd_W_like_194 (a := B.2.1 6 (r0) (x2)) (by rw [Int.toNat_of_nonneg h52.1]) ?_
      obtain ⟨a53, S54, ea53, hf⟩ := zbd_some hf
      refine zcSv (As := [.ref (B.2.1 6 (r1) (x2)), .ref (B.2.1 6 (r0) (x2))]) (rest := []) C hK hSt hW hS (zc_W_copy hap 6 (r1) (x2) 120 6 (r0) (x2) 120 (zvd_6 hr1 h52) (fun f => ze_6 B f (r1) (x2)) (by decide) rfl (zvd_6 hr0 h52) (fun f => ze_6 B f (r0) (x2)) (by decide) rfl S ea53) zq_W_copy zk_1993 ⟨rfl, rfl, by decide, by decide⟩ ⟨by decide, by decide⟩ rfl hl.1 rfl (lv_room (Nat.le_of_ble_eq_true rfl)) zd_W_like_195 (fun H locs hW hS => ?_)
      obtain ⟨v55, ev55, hf⟩ := zlt_some hf
      have nv55 : zn v55 := by rw [← ev55]; exact zn_w _
      refine lv_iinc (v := zI v55) (lv' := [(2, .int (zI (v55))), (0, .ref (B.2.1 5 (r0) (0))), (1, .ref (B.2.1 5 (r1) (0)))]) C.1 C.2.1 zd_W_like_198 hl (k := 2) rfl (by rw [← ev55, ← zI_add]; rfl) (by decide) rfl (fun ls hl => ?_)
      refine lv_goto (tgt := 177) C.1 C.2.1 zd_W_like_201 (by decide) ?_
      exact ih (v55) S54 nv55 hf _ _ _ hW hS (lv_sub hl [1, 2, 0] rfl)

def zf_W_like (r0 : Int) (r1 : Int) (S : Sg) : Option (Int × Sg) :=
    zlt (zu S 5 r0 0 0 (S 5 r1 0 0)) fun S1 => zlt (zu S1 5 r0 0 1 (S1 5 r1 0 1)) fun S2 => zbd (zf_W_copy 5 (r1) (1) 40 5 (r0) (1) 40 S2) fun a3 S4 => zbd (zf_W_copy 5 (r1) (2) 40 5 (r0) (2) 40 S4) fun a5 S6 => zbd (zf_W_copy 5 (r1) (3) 40 5 (r0) (3) 40 S6) fun a7 S8 => zbd (zf_W_copy 5 (r1) (4) 40 5 (r0) (4) 40 S8) fun a9 S10 => zbd (zf_W_copy 5 (r1) (5) 40 5 (r0) (5) 40 S10) fun a11 S12 => zbd (zf_W_copy 5 (r1) (6) 40 5 (r0) (6) 40 S12) fun a13 S14 => zbd (zf_W_copy 5 (r1) (7) 40 5 (r0) (7) 40 S14) fun a15 S16 => zbd (zf_W_copy 5 (r1) (8) 40 5 (r0) (8) 40 S16) fun a17 S18 => zbd (zf_W_copy 5 (r1) (9) 40 5 (r0) (9) 40 S18) fun a19 S20 => zbd (zf_W_copy 5 (r1) (10) 12 5 (r0) (10) 12 S20) fun a21 S22 => zbd (zf_W_copy 5 (r1) (11) 12 5 (r0) (11) 12 S22) fun a23 S24 => zbd (zf_W_copy 5 (r1) (12) 12 5 (r0) (12) 12 S24) fun a25 S26 => zbd (zf_W_copy 5 (r1) (13) 12 5 (r0) (13) 12 S26) fun a27 S28 => zlt (zu S28 5 r0 0 15 (S28 5 r1 0 15)) fun S29 => zlt (zu S29 5 r0 0 16 (S29 5 r1 0 16)) fun S30 => zf_W_like_177 r0 r1 4096 (0) S30
set_option maxHeartbeats 4000000 in
set_option maxRecDepth 100000 in
theorem zw_W_like {p : Program} {l : Launch} {e : Env} {s : State} {m : MethodId} {args : Array Value} {below : List Frame} {meth : Method} {c : Code} {B : zB} (C : CallFix p m c zb_W_like 3 s args zT "IslandOfficeModel$World") (hr : meth.sig.returnType = none) (hlk : meth.locks = false) (hK : zK B s) (hSt : zSt B s) (hap : zAp B) (r0 : Int) (r1 : Int) (hr0 : 0 ≤ r0 ∧ r0 < 3) (hr1 : 0 ≤ r1 ∧ r1 < 3) {res : Int} {S9 : Sg} : ∀  (S : Sg) , zf_W_like r0 r1  S = some (res, S9) → ∀ (H : Heap) (locs : List Loc) (ls : Array Slot), zW B S H → va_S B.2.2.2 s.heap H locs → lv_has ls 3 [(0, .ref (B.2.1 5 (r0) (0))), (1, .ref (B.2.1 5 (r1) (0)))] → W p l e zm_W_like s m args below meth c H locs 0 0 (MQ below (zQv B S9) args s 0 0 B.2.2.2) (F0 m 0 ls []) := by
  intro S hf H locs ls hW hS hl
  unfold zf_W_like at hf
  refine lv_aload_n C.1 C.2.1 zd_W_like_0 rfl (lv_at hl 0 rfl) ?_
  refine lv_aload_n C.1 C.2.1 zd_W_like_1 rfl (lv_at hl 1 rfl) ?_
  refine zg_W_week (r := r1) C hK hW (zvd_5 hr1 (by decide)) zk_1275 zd_W_like_2 ?_
  obtain ⟨S1, eS1, hf⟩ := zlt_some hf
  refine zp_W_week (r := r0) C hK hap hW hS (zvd_5 hr0 (by decide)) zk_1275 (zWn hW _ _ _ _ rfl) zd_W_like_5 (fun H locs hW hS => ?_)
  rw [eS1] at hW
  refine lv_aload_n C.1 C.2.1 zd_W_like_8 rfl (lv_at hl 0 rfl) ?_
  refine lv_aload_n C.1 C.2.1 zd_W_like_9 rfl (lv_at hl 1 rfl) ?_
  refine zg_W_people (r := r1) C hK hW (zvd_5 hr1 (by decide)) zk_1277 zd_W_like_10 ?_
  obtain ⟨S2, eS2, hf⟩ := zlt_some hf
  refine zp_W_people (r := r0) C hK hap hW hS (zvd_5 hr0 (by decide)) zk_1277 (zWn hW _ _ _ _ rfl) zd_W_like_13 (fun H locs hW hS => ?_)
  rw [eS2] at hW
  refine lv_aload_n C.1 C.2.1 zd_W_like_16 rfl (lv_at hl 1 rfl) ?_
  refine zg_W_birth (r := r1) C hK hW (zvd_5 hr1 (by decide)) zk_1279 zd_W_like_17 ?_
  refine lv_aload_n C.1 C.2.1 zd_W_like_20 rfl (lv_at hl 0 rfl) ?_
  refine zg_W_birth (r := r0) C hK hW (zvd_5 hr0 (by decide)) zk_1279 zd_W_like_21 ?_
  obtain ⟨a3, S4, ea3, hf⟩ := zbd_some hf
  refine zcSv (As := [.ref (B.2.1 5 (r1) (1)), .ref (B.2.1 5 (r0) (1))]) (rest := []) C hK hSt hW hS (zc_W_copy hap 5 (r1) (1) 40 5 (r0) (1) 40 (zvd_5 hr1 (by decide)) (fun f => ze_5_1 B f (r1)) (by decide) rfl (zvd_5 hr0 (by decide)) (fun f => ze_5_1 B f (r0)) (by decide) rfl S2 ea3) zq_W_copy zk_1993 ⟨rfl, rfl, by decide, by decide⟩ ⟨by decide, by decide⟩ rfl hl.1 rfl (lv_room (Nat.le_of_ble_eq_true rfl)) zd_W_like_24 (fun H locs hW hS => ?_)
  refine lv_aload_n C.1 C.2.1 zd_W_like_27 rfl (lv_at hl 1 rfl) ?_
  refine zg_W_house (r := r1) C hK hW (zvd_5 hr1 (by decide)) zk_1281 zd_W_like_28 ?_
  refine lv_aload_n C.1 C.2.1 zd_W_like_31 rfl (lv_at hl 0 rfl) ?_
  refine zg_W_house (r := r0) C hK hW (zvd_5 hr0 (by decide)) zk_1281 zd_W_like_32 ?_
  obtain ⟨a5, S6, ea5, hf⟩ := zbd_some hf
  refine zcSv (As := [.ref (B.2.1 5 (r1) (2)), .ref (B.2.1 5 (r0) (2))]) (rest := []) C hK hSt hW hS (zc_W_copy hap 5 (r1) (2) 40 5 (r0) (2) 40 (zvd_5 hr1 (by decide)) (fun f => ze_5_2 B f (r1)) (by decide) rfl (zvd_5 hr0 (by decide)) (fun f => ze_5_2 B f (r0)) (by decide) rfl S4 ea5) zq_W_copy zk_1993 ⟨rfl, rfl, by decide, by decide⟩ ⟨by decide, by decide⟩ rfl hl.1 rfl (lv_room (Nat.le_of_ble_eq_true rfl)) zd_W_like_35 (fun H locs hW hS => ?_)
  refine lv_aload_n C.1 C.2.1 zd_W_like_38 rfl (lv_at hl 1 rfl) ?_
  refine zg_W_mother (r := r1) C hK hW (zvd_5 hr1 (by decide)) zk_1283 zd_W_like_39 ?_
  refine lv_aload_n C.1 C.2.1 zd_W_like_42 rfl (lv_at hl 0 rfl) ?_
  refine zg_W_mother (r := r0) C hK hW (zvd_5 hr0 (by decide)) zk_1283 zd_W_like_43 ?_
  obtain ⟨a7, S8, ea7, hf⟩ := zbd_some hf
  refine zcSv (As := [.ref (B.2.1 5 (r1) (3)), .ref (B.2.1 5 (r0) (3))]) (rest := []) C hK hSt hW hS (zc_W_copy hap 5 (r1) (3) 40 5 (r0) (3) 40 (zvd_5 hr1 (by decide)) (fun f => ze_5_3 B f (r1)) (by decide) rfl (zvd_5 hr0 (by decide)) (fun f => ze_5_3 B f (r0)) (by decide) rfl S6 ea7) zq_W_copy zk_1993 ⟨rfl, rfl, by decide, by decide⟩ ⟨by decide, by decide⟩ rfl hl.1 rfl (lv_room (Nat.le_of_ble_eq_true rfl)) zd_W_like_46 (fun H locs hW hS => ?_)
  refine lv_aload_n C.1 C.2.1 zd_W_like_49 rfl (lv_at hl 1 rfl) ?_
  refine zg_W_skills (r := r1) C hK hW (zvd_5 hr1 (by decide)) zk_1285 zd_W_like_50 ?_
  refine lv_aload_n C.1 C.2.1 zd_W_like_53 rfl (lv_at hl 0 rfl) ?_
  refine zg_W_skills (r := r0) C hK hW (zvd_5 hr0 (by decide)) zk_1285 zd_W_like_54 ?_
  obtain ⟨a9, S10, ea9, hf⟩ := zbd_some hf
  refine zcSv (As := [.ref (B.2.1 5 (r1) (4)), .ref (B.2.1 5 (r0) (4))]) (rest := []) C hK hSt hW hS (zc_W_copy hap 5 (r1) (4) 40 5 (r0) (4) 40 (zvd_5 hr1 (by decide)) (fun f => ze_5_4 B f (r1)) (by decide) rfl (zvd_5 hr0 (by decide)) (fun f => ze_5_4 B f (r0)) (by decide) rfl S8 ea9) zq_W_copy zk_1993 ⟨rfl, rfl, by decide, by decide⟩ ⟨by decide, by decide⟩ rfl hl.1 rfl (lv_room (Nat.le_of_ble_eq_true rfl)) zd_W_like_57 (fun H locs hW hS => ?_)
  refine lv_aload_n C.1 C.2.1 zd_W_like_60 rfl (lv_at hl 1 rfl) ?_
  refine zg_W_state (r := r1) C hK hW (zvd_5 hr1 (by decide)) zk_1287 zd_W_like_61 ?_
  refine lv_aload_n C.1 C.2.1 zd_W_like_64 rfl (lv_at hl 0 rfl) ?_
  refine zg_W_state (r := r0) C hK hW (zvd_5 hr0 (by decide)) zk_1287 zd_W_like_65 ?_
  obtain ⟨a11, S12, ea11, hf⟩ := zbd_some hf
  refine zcSv (As := [.ref (B.2.1 5 (r1) (5)), .ref (B.2.1 5 (r0) (5))]) (rest := []) C hK hSt hW hS (zc_W_copy hap 5 (r1) (5) 40 5 (r0) (5) 40 (zvd_5 hr1 (by decide)) (fun f => ze_5_5 B f (r1)) (by decide) rfl (zvd_5 hr0 (by decide)) (fun f => ze_5_5 B f (r0)) (by decide) rfl S10 ea11) zq_W_copy zk_1993 ⟨rfl, rfl, by decide, by decide⟩ ⟨by decide, by decide⟩ rfl hl.1 rfl (lv_room (Nat.le_of_ble_eq_true rfl)) zd_W_like_68 (fun H locs hW hS => ?_)
  refine lv_aload_n C.1 C.2.1 zd_W_like_71 rfl (lv_at hl 1 rfl) ?_
  refine zg_W_end (r := r1) C hK hW (zvd_5 hr1 (by decide)) zk_1289 zd_W_like_72 ?_
  refine lv_aload_n C.1 C.2.1 zd_W_like_75 rfl (lv_at hl 0 rfl) ?_
  refine zg_W_end (r := r0) C hK hW (zvd_5 hr0 (by decide)) zk_1289 zd_W_like_76 ?_
  obtain ⟨a13, S14, ea13, hf⟩ := zbd_some hf
  refine zcSv (As := [.ref (B.2.1 5 (r1) (6)), .ref (B.2.1 5 (r0) (6))]) (rest := []) C hK hSt hW hS (zc_W_copy hap 5 (r1) (6) 40 5 (r0) (6) 40 (zvd_5 hr1 (by decide)) (fun f => ze_5_6 B f (r1)) (by decide) rfl (zvd_5 hr0 (by decide)) (fun f => ze_5_6 B f (r0)) (by decide) rfl S12 ea13) zq_W_copy zk_1993 ⟨rfl, rfl, by decide, by decide⟩ ⟨by decide, by decide⟩ rfl hl.1 rfl (lv_room (Nat.le_of_ble_eq_true rfl)) zd_W_like_79 (fun H locs hW hS => ?_)
  refine lv_aload_n C.1 C.2.1 zd_W_like_82 rfl (lv_at hl 1 rfl) ?_
  refine zg_W_discontent (r := r1) C hK hW (zvd_5 hr1 (by decide)) zk_1291 zd_W_like_83 ?_
  refine lv_aload_n C.1 C.2.1 zd_W_like_86 rfl (lv_at hl 0 rfl) ?_
  refine zg_W_discontent (r := r0) C hK hW (zvd_5 hr0 (by decide)) zk_1291 zd_W_like_87 ?_
  obtain ⟨a15, S16, ea15, hf⟩ := zbd_some hf
  refine zcSv (As := [.ref (B.2.1 5 (r1) (7)), .ref (B.2.1 5 (r0) (7))]) (rest := []) C hK hSt hW hS (zc_W_copy hap 5 (r1) (7) 40 5 (r0) (7) 40 (zvd_5 hr1 (by decide)) (fun f => ze_5_7 B f (r1)) (by decide) rfl (zvd_5 hr0 (by decide)) (fun f => ze_5_7 B f (r0)) (by decide) rfl S14 ea15) zq_W_copy zk_1993 ⟨rfl, rfl, by decide, by decide⟩ ⟨by decide, by decide⟩ rfl hl.1 rfl (lv_room (Nat.le_of_ble_eq_true rfl)) zd_W_like_90 (fun H locs hW hS => ?_)
  refine lv_aload_n C.1 C.2.1 zd_W_like_93 rfl (lv_at hl 1 rfl) ?_
  refine zg_W_post (r := r1) C hK hW (zvd_5 hr1 (by decide)) zk_1293 zd_W_like_94 ?_
  refine lv_aload_n C.1 C.2.1 zd_W_like_97 rfl (lv_at hl 0 rfl) ?_
  refine zg_W_post (r := r0) C hK hW (zvd_5 hr0 (by decide)) zk_1293 zd_W_like_98 ?_
  obtain ⟨a17, S18, ea17, hf⟩ := zbd_some hf
  refine zcSv (As := [.ref (B.2.1 5 (r1) (8)), .ref (B.2.1 5 (r0) (8))]) (rest := []) C hK hSt hW hS (zc_W_copy hap 5 (r1) (8) 40 5 (r0) (8) 40 (zvd_5 hr1 (by decide)) (fun f => ze_5_8 B f (r1)) (by decide) rfl (zvd_5 hr0 (by decide)) (fun f => ze_5_8 B f (r0)) (by decide) rfl S16 ea17) zq_W_copy zk_1993 ⟨rfl, rfl, by decide, by decide⟩ ⟨by decide, by decide⟩ rfl hl.1 rfl (lv_room (Nat.le_of_ble_eq_true rfl)) zd_W_like_101 (fun H locs hW hS => ?_)
  refine lv_aload_n C.1 C.2.1 zd_W_like_104 rfl (lv_at hl 1 rfl) ?_
  refine zg_W_hungry (r := r1) C hK hW (zvd_5 hr1 (by decide)) zk_1295 zd_W_like_105 ?_
  refine lv_aload_n C.1 C.2.1 zd_W_like_108 rfl (lv_at hl 0 rfl) ?_
  refine zg_W_hungry (r := r0) C hK hW (zvd_5 hr0 (by decide)) zk_1295 zd_W_like_109 ?_
  obtain ⟨a19, S20, ea19, hf⟩ := zbd_some hf
  refine zcSv (As := [.ref (B.2.1 5 (r1) (9)), .ref (B.2.1 5 (r0) (9))]) (rest := []) C hK hSt hW hS (zc_W_copy hap 5 (r1) (9) 40 5 (r0) (9) 40 (zvd_5 hr1 (by decide)) (fun f => ze_5_9 B f (r1)) (by decide) rfl (zvd_5 hr0 (by decide)) (fun f => ze_5_9 B f (r0)) (by decide) rfl S18 ea19) zq_W_copy zk_1993 ⟨rfl, rfl, by decide, by decide⟩ ⟨by decide, by decide⟩ rfl hl.1 rfl (lv_room (Nat.le_of_ble_eq_true rfl)) zd_W_like_112 (fun H locs hW hS => ?_)
  refine lv_aload_n C.1 C.2.1 zd_W_like_115 rfl (lv_at hl 1 rfl) ?_
  refine zg_W_cattle (r := r1) C hK hW (zvd_5 hr1 (by decide)) zk_1297 zd_W_like_116 ?_
  refine lv_aload_n C.1 C.2.1 zd_W_like_119 rfl (lv_at hl 0 rfl) ?_
  refine zg_W_cattle (r := r0) C hK hW (zvd_5 hr0 (by decide)) zk_1297 zd_W_like_120 ?_
  obtain ⟨a21, S22, ea21, hf⟩ := zbd_some hf
  refine zcSv (As := [.ref (B.2.1 5 (r1) (10)), .ref (B.2.1 5 (r0) (10))]) (rest := []) C hK hSt hW hS (zc_W_copy hap 5 (r1) (10) 12 5 (r0) (10) 12 (zvd_5 hr1 (by decide)) (fun f => ze_5_10 B f (r1)) (by decide) rfl (zvd_5 hr0 (by decide)) (fun f => ze_5_10 B f (r0)) (by decide) rfl S20 ea21) zq_W_copy zk_1993 ⟨rfl, rfl, by decide, by decide⟩ ⟨by decide, by decide⟩ rfl hl.1 rfl (lv_room (Nat.le_of_ble_eq_true rfl)) zd_W_like_123 (fun H locs hW hS => ?_)
  refine lv_aload_n C.1 C.2.1 zd_W_like_126 rfl (lv_at hl 1 rfl) ?_
  refine zg_W_tank (r := r1) C hK hW (zvd_5 hr1 (by decide)) zk_1299 zd_W_like_127 ?_
  refine lv_aload_n C.1 C.2.1 zd_W_like_130 rfl (lv_at hl 0 rfl) ?_
  refine zg_W_tank (r := r0) C hK hW (zvd_5 hr0 (by decide)) zk_1299 zd_W_like_131 ?_
  obtain ⟨a23, S24, ea23, hf⟩ := zbd_some hf
  refine zcSv (As := [.ref (B.2.1 5 (r1) (11)), .ref (B.2.1 5 (r0) (11))]) (rest := []) C hK hSt hW hS (zc_W_copy hap 5 (r1) (11) 12 5 (r0) (11) 12 (zvd_5 hr1 (by decide)) (fun f => ze_5_11 B f (r1)) (by decide) rfl (zvd_5 hr0 (by decide)) (fun f => ze_5_11 B f (r0)) (by decide) rfl S22 ea23) zq_W_copy zk_1993 ⟨rfl, rfl, by decide, by decide⟩ ⟨by decide, by decide⟩ rfl hl.1 rfl (lv_room (Nat.le_of_ble_eq_true rfl)) zd_W_like_134 (fun H locs hW hS => ?_)
  refine lv_aload_n C.1 C.2.1 zd_W_like_137 rfl (lv_at hl 1 rfl) ?_
  refine zg_W_roof (r := r1) C hK hW (zvd_5 hr1 (by decide)) zk_1301 zd_W_like_138 ?_
  refine lv_aload_n C.1 C.2.1 zd_W_like_141 rfl (lv_at hl 0 rfl) ?_
  refine zg_W_roof (r := r0) C hK hW (zvd_5 hr0 (by decide)) zk_1301 zd_W_like_142 ?_
  obtain ⟨a25, S26, ea25, hf⟩ := zbd_some hf
  refine zcSv (As := [.ref (B.2.1 5 (r1) (12)), .ref (B.2.1 5 (r0) (12))]) (rest := []) C hK hSt hW hS (zc_W_copy hap 5 (r1) (12) 12 5 (r0) (12) 12 (zvd_5 hr1 (by decide)) (fun f => ze_5_12 B f (r1)) (by decide) rfl (zvd_5 hr0 (by decide)) (fun f => ze_5_12 B f (r0)) (by decide) rfl S24 ea25) zq_W_copy zk_1993 ⟨rfl, rfl, by decide, by decide⟩ ⟨by decide, by decide⟩ rfl hl.1 rfl (lv_room (Nat.le_of_ble_eq_true rfl)) zd_W_like_145 (fun H locs hW hS => ?_)
  refine lv_aload_n C.1 C.2.1 zd_W_like_148 rfl (lv_at hl 1 rfl) ?_
  refine zg_W_dry (r := r1) C hK hW (zvd_5 hr1 (by decide)) zk_1303 zd_W_like_149 ?_
  refine lv_aload_n C.1 C.2.1 zd_W_like_152 rfl (lv_at hl 0 rfl) ?_
  refine zg_W_dry (r := r0) C hK hW (zvd_5 hr0 (by decide)) zk_1303 zd_W_like_153 ?_
  obtain ⟨a27, S28, ea27, hf⟩ := zbd_some hf
  refine zcSv (As := [.ref (B.2.1 5 (r1) (13)), .ref (B.2.1 5 (r0) (13))]) (rest := []) C hK hSt hW hS (zc_W_copy hap 5 (r1) (13) 12 5 (r0) (13) 12 (zvd_5 hr1 (by decide)) (fun f => ze_5_13 B f (r1)) (by decide) rfl (zvd_5 hr0 (by decide)) (fun f => ze_5_13 B f (r0)) (by decide) rfl S26 ea27) zq_W_copy zk_1993 ⟨rfl, rfl, by decide, by decide⟩ ⟨by decide, by decide⟩ rfl hl.1 rfl (lv_room (Nat.le_of_ble_eq_true rfl)) zd_W_like_156 (fun H locs hW hS => ?_)
  refine lv_aload_n C.1 C.2.1 zd_W_like_159 rfl (lv_at hl 0 rfl) ?_
  refine lv_aload_n C.1 C.2.1 zd_W_like_160 rfl (lv_at hl 1 rfl) ?_
  refine zg_W_grass (r := r1) C hK hW (zvd_5 hr1 (by decide)) zk_1305 zd_W_like_161 ?_
  obtain ⟨S29, eS29, hf⟩ := zlt_some hf
  refine zp_W_grass (r := r0) C hK hap hW hS (zvd_5 hr0 (by decide)) zk_1305 (zWn hW _ _ _ _ rfl) zd_W_like_164 (fun H locs hW hS => ?_)
  rw [eS29] at hW
  refine lv_aload_n C.1 C.2.1 zd_W_like_167 rfl (lv_at hl 0 rfl) ?_
  refine lv_aload_n C.1 C.2.1 zd_W_like_168 rfl (lv_at hl 1 rfl) ?_
  refine zg_W_laws (r := r1) C hK hW (zvd_5 hr1 (by decide)) zk_1307 zd_W_like_169 ?_
  obtain ⟨S30, eS30, hf⟩ := zlt_some hf
  refine zp_W_laws (r := r0) C hK hap hW hS (zvd_5 hr0 (by decide)) zk_1307 (zWn hW _ _ _ _ rfl) zd_W_like_172 (fun H locs hW hS => ?_)
  rw [eS30] at hW
  refine zr_iconst C zd_W_like_175 ?_
  refine lv_istore_n (lv' := [(2, .int (zI (0))), (0, .ref (B.2.1 5 (r0) (0))), (1, .ref (B.2.1 5 (r1) (0)))]) C.1 C.2.1 zd_W_like_176 rfl hl (by decide) rfl (fun ls hl => ?_)
  exact zw_W_like_177 C hr hlk hK hSt hap r0 r1 hr0 hr1 4096 (0) S30 (znb rfl) hf _ _ _ hW hS (lv_sub hl [1, 2, 0] rfl)

theorem zc_W_like {l : Launch} {B : zB} (hap : zAp B) (r0 : Int) (r1 : Int) (hr0 : 0 ≤ r0 ∧ r0 < 3) (hr1 : 0 ≤ r1 ∧ r1 < 3) (S : Sg) {res : Int} {S9 : Sg} (hf : zf_W_like r0 r1 S = some (res, S9)) : Met l zy_W_like (Cond.code zy_W_like zb_W_like 3 (none) :: zT) zm_W_like (zP B S [.ref (B.2.1 5 (r0) (0)), .ref (B.2.1 5 (r1) (0))]) (zQv B S9) 0 0 B.2.2.2 :=
  zmet (by decide) (Nat.le_of_ble_eq_true rfl) (fun p e s m args below meth c C hr hlk hK hSt hW ls hl => zw_W_like C hr hlk hK hSt hap r0 r1 hr0 hr1  S  hf _ _ _ hW va_S.rf hl)
