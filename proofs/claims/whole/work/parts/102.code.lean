/-! IslandOffice$Crews.goodOf(I)I -/
abbrev zy_C_goodOf : MethodName := ⟨"IslandOffice$Crews", "goodOf", "(I)I"⟩
abbrev zb_C_goodOf : ByteArray := prog_3_method_9_code
abbrev zm_C_goodOf : Room := { frames := 0, cells := 0, slots := 0, locals := 0 }
theorem zq_C_goodOf : zMs zy_C_goodOf zb_C_goodOf 1 (some .int) 1 := ⟨zk_835, zk_834, zk_12, by decide, by decide, by decide +kernel⟩
theorem zd_C_goodOf_0 : decode zb_C_goodOf 0 = .ok (.sipush 256, 3) := by decide +kernel
theorem zd_C_goodOf_3 : decode zb_C_goodOf 3 = .ok (.iconst 1, 1) := by decide +kernel
theorem zd_C_goodOf_4 : decode zb_C_goodOf 4 = .ok (.bipush 7, 2) := by decide +kernel
theorem zd_C_goodOf_6 : decode zb_C_goodOf 6 = .ok (.iload_n 0, 1) := by decide +kernel
theorem zd_C_goodOf_7 : decode zb_C_goodOf 7 = .ok (.isub, 1) := by decide +kernel
theorem zd_C_goodOf_8 : decode zb_C_goodOf 8 = .ok (.ishl, 1) := by decide +kernel
theorem zd_C_goodOf_9 : decode zb_C_goodOf 9 = .ok (.iadd, 1) := by decide +kernel
theorem zd_C_goodOf_10 : decode zb_C_goodOf 10 = .ok (.ireturn, 1) := by decide +kernel

def zf_C_goodOf (x0 : Int) (S : Sg) : Option (Int × Sg) :=
    some (zw (256 + (zshl 1 (zw (7 - x0)))), S)
set_option maxHeartbeats 4000000 in
set_option maxRecDepth 100000 in
theorem zw_C_goodOf {p : Program} {l : Launch} {e : Env} {s : State} {m : MethodId} {args : Array Value} {below : List Frame} {meth : Method} {c : Code} {B : zB} (C : CallFix p m c zb_C_goodOf 1 s args zT "IslandOffice$Crews") (hr : meth.sig.returnType = some .int) (hlk : meth.locks = false) (hK : zK B s) (hSt : zSt B s) (hap : zAp B) {res : Int} {S9 : Sg} : ∀ (x0 : Int) (S : Sg) (nx0 : zn x0), zf_C_goodOf x0 S = some (res, S9) → ∀ (H : Heap) (locs : List Loc) (ls : Array Slot), zW B S H → va_S B.2.2.2 s.heap H locs → lv_has ls 1 [(0, .int (zI (x0)))] → W p l e zm_C_goodOf s m args below meth c H locs 0 0 (MQ below (zQi B res S9) args s 0 0 B.2.2.2) (F0 m 0 ls []) := by
  intro x0 S nx0 hf H locs ls hW hS hl
  unfold zf_C_goodOf at hf
  refine zr_sipush C zd_C_goodOf_0 (by decide) ?_
  refine zr_iconst C zd_C_goodOf_3 ?_
  refine zr_bipush C zd_C_goodOf_4 (by decide) ?_
  refine lv_iload_n C.1 C.2.1 zd_C_goodOf_6 rfl (lv_at hl 0 rfl) ?_
  refine zr_isub C zd_C_goodOf_7 ?_
  refine zr_ishl C zd_C_goodOf_8 ?_
  refine zr_iadd C zd_C_goodOf_9 ?_
  cases hf
  exact zre_i C hr hlk hK hW hS (zn_w _) zd_C_goodOf_10

theorem zc_C_goodOf {l : Launch} {B : zB} (hap : zAp B) (x0 : Int) (S : Sg) (nx0 : zn x0) {res : Int} {S9 : Sg} (hf : zf_C_goodOf x0 S = some (res, S9)) : Met l zy_C_goodOf (Cond.code zy_C_goodOf zb_C_goodOf 1 (some .int) :: zT) zm_C_goodOf (zP B S [.int (zI (x0))]) (zQi B res S9) 0 0 B.2.2.2 :=
  zmet (by decide) (Nat.le_of_ble_eq_true rfl) (fun p e s m args below meth c C hr hlk hK hSt hW ls hl => zw_C_goodOf C hr hlk hK hSt hap   x0 S nx0 hf _ _ _ hW va_S.rf hl)
/-! IslandOffice$Crews.leastSet(II)I -/
abbrev zy_C_leastSet : MethodName := ⟨"IslandOffice$Crews", "leastSet", "(II)I"⟩
abbrev zb_C_leastSet : ByteArray := prog_3_method_12_code
abbrev zm_C_leastSet : Room := { frames := 1, cells := 0, slots := 0, locals := 20 }
theorem zq_C_leastSet : zMy zy_C_leastSet zb_C_leastSet 6 (some .int) 2 := ⟨zk_840, zk_839, zs_23, zk_12, by decide, by decide, by decide +kernel⟩
theorem zd_C_leastSet_0 : decode zb_C_leastSet 0 = .ok (.aload_n 0, 1) := by decide +kernel
theorem zd_C_leastSet_1 : decode zb_C_leastSet 1 = .ok (.getfield 35, 3) := by decide +kernel
theorem zd_C_leastSet_4 : decode zb_C_leastSet 4 = .ok (.iload_n 1, 1) := by decide +kernel
theorem zd_C_leastSet_5 : decode zb_C_leastSet 5 = .ok (.iaload, 1) := by decide +kernel
theorem zd_C_leastSet_6 : decode zb_C_leastSet 6 = .ok (.iload_n 2, 1) := by decide +kernel
theorem zd_C_leastSet_7 : decode zb_C_leastSet 7 = .ok (.iconst (-1), 1) := by decide +kernel
theorem zd_C_leastSet_8 : decode zb_C_leastSet 8 = .ok (.ixor, 1) := by decide +kernel
theorem zd_C_leastSet_9 : decode zb_C_leastSet 9 = .ok (.iand, 1) := by decide +kernel
theorem zd_C_leastSet_10 : decode zb_C_leastSet 10 = .ok (.istore_n 3, 1) := by decide +kernel
theorem zd_C_leastSet_11 : decode zb_C_leastSet 11 = .ok (.iload_n 3, 1) := by decide +kernel
theorem zd_C_leastSet_12 : decode zb_C_leastSet 12 = .ok (.ineg, 1) := by decide +kernel
theorem zd_C_leastSet_13 : decode zb_C_leastSet 13 = .ok (.iload_n 3, 1) := by decide +kernel
theorem zd_C_leastSet_14 : decode zb_C_leastSet 14 = .ok (.iand, 1) := by decide +kernel
theorem zd_C_leastSet_15 : decode zb_C_leastSet 15 = .ok (.istore 4, 2) := by decide +kernel
theorem zd_C_leastSet_17 : decode zb_C_leastSet 17 = .ok (.iconst 0, 1) := by decide +kernel
theorem zd_C_leastSet_18 : decode zb_C_leastSet 18 = .ok (.istore 5, 2) := by decide +kernel
theorem zd_C_leastSet_20 : decode zb_C_leastSet 20 = .ok (.iload 5, 2) := by decide +kernel
theorem zd_C_leastSet_22 : decode zb_C_leastSet 22 = .ok (.sipush 512, 3) := by decide +kernel
theorem zd_C_leastSet_25 : decode zb_C_leastSet 25 = .ok (.if_icmp .ge 68, 3) := by decide +kernel
theorem zd_C_leastSet_28 : decode zb_C_leastSet 28 = .ok (.iload 4, 2) := by decide +kernel
theorem zd_C_leastSet_30 : decode zb_C_leastSet 30 = .ok (.ifCond .eq 63, 3) := by decide +kernel
theorem zd_C_leastSet_33 : decode zb_C_leastSet 33 = .ok (.iload 4, 2) := by decide +kernel
theorem zd_C_leastSet_35 : decode zb_C_leastSet 35 = .ok (.invokestatic 129, 3) := by decide +kernel
theorem zd_C_leastSet_38 : decode zb_C_leastSet 38 = .ok (.aload_n 0, 1) := by decide +kernel
theorem zd_C_leastSet_39 : decode zb_C_leastSet 39 = .ok (.getfield 18, 3) := by decide +kernel
theorem zd_C_leastSet_42 : decode zb_C_leastSet 42 = .ok (.iload_n 1, 1) := by decide +kernel
theorem zd_C_leastSet_43 : decode zb_C_leastSet 43 = .ok (.iaload, 1) := by decide +kernel
theorem zd_C_leastSet_44 : decode zb_C_leastSet 44 = .ok (.if_icmp .ne 35, 3) := by decide +kernel
theorem zd_C_leastSet_47 : decode zb_C_leastSet 47 = .ok (.iload_n 1, 1) := by decide +kernel
theorem zd_C_leastSet_48 : decode zb_C_leastSet 48 = .ok (.invokestatic 143, 3) := by decide +kernel
theorem zd_C_leastSet_51 : decode zb_C_leastSet 51 = .ok (.aload_n 0, 1) := by decide +kernel
theorem zd_C_leastSet_52 : decode zb_C_leastSet 52 = .ok (.getfield 40, 3) := by decide +kernel
theorem zd_C_leastSet_55 : decode zb_C_leastSet 55 = .ok (.iload_n 1, 1) := by decide +kernel
theorem zd_C_leastSet_56 : decode zb_C_leastSet 56 = .ok (.iconst 1, 1) := by decide +kernel
theorem zd_C_leastSet_57 : decode zb_C_leastSet 57 = .ok (.iadd, 1) := by decide +kernel
theorem zd_C_leastSet_58 : decode zb_C_leastSet 58 = .ok (.aaload, 1) := by decide +kernel
theorem zd_C_leastSet_59 : decode zb_C_leastSet 59 = .ok (.iload_n 2, 1) := by decide +kernel
theorem zd_C_leastSet_60 : decode zb_C_leastSet 60 = .ok (.iload 4, 2) := by decide +kernel
theorem zd_C_leastSet_62 : decode zb_C_leastSet 62 = .ok (.ior, 1) := by decide +kernel
theorem zd_C_leastSet_63 : decode zb_C_leastSet 63 = .ok (.iaload, 1) := by decide +kernel
theorem zd_C_leastSet_64 : decode zb_C_leastSet 64 = .ok (.iadd, 1) := by decide +kernel
theorem zd_C_leastSet_65 : decode zb_C_leastSet 65 = .ok (.aload_n 0, 1) := by decide +kernel
theorem zd_C_leastSet_66 : decode zb_C_leastSet 66 = .ok (.getfield 40, 3) := by decide +kernel
theorem zd_C_leastSet_69 : decode zb_C_leastSet 69 = .ok (.iload_n 1, 1) := by decide +kernel
theorem zd_C_leastSet_70 : decode zb_C_leastSet 70 = .ok (.aaload, 1) := by decide +kernel
theorem zd_C_leastSet_71 : decode zb_C_leastSet 71 = .ok (.iload_n 2, 1) := by decide +kernel
theorem zd_C_leastSet_72 : decode zb_C_leastSet 72 = .ok (.iaload, 1) := by decide +kernel
theorem zd_C_leastSet_73 : decode zb_C_leastSet 73 = .ok (.if_icmp .ne 6, 3) := by decide +kernel
theorem zd_C_leastSet_76 : decode zb_C_leastSet 76 = .ok (.iload 4, 2) := by decide +kernel
theorem zd_C_leastSet_78 : decode zb_C_leastSet 78 = .ok (.ireturn, 1) := by decide +kernel
theorem zd_C_leastSet_79 : decode zb_C_leastSet 79 = .ok (.iload 4, 2) := by decide +kernel
theorem zd_C_leastSet_81 : decode zb_C_leastSet 81 = .ok (.iload_n 3, 1) := by decide +kernel
theorem zd_C_leastSet_82 : decode zb_C_leastSet 82 = .ok (.isub, 1) := by decide +kernel
theorem zd_C_leastSet_83 : decode zb_C_leastSet 83 = .ok (.iload_n 3, 1) := by decide +kernel
theorem zd_C_leastSet_84 : decode zb_C_leastSet 84 = .ok (.iand, 1) := by decide +kernel
theorem zd_C_leastSet_85 : decode zb_C_leastSet 85 = .ok (.istore 4, 2) := by decide +kernel
theorem zd_C_leastSet_87 : decode zb_C_leastSet 87 = .ok (.iinc 5 1, 3) := by decide +kernel
theorem zd_C_leastSet_90 : decode zb_C_leastSet 90 = .ok (.goto (-70), 3) := by decide +kernel
theorem zd_C_leastSet_93 : decode zb_C_leastSet 93 = .ok (.iconst 0, 1) := by decide +kernel
theorem zd_C_leastSet_94 : decode zb_C_leastSet 94 = .ok (.ireturn, 1) := by decide +kernel

def zf_C_leastSet_79 (q20 : Int → Int → Int → Int → Int → Sg → Option (Int × Sg)) (x1 : Int) (x2 : Int) (x3 : Int) (x4 : Int) (x5 : Int) (S : Sg) : Option (Int × Sg) :=
    zlt (zand (zw (x4 - x3)) x3) fun v1 => zlt (zw (x5 + 1)) fun v2 => q20 (x1) (x2) (x3) (v1) (v2) S
set_option maxHeartbeats 4000000 in
set_option maxRecDepth 100000 in
theorem zw_C_leastSet_79 {p : Program} {l : Launch} {e : Env} {s : State} {m : MethodId} {args : Array Value} {below : List Frame} {meth : Method} {c : Code} {B : zB} (C : CallFix p m c zb_C_leastSet 6 s args zT "IslandOffice$Crews") (hr : meth.sig.returnType = some .int) (hlk : meth.locks = false) (hK : zK B s) (hSt : zSt B s) (hap : zAp B) {res : Int} {S9 : Sg} (q20 : Int → Int → Int → Int → Int → Sg → Option (Int × Sg)) (hq20 : ∀ (x1 : Int) (x2 : Int) (x3 : Int) (x4 : Int) (x5 : Int) (S : Sg) (nx1 : zn x1) (nx2 : zn x2) (nx3 : zn x3) (nx4 : zn x4) (nx5 : zn x5), q20 x1 x2 x3 x4 x5 S = some (res, S9) → ∀ (H : Heap) (locs : List Loc) (ls : Array Slot), zW B S H → va_S B.2.2.2 s.heap H locs → lv_has ls 6 [(0, .ref (B.2.1 3 (0) (10))), (1, .int (zI (x1))), (2, .int (zI (x2))), (3, .int (zI (x3))), (4, .int (zI (x4))), (5, .int (zI (x5)))] → W p l e zm_C_leastSet s m args below meth c H locs 0 0 (MQ below (zQi B res S9) args s 0 0 B.2.2.2) (F0 m 20 ls [])) : ∀ (x1 : Int) (x2 : Int) (x3 : Int) (x4 : Int) (x5 : Int) (S : Sg) (nx1 : zn x1) (nx2 : zn x2) (nx3 : zn x3) (nx4 : zn x4) (nx5 : zn x5), zf_C_leastSet_79 q20 x1 x2 x3 x4 x5 S = some (res, S9) → ∀ (H : Heap) (locs : List Loc) (ls : Array Slot), zW B S H → va_S B.2.2.2 s.heap H locs → lv_has ls 6 [(0, .ref (B.2.1 3 (0) (10))), (1, .int (zI (x1))), (2, .int (zI (x2))), (3, .int (zI (x3))), (4, .int (zI (x4))), (5, .int (zI (x5)))] → W p l e zm_C_leastSet s m args below meth c H locs 0 0 (MQ below (zQi B res S9) args s 0 0 B.2.2.2) (F0 m 79 ls []) := by
  intro x1 x2 x3 x4 x5 S nx1 nx2 nx3 nx4 nx5 hf H locs ls hW hS hl
  unfold zf_C_leastSet_79 at hf
  refine lv_iload C.1 C.2.1 zd_C_leastSet_79 (lv_at hl 4 rfl) ?_
  refine lv_iload_n C.1 C.2.1 zd_C_leastSet_81 rfl (lv_at hl 3 rfl) ?_
  refine zr_isub C zd_C_leastSet_82 ?_
  refine lv_iload_n C.1 C.2.1 zd_C_leastSet_83 rfl (lv_at hl 3 rfl) ?_
  refine zr_iand C zd_C_leastSet_84 ?_
  obtain ⟨v1, ev1, hf⟩ := zlt_some hf
  have nv1 : zn v1 := by rw [← ev1]; exact (zn_and _ _)
  rw [ev1]
  refine lv_istore (lv' := [(4, .int (zI (v1))), (0, .ref (B.2.1 3 (0) (10))), (1, .int (zI (x1))), (2, .int (zI (x2))), (3, .int (zI (x3))), (5, .int (zI (x5)))]) C.1 C.2.1 zd_C_leastSet_85 hl (by decide) rfl (fun ls hl => ?_)
  obtain ⟨v2, ev2, hf⟩ := zlt_some hf
  have nv2 : zn v2 := by rw [← ev2]; exact zn_w _
  refine lv_iinc (v := zI v2) (lv' := [(5, .int (zI (v2))), (4, .int (zI (v1))), (0, .ref (B.2.1 3 (0) (10))), (1, .int (zI (x1))), (2, .int (zI (x2))), (3, .int (zI (x3)))]) C.1 C.2.1 zd_C_leastSet_87 hl (k := 5) rfl (by rw [← ev2, ← zI_add]; rfl) (by decide) rfl (fun ls hl => ?_)
  refine lv_goto (tgt := 20) C.1 C.2.1 zd_C_leastSet_90 (by decide) ?_
  exact hq20 (x1) (x2) (x3) (v1) (v2) S nx1 nx2 nx3 nv1 nv2 hf _ _ _ hW hS (lv_sub hl [2, 3, 4, 5, 1, 0] rfl)

def zf_C_leastSet_20 : Nat → Int → Int → Int → Int → Int → Sg → Option (Int × Sg)
  | 0, _, _, _, _, _, _ => none
  | n + 1, x1, x2, x3, x4, x5, S =>
    if 512 ≤ x5 then (some (0, S)) else (if x4 = 0 then (some (0, S)) else (zbd (zf_Ji_bitCount x4 S) fun a3 S4 => zck (0 ≤ x1 ∧ x1 < 8) <| if a3 = (S4 3 0 11 x1) then (zbd (zf_C_goodOf x1 S4) fun a7 S8 => zck (0 ≤ (zw (x1 + 1)) ∧ (zw (x1 + 1)) < 9) <| zck (0 ≤ (zor x2 x4) ∧ (zor x2 x4) < 512) <| zck (0 ≤ x1 ∧ x1 < 9) <| zck (0 ≤ x2 ∧ x2 < 512) <| if (zw (a7 + (S8 4 (zw (x1 + 1)) 0 (zor x2 x4)))) = (S8 4 x1 0 x2) then (some (x4, S8)) else (zf_C_leastSet_79 (zf_C_leastSet_20 n) (x1) (x2) (x3) (x4) (x5) S8)) else (zf_C_leastSet_79 (zf_C_leastSet_20 n) (x1) (x2) (x3) (x4) (x5) S4)))
set_option maxHeartbeats 4000000 in
set_option maxRecDepth 100000 in
theorem zw_C_leastSet_20 {p : Program} {l : Launch} {e : Env} {s : State} {m : MethodId} {args : Array Value} {below : List Frame} {meth : Method} {c : Code} {B : zB} (C : CallFix p m c zb_C_leastSet 6 s args zT "IslandOffice$Crews") (hr : meth.sig.returnType = some .int) (hlk : meth.locks = false) (hK : zK B s) (hSt : zSt B s) (hap : zAp B) {res : Int} {S9 : Sg} : ∀ n : Nat, ∀ (x1 : Int) (x2 : Int) (x3 : Int) (x4 : Int) (x5 : Int) (S : Sg) (nx1 : zn x1) (nx2 : zn x2) (nx3 : zn x3) (nx4 : zn x4) (nx5 : zn x5), zf_C_leastSet_20 n x1 x2 x3 x4 x5 S = some (res, S9) → ∀ (H : Heap) (locs : List Loc) (ls : Array Slot), zW B S H → va_S B.2.2.2 s.heap H locs → lv_has ls 6 [(0, .ref (B.2.1 3 (0) (10))), (1, .int (zI (x1))), (2, .int (zI (x2))), (3, .int (zI (x3))), (4, .int (zI (x4))), (5, .int (zI (x5)))] → W p l e zm_C_leastSet s m args below meth c H locs 0 0 (MQ below (zQi B res S9) args s 0 0 B.2.2.2) (F0 m 20 ls []) := by
  intro n
  induction n with
  | zero =>
    intro x1 x2 x3 x4 x5 S nx1 nx2 nx3 nx4 nx5 hf H locs ls hW hS hl
    cases hf
  | succ n ih =>
    intro x1 x2 x3 x4 x5 S nx1 nx2 nx3 nx4 nx5 hf H locs ls hW hS hl
    rw [zf_C_leastSet_20] at hf
    refine lv_iload C.1 C.2.1 zd_C_leastSet_20 (lv_at hl 5 rfl) ?_
    refine zr_sipush C zd_C_leastSet_22 (by decide) ?_
    refine zr_icmp_ge (tgt := 93) C nx5 (znb rfl) zd_C_leastSet_25 (by decide) (fun c1 => ?_) (fun c1 => ?_)
    · rw [if_pos c1] at hf
      refine zr_iconst C zd_C_leastSet_93 ?_
      cases hf
      exact zre_i C hr hlk hK hW hS (znb rfl) zd_C_leastSet_94
    · rw [if_neg c1] at hf
      refine lv_iload C.1 C.2.1 zd_C_leastSet_28 (lv_at hl 4 rfl) ?_
      refine zr_if_eq (tgt := 93) C nx4 zd_C_leastSet_30 (by decide) (fun c2 => ?_) (fun c2 => ?_)
      · rw [if_pos c2] at hf
        refine zr_iconst C zd_C_leastSet_93 ?_
        cases hf
        exact zre_i C hr hlk hK hW hS (znb rfl) zd_C_leastSet_94
      · rw [if_neg c2] at hf
        refine lv_iload C.1 C.2.1 zd_C_leastSet_33 (lv_at hl 4 rfl) ?_
        obtain ⟨a3, S4, ea3, hf⟩ := zbd_some hf
        refine zcSi (As := [.int (zI (x4))]) (rest := []) C hK hSt hW hS (zc_Ji_bitCount hap x4 S nx4 ea3) zq_Ji_bitCount zk_828 ⟨rfl, rfl, by decide, by decide⟩ ⟨Nat.zero_le _, Nat.zero_le _⟩ rfl hl.1 rfl (lv_room (Nat.le_of_ble_eq_true rfl)) zd_C_leastSet_35 (fun na3 H locs hW hS => ?_)
        refine lv_aload_n C.1 C.2.1 zd_C_leastSet_38 rfl (lv_at hl 0 rfl) ?_
        refine zg_C_hands (r := 0) C hK hW (zvd_3 (by decide) (by decide)) zk_433 zd_C_leastSet_39 ?_
        refine lv_iload_n C.1 C.2.1 zd_C_leastSet_42 rfl (lv_at hl 1 rfl) ?_
        obtain ⟨h5, hf⟩ := zck_some hf
        refine ziald C hK hW (zvd_3 (by decide) (by decide)) (fun f => ze_3_11 B f (0)) (by decide) h5 zd_C_leastSet_43 ?_
        refine zr_icmp_ne (tgt := 79) C na3 (zWn hW _ _ _ _ rfl) zd_C_leastSet_44 (by decide) (fun c6 => ?_) (fun c6 => ?_)
        · rw [if_neg c6] at hf
          exact zw_C_leastSet_79 C hr hlk hK hSt hap   (zf_C_leastSet_20 n) (ih) (x1) (x2) (x3) (x4) (x5) S4 nx1 nx2 nx3 nx4 nx5 hf _ _ _ hW hS (lv_sub hl [0, 1, 2, 3, 4, 5] rfl)
        · rw [if_pos c6] at hf
          refine lv_iload_n C.1 C.2.1 zd_C_leastSet_47 rfl (lv_at hl 1 rfl) ?_
          obtain ⟨a7, S8, ea7, hf⟩ := zbd_some hf
          refine zcSi (As := [.int (zI (x1))]) (rest := []) C hK hSt hW hS (zc_C_goodOf hap x1 S4 nx1 ea7) zq_C_goodOf zk_833 ⟨rfl, rfl, by decide, by decide⟩ ⟨Nat.zero_le _, Nat.zero_le _⟩ rfl hl.1 rfl (lv_room (Nat.le_of_ble_eq_true rfl)) zd_C_leastSet_48 (fun na7 H locs hW hS => ?_)
          refine lv_aload_n C.1 C.2.1 zd_C_leastSet_51 rfl (lv_at hl 0 rfl) ?_
          refine zg_C_best (r := 0) C hK hW (zvd_3 (by decide) (by decide)) zk_439 zd_C_leastSet_52 ?_
          refine lv_iload_n C.1 C.2.1 zd_C_leastSet_55 rfl (lv_at hl 1 rfl) ?_
          refine zr_iconst C zd_C_leastSet_56 ?_
          refine zr_iadd C zd_C_leastSet_57 ?_
          obtain ⟨h9, hf⟩ := zck_some hf
          refine zaald (t0 := 4) C hK hW (zvd_3 (by decide) (by decide)) (fun f => ze_3_21 B f (0)) rfl rfl (by decide) h9 zd_C_leastSet_58 (a := B.2.1 4 (zw (x1 + 1)) (0)) (by rw [Int.toNat_of_nonneg h9.1]) ?_
          refine lv_iload_n C.1 C.2.1 zd_C_leastSet_59 rfl (lv_at hl 2 rfl) ?_
          refine lv_iload C.1 C.2.1 zd_C_leastSet_60 (lv_at hl 4 rfl) ?_
          refine zr_ior C zd_C_leastSet_62 ?_
          obtain ⟨h10, hf⟩ := zck_some hf
          refine ziald C hK hW (zvd_4 h9 (by decide)) (fun f => ze_4_0 B f (zw (x1 + 1))) (by decide) h10 zd_C_leastSet_63 ?_
          refine zr_iadd C zd_C_leastSet_64 ?_
          refine lv_aload_n C.1 C.2.1 zd_C_leastSet_65 rfl (lv_at hl 0 rfl) ?_
          refine zg_C_best (r := 0) C hK hW (zvd_3 (by decide) (by decide)) zk_439 zd_C_leastSet_66 ?_
          refine lv_iload_n C.1 C.2.1 zd_C_leastSet_69 rfl (lv_at hl 1 rfl) ?_
          obtain ⟨h11, hf⟩ := zck_some hf
          refine zaald (t0 := 4) C hK hW (zvd_3 (by decide) (by decide)) (fun f => ze_3_21 B f (0)) rfl rfl (by decide) h11 zd_C_leastSet_70 (a := B.2.1 4 (x1) (0)) (by rw [Int.toNat_of_nonneg h11.1]) ?_
          refine lv_iload_n C.1 C.2.1 zd_C_leastSet_71 rfl (lv_at hl 2 rfl) ?_
          obtain ⟨h12, hf⟩ := zck_some hf
          refine ziald C hK hW (zvd_4 h11 (by decide)) (fun f => ze_4_0 B f (x1)) (by decide) h12 zd_C_leastSet_72 ?_
          refine zr_icmp_ne (tgt := 79) C (zn_w _) (zWn hW _ _ _ _ rfl) zd_C_leastSet_73 (by decide) (fun c13 => ?_) (fun c13 => ?_)
          · rw [if_neg c13] at hf
            exact zw_C_leastSet_79 C hr hlk hK hSt hap   (zf_C_leastSet_20 n) (ih) (x1) (x2) (x3) (x4) (x5) S8 nx1 nx2 nx3 nx4 nx5 hf _ _ _ hW hS (lv_sub hl [0, 1, 2, 3, 4, 5] rfl)
          · rw [if_pos c13] at hf
            refine lv_iload C.1 C.2.1 zd_C_leastSet_76 (lv_at hl 4 rfl) ?_
            cases hf
            exact zre_i C hr hlk hK hW hS nx4 zd_C_leastSet_78

def zf_C_leastSet (x1 : Int) (x2 : Int) (S : Sg) : Option (Int × Sg) :=
    zck (0 ≤ x1 ∧ x1 < 8) <| zlt (zand (S 3 0 14 x1) (zxor x2 (-1))) fun v2 => zlt (zand (zw (-v2)) v2) fun v3 => zf_C_leastSet_20 4096 (x1) (x2) (v2) (v3) (0) S
set_option maxHeartbeats 4000000 in
set_option maxRecDepth 100000 in
theorem zw_C_leastSet {p : Program} {l : Launch} {e : Env} {s : State} {m : MethodId} {args : Array Value} {below : List Frame} {meth : Method} {c : Code} {B : zB} (C : CallFix p m c zb_C_leastSet 6 s args zT "IslandOffice$Crews") (hr : meth.sig.returnType = some .int) (hlk : meth.locks = false) (hK : zK B s) (hSt : zSt B s) (hap : zAp B) {res : Int} {S9 : Sg} : ∀ (x1 : Int) (x2 : Int) (S : Sg) (nx1 : zn x1) (nx2 : zn x2), zf_C_leastSet x1 x2 S = some (res, S9) → ∀ (H : Heap) (locs : List Loc) (ls : Array Slot), zW B S H → va_S B.2.2.2 s.heap H locs → lv_has ls 6 [(0, .ref (B.2.1 3 (0) (10))), (1, .int (zI (x1))), (2, .int (zI (x2)))] → W p l e zm_C_leastSet s m args below meth c H locs 0 0 (MQ below (zQi B res S9) args s 0 0 B.2.2.2) (F0 m 0 ls []) := by
  intro x1 x2 S nx1 nx2 hf H locs ls hW hS hl
  unfold zf_C_leastSet at hf
  refine lv_aload_n C.1 C.2.1 zd_C_leastSet_0 rfl (lv_at hl 0 rfl) ?_
  refine zg_C_few (r := 0) C hK hW (zvd_3 (by decide) (by decide)) zk_438 zd_C_leastSet_1 ?_
  refine lv_iload_n C.1 C.2.1 zd_C_leastSet_4 rfl (lv_at hl 1 rfl) ?_
  obtain ⟨h1, hf⟩ := zck_some hf
  refine ziald C hK hW (zvd_3 (by decide) (by decide)) (fun f => ze_3_14 B f (0)) (by decide) h1 zd_C_leastSet_5 ?_
  refine lv_iload_n C.1 C.2.1 zd_C_leastSet_6 rfl (lv_at hl 2 rfl) ?_
  refine zr_iconst C zd_C_leastSet_7 ?_
  refine zr_ixor C zd_C_leastSet_8 ?_
  refine zr_iand C zd_C_leastSet_9 ?_
  obtain ⟨v2, ev2, hf⟩ := zlt_some hf
  have nv2 : zn v2 := by rw [← ev2]; exact (zn_and _ _)
  rw [ev2]
  refine lv_istore_n (lv' := [(3, .int (zI (v2))), (0, .ref (B.2.1 3 (0) (10))), (1, .int (zI (x1))), (2, .int (zI (x2)))]) C.1 C.2.1 zd_C_leastSet_10 rfl hl (by decide) rfl (fun ls hl => ?_)
  refine lv_iload_n C.1 C.2.1 zd_C_leastSet_11 rfl (lv_at hl 0 rfl) ?_
  refine zr_ineg C zd_C_leastSet_12 ?_
  refine lv_iload_n C.1 C.2.1 zd_C_leastSet_13 rfl (lv_at hl 0 rfl) ?_
  refine zr_iand C zd_C_leastSet_14 ?_
  obtain ⟨v3, ev3, hf⟩ := zlt_some hf
  have nv3 : zn v3 := by rw [← ev3]; exact (zn_and _ _)
  rw [ev3]
  refine lv_istore (lv' := [(4, .int (zI (v3))), (3, .int (zI (v2))), (0, .ref (B.2.1 3 (0) (10))), (1, .int (zI (x1))), (2, .int (zI (x2)))]) C.1 C.2.1 zd_C_leastSet_15 hl (by decide) rfl (fun ls hl => ?_)
  refine zr_iconst C zd_C_leastSet_17 ?_
  refine lv_istore (lv' := [(5, .int (zI (0))), (4, .int (zI (v3))), (3, .int (zI (v2))), (0, .ref (B.2.1 3 (0) (10))), (1, .int (zI (x1))), (2, .int (zI (x2)))]) C.1 C.2.1 zd_C_leastSet_18 hl (by decide) rfl (fun ls hl => ?_)
  exact zw_C_leastSet_20 C hr hlk hK hSt hap   4096 (x1) (x2) (v2) (v3) (0) S nx1 nx2 nv2 nv3 (znb rfl) hf _ _ _ hW hS (lv_sub hl [3, 4, 5, 2, 1, 0] rfl)

theorem zc_C_leastSet {l : Launch} {B : zB} (hap : zAp B) (x1 : Int) (x2 : Int) (S : Sg) (nx1 : zn x1) (nx2 : zn x2) {res : Int} {S9 : Sg} (hf : zf_C_leastSet x1 x2 S = some (res, S9)) : Met l zy_C_leastSet (Cond.code zy_C_leastSet zb_C_leastSet 6 (some .int) :: zT) zm_C_leastSet (zP B S [.ref (B.2.1 3 (0) (10)), .int (zI (x1)), .int (zI (x2))]) (zQi B res S9) 0 0 B.2.2.2 :=
  zmet (by decide) (Nat.le_of_ble_eq_true rfl) (fun p e s m args below meth c C hr hlk hK hSt hW ls hl => zw_C_leastSet C hr hlk hK hSt hap   x1 x2 S nx1 nx2 hf _ _ _ hW va_S.rf hl)
/-! IslandOffice$Crews.nameFew(J)I -/
abbrev zy_C_nameFew : MethodName := ⟨"IslandOffice$Crews", "nameFew", "(J)I"⟩
abbrev zb_C_nameFew : ByteArray := prog_3_method_8_code
abbrev zm_C_nameFew : Room := { frames := 0, cells := 0, slots := 0, locals := 0 }
theorem zq_C_nameFew : zMy zy_C_nameFew zb_C_nameFew 6 (some .int) 1 := ⟨zk_823, zk_822, zs_20, zk_12, by decide, by decide, by decide +kernel⟩
theorem zd_C_nameFew_0 : decode zb_C_nameFew 0 = .ok (.iconst 0, 1) := by decide +kernel
theorem zd_C_nameFew_1 : decode zb_C_nameFew 1 = .ok (.istore_n 3, 1) := by decide +kernel
theorem zd_C_nameFew_2 : decode zb_C_nameFew 2 = .ok (.iconst 0, 1) := by decide +kernel
theorem zd_C_nameFew_3 : decode zb_C_nameFew 3 = .ok (.istore 4, 2) := by decide +kernel
theorem zd_C_nameFew_5 : decode zb_C_nameFew 5 = .ok (.iload 4, 2) := by decide +kernel
theorem zd_C_nameFew_7 : decode zb_C_nameFew 7 = .ok (.bipush 40, 2) := by decide +kernel
theorem zd_C_nameFew_9 : decode zb_C_nameFew 9 = .ok (.if_icmp .ge 37, 3) := by decide +kernel
theorem zd_C_nameFew_12 : decode zb_C_nameFew 12 = .ok (.iload_n 3, 1) := by decide +kernel
theorem zd_C_nameFew_13 : decode zb_C_nameFew 13 = .ok (.bipush 9, 2) := by decide +kernel
theorem zd_C_nameFew_15 : decode zb_C_nameFew 15 = .ok (.if_icmp .ge 31, 3) := by decide +kernel
theorem zd_C_nameFew_18 : decode zb_C_nameFew 18 = .ok (.lload_n 1, 1) := by decide +kernel
theorem zd_C_nameFew_19 : decode zb_C_nameFew 19 = .ok (.iload 4, 2) := by decide +kernel
theorem zd_C_nameFew_21 : decode zb_C_nameFew 21 = .ok (.lshr, 1) := by decide +kernel
theorem zd_C_nameFew_22 : decode zb_C_nameFew 22 = .ok (.lconst 1, 1) := by decide +kernel
theorem zd_C_nameFew_23 : decode zb_C_nameFew 23 = .ok (.land, 1) := by decide +kernel
theorem zd_C_nameFew_24 : decode zb_C_nameFew 24 = .ok (.lconst 1, 1) := by decide +kernel
theorem zd_C_nameFew_25 : decode zb_C_nameFew 25 = .ok (.lcmp, 1) := by decide +kernel
theorem zd_C_nameFew_26 : decode zb_C_nameFew 26 = .ok (.ifCond .ne 14, 3) := by decide +kernel
theorem zd_C_nameFew_29 : decode zb_C_nameFew 29 = .ok (.aload_n 0, 1) := by decide +kernel
theorem zd_C_nameFew_30 : decode zb_C_nameFew 30 = .ok (.getfield 32, 3) := by decide +kernel
theorem zd_C_nameFew_33 : decode zb_C_nameFew 33 = .ok (.iload_n 3, 1) := by decide +kernel
theorem zd_C_nameFew_34 : decode zb_C_nameFew 34 = .ok (.iload 4, 2) := by decide +kernel
theorem zd_C_nameFew_36 : decode zb_C_nameFew 36 = .ok (.iastore, 1) := by decide +kernel
theorem zd_C_nameFew_37 : decode zb_C_nameFew 37 = .ok (.iinc 3 1, 3) := by decide +kernel
theorem zd_C_nameFew_40 : decode zb_C_nameFew 40 = .ok (.iinc 4 1, 3) := by decide +kernel
theorem zd_C_nameFew_43 : decode zb_C_nameFew 43 = .ok (.goto (-38), 3) := by decide +kernel
theorem zd_C_nameFew_46 : decode zb_C_nameFew 46 = .ok (.iconst 0, 1) := by decide +kernel
theorem zd_C_nameFew_47 : decode zb_C_nameFew 47 = .ok (.istore 4, 2) := by decide +kernel
theorem zd_C_nameFew_49 : decode zb_C_nameFew 49 = .ok (.iload 4, 2) := by decide +kernel
theorem zd_C_nameFew_51 : decode zb_C_nameFew 51 = .ok (.bipush 8, 2) := by decide +kernel
theorem zd_C_nameFew_53 : decode zb_C_nameFew 53 = .ok (.if_icmp .ge 63, 3) := by decide +kernel
theorem zd_C_nameFew_56 : decode zb_C_nameFew 56 = .ok (.aload_n 0, 1) := by decide +kernel
theorem zd_C_nameFew_57 : decode zb_C_nameFew 57 = .ok (.getfield 35, 3) := by decide +kernel
theorem zd_C_nameFew_60 : decode zb_C_nameFew 60 = .ok (.iload 4, 2) := by decide +kernel
theorem zd_C_nameFew_62 : decode zb_C_nameFew 62 = .ok (.iconst 0, 1) := by decide +kernel
theorem zd_C_nameFew_63 : decode zb_C_nameFew 63 = .ok (.iastore, 1) := by decide +kernel
theorem zd_C_nameFew_64 : decode zb_C_nameFew 64 = .ok (.iconst 0, 1) := by decide +kernel
theorem zd_C_nameFew_65 : decode zb_C_nameFew 65 = .ok (.istore 5, 2) := by decide +kernel
theorem zd_C_nameFew_67 : decode zb_C_nameFew 67 = .ok (.iload 5, 2) := by decide +kernel
theorem zd_C_nameFew_69 : decode zb_C_nameFew 69 = .ok (.iload_n 3, 1) := by decide +kernel
theorem zd_C_nameFew_70 : decode zb_C_nameFew 70 = .ok (.if_icmp .ge 40, 3) := by decide +kernel
theorem zd_C_nameFew_73 : decode zb_C_nameFew 73 = .ok (.aload_n 0, 1) := by decide +kernel
theorem zd_C_nameFew_74 : decode zb_C_nameFew 74 = .ok (.getfield 35, 3) := by decide +kernel
theorem zd_C_nameFew_77 : decode zb_C_nameFew 77 = .ok (.iload 4, 2) := by decide +kernel
theorem zd_C_nameFew_79 : decode zb_C_nameFew 79 = .ok (.dup2, 1) := by decide +kernel
theorem zd_C_nameFew_80 : decode zb_C_nameFew 80 = .ok (.iaload, 1) := by decide +kernel
theorem zd_C_nameFew_81 : decode zb_C_nameFew 81 = .ok (.aload_n 0, 1) := by decide +kernel
theorem zd_C_nameFew_82 : decode zb_C_nameFew 82 = .ok (.getfield 15, 3) := by decide +kernel
theorem zd_C_nameFew_85 : decode zb_C_nameFew 85 = .ok (.iload 4, 2) := by decide +kernel
theorem zd_C_nameFew_87 : decode zb_C_nameFew 87 = .ok (.laload, 1) := by decide +kernel
theorem zd_C_nameFew_88 : decode zb_C_nameFew 88 = .ok (.aload_n 0, 1) := by decide +kernel
theorem zd_C_nameFew_89 : decode zb_C_nameFew 89 = .ok (.getfield 32, 3) := by decide +kernel
theorem zd_C_nameFew_92 : decode zb_C_nameFew 92 = .ok (.iload 5, 2) := by decide +kernel
theorem zd_C_nameFew_94 : decode zb_C_nameFew 94 = .ok (.iaload, 1) := by decide +kernel
theorem zd_C_nameFew_95 : decode zb_C_nameFew 95 = .ok (.lshr, 1) := by decide +kernel
theorem zd_C_nameFew_96 : decode zb_C_nameFew 96 = .ok (.lconst 1, 1) := by decide +kernel
theorem zd_C_nameFew_97 : decode zb_C_nameFew 97 = .ok (.land, 1) := by decide +kernel
theorem zd_C_nameFew_98 : decode zb_C_nameFew 98 = .ok (.l2i, 1) := by decide +kernel
theorem zd_C_nameFew_99 : decode zb_C_nameFew 99 = .ok (.iload 5, 2) := by decide +kernel
theorem zd_C_nameFew_101 : decode zb_C_nameFew 101 = .ok (.ishl, 1) := by decide +kernel
theorem zd_C_nameFew_102 : decode zb_C_nameFew 102 = .ok (.ior, 1) := by decide +kernel
theorem zd_C_nameFew_103 : decode zb_C_nameFew 103 = .ok (.iastore, 1) := by decide +kernel
theorem zd_C_nameFew_104 : decode zb_C_nameFew 104 = .ok (.iinc 5 1, 3) := by decide +kernel
theorem zd_C_nameFew_107 : decode zb_C_nameFew 107 = .ok (.goto (-40), 3) := by decide +kernel
theorem zd_C_nameFew_110 : decode zb_C_nameFew 110 = .ok (.iinc 4 1, 3) := by decide +kernel
theorem zd_C_nameFew_113 : decode zb_C_nameFew 113 = .ok (.goto (-64), 3) := by decide +kernel
theorem zd_C_nameFew_116 : decode zb_C_nameFew 116 = .ok (.iload_n 3, 1) := by decide +kernel
theorem zd_C_nameFew_117 : decode zb_C_nameFew 117 = .ok (.ireturn, 1) := by decide +kernel

def zf_C_nameFew_67 (q49 : Int → Int → Sg → Option (Int × Sg)) : Nat → Int → Int → Int → Sg → Option (Int × Sg)
  | 0, _, _, _, _ => none
  | n + 1, x3, x4, x5, S =>
    if x3 ≤ x5 then (zlt (zw (x4 + 1)) fun v2 => q49 (x3) (v2) S) else (zck (0 ≤ x4 ∧ x4 < 8) <| zck (0 ≤ x5 ∧ x5 < 9) <| zlt (zu S 3 0 14 x4 (zor (S 3 0 14 x4) (zshl (zw (zlnd (zlsr (S 20 0 1 x4) (S 3 0 13 x5)) 1)) x5))) fun S5 => zlt (zw (x5 + 1)) fun v6 => (zf_C_nameFew_67 q49 n) (x3) (x4) (v6) S5)
set_option maxHeartbeats 4000000 in
set_option maxRecDepth 100000 in
theorem zw_C_nameFew_67 {p : Program} {l : Launch} {e : Env} {s : State} {m : MethodId} {args : Array Value} {below : List Frame} {meth : Method} {c : Code} {B : zB} (C : CallFix p m c zb_C_nameFew 6 s args zT "IslandOffice$Crews") (hr : meth.sig.returnType = some .int) (hlk : meth.locks = false) (hK : zK B s) (hSt : zSt B s) (hap : zAp B) {res : Int} {S9 : Sg} (q49 : Int → Int → Sg → Option (Int × Sg)) (hq49 : ∀ (x3 : Int) (x4 : Int) (S : Sg) (nx3 : zn x3) (nx4 : zn x4), q49 x3 x4 S = some (res, S9) → ∀ (H : Heap) (locs : List Loc) (ls : Array Slot), zW B S H → va_S B.2.2.2 s.heap H locs → lv_has ls 6 [(0, .ref (B.2.1 3 (0) (10))), (3, .int (zI (x3))), (4, .int (zI (x4)))] → W p l e zm_C_nameFew s m args below meth c H locs 0 0 (MQ below (zQi B res S9) args s 0 0 B.2.2.2) (F0 m 49 ls [])) : ∀ n : Nat, ∀ (x3 : Int) (x4 : Int) (x5 : Int) (S : Sg) (nx3 : zn x3) (nx4 : zn x4) (nx5 : zn x5), zf_C_nameFew_67 q49 n x3 x4 x5 S = some (res, S9) → ∀ (H : Heap) (locs : List Loc) (ls : Array Slot), zW B S H → va_S B.2.2.2 s.heap H locs → lv_has ls 6 [(0, .ref (B.2.1 3 (0) (10))), (3, .int (zI (x3))), (4, .int (zI (x4))), (5, .int (zI (x5)))] → W p l e zm_C_nameFew s m args below meth c H locs 0 0 (MQ below (zQi B res S9) args s 0 0 B.2.2.2) (F0 m 67 ls []) := by
  intro n
  induction n with
  | zero =>
    intro x3 x4 x5 S nx3 nx4 nx5 hf H locs ls hW hS hl
    cases hf
  | succ n ih =>
    intro x3 x4 x5 S nx3 nx4 nx5 hf H locs ls hW hS hl
    rw [zf_C_nameFew_67] at hf
    refine lv_iload C.1 C.2.1 zd_C_nameFew_67 (lv_at hl 3 rfl) ?_
    refine lv_iload_n C.1 C.2.1 zd_C_nameFew_69 rfl (lv_at hl 1 rfl) ?_
    refine zr_icmp_ge (tgt := 110) C nx5 nx3 zd_C_nameFew_70 (by decide) (fun c1 => ?_) (fun c1 => ?_)
    · rw [if_pos c1] at hf
      obtain ⟨v2, ev2, hf⟩ := zlt_some hf
      have nv2 : zn v2 := by rw [← ev2]; exact zn_w _
      refine lv_iinc (v := zI v2) (lv' := [(4, .int (zI (v2))), (0, .ref (B.2.1 3 (0) (10))), (3, .int (zI (x3))), (5, .int (zI (x5)))]) C.1 C.2.1 zd_C_nameFew_110 hl (k := 2) rfl (by rw [← ev2, ← zI_add]; rfl) (by decide) rfl (fun ls hl => ?_)
      refine lv_goto (tgt := 49) C.1 C.2.1 zd_C_nameFew_113 (by decide) ?_
      exact hq49 (x3) (v2) S nx3 nv2 hf _ _ _ hW hS (lv_sub hl [1, 2, 0] rfl)
    · rw [if_neg c1] at hf
      refine lv_aload_n C.1 C.2.1 zd_C_nameFew_73 rfl (lv_at hl 0 rfl) ?_
      refine zg_C_few (r := 0) C hK hW (zvd_3 (by decide) (by decide)) zk_438 zd_C_nameFew_74 ?_
      refine lv_iload C.1 C.2.1 zd_C_nameFew_77 (lv_at hl 2 rfl) ?_
      refine lv_dup2_11 C.1 C.2.1 zd_C_nameFew_79 rfl rfl ?_
      obtain ⟨h3, hf⟩ := zck_some hf
      refine ziald C hK hW (zvd_3 (by decide) (by decide)) (fun f => ze_3_14 B f (0)) (by decide) h3 zd_C_nameFew_80 ?_
      refine lv_aload_n C.1 C.2.1 zd_C_nameFew_81 rfl (lv_at hl 0 rfl) ?_
      refine zg_C_can (r := 0) C hK hW (zvd_3 (by decide) (by decide)) zk_432 zd_C_nameFew_82 ?_
      refine lv_iload C.1 C.2.1 zd_C_nameFew_85 (lv_at hl 2 rfl) ?_
      refine zlald C hK hW (zvd_20 (by decide) (by decide)) (fun f => ze_20_1 B f (0)) (by decide) h3 zd_C_nameFew_87 ?_
      refine lv_aload_n C.1 C.2.1 zd_C_nameFew_88 rfl (lv_at hl 0 rfl) ?_
      refine zg_C_who (r := 0) C hK hW (zvd_3 (by decide) (by decide)) zk_437 zd_C_nameFew_89 ?_
      refine lv_iload C.1 C.2.1 zd_C_nameFew_92 (lv_at hl 3 rfl) ?_
      obtain ⟨h4, hf⟩ := zck_some hf
      refine ziald C hK hW (zvd_3 (by decide) (by decide)) (fun f => ze_3_13 B f (0)) (by decide) h4 zd_C_nameFew_94 ?_
      refine zr_lshr C zd_C_nameFew_95 ?_
      refine zr_lconst (k := 1) C zd_C_nameFew_96 rfl ?_
      refine zr_land C zd_C_nameFew_97 ?_
      refine zr_l2i C (zm_lnd _ _) zd_C_nameFew_98 ?_
      refine lv_iload C.1 C.2.1 zd_C_nameFew_99 (lv_at hl 3 rfl) ?_
      refine zr_ishl C zd_C_nameFew_101 ?_
      refine zr_ior C zd_C_nameFew_102 ?_
      obtain ⟨S5, eS5, hf⟩ := zlt_some hf
      refine ziast C hK hap hW hS (zvd_3 (by decide) (by decide)) (fun f => ze_3_14 B f (0)) (by decide) rfl (zn_or _ _) h3 zd_C_nameFew_103 (fun H locs hW hS => ?_)
      rw [eS5] at hW
      obtain ⟨v6, ev6, hf⟩ := zlt_some hf
      have nv6 : zn v6 := by rw [← ev6]; exact zn_w _
      refine lv_iinc (v := zI v6) (lv' := [(5, .int (zI (v6))), (0, .ref (B.2.1 3 (0) (10))), (3, .int (zI (x3))), (4, .int (zI (x4)))]) C.1 C.2.1 zd_C_nameFew_104 hl (k := 3) rfl (by rw [← ev6, ← zI_add]; rfl) (by decide) rfl (fun ls hl => ?_)
      refine lv_goto (tgt := 67) C.1 C.2.1 zd_C_nameFew_107 (by decide) ?_
      exact ih (x3) (x4) (v6) S5 nx3 nx4 nv6 hf _ _ _ hW hS (lv_sub hl [1, 2, 3, 0] rfl)

def zf_C_nameFew_49 : Nat → Int → Int → Sg → Option (Int × Sg)
  | 0, _, _, _ => none
  | n + 1, x3, x4, S =>
    if 8 ≤ x4 then (some (x3, S)) else (zck (0 ≤ x4 ∧ x4 < 8) <| zlt (zu S 3 0 14 x4 0) fun S3 => zf_C_nameFew_67 (zf_C_nameFew_49 n) 4096 (x3) (x4) (0) S3)
set_option maxHeartbeats 4000000 in
set_option maxRecDepth 100000 in
theorem zw_C_nameFew_49 {p : Program} {l : Launch} {e : Env} {s : State} {m : MethodId} {args : Array Value} {below : List Frame} {meth : Method} {c : Code} {B : zB} (C : CallFix p m c zb_C_nameFew 6 s args zT "IslandOffice$Crews") (hr : meth.sig.returnType = some .int) (hlk : meth.locks = false) (hK : zK B s) (hSt : zSt B s) (hap : zAp B) {res : Int} {S9 : Sg} : ∀ n : Nat, ∀ (x3 : Int) (x4 : Int) (S : Sg) (nx3 : zn x3) (nx4 : zn x4), zf_C_nameFew_49 n x3 x4 S = some (res, S9) → ∀ (H : Heap) (locs : List Loc) (ls : Array Slot), zW B S H → va_S B.2.2.2 s.heap H locs → lv_has ls 6 [(0, .ref (B.2.1 3 (0) (10))), (3, .int (zI (x3))), (4, .int (zI (x4)))] → W p l e zm_C_nameFew s m args below meth c H locs 0 0 (MQ below (zQi B res S9) args s 0 0 B.2.2.2) (F0 m 49 ls []) := by
  intro n
  induction n with
  | zero =>
    intro x3 x4 S nx3 nx4 hf H locs ls hW hS hl
    cases hf
  | succ n ih =>
    intro x3 x4 S nx3 nx4 hf H locs ls hW hS hl
    rw [zf_C_nameFew_49] at hf
    refine lv_iload C.1 C.2.1 zd_C_nameFew_49 (lv_at hl 2 rfl) ?_
    refine zr_bipush C zd_C_nameFew_51 (by decide) ?_
    refine zr_icmp_ge (tgt := 116) C nx4 (znb rfl) zd_C_nameFew_53 (by decide) (fun c1 => ?_) (fun c1 => ?_)
    · rw [if_pos c1] at hf
      refine lv_iload_n C.1 C.2.1 zd_C_nameFew_116 rfl (lv_at hl 1 rfl) ?_
      cases hf
      exact zre_i C hr hlk hK hW hS nx3 zd_C_nameFew_117
    · rw [if_neg c1] at hf
      refine lv_aload_n C.1 C.2.1 zd_C_nameFew_56 rfl (lv_at hl 0 rfl) ?_
      refine zg_C_few (r := 0) C hK hW (zvd_3 (by decide) (by decide)) zk_438 zd_C_nameFew_57 ?_
      refine lv_iload C.1 C.2.1 zd_C_nameFew_60 (lv_at hl 2 rfl) ?_
      refine zr_iconst C zd_C_nameFew_62 ?_
      obtain ⟨h2, hf⟩ := zck_some hf
      obtain ⟨S3, eS3, hf⟩ := zlt_some hf
      refine ziast C hK hap hW hS (zvd_3 (by decide) (by decide)) (fun f => ze_3_14 B f (0)) (by decide) rfl (znb rfl) h2 zd_C_nameFew_63 (fun H locs hW hS => ?_)
      rw [eS3] at hW
      refine zr_iconst C zd_C_nameFew_64 ?_
      refine lv_istore (lv' := [(5, .int (zI (0))), (0, .ref (B.2.1 3 (0) (10))), (3, .int (zI (x3))), (4, .int (zI (x4)))]) C.1 C.2.1 zd_C_nameFew_65 hl (by decide) rfl (fun ls hl => ?_)
      exact zw_C_nameFew_67 C hr hlk hK hSt hap   (zf_C_nameFew_49 n) (ih) 4096 (x3) (x4) (0) S3 nx3 nx4 (znb rfl) hf _ _ _ hW hS (lv_sub hl [1, 2, 3, 0] rfl)

def zf_C_nameFew_46 (x3 : Int) (S : Sg) : Option (Int × Sg) :=
    zf_C_nameFew_49 4096 (x3) (0) S
set_option maxHeartbeats 4000000 in
set_option maxRecDepth 100000 in
theorem zw_C_nameFew_46 {p : Program} {l : Launch} {e : Env} {s : State} {m : MethodId} {args : Array Value} {below : List Frame} {meth : Method} {c : Code} {B : zB} (C : CallFix p m c zb_C_nameFew 6 s args zT "IslandOffice$Crews") (hr : meth.sig.returnType = some .int) (hlk : meth.locks = false) (hK : zK B s) (hSt : zSt B s) (hap : zAp B) {res : Int} {S9 : Sg} : ∀ (x3 : Int) (S : Sg) (nx3 : zn x3), zf_C_nameFew_46 x3 S = some (res, S9) → ∀ (H : Heap) (locs : List Loc) (ls : Array Slot), zW B S H → va_S B.2.2.2 s.heap H locs → lv_has ls 6 [(0, .ref (B.2.1 3 (0) (10))), (3, .int (zI (x3)))] → W p l e zm_C_nameFew s m args below meth c H locs 0 0 (MQ below (zQi B res S9) args s 0 0 B.2.2.2) (F0 m 46 ls []) := by
  intro x3 S nx3 hf H locs ls hW hS hl
  unfold zf_C_nameFew_46 at hf
  refine zr_iconst C zd_C_nameFew_46 ?_
  refine lv_istore (lv' := [(4, .int (zI (0))), (0, .ref (B.2.1 3 (0) (10))), (3, .int (zI (x3)))]) C.1 C.2.1 zd_C_nameFew_47 hl (by decide) rfl (fun ls hl => ?_)
  exact zw_C_nameFew_49 C hr hlk hK hSt hap   4096 (x3) (0) S nx3 (znb rfl) hf _ _ _ hW hS (lv_sub hl [1, 2, 0] rfl)

def zf_C_nameFew_40 (q5 : Int → Int → Int → Sg → Option (Int × Sg)) (x1 : Int) (x3 : Int) (x4 : Int) (S : Sg) : Option (Int × Sg) :=
    zlt (zw (x4 + 1)) fun v1 => q5 (x1) (x3) (v1) S
set_option maxHeartbeats 4000000 in
set_option maxRecDepth 100000 in
theorem zw_C_nameFew_40 {p : Program} {l : Launch} {e : Env} {s : State} {m : MethodId} {args : Array Value} {below : List Frame} {meth : Method} {c : Code} {B : zB} (C : CallFix p m c zb_C_nameFew 6 s args zT "IslandOffice$Crews") (hr : meth.sig.returnType = some .int) (hlk : meth.locks = false) (hK : zK B s) (hSt : zSt B s) (hap : zAp B) {res : Int} {S9 : Sg} (q5 : Int → Int → Int → Sg → Option (Int × Sg)) (hq5 : ∀ (x1 : Int) (x3 : Int) (x4 : Int) (S : Sg) (nx1 : zm x1) (nx3 : zn x3) (nx4 : zn x4), q5 x1 x3 x4 S = some (res, S9) → ∀ (H : Heap) (locs : List Loc) (ls : Array Slot), zW B S H → va_S B.2.2.2 s.heap H locs → lv_has ls 6 [(0, .ref (B.2.1 3 (0) (10))), (1, .long (zL (x1))), (3, .int (zI (x3))), (4, .int (zI (x4)))] → W p l e zm_C_nameFew s m args below meth c H locs 0 0 (MQ below (zQi B res S9) args s 0 0 B.2.2.2) (F0 m 5 ls [])) : ∀ (x1 : Int) (x3 : Int) (x4 : Int) (S : Sg) (nx1 : zm x1) (nx3 : zn x3) (nx4 : zn x4), zf_C_nameFew_40 q5 x1 x3 x4 S = some (res, S9) → ∀ (H : Heap) (locs : List Loc) (ls : Array Slot), zW B S H → va_S B.2.2.2 s.heap H locs → lv_has ls 6 [(0, .ref (B.2.1 3 (0) (10))), (1, .long (zL (x1))), (3, .int (zI (x3))), (4, .int (zI (x4)))] → W p l e zm_C_nameFew s m args below meth c H locs 0 0 (MQ below (zQi B res S9) args s 0 0 B.2.2.2) (F0 m 40 ls []) := by
  intro x1 x3 x4 S nx1 nx3 nx4 hf H locs ls hW hS hl
  unfold zf_C_nameFew_40 at hf
  obtain ⟨v1, ev1, hf⟩ := zlt_some hf
  have nv1 : zn v1 := by rw [← ev1]; exact zn_w _
  refine lv_iinc (v := zI v1) (lv' := [(4, .int (zI (v1))), (0, .ref (B.2.1 3 (0) (10))), (1, .long (zL (x1))), (3, .int (zI (x3)))]) C.1 C.2.1 zd_C_nameFew_40 hl (k := 3) rfl (by rw [← ev1, ← zI_add]; rfl) (by decide) rfl (fun ls hl => ?_)
  refine lv_goto (tgt := 5) C.1 C.2.1 zd_C_nameFew_43 (by decide) ?_
  exact hq5 (x1) (x3) (v1) S nx1 nx3 nv1 hf _ _ _ hW hS (lv_sub hl [1, 2, 3, 0] rfl)

def zf_C_nameFew_5 : Nat → Int → Int → Int → Sg → Option (Int × Sg)
  | 0, _, _, _, _ => none
  | n + 1, x1, x3, x4, S =>
    if 40 ≤ x4 then (zf_C_nameFew_46 (x3) S) else (if 9 ≤ x3 then (zf_C_nameFew_46 (x3) S) else (if (zcmp (zlnd (zlsr x1 x4) 1) 1) = 0 then (zck (0 ≤ x3 ∧ x3 < 9) <| zlt (zu S 3 0 13 x3 x4) fun S5 => zlt (zw (x3 + 1)) fun v6 => zf_C_nameFew_40 (zf_C_nameFew_5 n) (x1) (v6) (x4) S5) else (zf_C_nameFew_40 (zf_C_nameFew_5 n) (x1) (x3) (x4) S)))
set_option maxHeartbeats 4000000 in
set_option maxRecDepth 100000 in
theorem zw_C_nameFew_5 {p : Program} {l : Launch} {e : Env} {s : State} {m : MethodId} {args : Array Value} {below : List Frame} {meth : Method} {c : Code} {B : zB} (C : CallFix p m c zb_C_nameFew 6 s args zT "IslandOffice$Crews") (hr : meth.sig.returnType = some .int) (hlk : meth.locks = false) (hK : zK B s) (hSt : zSt B s) (hap : zAp B) {res : Int} {S9 : Sg} : ∀ n : Nat, ∀ (x1 : Int) (x3 : Int) (x4 : Int) (S : Sg) (nx1 : zm x1) (nx3 : zn x3) (nx4 : zn x4), zf_C_nameFew_5 n x1 x3 x4 S = some (res, S9) → ∀ (H : Heap) (locs : List Loc) (ls : Array Slot), zW B S H → va_S B.2.2.2 s.heap H locs → lv_has ls 6 [(0, .ref (B.2.1 3 (0) (10))), (1, .long (zL (x1))), (3, .int (zI (x3))), (4, .int (zI (x4)))] → W p l e zm_C_nameFew s m args below meth c H locs 0 0 (MQ below (zQi B res S9) args s 0 0 B.2.2.2) (F0 m 5 ls []) := by
  intro n
  induction n with
  | zero =>
    intro x1 x3 x4 S nx1 nx3 nx4 hf H locs ls hW hS hl
    cases hf
  | succ n ih =>
    intro x1 x3 x4 S nx1 nx3 nx4 hf H locs ls hW hS hl
    rw [zf_C_nameFew_5] at hf
    refine lv_iload C.1 C.2.1 zd_C_nameFew_5 (lv_at hl 3 rfl) ?_
    refine zr_bipush C zd_C_nameFew_7 (by decide) ?_
    refine zr_icmp_ge (tgt := 46) C nx4 (znb rfl) zd_C_nameFew_9 (by decide) (fun c1 => ?_) (fun c1 => ?_)
    · rw [if_pos c1] at hf
      exact zw_C_nameFew_46 C hr hlk hK hSt hap   (x3) S nx3 hf _ _ _ hW hS (lv_sub hl [0, 2] rfl)
    · rw [if_neg c1] at hf
      refine lv_iload_n C.1 C.2.1 zd_C_nameFew_12 rfl (lv_at hl 2 rfl) ?_
      refine zr_bipush C zd_C_nameFew_13 (by decide) ?_
      refine zr_icmp_ge (tgt := 46) C nx3 (znb rfl) zd_C_nameFew_15 (by decide) (fun c2 => ?_) (fun c2 => ?_)
      · rw [if_pos c2] at hf
        exact zw_C_nameFew_46 C hr hlk hK hSt hap   (x3) S nx3 hf _ _ _ hW hS (lv_sub hl [0, 2] rfl)
      · rw [if_neg c2] at hf
        refine lv_lload_n C.1 C.2.1 zd_C_nameFew_18 rfl (lv_at hl 1 rfl) ?_
        refine lv_iload C.1 C.2.1 zd_C_nameFew_19 (lv_at hl 3 rfl) ?_
        refine zr_lshr C zd_C_nameFew_21 ?_
        refine zr_lconst (k := 1) C zd_C_nameFew_22 rfl ?_
        refine zr_land C zd_C_nameFew_23 ?_
        refine zr_lconst (k := 1) C zd_C_nameFew_24 rfl ?_
        refine zr_lcmp C (zm_lnd _ _) (zmb rfl) zd_C_nameFew_25 ?_
        refine zr_if_ne (tgt := 40) C (zn_cmp _ _) zd_C_nameFew_26 (by decide) (fun c3 => ?_) (fun c3 => ?_)
        · rw [if_neg c3] at hf
          exact zw_C_nameFew_40 C hr hlk hK hSt hap   (zf_C_nameFew_5 n) (ih) (x1) (x3) (x4) S nx1 nx3 nx4 hf _ _ _ hW hS (lv_sub hl [0, 1, 2, 3] rfl)
        · rw [if_pos c3] at hf
          refine lv_aload_n C.1 C.2.1 zd_C_nameFew_29 rfl (lv_at hl 0 rfl) ?_
          refine zg_C_who (r := 0) C hK hW (zvd_3 (by decide) (by decide)) zk_437 zd_C_nameFew_30 ?_
          refine lv_iload_n C.1 C.2.1 zd_C_nameFew_33 rfl (lv_at hl 2 rfl) ?_
          refine lv_iload C.1 C.2.1 zd_C_nameFew_34 (lv_at hl 3 rfl) ?_
          obtain ⟨h4, hf⟩ := zck_some hf
          obtain ⟨S5, eS5, hf⟩ := zlt_some hf
          refine ziast C hK hap hW hS (zvd_3 (by decide) (by decide)) (fun f => ze_3_13 B f (0)) (by decide) rfl nx4 h4 zd_C_nameFew_36 (fun H locs hW hS => ?_)
          rw [eS5] at hW
          obtain ⟨v6, ev6, hf⟩ := zlt_some hf
          have nv6 : zn v6 := by rw [← ev6]; exact zn_w _
          refine lv_iinc (v := zI v6) (lv' := [(3, .int (zI (v6))), (0, .ref (B.2.1 3 (0) (10))), (1, .long (zL (x1))), (4, .int (zI (x4)))]) C.1 C.2.1 zd_C_nameFew_37 hl (k := 2) rfl (by rw [← ev6, ← zI_add]; rfl) (by decide) rfl (fun ls hl => ?_)
          exact zw_C_nameFew_40 C hr hlk hK hSt hap   (zf_C_nameFew_5 n) (ih) (x1) (v6) (x4) S5 nx1 nv6 nx4 hf _ _ _ hW hS (lv_sub hl [1, 2, 0, 3] rfl)

def zf_C_nameFew (x1 : Int) (S : Sg) : Option (Int × Sg) :=
    zf_C_nameFew_5 4096 (x1) (0) (0) S
set_option maxHeartbeats 4000000 in
set_option maxRecDepth 100000 in
theorem zw_C_nameFew {p : Program} {l : Launch} {e : Env} {s : State} {m : MethodId} {args : Array Value} {below : List Frame} {meth : Method} {c : Code} {B : zB} (C : CallFix p m c zb_C_nameFew 6 s args zT "IslandOffice$Crews") (hr : meth.sig.returnType = some .int) (hlk : meth.locks = false) (hK : zK B s) (hSt : zSt B s) (hap : zAp B) {res : Int} {S9 : Sg} : ∀ (x1 : Int) (S : Sg) (nx1 : zm x1), zf_C_nameFew x1 S = some (res, S9) → ∀ (H : Heap) (locs : List Loc) (ls : Array Slot), zW B S H → va_S B.2.2.2 s.heap H locs → lv_has ls 6 [(0, .ref (B.2.1 3 (0) (10))), (1, .long (zL (x1)))] → W p l e zm_C_nameFew s m args below meth c H locs 0 0 (MQ below (zQi B res S9) args s 0 0 B.2.2.2) (F0 m 0 ls []) := by
  intro x1 S nx1 hf H locs ls hW hS hl
  unfold zf_C_nameFew at hf
  refine zr_iconst C zd_C_nameFew_0 ?_
  refine lv_istore_n (lv' := [(3, .int (zI (0))), (0, .ref (B.2.1 3 (0) (10))), (1, .long (zL (x1)))]) C.1 C.2.1 zd_C_nameFew_1 rfl hl (by decide) rfl (fun ls hl => ?_)
  refine zr_iconst C zd_C_nameFew_2 ?_
  refine lv_istore (lv' := [(4, .int (zI (0))), (3, .int (zI (0))), (0, .ref (B.2.1 3 (0) (10))), (1, .long (zL (x1)))]) C.1 C.2.1 zd_C_nameFew_3 hl (by decide) rfl (fun ls hl => ?_)
  exact zw_C_nameFew_5 C hr hlk hK hSt hap   4096 (x1) (0) (0) S nx1 (znb rfl) (znb rfl) hf _ _ _ hW hS (lv_sub hl [2, 3, 1, 0] rfl)

theorem zc_C_nameFew {l : Launch} {B : zB} (hap : zAp B) (x1 : Int) (S : Sg) (nx1 : zm x1) {res : Int} {S9 : Sg} (hf : zf_C_nameFew x1 S = some (res, S9)) : Met l zy_C_nameFew (Cond.code zy_C_nameFew zb_C_nameFew 6 (some .int) :: zT) zm_C_nameFew (zP B S [.ref (B.2.1 3 (0) (10)), .long (zL (x1))]) (zQi B res S9) 0 0 B.2.2.2 :=
  zmet (by decide) (Nat.le_of_ble_eq_true rfl) (fun p e s m args below meth c C hr hlk hK hSt hW ls hl => zw_C_nameFew C hr hlk hK hSt hap   x1 S nx1 hf _ _ _ hW va_S.rf hl)
/-! IslandOffice$Crews.peopleOf(II)J -/
abbrev zy_C_peopleOf : MethodName := ⟨"IslandOffice$Crews", "peopleOf", "(II)J"⟩
abbrev zb_C_peopleOf : ByteArray := prog_3_method_13_code
abbrev zm_C_peopleOf : Room := { frames := 0, cells := 0, slots := 0, locals := 0 }
theorem zq_C_peopleOf : zMy zy_C_peopleOf zb_C_peopleOf 6 (some .long) 2 := ⟨zk_844, zk_843, zs_24, zk_12, by decide, by decide, by decide +kernel⟩
theorem zd_C_peopleOf_0 : decode zb_C_peopleOf 0 = .ok (.lconst 0, 1) := by decide +kernel
theorem zd_C_peopleOf_1 : decode zb_C_peopleOf 1 = .ok (.lstore_n 3, 1) := by decide +kernel
theorem zd_C_peopleOf_2 : decode zb_C_peopleOf 2 = .ok (.iconst 0, 1) := by decide +kernel
theorem zd_C_peopleOf_3 : decode zb_C_peopleOf 3 = .ok (.istore 5, 2) := by decide +kernel
theorem zd_C_peopleOf_5 : decode zb_C_peopleOf 5 = .ok (.iload 5, 2) := by decide +kernel
theorem zd_C_peopleOf_7 : decode zb_C_peopleOf 7 = .ok (.iload_n 2, 1) := by decide +kernel
theorem zd_C_peopleOf_8 : decode zb_C_peopleOf 8 = .ok (.if_icmp .ge 31, 3) := by decide +kernel
theorem zd_C_peopleOf_11 : decode zb_C_peopleOf 11 = .ok (.iload_n 1, 1) := by decide +kernel
theorem zd_C_peopleOf_12 : decode zb_C_peopleOf 12 = .ok (.iload 5, 2) := by decide +kernel
theorem zd_C_peopleOf_14 : decode zb_C_peopleOf 14 = .ok (.ishr, 1) := by decide +kernel
theorem zd_C_peopleOf_15 : decode zb_C_peopleOf 15 = .ok (.iconst 1, 1) := by decide +kernel
theorem zd_C_peopleOf_16 : decode zb_C_peopleOf 16 = .ok (.iand, 1) := by decide +kernel
theorem zd_C_peopleOf_17 : decode zb_C_peopleOf 17 = .ok (.iconst 1, 1) := by decide +kernel
theorem zd_C_peopleOf_18 : decode zb_C_peopleOf 18 = .ok (.if_icmp .ne 15, 3) := by decide +kernel
theorem zd_C_peopleOf_21 : decode zb_C_peopleOf 21 = .ok (.lload_n 3, 1) := by decide +kernel
theorem zd_C_peopleOf_22 : decode zb_C_peopleOf 22 = .ok (.lconst 1, 1) := by decide +kernel
theorem zd_C_peopleOf_23 : decode zb_C_peopleOf 23 = .ok (.aload_n 0, 1) := by decide +kernel
theorem zd_C_peopleOf_24 : decode zb_C_peopleOf 24 = .ok (.getfield 32, 3) := by decide +kernel
theorem zd_C_peopleOf_27 : decode zb_C_peopleOf 27 = .ok (.iload 5, 2) := by decide +kernel
theorem zd_C_peopleOf_29 : decode zb_C_peopleOf 29 = .ok (.iaload, 1) := by decide +kernel
theorem zd_C_peopleOf_30 : decode zb_C_peopleOf 30 = .ok (.lshl, 1) := by decide +kernel
theorem zd_C_peopleOf_31 : decode zb_C_peopleOf 31 = .ok (.lor, 1) := by decide +kernel
theorem zd_C_peopleOf_32 : decode zb_C_peopleOf 32 = .ok (.lstore_n 3, 1) := by decide +kernel
theorem zd_C_peopleOf_33 : decode zb_C_peopleOf 33 = .ok (.iinc 5 1, 3) := by decide +kernel
theorem zd_C_peopleOf_36 : decode zb_C_peopleOf 36 = .ok (.goto (-31), 3) := by decide +kernel
theorem zd_C_peopleOf_39 : decode zb_C_peopleOf 39 = .ok (.lload_n 3, 1) := by decide +kernel
theorem zd_C_peopleOf_40 : decode zb_C_peopleOf 40 = .ok (.lreturn, 1) := by decide +kernel

def zf_C_peopleOf_33 (q5 : Int → Int → Int → Int → Sg → Option (Int × Sg)) (x1 : Int) (x2 : Int) (x3 : Int) (x5 : Int) (S : Sg) : Option (Int × Sg) :=
    zlt (zw (x5 + 1)) fun v1 => q5 (x1) (x2) (x3) (v1) S
set_option maxHeartbeats 4000000 in
set_option maxRecDepth 100000 in
theorem zw_C_peopleOf_33 {p : Program} {l : Launch} {e : Env} {s : State} {m : MethodId} {args : Array Value} {below : List Frame} {meth : Method} {c : Code} {B : zB} (C : CallFix p m c zb_C_peopleOf 6 s args zT "IslandOffice$Crews") (hr : meth.sig.returnType = some .long) (hlk : meth.locks = false) (hK : zK B s) (hSt : zSt B s) (hap : zAp B) {res : Int} {S9 : Sg} (q5 : Int → Int → Int → Int → Sg → Option (Int × Sg)) (hq5 : ∀ (x1 : Int) (x2 : Int) (x3 : Int) (x5 : Int) (S : Sg) (nx1 : zn x1) (nx2 : zn x2) (nx3 : zm x3) (nx5 : zn x5), q5 x1 x2 x3 x5 S = some (res, S9) → ∀ (H : Heap) (locs : List Loc) (ls : Array Slot), zW B S H → va_S B.2.2.2 s.heap H locs → lv_has ls 6 [(0, .ref (B.2.1 3 (0) (10))), (1, .int (zI (x1))), (2, .int (zI (x2))), (3, .long (zL (x3))), (5, .int (zI (x5)))] → W p l e zm_C_peopleOf s m args below meth c H locs 0 0 (MQ below (zQl B res S9) args s 0 0 B.2.2.2) (F0 m 5 ls [])) : ∀ (x1 : Int) (x2 : Int) (x3 : Int) (x5 : Int) (S : Sg) (nx1 : zn x1) (nx2 : zn x2) (nx3 : zm x3) (nx5 : zn x5), zf_C_peopleOf_33 q5 x1 x2 x3 x5 S = some (res, S9) → ∀ (H : Heap) (locs : List Loc) (ls : Array Slot), zW B S H → va_S B.2.2.2 s.heap H locs → lv_has ls 6 [(0, .ref (B.2.1 3 (0) (10))), (1, .int (zI (x1))), (2, .int (zI (x2))), (3, .long (zL (x3))), (5, .int (zI (x5)))] → W p l e zm_C_peopleOf s m args below meth c H locs 0 0 (MQ below (zQl B res S9) args s 0 0 B.2.2.2) (F0 m 33 ls []) := by
  intro x1 x2 x3 x5 S nx1 nx2 nx3 nx5 hf H locs ls hW hS hl
  unfold zf_C_peopleOf_33 at hf
  obtain ⟨v1, ev1, hf⟩ := zlt_some hf
  have nv1 : zn v1 := by rw [← ev1]; exact zn_w _
  refine lv_iinc (v := zI v1) (lv' := [(5, .int (zI (v1))), (0, .ref (B.2.1 3 (0) (10))), (1, .int (zI (x1))), (2, .int (zI (x2))), (3, .long (zL (x3)))]) C.1 C.2.1 zd_C_peopleOf_33 hl (k := 4) rfl (by rw [← ev1, ← zI_add]; rfl) (by decide) rfl (fun ls hl => ?_)
  refine lv_goto (tgt := 5) C.1 C.2.1 zd_C_peopleOf_36 (by decide) ?_
  exact hq5 (x1) (x2) (x3) (v1) S nx1 nx2 nx3 nv1 hf _ _ _ hW hS (lv_sub hl [1, 2, 3, 4, 0] rfl)

def zf_C_peopleOf_5 : Nat → Int → Int → Int → Int → Sg → Option (Int × Sg)
  | 0, _, _, _, _, _ => none
  | n + 1, x1, x2, x3, x5, S =>
    if x2 ≤ x5 then (some (x3, S)) else (if (zand (zshr x1 x5) 1) = 1 then (zck (0 ≤ x5 ∧ x5 < 9) <| zlt (zlor x3 (zlsl 1 (S 3 0 13 x5))) fun v4 => zf_C_peopleOf_33 (zf_C_peopleOf_5 n) (x1) (x2) (v4) (x5) S) else (zf_C_peopleOf_33 (zf_C_peopleOf_5 n) (x1) (x2) (x3) (x5) S))
set_option maxHeartbeats 4000000 in
set_option maxRecDepth 100000 in
theorem zw_C_peopleOf_5 {p : Program} {l : Launch} {e : Env} {s : State} {m : MethodId} {args : Array Value} {below : List Frame} {meth : Method} {c : Code} {B : zB} (C : CallFix p m c zb_C_peopleOf 6 s args zT "IslandOffice$Crews") (hr : meth.sig.returnType = some .long) (hlk : meth.locks = false) (hK : zK B s) (hSt : zSt B s) (hap : zAp B) {res : Int} {S9 : Sg} : ∀ n : Nat, ∀ (x1 : Int) (x2 : Int) (x3 : Int) (x5 : Int) (S : Sg) (nx1 : zn x1) (nx2 : zn x2) (nx3 : zm x3) (nx5 : zn x5), zf_C_peopleOf_5 n x1 x2 x3 x5 S = some (res, S9) → ∀ (H : Heap) (locs : List Loc) (ls : Array Slot), zW B S H → va_S B.2.2.2 s.heap H locs → lv_has ls 6 [(0, .ref (B.2.1 3 (0) (10))), (1, .int (zI (x1))), (2, .int (zI (x2))), (3, .long (zL (x3))), (5, .int (zI (x5)))] → W p l e zm_C_peopleOf s m args below meth c H locs 0 0 (MQ below (zQl B res S9) args s 0 0 B.2.2.2) (F0 m 5 ls []) := by
  intro n
  induction n with
  | zero =>
    intro x1 x2 x3 x5 S nx1 nx2 nx3 nx5 hf H locs ls hW hS hl
    cases hf
  | succ n ih =>
    intro x1 x2 x3 x5 S nx1 nx2 nx3 nx5 hf H locs ls hW hS hl
    rw [zf_C_peopleOf_5] at hf
    refine lv_iload C.1 C.2.1 zd_C_peopleOf_5 (lv_at hl 4 rfl) ?_
    refine lv_iload_n C.1 C.2.1 zd_C_peopleOf_7 rfl (lv_at hl 2 rfl) ?_
    refine zr_icmp_ge (tgt := 39) C nx5 nx2 zd_C_peopleOf_8 (by decide) (fun c1 => ?_) (fun c1 => ?_)
    · rw [if_pos c1] at hf
      refine lv_lload_n C.1 C.2.1 zd_C_peopleOf_39 rfl (lv_at hl 3 rfl) ?_
      cases hf
      exact zre_l C hr hlk hK hW hS nx3 zd_C_peopleOf_40
    · rw [if_neg c1] at hf
      refine lv_iload_n C.1 C.2.1 zd_C_peopleOf_11 rfl (lv_at hl 1 rfl) ?_
      refine lv_iload C.1 C.2.1 zd_C_peopleOf_12 (lv_at hl 4 rfl) ?_
      refine zr_ishr C zd_C_peopleOf_14 ?_
      refine zr_iconst C zd_C_peopleOf_15 ?_
      refine zr_iand C zd_C_peopleOf_16 ?_
      refine zr_iconst C zd_C_peopleOf_17 ?_
      refine zr_icmp_ne (tgt := 33) C (zn_and _ _) (znb rfl) zd_C_peopleOf_18 (by decide) (fun c2 => ?_) (fun c2 => ?_)
      · rw [if_neg c2] at hf
        exact zw_C_peopleOf_33 C hr hlk hK hSt hap   (zf_C_peopleOf_5 n) (ih) (x1) (x2) (x3) (x5) S nx1 nx2 nx3 nx5 hf _ _ _ hW hS (lv_sub hl [0, 1, 2, 3, 4] rfl)
      · rw [if_pos c2] at hf
        refine lv_lload_n C.1 C.2.1 zd_C_peopleOf_21 rfl (lv_at hl 3 rfl) ?_
        refine zr_lconst (k := 1) C zd_C_peopleOf_22 rfl ?_
        refine lv_aload_n C.1 C.2.1 zd_C_peopleOf_23 rfl (lv_at hl 0 rfl) ?_
        refine zg_C_who (r := 0) C hK hW (zvd_3 (by decide) (by decide)) zk_437 zd_C_peopleOf_24 ?_
        refine lv_iload C.1 C.2.1 zd_C_peopleOf_27 (lv_at hl 4 rfl) ?_
        obtain ⟨h3, hf⟩ := zck_some hf
        refine ziald C hK hW (zvd_3 (by decide) (by decide)) (fun f => ze_3_13 B f (0)) (by decide) h3 zd_C_peopleOf_29 ?_
        refine zr_lshl C zd_C_peopleOf_30 ?_
        refine zr_lor C zd_C_peopleOf_31 ?_
        obtain ⟨v4, ev4, hf⟩ := zlt_some hf
        have nv4 : zm v4 := by rw [← ev4]; exact (zm_lor _ _)
        rw [ev4]
        refine lv_lstore_n (lv' := [(3, .long (zL (v4))), (0, .ref (B.2.1 3 (0) (10))), (1, .int (zI (x1))), (2, .int (zI (x2))), (5, .int (zI (x5)))]) C.1 C.2.1 zd_C_peopleOf_32 rfl hl (by decide) rfl (fun ls hl => ?_)
        exact zw_C_peopleOf_33 C hr hlk hK hSt hap   (zf_C_peopleOf_5 n) (ih) (x1) (x2) (v4) (x5) S nx1 nx2 nv4 nx5 hf _ _ _ hW hS (lv_sub hl [1, 2, 3, 0, 4] rfl)

def zf_C_peopleOf (x1 : Int) (x2 : Int) (S : Sg) : Option (Int × Sg) :=
    zf_C_peopleOf_5 4096 (x1) (x2) (0) (0) S
set_option maxHeartbeats 4000000 in
set_option maxRecDepth 100000 in
theorem zw_C_peopleOf {p : Program} {l : Launch} {e : Env} {s : State} {m : MethodId} {args : Array Value} {below : List Frame} {meth : Method} {c : Code} {B : zB} (C : CallFix p m c zb_C_peopleOf 6 s args zT "IslandOffice$Crews") (hr : meth.sig.returnType = some .long) (hlk : meth.locks = false) (hK : zK B s) (hSt : zSt B s) (hap : zAp B) {res : Int} {S9 : Sg} : ∀ (x1 : Int) (x2 : Int) (S : Sg) (nx1 : zn x1) (nx2 : zn x2), zf_C_peopleOf x1 x2 S = some (res, S9) → ∀ (H : Heap) (locs : List Loc) (ls : Array Slot), zW B S H → va_S B.2.2.2 s.heap H locs → lv_has ls 6 [(0, .ref (B.2.1 3 (0) (10))), (1, .int (zI (x1))), (2, .int (zI (x2)))] → W p l e zm_C_peopleOf s m args below meth c H locs 0 0 (MQ below (zQl B res S9) args s 0 0 B.2.2.2) (F0 m 0 ls []) := by
  intro x1 x2 S nx1 nx2 hf H locs ls hW hS hl
  unfold zf_C_peopleOf at hf
  refine zr_lconst (k := 0) C zd_C_peopleOf_0 rfl ?_
  refine lv_lstore_n (lv' := [(3, .long (zL (0))), (0, .ref (B.2.1 3 (0) (10))), (1, .int (zI (x1))), (2, .int (zI (x2)))]) C.1 C.2.1 zd_C_peopleOf_1 rfl hl (by decide) rfl (fun ls hl => ?_)
  refine zr_iconst C zd_C_peopleOf_2 ?_
  refine lv_istore (lv' := [(5, .int (zI (0))), (3, .long (zL (0))), (0, .ref (B.2.1 3 (0) (10))), (1, .int (zI (x1))), (2, .int (zI (x2)))]) C.1 C.2.1 zd_C_peopleOf_3 hl (by decide) rfl (fun ls hl => ?_)
  exact zw_C_peopleOf_5 C hr hlk hK hSt hap   4096 (x1) (x2) (0) (0) S nx1 nx2 (zmb rfl) (znb rfl) hf _ _ _ hW hS (lv_sub hl [2, 3, 4, 1, 0] rfl)

theorem zc_C_peopleOf {l : Launch} {B : zB} (hap : zAp B) (x1 : Int) (x2 : Int) (S : Sg) (nx1 : zn x1) (nx2 : zn x2) {res : Int} {S9 : Sg} (hf : zf_C_peopleOf x1 x2 S = some (res, S9)) : Met l zy_C_peopleOf (Cond.code zy_C_peopleOf zb_C_peopleOf 6 (some .long) :: zT) zm_C_peopleOf (zP B S [.ref (B.2.1 3 (0) (10)), .int (zI (x1)), .int (zI (x2))]) (zQl B res S9) 0 0 B.2.2.2 :=
  zmet (by decide) (Nat.le_of_ble_eq_true rfl) (fun p e s m args below meth c C hr hlk hK hSt hW ls hl => zw_C_peopleOf C hr hlk hK hSt hap   x1 x2 S nx1 nx2 hf _ _ _ hW va_S.rf hl)
/-! IslandOffice$Crews.mostBySet(III)I -/
abbrev zy_C_mostBySet : MethodName := ⟨"IslandOffice$Crews", "mostBySet", "(III)I"⟩
abbrev zb_C_mostBySet : ByteArray := prog_3_method_11_code
abbrev zm_C_mostBySet : Room := { frames := 1, cells := 0, slots := 0, locals := 64 }
theorem zq_C_mostBySet : zMy zy_C_mostBySet zb_C_mostBySet 8 (some .int) 3 := ⟨zk_832, zk_831, zs_22, zk_12, by decide, by decide, by decide +kernel⟩
theorem zd_C_mostBySet_0 : decode zb_C_mostBySet 0 = .ok (.aload_n 0, 1) := by decide +kernel
theorem zd_C_mostBySet_1 : decode zb_C_mostBySet 1 = .ok (.getfield 40, 3) := by decide +kernel
theorem zd_C_mostBySet_4 : decode zb_C_mostBySet 4 = .ok (.iload_n 1, 1) := by decide +kernel
theorem zd_C_mostBySet_5 : decode zb_C_mostBySet 5 = .ok (.iconst 1, 1) := by decide +kernel
theorem zd_C_mostBySet_6 : decode zb_C_mostBySet 6 = .ok (.iadd, 1) := by decide +kernel
theorem zd_C_mostBySet_7 : decode zb_C_mostBySet 7 = .ok (.aaload, 1) := by decide +kernel
theorem zd_C_mostBySet_8 : decode zb_C_mostBySet 8 = .ok (.astore 4, 2) := by decide +kernel
theorem zd_C_mostBySet_10 : decode zb_C_mostBySet 10 = .ok (.iconst 0, 1) := by decide +kernel
theorem zd_C_mostBySet_11 : decode zb_C_mostBySet 11 = .ok (.istore 5, 2) := by decide +kernel
theorem zd_C_mostBySet_13 : decode zb_C_mostBySet 13 = .ok (.iload_n 3, 1) := by decide +kernel
theorem zd_C_mostBySet_14 : decode zb_C_mostBySet 14 = .ok (.ineg, 1) := by decide +kernel
theorem zd_C_mostBySet_15 : decode zb_C_mostBySet 15 = .ok (.iload_n 3, 1) := by decide +kernel
theorem zd_C_mostBySet_16 : decode zb_C_mostBySet 16 = .ok (.iand, 1) := by decide +kernel
theorem zd_C_mostBySet_17 : decode zb_C_mostBySet 17 = .ok (.istore 6, 2) := by decide +kernel
theorem zd_C_mostBySet_19 : decode zb_C_mostBySet 19 = .ok (.iconst 0, 1) := by decide +kernel
theorem zd_C_mostBySet_20 : decode zb_C_mostBySet 20 = .ok (.istore 7, 2) := by decide +kernel
theorem zd_C_mostBySet_22 : decode zb_C_mostBySet 22 = .ok (.iload 7, 2) := by decide +kernel
theorem zd_C_mostBySet_24 : decode zb_C_mostBySet 24 = .ok (.sipush 512, 3) := by decide +kernel
theorem zd_C_mostBySet_27 : decode zb_C_mostBySet 27 = .ok (.if_icmp .ge 55, 3) := by decide +kernel
theorem zd_C_mostBySet_30 : decode zb_C_mostBySet 30 = .ok (.iload 6, 2) := by decide +kernel
theorem zd_C_mostBySet_32 : decode zb_C_mostBySet 32 = .ok (.ifCond .eq 50, 3) := by decide +kernel
theorem zd_C_mostBySet_35 : decode zb_C_mostBySet 35 = .ok (.iload 6, 2) := by decide +kernel
theorem zd_C_mostBySet_37 : decode zb_C_mostBySet 37 = .ok (.invokestatic 129, 3) := by decide +kernel
theorem zd_C_mostBySet_40 : decode zb_C_mostBySet 40 = .ok (.aload_n 0, 1) := by decide +kernel
theorem zd_C_mostBySet_41 : decode zb_C_mostBySet 41 = .ok (.getfield 18, 3) := by decide +kernel
theorem zd_C_mostBySet_44 : decode zb_C_mostBySet 44 = .ok (.iload_n 1, 1) := by decide +kernel
theorem zd_C_mostBySet_45 : decode zb_C_mostBySet 45 = .ok (.iaload, 1) := by decide +kernel
theorem zd_C_mostBySet_46 : decode zb_C_mostBySet 46 = .ok (.if_icmp .ne 22, 3) := by decide +kernel
theorem zd_C_mostBySet_49 : decode zb_C_mostBySet 49 = .ok (.iload 5, 2) := by decide +kernel
theorem zd_C_mostBySet_51 : decode zb_C_mostBySet 51 = .ok (.iload_n 1, 1) := by decide +kernel
theorem zd_C_mostBySet_52 : decode zb_C_mostBySet 52 = .ok (.invokestatic 143, 3) := by decide +kernel
theorem zd_C_mostBySet_55 : decode zb_C_mostBySet 55 = .ok (.aload 4, 2) := by decide +kernel
theorem zd_C_mostBySet_57 : decode zb_C_mostBySet 57 = .ok (.iload_n 2, 1) := by decide +kernel
theorem zd_C_mostBySet_58 : decode zb_C_mostBySet 58 = .ok (.iload 6, 2) := by decide +kernel
theorem zd_C_mostBySet_60 : decode zb_C_mostBySet 60 = .ok (.ior, 1) := by decide +kernel
theorem zd_C_mostBySet_61 : decode zb_C_mostBySet 61 = .ok (.iaload, 1) := by decide +kernel
theorem zd_C_mostBySet_62 : decode zb_C_mostBySet 62 = .ok (.iadd, 1) := by decide +kernel
theorem zd_C_mostBySet_63 : decode zb_C_mostBySet 63 = .ok (.invokestatic 138, 3) := by decide +kernel
theorem zd_C_mostBySet_66 : decode zb_C_mostBySet 66 = .ok (.istore 5, 2) := by decide +kernel
theorem zd_C_mostBySet_68 : decode zb_C_mostBySet 68 = .ok (.iload 6, 2) := by decide +kernel
theorem zd_C_mostBySet_70 : decode zb_C_mostBySet 70 = .ok (.iload_n 3, 1) := by decide +kernel
theorem zd_C_mostBySet_71 : decode zb_C_mostBySet 71 = .ok (.isub, 1) := by decide +kernel
theorem zd_C_mostBySet_72 : decode zb_C_mostBySet 72 = .ok (.iload_n 3, 1) := by decide +kernel
theorem zd_C_mostBySet_73 : decode zb_C_mostBySet 73 = .ok (.iand, 1) := by decide +kernel
theorem zd_C_mostBySet_74 : decode zb_C_mostBySet 74 = .ok (.istore 6, 2) := by decide +kernel
theorem zd_C_mostBySet_76 : decode zb_C_mostBySet 76 = .ok (.iinc 7 1, 3) := by decide +kernel
theorem zd_C_mostBySet_79 : decode zb_C_mostBySet 79 = .ok (.goto (-57), 3) := by decide +kernel
theorem zd_C_mostBySet_82 : decode zb_C_mostBySet 82 = .ok (.iload 5, 2) := by decide +kernel
theorem zd_C_mostBySet_84 : decode zb_C_mostBySet 84 = .ok (.ireturn, 1) := by decide +kernel

def zf_C_mostBySet_68 (q22 : Int → Int → Int → Int → Int → Int → Int → Sg → Option (Int × Sg)) (x1 : Int) (x2 : Int) (x3 : Int) (y4 : Int) (x5 : Int) (x6 : Int) (x7 : Int) (S : Sg) : Option (Int × Sg) :=
    zlt (zand (zw (x6 - x3)) x3) fun v1 => zlt (zw (x7 + 1)) fun v2 => q22 (x1) (x2) (x3) (y4) (x5) (v1) (v2) S
set_option maxHeartbeats 4000000 in
set_option maxRecDepth 100000 in
theorem zw_C_mostBySet_68 {p : Program} {l : Launch} {e : Env} {s : State} {m : MethodId} {args : Array Value} {below : List Frame} {meth : Method} {c : Code} {B : zB} (C : CallFix p m c zb_C_mostBySet 8 s args zT "IslandOffice$Crews") (hr : meth.sig.returnType = some .int) (hlk : meth.locks = false) (hK : zK B s) (hSt : zSt B s) (hap : zAp B) {res : Int} {S9 : Sg} (q22 : Int → Int → Int → Int → Int → Int → Int → Sg → Option (Int × Sg)) (hq22 : ∀ (x1 : Int) (x2 : Int) (x3 : Int) (y4 : Int) (x5 : Int) (x6 : Int) (x7 : Int) (S : Sg) (nx1 : zn x1) (nx2 : zn x2) (nx3 : zn x3) (hy4 : 0 ≤ y4 ∧ y4 < 9) (nx5 : zn x5) (nx6 : zn x6) (nx7 : zn x7), q22 x1 x2 x3 y4 x5 x6 x7 S = some (res, S9) → ∀ (H : Heap) (locs : List Loc) (ls : Array Slot), zW B S H → va_S B.2.2.2 s.heap H locs → lv_has ls 8 [(0, .ref (B.2.1 3 (0) (10))), (1, .int (zI (x1))), (2, .int (zI (x2))), (3, .int (zI (x3))), (4, .ref (B.2.1 4 (y4) (0))), (5, .int (zI (x5))), (6, .int (zI (x6))), (7, .int (zI (x7)))] → W p l e zm_C_mostBySet s m args below meth c H locs 0 0 (MQ below (zQi B res S9) args s 0 0 B.2.2.2) (F0 m 22 ls [])) : ∀ (x1 : Int) (x2 : Int) (x3 : Int) (y4 : Int) (x5 : Int) (x6 : Int) (x7 : Int) (S : Sg) (nx1 : zn x1) (nx2 : zn x2) (nx3 : zn x3) (hy4 : 0 ≤ y4 ∧ y4 < 9) (nx5 : zn x5) (nx6 : zn x6) (nx7 : zn x7), zf_C_mostBySet_68 q22 x1 x2 x3 y4 x5 x6 x7 S = some (res, S9) → ∀ (H : Heap) (locs : List Loc) (ls : Array Slot), zW B S H → va_S B.2.2.2 s.heap H locs → lv_has ls 8 [(0, .ref (B.2.1 3 (0) (10))), (1, .int (zI (x1))), (2, .int (zI (x2))), (3, .int (zI (x3))), (4, .ref (B.2.1 4 (y4) (0))), (5, .int (zI (x5))), (6, .int (zI (x6))), (7, .int (zI (x7)))] → W p l e zm_C_mostBySet s m args below meth c H locs 0 0 (MQ below (zQi B res S9) args s 0 0 B.2.2.2) (F0 m 68 ls []) := by
  intro x1 x2 x3 y4 x5 x6 x7 S nx1 nx2 nx3 hy4 nx5 nx6 nx7 hf H locs ls hW hS hl
  unfold zf_C_mostBySet_68 at hf
  refine lv_iload C.1 C.2.1 zd_C_mostBySet_68 (lv_at hl 6 rfl) ?_
  refine lv_iload_n C.1 C.2.1 zd_C_mostBySet_70 rfl (lv_at hl 3 rfl) ?_
  refine zr_isub C zd_C_mostBySet_71 ?_
  refine lv_iload_n C.1 C.2.1 zd_C_mostBySet_72 rfl (lv_at hl 3 rfl) ?_
  refine zr_iand C zd_C_mostBySet_73 ?_
  obtain ⟨v1, ev1, hf⟩ := zlt_some hf
  have nv1 : zn v1 := by rw [← ev1]; exact (zn_and _ _)
  rw [ev1]
  refine lv_istore (lv' := [(6, .int (zI (v1))), (0, .ref (B.2.1 3 (0) (10))), (1, .int (zI (x1))), (2, .int (zI (x2))), (3, .int (zI (x3))), (4, .ref (B.2.1 4 (y4) (0))), (5, .int (zI (x5))), (7, .int (zI (x7)))]) C.1 C.2.1 zd_C_mostBySet_74 hl (by decide) rfl (fun ls hl => ?_)
  obtain ⟨v2, ev2, hf⟩ := zlt_some hf
  have nv2 : zn v2 := by rw [← ev2]; exact zn_w _
  refine lv_iinc (v := zI v2) (lv' := [(7, .int (zI (v2))), (6, .int (zI (v1))), (0, .ref (B.2.1 3 (0) (10))), (1, .int (zI (x1))), (2, .int (zI (x2))), (3, .int (zI (x3))), (4, .ref (B.2.1 4 (y4) (0))), (5, .int (zI (x5)))]) C.1 C.2.1 zd_C_mostBySet_76 hl (k := 7) rfl (by rw [← ev2, ← zI_add]; rfl) (by decide) rfl (fun ls hl => ?_)
  refine lv_goto (tgt := 22) C.1 C.2.1 zd_C_mostBySet_79 (by decide) ?_
  exact hq22 (x1) (x2) (x3) (y4) (x5) (v1) (v2) S nx1 nx2 nx3 hy4 nx5 nv1 nv2 hf _ _ _ hW hS (lv_sub hl [2, 3, 4, 5, 6, 7, 1, 0] rfl)

def zf_C_mostBySet_22 : Nat → Int → Int → Int → Int → Int → Int → Int → Sg → Option (Int × Sg)
  | 0, _, _, _, _, _, _, _, _ => none
  | n + 1, x1, x2, x3, y4, x5, x6, x7, S =>
    if 512 ≤ x7 then (some (x5, S)) else (if x6 = 0 then (some (x5, S)) else (zbd (zf_Ji_bitCount x6 S) fun a3 S4 => zck (0 ≤ x1 ∧ x1 < 8) <| if a3 = (S4 3 0 11 x1) then (zbd (zf_C_goodOf x1 S4) fun a7 S8 => zck (0 ≤ (zor x2 x6) ∧ (zor x2 x6) < 512) <| zlt (max x5 (zw (a7 + (S8 4 y4 0 (zor x2 x6))))) fun v10 => zf_C_mostBySet_68 (zf_C_mostBySet_22 n) (x1) (x2) (x3) (y4) (v10) (x6) (x7) S8) else (zf_C_mostBySet_68 (zf_C_mostBySet_22 n) (x1) (x2) (x3) (y4) (x5) (x6) (x7) S4)))
set_option maxHeartbeats 4000000 in
set_option maxRecDepth 100000 in
theorem zw_C_mostBySet_22 {p : Program} {l : Launch} {e : Env} {s : State} {m : MethodId} {args : Array Value} {below : List Frame} {meth : Method} {c : Code} {B : zB} (C : CallFix p m c zb_C_mostBySet 8 s args zT "IslandOffice$Crews") (hr : meth.sig.returnType = some .int) (hlk : meth.locks = false) (hK : zK B s) (hSt : zSt B s) (hap : zAp B) {res : Int} {S9 : Sg} : ∀ n : Nat, ∀ (x1 : Int) (x2 : Int) (x3 : Int) (y4 : Int) (x5 : Int) (x6 : Int) (x7 : Int) (S : Sg) (nx1 : zn x1) (nx2 : zn x2) (nx3 : zn x3) (hy4 : 0 ≤ y4 ∧ y4 < 9) (nx5 : zn x5) (nx6 : zn x6) (nx7 : zn x7), zf_C_mostBySet_22 n x1 x2 x3 y4 x5 x6 x7 S = some (res, S9) → ∀ (H : Heap) (locs : List Loc) (ls : Array Slot), zW B S H → va_S B.2.2.2 s.heap H locs → lv_has ls 8 [(0, .ref (B.2.1 3 (0) (10))), (1, .int (zI (x1))), (2, .int (zI (x2))), (3, .int (zI (x3))), (4, .ref (B.2.1 4 (y4) (0))), (5, .int (zI (x5))), (6, .int (zI (x6))), (7, .int (zI (x7)))] → W p l e zm_C_mostBySet s m args below meth c H locs 0 0 (MQ below (zQi B res S9) args s 0 0 B.2.2.2) (F0 m 22 ls []) := by
  intro n
  induction n with
  | zero =>
    intro x1 x2 x3 y4 x5 x6 x7 S nx1 nx2 nx3 hy4 nx5 nx6 nx7 hf H locs ls hW hS hl
    cases hf
  | succ n ih =>
    intro x1 x2 x3 y4 x5 x6 x7 S nx1 nx2 nx3 hy4 nx5 nx6 nx7 hf H locs ls hW hS hl
    rw [zf_C_mostBySet_22] at hf
    refine lv_iload C.1 C.2.1 zd_C_mostBySet_22 (lv_at hl 7 rfl) ?_
    refine zr_sipush C zd_C_mostBySet_24 (by decide) ?_
    refine zr_icmp_ge (tgt := 82) C nx7 (znb rfl) zd_C_mostBySet_27 (by decide) (fun c1 => ?_) (fun c1 => ?_)
    · rw [if_pos c1] at hf
      refine lv_iload C.1 C.2.1 zd_C_mostBySet_82 (lv_at hl 5 rfl) ?_
      cases hf
      exact zre_i C hr hlk hK hW hS nx5 zd_C_mostBySet_84
    · rw [if_neg c1] at hf
      refine lv_iload C.1 C.2.1 zd_C_mostBySet_30 (lv_at hl 6 rfl) ?_
      refine zr_if_eq (tgt := 82) C nx6 zd_C_mostBySet_32 (by decide) (fun c2 => ?_) (fun c2 => ?_)
      · rw [if_pos c2] at hf
        refine lv_iload C.1 C.2.1 zd_C_mostBySet_82 (lv_at hl 5 rfl) ?_
        cases hf
        exact zre_i C hr hlk hK hW hS nx5 zd_C_mostBySet_84
      · rw [if_neg c2] at hf
        refine lv_iload C.1 C.2.1 zd_C_mostBySet_35 (lv_at hl 6 rfl) ?_
        obtain ⟨a3, S4, ea3, hf⟩ := zbd_some hf
        refine zcSi (As := [.int (zI (x6))]) (rest := []) C hK hSt hW hS (zc_Ji_bitCount hap x6 S nx6 ea3) zq_Ji_bitCount zk_828 ⟨rfl, rfl, by decide, by decide⟩ ⟨Nat.zero_le _, Nat.zero_le _⟩ rfl hl.1 rfl (lv_room (Nat.le_of_ble_eq_true rfl)) zd_C_mostBySet_37 (fun na3 H locs hW hS => ?_)
        refine lv_aload_n C.1 C.2.1 zd_C_mostBySet_40 rfl (lv_at hl 0 rfl) ?_
        refine zg_C_hands (r := 0) C hK hW (zvd_3 (by decide) (by decide)) zk_433 zd_C_mostBySet_41 ?_
        refine lv_iload_n C.1 C.2.1 zd_C_mostBySet_44 rfl (lv_at hl 1 rfl) ?_
        obtain ⟨h5, hf⟩ := zck_some hf
        refine ziald C hK hW (zvd_3 (by decide) (by decide)) (fun f => ze_3_11 B f (0)) (by decide) h5 zd_C_mostBySet_45 ?_
        refine zr_icmp_ne (tgt := 68) C na3 (zWn hW _ _ _ _ rfl) zd_C_mostBySet_46 (by decide) (fun c6 => ?_) (fun c6 => ?_)
        · rw [if_neg c6] at hf
          exact zw_C_mostBySet_68 C hr hlk hK hSt hap   (zf_C_mostBySet_22 n) (ih) (x1) (x2) (x3) (y4) (x5) (x6) (x7) S4 nx1 nx2 nx3 hy4 nx5 nx6 nx7 hf _ _ _ hW hS (lv_sub hl [0, 1, 2, 3, 4, 5, 6, 7] rfl)
        · rw [if_pos c6] at hf
          refine lv_iload C.1 C.2.1 zd_C_mostBySet_49 (lv_at hl 5 rfl) ?_
          refine lv_iload_n C.1 C.2.1 zd_C_mostBySet_51 rfl (lv_at hl 1 rfl) ?_
          obtain ⟨a7, S8, ea7, hf⟩ := zbd_some hf
          refine zcSi (As := [.int (zI (x1))]) (rest := [.int (zI (x5))]) C hK hSt hW hS (zc_C_goodOf hap x1 S4 nx1 ea7) zq_C_goodOf zk_833 ⟨rfl, rfl, by decide, by decide⟩ ⟨Nat.zero_le _, Nat.zero_le _⟩ rfl hl.1 rfl (lv_room (Nat.le_of_ble_eq_true rfl)) zd_C_mostBySet_52 (fun na7 H locs hW hS => ?_)
          refine lv_aload C.1 C.2.1 zd_C_mostBySet_55 (lv_at hl 4 rfl) ?_
          refine lv_iload_n C.1 C.2.1 zd_C_mostBySet_57 rfl (lv_at hl 2 rfl) ?_
          refine lv_iload C.1 C.2.1 zd_C_mostBySet_58 (lv_at hl 6 rfl) ?_
          refine zr_ior C zd_C_mostBySet_60 ?_
          obtain ⟨h9, hf⟩ := zck_some hf
          refine ziald C hK hW (zvd_4 hy4 (by decide)) (fun f => ze_4_0 B f (y4)) (by decide) h9 zd_C_mostBySet_61 ?_
          refine zr_iadd C zd_C_mostBySet_62 ?_
          refine zr_max C hl.1 nx5 (zn_w _) zk_836 zk_678 zk_16 zk_679 (by decide) (Nat.le_of_ble_eq_true rfl) ⟨by decide, by decide⟩ zd_C_mostBySet_63 ?_
          obtain ⟨v10, ev10, hf⟩ := zlt_some hf
          have nv10 : zn v10 := by rw [← ev10]; exact (zn_max nx5 (zn_w _))
          rw [ev10]
          refine lv_istore (lv' := [(5, .int (zI (v10))), (0, .ref (B.2.1 3 (0) (10))), (1, .int (zI (x1))), (2, .int (zI (x2))), (3, .int (zI (x3))), (4, .ref (B.2.1 4 (y4) (0))), (6, .int (zI (x6))), (7, .int (zI (x7)))]) C.1 C.2.1 zd_C_mostBySet_66 hl (by decide) rfl (fun ls hl => ?_)
          exact zw_C_mostBySet_68 C hr hlk hK hSt hap   (zf_C_mostBySet_22 n) (ih) (x1) (x2) (x3) (y4) (v10) (x6) (x7) S8 nx1 nx2 nx3 hy4 nv10 nx6 nx7 hf _ _ _ hW hS (lv_sub hl [1, 2, 3, 4, 5, 0, 6, 7] rfl)

def zf_C_mostBySet (x1 : Int) (x2 : Int) (x3 : Int) (S : Sg) : Option (Int × Sg) :=
    zck (0 ≤ (zw (x1 + 1)) ∧ (zw (x1 + 1)) < 9) <| zlt (zand (zw (-x3)) x3) fun v2 => zf_C_mostBySet_22 4096 (x1) (x2) (x3) (zw (x1 + 1)) (0) (v2) (0) S
set_option maxHeartbeats 4000000 in
set_option maxRecDepth 100000 in
theorem zw_C_mostBySet {p : Program} {l : Launch} {e : Env} {s : State} {m : MethodId} {args : Array Value} {below : List Frame} {meth : Method} {c : Code} {B : zB} (C : CallFix p m c zb_C_mostBySet 8 s args zT "IslandOffice$Crews") (hr : meth.sig.returnType = some .int) (hlk : meth.locks = false) (hK : zK B s) (hSt : zSt B s) (hap : zAp B) {res : Int} {S9 : Sg} : ∀ (x1 : Int) (x2 : Int) (x3 : Int) (S : Sg) (nx1 : zn x1) (nx2 : zn x2) (nx3 : zn x3), zf_C_mostBySet x1 x2 x3 S = some (res, S9) → ∀ (H : Heap) (locs : List Loc) (ls : Array Slot), zW B S H → va_S B.2.2.2 s.heap H locs → lv_has ls 8 [(0, .ref (B.2.1 3 (0) (10))), (1, .int (zI (x1))), (2, .int (zI (x2))), (3, .int (zI (x3)))] → W p l e zm_C_mostBySet s m args below meth c H locs 0 0 (MQ below (zQi B res S9) args s 0 0 B.2.2.2) (F0 m 0 ls []) := by
  intro x1 x2 x3 S nx1 nx2 nx3 hf H locs ls hW hS hl
  unfold zf_C_mostBySet at hf
  refine lv_aload_n C.1 C.2.1 zd_C_mostBySet_0 rfl (lv_at hl 0 rfl) ?_
  refine zg_C_best (r := 0) C hK hW (zvd_3 (by decide) (by decide)) zk_439 zd_C_mostBySet_1 ?_
  refine lv_iload_n C.1 C.2.1 zd_C_mostBySet_4 rfl (lv_at hl 1 rfl) ?_
  refine zr_iconst C zd_C_mostBySet_5 ?_
  refine zr_iadd C zd_C_mostBySet_6 ?_
  obtain ⟨h1, hf⟩ := zck_some hf
  refine zaald (t0 := 4) C hK hW (zvd_3 (by decide) (by decide)) (fun f => ze_3_21 B f (0)) rfl rfl (by decide) h1 zd_C_mostBySet_7 (a := B.2.1 4 (zw (x1 + 1)) (0)) (by rw [Int.toNat_of_nonneg h1.1]) ?_
  refine lv_astore (lv' := [(4, .ref (B.2.1 4 (zw (x1 + 1)) (0))), (0, .ref (B.2.1 3 (0) (10))), (1, .int (zI (x1))), (2, .int (zI (x2))), (3, .int (zI (x3)))]) C.1 C.2.1 zd_C_mostBySet_8 hl (by decide) rfl (fun ls hl => ?_)
  refine zr_iconst C zd_C_mostBySet_10 ?_
  refine lv_istore (lv' := [(5, .int (zI (0))), (4, .ref (B.2.1 4 (zw (x1 + 1)) (0))), (0, .ref (B.2.1 3 (0) (10))), (1, .int (zI (x1))), (2, .int (zI (x2))), (3, .int (zI (x3)))]) C.1 C.2.1 zd_C_mostBySet_11 hl (by decide) rfl (fun ls hl => ?_)
  refine lv_iload_n C.1 C.2.1 zd_C_mostBySet_13 rfl (lv_at hl 5 rfl) ?_
  refine zr_ineg C zd_C_mostBySet_14 ?_
  refine lv_iload_n C.1 C.2.1 zd_C_mostBySet_15 rfl (lv_at hl 5 rfl) ?_
  refine zr_iand C zd_C_mostBySet_16 ?_
  obtain ⟨v2, ev2, hf⟩ := zlt_some hf
  have nv2 : zn v2 := by rw [← ev2]; exact (zn_and _ _)
  rw [ev2]
  refine lv_istore (lv' := [(6, .int (zI (v2))), (5, .int (zI (0))), (4, .ref (B.2.1 4 (zw (x1 + 1)) (0))), (0, .ref (B.2.1 3 (0) (10))), (1, .int (zI (x1))), (2, .int (zI (x2))), (3, .int (zI (x3)))]) C.1 C.2.1 zd_C_mostBySet_17 hl (by decide) rfl (fun ls hl => ?_)
  refine zr_iconst C zd_C_mostBySet_19 ?_
  refine lv_istore (lv' := [(7, .int (zI (0))), (6, .int (zI (v2))), (5, .int (zI (0))), (4, .ref (B.2.1 4 (zw (x1 + 1)) (0))), (0, .ref (B.2.1 3 (0) (10))), (1, .int (zI (x1))), (2, .int (zI (x2))), (3, .int (zI (x3)))]) C.1 C.2.1 zd_C_mostBySet_20 hl (by decide) rfl (fun ls hl => ?_)
  exact zw_C_mostBySet_22 C hr hlk hK hSt hap   4096 (x1) (x2) (x3) (zw (x1 + 1)) (0) (v2) (0) S nx1 nx2 nx3 h1 (znb rfl) nv2 (znb rfl) hf _ _ _ hW hS (lv_sub hl [4, 5, 6, 7, 3, 2, 1, 0] rfl)

theorem zc_C_mostBySet {l : Launch} {B : zB} (hap : zAp B) (x1 : Int) (x2 : Int) (x3 : Int) (S : Sg) (nx1 : zn x1) (nx2 : zn x2) (nx3 : zn x3) {res : Int} {S9 : Sg} (hf : zf_C_mostBySet x1 x2 x3 S = some (res, S9)) : Met l zy_C_mostBySet (Cond.code zy_C_mostBySet zb_C_mostBySet 8 (some .int) :: zT) zm_C_mostBySet (zP B S [.ref (B.2.1 3 (0) (10)), .int (zI (x1)), .int (zI (x2)), .int (zI (x3))]) (zQi B res S9) 0 0 B.2.2.2 :=
  zmet (by decide) (Nat.le_of_ble_eq_true rfl) (fun p e s m args below meth c C hr hlk hK hSt hW ls hl => zw_C_mostBySet C hr hlk hK hSt hap   x1 x2 x3 S nx1 nx2 nx3 hf _ _ _ hW va_S.rf hl)
/-! IslandOffice$Crews.weighAll(I)V -/
abbrev zy_C_weighAll : MethodName := ⟨"IslandOffice$Crews", "weighAll", "(I)V"⟩
abbrev zb_C_weighAll : ByteArray := prog_3_method_10_code
abbrev zm_C_weighAll : Room := { frames := 2, cells := 0, slots := 0, locals := 91 }
theorem zq_C_weighAll : zMy zy_C_weighAll zb_C_weighAll 7 (none) 1 := ⟨zk_827, zk_826, zs_21, zk_12, by decide, by decide, by decide +kernel⟩
theorem zd_C_weighAll_0 : decode zb_C_weighAll 0 = .ok (.iconst 0, 1) := by decide +kernel
theorem zd_C_weighAll_1 : decode zb_C_weighAll 1 = .ok (.istore_n 2, 1) := by decide +kernel
theorem zd_C_weighAll_2 : decode zb_C_weighAll 2 = .ok (.iload_n 2, 1) := by decide +kernel
theorem zd_C_weighAll_3 : decode zb_C_weighAll 3 = .ok (.iload_n 1, 1) := by decide +kernel
theorem zd_C_weighAll_4 : decode zb_C_weighAll 4 = .ok (.if_icmp .ge 26, 3) := by decide +kernel
theorem zd_C_weighAll_7 : decode zb_C_weighAll 7 = .ok (.iload_n 2, 1) := by decide +kernel
theorem zd_C_weighAll_8 : decode zb_C_weighAll 8 = .ok (.sipush 512, 3) := by decide +kernel
theorem zd_C_weighAll_11 : decode zb_C_weighAll 11 = .ok (.if_icmp .ge 19, 3) := by decide +kernel
theorem zd_C_weighAll_14 : decode zb_C_weighAll 14 = .ok (.aload_n 0, 1) := by decide +kernel
theorem zd_C_weighAll_15 : decode zb_C_weighAll 15 = .ok (.getfield 40, 3) := by decide +kernel
theorem zd_C_weighAll_18 : decode zb_C_weighAll 18 = .ok (.bipush 8, 2) := by decide +kernel
theorem zd_C_weighAll_20 : decode zb_C_weighAll 20 = .ok (.aaload, 1) := by decide +kernel
theorem zd_C_weighAll_21 : decode zb_C_weighAll 21 = .ok (.iload_n 2, 1) := by decide +kernel
theorem zd_C_weighAll_22 : decode zb_C_weighAll 22 = .ok (.iconst 0, 1) := by decide +kernel
theorem zd_C_weighAll_23 : decode zb_C_weighAll 23 = .ok (.iastore, 1) := by decide +kernel
theorem zd_C_weighAll_24 : decode zb_C_weighAll 24 = .ok (.iinc 2 1, 3) := by decide +kernel
theorem zd_C_weighAll_27 : decode zb_C_weighAll 27 = .ok (.goto (-25), 3) := by decide +kernel
theorem zd_C_weighAll_30 : decode zb_C_weighAll 30 = .ok (.bipush 7, 2) := by decide +kernel
theorem zd_C_weighAll_32 : decode zb_C_weighAll 32 = .ok (.istore_n 2, 1) := by decide +kernel
theorem zd_C_weighAll_33 : decode zb_C_weighAll 33 = .ok (.iload_n 2, 1) := by decide +kernel
theorem zd_C_weighAll_34 : decode zb_C_weighAll 34 = .ok (.ifCond .lt 110, 3) := by decide +kernel
theorem zd_C_weighAll_37 : decode zb_C_weighAll 37 = .ok (.aload_n 0, 1) := by decide +kernel
theorem zd_C_weighAll_38 : decode zb_C_weighAll 38 = .ok (.getfield 40, 3) := by decide +kernel
theorem zd_C_weighAll_41 : decode zb_C_weighAll 41 = .ok (.iload_n 2, 1) := by decide +kernel
theorem zd_C_weighAll_42 : decode zb_C_weighAll 42 = .ok (.iconst 1, 1) := by decide +kernel
theorem zd_C_weighAll_43 : decode zb_C_weighAll 43 = .ok (.iadd, 1) := by decide +kernel
theorem zd_C_weighAll_44 : decode zb_C_weighAll 44 = .ok (.aaload, 1) := by decide +kernel
theorem zd_C_weighAll_45 : decode zb_C_weighAll 45 = .ok (.astore_n 3, 1) := by decide +kernel
theorem zd_C_weighAll_46 : decode zb_C_weighAll 46 = .ok (.iconst 0, 1) := by decide +kernel
theorem zd_C_weighAll_47 : decode zb_C_weighAll 47 = .ok (.istore 4, 2) := by decide +kernel
theorem zd_C_weighAll_49 : decode zb_C_weighAll 49 = .ok (.iload 4, 2) := by decide +kernel
theorem zd_C_weighAll_51 : decode zb_C_weighAll 51 = .ok (.iload_n 1, 1) := by decide +kernel
theorem zd_C_weighAll_52 : decode zb_C_weighAll 52 = .ok (.if_icmp .ge 86, 3) := by decide +kernel
theorem zd_C_weighAll_55 : decode zb_C_weighAll 55 = .ok (.iload 4, 2) := by decide +kernel
theorem zd_C_weighAll_57 : decode zb_C_weighAll 57 = .ok (.sipush 512, 3) := by decide +kernel
theorem zd_C_weighAll_60 : decode zb_C_weighAll 60 = .ok (.if_icmp .ge 78, 3) := by decide +kernel
theorem zd_C_weighAll_63 : decode zb_C_weighAll 63 = .ok (.aload_n 0, 1) := by decide +kernel
theorem zd_C_weighAll_64 : decode zb_C_weighAll 64 = .ok (.getfield 35, 3) := by decide +kernel
theorem zd_C_weighAll_67 : decode zb_C_weighAll 67 = .ok (.iload_n 2, 1) := by decide +kernel
theorem zd_C_weighAll_68 : decode zb_C_weighAll 68 = .ok (.iaload, 1) := by decide +kernel
theorem zd_C_weighAll_69 : decode zb_C_weighAll 69 = .ok (.iload 4, 2) := by decide +kernel
theorem zd_C_weighAll_71 : decode zb_C_weighAll 71 = .ok (.iconst (-1), 1) := by decide +kernel
theorem zd_C_weighAll_72 : decode zb_C_weighAll 72 = .ok (.ixor, 1) := by decide +kernel
theorem zd_C_weighAll_73 : decode zb_C_weighAll 73 = .ok (.iand, 1) := by decide +kernel
theorem zd_C_weighAll_74 : decode zb_C_weighAll 74 = .ok (.istore 5, 2) := by decide +kernel
theorem zd_C_weighAll_76 : decode zb_C_weighAll 76 = .ok (.aload_n 3, 1) := by decide +kernel
theorem zd_C_weighAll_77 : decode zb_C_weighAll 77 = .ok (.iload 4, 2) := by decide +kernel
theorem zd_C_weighAll_79 : decode zb_C_weighAll 79 = .ok (.iaload, 1) := by decide +kernel
theorem zd_C_weighAll_80 : decode zb_C_weighAll 80 = .ok (.istore 6, 2) := by decide +kernel
theorem zd_C_weighAll_82 : decode zb_C_weighAll 82 = .ok (.aload_n 0, 1) := by decide +kernel
theorem zd_C_weighAll_83 : decode zb_C_weighAll 83 = .ok (.getfield 18, 3) := by decide +kernel
theorem zd_C_weighAll_86 : decode zb_C_weighAll 86 = .ok (.iload_n 2, 1) := by decide +kernel
theorem zd_C_weighAll_87 : decode zb_C_weighAll 87 = .ok (.iaload, 1) := by decide +kernel
theorem zd_C_weighAll_88 : decode zb_C_weighAll 88 = .ok (.ifCond .le 33, 3) := by decide +kernel
theorem zd_C_weighAll_91 : decode zb_C_weighAll 91 = .ok (.iload 5, 2) := by decide +kernel
theorem zd_C_weighAll_93 : decode zb_C_weighAll 93 = .ok (.invokestatic 129, 3) := by decide +kernel
theorem zd_C_weighAll_96 : decode zb_C_weighAll 96 = .ok (.aload_n 0, 1) := by decide +kernel
theorem zd_C_weighAll_97 : decode zb_C_weighAll 97 = .ok (.getfield 18, 3) := by decide +kernel
theorem zd_C_weighAll_100 : decode zb_C_weighAll 100 = .ok (.iload_n 2, 1) := by decide +kernel
theorem zd_C_weighAll_101 : decode zb_C_weighAll 101 = .ok (.iaload, 1) := by decide +kernel
theorem zd_C_weighAll_102 : decode zb_C_weighAll 102 = .ok (.if_icmp .lt 19, 3) := by decide +kernel
theorem zd_C_weighAll_105 : decode zb_C_weighAll 105 = .ok (.iload 6, 2) := by decide +kernel
theorem zd_C_weighAll_107 : decode zb_C_weighAll 107 = .ok (.aload_n 0, 1) := by decide +kernel
theorem zd_C_weighAll_108 : decode zb_C_weighAll 108 = .ok (.iload_n 2, 1) := by decide +kernel
theorem zd_C_weighAll_109 : decode zb_C_weighAll 109 = .ok (.iload 4, 2) := by decide +kernel
theorem zd_C_weighAll_111 : decode zb_C_weighAll 111 = .ok (.iload 5, 2) := by decide +kernel
theorem zd_C_weighAll_113 : decode zb_C_weighAll 113 = .ok (.invokevirtual 134, 3) := by decide +kernel
theorem zd_C_weighAll_116 : decode zb_C_weighAll 116 = .ok (.invokestatic 138, 3) := by decide +kernel
theorem zd_C_weighAll_119 : decode zb_C_weighAll 119 = .ok (.istore 6, 2) := by decide +kernel
theorem zd_C_weighAll_121 : decode zb_C_weighAll 121 = .ok (.aload_n 0, 1) := by decide +kernel
theorem zd_C_weighAll_122 : decode zb_C_weighAll 122 = .ok (.getfield 40, 3) := by decide +kernel
theorem zd_C_weighAll_125 : decode zb_C_weighAll 125 = .ok (.iload_n 2, 1) := by decide +kernel
theorem zd_C_weighAll_126 : decode zb_C_weighAll 126 = .ok (.aaload, 1) := by decide +kernel
theorem zd_C_weighAll_127 : decode zb_C_weighAll 127 = .ok (.iload 4, 2) := by decide +kernel
theorem zd_C_weighAll_129 : decode zb_C_weighAll 129 = .ok (.iload 6, 2) := by decide +kernel
theorem zd_C_weighAll_131 : decode zb_C_weighAll 131 = .ok (.iastore, 1) := by decide +kernel
theorem zd_C_weighAll_132 : decode zb_C_weighAll 132 = .ok (.iinc 4 1, 3) := by decide +kernel
theorem zd_C_weighAll_135 : decode zb_C_weighAll 135 = .ok (.goto (-86), 3) := by decide +kernel
theorem zd_C_weighAll_138 : decode zb_C_weighAll 138 = .ok (.iinc 2 (-1), 3) := by decide +kernel
theorem zd_C_weighAll_141 : decode zb_C_weighAll 141 = .ok (.goto (-108), 3) := by decide +kernel
theorem zd_C_weighAll_144 : decode zb_C_weighAll 144 = .ok (.return_, 1) := by decide +kernel

def zf_C_weighAll_138 (q33 : Int → Int → Sg → Option (Int × Sg)) (x1 : Int) (x2 : Int) (S : Sg) : Option (Int × Sg) :=
    zlt (zw (x2 + (-1))) fun v1 => q33 (x1) (v1) S
set_option maxHeartbeats 4000000 in
set_option maxRecDepth 100000 in
theorem zw_C_weighAll_138 {p : Program} {l : Launch} {e : Env} {s : State} {m : MethodId} {args : Array Value} {below : List Frame} {meth : Method} {c : Code} {B : zB} (C : CallFix p m c zb_C_weighAll 7 s args zT "IslandOffice$Crews") (hr : meth.sig.returnType = none) (hlk : meth.locks = false) (hK : zK B s) (hSt : zSt B s) (hap : zAp B) {res : Int} {S9 : Sg} (q33 : Int → Int → Sg → Option (Int × Sg)) (hq33 : ∀ (x1 : Int) (x2 : Int) (S : Sg) (nx1 : zn x1) (nx2 : zn x2), q33 x1 x2 S = some (res, S9) → ∀ (H : Heap) (locs : List Loc) (ls : Array Slot), zW B S H → va_S B.2.2.2 s.heap H locs → lv_has ls 7 [(0, .ref (B.2.1 3 (0) (10))), (1, .int (zI (x1))), (2, .int (zI (x2)))] → W p l e zm_C_weighAll s m args below meth c H locs 0 0 (MQ below (zQv B S9) args s 0 0 B.2.2.2) (F0 m 33 ls [])) : ∀ (x1 : Int) (x2 : Int) (S : Sg) (nx1 : zn x1) (nx2 : zn x2), zf_C_weighAll_138 q33 x1 x2 S = some (res, S9) → ∀ (H : Heap) (locs : List Loc) (ls : Array Slot), zW B S H → va_S B.2.2.2 s.heap H locs → lv_has ls 7 [(0, .ref (B.2.1 3 (0) (10))), (1, .int (zI (x1))), (2, .int (zI (x2)))] → W p l e zm_C_weighAll s m args below meth c H locs 0 0 (MQ below (zQv B S9) args s 0 0 B.2.2.2) (F0 m 138 ls []) := by
  intro x1 x2 S nx1 nx2 hf H locs ls hW hS hl
  unfold zf_C_weighAll_138 at hf
  obtain ⟨v1, ev1, hf⟩ := zlt_some hf
  have nv1 : zn v1 := by rw [← ev1]; exact zn_w _
  refine lv_iinc (v := zI v1) (lv' := [(2, .int (zI (v1))), (0, .ref (B.2.1 3 (0) (10))), (1, .int (zI (x1)))]) C.1 C.2.1 zd_C_weighAll_138 hl (k := 2) rfl (by rw [← ev1, ← zI_add]; rfl) (by decide) rfl (fun ls hl => ?_)
  refine lv_goto (tgt := 33) C.1 C.2.1 zd_C_weighAll_141 (by decide) ?_
  exact hq33 (x1) (v1) S nx1 nv1 hf _ _ _ hW hS (lv_sub hl [1, 2, 0] rfl)

def zf_C_weighAll_121 (q33 : Int → Int → Sg → Option (Int × Sg)) (q49 : Int → Int → Int → Int → Sg → Option (Int × Sg)) (x1 : Int) (x2 : Int) (y3 : Int) (x4 : Int) (x6 : Int) (S : Sg) : Option (Int × Sg) :=
    zck (0 ≤ x2 ∧ x2 < 9) <| zck (0 ≤ x4 ∧ x4 < 512) <| zlt (zu S 4 x2 0 x4 x6) fun S3 => zlt (zw (x4 + 1)) fun v4 => q49 (x1) (x2) (y3) (v4) S3
set_option maxHeartbeats 4000000 in
set_option maxRecDepth 100000 in
theorem zw_C_weighAll_121 {p : Program} {l : Launch} {e : Env} {s : State} {m : MethodId} {args : Array Value} {below : List Frame} {meth : Method} {c : Code} {B : zB} (C : CallFix p m c zb_C_weighAll 7 s args zT "IslandOffice$Crews") (hr : meth.sig.returnType = none) (hlk : meth.locks = false) (hK : zK B s) (hSt : zSt B s) (hap : zAp B) {res : Int} {S9 : Sg} (q33 : Int → Int → Sg → Option (Int × Sg)) (hq33 : ∀ (x1 : Int) (x2 : Int) (S : Sg) (nx1 : zn x1) (nx2 : zn x2), q33 x1 x2 S = some (res, S9) → ∀ (H : Heap) (locs : List Loc) (ls : Array Slot), zW B S H → va_S B.2.2.2 s.heap H locs → lv_has ls 7 [(0, .ref (B.2.1 3 (0) (10))), (1, .int (zI (x1))), (2, .int (zI (x2)))] → W p l e zm_C_weighAll s m args below meth c H locs 0 0 (MQ below (zQv B S9) args s 0 0 B.2.2.2) (F0 m 33 ls [])) (q49 : Int → Int → Int → Int → Sg → Option (Int × Sg)) (hq49 : ∀ (x1 : Int) (x2 : Int) (y3 : Int) (x4 : Int) (S : Sg) (nx1 : zn x1) (nx2 : zn x2) (hy3 : 0 ≤ y3 ∧ y3 < 9) (nx4 : zn x4), q49 x1 x2 y3 x4 S = some (res, S9) → ∀ (H : Heap) (locs : List Loc) (ls : Array Slot), zW B S H → va_S B.2.2.2 s.heap H locs → lv_has ls 7 [(0, .ref (B.2.1 3 (0) (10))), (1, .int (zI (x1))), (2, .int (zI (x2))), (3, .ref (B.2.1 4 (y3) (0))), (4, .int (zI (x4)))] → W p l e zm_C_weighAll s m args below meth c H locs 0 0 (MQ below (zQv B S9) args s 0 0 B.2.2.2) (F0 m 49 ls [])) : ∀ (x1 : Int) (x2 : Int) (y3 : Int) (x4 : Int) (x6 : Int) (S : Sg) (nx1 : zn x1) (nx2 : zn x2) (hy3 : 0 ≤ y3 ∧ y3 < 9) (nx4 : zn x4) (nx6 : zn x6), zf_C_weighAll_121 q33 q49 x1 x2 y3 x4 x6 S = some (res, S9) → ∀ (H : Heap) (locs : List Loc) (ls : Array Slot), zW B S H → va_S B.2.2.2 s.heap H locs → lv_has ls 7 [(0, .ref (B.2.1 3 (0) (10))), (1, .int (zI (x1))), (2, .int (zI (x2))), (3, .ref (B.2.1 4 (y3) (0))), (4, .int (zI (x4))), (6, .int (zI (x6)))] → W p l e zm_C_weighAll s m args below meth c H locs 0 0 (MQ below (zQv B S9) args s 0 0 B.2.2.2) (F0 m 121 ls []) := by
  intro x1 x2 y3 x4 x6 S nx1 nx2 hy3 nx4 nx6 hf H locs ls hW hS hl
  unfold zf_C_weighAll_121 at hf
  refine lv_aload_n C.1 C.2.1 zd_C_weighAll_121 rfl (lv_at hl 0 rfl) ?_
  refine zg_C_best (r := 0) C hK hW (zvd_3 (by decide) (by decide)) zk_439 zd_C_weighAll_122 ?_
  refine lv_iload_n C.1 C.2.1 zd_C_weighAll_125 rfl (lv_at hl 2 rfl) ?_
  obtain ⟨h1, hf⟩ := zck_some hf
  refine zaald (t0 := 4) C hK hW (zvd_3 (by decide) (by decide)) (fun f => ze_3_21 B f (0)) rfl rfl (by decide) h1 zd_C_weighAll_126 (a := B.2.1 4 (x2) (0)) (by rw [Int.toNat_of_nonneg h1.1]) ?_
  refine lv_iload C.1 C.2.1 zd_C_weighAll_127 (lv_at hl 4 rfl) ?_
  refine lv_iload C.1 C.2.1 zd_C_weighAll_129 (lv_at hl 5 rfl) ?_
  obtain ⟨h2, hf⟩ := zck_some hf
  obtain ⟨S3, eS3, hf⟩ := zlt_some hf
  refine ziast C hK hap hW hS (zvd_4 h1 (by decide)) (fun f => ze_4_0 B f (x2)) (by decide) rfl nx6 h2 zd_C_weighAll_131 (fun H locs hW hS => ?_)
  rw [eS3] at hW
  obtain ⟨v4, ev4, hf⟩ := zlt_some hf
  have nv4 : zn v4 := by rw [← ev4]; exact zn_w _
  refine lv_iinc (v := zI v4) (lv' := [(4, .int (zI (v4))), (0, .ref (B.2.1 3 (0) (10))), (1, .int (zI (x1))), (2, .int (zI (x2))), (3, .ref (B.2.1 4 (y3) (0))), (6, .int (zI (x6)))]) C.1 C.2.1 zd_C_weighAll_132 hl (k := 4) rfl (by rw [← ev4, ← zI_add]; rfl) (by decide) rfl (fun ls hl => ?_)
  refine lv_goto (tgt := 49) C.1 C.2.1 zd_C_weighAll_135 (by decide) ?_
  exact hq49 (x1) (x2) (y3) (v4) S3 nx1 nx2 hy3 nv4 hf _ _ _ hW hS (lv_sub hl [1, 2, 3, 4, 0] rfl)

def zf_C_weighAll_49 (q33 : Int → Int → Sg → Option (Int × Sg)) : Nat → Int → Int → Int → Int → Sg → Option (Int × Sg)
  | 0, _, _, _, _, _ => none
  | n + 1, x1, x2, y3, x4, S =>
    if x1 ≤ x4 then (zf_C_weighAll_138 q33 (x1) (x2) S) else (if 512 ≤ x4 then (zf_C_weighAll_138 q33 (x1) (x2) S) else (zck (0 ≤ x2 ∧ x2 < 8) <| zlt (zand (S 3 0 14 x2) (zxor x4 (-1))) fun v4 => zck (0 ≤ x4 ∧ x4 < 512) <| zlt (S 4 y3 0 x4) fun v6 => if (S 3 0 11 x2) ≤ 0 then (zf_C_weighAll_121 q33 (zf_C_weighAll_49 q33 n) (x1) (x2) (y3) (x4) (v6) S) else (zbd (zf_Ji_bitCount v4 S) fun a8 S9 => if a8 < (S9 3 0 11 x2) then (zf_C_weighAll_121 q33 (zf_C_weighAll_49 q33 n) (x1) (x2) (y3) (x4) (v6) S9) else (zbd (zf_C_mostBySet x2 x4 v4 S9) fun a11 S12 => zlt (max v6 a11) fun v13 => zf_C_weighAll_121 q33 (zf_C_weighAll_49 q33 n) (x1) (x2) (y3) (x4) (v13) S12))))
set_option maxHeartbeats 4000000 in
set_option maxRecDepth 100000 in
theorem zw_C_weighAll_49 {p : Program} {l : Launch} {e : Env} {s : State} {m : MethodId} {args : Array Value} {below : List Frame} {meth : Method} {c : Code} {B : zB} (C : CallFix p m c zb_C_weighAll 7 s args zT "IslandOffice$Crews") (hr : meth.sig.returnType = none) (hlk : meth.locks = false) (hK : zK B s) (hSt : zSt B s) (hap : zAp B) {res : Int} {S9 : Sg} (q33 : Int → Int → Sg → Option (Int × Sg)) (hq33 : ∀ (x1 : Int) (x2 : Int) (S : Sg) (nx1 : zn x1) (nx2 : zn x2), q33 x1 x2 S = some (res, S9) → ∀ (H : Heap) (locs : List Loc) (ls : Array Slot), zW B S H → va_S B.2.2.2 s.heap H locs → lv_has ls 7 [(0, .ref (B.2.1 3 (0) (10))), (1, .int (zI (x1))), (2, .int (zI (x2)))] → W p l e zm_C_weighAll s m args below meth c H locs 0 0 (MQ below (zQv B S9) args s 0 0 B.2.2.2) (F0 m 33 ls [])) : ∀ n : Nat, ∀ (x1 : Int) (x2 : Int) (y3 : Int) (x4 : Int) (S : Sg) (nx1 : zn x1) (nx2 : zn x2) (hy3 : 0 ≤ y3 ∧ y3 < 9) (nx4 : zn x4), zf_C_weighAll_49 q33 n x1 x2 y3 x4 S = some (res, S9) → ∀ (H : Heap) (locs : List Loc) (ls : Array Slot), zW B S H → va_S B.2.2.2 s.heap H locs → lv_has ls 7 [(0, .ref (B.2.1 3 (0) (10))), (1, .int (zI (x1))), (2, .int (zI (x2))), (3, .ref (B.2.1 4 (y3) (0))), (4, .int (zI (x4)))] → W p l e zm_C_weighAll s m args below meth c H locs 0 0 (MQ below (zQv B S9) args s 0 0 B.2.2.2) (F0 m 49 ls []) := by
  intro n
  induction n with
  | zero =>
    intro x1 x2 y3 x4 S nx1 nx2 hy3 nx4 hf H locs ls hW hS hl
    cases hf
  | succ n ih =>
    intro x1 x2 y3 x4 S nx1 nx2 hy3 nx4 hf H locs ls hW hS hl
    rw [zf_C_weighAll_49] at hf
    refine lv_iload C.1 C.2.1 zd_C_weighAll_49 (lv_at hl 4 rfl) ?_
    refine lv_iload_n C.1 C.2.1 zd_C_weighAll_51 rfl (lv_at hl 1 rfl) ?_
    refine zr_icmp_ge (tgt := 138) C nx4 nx1 zd_C_weighAll_52 (by decide) (fun c1 => ?_) (fun c1 => ?_)
    · rw [if_pos c1] at hf
      exact zw_C_weighAll_138 C hr hlk hK hSt hap   q33 hq33 (x1) (x2) S nx1 nx2 hf _ _ _ hW hS (lv_sub hl [0, 1, 2] rfl)
    · rw [if_neg c1] at hf
      refine lv_iload C.1 C.2.1 zd_C_weighAll_55 (lv_at hl 4 rfl) ?_
      refine zr_sipush C zd_C_weighAll_57 (by decide) ?_
      refine zr_icmp_ge (tgt := 138) C nx4 (znb rfl) zd_C_weighAll_60 (by decide) (fun c2 => ?_) (fun c2 => ?_)
      · rw [if_pos c2] at hf
        exact zw_C_weighAll_138 C hr hlk hK hSt hap   q33 hq33 (x1) (x2) S nx1 nx2 hf _ _ _ hW hS (lv_sub hl [0, 1, 2] rfl)
      · rw [if_neg c2] at hf
        refine lv_aload_n C.1 C.2.1 zd_C_weighAll_63 rfl (lv_at hl 0 rfl) ?_
        refine zg_C_few (r := 0) C hK hW (zvd_3 (by decide) (by decide)) zk_438 zd_C_weighAll_64 ?_
        refine lv_iload_n C.1 C.2.1 zd_C_weighAll_67 rfl (lv_at hl 2 rfl) ?_
        obtain ⟨h3, hf⟩ := zck_some hf
        refine ziald C hK hW (zvd_3 (by decide) (by decide)) (fun f => ze_3_14 B f (0)) (by decide) h3 zd_C_weighAll_68 ?_
        refine lv_iload C.1 C.2.1 zd_C_weighAll_69 (lv_at hl 4 rfl) ?_
        refine zr_iconst C zd_C_weighAll_71 ?_
        refine zr_ixor C zd_C_weighAll_72 ?_
        refine zr_iand C zd_C_weighAll_73 ?_
        obtain ⟨v4, ev4, hf⟩ := zlt_some hf
        have nv4 : zn v4 := by rw [← ev4]; exact (zn_and _ _)
        rw [ev4]
        refine lv_istore (lv' := [(5, .int (zI (v4))), (0, .ref (B.2.1 3 (0) (10))), (1, .int (zI (x1))), (2, .int (zI (x2))), (3, .ref (B.2.1 4 (y3) (0))), (4, .int (zI (x4)))]) C.1 C.2.1 zd_C_weighAll_74 hl (by decide) rfl (fun ls hl => ?_)
        refine lv_aload_n C.1 C.2.1 zd_C_weighAll_76 rfl (lv_at hl 4 rfl) ?_
        refine lv_iload C.1 C.2.1 zd_C_weighAll_77 (lv_at hl 5 rfl) ?_
        obtain ⟨h5, hf⟩ := zck_some hf
        refine ziald C hK hW (zvd_4 hy3 (by decide)) (fun f => ze_4_0 B f (y3)) (by decide) h5 zd_C_weighAll_79 ?_
        obtain ⟨v6, ev6, hf⟩ := zlt_some hf
        have nv6 : zn v6 := by rw [← ev6]; exact (zWn hW _ _ _ _ rfl)
        rw [ev6]
        refine lv_istore (lv' := [(6, .int (zI (v6))), (5, .int (zI (v4))), (0, .ref (B.2.1 3 (0) (10))), (1, .int (zI (x1))), (2, .int (zI (x2))), (3, .ref (B.2.1 4 (y3) (0))), (4, .int (zI (x4)))]) C.1 C.2.1 zd_C_weighAll_80 hl (by decide) rfl (fun ls hl => ?_)
        refine lv_aload_n C.1 C.2.1 zd_C_weighAll_82 rfl (lv_at hl 2 rfl) ?_
        refine zg_C_hands (r := 0) C hK hW (zvd_3 (by decide) (by decide)) zk_433 zd_C_weighAll_83 ?_
        refine lv_iload_n C.1 C.2.1 zd_C_weighAll_86 rfl (lv_at hl 4 rfl) ?_
        refine ziald C hK hW (zvd_3 (by decide) (by decide)) (fun f => ze_3_11 B f (0)) (by decide) h3 zd_C_weighAll_87 ?_
        refine zr_if_le (tgt := 121) C (zWn hW _ _ _ _ rfl) zd_C_weighAll_88 (by decide) (fun c7 => ?_) (fun c7 => ?_)
        · rw [if_pos c7] at hf
          exact zw_C_weighAll_121 C hr hlk hK hSt hap   q33 hq33 (zf_C_weighAll_49 q33 n) (ih) (x1) (x2) (y3) (x4) (v6) S nx1 nx2 hy3 nx4 nv6 hf _ _ _ hW hS (lv_sub hl [2, 3, 4, 5, 6, 0] rfl)
        · rw [if_neg c7] at hf
          refine lv_iload C.1 C.2.1 zd_C_weighAll_91 (lv_at hl 1 rfl) ?_
          obtain ⟨a8, S9, ea8, hf⟩ := zbd_some hf
          refine zcSi (As := [.int (zI (v4))]) (rest := []) C hK hSt hW hS (zc_Ji_bitCount hap v4 S nv4 ea8) zq_Ji_bitCount zk_828 ⟨rfl, rfl, by decide, by decide⟩ ⟨Nat.zero_le _, Nat.zero_le _⟩ rfl hl.1 rfl (lv_room (Nat.le_of_ble_eq_true rfl)) zd_C_weighAll_93 (fun na8 H locs hW hS => ?_)
          refine lv_aload_n C.1 C.2.1 zd_C_weighAll_96 rfl (lv_at hl 2 rfl) ?_
          refine zg_C_hands (r := 0) C hK hW (zvd_3 (by decide) (by decide)) zk_433 zd_C_weighAll_97 ?_
          refine lv_iload_n C.1 C.2.1 zd_C_weighAll_100 rfl (lv_at hl 4 rfl) ?_
          refine ziald C hK hW (zvd_3 (by decide) (by decide)) (fun f => ze_3_11 B f (0)) (by decide) h3 zd_C_weighAll_101 ?_
          refine zr_icmp_lt (tgt := 121) C na8 (zWn hW _ _ _ _ rfl) zd_C_weighAll_102 (by decide) (fun c10 => ?_) (fun c10 => ?_)
          · rw [if_pos c10] at hf
            exact zw_C_weighAll_121 C hr hlk hK hSt hap   q33 hq33 (zf_C_weighAll_49 q33 n) (ih) (x1) (x2) (y3) (x4) (v6) S9 nx1 nx2 hy3 nx4 nv6 hf _ _ _ hW hS (lv_sub hl [2, 3, 4, 5, 6, 0] rfl)
          · rw [if_neg c10] at hf
            refine lv_iload C.1 C.2.1 zd_C_weighAll_105 (lv_at hl 0 rfl) ?_
            refine lv_aload_n C.1 C.2.1 zd_C_weighAll_107 rfl (lv_at hl 2 rfl) ?_
            refine lv_iload_n C.1 C.2.1 zd_C_weighAll_108 rfl (lv_at hl 4 rfl) ?_
            refine lv_iload C.1 C.2.1 zd_C_weighAll_109 (lv_at hl 6 rfl) ?_
            refine lv_iload C.1 C.2.1 zd_C_weighAll_111 (lv_at hl 1 rfl) ?_
            obtain ⟨a11, S12, ea11, hf⟩ := zbd_some hf
            refine zcVi (As := [.int (zI (x2)), .int (zI (x4)), .int (zI (v4))]) (rest := [.int (zI (v6))]) C hK hSt hW hS (zc_C_mostBySet hap x2 x4 v4 S9 nx2 nx4 nv4 ea11) zq_C_mostBySet zk_829 (zrecv hK hW (zvd_3 (by decide) (by decide)) (ze_3_10 B _ (0)) rfl) ⟨rfl, rfl, by decide, by decide⟩ ⟨Nat.zero_le _, Nat.zero_le _⟩ rfl hl.1 rfl (lv_room (Nat.le_of_ble_eq_true rfl)) zd_C_weighAll_113 (fun na11 H locs hW hS => ?_)
            refine zr_max C hl.1 nv6 na11 zk_836 zk_678 zk_16 zk_679 (by decide) (Nat.le_of_ble_eq_true rfl) ⟨by decide, by decide⟩ zd_C_weighAll_116 ?_
            obtain ⟨v13, ev13, hf⟩ := zlt_some hf
            have nv13 : zn v13 := by rw [← ev13]; exact (zn_max nv6 na11)
            rw [ev13]
            refine lv_istore (lv' := [(6, .int (zI (v13))), (5, .int (zI (v4))), (0, .ref (B.2.1 3 (0) (10))), (1, .int (zI (x1))), (2, .int (zI (x2))), (3, .ref (B.2.1 4 (y3) (0))), (4, .int (zI (x4)))]) C.1 C.2.1 zd_C_weighAll_119 hl (by decide) rfl (fun ls hl => ?_)
            exact zw_C_weighAll_121 C hr hlk hK hSt hap   q33 hq33 (zf_C_weighAll_49 q33 n) (ih) (x1) (x2) (y3) (x4) (v13) S12 nx1 nx2 hy3 nx4 nv13 hf _ _ _ hW hS (lv_sub hl [2, 3, 4, 5, 6, 0] rfl)

def zf_C_weighAll_33 : Nat → Int → Int → Sg → Option (Int × Sg)
  | 0, _, _, _ => none
  | n + 1, x1, x2, S =>
    if x2 < 0 then (some (0, S)) else (zck (0 ≤ (zw (x2 + 1)) ∧ (zw (x2 + 1)) < 9) <| zf_C_weighAll_49 (zf_C_weighAll_33 n) 4096 (x1) (x2) (zw (x2 + 1)) (0) S)
set_option maxHeartbeats 4000000 in
set_option maxRecDepth 100000 in
theorem zw_C_weighAll_33 {p : Program} {l : Launch} {e : Env} {s : State} {m : MethodId} {args : Array Value} {below : List Frame} {meth : Method} {c : Code} {B : zB} (C : CallFix p m c zb_C_weighAll 7 s args zT "IslandOffice$Crews") (hr : meth.sig.returnType = none) (hlk : meth.locks = false) (hK : zK B s) (hSt : zSt B s) (hap : zAp B) {res : Int} {S9 : Sg} : ∀ n : Nat, ∀ (x1 : Int) (x2 : Int) (S : Sg) (nx1 : zn x1) (nx2 : zn x2), zf_C_weighAll_33 n x1 x2 S = some (res, S9) → ∀ (H : Heap) (locs : List Loc) (ls : Array Slot), zW B S H → va_S B.2.2.2 s.heap H locs → lv_has ls 7 [(0, .ref (B.2.1 3 (0) (10))), (1, .int (zI (x1))), (2, .int (zI (x2)))] → W p l e zm_C_weighAll s m args below meth c H locs 0 0 (MQ below (zQv B S9) args s 0 0 B.2.2.2) (F0 m 33 ls []) := by
  intro n
  induction n with
  | zero =>
    intro x1 x2 S nx1 nx2 hf H locs ls hW hS hl
    cases hf
  | succ n ih =>
    intro x1 x2 S nx1 nx2 hf H locs ls hW hS hl
    rw [zf_C_weighAll_33] at hf
    refine lv_iload_n C.1 C.2.1 zd_C_weighAll_33 rfl (lv_at hl 2 rfl) ?_
    refine zr_if_lt (tgt := 144) C nx2 zd_C_weighAll_34 (by decide) (fun c1 => ?_) (fun c1 => ?_)
    · rw [if_pos c1] at hf
      cases hf
      exact zre_v C hr hlk hK hW hS zd_C_weighAll_144
    · rw [if_neg c1] at hf
      refine lv_aload_n C.1 C.2.1 zd_C_weighAll_37 rfl (lv_at hl 0 rfl) ?_
      refine zg_C_best (r := 0) C hK hW (zvd_3 (by decide) (by decide)) zk_439 zd_C_weighAll_38 ?_
      refine lv_iload_n C.1 C.2.1 zd_C_weighAll_41 rfl (lv_at hl 2 rfl) ?_
      refine zr_iconst C zd_C_weighAll_42 ?_
      refine zr_iadd C zd_C_weighAll_43 ?_
      obtain ⟨h2, hf⟩ := zck_some hf
      refine zaald (t0 := 4) C hK hW (zvd_3 (by decide) (by decide)) (fun f => ze_3_21 B f (0)) rfl rfl (by decide) h2 zd_C_weighAll_44 (a := B.2.1 4 (zw (x2 + 1)) (0)) (by rw [Int.toNat_of_nonneg h2.1]) ?_
      refine lv_astore_n (lv' := [(3, .ref (B.2.1 4 (zw (x2 + 1)) (0))), (0, .ref (B.2.1 3 (0) (10))), (1, .int (zI (x1))), (2, .int (zI (x2)))]) C.1 C.2.1 zd_C_weighAll_45 rfl hl (by decide) rfl (fun ls hl => ?_)
      refine zr_iconst C zd_C_weighAll_46 ?_
      refine lv_istore (lv' := [(4, .int (zI (0))), (3, .ref (B.2.1 4 (zw (x2 + 1)) (0))), (0, .ref (B.2.1 3 (0) (10))), (1, .int (zI (x1))), (2, .int (zI (x2)))]) C.1 C.2.1 zd_C_weighAll_47 hl (by decide) rfl (fun ls hl => ?_)
      exact zw_C_weighAll_49 C hr hlk hK hSt hap   (zf_C_weighAll_33 n) (ih) 4096 (x1) (x2) (zw (x2 + 1)) (0) S nx1 nx2 h2 (znb rfl) hf _ _ _ hW hS (lv_sub hl [2, 3, 4, 1, 0] rfl)

def zf_C_weighAll_30 (x1 : Int) (S : Sg) : Option (Int × Sg) :=
    zf_C_weighAll_33 4096 (x1) (7) S
set_option maxHeartbeats 4000000 in
set_option maxRecDepth 100000 in
theorem zw_C_weighAll_30 {p : Program} {l : Launch} {e : Env} {s : State} {m : MethodId} {args : Array Value} {below : List Frame} {meth : Method} {c : Code} {B : zB} (C : CallFix p m c zb_C_weighAll 7 s args zT "IslandOffice$Crews") (hr : meth.sig.returnType = none) (hlk : meth.locks = false) (hK : zK B s) (hSt : zSt B s) (hap : zAp B) {res : Int} {S9 : Sg} : ∀ (x1 : Int) (S : Sg) (nx1 : zn x1), zf_C_weighAll_30 x1 S = some (res, S9) → ∀ (H : Heap) (locs : List Loc) (ls : Array Slot), zW B S H → va_S B.2.2.2 s.heap H locs → lv_has ls 7 [(0, .ref (B.2.1 3 (0) (10))), (1, .int (zI (x1)))] → W p l e zm_C_weighAll s m args below meth c H locs 0 0 (MQ below (zQv B S9) args s 0 0 B.2.2.2) (F0 m 30 ls []) := by
  intro x1 S nx1 hf H locs ls hW hS hl
  unfold zf_C_weighAll_30 at hf
  refine zr_bipush C zd_C_weighAll_30 (by decide) ?_
  refine lv_istore_n (lv' := [(2, .int (zI (7))), (0, .ref (B.2.1 3 (0) (10))), (1, .int (zI (x1)))]) C.1 C.2.1 zd_C_weighAll_32 rfl hl (by decide) rfl (fun ls hl => ?_)
  exact zw_C_weighAll_33 C hr hlk hK hSt hap   4096 (x1) (7) S nx1 (znb rfl) hf _ _ _ hW hS (lv_sub hl [1, 2, 0] rfl)

def zf_C_weighAll_2 : Nat → Int → Int → Sg → Option (Int × Sg)
  | 0, _, _, _ => none
  | n + 1, x1, x2, S =>
    if x1 ≤ x2 then (zf_C_weighAll_30 (x1) S) else (if 512 ≤ x2 then (zf_C_weighAll_30 (x1) S) else (zck (0 ≤ x2 ∧ x2 < 512) <| zlt (zu S 4 8 0 x2 0) fun S4 => zlt (zw (x2 + 1)) fun v5 => (zf_C_weighAll_2 n) (x1) (v5) S4))
set_option maxHeartbeats 4000000 in
set_option maxRecDepth 100000 in
theorem zw_C_weighAll_2 {p : Program} {l : Launch} {e : Env} {s : State} {m : MethodId} {args : Array Value} {below : List Frame} {meth : Method} {c : Code} {B : zB} (C : CallFix p m c zb_C_weighAll 7 s args zT "IslandOffice$Crews") (hr : meth.sig.returnType = none) (hlk : meth.locks = false) (hK : zK B s) (hSt : zSt B s) (hap : zAp B) {res : Int} {S9 : Sg} : ∀ n : Nat, ∀ (x1 : Int) (x2 : Int) (S : Sg) (nx1 : zn x1) (nx2 : zn x2), zf_C_weighAll_2 n x1 x2 S = some (res, S9) → ∀ (H : Heap) (locs : List Loc) (ls : Array Slot), zW B S H → va_S B.2.2.2 s.heap H locs → lv_has ls 7 [(0, .ref (B.2.1 3 (0) (10))), (1, .int (zI (x1))), (2, .int (zI (x2)))] → W p l e zm_C_weighAll s m args below meth c H locs 0 0 (MQ below (zQv B S9) args s 0 0 B.2.2.2) (F0 m 2 ls []) := by
  intro n
  induction n with
  | zero =>
    intro x1 x2 S nx1 nx2 hf H locs ls hW hS hl
    cases hf
  | succ n ih =>
    intro x1 x2 S nx1 nx2 hf H locs ls hW hS hl
    rw [zf_C_weighAll_2] at hf
    refine lv_iload_n C.1 C.2.1 zd_C_weighAll_2 rfl (lv_at hl 2 rfl) ?_
    refine lv_iload_n C.1 C.2.1 zd_C_weighAll_3 rfl (lv_at hl 1 rfl) ?_
    refine zr_icmp_ge (tgt := 30) C nx2 nx1 zd_C_weighAll_4 (by decide) (fun c1 => ?_) (fun c1 => ?_)
    · rw [if_pos c1] at hf
      exact zw_C_weighAll_30 C hr hlk hK hSt hap   (x1) S nx1 hf _ _ _ hW hS (lv_sub hl [0, 1] rfl)
    · rw [if_neg c1] at hf
      refine lv_iload_n C.1 C.2.1 zd_C_weighAll_7 rfl (lv_at hl 2 rfl) ?_
      refine zr_sipush C zd_C_weighAll_8 (by decide) ?_
      refine zr_icmp_ge (tgt := 30) C nx2 (znb rfl) zd_C_weighAll_11 (by decide) (fun c2 => ?_) (fun c2 => ?_)
      · rw [if_pos c2] at hf
        exact zw_C_weighAll_30 C hr hlk hK hSt hap   (x1) S nx1 hf _ _ _ hW hS (lv_sub hl [0, 1] rfl)
      · rw [if_neg c2] at hf
        refine lv_aload_n C.1 C.2.1 zd_C_weighAll_14 rfl (lv_at hl 0 rfl) ?_
        refine zg_C_best (r := 0) C hK hW (zvd_3 (by decide) (by decide)) zk_439 zd_C_weighAll_15 ?_
        refine zr_bipush C zd_C_weighAll_18 (by decide) ?_
        refine zaald (t0 := 4) C hK hW (zvd_3 (by decide) (by decide)) (fun f => ze_3_21 B f (0)) rfl rfl (by decide) (by decide) zd_C_weighAll_20 (a := B.2.1 4 (8) (0)) rfl ?_
        refine lv_iload_n C.1 C.2.1 zd_C_weighAll_21 rfl (lv_at hl 2 rfl) ?_
        refine zr_iconst C zd_C_weighAll_22 ?_
        obtain ⟨h3, hf⟩ := zck_some hf
        obtain ⟨S4, eS4, hf⟩ := zlt_some hf
        refine ziast C hK hap hW hS (zvd_4 (by decide) (by decide)) (fun f => ze_4_0 B f (8)) (by decide) rfl (znb rfl) h3 zd_C_weighAll_23 (fun H locs hW hS => ?_)
        rw [eS4] at hW
        obtain ⟨v5, ev5, hf⟩ := zlt_some hf
        have nv5 : zn v5 := by rw [← ev5]; exact zn_w _
        refine lv_iinc (v := zI v5) (lv' := [(2, .int (zI (v5))), (0, .ref (B.2.1 3 (0) (10))), (1, .int (zI (x1)))]) C.1 C.2.1 zd_C_weighAll_24 hl (k := 2) rfl (by rw [← ev5, ← zI_add]; rfl) (by decide) rfl (fun ls hl => ?_)
        refine lv_goto (tgt := 2) C.1 C.2.1 zd_C_weighAll_27 (by decide) ?_
        exact ih (x1) (v5) S4 nx1 nv5 hf _ _ _ hW hS (lv_sub hl [1, 2, 0] rfl)

def zf_C_weighAll (x1 : Int) (S : Sg) : Option (Int × Sg) :=
    zf_C_weighAll_2 4096 (x1) (0) S
set_option maxHeartbeats 4000000 in
set_option maxRecDepth 100000 in
theorem zw_C_weighAll {p : Program} {l : Launch} {e : Env} {s : State} {m : MethodId} {args : Array Value} {below : List Frame} {meth : Method} {c : Code} {B : zB} (C : CallFix p m c zb_C_weighAll 7 s args zT "IslandOffice$Crews") (hr : meth.sig.returnType = none) (hlk : meth.locks = false) (hK : zK B s) (hSt : zSt B s) (hap : zAp B) {res : Int} {S9 : Sg} : ∀ (x1 : Int) (S : Sg) (nx1 : zn x1), zf_C_weighAll x1 S = some (res, S9) → ∀ (H : Heap) (locs : List Loc) (ls : Array Slot), zW B S H → va_S B.2.2.2 s.heap H locs → lv_has ls 7 [(0, .ref (B.2.1 3 (0) (10))), (1, .int (zI (x1)))] → W p l e zm_C_weighAll s m args below meth c H locs 0 0 (MQ below (zQv B S9) args s 0 0 B.2.2.2) (F0 m 0 ls []) := by
  intro x1 S nx1 hf H locs ls hW hS hl
  unfold zf_C_weighAll at hf
  refine zr_iconst C zd_C_weighAll_0 ?_
  refine lv_istore_n (lv' := [(2, .int (zI (0))), (0, .ref (B.2.1 3 (0) (10))), (1, .int (zI (x1)))]) C.1 C.2.1 zd_C_weighAll_1 rfl hl (by decide) rfl (fun ls hl => ?_)
  exact zw_C_weighAll_2 C hr hlk hK hSt hap   4096 (x1) (0) S nx1 (znb rfl) hf _ _ _ hW hS (lv_sub hl [1, 2, 0] rfl)

theorem zc_C_weighAll {l : Launch} {B : zB} (hap : zAp B) (x1 : Int) (S : Sg) (nx1 : zn x1) {res : Int} {S9 : Sg} (hf : zf_C_weighAll x1 S = some (res, S9)) : Met l zy_C_weighAll (Cond.code zy_C_weighAll zb_C_weighAll 7 (none) :: zT) zm_C_weighAll (zP B S [.ref (B.2.1 3 (0) (10)), .int (zI (x1))]) (zQv B S9) 0 0 B.2.2.2 :=
  zmet (by decide) (Nat.le_of_ble_eq_true rfl) (fun p e s m args below meth c C hr hlk hK hSt hW ls hl => zw_C_weighAll C hr hlk hK hSt hap   x1 S nx1 hf _ _ _ hW va_S.rf hl)
/-! IslandOffice$Crews.fillBest(J)V -/
abbrev zy_C_fillBest : MethodName := ⟨"IslandOffice$Crews", "fillBest", "(J)V"⟩
abbrev zb_C_fillBest : ByteArray := prog_3_method_7_code
abbrev zm_C_fillBest : Room := { frames := 3, cells := 0, slots := 0, locals := 117 }
theorem zq_C_fillBest : zMy zy_C_fillBest zb_C_fillBest 7 (none) 1 := ⟨zk_819, zk_818, zs_19, zk_12, by decide, by decide, by decide +kernel⟩
theorem zd_C_fillBest_0 : decode zb_C_fillBest 0 = .ok (.aload_n 0, 1) := by decide +kernel
theorem zd_C_fillBest_1 : decode zb_C_fillBest 1 = .ok (.lload_n 1, 1) := by decide +kernel
theorem zd_C_fillBest_2 : decode zb_C_fillBest 2 = .ok (.invokevirtual 115, 3) := by decide +kernel
theorem zd_C_fillBest_5 : decode zb_C_fillBest 5 = .ok (.istore_n 3, 1) := by decide +kernel
theorem zd_C_fillBest_6 : decode zb_C_fillBest 6 = .ok (.aload_n 0, 1) := by decide +kernel
theorem zd_C_fillBest_7 : decode zb_C_fillBest 7 = .ok (.iconst 1, 1) := by decide +kernel
theorem zd_C_fillBest_8 : decode zb_C_fillBest 8 = .ok (.iload_n 3, 1) := by decide +kernel
theorem zd_C_fillBest_9 : decode zb_C_fillBest 9 = .ok (.ishl, 1) := by decide +kernel
theorem zd_C_fillBest_10 : decode zb_C_fillBest 10 = .ok (.invokevirtual 118, 3) := by decide +kernel
theorem zd_C_fillBest_13 : decode zb_C_fillBest 13 = .ok (.iconst 0, 1) := by decide +kernel
theorem zd_C_fillBest_14 : decode zb_C_fillBest 14 = .ok (.istore 4, 2) := by decide +kernel
theorem zd_C_fillBest_16 : decode zb_C_fillBest 16 = .ok (.iconst 0, 1) := by decide +kernel
theorem zd_C_fillBest_17 : decode zb_C_fillBest 17 = .ok (.istore 5, 2) := by decide +kernel
theorem zd_C_fillBest_19 : decode zb_C_fillBest 19 = .ok (.iload 5, 2) := by decide +kernel
theorem zd_C_fillBest_21 : decode zb_C_fillBest 21 = .ok (.bipush 8, 2) := by decide +kernel
theorem zd_C_fillBest_23 : decode zb_C_fillBest 23 = .ok (.if_icmp .ge 69, 3) := by decide +kernel
theorem zd_C_fillBest_26 : decode zb_C_fillBest 26 = .ok (.aload_n 0, 1) := by decide +kernel
theorem zd_C_fillBest_27 : decode zb_C_fillBest 27 = .ok (.getfield 40, 3) := by decide +kernel
theorem zd_C_fillBest_30 : decode zb_C_fillBest 30 = .ok (.iload 5, 2) := by decide +kernel
theorem zd_C_fillBest_32 : decode zb_C_fillBest 32 = .ok (.aaload, 1) := by decide +kernel
theorem zd_C_fillBest_33 : decode zb_C_fillBest 33 = .ok (.iload 4, 2) := by decide +kernel
theorem zd_C_fillBest_35 : decode zb_C_fillBest 35 = .ok (.iaload, 1) := by decide +kernel
theorem zd_C_fillBest_36 : decode zb_C_fillBest 36 = .ok (.aload_n 0, 1) := by decide +kernel
theorem zd_C_fillBest_37 : decode zb_C_fillBest 37 = .ok (.getfield 40, 3) := by decide +kernel
theorem zd_C_fillBest_40 : decode zb_C_fillBest 40 = .ok (.iload 5, 2) := by decide +kernel
theorem zd_C_fillBest_42 : decode zb_C_fillBest 42 = .ok (.iconst 1, 1) := by decide +kernel
theorem zd_C_fillBest_43 : decode zb_C_fillBest 43 = .ok (.iadd, 1) := by decide +kernel
theorem zd_C_fillBest_44 : decode zb_C_fillBest 44 = .ok (.aaload, 1) := by decide +kernel
theorem zd_C_fillBest_45 : decode zb_C_fillBest 45 = .ok (.iload 4, 2) := by decide +kernel
theorem zd_C_fillBest_47 : decode zb_C_fillBest 47 = .ok (.iaload, 1) := by decide +kernel
theorem zd_C_fillBest_48 : decode zb_C_fillBest 48 = .ok (.if_icmp .ne 7, 3) := by decide +kernel
theorem zd_C_fillBest_51 : decode zb_C_fillBest 51 = .ok (.iconst 0, 1) := by decide +kernel
theorem zd_C_fillBest_52 : decode zb_C_fillBest 52 = .ok (.goto 11, 3) := by decide +kernel
theorem zd_C_fillBest_55 : decode zb_C_fillBest 55 = .ok (.aload_n 0, 1) := by decide +kernel
theorem zd_C_fillBest_56 : decode zb_C_fillBest 56 = .ok (.iload 5, 2) := by decide +kernel
theorem zd_C_fillBest_58 : decode zb_C_fillBest 58 = .ok (.iload 4, 2) := by decide +kernel
theorem zd_C_fillBest_60 : decode zb_C_fillBest 60 = .ok (.invokevirtual 122, 3) := by decide +kernel
theorem zd_C_fillBest_63 : decode zb_C_fillBest 63 = .ok (.istore 6, 2) := by decide +kernel
theorem zd_C_fillBest_65 : decode zb_C_fillBest 65 = .ok (.iload 4, 2) := by decide +kernel
theorem zd_C_fillBest_67 : decode zb_C_fillBest 67 = .ok (.iload 6, 2) := by decide +kernel
theorem zd_C_fillBest_69 : decode zb_C_fillBest 69 = .ok (.ior, 1) := by decide +kernel
theorem zd_C_fillBest_70 : decode zb_C_fillBest 70 = .ok (.istore 4, 2) := by decide +kernel
theorem zd_C_fillBest_72 : decode zb_C_fillBest 72 = .ok (.aload_n 0, 1) := by decide +kernel
theorem zd_C_fillBest_73 : decode zb_C_fillBest 73 = .ok (.getfield 11, 3) := by decide +kernel
theorem zd_C_fillBest_76 : decode zb_C_fillBest 76 = .ok (.iload 5, 2) := by decide +kernel
theorem zd_C_fillBest_78 : decode zb_C_fillBest 78 = .ok (.aload_n 0, 1) := by decide +kernel
theorem zd_C_fillBest_79 : decode zb_C_fillBest 79 = .ok (.iload 6, 2) := by decide +kernel
theorem zd_C_fillBest_81 : decode zb_C_fillBest 81 = .ok (.iload_n 3, 1) := by decide +kernel
theorem zd_C_fillBest_82 : decode zb_C_fillBest 82 = .ok (.invokevirtual 125, 3) := by decide +kernel
theorem zd_C_fillBest_85 : decode zb_C_fillBest 85 = .ok (.lastore, 1) := by decide +kernel
theorem zd_C_fillBest_86 : decode zb_C_fillBest 86 = .ok (.iinc 5 1, 3) := by decide +kernel
theorem zd_C_fillBest_89 : decode zb_C_fillBest 89 = .ok (.goto (-70), 3) := by decide +kernel
theorem zd_C_fillBest_92 : decode zb_C_fillBest 92 = .ok (.return_, 1) := by decide +kernel

def zf_C_fillBest_63 (q19 : Int → Int → Int → Sg → Option (Int × Sg)) (x3 : Int) (x4 : Int) (x5 : Int) (xt0 : Int) (S : Sg) : Option (Int × Sg) :=
    zlt (zor x4 xt0) fun v1 => zbd (zf_C_peopleOf xt0 x3 S) fun a2 S3 => zck (0 ≤ x5 ∧ x5 < 8) <| zlt (zu S3 20 0 0 x5 a2) fun S5 => zlt (zw (x5 + 1)) fun v6 => q19 (x3) (v1) (v6) S5
set_option maxHeartbeats 4000000 in
set_option maxRecDepth 100000 in
theorem zw_C_fillBest_63 {p : Program} {l : Launch} {e : Env} {s : State} {m : MethodId} {args : Array Value} {below : List Frame} {meth : Method} {c : Code} {B : zB} (C : CallFix p m c zb_C_fillBest 7 s args zT "IslandOffice$Crews") (hr : meth.sig.returnType = none) (hlk : meth.locks = false) (hK : zK B s) (hSt : zSt B s) (hap : zAp B) {res : Int} {S9 : Sg} (q19 : Int → Int → Int → Sg → Option (Int × Sg)) (hq19 : ∀ (x3 : Int) (x4 : Int) (x5 : Int) (S : Sg) (nx3 : zn x3) (nx4 : zn x4) (nx5 : zn x5), q19 x3 x4 x5 S = some (res, S9) → ∀ (H : Heap) (locs : List Loc) (ls : Array Slot), zW B S H → va_S B.2.2.2 s.heap H locs → lv_has ls 7 [(0, .ref (B.2.1 3 (0) (10))), (3, .int (zI (x3))), (4, .int (zI (x4))), (5, .int (zI (x5)))] → W p l e zm_C_fillBest s m args below meth c H locs 0 0 (MQ below (zQv B S9) args s 0 0 B.2.2.2) (F0 m 19 ls [])) : ∀ (x3 : Int) (x4 : Int) (x5 : Int) (xt0 : Int) (S : Sg) (nx3 : zn x3) (nx4 : zn x4) (nx5 : zn x5) (nxt0 : zn xt0), zf_C_fillBest_63 q19 x3 x4 x5 xt0 S = some (res, S9) → ∀ (H : Heap) (locs : List Loc) (ls : Array Slot), zW B S H → va_S B.2.2.2 s.heap H locs → lv_has ls 7 [(0, .ref (B.2.1 3 (0) (10))), (3, .int (zI (x3))), (4, .int (zI (x4))), (5, .int (zI (x5)))] → W p l e zm_C_fillBest s m args below meth c H locs 0 0 (MQ below (zQv B S9) args s 0 0 B.2.2.2) (F0 m 63 ls [.int (zI (xt0))]) := by
  intro x3 x4 x5 xt0 S nx3 nx4 nx5 nxt0 hf H locs ls hW hS hl
  unfold zf_C_fillBest_63 at hf
  refine lv_istore (lv' := [(6, .int (zI (xt0))), (0, .ref (B.2.1 3 (0) (10))), (3, .int (zI (x3))), (4, .int (zI (x4))), (5, .int (zI (x5)))]) C.1 C.2.1 zd_C_fillBest_63 hl (by decide) rfl (fun ls hl => ?_)
  refine lv_iload C.1 C.2.1 zd_C_fillBest_65 (lv_at hl 3 rfl) ?_
  refine lv_iload C.1 C.2.1 zd_C_fillBest_67 (lv_at hl 0 rfl) ?_
  refine zr_ior C zd_C_fillBest_69 ?_
  obtain ⟨v1, ev1, hf⟩ := zlt_some hf
  have nv1 : zn v1 := by rw [← ev1]; exact (zn_or _ _)
  rw [ev1]
  refine lv_istore (lv' := [(4, .int (zI (v1))), (6, .int (zI (xt0))), (0, .ref (B.2.1 3 (0) (10))), (3, .int (zI (x3))), (5, .int (zI (x5)))]) C.1 C.2.1 zd_C_fillBest_70 hl (by decide) rfl (fun ls hl => ?_)
  refine lv_aload_n C.1 C.2.1 zd_C_fillBest_72 rfl (lv_at hl 2 rfl) ?_
  refine zg_C_crew (r := 0) C hK hW (zvd_3 (by decide) (by decide)) zk_429 zd_C_fillBest_73 ?_
  refine lv_iload C.1 C.2.1 zd_C_fillBest_76 (lv_at hl 4 rfl) ?_
  refine lv_aload_n C.1 C.2.1 zd_C_fillBest_78 rfl (lv_at hl 2 rfl) ?_
  refine lv_iload C.1 C.2.1 zd_C_fillBest_79 (lv_at hl 1 rfl) ?_
  refine lv_iload_n C.1 C.2.1 zd_C_fillBest_81 rfl (lv_at hl 3 rfl) ?_
  obtain ⟨a2, S3, ea2, hf⟩ := zbd_some hf
  refine zcVl (As := [.int (zI (xt0)), .int (zI (x3))]) (rest := [.int (zI (x5)), .ref (B.2.1 20 (0) (0))]) C hK hSt hW hS (zc_C_peopleOf hap xt0 x3 S nxt0 nx3 ea2) zq_C_peopleOf zk_841 (zrecv hK hW (zvd_3 (by decide) (by decide)) (ze_3_10 B _ (0)) rfl) ⟨rfl, rfl, by decide, by decide⟩ ⟨Nat.zero_le _, Nat.zero_le _⟩ rfl hl.1 rfl (lv_room (Nat.le_of_ble_eq_true rfl)) zd_C_fillBest_82 (fun na2 H locs hW hS => ?_)
  obtain ⟨h4, hf⟩ := zck_some hf
  obtain ⟨S5, eS5, hf⟩ := zlt_some hf
  refine zlast C hK hap hW hS (zvd_20 (by decide) (by decide)) (fun f => ze_20_0 B f (0)) (by decide) rfl na2 h4 zd_C_fillBest_85 (fun H locs hW hS => ?_)
  rw [eS5] at hW
  obtain ⟨v6, ev6, hf⟩ := zlt_some hf
  have nv6 : zn v6 := by rw [← ev6]; exact zn_w _
  refine lv_iinc (v := zI v6) (lv' := [(5, .int (zI (v6))), (4, .int (zI (v1))), (6, .int (zI (xt0))), (0, .ref (B.2.1 3 (0) (10))), (3, .int (zI (x3)))]) C.1 C.2.1 zd_C_fillBest_86 hl (k := 4) rfl (by rw [← ev6, ← zI_add]; rfl) (by decide) rfl (fun ls hl => ?_)
  refine lv_goto (tgt := 19) C.1 C.2.1 zd_C_fillBest_89 (by decide) ?_
  exact hq19 (x3) (v1) (v6) S5 nx3 nv1 nv6 hf _ _ _ hW hS (lv_sub hl [3, 4, 1, 0] rfl)

def zf_C_fillBest_19 : Nat → Int → Int → Int → Sg → Option (Int × Sg)
  | 0, _, _, _, _ => none
  | n + 1, x3, x4, x5, S =>
    if 8 ≤ x5 then (some (0, S)) else (zck (0 ≤ x5 ∧ x5 < 9) <| zck (0 ≤ x4 ∧ x4 < 512) <| zck (0 ≤ (zw (x5 + 1)) ∧ (zw (x5 + 1)) < 9) <| if (S 4 x5 0 x4) = (S 4 (zw (x5 + 1)) 0 x4) then (zf_C_fillBest_63 (zf_C_fillBest_19 n) (x3) (x4) (x5) (0) S) else (zbd (zf_C_leastSet x5 x4 S) fun a6 S7 => zf_C_fillBest_63 (zf_C_fillBest_19 n) (x3) (x4) (x5) (a6) S7))
set_option maxHeartbeats 4000000 in
set_option maxRecDepth 100000 in
theorem zw_C_fillBest_19 {p : Program} {l : Launch} {e : Env} {s : State} {m : MethodId} {args : Array Value} {below : List Frame} {meth : Method} {c : Code} {B : zB} (C : CallFix p m c zb_C_fillBest 7 s args zT "IslandOffice$Crews") (hr : meth.sig.returnType = none) (hlk : meth.locks = false) (hK : zK B s) (hSt : zSt B s) (hap : zAp B) {res : Int} {S9 : Sg} : ∀ n : Nat, ∀ (x3 : Int) (x4 : Int) (x5 : Int) (S : Sg) (nx3 : zn x3) (nx4 : zn x4) (nx5 : zn x5), zf_C_fillBest_19 n x3 x4 x5 S = some (res, S9) → ∀ (H : Heap) (locs : List Loc) (ls : Array Slot), zW B S H → va_S B.2.2.2 s.heap H locs → lv_has ls 7 [(0, .ref (B.2.1 3 (0) (10))), (3, .int (zI (x3))), (4, .int (zI (x4))), (5, .int (zI (x5)))] → W p l e zm_C_fillBest s m args below meth c H locs 0 0 (MQ below (zQv B S9) args s 0 0 B.2.2.2) (F0 m 19 ls []) := by
  intro n
  induction n with
  | zero =>
    intro x3 x4 x5 S nx3 nx4 nx5 hf H locs ls hW hS hl
    cases hf
  | succ n ih =>
    intro x3 x4 x5 S nx3 nx4 nx5 hf H locs ls hW hS hl
    rw [zf_C_fillBest_19] at hf
    refine lv_iload C.1 C.2.1 zd_C_fillBest_19 (lv_at hl 3 rfl) ?_
    refine zr_bipush C zd_C_fillBest_21 (by decide) ?_
    refine zr_icmp_ge (tgt := 92) C nx5 (znb rfl) zd_C_fillBest_23 (by decide) (fun c1 => ?_) (fun c1 => ?_)
    · rw [if_pos c1] at hf
      cases hf
      exact zre_v C hr hlk hK hW hS zd_C_fillBest_92
    · rw [if_neg c1] at hf
      refine lv_aload_n C.1 C.2.1 zd_C_fillBest_26 rfl (lv_at hl 0 rfl) ?_
      refine zg_C_best (r := 0) C hK hW (zvd_3 (by decide) (by decide)) zk_439 zd_C_fillBest_27 ?_
      refine lv_iload C.1 C.2.1 zd_C_fillBest_30 (lv_at hl 3 rfl) ?_
      obtain ⟨h2, hf⟩ := zck_some hf
      refine zaald (t0 := 4) C hK hW (zvd_3 (by decide) (by decide)) (fun f => ze_3_21 B f (0)) rfl rfl (by decide) h2 zd_C_fillBest_32 (a := B.2.1 4 (x5) (0)) (by rw [Int.toNat_of_nonneg h2.1]) ?_
      refine lv_iload C.1 C.2.1 zd_C_fillBest_33 (lv_at hl 2 rfl) ?_
      obtain ⟨h3, hf⟩ := zck_some hf
      refine ziald C hK hW (zvd_4 h2 (by decide)) (fun f => ze_4_0 B f (x5)) (by decide) h3 zd_C_fillBest_35 ?_
      refine lv_aload_n C.1 C.2.1 zd_C_fillBest_36 rfl (lv_at hl 0 rfl) ?_
      refine zg_C_best (r := 0) C hK hW (zvd_3 (by decide) (by decide)) zk_439 zd_C_fillBest_37 ?_
      refine lv_iload C.1 C.2.1 zd_C_fillBest_40 (lv_at hl 3 rfl) ?_
      refine zr_iconst C zd_C_fillBest_42 ?_
      refine zr_iadd C zd_C_fillBest_43 ?_
      obtain ⟨h4, hf⟩ := zck_some hf
      refine zaald (t0 := 4) C hK hW (zvd_3 (by decide) (by decide)) (fun f => ze_3_21 B f (0)) rfl rfl (by decide) h4 zd_C_fillBest_44 (a := B.2.1 4 (zw (x5 + 1)) (0)) (by rw [Int.toNat_of_nonneg h4.1]) ?_
      refine lv_iload C.1 C.2.1 zd_C_fillBest_45 (lv_at hl 2 rfl) ?_
      refine ziald C hK hW (zvd_4 h4 (by decide)) (fun f => ze_4_0 B f (zw (x5 + 1))) (by decide) h3 zd_C_fillBest_47 ?_
      refine zr_icmp_ne (tgt := 55) C (zWn hW _ _ _ _ rfl) (zWn hW _ _ _ _ rfl) zd_C_fillBest_48 (by decide) (fun c5 => ?_) (fun c5 => ?_)
      · rw [if_neg c5] at hf
        refine lv_aload_n C.1 C.2.1 zd_C_fillBest_55 rfl (lv_at hl 0 rfl) ?_
        refine lv_iload C.1 C.2.1 zd_C_fillBest_56 (lv_at hl 3 rfl) ?_
        refine lv_iload C.1 C.2.1 zd_C_fillBest_58 (lv_at hl 2 rfl) ?_
        obtain ⟨a6, S7, ea6, hf⟩ := zbd_some hf
        refine zcVi (As := [.int (zI (x5)), .int (zI (x4))]) (rest := []) C hK hSt hW hS (zc_C_leastSet hap x5 x4 S nx5 nx4 ea6) zq_C_leastSet zk_837 (zrecv hK hW (zvd_3 (by decide) (by decide)) (ze_3_10 B _ (0)) rfl) ⟨rfl, rfl, by decide, by decide⟩ ⟨Nat.zero_le _, Nat.zero_le _⟩ rfl hl.1 rfl (lv_room (Nat.le_of_ble_eq_true rfl)) zd_C_fillBest_60 (fun na6 H locs hW hS => ?_)
        exact zw_C_fillBest_63 C hr hlk hK hSt hap   (zf_C_fillBest_19 n) (ih) (x3) (x4) (x5) (a6) S7 nx3 nx4 nx5 na6 hf _ _ _ hW hS (lv_sub hl [0, 1, 2, 3] rfl)
      · rw [if_pos c5] at hf
        refine zr_iconst C zd_C_fillBest_51 ?_
        refine lv_goto (tgt := 63) C.1 C.2.1 zd_C_fillBest_52 (by decide) ?_
        exact zw_C_fillBest_63 C hr hlk hK hSt hap   (zf_C_fillBest_19 n) (ih) (x3) (x4) (x5) (0) S nx3 nx4 nx5 (znb rfl) hf _ _ _ hW hS (lv_sub hl [0, 1, 2, 3] rfl)

def zf_C_fillBest (x1 : Int) (S : Sg) : Option (Int × Sg) :=
    zbd (zf_C_nameFew x1 S) fun a1 S2 => zbd (zf_C_weighAll (zshl 1 a1) S2) fun a3 S4 => zf_C_fillBest_19 4096 (a1) (0) (0) S4
set_option maxHeartbeats 4000000 in
set_option maxRecDepth 100000 in
theorem zw_C_fillBest {p : Program} {l : Launch} {e : Env} {s : State} {m : MethodId} {args : Array Value} {below : List Frame} {meth : Method} {c : Code} {B : zB} (C : CallFix p m c zb_C_fillBest 7 s args zT "IslandOffice$Crews") (hr : meth.sig.returnType = none) (hlk : meth.locks = false) (hK : zK B s) (hSt : zSt B s) (hap : zAp B) {res : Int} {S9 : Sg} : ∀ (x1 : Int) (S : Sg) (nx1 : zm x1), zf_C_fillBest x1 S = some (res, S9) → ∀ (H : Heap) (locs : List Loc) (ls : Array Slot), zW B S H → va_S B.2.2.2 s.heap H locs → lv_has ls 7 [(0, .ref (B.2.1 3 (0) (10))), (1, .long (zL (x1)))] → W p l e zm_C_fillBest s m args below meth c H locs 0 0 (MQ below (zQv B S9) args s 0 0 B.2.2.2) (F0 m 0 ls []) := by
  intro x1 S nx1 hf H locs ls hW hS hl
  unfold zf_C_fillBest at hf
  refine lv_aload_n C.1 C.2.1 zd_C_fillBest_0 rfl (lv_at hl 0 rfl) ?_
  refine lv_lload_n C.1 C.2.1 zd_C_fillBest_1 rfl (lv_at hl 1 rfl) ?_
  obtain ⟨a1, S2, ea1, hf⟩ := zbd_some hf
  refine zcVi (As := [.long (zL (x1))]) (rest := []) C hK hSt hW hS (zc_C_nameFew hap x1 S nx1 ea1) zq_C_nameFew zk_820 (zrecv hK hW (zvd_3 (by decide) (by decide)) (ze_3_10 B _ (0)) rfl) ⟨rfl, rfl, by decide, by decide⟩ ⟨Nat.zero_le _, Nat.zero_le _⟩ rfl hl.1 rfl (lv_room (Nat.le_of_ble_eq_true rfl)) zd_C_fillBest_2 (fun na1 H locs hW hS => ?_)
  refine lv_istore_n (lv' := [(3, .int (zI (a1))), (0, .ref (B.2.1 3 (0) (10))), (1, .long (zL (x1)))]) C.1 C.2.1 zd_C_fillBest_5 rfl hl (by decide) rfl (fun ls hl => ?_)
  refine lv_aload_n C.1 C.2.1 zd_C_fillBest_6 rfl (lv_at hl 1 rfl) ?_
  refine zr_iconst C zd_C_fillBest_7 ?_
  refine lv_iload_n C.1 C.2.1 zd_C_fillBest_8 rfl (lv_at hl 0 rfl) ?_
  refine zr_ishl C zd_C_fillBest_9 ?_
  obtain ⟨a3, S4, ea3, hf⟩ := zbd_some hf
  refine zcVv (As := [.int (zI (zshl 1 a1))]) (rest := []) C hK hSt hW hS (zc_C_weighAll hap (zshl 1 a1) S2 (zn_shl _ _) ea3) zq_C_weighAll zk_824 (zrecv hK hW (zvd_3 (by decide) (by decide)) (ze_3_10 B _ (0)) rfl) ⟨rfl, rfl, by decide, by decide⟩ ⟨Nat.zero_le _, Nat.zero_le _⟩ rfl hl.1 rfl (lv_room (Nat.le_of_ble_eq_true rfl)) zd_C_fillBest_10 (fun H locs hW hS => ?_)
  refine zr_iconst C zd_C_fillBest_13 ?_
  refine lv_istore (lv' := [(4, .int (zI (0))), (3, .int (zI (a1))), (0, .ref (B.2.1 3 (0) (10))), (1, .long (zL (x1)))]) C.1 C.2.1 zd_C_fillBest_14 hl (by decide) rfl (fun ls hl => ?_)
  refine zr_iconst C zd_C_fillBest_16 ?_
  refine lv_istore (lv' := [(5, .int (zI (0))), (4, .int (zI (0))), (3, .int (zI (a1))), (0, .ref (B.2.1 3 (0) (10))), (1, .long (zL (x1)))]) C.1 C.2.1 zd_C_fillBest_17 hl (by decide) rfl (fun ls hl => ?_)
  exact zw_C_fillBest_19 C hr hlk hK hSt hap   4096 (a1) (0) (0) S4 na1 (znb rfl) (znb rfl) hf _ _ _ hW hS (lv_sub hl [3, 2, 1, 0] rfl)

theorem zc_C_fillBest {l : Launch} {B : zB} (hap : zAp B) (x1 : Int) (S : Sg) (nx1 : zm x1) {res : Int} {S9 : Sg} (hf : zf_C_fillBest x1 S = some (res, S9)) : Met l zy_C_fillBest (Cond.code zy_C_fillBest zb_C_fillBest 7 (none) :: zT) zm_C_fillBest (zP B S [.ref (B.2.1 3 (0) (10)), .long (zL (x1))]) (zQv B S9) 0 0 B.2.2.2 :=
  zmet (by decide) (Nat.le_of_ble_eq_true rfl) (fun p e s m args below meth c C hr hlk hK hSt hW ls hl => zw_C_fillBest C hr hlk hK hSt hap   x1 S nx1 hf _ _ _ hW va_S.rf hl)
/-! IslandOffice$Crews.lowest(JI)J -/
abbrev zy_C_lowest : MethodName := ⟨"IslandOffice$Crews", "lowest", "(JI)J"⟩
abbrev zb_C_lowest : ByteArray := prog_3_method_6_code
abbrev zm_C_lowest : Room := { frames := 0, cells := 0, slots := 0, locals := 0 }
theorem zq_C_lowest : zMs zy_C_lowest zb_C_lowest 6 (some .long) 2 := ⟨zk_852, zk_851, zk_12, by decide, by decide, by decide +kernel⟩
theorem zd_C_lowest_0 : decode zb_C_lowest 0 = .ok (.lload_n 0, 1) := by decide +kernel
theorem zd_C_lowest_1 : decode zb_C_lowest 1 = .ok (.lstore_n 3, 1) := by decide +kernel
theorem zd_C_lowest_2 : decode zb_C_lowest 2 = .ok (.iconst 0, 1) := by decide +kernel
theorem zd_C_lowest_3 : decode zb_C_lowest 3 = .ok (.istore 5, 2) := by decide +kernel
theorem zd_C_lowest_5 : decode zb_C_lowest 5 = .ok (.iload 5, 2) := by decide +kernel
theorem zd_C_lowest_7 : decode zb_C_lowest 7 = .ok (.iload_n 2, 1) := by decide +kernel
theorem zd_C_lowest_8 : decode zb_C_lowest 8 = .ok (.if_icmp .ge 15, 3) := by decide +kernel
theorem zd_C_lowest_11 : decode zb_C_lowest 11 = .ok (.lload_n 3, 1) := by decide +kernel
theorem zd_C_lowest_12 : decode zb_C_lowest 12 = .ok (.lload_n 3, 1) := by decide +kernel
theorem zd_C_lowest_13 : decode zb_C_lowest 13 = .ok (.lconst 1, 1) := by decide +kernel
theorem zd_C_lowest_14 : decode zb_C_lowest 14 = .ok (.lsub, 1) := by decide +kernel
theorem zd_C_lowest_15 : decode zb_C_lowest 15 = .ok (.land, 1) := by decide +kernel
theorem zd_C_lowest_16 : decode zb_C_lowest 16 = .ok (.lstore_n 3, 1) := by decide +kernel
theorem zd_C_lowest_17 : decode zb_C_lowest 17 = .ok (.iinc 5 1, 3) := by decide +kernel
theorem zd_C_lowest_20 : decode zb_C_lowest 20 = .ok (.goto (-15), 3) := by decide +kernel
theorem zd_C_lowest_23 : decode zb_C_lowest 23 = .ok (.lload_n 0, 1) := by decide +kernel
theorem zd_C_lowest_24 : decode zb_C_lowest 24 = .ok (.lload_n 3, 1) := by decide +kernel
theorem zd_C_lowest_25 : decode zb_C_lowest 25 = .ok (.ldc2_w 109, 3) := by decide +kernel
theorem zd_C_lowest_28 : decode zb_C_lowest 28 = .ok (.lxor, 1) := by decide +kernel
theorem zd_C_lowest_29 : decode zb_C_lowest 29 = .ok (.land, 1) := by decide +kernel
theorem zd_C_lowest_30 : decode zb_C_lowest 30 = .ok (.lreturn, 1) := by decide +kernel

def zf_C_lowest_5 : Nat → Int → Int → Int → Int → Sg → Option (Int × Sg)
  | 0, _, _, _, _, _ => none
  | n + 1, x0, x2, x3, x5, S =>
    if x2 ≤ x5 then (some (zlnd x0 (zlxr x3 (-1)), S)) else (zlt (zlnd x3 (zv (x3 - 1))) fun v2 => zlt (zw (x5 + 1)) fun v3 => (zf_C_lowest_5 n) (x0) (x2) (v2) (v3) S)
set_option maxHeartbeats 4000000 in
set_option maxRecDepth 100000 in
theorem zw_C_lowest_5 {p : Program} {l : Launch} {e : Env} {s : State} {m : MethodId} {args : Array Value} {below : List Frame} {meth : Method} {c : Code} {B : zB} (C : CallFix p m c zb_C_lowest 6 s args zT "IslandOffice$Crews") (hr : meth.sig.returnType = some .long) (hlk : meth.locks = false) (hK : zK B s) (hSt : zSt B s) (hap : zAp B) {res : Int} {S9 : Sg} : ∀ n : Nat, ∀ (x0 : Int) (x2 : Int) (x3 : Int) (x5 : Int) (S : Sg) (nx0 : zm x0) (nx2 : zn x2) (nx3 : zm x3) (nx5 : zn x5), zf_C_lowest_5 n x0 x2 x3 x5 S = some (res, S9) → ∀ (H : Heap) (locs : List Loc) (ls : Array Slot), zW B S H → va_S B.2.2.2 s.heap H locs → lv_has ls 6 [(0, .long (zL (x0))), (2, .int (zI (x2))), (3, .long (zL (x3))), (5, .int (zI (x5)))] → W p l e zm_C_lowest s m args below meth c H locs 0 0 (MQ below (zQl B res S9) args s 0 0 B.2.2.2) (F0 m 5 ls []) := by
  intro n
  induction n with
  | zero =>
    intro x0 x2 x3 x5 S nx0 nx2 nx3 nx5 hf H locs ls hW hS hl
    cases hf
  | succ n ih =>
    intro x0 x2 x3 x5 S nx0 nx2 nx3 nx5 hf H locs ls hW hS hl
    rw [zf_C_lowest_5] at hf
    refine lv_iload C.1 C.2.1 zd_C_lowest_5 (lv_at hl 3 rfl) ?_
    refine lv_iload_n C.1 C.2.1 zd_C_lowest_7 rfl (lv_at hl 1 rfl) ?_
    refine zr_icmp_ge (tgt := 23) C nx5 nx2 zd_C_lowest_8 (by decide) (fun c1 => ?_) (fun c1 => ?_)
    · rw [if_pos c1] at hf
      refine lv_lload_n C.1 C.2.1 zd_C_lowest_23 rfl (lv_at hl 0 rfl) ?_
      refine lv_lload_n C.1 C.2.1 zd_C_lowest_24 rfl (lv_at hl 2 rfl) ?_
      refine zr_ldc2 (n := -1) C zk_849 (by decide) zd_C_lowest_25 ?_
      refine zr_lxor C zd_C_lowest_28 ?_
      refine zr_land C zd_C_lowest_29 ?_
      cases hf
      exact zre_l C hr hlk hK hW hS (zm_lnd _ _) zd_C_lowest_30
    · rw [if_neg c1] at hf
      refine lv_lload_n C.1 C.2.1 zd_C_lowest_11 rfl (lv_at hl 2 rfl) ?_
      refine lv_lload_n C.1 C.2.1 zd_C_lowest_12 rfl (lv_at hl 2 rfl) ?_
      refine zr_lconst (k := 1) C zd_C_lowest_13 rfl ?_
      refine zr_lsub C zd_C_lowest_14 ?_
      refine zr_land C zd_C_lowest_15 ?_
      obtain ⟨v2, ev2, hf⟩ := zlt_some hf
      have nv2 : zm v2 := by rw [← ev2]; exact (zm_lnd _ _)
      rw [ev2]
      refine lv_lstore_n (lv' := [(3, .long (zL (v2))), (0, .long (zL (x0))), (2, .int (zI (x2))), (5, .int (zI (x5)))]) C.1 C.2.1 zd_C_lowest_16 rfl hl (by decide) rfl (fun ls hl => ?_)
      obtain ⟨v3, ev3, hf⟩ := zlt_some hf
      have nv3 : zn v3 := by rw [← ev3]; exact zn_w _
      refine lv_iinc (v := zI v3) (lv' := [(5, .int (zI (v3))), (3, .long (zL (v2))), (0, .long (zL (x0))), (2, .int (zI (x2)))]) C.1 C.2.1 zd_C_lowest_17 hl (k := 3) rfl (by rw [← ev3, ← zI_add]; rfl) (by decide) rfl (fun ls hl => ?_)
      refine lv_goto (tgt := 5) C.1 C.2.1 zd_C_lowest_20 (by decide) ?_
      exact ih (x0) (x2) (v2) (v3) S nx0 nx2 nv2 nv3 hf _ _ _ hW hS (lv_sub hl [2, 3, 1, 0] rfl)

def zf_C_lowest (x0 : Int) (x2 : Int) (S : Sg) : Option (Int × Sg) :=
    zf_C_lowest_5 4096 (x0) (x2) (x0) (0) S
set_option maxHeartbeats 4000000 in
set_option maxRecDepth 100000 in
theorem zw_C_lowest {p : Program} {l : Launch} {e : Env} {s : State} {m : MethodId} {args : Array Value} {below : List Frame} {meth : Method} {c : Code} {B : zB} (C : CallFix p m c zb_C_lowest 6 s args zT "IslandOffice$Crews") (hr : meth.sig.returnType = some .long) (hlk : meth.locks = false) (hK : zK B s) (hSt : zSt B s) (hap : zAp B) {res : Int} {S9 : Sg} : ∀ (x0 : Int) (x2 : Int) (S : Sg) (nx0 : zm x0) (nx2 : zn x2), zf_C_lowest x0 x2 S = some (res, S9) → ∀ (H : Heap) (locs : List Loc) (ls : Array Slot), zW B S H → va_S B.2.2.2 s.heap H locs → lv_has ls 6 [(0, .long (zL (x0))), (2, .int (zI (x2)))] → W p l e zm_C_lowest s m args below meth c H locs 0 0 (MQ below (zQl B res S9) args s 0 0 B.2.2.2) (F0 m 0 ls []) := by
  intro x0 x2 S nx0 nx2 hf H locs ls hW hS hl
  unfold zf_C_lowest at hf
  refine lv_lload_n C.1 C.2.1 zd_C_lowest_0 rfl (lv_at hl 0 rfl) ?_
  refine lv_lstore_n (lv' := [(3, .long (zL (x0))), (0, .long (zL (x0))), (2, .int (zI (x2)))]) C.1 C.2.1 zd_C_lowest_1 rfl hl (by decide) rfl (fun ls hl => ?_)
  refine zr_iconst C zd_C_lowest_2 ?_
  refine lv_istore (lv' := [(5, .int (zI (0))), (3, .long (zL (x0))), (0, .long (zL (x0))), (2, .int (zI (x2)))]) C.1 C.2.1 zd_C_lowest_3 hl (by decide) rfl (fun ls hl => ?_)
  exact zw_C_lowest_5 C hr hlk hK hSt hap   4096 (x0) (x2) (x0) (0) S nx0 nx2 nx0 (znb rfl) hf _ _ _ hW hS (lv_sub hl [2, 3, 1, 0] rfl)

theorem zc_C_lowest {l : Launch} {B : zB} (hap : zAp B) (x0 : Int) (x2 : Int) (S : Sg) (nx0 : zm x0) (nx2 : zn x2) {res : Int} {S9 : Sg} (hf : zf_C_lowest x0 x2 S = some (res, S9)) : Met l zy_C_lowest (Cond.code zy_C_lowest zb_C_lowest 6 (some .long) :: zT) zm_C_lowest (zP B S [.long (zL (x0)), .int (zI (x2))]) (zQl B res S9) 0 0 B.2.2.2 :=
  zmet (by decide) (Nat.le_of_ble_eq_true rfl) (fun p e s m args below meth c C hr hlk hK hSt hW ls hl => zw_C_lowest C hr hlk hK hSt hap   x0 x2 S nx0 nx2 hf _ _ _ hW va_S.rf hl)
/-! java/lang/Long.bitCount(J)I -/
abbrev zy_Jl_bitCount : MethodName := ⟨"java/lang/Long", "bitCount", "(J)I"⟩
abbrev zb_Jl_bitCount : ByteArray := prog_20_method_50_code
abbrev zm_Jl_bitCount : Room := { frames := 0, cells := 0, slots := 0, locals := 0 }
theorem zq_Jl_bitCount : zMs zy_Jl_bitCount zb_Jl_bitCount 2 (some .int) 1 := ⟨zk_812, zk_811, zk_19, by decide, by decide, by decide +kernel⟩
theorem zd_Jl_bitCount_0 : decode zb_Jl_bitCount 0 = .ok (.lload_n 0, 1) := by decide +kernel
theorem zd_Jl_bitCount_1 : decode zb_Jl_bitCount 1 = .ok (.lload_n 0, 1) := by decide +kernel
theorem zd_Jl_bitCount_2 : decode zb_Jl_bitCount 2 = .ok (.iconst 1, 1) := by decide +kernel
theorem zd_Jl_bitCount_3 : decode zb_Jl_bitCount 3 = .ok (.lushr, 1) := by decide +kernel
theorem zd_Jl_bitCount_4 : decode zb_Jl_bitCount 4 = .ok (.ldc2_w 314, 3) := by decide +kernel
theorem zd_Jl_bitCount_7 : decode zb_Jl_bitCount 7 = .ok (.land, 1) := by decide +kernel
theorem zd_Jl_bitCount_8 : decode zb_Jl_bitCount 8 = .ok (.lsub, 1) := by decide +kernel
theorem zd_Jl_bitCount_9 : decode zb_Jl_bitCount 9 = .ok (.lstore_n 0, 1) := by decide +kernel
theorem zd_Jl_bitCount_10 : decode zb_Jl_bitCount 10 = .ok (.lload_n 0, 1) := by decide +kernel
theorem zd_Jl_bitCount_11 : decode zb_Jl_bitCount 11 = .ok (.ldc2_w 316, 3) := by decide +kernel
theorem zd_Jl_bitCount_14 : decode zb_Jl_bitCount 14 = .ok (.land, 1) := by decide +kernel
theorem zd_Jl_bitCount_15 : decode zb_Jl_bitCount 15 = .ok (.lload_n 0, 1) := by decide +kernel
theorem zd_Jl_bitCount_16 : decode zb_Jl_bitCount 16 = .ok (.iconst 2, 1) := by decide +kernel
theorem zd_Jl_bitCount_17 : decode zb_Jl_bitCount 17 = .ok (.lushr, 1) := by decide +kernel
theorem zd_Jl_bitCount_18 : decode zb_Jl_bitCount 18 = .ok (.ldc2_w 316, 3) := by decide +kernel
theorem zd_Jl_bitCount_21 : decode zb_Jl_bitCount 21 = .ok (.land, 1) := by decide +kernel
theorem zd_Jl_bitCount_22 : decode zb_Jl_bitCount 22 = .ok (.ladd, 1) := by decide +kernel
theorem zd_Jl_bitCount_23 : decode zb_Jl_bitCount 23 = .ok (.lstore_n 0, 1) := by decide +kernel
theorem zd_Jl_bitCount_24 : decode zb_Jl_bitCount 24 = .ok (.lload_n 0, 1) := by decide +kernel
theorem zd_Jl_bitCount_25 : decode zb_Jl_bitCount 25 = .ok (.lload_n 0, 1) := by decide +kernel
theorem zd_Jl_bitCount_26 : decode zb_Jl_bitCount 26 = .ok (.iconst 4, 1) := by decide +kernel
theorem zd_Jl_bitCount_27 : decode zb_Jl_bitCount 27 = .ok (.lushr, 1) := by decide +kernel
theorem zd_Jl_bitCount_28 : decode zb_Jl_bitCount 28 = .ok (.ladd, 1) := by decide +kernel
theorem zd_Jl_bitCount_29 : decode zb_Jl_bitCount 29 = .ok (.ldc2_w 318, 3) := by decide +kernel
theorem zd_Jl_bitCount_32 : decode zb_Jl_bitCount 32 = .ok (.land, 1) := by decide +kernel
theorem zd_Jl_bitCount_33 : decode zb_Jl_bitCount 33 = .ok (.lstore_n 0, 1) := by decide +kernel
theorem zd_Jl_bitCount_34 : decode zb_Jl_bitCount 34 = .ok (.lload_n 0, 1) := by decide +kernel
theorem zd_Jl_bitCount_35 : decode zb_Jl_bitCount 35 = .ok (.lload_n 0, 1) := by decide +kernel
theorem zd_Jl_bitCount_36 : decode zb_Jl_bitCount 36 = .ok (.bipush 8, 2) := by decide +kernel
theorem zd_Jl_bitCount_38 : decode zb_Jl_bitCount 38 = .ok (.lushr, 1) := by decide +kernel
theorem zd_Jl_bitCount_39 : decode zb_Jl_bitCount 39 = .ok (.ladd, 1) := by decide +kernel
theorem zd_Jl_bitCount_40 : decode zb_Jl_bitCount 40 = .ok (.lstore_n 0, 1) := by decide +kernel
theorem zd_Jl_bitCount_41 : decode zb_Jl_bitCount 41 = .ok (.lload_n 0, 1) := by decide +kernel
theorem zd_Jl_bitCount_42 : decode zb_Jl_bitCount 42 = .ok (.lload_n 0, 1) := by decide +kernel
theorem zd_Jl_bitCount_43 : decode zb_Jl_bitCount 43 = .ok (.bipush 16, 2) := by decide +kernel
theorem zd_Jl_bitCount_45 : decode zb_Jl_bitCount 45 = .ok (.lushr, 1) := by decide +kernel
theorem zd_Jl_bitCount_46 : decode zb_Jl_bitCount 46 = .ok (.ladd, 1) := by decide +kernel
theorem zd_Jl_bitCount_47 : decode zb_Jl_bitCount 47 = .ok (.lstore_n 0, 1) := by decide +kernel
theorem zd_Jl_bitCount_48 : decode zb_Jl_bitCount 48 = .ok (.lload_n 0, 1) := by decide +kernel
theorem zd_Jl_bitCount_49 : decode zb_Jl_bitCount 49 = .ok (.lload_n 0, 1) := by decide +kernel
theorem zd_Jl_bitCount_50 : decode zb_Jl_bitCount 50 = .ok (.bipush 32, 2) := by decide +kernel
theorem zd_Jl_bitCount_52 : decode zb_Jl_bitCount 52 = .ok (.lushr, 1) := by decide +kernel
theorem zd_Jl_bitCount_53 : decode zb_Jl_bitCount 53 = .ok (.ladd, 1) := by decide +kernel
theorem zd_Jl_bitCount_54 : decode zb_Jl_bitCount 54 = .ok (.lstore_n 0, 1) := by decide +kernel
theorem zd_Jl_bitCount_55 : decode zb_Jl_bitCount 55 = .ok (.lload_n 0, 1) := by decide +kernel
theorem zd_Jl_bitCount_56 : decode zb_Jl_bitCount 56 = .ok (.l2i, 1) := by decide +kernel
theorem zd_Jl_bitCount_57 : decode zb_Jl_bitCount 57 = .ok (.bipush 127, 2) := by decide +kernel
theorem zd_Jl_bitCount_59 : decode zb_Jl_bitCount 59 = .ok (.iand, 1) := by decide +kernel
theorem zd_Jl_bitCount_60 : decode zb_Jl_bitCount 60 = .ok (.ireturn, 1) := by decide +kernel

def zf_Jl_bitCount (x0 : Int) (S : Sg) : Option (Int × Sg) :=
    zlt (zv (x0 - (zlnd (zlus x0 1) 6148914691236517205))) fun v1 => zlt (zv ((zlnd v1 3689348814741910323) + (zlnd (zlus v1 2) 3689348814741910323))) fun v2 => zlt (zlnd (zv (v2 + (zlus v2 4))) 1085102592571150095) fun v3 => zlt (zv (v3 + (zlus v3 8))) fun v4 => zlt (zv (v4 + (zlus v4 16))) fun v5 => zlt (zv (v5 + (zlus v5 32))) fun v6 => some (zand (zw v6) 127, S)
set_option maxHeartbeats 4000000 in
set_option maxRecDepth 100000 in
theorem zw_Jl_bitCount {p : Program} {l : Launch} {e : Env} {s : State} {m : MethodId} {args : Array Value} {below : List Frame} {meth : Method} {c : Code} {B : zB} (C : CallFix p m c zb_Jl_bitCount 2 s args zT "java/lang/Long") (hr : meth.sig.returnType = some .int) (hlk : meth.locks = false) (hK : zK B s) (hSt : zSt B s) (hap : zAp B) {res : Int} {S9 : Sg} : ∀ (x0 : Int) (S : Sg) (nx0 : zm x0), zf_Jl_bitCount x0 S = some (res, S9) → ∀ (H : Heap) (locs : List Loc) (ls : Array Slot), zW B S H → va_S B.2.2.2 s.heap H locs → lv_has ls 2 [(0, .long (zL (x0)))] → W p l e zm_Jl_bitCount s m args below meth c H locs 0 0 (MQ below (zQi B res S9) args s 0 0 B.2.2.2) (F0 m 0 ls []) := by
  intro x0 S nx0 hf H locs ls hW hS hl
  unfold zf_Jl_bitCount at hf
  refine lv_lload_n C.1 C.2.1 zd_Jl_bitCount_0 rfl (lv_at hl 0 rfl) ?_
  refine lv_lload_n C.1 C.2.1 zd_Jl_bitCount_1 rfl (lv_at hl 0 rfl) ?_
  refine zr_iconst C zd_Jl_bitCount_2 ?_
  refine zr_lushr C zd_Jl_bitCount_3 ?_
  refine zr_ldc2 (n := 6148914691236517205) C zk_813 (by decide) zd_Jl_bitCount_4 ?_
  refine zr_land C zd_Jl_bitCount_7 ?_
  refine zr_lsub C zd_Jl_bitCount_8 ?_
  obtain ⟨v1, ev1, hf⟩ := zlt_some hf
  have nv1 : zm v1 := by rw [← ev1]; exact (zm_v _)
  rw [ev1]
  refine lv_lstore_n (lv' := [(0, .long (zL (v1)))]) C.1 C.2.1 zd_Jl_bitCount_9 rfl hl (by decide) rfl (fun ls hl => ?_)
  refine lv_lload_n C.1 C.2.1 zd_Jl_bitCount_10 rfl (lv_at hl 0 rfl) ?_
  refine zr_ldc2 (n := 3689348814741910323) C zk_814 (by decide) zd_Jl_bitCount_11 ?_
  refine zr_land C zd_Jl_bitCount_14 ?_
  refine lv_lload_n C.1 C.2.1 zd_Jl_bitCount_15 rfl (lv_at hl 0 rfl) ?_
  refine zr_iconst C zd_Jl_bitCount_16 ?_
  refine zr_lushr C zd_Jl_bitCount_17 ?_
  refine zr_ldc2 (n := 3689348814741910323) C zk_814 (by decide) zd_Jl_bitCount_18 ?_
  refine zr_land C zd_Jl_bitCount_21 ?_
  refine zr_ladd C zd_Jl_bitCount_22 ?_
  obtain ⟨v2, ev2, hf⟩ := zlt_some hf
  have nv2 : zm v2 := by rw [← ev2]; exact (zm_v _)
  rw [ev2]
  refine lv_lstore_n (lv' := [(0, .long (zL (v2)))]) C.1 C.2.1 zd_Jl_bitCount_23 rfl hl (by decide) rfl (fun ls hl => ?_)
  refine lv_lload_n C.1 C.2.1 zd_Jl_bitCount_24 rfl (lv_at hl 0 rfl) ?_
  refine lv_lload_n C.1 C.2.1 zd_Jl_bitCount_25 rfl (lv_at hl 0 rfl) ?_
  refine zr_iconst C zd_Jl_bitCount_26 ?_
  refine zr_lushr C zd_Jl_bitCount_27 ?_
  refine zr_ladd C zd_Jl_bitCount_28 ?_
  refine zr_ldc2 (n := 1085102592571150095) C zk_815 (by decide) zd_Jl_bitCount_29 ?_
  refine zr_land C zd_Jl_bitCount_32 ?_
  obtain ⟨v3, ev3, hf⟩ := zlt_some hf
  have nv3 : zm v3 := by rw [← ev3]; exact (zm_lnd _ _)
  rw [ev3]
  refine lv_lstore_n (lv' := [(0, .long (zL (v3)))]) C.1 C.2.1 zd_Jl_bitCount_33 rfl hl (by decide) rfl (fun ls hl => ?_)
  refine lv_lload_n C.1 C.2.1 zd_Jl_bitCount_34 rfl (lv_at hl 0 rfl) ?_
  refine lv_lload_n C.1 C.2.1 zd_Jl_bitCount_35 rfl (lv_at hl 0 rfl) ?_
  refine zr_bipush C zd_Jl_bitCount_36 (by decide) ?_
  refine zr_lushr C zd_Jl_bitCount_38 ?_
  refine zr_ladd C zd_Jl_bitCount_39 ?_
  obtain ⟨v4, ev4, hf⟩ := zlt_some hf
  have nv4 : zm v4 := by rw [← ev4]; exact (zm_v _)
  rw [ev4]
  refine lv_lstore_n (lv' := [(0, .long (zL (v4)))]) C.1 C.2.1 zd_Jl_bitCount_40 rfl hl (by decide) rfl (fun ls hl => ?_)
  refine lv_lload_n C.1 C.2.1 zd_Jl_bitCount_41 rfl (lv_at hl 0 rfl) ?_
  refine lv_lload_n C.1 C.2.1 zd_Jl_bitCount_42 rfl (lv_at hl 0 rfl) ?_
  refine zr_bipush C zd_Jl_bitCount_43 (by decide) ?_
  refine zr_lushr C zd_Jl_bitCount_45 ?_
  refine zr_ladd C zd_Jl_bitCount_46 ?_
  obtain ⟨v5, ev5, hf⟩ := zlt_some hf
  have nv5 : zm v5 := by rw [← ev5]; exact (zm_v _)
  rw [ev5]
  refine lv_lstore_n (lv' := [(0, .long (zL (v5)))]) C.1 C.2.1 zd_Jl_bitCount_47 rfl hl (by decide) rfl (fun ls hl => ?_)
  refine lv_lload_n C.1 C.2.1 zd_Jl_bitCount_48 rfl (lv_at hl 0 rfl) ?_
  refine lv_lload_n C.1 C.2.1 zd_Jl_bitCount_49 rfl (lv_at hl 0 rfl) ?_
  refine zr_bipush C zd_Jl_bitCount_50 (by decide) ?_
  refine zr_lushr C zd_Jl_bitCount_52 ?_
  refine zr_ladd C zd_Jl_bitCount_53 ?_
  obtain ⟨v6, ev6, hf⟩ := zlt_some hf
  have nv6 : zm v6 := by rw [← ev6]; exact (zm_v _)
  rw [ev6]
  refine lv_lstore_n (lv' := [(0, .long (zL (v6)))]) C.1 C.2.1 zd_Jl_bitCount_54 rfl hl (by decide) rfl (fun ls hl => ?_)
  refine lv_lload_n C.1 C.2.1 zd_Jl_bitCount_55 rfl (lv_at hl 0 rfl) ?_
  refine zr_l2i C nv6 zd_Jl_bitCount_56 ?_
  refine zr_bipush C zd_Jl_bitCount_57 (by decide) ?_
  refine zr_iand C zd_Jl_bitCount_59 ?_
  cases hf
  exact zre_i C hr hlk hK hW hS (zn_and _ _) zd_Jl_bitCount_60

theorem zc_Jl_bitCount {l : Launch} {B : zB} (hap : zAp B) (x0 : Int) (S : Sg) (nx0 : zm x0) {res : Int} {S9 : Sg} (hf : zf_Jl_bitCount x0 S = some (res, S9)) : Met l zy_Jl_bitCount (Cond.code zy_Jl_bitCount zb_Jl_bitCount 2 (some .int) :: zT) zm_Jl_bitCount (zP B S [.long (zL (x0))]) (zQi B res S9) 0 0 B.2.2.2 :=
  zmet (by decide) (Nat.le_of_ble_eq_true rfl) (fun p e s m args below meth c C hr hlk hK hSt hW ls hl => zw_Jl_bitCount C hr hlk hK hSt hap   x0 S nx0 hf _ _ _ hW va_S.rf hl)
/-! IslandOffice$Crews.fillInTurn()V -/
abbrev zy_C_fillInTurn : MethodName := ⟨"IslandOffice$Crews", "fillInTurn", "()V"⟩
abbrev zb_C_fillInTurn : ByteArray := prog_3_method_5_code
abbrev zm_C_fillInTurn : Room := { frames := 1, cells := 0, slots := 0, locals := 25 }
theorem zq_C_fillInTurn : zMy zy_C_fillInTurn zb_C_fillInTurn 6 (none) 0 := ⟨zk_848, zk_847, zs_25, zk_12, by decide, by decide, by decide +kernel⟩
theorem zd_C_fillInTurn_0 : decode zb_C_fillInTurn 0 = .ok (.lconst 0, 1) := by decide +kernel
theorem zd_C_fillInTurn_1 : decode zb_C_fillInTurn 1 = .ok (.lstore_n 1, 1) := by decide +kernel
theorem zd_C_fillInTurn_2 : decode zb_C_fillInTurn 2 = .ok (.iconst 0, 1) := by decide +kernel
theorem zd_C_fillInTurn_3 : decode zb_C_fillInTurn 3 = .ok (.istore_n 3, 1) := by decide +kernel
theorem zd_C_fillInTurn_4 : decode zb_C_fillInTurn 4 = .ok (.iload_n 3, 1) := by decide +kernel
theorem zd_C_fillInTurn_5 : decode zb_C_fillInTurn 5 = .ok (.bipush 8, 2) := by decide +kernel
theorem zd_C_fillInTurn_7 : decode zb_C_fillInTurn 7 = .ok (.if_icmp .ge 79, 3) := by decide +kernel
theorem zd_C_fillInTurn_10 : decode zb_C_fillInTurn 10 = .ok (.aload_n 0, 1) := by decide +kernel
theorem zd_C_fillInTurn_11 : decode zb_C_fillInTurn 11 = .ok (.getfield 11, 3) := by decide +kernel
theorem zd_C_fillInTurn_14 : decode zb_C_fillInTurn 14 = .ok (.iload_n 3, 1) := by decide +kernel
theorem zd_C_fillInTurn_15 : decode zb_C_fillInTurn 15 = .ok (.lconst 0, 1) := by decide +kernel
theorem zd_C_fillInTurn_16 : decode zb_C_fillInTurn 16 = .ok (.lastore, 1) := by decide +kernel
theorem zd_C_fillInTurn_17 : decode zb_C_fillInTurn 17 = .ok (.aload_n 0, 1) := by decide +kernel
theorem zd_C_fillInTurn_18 : decode zb_C_fillInTurn 18 = .ok (.getfield 15, 3) := by decide +kernel
theorem zd_C_fillInTurn_21 : decode zb_C_fillInTurn 21 = .ok (.iload_n 3, 1) := by decide +kernel
theorem zd_C_fillInTurn_22 : decode zb_C_fillInTurn 22 = .ok (.laload, 1) := by decide +kernel
theorem zd_C_fillInTurn_23 : decode zb_C_fillInTurn 23 = .ok (.lload_n 1, 1) := by decide +kernel
theorem zd_C_fillInTurn_24 : decode zb_C_fillInTurn 24 = .ok (.ldc2_w 109, 3) := by decide +kernel
theorem zd_C_fillInTurn_27 : decode zb_C_fillInTurn 27 = .ok (.lxor, 1) := by decide +kernel
theorem zd_C_fillInTurn_28 : decode zb_C_fillInTurn 28 = .ok (.land, 1) := by decide +kernel
theorem zd_C_fillInTurn_29 : decode zb_C_fillInTurn 29 = .ok (.lstore 4, 2) := by decide +kernel
theorem zd_C_fillInTurn_31 : decode zb_C_fillInTurn 31 = .ok (.aload_n 0, 1) := by decide +kernel
theorem zd_C_fillInTurn_32 : decode zb_C_fillInTurn 32 = .ok (.getfield 18, 3) := by decide +kernel
theorem zd_C_fillInTurn_35 : decode zb_C_fillInTurn 35 = .ok (.iload_n 3, 1) := by decide +kernel
theorem zd_C_fillInTurn_36 : decode zb_C_fillInTurn 36 = .ok (.iaload, 1) := by decide +kernel
theorem zd_C_fillInTurn_37 : decode zb_C_fillInTurn 37 = .ok (.ifCond .le 43, 3) := by decide +kernel
theorem zd_C_fillInTurn_40 : decode zb_C_fillInTurn 40 = .ok (.lload 4, 2) := by decide +kernel
theorem zd_C_fillInTurn_42 : decode zb_C_fillInTurn 42 = .ok (.invokestatic 51, 3) := by decide +kernel
theorem zd_C_fillInTurn_45 : decode zb_C_fillInTurn 45 = .ok (.aload_n 0, 1) := by decide +kernel
theorem zd_C_fillInTurn_46 : decode zb_C_fillInTurn 46 = .ok (.getfield 18, 3) := by decide +kernel
theorem zd_C_fillInTurn_49 : decode zb_C_fillInTurn 49 = .ok (.iload_n 3, 1) := by decide +kernel
theorem zd_C_fillInTurn_50 : decode zb_C_fillInTurn 50 = .ok (.iaload, 1) := by decide +kernel
theorem zd_C_fillInTurn_51 : decode zb_C_fillInTurn 51 = .ok (.if_icmp .lt 29, 3) := by decide +kernel
theorem zd_C_fillInTurn_54 : decode zb_C_fillInTurn 54 = .ok (.aload_n 0, 1) := by decide +kernel
theorem zd_C_fillInTurn_55 : decode zb_C_fillInTurn 55 = .ok (.getfield 11, 3) := by decide +kernel
theorem zd_C_fillInTurn_58 : decode zb_C_fillInTurn 58 = .ok (.iload_n 3, 1) := by decide +kernel
theorem zd_C_fillInTurn_59 : decode zb_C_fillInTurn 59 = .ok (.lload 4, 2) := by decide +kernel
theorem zd_C_fillInTurn_61 : decode zb_C_fillInTurn 61 = .ok (.aload_n 0, 1) := by decide +kernel
theorem zd_C_fillInTurn_62 : decode zb_C_fillInTurn 62 = .ok (.getfield 18, 3) := by decide +kernel
theorem zd_C_fillInTurn_65 : decode zb_C_fillInTurn 65 = .ok (.iload_n 3, 1) := by decide +kernel
theorem zd_C_fillInTurn_66 : decode zb_C_fillInTurn 66 = .ok (.iaload, 1) := by decide +kernel
theorem zd_C_fillInTurn_67 : decode zb_C_fillInTurn 67 = .ok (.invokestatic 111, 3) := by decide +kernel
theorem zd_C_fillInTurn_70 : decode zb_C_fillInTurn 70 = .ok (.lastore, 1) := by decide +kernel
theorem zd_C_fillInTurn_71 : decode zb_C_fillInTurn 71 = .ok (.lload_n 1, 1) := by decide +kernel
theorem zd_C_fillInTurn_72 : decode zb_C_fillInTurn 72 = .ok (.aload_n 0, 1) := by decide +kernel
theorem zd_C_fillInTurn_73 : decode zb_C_fillInTurn 73 = .ok (.getfield 11, 3) := by decide +kernel
theorem zd_C_fillInTurn_76 : decode zb_C_fillInTurn 76 = .ok (.iload_n 3, 1) := by decide +kernel
theorem zd_C_fillInTurn_77 : decode zb_C_fillInTurn 77 = .ok (.laload, 1) := by decide +kernel
theorem zd_C_fillInTurn_78 : decode zb_C_fillInTurn 78 = .ok (.lor, 1) := by decide +kernel
theorem zd_C_fillInTurn_79 : decode zb_C_fillInTurn 79 = .ok (.lstore_n 1, 1) := by decide +kernel
theorem zd_C_fillInTurn_80 : decode zb_C_fillInTurn 80 = .ok (.iinc 3 1, 3) := by decide +kernel
theorem zd_C_fillInTurn_83 : decode zb_C_fillInTurn 83 = .ok (.goto (-79), 3) := by decide +kernel
theorem zd_C_fillInTurn_86 : decode zb_C_fillInTurn 86 = .ok (.return_, 1) := by decide +kernel

def zf_C_fillInTurn_80 (q4 : Int → Int → Sg → Option (Int × Sg)) (x1 : Int) (x3 : Int) (S : Sg) : Option (Int × Sg) :=
    zlt (zw (x3 + 1)) fun v1 => q4 (x1) (v1) S
set_option maxHeartbeats 4000000 in
set_option maxRecDepth 100000 in
theorem zw_C_fillInTurn_80 {p : Program} {l : Launch} {e : Env} {s : State} {m : MethodId} {args : Array Value} {below : List Frame} {meth : Method} {c : Code} {B : zB} (C : CallFix p m c zb_C_fillInTurn 6 s args zT "IslandOffice$Crews") (hr : meth.sig.returnType = none) (hlk : meth.locks = false) (hK : zK B s) (hSt : zSt B s) (hap : zAp B) {res : Int} {S9 : Sg} (q4 : Int → Int → Sg → Option (Int × Sg)) (hq4 : ∀ (x1 : Int) (x3 : Int) (S : Sg) (nx1 : zm x1) (nx3 : zn x3), q4 x1 x3 S = some (res, S9) → ∀ (H : Heap) (locs : List Loc) (ls : Array Slot), zW B S H → va_S B.2.2.2 s.heap H locs → lv_has ls 6 [(0, .ref (B.2.1 3 (0) (10))), (1, .long (zL (x1))), (3, .int (zI (x3)))] → W p l e zm_C_fillInTurn s m args below meth c H locs 0 0 (MQ below (zQv B S9) args s 0 0 B.2.2.2) (F0 m 4 ls [])) : ∀ (x1 : Int) (x3 : Int) (S : Sg) (nx1 : zm x1) (nx3 : zn x3), zf_C_fillInTurn_80 q4 x1 x3 S = some (res, S9) → ∀ (H : Heap) (locs : List Loc) (ls : Array Slot), zW B S H → va_S B.2.2.2 s.heap H locs → lv_has ls 6 [(0, .ref (B.2.1 3 (0) (10))), (1, .long (zL (x1))), (3, .int (zI (x3)))] → W p l e zm_C_fillInTurn s m args below meth c H locs 0 0 (MQ below (zQv B S9) args s 0 0 B.2.2.2) (F0 m 80 ls []) := by
  intro x1 x3 S nx1 nx3 hf H locs ls hW hS hl
  unfold zf_C_fillInTurn_80 at hf
  obtain ⟨v1, ev1, hf⟩ := zlt_some hf
  have nv1 : zn v1 := by rw [← ev1]; exact zn_w _
  refine lv_iinc (v := zI v1) (lv' := [(3, .int (zI (v1))), (0, .ref (B.2.1 3 (0) (10))), (1, .long (zL (x1)))]) C.1 C.2.1 zd_C_fillInTurn_80 hl (k := 2) rfl (by rw [← ev1, ← zI_add]; rfl) (by decide) rfl (fun ls hl => ?_)
  refine lv_goto (tgt := 4) C.1 C.2.1 zd_C_fillInTurn_83 (by decide) ?_
  exact hq4 (x1) (v1) S nx1 nv1 hf _ _ _ hW hS (lv_sub hl [1, 2, 0] rfl)

def zf_C_fillInTurn_4 : Nat → Int → Int → Sg → Option (Int × Sg)
  | 0, _, _, _ => none
  | n + 1, x1, x3, S =>
    if 8 ≤ x3 then (some (0, S)) else (zck (0 ≤ x3 ∧ x3 < 8) <| zlt (zu S 20 0 0 x3 0) fun S3 => zlt (zlnd (S3 20 0 1 x3) (zlxr x1 (-1))) fun v4 => if (S3 3 0 11 x3) ≤ 0 then (zf_C_fillInTurn_80 (zf_C_fillInTurn_4 n) (x1) (x3) S3) else (zbd (zf_Jl_bitCount v4 S3) fun a6 S7 => if a6 < (S7 3 0 11 x3) then (zf_C_fillInTurn_80 (zf_C_fillInTurn_4 n) (x1) (x3) S7) else (zbd (zf_C_lowest v4 (S7 3 0 11 x3) S7) fun a9 S10 => zlt (zu S10 20 0 0 x3 a9) fun S11 => zlt (zlor x1 (S11 20 0 0 x3)) fun v12 => zf_C_fillInTurn_80 (zf_C_fillInTurn_4 n) (v12) (x3) S11)))
set_option maxHeartbeats 4000000 in
set_option maxRecDepth 100000 in
theorem zw_C_fillInTurn_4 {p : Program} {l : Launch} {e : Env} {s : State} {m : MethodId} {args : Array Value} {below : List Frame} {meth : Method} {c : Code} {B : zB} (C : CallFix p m c zb_C_fillInTurn 6 s args zT "IslandOffice$Crews") (hr : meth.sig.returnType = none) (hlk : meth.locks = false) (hK : zK B s) (hSt : zSt B s) (hap : zAp B) {res : Int} {S9 : Sg} : ∀ n : Nat, ∀ (x1 : Int) (x3 : Int) (S : Sg) (nx1 : zm x1) (nx3 : zn x3), zf_C_fillInTurn_4 n x1 x3 S = some (res, S9) → ∀ (H : Heap) (locs : List Loc) (ls : Array Slot), zW B S H → va_S B.2.2.2 s.heap H locs → lv_has ls 6 [(0, .ref (B.2.1 3 (0) (10))), (1, .long (zL (x1))), (3, .int (zI (x3)))] → W p l e zm_C_fillInTurn s m args below meth c H locs 0 0 (MQ below (zQv B S9) args s 0 0 B.2.2.2) (F0 m 4 ls []) := by
  intro n
  induction n with
  | zero =>
    intro x1 x3 S nx1 nx3 hf H locs ls hW hS hl
    cases hf
  | succ n ih =>
    intro x1 x3 S nx1 nx3 hf H locs ls hW hS hl
    rw [zf_C_fillInTurn_4] at hf
    refine lv_iload_n C.1 C.2.1 zd_C_fillInTurn_4 rfl (lv_at hl 2 rfl) ?_
    refine zr_bipush C zd_C_fillInTurn_5 (by decide) ?_
    refine zr_icmp_ge (tgt := 86) C nx3 (znb rfl) zd_C_fillInTurn_7 (by decide) (fun c1 => ?_) (fun c1 => ?_)
    · rw [if_pos c1] at hf
      cases hf
      exact zre_v C hr hlk hK hW hS zd_C_fillInTurn_86
    · rw [if_neg c1] at hf
      refine lv_aload_n C.1 C.2.1 zd_C_fillInTurn_10 rfl (lv_at hl 0 rfl) ?_
      refine zg_C_crew (r := 0) C hK hW (zvd_3 (by decide) (by decide)) zk_429 zd_C_fillInTurn_11 ?_
      refine lv_iload_n C.1 C.2.1 zd_C_fillInTurn_14 rfl (lv_at hl 2 rfl) ?_
      refine zr_lconst (k := 0) C zd_C_fillInTurn_15 rfl ?_
      obtain ⟨h2, hf⟩ := zck_some hf
      obtain ⟨S3, eS3, hf⟩ := zlt_some hf
      refine zlast C hK hap hW hS (zvd_20 (by decide) (by decide)) (fun f => ze_20_0 B f (0)) (by decide) rfl (zmb rfl) h2 zd_C_fillInTurn_16 (fun H locs hW hS => ?_)
      rw [eS3] at hW
      refine lv_aload_n C.1 C.2.1 zd_C_fillInTurn_17 rfl (lv_at hl 0 rfl) ?_
      refine zg_C_can (r := 0) C hK hW (zvd_3 (by decide) (by decide)) zk_432 zd_C_fillInTurn_18 ?_
      refine lv_iload_n C.1 C.2.1 zd_C_fillInTurn_21 rfl (lv_at hl 2 rfl) ?_
      refine zlald C hK hW (zvd_20 (by decide) (by decide)) (fun f => ze_20_1 B f (0)) (by decide) h2 zd_C_fillInTurn_22 ?_
      refine lv_lload_n C.1 C.2.1 zd_C_fillInTurn_23 rfl (lv_at hl 1 rfl) ?_
      refine zr_ldc2 (n := -1) C zk_849 (by decide) zd_C_fillInTurn_24 ?_
      refine zr_lxor C zd_C_fillInTurn_27 ?_
      refine zr_land C zd_C_fillInTurn_28 ?_
      obtain ⟨v4, ev4, hf⟩ := zlt_some hf
      have nv4 : zm v4 := by rw [← ev4]; exact (zm_lnd _ _)
      rw [ev4]
      refine lv_lstore (lv' := [(4, .long (zL (v4))), (0, .ref (B.2.1 3 (0) (10))), (1, .long (zL (x1))), (3, .int (zI (x3)))]) C.1 C.2.1 zd_C_fillInTurn_29 hl (by decide) rfl (fun ls hl => ?_)
      refine lv_aload_n C.1 C.2.1 zd_C_fillInTurn_31 rfl (lv_at hl 1 rfl) ?_
      refine zg_C_hands (r := 0) C hK hW (zvd_3 (by decide) (by decide)) zk_433 zd_C_fillInTurn_32 ?_
      refine lv_iload_n C.1 C.2.1 zd_C_fillInTurn_35 rfl (lv_at hl 3 rfl) ?_
      refine ziald C hK hW (zvd_3 (by decide) (by decide)) (fun f => ze_3_11 B f (0)) (by decide) h2 zd_C_fillInTurn_36 ?_
      refine zr_if_le (tgt := 80) C (zWn hW _ _ _ _ rfl) zd_C_fillInTurn_37 (by decide) (fun c5 => ?_) (fun c5 => ?_)
      · rw [if_pos c5] at hf
        exact zw_C_fillInTurn_80 C hr hlk hK hSt hap   (zf_C_fillInTurn_4 n) (ih) (x1) (x3) S3 nx1 nx3 hf _ _ _ hW hS (lv_sub hl [1, 2, 3] rfl)
      · rw [if_neg c5] at hf
        refine lv_lload C.1 C.2.1 zd_C_fillInTurn_40 (lv_at hl 0 rfl) ?_
        obtain ⟨a6, S7, ea6, hf⟩ := zbd_some hf
        refine zcSi (As := [.long (zL (v4))]) (rest := []) C hK hSt hW hS (zc_Jl_bitCount hap v4 S3 nv4 ea6) zq_Jl_bitCount zk_810 ⟨rfl, rfl, by decide, by decide⟩ ⟨Nat.zero_le _, Nat.zero_le _⟩ rfl hl.1 rfl (lv_room (Nat.le_of_ble_eq_true rfl)) zd_C_fillInTurn_42 (fun na6 H locs hW hS => ?_)
        refine lv_aload_n C.1 C.2.1 zd_C_fillInTurn_45 rfl (lv_at hl 1 rfl) ?_
        refine zg_C_hands (r := 0) C hK hW (zvd_3 (by decide) (by decide)) zk_433 zd_C_fillInTurn_46 ?_
        refine lv_iload_n C.1 C.2.1 zd_C_fillInTurn_49 rfl (lv_at hl 3 rfl) ?_
        refine ziald C hK hW (zvd_3 (by decide) (by decide)) (fun f => ze_3_11 B f (0)) (by decide) h2 zd_C_fillInTurn_50 ?_
        refine zr_icmp_lt (tgt := 80) C na6 (zWn hW _ _ _ _ rfl) zd_C_fillInTurn_51 (by decide) (fun c8 => ?_) (fun c8 => ?_)
        · rw [if_pos c8] at hf
          exact zw_C_fillInTurn_80 C hr hlk hK hSt hap   (zf_C_fillInTurn_4 n) (ih) (x1) (x3) S7 nx1 nx3 hf _ _ _ hW hS (lv_sub hl [1, 2, 3] rfl)
        · rw [if_neg c8] at hf
          refine lv_aload_n C.1 C.2.1 zd_C_fillInTurn_54 rfl (lv_at hl 1 rfl) ?_
          refine zg_C_crew (r := 0) C hK hW (zvd_3 (by decide) (by decide)) zk_429 zd_C_fillInTurn_55 ?_
          refine lv_iload_n C.1 C.2.1 zd_C_fillInTurn_58 rfl (lv_at hl 3 rfl) ?_
          refine lv_lload C.1 C.2.1 zd_C_fillInTurn_59 (lv_at hl 0 rfl) ?_
          refine lv_aload_n C.1 C.2.1 zd_C_fillInTurn_61 rfl (lv_at hl 1 rfl) ?_
          refine zg_C_hands (r := 0) C hK hW (zvd_3 (by decide) (by decide)) zk_433 zd_C_fillInTurn_62 ?_
          refine lv_iload_n C.1 C.2.1 zd_C_fillInTurn_65 rfl (lv_at hl 3 rfl) ?_
          refine ziald C hK hW (zvd_3 (by decide) (by decide)) (fun f => ze_3_11 B f (0)) (by decide) h2 zd_C_fillInTurn_66 ?_
          obtain ⟨a9, S10, ea9, hf⟩ := zbd_some hf
          refine zcSl (As := [.long (zL (v4)), .int (zI (S7 3 0 11 x3))]) (rest := [.int (zI (x3)), .ref (B.2.1 20 (0) (0))]) C hK hSt hW hS (zc_C_lowest hap v4 (S7 3 0 11 x3) S7 nv4 (zWn hW _ _ _ _ rfl) ea9) zq_C_lowest zk_850 ⟨rfl, rfl, by decide, by decide⟩ ⟨Nat.zero_le _, Nat.zero_le _⟩ rfl hl.1 rfl (lv_room (Nat.le_of_ble_eq_true rfl)) zd_C_fillInTurn_67 (fun na9 H locs hW hS => ?_)
          obtain ⟨S11, eS11, hf⟩ := zlt_some hf
          refine zlast C hK hap hW hS (zvd_20 (by decide) (by decide)) (fun f => ze_20_0 B f (0)) (by decide) rfl na9 h2 zd_C_fillInTurn_70 (fun H locs hW hS => ?_)
          rw [eS11] at hW
          refine lv_lload_n C.1 C.2.1 zd_C_fillInTurn_71 rfl (lv_at hl 2 rfl) ?_
          refine lv_aload_n C.1 C.2.1 zd_C_fillInTurn_72 rfl (lv_at hl 1 rfl) ?_
          refine zg_C_crew (r := 0) C hK hW (zvd_3 (by decide) (by decide)) zk_429 zd_C_fillInTurn_73 ?_
          refine lv_iload_n C.1 C.2.1 zd_C_fillInTurn_76 rfl (lv_at hl 3 rfl) ?_
          refine zlald C hK hW (zvd_20 (by decide) (by decide)) (fun f => ze_20_0 B f (0)) (by decide) h2 zd_C_fillInTurn_77 ?_
          refine zr_lor C zd_C_fillInTurn_78 ?_
          obtain ⟨v12, ev12, hf⟩ := zlt_some hf
          have nv12 : zm v12 := by rw [← ev12]; exact (zm_lor _ _)
          rw [ev12]
          refine lv_lstore_n (lv' := [(1, .long (zL (v12))), (4, .long (zL (v4))), (0, .ref (B.2.1 3 (0) (10))), (3, .int (zI (x3)))]) C.1 C.2.1 zd_C_fillInTurn_79 rfl hl (by decide) rfl (fun ls hl => ?_)
          exact zw_C_fillInTurn_80 C hr hlk hK hSt hap   (zf_C_fillInTurn_4 n) (ih) (v12) (x3) S11 nv12 nx3 hf _ _ _ hW hS (lv_sub hl [2, 0, 3] rfl)

def zf_C_fillInTurn (S : Sg) : Option (Int × Sg) :=
    zf_C_fillInTurn_4 4096 (0) (0) S
set_option maxHeartbeats 4000000 in
set_option maxRecDepth 100000 in
theorem zw_C_fillInTurn {p : Program} {l : Launch} {e : Env} {s : State} {m : MethodId} {args : Array Value} {below : List Frame} {meth : Method} {c : Code} {B : zB} (C : CallFix p m c zb_C_fillInTurn 6 s args zT "IslandOffice$Crews") (hr : meth.sig.returnType = none) (hlk : meth.locks = false) (hK : zK B s) (hSt : zSt B s) (hap : zAp B) {res : Int} {S9 : Sg} : ∀  (S : Sg) , zf_C_fillInTurn  S = some (res, S9) → ∀ (H : Heap) (locs : List Loc) (ls : Array Slot), zW B S H → va_S B.2.2.2 s.heap H locs → lv_has ls 6 [(0, .ref (B.2.1 3 (0) (10)))] → W p l e zm_C_fillInTurn s m args below meth c H locs 0 0 (MQ below (zQv B S9) args s 0 0 B.2.2.2) (F0 m 0 ls []) := by
  intro S hf H locs ls hW hS hl
  unfold zf_C_fillInTurn at hf
  refine zr_lconst (k := 0) C zd_C_fillInTurn_0 rfl ?_
  refine lv_lstore_n (lv' := [(1, .long (zL (0))), (0, .ref (B.2.1 3 (0) (10)))]) C.1 C.2.1 zd_C_fillInTurn_1 rfl hl (by decide) rfl (fun ls hl => ?_)
  refine zr_iconst C zd_C_fillInTurn_2 ?_
  refine lv_istore_n (lv' := [(3, .int (zI (0))), (1, .long (zL (0))), (0, .ref (B.2.1 3 (0) (10)))]) C.1 C.2.1 zd_C_fillInTurn_3 rfl hl (by decide) rfl (fun ls hl => ?_)
  exact zw_C_fillInTurn_4 C hr hlk hK hSt hap   4096 (0) (0) S (zmb rfl) (znb rfl) hf _ _ _ hW hS (lv_sub hl [2, 1, 0] rfl)

theorem zc_C_fillInTurn {l : Launch} {B : zB} (hap : zAp B) (S : Sg) {res : Int} {S9 : Sg} (hf : zf_C_fillInTurn  S = some (res, S9)) : Met l zy_C_fillInTurn (Cond.code zy_C_fillInTurn zb_C_fillInTurn 6 (none) :: zT) zm_C_fillInTurn (zP B S [.ref (B.2.1 3 (0) (10))]) (zQv B S9) 0 0 B.2.2.2 :=
  zmet (by decide) (Nat.le_of_ble_eq_true rfl) (fun p e s m args below meth c C hr hlk hK hSt hW ls hl => zw_C_fillInTurn C hr hlk hK hSt hap    S  hf _ _ _ hW va_S.rf hl)
/-! IslandOffice$Crews.fill(LIslandOffice$Island;LIslandOffice$Judge;)I -/
abbrev zy_C_fill : MethodName := ⟨"IslandOffice$Crews", "fill", "(LIslandOffice$Island;LIslandOffice$Judge;)I"⟩
abbrev zb_C_fill : ByteArray := prog_3_method_2_code
abbrev zm_C_fill : Room := { frames := 4, cells := 0, slots := 0, locals := 143 }
theorem zq_C_fill : zMy zy_C_fill zb_C_fill 6 (some .int) 2 := ⟨zk_795, zk_793, zk_794, zk_12, by decide, by decide, by decide +kernel⟩
theorem zd_C_fill_0 : decode zb_C_fill 0 = .ok (.aload_n 0, 1) := by decide +kernel
theorem zd_C_fill_1 : decode zb_C_fill 1 = .ok (.aload_n 1, 1) := by decide +kernel
theorem zd_C_fill_2 : decode zb_C_fill 2 = .ok (.aload_n 2, 1) := by decide +kernel
theorem zd_C_fill_3 : decode zb_C_fill 3 = .ok (.invokevirtual 43, 3) := by decide +kernel
theorem zd_C_fill_6 : decode zb_C_fill 6 = .ok (.lstore_n 3, 1) := by decide +kernel
theorem zd_C_fill_7 : decode zb_C_fill 7 = .ok (.aload_n 0, 1) := by decide +kernel
theorem zd_C_fill_8 : decode zb_C_fill 8 = .ok (.invokevirtual 47, 3) := by decide +kernel
theorem zd_C_fill_11 : decode zb_C_fill 11 = .ok (.ifCond .eq 8, 3) := by decide +kernel
theorem zd_C_fill_14 : decode zb_C_fill 14 = .ok (.aload_n 0, 1) := by decide +kernel
theorem zd_C_fill_15 : decode zb_C_fill 15 = .ok (.getfield 28, 3) := by decide +kernel
theorem zd_C_fill_18 : decode zb_C_fill 18 = .ok (.ireturn, 1) := by decide +kernel
theorem zd_C_fill_19 : decode zb_C_fill 19 = .ok (.lload_n 3, 1) := by decide +kernel
theorem zd_C_fill_20 : decode zb_C_fill 20 = .ok (.invokestatic 51, 3) := by decide +kernel
theorem zd_C_fill_23 : decode zb_C_fill 23 = .ok (.bipush 9, 2) := by decide +kernel
theorem zd_C_fill_25 : decode zb_C_fill 25 = .ok (.if_icmp .gt 11, 3) := by decide +kernel
theorem zd_C_fill_28 : decode zb_C_fill 28 = .ok (.aload_n 0, 1) := by decide +kernel
theorem zd_C_fill_29 : decode zb_C_fill 29 = .ok (.lload_n 3, 1) := by decide +kernel
theorem zd_C_fill_30 : decode zb_C_fill 30 = .ok (.invokevirtual 57, 3) := by decide +kernel
theorem zd_C_fill_33 : decode zb_C_fill 33 = .ok (.goto 7, 3) := by decide +kernel
theorem zd_C_fill_36 : decode zb_C_fill 36 = .ok (.aload_n 0, 1) := by decide +kernel
theorem zd_C_fill_37 : decode zb_C_fill 37 = .ok (.invokevirtual 61, 3) := by decide +kernel
theorem zd_C_fill_40 : decode zb_C_fill 40 = .ok (.aload_n 0, 1) := by decide +kernel
theorem zd_C_fill_41 : decode zb_C_fill 41 = .ok (.iconst 0, 1) := by decide +kernel
theorem zd_C_fill_42 : decode zb_C_fill 42 = .ok (.putfield 28, 3) := by decide +kernel
theorem zd_C_fill_45 : decode zb_C_fill 45 = .ok (.iconst 0, 1) := by decide +kernel
theorem zd_C_fill_46 : decode zb_C_fill 46 = .ok (.istore 5, 2) := by decide +kernel
theorem zd_C_fill_48 : decode zb_C_fill 48 = .ok (.iload 5, 2) := by decide +kernel
theorem zd_C_fill_50 : decode zb_C_fill 50 = .ok (.bipush 8, 2) := by decide +kernel
theorem zd_C_fill_52 : decode zb_C_fill 52 = .ok (.if_icmp .ge 59, 3) := by decide +kernel
theorem zd_C_fill_55 : decode zb_C_fill 55 = .ok (.aload_n 0, 1) := by decide +kernel
theorem zd_C_fill_56 : decode zb_C_fill 56 = .ok (.getfield 22, 3) := by decide +kernel
theorem zd_C_fill_59 : decode zb_C_fill 59 = .ok (.iload 5, 2) := by decide +kernel
theorem zd_C_fill_61 : decode zb_C_fill 61 = .ok (.aload_n 0, 1) := by decide +kernel
theorem zd_C_fill_62 : decode zb_C_fill 62 = .ok (.getfield 15, 3) := by decide +kernel
theorem zd_C_fill_65 : decode zb_C_fill 65 = .ok (.iload 5, 2) := by decide +kernel
theorem zd_C_fill_67 : decode zb_C_fill 67 = .ok (.laload, 1) := by decide +kernel
theorem zd_C_fill_68 : decode zb_C_fill 68 = .ok (.lastore, 1) := by decide +kernel
theorem zd_C_fill_69 : decode zb_C_fill 69 = .ok (.aload_n 0, 1) := by decide +kernel
theorem zd_C_fill_70 : decode zb_C_fill 70 = .ok (.getfield 25, 3) := by decide +kernel
theorem zd_C_fill_73 : decode zb_C_fill 73 = .ok (.iload 5, 2) := by decide +kernel
theorem zd_C_fill_75 : decode zb_C_fill 75 = .ok (.aload_n 0, 1) := by decide +kernel
theorem zd_C_fill_76 : decode zb_C_fill 76 = .ok (.getfield 18, 3) := by decide +kernel
theorem zd_C_fill_79 : decode zb_C_fill 79 = .ok (.iload 5, 2) := by decide +kernel
theorem zd_C_fill_81 : decode zb_C_fill 81 = .ok (.iaload, 1) := by decide +kernel
theorem zd_C_fill_82 : decode zb_C_fill 82 = .ok (.iastore, 1) := by decide +kernel
theorem zd_C_fill_83 : decode zb_C_fill 83 = .ok (.aload_n 0, 1) := by decide +kernel
theorem zd_C_fill_84 : decode zb_C_fill 84 = .ok (.getfield 11, 3) := by decide +kernel
theorem zd_C_fill_87 : decode zb_C_fill 87 = .ok (.iload 5, 2) := by decide +kernel
theorem zd_C_fill_89 : decode zb_C_fill 89 = .ok (.laload, 1) := by decide +kernel
theorem zd_C_fill_90 : decode zb_C_fill 90 = .ok (.lconst 0, 1) := by decide +kernel
theorem zd_C_fill_91 : decode zb_C_fill 91 = .ok (.lcmp, 1) := by decide +kernel
theorem zd_C_fill_92 : decode zb_C_fill 92 = .ok (.ifCond .eq 13, 3) := by decide +kernel
theorem zd_C_fill_95 : decode zb_C_fill 95 = .ok (.aload_n 0, 1) := by decide +kernel
theorem zd_C_fill_96 : decode zb_C_fill 96 = .ok (.dup, 1) := by decide +kernel
theorem zd_C_fill_97 : decode zb_C_fill 97 = .ok (.getfield 28, 3) := by decide +kernel
theorem zd_C_fill_100 : decode zb_C_fill 100 = .ok (.iconst 1, 1) := by decide +kernel
theorem zd_C_fill_101 : decode zb_C_fill 101 = .ok (.iadd, 1) := by decide +kernel
theorem zd_C_fill_102 : decode zb_C_fill 102 = .ok (.putfield 28, 3) := by decide +kernel
theorem zd_C_fill_105 : decode zb_C_fill 105 = .ok (.iinc 5 1, 3) := by decide +kernel
theorem zd_C_fill_108 : decode zb_C_fill 108 = .ok (.goto (-60), 3) := by decide +kernel
theorem zd_C_fill_111 : decode zb_C_fill 111 = .ok (.aload_n 0, 1) := by decide +kernel
theorem zd_C_fill_112 : decode zb_C_fill 112 = .ok (.getfield 28, 3) := by decide +kernel
theorem zd_C_fill_115 : decode zb_C_fill 115 = .ok (.ireturn, 1) := by decide +kernel

def zf_C_fill_105 (r1 : Int) (q48 : Int → Sg → Option (Int × Sg)) (x5 : Int) (S : Sg) : Option (Int × Sg) :=
    zlt (zw (x5 + 1)) fun v1 => q48 (v1) S
set_option maxHeartbeats 4000000 in
set_option maxRecDepth 100000 in
theorem zw_C_fill_105 {p : Program} {l : Launch} {e : Env} {s : State} {m : MethodId} {args : Array Value} {below : List Frame} {meth : Method} {c : Code} {B : zB} (C : CallFix p m c zb_C_fill 6 s args zT "IslandOffice$Crews") (hr : meth.sig.returnType = some .int) (hlk : meth.locks = false) (hK : zK B s) (hSt : zSt B s) (hap : zAp B) (r1 : Int) (hr1 : 0 ≤ r1 ∧ r1 < 3) {res : Int} {S9 : Sg} (q48 : Int → Sg → Option (Int × Sg)) (hq48 : ∀ (x5 : Int) (S : Sg) (nx5 : zn x5), q48 x5 S = some (res, S9) → ∀ (H : Heap) (locs : List Loc) (ls : Array Slot), zW B S H → va_S B.2.2.2 s.heap H locs → lv_has ls 6 [(0, .ref (B.2.1 3 (0) (10))), (5, .int (zI (x5)))] → W p l e zm_C_fill s m args below meth c H locs 0 0 (MQ below (zQi B res S9) args s 0 0 B.2.2.2) (F0 m 48 ls [])) : ∀ (x5 : Int) (S : Sg) (nx5 : zn x5), zf_C_fill_105 r1 q48 x5 S = some (res, S9) → ∀ (H : Heap) (locs : List Loc) (ls : Array Slot), zW B S H → va_S B.2.2.2 s.heap H locs → lv_has ls 6 [(0, .ref (B.2.1 3 (0) (10))), (5, .int (zI (x5)))] → W p l e zm_C_fill s m args below meth c H locs 0 0 (MQ below (zQi B res S9) args s 0 0 B.2.2.2) (F0 m 105 ls []) := by
  intro x5 S nx5 hf H locs ls hW hS hl
  unfold zf_C_fill_105 at hf
  obtain ⟨v1, ev1, hf⟩ := zlt_some hf
  have nv1 : zn v1 := by rw [← ev1]; exact zn_w _
  refine lv_iinc (v := zI v1) (lv' := [(5, .int (zI (v1))), (0, .ref (B.2.1 3 (0) (10)))]) C.1 C.2.1 zd_C_fill_105 hl (k := 1) rfl (by rw [← ev1, ← zI_add]; rfl) (by decide) rfl (fun ls hl => ?_)
  refine lv_goto (tgt := 48) C.1 C.2.1 zd_C_fill_108 (by decide) ?_
  exact hq48 (v1) S nv1 hf _ _ _ hW hS (lv_sub hl [1, 0] rfl)

def zf_C_fill_48 (r1 : Int) : Nat → Int → Sg → Option (Int × Sg)
  | 0, _, _ => none
  | n + 1, x5, S =>
    if 8 ≤ x5 then (some (S 3 0 10 5, S)) else (zck (0 ≤ x5 ∧ x5 < 8) <| zlt (zu S 20 0 2 x5 (S 20 0 1 x5)) fun S3 => zlt (zu S3 3 0 12 x5 (S3 3 0 11 x5)) fun S4 => if (zcmp (S4 20 0 0 x5) 0) = 0 then (zf_C_fill_105 r1 (zf_C_fill_48 r1 n) (x5) S4) else (zlt (zu S4 3 0 10 5 (zw ((S4 3 0 10 5) + 1))) fun S6 => zf_C_fill_105 r1 (zf_C_fill_48 r1 n) (x5) S6))
set_option maxHeartbeats 4000000 in
set_option maxRecDepth 100000 in
theorem zw_C_fill_48 {p : Program} {l : Launch} {e : Env} {s : State} {m : MethodId} {args : Array Value} {below : List Frame} {meth : Method} {c : Code} {B : zB} (C : CallFix p m c zb_C_fill 6 s args zT "IslandOffice$Crews") (hr : meth.sig.returnType = some .int) (hlk : meth.locks = false) (hK : zK B s) (hSt : zSt B s) (hap : zAp B) (r1 : Int) (hr1 : 0 ≤ r1 ∧ r1 < 3) {res : Int} {S9 : Sg} : ∀ n : Nat, ∀ (x5 : Int) (S : Sg) (nx5 : zn x5), zf_C_fill_48 r1 n x5 S = some (res, S9) → ∀ (H : Heap) (locs : List Loc) (ls : Array Slot), zW B S H → va_S B.2.2.2 s.heap H locs → lv_has ls 6 [(0, .ref (B.2.1 3 (0) (10))), (5, .int (zI (x5)))] → W p l e zm_C_fill s m args below meth c H locs 0 0 (MQ below (zQi B res S9) args s 0 0 B.2.2.2) (F0 m 48 ls []) := by
  intro n
  induction n with
  | zero =>
    intro x5 S nx5 hf H locs ls hW hS hl
    cases hf
  | succ n ih =>
    intro x5 S nx5 hf H locs ls hW hS hl
    rw [zf_C_fill_48] at hf
    refine lv_iload C.1 C.2.1 zd_C_fill_48 (lv_at hl 1 rfl) ?_
    refine zr_bipush C zd_C_fill_50 (by decide) ?_
    refine zr_icmp_ge (tgt := 111) C nx5 (znb rfl) zd_C_fill_52 (by decide) (fun c1 => ?_) (fun c1 => ?_)
    · rw [if_pos c1] at hf
      refine lv_aload_n C.1 C.2.1 zd_C_fill_111 rfl (lv_at hl 0 rfl) ?_
      refine zg_C_filled (r := 0) C hK hW (zvd_3 (by decide) (by decide)) zk_436 zd_C_fill_112 ?_
      cases hf
      exact zre_i C hr hlk hK hW hS (zWn hW _ _ _ _ rfl) zd_C_fill_115
    · rw [if_neg c1] at hf
      refine lv_aload_n C.1 C.2.1 zd_C_fill_55 rfl (lv_at hl 0 rfl) ?_
      refine zg_C_canBefore (r := 0) C hK hW (zvd_3 (by decide) (by decide)) zk_434 zd_C_fill_56 ?_
      refine lv_iload C.1 C.2.1 zd_C_fill_59 (lv_at hl 1 rfl) ?_
      refine lv_aload_n C.1 C.2.1 zd_C_fill_61 rfl (lv_at hl 0 rfl) ?_
      refine zg_C_can (r := 0) C hK hW (zvd_3 (by decide) (by decide)) zk_432 zd_C_fill_62 ?_
      refine lv_iload C.1 C.2.1 zd_C_fill_65 (lv_at hl 1 rfl) ?_
      obtain ⟨h2, hf⟩ := zck_some hf
      refine zlald C hK hW (zvd_20 (by decide) (by decide)) (fun f => ze_20_1 B f (0)) (by decide) h2 zd_C_fill_67 ?_
      obtain ⟨S3, eS3, hf⟩ := zlt_some hf
      refine zlast C hK hap hW hS (zvd_20 (by decide) (by decide)) (fun f => ze_20_2 B f (0)) (by decide) rfl (zWm hW _ _ _ _ rfl) h2 zd_C_fill_68 (fun H locs hW hS => ?_)
      rw [eS3] at hW
      refine lv_aload_n C.1 C.2.1 zd_C_fill_69 rfl (lv_at hl 0 rfl) ?_
      refine zg_C_handsBefore (r := 0) C hK hW (zvd_3 (by decide) (by decide)) zk_435 zd_C_fill_70 ?_
      refine lv_iload C.1 C.2.1 zd_C_fill_73 (lv_at hl 1 rfl) ?_
      refine lv_aload_n C.1 C.2.1 zd_C_fill_75 rfl (lv_at hl 0 rfl) ?_
      refine zg_C_hands (r := 0) C hK hW (zvd_3 (by decide) (by decide)) zk_433 zd_C_fill_76 ?_
      refine lv_iload C.1 C.2.1 zd_C_fill_79 (lv_at hl 1 rfl) ?_
      refine ziald C hK hW (zvd_3 (by decide) (by decide)) (fun f => ze_3_11 B f (0)) (by decide) h2 zd_C_fill_81 ?_
      obtain ⟨S4, eS4, hf⟩ := zlt_some hf
      refine ziast C hK hap hW hS (zvd_3 (by decide) (by decide)) (fun f => ze_3_12 B f (0)) (by decide) rfl (zWn hW _ _ _ _ rfl) h2 zd_C_fill_82 (fun H locs hW hS => ?_)
      rw [eS4] at hW
      refine lv_aload_n C.1 C.2.1 zd_C_fill_83 rfl (lv_at hl 0 rfl) ?_
      refine zg_C_crew (r := 0) C hK hW (zvd_3 (by decide) (by decide)) zk_429 zd_C_fill_84 ?_
      refine lv_iload C.1 C.2.1 zd_C_fill_87 (lv_at hl 1 rfl) ?_
      refine zlald C hK hW (zvd_20 (by decide) (by decide)) (fun f => ze_20_0 B f (0)) (by decide) h2 zd_C_fill_89 ?_
      refine zr_lconst (k := 0) C zd_C_fill_90 rfl ?_
      refine zr_lcmp C (zWm hW _ _ _ _ rfl) (zmb rfl) zd_C_fill_91 ?_
      refine zr_if_eq (tgt := 105) C (zn_cmp _ _) zd_C_fill_92 (by decide) (fun c5 => ?_) (fun c5 => ?_)
      · rw [if_pos c5] at hf
        exact zw_C_fill_105 C hr hlk hK hSt hap r1 hr1 (zf_C_fill_48 r1 n) (ih) (x5) S4 nx5 hf _ _ _ hW hS (lv_sub hl [0, 1] rfl)
      · rw [if_neg c5] at hf
        refine lv_aload_n C.1 C.2.1 zd_C_fill_95 rfl (lv_at hl 0 rfl) ?_
        refine lv_dup C.1 C.2.1 zd_C_fill_96 rfl ?_
        refine zg_C_filled (r := 0) C hK hW (zvd_3 (by decide) (by decide)) zk_436 zd_C_fill_97 ?_
        refine zr_iconst C zd_C_fill_100 ?_
        refine zr_iadd C zd_C_fill_101 ?_
        obtain ⟨S6, eS6, hf⟩ := zlt_some hf
        refine zp_C_filled (r := 0) C hK hap hW hS (zvd_3 (by decide) (by decide)) zk_436 (zn_w _) zd_C_fill_102 (fun H locs hW hS => ?_)
        rw [eS6] at hW
        exact zw_C_fill_105 C hr hlk hK hSt hap r1 hr1 (zf_C_fill_48 r1 n) (ih) (x5) S6 nx5 hf _ _ _ hW hS (lv_sub hl [0, 1] rfl)

def zf_C_fill_40 (r1 : Int) (S : Sg) : Option (Int × Sg) :=
    zlt (zu S 3 0 10 5 0) fun S1 => zf_C_fill_48 r1 4096 (0) S1
set_option maxHeartbeats 4000000 in
set_option maxRecDepth 100000 in
theorem zw_C_fill_40 {p : Program} {l : Launch} {e : Env} {s : State} {m : MethodId} {args : Array Value} {below : List Frame} {meth : Method} {c : Code} {B : zB} (C : CallFix p m c zb_C_fill 6 s args zT "IslandOffice$Crews") (hr : meth.sig.returnType = some .int) (hlk : meth.locks = false) (hK : zK B s) (hSt : zSt B s) (hap : zAp B) (r1 : Int) (hr1 : 0 ≤ r1 ∧ r1 < 3) {res : Int} {S9 : Sg} : ∀  (S : Sg) , zf_C_fill_40 r1  S = some (res, S9) → ∀ (H : Heap) (locs : List Loc) (ls : Array Slot), zW B S H → va_S B.2.2.2 s.heap H locs → lv_has ls 6 [(0, .ref (B.2.1 3 (0) (10)))] → W p l e zm_C_fill s m args below meth c H locs 0 0 (MQ below (zQi B res S9) args s 0 0 B.2.2.2) (F0 m 40 ls []) := by
  intro S hf H locs ls hW hS hl
  unfold zf_C_fill_40 at hf
  refine lv_aload_n C.1 C.2.1 zd_C_fill_40 rfl (lv_at hl 0 rfl) ?_
  refine zr_iconst C zd_C_fill_41 ?_
  obtain ⟨S1, eS1, hf⟩ := zlt_some hf
  refine zp_C_filled (r := 0) C hK hap hW hS (zvd_3 (by decide) (by decide)) zk_436 (znb rfl) zd_C_fill_42 (fun H locs hW hS => ?_)
  rw [eS1] at hW
  refine zr_iconst C zd_C_fill_45 ?_
  refine lv_istore (lv' := [(5, .int (zI (0))), (0, .ref (B.2.1 3 (0) (10)))]) C.1 C.2.1 zd_C_fill_46 hl (by decide) rfl (fun ls hl => ?_)
  exact zw_C_fill_48 C hr hlk hK hSt hap r1 hr1 4096 (0) S1 (znb rfl) hf _ _ _ hW hS (lv_sub hl [1, 0] rfl)

def zf_C_fill (r1 : Int) (S : Sg) : Option (Int × Sg) :=
    zbd (zf_C_ask (r1) S) fun a1 S2 => zbd (zf_C_asBefore  S2) fun a3 S4 => if a3 = 0 then (zbd (zf_Jl_bitCount a1 S4) fun a6 S7 => if 9 < a6 then (zbd (zf_C_fillInTurn  S7) fun a9 S10 => zf_C_fill_40 r1  S10) else (zbd (zf_C_fillBest a1 S7) fun a11 S12 => zf_C_fill_40 r1  S12)) else (some (S4 3 0 10 5, S4))
set_option maxHeartbeats 4000000 in
set_option maxRecDepth 100000 in
theorem zw_C_fill {p : Program} {l : Launch} {e : Env} {s : State} {m : MethodId} {args : Array Value} {below : List Frame} {meth : Method} {c : Code} {B : zB} (C : CallFix p m c zb_C_fill 6 s args zT "IslandOffice$Crews") (hr : meth.sig.returnType = some .int) (hlk : meth.locks = false) (hK : zK B s) (hSt : zSt B s) (hap : zAp B) (r1 : Int) (hr1 : 0 ≤ r1 ∧ r1 < 3) {res : Int} {S9 : Sg} : ∀  (S : Sg) , zf_C_fill r1  S = some (res, S9) → ∀ (H : Heap) (locs : List Loc) (ls : Array Slot), zW B S H → va_S B.2.2.2 s.heap H locs → lv_has ls 6 [(0, .ref (B.2.1 3 (0) (10))), (1, .ref (B.2.1 0 (r1) (0))), (2, .ref (B.2.1 3 (0) (7)))] → W p l e zm_C_fill s m args below meth c H locs 0 0 (MQ below (zQi B res S9) args s 0 0 B.2.2.2) (F0 m 0 ls []) := by
  intro S hf H locs ls hW hS hl
  unfold zf_C_fill at hf
  refine lv_aload_n C.1 C.2.1 zd_C_fill_0 rfl (lv_at hl 0 rfl) ?_
  refine lv_aload_n C.1 C.2.1 zd_C_fill_1 rfl (lv_at hl 1 rfl) ?_
  refine lv_aload_n C.1 C.2.1 zd_C_fill_2 rfl (lv_at hl 2 rfl) ?_
  obtain ⟨a1, S2, ea1, hf⟩ := zbd_some hf
  refine zcVl (As := [.ref (B.2.1 0 (r1) (0)), .ref (B.2.1 3 (0) (7))]) (rest := []) C hK hSt hW hS (zc_C_ask hap (r1) hr1 S ea1) zq_C_ask zk_796 (zrecv hK hW (zvd_3 (by decide) (by decide)) (ze_3_10 B _ (0)) rfl) ⟨rfl, rfl, by decide, by decide⟩ ⟨Nat.zero_le _, Nat.zero_le _⟩ rfl hl.1 rfl (lv_room (Nat.le_of_ble_eq_true rfl)) zd_C_fill_3 (fun na1 H locs hW hS => ?_)
  refine lv_lstore_n (lv' := [(3, .long (zL (a1))), (0, .ref (B.2.1 3 (0) (10))), (1, .ref (B.2.1 0 (r1) (0))), (2, .ref (B.2.1 3 (0) (7)))]) C.1 C.2.1 zd_C_fill_6 rfl hl (by decide) rfl (fun ls hl => ?_)
  refine lv_aload_n C.1 C.2.1 zd_C_fill_7 rfl (lv_at hl 1 rfl) ?_
  obtain ⟨a3, S4, ea3, hf⟩ := zbd_some hf
  refine zcVi (As := []) (rest := []) C hK hSt hW hS (zc_C_asBefore hap S2 ea3) zq_C_asBefore zk_806 (zrecv hK hW (zvd_3 (by decide) (by decide)) (ze_3_10 B _ (0)) rfl) ⟨rfl, rfl, by decide, by decide⟩ ⟨Nat.zero_le _, Nat.zero_le _⟩ rfl hl.1 rfl (lv_room (Nat.le_of_ble_eq_true rfl)) zd_C_fill_8 (fun na3 H locs hW hS => ?_)
  refine zr_if_eq (tgt := 19) C na3 zd_C_fill_11 (by decide) (fun c5 => ?_) (fun c5 => ?_)
  · rw [if_pos c5] at hf
    refine lv_lload_n C.1 C.2.1 zd_C_fill_19 rfl (lv_at hl 0 rfl) ?_
    obtain ⟨a6, S7, ea6, hf⟩ := zbd_some hf
    refine zcSi (As := [.long (zL (a1))]) (rest := []) C hK hSt hW hS (zc_Jl_bitCount hap a1 S4 na1 ea6) zq_Jl_bitCount zk_810 ⟨rfl, rfl, by decide, by decide⟩ ⟨Nat.zero_le _, Nat.zero_le _⟩ rfl hl.1 rfl (lv_room (Nat.le_of_ble_eq_true rfl)) zd_C_fill_20 (fun na6 H locs hW hS => ?_)
    refine zr_bipush C zd_C_fill_23 (by decide) ?_
    refine zr_icmp_gt (tgt := 36) C na6 (znb rfl) zd_C_fill_25 (by decide) (fun c8 => ?_) (fun c8 => ?_)
    · rw [if_pos c8] at hf
      refine lv_aload_n C.1 C.2.1 zd_C_fill_36 rfl (lv_at hl 1 rfl) ?_
      obtain ⟨a9, S10, ea9, hf⟩ := zbd_some hf
      refine zcVv (As := []) (rest := []) C hK hSt hW hS (zc_C_fillInTurn hap S7 ea9) zq_C_fillInTurn zk_845 (zrecv hK hW (zvd_3 (by decide) (by decide)) (ze_3_10 B _ (0)) rfl) ⟨rfl, rfl, by decide, by decide⟩ ⟨Nat.zero_le _, Nat.zero_le _⟩ rfl hl.1 rfl (lv_room (Nat.le_of_ble_eq_true rfl)) zd_C_fill_37 (fun H locs hW hS => ?_)
      exact zw_C_fill_40 C hr hlk hK hSt hap r1 hr1  S10  hf _ _ _ hW hS (lv_sub hl [1] rfl)
    · rw [if_neg c8] at hf
      refine lv_aload_n C.1 C.2.1 zd_C_fill_28 rfl (lv_at hl 1 rfl) ?_
      refine lv_lload_n C.1 C.2.1 zd_C_fill_29 rfl (lv_at hl 0 rfl) ?_
      obtain ⟨a11, S12, ea11, hf⟩ := zbd_some hf
      refine zcVv (As := [.long (zL (a1))]) (rest := []) C hK hSt hW hS (zc_C_fillBest hap a1 S7 na1 ea11) zq_C_fillBest zk_816 (zrecv hK hW (zvd_3 (by decide) (by decide)) (ze_3_10 B _ (0)) rfl) ⟨rfl, rfl, by decide, by decide⟩ ⟨Nat.zero_le _, Nat.zero_le _⟩ rfl hl.1 rfl (lv_room (Nat.le_of_ble_eq_true rfl)) zd_C_fill_30 (fun H locs hW hS => ?_)
      refine lv_goto (tgt := 40) C.1 C.2.1 zd_C_fill_33 (by decide) ?_
      exact zw_C_fill_40 C hr hlk hK hSt hap r1 hr1  S12  hf _ _ _ hW hS (lv_sub hl [1] rfl)
  · rw [if_neg c5] at hf
    refine lv_aload_n C.1 C.2.1 zd_C_fill_14 rfl (lv_at hl 1 rfl) ?_
    refine zg_C_filled (r := 0) C hK hW (zvd_3 (by decide) (by decide)) zk_436 zd_C_fill_15 ?_
    cases hf
    exact zre_i C hr hlk hK hW hS (zWn hW _ _ _ _ rfl) zd_C_fill_18

theorem zc_C_fill {l : Launch} {B : zB} (hap : zAp B) (r1 : Int) (hr1 : 0 ≤ r1 ∧ r1 < 3) (S : Sg) {res : Int} {S9 : Sg} (hf : zf_C_fill r1 S = some (res, S9)) : Met l zy_C_fill (Cond.code zy_C_fill zb_C_fill 6 (some .int) :: zT) zm_C_fill (zP B S [.ref (B.2.1 3 (0) (10)), .ref (B.2.1 0 (r1) (0)), .ref (B.2.1 3 (0) (7))]) (zQi B res S9) 0 0 B.2.2.2 :=
  zmet (by decide) (Nat.le_of_ble_eq_true rfl) (fun p e s m args below meth c C hr hlk hK hSt hW ls hl => zw_C_fill C hr hlk hK hSt hap r1 hr1  S  hf _ _ _ hW va_S.rf hl)
/-! IslandOffice.hands(IZ)I -/
abbrev zy_O_hands : MethodName := ⟨"IslandOffice", "hands", "(IZ)I"⟩
abbrev zb_O_hands : ByteArray := prog_1_method_21_code
abbrev zm_O_hands : Room := { frames := 5, cells := 0, slots := 0, locals := 168 }
theorem zq_O_hands : zMy zy_O_hands zb_O_hands 5 (some .int) 2 := ⟨zk_791, zk_789, zk_790, zk_1, by decide, by decide, by decide +kernel⟩
theorem zd_O_hands_0 : decode zb_O_hands 0 = .ok (.aload_n 0, 1) := by decide +kernel
theorem zd_O_hands_1 : decode zb_O_hands 1 = .ok (.getfield 16, 3) := by decide +kernel
theorem zd_O_hands_4 : decode zb_O_hands 4 = .ok (.getfield 223, 3) := by decide +kernel
theorem zd_O_hands_7 : decode zb_O_hands 7 = .ok (.iload_n 1, 1) := by decide +kernel
theorem zd_O_hands_8 : decode zb_O_hands 8 = .ok (.invokevirtual 232, 3) := by decide +kernel
theorem zd_O_hands_11 : decode zb_O_hands 11 = .ok (.ifCond .ne 5, 3) := by decide +kernel
theorem zd_O_hands_14 : decode zb_O_hands 14 = .ok (.iconst (-1), 1) := by decide +kernel
theorem zd_O_hands_15 : decode zb_O_hands 15 = .ok (.ireturn, 1) := by decide +kernel
theorem zd_O_hands_16 : decode zb_O_hands 16 = .ok (.aload_n 0, 1) := by decide +kernel
theorem zd_O_hands_17 : decode zb_O_hands 17 = .ok (.getfield 58, 3) := by decide +kernel
theorem zd_O_hands_20 : decode zb_O_hands 20 = .ok (.aload_n 0, 1) := by decide +kernel
theorem zd_O_hands_21 : decode zb_O_hands 21 = .ok (.getfield 16, 3) := by decide +kernel
theorem zd_O_hands_24 : decode zb_O_hands 24 = .ok (.aload_n 0, 1) := by decide +kernel
theorem zd_O_hands_25 : decode zb_O_hands 25 = .ok (.getfield 51, 3) := by decide +kernel
theorem zd_O_hands_28 : decode zb_O_hands 28 = .ok (.invokevirtual 236, 3) := by decide +kernel
theorem zd_O_hands_31 : decode zb_O_hands 31 = .ok (.pop, 1) := by decide +kernel
theorem zd_O_hands_32 : decode zb_O_hands 32 = .ok (.aload_n 0, 1) := by decide +kernel
theorem zd_O_hands_33 : decode zb_O_hands 33 = .ok (.getfield 58, 3) := by decide +kernel
theorem zd_O_hands_36 : decode zb_O_hands 36 = .ok (.getfield 240, 3) := by decide +kernel
theorem zd_O_hands_39 : decode zb_O_hands 39 = .ok (.iload_n 1, 1) := by decide +kernel
theorem zd_O_hands_40 : decode zb_O_hands 40 = .ok (.laload, 1) := by decide +kernel
theorem zd_O_hands_41 : decode zb_O_hands 41 = .ok (.lstore_n 3, 1) := by decide +kernel
theorem zd_O_hands_42 : decode zb_O_hands 42 = .ok (.iload_n 2, 1) := by decide +kernel
theorem zd_O_hands_43 : decode zb_O_hands 43 = .ok (.ifCond .eq 11, 3) := by decide +kernel
theorem zd_O_hands_46 : decode zb_O_hands 46 = .ok (.lload_n 3, 1) := by decide +kernel
theorem zd_O_hands_47 : decode zb_O_hands 47 = .ok (.bipush 32, 2) := by decide +kernel
theorem zd_O_hands_49 : decode zb_O_hands 49 = .ok (.lushr, 1) := by decide +kernel
theorem zd_O_hands_50 : decode zb_O_hands 50 = .ok (.l2i, 1) := by decide +kernel
theorem zd_O_hands_51 : decode zb_O_hands 51 = .ok (.goto 5, 3) := by decide +kernel
theorem zd_O_hands_54 : decode zb_O_hands 54 = .ok (.lload_n 3, 1) := by decide +kernel
theorem zd_O_hands_55 : decode zb_O_hands 55 = .ok (.l2i, 1) := by decide +kernel
theorem zd_O_hands_56 : decode zb_O_hands 56 = .ok (.ireturn, 1) := by decide +kernel

def zf_O_hands (x1 : Int) (x2 : Int) (S : Sg) : Option (Int × Sg) :=
    zbd (zf_Q_has (0) x1 S) fun a1 S2 => if a1 = 0 then (some (-1, S2)) else (zbd (zf_C_fill (0) S2) fun a4 S5 => zck (0 ≤ x1 ∧ x1 < 8) <| zlt (S5 20 0 0 x1) fun v7 => if x2 = 0 then (some (zw v7, S5)) else (some (zw (zlus v7 32), S5)))
set_option maxHeartbeats 4000000 in
set_option maxRecDepth 100000 in
theorem zw_O_hands {p : Program} {l : Launch} {e : Env} {s : State} {m : MethodId} {args : Array Value} {below : List Frame} {meth : Method} {c : Code} {B : zB} (C : CallFix p m c zb_O_hands 5 s args zT "IslandOffice") (hr : meth.sig.returnType = some .int) (hlk : meth.locks = false) (hK : zK B s) (hSt : zSt B s) (hap : zAp B) {res : Int} {S9 : Sg} : ∀ (x1 : Int) (x2 : Int) (S : Sg) (nx1 : zn x1) (nx2 : zn x2), zf_O_hands x1 x2 S = some (res, S9) → ∀ (H : Heap) (locs : List Loc) (ls : Array Slot), zW B S H → va_S B.2.2.2 s.heap H locs → lv_has ls 5 [(0, .ref (B.2.1 3 (0) (0))), (1, .int (zI (x1))), (2, .int (zI (x2)))] → W p l e zm_O_hands s m args below meth c H locs 0 0 (MQ below (zQi B res S9) args s 0 0 B.2.2.2) (F0 m 0 ls []) := by
  intro x1 x2 S nx1 nx2 hf H locs ls hW hS hl
  unfold zf_O_hands at hf
  refine lv_aload_n C.1 C.2.1 zd_O_hands_0 rfl (lv_at hl 0 rfl) ?_
  refine zg_O_now (r := 0) C hK hW (zvd_3 (by decide) (by decide)) zk_492 zd_O_hands_1 ?_
  refine zg_I_posts (r := 0) C hK hW (zvd_0 (by decide) (by decide)) zk_289 zd_O_hands_4 ?_
  refine lv_iload_n C.1 C.2.1 zd_O_hands_7 rfl (lv_at hl 1 rfl) ?_
  obtain ⟨a1, S2, ea1, hf⟩ := zbd_some hf
  refine zcVi (As := [.int (zI (x1))]) (rest := []) C hK hSt hW hS (zc_Q_has hap (0) (by decide) x1 S nx1 ea1) zq_Q_has zk_784 (zrecv hK hW (zvd_0 (by decide) (by decide)) (ze_0_26 B _ (0)) rfl) ⟨rfl, rfl, by decide, by decide⟩ ⟨Nat.zero_le _, Nat.zero_le _⟩ rfl hl.1 rfl (lv_room (Nat.le_of_ble_eq_true rfl)) zd_O_hands_8 (fun na1 H locs hW hS => ?_)
  refine zr_if_ne (tgt := 16) C na1 zd_O_hands_11 (by decide) (fun c3 => ?_) (fun c3 => ?_)
  · rw [if_neg c3] at hf
    refine lv_aload_n C.1 C.2.1 zd_O_hands_16 rfl (lv_at hl 0 rfl) ?_
    refine zg_O_crews (r := 0) C hK hW (zvd_3 (by decide) (by decide)) zk_500 zd_O_hands_17 ?_
    refine lv_aload_n C.1 C.2.1 zd_O_hands_20 rfl (lv_at hl 0 rfl) ?_
    refine zg_O_now (r := 0) C hK hW (zvd_3 (by decide) (by decide)) zk_492 zd_O_hands_21 ?_
    refine lv_aload_n C.1 C.2.1 zd_O_hands_24 rfl (lv_at hl 0 rfl) ?_
    refine zg_O_judge (r := 0) C hK hW (zvd_3 (by decide) (by decide)) zk_499 zd_O_hands_25 ?_
    obtain ⟨a4, S5, ea4, hf⟩ := zbd_some hf
    refine zcVi (As := [.ref (B.2.1 0 (0) (0)), .ref (B.2.1 3 (0) (7))]) (rest := []) C hK hSt hW hS (zc_C_fill hap (0) (by decide) S2 ea4) zq_C_fill zk_792 (zrecv hK hW (zvd_3 (by decide) (by decide)) (ze_3_10 B _ (0)) rfl) ⟨rfl, rfl, by decide, by decide⟩ ⟨Nat.zero_le _, Nat.zero_le _⟩ rfl hl.1 rfl (lv_room (Nat.le_of_ble_eq_true rfl)) zd_O_hands_28 (fun na4 H locs hW hS => ?_)
    refine lv_pop C.1 C.2.1 zd_O_hands_31 rfl ?_
    refine lv_aload_n C.1 C.2.1 zd_O_hands_32 rfl (lv_at hl 0 rfl) ?_
    refine zg_O_crews (r := 0) C hK hW (zvd_3 (by decide) (by decide)) zk_500 zd_O_hands_33 ?_
    refine zg_C_crew (r := 0) C hK hW (zvd_3 (by decide) (by decide)) zk_431 zd_O_hands_36 ?_
    refine lv_iload_n C.1 C.2.1 zd_O_hands_39 rfl (lv_at hl 1 rfl) ?_
    obtain ⟨h6, hf⟩ := zck_some hf
    refine zlald C hK hW (zvd_20 (by decide) (by decide)) (fun f => ze_20_0 B f (0)) (by decide) h6 zd_O_hands_40 ?_
    obtain ⟨v7, ev7, hf⟩ := zlt_some hf
    have nv7 : zm v7 := by rw [← ev7]; exact (zWm hW _ _ _ _ rfl)
    rw [ev7]
    refine lv_lstore_n (lv' := [(3, .long (zL (v7))), (0, .ref (B.2.1 3 (0) (0))), (1, .int (zI (x1))), (2, .int (zI (x2)))]) C.1 C.2.1 zd_O_hands_41 rfl hl (by decide) rfl (fun ls hl => ?_)
    refine lv_iload_n C.1 C.2.1 zd_O_hands_42 rfl (lv_at hl 3 rfl) ?_
    refine zr_if_eq (tgt := 54) C nx2 zd_O_hands_43 (by decide) (fun c8 => ?_) (fun c8 => ?_)
    · rw [if_pos c8] at hf
      refine lv_lload_n C.1 C.2.1 zd_O_hands_54 rfl (lv_at hl 0 rfl) ?_
      refine zr_l2i C nv7 zd_O_hands_55 ?_
      cases hf
      exact zre_i C hr hlk hK hW hS (zn_w _) zd_O_hands_56
    · rw [if_neg c8] at hf
      refine lv_lload_n C.1 C.2.1 zd_O_hands_46 rfl (lv_at hl 0 rfl) ?_
      refine zr_bipush C zd_O_hands_47 (by decide) ?_
      refine zr_lushr C zd_O_hands_49 ?_
      refine zr_l2i C (zm_lus _ _) zd_O_hands_50 ?_
      refine lv_goto (tgt := 56) C.1 C.2.1 zd_O_hands_51 (by decide) ?_
      cases hf
      exact zre_i C hr hlk hK hW hS (zn_w _) zd_O_hands_56
  · rw [if_pos c3] at hf
    refine zr_iconst C zd_O_hands_14 ?_
    cases hf
    exact zre_i C hr hlk hK hW hS (znb rfl) zd_O_hands_15

theorem zc_O_hands {l : Launch} {B : zB} (hap : zAp B) (x1 : Int) (x2 : Int) (S : Sg) (nx1 : zn x1) (nx2 : zn x2) {res : Int} {S9 : Sg} (hf : zf_O_hands x1 x2 S = some (res, S9)) : Met l zy_O_hands (Cond.code zy_O_hands zb_O_hands 5 (some .int) :: zT) zm_O_hands (zP B S [.ref (B.2.1 3 (0) (0)), .int (zI (x1)), .int (zI (x2))]) (zQi B res S9) 0 0 B.2.2.2 :=
  zmet (by decide) (Nat.le_of_ble_eq_true rfl) (fun p e s m args below meth c C hr hlk hK hSt hW ls hl => zw_O_hands C hr hlk hK hSt hap   x1 x2 S nx1 nx2 hf _ _ _ hW va_S.rf hl)
/-! IslandOffice.filled()I -/
abbrev zy_O_filled : MethodName := ⟨"IslandOffice", "filled", "()I"⟩
abbrev zb_O_filled : ByteArray := prog_1_method_22_code
abbrev zm_O_filled : Room := { frames := 5, cells := 0, slots := 0, locals := 168 }
theorem zq_O_filled : zMy zy_O_filled zb_O_filled 1 (some .int) 0 := ⟨zk_856, zk_854, zk_855, zk_1, by decide, by decide, by decide +kernel⟩
theorem zd_O_filled_0 : decode zb_O_filled 0 = .ok (.aload_n 0, 1) := by decide +kernel
theorem zd_O_filled_1 : decode zb_O_filled 1 = .ok (.getfield 58, 3) := by decide +kernel
theorem zd_O_filled_4 : decode zb_O_filled 4 = .ok (.aload_n 0, 1) := by decide +kernel
theorem zd_O_filled_5 : decode zb_O_filled 5 = .ok (.getfield 16, 3) := by decide +kernel
theorem zd_O_filled_8 : decode zb_O_filled 8 = .ok (.aload_n 0, 1) := by decide +kernel
theorem zd_O_filled_9 : decode zb_O_filled 9 = .ok (.getfield 51, 3) := by decide +kernel
theorem zd_O_filled_12 : decode zb_O_filled 12 = .ok (.invokevirtual 236, 3) := by decide +kernel
theorem zd_O_filled_15 : decode zb_O_filled 15 = .ok (.ireturn, 1) := by decide +kernel

def zf_O_filled (S : Sg) : Option (Int × Sg) :=
    zbd (zf_C_fill (0) S) fun a1 S2 => some (a1, S2)
set_option maxHeartbeats 4000000 in
set_option maxRecDepth 100000 in
theorem zw_O_filled {p : Program} {l : Launch} {e : Env} {s : State} {m : MethodId} {args : Array Value} {below : List Frame} {meth : Method} {c : Code} {B : zB} (C : CallFix p m c zb_O_filled 1 s args zT "IslandOffice") (hr : meth.sig.returnType = some .int) (hlk : meth.locks = false) (hK : zK B s) (hSt : zSt B s) (hap : zAp B) {res : Int} {S9 : Sg} : ∀  (S : Sg) , zf_O_filled  S = some (res, S9) → ∀ (H : Heap) (locs : List Loc) (ls : Array Slot), zW B S H → va_S B.2.2.2 s.heap H locs → lv_has ls 1 [(0, .ref (B.2.1 3 (0) (0)))] → W p l e zm_O_filled s m args below meth c H locs 0 0 (MQ below (zQi B res S9) args s 0 0 B.2.2.2) (F0 m 0 ls []) := by
  intro S hf H locs ls hW hS hl
  unfold zf_O_filled at hf
  refine lv_aload_n C.1 C.2.1 zd_O_filled_0 rfl (lv_at hl 0 rfl) ?_
  refine zg_O_crews (r := 0) C hK hW (zvd_3 (by decide) (by decide)) zk_500 zd_O_filled_1 ?_
  refine lv_aload_n C.1 C.2.1 zd_O_filled_4 rfl (lv_at hl 0 rfl) ?_
  refine zg_O_now (r := 0) C hK hW (zvd_3 (by decide) (by decide)) zk_492 zd_O_filled_5 ?_
  refine lv_aload_n C.1 C.2.1 zd_O_filled_8 rfl (lv_at hl 0 rfl) ?_
  refine zg_O_judge (r := 0) C hK hW (zvd_3 (by decide) (by decide)) zk_499 zd_O_filled_9 ?_
  obtain ⟨a1, S2, ea1, hf⟩ := zbd_some hf
  refine zcVi (As := [.ref (B.2.1 0 (0) (0)), .ref (B.2.1 3 (0) (7))]) (rest := []) C hK hSt hW hS (zc_C_fill hap (0) (by decide) S ea1) zq_C_fill zk_792 (zrecv hK hW (zvd_3 (by decide) (by decide)) (ze_3_10 B _ (0)) rfl) ⟨rfl, rfl, by decide, by decide⟩ ⟨Nat.zero_le _, Nat.zero_le _⟩ rfl hl.1 rfl (lv_room (Nat.le_of_ble_eq_true rfl)) zd_O_filled_12 (fun na1 H locs hW hS => ?_)
  cases hf
  exact zre_i C hr hlk hK hW hS na1 zd_O_filled_15

theorem zc_O_filled {l : Launch} {B : zB} (hap : zAp B) (S : Sg) {res : Int} {S9 : Sg} (hf : zf_O_filled  S = some (res, S9)) : Met l zy_O_filled (Cond.code zy_O_filled zb_O_filled 1 (some .int) :: zT) zm_O_filled (zP B S [.ref (B.2.1 3 (0) (0))]) (zQi B res S9) 0 0 B.2.2.2 :=
  zmet (by decide) (Nat.le_of_ble_eq_true rfl) (fun p e s m args below meth c C hr hlk hK hSt hW ls hl => zw_O_filled C hr hlk hK hSt hap    S  hf _ _ _ hW va_S.rf hl)
/-! IslandOffice.isGood(I)Z -/
abbrev zy_O_isGood : MethodName := ⟨"IslandOffice", "isGood", "(I)Z"⟩
abbrev zb_O_isGood : ByteArray := prog_1_method_52_code
abbrev zm_O_isGood : Room := { frames := 0, cells := 0, slots := 0, locals := 0 }
theorem zq_O_isGood : zMs zy_O_isGood zb_O_isGood 1 (some .boolean) 1 := ⟨zk_863, zk_862, zk_1, by decide, by decide, by decide +kernel⟩
theorem zd_O_isGood_0 : decode zb_O_isGood 0 = .ok (.iload_n 0, 1) := by decide +kernel
theorem zd_O_isGood_1 : decode zb_O_isGood 1 = .ok (.ifCond .lt 12, 3) := by decide +kernel
theorem zd_O_isGood_4 : decode zb_O_isGood 4 = .ok (.iload_n 0, 1) := by decide +kernel
theorem zd_O_isGood_5 : decode zb_O_isGood 5 = .ok (.iconst 4, 1) := by decide +kernel
theorem zd_O_isGood_6 : decode zb_O_isGood 6 = .ok (.if_icmp .ge 7, 3) := by decide +kernel
theorem zd_O_isGood_9 : decode zb_O_isGood 9 = .ok (.iconst 1, 1) := by decide +kernel
theorem zd_O_isGood_10 : decode zb_O_isGood 10 = .ok (.goto 4, 3) := by decide +kernel
theorem zd_O_isGood_13 : decode zb_O_isGood 13 = .ok (.iconst 0, 1) := by decide +kernel
theorem zd_O_isGood_14 : decode zb_O_isGood 14 = .ok (.ireturn, 1) := by decide +kernel

def zf_O_isGood (x0 : Int) (S : Sg) : Option (Int × Sg) :=
    if x0 < 0 then (some (0, S)) else (if 4 ≤ x0 then (some (0, S)) else (some (1, S)))
set_option maxHeartbeats 4000000 in
set_option maxRecDepth 100000 in
theorem zw_O_isGood {p : Program} {l : Launch} {e : Env} {s : State} {m : MethodId} {args : Array Value} {below : List Frame} {meth : Method} {c : Code} {B : zB} (C : CallFix p m c zb_O_isGood 1 s args zT "IslandOffice") (hr : meth.sig.returnType = some .boolean) (hlk : meth.locks = false) (hK : zK B s) (hSt : zSt B s) (hap : zAp B) {res : Int} {S9 : Sg} : ∀ (x0 : Int) (S : Sg) (nx0 : zn x0), zf_O_isGood x0 S = some (res, S9) → ∀ (H : Heap) (locs : List Loc) (ls : Array Slot), zW B S H → va_S B.2.2.2 s.heap H locs → lv_has ls 1 [(0, .int (zI (x0)))] → W p l e zm_O_isGood s m args below meth c H locs 0 0 (MQ below (zQi B res S9) args s 0 0 B.2.2.2) (F0 m 0 ls []) := by
  intro x0 S nx0 hf H locs ls hW hS hl
  unfold zf_O_isGood at hf
  refine lv_iload_n C.1 C.2.1 zd_O_isGood_0 rfl (lv_at hl 0 rfl) ?_
  refine zr_if_lt (tgt := 13) C nx0 zd_O_isGood_1 (by decide) (fun c1 => ?_) (fun c1 => ?_)
  · rw [if_pos c1] at hf
    refine zr_iconst C zd_O_isGood_13 ?_
    cases hf
    exact zre_z C hr hlk hK hW hS (znb rfl) (zb01 (by decide)) zd_O_isGood_14
  · rw [if_neg c1] at hf
    refine lv_iload_n C.1 C.2.1 zd_O_isGood_4 rfl (lv_at hl 0 rfl) ?_
    refine zr_iconst C zd_O_isGood_5 ?_
    refine zr_icmp_ge (tgt := 13) C nx0 (znb rfl) zd_O_isGood_6 (by decide) (fun c2 => ?_) (fun c2 => ?_)
    · rw [if_pos c2] at hf
      refine zr_iconst C zd_O_isGood_13 ?_
      cases hf
      exact zre_z C hr hlk hK hW hS (znb rfl) (zb01 (by decide)) zd_O_isGood_14
    · rw [if_neg c2] at hf
      refine zr_iconst C zd_O_isGood_9 ?_
      refine lv_goto (tgt := 14) C.1 C.2.1 zd_O_isGood_10 (by decide) ?_
      cases hf
      exact zre_z C hr hlk hK hW hS (znb rfl) (zb01 (by decide)) zd_O_isGood_14

theorem zc_O_isGood {l : Launch} {B : zB} (hap : zAp B) (x0 : Int) (S : Sg) (nx0 : zn x0) {res : Int} {S9 : Sg} (hf : zf_O_isGood x0 S = some (res, S9)) : Met l zy_O_isGood (Cond.code zy_O_isGood zb_O_isGood 1 (some .boolean) :: zT) zm_O_isGood (zP B S [.int (zI (x0))]) (zQi B res S9) 0 0 B.2.2.2 :=
  zmet (by decide) (Nat.le_of_ble_eq_true rfl) (fun p e s m args below meth c C hr hlk hK hSt hW ls hl => zw_O_isGood C hr hlk hK hSt hap   x0 S nx0 hf _ _ _ hW va_S.rf hl)
/-! IslandOffice.store(II)I -/
abbrev zy_O_store : MethodName := ⟨"IslandOffice", "store", "(II)I"⟩
abbrev zb_O_store : ByteArray := prog_1_method_23_code
abbrev zm_O_store : Room := { frames := 1, cells := 0, slots := 0, locals := 20 }
theorem zq_O_store : zMy zy_O_store zb_O_store 3 (some .int) 2 := ⟨zk_860, zk_858, zk_859, zk_1, by decide, by decide, by decide +kernel⟩
theorem zd_O_store_0 : decode zb_O_store 0 = .ok (.iload_n 1, 1) := by decide +kernel
theorem zd_O_store_1 : decode zb_O_store 1 = .ok (.invokestatic 244, 3) := by decide +kernel
theorem zd_O_store_4 : decode zb_O_store 4 = .ok (.ifCond .eq 15, 3) := by decide +kernel
theorem zd_O_store_7 : decode zb_O_store 7 = .ok (.iload_n 2, 1) := by decide +kernel
theorem zd_O_store_8 : decode zb_O_store 8 = .ok (.iconst 1, 1) := by decide +kernel
theorem zd_O_store_9 : decode zb_O_store 9 = .ok (.if_icmp .lt 10, 3) := by decide +kernel
theorem zd_O_store_12 : decode zb_O_store 12 = .ok (.iload_n 2, 1) := by decide +kernel
theorem zd_O_store_13 : decode zb_O_store 13 = .ok (.sipush 1000, 3) := by decide +kernel
theorem zd_O_store_16 : decode zb_O_store 16 = .ok (.if_icmp .le 5, 3) := by decide +kernel
theorem zd_O_store_19 : decode zb_O_store 19 = .ok (.iconst (-1), 1) := by decide +kernel
theorem zd_O_store_20 : decode zb_O_store 20 = .ok (.ireturn, 1) := by decide +kernel
theorem zd_O_store_21 : decode zb_O_store 21 = .ok (.aload_n 0, 1) := by decide +kernel
theorem zd_O_store_22 : decode zb_O_store 22 = .ok (.getfield 16, 3) := by decide +kernel
theorem zd_O_store_25 : decode zb_O_store 25 = .ok (.getfield 247, 3) := by decide +kernel
theorem zd_O_store_28 : decode zb_O_store 28 = .ok (.getfield 251, 3) := by decide +kernel
theorem zd_O_store_31 : decode zb_O_store 31 = .ok (.iload_n 1, 1) := by decide +kernel
theorem zd_O_store_32 : decode zb_O_store 32 = .ok (.iaload, 1) := by decide +kernel
theorem zd_O_store_33 : decode zb_O_store 33 = .ok (.iload_n 2, 1) := by decide +kernel
theorem zd_O_store_34 : decode zb_O_store 34 = .ok (.iadd, 1) := by decide +kernel
theorem zd_O_store_35 : decode zb_O_store 35 = .ok (.sipush 9999, 3) := by decide +kernel
theorem zd_O_store_38 : decode zb_O_store 38 = .ok (.if_icmp .le 6, 3) := by decide +kernel
theorem zd_O_store_41 : decode zb_O_store 41 = .ok (.bipush (-2), 2) := by decide +kernel
theorem zd_O_store_43 : decode zb_O_store 43 = .ok (.ireturn, 1) := by decide +kernel
theorem zd_O_store_44 : decode zb_O_store 44 = .ok (.aload_n 0, 1) := by decide +kernel
theorem zd_O_store_45 : decode zb_O_store 45 = .ok (.getfield 16, 3) := by decide +kernel
theorem zd_O_store_48 : decode zb_O_store 48 = .ok (.getfield 247, 3) := by decide +kernel
theorem zd_O_store_51 : decode zb_O_store 51 = .ok (.getfield 251, 3) := by decide +kernel
theorem zd_O_store_54 : decode zb_O_store 54 = .ok (.iload_n 1, 1) := by decide +kernel
theorem zd_O_store_55 : decode zb_O_store 55 = .ok (.dup2, 1) := by decide +kernel
theorem zd_O_store_56 : decode zb_O_store 56 = .ok (.iaload, 1) := by decide +kernel
theorem zd_O_store_57 : decode zb_O_store 57 = .ok (.iload_n 2, 1) := by decide +kernel
theorem zd_O_store_58 : decode zb_O_store 58 = .ok (.iadd, 1) := by decide +kernel
theorem zd_O_store_59 : decode zb_O_store 59 = .ok (.iastore, 1) := by decide +kernel
theorem zd_O_store_60 : decode zb_O_store 60 = .ok (.aload_n 0, 1) := by decide +kernel
theorem zd_O_store_61 : decode zb_O_store 61 = .ok (.getfield 16, 3) := by decide +kernel
theorem zd_O_store_64 : decode zb_O_store 64 = .ok (.getfield 247, 3) := by decide +kernel
theorem zd_O_store_67 : decode zb_O_store 67 = .ok (.getfield 251, 3) := by decide +kernel
theorem zd_O_store_70 : decode zb_O_store 70 = .ok (.iload_n 1, 1) := by decide +kernel
theorem zd_O_store_71 : decode zb_O_store 71 = .ok (.iaload, 1) := by decide +kernel
theorem zd_O_store_72 : decode zb_O_store 72 = .ok (.ireturn, 1) := by decide +kernel

def zf_O_store (x1 : Int) (x2 : Int) (S : Sg) : Option (Int × Sg) :=
    zbd (zf_O_isGood x1 S) fun a1 S2 => if a1 = 0 then (some (-1, S2)) else (if x2 < 1 then (some (-1, S2)) else (if x2 ≤ 1000 then (zck (0 ≤ x1 ∧ x1 < 4) <| if (zw ((S2 0 0 32 x1) + x2)) ≤ 9999 then (zlt (zu S2 0 0 32 x1 (zw ((S2 0 0 32 x1) + x2))) fun S8 => some (S8 0 0 32 x1, S8)) else (some (-2, S2))) else (some (-1, S2))))
set_option maxHeartbeats 4000000 in
set_option maxRecDepth 100000 in
theorem zw_O_store {p : Program} {l : Launch} {e : Env} {s : State} {m : MethodId} {args : Array Value} {below : List Frame} {meth : Method} {c : Code} {B : zB} (C : CallFix p m c zb_O_store 3 s args zT "IslandOffice") (hr : meth.sig.returnType = some .int) (hlk : meth.locks = false) (hK : zK B s) (hSt : zSt B s) (hap : zAp B) {res : Int} {S9 : Sg} : ∀ (x1 : Int) (x2 : Int) (S : Sg) (nx1 : zn x1) (nx2 : zn x2), zf_O_store x1 x2 S = some (res, S9) → ∀ (H : Heap) (locs : List Loc) (ls : Array Slot), zW B S H → va_S B.2.2.2 s.heap H locs → lv_has ls 3 [(0, .ref (B.2.1 3 (0) (0))), (1, .int (zI (x1))), (2, .int (zI (x2)))] → W p l e zm_O_store s m args below meth c H locs 0 0 (MQ below (zQi B res S9) args s 0 0 B.2.2.2) (F0 m 0 ls []) := by
  intro x1 x2 S nx1 nx2 hf H locs ls hW hS hl
  unfold zf_O_store at hf
  refine lv_iload_n C.1 C.2.1 zd_O_store_0 rfl (lv_at hl 1 rfl) ?_
  obtain ⟨a1, S2, ea1, hf⟩ := zbd_some hf
  refine zcSi (As := [.int (zI (x1))]) (rest := []) C hK hSt hW hS (zc_O_isGood hap x1 S nx1 ea1) zq_O_isGood zk_861 ⟨rfl, rfl, by decide, by decide⟩ ⟨Nat.zero_le _, Nat.zero_le _⟩ rfl hl.1 rfl (lv_room (Nat.le_of_ble_eq_true rfl)) zd_O_store_1 (fun na1 H locs hW hS => ?_)
  refine zr_if_eq (tgt := 19) C na1 zd_O_store_4 (by decide) (fun c3 => ?_) (fun c3 => ?_)
  · rw [if_pos c3] at hf
    refine zr_iconst C zd_O_store_19 ?_
    cases hf
    exact zre_i C hr hlk hK hW hS (znb rfl) zd_O_store_20
  · rw [if_neg c3] at hf
    refine lv_iload_n C.1 C.2.1 zd_O_store_7 rfl (lv_at hl 2 rfl) ?_
    refine zr_iconst C zd_O_store_8 ?_
    refine zr_icmp_lt (tgt := 19) C nx2 (znb rfl) zd_O_store_9 (by decide) (fun c4 => ?_) (fun c4 => ?_)
    · rw [if_pos c4] at hf
      refine zr_iconst C zd_O_store_19 ?_
      cases hf
      exact zre_i C hr hlk hK hW hS (znb rfl) zd_O_store_20
    · rw [if_neg c4] at hf
      refine lv_iload_n C.1 C.2.1 zd_O_store_12 rfl (lv_at hl 2 rfl) ?_
      refine zr_sipush C zd_O_store_13 (by decide) ?_
      refine zr_icmp_le (tgt := 21) C nx2 (znb rfl) zd_O_store_16 (by decide) (fun c5 => ?_) (fun c5 => ?_)
      · rw [if_pos c5] at hf
        refine lv_aload_n C.1 C.2.1 zd_O_store_21 rfl (lv_at hl 0 rfl) ?_
        refine zg_O_now (r := 0) C hK hW (zvd_3 (by decide) (by decide)) zk_492 zd_O_store_22 ?_
        refine zg_I_stores (r := 0) C hK hW (zvd_0 (by decide) (by decide)) zk_292 zd_O_store_25 ?_
        refine zg_T_stock (r := 0) C hK hW (zvd_0 (by decide) (by decide)) zk_199 zd_O_store_28 ?_
        refine lv_iload_n C.1 C.2.1 zd_O_store_31 rfl (lv_at hl 1 rfl) ?_
        obtain ⟨h6, hf⟩ := zck_some hf
        refine ziald C hK hW (zvd_0 (by decide) (by decide)) (fun f => ze_0_32 B f (0)) (by decide) h6 zd_O_store_32 ?_
        refine lv_iload_n C.1 C.2.1 zd_O_store_33 rfl (lv_at hl 2 rfl) ?_
        refine zr_iadd C zd_O_store_34 ?_
        refine zr_sipush C zd_O_store_35 (by decide) ?_
        refine zr_icmp_le (tgt := 44) C (zn_w _) (znb rfl) zd_O_store_38 (by decide) (fun c7 => ?_) (fun c7 => ?_)
        · rw [if_pos c7] at hf
          refine lv_aload_n C.1 C.2.1 zd_O_store_44 rfl (lv_at hl 0 rfl) ?_
          refine zg_O_now (r := 0) C hK hW (zvd_3 (by decide) (by decide)) zk_492 zd_O_store_45 ?_
          refine zg_I_stores (r := 0) C hK hW (zvd_0 (by decide) (by decide)) zk_292 zd_O_store_48 ?_
          refine zg_T_stock (r := 0) C hK hW (zvd_0 (by decide) (by decide)) zk_199 zd_O_store_51 ?_
          refine lv_iload_n C.1 C.2.1 zd_O_store_54 rfl (lv_at hl 1 rfl) ?_
          refine lv_dup2_11 C.1 C.2.1 zd_O_store_55 rfl rfl ?_
          refine ziald C hK hW (zvd_0 (by decide) (by decide)) (fun f => ze_0_32 B f (0)) (by decide) h6 zd_O_store_56 ?_
          refine lv_iload_n C.1 C.2.1 zd_O_store_57 rfl (lv_at hl 2 rfl) ?_
          refine zr_iadd C zd_O_store_58 ?_
          obtain ⟨S8, eS8, hf⟩ := zlt_some hf
          refine ziast C hK hap hW hS (zvd_0 (by decide) (by decide)) (fun f => ze_0_32 B f (0)) (by decide) rfl (zn_w _) h6 zd_O_store_59 (fun H locs hW hS => ?_)
          rw [eS8] at hW
          refine lv_aload_n C.1 C.2.1 zd_O_store_60 rfl (lv_at hl 0 rfl) ?_
          refine zg_O_now (r := 0) C hK hW (zvd_3 (by decide) (by decide)) zk_492 zd_O_store_61 ?_
          refine zg_I_stores (r := 0) C hK hW (zvd_0 (by decide) (by decide)) zk_292 zd_O_store_64 ?_
          refine zg_T_stock (r := 0) C hK hW (zvd_0 (by decide) (by decide)) zk_199 zd_O_store_67 ?_
          refine lv_iload_n C.1 C.2.1 zd_O_store_70 rfl (lv_at hl 1 rfl) ?_
          refine ziald C hK hW (zvd_0 (by decide) (by decide)) (fun f => ze_0_32 B f (0)) (by decide) h6 zd_O_store_71 ?_
          cases hf
          exact zre_i C hr hlk hK hW hS (zWn hW _ _ _ _ rfl) zd_O_store_72
        · rw [if_neg c7] at hf
          refine zr_bipush C zd_O_store_41 (by decide) ?_
          cases hf
          exact zre_i C hr hlk hK hW hS (znb rfl) zd_O_store_43
      · rw [if_neg c5] at hf
        refine zr_iconst C zd_O_store_19 ?_
        cases hf
        exact zre_i C hr hlk hK hW hS (znb rfl) zd_O_store_20

theorem zc_O_store {l : Launch} {B : zB} (hap : zAp B) (x1 : Int) (x2 : Int) (S : Sg) (nx1 : zn x1) (nx2 : zn x2) {res : Int} {S9 : Sg} (hf : zf_O_store x1 x2 S = some (res, S9)) : Met l zy_O_store (Cond.code zy_O_store zb_O_store 3 (some .int) :: zT) zm_O_store (zP B S [.ref (B.2.1 3 (0) (0)), .int (zI (x1)), .int (zI (x2))]) (zQi B res S9) 0 0 B.2.2.2 :=
  zmet (by decide) (Nat.le_of_ble_eq_true rfl) (fun p e s m args below meth c C hr hlk hK hSt hW ls hl => zw_O_store C hr hlk hK hSt hap   x1 x2 S nx1 nx2 hf _ _ _ hW va_S.rf hl)
/-! IslandOffice.rank(III)I -/
abbrev zy_O_rank : MethodName := ⟨"IslandOffice", "rank", "(III)I"⟩
abbrev zb_O_rank : ByteArray := prog_1_method_24_code
abbrev zm_O_rank : Room := { frames := 1, cells := 0, slots := 0, locals := 20 }
theorem zq_O_rank : zMy zy_O_rank zb_O_rank 5 (some .int) 3 := ⟨zk_867, zk_865, zk_866, zk_1, by decide, by decide, by decide +kernel⟩
theorem zd_O_rank_0 : decode zb_O_rank 0 = .ok (.iload_n 1, 1) := by decide +kernel
theorem zd_O_rank_1 : decode zb_O_rank 1 = .ok (.invokestatic 244, 3) := by decide +kernel
theorem zd_O_rank_4 : decode zb_O_rank 4 = .ok (.ifCond .eq 7, 3) := by decide +kernel
theorem zd_O_rank_7 : decode zb_O_rank 7 = .ok (.iload_n 3, 1) := by decide +kernel
theorem zd_O_rank_8 : decode zb_O_rank 8 = .ok (.ifCond .ge 5, 3) := by decide +kernel
theorem zd_O_rank_11 : decode zb_O_rank 11 = .ok (.iconst (-1), 1) := by decide +kernel
theorem zd_O_rank_12 : decode zb_O_rank 12 = .ok (.ireturn, 1) := by decide +kernel
theorem zd_O_rank_13 : decode zb_O_rank 13 = .ok (.iload_n 2, 1) := by decide +kernel
theorem zd_O_rank_14 : decode zb_O_rank 14 = .ok (.ifCond .ne 39, 3) := by decide +kernel
theorem zd_O_rank_17 : decode zb_O_rank 17 = .ok (.iload_n 3, 1) := by decide +kernel
theorem zd_O_rank_18 : decode zb_O_rank 18 = .ok (.bipush 9, 2) := by decide +kernel
theorem zd_O_rank_20 : decode zb_O_rank 20 = .ok (.if_icmp .gt 33, 3) := by decide +kernel
theorem zd_O_rank_23 : decode zb_O_rank 23 = .ok (.aload_n 0, 1) := by decide +kernel
theorem zd_O_rank_24 : decode zb_O_rank 24 = .ok (.getfield 16, 3) := by decide +kernel
theorem zd_O_rank_27 : decode zb_O_rank 27 = .ok (.getfield 247, 3) := by decide +kernel
theorem zd_O_rank_30 : decode zb_O_rank 30 = .ok (.getfield 256, 3) := by decide +kernel
theorem zd_O_rank_33 : decode zb_O_rank 33 = .ok (.iload_n 1, 1) := by decide +kernel
theorem zd_O_rank_34 : decode zb_O_rank 34 = .ok (.iaload, 1) := by decide +kernel
theorem zd_O_rank_35 : decode zb_O_rank 35 = .ok (.istore 4, 2) := by decide +kernel
theorem zd_O_rank_37 : decode zb_O_rank 37 = .ok (.aload_n 0, 1) := by decide +kernel
theorem zd_O_rank_38 : decode zb_O_rank 38 = .ok (.getfield 16, 3) := by decide +kernel
theorem zd_O_rank_41 : decode zb_O_rank 41 = .ok (.getfield 247, 3) := by decide +kernel
theorem zd_O_rank_44 : decode zb_O_rank 44 = .ok (.getfield 256, 3) := by decide +kernel
theorem zd_O_rank_47 : decode zb_O_rank 47 = .ok (.iload_n 1, 1) := by decide +kernel
theorem zd_O_rank_48 : decode zb_O_rank 48 = .ok (.iload_n 3, 1) := by decide +kernel
theorem zd_O_rank_49 : decode zb_O_rank 49 = .ok (.iastore, 1) := by decide +kernel
theorem zd_O_rank_50 : decode zb_O_rank 50 = .ok (.iload 4, 2) := by decide +kernel
theorem zd_O_rank_52 : decode zb_O_rank 52 = .ok (.ireturn, 1) := by decide +kernel
theorem zd_O_rank_53 : decode zb_O_rank 53 = .ok (.iload_n 2, 1) := by decide +kernel
theorem zd_O_rank_54 : decode zb_O_rank 54 = .ok (.iconst 1, 1) := by decide +kernel
theorem zd_O_rank_55 : decode zb_O_rank 55 = .ok (.if_icmp .ne 43, 3) := by decide +kernel
theorem zd_O_rank_58 : decode zb_O_rank 58 = .ok (.iload_n 3, 1) := by decide +kernel
theorem zd_O_rank_59 : decode zb_O_rank 59 = .ok (.bipush 99, 2) := by decide +kernel
theorem zd_O_rank_61 : decode zb_O_rank 61 = .ok (.if_icmp .gt 37, 3) := by decide +kernel
theorem zd_O_rank_64 : decode zb_O_rank 64 = .ok (.iload_n 1, 1) := by decide +kernel
theorem zd_O_rank_65 : decode zb_O_rank 65 = .ok (.ifCond .eq 33, 3) := by decide +kernel
theorem zd_O_rank_68 : decode zb_O_rank 68 = .ok (.aload_n 0, 1) := by decide +kernel
theorem zd_O_rank_69 : decode zb_O_rank 69 = .ok (.getfield 16, 3) := by decide +kernel
theorem zd_O_rank_72 : decode zb_O_rank 72 = .ok (.getfield 247, 3) := by decide +kernel
theorem zd_O_rank_75 : decode zb_O_rank 75 = .ok (.getfield 259, 3) := by decide +kernel
theorem zd_O_rank_78 : decode zb_O_rank 78 = .ok (.iload_n 1, 1) := by decide +kernel
theorem zd_O_rank_79 : decode zb_O_rank 79 = .ok (.iaload, 1) := by decide +kernel
theorem zd_O_rank_80 : decode zb_O_rank 80 = .ok (.istore 4, 2) := by decide +kernel
theorem zd_O_rank_82 : decode zb_O_rank 82 = .ok (.aload_n 0, 1) := by decide +kernel
theorem zd_O_rank_83 : decode zb_O_rank 83 = .ok (.getfield 16, 3) := by decide +kernel
theorem zd_O_rank_86 : decode zb_O_rank 86 = .ok (.getfield 247, 3) := by decide +kernel
theorem zd_O_rank_89 : decode zb_O_rank 89 = .ok (.getfield 259, 3) := by decide +kernel
theorem zd_O_rank_92 : decode zb_O_rank 92 = .ok (.iload_n 1, 1) := by decide +kernel
theorem zd_O_rank_93 : decode zb_O_rank 93 = .ok (.iload_n 3, 1) := by decide +kernel
theorem zd_O_rank_94 : decode zb_O_rank 94 = .ok (.iastore, 1) := by decide +kernel
theorem zd_O_rank_95 : decode zb_O_rank 95 = .ok (.iload 4, 2) := by decide +kernel
theorem zd_O_rank_97 : decode zb_O_rank 97 = .ok (.ireturn, 1) := by decide +kernel
theorem zd_O_rank_98 : decode zb_O_rank 98 = .ok (.iconst (-1), 1) := by decide +kernel
theorem zd_O_rank_99 : decode zb_O_rank 99 = .ok (.ireturn, 1) := by decide +kernel

def zf_O_rank_53 (x1 : Int) (x2 : Int) (x3 : Int) (S : Sg) : Option (Int × Sg) :=
    if x2 = 1 then (if 99 < x3 then (some (-1, S)) else (if x1 = 0 then (some (-1, S)) else (zck (0 ≤ x1 ∧ x1 < 4) <| zlt (S 0 0 34 x1) fun v5 => zlt (zu S 0 0 34 x1 x3) fun S6 => some (v5, S6)))) else (some (-1, S))
set_option maxHeartbeats 4000000 in
set_option maxRecDepth 100000 in
theorem zw_O_rank_53 {p : Program} {l : Launch} {e : Env} {s : State} {m : MethodId} {args : Array Value} {below : List Frame} {meth : Method} {c : Code} {B : zB} (C : CallFix p m c zb_O_rank 5 s args zT "IslandOffice") (hr : meth.sig.returnType = some .int) (hlk : meth.locks = false) (hK : zK B s) (hSt : zSt B s) (hap : zAp B) {res : Int} {S9 : Sg} : ∀ (x1 : Int) (x2 : Int) (x3 : Int) (S : Sg) (nx1 : zn x1) (nx2 : zn x2) (nx3 : zn x3), zf_O_rank_53 x1 x2 x3 S = some (res, S9) → ∀ (H : Heap) (locs : List Loc) (ls : Array Slot), zW B S H → va_S B.2.2.2 s.heap H locs → lv_has ls 5 [(0, .ref (B.2.1 3 (0) (0))), (1, .int (zI (x1))), (2, .int (zI (x2))), (3, .int (zI (x3)))] → W p l e zm_O_rank s m args below meth c H locs 0 0 (MQ below (zQi B res S9) args s 0 0 B.2.2.2) (F0 m 53 ls []) := by
  intro x1 x2 x3 S nx1 nx2 nx3 hf H locs ls hW hS hl
  unfold zf_O_rank_53 at hf
  refine lv_iload_n C.1 C.2.1 zd_O_rank_53 rfl (lv_at hl 2 rfl) ?_
  refine zr_iconst C zd_O_rank_54 ?_
  refine zr_icmp_ne (tgt := 98) C nx2 (znb rfl) zd_O_rank_55 (by decide) (fun c1 => ?_) (fun c1 => ?_)
  · rw [if_neg c1] at hf
    refine zr_iconst C zd_O_rank_98 ?_
    cases hf
    exact zre_i C hr hlk hK hW hS (znb rfl) zd_O_rank_99
  · rw [if_pos c1] at hf
    refine lv_iload_n C.1 C.2.1 zd_O_rank_58 rfl (lv_at hl 3 rfl) ?_
    refine zr_bipush C zd_O_rank_59 (by decide) ?_
    refine zr_icmp_gt (tgt := 98) C nx3 (znb rfl) zd_O_rank_61 (by decide) (fun c2 => ?_) (fun c2 => ?_)
    · rw [if_pos c2] at hf
      refine zr_iconst C zd_O_rank_98 ?_
      cases hf
      exact zre_i C hr hlk hK hW hS (znb rfl) zd_O_rank_99
    · rw [if_neg c2] at hf
      refine lv_iload_n C.1 C.2.1 zd_O_rank_64 rfl (lv_at hl 1 rfl) ?_
      refine zr_if_eq (tgt := 98) C nx1 zd_O_rank_65 (by decide) (fun c3 => ?_) (fun c3 => ?_)
      · rw [if_pos c3] at hf
        refine zr_iconst C zd_O_rank_98 ?_
        cases hf
        exact zre_i C hr hlk hK hW hS (znb rfl) zd_O_rank_99
      · rw [if_neg c3] at hf
        refine lv_aload_n C.1 C.2.1 zd_O_rank_68 rfl (lv_at hl 0 rfl) ?_
        refine zg_O_now (r := 0) C hK hW (zvd_3 (by decide) (by decide)) zk_492 zd_O_rank_69 ?_
        refine zg_I_stores (r := 0) C hK hW (zvd_0 (by decide) (by decide)) zk_292 zd_O_rank_72 ?_
        refine zg_T_uses (r := 0) C hK hW (zvd_0 (by decide) (by decide)) zk_204 zd_O_rank_75 ?_
        refine lv_iload_n C.1 C.2.1 zd_O_rank_78 rfl (lv_at hl 1 rfl) ?_
        obtain ⟨h4, hf⟩ := zck_some hf
        refine ziald C hK hW (zvd_0 (by decide) (by decide)) (fun f => ze_0_34 B f (0)) (by decide) h4 zd_O_rank_79 ?_
        obtain ⟨v5, ev5, hf⟩ := zlt_some hf
        have nv5 : zn v5 := by rw [← ev5]; exact (zWn hW _ _ _ _ rfl)
        rw [ev5]
        refine lv_istore (lv' := [(4, .int (zI (v5))), (0, .ref (B.2.1 3 (0) (0))), (1, .int (zI (x1))), (2, .int (zI (x2))), (3, .int (zI (x3)))]) C.1 C.2.1 zd_O_rank_80 hl (by decide) rfl (fun ls hl => ?_)
        refine lv_aload_n C.1 C.2.1 zd_O_rank_82 rfl (lv_at hl 1 rfl) ?_
        refine zg_O_now (r := 0) C hK hW (zvd_3 (by decide) (by decide)) zk_492 zd_O_rank_83 ?_
        refine zg_I_stores (r := 0) C hK hW (zvd_0 (by decide) (by decide)) zk_292 zd_O_rank_86 ?_
        refine zg_T_uses (r := 0) C hK hW (zvd_0 (by decide) (by decide)) zk_204 zd_O_rank_89 ?_
        refine lv_iload_n C.1 C.2.1 zd_O_rank_92 rfl (lv_at hl 2 rfl) ?_
        refine lv_iload_n C.1 C.2.1 zd_O_rank_93 rfl (lv_at hl 4 rfl) ?_
        obtain ⟨S6, eS6, hf⟩ := zlt_some hf
        refine ziast C hK hap hW hS (zvd_0 (by decide) (by decide)) (fun f => ze_0_34 B f (0)) (by decide) rfl nx3 h4 zd_O_rank_94 (fun H locs hW hS => ?_)
        rw [eS6] at hW
        refine lv_iload C.1 C.2.1 zd_O_rank_95 (lv_at hl 0 rfl) ?_
        cases hf
        exact zre_i C hr hlk hK hW hS nv5 zd_O_rank_97

def zf_O_rank (x1 : Int) (x2 : Int) (x3 : Int) (S : Sg) : Option (Int × Sg) :=
    zbd (zf_O_isGood x1 S) fun a1 S2 => if a1 = 0 then (some (-1, S2)) else (if 0 ≤ x3 then (if x2 = 0 then (if 9 < x3 then (zf_O_rank_53 (x1) (x2) (x3) S2) else (zck (0 ≤ x1 ∧ x1 < 4) <| zlt (S2 0 0 33 x1) fun v8 => zlt (zu S2 0 0 33 x1 x3) fun S9 => some (v8, S9))) else (zf_O_rank_53 (x1) (x2) (x3) S2)) else (some (-1, S2)))
set_option maxHeartbeats 4000000 in
set_option maxRecDepth 100000 in
theorem zw_O_rank {p : Program} {l : Launch} {e : Env} {s : State} {m : MethodId} {args : Array Value} {below : List Frame} {meth : Method} {c : Code} {B : zB} (C : CallFix p m c zb_O_rank 5 s args zT "IslandOffice") (hr : meth.sig.returnType = some .int) (hlk : meth.locks = false) (hK : zK B s) (hSt : zSt B s) (hap : zAp B) {res : Int} {S9 : Sg} : ∀ (x1 : Int) (x2 : Int) (x3 : Int) (S : Sg) (nx1 : zn x1) (nx2 : zn x2) (nx3 : zn x3), zf_O_rank x1 x2 x3 S = some (res, S9) → ∀ (H : Heap) (locs : List Loc) (ls : Array Slot), zW B S H → va_S B.2.2.2 s.heap H locs → lv_has ls 5 [(0, .ref (B.2.1 3 (0) (0))), (1, .int (zI (x1))), (2, .int (zI (x2))), (3, .int (zI (x3)))] → W p l e zm_O_rank s m args below meth c H locs 0 0 (MQ below (zQi B res S9) args s 0 0 B.2.2.2) (F0 m 0 ls []) := by
  intro x1 x2 x3 S nx1 nx2 nx3 hf H locs ls hW hS hl
  unfold zf_O_rank at hf
  refine lv_iload_n C.1 C.2.1 zd_O_rank_0 rfl (lv_at hl 1 rfl) ?_
  obtain ⟨a1, S2, ea1, hf⟩ := zbd_some hf
  refine zcSi (As := [.int (zI (x1))]) (rest := []) C hK hSt hW hS (zc_O_isGood hap x1 S nx1 ea1) zq_O_isGood zk_861 ⟨rfl, rfl, by decide, by decide⟩ ⟨Nat.zero_le _, Nat.zero_le _⟩ rfl hl.1 rfl (lv_room (Nat.le_of_ble_eq_true rfl)) zd_O_rank_1 (fun na1 H locs hW hS => ?_)
  refine zr_if_eq (tgt := 11) C na1 zd_O_rank_4 (by decide) (fun c3 => ?_) (fun c3 => ?_)
  · rw [if_pos c3] at hf
    refine zr_iconst C zd_O_rank_11 ?_
    cases hf
    exact zre_i C hr hlk hK hW hS (znb rfl) zd_O_rank_12
  · rw [if_neg c3] at hf
    refine lv_iload_n C.1 C.2.1 zd_O_rank_7 rfl (lv_at hl 3 rfl) ?_
    refine zr_if_ge (tgt := 13) C nx3 zd_O_rank_8 (by decide) (fun c4 => ?_) (fun c4 => ?_)
    · rw [if_pos c4] at hf
      refine lv_iload_n C.1 C.2.1 zd_O_rank_13 rfl (lv_at hl 2 rfl) ?_
      refine zr_if_ne (tgt := 53) C nx2 zd_O_rank_14 (by decide) (fun c5 => ?_) (fun c5 => ?_)
      · rw [if_neg c5] at hf
        exact zw_O_rank_53 C hr hlk hK hSt hap   (x1) (x2) (x3) S2 nx1 nx2 nx3 hf _ _ _ hW hS (lv_sub hl [0, 1, 2, 3] rfl)
      · rw [if_pos c5] at hf
        refine lv_iload_n C.1 C.2.1 zd_O_rank_17 rfl (lv_at hl 3 rfl) ?_
        refine zr_bipush C zd_O_rank_18 (by decide) ?_
        refine zr_icmp_gt (tgt := 53) C nx3 (znb rfl) zd_O_rank_20 (by decide) (fun c6 => ?_) (fun c6 => ?_)
        · rw [if_pos c6] at hf
          exact zw_O_rank_53 C hr hlk hK hSt hap   (x1) (x2) (x3) S2 nx1 nx2 nx3 hf _ _ _ hW hS (lv_sub hl [0, 1, 2, 3] rfl)
        · rw [if_neg c6] at hf
          refine lv_aload_n C.1 C.2.1 zd_O_rank_23 rfl (lv_at hl 0 rfl) ?_
          refine zg_O_now (r := 0) C hK hW (zvd_3 (by decide) (by decide)) zk_492 zd_O_rank_24 ?_
          refine zg_I_stores (r := 0) C hK hW (zvd_0 (by decide) (by decide)) zk_292 zd_O_rank_27 ?_
          refine zg_T_ranks (r := 0) C hK hW (zvd_0 (by decide) (by decide)) zk_201 zd_O_rank_30 ?_
          refine lv_iload_n C.1 C.2.1 zd_O_rank_33 rfl (lv_at hl 1 rfl) ?_
          obtain ⟨h7, hf⟩ := zck_some hf
          refine ziald C hK hW (zvd_0 (by decide) (by decide)) (fun f => ze_0_33 B f (0)) (by decide) h7 zd_O_rank_34 ?_
          obtain ⟨v8, ev8, hf⟩ := zlt_some hf
          have nv8 : zn v8 := by rw [← ev8]; exact (zWn hW _ _ _ _ rfl)
          rw [ev8]
          refine lv_istore (lv' := [(4, .int (zI (v8))), (0, .ref (B.2.1 3 (0) (0))), (1, .int (zI (x1))), (2, .int (zI (x2))), (3, .int (zI (x3)))]) C.1 C.2.1 zd_O_rank_35 hl (by decide) rfl (fun ls hl => ?_)
          refine lv_aload_n C.1 C.2.1 zd_O_rank_37 rfl (lv_at hl 1 rfl) ?_
          refine zg_O_now (r := 0) C hK hW (zvd_3 (by decide) (by decide)) zk_492 zd_O_rank_38 ?_
          refine zg_I_stores (r := 0) C hK hW (zvd_0 (by decide) (by decide)) zk_292 zd_O_rank_41 ?_
          refine zg_T_ranks (r := 0) C hK hW (zvd_0 (by decide) (by decide)) zk_201 zd_O_rank_44 ?_
          refine lv_iload_n C.1 C.2.1 zd_O_rank_47 rfl (lv_at hl 2 rfl) ?_
          refine lv_iload_n C.1 C.2.1 zd_O_rank_48 rfl (lv_at hl 4 rfl) ?_
          obtain ⟨S9, eS9, hf⟩ := zlt_some hf
          refine ziast C hK hap hW hS (zvd_0 (by decide) (by decide)) (fun f => ze_0_33 B f (0)) (by decide) rfl nx3 h7 zd_O_rank_49 (fun H locs hW hS => ?_)
          rw [eS9] at hW
          refine lv_iload C.1 C.2.1 zd_O_rank_50 (lv_at hl 0 rfl) ?_
          cases hf
          exact zre_i C hr hlk hK hW hS nv8 zd_O_rank_52
    · rw [if_neg c4] at hf
      refine zr_iconst C zd_O_rank_11 ?_
      cases hf
      exact zre_i C hr hlk hK hW hS (znb rfl) zd_O_rank_12

theorem zc_O_rank {l : Launch} {B : zB} (hap : zAp B) (x1 : Int) (x2 : Int) (x3 : Int) (S : Sg) (nx1 : zn x1) (nx2 : zn x2) (nx3 : zn x3) {res : Int} {S9 : Sg} (hf : zf_O_rank x1 x2 x3 S = some (res, S9)) : Met l zy_O_rank (Cond.code zy_O_rank zb_O_rank 5 (some .int) :: zT) zm_O_rank (zP B S [.ref (B.2.1 3 (0) (0)), .int (zI (x1)), .int (zI (x2)), .int (zI (x3))]) (zQi B res S9) 0 0 B.2.2.2 :=
  zmet (by decide) (Nat.le_of_ble_eq_true rfl) (fun p e s m args below meth c C hr hlk hK hSt hW ls hl => zw_O_rank C hr hlk hK hSt hap   x1 x2 x3 S nx1 nx2 nx3 hf _ _ _ hW va_S.rf hl)
/-! IslandOffice$Stores.addOrder(II)I -/
abbrev zy_T_addOrder : MethodName := ⟨"IslandOffice$Stores", "addOrder", "(II)I"⟩
abbrev zb_T_addOrder : ByteArray := prog_12_method_3_code
abbrev zm_T_addOrder : Room := { frames := 0, cells := 0, slots := 0, locals := 0 }
theorem zq_T_addOrder : zMy zy_T_addOrder zb_T_addOrder 4 (some .int) 2 := ⟨zk_875, zk_873, zk_874, zk_7, by decide, by decide, by decide +kernel⟩
theorem zd_T_addOrder_0 : decode zb_T_addOrder 0 = .ok (.aload_n 0, 1) := by decide +kernel
theorem zd_T_addOrder_1 : decode zb_T_addOrder 1 = .ok (.getfield 21, 3) := by decide +kernel
theorem zd_T_addOrder_4 : decode zb_T_addOrder 4 = .ok (.bipush 30, 2) := by decide +kernel
theorem zd_T_addOrder_6 : decode zb_T_addOrder 6 = .ok (.if_icmp .lt 6, 3) := by decide +kernel
theorem zd_T_addOrder_9 : decode zb_T_addOrder 9 = .ok (.bipush (-2), 2) := by decide +kernel
theorem zd_T_addOrder_11 : decode zb_T_addOrder 11 = .ok (.ireturn, 1) := by decide +kernel
theorem zd_T_addOrder_12 : decode zb_T_addOrder 12 = .ok (.aload_n 0, 1) := by decide +kernel
theorem zd_T_addOrder_13 : decode zb_T_addOrder 13 = .ok (.getfield 21, 3) := by decide +kernel
theorem zd_T_addOrder_16 : decode zb_T_addOrder 16 = .ok (.istore_n 3, 1) := by decide +kernel
theorem zd_T_addOrder_17 : decode zb_T_addOrder 17 = .ok (.aload_n 0, 1) := by decide +kernel
theorem zd_T_addOrder_18 : decode zb_T_addOrder 18 = .ok (.getfield 25, 3) := by decide +kernel
theorem zd_T_addOrder_21 : decode zb_T_addOrder 21 = .ok (.iload_n 3, 1) := by decide +kernel
theorem zd_T_addOrder_22 : decode zb_T_addOrder 22 = .ok (.iload_n 1, 1) := by decide +kernel
theorem zd_T_addOrder_23 : decode zb_T_addOrder 23 = .ok (.iastore, 1) := by decide +kernel
theorem zd_T_addOrder_24 : decode zb_T_addOrder 24 = .ok (.aload_n 0, 1) := by decide +kernel
theorem zd_T_addOrder_25 : decode zb_T_addOrder 25 = .ok (.getfield 28, 3) := by decide +kernel
theorem zd_T_addOrder_28 : decode zb_T_addOrder 28 = .ok (.iload_n 3, 1) := by decide +kernel
theorem zd_T_addOrder_29 : decode zb_T_addOrder 29 = .ok (.iload_n 2, 1) := by decide +kernel
theorem zd_T_addOrder_30 : decode zb_T_addOrder 30 = .ok (.iastore, 1) := by decide +kernel
theorem zd_T_addOrder_31 : decode zb_T_addOrder 31 = .ok (.aload_n 0, 1) := by decide +kernel
theorem zd_T_addOrder_32 : decode zb_T_addOrder 32 = .ok (.iload_n 3, 1) := by decide +kernel
theorem zd_T_addOrder_33 : decode zb_T_addOrder 33 = .ok (.iconst 1, 1) := by decide +kernel
theorem zd_T_addOrder_34 : decode zb_T_addOrder 34 = .ok (.iadd, 1) := by decide +kernel
theorem zd_T_addOrder_35 : decode zb_T_addOrder 35 = .ok (.putfield 21, 3) := by decide +kernel
theorem zd_T_addOrder_38 : decode zb_T_addOrder 38 = .ok (.iload_n 3, 1) := by decide +kernel
theorem zd_T_addOrder_39 : decode zb_T_addOrder 39 = .ok (.ireturn, 1) := by decide +kernel

def zf_T_addOrder (r0 : Int) (x1 : Int) (x2 : Int) (S : Sg) : Option (Int × Sg) :=
    if (S 0 r0 31 3) < 30 then (zlt (S 0 r0 31 3) fun v2 => zck (0 ≤ v2 ∧ v2 < 30) <| zlt (zu S 0 r0 35 v2 x1) fun S4 => zlt (zu S4 0 r0 36 v2 x2) fun S5 => zlt (zu S5 0 r0 31 3 (zw (v2 + 1))) fun S6 => some (v2, S6)) else (some (-2, S))
set_option maxHeartbeats 4000000 in
set_option maxRecDepth 100000 in
theorem zw_T_addOrder {p : Program} {l : Launch} {e : Env} {s : State} {m : MethodId} {args : Array Value} {below : List Frame} {meth : Method} {c : Code} {B : zB} (C : CallFix p m c zb_T_addOrder 4 s args zT "IslandOffice$Stores") (hr : meth.sig.returnType = some .int) (hlk : meth.locks = false) (hK : zK B s) (hSt : zSt B s) (hap : zAp B) (r0 : Int) (hr0 : 0 ≤ r0 ∧ r0 < 3) {res : Int} {S9 : Sg} : ∀ (x1 : Int) (x2 : Int) (S : Sg) (nx1 : zn x1) (nx2 : zn x2), zf_T_addOrder r0 x1 x2 S = some (res, S9) → ∀ (H : Heap) (locs : List Loc) (ls : Array Slot), zW B S H → va_S B.2.2.2 s.heap H locs → lv_has ls 4 [(0, .ref (B.2.1 0 (r0) (31))), (1, .int (zI (x1))), (2, .int (zI (x2)))] → W p l e zm_T_addOrder s m args below meth c H locs 0 0 (MQ below (zQi B res S9) args s 0 0 B.2.2.2) (F0 m 0 ls []) := by
  intro x1 x2 S nx1 nx2 hf H locs ls hW hS hl
  unfold zf_T_addOrder at hf
  refine lv_aload_n C.1 C.2.1 zd_T_addOrder_0 rfl (lv_at hl 0 rfl) ?_
  refine zg_T_orders (r := r0) C hK hW (zvd_0 hr0 (by decide)) zk_205 zd_T_addOrder_1 ?_
  refine zr_bipush C zd_T_addOrder_4 (by decide) ?_
  refine zr_icmp_lt (tgt := 12) C (zWn hW _ _ _ _ rfl) (znb rfl) zd_T_addOrder_6 (by decide) (fun c1 => ?_) (fun c1 => ?_)
  · rw [if_pos c1] at hf
    refine lv_aload_n C.1 C.2.1 zd_T_addOrder_12 rfl (lv_at hl 0 rfl) ?_
    refine zg_T_orders (r := r0) C hK hW (zvd_0 hr0 (by decide)) zk_205 zd_T_addOrder_13 ?_
    obtain ⟨v2, ev2, hf⟩ := zlt_some hf
    have nv2 : zn v2 := by rw [← ev2]; exact (zWn hW _ _ _ _ rfl)
    rw [ev2]
    refine lv_istore_n (lv' := [(3, .int (zI (v2))), (0, .ref (B.2.1 0 (r0) (31))), (1, .int (zI (x1))), (2, .int (zI (x2)))]) C.1 C.2.1 zd_T_addOrder_16 rfl hl (by decide) rfl (fun ls hl => ?_)
    refine lv_aload_n C.1 C.2.1 zd_T_addOrder_17 rfl (lv_at hl 1 rfl) ?_
    refine zg_T_good (r := r0) C hK hW (zvd_0 hr0 (by decide)) zk_207 zd_T_addOrder_18 ?_
    refine lv_iload_n C.1 C.2.1 zd_T_addOrder_21 rfl (lv_at hl 0 rfl) ?_
    refine lv_iload_n C.1 C.2.1 zd_T_addOrder_22 rfl (lv_at hl 2 rfl) ?_
    obtain ⟨h3, hf⟩ := zck_some hf
    obtain ⟨S4, eS4, hf⟩ := zlt_some hf
    refine ziast C hK hap hW hS (zvd_0 hr0 (by decide)) (fun f => ze_0_35 B f (r0)) (by decide) rfl nx1 h3 zd_T_addOrder_23 (fun H locs hW hS => ?_)
    rw [eS4] at hW
    refine lv_aload_n C.1 C.2.1 zd_T_addOrder_24 rfl (lv_at hl 1 rfl) ?_
    refine zg_T_rest (r := r0) C hK hW (zvd_0 hr0 (by decide)) zk_208 zd_T_addOrder_25 ?_
    refine lv_iload_n C.1 C.2.1 zd_T_addOrder_28 rfl (lv_at hl 0 rfl) ?_
    refine lv_iload_n C.1 C.2.1 zd_T_addOrder_29 rfl (lv_at hl 3 rfl) ?_
    obtain ⟨S5, eS5, hf⟩ := zlt_some hf
    refine ziast C hK hap hW hS (zvd_0 hr0 (by decide)) (fun f => ze_0_36 B f (r0)) (by decide) rfl nx2 h3 zd_T_addOrder_30 (fun H locs hW hS => ?_)
    rw [eS5] at hW
    refine lv_aload_n C.1 C.2.1 zd_T_addOrder_31 rfl (lv_at hl 1 rfl) ?_
    refine lv_iload_n C.1 C.2.1 zd_T_addOrder_32 rfl (lv_at hl 0 rfl) ?_
    refine zr_iconst C zd_T_addOrder_33 ?_
    refine zr_iadd C zd_T_addOrder_34 ?_
    obtain ⟨S6, eS6, hf⟩ := zlt_some hf
    refine zp_T_orders (r := r0) C hK hap hW hS (zvd_0 hr0 (by decide)) zk_205 (zn_w _) zd_T_addOrder_35 (fun H locs hW hS => ?_)
    rw [eS6] at hW
    refine lv_iload_n C.1 C.2.1 zd_T_addOrder_38 rfl (lv_at hl 0 rfl) ?_
    cases hf
    exact zre_i C hr hlk hK hW hS nv2 zd_T_addOrder_39
  · rw [if_neg c1] at hf
    refine zr_bipush C zd_T_addOrder_9 (by decide) ?_
    cases hf
    exact zre_i C hr hlk hK hW hS (znb rfl) zd_T_addOrder_11

theorem zc_T_addOrder {l : Launch} {B : zB} (hap : zAp B) (r0 : Int) (hr0 : 0 ≤ r0 ∧ r0 < 3) (x1 : Int) (x2 : Int) (S : Sg) (nx1 : zn x1) (nx2 : zn x2) {res : Int} {S9 : Sg} (hf : zf_T_addOrder r0 x1 x2 S = some (res, S9)) : Met l zy_T_addOrder (Cond.code zy_T_addOrder zb_T_addOrder 4 (some .int) :: zT) zm_T_addOrder (zP B S [.ref (B.2.1 0 (r0) (31)), .int (zI (x1)), .int (zI (x2))]) (zQi B res S9) 0 0 B.2.2.2 :=
  zmet (by decide) (Nat.le_of_ble_eq_true rfl) (fun p e s m args below meth c C hr hlk hK hSt hW ls hl => zw_T_addOrder C hr hlk hK hSt hap r0 hr0 x1 x2 S nx1 nx2 hf _ _ _ hW va_S.rf hl)
/-! IslandOffice.order(II)I -/
abbrev zy_O_order : MethodName := ⟨"IslandOffice", "order", "(II)I"⟩
abbrev zb_O_order : ByteArray := prog_1_method_25_code
abbrev zm_O_order : Room := { frames := 1, cells := 0, slots := 0, locals := 23 }
theorem zq_O_order : zMy zy_O_order zb_O_order 3 (some .int) 2 := ⟨zk_871, zk_869, zk_870, zk_1, by decide, by decide, by decide +kernel⟩
theorem zd_O_order_0 : decode zb_O_order 0 = .ok (.iload_n 1, 1) := by decide +kernel
theorem zd_O_order_1 : decode zb_O_order 1 = .ok (.invokestatic 244, 3) := by decide +kernel
theorem zd_O_order_4 : decode zb_O_order 4 = .ok (.ifCond .eq 15, 3) := by decide +kernel
theorem zd_O_order_7 : decode zb_O_order 7 = .ok (.iload_n 2, 1) := by decide +kernel
theorem zd_O_order_8 : decode zb_O_order 8 = .ok (.iconst 1, 1) := by decide +kernel
theorem zd_O_order_9 : decode zb_O_order 9 = .ok (.if_icmp .lt 10, 3) := by decide +kernel
theorem zd_O_order_12 : decode zb_O_order 12 = .ok (.iload_n 2, 1) := by decide +kernel
theorem zd_O_order_13 : decode zb_O_order 13 = .ok (.sipush 500, 3) := by decide +kernel
theorem zd_O_order_16 : decode zb_O_order 16 = .ok (.if_icmp .le 5, 3) := by decide +kernel
theorem zd_O_order_19 : decode zb_O_order 19 = .ok (.iconst (-1), 1) := by decide +kernel
theorem zd_O_order_20 : decode zb_O_order 20 = .ok (.ireturn, 1) := by decide +kernel
theorem zd_O_order_21 : decode zb_O_order 21 = .ok (.aload_n 0, 1) := by decide +kernel
theorem zd_O_order_22 : decode zb_O_order 22 = .ok (.getfield 16, 3) := by decide +kernel
theorem zd_O_order_25 : decode zb_O_order 25 = .ok (.getfield 247, 3) := by decide +kernel
theorem zd_O_order_28 : decode zb_O_order 28 = .ok (.iload_n 1, 1) := by decide +kernel
theorem zd_O_order_29 : decode zb_O_order 29 = .ok (.iload_n 2, 1) := by decide +kernel
theorem zd_O_order_30 : decode zb_O_order 30 = .ok (.invokevirtual 262, 3) := by decide +kernel
theorem zd_O_order_33 : decode zb_O_order 33 = .ok (.ireturn, 1) := by decide +kernel

def zf_O_order (x1 : Int) (x2 : Int) (S : Sg) : Option (Int × Sg) :=
    zbd (zf_O_isGood x1 S) fun a1 S2 => if a1 = 0 then (some (-1, S2)) else (if x2 < 1 then (some (-1, S2)) else (if x2 ≤ 500 then (zbd (zf_T_addOrder (0) x1 x2 S2) fun a6 S7 => some (a6, S7)) else (some (-1, S2))))
set_option maxHeartbeats 4000000 in
set_option maxRecDepth 100000 in
theorem zw_O_order {p : Program} {l : Launch} {e : Env} {s : State} {m : MethodId} {args : Array Value} {below : List Frame} {meth : Method} {c : Code} {B : zB} (C : CallFix p m c zb_O_order 3 s args zT "IslandOffice") (hr : meth.sig.returnType = some .int) (hlk : meth.locks = false) (hK : zK B s) (hSt : zSt B s) (hap : zAp B) {res : Int} {S9 : Sg} : ∀ (x1 : Int) (x2 : Int) (S : Sg) (nx1 : zn x1) (nx2 : zn x2), zf_O_order x1 x2 S = some (res, S9) → ∀ (H : Heap) (locs : List Loc) (ls : Array Slot), zW B S H → va_S B.2.2.2 s.heap H locs → lv_has ls 3 [(0, .ref (B.2.1 3 (0) (0))), (1, .int (zI (x1))), (2, .int (zI (x2)))] → W p l e zm_O_order s m args below meth c H locs 0 0 (MQ below (zQi B res S9) args s 0 0 B.2.2.2) (F0 m 0 ls []) := by
  intro x1 x2 S nx1 nx2 hf H locs ls hW hS hl
  unfold zf_O_order at hf
  refine lv_iload_n C.1 C.2.1 zd_O_order_0 rfl (lv_at hl 1 rfl) ?_
  obtain ⟨a1, S2, ea1, hf⟩ := zbd_some hf
  refine zcSi (As := [.int (zI (x1))]) (rest := []) C hK hSt hW hS (zc_O_isGood hap x1 S nx1 ea1) zq_O_isGood zk_861 ⟨rfl, rfl, by decide, by decide⟩ ⟨Nat.zero_le _, Nat.zero_le _⟩ rfl hl.1 rfl (lv_room (Nat.le_of_ble_eq_true rfl)) zd_O_order_1 (fun na1 H locs hW hS => ?_)
  refine zr_if_eq (tgt := 19) C na1 zd_O_order_4 (by decide) (fun c3 => ?_) (fun c3 => ?_)
  · rw [if_pos c3] at hf
    refine zr_iconst C zd_O_order_19 ?_
    cases hf
    exact zre_i C hr hlk hK hW hS (znb rfl) zd_O_order_20
  · rw [if_neg c3] at hf
    refine lv_iload_n C.1 C.2.1 zd_O_order_7 rfl (lv_at hl 2 rfl) ?_
    refine zr_iconst C zd_O_order_8 ?_
    refine zr_icmp_lt (tgt := 19) C nx2 (znb rfl) zd_O_order_9 (by decide) (fun c4 => ?_) (fun c4 => ?_)
    · rw [if_pos c4] at hf
      refine zr_iconst C zd_O_order_19 ?_
      cases hf
      exact zre_i C hr hlk hK hW hS (znb rfl) zd_O_order_20
    · rw [if_neg c4] at hf
      refine lv_iload_n C.1 C.2.1 zd_O_order_12 rfl (lv_at hl 2 rfl) ?_
      refine zr_sipush C zd_O_order_13 (by decide) ?_
      refine zr_icmp_le (tgt := 21) C nx2 (znb rfl) zd_O_order_16 (by decide) (fun c5 => ?_) (fun c5 => ?_)
      · rw [if_pos c5] at hf
        refine lv_aload_n C.1 C.2.1 zd_O_order_21 rfl (lv_at hl 0 rfl) ?_
        refine zg_O_now (r := 0) C hK hW (zvd_3 (by decide) (by decide)) zk_492 zd_O_order_22 ?_
        refine zg_I_stores (r := 0) C hK hW (zvd_0 (by decide) (by decide)) zk_292 zd_O_order_25 ?_
        refine lv_iload_n C.1 C.2.1 zd_O_order_28 rfl (lv_at hl 1 rfl) ?_
        refine lv_iload_n C.1 C.2.1 zd_O_order_29 rfl (lv_at hl 2 rfl) ?_
        obtain ⟨a6, S7, ea6, hf⟩ := zbd_some hf
        refine zcVi (As := [.int (zI (x1)), .int (zI (x2))]) (rest := []) C hK hSt hW hS (zc_T_addOrder hap (0) (by decide) x1 x2 S2 nx1 nx2 ea6) zq_T_addOrder zk_872 (zrecv hK hW (zvd_0 (by decide) (by decide)) (ze_0_31 B _ (0)) rfl) ⟨rfl, rfl, by decide, by decide⟩ ⟨Nat.zero_le _, Nat.zero_le _⟩ rfl hl.1 rfl (lv_room (Nat.le_of_ble_eq_true rfl)) zd_O_order_30 (fun na6 H locs hW hS => ?_)
        cases hf
        exact zre_i C hr hlk hK hW hS na6 zd_O_order_33
      · rw [if_neg c5] at hf
        refine zr_iconst C zd_O_order_19 ?_
        cases hf
        exact zre_i C hr hlk hK hW hS (znb rfl) zd_O_order_20

theorem zc_O_order {l : Launch} {B : zB} (hap : zAp B) (x1 : Int) (x2 : Int) (S : Sg) (nx1 : zn x1) (nx2 : zn x2) {res : Int} {S9 : Sg} (hf : zf_O_order x1 x2 S = some (res, S9)) : Met l zy_O_order (Cond.code zy_O_order zb_O_order 3 (some .int) :: zT) zm_O_order (zP B S [.ref (B.2.1 3 (0) (0)), .int (zI (x1)), .int (zI (x2))]) (zQi B res S9) 0 0 B.2.2.2 :=
  zmet (by decide) (Nat.le_of_ble_eq_true rfl) (fun p e s m args below meth c C hr hlk hK hSt hW ls hl => zw_O_order C hr hlk hK hSt hap   x1 x2 S nx1 nx2 hf _ _ _ hW va_S.rf hl)
/-! IslandOffice.due(I)I -/
abbrev zy_O_due : MethodName := ⟨"IslandOffice", "due", "(I)I"⟩
abbrev zb_O_due : ByteArray := prog_1_method_26_code
abbrev zm_O_due : Room := { frames := 0, cells := 0, slots := 0, locals := 0 }
theorem zq_O_due : zMy zy_O_due zb_O_due 2 (some .int) 1 := ⟨zk_879, zk_877, zk_878, zk_1, by decide, by decide, by decide +kernel⟩
theorem zd_O_due_0 : decode zb_O_due 0 = .ok (.iload_n 1, 1) := by decide +kernel
theorem zd_O_due_1 : decode zb_O_due 1 = .ok (.ifCond .lt 17, 3) := by decide +kernel
theorem zd_O_due_4 : decode zb_O_due 4 = .ok (.iload_n 1, 1) := by decide +kernel
theorem zd_O_due_5 : decode zb_O_due 5 = .ok (.aload_n 0, 1) := by decide +kernel
theorem zd_O_due_6 : decode zb_O_due 6 = .ok (.getfield 16, 3) := by decide +kernel
theorem zd_O_due_9 : decode zb_O_due 9 = .ok (.getfield 247, 3) := by decide +kernel
theorem zd_O_due_12 : decode zb_O_due 12 = .ok (.getfield 265, 3) := by decide +kernel
theorem zd_O_due_15 : decode zb_O_due 15 = .ok (.if_icmp .lt 5, 3) := by decide +kernel
theorem zd_O_due_18 : decode zb_O_due 18 = .ok (.iconst (-1), 1) := by decide +kernel
theorem zd_O_due_19 : decode zb_O_due 19 = .ok (.ireturn, 1) := by decide +kernel
theorem zd_O_due_20 : decode zb_O_due 20 = .ok (.aload_n 0, 1) := by decide +kernel
theorem zd_O_due_21 : decode zb_O_due 21 = .ok (.getfield 16, 3) := by decide +kernel
theorem zd_O_due_24 : decode zb_O_due 24 = .ok (.getfield 247, 3) := by decide +kernel
theorem zd_O_due_27 : decode zb_O_due 27 = .ok (.getfield 268, 3) := by decide +kernel
theorem zd_O_due_30 : decode zb_O_due 30 = .ok (.iload_n 1, 1) := by decide +kernel
theorem zd_O_due_31 : decode zb_O_due 31 = .ok (.iaload, 1) := by decide +kernel
theorem zd_O_due_32 : decode zb_O_due 32 = .ok (.ireturn, 1) := by decide +kernel

def zf_O_due (x1 : Int) (S : Sg) : Option (Int × Sg) :=
    if x1 < 0 then (some (-1, S)) else (if x1 < (S 0 0 31 3) then (zck (0 ≤ x1 ∧ x1 < 30) <| some (S 0 0 36 x1, S)) else (some (-1, S)))
set_option maxHeartbeats 4000000 in
set_option maxRecDepth 100000 in
theorem zw_O_due {p : Program} {l : Launch} {e : Env} {s : State} {m : MethodId} {args : Array Value} {below : List Frame} {meth : Method} {c : Code} {B : zB} (C : CallFix p m c zb_O_due 2 s args zT "IslandOffice") (hr : meth.sig.returnType = some .int) (hlk : meth.locks = false) (hK : zK B s) (hSt : zSt B s) (hap : zAp B) {res : Int} {S9 : Sg} : ∀ (x1 : Int) (S : Sg) (nx1 : zn x1), zf_O_due x1 S = some (res, S9) → ∀ (H : Heap) (locs : List Loc) (ls : Array Slot), zW B S H → va_S B.2.2.2 s.heap H locs → lv_has ls 2 [(0, .ref (B.2.1 3 (0) (0))), (1, .int (zI (x1)))] → W p l e zm_O_due s m args below meth c H locs 0 0 (MQ below (zQi B res S9) args s 0 0 B.2.2.2) (F0 m 0 ls []) := by
  intro x1 S nx1 hf H locs ls hW hS hl
  unfold zf_O_due at hf
  refine lv_iload_n C.1 C.2.1 zd_O_due_0 rfl (lv_at hl 1 rfl) ?_
  refine zr_if_lt (tgt := 18) C nx1 zd_O_due_1 (by decide) (fun c1 => ?_) (fun c1 => ?_)
  · rw [if_pos c1] at hf
    refine zr_iconst C zd_O_due_18 ?_
    cases hf
    exact zre_i C hr hlk hK hW hS (znb rfl) zd_O_due_19
  · rw [if_neg c1] at hf
    refine lv_iload_n C.1 C.2.1 zd_O_due_4 rfl (lv_at hl 1 rfl) ?_
    refine lv_aload_n C.1 C.2.1 zd_O_due_5 rfl (lv_at hl 0 rfl) ?_
    refine zg_O_now (r := 0) C hK hW (zvd_3 (by decide) (by decide)) zk_492 zd_O_due_6 ?_
    refine zg_I_stores (r := 0) C hK hW (zvd_0 (by decide) (by decide)) zk_292 zd_O_due_9 ?_
    refine zg_T_orders (r := 0) C hK hW (zvd_0 (by decide) (by decide)) zk_206 zd_O_due_12 ?_
    refine zr_icmp_lt (tgt := 20) C nx1 (zWn hW _ _ _ _ rfl) zd_O_due_15 (by decide) (fun c2 => ?_) (fun c2 => ?_)
    · rw [if_pos c2] at hf
      refine lv_aload_n C.1 C.2.1 zd_O_due_20 rfl (lv_at hl 0 rfl) ?_
      refine zg_O_now (r := 0) C hK hW (zvd_3 (by decide) (by decide)) zk_492 zd_O_due_21 ?_
      refine zg_I_stores (r := 0) C hK hW (zvd_0 (by decide) (by decide)) zk_292 zd_O_due_24 ?_
      refine zg_T_rest (r := 0) C hK hW (zvd_0 (by decide) (by decide)) zk_209 zd_O_due_27 ?_
      refine lv_iload_n C.1 C.2.1 zd_O_due_30 rfl (lv_at hl 1 rfl) ?_
      obtain ⟨h3, hf⟩ := zck_some hf
      refine ziald C hK hW (zvd_0 (by decide) (by decide)) (fun f => ze_0_36 B f (0)) (by decide) h3 zd_O_due_31 ?_
      cases hf
      exact zre_i C hr hlk hK hW hS (zWn hW _ _ _ _ rfl) zd_O_due_32
    · rw [if_neg c2] at hf
      refine zr_iconst C zd_O_due_18 ?_
      cases hf
      exact zre_i C hr hlk hK hW hS (znb rfl) zd_O_due_19

theorem zc_O_due {l : Launch} {B : zB} (hap : zAp B) (x1 : Int) (S : Sg) (nx1 : zn x1) {res : Int} {S9 : Sg} (hf : zf_O_due x1 S = some (res, S9)) : Met l zy_O_due (Cond.code zy_O_due zb_O_due 2 (some .int) :: zT) zm_O_due (zP B S [.ref (B.2.1 3 (0) (0)), .int (zI (x1))]) (zQi B res S9) 0 0 B.2.2.2 :=
  zmet (by decide) (Nat.le_of_ble_eq_true rfl) (fun p e s m args below meth c C hr hlk hK hSt hW ls hl => zw_O_due C hr hlk hK hSt hap   x1 S nx1 hf _ _ _ hW va_S.rf hl)
/-! IslandOffice.set(II)I -/
abbrev zy_O_set : MethodName := ⟨"IslandOffice", "set", "(II)I"⟩
abbrev zb_O_set : ByteArray := prog_1_method_27_code
abbrev zm_O_set : Room := { frames := 0, cells := 0, slots := 0, locals := 0 }
theorem zq_O_set : zMy zy_O_set zb_O_set 4 (some .int) 2 := ⟨zk_883, zk_881, zk_882, zk_1, by decide, by decide, by decide +kernel⟩
theorem zd_O_set_0 : decode zb_O_set 0 = .ok (.iload_n 1, 1) := by decide +kernel
theorem zd_O_set_1 : decode zb_O_set 1 = .ok (.ifCond .lt 26, 3) := by decide +kernel
theorem zd_O_set_4 : decode zb_O_set 4 = .ok (.iload_n 1, 1) := by decide +kernel
theorem zd_O_set_5 : decode zb_O_set 5 = .ok (.iconst 4, 1) := by decide +kernel
theorem zd_O_set_6 : decode zb_O_set 6 = .ok (.if_icmp .ge 21, 3) := by decide +kernel
theorem zd_O_set_9 : decode zb_O_set 9 = .ok (.iload_n 2, 1) := by decide +kernel
theorem zd_O_set_10 : decode zb_O_set 10 = .ok (.getstatic 271, 3) := by decide +kernel
theorem zd_O_set_13 : decode zb_O_set 13 = .ok (.iload_n 1, 1) := by decide +kernel
theorem zd_O_set_14 : decode zb_O_set 14 = .ok (.iaload, 1) := by decide +kernel
theorem zd_O_set_15 : decode zb_O_set 15 = .ok (.if_icmp .lt 12, 3) := by decide +kernel
theorem zd_O_set_18 : decode zb_O_set 18 = .ok (.iload_n 2, 1) := by decide +kernel
theorem zd_O_set_19 : decode zb_O_set 19 = .ok (.getstatic 274, 3) := by decide +kernel
theorem zd_O_set_22 : decode zb_O_set 22 = .ok (.iload_n 1, 1) := by decide +kernel
theorem zd_O_set_23 : decode zb_O_set 23 = .ok (.iaload, 1) := by decide +kernel
theorem zd_O_set_24 : decode zb_O_set 24 = .ok (.if_icmp .le 5, 3) := by decide +kernel
theorem zd_O_set_27 : decode zb_O_set 27 = .ok (.iconst (-1), 1) := by decide +kernel
theorem zd_O_set_28 : decode zb_O_set 28 = .ok (.ireturn, 1) := by decide +kernel
theorem zd_O_set_29 : decode zb_O_set 29 = .ok (.aload_n 0, 1) := by decide +kernel
theorem zd_O_set_30 : decode zb_O_set 30 = .ok (.getfield 16, 3) := by decide +kernel
theorem zd_O_set_33 : decode zb_O_set 33 = .ok (.getfield 277, 3) := by decide +kernel
theorem zd_O_set_36 : decode zb_O_set 36 = .ok (.iload_n 1, 1) := by decide +kernel
theorem zd_O_set_37 : decode zb_O_set 37 = .ok (.iaload, 1) := by decide +kernel
theorem zd_O_set_38 : decode zb_O_set 38 = .ok (.istore_n 3, 1) := by decide +kernel
theorem zd_O_set_39 : decode zb_O_set 39 = .ok (.aload_n 0, 1) := by decide +kernel
theorem zd_O_set_40 : decode zb_O_set 40 = .ok (.getfield 16, 3) := by decide +kernel
theorem zd_O_set_43 : decode zb_O_set 43 = .ok (.getfield 277, 3) := by decide +kernel
theorem zd_O_set_46 : decode zb_O_set 46 = .ok (.iload_n 1, 1) := by decide +kernel
theorem zd_O_set_47 : decode zb_O_set 47 = .ok (.iload_n 2, 1) := by decide +kernel
theorem zd_O_set_48 : decode zb_O_set 48 = .ok (.iastore, 1) := by decide +kernel
theorem zd_O_set_49 : decode zb_O_set 49 = .ok (.iload_n 3, 1) := by decide +kernel
theorem zd_O_set_50 : decode zb_O_set 50 = .ok (.ireturn, 1) := by decide +kernel

def zf_O_set (x1 : Int) (x2 : Int) (S : Sg) : Option (Int × Sg) :=
    if x1 < 0 then (some (-1, S)) else (if 4 ≤ x1 then (some (-1, S)) else (zck (0 ≤ x1 ∧ x1 < 4) <| if x2 < (zf2 (x1).toNat) then (some (-1, S)) else (if x2 ≤ (zf3 (x1).toNat) then (zlt (S 0 0 1 x1) fun v8 => zlt (zu S 0 0 1 x1 x2) fun S9 => some (v8, S9)) else (some (-1, S)))))
set_option maxHeartbeats 4000000 in
set_option maxRecDepth 100000 in
theorem zw_O_set {p : Program} {l : Launch} {e : Env} {s : State} {m : MethodId} {args : Array Value} {below : List Frame} {meth : Method} {c : Code} {B : zB} (C : CallFix p m c zb_O_set 4 s args zT "IslandOffice") (hr : meth.sig.returnType = some .int) (hlk : meth.locks = false) (hK : zK B s) (hSt : zSt B s) (hap : zAp B) {res : Int} {S9 : Sg} : ∀ (x1 : Int) (x2 : Int) (S : Sg) (nx1 : zn x1) (nx2 : zn x2), zf_O_set x1 x2 S = some (res, S9) → ∀ (H : Heap) (locs : List Loc) (ls : Array Slot), zW B S H → va_S B.2.2.2 s.heap H locs → lv_has ls 4 [(0, .ref (B.2.1 3 (0) (0))), (1, .int (zI (x1))), (2, .int (zI (x2)))] → W p l e zm_O_set s m args below meth c H locs 0 0 (MQ below (zQi B res S9) args s 0 0 B.2.2.2) (F0 m 0 ls []) := by
  intro x1 x2 S nx1 nx2 hf H locs ls hW hS hl
  unfold zf_O_set at hf
  refine lv_iload_n C.1 C.2.1 zd_O_set_0 rfl (lv_at hl 1 rfl) ?_
  refine zr_if_lt (tgt := 27) C nx1 zd_O_set_1 (by decide) (fun c1 => ?_) (fun c1 => ?_)
  · rw [if_pos c1] at hf
    refine zr_iconst C zd_O_set_27 ?_
    cases hf
    exact zre_i C hr hlk hK hW hS (znb rfl) zd_O_set_28
  · rw [if_neg c1] at hf
    refine lv_iload_n C.1 C.2.1 zd_O_set_4 rfl (lv_at hl 1 rfl) ?_
    refine zr_iconst C zd_O_set_5 ?_
    refine zr_icmp_ge (tgt := 27) C nx1 (znb rfl) zd_O_set_6 (by decide) (fun c2 => ?_) (fun c2 => ?_)
    · rw [if_pos c2] at hf
      refine zr_iconst C zd_O_set_27 ?_
      cases hf
      exact zre_i C hr hlk hK hW hS (znb rfl) zd_O_set_28
    · rw [if_neg c2] at hf
      refine lv_iload_n C.1 C.2.1 zd_O_set_9 rfl (lv_at hl 2 rfl) ?_
      refine zstat C hSt.2.1 hS zk_884 zd_O_set_10 (fun t3 ht3 => ?_)
      refine lv_iload_n C.1 C.2.1 zd_O_set_13 rfl (lv_at hl 1 rfl) ?_
      obtain ⟨h4, hf⟩ := zck_some hf
      refine zstald C ht3 hS h4 zd_O_set_14 ?_
      refine zr_icmp_lt (tgt := 27) C nx2 (zn_zf2 _) zd_O_set_15 (by decide) (fun c5 => ?_) (fun c5 => ?_)
      · rw [if_pos c5] at hf
        refine zr_iconst C zd_O_set_27 ?_
        cases hf
        exact zre_i C hr hlk hK hW hS (znb rfl) zd_O_set_28
      · rw [if_neg c5] at hf
        refine lv_iload_n C.1 C.2.1 zd_O_set_18 rfl (lv_at hl 2 rfl) ?_
        refine zstat C hSt.2.2 hS zk_886 zd_O_set_19 (fun t6 ht6 => ?_)
        refine lv_iload_n C.1 C.2.1 zd_O_set_22 rfl (lv_at hl 1 rfl) ?_
        refine zstald C ht6 hS h4 zd_O_set_23 ?_
        refine zr_icmp_le (tgt := 29) C nx2 (zn_zf3 _) zd_O_set_24 (by decide) (fun c7 => ?_) (fun c7 => ?_)
        · rw [if_pos c7] at hf
          refine lv_aload_n C.1 C.2.1 zd_O_set_29 rfl (lv_at hl 0 rfl) ?_
          refine zg_O_now (r := 0) C hK hW (zvd_3 (by decide) (by decide)) zk_492 zd_O_set_30 ?_
          refine zg_I_settings (r := 0) C hK hW (zvd_0 (by decide) (by decide)) zk_264 zd_O_set_33 ?_
          refine lv_iload_n C.1 C.2.1 zd_O_set_36 rfl (lv_at hl 1 rfl) ?_
          refine ziald C hK hW (zvd_0 (by decide) (by decide)) (fun f => ze_0_1 B f (0)) (by decide) h4 zd_O_set_37 ?_
          obtain ⟨v8, ev8, hf⟩ := zlt_some hf
          have nv8 : zn v8 := by rw [← ev8]; exact (zWn hW _ _ _ _ rfl)
          rw [ev8]
          refine lv_istore_n (lv' := [(3, .int (zI (v8))), (0, .ref (B.2.1 3 (0) (0))), (1, .int (zI (x1))), (2, .int (zI (x2)))]) C.1 C.2.1 zd_O_set_38 rfl hl (by decide) rfl (fun ls hl => ?_)
          refine lv_aload_n C.1 C.2.1 zd_O_set_39 rfl (lv_at hl 1 rfl) ?_
          refine zg_O_now (r := 0) C hK hW (zvd_3 (by decide) (by decide)) zk_492 zd_O_set_40 ?_
          refine zg_I_settings (r := 0) C hK hW (zvd_0 (by decide) (by decide)) zk_264 zd_O_set_43 ?_
          refine lv_iload_n C.1 C.2.1 zd_O_set_46 rfl (lv_at hl 2 rfl) ?_
          refine lv_iload_n C.1 C.2.1 zd_O_set_47 rfl (lv_at hl 3 rfl) ?_
          obtain ⟨S9, eS9, hf⟩ := zlt_some hf
          refine ziast C hK hap hW hS (zvd_0 (by decide) (by decide)) (fun f => ze_0_1 B f (0)) (by decide) rfl nx2 h4 zd_O_set_48 (fun H locs hW hS => ?_)
          rw [eS9] at hW
          refine lv_iload_n C.1 C.2.1 zd_O_set_49 rfl (lv_at hl 0 rfl) ?_
          cases hf
          exact zre_i C hr hlk hK hW hS nv8 zd_O_set_50
        · rw [if_neg c7] at hf
          refine zr_iconst C zd_O_set_27 ?_
          cases hf
          exact zre_i C hr hlk hK hW hS (znb rfl) zd_O_set_28

theorem zc_O_set {l : Launch} {B : zB} (hap : zAp B) (x1 : Int) (x2 : Int) (S : Sg) (nx1 : zn x1) (nx2 : zn x2) {res : Int} {S9 : Sg} (hf : zf_O_set x1 x2 S = some (res, S9)) : Met l zy_O_set (Cond.code zy_O_set zb_O_set 4 (some .int) :: zT) zm_O_set (zP B S [.ref (B.2.1 3 (0) (0)), .int (zI (x1)), .int (zI (x2))]) (zQi B res S9) 0 0 B.2.2.2 :=
  zmet (by decide) (Nat.le_of_ble_eq_true rfl) (fun p e s m args below meth c C hr hlk hK hSt hW ls hl => zw_O_set C hr hlk hK hSt hap   x1 x2 S nx1 nx2 hf _ _ _ hW va_S.rf hl)
/-! IslandOffice.isPermutation(III)Z -/
abbrev zy_O_isPermutation : MethodName := ⟨"IslandOffice", "isPermutation", "(III)Z"⟩
abbrev zb_O_isPermutation : ByteArray := prog_1_method_54_code
abbrev zm_O_isPermutation : Room := { frames := 0, cells := 0, slots := 0, locals := 0 }
theorem zq_O_isPermutation : zMs zy_O_isPermutation zb_O_isPermutation 3 (some .boolean) 3 := ⟨zk_894, zk_893, zk_1, by decide, by decide, by decide +kernel⟩
theorem zd_O_isPermutation_0 : decode zb_O_isPermutation 0 = .ok (.iconst 1, 1) := by decide +kernel
theorem zd_O_isPermutation_1 : decode zb_O_isPermutation 1 = .ok (.iload_n 0, 1) := by decide +kernel
theorem zd_O_isPermutation_2 : decode zb_O_isPermutation 2 = .ok (.ishl, 1) := by decide +kernel
theorem zd_O_isPermutation_3 : decode zb_O_isPermutation 3 = .ok (.iconst 1, 1) := by decide +kernel
theorem zd_O_isPermutation_4 : decode zb_O_isPermutation 4 = .ok (.iload_n 1, 1) := by decide +kernel
theorem zd_O_isPermutation_5 : decode zb_O_isPermutation 5 = .ok (.ishl, 1) := by decide +kernel
theorem zd_O_isPermutation_6 : decode zb_O_isPermutation 6 = .ok (.ior, 1) := by decide +kernel
theorem zd_O_isPermutation_7 : decode zb_O_isPermutation 7 = .ok (.iconst 1, 1) := by decide +kernel
theorem zd_O_isPermutation_8 : decode zb_O_isPermutation 8 = .ok (.iload_n 2, 1) := by decide +kernel
theorem zd_O_isPermutation_9 : decode zb_O_isPermutation 9 = .ok (.ishl, 1) := by decide +kernel
theorem zd_O_isPermutation_10 : decode zb_O_isPermutation 10 = .ok (.ior, 1) := by decide +kernel
theorem zd_O_isPermutation_11 : decode zb_O_isPermutation 11 = .ok (.bipush 7, 2) := by decide +kernel
theorem zd_O_isPermutation_13 : decode zb_O_isPermutation 13 = .ok (.if_icmp .ne 7, 3) := by decide +kernel
theorem zd_O_isPermutation_16 : decode zb_O_isPermutation 16 = .ok (.iconst 1, 1) := by decide +kernel
theorem zd_O_isPermutation_17 : decode zb_O_isPermutation 17 = .ok (.goto 4, 3) := by decide +kernel
theorem zd_O_isPermutation_20 : decode zb_O_isPermutation 20 = .ok (.iconst 0, 1) := by decide +kernel
theorem zd_O_isPermutation_21 : decode zb_O_isPermutation 21 = .ok (.ireturn, 1) := by decide +kernel

def zf_O_isPermutation (x0 : Int) (x1 : Int) (x2 : Int) (S : Sg) : Option (Int × Sg) :=
    if (zor (zor (zshl 1 x0) (zshl 1 x1)) (zshl 1 x2)) = 7 then (some (1, S)) else (some (0, S))
set_option maxHeartbeats 4000000 in
set_option maxRecDepth 100000 in
theorem zw_O_isPermutation {p : Program} {l : Launch} {e : Env} {s : State} {m : MethodId} {args : Array Value} {below : List Frame} {meth : Method} {c : Code} {B : zB} (C : CallFix p m c zb_O_isPermutation 3 s args zT "IslandOffice") (hr : meth.sig.returnType = some .boolean) (hlk : meth.locks = false) (hK : zK B s) (hSt : zSt B s) (hap : zAp B) {res : Int} {S9 : Sg} : ∀ (x0 : Int) (x1 : Int) (x2 : Int) (S : Sg) (nx0 : zn x0) (nx1 : zn x1) (nx2 : zn x2), zf_O_isPermutation x0 x1 x2 S = some (res, S9) → ∀ (H : Heap) (locs : List Loc) (ls : Array Slot), zW B S H → va_S B.2.2.2 s.heap H locs → lv_has ls 3 [(0, .int (zI (x0))), (1, .int (zI (x1))), (2, .int (zI (x2)))] → W p l e zm_O_isPermutation s m args below meth c H locs 0 0 (MQ below (zQi B res S9) args s 0 0 B.2.2.2) (F0 m 0 ls []) := by
  intro x0 x1 x2 S nx0 nx1 nx2 hf H locs ls hW hS hl
  unfold zf_O_isPermutation at hf
  refine zr_iconst C zd_O_isPermutation_0 ?_
  refine lv_iload_n C.1 C.2.1 zd_O_isPermutation_1 rfl (lv_at hl 0 rfl) ?_
  refine zr_ishl C zd_O_isPermutation_2 ?_
  refine zr_iconst C zd_O_isPermutation_3 ?_
  refine lv_iload_n C.1 C.2.1 zd_O_isPermutation_4 rfl (lv_at hl 1 rfl) ?_
  refine zr_ishl C zd_O_isPermutation_5 ?_
  refine zr_ior C zd_O_isPermutation_6 ?_
  refine zr_iconst C zd_O_isPermutation_7 ?_
  refine lv_iload_n C.1 C.2.1 zd_O_isPermutation_8 rfl (lv_at hl 2 rfl) ?_
  refine zr_ishl C zd_O_isPermutation_9 ?_
  refine zr_ior C zd_O_isPermutation_10 ?_
  refine zr_bipush C zd_O_isPermutation_11 (by decide) ?_
  refine zr_icmp_ne (tgt := 20) C (zn_or _ _) (znb rfl) zd_O_isPermutation_13 (by decide) (fun c1 => ?_) (fun c1 => ?_)
  · rw [if_neg c1] at hf
    refine zr_iconst C zd_O_isPermutation_20 ?_
    cases hf
    exact zre_z C hr hlk hK hW hS (znb rfl) (zb01 (by decide)) zd_O_isPermutation_21
  · rw [if_pos c1] at hf
    refine zr_iconst C zd_O_isPermutation_16 ?_
    refine lv_goto (tgt := 21) C.1 C.2.1 zd_O_isPermutation_17 (by decide) ?_
    cases hf
    exact zre_z C hr hlk hK hW hS (znb rfl) (zb01 (by decide)) zd_O_isPermutation_21

theorem zc_O_isPermutation {l : Launch} {B : zB} (hap : zAp B) (x0 : Int) (x1 : Int) (x2 : Int) (S : Sg) (nx0 : zn x0) (nx1 : zn x1) (nx2 : zn x2) {res : Int} {S9 : Sg} (hf : zf_O_isPermutation x0 x1 x2 S = some (res, S9)) : Met l zy_O_isPermutation (Cond.code zy_O_isPermutation zb_O_isPermutation 3 (some .boolean) :: zT) zm_O_isPermutation (zP B S [.int (zI (x0)), .int (zI (x1)), .int (zI (x2))]) (zQi B res S9) 0 0 B.2.2.2 :=
  zmet (by decide) (Nat.le_of_ble_eq_true rfl) (fun p e s m args below meth c C hr hlk hK hSt hW ls hl => zw_O_isPermutation C hr hlk hK hSt hap   x0 x1 x2 S nx0 nx1 nx2 hf _ _ _ hW va_S.rf hl)
/-! IslandOffice.pays(I)I -/
abbrev zy_O_pays : MethodName := ⟨"IslandOffice", "pays", "(I)I"⟩
abbrev zb_O_pays : ByteArray := prog_1_method_28_code
abbrev zm_O_pays : Room := { frames := 1, cells := 0, slots := 0, locals := 22 }
theorem zq_O_pays : zMy zy_O_pays zb_O_pays 3 (some .int) 1 := ⟨zk_891, zk_889, zk_890, zk_1, by decide, by decide, by decide +kernel⟩
theorem zd_O_pays_0 : decode zb_O_pays 0 = .ok (.iload_n 1, 1) := by decide +kernel
theorem zd_O_pays_1 : decode zb_O_pays 1 = .ok (.ifCond .lt 27, 3) := by decide +kernel
theorem zd_O_pays_4 : decode zb_O_pays 4 = .ok (.iload_n 1, 1) := by decide +kernel
theorem zd_O_pays_5 : decode zb_O_pays 5 = .ok (.bipush 27, 2) := by decide +kernel
theorem zd_O_pays_7 : decode zb_O_pays 7 = .ok (.if_icmp .ge 21, 3) := by decide +kernel
theorem zd_O_pays_10 : decode zb_O_pays 10 = .ok (.iload_n 1, 1) := by decide +kernel
theorem zd_O_pays_11 : decode zb_O_pays 11 = .ok (.iconst 3, 1) := by decide +kernel
theorem zd_O_pays_12 : decode zb_O_pays 12 = .ok (.irem, 1) := by decide +kernel
theorem zd_O_pays_13 : decode zb_O_pays 13 = .ok (.iload_n 1, 1) := by decide +kernel
theorem zd_O_pays_14 : decode zb_O_pays 14 = .ok (.iconst 3, 1) := by decide +kernel
theorem zd_O_pays_15 : decode zb_O_pays 15 = .ok (.idiv, 1) := by decide +kernel
theorem zd_O_pays_16 : decode zb_O_pays 16 = .ok (.iconst 3, 1) := by decide +kernel
theorem zd_O_pays_17 : decode zb_O_pays 17 = .ok (.irem, 1) := by decide +kernel
theorem zd_O_pays_18 : decode zb_O_pays 18 = .ok (.iload_n 1, 1) := by decide +kernel
theorem zd_O_pays_19 : decode zb_O_pays 19 = .ok (.bipush 9, 2) := by decide +kernel
theorem zd_O_pays_21 : decode zb_O_pays 21 = .ok (.idiv, 1) := by decide +kernel
theorem zd_O_pays_22 : decode zb_O_pays 22 = .ok (.invokestatic 280, 3) := by decide +kernel
theorem zd_O_pays_25 : decode zb_O_pays 25 = .ok (.ifCond .ne 5, 3) := by decide +kernel
theorem zd_O_pays_28 : decode zb_O_pays 28 = .ok (.iconst (-1), 1) := by decide +kernel
theorem zd_O_pays_29 : decode zb_O_pays 29 = .ok (.ireturn, 1) := by decide +kernel
theorem zd_O_pays_30 : decode zb_O_pays 30 = .ok (.aload_n 0, 1) := by decide +kernel
theorem zd_O_pays_31 : decode zb_O_pays 31 = .ok (.getfield 16, 3) := by decide +kernel
theorem zd_O_pays_34 : decode zb_O_pays 34 = .ok (.getfield 284, 3) := by decide +kernel
theorem zd_O_pays_37 : decode zb_O_pays 37 = .ok (.istore_n 2, 1) := by decide +kernel
theorem zd_O_pays_38 : decode zb_O_pays 38 = .ok (.aload_n 0, 1) := by decide +kernel
theorem zd_O_pays_39 : decode zb_O_pays 39 = .ok (.getfield 16, 3) := by decide +kernel
theorem zd_O_pays_42 : decode zb_O_pays 42 = .ok (.iload_n 1, 1) := by decide +kernel
theorem zd_O_pays_43 : decode zb_O_pays 43 = .ok (.putfield 284, 3) := by decide +kernel
theorem zd_O_pays_46 : decode zb_O_pays 46 = .ok (.iload_n 2, 1) := by decide +kernel
theorem zd_O_pays_47 : decode zb_O_pays 47 = .ok (.iload_n 1, 1) := by decide +kernel
theorem zd_O_pays_48 : decode zb_O_pays 48 = .ok (.if_icmp .ne 7, 3) := by decide +kernel
theorem zd_O_pays_51 : decode zb_O_pays 51 = .ok (.iconst 0, 1) := by decide +kernel
theorem zd_O_pays_52 : decode zb_O_pays 52 = .ok (.goto 4, 3) := by decide +kernel
theorem zd_O_pays_55 : decode zb_O_pays 55 = .ok (.iconst 1, 1) := by decide +kernel
theorem zd_O_pays_56 : decode zb_O_pays 56 = .ok (.ireturn, 1) := by decide +kernel

def zf_O_pays (x1 : Int) (S : Sg) : Option (Int × Sg) :=
    if x1 < 0 then (some (-1, S)) else (if 27 ≤ x1 then (some (-1, S)) else (zbd (zf_O_isPermutation (zrem x1 3) (zrem (zdiv x1 3) 3) (zdiv x1 9) S) fun a3 S4 => if a3 = 0 then (some (-1, S4)) else (zlt (S4 0 0 0 5) fun v6 => zlt (zu S4 0 0 0 5 x1) fun S7 => if v6 = x1 then (some (0, S7)) else (some (1, S7)))))
set_option maxHeartbeats 4000000 in
set_option maxRecDepth 100000 in
theorem zw_O_pays {p : Program} {l : Launch} {e : Env} {s : State} {m : MethodId} {args : Array Value} {below : List Frame} {meth : Method} {c : Code} {B : zB} (C : CallFix p m c zb_O_pays 3 s args zT "IslandOffice") (hr : meth.sig.returnType = some .int) (hlk : meth.locks = false) (hK : zK B s) (hSt : zSt B s) (hap : zAp B) {res : Int} {S9 : Sg} : ∀ (x1 : Int) (S : Sg) (nx1 : zn x1), zf_O_pays x1 S = some (res, S9) → ∀ (H : Heap) (locs : List Loc) (ls : Array Slot), zW B S H → va_S B.2.2.2 s.heap H locs → lv_has ls 3 [(0, .ref (B.2.1 3 (0) (0))), (1, .int (zI (x1)))] → W p l e zm_O_pays s m args below meth c H locs 0 0 (MQ below (zQi B res S9) args s 0 0 B.2.2.2) (F0 m 0 ls []) := by
  intro x1 S nx1 hf H locs ls hW hS hl
  unfold zf_O_pays at hf
  refine lv_iload_n C.1 C.2.1 zd_O_pays_0 rfl (lv_at hl 1 rfl) ?_
  refine zr_if_lt (tgt := 28) C nx1 zd_O_pays_1 (by decide) (fun c1 => ?_) (fun c1 => ?_)
  · rw [if_pos c1] at hf
    refine zr_iconst C zd_O_pays_28 ?_
    cases hf
    exact zre_i C hr hlk hK hW hS (znb rfl) zd_O_pays_29
  · rw [if_neg c1] at hf
    refine lv_iload_n C.1 C.2.1 zd_O_pays_4 rfl (lv_at hl 1 rfl) ?_
    refine zr_bipush C zd_O_pays_5 (by decide) ?_
    refine zr_icmp_ge (tgt := 28) C nx1 (znb rfl) zd_O_pays_7 (by decide) (fun c2 => ?_) (fun c2 => ?_)
    · rw [if_pos c2] at hf
      refine zr_iconst C zd_O_pays_28 ?_
      cases hf
      exact zre_i C hr hlk hK hW hS (znb rfl) zd_O_pays_29
    · rw [if_neg c2] at hf
      refine lv_iload_n C.1 C.2.1 zd_O_pays_10 rfl (lv_at hl 1 rfl) ?_
      refine zr_iconst C zd_O_pays_11 ?_
      refine zr_irem C nx1 (znb rfl) (by decide) zd_O_pays_12 ?_
      refine lv_iload_n C.1 C.2.1 zd_O_pays_13 rfl (lv_at hl 1 rfl) ?_
      refine zr_iconst C zd_O_pays_14 ?_
      refine zr_idiv C nx1 (znb rfl) (by decide) zd_O_pays_15 ?_
      refine zr_iconst C zd_O_pays_16 ?_
      refine zr_irem C (zn_div _ _) (znb rfl) (by decide) zd_O_pays_17 ?_
      refine lv_iload_n C.1 C.2.1 zd_O_pays_18 rfl (lv_at hl 1 rfl) ?_
      refine zr_bipush C zd_O_pays_19 (by decide) ?_
      refine zr_idiv C nx1 (znb rfl) (by decide) zd_O_pays_21 ?_
      obtain ⟨a3, S4, ea3, hf⟩ := zbd_some hf
      refine zcSi (As := [.int (zI (zrem x1 3)), .int (zI (zrem (zdiv x1 3) 3)), .int (zI (zdiv x1 9))]) (rest := []) C hK hSt hW hS (zc_O_isPermutation hap (zrem x1 3) (zrem (zdiv x1 3) 3) (zdiv x1 9) S (zn_rem _ _) (zn_rem _ _) (zn_div _ _) ea3) zq_O_isPermutation zk_892 ⟨rfl, rfl, by decide, by decide⟩ ⟨Nat.zero_le _, Nat.zero_le _⟩ rfl hl.1 rfl (lv_room (Nat.le_of_ble_eq_true rfl)) zd_O_pays_22 (fun na3 H locs hW hS => ?_)
      refine zr_if_ne (tgt := 30) C na3 zd_O_pays_25 (by decide) (fun c5 => ?_) (fun c5 => ?_)
      · rw [if_neg c5] at hf
        refine lv_aload_n C.1 C.2.1 zd_O_pays_30 rfl (lv_at hl 0 rfl) ?_
        refine zg_O_now (r := 0) C hK hW (zvd_3 (by decide) (by decide)) zk_492 zd_O_pays_31 ?_
        refine zg_I_orderOfPay (r := 0) C hK hW (zvd_0 (by decide) (by decide)) zk_258 zd_O_pays_34 ?_
        obtain ⟨v6, ev6, hf⟩ := zlt_some hf
        have nv6 : zn v6 := by rw [← ev6]; exact (zWn hW _ _ _ _ rfl)
        rw [ev6]
        refine lv_istore_n (lv' := [(2, .int (zI (v6))), (0, .ref (B.2.1 3 (0) (0))), (1, .int (zI (x1)))]) C.1 C.2.1 zd_O_pays_37 rfl hl (by decide) rfl (fun ls hl => ?_)
        refine lv_aload_n C.1 C.2.1 zd_O_pays_38 rfl (lv_at hl 1 rfl) ?_
        refine zg_O_now (r := 0) C hK hW (zvd_3 (by decide) (by decide)) zk_492 zd_O_pays_39 ?_
        refine lv_iload_n C.1 C.2.1 zd_O_pays_42 rfl (lv_at hl 2 rfl) ?_
        obtain ⟨S7, eS7, hf⟩ := zlt_some hf
        refine zp_I_orderOfPay (r := 0) C hK hap hW hS (zvd_0 (by decide) (by decide)) zk_258 nx1 zd_O_pays_43 (fun H locs hW hS => ?_)
        rw [eS7] at hW
        refine lv_iload_n C.1 C.2.1 zd_O_pays_46 rfl (lv_at hl 0 rfl) ?_
        refine lv_iload_n C.1 C.2.1 zd_O_pays_47 rfl (lv_at hl 2 rfl) ?_
        refine zr_icmp_ne (tgt := 55) C nv6 nx1 zd_O_pays_48 (by decide) (fun c8 => ?_) (fun c8 => ?_)
        · rw [if_neg c8] at hf
          refine zr_iconst C zd_O_pays_55 ?_
          cases hf
          exact zre_i C hr hlk hK hW hS (znb rfl) zd_O_pays_56
        · rw [if_pos c8] at hf
          refine zr_iconst C zd_O_pays_51 ?_
          refine lv_goto (tgt := 56) C.1 C.2.1 zd_O_pays_52 (by decide) ?_
          cases hf
          exact zre_i C hr hlk hK hW hS (znb rfl) zd_O_pays_56
      · rw [if_pos c5] at hf
        refine zr_iconst C zd_O_pays_28 ?_
        cases hf
        exact zre_i C hr hlk hK hW hS (znb rfl) zd_O_pays_29

theorem zc_O_pays {l : Launch} {B : zB} (hap : zAp B) (x1 : Int) (S : Sg) (nx1 : zn x1) {res : Int} {S9 : Sg} (hf : zf_O_pays x1 S = some (res, S9)) : Met l zy_O_pays (Cond.code zy_O_pays zb_O_pays 3 (some .int) :: zT) zm_O_pays (zP B S [.ref (B.2.1 3 (0) (0)), .int (zI (x1))]) (zQi B res S9) 0 0 B.2.2.2 :=
  zmet (by decide) (Nat.le_of_ble_eq_true rfl) (fun p e s m args below meth c C hr hlk hK hSt hW ls hl => zw_O_pays C hr hlk hK hSt hap   x1 S nx1 hf _ _ _ hW va_S.rf hl)
/-! IslandOffice.earn(I)I -/
abbrev zy_O_earn : MethodName := ⟨"IslandOffice", "earn", "(I)I"⟩
abbrev zb_O_earn : ByteArray := prog_1_method_29_code
abbrev zm_O_earn : Room := { frames := 0, cells := 0, slots := 0, locals := 0 }
theorem zq_O_earn : zMy zy_O_earn zb_O_earn 2 (some .int) 1 := ⟨zk_898, zk_896, zk_897, zk_1, by decide, by decide, by decide +kernel⟩
theorem zd_O_earn_0 : decode zb_O_earn 0 = .ok (.iload_n 1, 1) := by decide +kernel
theorem zd_O_earn_1 : decode zb_O_earn 1 = .ok (.iconst 1, 1) := by decide +kernel
theorem zd_O_earn_2 : decode zb_O_earn 2 = .ok (.if_icmp .lt 10, 3) := by decide +kernel
theorem zd_O_earn_5 : decode zb_O_earn 5 = .ok (.iload_n 1, 1) := by decide +kernel
theorem zd_O_earn_6 : decode zb_O_earn 6 = .ok (.sipush 10000, 3) := by decide +kernel
theorem zd_O_earn_9 : decode zb_O_earn 9 = .ok (.if_icmp .le 5, 3) := by decide +kernel
theorem zd_O_earn_12 : decode zb_O_earn 12 = .ok (.iconst (-1), 1) := by decide +kernel
theorem zd_O_earn_13 : decode zb_O_earn 13 = .ok (.ireturn, 1) := by decide +kernel
theorem zd_O_earn_14 : decode zb_O_earn 14 = .ok (.aload_n 0, 1) := by decide +kernel
theorem zd_O_earn_15 : decode zb_O_earn 15 = .ok (.getfield 16, 3) := by decide +kernel
theorem zd_O_earn_18 : decode zb_O_earn 18 = .ok (.getfield 287, 3) := by decide +kernel
theorem zd_O_earn_21 : decode zb_O_earn 21 = .ok (.iload_n 1, 1) := by decide +kernel
theorem zd_O_earn_22 : decode zb_O_earn 22 = .ok (.iadd, 1) := by decide +kernel
theorem zd_O_earn_23 : decode zb_O_earn 23 = .ok (.ldc_w 290, 3) := by decide +kernel
theorem zd_O_earn_26 : decode zb_O_earn 26 = .ok (.if_icmp .le 6, 3) := by decide +kernel
theorem zd_O_earn_29 : decode zb_O_earn 29 = .ok (.bipush (-2), 2) := by decide +kernel
theorem zd_O_earn_31 : decode zb_O_earn 31 = .ok (.ireturn, 1) := by decide +kernel
theorem zd_O_earn_32 : decode zb_O_earn 32 = .ok (.aload_n 0, 1) := by decide +kernel
theorem zd_O_earn_33 : decode zb_O_earn 33 = .ok (.getfield 16, 3) := by decide +kernel
theorem zd_O_earn_36 : decode zb_O_earn 36 = .ok (.dup, 1) := by decide +kernel
theorem zd_O_earn_37 : decode zb_O_earn 37 = .ok (.getfield 287, 3) := by decide +kernel
theorem zd_O_earn_40 : decode zb_O_earn 40 = .ok (.iload_n 1, 1) := by decide +kernel
theorem zd_O_earn_41 : decode zb_O_earn 41 = .ok (.iadd, 1) := by decide +kernel
theorem zd_O_earn_42 : decode zb_O_earn 42 = .ok (.putfield 287, 3) := by decide +kernel
theorem zd_O_earn_45 : decode zb_O_earn 45 = .ok (.aload_n 0, 1) := by decide +kernel
theorem zd_O_earn_46 : decode zb_O_earn 46 = .ok (.getfield 16, 3) := by decide +kernel
theorem zd_O_earn_49 : decode zb_O_earn 49 = .ok (.getfield 287, 3) := by decide +kernel
theorem zd_O_earn_52 : decode zb_O_earn 52 = .ok (.ireturn, 1) := by decide +kernel

def zf_O_earn (x1 : Int) (S : Sg) : Option (Int × Sg) :=
    if x1 < 1 then (some (-1, S)) else (if x1 ≤ 10000 then (if (zw ((S 0 0 0 1) + x1)) ≤ 1000000 then (zlt (zu S 0 0 0 1 (zw ((S 0 0 0 1) + x1))) fun S4 => some (S4 0 0 0 1, S4)) else (some (-2, S))) else (some (-1, S)))
set_option maxHeartbeats 4000000 in
set_option maxRecDepth 100000 in
theorem zw_O_earn {p : Program} {l : Launch} {e : Env} {s : State} {m : MethodId} {args : Array Value} {below : List Frame} {meth : Method} {c : Code} {B : zB} (C : CallFix p m c zb_O_earn 2 s args zT "IslandOffice") (hr : meth.sig.returnType = some .int) (hlk : meth.locks = false) (hK : zK B s) (hSt : zSt B s) (hap : zAp B) {res : Int} {S9 : Sg} : ∀ (x1 : Int) (S : Sg) (nx1 : zn x1), zf_O_earn x1 S = some (res, S9) → ∀ (H : Heap) (locs : List Loc) (ls : Array Slot), zW B S H → va_S B.2.2.2 s.heap H locs → lv_has ls 2 [(0, .ref (B.2.1 3 (0) (0))), (1, .int (zI (x1)))] → W p l e zm_O_earn s m args below meth c H locs 0 0 (MQ below (zQi B res S9) args s 0 0 B.2.2.2) (F0 m 0 ls []) := by
  intro x1 S nx1 hf H locs ls hW hS hl
  unfold zf_O_earn at hf
  refine lv_iload_n C.1 C.2.1 zd_O_earn_0 rfl (lv_at hl 1 rfl) ?_
  refine zr_iconst C zd_O_earn_1 ?_
  refine zr_icmp_lt (tgt := 12) C nx1 (znb rfl) zd_O_earn_2 (by decide) (fun c1 => ?_) (fun c1 => ?_)
  · rw [if_pos c1] at hf
    refine zr_iconst C zd_O_earn_12 ?_
    cases hf
    exact zre_i C hr hlk hK hW hS (znb rfl) zd_O_earn_13
  · rw [if_neg c1] at hf
    refine lv_iload_n C.1 C.2.1 zd_O_earn_5 rfl (lv_at hl 1 rfl) ?_
    refine zr_sipush C zd_O_earn_6 (by decide) ?_
    refine zr_icmp_le (tgt := 14) C nx1 (znb rfl) zd_O_earn_9 (by decide) (fun c2 => ?_) (fun c2 => ?_)
    · rw [if_pos c2] at hf
      refine lv_aload_n C.1 C.2.1 zd_O_earn_14 rfl (lv_at hl 0 rfl) ?_
      refine zg_O_now (r := 0) C hK hW (zvd_3 (by decide) (by decide)) zk_492 zd_O_earn_15 ?_
      refine zg_I_purse (r := 0) C hK hW (zvd_0 (by decide) (by decide)) zk_246 zd_O_earn_18 ?_
      refine lv_iload_n C.1 C.2.1 zd_O_earn_21 rfl (lv_at hl 1 rfl) ?_
      refine zr_iadd C zd_O_earn_22 ?_
      refine zr_ldcw (n := 1000000) C zk_899 (by decide) zd_O_earn_23 ?_
      refine zr_icmp_le (tgt := 32) C (zn_w _) (znb rfl) zd_O_earn_26 (by decide) (fun c3 => ?_) (fun c3 => ?_)
      · rw [if_pos c3] at hf
        refine lv_aload_n C.1 C.2.1 zd_O_earn_32 rfl (lv_at hl 0 rfl) ?_
        refine zg_O_now (r := 0) C hK hW (zvd_3 (by decide) (by decide)) zk_492 zd_O_earn_33 ?_
        refine lv_dup C.1 C.2.1 zd_O_earn_36 rfl ?_
        refine zg_I_purse (r := 0) C hK hW (zvd_0 (by decide) (by decide)) zk_246 zd_O_earn_37 ?_
        refine lv_iload_n C.1 C.2.1 zd_O_earn_40 rfl (lv_at hl 1 rfl) ?_
        refine zr_iadd C zd_O_earn_41 ?_
        obtain ⟨S4, eS4, hf⟩ := zlt_some hf
        refine zp_I_purse (r := 0) C hK hap hW hS (zvd_0 (by decide) (by decide)) zk_246 (zn_w _) zd_O_earn_42 (fun H locs hW hS => ?_)
        rw [eS4] at hW
        refine lv_aload_n C.1 C.2.1 zd_O_earn_45 rfl (lv_at hl 0 rfl) ?_
        refine zg_O_now (r := 0) C hK hW (zvd_3 (by decide) (by decide)) zk_492 zd_O_earn_46 ?_
        refine zg_I_purse (r := 0) C hK hW (zvd_0 (by decide) (by decide)) zk_246 zd_O_earn_49 ?_
        cases hf
        exact zre_i C hr hlk hK hW hS (zWn hW _ _ _ _ rfl) zd_O_earn_52
      · rw [if_neg c3] at hf
        refine zr_bipush C zd_O_earn_29 (by decide) ?_
        cases hf
        exact zre_i C hr hlk hK hW hS (znb rfl) zd_O_earn_31
    · rw [if_neg c2] at hf
      refine zr_iconst C zd_O_earn_12 ?_
      cases hf
      exact zre_i C hr hlk hK hW hS (znb rfl) zd_O_earn_13

theorem zc_O_earn {l : Launch} {B : zB} (hap : zAp B) (x1 : Int) (S : Sg) (nx1 : zn x1) {res : Int} {S9 : Sg} (hf : zf_O_earn x1 S = some (res, S9)) : Met l zy_O_earn (Cond.code zy_O_earn zb_O_earn 2 (some .int) :: zT) zm_O_earn (zP B S [.ref (B.2.1 3 (0) (0)), .int (zI (x1))]) (zQi B res S9) 0 0 B.2.2.2 :=
  zmet (by decide) (Nat.le_of_ble_eq_true rfl) (fun p e s m args below meth c C hr hlk hK hSt hW ls hl => zw_O_earn C hr hlk hK hSt hap   x1 S nx1 hf _ _ _ hW va_S.rf hl)
/-! IslandOffice$Sky.take(II[I)V -/
abbrev zy_Y_take : MethodName := ⟨"IslandOffice$Sky", "take", "(II[I)V"⟩
abbrev zb_Y_take : ByteArray := prog_11_method_3_code
abbrev zm_Y_take : Room := { frames := 1, cells := 0, slots := 0, locals := 64 }
theorem zq_Y_take : zMy zy_Y_take zb_Y_take 4 (none) 3 := ⟨zk_907, zk_905, zk_906, zk_8, by decide, by decide, by decide +kernel⟩
theorem zd_Y_take_0 : decode zb_Y_take 0 = .ok (.aload_n 0, 1) := by decide +kernel
theorem zd_Y_take_1 : decode zb_Y_take 1 = .ok (.iload_n 1, 1) := by decide +kernel
theorem zd_Y_take_2 : decode zb_Y_take 2 = .ok (.putfield 9, 3) := by decide +kernel
theorem zd_Y_take_5 : decode zb_Y_take 5 = .ok (.aload_n 0, 1) := by decide +kernel
theorem zd_Y_take_6 : decode zb_Y_take 6 = .ok (.iconst 0, 1) := by decide +kernel
theorem zd_Y_take_7 : decode zb_Y_take 7 = .ok (.bipush 120, 2) := by decide +kernel
theorem zd_Y_take_9 : decode zb_Y_take 9 = .ok (.iload_n 2, 1) := by decide +kernel
theorem zd_Y_take_10 : decode zb_Y_take 10 = .ok (.invokestatic 26, 3) := by decide +kernel
theorem zd_Y_take_13 : decode zb_Y_take 13 = .ok (.invokestatic 32, 3) := by decide +kernel
theorem zd_Y_take_16 : decode zb_Y_take 16 = .ok (.putfield 15, 3) := by decide +kernel
theorem zd_Y_take_19 : decode zb_Y_take 19 = .ok (.aload_n 3, 1) := by decide +kernel
theorem zd_Y_take_20 : decode zb_Y_take 20 = .ok (.iconst 0, 1) := by decide +kernel
theorem zd_Y_take_21 : decode zb_Y_take 21 = .ok (.aload_n 0, 1) := by decide +kernel
theorem zd_Y_take_22 : decode zb_Y_take 22 = .ok (.getfield 18, 3) := by decide +kernel
theorem zd_Y_take_25 : decode zb_Y_take 25 = .ok (.iconst 0, 1) := by decide +kernel
theorem zd_Y_take_26 : decode zb_Y_take 26 = .ok (.aload_n 0, 1) := by decide +kernel
theorem zd_Y_take_27 : decode zb_Y_take 27 = .ok (.getfield 15, 3) := by decide +kernel
theorem zd_Y_take_30 : decode zb_Y_take 30 = .ok (.invokestatic 35, 3) := by decide +kernel
theorem zd_Y_take_33 : decode zb_Y_take 33 = .ok (.return_, 1) := by decide +kernel

def zf_Y_take (r0 : Int) (k0 : Int) (g3 : Nat) (r3 : Int) (k3 : Int) (n3 : Nat) (x1 : Int) (x2 : Int) (S : Sg) : Option (Int × Sg) :=
    zlt (zu S 13 r0 k0 0 x1) fun S1 => zlt (zu S1 13 r0 k0 1 (max 0 (min 120 x2))) fun S2 => zck ((0 : Int) ≤ 0 ∧ (0 : Int) ≤ 0 ∧ (0 : Int) ≤ (S2 13 r0 k0 1) ∧ (0 + (S2 13 r0 k0 1) : Int) ≤ (n3 : Int) ∧ (0 + (S2 13 r0 k0 1) : Int) ≤ 120) <| zlt (zcp S2 g3 r3 k3 0 14 r0 k0 0 (S2 13 r0 k0 1)) fun S4 => some (0, S4)
set_option maxHeartbeats 4000000 in
set_option maxRecDepth 100000 in
theorem zw_Y_take {p : Program} {l : Launch} {e : Env} {s : State} {m : MethodId} {args : Array Value} {below : List Frame} {meth : Method} {c : Code} {B : zB} (C : CallFix p m c zb_Y_take 4 s args zT "IslandOffice$Sky") (hr : meth.sig.returnType = none) (hlk : meth.locks = false) (hK : zK B s) (hSt : zSt B s) (hap : zAp B) (r0 : Int) (k0 : Int) (g3 : Nat) (r3 : Int) (k3 : Int) (n3 : Nat) (hr0 : 0 ≤ r0 ∧ r0 < 3) (hk0 : 0 ≤ k0 ∧ k0 < 2) (hv3 : zvd g3 r3 k3) (he3 : ∀ f, zce B f g3 r3 k3 = .inl (B.2.2.1 0, n3, .inl (fun j : Nat => zI (f (j : Int))))) (hn3 : n3 ≤ 65536) (hg3 : (decide (20 ≤ g3)) = false) {res : Int} {S9 : Sg} : ∀ (x1 : Int) (x2 : Int) (S : Sg) (nx1 : zn x1) (nx2 : zn x2), zf_Y_take r0 k0 g3 r3 k3 n3 x1 x2 S = some (res, S9) → ∀ (H : Heap) (locs : List Loc) (ls : Array Slot), zW B S H → va_S B.2.2.2 s.heap H locs → lv_has ls 4 [(0, .ref (B.2.1 13 (r0) (k0))), (1, .int (zI (x1))), (2, .int (zI (x2))), (3, .ref (B.2.1 g3 (r3) (k3)))] → W p l e zm_Y_take s m args below meth c H locs 0 0 (MQ below (zQv B S9) args s 0 0 B.2.2.2) (F0 m 0 ls []) := by
  intro x1 x2 S nx1 nx2 hf H locs ls hW hS hl
  unfold zf_Y_take at hf
  refine lv_aload_n C.1 C.2.1 zd_Y_take_0 rfl (lv_at hl 0 rfl) ?_
  refine lv_iload_n C.1 C.2.1 zd_Y_take_1 rfl (lv_at hl 1 rfl) ?_
  obtain ⟨S1, eS1, hf⟩ := zlt_some hf
  refine zp_Y_sort (r := r0) (k := k0) C hK hap hW hS (zvd_13 hr0 hk0) zk_229 nx1 zd_Y_take_2 (fun H locs hW hS => ?_)
  rw [eS1] at hW
  refine lv_aload_n C.1 C.2.1 zd_Y_take_5 rfl (lv_at hl 0 rfl) ?_
  refine zr_iconst C zd_Y_take_6 ?_
  refine zr_bipush C zd_Y_take_7 (by decide) ?_
  refine lv_iload_n C.1 C.2.1 zd_Y_take_9 rfl (lv_at hl 2 rfl) ?_
  refine zr_min C hl.1 (znb rfl) nx2 zk_908 zk_909 zk_16 zk_910 (by decide) (Nat.le_of_ble_eq_true rfl) ⟨by decide, by decide⟩ zd_Y_take_10 ?_
  refine zr_max C hl.1 (znb rfl) (zn_min (znb rfl) nx2) zk_911 zk_678 zk_16 zk_679 (by decide) (Nat.le_of_ble_eq_true rfl) ⟨by decide, by decide⟩ zd_Y_take_13 ?_
  obtain ⟨S2, eS2, hf⟩ := zlt_some hf
  refine zp_Y_size (r := r0) (k := k0) C hK hap hW hS (zvd_13 hr0 hk0) zk_230 (zn_max (znb rfl) (zn_min (znb rfl) nx2)) zd_Y_take_16 (fun H locs hW hS => ?_)
  rw [eS2] at hW
  refine lv_aload_n C.1 C.2.1 zd_Y_take_19 rfl (lv_at hl 3 rfl) ?_
  refine zr_iconst C zd_Y_take_20 ?_
  refine lv_aload_n C.1 C.2.1 zd_Y_take_21 rfl (lv_at hl 0 rfl) ?_
  refine zg_Y_cell (r := r0) (k := k0) C hK hW (zvd_13 hr0 hk0) zk_231 zd_Y_take_22 ?_
  refine zr_iconst C zd_Y_take_25 ?_
  refine lv_aload_n C.1 C.2.1 zd_Y_take_26 rfl (lv_at hl 0 rfl) ?_
  refine zg_Y_size (r := r0) (k := k0) C hK hW (zvd_13 hr0 hk0) zk_230 zd_Y_take_27 ?_
  obtain ⟨h3, hf⟩ := zck_some hf
  obtain ⟨S4, eS4, hf⟩ := zlt_some hf
  refine zcopy C hK hap hW hS hl.1 hv3 (zvd_14 hr0 hk0) he3 (fun f => ze_14 B f (r0) (k0)) hn3 (by decide) hg3 rfl h3 zk_912 zk_735 zk_734 zk_18 (by decide) (Nat.le_of_ble_eq_true rfl) zd_Y_take_30 (fun H locs hW hS => ?_)
  rw [eS4] at hW
  cases hf
  exact zre_v C hr hlk hK hW hS zd_Y_take_33

theorem zc_Y_take {l : Launch} {B : zB} (hap : zAp B) (r0 : Int) (k0 : Int) (g3 : Nat) (r3 : Int) (k3 : Int) (n3 : Nat) (hr0 : 0 ≤ r0 ∧ r0 < 3) (hk0 : 0 ≤ k0 ∧ k0 < 2) (hv3 : zvd g3 r3 k3) (he3 : ∀ f, zce B f g3 r3 k3 = .inl (B.2.2.1 0, n3, .inl (fun j : Nat => zI (f (j : Int))))) (hn3 : n3 ≤ 65536) (hg3 : (decide (20 ≤ g3)) = false) (x1 : Int) (x2 : Int) (S : Sg) (nx1 : zn x1) (nx2 : zn x2) {res : Int} {S9 : Sg} (hf : zf_Y_take r0 k0 g3 r3 k3 n3 x1 x2 S = some (res, S9)) : Met l zy_Y_take (Cond.code zy_Y_take zb_Y_take 4 (none) :: zT) zm_Y_take (zP B S [.ref (B.2.1 13 (r0) (k0)), .int (zI (x1)), .int (zI (x2)), .ref (B.2.1 g3 (r3) (k3))]) (zQv B S9) 0 0 B.2.2.2 :=
  zmet (by decide) (Nat.le_of_ble_eq_true rfl) (fun p e s m args below meth c C hr hlk hK hSt hW ls hl => zw_Y_take C hr hlk hK hSt hap r0 k0 g3 r3 k3 n3 hr0 hk0 hv3 he3 hn3 hg3 x1 x2 S nx1 nx2 hf _ _ _ hW va_S.rf hl)
/-! IslandOffice.weather(IZ)I -/
abbrev zy_O_weather : MethodName := ⟨"IslandOffice", "weather", "(IZ)I"⟩
abbrev zb_O_weather : ByteArray := prog_1_method_30_code
abbrev zm_O_weather : Room := { frames := 2, cells := 0, slots := 0, locals := 87 }
theorem zq_O_weather : zMy zy_O_weather zb_O_weather 5 (some .int) 2 := ⟨zk_903, zk_901, zk_902, zk_1, by decide, by decide, by decide +kernel⟩
theorem zd_O_weather_0 : decode zb_O_weather 0 = .ok (.iload_n 1, 1) := by decide +kernel
theorem zd_O_weather_1 : decode zb_O_weather 1 = .ok (.invokestatic 151, 3) := by decide +kernel
theorem zd_O_weather_4 : decode zb_O_weather 4 = .ok (.ifCond .ne 5, 3) := by decide +kernel
theorem zd_O_weather_7 : decode zb_O_weather 7 = .ok (.iconst (-1), 1) := by decide +kernel
theorem zd_O_weather_8 : decode zb_O_weather 8 = .ok (.ireturn, 1) := by decide +kernel
theorem zd_O_weather_9 : decode zb_O_weather 9 = .ok (.aload_n 0, 1) := by decide +kernel
theorem zd_O_weather_10 : decode zb_O_weather 10 = .ok (.getfield 36, 3) := by decide +kernel
theorem zd_O_weather_13 : decode zb_O_weather 13 = .ok (.iload_n 1, 1) := by decide +kernel
theorem zd_O_weather_14 : decode zb_O_weather 14 = .ok (.aaload, 1) := by decide +kernel
theorem zd_O_weather_15 : decode zb_O_weather 15 = .ok (.astore_n 3, 1) := by decide +kernel
theorem zd_O_weather_16 : decode zb_O_weather 16 = .ok (.aload_n 3, 1) := by decide +kernel
theorem zd_O_weather_17 : decode zb_O_weather 17 = .ok (.getfield 154, 3) := by decide +kernel
theorem zd_O_weather_20 : decode zb_O_weather 20 = .ok (.ifCond .ne 6, 3) := by decide +kernel
theorem zd_O_weather_23 : decode zb_O_weather 23 = .ok (.bipush (-11), 2) := by decide +kernel
theorem zd_O_weather_25 : decode zb_O_weather 25 = .ok (.ireturn, 1) := by decide +kernel
theorem zd_O_weather_26 : decode zb_O_weather 26 = .ok (.aload_n 3, 1) := by decide +kernel
theorem zd_O_weather_27 : decode zb_O_weather 27 = .ok (.getfield 154, 3) := by decide +kernel
theorem zd_O_weather_30 : decode zb_O_weather 30 = .ok (.iconst 3, 1) := by decide +kernel
theorem zd_O_weather_31 : decode zb_O_weather 31 = .ok (.if_icmp .eq 6, 3) := by decide +kernel
theorem zd_O_weather_34 : decode zb_O_weather 34 = .ok (.bipush (-12), 2) := by decide +kernel
theorem zd_O_weather_36 : decode zb_O_weather 36 = .ok (.ireturn, 1) := by decide +kernel
theorem zd_O_weather_37 : decode zb_O_weather 37 = .ok (.iload_n 2, 1) := by decide +kernel
theorem zd_O_weather_38 : decode zb_O_weather 38 = .ok (.ifCond .eq 13, 3) := by decide +kernel
theorem zd_O_weather_41 : decode zb_O_weather 41 = .ok (.aload_n 0, 1) := by decide +kernel
theorem zd_O_weather_42 : decode zb_O_weather 42 = .ok (.getfield 16, 3) := by decide +kernel
theorem zd_O_weather_45 : decode zb_O_weather 45 = .ok (.getfield 291, 3) := by decide +kernel
theorem zd_O_weather_48 : decode zb_O_weather 48 = .ok (.goto 10, 3) := by decide +kernel
theorem zd_O_weather_51 : decode zb_O_weather 51 = .ok (.aload_n 0, 1) := by decide +kernel
theorem zd_O_weather_52 : decode zb_O_weather 52 = .ok (.getfield 16, 3) := by decide +kernel
theorem zd_O_weather_55 : decode zb_O_weather 55 = .ok (.getfield 295, 3) := by decide +kernel
theorem zd_O_weather_58 : decode zb_O_weather 58 = .ok (.astore 4, 2) := by decide +kernel
theorem zd_O_weather_60 : decode zb_O_weather 60 = .ok (.aload 4, 2) := by decide +kernel
theorem zd_O_weather_62 : decode zb_O_weather 62 = .ok (.aload_n 3, 1) := by decide +kernel
theorem zd_O_weather_63 : decode zb_O_weather 63 = .ok (.getfield 298, 3) := by decide +kernel
theorem zd_O_weather_66 : decode zb_O_weather 66 = .ok (.aload_n 3, 1) := by decide +kernel
theorem zd_O_weather_67 : decode zb_O_weather 67 = .ok (.getfield 164, 3) := by decide +kernel
theorem zd_O_weather_70 : decode zb_O_weather 70 = .ok (.aload_n 3, 1) := by decide +kernel
theorem zd_O_weather_71 : decode zb_O_weather 71 = .ok (.getfield 161, 3) := by decide +kernel
theorem zd_O_weather_74 : decode zb_O_weather 74 = .ok (.invokevirtual 301, 3) := by decide +kernel
theorem zd_O_weather_77 : decode zb_O_weather 77 = .ok (.aload_n 3, 1) := by decide +kernel
theorem zd_O_weather_78 : decode zb_O_weather 78 = .ok (.getfield 164, 3) := by decide +kernel
theorem zd_O_weather_81 : decode zb_O_weather 81 = .ok (.ireturn, 1) := by decide +kernel

def zf_O_weather (x1 : Int) (x2 : Int) (S : Sg) : Option (Int × Sg) :=
    zbd (zf_O_isShelf x1 S) fun a1 S2 => if a1 = 0 then (some (-1, S2)) else (zck (0 ≤ x1 ∧ x1 < 8) <| if (S2 2 x1 0 0) = 0 then (some (-11, S2)) else (if (S2 2 x1 0 0) = 3 then (if x2 = 0 then (zbd (zf_Y_take (0) (0) 2 (x1) (1) 120 (S2 2 x1 0 4) (S2 2 x1 0 5) S2) fun a8 S9 => some (S9 2 x1 0 5, S9)) else (zbd (zf_Y_take (0) (1) 2 (x1) (1) 120 (S2 2 x1 0 4) (S2 2 x1 0 5) S2) fun a10 S11 => some (S11 2 x1 0 5, S11))) else (some (-12, S2))))
set_option maxHeartbeats 4000000 in
set_option maxRecDepth 100000 in
theorem zw_O_weather {p : Program} {l : Launch} {e : Env} {s : State} {m : MethodId} {args : Array Value} {below : List Frame} {meth : Method} {c : Code} {B : zB} (C : CallFix p m c zb_O_weather 5 s args zT "IslandOffice") (hr : meth.sig.returnType = some .int) (hlk : meth.locks = false) (hK : zK B s) (hSt : zSt B s) (hap : zAp B) {res : Int} {S9 : Sg} : ∀ (x1 : Int) (x2 : Int) (S : Sg) (nx1 : zn x1) (nx2 : zn x2), zf_O_weather x1 x2 S = some (res, S9) → ∀ (H : Heap) (locs : List Loc) (ls : Array Slot), zW B S H → va_S B.2.2.2 s.heap H locs → lv_has ls 5 [(0, .ref (B.2.1 3 (0) (0))), (1, .int (zI (x1))), (2, .int (zI (x2)))] → W p l e zm_O_weather s m args below meth c H locs 0 0 (MQ below (zQi B res S9) args s 0 0 B.2.2.2) (F0 m 0 ls []) := by
  intro x1 x2 S nx1 nx2 hf H locs ls hW hS hl
  unfold zf_O_weather at hf
  refine lv_iload_n C.1 C.2.1 zd_O_weather_0 rfl (lv_at hl 1 rfl) ?_
  obtain ⟨a1, S2, ea1, hf⟩ := zbd_some hf
  refine zcSi (As := [.int (zI (x1))]) (rest := []) C hK hSt hW hS (zc_O_isShelf hap x1 S nx1 ea1) zq_O_isShelf zk_612 ⟨rfl, rfl, by decide, by decide⟩ ⟨Nat.zero_le _, Nat.zero_le _⟩ rfl hl.1 rfl (lv_room (Nat.le_of_ble_eq_true rfl)) zd_O_weather_1 (fun na1 H locs hW hS => ?_)
  refine zr_if_ne (tgt := 9) C na1 zd_O_weather_4 (by decide) (fun c3 => ?_) (fun c3 => ?_)
  · rw [if_neg c3] at hf
    refine lv_aload_n C.1 C.2.1 zd_O_weather_9 rfl (lv_at hl 0 rfl) ?_
    refine zg_O_shelves (r := 0) C hK hW (zvd_3 (by decide) (by decide)) zk_497 zd_O_weather_10 ?_
    refine lv_iload_n C.1 C.2.1 zd_O_weather_13 rfl (lv_at hl 1 rfl) ?_
    obtain ⟨h4, hf⟩ := zck_some hf
    refine zaald (t0 := 3) C hK hW (zvd_3 (by decide) (by decide)) (fun f => ze_3_3 B f (0)) rfl rfl (by decide) h4 zd_O_weather_14 (a := B.2.1 2 (x1) (0)) (by rw [Int.toNat_of_nonneg h4.1]) ?_
    refine lv_astore_n (lv' := [(3, .ref (B.2.1 2 (x1) (0))), (0, .ref (B.2.1 3 (0) (0))), (1, .int (zI (x1))), (2, .int (zI (x2)))]) C.1 C.2.1 zd_O_weather_15 rfl hl (by decide) rfl (fun ls hl => ?_)
    refine lv_aload_n C.1 C.2.1 zd_O_weather_16 rfl (lv_at hl 0 rfl) ?_
    refine zg_S_holds (r := x1) C hK hW (zvd_2 h4 (by decide)) zk_344 zd_O_weather_17 ?_
    refine zr_if_ne (tgt := 26) C (zWn hW _ _ _ _ rfl) zd_O_weather_20 (by decide) (fun c5 => ?_) (fun c5 => ?_)
    · rw [if_neg c5] at hf
      refine lv_aload_n C.1 C.2.1 zd_O_weather_26 rfl (lv_at hl 0 rfl) ?_
      refine zg_S_holds (r := x1) C hK hW (zvd_2 h4 (by decide)) zk_344 zd_O_weather_27 ?_
      refine zr_iconst C zd_O_weather_30 ?_
      refine zr_icmp_eq (tgt := 37) C (zWn hW _ _ _ _ rfl) (znb rfl) zd_O_weather_31 (by decide) (fun c6 => ?_) (fun c6 => ?_)
      · rw [if_pos c6] at hf
        refine lv_iload_n C.1 C.2.1 zd_O_weather_37 rfl (lv_at hl 3 rfl) ?_
        refine zr_if_eq (tgt := 51) C nx2 zd_O_weather_38 (by decide) (fun c7 => ?_) (fun c7 => ?_)
        · rw [if_pos c7] at hf
          refine lv_aload_n C.1 C.2.1 zd_O_weather_51 rfl (lv_at hl 1 rfl) ?_
          refine zg_O_now (r := 0) C hK hW (zvd_3 (by decide) (by decide)) zk_492 zd_O_weather_52 ?_
          refine zg_I_weather (r := 0) C hK hW (zvd_0 (by decide) (by decide)) zk_295 zd_O_weather_55 ?_
          refine lv_astore (lv' := [(4, .ref (B.2.1 13 (0) (0))), (3, .ref (B.2.1 2 (x1) (0))), (0, .ref (B.2.1 3 (0) (0))), (1, .int (zI (x1))), (2, .int (zI (x2)))]) C.1 C.2.1 zd_O_weather_58 hl (by decide) rfl (fun ls hl => ?_)
          refine lv_aload C.1 C.2.1 zd_O_weather_60 (lv_at hl 0 rfl) ?_
          refine lv_aload_n C.1 C.2.1 zd_O_weather_62 rfl (lv_at hl 1 rfl) ?_
          refine zg_S_sort (r := x1) C hK hW (zvd_2 h4 (by decide)) zk_352 zd_O_weather_63 ?_
          refine lv_aload_n C.1 C.2.1 zd_O_weather_66 rfl (lv_at hl 1 rfl) ?_
          refine zg_S_size (r := x1) C hK hW (zvd_2 h4 (by decide)) zk_354 zd_O_weather_67 ?_
          refine lv_aload_n C.1 C.2.1 zd_O_weather_70 rfl (lv_at hl 1 rfl) ?_
          refine zg_S_cell (r := x1) C hK hW (zvd_2 h4 (by decide)) zk_356 zd_O_weather_71 ?_
          obtain ⟨a8, S9, ea8, hf⟩ := zbd_some hf
          refine zcVv (As := [.int (zI (S2 2 x1 0 4)), .int (zI (S2 2 x1 0 5)), .ref (B.2.1 2 (x1) (1))]) (rest := []) C hK hSt hW hS (zc_Y_take hap (0) (0) 2 (x1) (1) 120 (by decide) (by decide) (zvd_2 h4 (by decide)) (fun f => ze_2_1 B f (x1)) (by decide) rfl (S2 2 x1 0 4) (S2 2 x1 0 5) S2 (zWn hW _ _ _ _ rfl) (zWn hW _ _ _ _ rfl) ea8) zq_Y_take zk_904 (zrecv hK hW (zvd_13 (by decide) (by decide)) (ze_13 B _ (0) (0)) rfl) ⟨rfl, rfl, by decide, by decide⟩ ⟨Nat.zero_le _, Nat.zero_le _⟩ rfl hl.1 rfl (lv_room (Nat.le_of_ble_eq_true rfl)) zd_O_weather_74 (fun H locs hW hS => ?_)
          refine lv_aload_n C.1 C.2.1 zd_O_weather_77 rfl (lv_at hl 1 rfl) ?_
          refine zg_S_size (r := x1) C hK hW (zvd_2 h4 (by decide)) zk_354 zd_O_weather_78 ?_
          cases hf
          exact zre_i C hr hlk hK hW hS (zWn hW _ _ _ _ rfl) zd_O_weather_81
        · rw [if_neg c7] at hf
          refine lv_aload_n C.1 C.2.1 zd_O_weather_41 rfl (lv_at hl 1 rfl) ?_
          refine zg_O_now (r := 0) C hK hW (zvd_3 (by decide) (by decide)) zk_492 zd_O_weather_42 ?_
          refine zg_I_rain (r := 0) C hK hW (zvd_0 (by decide) (by decide)) zk_298 zd_O_weather_45 ?_
          refine lv_goto (tgt := 58) C.1 C.2.1 zd_O_weather_48 (by decide) ?_
          refine lv_astore (lv' := [(4, .ref (B.2.1 13 (0) (1))), (3, .ref (B.2.1 2 (x1) (0))), (0, .ref (B.2.1 3 (0) (0))), (1, .int (zI (x1))), (2, .int (zI (x2)))]) C.1 C.2.1 zd_O_weather_58 hl (by decide) rfl (fun ls hl => ?_)
          refine lv_aload C.1 C.2.1 zd_O_weather_60 (lv_at hl 0 rfl) ?_
          refine lv_aload_n C.1 C.2.1 zd_O_weather_62 rfl (lv_at hl 1 rfl) ?_
          refine zg_S_sort (r := x1) C hK hW (zvd_2 h4 (by decide)) zk_352 zd_O_weather_63 ?_
          refine lv_aload_n C.1 C.2.1 zd_O_weather_66 rfl (lv_at hl 1 rfl) ?_
          refine zg_S_size (r := x1) C hK hW (zvd_2 h4 (by decide)) zk_354 zd_O_weather_67 ?_
          refine lv_aload_n C.1 C.2.1 zd_O_weather_70 rfl (lv_at hl 1 rfl) ?_
          refine zg_S_cell (r := x1) C hK hW (zvd_2 h4 (by decide)) zk_356 zd_O_weather_71 ?_
          obtain ⟨a10, S11, ea10, hf⟩ := zbd_some hf
          refine zcVv (As := [.int (zI (S2 2 x1 0 4)), .int (zI (S2 2 x1 0 5)), .ref (B.2.1 2 (x1) (1))]) (rest := []) C hK hSt hW hS (zc_Y_take hap (0) (1) 2 (x1) (1) 120 (by decide) (by decide) (zvd_2 h4 (by decide)) (fun f => ze_2_1 B f (x1)) (by decide) rfl (S2 2 x1 0 4) (S2 2 x1 0 5) S2 (zWn hW _ _ _ _ rfl) (zWn hW _ _ _ _ rfl) ea10) zq_Y_take zk_904 (zrecv hK hW (zvd_13 (by decide) (by decide)) (ze_13 B _ (0) (1)) rfl) ⟨rfl, rfl, by decide, by decide⟩ ⟨Nat.zero_le _, Nat.zero_le _⟩ rfl hl.1 rfl (lv_room (Nat.le_of_ble_eq_true rfl)) zd_O_weather_74 (fun H locs hW hS => ?_)
          refine lv_aload_n C.1 C.2.1 zd_O_weather_77 rfl (lv_at hl 1 rfl) ?_
          refine zg_S_size (r := x1) C hK hW (zvd_2 h4 (by decide)) zk_354 zd_O_weather_78 ?_
          cases hf
          exact zre_i C hr hlk hK hW hS (zWn hW _ _ _ _ rfl) zd_O_weather_81
      · rw [if_neg c6] at hf
        refine zr_bipush C zd_O_weather_34 (by decide) ?_
        cases hf
        exact zre_i C hr hlk hK hW hS (znb rfl) zd_O_weather_36
    · rw [if_pos c5] at hf
      refine zr_bipush C zd_O_weather_23 (by decide) ?_
      cases hf
      exact zre_i C hr hlk hK hW hS (znb rfl) zd_O_weather_25
  · rw [if_pos c3] at hf
    refine zr_iconst C zd_O_weather_7 ?_
    cases hf
    exact zre_i C hr hlk hK hW hS (znb rfl) zd_O_weather_8

theorem zc_O_weather {l : Launch} {B : zB} (hap : zAp B) (x1 : Int) (x2 : Int) (S : Sg) (nx1 : zn x1) (nx2 : zn x2) {res : Int} {S9 : Sg} (hf : zf_O_weather x1 x2 S = some (res, S9)) : Met l zy_O_weather (Cond.code zy_O_weather zb_O_weather 5 (some .int) :: zT) zm_O_weather (zP B S [.ref (B.2.1 3 (0) (0)), .int (zI (x1)), .int (zI (x2))]) (zQi B res S9) 0 0 B.2.2.2 :=
  zmet (by decide) (Nat.le_of_ble_eq_true rfl) (fun p e s m args below meth c C hr hlk hK hSt hW ls hl => zw_O_weather C hr hlk hK hSt hap   x1 x2 S nx1 nx2 hf _ _ _ hW va_S.rf hl)
/-! IslandOffice$Sky.isMissing(I)Z -/
abbrev zy_Y_isMissing : MethodName := ⟨"IslandOffice$Sky", "isMissing", "(I)Z"⟩
abbrev zb_Y_isMissing : ByteArray := prog_11_method_5_code
abbrev zm_Y_isMissing : Room := { frames := 0, cells := 0, slots := 0, locals := 0 }
theorem zq_Y_isMissing : zMy zy_Y_isMissing zb_Y_isMissing 3 (some .boolean) 1 := ⟨zk_924, zk_923, zs_26, zk_8, by decide, by decide, by decide +kernel⟩
theorem zd_Y_isMissing_0 : decode zb_Y_isMissing 0 = .ok (.aload_n 0, 1) := by decide +kernel
theorem zd_Y_isMissing_1 : decode zb_Y_isMissing 1 = .ok (.getfield 9, 3) := by decide +kernel
theorem zd_Y_isMissing_4 : decode zb_Y_isMissing 4 = .ok (.ifCond .ne 8, 3) := by decide +kernel
theorem zd_Y_isMissing_7 : decode zb_Y_isMissing 7 = .ok (.bipush (-128), 2) := by decide +kernel
theorem zd_Y_isMissing_9 : decode zb_Y_isMissing 9 = .ok (.goto 19, 3) := by decide +kernel
theorem zd_Y_isMissing_12 : decode zb_Y_isMissing 12 = .ok (.aload_n 0, 1) := by decide +kernel
theorem zd_Y_isMissing_13 : decode zb_Y_isMissing 13 = .ok (.getfield 9, 3) := by decide +kernel
theorem zd_Y_isMissing_16 : decode zb_Y_isMissing 16 = .ok (.iconst 1, 1) := by decide +kernel
theorem zd_Y_isMissing_17 : decode zb_Y_isMissing 17 = .ok (.if_icmp .ne 9, 3) := by decide +kernel
theorem zd_Y_isMissing_20 : decode zb_Y_isMissing 20 = .ok (.sipush (-32768), 3) := by decide +kernel
theorem zd_Y_isMissing_23 : decode zb_Y_isMissing 23 = .ok (.goto 5, 3) := by decide +kernel
theorem zd_Y_isMissing_26 : decode zb_Y_isMissing 26 = .ok (.ldc 49, 2) := by decide +kernel
theorem zd_Y_isMissing_28 : decode zb_Y_isMissing 28 = .ok (.istore_n 2, 1) := by decide +kernel
theorem zd_Y_isMissing_29 : decode zb_Y_isMissing 29 = .ok (.aload_n 0, 1) := by decide +kernel
theorem zd_Y_isMissing_30 : decode zb_Y_isMissing 30 = .ok (.getfield 18, 3) := by decide +kernel
theorem zd_Y_isMissing_33 : decode zb_Y_isMissing 33 = .ok (.iload_n 1, 1) := by decide +kernel
theorem zd_Y_isMissing_34 : decode zb_Y_isMissing 34 = .ok (.iaload, 1) := by decide +kernel
theorem zd_Y_isMissing_35 : decode zb_Y_isMissing 35 = .ok (.iload_n 2, 1) := by decide +kernel
theorem zd_Y_isMissing_36 : decode zb_Y_isMissing 36 = .ok (.if_icmp .ne 7, 3) := by decide +kernel
theorem zd_Y_isMissing_39 : decode zb_Y_isMissing 39 = .ok (.iconst 1, 1) := by decide +kernel
theorem zd_Y_isMissing_40 : decode zb_Y_isMissing 40 = .ok (.goto 4, 3) := by decide +kernel
theorem zd_Y_isMissing_43 : decode zb_Y_isMissing 43 = .ok (.iconst 0, 1) := by decide +kernel
theorem zd_Y_isMissing_44 : decode zb_Y_isMissing 44 = .ok (.ireturn, 1) := by decide +kernel

def zf_Y_isMissing_28 (r0 : Int) (k0 : Int) (x1 : Int) (xt0 : Int) (S : Sg) : Option (Int × Sg) :=
    zck (0 ≤ x1 ∧ x1 < 120) <| if (S 14 r0 k0 x1) = xt0 then (some (1, S)) else (some (0, S))
set_option maxHeartbeats 4000000 in
set_option maxRecDepth 100000 in
theorem zw_Y_isMissing_28 {p : Program} {l : Launch} {e : Env} {s : State} {m : MethodId} {args : Array Value} {below : List Frame} {meth : Method} {c : Code} {B : zB} (C : CallFix p m c zb_Y_isMissing 3 s args zT "IslandOffice$Sky") (hr : meth.sig.returnType = some .boolean) (hlk : meth.locks = false) (hK : zK B s) (hSt : zSt B s) (hap : zAp B) (r0 : Int) (k0 : Int) (hr0 : 0 ≤ r0 ∧ r0 < 3) (hk0 : 0 ≤ k0 ∧ k0 < 2) {res : Int} {S9 : Sg} : ∀ (x1 : Int) (xt0 : Int) (S : Sg) (nx1 : zn x1) (nxt0 : zn xt0), zf_Y_isMissing_28 r0 k0 x1 xt0 S = some (res, S9) → ∀ (H : Heap) (locs : List Loc) (ls : Array Slot), zW B S H → va_S B.2.2.2 s.heap H locs → lv_has ls 3 [(0, .ref (B.2.1 13 (r0) (k0))), (1, .int (zI (x1)))] → W p l e zm_Y_isMissing s m args below meth c H locs 0 0 (MQ below (zQi B res S9) args s 0 0 B.2.2.2) (F0 m 28 ls [.int (zI (xt0))]) := by
  intro x1 xt0 S nx1 nxt0 hf H locs ls hW hS hl
  unfold zf_Y_isMissing_28 at hf
  refine lv_istore_n (lv' := [(2, .int (zI (xt0))), (0, .ref (B.2.1 13 (r0) (k0))), (1, .int (zI (x1)))]) C.1 C.2.1 zd_Y_isMissing_28 rfl hl (by decide) rfl (fun ls hl => ?_)
  refine lv_aload_n C.1 C.2.1 zd_Y_isMissing_29 rfl (lv_at hl 1 rfl) ?_
  refine zg_Y_cell (r := r0) (k := k0) C hK hW (zvd_13 hr0 hk0) zk_231 zd_Y_isMissing_30 ?_
  refine lv_iload_n C.1 C.2.1 zd_Y_isMissing_33 rfl (lv_at hl 2 rfl) ?_
  obtain ⟨h1, hf⟩ := zck_some hf
  refine ziald C hK hW (zvd_14 hr0 hk0) (fun f => ze_14 B f (r0) (k0)) (by decide) h1 zd_Y_isMissing_34 ?_
  refine lv_iload_n C.1 C.2.1 zd_Y_isMissing_35 rfl (lv_at hl 0 rfl) ?_
  refine zr_icmp_ne (tgt := 43) C (zWn hW _ _ _ _ rfl) nxt0 zd_Y_isMissing_36 (by decide) (fun c2 => ?_) (fun c2 => ?_)
  · rw [if_neg c2] at hf
    refine zr_iconst C zd_Y_isMissing_43 ?_
    cases hf
    exact zre_z C hr hlk hK hW hS (znb rfl) (zb01 (by decide)) zd_Y_isMissing_44
  · rw [if_pos c2] at hf
    refine zr_iconst C zd_Y_isMissing_39 ?_
    refine lv_goto (tgt := 44) C.1 C.2.1 zd_Y_isMissing_40 (by decide) ?_
    cases hf
    exact zre_z C hr hlk hK hW hS (znb rfl) (zb01 (by decide)) zd_Y_isMissing_44

def zf_Y_isMissing (r0 : Int) (k0 : Int) (x1 : Int) (S : Sg) : Option (Int × Sg) :=
    if (S 13 r0 k0 0) = 0 then (zf_Y_isMissing_28 r0 k0 (x1) (-128) S) else (if (S 13 r0 k0 0) = 1 then (zf_Y_isMissing_28 r0 k0 (x1) (-32768) S) else (zf_Y_isMissing_28 r0 k0 (x1) (-2147483648) S))
set_option maxHeartbeats 4000000 in
set_option maxRecDepth 100000 in
theorem zw_Y_isMissing {p : Program} {l : Launch} {e : Env} {s : State} {m : MethodId} {args : Array Value} {below : List Frame} {meth : Method} {c : Code} {B : zB} (C : CallFix p m c zb_Y_isMissing 3 s args zT "IslandOffice$Sky") (hr : meth.sig.returnType = some .boolean) (hlk : meth.locks = false) (hK : zK B s) (hSt : zSt B s) (hap : zAp B) (r0 : Int) (k0 : Int) (hr0 : 0 ≤ r0 ∧ r0 < 3) (hk0 : 0 ≤ k0 ∧ k0 < 2) {res : Int} {S9 : Sg} : ∀ (x1 : Int) (S : Sg) (nx1 : zn x1), zf_Y_isMissing r0 k0 x1 S = some (res, S9) → ∀ (H : Heap) (locs : List Loc) (ls : Array Slot), zW B S H → va_S B.2.2.2 s.heap H locs → lv_has ls 3 [(0, .ref (B.2.1 13 (r0) (k0))), (1, .int (zI (x1)))] → W p l e zm_Y_isMissing s m args below meth c H locs 0 0 (MQ below (zQi B res S9) args s 0 0 B.2.2.2) (F0 m 0 ls []) := by
  intro x1 S nx1 hf H locs ls hW hS hl
  unfold zf_Y_isMissing at hf
  refine lv_aload_n C.1 C.2.1 zd_Y_isMissing_0 rfl (lv_at hl 0 rfl) ?_
  refine zg_Y_sort (r := r0) (k := k0) C hK hW (zvd_13 hr0 hk0) zk_229 zd_Y_isMissing_1 ?_
  refine zr_if_ne (tgt := 12) C (zWn hW _ _ _ _ rfl) zd_Y_isMissing_4 (by decide) (fun c1 => ?_) (fun c1 => ?_)
  · rw [if_neg c1] at hf
    refine lv_aload_n C.1 C.2.1 zd_Y_isMissing_12 rfl (lv_at hl 0 rfl) ?_
    refine zg_Y_sort (r := r0) (k := k0) C hK hW (zvd_13 hr0 hk0) zk_229 zd_Y_isMissing_13 ?_
    refine zr_iconst C zd_Y_isMissing_16 ?_
    refine zr_icmp_ne (tgt := 26) C (zWn hW _ _ _ _ rfl) (znb rfl) zd_Y_isMissing_17 (by decide) (fun c2 => ?_) (fun c2 => ?_)
    · rw [if_neg c2] at hf
      refine zr_ldc (n := -2147483648) C zk_925 (by decide) zd_Y_isMissing_26 ?_
      exact zw_Y_isMissing_28 C hr hlk hK hSt hap r0 k0 hr0 hk0 (x1) (-2147483648) S nx1 (znb rfl) hf _ _ _ hW hS (lv_sub hl [0, 1] rfl)
    · rw [if_pos c2] at hf
      refine zr_sipush C zd_Y_isMissing_20 (by decide) ?_
      refine lv_goto (tgt := 28) C.1 C.2.1 zd_Y_isMissing_23 (by decide) ?_
      exact zw_Y_isMissing_28 C hr hlk hK hSt hap r0 k0 hr0 hk0 (x1) (-32768) S nx1 (znb rfl) hf _ _ _ hW hS (lv_sub hl [0, 1] rfl)
  · rw [if_pos c1] at hf
    refine zr_bipush C zd_Y_isMissing_7 (by decide) ?_
    refine lv_goto (tgt := 28) C.1 C.2.1 zd_Y_isMissing_9 (by decide) ?_
    exact zw_Y_isMissing_28 C hr hlk hK hSt hap r0 k0 hr0 hk0 (x1) (-128) S nx1 (znb rfl) hf _ _ _ hW hS (lv_sub hl [0, 1] rfl)

theorem zc_Y_isMissing {l : Launch} {B : zB} (hap : zAp B) (r0 : Int) (k0 : Int) (hr0 : 0 ≤ r0 ∧ r0 < 3) (hk0 : 0 ≤ k0 ∧ k0 < 2) (x1 : Int) (S : Sg) (nx1 : zn x1) {res : Int} {S9 : Sg} (hf : zf_Y_isMissing r0 k0 x1 S = some (res, S9)) : Met l zy_Y_isMissing (Cond.code zy_Y_isMissing zb_Y_isMissing 3 (some .boolean) :: zT) zm_Y_isMissing (zP B S [.ref (B.2.1 13 (r0) (k0)), .int (zI (x1))]) (zQi B res S9) 0 0 B.2.2.2 :=
  zmet (by decide) (Nat.le_of_ble_eq_true rfl) (fun p e s m args below meth c C hr hlk hK hSt hW ls hl => zw_Y_isMissing C hr hlk hK hSt hap r0 k0 hr0 hk0 x1 S nx1 hf _ _ _ hW va_S.rf hl)
/-! IslandOffice$Sky.meanOfMonth(I)I -/
abbrev zy_Y_meanOfMonth : MethodName := ⟨"IslandOffice$Sky", "meanOfMonth", "(I)I"⟩
abbrev zb_Y_meanOfMonth : ByteArray := prog_11_method_6_code
abbrev zm_Y_meanOfMonth : Room := { frames := 1, cells := 0, slots := 0, locals := 64 }
theorem zq_Y_meanOfMonth : zMy zy_Y_meanOfMonth zb_Y_meanOfMonth 7 (some .int) 1 := ⟨zk_929, zk_928, zs_27, zk_8, by decide, by decide, by decide +kernel⟩
theorem zd_Y_meanOfMonth_0 : decode zb_Y_meanOfMonth 0 = .ok (.lconst 0, 1) := by decide +kernel
theorem zd_Y_meanOfMonth_1 : decode zb_Y_meanOfMonth 1 = .ok (.lstore_n 2, 1) := by decide +kernel
theorem zd_Y_meanOfMonth_2 : decode zb_Y_meanOfMonth 2 = .ok (.iconst 0, 1) := by decide +kernel
theorem zd_Y_meanOfMonth_3 : decode zb_Y_meanOfMonth 3 = .ok (.istore 4, 2) := by decide +kernel
theorem zd_Y_meanOfMonth_5 : decode zb_Y_meanOfMonth 5 = .ok (.iconst 0, 1) := by decide +kernel
theorem zd_Y_meanOfMonth_6 : decode zb_Y_meanOfMonth 6 = .ok (.istore 5, 2) := by decide +kernel
theorem zd_Y_meanOfMonth_8 : decode zb_Y_meanOfMonth 8 = .ok (.iload 5, 2) := by decide +kernel
theorem zd_Y_meanOfMonth_10 : decode zb_Y_meanOfMonth 10 = .ok (.iconst 4, 1) := by decide +kernel
theorem zd_Y_meanOfMonth_11 : decode zb_Y_meanOfMonth 11 = .ok (.if_icmp .ge 53, 3) := by decide +kernel
theorem zd_Y_meanOfMonth_14 : decode zb_Y_meanOfMonth 14 = .ok (.iconst 4, 1) := by decide +kernel
theorem zd_Y_meanOfMonth_15 : decode zb_Y_meanOfMonth 15 = .ok (.iload_n 1, 1) := by decide +kernel
theorem zd_Y_meanOfMonth_16 : decode zb_Y_meanOfMonth 16 = .ok (.imul, 1) := by decide +kernel
theorem zd_Y_meanOfMonth_17 : decode zb_Y_meanOfMonth 17 = .ok (.iload 5, 2) := by decide +kernel
theorem zd_Y_meanOfMonth_19 : decode zb_Y_meanOfMonth 19 = .ok (.iadd, 1) := by decide +kernel
theorem zd_Y_meanOfMonth_20 : decode zb_Y_meanOfMonth 20 = .ok (.istore 6, 2) := by decide +kernel
theorem zd_Y_meanOfMonth_22 : decode zb_Y_meanOfMonth 22 = .ok (.iload 6, 2) := by decide +kernel
theorem zd_Y_meanOfMonth_24 : decode zb_Y_meanOfMonth 24 = .ok (.aload_n 0, 1) := by decide +kernel
theorem zd_Y_meanOfMonth_25 : decode zb_Y_meanOfMonth 25 = .ok (.getfield 15, 3) := by decide +kernel
theorem zd_Y_meanOfMonth_28 : decode zb_Y_meanOfMonth 28 = .ok (.if_icmp .ge 30, 3) := by decide +kernel
theorem zd_Y_meanOfMonth_31 : decode zb_Y_meanOfMonth 31 = .ok (.aload_n 0, 1) := by decide +kernel
theorem zd_Y_meanOfMonth_32 : decode zb_Y_meanOfMonth 32 = .ok (.iload 6, 2) := by decide +kernel
theorem zd_Y_meanOfMonth_34 : decode zb_Y_meanOfMonth 34 = .ok (.invokevirtual 41, 3) := by decide +kernel
theorem zd_Y_meanOfMonth_37 : decode zb_Y_meanOfMonth 37 = .ok (.ifCond .ne 21, 3) := by decide +kernel
theorem zd_Y_meanOfMonth_40 : decode zb_Y_meanOfMonth 40 = .ok (.lload_n 2, 1) := by decide +kernel
theorem zd_Y_meanOfMonth_41 : decode zb_Y_meanOfMonth 41 = .ok (.iconst 0, 1) := by decide +kernel
theorem zd_Y_meanOfMonth_42 : decode zb_Y_meanOfMonth 42 = .ok (.aload_n 0, 1) := by decide +kernel
theorem zd_Y_meanOfMonth_43 : decode zb_Y_meanOfMonth 43 = .ok (.getfield 18, 3) := by decide +kernel
theorem zd_Y_meanOfMonth_46 : decode zb_Y_meanOfMonth 46 = .ok (.iload 6, 2) := by decide +kernel
theorem zd_Y_meanOfMonth_48 : decode zb_Y_meanOfMonth 48 = .ok (.iaload, 1) := by decide +kernel
theorem zd_Y_meanOfMonth_49 : decode zb_Y_meanOfMonth 49 = .ok (.invokestatic 32, 3) := by decide +kernel
theorem zd_Y_meanOfMonth_52 : decode zb_Y_meanOfMonth 52 = .ok (.i2l, 1) := by decide +kernel
theorem zd_Y_meanOfMonth_53 : decode zb_Y_meanOfMonth 53 = .ok (.ladd, 1) := by decide +kernel
theorem zd_Y_meanOfMonth_54 : decode zb_Y_meanOfMonth 54 = .ok (.lstore_n 2, 1) := by decide +kernel
theorem zd_Y_meanOfMonth_55 : decode zb_Y_meanOfMonth 55 = .ok (.iinc 4 1, 3) := by decide +kernel
theorem zd_Y_meanOfMonth_58 : decode zb_Y_meanOfMonth 58 = .ok (.iinc 5 1, 3) := by decide +kernel
theorem zd_Y_meanOfMonth_61 : decode zb_Y_meanOfMonth 61 = .ok (.goto (-53), 3) := by decide +kernel
theorem zd_Y_meanOfMonth_64 : decode zb_Y_meanOfMonth 64 = .ok (.iload 4, 2) := by decide +kernel
theorem zd_Y_meanOfMonth_66 : decode zb_Y_meanOfMonth 66 = .ok (.ifCond .ne 7, 3) := by decide +kernel
theorem zd_Y_meanOfMonth_69 : decode zb_Y_meanOfMonth 69 = .ok (.iconst 0, 1) := by decide +kernel
theorem zd_Y_meanOfMonth_70 : decode zb_Y_meanOfMonth 70 = .ok (.goto 9, 3) := by decide +kernel
theorem zd_Y_meanOfMonth_73 : decode zb_Y_meanOfMonth 73 = .ok (.lload_n 2, 1) := by decide +kernel
theorem zd_Y_meanOfMonth_74 : decode zb_Y_meanOfMonth 74 = .ok (.iload 4, 2) := by decide +kernel
theorem zd_Y_meanOfMonth_76 : decode zb_Y_meanOfMonth 76 = .ok (.i2l, 1) := by decide +kernel
theorem zd_Y_meanOfMonth_77 : decode zb_Y_meanOfMonth 77 = .ok (.ldiv, 1) := by decide +kernel
theorem zd_Y_meanOfMonth_78 : decode zb_Y_meanOfMonth 78 = .ok (.l2i, 1) := by decide +kernel
theorem zd_Y_meanOfMonth_79 : decode zb_Y_meanOfMonth 79 = .ok (.ireturn, 1) := by decide +kernel

def zf_Y_meanOfMonth_58 (r0 : Int) (k0 : Int) (q8 : Int → Int → Int → Int → Sg → Option (Int × Sg)) (x1 : Int) (x2 : Int) (x4 : Int) (x5 : Int) (S : Sg) : Option (Int × Sg) :=
    zlt (zw (x5 + 1)) fun v1 => q8 (x1) (x2) (x4) (v1) S
set_option maxHeartbeats 4000000 in
set_option maxRecDepth 100000 in
theorem zw_Y_meanOfMonth_58 {p : Program} {l : Launch} {e : Env} {s : State} {m : MethodId} {args : Array Value} {below : List Frame} {meth : Method} {c : Code} {B : zB} (C : CallFix p m c zb_Y_meanOfMonth 7 s args zT "IslandOffice$Sky") (hr : meth.sig.returnType = some .int) (hlk : meth.locks = false) (hK : zK B s) (hSt : zSt B s) (hap : zAp B) (r0 : Int) (k0 : Int) (hr0 : 0 ≤ r0 ∧ r0 < 3) (hk0 : 0 ≤ k0 ∧ k0 < 2) {res : Int} {S9 : Sg} (q8 : Int → Int → Int → Int → Sg → Option (Int × Sg)) (hq8 : ∀ (x1 : Int) (x2 : Int) (x4 : Int) (x5 : Int) (S : Sg) (nx1 : zn x1) (nx2 : zm x2) (nx4 : zn x4) (nx5 : zn x5), q8 x1 x2 x4 x5 S = some (res, S9) → ∀ (H : Heap) (locs : List Loc) (ls : Array Slot), zW B S H → va_S B.2.2.2 s.heap H locs → lv_has ls 7 [(0, .ref (B.2.1 13 (r0) (k0))), (1, .int (zI (x1))), (2, .long (zL (x2))), (4, .int (zI (x4))), (5, .int (zI (x5)))] → W p l e zm_Y_meanOfMonth s m args below meth c H locs 0 0 (MQ below (zQi B res S9) args s 0 0 B.2.2.2) (F0 m 8 ls [])) : ∀ (x1 : Int) (x2 : Int) (x4 : Int) (x5 : Int) (S : Sg) (nx1 : zn x1) (nx2 : zm x2) (nx4 : zn x4) (nx5 : zn x5), zf_Y_meanOfMonth_58 r0 k0 q8 x1 x2 x4 x5 S = some (res, S9) → ∀ (H : Heap) (locs : List Loc) (ls : Array Slot), zW B S H → va_S B.2.2.2 s.heap H locs → lv_has ls 7 [(0, .ref (B.2.1 13 (r0) (k0))), (1, .int (zI (x1))), (2, .long (zL (x2))), (4, .int (zI (x4))), (5, .int (zI (x5)))] → W p l e zm_Y_meanOfMonth s m args below meth c H locs 0 0 (MQ below (zQi B res S9) args s 0 0 B.2.2.2) (F0 m 58 ls []) := by
  intro x1 x2 x4 x5 S nx1 nx2 nx4 nx5 hf H locs ls hW hS hl
  unfold zf_Y_meanOfMonth_58 at hf
  obtain ⟨v1, ev1, hf⟩ := zlt_some hf
  have nv1 : zn v1 := by rw [← ev1]; exact zn_w _
  refine lv_iinc (v := zI v1) (lv' := [(5, .int (zI (v1))), (0, .ref (B.2.1 13 (r0) (k0))), (1, .int (zI (x1))), (2, .long (zL (x2))), (4, .int (zI (x4)))]) C.1 C.2.1 zd_Y_meanOfMonth_58 hl (k := 4) rfl (by rw [← ev1, ← zI_add]; rfl) (by decide) rfl (fun ls hl => ?_)
  refine lv_goto (tgt := 8) C.1 C.2.1 zd_Y_meanOfMonth_61 (by decide) ?_
  exact hq8 (x1) (x2) (x4) (v1) S nx1 nx2 nx4 nv1 hf _ _ _ hW hS (lv_sub hl [1, 2, 3, 4, 0] rfl)

def zf_Y_meanOfMonth_8 (r0 : Int) (k0 : Int) : Nat → Int → Int → Int → Int → Sg → Option (Int × Sg)
  | 0, _, _, _, _, _ => none
  | n + 1, x1, x2, x4, x5, S =>
    if 4 ≤ x5 then (if x4 = 0 then (some (0, S)) else (zck (¬ x4 = 0) <| some (zw (zldv x2 x4), S))) else (zlt (zw ((zw (4 * x1)) + x5)) fun v4 => if (S 13 r0 k0 1) ≤ v4 then (zf_Y_meanOfMonth_58 r0 k0 (zf_Y_meanOfMonth_8 r0 k0 n) (x1) (x2) (x4) (x5) S) else (zbd (zf_Y_isMissing (r0) (k0) v4 S) fun a6 S7 => if a6 = 0 then (zck (0 ≤ v4 ∧ v4 < 120) <| zlt (zv (x2 + (max 0 (S7 14 r0 k0 v4)))) fun v10 => zlt (zw (x4 + 1)) fun v11 => zf_Y_meanOfMonth_58 r0 k0 (zf_Y_meanOfMonth_8 r0 k0 n) (x1) (v10) (v11) (x5) S7) else (zf_Y_meanOfMonth_58 r0 k0 (zf_Y_meanOfMonth_8 r0 k0 n) (x1) (x2) (x4) (x5) S7)))
set_option maxHeartbeats 4000000 in
set_option maxRecDepth 100000 in
theorem zw_Y_meanOfMonth_8 {p : Program} {l : Launch} {e : Env} {s : State} {m : MethodId} {args : Array Value} {below : List Frame} {meth : Method} {c : Code} {B : zB} (C : CallFix p m c zb_Y_meanOfMonth 7 s args zT "IslandOffice$Sky") (hr : meth.sig.returnType = some .int) (hlk : meth.locks = false) (hK : zK B s) (hSt : zSt B s) (hap : zAp B) (r0 : Int) (k0 : Int) (hr0 : 0 ≤ r0 ∧ r0 < 3) (hk0 : 0 ≤ k0 ∧ k0 < 2) {res : Int} {S9 : Sg} : ∀ n : Nat, ∀ (x1 : Int) (x2 : Int) (x4 : Int) (x5 : Int) (S : Sg) (nx1 : zn x1) (nx2 : zm x2) (nx4 : zn x4) (nx5 : zn x5), zf_Y_meanOfMonth_8 r0 k0 n x1 x2 x4 x5 S = some (res, S9) → ∀ (H : Heap) (locs : List Loc) (ls : Array Slot), zW B S H → va_S B.2.2.2 s.heap H locs → lv_has ls 7 [(0, .ref (B.2.1 13 (r0) (k0))), (1, .int (zI (x1))), (2, .long (zL (x2))), (4, .int (zI (x4))), (5, .int (zI (x5)))] → W p l e zm_Y_meanOfMonth s m args below meth c H locs 0 0 (MQ below (zQi B res S9) args s 0 0 B.2.2.2) (F0 m 8 ls []) := by
  intro n
  induction n with
  | zero =>
    intro x1 x2 x4 x5 S nx1 nx2 nx4 nx5 hf H locs ls hW hS hl
    cases hf
  | succ n ih =>
    intro x1 x2 x4 x5 S nx1 nx2 nx4 nx5 hf H locs ls hW hS hl
    rw [zf_Y_meanOfMonth_8] at hf
    refine lv_iload C.1 C.2.1 zd_Y_meanOfMonth_8 (lv_at hl 4 rfl) ?_
    refine zr_iconst C zd_Y_meanOfMonth_10 ?_
    refine zr_icmp_ge (tgt := 64) C nx5 (znb rfl) zd_Y_meanOfMonth_11 (by decide) (fun c1 => ?_) (fun c1 => ?_)
    · rw [if_pos c1] at hf
      refine lv_iload C.1 C.2.1 zd_Y_meanOfMonth_64 (lv_at hl 3 rfl) ?_
      refine zr_if_ne (tgt := 73) C nx4 zd_Y_meanOfMonth_66 (by decide) (fun c2 => ?_) (fun c2 => ?_)
      · rw [if_neg c2] at hf
        refine lv_lload_n C.1 C.2.1 zd_Y_meanOfMonth_73 rfl (lv_at hl 2 rfl) ?_
        refine lv_iload C.1 C.2.1 zd_Y_meanOfMonth_74 (lv_at hl 3 rfl) ?_
        refine zr_i2l C nx4 zd_Y_meanOfMonth_76 ?_
        obtain ⟨h3, hf⟩ := zck_some hf
        refine zr_ldiv C nx2 (zm_n nx4) h3 zd_Y_meanOfMonth_77 ?_
        refine zr_l2i C (zm_ldv _ _) zd_Y_meanOfMonth_78 ?_
        cases hf
        exact zre_i C hr hlk hK hW hS (zn_w _) zd_Y_meanOfMonth_79
      · rw [if_pos c2] at hf
        refine zr_iconst C zd_Y_meanOfMonth_69 ?_
        refine lv_goto (tgt := 79) C.1 C.2.1 zd_Y_meanOfMonth_70 (by decide) ?_
        cases hf
        exact zre_i C hr hlk hK hW hS (znb rfl) zd_Y_meanOfMonth_79
    · rw [if_neg c1] at hf
      refine zr_iconst C zd_Y_meanOfMonth_14 ?_
      refine lv_iload_n C.1 C.2.1 zd_Y_meanOfMonth_15 rfl (lv_at hl 1 rfl) ?_
      refine zr_imul C zd_Y_meanOfMonth_16 ?_
      refine lv_iload C.1 C.2.1 zd_Y_meanOfMonth_17 (lv_at hl 4 rfl) ?_
      refine zr_iadd C zd_Y_meanOfMonth_19 ?_
      obtain ⟨v4, ev4, hf⟩ := zlt_some hf
      have nv4 : zn v4 := by rw [← ev4]; exact (zn_w _)
      rw [ev4]
      refine lv_istore (lv' := [(6, .int (zI (v4))), (0, .ref (B.2.1 13 (r0) (k0))), (1, .int (zI (x1))), (2, .long (zL (x2))), (4, .int (zI (x4))), (5, .int (zI (x5)))]) C.1 C.2.1 zd_Y_meanOfMonth_20 hl (by decide) rfl (fun ls hl => ?_)
      refine lv_iload C.1 C.2.1 zd_Y_meanOfMonth_22 (lv_at hl 0 rfl) ?_
      refine lv_aload_n C.1 C.2.1 zd_Y_meanOfMonth_24 rfl (lv_at hl 1 rfl) ?_
      refine zg_Y_size (r := r0) (k := k0) C hK hW (zvd_13 hr0 hk0) zk_230 zd_Y_meanOfMonth_25 ?_
      refine zr_icmp_ge (tgt := 58) C nv4 (zWn hW _ _ _ _ rfl) zd_Y_meanOfMonth_28 (by decide) (fun c5 => ?_) (fun c5 => ?_)
      · rw [if_pos c5] at hf
        exact zw_Y_meanOfMonth_58 C hr hlk hK hSt hap r0 k0 hr0 hk0 (zf_Y_meanOfMonth_8 r0 k0 n) (ih) (x1) (x2) (x4) (x5) S nx1 nx2 nx4 nx5 hf _ _ _ hW hS (lv_sub hl [1, 2, 3, 4, 5] rfl)
      · rw [if_neg c5] at hf
        refine lv_aload_n C.1 C.2.1 zd_Y_meanOfMonth_31 rfl (lv_at hl 1 rfl) ?_
        refine lv_iload C.1 C.2.1 zd_Y_meanOfMonth_32 (lv_at hl 0 rfl) ?_
        obtain ⟨a6, S7, ea6, hf⟩ := zbd_some hf
        refine zcVi (As := [.int (zI (v4))]) (rest := []) C hK hSt hW hS (zc_Y_isMissing hap (r0) (k0) hr0 hk0 v4 S nv4 ea6) zq_Y_isMissing zk_921 (zrecv hK hW (zvd_13 hr0 hk0) (ze_13 B _ (r0) (k0)) rfl) ⟨rfl, rfl, by decide, by decide⟩ ⟨Nat.zero_le _, Nat.zero_le _⟩ rfl hl.1 rfl (lv_room (Nat.le_of_ble_eq_true rfl)) zd_Y_meanOfMonth_34 (fun na6 H locs hW hS => ?_)
        refine zr_if_ne (tgt := 58) C na6 zd_Y_meanOfMonth_37 (by decide) (fun c8 => ?_) (fun c8 => ?_)
        · rw [if_neg c8] at hf
          exact zw_Y_meanOfMonth_58 C hr hlk hK hSt hap r0 k0 hr0 hk0 (zf_Y_meanOfMonth_8 r0 k0 n) (ih) (x1) (x2) (x4) (x5) S7 nx1 nx2 nx4 nx5 hf _ _ _ hW hS (lv_sub hl [1, 2, 3, 4, 5] rfl)
        · rw [if_pos c8] at hf
          refine lv_lload_n C.1 C.2.1 zd_Y_meanOfMonth_40 rfl (lv_at hl 3 rfl) ?_
          refine zr_iconst C zd_Y_meanOfMonth_41 ?_
          refine lv_aload_n C.1 C.2.1 zd_Y_meanOfMonth_42 rfl (lv_at hl 1 rfl) ?_
          refine zg_Y_cell (r := r0) (k := k0) C hK hW (zvd_13 hr0 hk0) zk_231 zd_Y_meanOfMonth_43 ?_
          refine lv_iload C.1 C.2.1 zd_Y_meanOfMonth_46 (lv_at hl 0 rfl) ?_
          obtain ⟨h9, hf⟩ := zck_some hf
          refine ziald C hK hW (zvd_14 hr0 hk0) (fun f => ze_14 B f (r0) (k0)) (by decide) h9 zd_Y_meanOfMonth_48 ?_
          refine zr_max C hl.1 (znb rfl) (zWn hW _ _ _ _ rfl) zk_911 zk_678 zk_16 zk_679 (by decide) (Nat.le_of_ble_eq_true rfl) ⟨by decide, by decide⟩ zd_Y_meanOfMonth_49 ?_
          refine zr_i2l C (zn_max (znb rfl) (zWn hW _ _ _ _ rfl)) zd_Y_meanOfMonth_52 ?_
          refine zr_ladd C zd_Y_meanOfMonth_53 ?_
          obtain ⟨v10, ev10, hf⟩ := zlt_some hf
          have nv10 : zm v10 := by rw [← ev10]; exact (zm_v _)
          rw [ev10]
          refine lv_lstore_n (lv' := [(2, .long (zL (v10))), (6, .int (zI (v4))), (0, .ref (B.2.1 13 (r0) (k0))), (1, .int (zI (x1))), (4, .int (zI (x4))), (5, .int (zI (x5)))]) C.1 C.2.1 zd_Y_meanOfMonth_54 rfl hl (by decide) rfl (fun ls hl => ?_)
          obtain ⟨v11, ev11, hf⟩ := zlt_some hf
          have nv11 : zn v11 := by rw [← ev11]; exact zn_w _
          refine lv_iinc (v := zI v11) (lv' := [(4, .int (zI (v11))), (2, .long (zL (v10))), (6, .int (zI (v4))), (0, .ref (B.2.1 13 (r0) (k0))), (1, .int (zI (x1))), (5, .int (zI (x5)))]) C.1 C.2.1 zd_Y_meanOfMonth_55 hl (k := 4) rfl (by rw [← ev11, ← zI_add]; rfl) (by decide) rfl (fun ls hl => ?_)
          exact zw_Y_meanOfMonth_58 C hr hlk hK hSt hap r0 k0 hr0 hk0 (zf_Y_meanOfMonth_8 r0 k0 n) (ih) (x1) (v10) (v11) (x5) S7 nx1 nv10 nv11 nx5 hf _ _ _ hW hS (lv_sub hl [3, 4, 1, 0, 5] rfl)

def zf_Y_meanOfMonth (r0 : Int) (k0 : Int) (x1 : Int) (S : Sg) : Option (Int × Sg) :=
    zf_Y_meanOfMonth_8 r0 k0 4096 (x1) (0) (0) (0) S
set_option maxHeartbeats 4000000 in
set_option maxRecDepth 100000 in
theorem zw_Y_meanOfMonth {p : Program} {l : Launch} {e : Env} {s : State} {m : MethodId} {args : Array Value} {below : List Frame} {meth : Method} {c : Code} {B : zB} (C : CallFix p m c zb_Y_meanOfMonth 7 s args zT "IslandOffice$Sky") (hr : meth.sig.returnType = some .int) (hlk : meth.locks = false) (hK : zK B s) (hSt : zSt B s) (hap : zAp B) (r0 : Int) (k0 : Int) (hr0 : 0 ≤ r0 ∧ r0 < 3) (hk0 : 0 ≤ k0 ∧ k0 < 2) {res : Int} {S9 : Sg} : ∀ (x1 : Int) (S : Sg) (nx1 : zn x1), zf_Y_meanOfMonth r0 k0 x1 S = some (res, S9) → ∀ (H : Heap) (locs : List Loc) (ls : Array Slot), zW B S H → va_S B.2.2.2 s.heap H locs → lv_has ls 7 [(0, .ref (B.2.1 13 (r0) (k0))), (1, .int (zI (x1)))] → W p l e zm_Y_meanOfMonth s m args below meth c H locs 0 0 (MQ below (zQi B res S9) args s 0 0 B.2.2.2) (F0 m 0 ls []) := by
  intro x1 S nx1 hf H locs ls hW hS hl
  unfold zf_Y_meanOfMonth at hf
  refine zr_lconst (k := 0) C zd_Y_meanOfMonth_0 rfl ?_
  refine lv_lstore_n (lv' := [(2, .long (zL (0))), (0, .ref (B.2.1 13 (r0) (k0))), (1, .int (zI (x1)))]) C.1 C.2.1 zd_Y_meanOfMonth_1 rfl hl (by decide) rfl (fun ls hl => ?_)
  refine zr_iconst C zd_Y_meanOfMonth_2 ?_
  refine lv_istore (lv' := [(4, .int (zI (0))), (2, .long (zL (0))), (0, .ref (B.2.1 13 (r0) (k0))), (1, .int (zI (x1)))]) C.1 C.2.1 zd_Y_meanOfMonth_3 hl (by decide) rfl (fun ls hl => ?_)
  refine zr_iconst C zd_Y_meanOfMonth_5 ?_
  refine lv_istore (lv' := [(5, .int (zI (0))), (4, .int (zI (0))), (2, .long (zL (0))), (0, .ref (B.2.1 13 (r0) (k0))), (1, .int (zI (x1)))]) C.1 C.2.1 zd_Y_meanOfMonth_6 hl (by decide) rfl (fun ls hl => ?_)
  exact zw_Y_meanOfMonth_8 C hr hlk hK hSt hap r0 k0 hr0 hk0 4096 (x1) (0) (0) (0) S nx1 (zmb rfl) (znb rfl) (znb rfl) hf _ _ _ hW hS (lv_sub hl [3, 4, 2, 1, 0] rfl)

theorem zc_Y_meanOfMonth {l : Launch} {B : zB} (hap : zAp B) (r0 : Int) (k0 : Int) (hr0 : 0 ≤ r0 ∧ r0 < 3) (hk0 : 0 ≤ k0 ∧ k0 < 2) (x1 : Int) (S : Sg) (nx1 : zn x1) {res : Int} {S9 : Sg} (hf : zf_Y_meanOfMonth r0 k0 x1 S = some (res, S9)) : Met l zy_Y_meanOfMonth (Cond.code zy_Y_meanOfMonth zb_Y_meanOfMonth 7 (some .int) :: zT) zm_Y_meanOfMonth (zP B S [.ref (B.2.1 13 (r0) (k0)), .int (zI (x1))]) (zQi B res S9) 0 0 B.2.2.2 :=
  zmet (by decide) (Nat.le_of_ble_eq_true rfl) (fun p e s m args below meth c C hr hlk hK hSt hW ls hl => zw_Y_meanOfMonth C hr hlk hK hSt hap r0 k0 hr0 hk0 x1 S nx1 hf _ _ _ hW va_S.rf hl)
/-! IslandOffice$Sky.at(I)I -/
abbrev zy_Y_at : MethodName := ⟨"IslandOffice$Sky", "at", "(I)I"⟩
abbrev zb_Y_at : ByteArray := prog_11_method_4_code
abbrev zm_Y_at : Room := { frames := 2, cells := 0, slots := 0, locals := 90 }
theorem zq_Y_at : zMy zy_Y_at zb_Y_at 2 (some .int) 1 := ⟨zk_920, zk_918, zk_919, zk_8, by decide, by decide, by decide +kernel⟩
theorem zd_Y_at_0 : decode zb_Y_at 0 = .ok (.iload_n 1, 1) := by decide +kernel
theorem zd_Y_at_1 : decode zb_Y_at 1 = .ok (.ifCond .lt 11, 3) := by decide +kernel
theorem zd_Y_at_4 : decode zb_Y_at 4 = .ok (.iload_n 1, 1) := by decide +kernel
theorem zd_Y_at_5 : decode zb_Y_at 5 = .ok (.aload_n 0, 1) := by decide +kernel
theorem zd_Y_at_6 : decode zb_Y_at 6 = .ok (.getfield 15, 3) := by decide +kernel
theorem zd_Y_at_9 : decode zb_Y_at 9 = .ok (.if_icmp .lt 5, 3) := by decide +kernel
theorem zd_Y_at_12 : decode zb_Y_at 12 = .ok (.iconst 0, 1) := by decide +kernel
theorem zd_Y_at_13 : decode zb_Y_at 13 = .ok (.ireturn, 1) := by decide +kernel
theorem zd_Y_at_14 : decode zb_Y_at 14 = .ok (.aload_n 0, 1) := by decide +kernel
theorem zd_Y_at_15 : decode zb_Y_at 15 = .ok (.iload_n 1, 1) := by decide +kernel
theorem zd_Y_at_16 : decode zb_Y_at 16 = .ok (.invokevirtual 41, 3) := by decide +kernel
theorem zd_Y_at_19 : decode zb_Y_at 19 = .ok (.ifCond .ne 14, 3) := by decide +kernel
theorem zd_Y_at_22 : decode zb_Y_at 22 = .ok (.iconst 0, 1) := by decide +kernel
theorem zd_Y_at_23 : decode zb_Y_at 23 = .ok (.aload_n 0, 1) := by decide +kernel
theorem zd_Y_at_24 : decode zb_Y_at 24 = .ok (.getfield 18, 3) := by decide +kernel
theorem zd_Y_at_27 : decode zb_Y_at 27 = .ok (.iload_n 1, 1) := by decide +kernel
theorem zd_Y_at_28 : decode zb_Y_at 28 = .ok (.iaload, 1) := by decide +kernel
theorem zd_Y_at_29 : decode zb_Y_at 29 = .ok (.invokestatic 32, 3) := by decide +kernel
theorem zd_Y_at_32 : decode zb_Y_at 32 = .ok (.ireturn, 1) := by decide +kernel
theorem zd_Y_at_33 : decode zb_Y_at 33 = .ok (.aload_n 0, 1) := by decide +kernel
theorem zd_Y_at_34 : decode zb_Y_at 34 = .ok (.iload_n 1, 1) := by decide +kernel
theorem zd_Y_at_35 : decode zb_Y_at 35 = .ok (.iconst 4, 1) := by decide +kernel
theorem zd_Y_at_36 : decode zb_Y_at 36 = .ok (.idiv, 1) := by decide +kernel
theorem zd_Y_at_37 : decode zb_Y_at 37 = .ok (.invokevirtual 45, 3) := by decide +kernel
theorem zd_Y_at_40 : decode zb_Y_at 40 = .ok (.ireturn, 1) := by decide +kernel

def zf_Y_at (r0 : Int) (k0 : Int) (x1 : Int) (S : Sg) : Option (Int × Sg) :=
    if x1 < 0 then (some (0, S)) else (if x1 < (S 13 r0 k0 1) then (zbd (zf_Y_isMissing (r0) (k0) x1 S) fun a3 S4 => if a3 = 0 then (zck (0 ≤ x1 ∧ x1 < 120) <| some (max 0 (S4 14 r0 k0 x1), S4)) else (zbd (zf_Y_meanOfMonth (r0) (k0) (zdiv x1 4) S4) fun a6 S7 => some (a6, S7))) else (some (0, S)))
set_option maxHeartbeats 4000000 in
set_option maxRecDepth 100000 in
theorem zw_Y_at {p : Program} {l : Launch} {e : Env} {s : State} {m : MethodId} {args : Array Value} {below : List Frame} {meth : Method} {c : Code} {B : zB} (C : CallFix p m c zb_Y_at 2 s args zT "IslandOffice$Sky") (hr : meth.sig.returnType = some .int) (hlk : meth.locks = false) (hK : zK B s) (hSt : zSt B s) (hap : zAp B) (r0 : Int) (k0 : Int) (hr0 : 0 ≤ r0 ∧ r0 < 3) (hk0 : 0 ≤ k0 ∧ k0 < 2) {res : Int} {S9 : Sg} : ∀ (x1 : Int) (S : Sg) (nx1 : zn x1), zf_Y_at r0 k0 x1 S = some (res, S9) → ∀ (H : Heap) (locs : List Loc) (ls : Array Slot), zW B S H → va_S B.2.2.2 s.heap H locs → lv_has ls 2 [(0, .ref (B.2.1 13 (r0) (k0))), (1, .int (zI (x1)))] → W p l e zm_Y_at s m args below meth c H locs 0 0 (MQ below (zQi B res S9) args s 0 0 B.2.2.2) (F0 m 0 ls []) := by
  intro x1 S nx1 hf H locs ls hW hS hl
  unfold zf_Y_at at hf
  refine lv_iload_n C.1 C.2.1 zd_Y_at_0 rfl (lv_at hl 1 rfl) ?_
  refine zr_if_lt (tgt := 12) C nx1 zd_Y_at_1 (by decide) (fun c1 => ?_) (fun c1 => ?_)
  · rw [if_pos c1] at hf
    refine zr_iconst C zd_Y_at_12 ?_
    cases hf
    exact zre_i C hr hlk hK hW hS (znb rfl) zd_Y_at_13
  · rw [if_neg c1] at hf
    refine lv_iload_n C.1 C.2.1 zd_Y_at_4 rfl (lv_at hl 1 rfl) ?_
    refine lv_aload_n C.1 C.2.1 zd_Y_at_5 rfl (lv_at hl 0 rfl) ?_
    refine zg_Y_size (r := r0) (k := k0) C hK hW (zvd_13 hr0 hk0) zk_230 zd_Y_at_6 ?_
    refine zr_icmp_lt (tgt := 14) C nx1 (zWn hW _ _ _ _ rfl) zd_Y_at_9 (by decide) (fun c2 => ?_) (fun c2 => ?_)
    · rw [if_pos c2] at hf
      refine lv_aload_n C.1 C.2.1 zd_Y_at_14 rfl (lv_at hl 0 rfl) ?_
      refine lv_iload_n C.1 C.2.1 zd_Y_at_15 rfl (lv_at hl 1 rfl) ?_
      obtain ⟨a3, S4, ea3, hf⟩ := zbd_some hf
      refine zcVi (As := [.int (zI (x1))]) (rest := []) C hK hSt hW hS (zc_Y_isMissing hap (r0) (k0) hr0 hk0 x1 S nx1 ea3) zq_Y_isMissing zk_921 (zrecv hK hW (zvd_13 hr0 hk0) (ze_13 B _ (r0) (k0)) rfl) ⟨rfl, rfl, by decide, by decide⟩ ⟨Nat.zero_le _, Nat.zero_le _⟩ rfl hl.1 rfl (lv_room (Nat.le_of_ble_eq_true rfl)) zd_Y_at_16 (fun na3 H locs hW hS => ?_)
      refine zr_if_ne (tgt := 33) C na3 zd_Y_at_19 (by decide) (fun c5 => ?_) (fun c5 => ?_)
      · rw [if_neg c5] at hf
        refine lv_aload_n C.1 C.2.1 zd_Y_at_33 rfl (lv_at hl 0 rfl) ?_
        refine lv_iload_n C.1 C.2.1 zd_Y_at_34 rfl (lv_at hl 1 rfl) ?_
        refine zr_iconst C zd_Y_at_35 ?_
        refine zr_idiv C nx1 (znb rfl) (by decide) zd_Y_at_36 ?_
        obtain ⟨a6, S7, ea6, hf⟩ := zbd_some hf
        refine zcVi (As := [.int (zI (zdiv x1 4))]) (rest := []) C hK hSt hW hS (zc_Y_meanOfMonth hap (r0) (k0) hr0 hk0 (zdiv x1 4) S4 (zn_div _ _) ea6) zq_Y_meanOfMonth zk_926 (zrecv hK hW (zvd_13 hr0 hk0) (ze_13 B _ (r0) (k0)) rfl) ⟨rfl, rfl, by decide, by decide⟩ ⟨Nat.zero_le _, Nat.zero_le _⟩ rfl hl.1 rfl (lv_room (Nat.le_of_ble_eq_true rfl)) zd_Y_at_37 (fun na6 H locs hW hS => ?_)
        cases hf
        exact zre_i C hr hlk hK hW hS na6 zd_Y_at_40
      · rw [if_pos c5] at hf
        refine zr_iconst C zd_Y_at_22 ?_
        refine lv_aload_n C.1 C.2.1 zd_Y_at_23 rfl (lv_at hl 0 rfl) ?_
        refine zg_Y_cell (r := r0) (k := k0) C hK hW (zvd_13 hr0 hk0) zk_231 zd_Y_at_24 ?_
        refine lv_iload_n C.1 C.2.1 zd_Y_at_27 rfl (lv_at hl 1 rfl) ?_
        obtain ⟨h8, hf⟩ := zck_some hf
        refine ziald C hK hW (zvd_14 hr0 hk0) (fun f => ze_14 B f (r0) (k0)) (by decide) h8 zd_Y_at_28 ?_
        refine zr_max C hl.1 (znb rfl) (zWn hW _ _ _ _ rfl) zk_911 zk_678 zk_16 zk_679 (by decide) (Nat.le_of_ble_eq_true rfl) ⟨by decide, by decide⟩ zd_Y_at_29 ?_
        cases hf
        exact zre_i C hr hlk hK hW hS (zn_max (znb rfl) (zWn hW _ _ _ _ rfl)) zd_Y_at_32
    · rw [if_neg c2] at hf
      refine zr_iconst C zd_Y_at_12 ?_
      cases hf
      exact zre_i C hr hlk hK hW hS (znb rfl) zd_Y_at_13

theorem zc_Y_at {l : Launch} {B : zB} (hap : zAp B) (r0 : Int) (k0 : Int) (hr0 : 0 ≤ r0 ∧ r0 < 3) (hk0 : 0 ≤ k0 ∧ k0 < 2) (x1 : Int) (S : Sg) (nx1 : zn x1) {res : Int} {S9 : Sg} (hf : zf_Y_at r0 k0 x1 S = some (res, S9)) : Met l zy_Y_at (Cond.code zy_Y_at zb_Y_at 2 (some .int) :: zT) zm_Y_at (zP B S [.ref (B.2.1 13 (r0) (k0)), .int (zI (x1))]) (zQi B res S9) 0 0 B.2.2.2 :=
  zmet (by decide) (Nat.le_of_ble_eq_true rfl) (fun p e s m args below meth c C hr hlk hK hSt hW ls hl => zw_Y_at C hr hlk hK hSt hap r0 k0 hr0 hk0 x1 S nx1 hf _ _ _ hW va_S.rf hl)
/-! IslandOffice.sky(IZ)I -/
abbrev zy_O_sky : MethodName := ⟨"IslandOffice", "sky", "(IZ)I"⟩
abbrev zb_O_sky : ByteArray := prog_1_method_31_code
abbrev zm_O_sky : Room := { frames := 3, cells := 0, slots := 0, locals := 111 }
theorem zq_O_sky : zMy zy_O_sky zb_O_sky 3 (some .int) 2 := ⟨zk_916, zk_914, zk_915, zk_1, by decide, by decide, by decide +kernel⟩
theorem zd_O_sky_0 : decode zb_O_sky 0 = .ok (.iload_n 1, 1) := by decide +kernel
theorem zd_O_sky_1 : decode zb_O_sky 1 = .ok (.invokestatic 207, 3) := by decide +kernel
theorem zd_O_sky_4 : decode zb_O_sky 4 = .ok (.ifCond .ne 5, 3) := by decide +kernel
theorem zd_O_sky_7 : decode zb_O_sky 7 = .ok (.iconst (-1), 1) := by decide +kernel
theorem zd_O_sky_8 : decode zb_O_sky 8 = .ok (.ireturn, 1) := by decide +kernel
theorem zd_O_sky_9 : decode zb_O_sky 9 = .ok (.iload_n 2, 1) := by decide +kernel
theorem zd_O_sky_10 : decode zb_O_sky 10 = .ok (.ifCond .eq 17, 3) := by decide +kernel
theorem zd_O_sky_13 : decode zb_O_sky 13 = .ok (.aload_n 0, 1) := by decide +kernel
theorem zd_O_sky_14 : decode zb_O_sky 14 = .ok (.getfield 16, 3) := by decide +kernel
theorem zd_O_sky_17 : decode zb_O_sky 17 = .ok (.getfield 291, 3) := by decide +kernel
theorem zd_O_sky_20 : decode zb_O_sky 20 = .ok (.iload_n 1, 1) := by decide +kernel
theorem zd_O_sky_21 : decode zb_O_sky 21 = .ok (.invokevirtual 307, 3) := by decide +kernel
theorem zd_O_sky_24 : decode zb_O_sky 24 = .ok (.goto 14, 3) := by decide +kernel
theorem zd_O_sky_27 : decode zb_O_sky 27 = .ok (.aload_n 0, 1) := by decide +kernel
theorem zd_O_sky_28 : decode zb_O_sky 28 = .ok (.getfield 16, 3) := by decide +kernel
theorem zd_O_sky_31 : decode zb_O_sky 31 = .ok (.getfield 295, 3) := by decide +kernel
theorem zd_O_sky_34 : decode zb_O_sky 34 = .ok (.iload_n 1, 1) := by decide +kernel
theorem zd_O_sky_35 : decode zb_O_sky 35 = .ok (.invokevirtual 307, 3) := by decide +kernel
theorem zd_O_sky_38 : decode zb_O_sky 38 = .ok (.ireturn, 1) := by decide +kernel

def zf_O_sky (x1 : Int) (x2 : Int) (S : Sg) : Option (Int × Sg) :=
    zbd (zf_O_isWeek x1 S) fun a1 S2 => if a1 = 0 then (some (-1, S2)) else (if x2 = 0 then (zbd (zf_Y_at (0) (0) x1 S2) fun a5 S6 => some (a5, S6)) else (zbd (zf_Y_at (0) (1) x1 S2) fun a7 S8 => some (a7, S8)))
set_option maxHeartbeats 4000000 in
set_option maxRecDepth 100000 in
theorem zw_O_sky {p : Program} {l : Launch} {e : Env} {s : State} {m : MethodId} {args : Array Value} {below : List Frame} {meth : Method} {c : Code} {B : zB} (C : CallFix p m c zb_O_sky 3 s args zT "IslandOffice") (hr : meth.sig.returnType = some .int) (hlk : meth.locks = false) (hK : zK B s) (hSt : zSt B s) (hap : zAp B) {res : Int} {S9 : Sg} : ∀ (x1 : Int) (x2 : Int) (S : Sg) (nx1 : zn x1) (nx2 : zn x2), zf_O_sky x1 x2 S = some (res, S9) → ∀ (H : Heap) (locs : List Loc) (ls : Array Slot), zW B S H → va_S B.2.2.2 s.heap H locs → lv_has ls 3 [(0, .ref (B.2.1 3 (0) (0))), (1, .int (zI (x1))), (2, .int (zI (x2)))] → W p l e zm_O_sky s m args below meth c H locs 0 0 (MQ below (zQi B res S9) args s 0 0 B.2.2.2) (F0 m 0 ls []) := by
  intro x1 x2 S nx1 nx2 hf H locs ls hW hS hl
  unfold zf_O_sky at hf
  refine lv_iload_n C.1 C.2.1 zd_O_sky_0 rfl (lv_at hl 1 rfl) ?_
  obtain ⟨a1, S2, ea1, hf⟩ := zbd_some hf
  refine zcSi (As := [.int (zI (x1))]) (rest := []) C hK hSt hW hS (zc_O_isWeek hap x1 S nx1 ea1) zq_O_isWeek zk_759 ⟨rfl, rfl, by decide, by decide⟩ ⟨Nat.zero_le _, Nat.zero_le _⟩ rfl hl.1 rfl (lv_room (Nat.le_of_ble_eq_true rfl)) zd_O_sky_1 (fun na1 H locs hW hS => ?_)
  refine zr_if_ne (tgt := 9) C na1 zd_O_sky_4 (by decide) (fun c3 => ?_) (fun c3 => ?_)
  · rw [if_neg c3] at hf
    refine lv_iload_n C.1 C.2.1 zd_O_sky_9 rfl (lv_at hl 2 rfl) ?_
    refine zr_if_eq (tgt := 27) C nx2 zd_O_sky_10 (by decide) (fun c4 => ?_) (fun c4 => ?_)
    · rw [if_pos c4] at hf
      refine lv_aload_n C.1 C.2.1 zd_O_sky_27 rfl (lv_at hl 0 rfl) ?_
      refine zg_O_now (r := 0) C hK hW (zvd_3 (by decide) (by decide)) zk_492 zd_O_sky_28 ?_
      refine zg_I_weather (r := 0) C hK hW (zvd_0 (by decide) (by decide)) zk_295 zd_O_sky_31 ?_
      refine lv_iload_n C.1 C.2.1 zd_O_sky_34 rfl (lv_at hl 1 rfl) ?_
      obtain ⟨a5, S6, ea5, hf⟩ := zbd_some hf
      refine zcVi (As := [.int (zI (x1))]) (rest := []) C hK hSt hW hS (zc_Y_at hap (0) (0) (by decide) (by decide) x1 S2 nx1 ea5) zq_Y_at zk_917 (zrecv hK hW (zvd_13 (by decide) (by decide)) (ze_13 B _ (0) (0)) rfl) ⟨rfl, rfl, by decide, by decide⟩ ⟨Nat.zero_le _, Nat.zero_le _⟩ rfl hl.1 rfl (lv_room (Nat.le_of_ble_eq_true rfl)) zd_O_sky_35 (fun na5 H locs hW hS => ?_)
      cases hf
      exact zre_i C hr hlk hK hW hS na5 zd_O_sky_38
    · rw [if_neg c4] at hf
      refine lv_aload_n C.1 C.2.1 zd_O_sky_13 rfl (lv_at hl 0 rfl) ?_
      refine zg_O_now (r := 0) C hK hW (zvd_3 (by decide) (by decide)) zk_492 zd_O_sky_14 ?_
      refine zg_I_rain (r := 0) C hK hW (zvd_0 (by decide) (by decide)) zk_298 zd_O_sky_17 ?_
      refine lv_iload_n C.1 C.2.1 zd_O_sky_20 rfl (lv_at hl 1 rfl) ?_
      obtain ⟨a7, S8, ea7, hf⟩ := zbd_some hf
      refine zcVi (As := [.int (zI (x1))]) (rest := []) C hK hSt hW hS (zc_Y_at hap (0) (1) (by decide) (by decide) x1 S2 nx1 ea7) zq_Y_at zk_917 (zrecv hK hW (zvd_13 (by decide) (by decide)) (ze_13 B _ (0) (1)) rfl) ⟨rfl, rfl, by decide, by decide⟩ ⟨Nat.zero_le _, Nat.zero_le _⟩ rfl hl.1 rfl (lv_room (Nat.le_of_ble_eq_true rfl)) zd_O_sky_21 (fun na7 H locs hW hS => ?_)
      refine lv_goto (tgt := 38) C.1 C.2.1 zd_O_sky_24 (by decide) ?_
      cases hf
      exact zre_i C hr hlk hK hW hS na7 zd_O_sky_38
  · rw [if_pos c3] at hf
    refine zr_iconst C zd_O_sky_7 ?_
    cases hf
    exact zre_i C hr hlk hK hW hS (znb rfl) zd_O_sky_8

theorem zc_O_sky {l : Launch} {B : zB} (hap : zAp B) (x1 : Int) (x2 : Int) (S : Sg) (nx1 : zn x1) (nx2 : zn x2) {res : Int} {S9 : Sg} (hf : zf_O_sky x1 x2 S = some (res, S9)) : Met l zy_O_sky (Cond.code zy_O_sky zb_O_sky 3 (some .int) :: zT) zm_O_sky (zP B S [.ref (B.2.1 3 (0) (0)), .int (zI (x1)), .int (zI (x2))]) (zQi B res S9) 0 0 B.2.2.2 :=
  zmet (by decide) (Nat.le_of_ble_eq_true rfl) (fun p e s m args below meth c C hr hlk hK hSt hW ls hl => zw_O_sky C hr hlk hK hSt hap   x1 x2 S nx1 nx2 hf _ _ _ hW va_S.rf hl)
/-! IslandOffice$People.in(I)I -/
abbrev zy_P_in : MethodName := ⟨"IslandOffice$People", "in", "(I)I"⟩
abbrev zb_P_in : ByteArray := prog_7_method_11_code
abbrev zm_P_in : Room := { frames := 0, cells := 0, slots := 0, locals := 0 }
theorem zq_P_in : zMy zy_P_in zb_P_in 4 (some .int) 1 := ⟨zk_1026, zk_1024, zk_1025, zk_4, by decide, by decide, by decide +kernel⟩
theorem zd_P_in_0 : decode zb_P_in 0 = .ok (.iconst 0, 1) := by decide +kernel
theorem zd_P_in_1 : decode zb_P_in 1 = .ok (.istore_n 2, 1) := by decide +kernel
theorem zd_P_in_2 : decode zb_P_in 2 = .ok (.iconst 0, 1) := by decide +kernel
theorem zd_P_in_3 : decode zb_P_in 3 = .ok (.istore_n 3, 1) := by decide +kernel
theorem zd_P_in_4 : decode zb_P_in 4 = .ok (.iload_n 3, 1) := by decide +kernel
theorem zd_P_in_5 : decode zb_P_in 5 = .ok (.aload_n 0, 1) := by decide +kernel
theorem zd_P_in_6 : decode zb_P_in 6 = .ok (.getfield 9, 3) := by decide +kernel
theorem zd_P_in_9 : decode zb_P_in 9 = .ok (.if_icmp .ge 22, 3) := by decide +kernel
theorem zd_P_in_12 : decode zb_P_in 12 = .ok (.aload_n 0, 1) := by decide +kernel
theorem zd_P_in_13 : decode zb_P_in 13 = .ok (.getfield 28, 3) := by decide +kernel
theorem zd_P_in_16 : decode zb_P_in 16 = .ok (.iload_n 3, 1) := by decide +kernel
theorem zd_P_in_17 : decode zb_P_in 17 = .ok (.iaload, 1) := by decide +kernel
theorem zd_P_in_18 : decode zb_P_in 18 = .ok (.iload_n 1, 1) := by decide +kernel
theorem zd_P_in_19 : decode zb_P_in 19 = .ok (.if_icmp .ne 6, 3) := by decide +kernel
theorem zd_P_in_22 : decode zb_P_in 22 = .ok (.iinc 2 1, 3) := by decide +kernel
theorem zd_P_in_25 : decode zb_P_in 25 = .ok (.iinc 3 1, 3) := by decide +kernel
theorem zd_P_in_28 : decode zb_P_in 28 = .ok (.goto (-24), 3) := by decide +kernel
theorem zd_P_in_31 : decode zb_P_in 31 = .ok (.iload_n 2, 1) := by decide +kernel
theorem zd_P_in_32 : decode zb_P_in 32 = .ok (.ireturn, 1) := by decide +kernel

def zf_P_in_25 (r0 : Int) (q4 : Int → Int → Int → Sg → Option (Int × Sg)) (x1 : Int) (x2 : Int) (x3 : Int) (S : Sg) : Option (Int × Sg) :=
    zlt (zw (x3 + 1)) fun v1 => q4 (x1) (x2) (v1) S
set_option maxHeartbeats 4000000 in
set_option maxRecDepth 100000 in
theorem zw_P_in_25 {p : Program} {l : Launch} {e : Env} {s : State} {m : MethodId} {args : Array Value} {below : List Frame} {meth : Method} {c : Code} {B : zB} (C : CallFix p m c zb_P_in 4 s args zT "IslandOffice$People") (hr : meth.sig.returnType = some .int) (hlk : meth.locks = false) (hK : zK B s) (hSt : zSt B s) (hap : zAp B) (r0 : Int) (hr0 : 0 ≤ r0 ∧ r0 < 3) {res : Int} {S9 : Sg} (q4 : Int → Int → Int → Sg → Option (Int × Sg)) (hq4 : ∀ (x1 : Int) (x2 : Int) (x3 : Int) (S : Sg) (nx1 : zn x1) (nx2 : zn x2) (nx3 : zn x3), q4 x1 x2 x3 S = some (res, S9) → ∀ (H : Heap) (locs : List Loc) (ls : Array Slot), zW B S H → va_S B.2.2.2 s.heap H locs → lv_has ls 4 [(0, .ref (B.2.1 0 (r0) (6))), (1, .int (zI (x1))), (2, .int (zI (x2))), (3, .int (zI (x3)))] → W p l e zm_P_in s m args below meth c H locs 0 0 (MQ below (zQi B res S9) args s 0 0 B.2.2.2) (F0 m 4 ls [])) : ∀ (x1 : Int) (x2 : Int) (x3 : Int) (S : Sg) (nx1 : zn x1) (nx2 : zn x2) (nx3 : zn x3), zf_P_in_25 r0 q4 x1 x2 x3 S = some (res, S9) → ∀ (H : Heap) (locs : List Loc) (ls : Array Slot), zW B S H → va_S B.2.2.2 s.heap H locs → lv_has ls 4 [(0, .ref (B.2.1 0 (r0) (6))), (1, .int (zI (x1))), (2, .int (zI (x2))), (3, .int (zI (x3)))] → W p l e zm_P_in s m args below meth c H locs 0 0 (MQ below (zQi B res S9) args s 0 0 B.2.2.2) (F0 m 25 ls []) := by
  intro x1 x2 x3 S nx1 nx2 nx3 hf H locs ls hW hS hl
  unfold zf_P_in_25 at hf
  obtain ⟨v1, ev1, hf⟩ := zlt_some hf
  have nv1 : zn v1 := by rw [← ev1]; exact zn_w _
  refine lv_iinc (v := zI v1) (lv' := [(3, .int (zI (v1))), (0, .ref (B.2.1 0 (r0) (6))), (1, .int (zI (x1))), (2, .int (zI (x2)))]) C.1 C.2.1 zd_P_in_25 hl (k := 3) rfl (by rw [← ev1, ← zI_add]; rfl) (by decide) rfl (fun ls hl => ?_)
  refine lv_goto (tgt := 4) C.1 C.2.1 zd_P_in_28 (by decide) ?_
  exact hq4 (x1) (x2) (v1) S nx1 nx2 nv1 hf _ _ _ hW hS (lv_sub hl [1, 2, 3, 0] rfl)

def zf_P_in_4 (r0 : Int) : Nat → Int → Int → Int → Sg → Option (Int × Sg)
  | 0, _, _, _, _ => none
  | n + 1, x1, x2, x3, S =>
    if (S 0 r0 6 0) ≤ x3 then (some (x2, S)) else (zck (0 ≤ x3 ∧ x3 < 40) <| if (S 0 r0 11 x3) = x1 then (zlt (zw (x2 + 1)) fun v4 => zf_P_in_25 r0 (zf_P_in_4 r0 n) (x1) (v4) (x3) S) else (zf_P_in_25 r0 (zf_P_in_4 r0 n) (x1) (x2) (x3) S))
set_option maxHeartbeats 4000000 in
set_option maxRecDepth 100000 in
theorem zw_P_in_4 {p : Program} {l : Launch} {e : Env} {s : State} {m : MethodId} {args : Array Value} {below : List Frame} {meth : Method} {c : Code} {B : zB} (C : CallFix p m c zb_P_in 4 s args zT "IslandOffice$People") (hr : meth.sig.returnType = some .int) (hlk : meth.locks = false) (hK : zK B s) (hSt : zSt B s) (hap : zAp B) (r0 : Int) (hr0 : 0 ≤ r0 ∧ r0 < 3) {res : Int} {S9 : Sg} : ∀ n : Nat, ∀ (x1 : Int) (x2 : Int) (x3 : Int) (S : Sg) (nx1 : zn x1) (nx2 : zn x2) (nx3 : zn x3), zf_P_in_4 r0 n x1 x2 x3 S = some (res, S9) → ∀ (H : Heap) (locs : List Loc) (ls : Array Slot), zW B S H → va_S B.2.2.2 s.heap H locs → lv_has ls 4 [(0, .ref (B.2.1 0 (r0) (6))), (1, .int (zI (x1))), (2, .int (zI (x2))), (3, .int (zI (x3)))] → W p l e zm_P_in s m args below meth c H locs 0 0 (MQ below (zQi B res S9) args s 0 0 B.2.2.2) (F0 m 4 ls []) := by
  intro n
  induction n with
  | zero =>
    intro x1 x2 x3 S nx1 nx2 nx3 hf H locs ls hW hS hl
    cases hf
  | succ n ih =>
    intro x1 x2 x3 S nx1 nx2 nx3 hf H locs ls hW hS hl
    rw [zf_P_in_4] at hf
    refine lv_iload_n C.1 C.2.1 zd_P_in_4 rfl (lv_at hl 3 rfl) ?_
    refine lv_aload_n C.1 C.2.1 zd_P_in_5 rfl (lv_at hl 0 rfl) ?_
    refine zg_P_n (r := r0) C hK hW (zvd_0 hr0 (by decide)) zk_52 zd_P_in_6 ?_
    refine zr_icmp_ge (tgt := 31) C nx3 (zWn hW _ _ _ _ rfl) zd_P_in_9 (by decide) (fun c1 => ?_) (fun c1 => ?_)
    · rw [if_pos c1] at hf
      refine lv_iload_n C.1 C.2.1 zd_P_in_31 rfl (lv_at hl 2 rfl) ?_
      cases hf
      exact zre_i C hr hlk hK hW hS nx2 zd_P_in_32
    · rw [if_neg c1] at hf
      refine lv_aload_n C.1 C.2.1 zd_P_in_12 rfl (lv_at hl 0 rfl) ?_
      refine zg_P_state (r := r0) C hK hW (zvd_0 hr0 (by decide)) zk_70 zd_P_in_13 ?_
      refine lv_iload_n C.1 C.2.1 zd_P_in_16 rfl (lv_at hl 3 rfl) ?_
      obtain ⟨h2, hf⟩ := zck_some hf
      refine ziald C hK hW (zvd_0 hr0 (by decide)) (fun f => ze_0_11 B f (r0)) (by decide) h2 zd_P_in_17 ?_
      refine lv_iload_n C.1 C.2.1 zd_P_in_18 rfl (lv_at hl 1 rfl) ?_
      refine zr_icmp_ne (tgt := 25) C (zWn hW _ _ _ _ rfl) nx1 zd_P_in_19 (by decide) (fun c3 => ?_) (fun c3 => ?_)
      · rw [if_neg c3] at hf
        exact zw_P_in_25 C hr hlk hK hSt hap r0 hr0 (zf_P_in_4 r0 n) (ih) (x1) (x2) (x3) S nx1 nx2 nx3 hf _ _ _ hW hS (lv_sub hl [0, 1, 2, 3] rfl)
      · rw [if_pos c3] at hf
        obtain ⟨v4, ev4, hf⟩ := zlt_some hf
        have nv4 : zn v4 := by rw [← ev4]; exact zn_w _
        refine lv_iinc (v := zI v4) (lv' := [(2, .int (zI (v4))), (0, .ref (B.2.1 0 (r0) (6))), (1, .int (zI (x1))), (3, .int (zI (x3)))]) C.1 C.2.1 zd_P_in_22 hl (k := 2) rfl (by rw [← ev4, ← zI_add]; rfl) (by decide) rfl (fun ls hl => ?_)
        exact zw_P_in_25 C hr hlk hK hSt hap r0 hr0 (zf_P_in_4 r0 n) (ih) (x1) (v4) (x3) S nx1 nv4 nx3 hf _ _ _ hW hS (lv_sub hl [1, 2, 0, 3] rfl)

def zf_P_in (r0 : Int) (x1 : Int) (S : Sg) : Option (Int × Sg) :=
    zf_P_in_4 r0 4096 (x1) (0) (0) S
set_option maxHeartbeats 4000000 in
set_option maxRecDepth 100000 in
theorem zw_P_in {p : Program} {l : Launch} {e : Env} {s : State} {m : MethodId} {args : Array Value} {below : List Frame} {meth : Method} {c : Code} {B : zB} (C : CallFix p m c zb_P_in 4 s args zT "IslandOffice$People") (hr : meth.sig.returnType = some .int) (hlk : meth.locks = false) (hK : zK B s) (hSt : zSt B s) (hap : zAp B) (r0 : Int) (hr0 : 0 ≤ r0 ∧ r0 < 3) {res : Int} {S9 : Sg} : ∀ (x1 : Int) (S : Sg) (nx1 : zn x1), zf_P_in r0 x1 S = some (res, S9) → ∀ (H : Heap) (locs : List Loc) (ls : Array Slot), zW B S H → va_S B.2.2.2 s.heap H locs → lv_has ls 4 [(0, .ref (B.2.1 0 (r0) (6))), (1, .int (zI (x1)))] → W p l e zm_P_in s m args below meth c H locs 0 0 (MQ below (zQi B res S9) args s 0 0 B.2.2.2) (F0 m 0 ls []) := by
  intro x1 S nx1 hf H locs ls hW hS hl
  unfold zf_P_in at hf
  refine zr_iconst C zd_P_in_0 ?_
  refine lv_istore_n (lv' := [(2, .int (zI (0))), (0, .ref (B.2.1 0 (r0) (6))), (1, .int (zI (x1)))]) C.1 C.2.1 zd_P_in_1 rfl hl (by decide) rfl (fun ls hl => ?_)
  refine zr_iconst C zd_P_in_2 ?_
  refine lv_istore_n (lv' := [(3, .int (zI (0))), (2, .int (zI (0))), (0, .ref (B.2.1 0 (r0) (6))), (1, .int (zI (x1)))]) C.1 C.2.1 zd_P_in_3 rfl hl (by decide) rfl (fun ls hl => ?_)
  exact zw_P_in_4 C hr hlk hK hSt hap r0 hr0 4096 (x1) (0) (0) S nx1 (znb rfl) (znb rfl) hf _ _ _ hW hS (lv_sub hl [2, 3, 1, 0] rfl)

theorem zc_P_in {l : Launch} {B : zB} (hap : zAp B) (r0 : Int) (hr0 : 0 ≤ r0 ∧ r0 < 3) (x1 : Int) (S : Sg) (nx1 : zn x1) {res : Int} {S9 : Sg} (hf : zf_P_in r0 x1 S = some (res, S9)) : Met l zy_P_in (Cond.code zy_P_in zb_P_in 4 (some .int) :: zT) zm_P_in (zP B S [.ref (B.2.1 0 (r0) (6)), .int (zI (x1))]) (zQi B res S9) 0 0 B.2.2.2 :=
  zmet (by decide) (Nat.le_of_ble_eq_true rfl) (fun p e s m args below meth c C hr hlk hK hSt hW ls hl => zw_P_in C hr hlk hK hSt hap r0 hr0 x1 S nx1 hf _ _ _ hW va_S.rf hl)
/-! IslandOffice.noteRecord(I)V -/
abbrev zy_O_noteRecord : MethodName := ⟨"IslandOffice", "noteRecord", "(I)V"⟩
abbrev zb_O_noteRecord : ByteArray := prog_1_method_55_code
abbrev zm_O_noteRecord : Room := { frames := 1, cells := 0, slots := 0, locals := 23 }
theorem zq_O_noteRecord : zMy zy_O_noteRecord zb_O_noteRecord 3 (none) 1 := ⟨zk_1042, zk_1041, zs_38, zk_1, by decide, by decide, by decide +kernel⟩
theorem zd_O_noteRecord_0 : decode zb_O_noteRecord 0 = .ok (.iload_n 1, 1) := by decide +kernel
theorem zd_O_noteRecord_1 : decode zb_O_noteRecord 1 = .ok (.ifCond .lt 10, 3) := by decide +kernel
theorem zd_O_noteRecord_4 : decode zb_O_noteRecord 4 = .ok (.iload_n 1, 1) := by decide +kernel
theorem zd_O_noteRecord_5 : decode zb_O_noteRecord 5 = .ok (.sipush 400, 3) := by decide +kernel
theorem zd_O_noteRecord_8 : decode zb_O_noteRecord 8 = .ok (.if_icmp .lt 4, 3) := by decide +kernel
theorem zd_O_noteRecord_11 : decode zb_O_noteRecord 11 = .ok (.return_, 1) := by decide +kernel
theorem zd_O_noteRecord_12 : decode zb_O_noteRecord 12 = .ok (.iconst 5, 1) := by decide +kernel
theorem zd_O_noteRecord_13 : decode zb_O_noteRecord 13 = .ok (.iload_n 1, 1) := by decide +kernel
theorem zd_O_noteRecord_14 : decode zb_O_noteRecord 14 = .ok (.imul, 1) := by decide +kernel
theorem zd_O_noteRecord_15 : decode zb_O_noteRecord 15 = .ok (.istore_n 2, 1) := by decide +kernel
theorem zd_O_noteRecord_16 : decode zb_O_noteRecord 16 = .ok (.aload_n 0, 1) := by decide +kernel
theorem zd_O_noteRecord_17 : decode zb_O_noteRecord 17 = .ok (.getfield 30, 3) := by decide +kernel
theorem zd_O_noteRecord_20 : decode zb_O_noteRecord 20 = .ok (.iload_n 2, 1) := by decide +kernel
theorem zd_O_noteRecord_21 : decode zb_O_noteRecord 21 = .ok (.aload_n 0, 1) := by decide +kernel
theorem zd_O_noteRecord_22 : decode zb_O_noteRecord 22 = .ok (.getfield 16, 3) := by decide +kernel
theorem zd_O_noteRecord_25 : decode zb_O_noteRecord 25 = .ok (.getfield 81, 3) := by decide +kernel
theorem zd_O_noteRecord_28 : decode zb_O_noteRecord 28 = .ok (.iconst 0, 1) := by decide +kernel
theorem zd_O_noteRecord_29 : decode zb_O_noteRecord 29 = .ok (.invokevirtual 317, 3) := by decide +kernel
theorem zd_O_noteRecord_32 : decode zb_O_noteRecord 32 = .ok (.iastore, 1) := by decide +kernel
theorem zd_O_noteRecord_33 : decode zb_O_noteRecord 33 = .ok (.aload_n 0, 1) := by decide +kernel
theorem zd_O_noteRecord_34 : decode zb_O_noteRecord 34 = .ok (.getfield 30, 3) := by decide +kernel
theorem zd_O_noteRecord_37 : decode zb_O_noteRecord 37 = .ok (.iload_n 2, 1) := by decide +kernel
theorem zd_O_noteRecord_38 : decode zb_O_noteRecord 38 = .ok (.iconst 1, 1) := by decide +kernel
theorem zd_O_noteRecord_39 : decode zb_O_noteRecord 39 = .ok (.iadd, 1) := by decide +kernel
theorem zd_O_noteRecord_40 : decode zb_O_noteRecord 40 = .ok (.aload_n 0, 1) := by decide +kernel
theorem zd_O_noteRecord_41 : decode zb_O_noteRecord 41 = .ok (.getfield 16, 3) := by decide +kernel
theorem zd_O_noteRecord_44 : decode zb_O_noteRecord 44 = .ok (.getfield 81, 3) := by decide +kernel
theorem zd_O_noteRecord_47 : decode zb_O_noteRecord 47 = .ok (.iconst 1, 1) := by decide +kernel
theorem zd_O_noteRecord_48 : decode zb_O_noteRecord 48 = .ok (.invokevirtual 317, 3) := by decide +kernel
theorem zd_O_noteRecord_51 : decode zb_O_noteRecord 51 = .ok (.iastore, 1) := by decide +kernel
theorem zd_O_noteRecord_52 : decode zb_O_noteRecord 52 = .ok (.aload_n 0, 1) := by decide +kernel
theorem zd_O_noteRecord_53 : decode zb_O_noteRecord 53 = .ok (.getfield 30, 3) := by decide +kernel
theorem zd_O_noteRecord_56 : decode zb_O_noteRecord 56 = .ok (.iload_n 2, 1) := by decide +kernel
theorem zd_O_noteRecord_57 : decode zb_O_noteRecord 57 = .ok (.iconst 2, 1) := by decide +kernel
theorem zd_O_noteRecord_58 : decode zb_O_noteRecord 58 = .ok (.iadd, 1) := by decide +kernel
theorem zd_O_noteRecord_59 : decode zb_O_noteRecord 59 = .ok (.aload_n 0, 1) := by decide +kernel
theorem zd_O_noteRecord_60 : decode zb_O_noteRecord 60 = .ok (.getfield 16, 3) := by decide +kernel
theorem zd_O_noteRecord_63 : decode zb_O_noteRecord 63 = .ok (.getfield 247, 3) := by decide +kernel
theorem zd_O_noteRecord_66 : decode zb_O_noteRecord 66 = .ok (.getfield 251, 3) := by decide +kernel
theorem zd_O_noteRecord_69 : decode zb_O_noteRecord 69 = .ok (.iconst 0, 1) := by decide +kernel
theorem zd_O_noteRecord_70 : decode zb_O_noteRecord 70 = .ok (.iaload, 1) := by decide +kernel
theorem zd_O_noteRecord_71 : decode zb_O_noteRecord 71 = .ok (.iastore, 1) := by decide +kernel
theorem zd_O_noteRecord_72 : decode zb_O_noteRecord 72 = .ok (.aload_n 0, 1) := by decide +kernel
theorem zd_O_noteRecord_73 : decode zb_O_noteRecord 73 = .ok (.getfield 30, 3) := by decide +kernel
theorem zd_O_noteRecord_76 : decode zb_O_noteRecord 76 = .ok (.iload_n 2, 1) := by decide +kernel
theorem zd_O_noteRecord_77 : decode zb_O_noteRecord 77 = .ok (.iconst 3, 1) := by decide +kernel
theorem zd_O_noteRecord_78 : decode zb_O_noteRecord 78 = .ok (.iadd, 1) := by decide +kernel
theorem zd_O_noteRecord_79 : decode zb_O_noteRecord 79 = .ok (.aload_n 0, 1) := by decide +kernel
theorem zd_O_noteRecord_80 : decode zb_O_noteRecord 80 = .ok (.getfield 16, 3) := by decide +kernel
theorem zd_O_noteRecord_83 : decode zb_O_noteRecord 83 = .ok (.getfield 287, 3) := by decide +kernel
theorem zd_O_noteRecord_86 : decode zb_O_noteRecord 86 = .ok (.iastore, 1) := by decide +kernel
theorem zd_O_noteRecord_87 : decode zb_O_noteRecord 87 = .ok (.aload_n 0, 1) := by decide +kernel
theorem zd_O_noteRecord_88 : decode zb_O_noteRecord 88 = .ok (.getfield 30, 3) := by decide +kernel
theorem zd_O_noteRecord_91 : decode zb_O_noteRecord 91 = .ok (.iload_n 2, 1) := by decide +kernel
theorem zd_O_noteRecord_92 : decode zb_O_noteRecord 92 = .ok (.iconst 4, 1) := by decide +kernel
theorem zd_O_noteRecord_93 : decode zb_O_noteRecord 93 = .ok (.iadd, 1) := by decide +kernel
theorem zd_O_noteRecord_94 : decode zb_O_noteRecord 94 = .ok (.aload_n 0, 1) := by decide +kernel
theorem zd_O_noteRecord_95 : decode zb_O_noteRecord 95 = .ok (.getfield 67, 3) := by decide +kernel
theorem zd_O_noteRecord_98 : decode zb_O_noteRecord 98 = .ok (.getfield 403, 3) := by decide +kernel
theorem zd_O_noteRecord_101 : decode zb_O_noteRecord 101 = .ok (.iastore, 1) := by decide +kernel
theorem zd_O_noteRecord_102 : decode zb_O_noteRecord 102 = .ok (.return_, 1) := by decide +kernel

def zf_O_noteRecord (x1 : Int) (S : Sg) : Option (Int × Sg) :=
    if x1 < 0 then (some (0, S)) else (if x1 < 400 then (zlt (zw (5 * x1)) fun v3 => zbd (zf_P_in (0) 0 S) fun a4 S5 => zck (0 ≤ v3 ∧ v3 < 2000) <| zlt (zu S5 3 0 1 v3 a4) fun S7 => zbd (zf_P_in (0) 1 S7) fun a8 S9 => zck (0 ≤ (zw (v3 + 1)) ∧ (zw (v3 + 1)) < 2000) <| zlt (zu S9 3 0 1 (zw (v3 + 1)) a8) fun S11 => zck (0 ≤ (zw (v3 + 2)) ∧ (zw (v3 + 2)) < 2000) <| zlt (zu S11 3 0 1 (zw (v3 + 2)) (S11 0 0 32 0)) fun S13 => zck (0 ≤ (zw (v3 + 3)) ∧ (zw (v3 + 3)) < 2000) <| zlt (zu S13 3 0 1 (zw (v3 + 3)) (S13 0 0 0 1)) fun S15 => zck (0 ≤ (zw (v3 + 4)) ∧ (zw (v3 + 4)) < 2000) <| zlt (zu S15 3 0 1 (zw (v3 + 4)) (S15 3 0 15 7)) fun S17 => some (0, S17)) else (some (0, S)))
set_option maxHeartbeats 4000000 in
set_option maxRecDepth 100000 in
theorem zw_O_noteRecord {p : Program} {l : Launch} {e : Env} {s : State} {m : MethodId} {args : Array Value} {below : List Frame} {meth : Method} {c : Code} {B : zB} (C : CallFix p m c zb_O_noteRecord 3 s args zT "IslandOffice") (hr : meth.sig.returnType = none) (hlk : meth.locks = false) (hK : zK B s) (hSt : zSt B s) (hap : zAp B) {res : Int} {S9 : Sg} : ∀ (x1 : Int) (S : Sg) (nx1 : zn x1), zf_O_noteRecord x1 S = some (res, S9) → ∀ (H : Heap) (locs : List Loc) (ls : Array Slot), zW B S H → va_S B.2.2.2 s.heap H locs → lv_has ls 3 [(0, .ref (B.2.1 3 (0) (0))), (1, .int (zI (x1)))] → W p l e zm_O_noteRecord s m args below meth c H locs 0 0 (MQ below (zQv B S9) args s 0 0 B.2.2.2) (F0 m 0 ls []) := by
  intro x1 S nx1 hf H locs ls hW hS hl
  unfold zf_O_noteRecord at hf
  refine lv_iload_n C.1 C.2.1 zd_O_noteRecord_0 rfl (lv_at hl 1 rfl) ?_
  refine zr_if_lt (tgt := 11) C nx1 zd_O_noteRecord_1 (by decide) (fun c1 => ?_) (fun c1 => ?_)
  · rw [if_pos c1] at hf
    cases hf
    exact zre_v C hr hlk hK hW hS zd_O_noteRecord_11
  · rw [if_neg c1] at hf
    refine lv_iload_n C.1 C.2.1 zd_O_noteRecord_4 rfl (lv_at hl 1 rfl) ?_
    refine zr_sipush C zd_O_noteRecord_5 (by decide) ?_
    refine zr_icmp_lt (tgt := 12) C nx1 (znb rfl) zd_O_noteRecord_8 (by decide) (fun c2 => ?_) (fun c2 => ?_)
    · rw [if_pos c2] at hf
      refine zr_iconst C zd_O_noteRecord_12 ?_
      refine lv_iload_n C.1 C.2.1 zd_O_noteRecord_13 rfl (lv_at hl 1 rfl) ?_
      refine zr_imul C zd_O_noteRecord_14 ?_
      obtain ⟨v3, ev3, hf⟩ := zlt_some hf
      have nv3 : zn v3 := by rw [← ev3]; exact (zn_w _)
      rw [ev3]
      refine lv_istore_n (lv' := [(2, .int (zI (v3))), (0, .ref (B.2.1 3 (0) (0))), (1, .int (zI (x1)))]) C.1 C.2.1 zd_O_noteRecord_15 rfl hl (by decide) rfl (fun ls hl => ?_)
      refine lv_aload_n C.1 C.2.1 zd_O_noteRecord_16 rfl (lv_at hl 1 rfl) ?_
      refine zg_O_records (r := 0) C hK hW (zvd_3 (by decide) (by decide)) zk_496 zd_O_noteRecord_17 ?_
      refine lv_iload_n C.1 C.2.1 zd_O_noteRecord_20 rfl (lv_at hl 0 rfl) ?_
      refine lv_aload_n C.1 C.2.1 zd_O_noteRecord_21 rfl (lv_at hl 1 rfl) ?_
      refine zg_O_now (r := 0) C hK hW (zvd_3 (by decide) (by decide)) zk_492 zd_O_noteRecord_22 ?_
      refine zg_I_people (r := 0) C hK hW (zvd_0 (by decide) (by decide)) zk_280 zd_O_noteRecord_25 ?_
      refine zr_iconst C zd_O_noteRecord_28 ?_
      obtain ⟨a4, S5, ea4, hf⟩ := zbd_some hf
      refine zcVi (As := [.int (zI (0))]) (rest := [.int (zI (v3)), .ref (B.2.1 3 (0) (1))]) C hK hSt hW hS (zc_P_in hap (0) (by decide) 0 S (znb rfl) ea4) zq_P_in zk_1043 (zrecv hK hW (zvd_0 (by decide) (by decide)) (ze_0_6 B _ (0)) rfl) ⟨rfl, rfl, by decide, by decide⟩ ⟨Nat.zero_le _, Nat.zero_le _⟩ rfl hl.1 rfl (lv_room (Nat.le_of_ble_eq_true rfl)) zd_O_noteRecord_29 (fun na4 H locs hW hS => ?_)
      obtain ⟨h6, hf⟩ := zck_some hf
      obtain ⟨S7, eS7, hf⟩ := zlt_some hf
      refine ziast C hK hap hW hS (zvd_3 (by decide) (by decide)) (fun f => ze_3_1 B f (0)) (by decide) rfl na4 h6 zd_O_noteRecord_32 (fun H locs hW hS => ?_)
      rw [eS7] at hW
      refine lv_aload_n C.1 C.2.1 zd_O_noteRecord_33 rfl (lv_at hl 1 rfl) ?_
      refine zg_O_records (r := 0) C hK hW (zvd_3 (by decide) (by decide)) zk_496 zd_O_noteRecord_34 ?_
      refine lv_iload_n C.1 C.2.1 zd_O_noteRecord_37 rfl (lv_at hl 0 rfl) ?_
      refine zr_iconst C zd_O_noteRecord_38 ?_
      refine zr_iadd C zd_O_noteRecord_39 ?_
      refine lv_aload_n C.1 C.2.1 zd_O_noteRecord_40 rfl (lv_at hl 1 rfl) ?_
      refine zg_O_now (r := 0) C hK hW (zvd_3 (by decide) (by decide)) zk_492 zd_O_noteRecord_41 ?_
      refine zg_I_people (r := 0) C hK hW (zvd_0 (by decide) (by decide)) zk_280 zd_O_noteRecord_44 ?_
      refine zr_iconst C zd_O_noteRecord_47 ?_
      obtain ⟨a8, S9, ea8, hf⟩ := zbd_some hf
      refine zcVi (As := [.int (zI (1))]) (rest := [.int (zI (zw (v3 + 1))), .ref (B.2.1 3 (0) (1))]) C hK hSt hW hS (zc_P_in hap (0) (by decide) 1 S7 (znb rfl) ea8) zq_P_in zk_1043 (zrecv hK hW (zvd_0 (by decide) (by decide)) (ze_0_6 B _ (0)) rfl) ⟨rfl, rfl, by decide, by decide⟩ ⟨Nat.zero_le _, Nat.zero_le _⟩ rfl hl.1 rfl (lv_room (Nat.le_of_ble_eq_true rfl)) zd_O_noteRecord_48 (fun na8 H locs hW hS => ?_)
      obtain ⟨h10, hf⟩ := zck_some hf
      obtain ⟨S11, eS11, hf⟩ := zlt_some hf
      refine ziast C hK hap hW hS (zvd_3 (by decide) (by decide)) (fun f => ze_3_1 B f (0)) (by decide) rfl na8 h10 zd_O_noteRecord_51 (fun H locs hW hS => ?_)
      rw [eS11] at hW
      refine lv_aload_n C.1 C.2.1 zd_O_noteRecord_52 rfl (lv_at hl 1 rfl) ?_
      refine zg_O_records (r := 0) C hK hW (zvd_3 (by decide) (by decide)) zk_496 zd_O_noteRecord_53 ?_
      refine lv_iload_n C.1 C.2.1 zd_O_noteRecord_56 rfl (lv_at hl 0 rfl) ?_
      refine zr_iconst C zd_O_noteRecord_57 ?_
      refine zr_iadd C zd_O_noteRecord_58 ?_
      refine lv_aload_n C.1 C.2.1 zd_O_noteRecord_59 rfl (lv_at hl 1 rfl) ?_
      refine zg_O_now (r := 0) C hK hW (zvd_3 (by decide) (by decide)) zk_492 zd_O_noteRecord_60 ?_
      refine zg_I_stores (r := 0) C hK hW (zvd_0 (by decide) (by decide)) zk_292 zd_O_noteRecord_63 ?_
      refine zg_T_stock (r := 0) C hK hW (zvd_0 (by decide) (by decide)) zk_199 zd_O_noteRecord_66 ?_
      refine zr_iconst C zd_O_noteRecord_69 ?_
      refine ziald C hK hW (zvd_0 (by decide) (by decide)) (fun f => ze_0_32 B f (0)) (by decide) (by decide) zd_O_noteRecord_70 ?_
      obtain ⟨h12, hf⟩ := zck_some hf
      obtain ⟨S13, eS13, hf⟩ := zlt_some hf
      refine ziast C hK hap hW hS (zvd_3 (by decide) (by decide)) (fun f => ze_3_1 B f (0)) (by decide) rfl (zWn hW _ _ _ _ rfl) h12 zd_O_noteRecord_71 (fun H locs hW hS => ?_)
      rw [eS13] at hW
      refine lv_aload_n C.1 C.2.1 zd_O_noteRecord_72 rfl (lv_at hl 1 rfl) ?_
      refine zg_O_records (r := 0) C hK hW (zvd_3 (by decide) (by decide)) zk_496 zd_O_noteRecord_73 ?_
      refine lv_iload_n C.1 C.2.1 zd_O_noteRecord_76 rfl (lv_at hl 0 rfl) ?_
      refine zr_iconst C zd_O_noteRecord_77 ?_
      refine zr_iadd C zd_O_noteRecord_78 ?_
      refine lv_aload_n C.1 C.2.1 zd_O_noteRecord_79 rfl (lv_at hl 1 rfl) ?_
      refine zg_O_now (r := 0) C hK hW (zvd_3 (by decide) (by decide)) zk_492 zd_O_noteRecord_80 ?_
      refine zg_I_purse (r := 0) C hK hW (zvd_0 (by decide) (by decide)) zk_246 zd_O_noteRecord_83 ?_
      obtain ⟨h14, hf⟩ := zck_some hf
      obtain ⟨S15, eS15, hf⟩ := zlt_some hf
      refine ziast C hK hap hW hS (zvd_3 (by decide) (by decide)) (fun f => ze_3_1 B f (0)) (by decide) rfl (zWn hW _ _ _ _ rfl) h14 zd_O_noteRecord_86 (fun H locs hW hS => ?_)
      rw [eS15] at hW
      refine lv_aload_n C.1 C.2.1 zd_O_noteRecord_87 rfl (lv_at hl 1 rfl) ?_
      refine zg_O_records (r := 0) C hK hW (zvd_3 (by decide) (by decide)) zk_496 zd_O_noteRecord_88 ?_
      refine lv_iload_n C.1 C.2.1 zd_O_noteRecord_91 rfl (lv_at hl 0 rfl) ?_
      refine zr_iconst C zd_O_noteRecord_92 ?_
      refine zr_iadd C zd_O_noteRecord_93 ?_
      refine lv_aload_n C.1 C.2.1 zd_O_noteRecord_94 rfl (lv_at hl 1 rfl) ?_
      refine zg_O_almanac (r := 0) C hK hW (zvd_3 (by decide) (by decide)) zk_501 zd_O_noteRecord_95 ?_
      refine zg_A_filledPosts (r := 0) C hK hW (zvd_3 (by decide) (by decide)) zk_474 zd_O_noteRecord_98 ?_
      obtain ⟨h16, hf⟩ := zck_some hf
      obtain ⟨S17, eS17, hf⟩ := zlt_some hf
      refine ziast C hK hap hW hS (zvd_3 (by decide) (by decide)) (fun f => ze_3_1 B f (0)) (by decide) rfl (zWn hW _ _ _ _ rfl) h16 zd_O_noteRecord_101 (fun H locs hW hS => ?_)
      rw [eS17] at hW
      cases hf
      exact zre_v C hr hlk hK hW hS zd_O_noteRecord_102
    · rw [if_neg c2] at hf
      cases hf
      exact zre_v C hr hlk hK hW hS zd_O_noteRecord_11

theorem zc_O_noteRecord {l : Launch} {B : zB} (hap : zAp B) (x1 : Int) (S : Sg) (nx1 : zn x1) {res : Int} {S9 : Sg} (hf : zf_O_noteRecord x1 S = some (res, S9)) : Met l zy_O_noteRecord (Cond.code zy_O_noteRecord zb_O_noteRecord 3 (none) :: zT) zm_O_noteRecord (zP B S [.ref (B.2.1 3 (0) (0)), .int (zI (x1))]) (zQv B S9) 0 0 B.2.2.2 :=
  zmet (by decide) (Nat.le_of_ble_eq_true rfl) (fun p e s m args below meth c C hr hlk hK hSt hW ls hl => zw_O_noteRecord C hr hlk hK hSt hap   x1 S nx1 hf _ _ _ hW va_S.rf hl)
