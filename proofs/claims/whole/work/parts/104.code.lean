/-! IslandOffice$Stores.gain(II)V -/
abbrev zy_T_gain : MethodName := ⟨"IslandOffice$Stores", "gain", "(II)V"⟩
abbrev zb_T_gain : ByteArray := prog_12_method_5_code
abbrev zm_T_gain : Room := { frames := 1, cells := 0, slots := 0, locals := 64 }
theorem zq_T_gain : zMy zy_T_gain zb_T_gain 3 (none) 2 := ⟨zk_972, zk_970, zk_971, zk_7, by decide, by decide, by decide +kernel⟩
theorem zd_T_gain_0 : decode zb_T_gain 0 = .ok (.aload_n 0, 1) := by decide +kernel
theorem zd_T_gain_1 : decode zb_T_gain 1 = .ok (.getfield 9, 3) := by decide +kernel
theorem zd_T_gain_4 : decode zb_T_gain 4 = .ok (.iload_n 1, 1) := by decide +kernel
theorem zd_T_gain_5 : decode zb_T_gain 5 = .ok (.sipush 9999, 3) := by decide +kernel
theorem zd_T_gain_8 : decode zb_T_gain 8 = .ok (.aload_n 0, 1) := by decide +kernel
theorem zd_T_gain_9 : decode zb_T_gain 9 = .ok (.getfield 9, 3) := by decide +kernel
theorem zd_T_gain_12 : decode zb_T_gain 12 = .ok (.iload_n 1, 1) := by decide +kernel
theorem zd_T_gain_13 : decode zb_T_gain 13 = .ok (.iaload, 1) := by decide +kernel
theorem zd_T_gain_14 : decode zb_T_gain 14 = .ok (.iload_n 2, 1) := by decide +kernel
theorem zd_T_gain_15 : decode zb_T_gain 15 = .ok (.iadd, 1) := by decide +kernel
theorem zd_T_gain_16 : decode zb_T_gain 16 = .ok (.invokestatic 41, 3) := by decide +kernel
theorem zd_T_gain_19 : decode zb_T_gain 19 = .ok (.iastore, 1) := by decide +kernel
theorem zd_T_gain_20 : decode zb_T_gain 20 = .ok (.return_, 1) := by decide +kernel

def zf_T_gain (r0 : Int) (x1 : Int) (x2 : Int) (S : Sg) : Option (Int × Sg) :=
    zck (0 ≤ x1 ∧ x1 < 4) <| zlt (zu S 0 r0 32 x1 (min 9999 (zw ((S 0 r0 32 x1) + x2)))) fun S2 => some (0, S2)
set_option maxHeartbeats 4000000 in
set_option maxRecDepth 100000 in
theorem zw_T_gain {p : Program} {l : Launch} {e : Env} {s : State} {m : MethodId} {args : Array Value} {below : List Frame} {meth : Method} {c : Code} {B : zB} (C : CallFix p m c zb_T_gain 3 s args zT "IslandOffice$Stores") (hr : meth.sig.returnType = none) (hlk : meth.locks = false) (hK : zK B s) (hSt : zSt B s) (hap : zAp B) (r0 : Int) (hr0 : 0 ≤ r0 ∧ r0 < 3) {res : Int} {S9 : Sg} : ∀ (x1 : Int) (x2 : Int) (S : Sg) (nx1 : zn x1) (nx2 : zn x2), zf_T_gain r0 x1 x2 S = some (res, S9) → ∀ (H : Heap) (locs : List Loc) (ls : Array Slot), zW B S H → va_S B.2.2.2 s.heap H locs → lv_has ls 3 [(0, .ref (B.2.1 0 (r0) (31))), (1, .int (zI (x1))), (2, .int (zI (x2)))] → W p l e zm_T_gain s m args below meth c H locs 0 0 (MQ below (zQv B S9) args s 0 0 B.2.2.2) (F0 m 0 ls []) := by
  intro x1 x2 S nx1 nx2 hf H locs ls hW hS hl
  unfold zf_T_gain at hf
  refine lv_aload_n C.1 C.2.1 zd_T_gain_0 rfl (lv_at hl 0 rfl) ?_
  refine zg_T_stock (r := r0) C hK hW (zvd_0 hr0 (by decide)) zk_197 zd_T_gain_1 ?_
  refine lv_iload_n C.1 C.2.1 zd_T_gain_4 rfl (lv_at hl 1 rfl) ?_
  refine zr_sipush C zd_T_gain_5 (by decide) ?_
  refine lv_aload_n C.1 C.2.1 zd_T_gain_8 rfl (lv_at hl 0 rfl) ?_
  refine zg_T_stock (r := r0) C hK hW (zvd_0 hr0 (by decide)) zk_197 zd_T_gain_9 ?_
  refine lv_iload_n C.1 C.2.1 zd_T_gain_12 rfl (lv_at hl 1 rfl) ?_
  obtain ⟨h1, hf⟩ := zck_some hf
  refine ziald C hK hW (zvd_0 hr0 (by decide)) (fun f => ze_0_32 B f (r0)) (by decide) h1 zd_T_gain_13 ?_
  refine lv_iload_n C.1 C.2.1 zd_T_gain_14 rfl (lv_at hl 2 rfl) ?_
  refine zr_iadd C zd_T_gain_15 ?_
  refine zr_min C hl.1 (znb rfl) (zn_w _) zk_973 zk_909 zk_16 zk_910 (by decide) (Nat.le_of_ble_eq_true rfl) ⟨by decide, by decide⟩ zd_T_gain_16 ?_
  obtain ⟨S2, eS2, hf⟩ := zlt_some hf
  refine ziast C hK hap hW hS (zvd_0 hr0 (by decide)) (fun f => ze_0_32 B f (r0)) (by decide) rfl (zn_min (znb rfl) (zn_w _)) h1 zd_T_gain_19 (fun H locs hW hS => ?_)
  rw [eS2] at hW
  cases hf
  exact zre_v C hr hlk hK hW hS zd_T_gain_20

theorem zc_T_gain {l : Launch} {B : zB} (hap : zAp B) (r0 : Int) (hr0 : 0 ≤ r0 ∧ r0 < 3) (x1 : Int) (x2 : Int) (S : Sg) (nx1 : zn x1) (nx2 : zn x2) {res : Int} {S9 : Sg} (hf : zf_T_gain r0 x1 x2 S = some (res, S9)) : Met l zy_T_gain (Cond.code zy_T_gain zb_T_gain 3 (none) :: zT) zm_T_gain (zP B S [.ref (B.2.1 0 (r0) (31)), .int (zI (x1)), .int (zI (x2))]) (zQv B S9) 0 0 B.2.2.2 :=
  zmet (by decide) (Nat.le_of_ble_eq_true rfl) (fun p e s m args below meth c C hr hlk hK hSt hW ls hl => zw_T_gain C hr hlk hK hSt hap r0 hr0 x1 x2 S nx1 nx2 hf _ _ _ hW va_S.rf hl)
/-! IslandOffice$Almanac.work(LIslandOffice$Island;Z)V -/
abbrev zy_A_work : MethodName := ⟨"IslandOffice$Almanac", "work", "(LIslandOffice$Island;Z)V"⟩
abbrev zb_A_work : ByteArray := prog_2_method_8_code
abbrev zm_A_work : Room := { frames := 2, cells := 0, slots := 0, locals := 86 }
theorem zq_A_work : zMy zy_A_work zb_A_work 7 (none) 2 := ⟨zk_968, zk_967, zs_30, zk_13, by decide, by decide, by decide +kernel⟩
theorem zd_A_work_0 : decode zb_A_work 0 = .ok (.iconst 0, 1) := by decide +kernel
theorem zd_A_work_1 : decode zb_A_work 1 = .ok (.istore_n 3, 1) := by decide +kernel
theorem zd_A_work_2 : decode zb_A_work 2 = .ok (.iload_n 3, 1) := by decide +kernel
theorem zd_A_work_3 : decode zb_A_work 3 = .ok (.aload_n 1, 1) := by decide +kernel
theorem zd_A_work_4 : decode zb_A_work 4 = .ok (.getfield 116, 3) := by decide +kernel
theorem zd_A_work_7 : decode zb_A_work 7 = .ok (.getfield 120, 3) := by decide +kernel
theorem zd_A_work_10 : decode zb_A_work 10 = .ok (.if_icmp .ge 19, 3) := by decide +kernel
theorem zd_A_work_13 : decode zb_A_work 13 = .ok (.aload_n 1, 1) := by decide +kernel
theorem zd_A_work_14 : decode zb_A_work 14 = .ok (.getfield 116, 3) := by decide +kernel
theorem zd_A_work_17 : decode zb_A_work 17 = .ok (.getfield 176, 3) := by decide +kernel
theorem zd_A_work_20 : decode zb_A_work 20 = .ok (.iload_n 3, 1) := by decide +kernel
theorem zd_A_work_21 : decode zb_A_work 21 = .ok (.iconst (-1), 1) := by decide +kernel
theorem zd_A_work_22 : decode zb_A_work 22 = .ok (.iastore, 1) := by decide +kernel
theorem zd_A_work_23 : decode zb_A_work 23 = .ok (.iinc 3 1, 3) := by decide +kernel
theorem zd_A_work_26 : decode zb_A_work 26 = .ok (.goto (-24), 3) := by decide +kernel
theorem zd_A_work_29 : decode zb_A_work 29 = .ok (.iconst 0, 1) := by decide +kernel
theorem zd_A_work_30 : decode zb_A_work 30 = .ok (.istore_n 3, 1) := by decide +kernel
theorem zd_A_work_31 : decode zb_A_work 31 = .ok (.iload_n 3, 1) := by decide +kernel
theorem zd_A_work_32 : decode zb_A_work 32 = .ok (.aload_n 1, 1) := by decide +kernel
theorem zd_A_work_33 : decode zb_A_work 33 = .ok (.getfield 179, 3) := by decide +kernel
theorem zd_A_work_36 : decode zb_A_work 36 = .ok (.getfield 183, 3) := by decide +kernel
theorem zd_A_work_39 : decode zb_A_work 39 = .ok (.if_icmp .ge 109, 3) := by decide +kernel
theorem zd_A_work_42 : decode zb_A_work 42 = .ok (.aload_n 0, 1) := by decide +kernel
theorem zd_A_work_43 : decode zb_A_work 43 = .ok (.getfield 15, 3) := by decide +kernel
theorem zd_A_work_46 : decode zb_A_work 46 = .ok (.getfield 186, 3) := by decide +kernel
theorem zd_A_work_49 : decode zb_A_work 49 = .ok (.iload_n 3, 1) := by decide +kernel
theorem zd_A_work_50 : decode zb_A_work 50 = .ok (.laload, 1) := by decide +kernel
theorem zd_A_work_51 : decode zb_A_work 51 = .ok (.lstore 4, 2) := by decide +kernel
theorem zd_A_work_53 : decode zb_A_work 53 = .ok (.iconst 0, 1) := by decide +kernel
theorem zd_A_work_54 : decode zb_A_work 54 = .ok (.istore 6, 2) := by decide +kernel
theorem zd_A_work_56 : decode zb_A_work 56 = .ok (.iload 6, 2) := by decide +kernel
theorem zd_A_work_58 : decode zb_A_work 58 = .ok (.aload_n 1, 1) := by decide +kernel
theorem zd_A_work_59 : decode zb_A_work 59 = .ok (.getfield 116, 3) := by decide +kernel
theorem zd_A_work_62 : decode zb_A_work 62 = .ok (.getfield 120, 3) := by decide +kernel
theorem zd_A_work_65 : decode zb_A_work 65 = .ok (.if_icmp .ge 39, 3) := by decide +kernel
theorem zd_A_work_68 : decode zb_A_work 68 = .ok (.lload 4, 2) := by decide +kernel
theorem zd_A_work_70 : decode zb_A_work 70 = .ok (.lconst 0, 1) := by decide +kernel
theorem zd_A_work_71 : decode zb_A_work 71 = .ok (.lcmp, 1) := by decide +kernel
theorem zd_A_work_72 : decode zb_A_work 72 = .ok (.ifCond .eq 32, 3) := by decide +kernel
theorem zd_A_work_75 : decode zb_A_work 75 = .ok (.lload 4, 2) := by decide +kernel
theorem zd_A_work_77 : decode zb_A_work 77 = .ok (.iload 6, 2) := by decide +kernel
theorem zd_A_work_79 : decode zb_A_work 79 = .ok (.lshr, 1) := by decide +kernel
theorem zd_A_work_80 : decode zb_A_work 80 = .ok (.lconst 1, 1) := by decide +kernel
theorem zd_A_work_81 : decode zb_A_work 81 = .ok (.land, 1) := by decide +kernel
theorem zd_A_work_82 : decode zb_A_work 82 = .ok (.lconst 1, 1) := by decide +kernel
theorem zd_A_work_83 : decode zb_A_work 83 = .ok (.lcmp, 1) := by decide +kernel
theorem zd_A_work_84 : decode zb_A_work 84 = .ok (.ifCond .ne 14, 3) := by decide +kernel
theorem zd_A_work_87 : decode zb_A_work 87 = .ok (.aload_n 1, 1) := by decide +kernel
theorem zd_A_work_88 : decode zb_A_work 88 = .ok (.getfield 116, 3) := by decide +kernel
theorem zd_A_work_91 : decode zb_A_work 91 = .ok (.getfield 176, 3) := by decide +kernel
theorem zd_A_work_94 : decode zb_A_work 94 = .ok (.iload 6, 2) := by decide +kernel
theorem zd_A_work_96 : decode zb_A_work 96 = .ok (.iload_n 3, 1) := by decide +kernel
theorem zd_A_work_97 : decode zb_A_work 97 = .ok (.iastore, 1) := by decide +kernel
theorem zd_A_work_98 : decode zb_A_work 98 = .ok (.iinc 6 1, 3) := by decide +kernel
theorem zd_A_work_101 : decode zb_A_work 101 = .ok (.goto (-45), 3) := by decide +kernel
theorem zd_A_work_104 : decode zb_A_work 104 = .ok (.lload 4, 2) := by decide +kernel
theorem zd_A_work_106 : decode zb_A_work 106 = .ok (.lconst 0, 1) := by decide +kernel
theorem zd_A_work_107 : decode zb_A_work 107 = .ok (.lcmp, 1) := by decide +kernel
theorem zd_A_work_108 : decode zb_A_work 108 = .ok (.ifCond .eq 34, 3) := by decide +kernel
theorem zd_A_work_111 : decode zb_A_work 111 = .ok (.aload_n 1, 1) := by decide +kernel
theorem zd_A_work_112 : decode zb_A_work 112 = .ok (.getfield 179, 3) := by decide +kernel
theorem zd_A_work_115 : decode zb_A_work 115 = .ok (.getfield 190, 3) := by decide +kernel
theorem zd_A_work_118 : decode zb_A_work 118 = .ok (.iload_n 3, 1) := by decide +kernel
theorem zd_A_work_119 : decode zb_A_work 119 = .ok (.iaload, 1) := by decide +kernel
theorem zd_A_work_120 : decode zb_A_work 120 = .ok (.iconst 3, 1) := by decide +kernel
theorem zd_A_work_121 : decode zb_A_work 121 = .ok (.if_icmp .ne 21, 3) := by decide +kernel
theorem zd_A_work_124 : decode zb_A_work 124 = .ok (.iload_n 2, 1) := by decide +kernel
theorem zd_A_work_125 : decode zb_A_work 125 = .ok (.ifCond .eq 17, 3) := by decide +kernel
theorem zd_A_work_128 : decode zb_A_work 128 = .ok (.aload_n 1, 1) := by decide +kernel
theorem zd_A_work_129 : decode zb_A_work 129 = .ok (.getfield 90, 3) := by decide +kernel
theorem zd_A_work_132 : decode zb_A_work 132 = .ok (.iconst 0, 1) := by decide +kernel
theorem zd_A_work_133 : decode zb_A_work 133 = .ok (.aload_n 1, 1) := by decide +kernel
theorem zd_A_work_134 : decode zb_A_work 134 = .ok (.getfield 54, 3) := by decide +kernel
theorem zd_A_work_137 : decode zb_A_work 137 = .ok (.iconst 2, 1) := by decide +kernel
theorem zd_A_work_138 : decode zb_A_work 138 = .ok (.iaload, 1) := by decide +kernel
theorem zd_A_work_139 : decode zb_A_work 139 = .ok (.invokevirtual 193, 3) := by decide +kernel
theorem zd_A_work_142 : decode zb_A_work 142 = .ok (.iinc 3 1, 3) := by decide +kernel
theorem zd_A_work_145 : decode zb_A_work 145 = .ok (.goto (-114), 3) := by decide +kernel
theorem zd_A_work_148 : decode zb_A_work 148 = .ok (.return_, 1) := by decide +kernel

def zf_A_work_142 (r1 : Int) (q31 : Int → Int → Sg → Option (Int × Sg)) (x2 : Int) (x3 : Int) (S : Sg) : Option (Int × Sg) :=
    zlt (zw (x3 + 1)) fun v1 => q31 (x2) (v1) S
set_option maxHeartbeats 4000000 in
set_option maxRecDepth 100000 in
theorem zw_A_work_142 {p : Program} {l : Launch} {e : Env} {s : State} {m : MethodId} {args : Array Value} {below : List Frame} {meth : Method} {c : Code} {B : zB} (C : CallFix p m c zb_A_work 7 s args zT "IslandOffice$Almanac") (hr : meth.sig.returnType = none) (hlk : meth.locks = false) (hK : zK B s) (hSt : zSt B s) (hap : zAp B) (r1 : Int) (hr1 : 0 ≤ r1 ∧ r1 < 3) {res : Int} {S9 : Sg} (q31 : Int → Int → Sg → Option (Int × Sg)) (hq31 : ∀ (x2 : Int) (x3 : Int) (S : Sg) (nx2 : zn x2) (nx3 : zn x3), q31 x2 x3 S = some (res, S9) → ∀ (H : Heap) (locs : List Loc) (ls : Array Slot), zW B S H → va_S B.2.2.2 s.heap H locs → lv_has ls 7 [(0, .ref (B.2.1 3 (0) (15))), (1, .ref (B.2.1 0 (r1) (0))), (2, .int (zI (x2))), (3, .int (zI (x3)))] → W p l e zm_A_work s m args below meth c H locs 0 0 (MQ below (zQv B S9) args s 0 0 B.2.2.2) (F0 m 31 ls [])) : ∀ (x2 : Int) (x3 : Int) (S : Sg) (nx2 : zn x2) (nx3 : zn x3), zf_A_work_142 r1 q31 x2 x3 S = some (res, S9) → ∀ (H : Heap) (locs : List Loc) (ls : Array Slot), zW B S H → va_S B.2.2.2 s.heap H locs → lv_has ls 7 [(0, .ref (B.2.1 3 (0) (15))), (1, .ref (B.2.1 0 (r1) (0))), (2, .int (zI (x2))), (3, .int (zI (x3)))] → W p l e zm_A_work s m args below meth c H locs 0 0 (MQ below (zQv B S9) args s 0 0 B.2.2.2) (F0 m 142 ls []) := by
  intro x2 x3 S nx2 nx3 hf H locs ls hW hS hl
  unfold zf_A_work_142 at hf
  obtain ⟨v1, ev1, hf⟩ := zlt_some hf
  have nv1 : zn v1 := by rw [← ev1]; exact zn_w _
  refine lv_iinc (v := zI v1) (lv' := [(3, .int (zI (v1))), (0, .ref (B.2.1 3 (0) (15))), (1, .ref (B.2.1 0 (r1) (0))), (2, .int (zI (x2)))]) C.1 C.2.1 zd_A_work_142 hl (k := 3) rfl (by rw [← ev1, ← zI_add]; rfl) (by decide) rfl (fun ls hl => ?_)
  refine lv_goto (tgt := 31) C.1 C.2.1 zd_A_work_145 (by decide) ?_
  exact hq31 (x2) (v1) S nx2 nv1 hf _ _ _ hW hS (lv_sub hl [1, 2, 3, 0] rfl)

def zf_A_work_104 (r1 : Int) (q31 : Int → Int → Sg → Option (Int × Sg)) (x2 : Int) (x3 : Int) (x4 : Int) (S : Sg) : Option (Int × Sg) :=
    if (zcmp x4 0) = 0 then (zf_A_work_142 r1 q31 (x2) (x3) S) else (zck (0 ≤ x3 ∧ x3 < 8) <| if (S 0 r1 29 x3) = 3 then (if x2 = 0 then (zf_A_work_142 r1 q31 (x2) (x3) S) else (zbd (zf_T_gain (r1) 0 (S 0 r1 1 2) S) fun a5 S6 => zf_A_work_142 r1 q31 (x2) (x3) S6)) else (zf_A_work_142 r1 q31 (x2) (x3) S))
set_option maxHeartbeats 4000000 in
set_option maxRecDepth 100000 in
theorem zw_A_work_104 {p : Program} {l : Launch} {e : Env} {s : State} {m : MethodId} {args : Array Value} {below : List Frame} {meth : Method} {c : Code} {B : zB} (C : CallFix p m c zb_A_work 7 s args zT "IslandOffice$Almanac") (hr : meth.sig.returnType = none) (hlk : meth.locks = false) (hK : zK B s) (hSt : zSt B s) (hap : zAp B) (r1 : Int) (hr1 : 0 ≤ r1 ∧ r1 < 3) {res : Int} {S9 : Sg} (q31 : Int → Int → Sg → Option (Int × Sg)) (hq31 : ∀ (x2 : Int) (x3 : Int) (S : Sg) (nx2 : zn x2) (nx3 : zn x3), q31 x2 x3 S = some (res, S9) → ∀ (H : Heap) (locs : List Loc) (ls : Array Slot), zW B S H → va_S B.2.2.2 s.heap H locs → lv_has ls 7 [(0, .ref (B.2.1 3 (0) (15))), (1, .ref (B.2.1 0 (r1) (0))), (2, .int (zI (x2))), (3, .int (zI (x3)))] → W p l e zm_A_work s m args below meth c H locs 0 0 (MQ below (zQv B S9) args s 0 0 B.2.2.2) (F0 m 31 ls [])) : ∀ (x2 : Int) (x3 : Int) (x4 : Int) (S : Sg) (nx2 : zn x2) (nx3 : zn x3) (nx4 : zm x4), zf_A_work_104 r1 q31 x2 x3 x4 S = some (res, S9) → ∀ (H : Heap) (locs : List Loc) (ls : Array Slot), zW B S H → va_S B.2.2.2 s.heap H locs → lv_has ls 7 [(0, .ref (B.2.1 3 (0) (15))), (1, .ref (B.2.1 0 (r1) (0))), (2, .int (zI (x2))), (3, .int (zI (x3))), (4, .long (zL (x4)))] → W p l e zm_A_work s m args below meth c H locs 0 0 (MQ below (zQv B S9) args s 0 0 B.2.2.2) (F0 m 104 ls []) := by
  intro x2 x3 x4 S nx2 nx3 nx4 hf H locs ls hW hS hl
  unfold zf_A_work_104 at hf
  refine lv_lload C.1 C.2.1 zd_A_work_104 (lv_at hl 4 rfl) ?_
  refine zr_lconst (k := 0) C zd_A_work_106 rfl ?_
  refine zr_lcmp C nx4 (zmb rfl) zd_A_work_107 ?_
  refine zr_if_eq (tgt := 142) C (zn_cmp _ _) zd_A_work_108 (by decide) (fun c1 => ?_) (fun c1 => ?_)
  · rw [if_pos c1] at hf
    exact zw_A_work_142 C hr hlk hK hSt hap r1 hr1 q31 hq31 (x2) (x3) S nx2 nx3 hf _ _ _ hW hS (lv_sub hl [0, 1, 2, 3] rfl)
  · rw [if_neg c1] at hf
    refine lv_aload_n C.1 C.2.1 zd_A_work_111 rfl (lv_at hl 1 rfl) ?_
    refine zg_I_posts (r := r1) C hK hW (zvd_0 hr1 (by decide)) zk_288 zd_A_work_112 ?_
    refine zg_Q_sort (r := r1) C hK hW (zvd_0 hr1 (by decide)) zk_176 zd_A_work_115 ?_
    refine lv_iload_n C.1 C.2.1 zd_A_work_118 rfl (lv_at hl 3 rfl) ?_
    obtain ⟨h2, hf⟩ := zck_some hf
    refine ziald C hK hW (zvd_0 hr1 (by decide)) (fun f => ze_0_29 B f (r1)) (by decide) h2 zd_A_work_119 ?_
    refine zr_iconst C zd_A_work_120 ?_
    refine zr_icmp_ne (tgt := 142) C (zWn hW _ _ _ _ rfl) (znb rfl) zd_A_work_121 (by decide) (fun c3 => ?_) (fun c3 => ?_)
    · rw [if_neg c3] at hf
      exact zw_A_work_142 C hr hlk hK hSt hap r1 hr1 q31 hq31 (x2) (x3) S nx2 nx3 hf _ _ _ hW hS (lv_sub hl [0, 1, 2, 3] rfl)
    · rw [if_pos c3] at hf
      refine lv_iload_n C.1 C.2.1 zd_A_work_124 rfl (lv_at hl 2 rfl) ?_
      refine zr_if_eq (tgt := 142) C nx2 zd_A_work_125 (by decide) (fun c4 => ?_) (fun c4 => ?_)
      · rw [if_pos c4] at hf
        exact zw_A_work_142 C hr hlk hK hSt hap r1 hr1 q31 hq31 (x2) (x3) S nx2 nx3 hf _ _ _ hW hS (lv_sub hl [0, 1, 2, 3] rfl)
      · rw [if_neg c4] at hf
        refine lv_aload_n C.1 C.2.1 zd_A_work_128 rfl (lv_at hl 1 rfl) ?_
        refine zg_I_stores (r := r1) C hK hW (zvd_0 hr1 (by decide)) zk_291 zd_A_work_129 ?_
        refine zr_iconst C zd_A_work_132 ?_
        refine lv_aload_n C.1 C.2.1 zd_A_work_133 rfl (lv_at hl 1 rfl) ?_
        refine zg_I_settings (r := r1) C hK hW (zvd_0 hr1 (by decide)) zk_263 zd_A_work_134 ?_
        refine zr_iconst C zd_A_work_137 ?_
        refine ziald C hK hW (zvd_0 hr1 (by decide)) (fun f => ze_0_1 B f (r1)) (by decide) (by decide) zd_A_work_138 ?_
        obtain ⟨a5, S6, ea5, hf⟩ := zbd_some hf
        refine zcVv (As := [.int (zI (0)), .int (zI (S 0 r1 1 2))]) (rest := []) C hK hSt hW hS (zc_T_gain hap (r1) hr1 0 (S 0 r1 1 2) S (znb rfl) (zWn hW _ _ _ _ rfl) ea5) zq_T_gain zk_969 (zrecv hK hW (zvd_0 hr1 (by decide)) (ze_0_31 B _ (r1)) rfl) ⟨rfl, rfl, by decide, by decide⟩ ⟨Nat.zero_le _, Nat.zero_le _⟩ rfl hl.1 rfl (lv_room (Nat.le_of_ble_eq_true rfl)) zd_A_work_139 (fun H locs hW hS => ?_)
        exact zw_A_work_142 C hr hlk hK hSt hap r1 hr1 q31 hq31 (x2) (x3) S6 nx2 nx3 hf _ _ _ hW hS (lv_sub hl [0, 1, 2, 3] rfl)

def zf_A_work_98 (r1 : Int) (q31 : Int → Int → Sg → Option (Int × Sg)) (q56 : Int → Int → Int → Int → Sg → Option (Int × Sg)) (x2 : Int) (x3 : Int) (x4 : Int) (x6 : Int) (S : Sg) : Option (Int × Sg) :=
    zlt (zw (x6 + 1)) fun v1 => q56 (x2) (x3) (x4) (v1) S
set_option maxHeartbeats 4000000 in
set_option maxRecDepth 100000 in
theorem zw_A_work_98 {p : Program} {l : Launch} {e : Env} {s : State} {m : MethodId} {args : Array Value} {below : List Frame} {meth : Method} {c : Code} {B : zB} (C : CallFix p m c zb_A_work 7 s args zT "IslandOffice$Almanac") (hr : meth.sig.returnType = none) (hlk : meth.locks = false) (hK : zK B s) (hSt : zSt B s) (hap : zAp B) (r1 : Int) (hr1 : 0 ≤ r1 ∧ r1 < 3) {res : Int} {S9 : Sg} (q31 : Int → Int → Sg → Option (Int × Sg)) (hq31 : ∀ (x2 : Int) (x3 : Int) (S : Sg) (nx2 : zn x2) (nx3 : zn x3), q31 x2 x3 S = some (res, S9) → ∀ (H : Heap) (locs : List Loc) (ls : Array Slot), zW B S H → va_S B.2.2.2 s.heap H locs → lv_has ls 7 [(0, .ref (B.2.1 3 (0) (15))), (1, .ref (B.2.1 0 (r1) (0))), (2, .int (zI (x2))), (3, .int (zI (x3)))] → W p l e zm_A_work s m args below meth c H locs 0 0 (MQ below (zQv B S9) args s 0 0 B.2.2.2) (F0 m 31 ls [])) (q56 : Int → Int → Int → Int → Sg → Option (Int × Sg)) (hq56 : ∀ (x2 : Int) (x3 : Int) (x4 : Int) (x6 : Int) (S : Sg) (nx2 : zn x2) (nx3 : zn x3) (nx4 : zm x4) (nx6 : zn x6), q56 x2 x3 x4 x6 S = some (res, S9) → ∀ (H : Heap) (locs : List Loc) (ls : Array Slot), zW B S H → va_S B.2.2.2 s.heap H locs → lv_has ls 7 [(0, .ref (B.2.1 3 (0) (15))), (1, .ref (B.2.1 0 (r1) (0))), (2, .int (zI (x2))), (3, .int (zI (x3))), (4, .long (zL (x4))), (6, .int (zI (x6)))] → W p l e zm_A_work s m args below meth c H locs 0 0 (MQ below (zQv B S9) args s 0 0 B.2.2.2) (F0 m 56 ls [])) : ∀ (x2 : Int) (x3 : Int) (x4 : Int) (x6 : Int) (S : Sg) (nx2 : zn x2) (nx3 : zn x3) (nx4 : zm x4) (nx6 : zn x6), zf_A_work_98 r1 q31 q56 x2 x3 x4 x6 S = some (res, S9) → ∀ (H : Heap) (locs : List Loc) (ls : Array Slot), zW B S H → va_S B.2.2.2 s.heap H locs → lv_has ls 7 [(0, .ref (B.2.1 3 (0) (15))), (1, .ref (B.2.1 0 (r1) (0))), (2, .int (zI (x2))), (3, .int (zI (x3))), (4, .long (zL (x4))), (6, .int (zI (x6)))] → W p l e zm_A_work s m args below meth c H locs 0 0 (MQ below (zQv B S9) args s 0 0 B.2.2.2) (F0 m 98 ls []) := by
  intro x2 x3 x4 x6 S nx2 nx3 nx4 nx6 hf H locs ls hW hS hl
  unfold zf_A_work_98 at hf
  obtain ⟨v1, ev1, hf⟩ := zlt_some hf
  have nv1 : zn v1 := by rw [← ev1]; exact zn_w _
  refine lv_iinc (v := zI v1) (lv' := [(6, .int (zI (v1))), (0, .ref (B.2.1 3 (0) (15))), (1, .ref (B.2.1 0 (r1) (0))), (2, .int (zI (x2))), (3, .int (zI (x3))), (4, .long (zL (x4)))]) C.1 C.2.1 zd_A_work_98 hl (k := 5) rfl (by rw [← ev1, ← zI_add]; rfl) (by decide) rfl (fun ls hl => ?_)
  refine lv_goto (tgt := 56) C.1 C.2.1 zd_A_work_101 (by decide) ?_
  exact hq56 (x2) (x3) (x4) (v1) S nx2 nx3 nx4 nv1 hf _ _ _ hW hS (lv_sub hl [1, 2, 3, 4, 5, 0] rfl)

def zf_A_work_56 (r1 : Int) (q31 : Int → Int → Sg → Option (Int × Sg)) : Nat → Int → Int → Int → Int → Sg → Option (Int × Sg)
  | 0, _, _, _, _, _ => none
  | n + 1, x2, x3, x4, x6, S =>
    if (S 0 r1 6 0) ≤ x6 then (zf_A_work_104 r1 q31 (x2) (x3) (x4) S) else (if (zcmp x4 0) = 0 then (zf_A_work_104 r1 q31 (x2) (x3) (x4) S) else (if (zcmp (zlnd (zlsr x4 x6) 1) 1) = 0 then (zck (0 ≤ x6 ∧ x6 < 40) <| zlt (zu S 0 r1 14 x6 x3) fun S5 => zf_A_work_98 r1 q31 (zf_A_work_56 r1 q31 n) (x2) (x3) (x4) (x6) S5) else (zf_A_work_98 r1 q31 (zf_A_work_56 r1 q31 n) (x2) (x3) (x4) (x6) S)))
set_option maxHeartbeats 4000000 in
set_option maxRecDepth 100000 in
theorem zw_A_work_56 {p : Program} {l : Launch} {e : Env} {s : State} {m : MethodId} {args : Array Value} {below : List Frame} {meth : Method} {c : Code} {B : zB} (C : CallFix p m c zb_A_work 7 s args zT "IslandOffice$Almanac") (hr : meth.sig.returnType = none) (hlk : meth.locks = false) (hK : zK B s) (hSt : zSt B s) (hap : zAp B) (r1 : Int) (hr1 : 0 ≤ r1 ∧ r1 < 3) {res : Int} {S9 : Sg} (q31 : Int → Int → Sg → Option (Int × Sg)) (hq31 : ∀ (x2 : Int) (x3 : Int) (S : Sg) (nx2 : zn x2) (nx3 : zn x3), q31 x2 x3 S = some (res, S9) → ∀ (H : Heap) (locs : List Loc) (ls : Array Slot), zW B S H → va_S B.2.2.2 s.heap H locs → lv_has ls 7 [(0, .ref (B.2.1 3 (0) (15))), (1, .ref (B.2.1 0 (r1) (0))), (2, .int (zI (x2))), (3, .int (zI (x3)))] → W p l e zm_A_work s m args below meth c H locs 0 0 (MQ below (zQv B S9) args s 0 0 B.2.2.2) (F0 m 31 ls [])) : ∀ n : Nat, ∀ (x2 : Int) (x3 : Int) (x4 : Int) (x6 : Int) (S : Sg) (nx2 : zn x2) (nx3 : zn x3) (nx4 : zm x4) (nx6 : zn x6), zf_A_work_56 r1 q31 n x2 x3 x4 x6 S = some (res, S9) → ∀ (H : Heap) (locs : List Loc) (ls : Array Slot), zW B S H → va_S B.2.2.2 s.heap H locs → lv_has ls 7 [(0, .ref (B.2.1 3 (0) (15))), (1, .ref (B.2.1 0 (r1) (0))), (2, .int (zI (x2))), (3, .int (zI (x3))), (4, .long (zL (x4))), (6, .int (zI (x6)))] → W p l e zm_A_work s m args below meth c H locs 0 0 (MQ below (zQv B S9) args s 0 0 B.2.2.2) (F0 m 56 ls []) := by
  intro n
  induction n with
  | zero =>
    intro x2 x3 x4 x6 S nx2 nx3 nx4 nx6 hf H locs ls hW hS hl
    cases hf
  | succ n ih =>
    intro x2 x3 x4 x6 S nx2 nx3 nx4 nx6 hf H locs ls hW hS hl
    rw [zf_A_work_56] at hf
    refine lv_iload C.1 C.2.1 zd_A_work_56 (lv_at hl 5 rfl) ?_
    refine lv_aload_n C.1 C.2.1 zd_A_work_58 rfl (lv_at hl 1 rfl) ?_
    refine zg_I_people (r := r1) C hK hW (zvd_0 hr1 (by decide)) zk_281 zd_A_work_59 ?_
    refine zg_P_n (r := r1) C hK hW (zvd_0 hr1 (by decide)) zk_54 zd_A_work_62 ?_
    refine zr_icmp_ge (tgt := 104) C nx6 (zWn hW _ _ _ _ rfl) zd_A_work_65 (by decide) (fun c1 => ?_) (fun c1 => ?_)
    · rw [if_pos c1] at hf
      exact zw_A_work_104 C hr hlk hK hSt hap r1 hr1 q31 hq31 (x2) (x3) (x4) S nx2 nx3 nx4 hf _ _ _ hW hS (lv_sub hl [0, 1, 2, 3, 4] rfl)
    · rw [if_neg c1] at hf
      refine lv_lload C.1 C.2.1 zd_A_work_68 (lv_at hl 4 rfl) ?_
      refine zr_lconst (k := 0) C zd_A_work_70 rfl ?_
      refine zr_lcmp C nx4 (zmb rfl) zd_A_work_71 ?_
      refine zr_if_eq (tgt := 104) C (zn_cmp _ _) zd_A_work_72 (by decide) (fun c2 => ?_) (fun c2 => ?_)
      · rw [if_pos c2] at hf
        exact zw_A_work_104 C hr hlk hK hSt hap r1 hr1 q31 hq31 (x2) (x3) (x4) S nx2 nx3 nx4 hf _ _ _ hW hS (lv_sub hl [0, 1, 2, 3, 4] rfl)
      · rw [if_neg c2] at hf
        refine lv_lload C.1 C.2.1 zd_A_work_75 (lv_at hl 4 rfl) ?_
        refine lv_iload C.1 C.2.1 zd_A_work_77 (lv_at hl 5 rfl) ?_
        refine zr_lshr C zd_A_work_79 ?_
        refine zr_lconst (k := 1) C zd_A_work_80 rfl ?_
        refine zr_land C zd_A_work_81 ?_
        refine zr_lconst (k := 1) C zd_A_work_82 rfl ?_
        refine zr_lcmp C (zm_lnd _ _) (zmb rfl) zd_A_work_83 ?_
        refine zr_if_ne (tgt := 98) C (zn_cmp _ _) zd_A_work_84 (by decide) (fun c3 => ?_) (fun c3 => ?_)
        · rw [if_neg c3] at hf
          exact zw_A_work_98 C hr hlk hK hSt hap r1 hr1 q31 hq31 (zf_A_work_56 r1 q31 n) (ih) (x2) (x3) (x4) (x6) S nx2 nx3 nx4 nx6 hf _ _ _ hW hS (lv_sub hl [0, 1, 2, 3, 4, 5] rfl)
        · rw [if_pos c3] at hf
          refine lv_aload_n C.1 C.2.1 zd_A_work_87 rfl (lv_at hl 1 rfl) ?_
          refine zg_I_people (r := r1) C hK hW (zvd_0 hr1 (by decide)) zk_281 zd_A_work_88 ?_
          refine zg_P_post (r := r1) C hK hW (zvd_0 hr1 (by decide)) zk_82 zd_A_work_91 ?_
          refine lv_iload C.1 C.2.1 zd_A_work_94 (lv_at hl 5 rfl) ?_
          refine lv_iload_n C.1 C.2.1 zd_A_work_96 rfl (lv_at hl 3 rfl) ?_
          obtain ⟨h4, hf⟩ := zck_some hf
          obtain ⟨S5, eS5, hf⟩ := zlt_some hf
          refine ziast C hK hap hW hS (zvd_0 hr1 (by decide)) (fun f => ze_0_14 B f (r1)) (by decide) rfl nx3 h4 zd_A_work_97 (fun H locs hW hS => ?_)
          rw [eS5] at hW
          exact zw_A_work_98 C hr hlk hK hSt hap r1 hr1 q31 hq31 (zf_A_work_56 r1 q31 n) (ih) (x2) (x3) (x4) (x6) S5 nx2 nx3 nx4 nx6 hf _ _ _ hW hS (lv_sub hl [0, 1, 2, 3, 4, 5] rfl)

def zf_A_work_31 (r1 : Int) : Nat → Int → Int → Sg → Option (Int × Sg)
  | 0, _, _, _ => none
  | n + 1, x2, x3, S =>
    if (S 0 r1 26 0) ≤ x3 then (some (0, S)) else (zck (0 ≤ x3 ∧ x3 < 8) <| zlt (S 20 0 0 x3) fun v3 => zf_A_work_56 r1 (zf_A_work_31 r1 n) 4096 (x2) (x3) (v3) (0) S)
set_option maxHeartbeats 4000000 in
set_option maxRecDepth 100000 in
theorem zw_A_work_31 {p : Program} {l : Launch} {e : Env} {s : State} {m : MethodId} {args : Array Value} {below : List Frame} {meth : Method} {c : Code} {B : zB} (C : CallFix p m c zb_A_work 7 s args zT "IslandOffice$Almanac") (hr : meth.sig.returnType = none) (hlk : meth.locks = false) (hK : zK B s) (hSt : zSt B s) (hap : zAp B) (r1 : Int) (hr1 : 0 ≤ r1 ∧ r1 < 3) {res : Int} {S9 : Sg} : ∀ n : Nat, ∀ (x2 : Int) (x3 : Int) (S : Sg) (nx2 : zn x2) (nx3 : zn x3), zf_A_work_31 r1 n x2 x3 S = some (res, S9) → ∀ (H : Heap) (locs : List Loc) (ls : Array Slot), zW B S H → va_S B.2.2.2 s.heap H locs → lv_has ls 7 [(0, .ref (B.2.1 3 (0) (15))), (1, .ref (B.2.1 0 (r1) (0))), (2, .int (zI (x2))), (3, .int (zI (x3)))] → W p l e zm_A_work s m args below meth c H locs 0 0 (MQ below (zQv B S9) args s 0 0 B.2.2.2) (F0 m 31 ls []) := by
  intro n
  induction n with
  | zero =>
    intro x2 x3 S nx2 nx3 hf H locs ls hW hS hl
    cases hf
  | succ n ih =>
    intro x2 x3 S nx2 nx3 hf H locs ls hW hS hl
    rw [zf_A_work_31] at hf
    refine lv_iload_n C.1 C.2.1 zd_A_work_31 rfl (lv_at hl 3 rfl) ?_
    refine lv_aload_n C.1 C.2.1 zd_A_work_32 rfl (lv_at hl 1 rfl) ?_
    refine zg_I_posts (r := r1) C hK hW (zvd_0 hr1 (by decide)) zk_288 zd_A_work_33 ?_
    refine zg_Q_n (r := r1) C hK hW (zvd_0 hr1 (by decide)) zk_169 zd_A_work_36 ?_
    refine zr_icmp_ge (tgt := 148) C nx3 (zWn hW _ _ _ _ rfl) zd_A_work_39 (by decide) (fun c1 => ?_) (fun c1 => ?_)
    · rw [if_pos c1] at hf
      cases hf
      exact zre_v C hr hlk hK hW hS zd_A_work_148
    · rw [if_neg c1] at hf
      refine lv_aload_n C.1 C.2.1 zd_A_work_42 rfl (lv_at hl 0 rfl) ?_
      refine zg_A_crews (r := 0) C hK hW (zvd_3 (by decide) (by decide)) zk_467 zd_A_work_43 ?_
      refine zg_C_crew (r := 0) C hK hW (zvd_3 (by decide) (by decide)) zk_430 zd_A_work_46 ?_
      refine lv_iload_n C.1 C.2.1 zd_A_work_49 rfl (lv_at hl 3 rfl) ?_
      obtain ⟨h2, hf⟩ := zck_some hf
      refine zlald C hK hW (zvd_20 (by decide) (by decide)) (fun f => ze_20_0 B f (0)) (by decide) h2 zd_A_work_50 ?_
      obtain ⟨v3, ev3, hf⟩ := zlt_some hf
      have nv3 : zm v3 := by rw [← ev3]; exact (zWm hW _ _ _ _ rfl)
      rw [ev3]
      refine lv_lstore (lv' := [(4, .long (zL (v3))), (0, .ref (B.2.1 3 (0) (15))), (1, .ref (B.2.1 0 (r1) (0))), (2, .int (zI (x2))), (3, .int (zI (x3)))]) C.1 C.2.1 zd_A_work_51 hl (by decide) rfl (fun ls hl => ?_)
      refine zr_iconst C zd_A_work_53 ?_
      refine lv_istore (lv' := [(6, .int (zI (0))), (4, .long (zL (v3))), (0, .ref (B.2.1 3 (0) (15))), (1, .ref (B.2.1 0 (r1) (0))), (2, .int (zI (x2))), (3, .int (zI (x3)))]) C.1 C.2.1 zd_A_work_54 hl (by decide) rfl (fun ls hl => ?_)
      exact zw_A_work_56 C hr hlk hK hSt hap r1 hr1 (zf_A_work_31 r1 n) (ih) 4096 (x2) (x3) (v3) (0) S nx2 nx3 nv3 (znb rfl) hf _ _ _ hW hS (lv_sub hl [2, 3, 4, 5, 1, 0] rfl)

def zf_A_work_2 (r1 : Int) : Nat → Int → Int → Sg → Option (Int × Sg)
  | 0, _, _, _ => none
  | n + 1, x2, x3, S =>
    if (S 0 r1 6 0) ≤ x3 then (zf_A_work_31 r1 4096 (x2) (0) S) else (zck (0 ≤ x3 ∧ x3 < 40) <| zlt (zu S 0 r1 14 x3 (-1)) fun S3 => zlt (zw (x3 + 1)) fun v4 => (zf_A_work_2 r1 n) (x2) (v4) S3)
set_option maxHeartbeats 4000000 in
set_option maxRecDepth 100000 in
theorem zw_A_work_2 {p : Program} {l : Launch} {e : Env} {s : State} {m : MethodId} {args : Array Value} {below : List Frame} {meth : Method} {c : Code} {B : zB} (C : CallFix p m c zb_A_work 7 s args zT "IslandOffice$Almanac") (hr : meth.sig.returnType = none) (hlk : meth.locks = false) (hK : zK B s) (hSt : zSt B s) (hap : zAp B) (r1 : Int) (hr1 : 0 ≤ r1 ∧ r1 < 3) {res : Int} {S9 : Sg} : ∀ n : Nat, ∀ (x2 : Int) (x3 : Int) (S : Sg) (nx2 : zn x2) (nx3 : zn x3), zf_A_work_2 r1 n x2 x3 S = some (res, S9) → ∀ (H : Heap) (locs : List Loc) (ls : Array Slot), zW B S H → va_S B.2.2.2 s.heap H locs → lv_has ls 7 [(0, .ref (B.2.1 3 (0) (15))), (1, .ref (B.2.1 0 (r1) (0))), (2, .int (zI (x2))), (3, .int (zI (x3)))] → W p l e zm_A_work s m args below meth c H locs 0 0 (MQ below (zQv B S9) args s 0 0 B.2.2.2) (F0 m 2 ls []) := by
  intro n
  induction n with
  | zero =>
    intro x2 x3 S nx2 nx3 hf H locs ls hW hS hl
    cases hf
  | succ n ih =>
    intro x2 x3 S nx2 nx3 hf H locs ls hW hS hl
    rw [zf_A_work_2] at hf
    refine lv_iload_n C.1 C.2.1 zd_A_work_2 rfl (lv_at hl 3 rfl) ?_
    refine lv_aload_n C.1 C.2.1 zd_A_work_3 rfl (lv_at hl 1 rfl) ?_
    refine zg_I_people (r := r1) C hK hW (zvd_0 hr1 (by decide)) zk_281 zd_A_work_4 ?_
    refine zg_P_n (r := r1) C hK hW (zvd_0 hr1 (by decide)) zk_54 zd_A_work_7 ?_
    refine zr_icmp_ge (tgt := 29) C nx3 (zWn hW _ _ _ _ rfl) zd_A_work_10 (by decide) (fun c1 => ?_) (fun c1 => ?_)
    · rw [if_pos c1] at hf
      refine zr_iconst C zd_A_work_29 ?_
      refine lv_istore_n (lv' := [(3, .int (zI (0))), (0, .ref (B.2.1 3 (0) (15))), (1, .ref (B.2.1 0 (r1) (0))), (2, .int (zI (x2)))]) C.1 C.2.1 zd_A_work_30 rfl hl (by decide) rfl (fun ls hl => ?_)
      exact zw_A_work_31 C hr hlk hK hSt hap r1 hr1 4096 (x2) (0) S nx2 (znb rfl) hf _ _ _ hW hS (lv_sub hl [1, 2, 3, 0] rfl)
    · rw [if_neg c1] at hf
      refine lv_aload_n C.1 C.2.1 zd_A_work_13 rfl (lv_at hl 1 rfl) ?_
      refine zg_I_people (r := r1) C hK hW (zvd_0 hr1 (by decide)) zk_281 zd_A_work_14 ?_
      refine zg_P_post (r := r1) C hK hW (zvd_0 hr1 (by decide)) zk_82 zd_A_work_17 ?_
      refine lv_iload_n C.1 C.2.1 zd_A_work_20 rfl (lv_at hl 3 rfl) ?_
      refine zr_iconst C zd_A_work_21 ?_
      obtain ⟨h2, hf⟩ := zck_some hf
      obtain ⟨S3, eS3, hf⟩ := zlt_some hf
      refine ziast C hK hap hW hS (zvd_0 hr1 (by decide)) (fun f => ze_0_14 B f (r1)) (by decide) rfl (znb rfl) h2 zd_A_work_22 (fun H locs hW hS => ?_)
      rw [eS3] at hW
      obtain ⟨v4, ev4, hf⟩ := zlt_some hf
      have nv4 : zn v4 := by rw [← ev4]; exact zn_w _
      refine lv_iinc (v := zI v4) (lv' := [(3, .int (zI (v4))), (0, .ref (B.2.1 3 (0) (15))), (1, .ref (B.2.1 0 (r1) (0))), (2, .int (zI (x2)))]) C.1 C.2.1 zd_A_work_23 hl (k := 3) rfl (by rw [← ev4, ← zI_add]; rfl) (by decide) rfl (fun ls hl => ?_)
      refine lv_goto (tgt := 2) C.1 C.2.1 zd_A_work_26 (by decide) ?_
      exact ih (x2) (v4) S3 nx2 nv4 hf _ _ _ hW hS (lv_sub hl [1, 2, 3, 0] rfl)

def zf_A_work (r1 : Int) (x2 : Int) (S : Sg) : Option (Int × Sg) :=
    zf_A_work_2 r1 4096 (x2) (0) S
set_option maxHeartbeats 4000000 in
set_option maxRecDepth 100000 in
theorem zw_A_work {p : Program} {l : Launch} {e : Env} {s : State} {m : MethodId} {args : Array Value} {below : List Frame} {meth : Method} {c : Code} {B : zB} (C : CallFix p m c zb_A_work 7 s args zT "IslandOffice$Almanac") (hr : meth.sig.returnType = none) (hlk : meth.locks = false) (hK : zK B s) (hSt : zSt B s) (hap : zAp B) (r1 : Int) (hr1 : 0 ≤ r1 ∧ r1 < 3) {res : Int} {S9 : Sg} : ∀ (x2 : Int) (S : Sg) (nx2 : zn x2), zf_A_work r1 x2 S = some (res, S9) → ∀ (H : Heap) (locs : List Loc) (ls : Array Slot), zW B S H → va_S B.2.2.2 s.heap H locs → lv_has ls 7 [(0, .ref (B.2.1 3 (0) (15))), (1, .ref (B.2.1 0 (r1) (0))), (2, .int (zI (x2)))] → W p l e zm_A_work s m args below meth c H locs 0 0 (MQ below (zQv B S9) args s 0 0 B.2.2.2) (F0 m 0 ls []) := by
  intro x2 S nx2 hf H locs ls hW hS hl
  unfold zf_A_work at hf
  refine zr_iconst C zd_A_work_0 ?_
  refine lv_istore_n (lv' := [(3, .int (zI (0))), (0, .ref (B.2.1 3 (0) (15))), (1, .ref (B.2.1 0 (r1) (0))), (2, .int (zI (x2)))]) C.1 C.2.1 zd_A_work_1 rfl hl (by decide) rfl (fun ls hl => ?_)
  exact zw_A_work_2 C hr hlk hK hSt hap r1 hr1 4096 (x2) (0) S nx2 (znb rfl) hf _ _ _ hW hS (lv_sub hl [1, 2, 3, 0] rfl)

theorem zc_A_work {l : Launch} {B : zB} (hap : zAp B) (r1 : Int) (hr1 : 0 ≤ r1 ∧ r1 < 3) (x2 : Int) (S : Sg) (nx2 : zn x2) {res : Int} {S9 : Sg} (hf : zf_A_work r1 x2 S = some (res, S9)) : Met l zy_A_work (Cond.code zy_A_work zb_A_work 7 (none) :: zT) zm_A_work (zP B S [.ref (B.2.1 3 (0) (15)), .ref (B.2.1 0 (r1) (0)), .int (zI (x2))]) (zQv B S9) 0 0 B.2.2.2 :=
  zmet (by decide) (Nat.le_of_ble_eq_true rfl) (fun p e s m args below meth c C hr hlk hK hSt hW ls hl => zw_A_work C hr hlk hK hSt hap r1 hr1 x2 S nx2 hf _ _ _ hW va_S.rf hl)
/-! IslandOffice$Stores.load(I)V -/
abbrev zy_T_load : MethodName := ⟨"IslandOffice$Stores", "load", "(I)V"⟩
abbrev zb_T_load : ByteArray := prog_12_method_6_code
abbrev zm_T_load : Room := { frames := 2, cells := 0, slots := 0, locals := 86 }
theorem zq_T_load : zMy zy_T_load zb_T_load 6 (none) 1 := ⟨zk_980, zk_978, zk_979, zk_7, by decide, by decide, by decide +kernel⟩
theorem zd_T_load_0 : decode zb_T_load 0 = .ok (.iload_n 1, 1) := by decide +kernel
theorem zd_T_load_1 : decode zb_T_load 1 = .ok (.istore_n 2, 1) := by decide +kernel
theorem zd_T_load_2 : decode zb_T_load 2 = .ok (.iconst 0, 1) := by decide +kernel
theorem zd_T_load_3 : decode zb_T_load 3 = .ok (.istore_n 3, 1) := by decide +kernel
theorem zd_T_load_4 : decode zb_T_load 4 = .ok (.iload_n 3, 1) := by decide +kernel
theorem zd_T_load_5 : decode zb_T_load 5 = .ok (.bipush 9, 2) := by decide +kernel
theorem zd_T_load_7 : decode zb_T_load 7 = .ok (.if_icmp .gt 86, 3) := by decide +kernel
theorem zd_T_load_10 : decode zb_T_load 10 = .ok (.iconst 0, 1) := by decide +kernel
theorem zd_T_load_11 : decode zb_T_load 11 = .ok (.istore 4, 2) := by decide +kernel
theorem zd_T_load_13 : decode zb_T_load 13 = .ok (.iload 4, 2) := by decide +kernel
theorem zd_T_load_15 : decode zb_T_load 15 = .ok (.aload_n 0, 1) := by decide +kernel
theorem zd_T_load_16 : decode zb_T_load 16 = .ok (.getfield 21, 3) := by decide +kernel
theorem zd_T_load_19 : decode zb_T_load 19 = .ok (.if_icmp .ge 68, 3) := by decide +kernel
theorem zd_T_load_22 : decode zb_T_load 22 = .ok (.aload_n 0, 1) := by decide +kernel
theorem zd_T_load_23 : decode zb_T_load 23 = .ok (.getfield 15, 3) := by decide +kernel
theorem zd_T_load_26 : decode zb_T_load 26 = .ok (.aload_n 0, 1) := by decide +kernel
theorem zd_T_load_27 : decode zb_T_load 27 = .ok (.getfield 25, 3) := by decide +kernel
theorem zd_T_load_30 : decode zb_T_load 30 = .ok (.iload 4, 2) := by decide +kernel
theorem zd_T_load_32 : decode zb_T_load 32 = .ok (.iaload, 1) := by decide +kernel
theorem zd_T_load_33 : decode zb_T_load 33 = .ok (.iaload, 1) := by decide +kernel
theorem zd_T_load_34 : decode zb_T_load 34 = .ok (.iload_n 3, 1) := by decide +kernel
theorem zd_T_load_35 : decode zb_T_load 35 = .ok (.if_icmp .ne 46, 3) := by decide +kernel
theorem zd_T_load_38 : decode zb_T_load 38 = .ok (.iload_n 2, 1) := by decide +kernel
theorem zd_T_load_39 : decode zb_T_load 39 = .ok (.aload_n 0, 1) := by decide +kernel
theorem zd_T_load_40 : decode zb_T_load 40 = .ok (.getfield 28, 3) := by decide +kernel
theorem zd_T_load_43 : decode zb_T_load 43 = .ok (.iload 4, 2) := by decide +kernel
theorem zd_T_load_45 : decode zb_T_load 45 = .ok (.iaload, 1) := by decide +kernel
theorem zd_T_load_46 : decode zb_T_load 46 = .ok (.invokestatic 41, 3) := by decide +kernel
theorem zd_T_load_49 : decode zb_T_load 49 = .ok (.istore 5, 2) := by decide +kernel
theorem zd_T_load_51 : decode zb_T_load 51 = .ok (.iload_n 2, 1) := by decide +kernel
theorem zd_T_load_52 : decode zb_T_load 52 = .ok (.iload 5, 2) := by decide +kernel
theorem zd_T_load_54 : decode zb_T_load 54 = .ok (.isub, 1) := by decide +kernel
theorem zd_T_load_55 : decode zb_T_load 55 = .ok (.istore_n 2, 1) := by decide +kernel
theorem zd_T_load_56 : decode zb_T_load 56 = .ok (.aload_n 0, 1) := by decide +kernel
theorem zd_T_load_57 : decode zb_T_load 57 = .ok (.getfield 28, 3) := by decide +kernel
theorem zd_T_load_60 : decode zb_T_load 60 = .ok (.iload 4, 2) := by decide +kernel
theorem zd_T_load_62 : decode zb_T_load 62 = .ok (.dup2, 1) := by decide +kernel
theorem zd_T_load_63 : decode zb_T_load 63 = .ok (.iaload, 1) := by decide +kernel
theorem zd_T_load_64 : decode zb_T_load 64 = .ok (.iload 5, 2) := by decide +kernel
theorem zd_T_load_66 : decode zb_T_load 66 = .ok (.isub, 1) := by decide +kernel
theorem zd_T_load_67 : decode zb_T_load 67 = .ok (.iastore, 1) := by decide +kernel
theorem zd_T_load_68 : decode zb_T_load 68 = .ok (.aload_n 0, 1) := by decide +kernel
theorem zd_T_load_69 : decode zb_T_load 69 = .ok (.aload_n 0, 1) := by decide +kernel
theorem zd_T_load_70 : decode zb_T_load 70 = .ok (.getfield 25, 3) := by decide +kernel
theorem zd_T_load_73 : decode zb_T_load 73 = .ok (.iload 4, 2) := by decide +kernel
theorem zd_T_load_75 : decode zb_T_load 75 = .ok (.iaload, 1) := by decide +kernel
theorem zd_T_load_76 : decode zb_T_load 76 = .ok (.iload 5, 2) := by decide +kernel
theorem zd_T_load_78 : decode zb_T_load 78 = .ok (.invokevirtual 46, 3) := by decide +kernel
theorem zd_T_load_81 : decode zb_T_load 81 = .ok (.iinc 4 1, 3) := by decide +kernel
theorem zd_T_load_84 : decode zb_T_load 84 = .ok (.goto (-71), 3) := by decide +kernel
theorem zd_T_load_87 : decode zb_T_load 87 = .ok (.iinc 3 1, 3) := by decide +kernel
theorem zd_T_load_90 : decode zb_T_load 90 = .ok (.goto (-86), 3) := by decide +kernel
theorem zd_T_load_93 : decode zb_T_load 93 = .ok (.return_, 1) := by decide +kernel

def zf_T_load_81 (r0 : Int) (q4 : Int → Int → Sg → Option (Int × Sg)) (q13 : Int → Int → Int → Sg → Option (Int × Sg)) (x2 : Int) (x3 : Int) (x4 : Int) (S : Sg) : Option (Int × Sg) :=
    zlt (zw (x4 + 1)) fun v1 => q13 (x2) (x3) (v1) S
set_option maxHeartbeats 4000000 in
set_option maxRecDepth 100000 in
theorem zw_T_load_81 {p : Program} {l : Launch} {e : Env} {s : State} {m : MethodId} {args : Array Value} {below : List Frame} {meth : Method} {c : Code} {B : zB} (C : CallFix p m c zb_T_load 6 s args zT "IslandOffice$Stores") (hr : meth.sig.returnType = none) (hlk : meth.locks = false) (hK : zK B s) (hSt : zSt B s) (hap : zAp B) (r0 : Int) (hr0 : 0 ≤ r0 ∧ r0 < 3) {res : Int} {S9 : Sg} (q4 : Int → Int → Sg → Option (Int × Sg)) (hq4 : ∀ (x2 : Int) (x3 : Int) (S : Sg) (nx2 : zn x2) (nx3 : zn x3), q4 x2 x3 S = some (res, S9) → ∀ (H : Heap) (locs : List Loc) (ls : Array Slot), zW B S H → va_S B.2.2.2 s.heap H locs → lv_has ls 6 [(0, .ref (B.2.1 0 (r0) (31))), (2, .int (zI (x2))), (3, .int (zI (x3)))] → W p l e zm_T_load s m args below meth c H locs 0 0 (MQ below (zQv B S9) args s 0 0 B.2.2.2) (F0 m 4 ls [])) (q13 : Int → Int → Int → Sg → Option (Int × Sg)) (hq13 : ∀ (x2 : Int) (x3 : Int) (x4 : Int) (S : Sg) (nx2 : zn x2) (nx3 : zn x3) (nx4 : zn x4), q13 x2 x3 x4 S = some (res, S9) → ∀ (H : Heap) (locs : List Loc) (ls : Array Slot), zW B S H → va_S B.2.2.2 s.heap H locs → lv_has ls 6 [(0, .ref (B.2.1 0 (r0) (31))), (2, .int (zI (x2))), (3, .int (zI (x3))), (4, .int (zI (x4)))] → W p l e zm_T_load s m args below meth c H locs 0 0 (MQ below (zQv B S9) args s 0 0 B.2.2.2) (F0 m 13 ls [])) : ∀ (x2 : Int) (x3 : Int) (x4 : Int) (S : Sg) (nx2 : zn x2) (nx3 : zn x3) (nx4 : zn x4), zf_T_load_81 r0 q4 q13 x2 x3 x4 S = some (res, S9) → ∀ (H : Heap) (locs : List Loc) (ls : Array Slot), zW B S H → va_S B.2.2.2 s.heap H locs → lv_has ls 6 [(0, .ref (B.2.1 0 (r0) (31))), (2, .int (zI (x2))), (3, .int (zI (x3))), (4, .int (zI (x4)))] → W p l e zm_T_load s m args below meth c H locs 0 0 (MQ below (zQv B S9) args s 0 0 B.2.2.2) (F0 m 81 ls []) := by
  intro x2 x3 x4 S nx2 nx3 nx4 hf H locs ls hW hS hl
  unfold zf_T_load_81 at hf
  obtain ⟨v1, ev1, hf⟩ := zlt_some hf
  have nv1 : zn v1 := by rw [← ev1]; exact zn_w _
  refine lv_iinc (v := zI v1) (lv' := [(4, .int (zI (v1))), (0, .ref (B.2.1 0 (r0) (31))), (2, .int (zI (x2))), (3, .int (zI (x3)))]) C.1 C.2.1 zd_T_load_81 hl (k := 3) rfl (by rw [← ev1, ← zI_add]; rfl) (by decide) rfl (fun ls hl => ?_)
  refine lv_goto (tgt := 13) C.1 C.2.1 zd_T_load_84 (by decide) ?_
  exact hq13 (x2) (x3) (v1) S nx2 nx3 nv1 hf _ _ _ hW hS (lv_sub hl [1, 2, 3, 0] rfl)

def zf_T_load_13 (r0 : Int) (q4 : Int → Int → Sg → Option (Int × Sg)) : Nat → Int → Int → Int → Sg → Option (Int × Sg)
  | 0, _, _, _, _ => none
  | n + 1, x2, x3, x4, S =>
    if (S 0 r0 31 3) ≤ x4 then (zlt (zw (x3 + 1)) fun v2 => q4 (x2) (v2) S) else (zck (0 ≤ x4 ∧ x4 < 30) <| zck (0 ≤ (S 0 r0 35 x4) ∧ (S 0 r0 35 x4) < 4) <| if (S 0 r0 33 (S 0 r0 35 x4)) = x3 then (zlt (min x2 (S 0 r0 36 x4)) fun v6 => zlt (zw (x2 - v6)) fun v7 => zlt (zu S 0 r0 36 x4 (zw ((S 0 r0 36 x4) - v6))) fun S8 => zbd (zf_T_gain (r0) (S8 0 r0 35 x4) v6 S8) fun a9 S10 => zf_T_load_81 r0 q4 (zf_T_load_13 r0 q4 n) (v7) (x3) (x4) S10) else (zf_T_load_81 r0 q4 (zf_T_load_13 r0 q4 n) (x2) (x3) (x4) S))
set_option maxHeartbeats 4000000 in
set_option maxRecDepth 100000 in
theorem zw_T_load_13 {p : Program} {l : Launch} {e : Env} {s : State} {m : MethodId} {args : Array Value} {below : List Frame} {meth : Method} {c : Code} {B : zB} (C : CallFix p m c zb_T_load 6 s args zT "IslandOffice$Stores") (hr : meth.sig.returnType = none) (hlk : meth.locks = false) (hK : zK B s) (hSt : zSt B s) (hap : zAp B) (r0 : Int) (hr0 : 0 ≤ r0 ∧ r0 < 3) {res : Int} {S9 : Sg} (q4 : Int → Int → Sg → Option (Int × Sg)) (hq4 : ∀ (x2 : Int) (x3 : Int) (S : Sg) (nx2 : zn x2) (nx3 : zn x3), q4 x2 x3 S = some (res, S9) → ∀ (H : Heap) (locs : List Loc) (ls : Array Slot), zW B S H → va_S B.2.2.2 s.heap H locs → lv_has ls 6 [(0, .ref (B.2.1 0 (r0) (31))), (2, .int (zI (x2))), (3, .int (zI (x3)))] → W p l e zm_T_load s m args below meth c H locs 0 0 (MQ below (zQv B S9) args s 0 0 B.2.2.2) (F0 m 4 ls [])) : ∀ n : Nat, ∀ (x2 : Int) (x3 : Int) (x4 : Int) (S : Sg) (nx2 : zn x2) (nx3 : zn x3) (nx4 : zn x4), zf_T_load_13 r0 q4 n x2 x3 x4 S = some (res, S9) → ∀ (H : Heap) (locs : List Loc) (ls : Array Slot), zW B S H → va_S B.2.2.2 s.heap H locs → lv_has ls 6 [(0, .ref (B.2.1 0 (r0) (31))), (2, .int (zI (x2))), (3, .int (zI (x3))), (4, .int (zI (x4)))] → W p l e zm_T_load s m args below meth c H locs 0 0 (MQ below (zQv B S9) args s 0 0 B.2.2.2) (F0 m 13 ls []) := by
  intro n
  induction n with
  | zero =>
    intro x2 x3 x4 S nx2 nx3 nx4 hf H locs ls hW hS hl
    cases hf
  | succ n ih =>
    intro x2 x3 x4 S nx2 nx3 nx4 hf H locs ls hW hS hl
    rw [zf_T_load_13] at hf
    refine lv_iload C.1 C.2.1 zd_T_load_13 (lv_at hl 3 rfl) ?_
    refine lv_aload_n C.1 C.2.1 zd_T_load_15 rfl (lv_at hl 0 rfl) ?_
    refine zg_T_orders (r := r0) C hK hW (zvd_0 hr0 (by decide)) zk_205 zd_T_load_16 ?_
    refine zr_icmp_ge (tgt := 87) C nx4 (zWn hW _ _ _ _ rfl) zd_T_load_19 (by decide) (fun c1 => ?_) (fun c1 => ?_)
    · rw [if_pos c1] at hf
      obtain ⟨v2, ev2, hf⟩ := zlt_some hf
      have nv2 : zn v2 := by rw [← ev2]; exact zn_w _
      refine lv_iinc (v := zI v2) (lv' := [(3, .int (zI (v2))), (0, .ref (B.2.1 0 (r0) (31))), (2, .int (zI (x2))), (4, .int (zI (x4)))]) C.1 C.2.1 zd_T_load_87 hl (k := 2) rfl (by rw [← ev2, ← zI_add]; rfl) (by decide) rfl (fun ls hl => ?_)
      refine lv_goto (tgt := 4) C.1 C.2.1 zd_T_load_90 (by decide) ?_
      exact hq4 (x2) (v2) S nx2 nv2 hf _ _ _ hW hS (lv_sub hl [1, 2, 0] rfl)
    · rw [if_neg c1] at hf
      refine lv_aload_n C.1 C.2.1 zd_T_load_22 rfl (lv_at hl 0 rfl) ?_
      refine zg_T_ranks (r := r0) C hK hW (zvd_0 hr0 (by decide)) zk_200 zd_T_load_23 ?_
      refine lv_aload_n C.1 C.2.1 zd_T_load_26 rfl (lv_at hl 0 rfl) ?_
      refine zg_T_good (r := r0) C hK hW (zvd_0 hr0 (by decide)) zk_207 zd_T_load_27 ?_
      refine lv_iload C.1 C.2.1 zd_T_load_30 (lv_at hl 3 rfl) ?_
      obtain ⟨h3, hf⟩ := zck_some hf
      refine ziald C hK hW (zvd_0 hr0 (by decide)) (fun f => ze_0_35 B f (r0)) (by decide) h3 zd_T_load_32 ?_
      obtain ⟨h4, hf⟩ := zck_some hf
      refine ziald C hK hW (zvd_0 hr0 (by decide)) (fun f => ze_0_33 B f (r0)) (by decide) h4 zd_T_load_33 ?_
      refine lv_iload_n C.1 C.2.1 zd_T_load_34 rfl (lv_at hl 2 rfl) ?_
      refine zr_icmp_ne (tgt := 81) C (zWn hW _ _ _ _ rfl) nx3 zd_T_load_35 (by decide) (fun c5 => ?_) (fun c5 => ?_)
      · rw [if_neg c5] at hf
        exact zw_T_load_81 C hr hlk hK hSt hap r0 hr0 q4 hq4 (zf_T_load_13 r0 q4 n) (ih) (x2) (x3) (x4) S nx2 nx3 nx4 hf _ _ _ hW hS (lv_sub hl [0, 1, 2, 3] rfl)
      · rw [if_pos c5] at hf
        refine lv_iload_n C.1 C.2.1 zd_T_load_38 rfl (lv_at hl 1 rfl) ?_
        refine lv_aload_n C.1 C.2.1 zd_T_load_39 rfl (lv_at hl 0 rfl) ?_
        refine zg_T_rest (r := r0) C hK hW (zvd_0 hr0 (by decide)) zk_208 zd_T_load_40 ?_
        refine lv_iload C.1 C.2.1 zd_T_load_43 (lv_at hl 3 rfl) ?_
        refine ziald C hK hW (zvd_0 hr0 (by decide)) (fun f => ze_0_36 B f (r0)) (by decide) h3 zd_T_load_45 ?_
        refine zr_min C hl.1 nx2 (zWn hW _ _ _ _ rfl) zk_973 zk_909 zk_16 zk_910 (by decide) (Nat.le_of_ble_eq_true rfl) ⟨by decide, by decide⟩ zd_T_load_46 ?_
        obtain ⟨v6, ev6, hf⟩ := zlt_some hf
        have nv6 : zn v6 := by rw [← ev6]; exact (zn_min nx2 (zWn hW _ _ _ _ rfl))
        rw [ev6]
        refine lv_istore (lv' := [(5, .int (zI (v6))), (0, .ref (B.2.1 0 (r0) (31))), (2, .int (zI (x2))), (3, .int (zI (x3))), (4, .int (zI (x4)))]) C.1 C.2.1 zd_T_load_49 hl (by decide) rfl (fun ls hl => ?_)
        refine lv_iload_n C.1 C.2.1 zd_T_load_51 rfl (lv_at hl 2 rfl) ?_
        refine lv_iload C.1 C.2.1 zd_T_load_52 (lv_at hl 0 rfl) ?_
        refine zr_isub C zd_T_load_54 ?_
        obtain ⟨v7, ev7, hf⟩ := zlt_some hf
        have nv7 : zn v7 := by rw [← ev7]; exact (zn_w _)
        rw [ev7]
        refine lv_istore_n (lv' := [(2, .int (zI (v7))), (5, .int (zI (v6))), (0, .ref (B.2.1 0 (r0) (31))), (3, .int (zI (x3))), (4, .int (zI (x4)))]) C.1 C.2.1 zd_T_load_55 rfl hl (by decide) rfl (fun ls hl => ?_)
        refine lv_aload_n C.1 C.2.1 zd_T_load_56 rfl (lv_at hl 2 rfl) ?_
        refine zg_T_rest (r := r0) C hK hW (zvd_0 hr0 (by decide)) zk_208 zd_T_load_57 ?_
        refine lv_iload C.1 C.2.1 zd_T_load_60 (lv_at hl 4 rfl) ?_
        refine lv_dup2_11 C.1 C.2.1 zd_T_load_62 rfl rfl ?_
        refine ziald C hK hW (zvd_0 hr0 (by decide)) (fun f => ze_0_36 B f (r0)) (by decide) h3 zd_T_load_63 ?_
        refine lv_iload C.1 C.2.1 zd_T_load_64 (lv_at hl 1 rfl) ?_
        refine zr_isub C zd_T_load_66 ?_
        obtain ⟨S8, eS8, hf⟩ := zlt_some hf
        refine ziast C hK hap hW hS (zvd_0 hr0 (by decide)) (fun f => ze_0_36 B f (r0)) (by decide) rfl (zn_w _) h3 zd_T_load_67 (fun H locs hW hS => ?_)
        rw [eS8] at hW
        refine lv_aload_n C.1 C.2.1 zd_T_load_68 rfl (lv_at hl 2 rfl) ?_
        refine lv_aload_n C.1 C.2.1 zd_T_load_69 rfl (lv_at hl 2 rfl) ?_
        refine zg_T_good (r := r0) C hK hW (zvd_0 hr0 (by decide)) zk_207 zd_T_load_70 ?_
        refine lv_iload C.1 C.2.1 zd_T_load_73 (lv_at hl 4 rfl) ?_
        refine ziald C hK hW (zvd_0 hr0 (by decide)) (fun f => ze_0_35 B f (r0)) (by decide) h3 zd_T_load_75 ?_
        refine lv_iload C.1 C.2.1 zd_T_load_76 (lv_at hl 1 rfl) ?_
        obtain ⟨a9, S10, ea9, hf⟩ := zbd_some hf
        refine zcVv (As := [.int (zI (S8 0 r0 35 x4)), .int (zI (v6))]) (rest := []) C hK hSt hW hS (zc_T_gain hap (r0) hr0 (S8 0 r0 35 x4) v6 S8 (zWn hW _ _ _ _ rfl) nv6 ea9) zq_T_gain zk_981 (zrecv hK hW (zvd_0 hr0 (by decide)) (ze_0_31 B _ (r0)) rfl) ⟨rfl, rfl, by decide, by decide⟩ ⟨Nat.zero_le _, Nat.zero_le _⟩ rfl hl.1 rfl (lv_room (Nat.le_of_ble_eq_true rfl)) zd_T_load_78 (fun H locs hW hS => ?_)
        exact zw_T_load_81 C hr hlk hK hSt hap r0 hr0 q4 hq4 (zf_T_load_13 r0 q4 n) (ih) (v7) (x3) (x4) S10 nv7 nx3 nx4 hf _ _ _ hW hS (lv_sub hl [2, 0, 3, 4] rfl)

def zf_T_load_4 (r0 : Int) : Nat → Int → Int → Sg → Option (Int × Sg)
  | 0, _, _, _ => none
  | n + 1, x2, x3, S =>
    if 9 < x3 then (some (0, S)) else (zf_T_load_13 r0 (zf_T_load_4 r0 n) 4096 (x2) (x3) (0) S)
set_option maxHeartbeats 4000000 in
set_option maxRecDepth 100000 in
theorem zw_T_load_4 {p : Program} {l : Launch} {e : Env} {s : State} {m : MethodId} {args : Array Value} {below : List Frame} {meth : Method} {c : Code} {B : zB} (C : CallFix p m c zb_T_load 6 s args zT "IslandOffice$Stores") (hr : meth.sig.returnType = none) (hlk : meth.locks = false) (hK : zK B s) (hSt : zSt B s) (hap : zAp B) (r0 : Int) (hr0 : 0 ≤ r0 ∧ r0 < 3) {res : Int} {S9 : Sg} : ∀ n : Nat, ∀ (x2 : Int) (x3 : Int) (S : Sg) (nx2 : zn x2) (nx3 : zn x3), zf_T_load_4 r0 n x2 x3 S = some (res, S9) → ∀ (H : Heap) (locs : List Loc) (ls : Array Slot), zW B S H → va_S B.2.2.2 s.heap H locs → lv_has ls 6 [(0, .ref (B.2.1 0 (r0) (31))), (2, .int (zI (x2))), (3, .int (zI (x3)))] → W p l e zm_T_load s m args below meth c H locs 0 0 (MQ below (zQv B S9) args s 0 0 B.2.2.2) (F0 m 4 ls []) := by
  intro n
  induction n with
  | zero =>
    intro x2 x3 S nx2 nx3 hf H locs ls hW hS hl
    cases hf
  | succ n ih =>
    intro x2 x3 S nx2 nx3 hf H locs ls hW hS hl
    rw [zf_T_load_4] at hf
    refine lv_iload_n C.1 C.2.1 zd_T_load_4 rfl (lv_at hl 2 rfl) ?_
    refine zr_bipush C zd_T_load_5 (by decide) ?_
    refine zr_icmp_gt (tgt := 93) C nx3 (znb rfl) zd_T_load_7 (by decide) (fun c1 => ?_) (fun c1 => ?_)
    · rw [if_pos c1] at hf
      cases hf
      exact zre_v C hr hlk hK hW hS zd_T_load_93
    · rw [if_neg c1] at hf
      refine zr_iconst C zd_T_load_10 ?_
      refine lv_istore (lv' := [(4, .int (zI (0))), (0, .ref (B.2.1 0 (r0) (31))), (2, .int (zI (x2))), (3, .int (zI (x3)))]) C.1 C.2.1 zd_T_load_11 hl (by decide) rfl (fun ls hl => ?_)
      exact zw_T_load_13 C hr hlk hK hSt hap r0 hr0 (zf_T_load_4 r0 n) (ih) 4096 (x2) (x3) (0) S nx2 nx3 (znb rfl) hf _ _ _ hW hS (lv_sub hl [1, 2, 3, 0] rfl)

def zf_T_load (r0 : Int) (x1 : Int) (S : Sg) : Option (Int × Sg) :=
    zf_T_load_4 r0 4096 (x1) (0) S
set_option maxHeartbeats 4000000 in
set_option maxRecDepth 100000 in
theorem zw_T_load {p : Program} {l : Launch} {e : Env} {s : State} {m : MethodId} {args : Array Value} {below : List Frame} {meth : Method} {c : Code} {B : zB} (C : CallFix p m c zb_T_load 6 s args zT "IslandOffice$Stores") (hr : meth.sig.returnType = none) (hlk : meth.locks = false) (hK : zK B s) (hSt : zSt B s) (hap : zAp B) (r0 : Int) (hr0 : 0 ≤ r0 ∧ r0 < 3) {res : Int} {S9 : Sg} : ∀ (x1 : Int) (S : Sg) (nx1 : zn x1), zf_T_load r0 x1 S = some (res, S9) → ∀ (H : Heap) (locs : List Loc) (ls : Array Slot), zW B S H → va_S B.2.2.2 s.heap H locs → lv_has ls 6 [(0, .ref (B.2.1 0 (r0) (31))), (1, .int (zI (x1)))] → W p l e zm_T_load s m args below meth c H locs 0 0 (MQ below (zQv B S9) args s 0 0 B.2.2.2) (F0 m 0 ls []) := by
  intro x1 S nx1 hf H locs ls hW hS hl
  unfold zf_T_load at hf
  refine lv_iload_n C.1 C.2.1 zd_T_load_0 rfl (lv_at hl 1 rfl) ?_
  refine lv_istore_n (lv' := [(2, .int (zI (x1))), (0, .ref (B.2.1 0 (r0) (31))), (1, .int (zI (x1)))]) C.1 C.2.1 zd_T_load_1 rfl hl (by decide) rfl (fun ls hl => ?_)
  refine zr_iconst C zd_T_load_2 ?_
  refine lv_istore_n (lv' := [(3, .int (zI (0))), (2, .int (zI (x1))), (0, .ref (B.2.1 0 (r0) (31))), (1, .int (zI (x1)))]) C.1 C.2.1 zd_T_load_3 rfl hl (by decide) rfl (fun ls hl => ?_)
  exact zw_T_load_4 C hr hlk hK hSt hap r0 hr0 4096 (x1) (0) S nx1 (znb rfl) hf _ _ _ hW hS (lv_sub hl [2, 1, 0] rfl)

theorem zc_T_load {l : Launch} {B : zB} (hap : zAp B) (r0 : Int) (hr0 : 0 ≤ r0 ∧ r0 < 3) (x1 : Int) (S : Sg) (nx1 : zn x1) {res : Int} {S9 : Sg} (hf : zf_T_load r0 x1 S = some (res, S9)) : Met l zy_T_load (Cond.code zy_T_load zb_T_load 6 (none) :: zT) zm_T_load (zP B S [.ref (B.2.1 0 (r0) (31)), .int (zI (x1))]) (zQv B S9) 0 0 B.2.2.2 :=
  zmet (by decide) (Nat.le_of_ble_eq_true rfl) (fun p e s m args below meth c C hr hlk hK hSt hW ls hl => zw_T_load C hr hlk hK hSt hap r0 hr0 x1 S nx1 hf _ _ _ hW va_S.rf hl)
/-! IslandOffice$Almanac.pass(LIslandOffice$Island;)I -/
abbrev zy_A_pass : MethodName := ⟨"IslandOffice$Almanac", "pass", "(LIslandOffice$Island;)I"⟩
abbrev zb_A_pass : ByteArray := prog_2_method_2_code
abbrev zm_A_pass : Room := { frames := 5, cells := 0, slots := 0, locals := 168 }
theorem zq_A_pass : zMy zy_A_pass zb_A_pass 5 (some .int) 1 := ⟨zk_937, zk_935, zk_936, zk_13, by decide, by decide, by decide +kernel⟩
theorem zd_A_pass_0 : decode zb_A_pass 0 = .ok (.aload_n 1, 1) := by decide +kernel
theorem zd_A_pass_1 : decode zb_A_pass 1 = .ok (.getfield 39, 3) := by decide +kernel
theorem zd_A_pass_4 : decode zb_A_pass 4 = .ok (.aload_n 1, 1) := by decide +kernel
theorem zd_A_pass_5 : decode zb_A_pass 5 = .ok (.getfield 45, 3) := by decide +kernel
theorem zd_A_pass_8 : decode zb_A_pass 8 = .ok (.invokevirtual 48, 3) := by decide +kernel
theorem zd_A_pass_11 : decode zb_A_pass 11 = .ok (.aload_n 1, 1) := by decide +kernel
theorem zd_A_pass_12 : decode zb_A_pass 12 = .ok (.getfield 54, 3) := by decide +kernel
theorem zd_A_pass_15 : decode zb_A_pass 15 = .ok (.iconst 1, 1) := by decide +kernel
theorem zd_A_pass_16 : decode zb_A_pass 16 = .ok (.iaload, 1) := by decide +kernel
theorem zd_A_pass_17 : decode zb_A_pass 17 = .ok (.if_icmp .gt 7, 3) := by decide +kernel
theorem zd_A_pass_20 : decode zb_A_pass 20 = .ok (.iconst 1, 1) := by decide +kernel
theorem zd_A_pass_21 : decode zb_A_pass 21 = .ok (.goto 4, 3) := by decide +kernel
theorem zd_A_pass_24 : decode zb_A_pass 24 = .ok (.iconst 0, 1) := by decide +kernel
theorem zd_A_pass_25 : decode zb_A_pass 25 = .ok (.istore_n 2, 1) := by decide +kernel
theorem zd_A_pass_26 : decode zb_A_pass 26 = .ok (.aload_n 1, 1) := by decide +kernel
theorem zd_A_pass_27 : decode zb_A_pass 27 = .ok (.invokestatic 57, 3) := by decide +kernel
theorem zd_A_pass_30 : decode zb_A_pass 30 = .ok (.aload_n 1, 1) := by decide +kernel
theorem zd_A_pass_31 : decode zb_A_pass 31 = .ok (.invokestatic 61, 3) := by decide +kernel
theorem zd_A_pass_34 : decode zb_A_pass 34 = .ok (.aload_n 0, 1) := by decide +kernel
theorem zd_A_pass_35 : decode zb_A_pass 35 = .ok (.aload_n 1, 1) := by decide +kernel
theorem zd_A_pass_36 : decode zb_A_pass 36 = .ok (.invokevirtual 64, 3) := by decide +kernel
theorem zd_A_pass_39 : decode zb_A_pass 39 = .ok (.aload_n 0, 1) := by decide +kernel
theorem zd_A_pass_40 : decode zb_A_pass 40 = .ok (.aload_n 1, 1) := by decide +kernel
theorem zd_A_pass_41 : decode zb_A_pass 41 = .ok (.invokevirtual 67, 3) := by decide +kernel
theorem zd_A_pass_44 : decode zb_A_pass 44 = .ok (.aload_n 1, 1) := by decide +kernel
theorem zd_A_pass_45 : decode zb_A_pass 45 = .ok (.invokestatic 70, 3) := by decide +kernel
theorem zd_A_pass_48 : decode zb_A_pass 48 = .ok (.aload_n 0, 1) := by decide +kernel
theorem zd_A_pass_49 : decode zb_A_pass 49 = .ok (.aload_n 0, 1) := by decide +kernel
theorem zd_A_pass_50 : decode zb_A_pass 50 = .ok (.getfield 15, 3) := by decide +kernel
theorem zd_A_pass_53 : decode zb_A_pass 53 = .ok (.aload_n 1, 1) := by decide +kernel
theorem zd_A_pass_54 : decode zb_A_pass 54 = .ok (.aload_n 0, 1) := by decide +kernel
theorem zd_A_pass_55 : decode zb_A_pass 55 = .ok (.getfield 9, 3) := by decide +kernel
theorem zd_A_pass_58 : decode zb_A_pass 58 = .ok (.invokevirtual 73, 3) := by decide +kernel
theorem zd_A_pass_61 : decode zb_A_pass 61 = .ok (.putfield 35, 3) := by decide +kernel
theorem zd_A_pass_64 : decode zb_A_pass 64 = .ok (.aload_n 0, 1) := by decide +kernel
theorem zd_A_pass_65 : decode zb_A_pass 65 = .ok (.aload_n 1, 1) := by decide +kernel
theorem zd_A_pass_66 : decode zb_A_pass 66 = .ok (.iload_n 2, 1) := by decide +kernel
theorem zd_A_pass_67 : decode zb_A_pass 67 = .ok (.invokevirtual 79, 3) := by decide +kernel
theorem zd_A_pass_70 : decode zb_A_pass 70 = .ok (.aload_n 1, 1) := by decide +kernel
theorem zd_A_pass_71 : decode zb_A_pass 71 = .ok (.iload_n 2, 1) := by decide +kernel
theorem zd_A_pass_72 : decode zb_A_pass 72 = .ok (.invokestatic 83, 3) := by decide +kernel
theorem zd_A_pass_75 : decode zb_A_pass 75 = .ok (.istore_n 3, 1) := by decide +kernel
theorem zd_A_pass_76 : decode zb_A_pass 76 = .ok (.iload_n 3, 1) := by decide +kernel
theorem zd_A_pass_77 : decode zb_A_pass 77 = .ok (.ifCond .eq 24, 3) := by decide +kernel
theorem zd_A_pass_80 : decode zb_A_pass 80 = .ok (.aload_n 1, 1) := by decide +kernel
theorem zd_A_pass_81 : decode zb_A_pass 81 = .ok (.aload_n 1, 1) := by decide +kernel
theorem zd_A_pass_82 : decode zb_A_pass 82 = .ok (.getfield 45, 3) := by decide +kernel
theorem zd_A_pass_85 : decode zb_A_pass 85 = .ok (.putfield 87, 3) := by decide +kernel
theorem zd_A_pass_88 : decode zb_A_pass 88 = .ok (.aload_n 1, 1) := by decide +kernel
theorem zd_A_pass_89 : decode zb_A_pass 89 = .ok (.getfield 90, 3) := by decide +kernel
theorem zd_A_pass_92 : decode zb_A_pass 92 = .ok (.aload_n 1, 1) := by decide +kernel
theorem zd_A_pass_93 : decode zb_A_pass 93 = .ok (.getfield 54, 3) := by decide +kernel
theorem zd_A_pass_96 : decode zb_A_pass 96 = .ok (.iconst 0, 1) := by decide +kernel
theorem zd_A_pass_97 : decode zb_A_pass 97 = .ok (.iaload, 1) := by decide +kernel
theorem zd_A_pass_98 : decode zb_A_pass 98 = .ok (.invokevirtual 94, 3) := by decide +kernel
theorem zd_A_pass_101 : decode zb_A_pass 101 = .ok (.aload_n 0, 1) := by decide +kernel
theorem zd_A_pass_102 : decode zb_A_pass 102 = .ok (.aload_n 1, 1) := by decide +kernel
theorem zd_A_pass_103 : decode zb_A_pass 103 = .ok (.invokevirtual 100, 3) := by decide +kernel
theorem zd_A_pass_106 : decode zb_A_pass 106 = .ok (.aload_n 0, 1) := by decide +kernel
theorem zd_A_pass_107 : decode zb_A_pass 107 = .ok (.aload_n 1, 1) := by decide +kernel
theorem zd_A_pass_108 : decode zb_A_pass 108 = .ok (.invokevirtual 104, 3) := by decide +kernel
theorem zd_A_pass_111 : decode zb_A_pass 111 = .ok (.ior, 1) := by decide +kernel
theorem zd_A_pass_112 : decode zb_A_pass 112 = .ok (.istore 4, 2) := by decide +kernel
theorem zd_A_pass_114 : decode zb_A_pass 114 = .ok (.aload_n 0, 1) := by decide +kernel
theorem zd_A_pass_115 : decode zb_A_pass 115 = .ok (.aload_n 1, 1) := by decide +kernel
theorem zd_A_pass_116 : decode zb_A_pass 116 = .ok (.iload 4, 2) := by decide +kernel
theorem zd_A_pass_118 : decode zb_A_pass 118 = .ok (.iconst 1, 1) := by decide +kernel
theorem zd_A_pass_119 : decode zb_A_pass 119 = .ok (.ishr, 1) := by decide +kernel
theorem zd_A_pass_120 : decode zb_A_pass 120 = .ok (.iconst 1, 1) := by decide +kernel
theorem zd_A_pass_121 : decode zb_A_pass 121 = .ok (.iand, 1) := by decide +kernel
theorem zd_A_pass_122 : decode zb_A_pass 122 = .ok (.iconst 1, 1) := by decide +kernel
theorem zd_A_pass_123 : decode zb_A_pass 123 = .ok (.if_icmp .ne 7, 3) := by decide +kernel
theorem zd_A_pass_126 : decode zb_A_pass 126 = .ok (.iconst 1, 1) := by decide +kernel
theorem zd_A_pass_127 : decode zb_A_pass 127 = .ok (.goto 4, 3) := by decide +kernel
theorem zd_A_pass_130 : decode zb_A_pass 130 = .ok (.iconst 0, 1) := by decide +kernel
theorem zd_A_pass_131 : decode zb_A_pass 131 = .ok (.invokevirtual 107, 3) := by decide +kernel
theorem zd_A_pass_134 : decode zb_A_pass 134 = .ok (.aload_n 1, 1) := by decide +kernel
theorem zd_A_pass_135 : decode zb_A_pass 135 = .ok (.getfield 45, 3) := by decide +kernel
theorem zd_A_pass_138 : decode zb_A_pass 138 = .ok (.iconst 4, 1) := by decide +kernel
theorem zd_A_pass_139 : decode zb_A_pass 139 = .ok (.irem, 1) := by decide +kernel
theorem zd_A_pass_140 : decode zb_A_pass 140 = .ok (.iconst 3, 1) := by decide +kernel
theorem zd_A_pass_141 : decode zb_A_pass 141 = .ok (.if_icmp .ne 7, 3) := by decide +kernel
theorem zd_A_pass_144 : decode zb_A_pass 144 = .ok (.aload_n 1, 1) := by decide +kernel
theorem zd_A_pass_145 : decode zb_A_pass 145 = .ok (.invokestatic 110, 3) := by decide +kernel
theorem zd_A_pass_148 : decode zb_A_pass 148 = .ok (.iload_n 3, 1) := by decide +kernel
theorem zd_A_pass_149 : decode zb_A_pass 149 = .ok (.ifCond .eq 8, 3) := by decide +kernel
theorem zd_A_pass_152 : decode zb_A_pass 152 = .ok (.aload_n 0, 1) := by decide +kernel
theorem zd_A_pass_153 : decode zb_A_pass 153 = .ok (.aload_n 1, 1) := by decide +kernel
theorem zd_A_pass_154 : decode zb_A_pass 154 = .ok (.invokevirtual 113, 3) := by decide +kernel
theorem zd_A_pass_157 : decode zb_A_pass 157 = .ok (.aload_n 1, 1) := by decide +kernel
theorem zd_A_pass_158 : decode zb_A_pass 158 = .ok (.dup, 1) := by decide +kernel
theorem zd_A_pass_159 : decode zb_A_pass 159 = .ok (.getfield 45, 3) := by decide +kernel
theorem zd_A_pass_162 : decode zb_A_pass 162 = .ok (.iconst 1, 1) := by decide +kernel
theorem zd_A_pass_163 : decode zb_A_pass 163 = .ok (.iadd, 1) := by decide +kernel
theorem zd_A_pass_164 : decode zb_A_pass 164 = .ok (.putfield 45, 3) := by decide +kernel
theorem zd_A_pass_167 : decode zb_A_pass 167 = .ok (.iload 4, 2) := by decide +kernel
theorem zd_A_pass_169 : decode zb_A_pass 169 = .ok (.ireturn, 1) := by decide +kernel

def zf_A_pass_157 (r1 : Int) (x4 : Int) (S : Sg) : Option (Int × Sg) :=
    zlt (zu S 0 r1 0 0 (zw ((S 0 r1 0 0) + 1))) fun S1 => some (x4, S1)
set_option maxHeartbeats 4000000 in
set_option maxRecDepth 100000 in
theorem zw_A_pass_157 {p : Program} {l : Launch} {e : Env} {s : State} {m : MethodId} {args : Array Value} {below : List Frame} {meth : Method} {c : Code} {B : zB} (C : CallFix p m c zb_A_pass 5 s args zT "IslandOffice$Almanac") (hr : meth.sig.returnType = some .int) (hlk : meth.locks = false) (hK : zK B s) (hSt : zSt B s) (hap : zAp B) (r1 : Int) (hr1 : 0 ≤ r1 ∧ r1 < 3) {res : Int} {S9 : Sg} : ∀ (x4 : Int) (S : Sg) (nx4 : zn x4), zf_A_pass_157 r1 x4 S = some (res, S9) → ∀ (H : Heap) (locs : List Loc) (ls : Array Slot), zW B S H → va_S B.2.2.2 s.heap H locs → lv_has ls 5 [(1, .ref (B.2.1 0 (r1) (0))), (4, .int (zI (x4)))] → W p l e zm_A_pass s m args below meth c H locs 0 0 (MQ below (zQi B res S9) args s 0 0 B.2.2.2) (F0 m 157 ls []) := by
  intro x4 S nx4 hf H locs ls hW hS hl
  unfold zf_A_pass_157 at hf
  refine lv_aload_n C.1 C.2.1 zd_A_pass_157 rfl (lv_at hl 0 rfl) ?_
  refine lv_dup C.1 C.2.1 zd_A_pass_158 rfl ?_
  refine zg_I_week (r := r1) C hK hW (zvd_0 hr1 (by decide)) zk_240 zd_A_pass_159 ?_
  refine zr_iconst C zd_A_pass_162 ?_
  refine zr_iadd C zd_A_pass_163 ?_
  obtain ⟨S1, eS1, hf⟩ := zlt_some hf
  refine zp_I_week (r := r1) C hK hap hW hS (zvd_0 hr1 (by decide)) zk_240 (zn_w _) zd_A_pass_164 (fun H locs hW hS => ?_)
  rw [eS1] at hW
  refine lv_iload C.1 C.2.1 zd_A_pass_167 (lv_at hl 1 rfl) ?_
  cases hf
  exact zre_i C hr hlk hK hW hS nx4 zd_A_pass_169

def zf_A_pass_148 (r1 : Int) (x3 : Int) (x4 : Int) (S : Sg) : Option (Int × Sg) :=
    if x3 = 0 then (zf_A_pass_157 r1 (x4) S) else (zbd (zf_A_leave (r1) S) fun a2 S3 => zf_A_pass_157 r1 (x4) S3)
set_option maxHeartbeats 4000000 in
set_option maxRecDepth 100000 in
theorem zw_A_pass_148 {p : Program} {l : Launch} {e : Env} {s : State} {m : MethodId} {args : Array Value} {below : List Frame} {meth : Method} {c : Code} {B : zB} (C : CallFix p m c zb_A_pass 5 s args zT "IslandOffice$Almanac") (hr : meth.sig.returnType = some .int) (hlk : meth.locks = false) (hK : zK B s) (hSt : zSt B s) (hap : zAp B) (r1 : Int) (hr1 : 0 ≤ r1 ∧ r1 < 3) {res : Int} {S9 : Sg} : ∀ (x3 : Int) (x4 : Int) (S : Sg) (nx3 : zn x3) (nx4 : zn x4), zf_A_pass_148 r1 x3 x4 S = some (res, S9) → ∀ (H : Heap) (locs : List Loc) (ls : Array Slot), zW B S H → va_S B.2.2.2 s.heap H locs → lv_has ls 5 [(0, .ref (B.2.1 3 (0) (15))), (1, .ref (B.2.1 0 (r1) (0))), (3, .int (zI (x3))), (4, .int (zI (x4)))] → W p l e zm_A_pass s m args below meth c H locs 0 0 (MQ below (zQi B res S9) args s 0 0 B.2.2.2) (F0 m 148 ls []) := by
  intro x3 x4 S nx3 nx4 hf H locs ls hW hS hl
  unfold zf_A_pass_148 at hf
  refine lv_iload_n C.1 C.2.1 zd_A_pass_148 rfl (lv_at hl 2 rfl) ?_
  refine zr_if_eq (tgt := 157) C nx3 zd_A_pass_149 (by decide) (fun c1 => ?_) (fun c1 => ?_)
  · rw [if_pos c1] at hf
    exact zw_A_pass_157 C hr hlk hK hSt hap r1 hr1 (x4) S nx4 hf _ _ _ hW hS (lv_sub hl [1, 3] rfl)
  · rw [if_neg c1] at hf
    refine lv_aload_n C.1 C.2.1 zd_A_pass_152 rfl (lv_at hl 0 rfl) ?_
    refine lv_aload_n C.1 C.2.1 zd_A_pass_153 rfl (lv_at hl 1 rfl) ?_
    obtain ⟨a2, S3, ea2, hf⟩ := zbd_some hf
    refine zcVv (As := [.ref (B.2.1 0 (r1) (0))]) (rest := []) C hK hSt hW hS (zc_A_leave hap (r1) hr1 S ea2) zq_A_leave zk_1031 (zrecv hK hW (zvd_3 (by decide) (by decide)) (ze_3_15 B _ (0)) rfl) ⟨rfl, rfl, by decide, by decide⟩ ⟨Nat.zero_le _, Nat.zero_le _⟩ rfl hl.1 rfl (lv_room (Nat.le_of_ble_eq_true rfl)) zd_A_pass_154 (fun H locs hW hS => ?_)
    exact zw_A_pass_157 C hr hlk hK hSt hap r1 hr1 (x4) S3 nx4 hf _ _ _ hW hS (lv_sub hl [1, 3] rfl)

def zf_A_pass_131 (r1 : Int) (x3 : Int) (x4 : Int) (xt2 : Int) (S : Sg) : Option (Int × Sg) :=
    zbd (zf_A_fret (r1) xt2 S) fun a1 S2 => if (zrem (S2 0 r1 0 0) 4) = 3 then (zbd (zf_A_payMonth (r1) S2) fun a4 S5 => zf_A_pass_148 r1 (x3) (x4) S5) else (zf_A_pass_148 r1 (x3) (x4) S2)
set_option maxHeartbeats 4000000 in
set_option maxRecDepth 100000 in
theorem zw_A_pass_131 {p : Program} {l : Launch} {e : Env} {s : State} {m : MethodId} {args : Array Value} {below : List Frame} {meth : Method} {c : Code} {B : zB} (C : CallFix p m c zb_A_pass 5 s args zT "IslandOffice$Almanac") (hr : meth.sig.returnType = some .int) (hlk : meth.locks = false) (hK : zK B s) (hSt : zSt B s) (hap : zAp B) (r1 : Int) (hr1 : 0 ≤ r1 ∧ r1 < 3) {res : Int} {S9 : Sg} : ∀ (x3 : Int) (x4 : Int) (xt2 : Int) (S : Sg) (nx3 : zn x3) (nx4 : zn x4) (nxt2 : zn xt2), zf_A_pass_131 r1 x3 x4 xt2 S = some (res, S9) → ∀ (H : Heap) (locs : List Loc) (ls : Array Slot), zW B S H → va_S B.2.2.2 s.heap H locs → lv_has ls 5 [(0, .ref (B.2.1 3 (0) (15))), (1, .ref (B.2.1 0 (r1) (0))), (3, .int (zI (x3))), (4, .int (zI (x4)))] → W p l e zm_A_pass s m args below meth c H locs 0 0 (MQ below (zQi B res S9) args s 0 0 B.2.2.2) (F0 m 131 ls [.int (zI (xt2)), .ref (B.2.1 0 (r1) (0)), .ref (B.2.1 3 (0) (15))]) := by
  intro x3 x4 xt2 S nx3 nx4 nxt2 hf H locs ls hW hS hl
  unfold zf_A_pass_131 at hf
  obtain ⟨a1, S2, ea1, hf⟩ := zbd_some hf
  refine zcVv (As := [.ref (B.2.1 0 (r1) (0)), .int (zI (xt2))]) (rest := []) C hK hSt hW hS (zc_A_fret hap (r1) hr1 xt2 S nxt2 ea1) zq_A_fret zk_1006 (zrecv hK hW (zvd_3 (by decide) (by decide)) (ze_3_15 B _ (0)) rfl) ⟨rfl, rfl, by decide, by decide⟩ ⟨Nat.zero_le _, Nat.zero_le _⟩ rfl hl.1 rfl (lv_room (Nat.le_of_ble_eq_true rfl)) zd_A_pass_131 (fun H locs hW hS => ?_)
  refine lv_aload_n C.1 C.2.1 zd_A_pass_134 rfl (lv_at hl 1 rfl) ?_
  refine zg_I_week (r := r1) C hK hW (zvd_0 hr1 (by decide)) zk_240 zd_A_pass_135 ?_
  refine zr_iconst C zd_A_pass_138 ?_
  refine zr_irem C (zWn hW _ _ _ _ rfl) (znb rfl) (by decide) zd_A_pass_139 ?_
  refine zr_iconst C zd_A_pass_140 ?_
  refine zr_icmp_ne (tgt := 148) C (zn_rem _ _) (znb rfl) zd_A_pass_141 (by decide) (fun c3 => ?_) (fun c3 => ?_)
  · rw [if_neg c3] at hf
    exact zw_A_pass_148 C hr hlk hK hSt hap r1 hr1 (x3) (x4) S2 nx3 nx4 hf _ _ _ hW hS (lv_sub hl [0, 1, 2, 3] rfl)
  · rw [if_pos c3] at hf
    refine lv_aload_n C.1 C.2.1 zd_A_pass_144 rfl (lv_at hl 1 rfl) ?_
    obtain ⟨a4, S5, ea4, hf⟩ := zbd_some hf
    refine zcSv (As := [.ref (B.2.1 0 (r1) (0))]) (rest := []) C hK hSt hW hS (zc_A_payMonth hap (r1) hr1 S2 ea4) zq_A_payMonth zk_1019 ⟨rfl, rfl, by decide, by decide⟩ ⟨Nat.zero_le _, Nat.zero_le _⟩ rfl hl.1 rfl (lv_room (Nat.le_of_ble_eq_true rfl)) zd_A_pass_145 (fun H locs hW hS => ?_)
    exact zw_A_pass_148 C hr hlk hK hSt hap r1 hr1 (x3) (x4) S5 nx3 nx4 hf _ _ _ hW hS (lv_sub hl [0, 1, 2, 3] rfl)

def zf_A_pass_101 (r1 : Int) (x3 : Int) (S : Sg) : Option (Int × Sg) :=
    zbd (zf_A_feed (r1) S) fun a1 S2 => zbd (zf_A_burn (r1) S2) fun a3 S4 => zlt (zor a1 a3) fun v5 => if (zand (zshr v5 1) 1) = 1 then (zf_A_pass_131 r1 (x3) (v5) (1) S4) else (zf_A_pass_131 r1 (x3) (v5) (0) S4)
set_option maxHeartbeats 4000000 in
set_option maxRecDepth 100000 in
theorem zw_A_pass_101 {p : Program} {l : Launch} {e : Env} {s : State} {m : MethodId} {args : Array Value} {below : List Frame} {meth : Method} {c : Code} {B : zB} (C : CallFix p m c zb_A_pass 5 s args zT "IslandOffice$Almanac") (hr : meth.sig.returnType = some .int) (hlk : meth.locks = false) (hK : zK B s) (hSt : zSt B s) (hap : zAp B) (r1 : Int) (hr1 : 0 ≤ r1 ∧ r1 < 3) {res : Int} {S9 : Sg} : ∀ (x3 : Int) (S : Sg) (nx3 : zn x3), zf_A_pass_101 r1 x3 S = some (res, S9) → ∀ (H : Heap) (locs : List Loc) (ls : Array Slot), zW B S H → va_S B.2.2.2 s.heap H locs → lv_has ls 5 [(0, .ref (B.2.1 3 (0) (15))), (1, .ref (B.2.1 0 (r1) (0))), (3, .int (zI (x3)))] → W p l e zm_A_pass s m args below meth c H locs 0 0 (MQ below (zQi B res S9) args s 0 0 B.2.2.2) (F0 m 101 ls []) := by
  intro x3 S nx3 hf H locs ls hW hS hl
  unfold zf_A_pass_101 at hf
  refine lv_aload_n C.1 C.2.1 zd_A_pass_101 rfl (lv_at hl 0 rfl) ?_
  refine lv_aload_n C.1 C.2.1 zd_A_pass_102 rfl (lv_at hl 1 rfl) ?_
  obtain ⟨a1, S2, ea1, hf⟩ := zbd_some hf
  refine zcVi (As := [.ref (B.2.1 0 (r1) (0))]) (rest := []) C hK hSt hW hS (zc_A_feed hap (r1) hr1 S ea1) zq_A_feed zk_982 (zrecv hK hW (zvd_3 (by decide) (by decide)) (ze_3_15 B _ (0)) rfl) ⟨rfl, rfl, by decide, by decide⟩ ⟨Nat.zero_le _, Nat.zero_le _⟩ rfl hl.1 rfl (lv_room (Nat.le_of_ble_eq_true rfl)) zd_A_pass_103 (fun na1 H locs hW hS => ?_)
  refine lv_aload_n C.1 C.2.1 zd_A_pass_106 rfl (lv_at hl 0 rfl) ?_
  refine lv_aload_n C.1 C.2.1 zd_A_pass_107 rfl (lv_at hl 1 rfl) ?_
  obtain ⟨a3, S4, ea3, hf⟩ := zbd_some hf
  refine zcVi (As := [.ref (B.2.1 0 (r1) (0))]) (rest := [.int (zI (a1))]) C hK hSt hW hS (zc_A_burn hap (r1) hr1 S2 ea3) zq_A_burn zk_997 (zrecv hK hW (zvd_3 (by decide) (by decide)) (ze_3_15 B _ (0)) rfl) ⟨rfl, rfl, by decide, by decide⟩ ⟨Nat.zero_le _, Nat.zero_le _⟩ rfl hl.1 rfl (lv_room (Nat.le_of_ble_eq_true rfl)) zd_A_pass_108 (fun na3 H locs hW hS => ?_)
  refine zr_ior C zd_A_pass_111 ?_
  obtain ⟨v5, ev5, hf⟩ := zlt_some hf
  have nv5 : zn v5 := by rw [← ev5]; exact (zn_or _ _)
  rw [ev5]
  refine lv_istore (lv' := [(4, .int (zI (v5))), (0, .ref (B.2.1 3 (0) (15))), (1, .ref (B.2.1 0 (r1) (0))), (3, .int (zI (x3)))]) C.1 C.2.1 zd_A_pass_112 hl (by decide) rfl (fun ls hl => ?_)
  refine lv_aload_n C.1 C.2.1 zd_A_pass_114 rfl (lv_at hl 1 rfl) ?_
  refine lv_aload_n C.1 C.2.1 zd_A_pass_115 rfl (lv_at hl 2 rfl) ?_
  refine lv_iload C.1 C.2.1 zd_A_pass_116 (lv_at hl 0 rfl) ?_
  refine zr_iconst C zd_A_pass_118 ?_
  refine zr_ishr C zd_A_pass_119 ?_
  refine zr_iconst C zd_A_pass_120 ?_
  refine zr_iand C zd_A_pass_121 ?_
  refine zr_iconst C zd_A_pass_122 ?_
  refine zr_icmp_ne (tgt := 130) C (zn_and _ _) (znb rfl) zd_A_pass_123 (by decide) (fun c6 => ?_) (fun c6 => ?_)
  · rw [if_neg c6] at hf
    refine zr_iconst C zd_A_pass_130 ?_
    exact zw_A_pass_131 C hr hlk hK hSt hap r1 hr1 (x3) (v5) (0) S4 nx3 nv5 (znb rfl) hf _ _ _ hW hS (lv_sub hl [1, 2, 3, 0] rfl)
  · rw [if_pos c6] at hf
    refine zr_iconst C zd_A_pass_126 ?_
    refine lv_goto (tgt := 131) C.1 C.2.1 zd_A_pass_127 (by decide) ?_
    exact zw_A_pass_131 C hr hlk hK hSt hap r1 hr1 (x3) (v5) (1) S4 nx3 nv5 (znb rfl) hf _ _ _ hW hS (lv_sub hl [1, 2, 3, 0] rfl)

def zf_A_pass_25 (r1 : Int) (xt0 : Int) (S : Sg) : Option (Int × Sg) :=
    zbd (zf_A_sendGuestsOff (r1) S) fun a1 S2 => zbd (zf_A_letRain (r1) S2) fun a3 S4 => zbd (zf_A_countHeads (r1) S4) fun a5 S6 => zbd (zf_A_drink (r1) S6) fun a7 S8 => zbd (zf_A_graze (r1) S8) fun a9 S10 => zbd (zf_C_fill (r1) S10) fun a11 S12 => zlt (zu S12 3 0 15 7 a11) fun S13 => zbd (zf_A_work (r1) xt0 S13) fun a14 S15 => zbd (zf_A_lands (r1) xt0 S15) fun a16 S17 => if a16 = 0 then (zf_A_pass_101 r1 (a16) S17) else (zlt (zu S17 0 r1 0 6 (S17 0 r1 0 0)) fun S19 => zbd (zf_T_load (r1) (S19 0 r1 1 0) S19) fun a20 S21 => zf_A_pass_101 r1 (a16) S21)
set_option maxHeartbeats 4000000 in
set_option maxRecDepth 100000 in
theorem zw_A_pass_25 {p : Program} {l : Launch} {e : Env} {s : State} {m : MethodId} {args : Array Value} {below : List Frame} {meth : Method} {c : Code} {B : zB} (C : CallFix p m c zb_A_pass 5 s args zT "IslandOffice$Almanac") (hr : meth.sig.returnType = some .int) (hlk : meth.locks = false) (hK : zK B s) (hSt : zSt B s) (hap : zAp B) (r1 : Int) (hr1 : 0 ≤ r1 ∧ r1 < 3) {res : Int} {S9 : Sg} : ∀ (xt0 : Int) (S : Sg) (nxt0 : zn xt0), zf_A_pass_25 r1 xt0 S = some (res, S9) → ∀ (H : Heap) (locs : List Loc) (ls : Array Slot), zW B S H → va_S B.2.2.2 s.heap H locs → lv_has ls 5 [(0, .ref (B.2.1 3 (0) (15))), (1, .ref (B.2.1 0 (r1) (0)))] → W p l e zm_A_pass s m args below meth c H locs 0 0 (MQ below (zQi B res S9) args s 0 0 B.2.2.2) (F0 m 25 ls [.int (zI (xt0))]) := by
  intro xt0 S nxt0 hf H locs ls hW hS hl
  unfold zf_A_pass_25 at hf
  refine lv_istore_n (lv' := [(2, .int (zI (xt0))), (0, .ref (B.2.1 3 (0) (15))), (1, .ref (B.2.1 0 (r1) (0)))]) C.1 C.2.1 zd_A_pass_25 rfl hl (by decide) rfl (fun ls hl => ?_)
  refine lv_aload_n C.1 C.2.1 zd_A_pass_26 rfl (lv_at hl 2 rfl) ?_
  obtain ⟨a1, S2, ea1, hf⟩ := zbd_some hf
  refine zcSv (As := [.ref (B.2.1 0 (r1) (0))]) (rest := []) C hK hSt hW hS (zc_A_sendGuestsOff hap (r1) hr1 S ea1) zq_A_sendGuestsOff zk_939 ⟨rfl, rfl, by decide, by decide⟩ ⟨Nat.zero_le _, Nat.zero_le _⟩ rfl hl.1 rfl (lv_room (Nat.le_of_ble_eq_true rfl)) zd_A_pass_27 (fun H locs hW hS => ?_)
  refine lv_aload_n C.1 C.2.1 zd_A_pass_30 rfl (lv_at hl 2 rfl) ?_
  obtain ⟨a3, S4, ea3, hf⟩ := zbd_some hf
  refine zcSv (As := [.ref (B.2.1 0 (r1) (0))]) (rest := []) C hK hSt hW hS (zc_A_letRain hap (r1) hr1 S2 ea3) zq_A_letRain zk_942 ⟨rfl, rfl, by decide, by decide⟩ ⟨Nat.zero_le _, Nat.zero_le _⟩ rfl hl.1 rfl (lv_room (Nat.le_of_ble_eq_true rfl)) zd_A_pass_31 (fun H locs hW hS => ?_)
  refine lv_aload_n C.1 C.2.1 zd_A_pass_34 rfl (lv_at hl 1 rfl) ?_
  refine lv_aload_n C.1 C.2.1 zd_A_pass_35 rfl (lv_at hl 2 rfl) ?_
  obtain ⟨a5, S6, ea5, hf⟩ := zbd_some hf
  refine zcVv (As := [.ref (B.2.1 0 (r1) (0))]) (rest := []) C hK hSt hW hS (zc_A_countHeads hap (r1) hr1 S4 ea5) zq_A_countHeads zk_950 (zrecv hK hW (zvd_3 (by decide) (by decide)) (ze_3_15 B _ (0)) rfl) ⟨rfl, rfl, by decide, by decide⟩ ⟨Nat.zero_le _, Nat.zero_le _⟩ rfl hl.1 rfl (lv_room (Nat.le_of_ble_eq_true rfl)) zd_A_pass_36 (fun H locs hW hS => ?_)
  refine lv_aload_n C.1 C.2.1 zd_A_pass_39 rfl (lv_at hl 1 rfl) ?_
  refine lv_aload_n C.1 C.2.1 zd_A_pass_40 rfl (lv_at hl 2 rfl) ?_
  obtain ⟨a7, S8, ea7, hf⟩ := zbd_some hf
  refine zcVv (As := [.ref (B.2.1 0 (r1) (0))]) (rest := []) C hK hSt hW hS (zc_A_drink hap (r1) hr1 S6 ea7) zq_A_drink zk_955 (zrecv hK hW (zvd_3 (by decide) (by decide)) (ze_3_15 B _ (0)) rfl) ⟨rfl, rfl, by decide, by decide⟩ ⟨Nat.zero_le _, Nat.zero_le _⟩ rfl hl.1 rfl (lv_room (Nat.le_of_ble_eq_true rfl)) zd_A_pass_41 (fun H locs hW hS => ?_)
  refine lv_aload_n C.1 C.2.1 zd_A_pass_44 rfl (lv_at hl 2 rfl) ?_
  obtain ⟨a9, S10, ea9, hf⟩ := zbd_some hf
  refine zcSv (As := [.ref (B.2.1 0 (r1) (0))]) (rest := []) C hK hSt hW hS (zc_A_graze hap (r1) hr1 S8 ea9) zq_A_graze zk_960 ⟨rfl, rfl, by decide, by decide⟩ ⟨Nat.zero_le _, Nat.zero_le _⟩ rfl hl.1 rfl (lv_room (Nat.le_of_ble_eq_true rfl)) zd_A_pass_45 (fun H locs hW hS => ?_)
  refine lv_aload_n C.1 C.2.1 zd_A_pass_48 rfl (lv_at hl 1 rfl) ?_
  refine lv_aload_n C.1 C.2.1 zd_A_pass_49 rfl (lv_at hl 1 rfl) ?_
  refine zg_A_crews (r := 0) C hK hW (zvd_3 (by decide) (by decide)) zk_467 zd_A_pass_50 ?_
  refine lv_aload_n C.1 C.2.1 zd_A_pass_53 rfl (lv_at hl 2 rfl) ?_
  refine lv_aload_n C.1 C.2.1 zd_A_pass_54 rfl (lv_at hl 1 rfl) ?_
  refine zg_A_judge (r := 0) C hK hW (zvd_3 (by decide) (by decide)) zk_466 zd_A_pass_55 ?_
  obtain ⟨a11, S12, ea11, hf⟩ := zbd_some hf
  refine zcVi (As := [.ref (B.2.1 0 (r1) (0)), .ref (B.2.1 3 (0) (7))]) (rest := [.ref (B.2.1 3 (0) (15))]) C hK hSt hW hS (zc_C_fill hap (r1) hr1 S10 ea11) zq_C_fill zk_964 (zrecv hK hW (zvd_3 (by decide) (by decide)) (ze_3_10 B _ (0)) rfl) ⟨rfl, rfl, by decide, by decide⟩ ⟨Nat.zero_le _, Nat.zero_le _⟩ rfl hl.1 rfl (lv_room (Nat.le_of_ble_eq_true rfl)) zd_A_pass_58 (fun na11 H locs hW hS => ?_)
  obtain ⟨S13, eS13, hf⟩ := zlt_some hf
  refine zp_A_filledPosts (r := 0) C hK hap hW hS (zvd_3 (by decide) (by decide)) zk_473 na11 zd_A_pass_61 (fun H locs hW hS => ?_)
  rw [eS13] at hW
  refine lv_aload_n C.1 C.2.1 zd_A_pass_64 rfl (lv_at hl 1 rfl) ?_
  refine lv_aload_n C.1 C.2.1 zd_A_pass_65 rfl (lv_at hl 2 rfl) ?_
  refine lv_iload_n C.1 C.2.1 zd_A_pass_66 rfl (lv_at hl 0 rfl) ?_
  obtain ⟨a14, S15, ea14, hf⟩ := zbd_some hf
  refine zcVv (As := [.ref (B.2.1 0 (r1) (0)), .int (zI (xt0))]) (rest := []) C hK hSt hW hS (zc_A_work hap (r1) hr1 xt0 S13 nxt0 ea14) zq_A_work zk_965 (zrecv hK hW (zvd_3 (by decide) (by decide)) (ze_3_15 B _ (0)) rfl) ⟨rfl, rfl, by decide, by decide⟩ ⟨Nat.zero_le _, Nat.zero_le _⟩ rfl hl.1 rfl (lv_room (Nat.le_of_ble_eq_true rfl)) zd_A_pass_67 (fun H locs hW hS => ?_)
  refine lv_aload_n C.1 C.2.1 zd_A_pass_70 rfl (lv_at hl 2 rfl) ?_
  refine lv_iload_n C.1 C.2.1 zd_A_pass_71 rfl (lv_at hl 0 rfl) ?_
  obtain ⟨a16, S17, ea16, hf⟩ := zbd_some hf
  refine zcSi (As := [.ref (B.2.1 0 (r1) (0)), .int (zI (xt0))]) (rest := []) C hK hSt hW hS (zc_A_lands hap (r1) hr1 xt0 S15 nxt0 ea16) zq_A_lands zk_974 ⟨rfl, rfl, by decide, by decide⟩ ⟨Nat.zero_le _, Nat.zero_le _⟩ rfl hl.1 rfl (lv_room (Nat.le_of_ble_eq_true rfl)) zd_A_pass_72 (fun na16 H locs hW hS => ?_)
  refine lv_istore_n (lv' := [(3, .int (zI (a16))), (2, .int (zI (xt0))), (0, .ref (B.2.1 3 (0) (15))), (1, .ref (B.2.1 0 (r1) (0)))]) C.1 C.2.1 zd_A_pass_75 rfl hl (by decide) rfl (fun ls hl => ?_)
  refine lv_iload_n C.1 C.2.1 zd_A_pass_76 rfl (lv_at hl 0 rfl) ?_
  refine zr_if_eq (tgt := 101) C na16 zd_A_pass_77 (by decide) (fun c18 => ?_) (fun c18 => ?_)
  · rw [if_pos c18] at hf
    exact zw_A_pass_101 C hr hlk hK hSt hap r1 hr1 (a16) S17 na16 hf _ _ _ hW hS (lv_sub hl [2, 3, 0] rfl)
  · rw [if_neg c18] at hf
    refine lv_aload_n C.1 C.2.1 zd_A_pass_80 rfl (lv_at hl 3 rfl) ?_
    refine lv_aload_n C.1 C.2.1 zd_A_pass_81 rfl (lv_at hl 3 rfl) ?_
    refine zg_I_week (r := r1) C hK hW (zvd_0 hr1 (by decide)) zk_240 zd_A_pass_82 ?_
    obtain ⟨S19, eS19, hf⟩ := zlt_some hf
    refine zp_I_landed (r := r1) C hK hap hW hS (zvd_0 hr1 (by decide)) zk_260 (zWn hW _ _ _ _ rfl) zd_A_pass_85 (fun H locs hW hS => ?_)
    rw [eS19] at hW
    refine lv_aload_n C.1 C.2.1 zd_A_pass_88 rfl (lv_at hl 3 rfl) ?_
    refine zg_I_stores (r := r1) C hK hW (zvd_0 hr1 (by decide)) zk_291 zd_A_pass_89 ?_
    refine lv_aload_n C.1 C.2.1 zd_A_pass_92 rfl (lv_at hl 3 rfl) ?_
    refine zg_I_settings (r := r1) C hK hW (zvd_0 hr1 (by decide)) zk_263 zd_A_pass_93 ?_
    refine zr_iconst C zd_A_pass_96 ?_
    refine ziald C hK hW (zvd_0 hr1 (by decide)) (fun f => ze_0_1 B f (r1)) (by decide) (by decide) zd_A_pass_97 ?_
    obtain ⟨a20, S21, ea20, hf⟩ := zbd_some hf
    refine zcVv (As := [.int (zI (S19 0 r1 1 0))]) (rest := []) C hK hSt hW hS (zc_T_load hap (r1) hr1 (S19 0 r1 1 0) S19 (zWn hW _ _ _ _ rfl) ea20) zq_T_load zk_977 (zrecv hK hW (zvd_0 hr1 (by decide)) (ze_0_31 B _ (r1)) rfl) ⟨rfl, rfl, by decide, by decide⟩ ⟨Nat.zero_le _, Nat.zero_le _⟩ rfl hl.1 rfl (lv_room (Nat.le_of_ble_eq_true rfl)) zd_A_pass_98 (fun H locs hW hS => ?_)
    exact zw_A_pass_101 C hr hlk hK hSt hap r1 hr1 (a16) S21 na16 hf _ _ _ hW hS (lv_sub hl [2, 3, 0] rfl)

def zf_A_pass (r1 : Int) (S : Sg) : Option (Int × Sg) :=
    zbd (zf_Y_at (r1) (0) (S 0 r1 0 0) S) fun a1 S2 => if (S2 0 r1 1 1) < a1 then (zf_A_pass_25 r1 (0) S2) else (zf_A_pass_25 r1 (1) S2)
set_option maxHeartbeats 4000000 in
set_option maxRecDepth 100000 in
theorem zw_A_pass {p : Program} {l : Launch} {e : Env} {s : State} {m : MethodId} {args : Array Value} {below : List Frame} {meth : Method} {c : Code} {B : zB} (C : CallFix p m c zb_A_pass 5 s args zT "IslandOffice$Almanac") (hr : meth.sig.returnType = some .int) (hlk : meth.locks = false) (hK : zK B s) (hSt : zSt B s) (hap : zAp B) (r1 : Int) (hr1 : 0 ≤ r1 ∧ r1 < 3) {res : Int} {S9 : Sg} : ∀  (S : Sg) , zf_A_pass r1  S = some (res, S9) → ∀ (H : Heap) (locs : List Loc) (ls : Array Slot), zW B S H → va_S B.2.2.2 s.heap H locs → lv_has ls 5 [(0, .ref (B.2.1 3 (0) (15))), (1, .ref (B.2.1 0 (r1) (0)))] → W p l e zm_A_pass s m args below meth c H locs 0 0 (MQ below (zQi B res S9) args s 0 0 B.2.2.2) (F0 m 0 ls []) := by
  intro S hf H locs ls hW hS hl
  unfold zf_A_pass at hf
  refine lv_aload_n C.1 C.2.1 zd_A_pass_0 rfl (lv_at hl 1 rfl) ?_
  refine zg_I_weather (r := r1) C hK hW (zvd_0 hr1 (by decide)) zk_294 zd_A_pass_1 ?_
  refine lv_aload_n C.1 C.2.1 zd_A_pass_4 rfl (lv_at hl 1 rfl) ?_
  refine zg_I_week (r := r1) C hK hW (zvd_0 hr1 (by decide)) zk_240 zd_A_pass_5 ?_
  obtain ⟨a1, S2, ea1, hf⟩ := zbd_some hf
  refine zcVi (As := [.int (zI (S 0 r1 0 0))]) (rest := []) C hK hSt hW hS (zc_Y_at hap (r1) (0) hr1 (by decide) (S 0 r1 0 0) S (zWn hW _ _ _ _ rfl) ea1) zq_Y_at zk_938 (zrecv hK hW (zvd_13 hr1 (by decide)) (ze_13 B _ (r1) (0)) rfl) ⟨rfl, rfl, by decide, by decide⟩ ⟨Nat.zero_le _, Nat.zero_le _⟩ rfl hl.1 rfl (lv_room (Nat.le_of_ble_eq_true rfl)) zd_A_pass_8 (fun na1 H locs hW hS => ?_)
  refine lv_aload_n C.1 C.2.1 zd_A_pass_11 rfl (lv_at hl 1 rfl) ?_
  refine zg_I_settings (r := r1) C hK hW (zvd_0 hr1 (by decide)) zk_263 zd_A_pass_12 ?_
  refine zr_iconst C zd_A_pass_15 ?_
  refine ziald C hK hW (zvd_0 hr1 (by decide)) (fun f => ze_0_1 B f (r1)) (by decide) (by decide) zd_A_pass_16 ?_
  refine zr_icmp_gt (tgt := 24) C na1 (zWn hW _ _ _ _ rfl) zd_A_pass_17 (by decide) (fun c3 => ?_) (fun c3 => ?_)
  · rw [if_pos c3] at hf
    refine zr_iconst C zd_A_pass_24 ?_
    exact zw_A_pass_25 C hr hlk hK hSt hap r1 hr1 (0) S2 (znb rfl) hf _ _ _ hW hS (lv_sub hl [0, 1] rfl)
  · rw [if_neg c3] at hf
    refine zr_iconst C zd_A_pass_20 ?_
    refine lv_goto (tgt := 25) C.1 C.2.1 zd_A_pass_21 (by decide) ?_
    exact zw_A_pass_25 C hr hlk hK hSt hap r1 hr1 (1) S2 (znb rfl) hf _ _ _ hW hS (lv_sub hl [0, 1] rfl)

theorem zc_A_pass {l : Launch} {B : zB} (hap : zAp B) (r1 : Int) (hr1 : 0 ≤ r1 ∧ r1 < 3) (S : Sg) {res : Int} {S9 : Sg} (hf : zf_A_pass r1 S = some (res, S9)) : Met l zy_A_pass (Cond.code zy_A_pass zb_A_pass 5 (some .int) :: zT) zm_A_pass (zP B S [.ref (B.2.1 3 (0) (15)), .ref (B.2.1 0 (r1) (0))]) (zQi B res S9) 0 0 B.2.2.2 :=
  zmet (by decide) (Nat.le_of_ble_eq_true rfl) (fun p e s m args below meth c C hr hlk hK hSt hW ls hl => zw_A_pass C hr hlk hK hSt hap r1 hr1  S  hf _ _ _ hW va_S.rf hl)
/-! IslandOffice.weeks(I)I -/
abbrev zy_O_weeks : MethodName := ⟨"IslandOffice", "weeks", "(I)I"⟩
abbrev zb_O_weeks : ByteArray := prog_1_method_32_code
abbrev zm_O_weeks : Room := { frames := 6, cells := 0, slots := 0, locals := 192 }
theorem zq_O_weeks : zMy zy_O_weeks zb_O_weeks 3 (some .int) 1 := ⟨zk_933, zk_931, zk_932, zk_1, by decide, by decide, by decide +kernel⟩
theorem zd_O_weeks_0 : decode zb_O_weeks 0 = .ok (.iload_n 1, 1) := by decide +kernel
theorem zd_O_weeks_1 : decode zb_O_weeks 1 = .ok (.iconst 1, 1) := by decide +kernel
theorem zd_O_weeks_2 : decode zb_O_weeks 2 = .ok (.if_icmp .lt 9, 3) := by decide +kernel
theorem zd_O_weeks_5 : decode zb_O_weeks 5 = .ok (.iload_n 1, 1) := by decide +kernel
theorem zd_O_weeks_6 : decode zb_O_weeks 6 = .ok (.bipush 52, 2) := by decide +kernel
theorem zd_O_weeks_8 : decode zb_O_weeks 8 = .ok (.if_icmp .le 5, 3) := by decide +kernel
theorem zd_O_weeks_11 : decode zb_O_weeks 11 = .ok (.iconst (-1), 1) := by decide +kernel
theorem zd_O_weeks_12 : decode zb_O_weeks 12 = .ok (.ireturn, 1) := by decide +kernel
theorem zd_O_weeks_13 : decode zb_O_weeks 13 = .ok (.aload_n 0, 1) := by decide +kernel
theorem zd_O_weeks_14 : decode zb_O_weeks 14 = .ok (.getfield 16, 3) := by decide +kernel
theorem zd_O_weeks_17 : decode zb_O_weeks 17 = .ok (.getfield 94, 3) := by decide +kernel
theorem zd_O_weeks_20 : decode zb_O_weeks 20 = .ok (.iload_n 1, 1) := by decide +kernel
theorem zd_O_weeks_21 : decode zb_O_weeks 21 = .ok (.iadd, 1) := by decide +kernel
theorem zd_O_weeks_22 : decode zb_O_weeks 22 = .ok (.sipush 400, 3) := by decide +kernel
theorem zd_O_weeks_25 : decode zb_O_weeks 25 = .ok (.if_icmp .le 6, 3) := by decide +kernel
theorem zd_O_weeks_28 : decode zb_O_weeks 28 = .ok (.bipush (-2), 2) := by decide +kernel
theorem zd_O_weeks_30 : decode zb_O_weeks 30 = .ok (.ireturn, 1) := by decide +kernel
theorem zd_O_weeks_31 : decode zb_O_weeks 31 = .ok (.iconst 0, 1) := by decide +kernel
theorem zd_O_weeks_32 : decode zb_O_weeks 32 = .ok (.istore_n 2, 1) := by decide +kernel
theorem zd_O_weeks_33 : decode zb_O_weeks 33 = .ok (.iload_n 2, 1) := by decide +kernel
theorem zd_O_weeks_34 : decode zb_O_weeks 34 = .ok (.iload_n 1, 1) := by decide +kernel
theorem zd_O_weeks_35 : decode zb_O_weeks 35 = .ok (.if_icmp .ge 34, 3) := by decide +kernel
theorem zd_O_weeks_38 : decode zb_O_weeks 38 = .ok (.aload_n 0, 1) := by decide +kernel
theorem zd_O_weeks_39 : decode zb_O_weeks 39 = .ok (.getfield 67, 3) := by decide +kernel
theorem zd_O_weeks_42 : decode zb_O_weeks 42 = .ok (.aload_n 0, 1) := by decide +kernel
theorem zd_O_weeks_43 : decode zb_O_weeks 43 = .ok (.getfield 16, 3) := by decide +kernel
theorem zd_O_weeks_46 : decode zb_O_weeks 46 = .ok (.invokevirtual 310, 3) := by decide +kernel
theorem zd_O_weeks_49 : decode zb_O_weeks 49 = .ok (.pop, 1) := by decide +kernel
theorem zd_O_weeks_50 : decode zb_O_weeks 50 = .ok (.aload_n 0, 1) := by decide +kernel
theorem zd_O_weeks_51 : decode zb_O_weeks 51 = .ok (.aload_n 0, 1) := by decide +kernel
theorem zd_O_weeks_52 : decode zb_O_weeks 52 = .ok (.getfield 16, 3) := by decide +kernel
theorem zd_O_weeks_55 : decode zb_O_weeks 55 = .ok (.getfield 94, 3) := by decide +kernel
theorem zd_O_weeks_58 : decode zb_O_weeks 58 = .ok (.iconst 1, 1) := by decide +kernel
theorem zd_O_weeks_59 : decode zb_O_weeks 59 = .ok (.isub, 1) := by decide +kernel
theorem zd_O_weeks_60 : decode zb_O_weeks 60 = .ok (.invokevirtual 313, 3) := by decide +kernel
theorem zd_O_weeks_63 : decode zb_O_weeks 63 = .ok (.iinc 2 1, 3) := by decide +kernel
theorem zd_O_weeks_66 : decode zb_O_weeks 66 = .ok (.goto (-33), 3) := by decide +kernel
theorem zd_O_weeks_69 : decode zb_O_weeks 69 = .ok (.aload_n 0, 1) := by decide +kernel
theorem zd_O_weeks_70 : decode zb_O_weeks 70 = .ok (.getfield 16, 3) := by decide +kernel
theorem zd_O_weeks_73 : decode zb_O_weeks 73 = .ok (.getfield 81, 3) := by decide +kernel
theorem zd_O_weeks_76 : decode zb_O_weeks 76 = .ok (.iconst 0, 1) := by decide +kernel
theorem zd_O_weeks_77 : decode zb_O_weeks 77 = .ok (.invokevirtual 317, 3) := by decide +kernel
theorem zd_O_weeks_80 : decode zb_O_weeks 80 = .ok (.ireturn, 1) := by decide +kernel

def zf_O_weeks_33 : Nat → Int → Int → Sg → Option (Int × Sg)
  | 0, _, _, _ => none
  | n + 1, x1, x2, S =>
    if x1 ≤ x2 then (zbd (zf_P_in (0) 0 S) fun a2 S3 => some (a2, S3)) else (zbd (zf_A_pass (0) S) fun a4 S5 => zbd (zf_O_noteRecord (zw ((S5 0 0 0 0) - 1)) S5) fun a6 S7 => zlt (zw (x2 + 1)) fun v8 => (zf_O_weeks_33 n) (x1) (v8) S7)
set_option maxHeartbeats 4000000 in
set_option maxRecDepth 100000 in
theorem zw_O_weeks_33 {p : Program} {l : Launch} {e : Env} {s : State} {m : MethodId} {args : Array Value} {below : List Frame} {meth : Method} {c : Code} {B : zB} (C : CallFix p m c zb_O_weeks 3 s args zT "IslandOffice") (hr : meth.sig.returnType = some .int) (hlk : meth.locks = false) (hK : zK B s) (hSt : zSt B s) (hap : zAp B) {res : Int} {S9 : Sg} : ∀ n : Nat, ∀ (x1 : Int) (x2 : Int) (S : Sg) (nx1 : zn x1) (nx2 : zn x2), zf_O_weeks_33 n x1 x2 S = some (res, S9) → ∀ (H : Heap) (locs : List Loc) (ls : Array Slot), zW B S H → va_S B.2.2.2 s.heap H locs → lv_has ls 3 [(0, .ref (B.2.1 3 (0) (0))), (1, .int (zI (x1))), (2, .int (zI (x2)))] → W p l e zm_O_weeks s m args below meth c H locs 0 0 (MQ below (zQi B res S9) args s 0 0 B.2.2.2) (F0 m 33 ls []) := by
  intro n
  induction n with
  | zero =>
    intro x1 x2 S nx1 nx2 hf H locs ls hW hS hl
    cases hf
  | succ n ih =>
    intro x1 x2 S nx1 nx2 hf H locs ls hW hS hl
    rw [zf_O_weeks_33] at hf
    refine lv_iload_n C.1 C.2.1 zd_O_weeks_33 rfl (lv_at hl 2 rfl) ?_
    refine lv_iload_n C.1 C.2.1 zd_O_weeks_34 rfl (lv_at hl 1 rfl) ?_
    refine zr_icmp_ge (tgt := 69) C nx2 nx1 zd_O_weeks_35 (by decide) (fun c1 => ?_) (fun c1 => ?_)
    · rw [if_pos c1] at hf
      refine lv_aload_n C.1 C.2.1 zd_O_weeks_69 rfl (lv_at hl 0 rfl) ?_
      refine zg_O_now (r := 0) C hK hW (zvd_3 (by decide) (by decide)) zk_492 zd_O_weeks_70 ?_
      refine zg_I_people (r := 0) C hK hW (zvd_0 (by decide) (by decide)) zk_280 zd_O_weeks_73 ?_
      refine zr_iconst C zd_O_weeks_76 ?_
      obtain ⟨a2, S3, ea2, hf⟩ := zbd_some hf
      refine zcVi (As := [.int (zI (0))]) (rest := []) C hK hSt hW hS (zc_P_in hap (0) (by decide) 0 S (znb rfl) ea2) zq_P_in zk_1043 (zrecv hK hW (zvd_0 (by decide) (by decide)) (ze_0_6 B _ (0)) rfl) ⟨rfl, rfl, by decide, by decide⟩ ⟨Nat.zero_le _, Nat.zero_le _⟩ rfl hl.1 rfl (lv_room (Nat.le_of_ble_eq_true rfl)) zd_O_weeks_77 (fun na2 H locs hW hS => ?_)
      cases hf
      exact zre_i C hr hlk hK hW hS na2 zd_O_weeks_80
    · rw [if_neg c1] at hf
      refine lv_aload_n C.1 C.2.1 zd_O_weeks_38 rfl (lv_at hl 0 rfl) ?_
      refine zg_O_almanac (r := 0) C hK hW (zvd_3 (by decide) (by decide)) zk_501 zd_O_weeks_39 ?_
      refine lv_aload_n C.1 C.2.1 zd_O_weeks_42 rfl (lv_at hl 0 rfl) ?_
      refine zg_O_now (r := 0) C hK hW (zvd_3 (by decide) (by decide)) zk_492 zd_O_weeks_43 ?_
      obtain ⟨a4, S5, ea4, hf⟩ := zbd_some hf
      refine zcVi (As := [.ref (B.2.1 0 (0) (0))]) (rest := []) C hK hSt hW hS (zc_A_pass hap (0) (by decide) S ea4) zq_A_pass zk_934 (zrecv hK hW (zvd_3 (by decide) (by decide)) (ze_3_15 B _ (0)) rfl) ⟨rfl, rfl, by decide, by decide⟩ ⟨Nat.zero_le _, Nat.zero_le _⟩ rfl hl.1 rfl (lv_room (Nat.le_of_ble_eq_true rfl)) zd_O_weeks_46 (fun na4 H locs hW hS => ?_)
      refine lv_pop C.1 C.2.1 zd_O_weeks_49 rfl ?_
      refine lv_aload_n C.1 C.2.1 zd_O_weeks_50 rfl (lv_at hl 0 rfl) ?_
      refine lv_aload_n C.1 C.2.1 zd_O_weeks_51 rfl (lv_at hl 0 rfl) ?_
      refine zg_O_now (r := 0) C hK hW (zvd_3 (by decide) (by decide)) zk_492 zd_O_weeks_52 ?_
      refine zg_I_week (r := 0) C hK hW (zvd_0 (by decide) (by decide)) zk_242 zd_O_weeks_55 ?_
      refine zr_iconst C zd_O_weeks_58 ?_
      refine zr_isub C zd_O_weeks_59 ?_
      obtain ⟨a6, S7, ea6, hf⟩ := zbd_some hf
      refine zcVv (As := [.int (zI (zw ((S5 0 0 0 0) - 1)))]) (rest := []) C hK hSt hW hS (zc_O_noteRecord hap (zw ((S5 0 0 0 0) - 1)) S5 (zn_w _) ea6) zq_O_noteRecord zk_1039 (zrecv hK hW (zvd_3 (by decide) (by decide)) (ze_3_0 B _ (0)) rfl) ⟨rfl, rfl, by decide, by decide⟩ ⟨Nat.zero_le _, Nat.zero_le _⟩ rfl hl.1 rfl (lv_room (Nat.le_of_ble_eq_true rfl)) zd_O_weeks_60 (fun H locs hW hS => ?_)
      obtain ⟨v8, ev8, hf⟩ := zlt_some hf
      have nv8 : zn v8 := by rw [← ev8]; exact zn_w _
      refine lv_iinc (v := zI v8) (lv' := [(2, .int (zI (v8))), (0, .ref (B.2.1 3 (0) (0))), (1, .int (zI (x1)))]) C.1 C.2.1 zd_O_weeks_63 hl (k := 2) rfl (by rw [← ev8, ← zI_add]; rfl) (by decide) rfl (fun ls hl => ?_)
      refine lv_goto (tgt := 33) C.1 C.2.1 zd_O_weeks_66 (by decide) ?_
      exact ih (x1) (v8) S7 nx1 nv8 hf _ _ _ hW hS (lv_sub hl [1, 2, 0] rfl)

def zf_O_weeks (x1 : Int) (S : Sg) : Option (Int × Sg) :=
    if x1 < 1 then (some (-1, S)) else (if x1 ≤ 52 then (if (zw ((S 0 0 0 0) + x1)) ≤ 400 then (zf_O_weeks_33 4096 (x1) (0) S) else (some (-2, S))) else (some (-1, S)))
set_option maxHeartbeats 4000000 in
set_option maxRecDepth 100000 in
theorem zw_O_weeks {p : Program} {l : Launch} {e : Env} {s : State} {m : MethodId} {args : Array Value} {below : List Frame} {meth : Method} {c : Code} {B : zB} (C : CallFix p m c zb_O_weeks 3 s args zT "IslandOffice") (hr : meth.sig.returnType = some .int) (hlk : meth.locks = false) (hK : zK B s) (hSt : zSt B s) (hap : zAp B) {res : Int} {S9 : Sg} : ∀ (x1 : Int) (S : Sg) (nx1 : zn x1), zf_O_weeks x1 S = some (res, S9) → ∀ (H : Heap) (locs : List Loc) (ls : Array Slot), zW B S H → va_S B.2.2.2 s.heap H locs → lv_has ls 3 [(0, .ref (B.2.1 3 (0) (0))), (1, .int (zI (x1)))] → W p l e zm_O_weeks s m args below meth c H locs 0 0 (MQ below (zQi B res S9) args s 0 0 B.2.2.2) (F0 m 0 ls []) := by
  intro x1 S nx1 hf H locs ls hW hS hl
  unfold zf_O_weeks at hf
  refine lv_iload_n C.1 C.2.1 zd_O_weeks_0 rfl (lv_at hl 1 rfl) ?_
  refine zr_iconst C zd_O_weeks_1 ?_
  refine zr_icmp_lt (tgt := 11) C nx1 (znb rfl) zd_O_weeks_2 (by decide) (fun c1 => ?_) (fun c1 => ?_)
  · rw [if_pos c1] at hf
    refine zr_iconst C zd_O_weeks_11 ?_
    cases hf
    exact zre_i C hr hlk hK hW hS (znb rfl) zd_O_weeks_12
  · rw [if_neg c1] at hf
    refine lv_iload_n C.1 C.2.1 zd_O_weeks_5 rfl (lv_at hl 1 rfl) ?_
    refine zr_bipush C zd_O_weeks_6 (by decide) ?_
    refine zr_icmp_le (tgt := 13) C nx1 (znb rfl) zd_O_weeks_8 (by decide) (fun c2 => ?_) (fun c2 => ?_)
    · rw [if_pos c2] at hf
      refine lv_aload_n C.1 C.2.1 zd_O_weeks_13 rfl (lv_at hl 0 rfl) ?_
      refine zg_O_now (r := 0) C hK hW (zvd_3 (by decide) (by decide)) zk_492 zd_O_weeks_14 ?_
      refine zg_I_week (r := 0) C hK hW (zvd_0 (by decide) (by decide)) zk_242 zd_O_weeks_17 ?_
      refine lv_iload_n C.1 C.2.1 zd_O_weeks_20 rfl (lv_at hl 1 rfl) ?_
      refine zr_iadd C zd_O_weeks_21 ?_
      refine zr_sipush C zd_O_weeks_22 (by decide) ?_
      refine zr_icmp_le (tgt := 31) C (zn_w _) (znb rfl) zd_O_weeks_25 (by decide) (fun c3 => ?_) (fun c3 => ?_)
      · rw [if_pos c3] at hf
        refine zr_iconst C zd_O_weeks_31 ?_
        refine lv_istore_n (lv' := [(2, .int (zI (0))), (0, .ref (B.2.1 3 (0) (0))), (1, .int (zI (x1)))]) C.1 C.2.1 zd_O_weeks_32 rfl hl (by decide) rfl (fun ls hl => ?_)
        exact zw_O_weeks_33 C hr hlk hK hSt hap   4096 (x1) (0) S nx1 (znb rfl) hf _ _ _ hW hS (lv_sub hl [1, 2, 0] rfl)
      · rw [if_neg c3] at hf
        refine zr_bipush C zd_O_weeks_28 (by decide) ?_
        cases hf
        exact zre_i C hr hlk hK hW hS (znb rfl) zd_O_weeks_30
    · rw [if_neg c2] at hf
      refine zr_iconst C zd_O_weeks_11 ?_
      cases hf
      exact zre_i C hr hlk hK hW hS (znb rfl) zd_O_weeks_12

theorem zc_O_weeks {l : Launch} {B : zB} (hap : zAp B) (x1 : Int) (S : Sg) (nx1 : zn x1) {res : Int} {S9 : Sg} (hf : zf_O_weeks x1 S = some (res, S9)) : Met l zy_O_weeks (Cond.code zy_O_weeks zb_O_weeks 3 (some .int) :: zT) zm_O_weeks (zP B S [.ref (B.2.1 3 (0) (0)), .int (zI (x1))]) (zQi B res S9) 0 0 B.2.2.2 :=
  zmet (by decide) (Nat.le_of_ble_eq_true rfl) (fun p e s m args below meth c C hr hlk hK hSt hW ls hl => zw_O_weeks C hr hlk hK hSt hap   x1 S nx1 hf _ _ _ hW va_S.rf hl)
/-! IslandOffice.record(II)I -/
abbrev zy_O_record : MethodName := ⟨"IslandOffice", "record", "(II)I"⟩
abbrev zb_O_record : ByteArray := prog_1_method_33_code
abbrev zm_O_record : Room := { frames := 1, cells := 0, slots := 0, locals := 20 }
theorem zq_O_record : zMy zy_O_record zb_O_record 3 (some .int) 2 := ⟨zk_1047, zk_1045, zk_1046, zk_1, by decide, by decide, by decide +kernel⟩
theorem zd_O_record_0 : decode zb_O_record 0 = .ok (.iload_n 1, 1) := by decide +kernel
theorem zd_O_record_1 : decode zb_O_record 1 = .ok (.invokestatic 207, 3) := by decide +kernel
theorem zd_O_record_4 : decode zb_O_record 4 = .ok (.ifCond .eq 12, 3) := by decide +kernel
theorem zd_O_record_7 : decode zb_O_record 7 = .ok (.iload_n 2, 1) := by decide +kernel
theorem zd_O_record_8 : decode zb_O_record 8 = .ok (.ifCond .lt 8, 3) := by decide +kernel
theorem zd_O_record_11 : decode zb_O_record 11 = .ok (.iload_n 2, 1) := by decide +kernel
theorem zd_O_record_12 : decode zb_O_record 12 = .ok (.iconst 5, 1) := by decide +kernel
theorem zd_O_record_13 : decode zb_O_record 13 = .ok (.if_icmp .lt 5, 3) := by decide +kernel
theorem zd_O_record_16 : decode zb_O_record 16 = .ok (.iconst (-1), 1) := by decide +kernel
theorem zd_O_record_17 : decode zb_O_record 17 = .ok (.ireturn, 1) := by decide +kernel
theorem zd_O_record_18 : decode zb_O_record 18 = .ok (.iload_n 1, 1) := by decide +kernel
theorem zd_O_record_19 : decode zb_O_record 19 = .ok (.aload_n 0, 1) := by decide +kernel
theorem zd_O_record_20 : decode zb_O_record 20 = .ok (.getfield 16, 3) := by decide +kernel
theorem zd_O_record_23 : decode zb_O_record 23 = .ok (.getfield 94, 3) := by decide +kernel
theorem zd_O_record_26 : decode zb_O_record 26 = .ok (.if_icmp .ge 10, 3) := by decide +kernel
theorem zd_O_record_29 : decode zb_O_record 29 = .ok (.iload_n 1, 1) := by decide +kernel
theorem zd_O_record_30 : decode zb_O_record 30 = .ok (.sipush 400, 3) := by decide +kernel
theorem zd_O_record_33 : decode zb_O_record 33 = .ok (.if_icmp .lt 6, 3) := by decide +kernel
theorem zd_O_record_36 : decode zb_O_record 36 = .ok (.bipush (-3), 2) := by decide +kernel
theorem zd_O_record_38 : decode zb_O_record 38 = .ok (.ireturn, 1) := by decide +kernel
theorem zd_O_record_39 : decode zb_O_record 39 = .ok (.aload_n 0, 1) := by decide +kernel
theorem zd_O_record_40 : decode zb_O_record 40 = .ok (.getfield 30, 3) := by decide +kernel
theorem zd_O_record_43 : decode zb_O_record 43 = .ok (.iconst 5, 1) := by decide +kernel
theorem zd_O_record_44 : decode zb_O_record 44 = .ok (.iload_n 1, 1) := by decide +kernel
theorem zd_O_record_45 : decode zb_O_record 45 = .ok (.imul, 1) := by decide +kernel
theorem zd_O_record_46 : decode zb_O_record 46 = .ok (.iload_n 2, 1) := by decide +kernel
theorem zd_O_record_47 : decode zb_O_record 47 = .ok (.iadd, 1) := by decide +kernel
theorem zd_O_record_48 : decode zb_O_record 48 = .ok (.iaload, 1) := by decide +kernel
theorem zd_O_record_49 : decode zb_O_record 49 = .ok (.ireturn, 1) := by decide +kernel

def zf_O_record (x1 : Int) (x2 : Int) (S : Sg) : Option (Int × Sg) :=
    zbd (zf_O_isWeek x1 S) fun a1 S2 => if a1 = 0 then (some (-1, S2)) else (if x2 < 0 then (some (-1, S2)) else (if x2 < 5 then (if (S2 0 0 0 0) ≤ x1 then (some (-3, S2)) else (if x1 < 400 then (zck (0 ≤ (zw ((zw (5 * x1)) + x2)) ∧ (zw ((zw (5 * x1)) + x2)) < 2000) <| some (S2 3 0 1 (zw ((zw (5 * x1)) + x2)), S2)) else (some (-3, S2)))) else (some (-1, S2))))
set_option maxHeartbeats 4000000 in
set_option maxRecDepth 100000 in
theorem zw_O_record {p : Program} {l : Launch} {e : Env} {s : State} {m : MethodId} {args : Array Value} {below : List Frame} {meth : Method} {c : Code} {B : zB} (C : CallFix p m c zb_O_record 3 s args zT "IslandOffice") (hr : meth.sig.returnType = some .int) (hlk : meth.locks = false) (hK : zK B s) (hSt : zSt B s) (hap : zAp B) {res : Int} {S9 : Sg} : ∀ (x1 : Int) (x2 : Int) (S : Sg) (nx1 : zn x1) (nx2 : zn x2), zf_O_record x1 x2 S = some (res, S9) → ∀ (H : Heap) (locs : List Loc) (ls : Array Slot), zW B S H → va_S B.2.2.2 s.heap H locs → lv_has ls 3 [(0, .ref (B.2.1 3 (0) (0))), (1, .int (zI (x1))), (2, .int (zI (x2)))] → W p l e zm_O_record s m args below meth c H locs 0 0 (MQ below (zQi B res S9) args s 0 0 B.2.2.2) (F0 m 0 ls []) := by
  intro x1 x2 S nx1 nx2 hf H locs ls hW hS hl
  unfold zf_O_record at hf
  refine lv_iload_n C.1 C.2.1 zd_O_record_0 rfl (lv_at hl 1 rfl) ?_
  obtain ⟨a1, S2, ea1, hf⟩ := zbd_some hf
  refine zcSi (As := [.int (zI (x1))]) (rest := []) C hK hSt hW hS (zc_O_isWeek hap x1 S nx1 ea1) zq_O_isWeek zk_759 ⟨rfl, rfl, by decide, by decide⟩ ⟨Nat.zero_le _, Nat.zero_le _⟩ rfl hl.1 rfl (lv_room (Nat.le_of_ble_eq_true rfl)) zd_O_record_1 (fun na1 H locs hW hS => ?_)
  refine zr_if_eq (tgt := 16) C na1 zd_O_record_4 (by decide) (fun c3 => ?_) (fun c3 => ?_)
  · rw [if_pos c3] at hf
    refine zr_iconst C zd_O_record_16 ?_
    cases hf
    exact zre_i C hr hlk hK hW hS (znb rfl) zd_O_record_17
  · rw [if_neg c3] at hf
    refine lv_iload_n C.1 C.2.1 zd_O_record_7 rfl (lv_at hl 2 rfl) ?_
    refine zr_if_lt (tgt := 16) C nx2 zd_O_record_8 (by decide) (fun c4 => ?_) (fun c4 => ?_)
    · rw [if_pos c4] at hf
      refine zr_iconst C zd_O_record_16 ?_
      cases hf
      exact zre_i C hr hlk hK hW hS (znb rfl) zd_O_record_17
    · rw [if_neg c4] at hf
      refine lv_iload_n C.1 C.2.1 zd_O_record_11 rfl (lv_at hl 2 rfl) ?_
      refine zr_iconst C zd_O_record_12 ?_
      refine zr_icmp_lt (tgt := 18) C nx2 (znb rfl) zd_O_record_13 (by decide) (fun c5 => ?_) (fun c5 => ?_)
      · rw [if_pos c5] at hf
        refine lv_iload_n C.1 C.2.1 zd_O_record_18 rfl (lv_at hl 1 rfl) ?_
        refine lv_aload_n C.1 C.2.1 zd_O_record_19 rfl (lv_at hl 0 rfl) ?_
        refine zg_O_now (r := 0) C hK hW (zvd_3 (by decide) (by decide)) zk_492 zd_O_record_20 ?_
        refine zg_I_week (r := 0) C hK hW (zvd_0 (by decide) (by decide)) zk_242 zd_O_record_23 ?_
        refine zr_icmp_ge (tgt := 36) C nx1 (zWn hW _ _ _ _ rfl) zd_O_record_26 (by decide) (fun c6 => ?_) (fun c6 => ?_)
        · rw [if_pos c6] at hf
          refine zr_bipush C zd_O_record_36 (by decide) ?_
          cases hf
          exact zre_i C hr hlk hK hW hS (znb rfl) zd_O_record_38
        · rw [if_neg c6] at hf
          refine lv_iload_n C.1 C.2.1 zd_O_record_29 rfl (lv_at hl 1 rfl) ?_
          refine zr_sipush C zd_O_record_30 (by decide) ?_
          refine zr_icmp_lt (tgt := 39) C nx1 (znb rfl) zd_O_record_33 (by decide) (fun c7 => ?_) (fun c7 => ?_)
          · rw [if_pos c7] at hf
            refine lv_aload_n C.1 C.2.1 zd_O_record_39 rfl (lv_at hl 0 rfl) ?_
            refine zg_O_records (r := 0) C hK hW (zvd_3 (by decide) (by decide)) zk_496 zd_O_record_40 ?_
            refine zr_iconst C zd_O_record_43 ?_
            refine lv_iload_n C.1 C.2.1 zd_O_record_44 rfl (lv_at hl 1 rfl) ?_
            refine zr_imul C zd_O_record_45 ?_
            refine lv_iload_n C.1 C.2.1 zd_O_record_46 rfl (lv_at hl 2 rfl) ?_
            refine zr_iadd C zd_O_record_47 ?_
            obtain ⟨h8, hf⟩ := zck_some hf
            refine ziald C hK hW (zvd_3 (by decide) (by decide)) (fun f => ze_3_1 B f (0)) (by decide) h8 zd_O_record_48 ?_
            cases hf
            exact zre_i C hr hlk hK hW hS (zWn hW _ _ _ _ rfl) zd_O_record_49
          · rw [if_neg c7] at hf
            refine zr_bipush C zd_O_record_36 (by decide) ?_
            cases hf
            exact zre_i C hr hlk hK hW hS (znb rfl) zd_O_record_38
      · rw [if_neg c5] at hf
        refine zr_iconst C zd_O_record_16 ?_
        cases hf
        exact zre_i C hr hlk hK hW hS (znb rfl) zd_O_record_17

theorem zc_O_record {l : Launch} {B : zB} (hap : zAp B) (x1 : Int) (x2 : Int) (S : Sg) (nx1 : zn x1) (nx2 : zn x2) {res : Int} {S9 : Sg} (hf : zf_O_record x1 x2 S = some (res, S9)) : Met l zy_O_record (Cond.code zy_O_record zb_O_record 3 (some .int) :: zT) zm_O_record (zP B S [.ref (B.2.1 3 (0) (0)), .int (zI (x1)), .int (zI (x2))]) (zQi B res S9) 0 0 B.2.2.2 :=
  zmet (by decide) (Nat.le_of_ble_eq_true rfl) (fun p e s m args below meth c C hr hlk hK hSt hW ls hl => zw_O_record C hr hlk hK hSt hap   x1 x2 S nx1 nx2 hf _ _ _ hW va_S.rf hl)
/-! IslandOffice.headsInMind(I)I -/
abbrev zy_O_headsInMind : MethodName := ⟨"IslandOffice", "headsInMind", "(I)I"⟩
abbrev zb_O_headsInMind : ByteArray := prog_1_method_56_code
abbrev zm_O_headsInMind : Room := { frames := 6, cells := 0, slots := 0, locals := 192 }
theorem zq_O_headsInMind : zMy zy_O_headsInMind zb_O_headsInMind 3 (some .int) 1 := ⟨zk_1084, zk_1083, zs_39, zk_1, by decide, by decide, by decide +kernel⟩
theorem zd_O_headsInMind_0 : decode zb_O_headsInMind 0 = .ok (.iconst 0, 1) := by decide +kernel
theorem zd_O_headsInMind_1 : decode zb_O_headsInMind 1 = .ok (.istore_n 2, 1) := by decide +kernel
theorem zd_O_headsInMind_2 : decode zb_O_headsInMind 2 = .ok (.iload_n 2, 1) := by decide +kernel
theorem zd_O_headsInMind_3 : decode zb_O_headsInMind 3 = .ok (.iload_n 1, 1) := by decide +kernel
theorem zd_O_headsInMind_4 : decode zb_O_headsInMind 4 = .ok (.if_icmp .ge 21, 3) := by decide +kernel
theorem zd_O_headsInMind_7 : decode zb_O_headsInMind 7 = .ok (.aload_n 0, 1) := by decide +kernel
theorem zd_O_headsInMind_8 : decode zb_O_headsInMind 8 = .ok (.getfield 67, 3) := by decide +kernel
theorem zd_O_headsInMind_11 : decode zb_O_headsInMind 11 = .ok (.aload_n 0, 1) := by decide +kernel
theorem zd_O_headsInMind_12 : decode zb_O_headsInMind 12 = .ok (.getfield 23, 3) := by decide +kernel
theorem zd_O_headsInMind_15 : decode zb_O_headsInMind 15 = .ok (.invokevirtual 310, 3) := by decide +kernel
theorem zd_O_headsInMind_18 : decode zb_O_headsInMind 18 = .ok (.pop, 1) := by decide +kernel
theorem zd_O_headsInMind_19 : decode zb_O_headsInMind 19 = .ok (.iinc 2 1, 3) := by decide +kernel
theorem zd_O_headsInMind_22 : decode zb_O_headsInMind 22 = .ok (.goto (-20), 3) := by decide +kernel
theorem zd_O_headsInMind_25 : decode zb_O_headsInMind 25 = .ok (.aload_n 0, 1) := by decide +kernel
theorem zd_O_headsInMind_26 : decode zb_O_headsInMind 26 = .ok (.getfield 23, 3) := by decide +kernel
theorem zd_O_headsInMind_29 : decode zb_O_headsInMind 29 = .ok (.getfield 81, 3) := by decide +kernel
theorem zd_O_headsInMind_32 : decode zb_O_headsInMind 32 = .ok (.iconst 0, 1) := by decide +kernel
theorem zd_O_headsInMind_33 : decode zb_O_headsInMind 33 = .ok (.invokevirtual 317, 3) := by decide +kernel
theorem zd_O_headsInMind_36 : decode zb_O_headsInMind 36 = .ok (.ireturn, 1) := by decide +kernel

def zf_O_headsInMind_2 : Nat → Int → Int → Sg → Option (Int × Sg)
  | 0, _, _, _ => none
  | n + 1, x1, x2, S =>
    if x1 ≤ x2 then (zbd (zf_P_in (2) 0 S) fun a2 S3 => some (a2, S3)) else (zbd (zf_A_pass (2) S) fun a4 S5 => zlt (zw (x2 + 1)) fun v6 => (zf_O_headsInMind_2 n) (x1) (v6) S5)
set_option maxHeartbeats 4000000 in
set_option maxRecDepth 100000 in
theorem zw_O_headsInMind_2 {p : Program} {l : Launch} {e : Env} {s : State} {m : MethodId} {args : Array Value} {below : List Frame} {meth : Method} {c : Code} {B : zB} (C : CallFix p m c zb_O_headsInMind 3 s args zT "IslandOffice") (hr : meth.sig.returnType = some .int) (hlk : meth.locks = false) (hK : zK B s) (hSt : zSt B s) (hap : zAp B) {res : Int} {S9 : Sg} : ∀ n : Nat, ∀ (x1 : Int) (x2 : Int) (S : Sg) (nx1 : zn x1) (nx2 : zn x2), zf_O_headsInMind_2 n x1 x2 S = some (res, S9) → ∀ (H : Heap) (locs : List Loc) (ls : Array Slot), zW B S H → va_S B.2.2.2 s.heap H locs → lv_has ls 3 [(0, .ref (B.2.1 3 (0) (0))), (1, .int (zI (x1))), (2, .int (zI (x2)))] → W p l e zm_O_headsInMind s m args below meth c H locs 0 0 (MQ below (zQi B res S9) args s 0 0 B.2.2.2) (F0 m 2 ls []) := by
  intro n
  induction n with
  | zero =>
    intro x1 x2 S nx1 nx2 hf H locs ls hW hS hl
    cases hf
  | succ n ih =>
    intro x1 x2 S nx1 nx2 hf H locs ls hW hS hl
    rw [zf_O_headsInMind_2] at hf
    refine lv_iload_n C.1 C.2.1 zd_O_headsInMind_2 rfl (lv_at hl 2 rfl) ?_
    refine lv_iload_n C.1 C.2.1 zd_O_headsInMind_3 rfl (lv_at hl 1 rfl) ?_
    refine zr_icmp_ge (tgt := 25) C nx2 nx1 zd_O_headsInMind_4 (by decide) (fun c1 => ?_) (fun c1 => ?_)
    · rw [if_pos c1] at hf
      refine lv_aload_n C.1 C.2.1 zd_O_headsInMind_25 rfl (lv_at hl 0 rfl) ?_
      refine zg_O_mind (r := 0) C hK hW (zvd_3 (by decide) (by decide)) zk_494 zd_O_headsInMind_26 ?_
      refine zg_I_people (r := 2) C hK hW (zvd_0 (by decide) (by decide)) zk_280 zd_O_headsInMind_29 ?_
      refine zr_iconst C zd_O_headsInMind_32 ?_
      obtain ⟨a2, S3, ea2, hf⟩ := zbd_some hf
      refine zcVi (As := [.int (zI (0))]) (rest := []) C hK hSt hW hS (zc_P_in hap (2) (by decide) 0 S (znb rfl) ea2) zq_P_in zk_1043 (zrecv hK hW (zvd_0 (by decide) (by decide)) (ze_0_6 B _ (2)) rfl) ⟨rfl, rfl, by decide, by decide⟩ ⟨Nat.zero_le _, Nat.zero_le _⟩ rfl hl.1 rfl (lv_room (Nat.le_of_ble_eq_true rfl)) zd_O_headsInMind_33 (fun na2 H locs hW hS => ?_)
      cases hf
      exact zre_i C hr hlk hK hW hS na2 zd_O_headsInMind_36
    · rw [if_neg c1] at hf
      refine lv_aload_n C.1 C.2.1 zd_O_headsInMind_7 rfl (lv_at hl 0 rfl) ?_
      refine zg_O_almanac (r := 0) C hK hW (zvd_3 (by decide) (by decide)) zk_501 zd_O_headsInMind_8 ?_
      refine lv_aload_n C.1 C.2.1 zd_O_headsInMind_11 rfl (lv_at hl 0 rfl) ?_
      refine zg_O_mind (r := 0) C hK hW (zvd_3 (by decide) (by decide)) zk_494 zd_O_headsInMind_12 ?_
      obtain ⟨a4, S5, ea4, hf⟩ := zbd_some hf
      refine zcVi (As := [.ref (B.2.1 0 (2) (0))]) (rest := []) C hK hSt hW hS (zc_A_pass hap (2) (by decide) S ea4) zq_A_pass zk_934 (zrecv hK hW (zvd_3 (by decide) (by decide)) (ze_3_15 B _ (0)) rfl) ⟨rfl, rfl, by decide, by decide⟩ ⟨Nat.zero_le _, Nat.zero_le _⟩ rfl hl.1 rfl (lv_room (Nat.le_of_ble_eq_true rfl)) zd_O_headsInMind_15 (fun na4 H locs hW hS => ?_)
      refine lv_pop C.1 C.2.1 zd_O_headsInMind_18 rfl ?_
      obtain ⟨v6, ev6, hf⟩ := zlt_some hf
      have nv6 : zn v6 := by rw [← ev6]; exact zn_w _
      refine lv_iinc (v := zI v6) (lv' := [(2, .int (zI (v6))), (0, .ref (B.2.1 3 (0) (0))), (1, .int (zI (x1)))]) C.1 C.2.1 zd_O_headsInMind_19 hl (k := 2) rfl (by rw [← ev6, ← zI_add]; rfl) (by decide) rfl (fun ls hl => ?_)
      refine lv_goto (tgt := 2) C.1 C.2.1 zd_O_headsInMind_22 (by decide) ?_
      exact ih (x1) (v6) S5 nx1 nv6 hf _ _ _ hW hS (lv_sub hl [1, 2, 0] rfl)

def zf_O_headsInMind (x1 : Int) (S : Sg) : Option (Int × Sg) :=
    zf_O_headsInMind_2 4096 (x1) (0) S
set_option maxHeartbeats 4000000 in
set_option maxRecDepth 100000 in
theorem zw_O_headsInMind {p : Program} {l : Launch} {e : Env} {s : State} {m : MethodId} {args : Array Value} {below : List Frame} {meth : Method} {c : Code} {B : zB} (C : CallFix p m c zb_O_headsInMind 3 s args zT "IslandOffice") (hr : meth.sig.returnType = some .int) (hlk : meth.locks = false) (hK : zK B s) (hSt : zSt B s) (hap : zAp B) {res : Int} {S9 : Sg} : ∀ (x1 : Int) (S : Sg) (nx1 : zn x1), zf_O_headsInMind x1 S = some (res, S9) → ∀ (H : Heap) (locs : List Loc) (ls : Array Slot), zW B S H → va_S B.2.2.2 s.heap H locs → lv_has ls 3 [(0, .ref (B.2.1 3 (0) (0))), (1, .int (zI (x1)))] → W p l e zm_O_headsInMind s m args below meth c H locs 0 0 (MQ below (zQi B res S9) args s 0 0 B.2.2.2) (F0 m 0 ls []) := by
  intro x1 S nx1 hf H locs ls hW hS hl
  unfold zf_O_headsInMind at hf
  refine zr_iconst C zd_O_headsInMind_0 ?_
  refine lv_istore_n (lv' := [(2, .int (zI (0))), (0, .ref (B.2.1 3 (0) (0))), (1, .int (zI (x1)))]) C.1 C.2.1 zd_O_headsInMind_1 rfl hl (by decide) rfl (fun ls hl => ?_)
  exact zw_O_headsInMind_2 C hr hlk hK hSt hap   4096 (x1) (0) S nx1 (znb rfl) hf _ _ _ hW hS (lv_sub hl [1, 2, 0] rfl)

theorem zc_O_headsInMind {l : Launch} {B : zB} (hap : zAp B) (x1 : Int) (S : Sg) (nx1 : zn x1) {res : Int} {S9 : Sg} (hf : zf_O_headsInMind x1 S = some (res, S9)) : Met l zy_O_headsInMind (Cond.code zy_O_headsInMind zb_O_headsInMind 3 (some .int) :: zT) zm_O_headsInMind (zP B S [.ref (B.2.1 3 (0) (0)), .int (zI (x1))]) (zQi B res S9) 0 0 B.2.2.2 :=
  zmet (by decide) (Nat.le_of_ble_eq_true rfl) (fun p e s m args below meth c C hr hlk hK hSt hW ls hl => zw_O_headsInMind C hr hlk hK hSt hap   x1 S nx1 hf _ _ _ hW va_S.rf hl)
/-! IslandOffice$Laws.become(LIslandOffice$Laws;)V -/
abbrev zy_L_become : MethodName := ⟨"IslandOffice$Laws", "become", "(LIslandOffice$Laws;)V"⟩
abbrev zb_L_become : ByteArray := prog_6_method_2_code
abbrev zm_L_become : Room := { frames := 1, cells := 0, slots := 0, locals := 64 }
theorem zq_L_become : zMy zy_L_become zb_L_become 2 (none) 1 := ⟨zk_1065, zk_1063, zk_1064, zk_5, by decide, by decide, by decide +kernel⟩
theorem zd_L_become_0 : decode zb_L_become 0 = .ok (.aload_n 0, 1) := by decide +kernel
theorem zd_L_become_1 : decode zb_L_become 1 = .ok (.aload_n 1, 1) := by decide +kernel
theorem zd_L_become_2 : decode zb_L_become 2 = .ok (.getfield 9, 3) := by decide +kernel
theorem zd_L_become_5 : decode zb_L_become 5 = .ok (.putfield 9, 3) := by decide +kernel
theorem zd_L_become_8 : decode zb_L_become 8 = .ok (.aload_n 1, 1) := by decide +kernel
theorem zd_L_become_9 : decode zb_L_become 9 = .ok (.getfield 15, 3) := by decide +kernel
theorem zd_L_become_12 : decode zb_L_become 12 = .ok (.iconst 0, 1) := by decide +kernel
theorem zd_L_become_13 : decode zb_L_become 13 = .ok (.aload_n 0, 1) := by decide +kernel
theorem zd_L_become_14 : decode zb_L_become 14 = .ok (.getfield 15, 3) := by decide +kernel
theorem zd_L_become_17 : decode zb_L_become 17 = .ok (.iconst 0, 1) := by decide +kernel
theorem zd_L_become_18 : decode zb_L_become 18 = .ok (.bipush 12, 2) := by decide +kernel
theorem zd_L_become_20 : decode zb_L_become 20 = .ok (.invokestatic 47, 3) := by decide +kernel
theorem zd_L_become_23 : decode zb_L_become 23 = .ok (.aload_n 1, 1) := by decide +kernel
theorem zd_L_become_24 : decode zb_L_become 24 = .ok (.getfield 19, 3) := by decide +kernel
theorem zd_L_become_27 : decode zb_L_become 27 = .ok (.iconst 0, 1) := by decide +kernel
theorem zd_L_become_28 : decode zb_L_become 28 = .ok (.aload_n 0, 1) := by decide +kernel
theorem zd_L_become_29 : decode zb_L_become 29 = .ok (.getfield 19, 3) := by decide +kernel
theorem zd_L_become_32 : decode zb_L_become 32 = .ok (.iconst 0, 1) := by decide +kernel
theorem zd_L_become_33 : decode zb_L_become 33 = .ok (.bipush 12, 2) := by decide +kernel
theorem zd_L_become_35 : decode zb_L_become 35 = .ok (.invokestatic 47, 3) := by decide +kernel
theorem zd_L_become_38 : decode zb_L_become 38 = .ok (.aload_n 1, 1) := by decide +kernel
theorem zd_L_become_39 : decode zb_L_become 39 = .ok (.getfield 22, 3) := by decide +kernel
theorem zd_L_become_42 : decode zb_L_become 42 = .ok (.iconst 0, 1) := by decide +kernel
theorem zd_L_become_43 : decode zb_L_become 43 = .ok (.aload_n 0, 1) := by decide +kernel
theorem zd_L_become_44 : decode zb_L_become 44 = .ok (.getfield 22, 3) := by decide +kernel
theorem zd_L_become_47 : decode zb_L_become 47 = .ok (.iconst 0, 1) := by decide +kernel
theorem zd_L_become_48 : decode zb_L_become 48 = .ok (.bipush 12, 2) := by decide +kernel
theorem zd_L_become_50 : decode zb_L_become 50 = .ok (.invokestatic 47, 3) := by decide +kernel
theorem zd_L_become_53 : decode zb_L_become 53 = .ok (.aload_n 1, 1) := by decide +kernel
theorem zd_L_become_54 : decode zb_L_become 54 = .ok (.getfield 25, 3) := by decide +kernel
theorem zd_L_become_57 : decode zb_L_become 57 = .ok (.iconst 0, 1) := by decide +kernel
theorem zd_L_become_58 : decode zb_L_become 58 = .ok (.aload_n 0, 1) := by decide +kernel
theorem zd_L_become_59 : decode zb_L_become 59 = .ok (.getfield 25, 3) := by decide +kernel
theorem zd_L_become_62 : decode zb_L_become 62 = .ok (.iconst 0, 1) := by decide +kernel
theorem zd_L_become_63 : decode zb_L_become 63 = .ok (.bipush 12, 2) := by decide +kernel
theorem zd_L_become_65 : decode zb_L_become 65 = .ok (.invokestatic 47, 3) := by decide +kernel
theorem zd_L_become_68 : decode zb_L_become 68 = .ok (.aload_n 1, 1) := by decide +kernel
theorem zd_L_become_69 : decode zb_L_become 69 = .ok (.getfield 28, 3) := by decide +kernel
theorem zd_L_become_72 : decode zb_L_become 72 = .ok (.iconst 0, 1) := by decide +kernel
theorem zd_L_become_73 : decode zb_L_become 73 = .ok (.aload_n 0, 1) := by decide +kernel
theorem zd_L_become_74 : decode zb_L_become 74 = .ok (.getfield 28, 3) := by decide +kernel
theorem zd_L_become_77 : decode zb_L_become 77 = .ok (.iconst 0, 1) := by decide +kernel
theorem zd_L_become_78 : decode zb_L_become 78 = .ok (.bipush 12, 2) := by decide +kernel
theorem zd_L_become_80 : decode zb_L_become 80 = .ok (.invokestatic 47, 3) := by decide +kernel
theorem zd_L_become_83 : decode zb_L_become 83 = .ok (.aload_n 1, 1) := by decide +kernel
theorem zd_L_become_84 : decode zb_L_become 84 = .ok (.getfield 31, 3) := by decide +kernel
theorem zd_L_become_87 : decode zb_L_become 87 = .ok (.iconst 0, 1) := by decide +kernel
theorem zd_L_become_88 : decode zb_L_become 88 = .ok (.aload_n 0, 1) := by decide +kernel
theorem zd_L_become_89 : decode zb_L_become 89 = .ok (.getfield 31, 3) := by decide +kernel
theorem zd_L_become_92 : decode zb_L_become 92 = .ok (.iconst 0, 1) := by decide +kernel
theorem zd_L_become_93 : decode zb_L_become 93 = .ok (.bipush 12, 2) := by decide +kernel
theorem zd_L_become_95 : decode zb_L_become 95 = .ok (.invokestatic 47, 3) := by decide +kernel
theorem zd_L_become_98 : decode zb_L_become 98 = .ok (.aload_n 1, 1) := by decide +kernel
theorem zd_L_become_99 : decode zb_L_become 99 = .ok (.getfield 34, 3) := by decide +kernel
theorem zd_L_become_102 : decode zb_L_become 102 = .ok (.iconst 0, 1) := by decide +kernel
theorem zd_L_become_103 : decode zb_L_become 103 = .ok (.aload_n 0, 1) := by decide +kernel
theorem zd_L_become_104 : decode zb_L_become 104 = .ok (.getfield 34, 3) := by decide +kernel
theorem zd_L_become_107 : decode zb_L_become 107 = .ok (.iconst 0, 1) := by decide +kernel
theorem zd_L_become_108 : decode zb_L_become 108 = .ok (.bipush 12, 2) := by decide +kernel
theorem zd_L_become_110 : decode zb_L_become 110 = .ok (.invokestatic 47, 3) := by decide +kernel
theorem zd_L_become_113 : decode zb_L_become 113 = .ok (.aload_n 1, 1) := by decide +kernel
theorem zd_L_become_114 : decode zb_L_become 114 = .ok (.getfield 37, 3) := by decide +kernel
theorem zd_L_become_117 : decode zb_L_become 117 = .ok (.iconst 0, 1) := by decide +kernel
theorem zd_L_become_118 : decode zb_L_become 118 = .ok (.aload_n 0, 1) := by decide +kernel
theorem zd_L_become_119 : decode zb_L_become 119 = .ok (.getfield 37, 3) := by decide +kernel
theorem zd_L_become_122 : decode zb_L_become 122 = .ok (.iconst 0, 1) := by decide +kernel
theorem zd_L_become_123 : decode zb_L_become 123 = .ok (.bipush 12, 2) := by decide +kernel
theorem zd_L_become_125 : decode zb_L_become 125 = .ok (.invokestatic 47, 3) := by decide +kernel
theorem zd_L_become_128 : decode zb_L_become 128 = .ok (.aload_n 1, 1) := by decide +kernel
theorem zd_L_become_129 : decode zb_L_become 129 = .ok (.getfield 40, 3) := by decide +kernel
theorem zd_L_become_132 : decode zb_L_become 132 = .ok (.iconst 0, 1) := by decide +kernel
theorem zd_L_become_133 : decode zb_L_become 133 = .ok (.aload_n 0, 1) := by decide +kernel
theorem zd_L_become_134 : decode zb_L_become 134 = .ok (.getfield 40, 3) := by decide +kernel
theorem zd_L_become_137 : decode zb_L_become 137 = .ok (.iconst 0, 1) := by decide +kernel
theorem zd_L_become_138 : decode zb_L_become 138 = .ok (.bipush 12, 2) := by decide +kernel
theorem zd_L_become_140 : decode zb_L_become 140 = .ok (.invokestatic 47, 3) := by decide +kernel
theorem zd_L_become_143 : decode zb_L_become 143 = .ok (.return_, 1) := by decide +kernel

def zf_L_become (r0 : Int) (r1 : Int) (S : Sg) : Option (Int × Sg) :=
    zlt (zu S 0 r0 16 0 (S 0 r1 16 0)) fun S1 => zlt (zcp S1 0 r1 17 0 0 r0 17 0 12) fun S2 => zlt (zcp S2 0 r1 18 0 0 r0 18 0 12) fun S3 => zlt (zcp S3 0 r1 19 0 0 r0 19 0 12) fun S4 => zlt (zcp S4 0 r1 20 0 0 r0 20 0 12) fun S5 => zlt (zcp S5 0 r1 21 0 0 r0 21 0 12) fun S6 => zlt (zcp S6 0 r1 22 0 0 r0 22 0 12) fun S7 => zlt (zcp S7 0 r1 23 0 0 r0 23 0 12) fun S8 => zlt (zcp S8 0 r1 24 0 0 r0 24 0 12) fun S9 => zlt (zcp S9 0 r1 25 0 0 r0 25 0 12) fun S10 => some (0, S10)
set_option maxHeartbeats 4000000 in
set_option maxRecDepth 100000 in
theorem zw_L_become {p : Program} {l : Launch} {e : Env} {s : State} {m : MethodId} {args : Array Value} {below : List Frame} {meth : Method} {c : Code} {B : zB} (C : CallFix p m c zb_L_become 2 s args zT "IslandOffice$Laws") (hr : meth.sig.returnType = none) (hlk : meth.locks = false) (hK : zK B s) (hSt : zSt B s) (hap : zAp B) (r0 : Int) (r1 : Int) (hr0 : 0 ≤ r0 ∧ r0 < 3) (hr1 : 0 ≤ r1 ∧ r1 < 3) {res : Int} {S9 : Sg} : ∀  (S : Sg) , zf_L_become r0 r1  S = some (res, S9) → ∀ (H : Heap) (locs : List Loc) (ls : Array Slot), zW B S H → va_S B.2.2.2 s.heap H locs → lv_has ls 2 [(0, .ref (B.2.1 0 (r0) (16))), (1, .ref (B.2.1 0 (r1) (16)))] → W p l e zm_L_become s m args below meth c H locs 0 0 (MQ below (zQv B S9) args s 0 0 B.2.2.2) (F0 m 0 ls []) := by
  intro S hf H locs ls hW hS hl
  unfold zf_L_become at hf
  refine lv_aload_n C.1 C.2.1 zd_L_become_0 rfl (lv_at hl 0 rfl) ?_
  refine lv_aload_n C.1 C.2.1 zd_L_become_1 rfl (lv_at hl 1 rfl) ?_
  refine zg_L_n (r := r1) C hK hW (zvd_0 hr1 (by decide)) zk_115 zd_L_become_2 ?_
  obtain ⟨S1, eS1, hf⟩ := zlt_some hf
  refine zp_L_n (r := r0) C hK hap hW hS (zvd_0 hr0 (by decide)) zk_115 (zWn hW _ _ _ _ rfl) zd_L_become_5 (fun H locs hW hS => ?_)
  rw [eS1] at hW
  refine lv_aload_n C.1 C.2.1 zd_L_become_8 rfl (lv_at hl 1 rfl) ?_
  refine zg_L_subject (r := r1) C hK hW (zvd_0 hr1 (by decide)) zk_117 zd_L_become_9 ?_
  refine zr_iconst C zd_L_become_12 ?_
  refine lv_aload_n C.1 C.2.1 zd_L_become_13 rfl (lv_at hl 0 rfl) ?_
  refine zg_L_subject (r := r0) C hK hW (zvd_0 hr0 (by decide)) zk_117 zd_L_become_14 ?_
  refine zr_iconst C zd_L_become_17 ?_
  refine zr_bipush C zd_L_become_18 (by decide) ?_
  obtain ⟨S2, eS2, hf⟩ := zlt_some hf
  refine zcopy C hK hap hW hS hl.1 (zvd_0 hr1 (by decide)) (zvd_0 hr0 (by decide)) (fun f => ze_0_17 B f (r1)) (fun f => ze_0_17 B f (r0)) (by decide) (by decide) rfl rfl (by decide) zk_733 zk_735 zk_734 zk_18 (by decide) (Nat.le_of_ble_eq_true rfl) zd_L_become_20 (fun H locs hW hS => ?_)
  rw [eS2] at hW
  refine lv_aload_n C.1 C.2.1 zd_L_become_23 rfl (lv_at hl 1 rfl) ?_
  refine zg_L_begin (r := r1) C hK hW (zvd_0 hr1 (by decide)) zk_120 zd_L_become_24 ?_
  refine zr_iconst C zd_L_become_27 ?_
  refine lv_aload_n C.1 C.2.1 zd_L_become_28 rfl (lv_at hl 0 rfl) ?_
  refine zg_L_begin (r := r0) C hK hW (zvd_0 hr0 (by decide)) zk_120 zd_L_become_29 ?_
  refine zr_iconst C zd_L_become_32 ?_
  refine zr_bipush C zd_L_become_33 (by decide) ?_
  obtain ⟨S3, eS3, hf⟩ := zlt_some hf
  refine zcopy C hK hap hW hS hl.1 (zvd_0 hr1 (by decide)) (zvd_0 hr0 (by decide)) (fun f => ze_0_18 B f (r1)) (fun f => ze_0_18 B f (r0)) (by decide) (by decide) rfl rfl (by decide) zk_733 zk_735 zk_734 zk_18 (by decide) (Nat.le_of_ble_eq_true rfl) zd_L_become_35 (fun H locs hW hS => ?_)
  rw [eS3] at hW
  refine lv_aload_n C.1 C.2.1 zd_L_become_38 rfl (lv_at hl 1 rfl) ?_
  refine zg_L_votes (r := r1) C hK hW (zvd_0 hr1 (by decide)) zk_122 zd_L_become_39 ?_
  refine zr_iconst C zd_L_become_42 ?_
  refine lv_aload_n C.1 C.2.1 zd_L_become_43 rfl (lv_at hl 0 rfl) ?_
  refine zg_L_votes (r := r0) C hK hW (zvd_0 hr0 (by decide)) zk_122 zd_L_become_44 ?_
  refine zr_iconst C zd_L_become_47 ?_
  refine zr_bipush C zd_L_become_48 (by decide) ?_
  obtain ⟨S4, eS4, hf⟩ := zlt_some hf
  refine zcopy C hK hap hW hS hl.1 (zvd_0 hr1 (by decide)) (zvd_0 hr0 (by decide)) (fun f => ze_0_19 B f (r1)) (fun f => ze_0_19 B f (r0)) (by decide) (by decide) rfl rfl (by decide) zk_733 zk_735 zk_734 zk_18 (by decide) (Nat.le_of_ble_eq_true rfl) zd_L_become_50 (fun H locs hW hS => ?_)
  rw [eS4] at hW
  refine lv_aload_n C.1 C.2.1 zd_L_become_53 rfl (lv_at hl 1 rfl) ?_
  refine zg_L_voters (r := r1) C hK hW (zvd_0 hr1 (by decide)) zk_124 zd_L_become_54 ?_
  refine zr_iconst C zd_L_become_57 ?_
  refine lv_aload_n C.1 C.2.1 zd_L_become_58 rfl (lv_at hl 0 rfl) ?_
  refine zg_L_voters (r := r0) C hK hW (zvd_0 hr0 (by decide)) zk_124 zd_L_become_59 ?_
  refine zr_iconst C zd_L_become_62 ?_
  refine zr_bipush C zd_L_become_63 (by decide) ?_
  obtain ⟨S5, eS5, hf⟩ := zlt_some hf
  refine zcopy C hK hap hW hS hl.1 (zvd_0 hr1 (by decide)) (zvd_0 hr0 (by decide)) (fun f => ze_0_20 B f (r1)) (fun f => ze_0_20 B f (r0)) (by decide) (by decide) rfl rfl (by decide) zk_733 zk_735 zk_734 zk_18 (by decide) (Nat.le_of_ble_eq_true rfl) zd_L_become_65 (fun H locs hW hS => ?_)
  rw [eS5] at hW
  refine lv_aload_n C.1 C.2.1 zd_L_become_68 rfl (lv_at hl 1 rfl) ?_
  refine zg_L_isVoid (r := r1) C hK hW (zvd_0 hr1 (by decide)) zk_127 zd_L_become_69 ?_
  refine zr_iconst C zd_L_become_72 ?_
  refine lv_aload_n C.1 C.2.1 zd_L_become_73 rfl (lv_at hl 0 rfl) ?_
  refine zg_L_isVoid (r := r0) C hK hW (zvd_0 hr0 (by decide)) zk_127 zd_L_become_74 ?_
  refine zr_iconst C zd_L_become_77 ?_
  refine zr_bipush C zd_L_become_78 (by decide) ?_
  obtain ⟨S6, eS6, hf⟩ := zlt_some hf
  refine zcopy C hK hap hW hS hl.1 (zvd_0 hr1 (by decide)) (zvd_0 hr0 (by decide)) (fun f => ze_0_21 B f (r1)) (fun f => ze_0_21 B f (r0)) (by decide) (by decide) rfl rfl (by decide) zk_733 zk_735 zk_734 zk_18 (by decide) (Nat.le_of_ble_eq_true rfl) zd_L_become_80 (fun H locs hW hS => ?_)
  rw [eS6] at hW
  refine lv_aload_n C.1 C.2.1 zd_L_become_83 rfl (lv_at hl 1 rfl) ?_
  refine zg_L_repealed (r := r1) C hK hW (zvd_0 hr1 (by decide)) zk_129 zd_L_become_84 ?_
  refine zr_iconst C zd_L_become_87 ?_
  refine lv_aload_n C.1 C.2.1 zd_L_become_88 rfl (lv_at hl 0 rfl) ?_
  refine zg_L_repealed (r := r0) C hK hW (zvd_0 hr0 (by decide)) zk_129 zd_L_become_89 ?_
  refine zr_iconst C zd_L_become_92 ?_
  refine zr_bipush C zd_L_become_93 (by decide) ?_
  obtain ⟨S7, eS7, hf⟩ := zlt_some hf
  refine zcopy C hK hap hW hS hl.1 (zvd_0 hr1 (by decide)) (zvd_0 hr0 (by decide)) (fun f => ze_0_22 B f (r1)) (fun f => ze_0_22 B f (r0)) (by decide) (by decide) rfl rfl (by decide) zk_733 zk_735 zk_734 zk_18 (by decide) (Nat.le_of_ble_eq_true rfl) zd_L_become_95 (fun H locs hW hS => ?_)
  rw [eS7] at hW
  refine lv_aload_n C.1 C.2.1 zd_L_become_98 rfl (lv_at hl 1 rfl) ?_
  refine zg_L_under (r := r1) C hK hW (zvd_0 hr1 (by decide)) zk_131 zd_L_become_99 ?_
  refine zr_iconst C zd_L_become_102 ?_
  refine lv_aload_n C.1 C.2.1 zd_L_become_103 rfl (lv_at hl 0 rfl) ?_
  refine zg_L_under (r := r0) C hK hW (zvd_0 hr0 (by decide)) zk_131 zd_L_become_104 ?_
  refine zr_iconst C zd_L_become_107 ?_
  refine zr_bipush C zd_L_become_108 (by decide) ?_
  obtain ⟨S8, eS8, hf⟩ := zlt_some hf
  refine zcopy C hK hap hW hS hl.1 (zvd_0 hr1 (by decide)) (zvd_0 hr0 (by decide)) (fun f => ze_0_23 B f (r1)) (fun f => ze_0_23 B f (r0)) (by decide) (by decide) rfl rfl (by decide) zk_733 zk_735 zk_734 zk_18 (by decide) (Nat.le_of_ble_eq_true rfl) zd_L_become_110 (fun H locs hW hS => ?_)
  rw [eS8] at hW
  refine lv_aload_n C.1 C.2.1 zd_L_become_113 rfl (lv_at hl 1 rfl) ?_
  refine zg_L_textSize (r := r1) C hK hW (zvd_0 hr1 (by decide)) zk_132 zd_L_become_114 ?_
  refine zr_iconst C zd_L_become_117 ?_
  refine lv_aload_n C.1 C.2.1 zd_L_become_118 rfl (lv_at hl 0 rfl) ?_
  refine zg_L_textSize (r := r0) C hK hW (zvd_0 hr0 (by decide)) zk_132 zd_L_become_119 ?_
  refine zr_iconst C zd_L_become_122 ?_
  refine zr_bipush C zd_L_become_123 (by decide) ?_
  obtain ⟨S9, eS9, hf⟩ := zlt_some hf
  refine zcopy C hK hap hW hS hl.1 (zvd_0 hr1 (by decide)) (zvd_0 hr0 (by decide)) (fun f => ze_0_24 B f (r1)) (fun f => ze_0_24 B f (r0)) (by decide) (by decide) rfl rfl (by decide) zk_733 zk_735 zk_734 zk_18 (by decide) (Nat.le_of_ble_eq_true rfl) zd_L_become_125 (fun H locs hW hS => ?_)
  rw [eS9] at hW
  refine lv_aload_n C.1 C.2.1 zd_L_become_128 rfl (lv_at hl 1 rfl) ?_
  refine zg_L_codeSize (r := r1) C hK hW (zvd_0 hr1 (by decide)) zk_134 zd_L_become_129 ?_
  refine zr_iconst C zd_L_become_132 ?_
  refine lv_aload_n C.1 C.2.1 zd_L_become_133 rfl (lv_at hl 0 rfl) ?_
  refine zg_L_codeSize (r := r0) C hK hW (zvd_0 hr0 (by decide)) zk_134 zd_L_become_134 ?_
  refine zr_iconst C zd_L_become_137 ?_
  refine zr_bipush C zd_L_become_138 (by decide) ?_
  obtain ⟨S10, eS10, hf⟩ := zlt_some hf
  refine zcopy C hK hap hW hS hl.1 (zvd_0 hr1 (by decide)) (zvd_0 hr0 (by decide)) (fun f => ze_0_25 B f (r1)) (fun f => ze_0_25 B f (r0)) (by decide) (by decide) rfl rfl (by decide) zk_733 zk_735 zk_734 zk_18 (by decide) (Nat.le_of_ble_eq_true rfl) zd_L_become_140 (fun H locs hW hS => ?_)
  rw [eS10] at hW
  cases hf
  exact zre_v C hr hlk hK hW hS zd_L_become_143

theorem zc_L_become {l : Launch} {B : zB} (hap : zAp B) (r0 : Int) (r1 : Int) (hr0 : 0 ≤ r0 ∧ r0 < 3) (hr1 : 0 ≤ r1 ∧ r1 < 3) (S : Sg) {res : Int} {S9 : Sg} (hf : zf_L_become r0 r1 S = some (res, S9)) : Met l zy_L_become (Cond.code zy_L_become zb_L_become 2 (none) :: zT) zm_L_become (zP B S [.ref (B.2.1 0 (r0) (16)), .ref (B.2.1 0 (r1) (16))]) (zQv B S9) 0 0 B.2.2.2 :=
  zmet (by decide) (Nat.le_of_ble_eq_true rfl) (fun p e s m args below meth c C hr hlk hK hSt hW ls hl => zw_L_become C hr hlk hK hSt hap r0 r1 hr0 hr1  S  hf _ _ _ hW va_S.rf hl)
/-! IslandOffice$People.become(LIslandOffice$People;)V -/
abbrev zy_P_become : MethodName := ⟨"IslandOffice$People", "become", "(LIslandOffice$People;)V"⟩
abbrev zb_P_become : ByteArray := prog_7_method_2_code
abbrev zm_P_become : Room := { frames := 1, cells := 0, slots := 0, locals := 64 }
theorem zq_P_become : zMy zy_P_become zb_P_become 2 (none) 1 := ⟨zk_1060, zk_1058, zk_1059, zk_4, by decide, by decide, by decide +kernel⟩
theorem zd_P_become_0 : decode zb_P_become 0 = .ok (.aload_n 0, 1) := by decide +kernel
theorem zd_P_become_1 : decode zb_P_become 1 = .ok (.aload_n 1, 1) := by decide +kernel
theorem zd_P_become_2 : decode zb_P_become 2 = .ok (.getfield 9, 3) := by decide +kernel
theorem zd_P_become_5 : decode zb_P_become 5 = .ok (.putfield 9, 3) := by decide +kernel
theorem zd_P_become_8 : decode zb_P_become 8 = .ok (.aload_n 1, 1) := by decide +kernel
theorem zd_P_become_9 : decode zb_P_become 9 = .ok (.getfield 15, 3) := by decide +kernel
theorem zd_P_become_12 : decode zb_P_become 12 = .ok (.iconst 0, 1) := by decide +kernel
theorem zd_P_become_13 : decode zb_P_become 13 = .ok (.aload_n 0, 1) := by decide +kernel
theorem zd_P_become_14 : decode zb_P_become 14 = .ok (.getfield 15, 3) := by decide +kernel
theorem zd_P_become_17 : decode zb_P_become 17 = .ok (.iconst 0, 1) := by decide +kernel
theorem zd_P_become_18 : decode zb_P_become 18 = .ok (.bipush 40, 2) := by decide +kernel
theorem zd_P_become_20 : decode zb_P_become 20 = .ok (.invokestatic 43, 3) := by decide +kernel
theorem zd_P_become_23 : decode zb_P_become 23 = .ok (.aload_n 1, 1) := by decide +kernel
theorem zd_P_become_24 : decode zb_P_become 24 = .ok (.getfield 19, 3) := by decide +kernel
theorem zd_P_become_27 : decode zb_P_become 27 = .ok (.iconst 0, 1) := by decide +kernel
theorem zd_P_become_28 : decode zb_P_become 28 = .ok (.aload_n 0, 1) := by decide +kernel
theorem zd_P_become_29 : decode zb_P_become 29 = .ok (.getfield 19, 3) := by decide +kernel
theorem zd_P_become_32 : decode zb_P_become 32 = .ok (.iconst 0, 1) := by decide +kernel
theorem zd_P_become_33 : decode zb_P_become 33 = .ok (.bipush 40, 2) := by decide +kernel
theorem zd_P_become_35 : decode zb_P_become 35 = .ok (.invokestatic 43, 3) := by decide +kernel
theorem zd_P_become_38 : decode zb_P_become 38 = .ok (.aload_n 1, 1) := by decide +kernel
theorem zd_P_become_39 : decode zb_P_become 39 = .ok (.getfield 22, 3) := by decide +kernel
theorem zd_P_become_42 : decode zb_P_become 42 = .ok (.iconst 0, 1) := by decide +kernel
theorem zd_P_become_43 : decode zb_P_become 43 = .ok (.aload_n 0, 1) := by decide +kernel
theorem zd_P_become_44 : decode zb_P_become 44 = .ok (.getfield 22, 3) := by decide +kernel
theorem zd_P_become_47 : decode zb_P_become 47 = .ok (.iconst 0, 1) := by decide +kernel
theorem zd_P_become_48 : decode zb_P_become 48 = .ok (.bipush 40, 2) := by decide +kernel
theorem zd_P_become_50 : decode zb_P_become 50 = .ok (.invokestatic 43, 3) := by decide +kernel
theorem zd_P_become_53 : decode zb_P_become 53 = .ok (.aload_n 1, 1) := by decide +kernel
theorem zd_P_become_54 : decode zb_P_become 54 = .ok (.getfield 25, 3) := by decide +kernel
theorem zd_P_become_57 : decode zb_P_become 57 = .ok (.iconst 0, 1) := by decide +kernel
theorem zd_P_become_58 : decode zb_P_become 58 = .ok (.aload_n 0, 1) := by decide +kernel
theorem zd_P_become_59 : decode zb_P_become 59 = .ok (.getfield 25, 3) := by decide +kernel
theorem zd_P_become_62 : decode zb_P_become 62 = .ok (.iconst 0, 1) := by decide +kernel
theorem zd_P_become_63 : decode zb_P_become 63 = .ok (.bipush 40, 2) := by decide +kernel
theorem zd_P_become_65 : decode zb_P_become 65 = .ok (.invokestatic 43, 3) := by decide +kernel
theorem zd_P_become_68 : decode zb_P_become 68 = .ok (.aload_n 1, 1) := by decide +kernel
theorem zd_P_become_69 : decode zb_P_become 69 = .ok (.getfield 28, 3) := by decide +kernel
theorem zd_P_become_72 : decode zb_P_become 72 = .ok (.iconst 0, 1) := by decide +kernel
theorem zd_P_become_73 : decode zb_P_become 73 = .ok (.aload_n 0, 1) := by decide +kernel
theorem zd_P_become_74 : decode zb_P_become 74 = .ok (.getfield 28, 3) := by decide +kernel
theorem zd_P_become_77 : decode zb_P_become 77 = .ok (.iconst 0, 1) := by decide +kernel
theorem zd_P_become_78 : decode zb_P_become 78 = .ok (.bipush 40, 2) := by decide +kernel
theorem zd_P_become_80 : decode zb_P_become 80 = .ok (.invokestatic 43, 3) := by decide +kernel
theorem zd_P_become_83 : decode zb_P_become 83 = .ok (.aload_n 1, 1) := by decide +kernel
theorem zd_P_become_84 : decode zb_P_become 84 = .ok (.getfield 31, 3) := by decide +kernel
theorem zd_P_become_87 : decode zb_P_become 87 = .ok (.iconst 0, 1) := by decide +kernel
theorem zd_P_become_88 : decode zb_P_become 88 = .ok (.aload_n 0, 1) := by decide +kernel
theorem zd_P_become_89 : decode zb_P_become 89 = .ok (.getfield 31, 3) := by decide +kernel
theorem zd_P_become_92 : decode zb_P_become 92 = .ok (.iconst 0, 1) := by decide +kernel
theorem zd_P_become_93 : decode zb_P_become 93 = .ok (.bipush 40, 2) := by decide +kernel
theorem zd_P_become_95 : decode zb_P_become 95 = .ok (.invokestatic 43, 3) := by decide +kernel
theorem zd_P_become_98 : decode zb_P_become 98 = .ok (.aload_n 1, 1) := by decide +kernel
theorem zd_P_become_99 : decode zb_P_become 99 = .ok (.getfield 34, 3) := by decide +kernel
theorem zd_P_become_102 : decode zb_P_become 102 = .ok (.iconst 0, 1) := by decide +kernel
theorem zd_P_become_103 : decode zb_P_become 103 = .ok (.aload_n 0, 1) := by decide +kernel
theorem zd_P_become_104 : decode zb_P_become 104 = .ok (.getfield 34, 3) := by decide +kernel
theorem zd_P_become_107 : decode zb_P_become 107 = .ok (.iconst 0, 1) := by decide +kernel
theorem zd_P_become_108 : decode zb_P_become 108 = .ok (.bipush 40, 2) := by decide +kernel
theorem zd_P_become_110 : decode zb_P_become 110 = .ok (.invokestatic 43, 3) := by decide +kernel
theorem zd_P_become_113 : decode zb_P_become 113 = .ok (.aload_n 1, 1) := by decide +kernel
theorem zd_P_become_114 : decode zb_P_become 114 = .ok (.getfield 37, 3) := by decide +kernel
theorem zd_P_become_117 : decode zb_P_become 117 = .ok (.iconst 0, 1) := by decide +kernel
theorem zd_P_become_118 : decode zb_P_become 118 = .ok (.aload_n 0, 1) := by decide +kernel
theorem zd_P_become_119 : decode zb_P_become 119 = .ok (.getfield 37, 3) := by decide +kernel
theorem zd_P_become_122 : decode zb_P_become 122 = .ok (.iconst 0, 1) := by decide +kernel
theorem zd_P_become_123 : decode zb_P_become 123 = .ok (.bipush 40, 2) := by decide +kernel
theorem zd_P_become_125 : decode zb_P_become 125 = .ok (.invokestatic 43, 3) := by decide +kernel
theorem zd_P_become_128 : decode zb_P_become 128 = .ok (.aload_n 1, 1) := by decide +kernel
theorem zd_P_become_129 : decode zb_P_become 129 = .ok (.getfield 40, 3) := by decide +kernel
theorem zd_P_become_132 : decode zb_P_become 132 = .ok (.iconst 0, 1) := by decide +kernel
theorem zd_P_become_133 : decode zb_P_become 133 = .ok (.aload_n 0, 1) := by decide +kernel
theorem zd_P_become_134 : decode zb_P_become 134 = .ok (.getfield 40, 3) := by decide +kernel
theorem zd_P_become_137 : decode zb_P_become 137 = .ok (.iconst 0, 1) := by decide +kernel
theorem zd_P_become_138 : decode zb_P_become 138 = .ok (.bipush 40, 2) := by decide +kernel
theorem zd_P_become_140 : decode zb_P_become 140 = .ok (.invokestatic 43, 3) := by decide +kernel
theorem zd_P_become_143 : decode zb_P_become 143 = .ok (.return_, 1) := by decide +kernel

def zf_P_become (r0 : Int) (r1 : Int) (S : Sg) : Option (Int × Sg) :=
    zlt (zu S 0 r0 6 0 (S 0 r1 6 0)) fun S1 => zlt (zcp S1 0 r1 7 0 0 r0 7 0 40) fun S2 => zlt (zcp S2 0 r1 8 0 0 r0 8 0 40) fun S3 => zlt (zcp S3 0 r1 9 0 0 r0 9 0 40) fun S4 => zlt (zcp S4 0 r1 10 0 0 r0 10 0 40) fun S5 => zlt (zcp S5 0 r1 11 0 0 r0 11 0 40) fun S6 => zlt (zcp S6 0 r1 12 0 0 r0 12 0 40) fun S7 => zlt (zcp S7 0 r1 13 0 0 r0 13 0 40) fun S8 => zlt (zcp S8 0 r1 14 0 0 r0 14 0 40) fun S9 => zlt (zcp S9 0 r1 15 0 0 r0 15 0 40) fun S10 => some (0, S10)
set_option maxHeartbeats 4000000 in
set_option maxRecDepth 100000 in
theorem zw_P_become {p : Program} {l : Launch} {e : Env} {s : State} {m : MethodId} {args : Array Value} {below : List Frame} {meth : Method} {c : Code} {B : zB} (C : CallFix p m c zb_P_become 2 s args zT "IslandOffice$People") (hr : meth.sig.returnType = none) (hlk : meth.locks = false) (hK : zK B s) (hSt : zSt B s) (hap : zAp B) (r0 : Int) (r1 : Int) (hr0 : 0 ≤ r0 ∧ r0 < 3) (hr1 : 0 ≤ r1 ∧ r1 < 3) {res : Int} {S9 : Sg} : ∀  (S : Sg) , zf_P_become r0 r1  S = some (res, S9) → ∀ (H : Heap) (locs : List Loc) (ls : Array Slot), zW B S H → va_S B.2.2.2 s.heap H locs → lv_has ls 2 [(0, .ref (B.2.1 0 (r0) (6))), (1, .ref (B.2.1 0 (r1) (6)))] → W p l e zm_P_become s m args below meth c H locs 0 0 (MQ below (zQv B S9) args s 0 0 B.2.2.2) (F0 m 0 ls []) := by
  intro S hf H locs ls hW hS hl
  unfold zf_P_become at hf
  refine lv_aload_n C.1 C.2.1 zd_P_become_0 rfl (lv_at hl 0 rfl) ?_
  refine lv_aload_n C.1 C.2.1 zd_P_become_1 rfl (lv_at hl 1 rfl) ?_
  refine zg_P_n (r := r1) C hK hW (zvd_0 hr1 (by decide)) zk_52 zd_P_become_2 ?_
  obtain ⟨S1, eS1, hf⟩ := zlt_some hf
  refine zp_P_n (r := r0) C hK hap hW hS (zvd_0 hr0 (by decide)) zk_52 (zWn hW _ _ _ _ rfl) zd_P_become_5 (fun H locs hW hS => ?_)
  rw [eS1] at hW
  refine lv_aload_n C.1 C.2.1 zd_P_become_8 rfl (lv_at hl 1 rfl) ?_
  refine zg_P_birth (r := r1) C hK hW (zvd_0 hr1 (by decide)) zk_57 zd_P_become_9 ?_
  refine zr_iconst C zd_P_become_12 ?_
  refine lv_aload_n C.1 C.2.1 zd_P_become_13 rfl (lv_at hl 0 rfl) ?_
  refine zg_P_birth (r := r0) C hK hW (zvd_0 hr0 (by decide)) zk_57 zd_P_become_14 ?_
  refine zr_iconst C zd_P_become_17 ?_
  refine zr_bipush C zd_P_become_18 (by decide) ?_
  obtain ⟨S2, eS2, hf⟩ := zlt_some hf
  refine zcopy C hK hap hW hS hl.1 (zvd_0 hr1 (by decide)) (zvd_0 hr0 (by decide)) (fun f => ze_0_7 B f (r1)) (fun f => ze_0_7 B f (r0)) (by decide) (by decide) rfl rfl (by decide) zk_1061 zk_735 zk_734 zk_18 (by decide) (Nat.le_of_ble_eq_true rfl) zd_P_become_20 (fun H locs hW hS => ?_)
  rw [eS2] at hW
  refine lv_aload_n C.1 C.2.1 zd_P_become_23 rfl (lv_at hl 1 rfl) ?_
  refine zg_P_house (r := r1) C hK hW (zvd_0 hr1 (by decide)) zk_58 zd_P_become_24 ?_
  refine zr_iconst C zd_P_become_27 ?_
  refine lv_aload_n C.1 C.2.1 zd_P_become_28 rfl (lv_at hl 0 rfl) ?_
  refine zg_P_house (r := r0) C hK hW (zvd_0 hr0 (by decide)) zk_58 zd_P_become_29 ?_
  refine zr_iconst C zd_P_become_32 ?_
  refine zr_bipush C zd_P_become_33 (by decide) ?_
  obtain ⟨S3, eS3, hf⟩ := zlt_some hf
  refine zcopy C hK hap hW hS hl.1 (zvd_0 hr1 (by decide)) (zvd_0 hr0 (by decide)) (fun f => ze_0_8 B f (r1)) (fun f => ze_0_8 B f (r0)) (by decide) (by decide) rfl rfl (by decide) zk_1061 zk_735 zk_734 zk_18 (by decide) (Nat.le_of_ble_eq_true rfl) zd_P_become_35 (fun H locs hW hS => ?_)
  rw [eS3] at hW
  refine lv_aload_n C.1 C.2.1 zd_P_become_38 rfl (lv_at hl 1 rfl) ?_
  refine zg_P_mother (r := r1) C hK hW (zvd_0 hr1 (by decide)) zk_63 zd_P_become_39 ?_
  refine zr_iconst C zd_P_become_42 ?_
  refine lv_aload_n C.1 C.2.1 zd_P_become_43 rfl (lv_at hl 0 rfl) ?_
  refine zg_P_mother (r := r0) C hK hW (zvd_0 hr0 (by decide)) zk_63 zd_P_become_44 ?_
  refine zr_iconst C zd_P_become_47 ?_
  refine zr_bipush C zd_P_become_48 (by decide) ?_
  obtain ⟨S4, eS4, hf⟩ := zlt_some hf
  refine zcopy C hK hap hW hS hl.1 (zvd_0 hr1 (by decide)) (zvd_0 hr0 (by decide)) (fun f => ze_0_9 B f (r1)) (fun f => ze_0_9 B f (r0)) (by decide) (by decide) rfl rfl (by decide) zk_1061 zk_735 zk_734 zk_18 (by decide) (Nat.le_of_ble_eq_true rfl) zd_P_become_50 (fun H locs hW hS => ?_)
  rw [eS4] at hW
  refine lv_aload_n C.1 C.2.1 zd_P_become_53 rfl (lv_at hl 1 rfl) ?_
  refine zg_P_skills (r := r1) C hK hW (zvd_0 hr1 (by decide)) zk_66 zd_P_become_54 ?_
  refine zr_iconst C zd_P_become_57 ?_
  refine lv_aload_n C.1 C.2.1 zd_P_become_58 rfl (lv_at hl 0 rfl) ?_
  refine zg_P_skills (r := r0) C hK hW (zvd_0 hr0 (by decide)) zk_66 zd_P_become_59 ?_
  refine zr_iconst C zd_P_become_62 ?_
  refine zr_bipush C zd_P_become_63 (by decide) ?_
  obtain ⟨S5, eS5, hf⟩ := zlt_some hf
  refine zcopy C hK hap hW hS hl.1 (zvd_0 hr1 (by decide)) (zvd_0 hr0 (by decide)) (fun f => ze_0_10 B f (r1)) (fun f => ze_0_10 B f (r0)) (by decide) (by decide) rfl rfl (by decide) zk_1061 zk_735 zk_734 zk_18 (by decide) (Nat.le_of_ble_eq_true rfl) zd_P_become_65 (fun H locs hW hS => ?_)
  rw [eS5] at hW
  refine lv_aload_n C.1 C.2.1 zd_P_become_68 rfl (lv_at hl 1 rfl) ?_
  refine zg_P_state (r := r1) C hK hW (zvd_0 hr1 (by decide)) zk_70 zd_P_become_69 ?_
  refine zr_iconst C zd_P_become_72 ?_
  refine lv_aload_n C.1 C.2.1 zd_P_become_73 rfl (lv_at hl 0 rfl) ?_
  refine zg_P_state (r := r0) C hK hW (zvd_0 hr0 (by decide)) zk_70 zd_P_become_74 ?_
  refine zr_iconst C zd_P_become_77 ?_
  refine zr_bipush C zd_P_become_78 (by decide) ?_
  obtain ⟨S6, eS6, hf⟩ := zlt_some hf
  refine zcopy C hK hap hW hS hl.1 (zvd_0 hr1 (by decide)) (zvd_0 hr0 (by decide)) (fun f => ze_0_11 B f (r1)) (fun f => ze_0_11 B f (r0)) (by decide) (by decide) rfl rfl (by decide) zk_1061 zk_735 zk_734 zk_18 (by decide) (Nat.le_of_ble_eq_true rfl) zd_P_become_80 (fun H locs hW hS => ?_)
  rw [eS6] at hW
  refine lv_aload_n C.1 C.2.1 zd_P_become_83 rfl (lv_at hl 1 rfl) ?_
  refine zg_P_end (r := r1) C hK hW (zvd_0 hr1 (by decide)) zk_74 zd_P_become_84 ?_
  refine zr_iconst C zd_P_become_87 ?_
  refine lv_aload_n C.1 C.2.1 zd_P_become_88 rfl (lv_at hl 0 rfl) ?_
  refine zg_P_end (r := r0) C hK hW (zvd_0 hr0 (by decide)) zk_74 zd_P_become_89 ?_
  refine zr_iconst C zd_P_become_92 ?_
  refine zr_bipush C zd_P_become_93 (by decide) ?_
  obtain ⟨S7, eS7, hf⟩ := zlt_some hf
  refine zcopy C hK hap hW hS hl.1 (zvd_0 hr1 (by decide)) (zvd_0 hr0 (by decide)) (fun f => ze_0_12 B f (r1)) (fun f => ze_0_12 B f (r0)) (by decide) (by decide) rfl rfl (by decide) zk_1061 zk_735 zk_734 zk_18 (by decide) (Nat.le_of_ble_eq_true rfl) zd_P_become_95 (fun H locs hW hS => ?_)
  rw [eS7] at hW
  refine lv_aload_n C.1 C.2.1 zd_P_become_98 rfl (lv_at hl 1 rfl) ?_
  refine zg_P_discontent (r := r1) C hK hW (zvd_0 hr1 (by decide)) zk_77 zd_P_become_99 ?_
  refine zr_iconst C zd_P_become_102 ?_
  refine lv_aload_n C.1 C.2.1 zd_P_become_103 rfl (lv_at hl 0 rfl) ?_
  refine zg_P_discontent (r := r0) C hK hW (zvd_0 hr0 (by decide)) zk_77 zd_P_become_104 ?_
  refine zr_iconst C zd_P_become_107 ?_
  refine zr_bipush C zd_P_become_108 (by decide) ?_
  obtain ⟨S8, eS8, hf⟩ := zlt_some hf
  refine zcopy C hK hap hW hS hl.1 (zvd_0 hr1 (by decide)) (zvd_0 hr0 (by decide)) (fun f => ze_0_13 B f (r1)) (fun f => ze_0_13 B f (r0)) (by decide) (by decide) rfl rfl (by decide) zk_1061 zk_735 zk_734 zk_18 (by decide) (Nat.le_of_ble_eq_true rfl) zd_P_become_110 (fun H locs hW hS => ?_)
  rw [eS8] at hW
  refine lv_aload_n C.1 C.2.1 zd_P_become_113 rfl (lv_at hl 1 rfl) ?_
  refine zg_P_post (r := r1) C hK hW (zvd_0 hr1 (by decide)) zk_81 zd_P_become_114 ?_
  refine zr_iconst C zd_P_become_117 ?_
  refine lv_aload_n C.1 C.2.1 zd_P_become_118 rfl (lv_at hl 0 rfl) ?_
  refine zg_P_post (r := r0) C hK hW (zvd_0 hr0 (by decide)) zk_81 zd_P_become_119 ?_
  refine zr_iconst C zd_P_become_122 ?_
  refine zr_bipush C zd_P_become_123 (by decide) ?_
  obtain ⟨S9, eS9, hf⟩ := zlt_some hf
  refine zcopy C hK hap hW hS hl.1 (zvd_0 hr1 (by decide)) (zvd_0 hr0 (by decide)) (fun f => ze_0_14 B f (r1)) (fun f => ze_0_14 B f (r0)) (by decide) (by decide) rfl rfl (by decide) zk_1061 zk_735 zk_734 zk_18 (by decide) (Nat.le_of_ble_eq_true rfl) zd_P_become_125 (fun H locs hW hS => ?_)
  rw [eS9] at hW
  refine lv_aload_n C.1 C.2.1 zd_P_become_128 rfl (lv_at hl 1 rfl) ?_
  refine zg_P_hungry (r := r1) C hK hW (zvd_0 hr1 (by decide)) zk_84 zd_P_become_129 ?_
  refine zr_iconst C zd_P_become_132 ?_
  refine lv_aload_n C.1 C.2.1 zd_P_become_133 rfl (lv_at hl 0 rfl) ?_
  refine zg_P_hungry (r := r0) C hK hW (zvd_0 hr0 (by decide)) zk_84 zd_P_become_134 ?_
  refine zr_iconst C zd_P_become_137 ?_
  refine zr_bipush C zd_P_become_138 (by decide) ?_
  obtain ⟨S10, eS10, hf⟩ := zlt_some hf
  refine zcopy C hK hap hW hS hl.1 (zvd_0 hr1 (by decide)) (zvd_0 hr0 (by decide)) (fun f => ze_0_15 B f (r1)) (fun f => ze_0_15 B f (r0)) (by decide) (by decide) rfl rfl (by decide) zk_1061 zk_735 zk_734 zk_18 (by decide) (Nat.le_of_ble_eq_true rfl) zd_P_become_140 (fun H locs hW hS => ?_)
  rw [eS10] at hW
  cases hf
  exact zre_v C hr hlk hK hW hS zd_P_become_143

theorem zc_P_become {l : Launch} {B : zB} (hap : zAp B) (r0 : Int) (r1 : Int) (hr0 : 0 ≤ r0 ∧ r0 < 3) (hr1 : 0 ≤ r1 ∧ r1 < 3) (S : Sg) {res : Int} {S9 : Sg} (hf : zf_P_become r0 r1 S = some (res, S9)) : Met l zy_P_become (Cond.code zy_P_become zb_P_become 2 (none) :: zT) zm_P_become (zP B S [.ref (B.2.1 0 (r0) (6)), .ref (B.2.1 0 (r1) (6))]) (zQv B S9) 0 0 B.2.2.2 :=
  zmet (by decide) (Nat.le_of_ble_eq_true rfl) (fun p e s m args below meth c C hr hlk hK hSt hW ls hl => zw_P_become C hr hlk hK hSt hap r0 r1 hr0 hr1  S  hf _ _ _ hW va_S.rf hl)
/-! IslandOffice$Posts.become(LIslandOffice$Posts;)V -/
abbrev zy_Q_become : MethodName := ⟨"IslandOffice$Posts", "become", "(LIslandOffice$Posts;)V"⟩
abbrev zb_Q_become : ByteArray := prog_8_method_2_code
abbrev zm_Q_become : Room := { frames := 1, cells := 0, slots := 0, locals := 64 }
theorem zq_Q_become : zMy zy_Q_become zb_Q_become 2 (none) 1 := ⟨zk_1069, zk_1067, zk_1068, zk_6, by decide, by decide, by decide +kernel⟩
theorem zd_Q_become_0 : decode zb_Q_become 0 = .ok (.aload_n 0, 1) := by decide +kernel
theorem zd_Q_become_1 : decode zb_Q_become 1 = .ok (.aload_n 1, 1) := by decide +kernel
theorem zd_Q_become_2 : decode zb_Q_become 2 = .ok (.getfield 9, 3) := by decide +kernel
theorem zd_Q_become_5 : decode zb_Q_become 5 = .ok (.putfield 9, 3) := by decide +kernel
theorem zd_Q_become_8 : decode zb_Q_become 8 = .ok (.aload_n 1, 1) := by decide +kernel
theorem zd_Q_become_9 : decode zb_Q_become 9 = .ok (.getfield 15, 3) := by decide +kernel
theorem zd_Q_become_12 : decode zb_Q_become 12 = .ok (.iconst 0, 1) := by decide +kernel
theorem zd_Q_become_13 : decode zb_Q_become 13 = .ok (.aload_n 0, 1) := by decide +kernel
theorem zd_Q_become_14 : decode zb_Q_become 14 = .ok (.getfield 15, 3) := by decide +kernel
theorem zd_Q_become_17 : decode zb_Q_become 17 = .ok (.iconst 0, 1) := by decide +kernel
theorem zd_Q_become_18 : decode zb_Q_become 18 = .ok (.bipush 8, 2) := by decide +kernel
theorem zd_Q_become_20 : decode zb_Q_become 20 = .ok (.invokestatic 28, 3) := by decide +kernel
theorem zd_Q_become_23 : decode zb_Q_become 23 = .ok (.aload_n 1, 1) := by decide +kernel
theorem zd_Q_become_24 : decode zb_Q_become 24 = .ok (.getfield 19, 3) := by decide +kernel
theorem zd_Q_become_27 : decode zb_Q_become 27 = .ok (.iconst 0, 1) := by decide +kernel
theorem zd_Q_become_28 : decode zb_Q_become 28 = .ok (.aload_n 0, 1) := by decide +kernel
theorem zd_Q_become_29 : decode zb_Q_become 29 = .ok (.getfield 19, 3) := by decide +kernel
theorem zd_Q_become_32 : decode zb_Q_become 32 = .ok (.iconst 0, 1) := by decide +kernel
theorem zd_Q_become_33 : decode zb_Q_become 33 = .ok (.bipush 8, 2) := by decide +kernel
theorem zd_Q_become_35 : decode zb_Q_become 35 = .ok (.invokestatic 28, 3) := by decide +kernel
theorem zd_Q_become_38 : decode zb_Q_become 38 = .ok (.aload_n 1, 1) := by decide +kernel
theorem zd_Q_become_39 : decode zb_Q_become 39 = .ok (.getfield 22, 3) := by decide +kernel
theorem zd_Q_become_42 : decode zb_Q_become 42 = .ok (.iconst 0, 1) := by decide +kernel
theorem zd_Q_become_43 : decode zb_Q_become 43 = .ok (.aload_n 0, 1) := by decide +kernel
theorem zd_Q_become_44 : decode zb_Q_become 44 = .ok (.getfield 22, 3) := by decide +kernel
theorem zd_Q_become_47 : decode zb_Q_become 47 = .ok (.iconst 0, 1) := by decide +kernel
theorem zd_Q_become_48 : decode zb_Q_become 48 = .ok (.bipush 8, 2) := by decide +kernel
theorem zd_Q_become_50 : decode zb_Q_become 50 = .ok (.invokestatic 28, 3) := by decide +kernel
theorem zd_Q_become_53 : decode zb_Q_become 53 = .ok (.aload_n 1, 1) := by decide +kernel
theorem zd_Q_become_54 : decode zb_Q_become 54 = .ok (.getfield 25, 3) := by decide +kernel
theorem zd_Q_become_57 : decode zb_Q_become 57 = .ok (.iconst 0, 1) := by decide +kernel
theorem zd_Q_become_58 : decode zb_Q_become 58 = .ok (.aload_n 0, 1) := by decide +kernel
theorem zd_Q_become_59 : decode zb_Q_become 59 = .ok (.getfield 25, 3) := by decide +kernel
theorem zd_Q_become_62 : decode zb_Q_become 62 = .ok (.iconst 0, 1) := by decide +kernel
theorem zd_Q_become_63 : decode zb_Q_become 63 = .ok (.bipush 8, 2) := by decide +kernel
theorem zd_Q_become_65 : decode zb_Q_become 65 = .ok (.invokestatic 28, 3) := by decide +kernel
theorem zd_Q_become_68 : decode zb_Q_become 68 = .ok (.return_, 1) := by decide +kernel

def zf_Q_become (r0 : Int) (r1 : Int) (S : Sg) : Option (Int × Sg) :=
    zlt (zu S 0 r0 26 0 (S 0 r1 26 0)) fun S1 => zlt (zcp S1 0 r1 27 0 0 r0 27 0 8) fun S2 => zlt (zcp S2 0 r1 28 0 0 r0 28 0 8) fun S3 => zlt (zcp S3 0 r1 29 0 0 r0 29 0 8) fun S4 => zlt (zcp S4 0 r1 30 0 0 r0 30 0 8) fun S5 => some (0, S5)
set_option maxHeartbeats 4000000 in
set_option maxRecDepth 100000 in
theorem zw_Q_become {p : Program} {l : Launch} {e : Env} {s : State} {m : MethodId} {args : Array Value} {below : List Frame} {meth : Method} {c : Code} {B : zB} (C : CallFix p m c zb_Q_become 2 s args zT "IslandOffice$Posts") (hr : meth.sig.returnType = none) (hlk : meth.locks = false) (hK : zK B s) (hSt : zSt B s) (hap : zAp B) (r0 : Int) (r1 : Int) (hr0 : 0 ≤ r0 ∧ r0 < 3) (hr1 : 0 ≤ r1 ∧ r1 < 3) {res : Int} {S9 : Sg} : ∀  (S : Sg) , zf_Q_become r0 r1  S = some (res, S9) → ∀ (H : Heap) (locs : List Loc) (ls : Array Slot), zW B S H → va_S B.2.2.2 s.heap H locs → lv_has ls 2 [(0, .ref (B.2.1 0 (r0) (26))), (1, .ref (B.2.1 0 (r1) (26)))] → W p l e zm_Q_become s m args below meth c H locs 0 0 (MQ below (zQv B S9) args s 0 0 B.2.2.2) (F0 m 0 ls []) := by
  intro S hf H locs ls hW hS hl
  unfold zf_Q_become at hf
  refine lv_aload_n C.1 C.2.1 zd_Q_become_0 rfl (lv_at hl 0 rfl) ?_
  refine lv_aload_n C.1 C.2.1 zd_Q_become_1 rfl (lv_at hl 1 rfl) ?_
  refine zg_Q_n (r := r1) C hK hW (zvd_0 hr1 (by decide)) zk_167 zd_Q_become_2 ?_
  obtain ⟨S1, eS1, hf⟩ := zlt_some hf
  refine zp_Q_n (r := r0) C hK hap hW hS (zvd_0 hr0 (by decide)) zk_167 (zWn hW _ _ _ _ rfl) zd_Q_become_5 (fun H locs hW hS => ?_)
  rw [eS1] at hW
  refine lv_aload_n C.1 C.2.1 zd_Q_become_8 rfl (lv_at hl 1 rfl) ?_
  refine zg_Q_skill (r := r1) C hK hW (zvd_0 hr1 (by decide)) zk_171 zd_Q_become_9 ?_
  refine zr_iconst C zd_Q_become_12 ?_
  refine lv_aload_n C.1 C.2.1 zd_Q_become_13 rfl (lv_at hl 0 rfl) ?_
  refine zg_Q_skill (r := r0) C hK hW (zvd_0 hr0 (by decide)) zk_171 zd_Q_become_14 ?_
  refine zr_iconst C zd_Q_become_17 ?_
  refine zr_bipush C zd_Q_become_18 (by decide) ?_
  obtain ⟨S2, eS2, hf⟩ := zlt_some hf
  refine zcopy C hK hap hW hS hl.1 (zvd_0 hr1 (by decide)) (zvd_0 hr0 (by decide)) (fun f => ze_0_27 B f (r1)) (fun f => ze_0_27 B f (r0)) (by decide) (by decide) rfl rfl (by decide) zk_1070 zk_735 zk_734 zk_18 (by decide) (Nat.le_of_ble_eq_true rfl) zd_Q_become_20 (fun H locs hW hS => ?_)
  rw [eS2] at hW
  refine lv_aload_n C.1 C.2.1 zd_Q_become_23 rfl (lv_at hl 1 rfl) ?_
  refine zg_Q_hands (r := r1) C hK hW (zvd_0 hr1 (by decide)) zk_173 zd_Q_become_24 ?_
  refine zr_iconst C zd_Q_become_27 ?_
  refine lv_aload_n C.1 C.2.1 zd_Q_become_28 rfl (lv_at hl 0 rfl) ?_
  refine zg_Q_hands (r := r0) C hK hW (zvd_0 hr0 (by decide)) zk_173 zd_Q_become_29 ?_
  refine zr_iconst C zd_Q_become_32 ?_
  refine zr_bipush C zd_Q_become_33 (by decide) ?_
  obtain ⟨S3, eS3, hf⟩ := zlt_some hf
  refine zcopy C hK hap hW hS hl.1 (zvd_0 hr1 (by decide)) (zvd_0 hr0 (by decide)) (fun f => ze_0_28 B f (r1)) (fun f => ze_0_28 B f (r0)) (by decide) (by decide) rfl rfl (by decide) zk_1070 zk_735 zk_734 zk_18 (by decide) (Nat.le_of_ble_eq_true rfl) zd_Q_become_35 (fun H locs hW hS => ?_)
  rw [eS3] at hW
  refine lv_aload_n C.1 C.2.1 zd_Q_become_38 rfl (lv_at hl 1 rfl) ?_
  refine zg_Q_sort (r := r1) C hK hW (zvd_0 hr1 (by decide)) zk_175 zd_Q_become_39 ?_
  refine zr_iconst C zd_Q_become_42 ?_
  refine lv_aload_n C.1 C.2.1 zd_Q_become_43 rfl (lv_at hl 0 rfl) ?_
  refine zg_Q_sort (r := r0) C hK hW (zvd_0 hr0 (by decide)) zk_175 zd_Q_become_44 ?_
  refine zr_iconst C zd_Q_become_47 ?_
  refine zr_bipush C zd_Q_become_48 (by decide) ?_
  obtain ⟨S4, eS4, hf⟩ := zlt_some hf
  refine zcopy C hK hap hW hS hl.1 (zvd_0 hr1 (by decide)) (zvd_0 hr0 (by decide)) (fun f => ze_0_29 B f (r1)) (fun f => ze_0_29 B f (r0)) (by decide) (by decide) rfl rfl (by decide) zk_1070 zk_735 zk_734 zk_18 (by decide) (Nat.le_of_ble_eq_true rfl) zd_Q_become_50 (fun H locs hW hS => ?_)
  rw [eS4] at hW
  refine lv_aload_n C.1 C.2.1 zd_Q_become_53 rfl (lv_at hl 1 rfl) ?_
  refine zg_Q_open (r := r1) C hK hW (zvd_0 hr1 (by decide)) zk_177 zd_Q_become_54 ?_
  refine zr_iconst C zd_Q_become_57 ?_
  refine lv_aload_n C.1 C.2.1 zd_Q_become_58 rfl (lv_at hl 0 rfl) ?_
  refine zg_Q_open (r := r0) C hK hW (zvd_0 hr0 (by decide)) zk_177 zd_Q_become_59 ?_
  refine zr_iconst C zd_Q_become_62 ?_
  refine zr_bipush C zd_Q_become_63 (by decide) ?_
  obtain ⟨S5, eS5, hf⟩ := zlt_some hf
  refine zcopy C hK hap hW hS hl.1 (zvd_0 hr1 (by decide)) (zvd_0 hr0 (by decide)) (fun f => ze_0_30 B f (r1)) (fun f => ze_0_30 B f (r0)) (by decide) (by decide) rfl rfl (by decide) zk_1070 zk_735 zk_734 zk_18 (by decide) (Nat.le_of_ble_eq_true rfl) zd_Q_become_65 (fun H locs hW hS => ?_)
  rw [eS5] at hW
  cases hf
  exact zre_v C hr hlk hK hW hS zd_Q_become_68

theorem zc_Q_become {l : Launch} {B : zB} (hap : zAp B) (r0 : Int) (r1 : Int) (hr0 : 0 ≤ r0 ∧ r0 < 3) (hr1 : 0 ≤ r1 ∧ r1 < 3) (S : Sg) {res : Int} {S9 : Sg} (hf : zf_Q_become r0 r1 S = some (res, S9)) : Met l zy_Q_become (Cond.code zy_Q_become zb_Q_become 2 (none) :: zT) zm_Q_become (zP B S [.ref (B.2.1 0 (r0) (26)), .ref (B.2.1 0 (r1) (26))]) (zQv B S9) 0 0 B.2.2.2 :=
  zmet (by decide) (Nat.le_of_ble_eq_true rfl) (fun p e s m args below meth c C hr hlk hK hSt hW ls hl => zw_Q_become C hr hlk hK hSt hap r0 r1 hr0 hr1  S  hf _ _ _ hW va_S.rf hl)
/-! IslandOffice$Sky.become(LIslandOffice$Sky;)V -/
abbrev zy_Y_become : MethodName := ⟨"IslandOffice$Sky", "become", "(LIslandOffice$Sky;)V"⟩
abbrev zb_Y_become : ByteArray := prog_11_method_2_code
abbrev zm_Y_become : Room := { frames := 2, cells := 0, slots := 0, locals := 87 }
theorem zq_Y_become : zMy zy_Y_become zb_Y_become 2 (none) 1 := ⟨zk_1079, zk_1077, zk_1078, zk_8, by decide, by decide, by decide +kernel⟩
theorem zd_Y_become_0 : decode zb_Y_become 0 = .ok (.aload_n 0, 1) := by decide +kernel
theorem zd_Y_become_1 : decode zb_Y_become 1 = .ok (.aload_n 1, 1) := by decide +kernel
theorem zd_Y_become_2 : decode zb_Y_become 2 = .ok (.getfield 9, 3) := by decide +kernel
theorem zd_Y_become_5 : decode zb_Y_become 5 = .ok (.aload_n 1, 1) := by decide +kernel
theorem zd_Y_become_6 : decode zb_Y_become 6 = .ok (.getfield 15, 3) := by decide +kernel
theorem zd_Y_become_9 : decode zb_Y_become 9 = .ok (.aload_n 1, 1) := by decide +kernel
theorem zd_Y_become_10 : decode zb_Y_become 10 = .ok (.getfield 18, 3) := by decide +kernel
theorem zd_Y_become_13 : decode zb_Y_become 13 = .ok (.invokevirtual 22, 3) := by decide +kernel
theorem zd_Y_become_16 : decode zb_Y_become 16 = .ok (.return_, 1) := by decide +kernel

def zf_Y_become (r0 : Int) (k0 : Int) (r1 : Int) (k1 : Int) (S : Sg) : Option (Int × Sg) :=
    zbd (zf_Y_take (r0) (k0) 14 (r1) (k1) 120 (S 13 r1 k1 0) (S 13 r1 k1 1) S) fun a1 S2 => some (0, S2)
set_option maxHeartbeats 4000000 in
set_option maxRecDepth 100000 in
theorem zw_Y_become {p : Program} {l : Launch} {e : Env} {s : State} {m : MethodId} {args : Array Value} {below : List Frame} {meth : Method} {c : Code} {B : zB} (C : CallFix p m c zb_Y_become 2 s args zT "IslandOffice$Sky") (hr : meth.sig.returnType = none) (hlk : meth.locks = false) (hK : zK B s) (hSt : zSt B s) (hap : zAp B) (r0 : Int) (k0 : Int) (r1 : Int) (k1 : Int) (hr0 : 0 ≤ r0 ∧ r0 < 3) (hk0 : 0 ≤ k0 ∧ k0 < 2) (hr1 : 0 ≤ r1 ∧ r1 < 3) (hk1 : 0 ≤ k1 ∧ k1 < 2) {res : Int} {S9 : Sg} : ∀  (S : Sg) , zf_Y_become r0 k0 r1 k1  S = some (res, S9) → ∀ (H : Heap) (locs : List Loc) (ls : Array Slot), zW B S H → va_S B.2.2.2 s.heap H locs → lv_has ls 2 [(0, .ref (B.2.1 13 (r0) (k0))), (1, .ref (B.2.1 13 (r1) (k1)))] → W p l e zm_Y_become s m args below meth c H locs 0 0 (MQ below (zQv B S9) args s 0 0 B.2.2.2) (F0 m 0 ls []) := by
  intro S hf H locs ls hW hS hl
  unfold zf_Y_become at hf
  refine lv_aload_n C.1 C.2.1 zd_Y_become_0 rfl (lv_at hl 0 rfl) ?_
  refine lv_aload_n C.1 C.2.1 zd_Y_become_1 rfl (lv_at hl 1 rfl) ?_
  refine zg_Y_sort (r := r1) (k := k1) C hK hW (zvd_13 hr1 hk1) zk_229 zd_Y_become_2 ?_
  refine lv_aload_n C.1 C.2.1 zd_Y_become_5 rfl (lv_at hl 1 rfl) ?_
  refine zg_Y_size (r := r1) (k := k1) C hK hW (zvd_13 hr1 hk1) zk_230 zd_Y_become_6 ?_
  refine lv_aload_n C.1 C.2.1 zd_Y_become_9 rfl (lv_at hl 1 rfl) ?_
  refine zg_Y_cell (r := r1) (k := k1) C hK hW (zvd_13 hr1 hk1) zk_231 zd_Y_become_10 ?_
  obtain ⟨a1, S2, ea1, hf⟩ := zbd_some hf
  refine zcVv (As := [.int (zI (S 13 r1 k1 0)), .int (zI (S 13 r1 k1 1)), .ref (B.2.1 14 (r1) (k1))]) (rest := []) C hK hSt hW hS (zc_Y_take hap (r0) (k0) 14 (r1) (k1) 120 hr0 hk0 (zvd_14 hr1 hk1) (fun f => ze_14 B f (r1) (k1)) (by decide) rfl (S 13 r1 k1 0) (S 13 r1 k1 1) S (zWn hW _ _ _ _ rfl) (zWn hW _ _ _ _ rfl) ea1) zq_Y_take zk_1080 (zrecv hK hW (zvd_13 hr0 hk0) (ze_13 B _ (r0) (k0)) rfl) ⟨rfl, rfl, by decide, by decide⟩ ⟨Nat.zero_le _, Nat.zero_le _⟩ rfl hl.1 rfl (lv_room (Nat.le_of_ble_eq_true rfl)) zd_Y_become_13 (fun H locs hW hS => ?_)
  cases hf
  exact zre_v C hr hlk hK hW hS zd_Y_become_16

theorem zc_Y_become {l : Launch} {B : zB} (hap : zAp B) (r0 : Int) (k0 : Int) (r1 : Int) (k1 : Int) (hr0 : 0 ≤ r0 ∧ r0 < 3) (hk0 : 0 ≤ k0 ∧ k0 < 2) (hr1 : 0 ≤ r1 ∧ r1 < 3) (hk1 : 0 ≤ k1 ∧ k1 < 2) (S : Sg) {res : Int} {S9 : Sg} (hf : zf_Y_become r0 k0 r1 k1 S = some (res, S9)) : Met l zy_Y_become (Cond.code zy_Y_become zb_Y_become 2 (none) :: zT) zm_Y_become (zP B S [.ref (B.2.1 13 (r0) (k0)), .ref (B.2.1 13 (r1) (k1))]) (zQv B S9) 0 0 B.2.2.2 :=
  zmet (by decide) (Nat.le_of_ble_eq_true rfl) (fun p e s m args below meth c C hr hlk hK hSt hW ls hl => zw_Y_become C hr hlk hK hSt hap r0 k0 r1 k1 hr0 hk0 hr1 hk1  S  hf _ _ _ hW va_S.rf hl)
/-! IslandOffice$Stores.become(LIslandOffice$Stores;)V -/
abbrev zy_T_become : MethodName := ⟨"IslandOffice$Stores", "become", "(LIslandOffice$Stores;)V"⟩
abbrev zb_T_become : ByteArray := prog_12_method_2_code
abbrev zm_T_become : Room := { frames := 1, cells := 0, slots := 0, locals := 64 }
theorem zq_T_become : zMy zy_T_become zb_T_become 2 (none) 1 := ⟨zk_1074, zk_1072, zk_1073, zk_7, by decide, by decide, by decide +kernel⟩
theorem zd_T_become_0 : decode zb_T_become 0 = .ok (.aload_n 1, 1) := by decide +kernel
theorem zd_T_become_1 : decode zb_T_become 1 = .ok (.getfield 9, 3) := by decide +kernel
theorem zd_T_become_4 : decode zb_T_become 4 = .ok (.iconst 0, 1) := by decide +kernel
theorem zd_T_become_5 : decode zb_T_become 5 = .ok (.aload_n 0, 1) := by decide +kernel
theorem zd_T_become_6 : decode zb_T_become 6 = .ok (.getfield 9, 3) := by decide +kernel
theorem zd_T_become_9 : decode zb_T_become 9 = .ok (.iconst 0, 1) := by decide +kernel
theorem zd_T_become_10 : decode zb_T_become 10 = .ok (.iconst 4, 1) := by decide +kernel
theorem zd_T_become_11 : decode zb_T_become 11 = .ok (.invokestatic 31, 3) := by decide +kernel
theorem zd_T_become_14 : decode zb_T_become 14 = .ok (.aload_n 1, 1) := by decide +kernel
theorem zd_T_become_15 : decode zb_T_become 15 = .ok (.getfield 15, 3) := by decide +kernel
theorem zd_T_become_18 : decode zb_T_become 18 = .ok (.iconst 0, 1) := by decide +kernel
theorem zd_T_become_19 : decode zb_T_become 19 = .ok (.aload_n 0, 1) := by decide +kernel
theorem zd_T_become_20 : decode zb_T_become 20 = .ok (.getfield 15, 3) := by decide +kernel
theorem zd_T_become_23 : decode zb_T_become 23 = .ok (.iconst 0, 1) := by decide +kernel
theorem zd_T_become_24 : decode zb_T_become 24 = .ok (.iconst 4, 1) := by decide +kernel
theorem zd_T_become_25 : decode zb_T_become 25 = .ok (.invokestatic 31, 3) := by decide +kernel
theorem zd_T_become_28 : decode zb_T_become 28 = .ok (.aload_n 1, 1) := by decide +kernel
theorem zd_T_become_29 : decode zb_T_become 29 = .ok (.getfield 18, 3) := by decide +kernel
theorem zd_T_become_32 : decode zb_T_become 32 = .ok (.iconst 0, 1) := by decide +kernel
theorem zd_T_become_33 : decode zb_T_become 33 = .ok (.aload_n 0, 1) := by decide +kernel
theorem zd_T_become_34 : decode zb_T_become 34 = .ok (.getfield 18, 3) := by decide +kernel
theorem zd_T_become_37 : decode zb_T_become 37 = .ok (.iconst 0, 1) := by decide +kernel
theorem zd_T_become_38 : decode zb_T_become 38 = .ok (.iconst 4, 1) := by decide +kernel
theorem zd_T_become_39 : decode zb_T_become 39 = .ok (.invokestatic 31, 3) := by decide +kernel
theorem zd_T_become_42 : decode zb_T_become 42 = .ok (.aload_n 0, 1) := by decide +kernel
theorem zd_T_become_43 : decode zb_T_become 43 = .ok (.aload_n 1, 1) := by decide +kernel
theorem zd_T_become_44 : decode zb_T_become 44 = .ok (.getfield 21, 3) := by decide +kernel
theorem zd_T_become_47 : decode zb_T_become 47 = .ok (.putfield 21, 3) := by decide +kernel
theorem zd_T_become_50 : decode zb_T_become 50 = .ok (.aload_n 1, 1) := by decide +kernel
theorem zd_T_become_51 : decode zb_T_become 51 = .ok (.getfield 25, 3) := by decide +kernel
theorem zd_T_become_54 : decode zb_T_become 54 = .ok (.iconst 0, 1) := by decide +kernel
theorem zd_T_become_55 : decode zb_T_become 55 = .ok (.aload_n 0, 1) := by decide +kernel
theorem zd_T_become_56 : decode zb_T_become 56 = .ok (.getfield 25, 3) := by decide +kernel
theorem zd_T_become_59 : decode zb_T_become 59 = .ok (.iconst 0, 1) := by decide +kernel
theorem zd_T_become_60 : decode zb_T_become 60 = .ok (.bipush 30, 2) := by decide +kernel
theorem zd_T_become_62 : decode zb_T_become 62 = .ok (.invokestatic 31, 3) := by decide +kernel
theorem zd_T_become_65 : decode zb_T_become 65 = .ok (.aload_n 1, 1) := by decide +kernel
theorem zd_T_become_66 : decode zb_T_become 66 = .ok (.getfield 28, 3) := by decide +kernel
theorem zd_T_become_69 : decode zb_T_become 69 = .ok (.iconst 0, 1) := by decide +kernel
theorem zd_T_become_70 : decode zb_T_become 70 = .ok (.aload_n 0, 1) := by decide +kernel
theorem zd_T_become_71 : decode zb_T_become 71 = .ok (.getfield 28, 3) := by decide +kernel
theorem zd_T_become_74 : decode zb_T_become 74 = .ok (.iconst 0, 1) := by decide +kernel
theorem zd_T_become_75 : decode zb_T_become 75 = .ok (.bipush 30, 2) := by decide +kernel
theorem zd_T_become_77 : decode zb_T_become 77 = .ok (.invokestatic 31, 3) := by decide +kernel
theorem zd_T_become_80 : decode zb_T_become 80 = .ok (.return_, 1) := by decide +kernel

def zf_T_become (r0 : Int) (r1 : Int) (S : Sg) : Option (Int × Sg) :=
    zlt (zcp S 0 r1 32 0 0 r0 32 0 4) fun S1 => zlt (zcp S1 0 r1 33 0 0 r0 33 0 4) fun S2 => zlt (zcp S2 0 r1 34 0 0 r0 34 0 4) fun S3 => zlt (zu S3 0 r0 31 3 (S3 0 r1 31 3)) fun S4 => zlt (zcp S4 0 r1 35 0 0 r0 35 0 30) fun S5 => zlt (zcp S5 0 r1 36 0 0 r0 36 0 30) fun S6 => some (0, S6)
set_option maxHeartbeats 4000000 in
set_option maxRecDepth 100000 in
theorem zw_T_become {p : Program} {l : Launch} {e : Env} {s : State} {m : MethodId} {args : Array Value} {below : List Frame} {meth : Method} {c : Code} {B : zB} (C : CallFix p m c zb_T_become 2 s args zT "IslandOffice$Stores") (hr : meth.sig.returnType = none) (hlk : meth.locks = false) (hK : zK B s) (hSt : zSt B s) (hap : zAp B) (r0 : Int) (r1 : Int) (hr0 : 0 ≤ r0 ∧ r0 < 3) (hr1 : 0 ≤ r1 ∧ r1 < 3) {res : Int} {S9 : Sg} : ∀  (S : Sg) , zf_T_become r0 r1  S = some (res, S9) → ∀ (H : Heap) (locs : List Loc) (ls : Array Slot), zW B S H → va_S B.2.2.2 s.heap H locs → lv_has ls 2 [(0, .ref (B.2.1 0 (r0) (31))), (1, .ref (B.2.1 0 (r1) (31)))] → W p l e zm_T_become s m args below meth c H locs 0 0 (MQ below (zQv B S9) args s 0 0 B.2.2.2) (F0 m 0 ls []) := by
  intro S hf H locs ls hW hS hl
  unfold zf_T_become at hf
  refine lv_aload_n C.1 C.2.1 zd_T_become_0 rfl (lv_at hl 1 rfl) ?_
  refine zg_T_stock (r := r1) C hK hW (zvd_0 hr1 (by decide)) zk_197 zd_T_become_1 ?_
  refine zr_iconst C zd_T_become_4 ?_
  refine lv_aload_n C.1 C.2.1 zd_T_become_5 rfl (lv_at hl 0 rfl) ?_
  refine zg_T_stock (r := r0) C hK hW (zvd_0 hr0 (by decide)) zk_197 zd_T_become_6 ?_
  refine zr_iconst C zd_T_become_9 ?_
  refine zr_iconst C zd_T_become_10 ?_
  obtain ⟨S1, eS1, hf⟩ := zlt_some hf
  refine zcopy C hK hap hW hS hl.1 (zvd_0 hr1 (by decide)) (zvd_0 hr0 (by decide)) (fun f => ze_0_32 B f (r1)) (fun f => ze_0_32 B f (r0)) (by decide) (by decide) rfl rfl (by decide) zk_1075 zk_735 zk_734 zk_18 (by decide) (Nat.le_of_ble_eq_true rfl) zd_T_become_11 (fun H locs hW hS => ?_)
  rw [eS1] at hW
  refine lv_aload_n C.1 C.2.1 zd_T_become_14 rfl (lv_at hl 1 rfl) ?_
  refine zg_T_ranks (r := r1) C hK hW (zvd_0 hr1 (by decide)) zk_200 zd_T_become_15 ?_
  refine zr_iconst C zd_T_become_18 ?_
  refine lv_aload_n C.1 C.2.1 zd_T_become_19 rfl (lv_at hl 0 rfl) ?_
  refine zg_T_ranks (r := r0) C hK hW (zvd_0 hr0 (by decide)) zk_200 zd_T_become_20 ?_
  refine zr_iconst C zd_T_become_23 ?_
  refine zr_iconst C zd_T_become_24 ?_
  obtain ⟨S2, eS2, hf⟩ := zlt_some hf
  refine zcopy C hK hap hW hS hl.1 (zvd_0 hr1 (by decide)) (zvd_0 hr0 (by decide)) (fun f => ze_0_33 B f (r1)) (fun f => ze_0_33 B f (r0)) (by decide) (by decide) rfl rfl (by decide) zk_1075 zk_735 zk_734 zk_18 (by decide) (Nat.le_of_ble_eq_true rfl) zd_T_become_25 (fun H locs hW hS => ?_)
  rw [eS2] at hW
  refine lv_aload_n C.1 C.2.1 zd_T_become_28 rfl (lv_at hl 1 rfl) ?_
  refine zg_T_uses (r := r1) C hK hW (zvd_0 hr1 (by decide)) zk_202 zd_T_become_29 ?_
  refine zr_iconst C zd_T_become_32 ?_
  refine lv_aload_n C.1 C.2.1 zd_T_become_33 rfl (lv_at hl 0 rfl) ?_
  refine zg_T_uses (r := r0) C hK hW (zvd_0 hr0 (by decide)) zk_202 zd_T_become_34 ?_
  refine zr_iconst C zd_T_become_37 ?_
  refine zr_iconst C zd_T_become_38 ?_
  obtain ⟨S3, eS3, hf⟩ := zlt_some hf
  refine zcopy C hK hap hW hS hl.1 (zvd_0 hr1 (by decide)) (zvd_0 hr0 (by decide)) (fun f => ze_0_34 B f (r1)) (fun f => ze_0_34 B f (r0)) (by decide) (by decide) rfl rfl (by decide) zk_1075 zk_735 zk_734 zk_18 (by decide) (Nat.le_of_ble_eq_true rfl) zd_T_become_39 (fun H locs hW hS => ?_)
  rw [eS3] at hW
  refine lv_aload_n C.1 C.2.1 zd_T_become_42 rfl (lv_at hl 0 rfl) ?_
  refine lv_aload_n C.1 C.2.1 zd_T_become_43 rfl (lv_at hl 1 rfl) ?_
  refine zg_T_orders (r := r1) C hK hW (zvd_0 hr1 (by decide)) zk_205 zd_T_become_44 ?_
  obtain ⟨S4, eS4, hf⟩ := zlt_some hf
  refine zp_T_orders (r := r0) C hK hap hW hS (zvd_0 hr0 (by decide)) zk_205 (zWn hW _ _ _ _ rfl) zd_T_become_47 (fun H locs hW hS => ?_)
  rw [eS4] at hW
  refine lv_aload_n C.1 C.2.1 zd_T_become_50 rfl (lv_at hl 1 rfl) ?_
  refine zg_T_good (r := r1) C hK hW (zvd_0 hr1 (by decide)) zk_207 zd_T_become_51 ?_
  refine zr_iconst C zd_T_become_54 ?_
  refine lv_aload_n C.1 C.2.1 zd_T_become_55 rfl (lv_at hl 0 rfl) ?_
  refine zg_T_good (r := r0) C hK hW (zvd_0 hr0 (by decide)) zk_207 zd_T_become_56 ?_
  refine zr_iconst C zd_T_become_59 ?_
  refine zr_bipush C zd_T_become_60 (by decide) ?_
  obtain ⟨S5, eS5, hf⟩ := zlt_some hf
  refine zcopy C hK hap hW hS hl.1 (zvd_0 hr1 (by decide)) (zvd_0 hr0 (by decide)) (fun f => ze_0_35 B f (r1)) (fun f => ze_0_35 B f (r0)) (by decide) (by decide) rfl rfl (by decide) zk_1075 zk_735 zk_734 zk_18 (by decide) (Nat.le_of_ble_eq_true rfl) zd_T_become_62 (fun H locs hW hS => ?_)
  rw [eS5] at hW
  refine lv_aload_n C.1 C.2.1 zd_T_become_65 rfl (lv_at hl 1 rfl) ?_
  refine zg_T_rest (r := r1) C hK hW (zvd_0 hr1 (by decide)) zk_208 zd_T_become_66 ?_
  refine zr_iconst C zd_T_become_69 ?_
  refine lv_aload_n C.1 C.2.1 zd_T_become_70 rfl (lv_at hl 0 rfl) ?_
  refine zg_T_rest (r := r0) C hK hW (zvd_0 hr0 (by decide)) zk_208 zd_T_become_71 ?_
  refine zr_iconst C zd_T_become_74 ?_
  refine zr_bipush C zd_T_become_75 (by decide) ?_
  obtain ⟨S6, eS6, hf⟩ := zlt_some hf
  refine zcopy C hK hap hW hS hl.1 (zvd_0 hr1 (by decide)) (zvd_0 hr0 (by decide)) (fun f => ze_0_36 B f (r1)) (fun f => ze_0_36 B f (r0)) (by decide) (by decide) rfl rfl (by decide) zk_1075 zk_735 zk_734 zk_18 (by decide) (Nat.le_of_ble_eq_true rfl) zd_T_become_77 (fun H locs hW hS => ?_)
  rw [eS6] at hW
  cases hf
  exact zre_v C hr hlk hK hW hS zd_T_become_80

theorem zc_T_become {l : Launch} {B : zB} (hap : zAp B) (r0 : Int) (r1 : Int) (hr0 : 0 ≤ r0 ∧ r0 < 3) (hr1 : 0 ≤ r1 ∧ r1 < 3) (S : Sg) {res : Int} {S9 : Sg} (hf : zf_T_become r0 r1 S = some (res, S9)) : Met l zy_T_become (Cond.code zy_T_become zb_T_become 2 (none) :: zT) zm_T_become (zP B S [.ref (B.2.1 0 (r0) (31)), .ref (B.2.1 0 (r1) (31))]) (zQv B S9) 0 0 B.2.2.2 :=
  zmet (by decide) (Nat.le_of_ble_eq_true rfl) (fun p e s m args below meth c C hr hlk hK hSt hW ls hl => zw_T_become C hr hlk hK hSt hap r0 r1 hr0 hr1  S  hf _ _ _ hW va_S.rf hl)
/-! IslandOffice$Island.become(LIslandOffice$Island;)V -/
abbrev zy_I_become : MethodName := ⟨"IslandOffice$Island", "become", "(LIslandOffice$Island;)V"⟩
abbrev zb_I_become : ByteArray := prog_4_method_2_code
abbrev zm_I_become : Room := { frames := 3, cells := 0, slots := 0, locals := 108 }
theorem zq_I_become : zMy zy_I_become zb_I_become 2 (none) 1 := ⟨zk_1055, zk_1053, zk_1054, zk_2, by decide, by decide, by decide +kernel⟩
theorem zd_I_become_0 : decode zb_I_become 0 = .ok (.aload_n 0, 1) := by decide +kernel
theorem zd_I_become_1 : decode zb_I_become 1 = .ok (.aload_n 1, 1) := by decide +kernel
theorem zd_I_become_2 : decode zb_I_become 2 = .ok (.getfield 9, 3) := by decide +kernel
theorem zd_I_become_5 : decode zb_I_become 5 = .ok (.putfield 9, 3) := by decide +kernel
theorem zd_I_become_8 : decode zb_I_become 8 = .ok (.aload_n 0, 1) := by decide +kernel
theorem zd_I_become_9 : decode zb_I_become 9 = .ok (.aload_n 1, 1) := by decide +kernel
theorem zd_I_become_10 : decode zb_I_become 10 = .ok (.getfield 15, 3) := by decide +kernel
theorem zd_I_become_13 : decode zb_I_become 13 = .ok (.putfield 15, 3) := by decide +kernel
theorem zd_I_become_16 : decode zb_I_become 16 = .ok (.aload_n 0, 1) := by decide +kernel
theorem zd_I_become_17 : decode zb_I_become 17 = .ok (.aload_n 1, 1) := by decide +kernel
theorem zd_I_become_18 : decode zb_I_become 18 = .ok (.getfield 18, 3) := by decide +kernel
theorem zd_I_become_21 : decode zb_I_become 21 = .ok (.putfield 18, 3) := by decide +kernel
theorem zd_I_become_24 : decode zb_I_become 24 = .ok (.aload_n 0, 1) := by decide +kernel
theorem zd_I_become_25 : decode zb_I_become 25 = .ok (.aload_n 1, 1) := by decide +kernel
theorem zd_I_become_26 : decode zb_I_become 26 = .ok (.getfield 21, 3) := by decide +kernel
theorem zd_I_become_29 : decode zb_I_become 29 = .ok (.putfield 21, 3) := by decide +kernel
theorem zd_I_become_32 : decode zb_I_become 32 = .ok (.aload_n 0, 1) := by decide +kernel
theorem zd_I_become_33 : decode zb_I_become 33 = .ok (.aload_n 1, 1) := by decide +kernel
theorem zd_I_become_34 : decode zb_I_become 34 = .ok (.getfield 24, 3) := by decide +kernel
theorem zd_I_become_37 : decode zb_I_become 37 = .ok (.putfield 24, 3) := by decide +kernel
theorem zd_I_become_40 : decode zb_I_become 40 = .ok (.aload_n 0, 1) := by decide +kernel
theorem zd_I_become_41 : decode zb_I_become 41 = .ok (.aload_n 1, 1) := by decide +kernel
theorem zd_I_become_42 : decode zb_I_become 42 = .ok (.getfield 27, 3) := by decide +kernel
theorem zd_I_become_45 : decode zb_I_become 45 = .ok (.putfield 27, 3) := by decide +kernel
theorem zd_I_become_48 : decode zb_I_become 48 = .ok (.aload_n 0, 1) := by decide +kernel
theorem zd_I_become_49 : decode zb_I_become 49 = .ok (.aload_n 1, 1) := by decide +kernel
theorem zd_I_become_50 : decode zb_I_become 50 = .ok (.getfield 30, 3) := by decide +kernel
theorem zd_I_become_53 : decode zb_I_become 53 = .ok (.putfield 30, 3) := by decide +kernel
theorem zd_I_become_56 : decode zb_I_become 56 = .ok (.aload_n 1, 1) := by decide +kernel
theorem zd_I_become_57 : decode zb_I_become 57 = .ok (.getfield 33, 3) := by decide +kernel
theorem zd_I_become_60 : decode zb_I_become 60 = .ok (.iconst 0, 1) := by decide +kernel
theorem zd_I_become_61 : decode zb_I_become 61 = .ok (.aload_n 0, 1) := by decide +kernel
theorem zd_I_become_62 : decode zb_I_become 62 = .ok (.getfield 33, 3) := by decide +kernel
theorem zd_I_become_65 : decode zb_I_become 65 = .ok (.iconst 0, 1) := by decide +kernel
theorem zd_I_become_66 : decode zb_I_become 66 = .ok (.iconst 4, 1) := by decide +kernel
theorem zd_I_become_67 : decode zb_I_become 67 = .ok (.invokestatic 98, 3) := by decide +kernel
theorem zd_I_become_70 : decode zb_I_become 70 = .ok (.aload_n 1, 1) := by decide +kernel
theorem zd_I_become_71 : decode zb_I_become 71 = .ok (.getfield 40, 3) := by decide +kernel
theorem zd_I_become_74 : decode zb_I_become 74 = .ok (.iconst 0, 1) := by decide +kernel
theorem zd_I_become_75 : decode zb_I_become 75 = .ok (.aload_n 0, 1) := by decide +kernel
theorem zd_I_become_76 : decode zb_I_become 76 = .ok (.getfield 40, 3) := by decide +kernel
theorem zd_I_become_79 : decode zb_I_become 79 = .ok (.iconst 0, 1) := by decide +kernel
theorem zd_I_become_80 : decode zb_I_become 80 = .ok (.bipush 12, 2) := by decide +kernel
theorem zd_I_become_82 : decode zb_I_become 82 = .ok (.invokestatic 98, 3) := by decide +kernel
theorem zd_I_become_85 : decode zb_I_become 85 = .ok (.aload_n 1, 1) := by decide +kernel
theorem zd_I_become_86 : decode zb_I_become 86 = .ok (.getfield 43, 3) := by decide +kernel
theorem zd_I_become_89 : decode zb_I_become 89 = .ok (.iconst 0, 1) := by decide +kernel
theorem zd_I_become_90 : decode zb_I_become 90 = .ok (.aload_n 0, 1) := by decide +kernel
theorem zd_I_become_91 : decode zb_I_become 91 = .ok (.getfield 43, 3) := by decide +kernel
theorem zd_I_become_94 : decode zb_I_become 94 = .ok (.iconst 0, 1) := by decide +kernel
theorem zd_I_become_95 : decode zb_I_become 95 = .ok (.bipush 12, 2) := by decide +kernel
theorem zd_I_become_97 : decode zb_I_become 97 = .ok (.invokestatic 98, 3) := by decide +kernel
theorem zd_I_become_100 : decode zb_I_become 100 = .ok (.aload_n 1, 1) := by decide +kernel
theorem zd_I_become_101 : decode zb_I_become 101 = .ok (.getfield 46, 3) := by decide +kernel
theorem zd_I_become_104 : decode zb_I_become 104 = .ok (.iconst 0, 1) := by decide +kernel
theorem zd_I_become_105 : decode zb_I_become 105 = .ok (.aload_n 0, 1) := by decide +kernel
theorem zd_I_become_106 : decode zb_I_become 106 = .ok (.getfield 46, 3) := by decide +kernel
theorem zd_I_become_109 : decode zb_I_become 109 = .ok (.iconst 0, 1) := by decide +kernel
theorem zd_I_become_110 : decode zb_I_become 110 = .ok (.bipush 12, 2) := by decide +kernel
theorem zd_I_become_112 : decode zb_I_become 112 = .ok (.invokestatic 98, 3) := by decide +kernel
theorem zd_I_become_115 : decode zb_I_become 115 = .ok (.aload_n 1, 1) := by decide +kernel
theorem zd_I_become_116 : decode zb_I_become 116 = .ok (.getfield 49, 3) := by decide +kernel
theorem zd_I_become_119 : decode zb_I_become 119 = .ok (.iconst 0, 1) := by decide +kernel
theorem zd_I_become_120 : decode zb_I_become 120 = .ok (.aload_n 0, 1) := by decide +kernel
theorem zd_I_become_121 : decode zb_I_become 121 = .ok (.getfield 49, 3) := by decide +kernel
theorem zd_I_become_124 : decode zb_I_become 124 = .ok (.iconst 0, 1) := by decide +kernel
theorem zd_I_become_125 : decode zb_I_become 125 = .ok (.bipush 12, 2) := by decide +kernel
theorem zd_I_become_127 : decode zb_I_become 127 = .ok (.invokestatic 98, 3) := by decide +kernel
theorem zd_I_become_130 : decode zb_I_become 130 = .ok (.aload_n 0, 1) := by decide +kernel
theorem zd_I_become_131 : decode zb_I_become 131 = .ok (.getfield 61, 3) := by decide +kernel
theorem zd_I_become_134 : decode zb_I_become 134 = .ok (.aload_n 1, 1) := by decide +kernel
theorem zd_I_become_135 : decode zb_I_become 135 = .ok (.getfield 61, 3) := by decide +kernel
theorem zd_I_become_138 : decode zb_I_become 138 = .ok (.invokevirtual 104, 3) := by decide +kernel
theorem zd_I_become_141 : decode zb_I_become 141 = .ok (.aload_n 0, 1) := by decide +kernel
theorem zd_I_become_142 : decode zb_I_become 142 = .ok (.getfield 70, 3) := by decide +kernel
theorem zd_I_become_145 : decode zb_I_become 145 = .ok (.aload_n 1, 1) := by decide +kernel
theorem zd_I_become_146 : decode zb_I_become 146 = .ok (.getfield 70, 3) := by decide +kernel
theorem zd_I_become_149 : decode zb_I_become 149 = .ok (.invokevirtual 108, 3) := by decide +kernel
theorem zd_I_become_152 : decode zb_I_become 152 = .ok (.aload_n 0, 1) := by decide +kernel
theorem zd_I_become_153 : decode zb_I_become 153 = .ok (.getfield 77, 3) := by decide +kernel
theorem zd_I_become_156 : decode zb_I_become 156 = .ok (.aload_n 1, 1) := by decide +kernel
theorem zd_I_become_157 : decode zb_I_become 157 = .ok (.getfield 77, 3) := by decide +kernel
theorem zd_I_become_160 : decode zb_I_become 160 = .ok (.invokevirtual 111, 3) := by decide +kernel
theorem zd_I_become_163 : decode zb_I_become 163 = .ok (.aload_n 0, 1) := by decide +kernel
theorem zd_I_become_164 : decode zb_I_become 164 = .ok (.getfield 84, 3) := by decide +kernel
theorem zd_I_become_167 : decode zb_I_become 167 = .ok (.aload_n 1, 1) := by decide +kernel
theorem zd_I_become_168 : decode zb_I_become 168 = .ok (.getfield 84, 3) := by decide +kernel
theorem zd_I_become_171 : decode zb_I_become 171 = .ok (.invokevirtual 114, 3) := by decide +kernel
theorem zd_I_become_174 : decode zb_I_become 174 = .ok (.aload_n 0, 1) := by decide +kernel
theorem zd_I_become_175 : decode zb_I_become 175 = .ok (.getfield 91, 3) := by decide +kernel
theorem zd_I_become_178 : decode zb_I_become 178 = .ok (.aload_n 1, 1) := by decide +kernel
theorem zd_I_become_179 : decode zb_I_become 179 = .ok (.getfield 91, 3) := by decide +kernel
theorem zd_I_become_182 : decode zb_I_become 182 = .ok (.invokevirtual 117, 3) := by decide +kernel
theorem zd_I_become_185 : decode zb_I_become 185 = .ok (.aload_n 0, 1) := by decide +kernel
theorem zd_I_become_186 : decode zb_I_become 186 = .ok (.getfield 95, 3) := by decide +kernel
theorem zd_I_become_189 : decode zb_I_become 189 = .ok (.aload_n 1, 1) := by decide +kernel
theorem zd_I_become_190 : decode zb_I_become 190 = .ok (.getfield 95, 3) := by decide +kernel
theorem zd_I_become_193 : decode zb_I_become 193 = .ok (.invokevirtual 117, 3) := by decide +kernel
theorem zd_I_become_196 : decode zb_I_become 196 = .ok (.return_, 1) := by decide +kernel

def zf_I_become (r0 : Int) (r1 : Int) (S : Sg) : Option (Int × Sg) :=
    zlt (zu S 0 r0 0 0 (S 0 r1 0 0)) fun S1 => zlt (zu S1 0 r0 0 1 (S1 0 r1 0 1)) fun S2 => zlt (zu S2 0 r0 0 2 (S2 0 r1 0 2)) fun S3 => zlt (zu S3 0 r0 0 3 (S3 0 r1 0 3)) fun S4 => zlt (zu S4 0 r0 0 4 (S4 0 r1 0 4)) fun S5 => zlt (zu S5 0 r0 0 5 (S5 0 r1 0 5)) fun S6 => zlt (zu S6 0 r0 0 6 (S6 0 r1 0 6)) fun S7 => zlt (zcp S7 0 r1 1 0 0 r0 1 0 4) fun S8 => zlt (zcp S8 0 r1 2 0 0 r0 2 0 12) fun S9 => zlt (zcp S9 0 r1 3 0 0 r0 3 0 12) fun S10 => zlt (zcp S10 0 r1 4 0 0 r0 4 0 12) fun S11 => zlt (zcp S11 0 r1 5 0 0 r0 5 0 12) fun S12 => zbd (zf_P_become (r0) (r1) S12) fun a13 S14 => zbd (zf_L_become (r0) (r1) S14) fun a15 S16 => zbd (zf_Q_become (r0) (r1) S16) fun a17 S18 => zbd (zf_T_become (r0) (r1) S18) fun a19 S20 => zbd (zf_Y_become (r0) (0) (r1) (0) S20) fun a21 S22 => zbd (zf_Y_become (r0) (1) (r1) (1) S22) fun a23 S24 => some (0, S24)
set_option maxHeartbeats 4000000 in
set_option maxRecDepth 100000 in
theorem zw_I_become {p : Program} {l : Launch} {e : Env} {s : State} {m : MethodId} {args : Array Value} {below : List Frame} {meth : Method} {c : Code} {B : zB} (C : CallFix p m c zb_I_become 2 s args zT "IslandOffice$Island") (hr : meth.sig.returnType = none) (hlk : meth.locks = false) (hK : zK B s) (hSt : zSt B s) (hap : zAp B) (r0 : Int) (r1 : Int) (hr0 : 0 ≤ r0 ∧ r0 < 3) (hr1 : 0 ≤ r1 ∧ r1 < 3) {res : Int} {S9 : Sg} : ∀  (S : Sg) , zf_I_become r0 r1  S = some (res, S9) → ∀ (H : Heap) (locs : List Loc) (ls : Array Slot), zW B S H → va_S B.2.2.2 s.heap H locs → lv_has ls 2 [(0, .ref (B.2.1 0 (r0) (0))), (1, .ref (B.2.1 0 (r1) (0)))] → W p l e zm_I_become s m args below meth c H locs 0 0 (MQ below (zQv B S9) args s 0 0 B.2.2.2) (F0 m 0 ls []) := by
  intro S hf H locs ls hW hS hl
  unfold zf_I_become at hf
  refine lv_aload_n C.1 C.2.1 zd_I_become_0 rfl (lv_at hl 0 rfl) ?_
  refine lv_aload_n C.1 C.2.1 zd_I_become_1 rfl (lv_at hl 1 rfl) ?_
  refine zg_I_week (r := r1) C hK hW (zvd_0 hr1 (by decide)) zk_239 zd_I_become_2 ?_
  obtain ⟨S1, eS1, hf⟩ := zlt_some hf
  refine zp_I_week (r := r0) C hK hap hW hS (zvd_0 hr0 (by decide)) zk_239 (zWn hW _ _ _ _ rfl) zd_I_become_5 (fun H locs hW hS => ?_)
  rw [eS1] at hW
  refine lv_aload_n C.1 C.2.1 zd_I_become_8 rfl (lv_at hl 0 rfl) ?_
  refine lv_aload_n C.1 C.2.1 zd_I_become_9 rfl (lv_at hl 1 rfl) ?_
  refine zg_I_purse (r := r1) C hK hW (zvd_0 hr1 (by decide)) zk_244 zd_I_become_10 ?_
  obtain ⟨S2, eS2, hf⟩ := zlt_some hf
  refine zp_I_purse (r := r0) C hK hap hW hS (zvd_0 hr0 (by decide)) zk_244 (zWn hW _ _ _ _ rfl) zd_I_become_13 (fun H locs hW hS => ?_)
  rw [eS2] at hW
  refine lv_aload_n C.1 C.2.1 zd_I_become_16 rfl (lv_at hl 0 rfl) ?_
  refine lv_aload_n C.1 C.2.1 zd_I_become_17 rfl (lv_at hl 1 rfl) ?_
  refine zg_I_fund (r := r1) C hK hW (zvd_0 hr1 (by decide)) zk_247 zd_I_become_18 ?_
  obtain ⟨S3, eS3, hf⟩ := zlt_some hf
  refine zp_I_fund (r := r0) C hK hap hW hS (zvd_0 hr0 (by decide)) zk_247 (zWn hW _ _ _ _ rfl) zd_I_become_21 (fun H locs hW hS => ?_)
  rw [eS3] at hW
  refine lv_aload_n C.1 C.2.1 zd_I_become_24 rfl (lv_at hl 0 rfl) ?_
  refine lv_aload_n C.1 C.2.1 zd_I_become_25 rfl (lv_at hl 1 rfl) ?_
  refine zg_I_unpaid (r := r1) C hK hW (zvd_0 hr1 (by decide)) zk_250 zd_I_become_26 ?_
  obtain ⟨S4, eS4, hf⟩ := zlt_some hf
  refine zp_I_unpaid (r := r0) C hK hap hW hS (zvd_0 hr0 (by decide)) zk_250 (zWn hW _ _ _ _ rfl) zd_I_become_29 (fun H locs hW hS => ?_)
  rw [eS4] at hW
  refine lv_aload_n C.1 C.2.1 zd_I_become_32 rfl (lv_at hl 0 rfl) ?_
  refine lv_aload_n C.1 C.2.1 zd_I_become_33 rfl (lv_at hl 1 rfl) ?_
  refine zg_I_grass (r := r1) C hK hW (zvd_0 hr1 (by decide)) zk_253 zd_I_become_34 ?_
  obtain ⟨S5, eS5, hf⟩ := zlt_some hf
  refine zp_I_grass (r := r0) C hK hap hW hS (zvd_0 hr0 (by decide)) zk_253 (zWn hW _ _ _ _ rfl) zd_I_become_37 (fun H locs hW hS => ?_)
  rw [eS5] at hW
  refine lv_aload_n C.1 C.2.1 zd_I_become_40 rfl (lv_at hl 0 rfl) ?_
  refine lv_aload_n C.1 C.2.1 zd_I_become_41 rfl (lv_at hl 1 rfl) ?_
  refine zg_I_orderOfPay (r := r1) C hK hW (zvd_0 hr1 (by decide)) zk_256 zd_I_become_42 ?_
  obtain ⟨S6, eS6, hf⟩ := zlt_some hf
  refine zp_I_orderOfPay (r := r0) C hK hap hW hS (zvd_0 hr0 (by decide)) zk_256 (zWn hW _ _ _ _ rfl) zd_I_become_45 (fun H locs hW hS => ?_)
  rw [eS6] at hW
  refine lv_aload_n C.1 C.2.1 zd_I_become_48 rfl (lv_at hl 0 rfl) ?_
  refine lv_aload_n C.1 C.2.1 zd_I_become_49 rfl (lv_at hl 1 rfl) ?_
  refine zg_I_landed (r := r1) C hK hW (zvd_0 hr1 (by decide)) zk_259 zd_I_become_50 ?_
  obtain ⟨S7, eS7, hf⟩ := zlt_some hf
  refine zp_I_landed (r := r0) C hK hap hW hS (zvd_0 hr0 (by decide)) zk_259 (zWn hW _ _ _ _ rfl) zd_I_become_53 (fun H locs hW hS => ?_)
  rw [eS7] at hW
  refine lv_aload_n C.1 C.2.1 zd_I_become_56 rfl (lv_at hl 1 rfl) ?_
  refine zg_I_settings (r := r1) C hK hW (zvd_0 hr1 (by decide)) zk_262 zd_I_become_57 ?_
  refine zr_iconst C zd_I_become_60 ?_
  refine lv_aload_n C.1 C.2.1 zd_I_become_61 rfl (lv_at hl 0 rfl) ?_
  refine zg_I_settings (r := r0) C hK hW (zvd_0 hr0 (by decide)) zk_262 zd_I_become_62 ?_
  refine zr_iconst C zd_I_become_65 ?_
  refine zr_iconst C zd_I_become_66 ?_
  obtain ⟨S8, eS8, hf⟩ := zlt_some hf
  refine zcopy C hK hap hW hS hl.1 (zvd_0 hr1 (by decide)) (zvd_0 hr0 (by decide)) (fun f => ze_0_1 B f (r1)) (fun f => ze_0_1 B f (r0)) (by decide) (by decide) rfl rfl (by decide) zk_1056 zk_735 zk_734 zk_18 (by decide) (Nat.le_of_ble_eq_true rfl) zd_I_become_67 (fun H locs hW hS => ?_)
  rw [eS8] at hW
  refine lv_aload_n C.1 C.2.1 zd_I_become_70 rfl (lv_at hl 1 rfl) ?_
  refine zg_I_cattle (r := r1) C hK hW (zvd_0 hr1 (by decide)) zk_265 zd_I_become_71 ?_
  refine zr_iconst C zd_I_become_74 ?_
  refine lv_aload_n C.1 C.2.1 zd_I_become_75 rfl (lv_at hl 0 rfl) ?_
  refine zg_I_cattle (r := r0) C hK hW (zvd_0 hr0 (by decide)) zk_265 zd_I_become_76 ?_
  refine zr_iconst C zd_I_become_79 ?_
  refine zr_bipush C zd_I_become_80 (by decide) ?_
  obtain ⟨S9, eS9, hf⟩ := zlt_some hf
  refine zcopy C hK hap hW hS hl.1 (zvd_0 hr1 (by decide)) (zvd_0 hr0 (by decide)) (fun f => ze_0_2 B f (r1)) (fun f => ze_0_2 B f (r0)) (by decide) (by decide) rfl rfl (by decide) zk_1056 zk_735 zk_734 zk_18 (by decide) (Nat.le_of_ble_eq_true rfl) zd_I_become_82 (fun H locs hW hS => ?_)
  rw [eS9] at hW
  refine lv_aload_n C.1 C.2.1 zd_I_become_85 rfl (lv_at hl 1 rfl) ?_
  refine zg_I_tank (r := r1) C hK hW (zvd_0 hr1 (by decide)) zk_269 zd_I_become_86 ?_
  refine zr_iconst C zd_I_become_89 ?_
  refine lv_aload_n C.1 C.2.1 zd_I_become_90 rfl (lv_at hl 0 rfl) ?_
  refine zg_I_tank (r := r0) C hK hW (zvd_0 hr0 (by decide)) zk_269 zd_I_become_91 ?_
  refine zr_iconst C zd_I_become_94 ?_
  refine zr_bipush C zd_I_become_95 (by decide) ?_
  obtain ⟨S10, eS10, hf⟩ := zlt_some hf
  refine zcopy C hK hap hW hS hl.1 (zvd_0 hr1 (by decide)) (zvd_0 hr0 (by decide)) (fun f => ze_0_3 B f (r1)) (fun f => ze_0_3 B f (r0)) (by decide) (by decide) rfl rfl (by decide) zk_1056 zk_735 zk_734 zk_18 (by decide) (Nat.le_of_ble_eq_true rfl) zd_I_become_97 (fun H locs hW hS => ?_)
  rw [eS10] at hW
  refine lv_aload_n C.1 C.2.1 zd_I_become_100 rfl (lv_at hl 1 rfl) ?_
  refine zg_I_roof (r := r1) C hK hW (zvd_0 hr1 (by decide)) zk_272 zd_I_become_101 ?_
  refine zr_iconst C zd_I_become_104 ?_
  refine lv_aload_n C.1 C.2.1 zd_I_become_105 rfl (lv_at hl 0 rfl) ?_
  refine zg_I_roof (r := r0) C hK hW (zvd_0 hr0 (by decide)) zk_272 zd_I_become_106 ?_
  refine zr_iconst C zd_I_become_109 ?_
  refine zr_bipush C zd_I_become_110 (by decide) ?_
  obtain ⟨S11, eS11, hf⟩ := zlt_some hf
  refine zcopy C hK hap hW hS hl.1 (zvd_0 hr1 (by decide)) (zvd_0 hr0 (by decide)) (fun f => ze_0_4 B f (r1)) (fun f => ze_0_4 B f (r0)) (by decide) (by decide) rfl rfl (by decide) zk_1056 zk_735 zk_734 zk_18 (by decide) (Nat.le_of_ble_eq_true rfl) zd_I_become_112 (fun H locs hW hS => ?_)
  rw [eS11] at hW
  refine lv_aload_n C.1 C.2.1 zd_I_become_115 rfl (lv_at hl 1 rfl) ?_
  refine zg_I_dry (r := r1) C hK hW (zvd_0 hr1 (by decide)) zk_275 zd_I_become_116 ?_
  refine zr_iconst C zd_I_become_119 ?_
  refine lv_aload_n C.1 C.2.1 zd_I_become_120 rfl (lv_at hl 0 rfl) ?_
  refine zg_I_dry (r := r0) C hK hW (zvd_0 hr0 (by decide)) zk_275 zd_I_become_121 ?_
  refine zr_iconst C zd_I_become_124 ?_
  refine zr_bipush C zd_I_become_125 (by decide) ?_
  obtain ⟨S12, eS12, hf⟩ := zlt_some hf
  refine zcopy C hK hap hW hS hl.1 (zvd_0 hr1 (by decide)) (zvd_0 hr0 (by decide)) (fun f => ze_0_5 B f (r1)) (fun f => ze_0_5 B f (r0)) (by decide) (by decide) rfl rfl (by decide) zk_1056 zk_735 zk_734 zk_18 (by decide) (Nat.le_of_ble_eq_true rfl) zd_I_become_127 (fun H locs hW hS => ?_)
  rw [eS12] at hW
  refine lv_aload_n C.1 C.2.1 zd_I_become_130 rfl (lv_at hl 0 rfl) ?_
  refine zg_I_people (r := r0) C hK hW (zvd_0 hr0 (by decide)) zk_278 zd_I_become_131 ?_
  refine lv_aload_n C.1 C.2.1 zd_I_become_134 rfl (lv_at hl 1 rfl) ?_
  refine zg_I_people (r := r1) C hK hW (zvd_0 hr1 (by decide)) zk_278 zd_I_become_135 ?_
  obtain ⟨a13, S14, ea13, hf⟩ := zbd_some hf
  refine zcVv (As := [.ref (B.2.1 0 (r1) (6))]) (rest := []) C hK hSt hW hS (zc_P_become hap (r0) (r1) hr0 hr1 S12 ea13) zq_P_become zk_1057 (zrecv hK hW (zvd_0 hr0 (by decide)) (ze_0_6 B _ (r0)) rfl) ⟨rfl, rfl, by decide, by decide⟩ ⟨Nat.zero_le _, Nat.zero_le _⟩ rfl hl.1 rfl (lv_room (Nat.le_of_ble_eq_true rfl)) zd_I_become_138 (fun H locs hW hS => ?_)
  refine lv_aload_n C.1 C.2.1 zd_I_become_141 rfl (lv_at hl 0 rfl) ?_
  refine zg_I_laws (r := r0) C hK hW (zvd_0 hr0 (by decide)) zk_283 zd_I_become_142 ?_
  refine lv_aload_n C.1 C.2.1 zd_I_become_145 rfl (lv_at hl 1 rfl) ?_
  refine zg_I_laws (r := r1) C hK hW (zvd_0 hr1 (by decide)) zk_283 zd_I_become_146 ?_
  obtain ⟨a15, S16, ea15, hf⟩ := zbd_some hf
  refine zcVv (As := [.ref (B.2.1 0 (r1) (16))]) (rest := []) C hK hSt hW hS (zc_L_become hap (r0) (r1) hr0 hr1 S14 ea15) zq_L_become zk_1062 (zrecv hK hW (zvd_0 hr0 (by decide)) (ze_0_16 B _ (r0)) rfl) ⟨rfl, rfl, by decide, by decide⟩ ⟨Nat.zero_le _, Nat.zero_le _⟩ rfl hl.1 rfl (lv_room (Nat.le_of_ble_eq_true rfl)) zd_I_become_149 (fun H locs hW hS => ?_)
  refine lv_aload_n C.1 C.2.1 zd_I_become_152 rfl (lv_at hl 0 rfl) ?_
  refine zg_I_posts (r := r0) C hK hW (zvd_0 hr0 (by decide)) zk_286 zd_I_become_153 ?_
  refine lv_aload_n C.1 C.2.1 zd_I_become_156 rfl (lv_at hl 1 rfl) ?_
  refine zg_I_posts (r := r1) C hK hW (zvd_0 hr1 (by decide)) zk_286 zd_I_become_157 ?_
  obtain ⟨a17, S18, ea17, hf⟩ := zbd_some hf
  refine zcVv (As := [.ref (B.2.1 0 (r1) (26))]) (rest := []) C hK hSt hW hS (zc_Q_become hap (r0) (r1) hr0 hr1 S16 ea17) zq_Q_become zk_1066 (zrecv hK hW (zvd_0 hr0 (by decide)) (ze_0_26 B _ (r0)) rfl) ⟨rfl, rfl, by decide, by decide⟩ ⟨Nat.zero_le _, Nat.zero_le _⟩ rfl hl.1 rfl (lv_room (Nat.le_of_ble_eq_true rfl)) zd_I_become_160 (fun H locs hW hS => ?_)
  refine lv_aload_n C.1 C.2.1 zd_I_become_163 rfl (lv_at hl 0 rfl) ?_
  refine zg_I_stores (r := r0) C hK hW (zvd_0 hr0 (by decide)) zk_290 zd_I_become_164 ?_
  refine lv_aload_n C.1 C.2.1 zd_I_become_167 rfl (lv_at hl 1 rfl) ?_
  refine zg_I_stores (r := r1) C hK hW (zvd_0 hr1 (by decide)) zk_290 zd_I_become_168 ?_
  obtain ⟨a19, S20, ea19, hf⟩ := zbd_some hf
  refine zcVv (As := [.ref (B.2.1 0 (r1) (31))]) (rest := []) C hK hSt hW hS (zc_T_become hap (r0) (r1) hr0 hr1 S18 ea19) zq_T_become zk_1071 (zrecv hK hW (zvd_0 hr0 (by decide)) (ze_0_31 B _ (r0)) rfl) ⟨rfl, rfl, by decide, by decide⟩ ⟨Nat.zero_le _, Nat.zero_le _⟩ rfl hl.1 rfl (lv_room (Nat.le_of_ble_eq_true rfl)) zd_I_become_171 (fun H locs hW hS => ?_)
  refine lv_aload_n C.1 C.2.1 zd_I_become_174 rfl (lv_at hl 0 rfl) ?_
  refine zg_I_weather (r := r0) C hK hW (zvd_0 hr0 (by decide)) zk_293 zd_I_become_175 ?_
  refine lv_aload_n C.1 C.2.1 zd_I_become_178 rfl (lv_at hl 1 rfl) ?_
  refine zg_I_weather (r := r1) C hK hW (zvd_0 hr1 (by decide)) zk_293 zd_I_become_179 ?_
  obtain ⟨a21, S22, ea21, hf⟩ := zbd_some hf
  refine zcVv (As := [.ref (B.2.1 13 (r1) (0))]) (rest := []) C hK hSt hW hS (zc_Y_become hap (r0) (0) (r1) (0) hr0 (by decide) hr1 (by decide) S20 ea21) zq_Y_become zk_1076 (zrecv hK hW (zvd_13 hr0 (by decide)) (ze_13 B _ (r0) (0)) rfl) ⟨rfl, rfl, by decide, by decide⟩ ⟨Nat.zero_le _, Nat.zero_le _⟩ rfl hl.1 rfl (lv_room (Nat.le_of_ble_eq_true rfl)) zd_I_become_182 (fun H locs hW hS => ?_)
  refine lv_aload_n C.1 C.2.1 zd_I_become_185 rfl (lv_at hl 0 rfl) ?_
  refine zg_I_rain (r := r0) C hK hW (zvd_0 hr0 (by decide)) zk_296 zd_I_become_186 ?_
  refine lv_aload_n C.1 C.2.1 zd_I_become_189 rfl (lv_at hl 1 rfl) ?_
  refine zg_I_rain (r := r1) C hK hW (zvd_0 hr1 (by decide)) zk_296 zd_I_become_190 ?_
  obtain ⟨a23, S24, ea23, hf⟩ := zbd_some hf
  refine zcVv (As := [.ref (B.2.1 13 (r1) (1))]) (rest := []) C hK hSt hW hS (zc_Y_become hap (r0) (1) (r1) (1) hr0 (by decide) hr1 (by decide) S22 ea23) zq_Y_become zk_1076 (zrecv hK hW (zvd_13 hr0 (by decide)) (ze_13 B _ (r0) (1)) rfl) ⟨rfl, rfl, by decide, by decide⟩ ⟨Nat.zero_le _, Nat.zero_le _⟩ rfl hl.1 rfl (lv_room (Nat.le_of_ble_eq_true rfl)) zd_I_become_193 (fun H locs hW hS => ?_)
  cases hf
  exact zre_v C hr hlk hK hW hS zd_I_become_196

theorem zc_I_become {l : Launch} {B : zB} (hap : zAp B) (r0 : Int) (r1 : Int) (hr0 : 0 ≤ r0 ∧ r0 < 3) (hr1 : 0 ≤ r1 ∧ r1 < 3) (S : Sg) {res : Int} {S9 : Sg} (hf : zf_I_become r0 r1 S = some (res, S9)) : Met l zy_I_become (Cond.code zy_I_become zb_I_become 2 (none) :: zT) zm_I_become (zP B S [.ref (B.2.1 0 (r0) (0)), .ref (B.2.1 0 (r1) (0))]) (zQv B S9) 0 0 B.2.2.2 :=
  zmet (by decide) (Nat.le_of_ble_eq_true rfl) (fun p e s m args below meth c C hr hlk hK hSt hW ls hl => zw_I_become C hr hlk hK hSt hap r0 r1 hr0 hr1  S  hf _ _ _ hW va_S.rf hl)
/-! IslandOffice.worth(II)I -/
abbrev zy_O_worth : MethodName := ⟨"IslandOffice", "worth", "(II)I"⟩
abbrev zb_O_worth : ByteArray := prog_1_method_34_code
abbrev zm_O_worth : Room := { frames := 7, cells := 0, slots := 0, locals := 214 }
theorem zq_O_worth : zMy zy_O_worth zb_O_worth 4 (some .int) 2 := ⟨zk_1051, zk_1049, zk_1050, zk_1, by decide, by decide, by decide +kernel⟩
theorem zd_O_worth_0 : decode zb_O_worth 0 = .ok (.aload_n 0, 1) := by decide +kernel
theorem zd_O_worth_1 : decode zb_O_worth 1 = .ok (.getfield 16, 3) := by decide +kernel
theorem zd_O_worth_4 : decode zb_O_worth 4 = .ok (.getfield 223, 3) := by decide +kernel
theorem zd_O_worth_7 : decode zb_O_worth 7 = .ok (.iload_n 1, 1) := by decide +kernel
theorem zd_O_worth_8 : decode zb_O_worth 8 = .ok (.invokevirtual 232, 3) := by decide +kernel
theorem zd_O_worth_11 : decode zb_O_worth 11 = .ok (.ifCond .eq 14, 3) := by decide +kernel
theorem zd_O_worth_14 : decode zb_O_worth 14 = .ok (.iload_n 2, 1) := by decide +kernel
theorem zd_O_worth_15 : decode zb_O_worth 15 = .ok (.iconst 1, 1) := by decide +kernel
theorem zd_O_worth_16 : decode zb_O_worth 16 = .ok (.if_icmp .lt 9, 3) := by decide +kernel
theorem zd_O_worth_19 : decode zb_O_worth 19 = .ok (.iload_n 2, 1) := by decide +kernel
theorem zd_O_worth_20 : decode zb_O_worth 20 = .ok (.bipush 30, 2) := by decide +kernel
theorem zd_O_worth_22 : decode zb_O_worth 22 = .ok (.if_icmp .le 7, 3) := by decide +kernel
theorem zd_O_worth_25 : decode zb_O_worth 25 = .ok (.sipush (-1001), 3) := by decide +kernel
theorem zd_O_worth_28 : decode zb_O_worth 28 = .ok (.ireturn, 1) := by decide +kernel
theorem zd_O_worth_29 : decode zb_O_worth 29 = .ok (.aload_n 0, 1) := by decide +kernel
theorem zd_O_worth_30 : decode zb_O_worth 30 = .ok (.getfield 16, 3) := by decide +kernel
theorem zd_O_worth_33 : decode zb_O_worth 33 = .ok (.getfield 94, 3) := by decide +kernel
theorem zd_O_worth_36 : decode zb_O_worth 36 = .ok (.iload_n 2, 1) := by decide +kernel
theorem zd_O_worth_37 : decode zb_O_worth 37 = .ok (.iadd, 1) := by decide +kernel
theorem zd_O_worth_38 : decode zb_O_worth 38 = .ok (.sipush 400, 3) := by decide +kernel
theorem zd_O_worth_41 : decode zb_O_worth 41 = .ok (.if_icmp .le 7, 3) := by decide +kernel
theorem zd_O_worth_44 : decode zb_O_worth 44 = .ok (.sipush (-1002), 3) := by decide +kernel
theorem zd_O_worth_47 : decode zb_O_worth 47 = .ok (.ireturn, 1) := by decide +kernel
theorem zd_O_worth_48 : decode zb_O_worth 48 = .ok (.aload_n 0, 1) := by decide +kernel
theorem zd_O_worth_49 : decode zb_O_worth 49 = .ok (.getfield 23, 3) := by decide +kernel
theorem zd_O_worth_52 : decode zb_O_worth 52 = .ok (.aload_n 0, 1) := by decide +kernel
theorem zd_O_worth_53 : decode zb_O_worth 53 = .ok (.getfield 16, 3) := by decide +kernel
theorem zd_O_worth_56 : decode zb_O_worth 56 = .ok (.invokevirtual 320, 3) := by decide +kernel
theorem zd_O_worth_59 : decode zb_O_worth 59 = .ok (.aload_n 0, 1) := by decide +kernel
theorem zd_O_worth_60 : decode zb_O_worth 60 = .ok (.iload_n 2, 1) := by decide +kernel
theorem zd_O_worth_61 : decode zb_O_worth 61 = .ok (.invokevirtual 324, 3) := by decide +kernel
theorem zd_O_worth_64 : decode zb_O_worth 64 = .ok (.istore_n 3, 1) := by decide +kernel
theorem zd_O_worth_65 : decode zb_O_worth 65 = .ok (.aload_n 0, 1) := by decide +kernel
theorem zd_O_worth_66 : decode zb_O_worth 66 = .ok (.getfield 23, 3) := by decide +kernel
theorem zd_O_worth_69 : decode zb_O_worth 69 = .ok (.aload_n 0, 1) := by decide +kernel
theorem zd_O_worth_70 : decode zb_O_worth 70 = .ok (.getfield 16, 3) := by decide +kernel
theorem zd_O_worth_73 : decode zb_O_worth 73 = .ok (.invokevirtual 320, 3) := by decide +kernel
theorem zd_O_worth_76 : decode zb_O_worth 76 = .ok (.aload_n 0, 1) := by decide +kernel
theorem zd_O_worth_77 : decode zb_O_worth 77 = .ok (.getfield 23, 3) := by decide +kernel
theorem zd_O_worth_80 : decode zb_O_worth 80 = .ok (.getfield 223, 3) := by decide +kernel
theorem zd_O_worth_83 : decode zb_O_worth 83 = .ok (.getfield 233, 3) := by decide +kernel
theorem zd_O_worth_86 : decode zb_O_worth 86 = .ok (.iload_n 1, 1) := by decide +kernel
theorem zd_O_worth_87 : decode zb_O_worth 87 = .ok (.iconst 0, 1) := by decide +kernel
theorem zd_O_worth_88 : decode zb_O_worth 88 = .ok (.iastore, 1) := by decide +kernel
theorem zd_O_worth_89 : decode zb_O_worth 89 = .ok (.iload_n 3, 1) := by decide +kernel
theorem zd_O_worth_90 : decode zb_O_worth 90 = .ok (.aload_n 0, 1) := by decide +kernel
theorem zd_O_worth_91 : decode zb_O_worth 91 = .ok (.iload_n 2, 1) := by decide +kernel
theorem zd_O_worth_92 : decode zb_O_worth 92 = .ok (.invokevirtual 324, 3) := by decide +kernel
theorem zd_O_worth_95 : decode zb_O_worth 95 = .ok (.isub, 1) := by decide +kernel
theorem zd_O_worth_96 : decode zb_O_worth 96 = .ok (.ireturn, 1) := by decide +kernel

def zf_O_worth (x1 : Int) (x2 : Int) (S : Sg) : Option (Int × Sg) :=
    zbd (zf_Q_has (0) x1 S) fun a1 S2 => if a1 = 0 then (some (-1001, S2)) else (if x2 < 1 then (some (-1001, S2)) else (if x2 ≤ 30 then (if (zw ((S2 0 0 0 0) + x2)) ≤ 400 then (zbd (zf_I_become (2) (0) S2) fun a7 S8 => zbd (zf_O_headsInMind x2 S8) fun a9 S10 => zbd (zf_I_become (2) (0) S10) fun a11 S12 => zck (0 ≤ x1 ∧ x1 < 8) <| zlt (zu S12 0 2 30 x1 0) fun S14 => zbd (zf_O_headsInMind x2 S14) fun a15 S16 => some (zw (a9 - a15), S16)) else (some (-1002, S2))) else (some (-1001, S2))))
set_option maxHeartbeats 4000000 in
set_option maxRecDepth 100000 in
theorem zw_O_worth {p : Program} {l : Launch} {e : Env} {s : State} {m : MethodId} {args : Array Value} {below : List Frame} {meth : Method} {c : Code} {B : zB} (C : CallFix p m c zb_O_worth 4 s args zT "IslandOffice") (hr : meth.sig.returnType = some .int) (hlk : meth.locks = false) (hK : zK B s) (hSt : zSt B s) (hap : zAp B) {res : Int} {S9 : Sg} : ∀ (x1 : Int) (x2 : Int) (S : Sg) (nx1 : zn x1) (nx2 : zn x2), zf_O_worth x1 x2 S = some (res, S9) → ∀ (H : Heap) (locs : List Loc) (ls : Array Slot), zW B S H → va_S B.2.2.2 s.heap H locs → lv_has ls 4 [(0, .ref (B.2.1 3 (0) (0))), (1, .int (zI (x1))), (2, .int (zI (x2)))] → W p l e zm_O_worth s m args below meth c H locs 0 0 (MQ below (zQi B res S9) args s 0 0 B.2.2.2) (F0 m 0 ls []) := by
  intro x1 x2 S nx1 nx2 hf H locs ls hW hS hl
  unfold zf_O_worth at hf
  refine lv_aload_n C.1 C.2.1 zd_O_worth_0 rfl (lv_at hl 0 rfl) ?_
  refine zg_O_now (r := 0) C hK hW (zvd_3 (by decide) (by decide)) zk_492 zd_O_worth_1 ?_
  refine zg_I_posts (r := 0) C hK hW (zvd_0 (by decide) (by decide)) zk_289 zd_O_worth_4 ?_
  refine lv_iload_n C.1 C.2.1 zd_O_worth_7 rfl (lv_at hl 1 rfl) ?_
  obtain ⟨a1, S2, ea1, hf⟩ := zbd_some hf
  refine zcVi (As := [.int (zI (x1))]) (rest := []) C hK hSt hW hS (zc_Q_has hap (0) (by decide) x1 S nx1 ea1) zq_Q_has zk_784 (zrecv hK hW (zvd_0 (by decide) (by decide)) (ze_0_26 B _ (0)) rfl) ⟨rfl, rfl, by decide, by decide⟩ ⟨Nat.zero_le _, Nat.zero_le _⟩ rfl hl.1 rfl (lv_room (Nat.le_of_ble_eq_true rfl)) zd_O_worth_8 (fun na1 H locs hW hS => ?_)
  refine zr_if_eq (tgt := 25) C na1 zd_O_worth_11 (by decide) (fun c3 => ?_) (fun c3 => ?_)
  · rw [if_pos c3] at hf
    refine zr_sipush C zd_O_worth_25 (by decide) ?_
    cases hf
    exact zre_i C hr hlk hK hW hS (znb rfl) zd_O_worth_28
  · rw [if_neg c3] at hf
    refine lv_iload_n C.1 C.2.1 zd_O_worth_14 rfl (lv_at hl 2 rfl) ?_
    refine zr_iconst C zd_O_worth_15 ?_
    refine zr_icmp_lt (tgt := 25) C nx2 (znb rfl) zd_O_worth_16 (by decide) (fun c4 => ?_) (fun c4 => ?_)
    · rw [if_pos c4] at hf
      refine zr_sipush C zd_O_worth_25 (by decide) ?_
      cases hf
      exact zre_i C hr hlk hK hW hS (znb rfl) zd_O_worth_28
    · rw [if_neg c4] at hf
      refine lv_iload_n C.1 C.2.1 zd_O_worth_19 rfl (lv_at hl 2 rfl) ?_
      refine zr_bipush C zd_O_worth_20 (by decide) ?_
      refine zr_icmp_le (tgt := 29) C nx2 (znb rfl) zd_O_worth_22 (by decide) (fun c5 => ?_) (fun c5 => ?_)
      · rw [if_pos c5] at hf
        refine lv_aload_n C.1 C.2.1 zd_O_worth_29 rfl (lv_at hl 0 rfl) ?_
        refine zg_O_now (r := 0) C hK hW (zvd_3 (by decide) (by decide)) zk_492 zd_O_worth_30 ?_
        refine zg_I_week (r := 0) C hK hW (zvd_0 (by decide) (by decide)) zk_242 zd_O_worth_33 ?_
        refine lv_iload_n C.1 C.2.1 zd_O_worth_36 rfl (lv_at hl 2 rfl) ?_
        refine zr_iadd C zd_O_worth_37 ?_
        refine zr_sipush C zd_O_worth_38 (by decide) ?_
        refine zr_icmp_le (tgt := 48) C (zn_w _) (znb rfl) zd_O_worth_41 (by decide) (fun c6 => ?_) (fun c6 => ?_)
        · rw [if_pos c6] at hf
          refine lv_aload_n C.1 C.2.1 zd_O_worth_48 rfl (lv_at hl 0 rfl) ?_
          refine zg_O_mind (r := 0) C hK hW (zvd_3 (by decide) (by decide)) zk_494 zd_O_worth_49 ?_
          refine lv_aload_n C.1 C.2.1 zd_O_worth_52 rfl (lv_at hl 0 rfl) ?_
          refine zg_O_now (r := 0) C hK hW (zvd_3 (by decide) (by decide)) zk_492 zd_O_worth_53 ?_
          obtain ⟨a7, S8, ea7, hf⟩ := zbd_some hf
          refine zcVv (As := [.ref (B.2.1 0 (0) (0))]) (rest := []) C hK hSt hW hS (zc_I_become hap (2) (0) (by decide) (by decide) S2 ea7) zq_I_become zk_1052 (zrecv hK hW (zvd_0 (by decide) (by decide)) (ze_0_0 B _ (2)) rfl) ⟨rfl, rfl, by decide, by decide⟩ ⟨Nat.zero_le _, Nat.zero_le _⟩ rfl hl.1 rfl (lv_room (Nat.le_of_ble_eq_true rfl)) zd_O_worth_56 (fun H locs hW hS => ?_)
          refine lv_aload_n C.1 C.2.1 zd_O_worth_59 rfl (lv_at hl 0 rfl) ?_
          refine lv_iload_n C.1 C.2.1 zd_O_worth_60 rfl (lv_at hl 2 rfl) ?_
          obtain ⟨a9, S10, ea9, hf⟩ := zbd_some hf
          refine zcVi (As := [.int (zI (x2))]) (rest := []) C hK hSt hW hS (zc_O_headsInMind hap x2 S8 nx2 ea9) zq_O_headsInMind zk_1081 (zrecv hK hW (zvd_3 (by decide) (by decide)) (ze_3_0 B _ (0)) rfl) ⟨rfl, rfl, by decide, by decide⟩ ⟨Nat.zero_le _, Nat.zero_le _⟩ rfl hl.1 rfl (lv_room (Nat.le_of_ble_eq_true rfl)) zd_O_worth_61 (fun na9 H locs hW hS => ?_)
          refine lv_istore_n (lv' := [(3, .int (zI (a9))), (0, .ref (B.2.1 3 (0) (0))), (1, .int (zI (x1))), (2, .int (zI (x2)))]) C.1 C.2.1 zd_O_worth_64 rfl hl (by decide) rfl (fun ls hl => ?_)
          refine lv_aload_n C.1 C.2.1 zd_O_worth_65 rfl (lv_at hl 1 rfl) ?_
          refine zg_O_mind (r := 0) C hK hW (zvd_3 (by decide) (by decide)) zk_494 zd_O_worth_66 ?_
          refine lv_aload_n C.1 C.2.1 zd_O_worth_69 rfl (lv_at hl 1 rfl) ?_
          refine zg_O_now (r := 0) C hK hW (zvd_3 (by decide) (by decide)) zk_492 zd_O_worth_70 ?_
          obtain ⟨a11, S12, ea11, hf⟩ := zbd_some hf
          refine zcVv (As := [.ref (B.2.1 0 (0) (0))]) (rest := []) C hK hSt hW hS (zc_I_become hap (2) (0) (by decide) (by decide) S10 ea11) zq_I_become zk_1052 (zrecv hK hW (zvd_0 (by decide) (by decide)) (ze_0_0 B _ (2)) rfl) ⟨rfl, rfl, by decide, by decide⟩ ⟨Nat.zero_le _, Nat.zero_le _⟩ rfl hl.1 rfl (lv_room (Nat.le_of_ble_eq_true rfl)) zd_O_worth_73 (fun H locs hW hS => ?_)
          refine lv_aload_n C.1 C.2.1 zd_O_worth_76 rfl (lv_at hl 1 rfl) ?_
          refine zg_O_mind (r := 0) C hK hW (zvd_3 (by decide) (by decide)) zk_494 zd_O_worth_77 ?_
          refine zg_I_posts (r := 2) C hK hW (zvd_0 (by decide) (by decide)) zk_289 zd_O_worth_80 ?_
          refine zg_Q_open (r := 2) C hK hW (zvd_0 (by decide) (by decide)) zk_179 zd_O_worth_83 ?_
          refine lv_iload_n C.1 C.2.1 zd_O_worth_86 rfl (lv_at hl 2 rfl) ?_
          refine zr_iconst C zd_O_worth_87 ?_
          obtain ⟨h13, hf⟩ := zck_some hf
          obtain ⟨S14, eS14, hf⟩ := zlt_some hf
          refine ziast C hK hap hW hS (zvd_0 (by decide) (by decide)) (fun f => ze_0_30 B f (2)) (by decide) rfl (znb rfl) h13 zd_O_worth_88 (fun H locs hW hS => ?_)
          rw [eS14] at hW
          refine lv_iload_n C.1 C.2.1 zd_O_worth_89 rfl (lv_at hl 0 rfl) ?_
          refine lv_aload_n C.1 C.2.1 zd_O_worth_90 rfl (lv_at hl 1 rfl) ?_
          refine lv_iload_n C.1 C.2.1 zd_O_worth_91 rfl (lv_at hl 3 rfl) ?_
          obtain ⟨a15, S16, ea15, hf⟩ := zbd_some hf
          refine zcVi (As := [.int (zI (x2))]) (rest := [.int (zI (a9))]) C hK hSt hW hS (zc_O_headsInMind hap x2 S14 nx2 ea15) zq_O_headsInMind zk_1081 (zrecv hK hW (zvd_3 (by decide) (by decide)) (ze_3_0 B _ (0)) rfl) ⟨rfl, rfl, by decide, by decide⟩ ⟨Nat.zero_le _, Nat.zero_le _⟩ rfl hl.1 rfl (lv_room (Nat.le_of_ble_eq_true rfl)) zd_O_worth_92 (fun na15 H locs hW hS => ?_)
          refine zr_isub C zd_O_worth_95 ?_
          cases hf
          exact zre_i C hr hlk hK hW hS (zn_w _) zd_O_worth_96
        · rw [if_neg c6] at hf
          refine zr_sipush C zd_O_worth_44 (by decide) ?_
          cases hf
          exact zre_i C hr hlk hK hW hS (znb rfl) zd_O_worth_47
      · rw [if_neg c5] at hf
        refine zr_sipush C zd_O_worth_25 (by decide) ?_
        cases hf
        exact zre_i C hr hlk hK hW hS (znb rfl) zd_O_worth_28

theorem zc_O_worth {l : Launch} {B : zB} (hap : zAp B) (x1 : Int) (x2 : Int) (S : Sg) (nx1 : zn x1) (nx2 : zn x2) {res : Int} {S9 : Sg} (hf : zf_O_worth x1 x2 S = some (res, S9)) : Met l zy_O_worth (Cond.code zy_O_worth zb_O_worth 4 (some .int) :: zT) zm_O_worth (zP B S [.ref (B.2.1 3 (0) (0)), .int (zI (x1)), .int (zI (x2))]) (zQi B res S9) 0 0 B.2.2.2 :=
  zmet (by decide) (Nat.le_of_ble_eq_true rfl) (fun p e s m args below meth c C hr hlk hK hSt hW ls hl => zw_O_worth C hr hlk hK hSt hap   x1 x2 S nx1 nx2 hf _ _ _ hW va_S.rf hl)
/-! IslandOffice.lackInMind(II)I -/
abbrev zy_O_lackInMind : MethodName := ⟨"IslandOffice", "lackInMind", "(II)I"⟩
abbrev zb_O_lackInMind : ByteArray := prog_1_method_57_code
abbrev zm_O_lackInMind : Room := { frames := 6, cells := 0, slots := 0, locals := 192 }
theorem zq_O_lackInMind : zMy zy_O_lackInMind zb_O_lackInMind 5 (some .int) 2 := ⟨zk_1092, zk_1091, zs_40, zk_1, by decide, by decide, by decide +kernel⟩
theorem zd_O_lackInMind_0 : decode zb_O_lackInMind 0 = .ok (.iconst 0, 1) := by decide +kernel
theorem zd_O_lackInMind_1 : decode zb_O_lackInMind 1 = .ok (.istore_n 3, 1) := by decide +kernel
theorem zd_O_lackInMind_2 : decode zb_O_lackInMind 2 = .ok (.iload_n 3, 1) := by decide +kernel
theorem zd_O_lackInMind_3 : decode zb_O_lackInMind 3 = .ok (.iload_n 2, 1) := by decide +kernel
theorem zd_O_lackInMind_4 : decode zb_O_lackInMind 4 = .ok (.if_icmp .ge 37, 3) := by decide +kernel
theorem zd_O_lackInMind_7 : decode zb_O_lackInMind 7 = .ok (.aload_n 0, 1) := by decide +kernel
theorem zd_O_lackInMind_8 : decode zb_O_lackInMind 8 = .ok (.getfield 23, 3) := by decide +kernel
theorem zd_O_lackInMind_11 : decode zb_O_lackInMind 11 = .ok (.getfield 94, 3) := by decide +kernel
theorem zd_O_lackInMind_14 : decode zb_O_lackInMind 14 = .ok (.istore 4, 2) := by decide +kernel
theorem zd_O_lackInMind_16 : decode zb_O_lackInMind 16 = .ok (.aload_n 0, 1) := by decide +kernel
theorem zd_O_lackInMind_17 : decode zb_O_lackInMind 17 = .ok (.getfield 67, 3) := by decide +kernel
theorem zd_O_lackInMind_20 : decode zb_O_lackInMind 20 = .ok (.aload_n 0, 1) := by decide +kernel
theorem zd_O_lackInMind_21 : decode zb_O_lackInMind 21 = .ok (.getfield 23, 3) := by decide +kernel
theorem zd_O_lackInMind_24 : decode zb_O_lackInMind 24 = .ok (.invokevirtual 310, 3) := by decide +kernel
theorem zd_O_lackInMind_27 : decode zb_O_lackInMind 27 = .ok (.iload_n 1, 1) := by decide +kernel
theorem zd_O_lackInMind_28 : decode zb_O_lackInMind 28 = .ok (.iand, 1) := by decide +kernel
theorem zd_O_lackInMind_29 : decode zb_O_lackInMind 29 = .ok (.ifCond .eq 6, 3) := by decide +kernel
theorem zd_O_lackInMind_32 : decode zb_O_lackInMind 32 = .ok (.iload 4, 2) := by decide +kernel
theorem zd_O_lackInMind_34 : decode zb_O_lackInMind 34 = .ok (.ireturn, 1) := by decide +kernel
theorem zd_O_lackInMind_35 : decode zb_O_lackInMind 35 = .ok (.iinc 3 1, 3) := by decide +kernel
theorem zd_O_lackInMind_38 : decode zb_O_lackInMind 38 = .ok (.goto (-36), 3) := by decide +kernel
theorem zd_O_lackInMind_41 : decode zb_O_lackInMind 41 = .ok (.ldc_w 290, 3) := by decide +kernel
theorem zd_O_lackInMind_44 : decode zb_O_lackInMind 44 = .ok (.ireturn, 1) := by decide +kernel

def zf_O_lackInMind_2 : Nat → Int → Int → Int → Sg → Option (Int × Sg)
  | 0, _, _, _, _ => none
  | n + 1, x1, x2, x3, S =>
    if x2 ≤ x3 then (some (1000000, S)) else (zlt (S 0 2 0 0) fun v2 => zbd (zf_A_pass (2) S) fun a3 S4 => if (zand a3 x1) = 0 then (zlt (zw (x3 + 1)) fun v6 => (zf_O_lackInMind_2 n) (x1) (x2) (v6) S4) else (some (v2, S4)))
set_option maxHeartbeats 4000000 in
set_option maxRecDepth 100000 in
theorem zw_O_lackInMind_2 {p : Program} {l : Launch} {e : Env} {s : State} {m : MethodId} {args : Array Value} {below : List Frame} {meth : Method} {c : Code} {B : zB} (C : CallFix p m c zb_O_lackInMind 5 s args zT "IslandOffice") (hr : meth.sig.returnType = some .int) (hlk : meth.locks = false) (hK : zK B s) (hSt : zSt B s) (hap : zAp B) {res : Int} {S9 : Sg} : ∀ n : Nat, ∀ (x1 : Int) (x2 : Int) (x3 : Int) (S : Sg) (nx1 : zn x1) (nx2 : zn x2) (nx3 : zn x3), zf_O_lackInMind_2 n x1 x2 x3 S = some (res, S9) → ∀ (H : Heap) (locs : List Loc) (ls : Array Slot), zW B S H → va_S B.2.2.2 s.heap H locs → lv_has ls 5 [(0, .ref (B.2.1 3 (0) (0))), (1, .int (zI (x1))), (2, .int (zI (x2))), (3, .int (zI (x3)))] → W p l e zm_O_lackInMind s m args below meth c H locs 0 0 (MQ below (zQi B res S9) args s 0 0 B.2.2.2) (F0 m 2 ls []) := by
  intro n
  induction n with
  | zero =>
    intro x1 x2 x3 S nx1 nx2 nx3 hf H locs ls hW hS hl
    cases hf
  | succ n ih =>
    intro x1 x2 x3 S nx1 nx2 nx3 hf H locs ls hW hS hl
    rw [zf_O_lackInMind_2] at hf
    refine lv_iload_n C.1 C.2.1 zd_O_lackInMind_2 rfl (lv_at hl 3 rfl) ?_
    refine lv_iload_n C.1 C.2.1 zd_O_lackInMind_3 rfl (lv_at hl 2 rfl) ?_
    refine zr_icmp_ge (tgt := 41) C nx3 nx2 zd_O_lackInMind_4 (by decide) (fun c1 => ?_) (fun c1 => ?_)
    · rw [if_pos c1] at hf
      refine zr_ldcw (n := 1000000) C zk_899 (by decide) zd_O_lackInMind_41 ?_
      cases hf
      exact zre_i C hr hlk hK hW hS (znb rfl) zd_O_lackInMind_44
    · rw [if_neg c1] at hf
      refine lv_aload_n C.1 C.2.1 zd_O_lackInMind_7 rfl (lv_at hl 0 rfl) ?_
      refine zg_O_mind (r := 0) C hK hW (zvd_3 (by decide) (by decide)) zk_494 zd_O_lackInMind_8 ?_
      refine zg_I_week (r := 2) C hK hW (zvd_0 (by decide) (by decide)) zk_242 zd_O_lackInMind_11 ?_
      obtain ⟨v2, ev2, hf⟩ := zlt_some hf
      have nv2 : zn v2 := by rw [← ev2]; exact (zWn hW _ _ _ _ rfl)
      rw [ev2]
      refine lv_istore (lv' := [(4, .int (zI (v2))), (0, .ref (B.2.1 3 (0) (0))), (1, .int (zI (x1))), (2, .int (zI (x2))), (3, .int (zI (x3)))]) C.1 C.2.1 zd_O_lackInMind_14 hl (by decide) rfl (fun ls hl => ?_)
      refine lv_aload_n C.1 C.2.1 zd_O_lackInMind_16 rfl (lv_at hl 1 rfl) ?_
      refine zg_O_almanac (r := 0) C hK hW (zvd_3 (by decide) (by decide)) zk_501 zd_O_lackInMind_17 ?_
      refine lv_aload_n C.1 C.2.1 zd_O_lackInMind_20 rfl (lv_at hl 1 rfl) ?_
      refine zg_O_mind (r := 0) C hK hW (zvd_3 (by decide) (by decide)) zk_494 zd_O_lackInMind_21 ?_
      obtain ⟨a3, S4, ea3, hf⟩ := zbd_some hf
      refine zcVi (As := [.ref (B.2.1 0 (2) (0))]) (rest := []) C hK hSt hW hS (zc_A_pass hap (2) (by decide) S ea3) zq_A_pass zk_934 (zrecv hK hW (zvd_3 (by decide) (by decide)) (ze_3_15 B _ (0)) rfl) ⟨rfl, rfl, by decide, by decide⟩ ⟨Nat.zero_le _, Nat.zero_le _⟩ rfl hl.1 rfl (lv_room (Nat.le_of_ble_eq_true rfl)) zd_O_lackInMind_24 (fun na3 H locs hW hS => ?_)
      refine lv_iload_n C.1 C.2.1 zd_O_lackInMind_27 rfl (lv_at hl 2 rfl) ?_
      refine zr_iand C zd_O_lackInMind_28 ?_
      refine zr_if_eq (tgt := 35) C (zn_and _ _) zd_O_lackInMind_29 (by decide) (fun c5 => ?_) (fun c5 => ?_)
      · rw [if_pos c5] at hf
        obtain ⟨v6, ev6, hf⟩ := zlt_some hf
        have nv6 : zn v6 := by rw [← ev6]; exact zn_w _
        refine lv_iinc (v := zI v6) (lv' := [(3, .int (zI (v6))), (4, .int (zI (v2))), (0, .ref (B.2.1 3 (0) (0))), (1, .int (zI (x1))), (2, .int (zI (x2)))]) C.1 C.2.1 zd_O_lackInMind_35 hl (k := 4) rfl (by rw [← ev6, ← zI_add]; rfl) (by decide) rfl (fun ls hl => ?_)
        refine lv_goto (tgt := 2) C.1 C.2.1 zd_O_lackInMind_38 (by decide) ?_
        exact ih (x1) (x2) (v6) S4 nx1 nx2 nv6 hf _ _ _ hW hS (lv_sub hl [2, 3, 4, 0] rfl)
      · rw [if_neg c5] at hf
        refine lv_iload C.1 C.2.1 zd_O_lackInMind_32 (lv_at hl 0 rfl) ?_
        cases hf
        exact zre_i C hr hlk hK hW hS nv2 zd_O_lackInMind_34

def zf_O_lackInMind (x1 : Int) (x2 : Int) (S : Sg) : Option (Int × Sg) :=
    zf_O_lackInMind_2 4096 (x1) (x2) (0) S
set_option maxHeartbeats 4000000 in
set_option maxRecDepth 100000 in
theorem zw_O_lackInMind {p : Program} {l : Launch} {e : Env} {s : State} {m : MethodId} {args : Array Value} {below : List Frame} {meth : Method} {c : Code} {B : zB} (C : CallFix p m c zb_O_lackInMind 5 s args zT "IslandOffice") (hr : meth.sig.returnType = some .int) (hlk : meth.locks = false) (hK : zK B s) (hSt : zSt B s) (hap : zAp B) {res : Int} {S9 : Sg} : ∀ (x1 : Int) (x2 : Int) (S : Sg) (nx1 : zn x1) (nx2 : zn x2), zf_O_lackInMind x1 x2 S = some (res, S9) → ∀ (H : Heap) (locs : List Loc) (ls : Array Slot), zW B S H → va_S B.2.2.2 s.heap H locs → lv_has ls 5 [(0, .ref (B.2.1 3 (0) (0))), (1, .int (zI (x1))), (2, .int (zI (x2)))] → W p l e zm_O_lackInMind s m args below meth c H locs 0 0 (MQ below (zQi B res S9) args s 0 0 B.2.2.2) (F0 m 0 ls []) := by
  intro x1 x2 S nx1 nx2 hf H locs ls hW hS hl
  unfold zf_O_lackInMind at hf
  refine zr_iconst C zd_O_lackInMind_0 ?_
  refine lv_istore_n (lv' := [(3, .int (zI (0))), (0, .ref (B.2.1 3 (0) (0))), (1, .int (zI (x1))), (2, .int (zI (x2)))]) C.1 C.2.1 zd_O_lackInMind_1 rfl hl (by decide) rfl (fun ls hl => ?_)
  exact zw_O_lackInMind_2 C hr hlk hK hSt hap   4096 (x1) (x2) (0) S nx1 nx2 (znb rfl) hf _ _ _ hW hS (lv_sub hl [1, 2, 3, 0] rfl)

theorem zc_O_lackInMind {l : Launch} {B : zB} (hap : zAp B) (x1 : Int) (x2 : Int) (S : Sg) (nx1 : zn x1) (nx2 : zn x2) {res : Int} {S9 : Sg} (hf : zf_O_lackInMind x1 x2 S = some (res, S9)) : Met l zy_O_lackInMind (Cond.code zy_O_lackInMind zb_O_lackInMind 5 (some .int) :: zT) zm_O_lackInMind (zP B S [.ref (B.2.1 3 (0) (0)), .int (zI (x1)), .int (zI (x2))]) (zQi B res S9) 0 0 B.2.2.2 :=
  zmet (by decide) (Nat.le_of_ble_eq_true rfl) (fun p e s m args below meth c C hr hlk hK hSt hW ls hl => zw_O_lackInMind C hr hlk hK hSt hap   x1 x2 S nx1 nx2 hf _ _ _ hW va_S.rf hl)
/-! IslandOffice.lack(II)I -/
abbrev zy_O_lack : MethodName := ⟨"IslandOffice", "lack", "(II)I"⟩
abbrev zb_O_lack : ByteArray := prog_1_method_35_code
abbrev zm_O_lack : Room := { frames := 7, cells := 0, slots := 0, locals := 216 }
theorem zq_O_lack : zMy zy_O_lack zb_O_lack 4 (some .int) 2 := ⟨zk_1088, zk_1086, zk_1087, zk_1, by decide, by decide, by decide +kernel⟩
theorem zd_O_lack_0 : decode zb_O_lack 0 = .ok (.iload_n 1, 1) := by decide +kernel
theorem zd_O_lack_1 : decode zb_O_lack 1 = .ok (.invokestatic 244, 3) := by decide +kernel
theorem zd_O_lack_4 : decode zb_O_lack 4 = .ok (.ifCond .eq 29, 3) := by decide +kernel
theorem zd_O_lack_7 : decode zb_O_lack 7 = .ok (.iload_n 2, 1) := by decide +kernel
theorem zd_O_lack_8 : decode zb_O_lack 8 = .ok (.iconst 1, 1) := by decide +kernel
theorem zd_O_lack_9 : decode zb_O_lack 9 = .ok (.if_icmp .lt 24, 3) := by decide +kernel
theorem zd_O_lack_12 : decode zb_O_lack 12 = .ok (.iload_n 2, 1) := by decide +kernel
theorem zd_O_lack_13 : decode zb_O_lack 13 = .ok (.bipush 30, 2) := by decide +kernel
theorem zd_O_lack_15 : decode zb_O_lack 15 = .ok (.if_icmp .gt 18, 3) := by decide +kernel
theorem zd_O_lack_18 : decode zb_O_lack 18 = .ok (.aload_n 0, 1) := by decide +kernel
theorem zd_O_lack_19 : decode zb_O_lack 19 = .ok (.getfield 16, 3) := by decide +kernel
theorem zd_O_lack_22 : decode zb_O_lack 22 = .ok (.getfield 94, 3) := by decide +kernel
theorem zd_O_lack_25 : decode zb_O_lack 25 = .ok (.iload_n 2, 1) := by decide +kernel
theorem zd_O_lack_26 : decode zb_O_lack 26 = .ok (.iadd, 1) := by decide +kernel
theorem zd_O_lack_27 : decode zb_O_lack 27 = .ok (.sipush 400, 3) := by decide +kernel
theorem zd_O_lack_30 : decode zb_O_lack 30 = .ok (.if_icmp .le 5, 3) := by decide +kernel
theorem zd_O_lack_33 : decode zb_O_lack 33 = .ok (.iconst (-1), 1) := by decide +kernel
theorem zd_O_lack_34 : decode zb_O_lack 34 = .ok (.ireturn, 1) := by decide +kernel
theorem zd_O_lack_35 : decode zb_O_lack 35 = .ok (.aload_n 0, 1) := by decide +kernel
theorem zd_O_lack_36 : decode zb_O_lack 36 = .ok (.getfield 23, 3) := by decide +kernel
theorem zd_O_lack_39 : decode zb_O_lack 39 = .ok (.aload_n 0, 1) := by decide +kernel
theorem zd_O_lack_40 : decode zb_O_lack 40 = .ok (.getfield 16, 3) := by decide +kernel
theorem zd_O_lack_43 : decode zb_O_lack 43 = .ok (.invokevirtual 320, 3) := by decide +kernel
theorem zd_O_lack_46 : decode zb_O_lack 46 = .ok (.aload_n 0, 1) := by decide +kernel
theorem zd_O_lack_47 : decode zb_O_lack 47 = .ok (.iconst 1, 1) := by decide +kernel
theorem zd_O_lack_48 : decode zb_O_lack 48 = .ok (.iload_n 1, 1) := by decide +kernel
theorem zd_O_lack_49 : decode zb_O_lack 49 = .ok (.ishl, 1) := by decide +kernel
theorem zd_O_lack_50 : decode zb_O_lack 50 = .ok (.iload_n 2, 1) := by decide +kernel
theorem zd_O_lack_51 : decode zb_O_lack 51 = .ok (.invokevirtual 327, 3) := by decide +kernel
theorem zd_O_lack_54 : decode zb_O_lack 54 = .ok (.istore_n 3, 1) := by decide +kernel
theorem zd_O_lack_55 : decode zb_O_lack 55 = .ok (.iload_n 3, 1) := by decide +kernel
theorem zd_O_lack_56 : decode zb_O_lack 56 = .ok (.ldc_w 290, 3) := by decide +kernel
theorem zd_O_lack_59 : decode zb_O_lack 59 = .ok (.if_icmp .ne 8, 3) := by decide +kernel
theorem zd_O_lack_62 : decode zb_O_lack 62 = .ok (.bipush (-2), 2) := by decide +kernel
theorem zd_O_lack_64 : decode zb_O_lack 64 = .ok (.goto 4, 3) := by decide +kernel
theorem zd_O_lack_67 : decode zb_O_lack 67 = .ok (.iload_n 3, 1) := by decide +kernel
theorem zd_O_lack_68 : decode zb_O_lack 68 = .ok (.ireturn, 1) := by decide +kernel

def zf_O_lack (x1 : Int) (x2 : Int) (S : Sg) : Option (Int × Sg) :=
    zbd (zf_O_isGood x1 S) fun a1 S2 => if a1 = 0 then (some (-1, S2)) else (if x2 < 1 then (some (-1, S2)) else (if 30 < x2 then (some (-1, S2)) else (if (zw ((S2 0 0 0 0) + x2)) ≤ 400 then (zbd (zf_I_become (2) (0) S2) fun a7 S8 => zbd (zf_O_lackInMind (zshl 1 x1) x2 S8) fun a9 S10 => if a9 = 1000000 then (some (-2, S10)) else (some (a9, S10))) else (some (-1, S2)))))
set_option maxHeartbeats 4000000 in
set_option maxRecDepth 100000 in
theorem zw_O_lack {p : Program} {l : Launch} {e : Env} {s : State} {m : MethodId} {args : Array Value} {below : List Frame} {meth : Method} {c : Code} {B : zB} (C : CallFix p m c zb_O_lack 4 s args zT "IslandOffice") (hr : meth.sig.returnType = some .int) (hlk : meth.locks = false) (hK : zK B s) (hSt : zSt B s) (hap : zAp B) {res : Int} {S9 : Sg} : ∀ (x1 : Int) (x2 : Int) (S : Sg) (nx1 : zn x1) (nx2 : zn x2), zf_O_lack x1 x2 S = some (res, S9) → ∀ (H : Heap) (locs : List Loc) (ls : Array Slot), zW B S H → va_S B.2.2.2 s.heap H locs → lv_has ls 4 [(0, .ref (B.2.1 3 (0) (0))), (1, .int (zI (x1))), (2, .int (zI (x2)))] → W p l e zm_O_lack s m args below meth c H locs 0 0 (MQ below (zQi B res S9) args s 0 0 B.2.2.2) (F0 m 0 ls []) := by
  intro x1 x2 S nx1 nx2 hf H locs ls hW hS hl
  unfold zf_O_lack at hf
  refine lv_iload_n C.1 C.2.1 zd_O_lack_0 rfl (lv_at hl 1 rfl) ?_
  obtain ⟨a1, S2, ea1, hf⟩ := zbd_some hf
  refine zcSi (As := [.int (zI (x1))]) (rest := []) C hK hSt hW hS (zc_O_isGood hap x1 S nx1 ea1) zq_O_isGood zk_861 ⟨rfl, rfl, by decide, by decide⟩ ⟨Nat.zero_le _, Nat.zero_le _⟩ rfl hl.1 rfl (lv_room (Nat.le_of_ble_eq_true rfl)) zd_O_lack_1 (fun na1 H locs hW hS => ?_)
  refine zr_if_eq (tgt := 33) C na1 zd_O_lack_4 (by decide) (fun c3 => ?_) (fun c3 => ?_)
  · rw [if_pos c3] at hf
    refine zr_iconst C zd_O_lack_33 ?_
    cases hf
    exact zre_i C hr hlk hK hW hS (znb rfl) zd_O_lack_34
  · rw [if_neg c3] at hf
    refine lv_iload_n C.1 C.2.1 zd_O_lack_7 rfl (lv_at hl 2 rfl) ?_
    refine zr_iconst C zd_O_lack_8 ?_
    refine zr_icmp_lt (tgt := 33) C nx2 (znb rfl) zd_O_lack_9 (by decide) (fun c4 => ?_) (fun c4 => ?_)
    · rw [if_pos c4] at hf
      refine zr_iconst C zd_O_lack_33 ?_
      cases hf
      exact zre_i C hr hlk hK hW hS (znb rfl) zd_O_lack_34
    · rw [if_neg c4] at hf
      refine lv_iload_n C.1 C.2.1 zd_O_lack_12 rfl (lv_at hl 2 rfl) ?_
      refine zr_bipush C zd_O_lack_13 (by decide) ?_
      refine zr_icmp_gt (tgt := 33) C nx2 (znb rfl) zd_O_lack_15 (by decide) (fun c5 => ?_) (fun c5 => ?_)
      · rw [if_pos c5] at hf
        refine zr_iconst C zd_O_lack_33 ?_
        cases hf
        exact zre_i C hr hlk hK hW hS (znb rfl) zd_O_lack_34
      · rw [if_neg c5] at hf
        refine lv_aload_n C.1 C.2.1 zd_O_lack_18 rfl (lv_at hl 0 rfl) ?_
        refine zg_O_now (r := 0) C hK hW (zvd_3 (by decide) (by decide)) zk_492 zd_O_lack_19 ?_
        refine zg_I_week (r := 0) C hK hW (zvd_0 (by decide) (by decide)) zk_242 zd_O_lack_22 ?_
        refine lv_iload_n C.1 C.2.1 zd_O_lack_25 rfl (lv_at hl 2 rfl) ?_
        refine zr_iadd C zd_O_lack_26 ?_
        refine zr_sipush C zd_O_lack_27 (by decide) ?_
        refine zr_icmp_le (tgt := 35) C (zn_w _) (znb rfl) zd_O_lack_30 (by decide) (fun c6 => ?_) (fun c6 => ?_)
        · rw [if_pos c6] at hf
          refine lv_aload_n C.1 C.2.1 zd_O_lack_35 rfl (lv_at hl 0 rfl) ?_
          refine zg_O_mind (r := 0) C hK hW (zvd_3 (by decide) (by decide)) zk_494 zd_O_lack_36 ?_
          refine lv_aload_n C.1 C.2.1 zd_O_lack_39 rfl (lv_at hl 0 rfl) ?_
          refine zg_O_now (r := 0) C hK hW (zvd_3 (by decide) (by decide)) zk_492 zd_O_lack_40 ?_
          obtain ⟨a7, S8, ea7, hf⟩ := zbd_some hf
          refine zcVv (As := [.ref (B.2.1 0 (0) (0))]) (rest := []) C hK hSt hW hS (zc_I_become hap (2) (0) (by decide) (by decide) S2 ea7) zq_I_become zk_1052 (zrecv hK hW (zvd_0 (by decide) (by decide)) (ze_0_0 B _ (2)) rfl) ⟨rfl, rfl, by decide, by decide⟩ ⟨Nat.zero_le _, Nat.zero_le _⟩ rfl hl.1 rfl (lv_room (Nat.le_of_ble_eq_true rfl)) zd_O_lack_43 (fun H locs hW hS => ?_)
          refine lv_aload_n C.1 C.2.1 zd_O_lack_46 rfl (lv_at hl 0 rfl) ?_
          refine zr_iconst C zd_O_lack_47 ?_
          refine lv_iload_n C.1 C.2.1 zd_O_lack_48 rfl (lv_at hl 1 rfl) ?_
          refine zr_ishl C zd_O_lack_49 ?_
          refine lv_iload_n C.1 C.2.1 zd_O_lack_50 rfl (lv_at hl 2 rfl) ?_
          obtain ⟨a9, S10, ea9, hf⟩ := zbd_some hf
          refine zcVi (As := [.int (zI (zshl 1 x1)), .int (zI (x2))]) (rest := []) C hK hSt hW hS (zc_O_lackInMind hap (zshl 1 x1) x2 S8 (zn_shl _ _) nx2 ea9) zq_O_lackInMind zk_1089 (zrecv hK hW (zvd_3 (by decide) (by decide)) (ze_3_0 B _ (0)) rfl) ⟨rfl, rfl, by decide, by decide⟩ ⟨Nat.zero_le _, Nat.zero_le _⟩ rfl hl.1 rfl (lv_room (Nat.le_of_ble_eq_true rfl)) zd_O_lack_51 (fun na9 H locs hW hS => ?_)
          refine lv_istore_n (lv' := [(3, .int (zI (a9))), (0, .ref (B.2.1 3 (0) (0))), (1, .int (zI (x1))), (2, .int (zI (x2)))]) C.1 C.2.1 zd_O_lack_54 rfl hl (by decide) rfl (fun ls hl => ?_)
          refine lv_iload_n C.1 C.2.1 zd_O_lack_55 rfl (lv_at hl 0 rfl) ?_
          refine zr_ldcw (n := 1000000) C zk_899 (by decide) zd_O_lack_56 ?_
          refine zr_icmp_ne (tgt := 67) C na9 (znb rfl) zd_O_lack_59 (by decide) (fun c11 => ?_) (fun c11 => ?_)
          · rw [if_neg c11] at hf
            refine lv_iload_n C.1 C.2.1 zd_O_lack_67 rfl (lv_at hl 0 rfl) ?_
            cases hf
            exact zre_i C hr hlk hK hW hS na9 zd_O_lack_68
          · rw [if_pos c11] at hf
            refine zr_bipush C zd_O_lack_62 (by decide) ?_
            refine lv_goto (tgt := 68) C.1 C.2.1 zd_O_lack_64 (by decide) ?_
            cases hf
            exact zre_i C hr hlk hK hW hS (znb rfl) zd_O_lack_68
        · rw [if_neg c6] at hf
          refine zr_iconst C zd_O_lack_33 ?_
          cases hf
          exact zre_i C hr hlk hK hW hS (znb rfl) zd_O_lack_34

theorem zc_O_lack {l : Launch} {B : zB} (hap : zAp B) (x1 : Int) (x2 : Int) (S : Sg) (nx1 : zn x1) (nx2 : zn x2) {res : Int} {S9 : Sg} (hf : zf_O_lack x1 x2 S = some (res, S9)) : Met l zy_O_lack (Cond.code zy_O_lack zb_O_lack 4 (some .int) :: zT) zm_O_lack (zP B S [.ref (B.2.1 3 (0) (0)), .int (zI (x1)), .int (zI (x2))]) (zQi B res S9) 0 0 B.2.2.2 :=
  zmet (by decide) (Nat.le_of_ble_eq_true rfl) (fun p e s m args below meth c C hr hlk hK hSt hW ls hl => zw_O_lack C hr hlk hK hSt hap   x1 x2 S nx1 nx2 hf _ _ _ hW va_S.rf hl)
/-! IslandOffice$Stores.addTens(II)V -/
abbrev zy_T_addTens : MethodName := ⟨"IslandOffice$Stores", "addTens", "(II)V"⟩
abbrev zb_T_addTens : ByteArray := prog_12_method_4_code
abbrev zm_T_addTens : Room := { frames := 1, cells := 0, slots := 0, locals := 23 }
theorem zq_T_addTens : zMy zy_T_addTens zb_T_addTens 3 (none) 2 := ⟨zk_1101, zk_1099, zk_1100, zk_7, by decide, by decide, by decide +kernel⟩
theorem zd_T_addTens_0 : decode zb_T_addTens 0 = .ok (.iload_n 2, 1) := by decide +kernel
theorem zd_T_addTens_1 : decode zb_T_addTens 1 = .ok (.ifCond .le 13, 3) := by decide +kernel
theorem zd_T_addTens_4 : decode zb_T_addTens 4 = .ok (.aload_n 0, 1) := by decide +kernel
theorem zd_T_addTens_5 : decode zb_T_addTens 5 = .ok (.iload_n 1, 1) := by decide +kernel
theorem zd_T_addTens_6 : decode zb_T_addTens 6 = .ok (.bipush 10, 2) := by decide +kernel
theorem zd_T_addTens_8 : decode zb_T_addTens 8 = .ok (.iload_n 2, 1) := by decide +kernel
theorem zd_T_addTens_9 : decode zb_T_addTens 9 = .ok (.imul, 1) := by decide +kernel
theorem zd_T_addTens_10 : decode zb_T_addTens 10 = .ok (.invokevirtual 37, 3) := by decide +kernel
theorem zd_T_addTens_13 : decode zb_T_addTens 13 = .ok (.pop, 1) := by decide +kernel
theorem zd_T_addTens_14 : decode zb_T_addTens 14 = .ok (.return_, 1) := by decide +kernel

def zf_T_addTens (r0 : Int) (x1 : Int) (x2 : Int) (S : Sg) : Option (Int × Sg) :=
    if x2 ≤ 0 then (some (0, S)) else (zbd (zf_T_addOrder (r0) x1 (zw (10 * x2)) S) fun a2 S3 => some (0, S3))
set_option maxHeartbeats 4000000 in
set_option maxRecDepth 100000 in
theorem zw_T_addTens {p : Program} {l : Launch} {e : Env} {s : State} {m : MethodId} {args : Array Value} {below : List Frame} {meth : Method} {c : Code} {B : zB} (C : CallFix p m c zb_T_addTens 3 s args zT "IslandOffice$Stores") (hr : meth.sig.returnType = none) (hlk : meth.locks = false) (hK : zK B s) (hSt : zSt B s) (hap : zAp B) (r0 : Int) (hr0 : 0 ≤ r0 ∧ r0 < 3) {res : Int} {S9 : Sg} : ∀ (x1 : Int) (x2 : Int) (S : Sg) (nx1 : zn x1) (nx2 : zn x2), zf_T_addTens r0 x1 x2 S = some (res, S9) → ∀ (H : Heap) (locs : List Loc) (ls : Array Slot), zW B S H → va_S B.2.2.2 s.heap H locs → lv_has ls 3 [(0, .ref (B.2.1 0 (r0) (31))), (1, .int (zI (x1))), (2, .int (zI (x2)))] → W p l e zm_T_addTens s m args below meth c H locs 0 0 (MQ below (zQv B S9) args s 0 0 B.2.2.2) (F0 m 0 ls []) := by
  intro x1 x2 S nx1 nx2 hf H locs ls hW hS hl
  unfold zf_T_addTens at hf
  refine lv_iload_n C.1 C.2.1 zd_T_addTens_0 rfl (lv_at hl 2 rfl) ?_
  refine zr_if_le (tgt := 14) C nx2 zd_T_addTens_1 (by decide) (fun c1 => ?_) (fun c1 => ?_)
  · rw [if_pos c1] at hf
    cases hf
    exact zre_v C hr hlk hK hW hS zd_T_addTens_14
  · rw [if_neg c1] at hf
    refine lv_aload_n C.1 C.2.1 zd_T_addTens_4 rfl (lv_at hl 0 rfl) ?_
    refine lv_iload_n C.1 C.2.1 zd_T_addTens_5 rfl (lv_at hl 1 rfl) ?_
    refine zr_bipush C zd_T_addTens_6 (by decide) ?_
    refine lv_iload_n C.1 C.2.1 zd_T_addTens_8 rfl (lv_at hl 2 rfl) ?_
    refine zr_imul C zd_T_addTens_9 ?_
    obtain ⟨a2, S3, ea2, hf⟩ := zbd_some hf
    refine zcVi (As := [.int (zI (x1)), .int (zI (zw (10 * x2)))]) (rest := []) C hK hSt hW hS (zc_T_addOrder hap (r0) hr0 x1 (zw (10 * x2)) S nx1 (zn_w _) ea2) zq_T_addOrder zk_1102 (zrecv hK hW (zvd_0 hr0 (by decide)) (ze_0_31 B _ (r0)) rfl) ⟨rfl, rfl, by decide, by decide⟩ ⟨Nat.zero_le _, Nat.zero_le _⟩ rfl hl.1 rfl (lv_room (Nat.le_of_ble_eq_true rfl)) zd_T_addTens_10 (fun na2 H locs hW hS => ?_)
    refine lv_pop C.1 C.2.1 zd_T_addTens_13 rfl ?_
    cases hf
    exact zre_v C hr hlk hK hW hS zd_T_addTens_14

theorem zc_T_addTens {l : Launch} {B : zB} (hap : zAp B) (r0 : Int) (hr0 : 0 ≤ r0 ∧ r0 < 3) (x1 : Int) (x2 : Int) (S : Sg) (nx1 : zn x1) (nx2 : zn x2) {res : Int} {S9 : Sg} (hf : zf_T_addTens r0 x1 x2 S = some (res, S9)) : Met l zy_T_addTens (Cond.code zy_T_addTens zb_T_addTens 3 (none) :: zT) zm_T_addTens (zP B S [.ref (B.2.1 0 (r0) (31)), .int (zI (x1)), .int (zI (x2))]) (zQv B S9) 0 0 B.2.2.2 :=
  zmet (by decide) (Nat.le_of_ble_eq_true rfl) (fun p e s m args below meth c C hr hlk hK hSt hW ls hl => zw_T_addTens C hr hlk hK hSt hap r0 hr0 x1 x2 S nx1 nx2 hf _ _ _ hW va_S.rf hl)
/-! IslandOffice.plan()I -/
abbrev zy_O_plan : MethodName := ⟨"IslandOffice", "plan", "()I"⟩
abbrev zb_O_plan : ByteArray := prog_1_method_36_code
abbrev zm_O_plan : Room := { frames := 7, cells := 0, slots := 0, locals := 216 }
theorem zq_O_plan : zMy zy_O_plan zb_O_plan 7 (some .int) 0 := ⟨zk_1096, zk_1094, zk_1095, zk_1, by decide, by decide, by decide +kernel⟩
theorem zd_O_plan_0 : decode zb_O_plan 0 = .ok (.aload_n 0, 1) := by decide +kernel
theorem zd_O_plan_1 : decode zb_O_plan 1 = .ok (.getfield 16, 3) := by decide +kernel
theorem zd_O_plan_4 : decode zb_O_plan 4 = .ok (.getfield 247, 3) := by decide +kernel
theorem zd_O_plan_7 : decode zb_O_plan 7 = .ok (.getfield 265, 3) := by decide +kernel
theorem zd_O_plan_10 : decode zb_O_plan 10 = .ok (.bipush 28, 2) := by decide +kernel
theorem zd_O_plan_12 : decode zb_O_plan 12 = .ok (.if_icmp .le 6, 3) := by decide +kernel
theorem zd_O_plan_15 : decode zb_O_plan 15 = .ok (.bipush (-2), 2) := by decide +kernel
theorem zd_O_plan_17 : decode zb_O_plan 17 = .ok (.ireturn, 1) := by decide +kernel
theorem zd_O_plan_18 : decode zb_O_plan 18 = .ok (.aload_n 0, 1) := by decide +kernel
theorem zd_O_plan_19 : decode zb_O_plan 19 = .ok (.getfield 16, 3) := by decide +kernel
theorem zd_O_plan_22 : decode zb_O_plan 22 = .ok (.getfield 94, 3) := by decide +kernel
theorem zd_O_plan_25 : decode zb_O_plan 25 = .ok (.bipush 16, 2) := by decide +kernel
theorem zd_O_plan_27 : decode zb_O_plan 27 = .ok (.iadd, 1) := by decide +kernel
theorem zd_O_plan_28 : decode zb_O_plan 28 = .ok (.sipush 400, 3) := by decide +kernel
theorem zd_O_plan_31 : decode zb_O_plan 31 = .ok (.if_icmp .le 6, 3) := by decide +kernel
theorem zd_O_plan_34 : decode zb_O_plan 34 = .ok (.bipush (-3), 2) := by decide +kernel
theorem zd_O_plan_36 : decode zb_O_plan 36 = .ok (.ireturn, 1) := by decide +kernel
theorem zd_O_plan_37 : decode zb_O_plan 37 = .ok (.iconst (-1), 1) := by decide +kernel
theorem zd_O_plan_38 : decode zb_O_plan 38 = .ok (.istore_n 1, 1) := by decide +kernel
theorem zd_O_plan_39 : decode zb_O_plan 39 = .ok (.iconst 0, 1) := by decide +kernel
theorem zd_O_plan_40 : decode zb_O_plan 40 = .ok (.istore_n 2, 1) := by decide +kernel
theorem zd_O_plan_41 : decode zb_O_plan 41 = .ok (.iconst 0, 1) := by decide +kernel
theorem zd_O_plan_42 : decode zb_O_plan 42 = .ok (.istore_n 3, 1) := by decide +kernel
theorem zd_O_plan_43 : decode zb_O_plan 43 = .ok (.iload_n 3, 1) := by decide +kernel
theorem zd_O_plan_44 : decode zb_O_plan 44 = .ok (.bipush 20, 2) := by decide +kernel
theorem zd_O_plan_46 : decode zb_O_plan 46 = .ok (.if_icmp .gt 122, 3) := by decide +kernel
theorem zd_O_plan_49 : decode zb_O_plan 49 = .ok (.iload_n 1, 1) := by decide +kernel
theorem zd_O_plan_50 : decode zb_O_plan 50 = .ok (.ldc_w 290, 3) := by decide +kernel
theorem zd_O_plan_53 : decode zb_O_plan 53 = .ok (.if_icmp .eq 115, 3) := by decide +kernel
theorem zd_O_plan_56 : decode zb_O_plan 56 = .ok (.iload_n 3, 1) := by decide +kernel
theorem zd_O_plan_57 : decode zb_O_plan 57 = .ok (.bipush 10, 2) := by decide +kernel
theorem zd_O_plan_59 : decode zb_O_plan 59 = .ok (.invokestatic 330, 3) := by decide +kernel
theorem zd_O_plan_62 : decode zb_O_plan 62 = .ok (.istore 4, 2) := by decide +kernel
theorem zd_O_plan_64 : decode zb_O_plan 64 = .ok (.iload_n 3, 1) := by decide +kernel
theorem zd_O_plan_65 : decode zb_O_plan 65 = .ok (.iload_n 3, 1) := by decide +kernel
theorem zd_O_plan_66 : decode zb_O_plan 66 = .ok (.bipush 10, 2) := by decide +kernel
theorem zd_O_plan_68 : decode zb_O_plan 68 = .ok (.invokestatic 330, 3) := by decide +kernel
theorem zd_O_plan_71 : decode zb_O_plan 71 = .ok (.isub, 1) := by decide +kernel
theorem zd_O_plan_72 : decode zb_O_plan 72 = .ok (.istore 5, 2) := by decide +kernel
theorem zd_O_plan_74 : decode zb_O_plan 74 = .ok (.iload 5, 2) := by decide +kernel
theorem zd_O_plan_76 : decode zb_O_plan 76 = .ok (.iload 4, 2) := by decide +kernel
theorem zd_O_plan_78 : decode zb_O_plan 78 = .ok (.if_icmp .gt 84, 3) := by decide +kernel
theorem zd_O_plan_81 : decode zb_O_plan 81 = .ok (.iload_n 1, 1) := by decide +kernel
theorem zd_O_plan_82 : decode zb_O_plan 82 = .ok (.ldc_w 290, 3) := by decide +kernel
theorem zd_O_plan_85 : decode zb_O_plan 85 = .ok (.if_icmp .eq 77, 3) := by decide +kernel
theorem zd_O_plan_88 : decode zb_O_plan 88 = .ok (.aload_n 0, 1) := by decide +kernel
theorem zd_O_plan_89 : decode zb_O_plan 89 = .ok (.getfield 23, 3) := by decide +kernel
theorem zd_O_plan_92 : decode zb_O_plan 92 = .ok (.aload_n 0, 1) := by decide +kernel
theorem zd_O_plan_93 : decode zb_O_plan 93 = .ok (.getfield 16, 3) := by decide +kernel
theorem zd_O_plan_96 : decode zb_O_plan 96 = .ok (.invokevirtual 320, 3) := by decide +kernel
theorem zd_O_plan_99 : decode zb_O_plan 99 = .ok (.aload_n 0, 1) := by decide +kernel
theorem zd_O_plan_100 : decode zb_O_plan 100 = .ok (.getfield 23, 3) := by decide +kernel
theorem zd_O_plan_103 : decode zb_O_plan 103 = .ok (.getfield 247, 3) := by decide +kernel
theorem zd_O_plan_106 : decode zb_O_plan 106 = .ok (.iconst 0, 1) := by decide +kernel
theorem zd_O_plan_107 : decode zb_O_plan 107 = .ok (.iload 5, 2) := by decide +kernel
theorem zd_O_plan_109 : decode zb_O_plan 109 = .ok (.invokevirtual 335, 3) := by decide +kernel
theorem zd_O_plan_112 : decode zb_O_plan 112 = .ok (.aload_n 0, 1) := by decide +kernel
theorem zd_O_plan_113 : decode zb_O_plan 113 = .ok (.getfield 23, 3) := by decide +kernel
theorem zd_O_plan_116 : decode zb_O_plan 116 = .ok (.getfield 247, 3) := by decide +kernel
theorem zd_O_plan_119 : decode zb_O_plan 119 = .ok (.iconst 1, 1) := by decide +kernel
theorem zd_O_plan_120 : decode zb_O_plan 120 = .ok (.iload_n 3, 1) := by decide +kernel
theorem zd_O_plan_121 : decode zb_O_plan 121 = .ok (.iload 5, 2) := by decide +kernel
theorem zd_O_plan_123 : decode zb_O_plan 123 = .ok (.isub, 1) := by decide +kernel
theorem zd_O_plan_124 : decode zb_O_plan 124 = .ok (.invokevirtual 335, 3) := by decide +kernel
theorem zd_O_plan_127 : decode zb_O_plan 127 = .ok (.aload_n 0, 1) := by decide +kernel
theorem zd_O_plan_128 : decode zb_O_plan 128 = .ok (.iconst 3, 1) := by decide +kernel
theorem zd_O_plan_129 : decode zb_O_plan 129 = .ok (.bipush 16, 2) := by decide +kernel
theorem zd_O_plan_131 : decode zb_O_plan 131 = .ok (.invokevirtual 327, 3) := by decide +kernel
theorem zd_O_plan_134 : decode zb_O_plan 134 = .ok (.istore 6, 2) := by decide +kernel
theorem zd_O_plan_136 : decode zb_O_plan 136 = .ok (.iload 6, 2) := by decide +kernel
theorem zd_O_plan_138 : decode zb_O_plan 138 = .ok (.iload_n 1, 1) := by decide +kernel
theorem zd_O_plan_139 : decode zb_O_plan 139 = .ok (.if_icmp .le 17, 3) := by decide +kernel
theorem zd_O_plan_142 : decode zb_O_plan 142 = .ok (.iload 6, 2) := by decide +kernel
theorem zd_O_plan_144 : decode zb_O_plan 144 = .ok (.istore_n 1, 1) := by decide +kernel
theorem zd_O_plan_145 : decode zb_O_plan 145 = .ok (.bipush 100, 2) := by decide +kernel
theorem zd_O_plan_147 : decode zb_O_plan 147 = .ok (.iload 5, 2) := by decide +kernel
theorem zd_O_plan_149 : decode zb_O_plan 149 = .ok (.imul, 1) := by decide +kernel
theorem zd_O_plan_150 : decode zb_O_plan 150 = .ok (.iload_n 3, 1) := by decide +kernel
theorem zd_O_plan_151 : decode zb_O_plan 151 = .ok (.iadd, 1) := by decide +kernel
theorem zd_O_plan_152 : decode zb_O_plan 152 = .ok (.iload 5, 2) := by decide +kernel
theorem zd_O_plan_154 : decode zb_O_plan 154 = .ok (.isub, 1) := by decide +kernel
theorem zd_O_plan_155 : decode zb_O_plan 155 = .ok (.istore_n 2, 1) := by decide +kernel
theorem zd_O_plan_156 : decode zb_O_plan 156 = .ok (.iinc 5 1, 3) := by decide +kernel
theorem zd_O_plan_159 : decode zb_O_plan 159 = .ok (.goto (-85), 3) := by decide +kernel
theorem zd_O_plan_162 : decode zb_O_plan 162 = .ok (.iinc 3 1, 3) := by decide +kernel
theorem zd_O_plan_165 : decode zb_O_plan 165 = .ok (.goto (-122), 3) := by decide +kernel
theorem zd_O_plan_168 : decode zb_O_plan 168 = .ok (.iload_n 2, 1) := by decide +kernel
theorem zd_O_plan_169 : decode zb_O_plan 169 = .ok (.ireturn, 1) := by decide +kernel

def zf_O_plan_162 (q43 : Int → Int → Int → Sg → Option (Int × Sg)) (x1 : Int) (x2 : Int) (x3 : Int) (S : Sg) : Option (Int × Sg) :=
    zlt (zw (x3 + 1)) fun v1 => q43 (x1) (x2) (v1) S
set_option maxHeartbeats 4000000 in
set_option maxRecDepth 100000 in
theorem zw_O_plan_162 {p : Program} {l : Launch} {e : Env} {s : State} {m : MethodId} {args : Array Value} {below : List Frame} {meth : Method} {c : Code} {B : zB} (C : CallFix p m c zb_O_plan 7 s args zT "IslandOffice") (hr : meth.sig.returnType = some .int) (hlk : meth.locks = false) (hK : zK B s) (hSt : zSt B s) (hap : zAp B) {res : Int} {S9 : Sg} (q43 : Int → Int → Int → Sg → Option (Int × Sg)) (hq43 : ∀ (x1 : Int) (x2 : Int) (x3 : Int) (S : Sg) (nx1 : zn x1) (nx2 : zn x2) (nx3 : zn x3), q43 x1 x2 x3 S = some (res, S9) → ∀ (H : Heap) (locs : List Loc) (ls : Array Slot), zW B S H → va_S B.2.2.2 s.heap H locs → lv_has ls 7 [(0, .ref (B.2.1 3 (0) (0))), (1, .int (zI (x1))), (2, .int (zI (x2))), (3, .int (zI (x3)))] → W p l e zm_O_plan s m args below meth c H locs 0 0 (MQ below (zQi B res S9) args s 0 0 B.2.2.2) (F0 m 43 ls [])) : ∀ (x1 : Int) (x2 : Int) (x3 : Int) (S : Sg) (nx1 : zn x1) (nx2 : zn x2) (nx3 : zn x3), zf_O_plan_162 q43 x1 x2 x3 S = some (res, S9) → ∀ (H : Heap) (locs : List Loc) (ls : Array Slot), zW B S H → va_S B.2.2.2 s.heap H locs → lv_has ls 7 [(0, .ref (B.2.1 3 (0) (0))), (1, .int (zI (x1))), (2, .int (zI (x2))), (3, .int (zI (x3)))] → W p l e zm_O_plan s m args below meth c H locs 0 0 (MQ below (zQi B res S9) args s 0 0 B.2.2.2) (F0 m 162 ls []) := by
  intro x1 x2 x3 S nx1 nx2 nx3 hf H locs ls hW hS hl
  unfold zf_O_plan_162 at hf
  obtain ⟨v1, ev1, hf⟩ := zlt_some hf
  have nv1 : zn v1 := by rw [← ev1]; exact zn_w _
  refine lv_iinc (v := zI v1) (lv' := [(3, .int (zI (v1))), (0, .ref (B.2.1 3 (0) (0))), (1, .int (zI (x1))), (2, .int (zI (x2)))]) C.1 C.2.1 zd_O_plan_162 hl (k := 3) rfl (by rw [← ev1, ← zI_add]; rfl) (by decide) rfl (fun ls hl => ?_)
  refine lv_goto (tgt := 43) C.1 C.2.1 zd_O_plan_165 (by decide) ?_
  exact hq43 (x1) (x2) (v1) S nx1 nx2 nv1 hf _ _ _ hW hS (lv_sub hl [1, 2, 3, 0] rfl)

def zf_O_plan_156 (q43 : Int → Int → Int → Sg → Option (Int × Sg)) (q74 : Int → Int → Int → Int → Int → Sg → Option (Int × Sg)) (x1 : Int) (x2 : Int) (x3 : Int) (x4 : Int) (x5 : Int) (S : Sg) : Option (Int × Sg) :=
    zlt (zw (x5 + 1)) fun v1 => q74 (x1) (x2) (x3) (x4) (v1) S
set_option maxHeartbeats 4000000 in
set_option maxRecDepth 100000 in
theorem zw_O_plan_156 {p : Program} {l : Launch} {e : Env} {s : State} {m : MethodId} {args : Array Value} {below : List Frame} {meth : Method} {c : Code} {B : zB} (C : CallFix p m c zb_O_plan 7 s args zT "IslandOffice") (hr : meth.sig.returnType = some .int) (hlk : meth.locks = false) (hK : zK B s) (hSt : zSt B s) (hap : zAp B) {res : Int} {S9 : Sg} (q43 : Int → Int → Int → Sg → Option (Int × Sg)) (hq43 : ∀ (x1 : Int) (x2 : Int) (x3 : Int) (S : Sg) (nx1 : zn x1) (nx2 : zn x2) (nx3 : zn x3), q43 x1 x2 x3 S = some (res, S9) → ∀ (H : Heap) (locs : List Loc) (ls : Array Slot), zW B S H → va_S B.2.2.2 s.heap H locs → lv_has ls 7 [(0, .ref (B.2.1 3 (0) (0))), (1, .int (zI (x1))), (2, .int (zI (x2))), (3, .int (zI (x3)))] → W p l e zm_O_plan s m args below meth c H locs 0 0 (MQ below (zQi B res S9) args s 0 0 B.2.2.2) (F0 m 43 ls [])) (q74 : Int → Int → Int → Int → Int → Sg → Option (Int × Sg)) (hq74 : ∀ (x1 : Int) (x2 : Int) (x3 : Int) (x4 : Int) (x5 : Int) (S : Sg) (nx1 : zn x1) (nx2 : zn x2) (nx3 : zn x3) (nx4 : zn x4) (nx5 : zn x5), q74 x1 x2 x3 x4 x5 S = some (res, S9) → ∀ (H : Heap) (locs : List Loc) (ls : Array Slot), zW B S H → va_S B.2.2.2 s.heap H locs → lv_has ls 7 [(0, .ref (B.2.1 3 (0) (0))), (1, .int (zI (x1))), (2, .int (zI (x2))), (3, .int (zI (x3))), (4, .int (zI (x4))), (5, .int (zI (x5)))] → W p l e zm_O_plan s m args below meth c H locs 0 0 (MQ below (zQi B res S9) args s 0 0 B.2.2.2) (F0 m 74 ls [])) : ∀ (x1 : Int) (x2 : Int) (x3 : Int) (x4 : Int) (x5 : Int) (S : Sg) (nx1 : zn x1) (nx2 : zn x2) (nx3 : zn x3) (nx4 : zn x4) (nx5 : zn x5), zf_O_plan_156 q43 q74 x1 x2 x3 x4 x5 S = some (res, S9) → ∀ (H : Heap) (locs : List Loc) (ls : Array Slot), zW B S H → va_S B.2.2.2 s.heap H locs → lv_has ls 7 [(0, .ref (B.2.1 3 (0) (0))), (1, .int (zI (x1))), (2, .int (zI (x2))), (3, .int (zI (x3))), (4, .int (zI (x4))), (5, .int (zI (x5)))] → W p l e zm_O_plan s m args below meth c H locs 0 0 (MQ below (zQi B res S9) args s 0 0 B.2.2.2) (F0 m 156 ls []) := by
  intro x1 x2 x3 x4 x5 S nx1 nx2 nx3 nx4 nx5 hf H locs ls hW hS hl
  unfold zf_O_plan_156 at hf
  obtain ⟨v1, ev1, hf⟩ := zlt_some hf
  have nv1 : zn v1 := by rw [← ev1]; exact zn_w _
  refine lv_iinc (v := zI v1) (lv' := [(5, .int (zI (v1))), (0, .ref (B.2.1 3 (0) (0))), (1, .int (zI (x1))), (2, .int (zI (x2))), (3, .int (zI (x3))), (4, .int (zI (x4)))]) C.1 C.2.1 zd_O_plan_156 hl (k := 5) rfl (by rw [← ev1, ← zI_add]; rfl) (by decide) rfl (fun ls hl => ?_)
  refine lv_goto (tgt := 74) C.1 C.2.1 zd_O_plan_159 (by decide) ?_
  exact hq74 (x1) (x2) (x3) (x4) (v1) S nx1 nx2 nx3 nx4 nv1 hf _ _ _ hW hS (lv_sub hl [1, 2, 3, 4, 5, 0] rfl)

def zf_O_plan_74 (q43 : Int → Int → Int → Sg → Option (Int × Sg)) : Nat → Int → Int → Int → Int → Int → Sg → Option (Int × Sg)
  | 0, _, _, _, _, _, _ => none
  | n + 1, x1, x2, x3, x4, x5, S =>
    if x4 < x5 then (zf_O_plan_162 q43 (x1) (x2) (x3) S) else (if x1 = 1000000 then (zf_O_plan_162 q43 (x1) (x2) (x3) S) else (zbd (zf_I_become (2) (0) S) fun a3 S4 => zbd (zf_T_addTens (2) 0 x5 S4) fun a5 S6 => zbd (zf_T_addTens (2) 1 (zw (x3 - x5)) S6) fun a7 S8 => zbd (zf_O_lackInMind 3 16 S8) fun a9 S10 => if a9 ≤ x1 then (zf_O_plan_156 q43 (zf_O_plan_74 q43 n) (x1) (x2) (x3) (x4) (x5) S10) else (zlt (zw ((zw ((zw (100 * x5)) + x3)) - x5)) fun v12 => zf_O_plan_156 q43 (zf_O_plan_74 q43 n) (a9) (v12) (x3) (x4) (x5) S10)))
set_option maxHeartbeats 4000000 in
set_option maxRecDepth 100000 in
theorem zw_O_plan_74 {p : Program} {l : Launch} {e : Env} {s : State} {m : MethodId} {args : Array Value} {below : List Frame} {meth : Method} {c : Code} {B : zB} (C : CallFix p m c zb_O_plan 7 s args zT "IslandOffice") (hr : meth.sig.returnType = some .int) (hlk : meth.locks = false) (hK : zK B s) (hSt : zSt B s) (hap : zAp B) {res : Int} {S9 : Sg} (q43 : Int → Int → Int → Sg → Option (Int × Sg)) (hq43 : ∀ (x1 : Int) (x2 : Int) (x3 : Int) (S : Sg) (nx1 : zn x1) (nx2 : zn x2) (nx3 : zn x3), q43 x1 x2 x3 S = some (res, S9) → ∀ (H : Heap) (locs : List Loc) (ls : Array Slot), zW B S H → va_S B.2.2.2 s.heap H locs → lv_has ls 7 [(0, .ref (B.2.1 3 (0) (0))), (1, .int (zI (x1))), (2, .int (zI (x2))), (3, .int (zI (x3)))] → W p l e zm_O_plan s m args below meth c H locs 0 0 (MQ below (zQi B res S9) args s 0 0 B.2.2.2) (F0 m 43 ls [])) : ∀ n : Nat, ∀ (x1 : Int) (x2 : Int) (x3 : Int) (x4 : Int) (x5 : Int) (S : Sg) (nx1 : zn x1) (nx2 : zn x2) (nx3 : zn x3) (nx4 : zn x4) (nx5 : zn x5), zf_O_plan_74 q43 n x1 x2 x3 x4 x5 S = some (res, S9) → ∀ (H : Heap) (locs : List Loc) (ls : Array Slot), zW B S H → va_S B.2.2.2 s.heap H locs → lv_has ls 7 [(0, .ref (B.2.1 3 (0) (0))), (1, .int (zI (x1))), (2, .int (zI (x2))), (3, .int (zI (x3))), (4, .int (zI (x4))), (5, .int (zI (x5)))] → W p l e zm_O_plan s m args below meth c H locs 0 0 (MQ below (zQi B res S9) args s 0 0 B.2.2.2) (F0 m 74 ls []) := by
  intro n
  induction n with
  | zero =>
    intro x1 x2 x3 x4 x5 S nx1 nx2 nx3 nx4 nx5 hf H locs ls hW hS hl
    cases hf
  | succ n ih =>
    intro x1 x2 x3 x4 x5 S nx1 nx2 nx3 nx4 nx5 hf H locs ls hW hS hl
    rw [zf_O_plan_74] at hf
    refine lv_iload C.1 C.2.1 zd_O_plan_74 (lv_at hl 5 rfl) ?_
    refine lv_iload C.1 C.2.1 zd_O_plan_76 (lv_at hl 4 rfl) ?_
    refine zr_icmp_gt (tgt := 162) C nx5 nx4 zd_O_plan_78 (by decide) (fun c1 => ?_) (fun c1 => ?_)
    · rw [if_pos c1] at hf
      exact zw_O_plan_162 C hr hlk hK hSt hap   q43 hq43 (x1) (x2) (x3) S nx1 nx2 nx3 hf _ _ _ hW hS (lv_sub hl [0, 1, 2, 3] rfl)
    · rw [if_neg c1] at hf
      refine lv_iload_n C.1 C.2.1 zd_O_plan_81 rfl (lv_at hl 1 rfl) ?_
      refine zr_ldcw (n := 1000000) C zk_899 (by decide) zd_O_plan_82 ?_
      refine zr_icmp_eq (tgt := 162) C nx1 (znb rfl) zd_O_plan_85 (by decide) (fun c2 => ?_) (fun c2 => ?_)
      · rw [if_pos c2] at hf
        exact zw_O_plan_162 C hr hlk hK hSt hap   q43 hq43 (x1) (x2) (x3) S nx1 nx2 nx3 hf _ _ _ hW hS (lv_sub hl [0, 1, 2, 3] rfl)
      · rw [if_neg c2] at hf
        refine lv_aload_n C.1 C.2.1 zd_O_plan_88 rfl (lv_at hl 0 rfl) ?_
        refine zg_O_mind (r := 0) C hK hW (zvd_3 (by decide) (by decide)) zk_494 zd_O_plan_89 ?_
        refine lv_aload_n C.1 C.2.1 zd_O_plan_92 rfl (lv_at hl 0 rfl) ?_
        refine zg_O_now (r := 0) C hK hW (zvd_3 (by decide) (by decide)) zk_492 zd_O_plan_93 ?_
        obtain ⟨a3, S4, ea3, hf⟩ := zbd_some hf
        refine zcVv (As := [.ref (B.2.1 0 (0) (0))]) (rest := []) C hK hSt hW hS (zc_I_become hap (2) (0) (by decide) (by decide) S ea3) zq_I_become zk_1052 (zrecv hK hW (zvd_0 (by decide) (by decide)) (ze_0_0 B _ (2)) rfl) ⟨rfl, rfl, by decide, by decide⟩ ⟨Nat.zero_le _, Nat.zero_le _⟩ rfl hl.1 rfl (lv_room (Nat.le_of_ble_eq_true rfl)) zd_O_plan_96 (fun H locs hW hS => ?_)
        refine lv_aload_n C.1 C.2.1 zd_O_plan_99 rfl (lv_at hl 0 rfl) ?_
        refine zg_O_mind (r := 0) C hK hW (zvd_3 (by decide) (by decide)) zk_494 zd_O_plan_100 ?_
        refine zg_I_stores (r := 2) C hK hW (zvd_0 (by decide) (by decide)) zk_292 zd_O_plan_103 ?_
        refine zr_iconst C zd_O_plan_106 ?_
        refine lv_iload C.1 C.2.1 zd_O_plan_107 (lv_at hl 5 rfl) ?_
        obtain ⟨a5, S6, ea5, hf⟩ := zbd_some hf
        refine zcVv (As := [.int (zI (0)), .int (zI (x5))]) (rest := []) C hK hSt hW hS (zc_T_addTens hap (2) (by decide) 0 x5 S4 (znb rfl) nx5 ea5) zq_T_addTens zk_1098 (zrecv hK hW (zvd_0 (by decide) (by decide)) (ze_0_31 B _ (2)) rfl) ⟨rfl, rfl, by decide, by decide⟩ ⟨Nat.zero_le _, Nat.zero_le _⟩ rfl hl.1 rfl (lv_room (Nat.le_of_ble_eq_true rfl)) zd_O_plan_109 (fun H locs hW hS => ?_)
        refine lv_aload_n C.1 C.2.1 zd_O_plan_112 rfl (lv_at hl 0 rfl) ?_
        refine zg_O_mind (r := 0) C hK hW (zvd_3 (by decide) (by decide)) zk_494 zd_O_plan_113 ?_
        refine zg_I_stores (r := 2) C hK hW (zvd_0 (by decide) (by decide)) zk_292 zd_O_plan_116 ?_
        refine zr_iconst C zd_O_plan_119 ?_
        refine lv_iload_n C.1 C.2.1 zd_O_plan_120 rfl (lv_at hl 3 rfl) ?_
        refine lv_iload C.1 C.2.1 zd_O_plan_121 (lv_at hl 5 rfl) ?_
        refine zr_isub C zd_O_plan_123 ?_
        obtain ⟨a7, S8, ea7, hf⟩ := zbd_some hf
        refine zcVv (As := [.int (zI (1)), .int (zI (zw (x3 - x5)))]) (rest := []) C hK hSt hW hS (zc_T_addTens hap (2) (by decide) 1 (zw (x3 - x5)) S6 (znb rfl) (zn_w _) ea7) zq_T_addTens zk_1098 (zrecv hK hW (zvd_0 (by decide) (by decide)) (ze_0_31 B _ (2)) rfl) ⟨rfl, rfl, by decide, by decide⟩ ⟨Nat.zero_le _, Nat.zero_le _⟩ rfl hl.1 rfl (lv_room (Nat.le_of_ble_eq_true rfl)) zd_O_plan_124 (fun H locs hW hS => ?_)
        refine lv_aload_n C.1 C.2.1 zd_O_plan_127 rfl (lv_at hl 0 rfl) ?_
        refine zr_iconst C zd_O_plan_128 ?_
        refine zr_bipush C zd_O_plan_129 (by decide) ?_
        obtain ⟨a9, S10, ea9, hf⟩ := zbd_some hf
        refine zcVi (As := [.int (zI (3)), .int (zI (16))]) (rest := []) C hK hSt hW hS (zc_O_lackInMind hap 3 16 S8 (znb rfl) (znb rfl) ea9) zq_O_lackInMind zk_1089 (zrecv hK hW (zvd_3 (by decide) (by decide)) (ze_3_0 B _ (0)) rfl) ⟨rfl, rfl, by decide, by decide⟩ ⟨Nat.zero_le _, Nat.zero_le _⟩ rfl hl.1 rfl (lv_room (Nat.le_of_ble_eq_true rfl)) zd_O_plan_131 (fun na9 H locs hW hS => ?_)
        refine lv_istore (lv' := [(6, .int (zI (a9))), (0, .ref (B.2.1 3 (0) (0))), (1, .int (zI (x1))), (2, .int (zI (x2))), (3, .int (zI (x3))), (4, .int (zI (x4))), (5, .int (zI (x5)))]) C.1 C.2.1 zd_O_plan_134 hl (by decide) rfl (fun ls hl => ?_)
        refine lv_iload C.1 C.2.1 zd_O_plan_136 (lv_at hl 0 rfl) ?_
        refine lv_iload_n C.1 C.2.1 zd_O_plan_138 rfl (lv_at hl 2 rfl) ?_
        refine zr_icmp_le (tgt := 156) C na9 nx1 zd_O_plan_139 (by decide) (fun c11 => ?_) (fun c11 => ?_)
        · rw [if_pos c11] at hf
          exact zw_O_plan_156 C hr hlk hK hSt hap   q43 hq43 (zf_O_plan_74 q43 n) (ih) (x1) (x2) (x3) (x4) (x5) S10 nx1 nx2 nx3 nx4 nx5 hf _ _ _ hW hS (lv_sub hl [1, 2, 3, 4, 5, 6] rfl)
        · rw [if_neg c11] at hf
          refine lv_iload C.1 C.2.1 zd_O_plan_142 (lv_at hl 0 rfl) ?_
          refine lv_istore_n (lv' := [(1, .int (zI (a9))), (6, .int (zI (a9))), (0, .ref (B.2.1 3 (0) (0))), (2, .int (zI (x2))), (3, .int (zI (x3))), (4, .int (zI (x4))), (5, .int (zI (x5)))]) C.1 C.2.1 zd_O_plan_144 rfl hl (by decide) rfl (fun ls hl => ?_)
          refine zr_bipush C zd_O_plan_145 (by decide) ?_
          refine lv_iload C.1 C.2.1 zd_O_plan_147 (lv_at hl 6 rfl) ?_
          refine zr_imul C zd_O_plan_149 ?_
          refine lv_iload_n C.1 C.2.1 zd_O_plan_150 rfl (lv_at hl 4 rfl) ?_
          refine zr_iadd C zd_O_plan_151 ?_
          refine lv_iload C.1 C.2.1 zd_O_plan_152 (lv_at hl 6 rfl) ?_
          refine zr_isub C zd_O_plan_154 ?_
          obtain ⟨v12, ev12, hf⟩ := zlt_some hf
          have nv12 : zn v12 := by rw [← ev12]; exact (zn_w _)
          rw [ev12]
          refine lv_istore_n (lv' := [(2, .int (zI (v12))), (1, .int (zI (a9))), (6, .int (zI (a9))), (0, .ref (B.2.1 3 (0) (0))), (3, .int (zI (x3))), (4, .int (zI (x4))), (5, .int (zI (x5)))]) C.1 C.2.1 zd_O_plan_155 rfl hl (by decide) rfl (fun ls hl => ?_)
          exact zw_O_plan_156 C hr hlk hK hSt hap   q43 hq43 (zf_O_plan_74 q43 n) (ih) (a9) (v12) (x3) (x4) (x5) S10 na9 nv12 nx3 nx4 nx5 hf _ _ _ hW hS (lv_sub hl [3, 1, 0, 4, 5, 6] rfl)

def zf_O_plan_43 : Nat → Int → Int → Int → Sg → Option (Int × Sg)
  | 0, _, _, _, _ => none
  | n + 1, x1, x2, x3, S =>
    if 20 < x3 then (some (x2, S)) else (if x1 = 1000000 then (some (x2, S)) else (zlt (min x3 10) fun v3 => zlt (zw (x3 - (min x3 10))) fun v4 => zf_O_plan_74 (zf_O_plan_43 n) 4096 (x1) (x2) (x3) (v3) (v4) S))
set_option maxHeartbeats 4000000 in
set_option maxRecDepth 100000 in
theorem zw_O_plan_43 {p : Program} {l : Launch} {e : Env} {s : State} {m : MethodId} {args : Array Value} {below : List Frame} {meth : Method} {c : Code} {B : zB} (C : CallFix p m c zb_O_plan 7 s args zT "IslandOffice") (hr : meth.sig.returnType = some .int) (hlk : meth.locks = false) (hK : zK B s) (hSt : zSt B s) (hap : zAp B) {res : Int} {S9 : Sg} : ∀ n : Nat, ∀ (x1 : Int) (x2 : Int) (x3 : Int) (S : Sg) (nx1 : zn x1) (nx2 : zn x2) (nx3 : zn x3), zf_O_plan_43 n x1 x2 x3 S = some (res, S9) → ∀ (H : Heap) (locs : List Loc) (ls : Array Slot), zW B S H → va_S B.2.2.2 s.heap H locs → lv_has ls 7 [(0, .ref (B.2.1 3 (0) (0))), (1, .int (zI (x1))), (2, .int (zI (x2))), (3, .int (zI (x3)))] → W p l e zm_O_plan s m args below meth c H locs 0 0 (MQ below (zQi B res S9) args s 0 0 B.2.2.2) (F0 m 43 ls []) := by
  intro n
  induction n with
  | zero =>
    intro x1 x2 x3 S nx1 nx2 nx3 hf H locs ls hW hS hl
    cases hf
  | succ n ih =>
    intro x1 x2 x3 S nx1 nx2 nx3 hf H locs ls hW hS hl
    rw [zf_O_plan_43] at hf
    refine lv_iload_n C.1 C.2.1 zd_O_plan_43 rfl (lv_at hl 3 rfl) ?_
    refine zr_bipush C zd_O_plan_44 (by decide) ?_
    refine zr_icmp_gt (tgt := 168) C nx3 (znb rfl) zd_O_plan_46 (by decide) (fun c1 => ?_) (fun c1 => ?_)
    · rw [if_pos c1] at hf
      refine lv_iload_n C.1 C.2.1 zd_O_plan_168 rfl (lv_at hl 2 rfl) ?_
      cases hf
      exact zre_i C hr hlk hK hW hS nx2 zd_O_plan_169
    · rw [if_neg c1] at hf
      refine lv_iload_n C.1 C.2.1 zd_O_plan_49 rfl (lv_at hl 1 rfl) ?_
      refine zr_ldcw (n := 1000000) C zk_899 (by decide) zd_O_plan_50 ?_
      refine zr_icmp_eq (tgt := 168) C nx1 (znb rfl) zd_O_plan_53 (by decide) (fun c2 => ?_) (fun c2 => ?_)
      · rw [if_pos c2] at hf
        refine lv_iload_n C.1 C.2.1 zd_O_plan_168 rfl (lv_at hl 2 rfl) ?_
        cases hf
        exact zre_i C hr hlk hK hW hS nx2 zd_O_plan_169
      · rw [if_neg c2] at hf
        refine lv_iload_n C.1 C.2.1 zd_O_plan_56 rfl (lv_at hl 3 rfl) ?_
        refine zr_bipush C zd_O_plan_57 (by decide) ?_
        refine zr_min C hl.1 nx3 (znb rfl) zk_1097 zk_909 zk_16 zk_910 (by decide) (Nat.le_of_ble_eq_true rfl) ⟨by decide, by decide⟩ zd_O_plan_59 ?_
        obtain ⟨v3, ev3, hf⟩ := zlt_some hf
        have nv3 : zn v3 := by rw [← ev3]; exact (zn_min nx3 (znb rfl))
        rw [ev3]
        refine lv_istore (lv' := [(4, .int (zI (v3))), (0, .ref (B.2.1 3 (0) (0))), (1, .int (zI (x1))), (2, .int (zI (x2))), (3, .int (zI (x3)))]) C.1 C.2.1 zd_O_plan_62 hl (by decide) rfl (fun ls hl => ?_)
        refine lv_iload_n C.1 C.2.1 zd_O_plan_64 rfl (lv_at hl 4 rfl) ?_
        refine lv_iload_n C.1 C.2.1 zd_O_plan_65 rfl (lv_at hl 4 rfl) ?_
        refine zr_bipush C zd_O_plan_66 (by decide) ?_
        refine zr_min C hl.1 nx3 (znb rfl) zk_1097 zk_909 zk_16 zk_910 (by decide) (Nat.le_of_ble_eq_true rfl) ⟨by decide, by decide⟩ zd_O_plan_68 ?_
        refine zr_isub C zd_O_plan_71 ?_
        obtain ⟨v4, ev4, hf⟩ := zlt_some hf
        have nv4 : zn v4 := by rw [← ev4]; exact (zn_w _)
        rw [ev4]
        refine lv_istore (lv' := [(5, .int (zI (v4))), (4, .int (zI (v3))), (0, .ref (B.2.1 3 (0) (0))), (1, .int (zI (x1))), (2, .int (zI (x2))), (3, .int (zI (x3)))]) C.1 C.2.1 zd_O_plan_72 hl (by decide) rfl (fun ls hl => ?_)
        exact zw_O_plan_74 C hr hlk hK hSt hap   (zf_O_plan_43 n) (ih) 4096 (x1) (x2) (x3) (v3) (v4) S nx1 nx2 nx3 nv3 nv4 hf _ _ _ hW hS (lv_sub hl [2, 3, 4, 5, 1, 0] rfl)

def zf_O_plan (S : Sg) : Option (Int × Sg) :=
    if (S 0 0 31 3) ≤ 28 then (if (zw ((S 0 0 0 0) + 16)) ≤ 400 then (zf_O_plan_43 4096 (-1) (0) (0) S) else (some (-3, S))) else (some (-2, S))
set_option maxHeartbeats 4000000 in
set_option maxRecDepth 100000 in
theorem zw_O_plan {p : Program} {l : Launch} {e : Env} {s : State} {m : MethodId} {args : Array Value} {below : List Frame} {meth : Method} {c : Code} {B : zB} (C : CallFix p m c zb_O_plan 7 s args zT "IslandOffice") (hr : meth.sig.returnType = some .int) (hlk : meth.locks = false) (hK : zK B s) (hSt : zSt B s) (hap : zAp B) {res : Int} {S9 : Sg} : ∀  (S : Sg) , zf_O_plan  S = some (res, S9) → ∀ (H : Heap) (locs : List Loc) (ls : Array Slot), zW B S H → va_S B.2.2.2 s.heap H locs → lv_has ls 7 [(0, .ref (B.2.1 3 (0) (0)))] → W p l e zm_O_plan s m args below meth c H locs 0 0 (MQ below (zQi B res S9) args s 0 0 B.2.2.2) (F0 m 0 ls []) := by
  intro S hf H locs ls hW hS hl
  unfold zf_O_plan at hf
  refine lv_aload_n C.1 C.2.1 zd_O_plan_0 rfl (lv_at hl 0 rfl) ?_
  refine zg_O_now (r := 0) C hK hW (zvd_3 (by decide) (by decide)) zk_492 zd_O_plan_1 ?_
  refine zg_I_stores (r := 0) C hK hW (zvd_0 (by decide) (by decide)) zk_292 zd_O_plan_4 ?_
  refine zg_T_orders (r := 0) C hK hW (zvd_0 (by decide) (by decide)) zk_206 zd_O_plan_7 ?_
  refine zr_bipush C zd_O_plan_10 (by decide) ?_
  refine zr_icmp_le (tgt := 18) C (zWn hW _ _ _ _ rfl) (znb rfl) zd_O_plan_12 (by decide) (fun c1 => ?_) (fun c1 => ?_)
  · rw [if_pos c1] at hf
    refine lv_aload_n C.1 C.2.1 zd_O_plan_18 rfl (lv_at hl 0 rfl) ?_
    refine zg_O_now (r := 0) C hK hW (zvd_3 (by decide) (by decide)) zk_492 zd_O_plan_19 ?_
    refine zg_I_week (r := 0) C hK hW (zvd_0 (by decide) (by decide)) zk_242 zd_O_plan_22 ?_
    refine zr_bipush C zd_O_plan_25 (by decide) ?_
    refine zr_iadd C zd_O_plan_27 ?_
    refine zr_sipush C zd_O_plan_28 (by decide) ?_
    refine zr_icmp_le (tgt := 37) C (zn_w _) (znb rfl) zd_O_plan_31 (by decide) (fun c2 => ?_) (fun c2 => ?_)
    · rw [if_pos c2] at hf
      refine zr_iconst C zd_O_plan_37 ?_
      refine lv_istore_n (lv' := [(1, .int (zI (-1))), (0, .ref (B.2.1 3 (0) (0)))]) C.1 C.2.1 zd_O_plan_38 rfl hl (by decide) rfl (fun ls hl => ?_)
      refine zr_iconst C zd_O_plan_39 ?_
      refine lv_istore_n (lv' := [(2, .int (zI (0))), (1, .int (zI (-1))), (0, .ref (B.2.1 3 (0) (0)))]) C.1 C.2.1 zd_O_plan_40 rfl hl (by decide) rfl (fun ls hl => ?_)
      refine zr_iconst C zd_O_plan_41 ?_
      refine lv_istore_n (lv' := [(3, .int (zI (0))), (2, .int (zI (0))), (1, .int (zI (-1))), (0, .ref (B.2.1 3 (0) (0)))]) C.1 C.2.1 zd_O_plan_42 rfl hl (by decide) rfl (fun ls hl => ?_)
      exact zw_O_plan_43 C hr hlk hK hSt hap   4096 (-1) (0) (0) S (znb rfl) (znb rfl) (znb rfl) hf _ _ _ hW hS (lv_sub hl [3, 2, 1, 0] rfl)
    · rw [if_neg c2] at hf
      refine zr_bipush C zd_O_plan_34 (by decide) ?_
      cases hf
      exact zre_i C hr hlk hK hW hS (znb rfl) zd_O_plan_36
  · rw [if_neg c1] at hf
    refine zr_bipush C zd_O_plan_15 (by decide) ?_
    cases hf
    exact zre_i C hr hlk hK hW hS (znb rfl) zd_O_plan_17

theorem zc_O_plan {l : Launch} {B : zB} (hap : zAp B) (S : Sg) {res : Int} {S9 : Sg} (hf : zf_O_plan  S = some (res, S9)) : Met l zy_O_plan (Cond.code zy_O_plan zb_O_plan 7 (some .int) :: zT) zm_O_plan (zP B S [.ref (B.2.1 3 (0) (0))]) (zQi B res S9) 0 0 B.2.2.2 :=
  zmet (by decide) (Nat.le_of_ble_eq_true rfl) (fun p e s m args below meth c C hr hlk hK hSt hW ls hl => zw_O_plan C hr hlk hK hSt hap    S  hf _ _ _ hW va_S.rf hl)
/-! IslandOffice.image()I -/
abbrev zy_O_image : MethodName := ⟨"IslandOffice", "image", "()I"⟩
abbrev zb_O_image : ByteArray := prog_1_method_37_code
abbrev zm_O_image : Room := { frames := 4, cells := 0, slots := 0, locals := 129 }
theorem zq_O_image : zMy zy_O_image zb_O_image 1 (some .int) 0 := ⟨zk_1106, zk_1104, zk_1105, zk_1, by decide, by decide, by decide +kernel⟩
theorem zd_O_image_0 : decode zb_O_image 0 = .ok (.aload_n 0, 1) := by decide +kernel
theorem zd_O_image_1 : decode zb_O_image 1 = .ok (.getfield 20, 3) := by decide +kernel
theorem zd_O_image_4 : decode zb_O_image 4 = .ok (.aload_n 0, 1) := by decide +kernel
theorem zd_O_image_5 : decode zb_O_image 5 = .ok (.getfield 16, 3) := by decide +kernel
theorem zd_O_image_8 : decode zb_O_image 8 = .ok (.invokevirtual 320, 3) := by decide +kernel
theorem zd_O_image_11 : decode zb_O_image 11 = .ok (.aload_n 0, 1) := by decide +kernel
theorem zd_O_image_12 : decode zb_O_image 12 = .ok (.iconst 1, 1) := by decide +kernel
theorem zd_O_image_13 : decode zb_O_image 13 = .ok (.putfield 26, 3) := by decide +kernel
theorem zd_O_image_16 : decode zb_O_image 16 = .ok (.aload_n 0, 1) := by decide +kernel
theorem zd_O_image_17 : decode zb_O_image 17 = .ok (.getfield 16, 3) := by decide +kernel
theorem zd_O_image_20 : decode zb_O_image 20 = .ok (.getfield 94, 3) := by decide +kernel
theorem zd_O_image_23 : decode zb_O_image 23 = .ok (.ireturn, 1) := by decide +kernel

def zf_O_image (S : Sg) : Option (Int × Sg) :=
    zbd (zf_I_become (1) (0) S) fun a1 S2 => zlt (zu S2 3 0 0 3 1) fun S3 => some (S3 0 0 0 0, S3)
set_option maxHeartbeats 4000000 in
set_option maxRecDepth 100000 in
theorem zw_O_image {p : Program} {l : Launch} {e : Env} {s : State} {m : MethodId} {args : Array Value} {below : List Frame} {meth : Method} {c : Code} {B : zB} (C : CallFix p m c zb_O_image 1 s args zT "IslandOffice") (hr : meth.sig.returnType = some .int) (hlk : meth.locks = false) (hK : zK B s) (hSt : zSt B s) (hap : zAp B) {res : Int} {S9 : Sg} : ∀  (S : Sg) , zf_O_image  S = some (res, S9) → ∀ (H : Heap) (locs : List Loc) (ls : Array Slot), zW B S H → va_S B.2.2.2 s.heap H locs → lv_has ls 1 [(0, .ref (B.2.1 3 (0) (0)))] → W p l e zm_O_image s m args below meth c H locs 0 0 (MQ below (zQi B res S9) args s 0 0 B.2.2.2) (F0 m 0 ls []) := by
  intro S hf H locs ls hW hS hl
  unfold zf_O_image at hf
  refine lv_aload_n C.1 C.2.1 zd_O_image_0 rfl (lv_at hl 0 rfl) ?_
  refine zg_O_image (r := 0) C hK hW (zvd_3 (by decide) (by decide)) zk_493 zd_O_image_1 ?_
  refine lv_aload_n C.1 C.2.1 zd_O_image_4 rfl (lv_at hl 0 rfl) ?_
  refine zg_O_now (r := 0) C hK hW (zvd_3 (by decide) (by decide)) zk_492 zd_O_image_5 ?_
  obtain ⟨a1, S2, ea1, hf⟩ := zbd_some hf
  refine zcVv (As := [.ref (B.2.1 0 (0) (0))]) (rest := []) C hK hSt hW hS (zc_I_become hap (1) (0) (by decide) (by decide) S ea1) zq_I_become zk_1052 (zrecv hK hW (zvd_0 (by decide) (by decide)) (ze_0_0 B _ (1)) rfl) ⟨rfl, rfl, by decide, by decide⟩ ⟨Nat.zero_le _, Nat.zero_le _⟩ rfl hl.1 rfl (lv_room (Nat.le_of_ble_eq_true rfl)) zd_O_image_8 (fun H locs hW hS => ?_)
  refine lv_aload_n C.1 C.2.1 zd_O_image_11 rfl (lv_at hl 0 rfl) ?_
  refine zr_iconst C zd_O_image_12 ?_
  obtain ⟨S3, eS3, hf⟩ := zlt_some hf
  refine zp_O_imageTaken (r := 0) C hK hap hW hS (zvd_3 (by decide) (by decide)) zk_495 (znb rfl) rfl rfl zd_O_image_13 (fun H locs hW hS => ?_)
  rw [eS3] at hW
  refine lv_aload_n C.1 C.2.1 zd_O_image_16 rfl (lv_at hl 0 rfl) ?_
  refine zg_O_now (r := 0) C hK hW (zvd_3 (by decide) (by decide)) zk_492 zd_O_image_17 ?_
  refine zg_I_week (r := 0) C hK hW (zvd_0 (by decide) (by decide)) zk_242 zd_O_image_20 ?_
  cases hf
  exact zre_i C hr hlk hK hW hS (zWn hW _ _ _ _ rfl) zd_O_image_23

theorem zc_O_image {l : Launch} {B : zB} (hap : zAp B) (S : Sg) {res : Int} {S9 : Sg} (hf : zf_O_image  S = some (res, S9)) : Met l zy_O_image (Cond.code zy_O_image zb_O_image 1 (some .int) :: zT) zm_O_image (zP B S [.ref (B.2.1 3 (0) (0))]) (zQi B res S9) 0 0 B.2.2.2 :=
  zmet (by decide) (Nat.le_of_ble_eq_true rfl) (fun p e s m args below meth c C hr hlk hK hSt hW ls hl => zw_O_image C hr hlk hK hSt hap    S  hf _ _ _ hW va_S.rf hl)
/-! IslandOffice.restore()I -/
abbrev zy_O_restore : MethodName := ⟨"IslandOffice", "restore", "()I"⟩
abbrev zb_O_restore : ByteArray := prog_1_method_38_code
abbrev zm_O_restore : Room := { frames := 4, cells := 0, slots := 0, locals := 129 }
theorem zq_O_restore : zMy zy_O_restore zb_O_restore 1 (some .int) 0 := ⟨zk_1110, zk_1108, zk_1109, zk_1, by decide, by decide, by decide +kernel⟩
theorem zd_O_restore_0 : decode zb_O_restore 0 = .ok (.aload_n 0, 1) := by decide +kernel
theorem zd_O_restore_1 : decode zb_O_restore 1 = .ok (.getfield 26, 3) := by decide +kernel
theorem zd_O_restore_4 : decode zb_O_restore 4 = .ok (.ifCond .ne 6, 3) := by decide +kernel
theorem zd_O_restore_7 : decode zb_O_restore 7 = .ok (.bipush (-3), 2) := by decide +kernel
theorem zd_O_restore_9 : decode zb_O_restore 9 = .ok (.ireturn, 1) := by decide +kernel
theorem zd_O_restore_10 : decode zb_O_restore 10 = .ok (.aload_n 0, 1) := by decide +kernel
theorem zd_O_restore_11 : decode zb_O_restore 11 = .ok (.getfield 16, 3) := by decide +kernel
theorem zd_O_restore_14 : decode zb_O_restore 14 = .ok (.aload_n 0, 1) := by decide +kernel
theorem zd_O_restore_15 : decode zb_O_restore 15 = .ok (.getfield 20, 3) := by decide +kernel
theorem zd_O_restore_18 : decode zb_O_restore 18 = .ok (.invokevirtual 320, 3) := by decide +kernel
theorem zd_O_restore_21 : decode zb_O_restore 21 = .ok (.aload_n 0, 1) := by decide +kernel
theorem zd_O_restore_22 : decode zb_O_restore 22 = .ok (.getfield 16, 3) := by decide +kernel
theorem zd_O_restore_25 : decode zb_O_restore 25 = .ok (.getfield 94, 3) := by decide +kernel
theorem zd_O_restore_28 : decode zb_O_restore 28 = .ok (.ireturn, 1) := by decide +kernel

def zf_O_restore (S : Sg) : Option (Int × Sg) :=
    if (S 3 0 0 3) = 0 then (some (-3, S)) else (zbd (zf_I_become (0) (1) S) fun a2 S3 => some (S3 0 0 0 0, S3))
set_option maxHeartbeats 4000000 in
set_option maxRecDepth 100000 in
theorem zw_O_restore {p : Program} {l : Launch} {e : Env} {s : State} {m : MethodId} {args : Array Value} {below : List Frame} {meth : Method} {c : Code} {B : zB} (C : CallFix p m c zb_O_restore 1 s args zT "IslandOffice") (hr : meth.sig.returnType = some .int) (hlk : meth.locks = false) (hK : zK B s) (hSt : zSt B s) (hap : zAp B) {res : Int} {S9 : Sg} : ∀  (S : Sg) , zf_O_restore  S = some (res, S9) → ∀ (H : Heap) (locs : List Loc) (ls : Array Slot), zW B S H → va_S B.2.2.2 s.heap H locs → lv_has ls 1 [(0, .ref (B.2.1 3 (0) (0)))] → W p l e zm_O_restore s m args below meth c H locs 0 0 (MQ below (zQi B res S9) args s 0 0 B.2.2.2) (F0 m 0 ls []) := by
  intro S hf H locs ls hW hS hl
  unfold zf_O_restore at hf
  refine lv_aload_n C.1 C.2.1 zd_O_restore_0 rfl (lv_at hl 0 rfl) ?_
  refine zg_O_imageTaken (r := 0) C hK hW (zvd_3 (by decide) (by decide)) zk_495 zd_O_restore_1 ?_
  refine zr_if_ne (tgt := 10) C (zWn hW _ _ _ _ rfl) zd_O_restore_4 (by decide) (fun c1 => ?_) (fun c1 => ?_)
  · rw [if_neg c1] at hf
    refine lv_aload_n C.1 C.2.1 zd_O_restore_10 rfl (lv_at hl 0 rfl) ?_
    refine zg_O_now (r := 0) C hK hW (zvd_3 (by decide) (by decide)) zk_492 zd_O_restore_11 ?_
    refine lv_aload_n C.1 C.2.1 zd_O_restore_14 rfl (lv_at hl 0 rfl) ?_
    refine zg_O_image (r := 0) C hK hW (zvd_3 (by decide) (by decide)) zk_493 zd_O_restore_15 ?_
    obtain ⟨a2, S3, ea2, hf⟩ := zbd_some hf
    refine zcVv (As := [.ref (B.2.1 0 (1) (0))]) (rest := []) C hK hSt hW hS (zc_I_become hap (0) (1) (by decide) (by decide) S ea2) zq_I_become zk_1052 (zrecv hK hW (zvd_0 (by decide) (by decide)) (ze_0_0 B _ (0)) rfl) ⟨rfl, rfl, by decide, by decide⟩ ⟨Nat.zero_le _, Nat.zero_le _⟩ rfl hl.1 rfl (lv_room (Nat.le_of_ble_eq_true rfl)) zd_O_restore_18 (fun H locs hW hS => ?_)
    refine lv_aload_n C.1 C.2.1 zd_O_restore_21 rfl (lv_at hl 0 rfl) ?_
    refine zg_O_now (r := 0) C hK hW (zvd_3 (by decide) (by decide)) zk_492 zd_O_restore_22 ?_
    refine zg_I_week (r := 0) C hK hW (zvd_0 (by decide) (by decide)) zk_242 zd_O_restore_25 ?_
    cases hf
    exact zre_i C hr hlk hK hW hS (zWn hW _ _ _ _ rfl) zd_O_restore_28
  · rw [if_pos c1] at hf
    refine zr_bipush C zd_O_restore_7 (by decide) ?_
    cases hf
    exact zre_i C hr hlk hK hW hS (znb rfl) zd_O_restore_9

theorem zc_O_restore {l : Launch} {B : zB} (hap : zAp B) (S : Sg) {res : Int} {S9 : Sg} (hf : zf_O_restore  S = some (res, S9)) : Met l zy_O_restore (Cond.code zy_O_restore zb_O_restore 1 (some .int) :: zT) zm_O_restore (zP B S [.ref (B.2.1 3 (0) (0))]) (zQi B res S9) 0 0 B.2.2.2 :=
  zmet (by decide) (Nat.le_of_ble_eq_true rfl) (fun p e s m args below meth c C hr hlk hK hSt hW ls hl => zw_O_restore C hr hlk hK hSt hap    S  hf _ _ _ hW va_S.rf hl)
/-! IslandOffice.count(I)I -/
abbrev zy_O_count : MethodName := ⟨"IslandOffice", "count", "(I)I"⟩
abbrev zb_O_count : ByteArray := prog_1_method_39_code
abbrev zm_O_count : Room := { frames := 4, cells := 0, slots := 0, locals := 94 }
theorem zq_O_count : zMy zy_O_count zb_O_count 2 (some .int) 1 := ⟨zk_1114, zk_1112, zk_1113, zk_1, by decide, by decide, by decide +kernel⟩
theorem zd_O_count_0 : decode zb_O_count 0 = .ok (.iload_n 1, 1) := by decide +kernel
theorem zd_O_count_1 : decode zb_O_count 1 = .ok (.tableswitch 248 0 14 #[75, 86, 98, 110, 122, 133, 144, 155, 163, 171, 179, 187, 195, 207, 225], 75) := by decide +kernel
theorem zd_O_count_76 : decode zb_O_count 76 = .ok (.aload_n 0, 1) := by decide +kernel
theorem zd_O_count_77 : decode zb_O_count 77 = .ok (.getfield 16, 3) := by decide +kernel
theorem zd_O_count_80 : decode zb_O_count 80 = .ok (.getfield 81, 3) := by decide +kernel
theorem zd_O_count_83 : decode zb_O_count 83 = .ok (.getfield 98, 3) := by decide +kernel
theorem zd_O_count_86 : decode zb_O_count 86 = .ok (.ireturn, 1) := by decide +kernel
theorem zd_O_count_87 : decode zb_O_count 87 = .ok (.aload_n 0, 1) := by decide +kernel
theorem zd_O_count_88 : decode zb_O_count 88 = .ok (.getfield 16, 3) := by decide +kernel
theorem zd_O_count_91 : decode zb_O_count 91 = .ok (.getfield 81, 3) := by decide +kernel
theorem zd_O_count_94 : decode zb_O_count 94 = .ok (.iconst 0, 1) := by decide +kernel
theorem zd_O_count_95 : decode zb_O_count 95 = .ok (.invokevirtual 317, 3) := by decide +kernel
theorem zd_O_count_98 : decode zb_O_count 98 = .ok (.ireturn, 1) := by decide +kernel
theorem zd_O_count_99 : decode zb_O_count 99 = .ok (.aload_n 0, 1) := by decide +kernel
theorem zd_O_count_100 : decode zb_O_count 100 = .ok (.getfield 16, 3) := by decide +kernel
theorem zd_O_count_103 : decode zb_O_count 103 = .ok (.getfield 81, 3) := by decide +kernel
theorem zd_O_count_106 : decode zb_O_count 106 = .ok (.iconst 1, 1) := by decide +kernel
theorem zd_O_count_107 : decode zb_O_count 107 = .ok (.invokevirtual 317, 3) := by decide +kernel
theorem zd_O_count_110 : decode zb_O_count 110 = .ok (.ireturn, 1) := by decide +kernel
theorem zd_O_count_111 : decode zb_O_count 111 = .ok (.aload_n 0, 1) := by decide +kernel
theorem zd_O_count_112 : decode zb_O_count 112 = .ok (.getfield 16, 3) := by decide +kernel
theorem zd_O_count_115 : decode zb_O_count 115 = .ok (.getfield 81, 3) := by decide +kernel
theorem zd_O_count_118 : decode zb_O_count 118 = .ok (.iconst 2, 1) := by decide +kernel
theorem zd_O_count_119 : decode zb_O_count 119 = .ok (.invokevirtual 317, 3) := by decide +kernel
theorem zd_O_count_122 : decode zb_O_count 122 = .ok (.ireturn, 1) := by decide +kernel
theorem zd_O_count_123 : decode zb_O_count 123 = .ok (.aload_n 0, 1) := by decide +kernel
theorem zd_O_count_124 : decode zb_O_count 124 = .ok (.getfield 16, 3) := by decide +kernel
theorem zd_O_count_127 : decode zb_O_count 127 = .ok (.getfield 178, 3) := by decide +kernel
theorem zd_O_count_130 : decode zb_O_count 130 = .ok (.getfield 182, 3) := by decide +kernel
theorem zd_O_count_133 : decode zb_O_count 133 = .ok (.ireturn, 1) := by decide +kernel
theorem zd_O_count_134 : decode zb_O_count 134 = .ok (.aload_n 0, 1) := by decide +kernel
theorem zd_O_count_135 : decode zb_O_count 135 = .ok (.getfield 16, 3) := by decide +kernel
theorem zd_O_count_138 : decode zb_O_count 138 = .ok (.getfield 223, 3) := by decide +kernel
theorem zd_O_count_141 : decode zb_O_count 141 = .ok (.getfield 339, 3) := by decide +kernel
theorem zd_O_count_144 : decode zb_O_count 144 = .ok (.ireturn, 1) := by decide +kernel
theorem zd_O_count_145 : decode zb_O_count 145 = .ok (.aload_n 0, 1) := by decide +kernel
theorem zd_O_count_146 : decode zb_O_count 146 = .ok (.getfield 16, 3) := by decide +kernel
theorem zd_O_count_149 : decode zb_O_count 149 = .ok (.getfield 247, 3) := by decide +kernel
theorem zd_O_count_152 : decode zb_O_count 152 = .ok (.getfield 265, 3) := by decide +kernel
theorem zd_O_count_155 : decode zb_O_count 155 = .ok (.ireturn, 1) := by decide +kernel
theorem zd_O_count_156 : decode zb_O_count 156 = .ok (.aload_n 0, 1) := by decide +kernel
theorem zd_O_count_157 : decode zb_O_count 157 = .ok (.getfield 16, 3) := by decide +kernel
theorem zd_O_count_160 : decode zb_O_count 160 = .ok (.getfield 94, 3) := by decide +kernel
theorem zd_O_count_163 : decode zb_O_count 163 = .ok (.ireturn, 1) := by decide +kernel
theorem zd_O_count_164 : decode zb_O_count 164 = .ok (.aload_n 0, 1) := by decide +kernel
theorem zd_O_count_165 : decode zb_O_count 165 = .ok (.getfield 16, 3) := by decide +kernel
theorem zd_O_count_168 : decode zb_O_count 168 = .ok (.getfield 287, 3) := by decide +kernel
theorem zd_O_count_171 : decode zb_O_count 171 = .ok (.ireturn, 1) := by decide +kernel
theorem zd_O_count_172 : decode zb_O_count 172 = .ok (.aload_n 0, 1) := by decide +kernel
theorem zd_O_count_173 : decode zb_O_count 173 = .ok (.getfield 16, 3) := by decide +kernel
theorem zd_O_count_176 : decode zb_O_count 176 = .ok (.getfield 340, 3) := by decide +kernel
theorem zd_O_count_179 : decode zb_O_count 179 = .ok (.ireturn, 1) := by decide +kernel
theorem zd_O_count_180 : decode zb_O_count 180 = .ok (.aload_n 0, 1) := by decide +kernel
theorem zd_O_count_181 : decode zb_O_count 181 = .ok (.getfield 16, 3) := by decide +kernel
theorem zd_O_count_184 : decode zb_O_count 184 = .ok (.getfield 343, 3) := by decide +kernel
theorem zd_O_count_187 : decode zb_O_count 187 = .ok (.ireturn, 1) := by decide +kernel
theorem zd_O_count_188 : decode zb_O_count 188 = .ok (.aload_n 0, 1) := by decide +kernel
theorem zd_O_count_189 : decode zb_O_count 189 = .ok (.getfield 16, 3) := by decide +kernel
theorem zd_O_count_192 : decode zb_O_count 192 = .ok (.getfield 346, 3) := by decide +kernel
theorem zd_O_count_195 : decode zb_O_count 195 = .ok (.ireturn, 1) := by decide +kernel
theorem zd_O_count_196 : decode zb_O_count 196 = .ok (.aload_n 0, 1) := by decide +kernel
theorem zd_O_count_197 : decode zb_O_count 197 = .ok (.getfield 51, 3) := by decide +kernel
theorem zd_O_count_200 : decode zb_O_count 200 = .ok (.aload_n 0, 1) := by decide +kernel
theorem zd_O_count_201 : decode zb_O_count 201 = .ok (.getfield 16, 3) := by decide +kernel
theorem zd_O_count_204 : decode zb_O_count 204 = .ok (.invokevirtual 171, 3) := by decide +kernel
theorem zd_O_count_207 : decode zb_O_count 207 = .ok (.ireturn, 1) := by decide +kernel
theorem zd_O_count_208 : decode zb_O_count 208 = .ok (.aload_n 0, 1) := by decide +kernel
theorem zd_O_count_209 : decode zb_O_count 209 = .ok (.getfield 16, 3) := by decide +kernel
theorem zd_O_count_212 : decode zb_O_count 212 = .ok (.getfield 81, 3) := by decide +kernel
theorem zd_O_count_215 : decode zb_O_count 215 = .ok (.aload_n 0, 1) := by decide +kernel
theorem zd_O_count_216 : decode zb_O_count 216 = .ok (.getfield 16, 3) := by decide +kernel
theorem zd_O_count_219 : decode zb_O_count 219 = .ok (.getfield 94, 3) := by decide +kernel
theorem zd_O_count_222 : decode zb_O_count 222 = .ok (.invokevirtual 349, 3) := by decide +kernel
theorem zd_O_count_225 : decode zb_O_count 225 = .ok (.ireturn, 1) := by decide +kernel
theorem zd_O_count_226 : decode zb_O_count 226 = .ok (.aload_n 0, 1) := by decide +kernel
theorem zd_O_count_227 : decode zb_O_count 227 = .ok (.getfield 16, 3) := by decide +kernel
theorem zd_O_count_230 : decode zb_O_count 230 = .ok (.getfield 352, 3) := by decide +kernel
theorem zd_O_count_233 : decode zb_O_count 233 = .ok (.ifCond .ge 8, 3) := by decide +kernel
theorem zd_O_count_236 : decode zb_O_count 236 = .ok (.bipush (-2), 2) := by decide +kernel
theorem zd_O_count_238 : decode zb_O_count 238 = .ok (.goto 10, 3) := by decide +kernel
theorem zd_O_count_241 : decode zb_O_count 241 = .ok (.aload_n 0, 1) := by decide +kernel
theorem zd_O_count_242 : decode zb_O_count 242 = .ok (.getfield 16, 3) := by decide +kernel
theorem zd_O_count_245 : decode zb_O_count 245 = .ok (.getfield 352, 3) := by decide +kernel
theorem zd_O_count_248 : decode zb_O_count 248 = .ok (.ireturn, 1) := by decide +kernel
theorem zd_O_count_249 : decode zb_O_count 249 = .ok (.iconst (-1), 1) := by decide +kernel
theorem zd_O_count_250 : decode zb_O_count 250 = .ok (.ireturn, 1) := by decide +kernel

def zf_O_count (x1 : Int) (S : Sg) : Option (Int × Sg) :=
    if x1 = 0 then (some (S 0 0 6 0, S)) else (if x1 = 1 then (zbd (zf_P_in (0) 0 S) fun a3 S4 => some (a3, S4)) else (if x1 = 2 then (zbd (zf_P_in (0) 1 S) fun a6 S7 => some (a6, S7)) else (if x1 = 3 then (zbd (zf_P_in (0) 2 S) fun a9 S10 => some (a9, S10)) else (if x1 = 4 then (some (S 0 0 16 0, S)) else (if x1 = 5 then (some (S 0 0 26 0, S)) else (if x1 = 6 then (some (S 0 0 31 3, S)) else (if x1 = 7 then (some (S 0 0 0 0, S)) else (if x1 = 8 then (some (S 0 0 0 1, S)) else (if x1 = 9 then (some (S 0 0 0 2, S)) else (if x1 = 10 then (some (S 0 0 0 3, S)) else (if x1 = 11 then (some (S 0 0 0 4, S)) else (if x1 = 12 then (zbd (zf_J_countVoters (0) S) fun a20 S21 => some (a20, S21)) else (if x1 = 13 then (zbd (zf_P_needOfAll (0) (S 0 0 0 0) S) fun a23 S24 => some (a23, S24)) else (if x1 = 14 then (if 0 ≤ (S 0 0 0 6) then (some (S 0 0 0 6, S)) else (some (-2, S))) else (some (-1, S))))))))))))))))
set_option maxHeartbeats 4000000 in
set_option maxRecDepth 100000 in
theorem zw_O_count {p : Program} {l : Launch} {e : Env} {s : State} {m : MethodId} {args : Array Value} {below : List Frame} {meth : Method} {c : Code} {B : zB} (C : CallFix p m c zb_O_count 2 s args zT "IslandOffice") (hr : meth.sig.returnType = some .int) (hlk : meth.locks = false) (hK : zK B s) (hSt : zSt B s) (hap : zAp B) {res : Int} {S9 : Sg} : ∀ (x1 : Int) (S : Sg) (nx1 : zn x1), zf_O_count x1 S = some (res, S9) → ∀ (H : Heap) (locs : List Loc) (ls : Array Slot), zW B S H → va_S B.2.2.2 s.heap H locs → lv_has ls 2 [(0, .ref (B.2.1 3 (0) (0))), (1, .int (zI (x1)))] → W p l e zm_O_count s m args below meth c H locs 0 0 (MQ below (zQi B res S9) args s 0 0 B.2.2.2) (F0 m 0 ls []) := by
  intro x1 S nx1 hf H locs ls hW hS hl
  unfold zf_O_count at hf
  refine lv_iload_n C.1 C.2.1 zd_O_count_0 rfl (lv_at hl 1 rfl) ?_
  by_cases c1 : x1 = 0
  · rw [if_pos c1] at hf
    refine zr_tab (off := 75) (tgt := 76) C nx1 zd_O_count_1 (by omega) (by omega) (by rw [c1]; rfl) (by decide) ?_
    refine lv_aload_n C.1 C.2.1 zd_O_count_76 rfl (lv_at hl 0 rfl) ?_
    refine zg_O_now (r := 0) C hK hW (zvd_3 (by decide) (by decide)) zk_492 zd_O_count_77 ?_
    refine zg_I_people (r := 0) C hK hW (zvd_0 (by decide) (by decide)) zk_280 zd_O_count_80 ?_
    refine zg_P_n (r := 0) C hK hW (zvd_0 (by decide) (by decide)) zk_56 zd_O_count_83 ?_
    cases hf
    exact zre_i C hr hlk hK hW hS (zWn hW _ _ _ _ rfl) zd_O_count_86
  rw [if_neg c1] at hf
  by_cases c2 : x1 = 1
  · rw [if_pos c2] at hf
    refine zr_tab (off := 86) (tgt := 87) C nx1 zd_O_count_1 (by omega) (by omega) (by rw [c2]; rfl) (by decide) ?_
    refine lv_aload_n C.1 C.2.1 zd_O_count_87 rfl (lv_at hl 0 rfl) ?_
    refine zg_O_now (r := 0) C hK hW (zvd_3 (by decide) (by decide)) zk_492 zd_O_count_88 ?_
    refine zg_I_people (r := 0) C hK hW (zvd_0 (by decide) (by decide)) zk_280 zd_O_count_91 ?_
    refine zr_iconst C zd_O_count_94 ?_
    obtain ⟨a3, S4, ea3, hf⟩ := zbd_some hf
    refine zcVi (As := [.int (zI (0))]) (rest := []) C hK hSt hW hS (zc_P_in hap (0) (by decide) 0 S (znb rfl) ea3) zq_P_in zk_1043 (zrecv hK hW (zvd_0 (by decide) (by decide)) (ze_0_6 B _ (0)) rfl) ⟨rfl, rfl, by decide, by decide⟩ ⟨Nat.zero_le _, Nat.zero_le _⟩ rfl hl.1 rfl (lv_room (Nat.le_of_ble_eq_true rfl)) zd_O_count_95 (fun na3 H locs hW hS => ?_)
    cases hf
    exact zre_i C hr hlk hK hW hS na3 zd_O_count_98
  rw [if_neg c2] at hf
  by_cases c5 : x1 = 2
  · rw [if_pos c5] at hf
    refine zr_tab (off := 98) (tgt := 99) C nx1 zd_O_count_1 (by omega) (by omega) (by rw [c5]; rfl) (by decide) ?_
    refine lv_aload_n C.1 C.2.1 zd_O_count_99 rfl (lv_at hl 0 rfl) ?_
    refine zg_O_now (r := 0) C hK hW (zvd_3 (by decide) (by decide)) zk_492 zd_O_count_100 ?_
    refine zg_I_people (r := 0) C hK hW (zvd_0 (by decide) (by decide)) zk_280 zd_O_count_103 ?_
    refine zr_iconst C zd_O_count_106 ?_
    obtain ⟨a6, S7, ea6, hf⟩ := zbd_some hf
    refine zcVi (As := [.int (zI (1))]) (rest := []) C hK hSt hW hS (zc_P_in hap (0) (by decide) 1 S (znb rfl) ea6) zq_P_in zk_1043 (zrecv hK hW (zvd_0 (by decide) (by decide)) (ze_0_6 B _ (0)) rfl) ⟨rfl, rfl, by decide, by decide⟩ ⟨Nat.zero_le _, Nat.zero_le _⟩ rfl hl.1 rfl (lv_room (Nat.le_of_ble_eq_true rfl)) zd_O_count_107 (fun na6 H locs hW hS => ?_)
    cases hf
    exact zre_i C hr hlk hK hW hS na6 zd_O_count_110
  rw [if_neg c5] at hf
  by_cases c8 : x1 = 3
  · rw [if_pos c8] at hf
    refine zr_tab (off := 110) (tgt := 111) C nx1 zd_O_count_1 (by omega) (by omega) (by rw [c8]; rfl) (by decide) ?_
    refine lv_aload_n C.1 C.2.1 zd_O_count_111 rfl (lv_at hl 0 rfl) ?_
    refine zg_O_now (r := 0) C hK hW (zvd_3 (by decide) (by decide)) zk_492 zd_O_count_112 ?_
    refine zg_I_people (r := 0) C hK hW (zvd_0 (by decide) (by decide)) zk_280 zd_O_count_115 ?_
    refine zr_iconst C zd_O_count_118 ?_
    obtain ⟨a9, S10, ea9, hf⟩ := zbd_some hf
    refine zcVi (As := [.int (zI (2))]) (rest := []) C hK hSt hW hS (zc_P_in hap (0) (by decide) 2 S (znb rfl) ea9) zq_P_in zk_1043 (zrecv hK hW (zvd_0 (by decide) (by decide)) (ze_0_6 B _ (0)) rfl) ⟨rfl, rfl, by decide, by decide⟩ ⟨Nat.zero_le _, Nat.zero_le _⟩ rfl hl.1 rfl (lv_room (Nat.le_of_ble_eq_true rfl)) zd_O_count_119 (fun na9 H locs hW hS => ?_)
    cases hf
    exact zre_i C hr hlk hK hW hS na9 zd_O_count_122
  rw [if_neg c8] at hf
  by_cases c11 : x1 = 4
  · rw [if_pos c11] at hf
    refine zr_tab (off := 122) (tgt := 123) C nx1 zd_O_count_1 (by omega) (by omega) (by rw [c11]; rfl) (by decide) ?_
    refine lv_aload_n C.1 C.2.1 zd_O_count_123 rfl (lv_at hl 0 rfl) ?_
    refine zg_O_now (r := 0) C hK hW (zvd_3 (by decide) (by decide)) zk_492 zd_O_count_124 ?_
    refine zg_I_laws (r := 0) C hK hW (zvd_0 (by decide) (by decide)) zk_285 zd_O_count_127 ?_
    refine zg_L_n (r := 0) C hK hW (zvd_0 (by decide) (by decide)) zk_116 zd_O_count_130 ?_
    cases hf
    exact zre_i C hr hlk hK hW hS (zWn hW _ _ _ _ rfl) zd_O_count_133
  rw [if_neg c11] at hf
  by_cases c12 : x1 = 5
  · rw [if_pos c12] at hf
    refine zr_tab (off := 133) (tgt := 134) C nx1 zd_O_count_1 (by omega) (by omega) (by rw [c12]; rfl) (by decide) ?_
    refine lv_aload_n C.1 C.2.1 zd_O_count_134 rfl (lv_at hl 0 rfl) ?_
    refine zg_O_now (r := 0) C hK hW (zvd_3 (by decide) (by decide)) zk_492 zd_O_count_135 ?_
    refine zg_I_posts (r := 0) C hK hW (zvd_0 (by decide) (by decide)) zk_289 zd_O_count_138 ?_
    refine zg_Q_n (r := 0) C hK hW (zvd_0 (by decide) (by decide)) zk_170 zd_O_count_141 ?_
    cases hf
    exact zre_i C hr hlk hK hW hS (zWn hW _ _ _ _ rfl) zd_O_count_144
  rw [if_neg c12] at hf
  by_cases c13 : x1 = 6
  · rw [if_pos c13] at hf
    refine zr_tab (off := 144) (tgt := 145) C nx1 zd_O_count_1 (by omega) (by omega) (by rw [c13]; rfl) (by decide) ?_
    refine lv_aload_n C.1 C.2.1 zd_O_count_145 rfl (lv_at hl 0 rfl) ?_
    refine zg_O_now (r := 0) C hK hW (zvd_3 (by decide) (by decide)) zk_492 zd_O_count_146 ?_
    refine zg_I_stores (r := 0) C hK hW (zvd_0 (by decide) (by decide)) zk_292 zd_O_count_149 ?_
    refine zg_T_orders (r := 0) C hK hW (zvd_0 (by decide) (by decide)) zk_206 zd_O_count_152 ?_
    cases hf
    exact zre_i C hr hlk hK hW hS (zWn hW _ _ _ _ rfl) zd_O_count_155
  rw [if_neg c13] at hf
  by_cases c14 : x1 = 7
  · rw [if_pos c14] at hf
    refine zr_tab (off := 155) (tgt := 156) C nx1 zd_O_count_1 (by omega) (by omega) (by rw [c14]; rfl) (by decide) ?_
    refine lv_aload_n C.1 C.2.1 zd_O_count_156 rfl (lv_at hl 0 rfl) ?_
    refine zg_O_now (r := 0) C hK hW (zvd_3 (by decide) (by decide)) zk_492 zd_O_count_157 ?_
    refine zg_I_week (r := 0) C hK hW (zvd_0 (by decide) (by decide)) zk_242 zd_O_count_160 ?_
    cases hf
    exact zre_i C hr hlk hK hW hS (zWn hW _ _ _ _ rfl) zd_O_count_163
  rw [if_neg c14] at hf
  by_cases c15 : x1 = 8
  · rw [if_pos c15] at hf
    refine zr_tab (off := 163) (tgt := 164) C nx1 zd_O_count_1 (by omega) (by omega) (by rw [c15]; rfl) (by decide) ?_
    refine lv_aload_n C.1 C.2.1 zd_O_count_164 rfl (lv_at hl 0 rfl) ?_
    refine zg_O_now (r := 0) C hK hW (zvd_3 (by decide) (by decide)) zk_492 zd_O_count_165 ?_
    refine zg_I_purse (r := 0) C hK hW (zvd_0 (by decide) (by decide)) zk_246 zd_O_count_168 ?_
    cases hf
    exact zre_i C hr hlk hK hW hS (zWn hW _ _ _ _ rfl) zd_O_count_171
  rw [if_neg c15] at hf
  by_cases c16 : x1 = 9
  · rw [if_pos c16] at hf
    refine zr_tab (off := 171) (tgt := 172) C nx1 zd_O_count_1 (by omega) (by omega) (by rw [c16]; rfl) (by decide) ?_
    refine lv_aload_n C.1 C.2.1 zd_O_count_172 rfl (lv_at hl 0 rfl) ?_
    refine zg_O_now (r := 0) C hK hW (zvd_3 (by decide) (by decide)) zk_492 zd_O_count_173 ?_
    refine zg_I_fund (r := 0) C hK hW (zvd_0 (by decide) (by decide)) zk_249 zd_O_count_176 ?_
    cases hf
    exact zre_i C hr hlk hK hW hS (zWn hW _ _ _ _ rfl) zd_O_count_179
  rw [if_neg c16] at hf
  by_cases c17 : x1 = 10
  · rw [if_pos c17] at hf
    refine zr_tab (off := 179) (tgt := 180) C nx1 zd_O_count_1 (by omega) (by omega) (by rw [c17]; rfl) (by decide) ?_
    refine lv_aload_n C.1 C.2.1 zd_O_count_180 rfl (lv_at hl 0 rfl) ?_
    refine zg_O_now (r := 0) C hK hW (zvd_3 (by decide) (by decide)) zk_492 zd_O_count_181 ?_
    refine zg_I_unpaid (r := 0) C hK hW (zvd_0 (by decide) (by decide)) zk_252 zd_O_count_184 ?_
    cases hf
    exact zre_i C hr hlk hK hW hS (zWn hW _ _ _ _ rfl) zd_O_count_187
  rw [if_neg c17] at hf
  by_cases c18 : x1 = 11
  · rw [if_pos c18] at hf
    refine zr_tab (off := 187) (tgt := 188) C nx1 zd_O_count_1 (by omega) (by omega) (by rw [c18]; rfl) (by decide) ?_
    refine lv_aload_n C.1 C.2.1 zd_O_count_188 rfl (lv_at hl 0 rfl) ?_
    refine zg_O_now (r := 0) C hK hW (zvd_3 (by decide) (by decide)) zk_492 zd_O_count_189 ?_
    refine zg_I_grass (r := 0) C hK hW (zvd_0 (by decide) (by decide)) zk_255 zd_O_count_192 ?_
    cases hf
    exact zre_i C hr hlk hK hW hS (zWn hW _ _ _ _ rfl) zd_O_count_195
  rw [if_neg c18] at hf
  by_cases c19 : x1 = 12
  · rw [if_pos c19] at hf
    refine zr_tab (off := 195) (tgt := 196) C nx1 zd_O_count_1 (by omega) (by omega) (by rw [c19]; rfl) (by decide) ?_
    refine lv_aload_n C.1 C.2.1 zd_O_count_196 rfl (lv_at hl 0 rfl) ?_
    refine zg_O_judge (r := 0) C hK hW (zvd_3 (by decide) (by decide)) zk_499 zd_O_count_197 ?_
    refine lv_aload_n C.1 C.2.1 zd_O_count_200 rfl (lv_at hl 0 rfl) ?_
    refine zg_O_now (r := 0) C hK hW (zvd_3 (by decide) (by decide)) zk_492 zd_O_count_201 ?_
    obtain ⟨a20, S21, ea20, hf⟩ := zbd_some hf
    refine zcVi (As := [.ref (B.2.1 0 (0) (0))]) (rest := []) C hK hSt hW hS (zc_J_countVoters hap (0) (by decide) S ea20) zq_J_countVoters zk_684 (zrecv hK hW (zvd_3 (by decide) (by decide)) (ze_3_7 B _ (0)) rfl) ⟨rfl, rfl, by decide, by decide⟩ ⟨Nat.zero_le _, Nat.zero_le _⟩ rfl hl.1 rfl (lv_room (Nat.le_of_ble_eq_true rfl)) zd_O_count_204 (fun na20 H locs hW hS => ?_)
    cases hf
    exact zre_i C hr hlk hK hW hS na20 zd_O_count_207
  rw [if_neg c19] at hf
  by_cases c22 : x1 = 13
  · rw [if_pos c22] at hf
    refine zr_tab (off := 207) (tgt := 208) C nx1 zd_O_count_1 (by omega) (by omega) (by rw [c22]; rfl) (by decide) ?_
    refine lv_aload_n C.1 C.2.1 zd_O_count_208 rfl (lv_at hl 0 rfl) ?_
    refine zg_O_now (r := 0) C hK hW (zvd_3 (by decide) (by decide)) zk_492 zd_O_count_209 ?_
    refine zg_I_people (r := 0) C hK hW (zvd_0 (by decide) (by decide)) zk_280 zd_O_count_212 ?_
    refine lv_aload_n C.1 C.2.1 zd_O_count_215 rfl (lv_at hl 0 rfl) ?_
    refine zg_O_now (r := 0) C hK hW (zvd_3 (by decide) (by decide)) zk_492 zd_O_count_216 ?_
    refine zg_I_week (r := 0) C hK hW (zvd_0 (by decide) (by decide)) zk_242 zd_O_count_219 ?_
    obtain ⟨a23, S24, ea23, hf⟩ := zbd_some hf
    refine zcVi (As := [.int (zI (S 0 0 0 0))]) (rest := []) C hK hSt hW hS (zc_P_needOfAll hap (0) (by decide) (S 0 0 0 0) S (zWn hW _ _ _ _ rfl) ea23) zq_P_needOfAll zk_1115 (zrecv hK hW (zvd_0 (by decide) (by decide)) (ze_0_6 B _ (0)) rfl) ⟨rfl, rfl, by decide, by decide⟩ ⟨Nat.zero_le _, Nat.zero_le _⟩ rfl hl.1 rfl (lv_room (Nat.le_of_ble_eq_true rfl)) zd_O_count_222 (fun na23 H locs hW hS => ?_)
    cases hf
    exact zre_i C hr hlk hK hW hS na23 zd_O_count_225
  rw [if_neg c22] at hf
  by_cases c25 : x1 = 14
  · rw [if_pos c25] at hf
    refine zr_tab (off := 225) (tgt := 226) C nx1 zd_O_count_1 (by omega) (by omega) (by rw [c25]; rfl) (by decide) ?_
    refine lv_aload_n C.1 C.2.1 zd_O_count_226 rfl (lv_at hl 0 rfl) ?_
    refine zg_O_now (r := 0) C hK hW (zvd_3 (by decide) (by decide)) zk_492 zd_O_count_227 ?_
    refine zg_I_landed (r := 0) C hK hW (zvd_0 (by decide) (by decide)) zk_261 zd_O_count_230 ?_
    refine zr_if_ge (tgt := 241) C (zWn hW _ _ _ _ rfl) zd_O_count_233 (by decide) (fun c26 => ?_) (fun c26 => ?_)
    · rw [if_pos c26] at hf
      refine lv_aload_n C.1 C.2.1 zd_O_count_241 rfl (lv_at hl 0 rfl) ?_
      refine zg_O_now (r := 0) C hK hW (zvd_3 (by decide) (by decide)) zk_492 zd_O_count_242 ?_
      refine zg_I_landed (r := 0) C hK hW (zvd_0 (by decide) (by decide)) zk_261 zd_O_count_245 ?_
      cases hf
      exact zre_i C hr hlk hK hW hS (zWn hW _ _ _ _ rfl) zd_O_count_248
    · rw [if_neg c26] at hf
      refine zr_bipush C zd_O_count_236 (by decide) ?_
      refine lv_goto (tgt := 248) C.1 C.2.1 zd_O_count_238 (by decide) ?_
      cases hf
      exact zre_i C hr hlk hK hW hS (znb rfl) zd_O_count_248
  rw [if_neg c25] at hf
  refine zr_tabo (tgt := 249) C nx1 zd_O_count_1 (by omega) (by decide) ?_
  refine zr_iconst C zd_O_count_249 ?_
  cases hf
  exact zre_i C hr hlk hK hW hS (znb rfl) zd_O_count_250

theorem zc_O_count {l : Launch} {B : zB} (hap : zAp B) (x1 : Int) (S : Sg) (nx1 : zn x1) {res : Int} {S9 : Sg} (hf : zf_O_count x1 S = some (res, S9)) : Met l zy_O_count (Cond.code zy_O_count zb_O_count 2 (some .int) :: zT) zm_O_count (zP B S [.ref (B.2.1 3 (0) (0)), .int (zI (x1))]) (zQi B res S9) 0 0 B.2.2.2 :=
  zmet (by decide) (Nat.le_of_ble_eq_true rfl) (fun p e s m args below meth c C hr hlk hK hSt hW ls hl => zw_O_count C hr hlk hK hSt hap   x1 S nx1 hf _ _ _ hW va_S.rf hl)
/-! IslandOffice$Shelf.takeLaw(LIslandOffice$Laws;I)V -/
abbrev zy_S_takeLaw : MethodName := ⟨"IslandOffice$Shelf", "takeLaw", "(LIslandOffice$Laws;I)V"⟩
abbrev zb_S_takeLaw : ByteArray := prog_10_method_3_code
abbrev zm_S_takeLaw : Room := { frames := 0, cells := 0, slots := 0, locals := 0 }
theorem zq_S_takeLaw : zMy zy_S_takeLaw zb_S_takeLaw 3 (none) 2 := ⟨zk_1123, zk_1121, zk_1122, zk_9, by decide, by decide, by decide +kernel⟩
theorem zd_S_takeLaw_0 : decode zb_S_takeLaw 0 = .ok (.aload_n 0, 1) := by decide +kernel
theorem zd_S_takeLaw_1 : decode zb_S_takeLaw 1 = .ok (.iconst 2, 1) := by decide +kernel
theorem zd_S_takeLaw_2 : decode zb_S_takeLaw 2 = .ok (.putfield 11, 3) := by decide +kernel
theorem zd_S_takeLaw_5 : decode zb_S_takeLaw 5 = .ok (.aload_n 0, 1) := by decide +kernel
theorem zd_S_takeLaw_6 : decode zb_S_takeLaw 6 = .ok (.iload_n 2, 1) := by decide +kernel
theorem zd_S_takeLaw_7 : decode zb_S_takeLaw 7 = .ok (.putfield 21, 3) := by decide +kernel
theorem zd_S_takeLaw_10 : decode zb_S_takeLaw 10 = .ok (.aload_n 0, 1) := by decide +kernel
theorem zd_S_takeLaw_11 : decode zb_S_takeLaw 11 = .ok (.sipush 1000, 3) := by decide +kernel
theorem zd_S_takeLaw_14 : decode zb_S_takeLaw 14 = .ok (.aload_n 1, 1) := by decide +kernel
theorem zd_S_takeLaw_15 : decode zb_S_takeLaw 15 = .ok (.getfield 53, 3) := by decide +kernel
theorem zd_S_takeLaw_18 : decode zb_S_takeLaw 18 = .ok (.iload_n 2, 1) := by decide +kernel
theorem zd_S_takeLaw_19 : decode zb_S_takeLaw 19 = .ok (.iaload, 1) := by decide +kernel
theorem zd_S_takeLaw_20 : decode zb_S_takeLaw 20 = .ok (.iadd, 1) := by decide +kernel
theorem zd_S_takeLaw_21 : decode zb_S_takeLaw 21 = .ok (.aload_n 1, 1) := by decide +kernel
theorem zd_S_takeLaw_22 : decode zb_S_takeLaw 22 = .ok (.getfield 58, 3) := by decide +kernel
theorem zd_S_takeLaw_25 : decode zb_S_takeLaw 25 = .ok (.iload_n 2, 1) := by decide +kernel
theorem zd_S_takeLaw_26 : decode zb_S_takeLaw 26 = .ok (.iaload, 1) := by decide +kernel
theorem zd_S_takeLaw_27 : decode zb_S_takeLaw 27 = .ok (.iadd, 1) := by decide +kernel
theorem zd_S_takeLaw_28 : decode zb_S_takeLaw 28 = .ok (.putfield 15, 3) := by decide +kernel
theorem zd_S_takeLaw_31 : decode zb_S_takeLaw 31 = .ok (.aload_n 0, 1) := by decide +kernel
theorem zd_S_takeLaw_32 : decode zb_S_takeLaw 32 = .ok (.aload_n 1, 1) := by decide +kernel
theorem zd_S_takeLaw_33 : decode zb_S_takeLaw 33 = .ok (.getfield 61, 3) := by decide +kernel
theorem zd_S_takeLaw_36 : decode zb_S_takeLaw 36 = .ok (.iload_n 2, 1) := by decide +kernel
theorem zd_S_takeLaw_37 : decode zb_S_takeLaw 37 = .ok (.iaload, 1) := by decide +kernel
theorem zd_S_takeLaw_38 : decode zb_S_takeLaw 38 = .ok (.putfield 18, 3) := by decide +kernel
theorem zd_S_takeLaw_41 : decode zb_S_takeLaw 41 = .ok (.return_, 1) := by decide +kernel

def zf_S_takeLaw (r0 : Int) (r1 : Int) (x2 : Int) (S : Sg) : Option (Int × Sg) :=
    zlt (zu S 2 r0 0 0 2) fun S1 => zlt (zu S1 2 r0 0 3 x2) fun S2 => zck (0 ≤ x2 ∧ x2 < 12) <| zlt (zu S2 2 r0 0 1 (zw ((zw (1000 + (S2 0 r1 17 x2))) + (S2 0 r1 24 x2)))) fun S4 => zlt (zu S4 2 r0 0 2 (S4 0 r1 20 x2)) fun S5 => some (0, S5)
set_option maxHeartbeats 4000000 in
set_option maxRecDepth 100000 in
theorem zw_S_takeLaw {p : Program} {l : Launch} {e : Env} {s : State} {m : MethodId} {args : Array Value} {below : List Frame} {meth : Method} {c : Code} {B : zB} (C : CallFix p m c zb_S_takeLaw 3 s args zT "IslandOffice$Shelf") (hr : meth.sig.returnType = none) (hlk : meth.locks = false) (hK : zK B s) (hSt : zSt B s) (hap : zAp B) (r0 : Int) (r1 : Int) (hr0 : 0 ≤ r0 ∧ r0 < 8) (hr1 : 0 ≤ r1 ∧ r1 < 3) {res : Int} {S9 : Sg} : ∀ (x2 : Int) (S : Sg) (nx2 : zn x2), zf_S_takeLaw r0 r1 x2 S = some (res, S9) → ∀ (H : Heap) (locs : List Loc) (ls : Array Slot), zW B S H → va_S B.2.2.2 s.heap H locs → lv_has ls 3 [(0, .ref (B.2.1 2 (r0) (0))), (1, .ref (B.2.1 0 (r1) (16))), (2, .int (zI (x2)))] → W p l e zm_S_takeLaw s m args below meth c H locs 0 0 (MQ below (zQv B S9) args s 0 0 B.2.2.2) (F0 m 0 ls []) := by
  intro x2 S nx2 hf H locs ls hW hS hl
  unfold zf_S_takeLaw at hf
  refine lv_aload_n C.1 C.2.1 zd_S_takeLaw_0 rfl (lv_at hl 0 rfl) ?_
  refine zr_iconst C zd_S_takeLaw_1 ?_
  obtain ⟨S1, eS1, hf⟩ := zlt_some hf
  refine zp_S_holds (r := r0) C hK hap hW hS (zvd_2 hr0 (by decide)) zk_343 (znb rfl) zd_S_takeLaw_2 (fun H locs hW hS => ?_)
  rw [eS1] at hW
  refine lv_aload_n C.1 C.2.1 zd_S_takeLaw_5 rfl (lv_at hl 0 rfl) ?_
  refine lv_iload_n C.1 C.2.1 zd_S_takeLaw_6 rfl (lv_at hl 2 rfl) ?_
  obtain ⟨S2, eS2, hf⟩ := zlt_some hf
  refine zp_S_number (r := r0) C hK hap hW hS (zvd_2 hr0 (by decide)) zk_349 nx2 zd_S_takeLaw_7 (fun H locs hW hS => ?_)
  rw [eS2] at hW
  refine lv_aload_n C.1 C.2.1 zd_S_takeLaw_10 rfl (lv_at hl 0 rfl) ?_
  refine zr_sipush C zd_S_takeLaw_11 (by decide) ?_
  refine lv_aload_n C.1 C.2.1 zd_S_takeLaw_14 rfl (lv_at hl 1 rfl) ?_
  refine zg_L_subject (r := r1) C hK hW (zvd_0 hr1 (by decide)) zk_118 zd_S_takeLaw_15 ?_
  refine lv_iload_n C.1 C.2.1 zd_S_takeLaw_18 rfl (lv_at hl 2 rfl) ?_
  obtain ⟨h3, hf⟩ := zck_some hf
  refine ziald C hK hW (zvd_0 hr1 (by decide)) (fun f => ze_0_17 B f (r1)) (by decide) h3 zd_S_takeLaw_19 ?_
  refine zr_iadd C zd_S_takeLaw_20 ?_
  refine lv_aload_n C.1 C.2.1 zd_S_takeLaw_21 rfl (lv_at hl 1 rfl) ?_
  refine zg_L_textSize (r := r1) C hK hW (zvd_0 hr1 (by decide)) zk_133 zd_S_takeLaw_22 ?_
  refine lv_iload_n C.1 C.2.1 zd_S_takeLaw_25 rfl (lv_at hl 2 rfl) ?_
  refine ziald C hK hW (zvd_0 hr1 (by decide)) (fun f => ze_0_24 B f (r1)) (by decide) h3 zd_S_takeLaw_26 ?_
  refine zr_iadd C zd_S_takeLaw_27 ?_
  obtain ⟨S4, eS4, hf⟩ := zlt_some hf
  refine zp_S_heft (r := r0) C hK hap hW hS (zvd_2 hr0 (by decide)) zk_345 (zn_w _) zd_S_takeLaw_28 (fun H locs hW hS => ?_)
  rw [eS4] at hW
  refine lv_aload_n C.1 C.2.1 zd_S_takeLaw_31 rfl (lv_at hl 0 rfl) ?_
  refine lv_aload_n C.1 C.2.1 zd_S_takeLaw_32 rfl (lv_at hl 1 rfl) ?_
  refine zg_L_voters (r := r1) C hK hW (zvd_0 hr1 (by decide)) zk_125 zd_S_takeLaw_33 ?_
  refine lv_iload_n C.1 C.2.1 zd_S_takeLaw_36 rfl (lv_at hl 2 rfl) ?_
  refine ziald C hK hW (zvd_0 hr1 (by decide)) (fun f => ze_0_20 B f (r1)) (by decide) h3 zd_S_takeLaw_37 ?_
  obtain ⟨S5, eS5, hf⟩ := zlt_some hf
  refine zp_S_failure (r := r0) C hK hap hW hS (zvd_2 hr0 (by decide)) zk_347 (zWn hW _ _ _ _ rfl) zd_S_takeLaw_38 (fun H locs hW hS => ?_)
  rw [eS5] at hW
  cases hf
  exact zre_v C hr hlk hK hW hS zd_S_takeLaw_41

theorem zc_S_takeLaw {l : Launch} {B : zB} (hap : zAp B) (r0 : Int) (r1 : Int) (hr0 : 0 ≤ r0 ∧ r0 < 8) (hr1 : 0 ≤ r1 ∧ r1 < 3) (x2 : Int) (S : Sg) (nx2 : zn x2) {res : Int} {S9 : Sg} (hf : zf_S_takeLaw r0 r1 x2 S = some (res, S9)) : Met l zy_S_takeLaw (Cond.code zy_S_takeLaw zb_S_takeLaw 3 (none) :: zT) zm_S_takeLaw (zP B S [.ref (B.2.1 2 (r0) (0)), .ref (B.2.1 0 (r1) (16)), .int (zI (x2))]) (zQv B S9) 0 0 B.2.2.2 :=
  zmet (by decide) (Nat.le_of_ble_eq_true rfl) (fun p e s m args below meth c C hr hlk hK hSt hW ls hl => zw_S_takeLaw C hr hlk hK hSt hap r0 r1 hr0 hr1 x2 S nx2 hf _ _ _ hW va_S.rf hl)
/-! IslandOffice$Shelf.takePerson(LIslandOffice$People;II)V -/
abbrev zy_S_takePerson : MethodName := ⟨"IslandOffice$Shelf", "takePerson", "(LIslandOffice$People;II)V"⟩
abbrev zb_S_takePerson : ByteArray := prog_10_method_2_code
abbrev zm_S_takePerson : Room := { frames := 1, cells := 0, slots := 0, locals := 23 }
theorem zq_S_takePerson : zMy zy_S_takePerson zb_S_takePerson 5 (none) 3 := ⟨zk_1127, zk_1125, zk_1126, zk_9, by decide, by decide, by decide +kernel⟩
theorem zd_S_takePerson_0 : decode zb_S_takePerson 0 = .ok (.aload_n 1, 1) := by decide +kernel
theorem zd_S_takePerson_1 : decode zb_S_takePerson 1 = .ok (.iload_n 2, 1) := by decide +kernel
theorem zd_S_takePerson_2 : decode zb_S_takePerson 2 = .ok (.iload_n 3, 1) := by decide +kernel
theorem zd_S_takePerson_3 : decode zb_S_takePerson 3 = .ok (.invokevirtual 34, 3) := by decide +kernel
theorem zd_S_takePerson_6 : decode zb_S_takePerson 6 = .ok (.istore 4, 2) := by decide +kernel
theorem zd_S_takePerson_8 : decode zb_S_takePerson 8 = .ok (.aload_n 0, 1) := by decide +kernel
theorem zd_S_takePerson_9 : decode zb_S_takePerson 9 = .ok (.iconst 1, 1) := by decide +kernel
theorem zd_S_takePerson_10 : decode zb_S_takePerson 10 = .ok (.putfield 11, 3) := by decide +kernel
theorem zd_S_takePerson_13 : decode zb_S_takePerson 13 = .ok (.aload_n 0, 1) := by decide +kernel
theorem zd_S_takePerson_14 : decode zb_S_takePerson 14 = .ok (.iload_n 2, 1) := by decide +kernel
theorem zd_S_takePerson_15 : decode zb_S_takePerson 15 = .ok (.putfield 21, 3) := by decide +kernel
theorem zd_S_takePerson_18 : decode zb_S_takePerson 18 = .ok (.aload_n 0, 1) := by decide +kernel
theorem zd_S_takePerson_19 : decode zb_S_takePerson 19 = .ok (.bipush 10, 2) := by decide +kernel
theorem zd_S_takePerson_21 : decode zb_S_takePerson 21 = .ok (.iload 4, 2) := by decide +kernel
theorem zd_S_takePerson_23 : decode zb_S_takePerson 23 = .ok (.iconst 0, 1) := by decide +kernel
theorem zd_S_takePerson_24 : decode zb_S_takePerson 24 = .ok (.invokestatic 40, 3) := by decide +kernel
theorem zd_S_takePerson_27 : decode zb_S_takePerson 27 = .ok (.iadd, 1) := by decide +kernel
theorem zd_S_takePerson_28 : decode zb_S_takePerson 28 = .ok (.iload 4, 2) := by decide +kernel
theorem zd_S_takePerson_30 : decode zb_S_takePerson 30 = .ok (.iconst 0, 1) := by decide +kernel
theorem zd_S_takePerson_31 : decode zb_S_takePerson 31 = .ok (.invokestatic 44, 3) := by decide +kernel
theorem zd_S_takePerson_34 : decode zb_S_takePerson 34 = .ok (.iadd, 1) := by decide +kernel
theorem zd_S_takePerson_35 : decode zb_S_takePerson 35 = .ok (.iload 4, 2) := by decide +kernel
theorem zd_S_takePerson_37 : decode zb_S_takePerson 37 = .ok (.iadd, 1) := by decide +kernel
theorem zd_S_takePerson_38 : decode zb_S_takePerson 38 = .ok (.putfield 15, 3) := by decide +kernel
theorem zd_S_takePerson_41 : decode zb_S_takePerson 41 = .ok (.aload_n 0, 1) := by decide +kernel
theorem zd_S_takePerson_42 : decode zb_S_takePerson 42 = .ok (.iload 4, 2) := by decide +kernel
theorem zd_S_takePerson_44 : decode zb_S_takePerson 44 = .ok (.iconst 3, 1) := by decide +kernel
theorem zd_S_takePerson_45 : decode zb_S_takePerson 45 = .ok (.if_icmp .ne 8, 3) := by decide +kernel
theorem zd_S_takePerson_48 : decode zb_S_takePerson 48 = .ok (.bipush (-15), 2) := by decide +kernel
theorem zd_S_takePerson_50 : decode zb_S_takePerson 50 = .ok (.goto 9, 3) := by decide +kernel
theorem zd_S_takePerson_53 : decode zb_S_takePerson 53 = .ok (.aload_n 1, 1) := by decide +kernel
theorem zd_S_takePerson_54 : decode zb_S_takePerson 54 = .ok (.getfield 47, 3) := by decide +kernel
theorem zd_S_takePerson_57 : decode zb_S_takePerson 57 = .ok (.iload_n 2, 1) := by decide +kernel
theorem zd_S_takePerson_58 : decode zb_S_takePerson 58 = .ok (.iaload, 1) := by decide +kernel
theorem zd_S_takePerson_59 : decode zb_S_takePerson 59 = .ok (.putfield 18, 3) := by decide +kernel
theorem zd_S_takePerson_62 : decode zb_S_takePerson 62 = .ok (.iload 4, 2) := by decide +kernel
theorem zd_S_takePerson_64 : decode zb_S_takePerson 64 = .ok (.iconst 1, 1) := by decide +kernel
theorem zd_S_takePerson_65 : decode zb_S_takePerson 65 = .ok (.if_icmp .ne 18, 3) := by decide +kernel
theorem zd_S_takePerson_68 : decode zb_S_takePerson 68 = .ok (.aload_n 0, 1) := by decide +kernel
theorem zd_S_takePerson_69 : decode zb_S_takePerson 69 = .ok (.dup, 1) := by decide +kernel
theorem zd_S_takePerson_70 : decode zb_S_takePerson 70 = .ok (.getfield 15, 3) := by decide +kernel
theorem zd_S_takePerson_73 : decode zb_S_takePerson 73 = .ok (.aload_n 1, 1) := by decide +kernel
theorem zd_S_takePerson_74 : decode zb_S_takePerson 74 = .ok (.iload_n 2, 1) := by decide +kernel
theorem zd_S_takePerson_75 : decode zb_S_takePerson 75 = .ok (.iload_n 3, 1) := by decide +kernel
theorem zd_S_takePerson_76 : decode zb_S_takePerson 76 = .ok (.invokevirtual 50, 3) := by decide +kernel
theorem zd_S_takePerson_79 : decode zb_S_takePerson 79 = .ok (.iadd, 1) := by decide +kernel
theorem zd_S_takePerson_80 : decode zb_S_takePerson 80 = .ok (.putfield 15, 3) := by decide +kernel
theorem zd_S_takePerson_83 : decode zb_S_takePerson 83 = .ok (.iload 4, 2) := by decide +kernel
theorem zd_S_takePerson_85 : decode zb_S_takePerson 85 = .ok (.iconst 5, 1) := by decide +kernel
theorem zd_S_takePerson_86 : decode zb_S_takePerson 86 = .ok (.if_icmp .ne 24, 3) := by decide +kernel
theorem zd_S_takePerson_89 : decode zb_S_takePerson 89 = .ok (.aload_n 0, 1) := by decide +kernel
theorem zd_S_takePerson_90 : decode zb_S_takePerson 90 = .ok (.dup, 1) := by decide +kernel
theorem zd_S_takePerson_91 : decode zb_S_takePerson 91 = .ok (.getfield 15, 3) := by decide +kernel
theorem zd_S_takePerson_94 : decode zb_S_takePerson 94 = .ok (.iconst 2, 1) := by decide +kernel
theorem zd_S_takePerson_95 : decode zb_S_takePerson 95 = .ok (.imul, 1) := by decide +kernel
theorem zd_S_takePerson_96 : decode zb_S_takePerson 96 = .ok (.putfield 15, 3) := by decide +kernel
theorem zd_S_takePerson_99 : decode zb_S_takePerson 99 = .ok (.aload_n 0, 1) := by decide +kernel
theorem zd_S_takePerson_100 : decode zb_S_takePerson 100 = .ok (.dup, 1) := by decide +kernel
theorem zd_S_takePerson_101 : decode zb_S_takePerson 101 = .ok (.getfield 18, 3) := by decide +kernel
theorem zd_S_takePerson_104 : decode zb_S_takePerson 104 = .ok (.bipush 100, 2) := by decide +kernel
theorem zd_S_takePerson_106 : decode zb_S_takePerson 106 = .ok (.iadd, 1) := by decide +kernel
theorem zd_S_takePerson_107 : decode zb_S_takePerson 107 = .ok (.putfield 18, 3) := by decide +kernel
theorem zd_S_takePerson_110 : decode zb_S_takePerson 110 = .ok (.return_, 1) := by decide +kernel

def zf_S_takePerson_83 (r0 : Int) (r1 : Int) (x4 : Int) (S : Sg) : Option (Int × Sg) :=
    if x4 = 5 then (zlt (zu S 2 r0 0 1 (zw ((S 2 r0 0 1) * 2))) fun S2 => zlt (zu S2 2 r0 0 2 (zw ((S2 2 r0 0 2) + 100))) fun S3 => some (0, S3)) else (some (0, S))
set_option maxHeartbeats 4000000 in
set_option maxRecDepth 100000 in
theorem zw_S_takePerson_83 {p : Program} {l : Launch} {e : Env} {s : State} {m : MethodId} {args : Array Value} {below : List Frame} {meth : Method} {c : Code} {B : zB} (C : CallFix p m c zb_S_takePerson 5 s args zT "IslandOffice$Shelf") (hr : meth.sig.returnType = none) (hlk : meth.locks = false) (hK : zK B s) (hSt : zSt B s) (hap : zAp B) (r0 : Int) (r1 : Int) (hr0 : 0 ≤ r0 ∧ r0 < 8) (hr1 : 0 ≤ r1 ∧ r1 < 3) {res : Int} {S9 : Sg} : ∀ (x4 : Int) (S : Sg) (nx4 : zn x4), zf_S_takePerson_83 r0 r1 x4 S = some (res, S9) → ∀ (H : Heap) (locs : List Loc) (ls : Array Slot), zW B S H → va_S B.2.2.2 s.heap H locs → lv_has ls 5 [(0, .ref (B.2.1 2 (r0) (0))), (4, .int (zI (x4)))] → W p l e zm_S_takePerson s m args below meth c H locs 0 0 (MQ below (zQv B S9) args s 0 0 B.2.2.2) (F0 m 83 ls []) := by
  intro x4 S nx4 hf H locs ls hW hS hl
  unfold zf_S_takePerson_83 at hf
  refine lv_iload C.1 C.2.1 zd_S_takePerson_83 (lv_at hl 1 rfl) ?_
  refine zr_iconst C zd_S_takePerson_85 ?_
  refine zr_icmp_ne (tgt := 110) C nx4 (znb rfl) zd_S_takePerson_86 (by decide) (fun c1 => ?_) (fun c1 => ?_)
  · rw [if_neg c1] at hf
    cases hf
    exact zre_v C hr hlk hK hW hS zd_S_takePerson_110
  · rw [if_pos c1] at hf
    refine lv_aload_n C.1 C.2.1 zd_S_takePerson_89 rfl (lv_at hl 0 rfl) ?_
    refine lv_dup C.1 C.2.1 zd_S_takePerson_90 rfl ?_
    refine zg_S_heft (r := r0) C hK hW (zvd_2 hr0 (by decide)) zk_345 zd_S_takePerson_91 ?_
    refine zr_iconst C zd_S_takePerson_94 ?_
    refine zr_imul C zd_S_takePerson_95 ?_
    obtain ⟨S2, eS2, hf⟩ := zlt_some hf
    refine zp_S_heft (r := r0) C hK hap hW hS (zvd_2 hr0 (by decide)) zk_345 (zn_w _) zd_S_takePerson_96 (fun H locs hW hS => ?_)
    rw [eS2] at hW
    refine lv_aload_n C.1 C.2.1 zd_S_takePerson_99 rfl (lv_at hl 0 rfl) ?_
    refine lv_dup C.1 C.2.1 zd_S_takePerson_100 rfl ?_
    refine zg_S_failure (r := r0) C hK hW (zvd_2 hr0 (by decide)) zk_347 zd_S_takePerson_101 ?_
    refine zr_bipush C zd_S_takePerson_104 (by decide) ?_
    refine zr_iadd C zd_S_takePerson_106 ?_
    obtain ⟨S3, eS3, hf⟩ := zlt_some hf
    refine zp_S_failure (r := r0) C hK hap hW hS (zvd_2 hr0 (by decide)) zk_347 (zn_w _) zd_S_takePerson_107 (fun H locs hW hS => ?_)
    rw [eS3] at hW
    cases hf
    exact zre_v C hr hlk hK hW hS zd_S_takePerson_110

def zf_S_takePerson_59 (r0 : Int) (r1 : Int) (x2 : Int) (x3 : Int) (x4 : Int) (xt1 : Int) (S : Sg) : Option (Int × Sg) :=
    zlt (zu S 2 r0 0 2 xt1) fun S1 => if x4 = 1 then (zbd (zf_P_age (r1) x2 x3 S1) fun a3 S4 => zlt (zu S4 2 r0 0 1 (zw ((S1 2 r0 0 1) + a3))) fun S6 => zf_S_takePerson_83 r0 r1 (x4) S6) else (zf_S_takePerson_83 r0 r1 (x4) S1)
set_option maxHeartbeats 4000000 in
set_option maxRecDepth 100000 in
theorem zw_S_takePerson_59 {p : Program} {l : Launch} {e : Env} {s : State} {m : MethodId} {args : Array Value} {below : List Frame} {meth : Method} {c : Code} {B : zB} (C : CallFix p m c zb_S_takePerson 5 s args zT "IslandOffice$Shelf") (hr : meth.sig.returnType = none) (hlk : meth.locks = false) (hK : zK B s) (hSt : zSt B s) (hap : zAp B) (r0 : Int) (r1 : Int) (hr0 : 0 ≤ r0 ∧ r0 < 8) (hr1 : 0 ≤ r1 ∧ r1 < 3) {res : Int} {S9 : Sg} : ∀ (x2 : Int) (x3 : Int) (x4 : Int) (xt1 : Int) (S : Sg) (nx2 : zn x2) (nx3 : zn x3) (nx4 : zn x4) (nxt1 : zn xt1), zf_S_takePerson_59 r0 r1 x2 x3 x4 xt1 S = some (res, S9) → ∀ (H : Heap) (locs : List Loc) (ls : Array Slot), zW B S H → va_S B.2.2.2 s.heap H locs → lv_has ls 5 [(0, .ref (B.2.1 2 (r0) (0))), (1, .ref (B.2.1 0 (r1) (6))), (2, .int (zI (x2))), (3, .int (zI (x3))), (4, .int (zI (x4)))] → W p l e zm_S_takePerson s m args below meth c H locs 0 0 (MQ below (zQv B S9) args s 0 0 B.2.2.2) (F0 m 59 ls [.int (zI (xt1)), .ref (B.2.1 2 (r0) (0))]) := by
  intro x2 x3 x4 xt1 S nx2 nx3 nx4 nxt1 hf H locs ls hW hS hl
  unfold zf_S_takePerson_59 at hf
  obtain ⟨S1, eS1, hf⟩ := zlt_some hf
  refine zp_S_failure (r := r0) C hK hap hW hS (zvd_2 hr0 (by decide)) zk_347 nxt1 zd_S_takePerson_59 (fun H locs hW hS => ?_)
  rw [eS1] at hW
  refine lv_iload C.1 C.2.1 zd_S_takePerson_62 (lv_at hl 4 rfl) ?_
  refine zr_iconst C zd_S_takePerson_64 ?_
  refine zr_icmp_ne (tgt := 83) C nx4 (znb rfl) zd_S_takePerson_65 (by decide) (fun c2 => ?_) (fun c2 => ?_)
  · rw [if_neg c2] at hf
    exact zw_S_takePerson_83 C hr hlk hK hSt hap r0 r1 hr0 hr1 (x4) S1 nx4 hf _ _ _ hW hS (lv_sub hl [0, 4] rfl)
  · rw [if_pos c2] at hf
    refine lv_aload_n C.1 C.2.1 zd_S_takePerson_68 rfl (lv_at hl 0 rfl) ?_
    refine lv_dup C.1 C.2.1 zd_S_takePerson_69 rfl ?_
    refine zg_S_heft (r := r0) C hK hW (zvd_2 hr0 (by decide)) zk_345 zd_S_takePerson_70 ?_
    refine lv_aload_n C.1 C.2.1 zd_S_takePerson_73 rfl (lv_at hl 1 rfl) ?_
    refine lv_iload_n C.1 C.2.1 zd_S_takePerson_74 rfl (lv_at hl 2 rfl) ?_
    refine lv_iload_n C.1 C.2.1 zd_S_takePerson_75 rfl (lv_at hl 3 rfl) ?_
    have w5 : zn (S1 2 r0 0 1) := (zWn hW _ _ _ _ rfl)
    obtain ⟨a3, S4, ea3, hf⟩ := zbd_some hf
    refine zcVi (As := [.int (zI (x2)), .int (zI (x3))]) (rest := [.int (zI (S1 2 r0 0 1)), .ref (B.2.1 2 (r0) (0))]) C hK hSt hW hS (zc_P_age hap (r1) hr1 x2 x3 S1 nx2 nx3 ea3) zq_P_age zk_1131 (zrecv hK hW (zvd_0 hr1 (by decide)) (ze_0_6 B _ (r1)) rfl) ⟨rfl, rfl, by decide, by decide⟩ ⟨Nat.zero_le _, Nat.zero_le _⟩ rfl hl.1 rfl (lv_room (Nat.le_of_ble_eq_true rfl)) zd_S_takePerson_76 (fun na3 H locs hW hS => ?_)
    refine zr_iadd C zd_S_takePerson_79 ?_
    obtain ⟨S6, eS6, hf⟩ := zlt_some hf
    refine zp_S_heft (r := r0) C hK hap hW hS (zvd_2 hr0 (by decide)) zk_345 (zn_w _) zd_S_takePerson_80 (fun H locs hW hS => ?_)
    rw [eS6] at hW
    exact zw_S_takePerson_83 C hr hlk hK hSt hap r0 r1 hr0 hr1 (x4) S6 nx4 hf _ _ _ hW hS (lv_sub hl [0, 4] rfl)

def zf_S_takePerson (r0 : Int) (r1 : Int) (x2 : Int) (x3 : Int) (S : Sg) : Option (Int × Sg) :=
    zbd (zf_P_kind (r1) x2 x3 S) fun a1 S2 => zlt (zu S2 2 r0 0 0 1) fun S3 => zlt (zu S3 2 r0 0 3 x2) fun S4 => zbd (zf_P_needOf a1 0 S4) fun a5 S6 => zbd (zf_P_wageOf a1 0 S6) fun a7 S8 => zlt (zu S8 2 r0 0 1 (zw ((zw ((zw (10 + a5)) + a7)) + a1))) fun S9 => if a1 = 3 then (zf_S_takePerson_59 r0 r1 (x2) (x3) (a1) (-15) S9) else (zck (0 ≤ x2 ∧ x2 < 40) <| zf_S_takePerson_59 r0 r1 (x2) (x3) (a1) (S9 0 r1 8 x2) S9)
set_option maxHeartbeats 4000000 in
set_option maxRecDepth 100000 in
theorem zw_S_takePerson {p : Program} {l : Launch} {e : Env} {s : State} {m : MethodId} {args : Array Value} {below : List Frame} {meth : Method} {c : Code} {B : zB} (C : CallFix p m c zb_S_takePerson 5 s args zT "IslandOffice$Shelf") (hr : meth.sig.returnType = none) (hlk : meth.locks = false) (hK : zK B s) (hSt : zSt B s) (hap : zAp B) (r0 : Int) (r1 : Int) (hr0 : 0 ≤ r0 ∧ r0 < 8) (hr1 : 0 ≤ r1 ∧ r1 < 3) {res : Int} {S9 : Sg} : ∀ (x2 : Int) (x3 : Int) (S : Sg) (nx2 : zn x2) (nx3 : zn x3), zf_S_takePerson r0 r1 x2 x3 S = some (res, S9) → ∀ (H : Heap) (locs : List Loc) (ls : Array Slot), zW B S H → va_S B.2.2.2 s.heap H locs → lv_has ls 5 [(0, .ref (B.2.1 2 (r0) (0))), (1, .ref (B.2.1 0 (r1) (6))), (2, .int (zI (x2))), (3, .int (zI (x3)))] → W p l e zm_S_takePerson s m args below meth c H locs 0 0 (MQ below (zQv B S9) args s 0 0 B.2.2.2) (F0 m 0 ls []) := by
  intro x2 x3 S nx2 nx3 hf H locs ls hW hS hl
  unfold zf_S_takePerson at hf
  refine lv_aload_n C.1 C.2.1 zd_S_takePerson_0 rfl (lv_at hl 1 rfl) ?_
  refine lv_iload_n C.1 C.2.1 zd_S_takePerson_1 rfl (lv_at hl 2 rfl) ?_
  refine lv_iload_n C.1 C.2.1 zd_S_takePerson_2 rfl (lv_at hl 3 rfl) ?_
  obtain ⟨a1, S2, ea1, hf⟩ := zbd_some hf
  refine zcVi (As := [.int (zI (x2)), .int (zI (x3))]) (rest := []) C hK hSt hW hS (zc_P_kind hap (r1) hr1 x2 x3 S nx2 nx3 ea1) zq_P_kind zk_1128 (zrecv hK hW (zvd_0 hr1 (by decide)) (ze_0_6 B _ (r1)) rfl) ⟨rfl, rfl, by decide, by decide⟩ ⟨Nat.zero_le _, Nat.zero_le _⟩ rfl hl.1 rfl (lv_room (Nat.le_of_ble_eq_true rfl)) zd_S_takePerson_3 (fun na1 H locs hW hS => ?_)
  refine lv_istore (lv' := [(4, .int (zI (a1))), (0, .ref (B.2.1 2 (r0) (0))), (1, .ref (B.2.1 0 (r1) (6))), (2, .int (zI (x2))), (3, .int (zI (x3)))]) C.1 C.2.1 zd_S_takePerson_6 hl (by decide) rfl (fun ls hl => ?_)
  refine lv_aload_n C.1 C.2.1 zd_S_takePerson_8 rfl (lv_at hl 1 rfl) ?_
  refine zr_iconst C zd_S_takePerson_9 ?_
  obtain ⟨S3, eS3, hf⟩ := zlt_some hf
  refine zp_S_holds (r := r0) C hK hap hW hS (zvd_2 hr0 (by decide)) zk_343 (znb rfl) zd_S_takePerson_10 (fun H locs hW hS => ?_)
  rw [eS3] at hW
  refine lv_aload_n C.1 C.2.1 zd_S_takePerson_13 rfl (lv_at hl 1 rfl) ?_
  refine lv_iload_n C.1 C.2.1 zd_S_takePerson_14 rfl (lv_at hl 3 rfl) ?_
  obtain ⟨S4, eS4, hf⟩ := zlt_some hf
  refine zp_S_number (r := r0) C hK hap hW hS (zvd_2 hr0 (by decide)) zk_349 nx2 zd_S_takePerson_15 (fun H locs hW hS => ?_)
  rw [eS4] at hW
  refine lv_aload_n C.1 C.2.1 zd_S_takePerson_18 rfl (lv_at hl 1 rfl) ?_
  refine zr_bipush C zd_S_takePerson_19 (by decide) ?_
  refine lv_iload C.1 C.2.1 zd_S_takePerson_21 (lv_at hl 0 rfl) ?_
  refine zr_iconst C zd_S_takePerson_23 ?_
  obtain ⟨a5, S6, ea5, hf⟩ := zbd_some hf
  refine zcSi (As := [.int (zI (a1)), .int (zI (0))]) (rest := [.int (zI (10)), .ref (B.2.1 2 (r0) (0))]) C hK hSt hW hS (zc_P_needOf hap a1 0 S4 na1 (znb rfl) ea5) zq_P_needOf zk_1129 ⟨rfl, rfl, by decide, by decide⟩ ⟨Nat.zero_le _, Nat.zero_le _⟩ rfl hl.1 rfl (lv_room (Nat.le_of_ble_eq_true rfl)) zd_S_takePerson_24 (fun na5 H locs hW hS => ?_)
  refine zr_iadd C zd_S_takePerson_27 ?_
  refine lv_iload C.1 C.2.1 zd_S_takePerson_28 (lv_at hl 0 rfl) ?_
  refine zr_iconst C zd_S_takePerson_30 ?_
  obtain ⟨a7, S8, ea7, hf⟩ := zbd_some hf
  refine zcSi (As := [.int (zI (a1)), .int (zI (0))]) (rest := [.int (zI (zw (10 + a5))), .ref (B.2.1 2 (r0) (0))]) C hK hSt hW hS (zc_P_wageOf hap a1 0 S6 na1 (znb rfl) ea7) zq_P_wageOf zk_1130 ⟨rfl, rfl, by decide, by decide⟩ ⟨Nat.zero_le _, Nat.zero_le _⟩ rfl hl.1 rfl (lv_room (Nat.le_of_ble_eq_true rfl)) zd_S_takePerson_31 (fun na7 H locs hW hS => ?_)
  refine zr_iadd C zd_S_takePerson_34 ?_
  refine lv_iload C.1 C.2.1 zd_S_takePerson_35 (lv_at hl 0 rfl) ?_
  refine zr_iadd C zd_S_takePerson_37 ?_
  obtain ⟨S9, eS9, hf⟩ := zlt_some hf
  refine zp_S_heft (r := r0) C hK hap hW hS (zvd_2 hr0 (by decide)) zk_345 (zn_w _) zd_S_takePerson_38 (fun H locs hW hS => ?_)
  rw [eS9] at hW
  refine lv_aload_n C.1 C.2.1 zd_S_takePerson_41 rfl (lv_at hl 1 rfl) ?_
  refine lv_iload C.1 C.2.1 zd_S_takePerson_42 (lv_at hl 0 rfl) ?_
  refine zr_iconst C zd_S_takePerson_44 ?_
  refine zr_icmp_ne (tgt := 53) C na1 (znb rfl) zd_S_takePerson_45 (by decide) (fun c10 => ?_) (fun c10 => ?_)
  · rw [if_neg c10] at hf
    refine lv_aload_n C.1 C.2.1 zd_S_takePerson_53 rfl (lv_at hl 2 rfl) ?_
    refine zg_P_house (r := r1) C hK hW (zvd_0 hr1 (by decide)) zk_59 zd_S_takePerson_54 ?_
    refine lv_iload_n C.1 C.2.1 zd_S_takePerson_57 rfl (lv_at hl 3 rfl) ?_
    obtain ⟨h11, hf⟩ := zck_some hf
    refine ziald C hK hW (zvd_0 hr1 (by decide)) (fun f => ze_0_8 B f (r1)) (by decide) h11 zd_S_takePerson_58 ?_
    exact zw_S_takePerson_59 C hr hlk hK hSt hap r0 r1 hr0 hr1 (x2) (x3) (a1) (S9 0 r1 8 x2) S9 nx2 nx3 na1 (zWn hW _ _ _ _ rfl) hf _ _ _ hW hS (lv_sub hl [1, 2, 3, 4, 0] rfl)
  · rw [if_pos c10] at hf
    refine zr_bipush C zd_S_takePerson_48 (by decide) ?_
    refine lv_goto (tgt := 59) C.1 C.2.1 zd_S_takePerson_50 (by decide) ?_
    exact zw_S_takePerson_59 C hr hlk hK hSt hap r0 r1 hr0 hr1 (x2) (x3) (a1) (-15) S9 nx2 nx3 na1 (znb rfl) hf _ _ _ hW hS (lv_sub hl [1, 2, 3, 4, 0] rfl)

theorem zc_S_takePerson {l : Launch} {B : zB} (hap : zAp B) (r0 : Int) (r1 : Int) (hr0 : 0 ≤ r0 ∧ r0 < 8) (hr1 : 0 ≤ r1 ∧ r1 < 3) (x2 : Int) (x3 : Int) (S : Sg) (nx2 : zn x2) (nx3 : zn x3) {res : Int} {S9 : Sg} (hf : zf_S_takePerson r0 r1 x2 x3 S = some (res, S9)) : Met l zy_S_takePerson (Cond.code zy_S_takePerson zb_S_takePerson 5 (none) :: zT) zm_S_takePerson (zP B S [.ref (B.2.1 2 (r0) (0)), .ref (B.2.1 0 (r1) (6)), .int (zI (x2)), .int (zI (x3))]) (zQv B S9) 0 0 B.2.2.2 :=
  zmet (by decide) (Nat.le_of_ble_eq_true rfl) (fun p e s m args below meth c C hr hlk hK hSt hW ls hl => zw_S_takePerson C hr hlk hK hSt hap r0 r1 hr0 hr1 x2 x3 S nx2 nx3 hf _ _ _ hW va_S.rf hl)
/-! IslandOffice.keep(III)I -/
abbrev zy_O_keep : MethodName := ⟨"IslandOffice", "keep", "(III)I"⟩
abbrev zb_O_keep : ByteArray := prog_1_method_40_code
abbrev zm_O_keep : Room := { frames := 2, cells := 0, slots := 0, locals := 47 }
theorem zq_O_keep : zMy zy_O_keep zb_O_keep 4 (some .int) 3 := ⟨zk_1119, zk_1117, zk_1118, zk_1, by decide, by decide, by decide +kernel⟩
theorem zd_O_keep_0 : decode zb_O_keep 0 = .ok (.iload_n 1, 1) := by decide +kernel
theorem zd_O_keep_1 : decode zb_O_keep 1 = .ok (.invokestatic 151, 3) := by decide +kernel
theorem zd_O_keep_4 : decode zb_O_keep 4 = .ok (.ifCond .eq 12, 3) := by decide +kernel
theorem zd_O_keep_7 : decode zb_O_keep 7 = .ok (.iload_n 2, 1) := by decide +kernel
theorem zd_O_keep_8 : decode zb_O_keep 8 = .ok (.ifCond .lt 8, 3) := by decide +kernel
theorem zd_O_keep_11 : decode zb_O_keep 11 = .ok (.iload_n 2, 1) := by decide +kernel
theorem zd_O_keep_12 : decode zb_O_keep 12 = .ok (.iconst 2, 1) := by decide +kernel
theorem zd_O_keep_13 : decode zb_O_keep 13 = .ok (.if_icmp .le 5, 3) := by decide +kernel
theorem zd_O_keep_16 : decode zb_O_keep 16 = .ok (.iconst (-1), 1) := by decide +kernel
theorem zd_O_keep_17 : decode zb_O_keep 17 = .ok (.ireturn, 1) := by decide +kernel
theorem zd_O_keep_18 : decode zb_O_keep 18 = .ok (.iload_n 2, 1) := by decide +kernel
theorem zd_O_keep_19 : decode zb_O_keep 19 = .ok (.ifCond .ne 15, 3) := by decide +kernel
theorem zd_O_keep_22 : decode zb_O_keep 22 = .ok (.aload_n 0, 1) := by decide +kernel
theorem zd_O_keep_23 : decode zb_O_keep 23 = .ok (.getfield 36, 3) := by decide +kernel
theorem zd_O_keep_26 : decode zb_O_keep 26 = .ok (.iload_n 1, 1) := by decide +kernel
theorem zd_O_keep_27 : decode zb_O_keep 27 = .ok (.aaload, 1) := by decide +kernel
theorem zd_O_keep_28 : decode zb_O_keep 28 = .ok (.iconst 0, 1) := by decide +kernel
theorem zd_O_keep_29 : decode zb_O_keep 29 = .ok (.putfield 154, 3) := by decide +kernel
theorem zd_O_keep_32 : decode zb_O_keep 32 = .ok (.iconst 0, 1) := by decide +kernel
theorem zd_O_keep_33 : decode zb_O_keep 33 = .ok (.ireturn, 1) := by decide +kernel
theorem zd_O_keep_34 : decode zb_O_keep 34 = .ok (.iload_n 2, 1) := by decide +kernel
theorem zd_O_keep_35 : decode zb_O_keep 35 = .ok (.iconst 2, 1) := by decide +kernel
theorem zd_O_keep_36 : decode zb_O_keep 36 = .ok (.if_icmp .ne 38, 3) := by decide +kernel
theorem zd_O_keep_39 : decode zb_O_keep 39 = .ok (.aload_n 0, 1) := by decide +kernel
theorem zd_O_keep_40 : decode zb_O_keep 40 = .ok (.getfield 16, 3) := by decide +kernel
theorem zd_O_keep_43 : decode zb_O_keep 43 = .ok (.getfield 178, 3) := by decide +kernel
theorem zd_O_keep_46 : decode zb_O_keep 46 = .ok (.iload_n 3, 1) := by decide +kernel
theorem zd_O_keep_47 : decode zb_O_keep 47 = .ok (.invokevirtual 188, 3) := by decide +kernel
theorem zd_O_keep_50 : decode zb_O_keep 50 = .ok (.ifCond .ne 5, 3) := by decide +kernel
theorem zd_O_keep_53 : decode zb_O_keep 53 = .ok (.iconst (-1), 1) := by decide +kernel
theorem zd_O_keep_54 : decode zb_O_keep 54 = .ok (.ireturn, 1) := by decide +kernel
theorem zd_O_keep_55 : decode zb_O_keep 55 = .ok (.aload_n 0, 1) := by decide +kernel
theorem zd_O_keep_56 : decode zb_O_keep 56 = .ok (.getfield 36, 3) := by decide +kernel
theorem zd_O_keep_59 : decode zb_O_keep 59 = .ok (.iload_n 1, 1) := by decide +kernel
theorem zd_O_keep_60 : decode zb_O_keep 60 = .ok (.aaload, 1) := by decide +kernel
theorem zd_O_keep_61 : decode zb_O_keep 61 = .ok (.aload_n 0, 1) := by decide +kernel
theorem zd_O_keep_62 : decode zb_O_keep 62 = .ok (.getfield 16, 3) := by decide +kernel
theorem zd_O_keep_65 : decode zb_O_keep 65 = .ok (.getfield 178, 3) := by decide +kernel
theorem zd_O_keep_68 : decode zb_O_keep 68 = .ok (.iload_n 3, 1) := by decide +kernel
theorem zd_O_keep_69 : decode zb_O_keep 69 = .ok (.invokevirtual 355, 3) := by decide +kernel
theorem zd_O_keep_72 : decode zb_O_keep 72 = .ok (.iconst 0, 1) := by decide +kernel
theorem zd_O_keep_73 : decode zb_O_keep 73 = .ok (.ireturn, 1) := by decide +kernel
theorem zd_O_keep_74 : decode zb_O_keep 74 = .ok (.aload_n 0, 1) := by decide +kernel
theorem zd_O_keep_75 : decode zb_O_keep 75 = .ok (.getfield 16, 3) := by decide +kernel
theorem zd_O_keep_78 : decode zb_O_keep 78 = .ok (.getfield 81, 3) := by decide +kernel
theorem zd_O_keep_81 : decode zb_O_keep 81 = .ok (.iload_n 3, 1) := by decide +kernel
theorem zd_O_keep_82 : decode zb_O_keep 82 = .ok (.invokevirtual 85, 3) := by decide +kernel
theorem zd_O_keep_85 : decode zb_O_keep 85 = .ok (.ifCond .ne 5, 3) := by decide +kernel
theorem zd_O_keep_88 : decode zb_O_keep 88 = .ok (.iconst (-1), 1) := by decide +kernel
theorem zd_O_keep_89 : decode zb_O_keep 89 = .ok (.ireturn, 1) := by decide +kernel
theorem zd_O_keep_90 : decode zb_O_keep 90 = .ok (.aload_n 0, 1) := by decide +kernel
theorem zd_O_keep_91 : decode zb_O_keep 91 = .ok (.getfield 16, 3) := by decide +kernel
theorem zd_O_keep_94 : decode zb_O_keep 94 = .ok (.getfield 81, 3) := by decide +kernel
theorem zd_O_keep_97 : decode zb_O_keep 97 = .ok (.getfield 108, 3) := by decide +kernel
theorem zd_O_keep_100 : decode zb_O_keep 100 = .ok (.iload_n 3, 1) := by decide +kernel
theorem zd_O_keep_101 : decode zb_O_keep 101 = .ok (.iaload, 1) := by decide +kernel
theorem zd_O_keep_102 : decode zb_O_keep 102 = .ok (.iconst 2, 1) := by decide +kernel
theorem zd_O_keep_103 : decode zb_O_keep 103 = .ok (.if_icmp .ne 6, 3) := by decide +kernel
theorem zd_O_keep_106 : decode zb_O_keep 106 = .ok (.bipush (-3), 2) := by decide +kernel
theorem zd_O_keep_108 : decode zb_O_keep 108 = .ok (.ireturn, 1) := by decide +kernel
theorem zd_O_keep_109 : decode zb_O_keep 109 = .ok (.aload_n 0, 1) := by decide +kernel
theorem zd_O_keep_110 : decode zb_O_keep 110 = .ok (.getfield 36, 3) := by decide +kernel
theorem zd_O_keep_113 : decode zb_O_keep 113 = .ok (.iload_n 1, 1) := by decide +kernel
theorem zd_O_keep_114 : decode zb_O_keep 114 = .ok (.aaload, 1) := by decide +kernel
theorem zd_O_keep_115 : decode zb_O_keep 115 = .ok (.aload_n 0, 1) := by decide +kernel
theorem zd_O_keep_116 : decode zb_O_keep 116 = .ok (.getfield 16, 3) := by decide +kernel
theorem zd_O_keep_119 : decode zb_O_keep 119 = .ok (.getfield 81, 3) := by decide +kernel
theorem zd_O_keep_122 : decode zb_O_keep 122 = .ok (.iload_n 3, 1) := by decide +kernel
theorem zd_O_keep_123 : decode zb_O_keep 123 = .ok (.aload_n 0, 1) := by decide +kernel
theorem zd_O_keep_124 : decode zb_O_keep 124 = .ok (.getfield 16, 3) := by decide +kernel
theorem zd_O_keep_127 : decode zb_O_keep 127 = .ok (.getfield 94, 3) := by decide +kernel
theorem zd_O_keep_130 : decode zb_O_keep 130 = .ok (.invokevirtual 359, 3) := by decide +kernel
theorem zd_O_keep_133 : decode zb_O_keep 133 = .ok (.iconst 0, 1) := by decide +kernel
theorem zd_O_keep_134 : decode zb_O_keep 134 = .ok (.ireturn, 1) := by decide +kernel

def zf_O_keep (x1 : Int) (x2 : Int) (x3 : Int) (S : Sg) : Option (Int × Sg) :=
    zbd (zf_O_isShelf x1 S) fun a1 S2 => if a1 = 0 then (some (-1, S2)) else (if x2 < 0 then (some (-1, S2)) else (if x2 ≤ 2 then (if x2 = 0 then (zck (0 ≤ x1 ∧ x1 < 8) <| zlt (zu S2 2 x1 0 0 0) fun S23 => some (0, S23)) else (if x2 = 2 then (zbd (zf_L_has (0) x3 S2) fun a16 S17 => if a16 = 0 then (some (-1, S17)) else (zck (0 ≤ x1 ∧ x1 < 8) <| zbd (zf_S_takeLaw (x1) (0) x3 S17) fun a20 S21 => some (0, S21))) else (zbd (zf_P_has (0) x3 S2) fun a8 S9 => if a8 = 0 then (some (-1, S9)) else (zck (0 ≤ x3 ∧ x3 < 40) <| if (S9 0 0 11 x3) = 2 then (some (-3, S9)) else (zck (0 ≤ x1 ∧ x1 < 8) <| zbd (zf_S_takePerson (x1) (0) x3 (S9 0 0 0 0) S9) fun a14 S15 => some (0, S15)))))) else (some (-1, S2))))
set_option maxHeartbeats 4000000 in
set_option maxRecDepth 100000 in
theorem zw_O_keep {p : Program} {l : Launch} {e : Env} {s : State} {m : MethodId} {args : Array Value} {below : List Frame} {meth : Method} {c : Code} {B : zB} (C : CallFix p m c zb_O_keep 4 s args zT "IslandOffice") (hr : meth.sig.returnType = some .int) (hlk : meth.locks = false) (hK : zK B s) (hSt : zSt B s) (hap : zAp B) {res : Int} {S9 : Sg} : ∀ (x1 : Int) (x2 : Int) (x3 : Int) (S : Sg) (nx1 : zn x1) (nx2 : zn x2) (nx3 : zn x3), zf_O_keep x1 x2 x3 S = some (res, S9) → ∀ (H : Heap) (locs : List Loc) (ls : Array Slot), zW B S H → va_S B.2.2.2 s.heap H locs → lv_has ls 4 [(0, .ref (B.2.1 3 (0) (0))), (1, .int (zI (x1))), (2, .int (zI (x2))), (3, .int (zI (x3)))] → W p l e zm_O_keep s m args below meth c H locs 0 0 (MQ below (zQi B res S9) args s 0 0 B.2.2.2) (F0 m 0 ls []) := by
  intro x1 x2 x3 S nx1 nx2 nx3 hf H locs ls hW hS hl
  unfold zf_O_keep at hf
  refine lv_iload_n C.1 C.2.1 zd_O_keep_0 rfl (lv_at hl 1 rfl) ?_
  obtain ⟨a1, S2, ea1, hf⟩ := zbd_some hf
  refine zcSi (As := [.int (zI (x1))]) (rest := []) C hK hSt hW hS (zc_O_isShelf hap x1 S nx1 ea1) zq_O_isShelf zk_612 ⟨rfl, rfl, by decide, by decide⟩ ⟨Nat.zero_le _, Nat.zero_le _⟩ rfl hl.1 rfl (lv_room (Nat.le_of_ble_eq_true rfl)) zd_O_keep_1 (fun na1 H locs hW hS => ?_)
  refine zr_if_eq (tgt := 16) C na1 zd_O_keep_4 (by decide) (fun c3 => ?_) (fun c3 => ?_)
  · rw [if_pos c3] at hf
    refine zr_iconst C zd_O_keep_16 ?_
    cases hf
    exact zre_i C hr hlk hK hW hS (znb rfl) zd_O_keep_17
  · rw [if_neg c3] at hf
    refine lv_iload_n C.1 C.2.1 zd_O_keep_7 rfl (lv_at hl 2 rfl) ?_
    refine zr_if_lt (tgt := 16) C nx2 zd_O_keep_8 (by decide) (fun c4 => ?_) (fun c4 => ?_)
    · rw [if_pos c4] at hf
      refine zr_iconst C zd_O_keep_16 ?_
      cases hf
      exact zre_i C hr hlk hK hW hS (znb rfl) zd_O_keep_17
    · rw [if_neg c4] at hf
      refine lv_iload_n C.1 C.2.1 zd_O_keep_11 rfl (lv_at hl 2 rfl) ?_
      refine zr_iconst C zd_O_keep_12 ?_
      refine zr_icmp_le (tgt := 18) C nx2 (znb rfl) zd_O_keep_13 (by decide) (fun c5 => ?_) (fun c5 => ?_)
      · rw [if_pos c5] at hf
        refine lv_iload_n C.1 C.2.1 zd_O_keep_18 rfl (lv_at hl 2 rfl) ?_
        refine zr_if_ne (tgt := 34) C nx2 zd_O_keep_19 (by decide) (fun c6 => ?_) (fun c6 => ?_)
        · rw [if_neg c6] at hf
          refine lv_iload_n C.1 C.2.1 zd_O_keep_34 rfl (lv_at hl 2 rfl) ?_
          refine zr_iconst C zd_O_keep_35 ?_
          refine zr_icmp_ne (tgt := 74) C nx2 (znb rfl) zd_O_keep_36 (by decide) (fun c7 => ?_) (fun c7 => ?_)
          · rw [if_neg c7] at hf
            refine lv_aload_n C.1 C.2.1 zd_O_keep_74 rfl (lv_at hl 0 rfl) ?_
            refine zg_O_now (r := 0) C hK hW (zvd_3 (by decide) (by decide)) zk_492 zd_O_keep_75 ?_
            refine zg_I_people (r := 0) C hK hW (zvd_0 (by decide) (by decide)) zk_280 zd_O_keep_78 ?_
            refine lv_iload_n C.1 C.2.1 zd_O_keep_81 rfl (lv_at hl 3 rfl) ?_
            obtain ⟨a8, S9, ea8, hf⟩ := zbd_some hf
            refine zcVi (As := [.int (zI (x3))]) (rest := []) C hK hSt hW hS (zc_P_has hap (0) (by decide) x3 S2 nx3 ea8) zq_P_has zk_537 (zrecv hK hW (zvd_0 (by decide) (by decide)) (ze_0_6 B _ (0)) rfl) ⟨rfl, rfl, by decide, by decide⟩ ⟨Nat.zero_le _, Nat.zero_le _⟩ rfl hl.1 rfl (lv_room (Nat.le_of_ble_eq_true rfl)) zd_O_keep_82 (fun na8 H locs hW hS => ?_)
            refine zr_if_ne (tgt := 90) C na8 zd_O_keep_85 (by decide) (fun c10 => ?_) (fun c10 => ?_)
            · rw [if_neg c10] at hf
              refine lv_aload_n C.1 C.2.1 zd_O_keep_90 rfl (lv_at hl 0 rfl) ?_
              refine zg_O_now (r := 0) C hK hW (zvd_3 (by decide) (by decide)) zk_492 zd_O_keep_91 ?_
              refine zg_I_people (r := 0) C hK hW (zvd_0 (by decide) (by decide)) zk_280 zd_O_keep_94 ?_
              refine zg_P_state (r := 0) C hK hW (zvd_0 (by decide) (by decide)) zk_73 zd_O_keep_97 ?_
              refine lv_iload_n C.1 C.2.1 zd_O_keep_100 rfl (lv_at hl 3 rfl) ?_
              obtain ⟨h11, hf⟩ := zck_some hf
              refine ziald C hK hW (zvd_0 (by decide) (by decide)) (fun f => ze_0_11 B f (0)) (by decide) h11 zd_O_keep_101 ?_
              refine zr_iconst C zd_O_keep_102 ?_
              refine zr_icmp_ne (tgt := 109) C (zWn hW _ _ _ _ rfl) (znb rfl) zd_O_keep_103 (by decide) (fun c12 => ?_) (fun c12 => ?_)
              · rw [if_neg c12] at hf
                refine lv_aload_n C.1 C.2.1 zd_O_keep_109 rfl (lv_at hl 0 rfl) ?_
                refine zg_O_shelves (r := 0) C hK hW (zvd_3 (by decide) (by decide)) zk_497 zd_O_keep_110 ?_
                refine lv_iload_n C.1 C.2.1 zd_O_keep_113 rfl (lv_at hl 1 rfl) ?_
                obtain ⟨h13, hf⟩ := zck_some hf
                refine zaald (t0 := 3) C hK hW (zvd_3 (by decide) (by decide)) (fun f => ze_3_3 B f (0)) rfl rfl (by decide) h13 zd_O_keep_114 (a := B.2.1 2 (x1) (0)) (by rw [Int.toNat_of_nonneg h13.1]) ?_
                refine lv_aload_n C.1 C.2.1 zd_O_keep_115 rfl (lv_at hl 0 rfl) ?_
                refine zg_O_now (r := 0) C hK hW (zvd_3 (by decide) (by decide)) zk_492 zd_O_keep_116 ?_
                refine zg_I_people (r := 0) C hK hW (zvd_0 (by decide) (by decide)) zk_280 zd_O_keep_119 ?_
                refine lv_iload_n C.1 C.2.1 zd_O_keep_122 rfl (lv_at hl 3 rfl) ?_
                refine lv_aload_n C.1 C.2.1 zd_O_keep_123 rfl (lv_at hl 0 rfl) ?_
                refine zg_O_now (r := 0) C hK hW (zvd_3 (by decide) (by decide)) zk_492 zd_O_keep_124 ?_
                refine zg_I_week (r := 0) C hK hW (zvd_0 (by decide) (by decide)) zk_242 zd_O_keep_127 ?_
                obtain ⟨a14, S15, ea14, hf⟩ := zbd_some hf
                refine zcVv (As := [.ref (B.2.1 0 (0) (6)), .int (zI (x3)), .int (zI (S9 0 0 0 0))]) (rest := []) C hK hSt hW hS (zc_S_takePerson hap (x1) (0) h13 (by decide) x3 (S9 0 0 0 0) S9 nx3 (zWn hW _ _ _ _ rfl) ea14) zq_S_takePerson zk_1124 (zrecv hK hW (zvd_2 h13 (by decide)) (ze_2_0 B _ (x1)) rfl) ⟨rfl, rfl, by decide, by decide⟩ ⟨Nat.zero_le _, Nat.zero_le _⟩ rfl hl.1 rfl (lv_room (Nat.le_of_ble_eq_true rfl)) zd_O_keep_130 (fun H locs hW hS => ?_)
                refine zr_iconst C zd_O_keep_133 ?_
                cases hf
                exact zre_i C hr hlk hK hW hS (znb rfl) zd_O_keep_134
              · rw [if_pos c12] at hf
                refine zr_bipush C zd_O_keep_106 (by decide) ?_
                cases hf
                exact zre_i C hr hlk hK hW hS (znb rfl) zd_O_keep_108
            · rw [if_pos c10] at hf
              refine zr_iconst C zd_O_keep_88 ?_
              cases hf
              exact zre_i C hr hlk hK hW hS (znb rfl) zd_O_keep_89
          · rw [if_pos c7] at hf
            refine lv_aload_n C.1 C.2.1 zd_O_keep_39 rfl (lv_at hl 0 rfl) ?_
            refine zg_O_now (r := 0) C hK hW (zvd_3 (by decide) (by decide)) zk_492 zd_O_keep_40 ?_
            refine zg_I_laws (r := 0) C hK hW (zvd_0 (by decide) (by decide)) zk_285 zd_O_keep_43 ?_
            refine lv_iload_n C.1 C.2.1 zd_O_keep_46 rfl (lv_at hl 3 rfl) ?_
            obtain ⟨a16, S17, ea16, hf⟩ := zbd_some hf
            refine zcVi (As := [.int (zI (x3))]) (rest := []) C hK hSt hW hS (zc_L_has hap (0) (by decide) x3 S2 nx3 ea16) zq_L_has zk_740 (zrecv hK hW (zvd_0 (by decide) (by decide)) (ze_0_16 B _ (0)) rfl) ⟨rfl, rfl, by decide, by decide⟩ ⟨Nat.zero_le _, Nat.zero_le _⟩ rfl hl.1 rfl (lv_room (Nat.le_of_ble_eq_true rfl)) zd_O_keep_47 (fun na16 H locs hW hS => ?_)
            refine zr_if_ne (tgt := 55) C na16 zd_O_keep_50 (by decide) (fun c18 => ?_) (fun c18 => ?_)
            · rw [if_neg c18] at hf
              refine lv_aload_n C.1 C.2.1 zd_O_keep_55 rfl (lv_at hl 0 rfl) ?_
              refine zg_O_shelves (r := 0) C hK hW (zvd_3 (by decide) (by decide)) zk_497 zd_O_keep_56 ?_
              refine lv_iload_n C.1 C.2.1 zd_O_keep_59 rfl (lv_at hl 1 rfl) ?_
              obtain ⟨h19, hf⟩ := zck_some hf
              refine zaald (t0 := 3) C hK hW (zvd_3 (by decide) (by decide)) (fun f => ze_3_3 B f (0)) rfl rfl (by decide) h19 zd_O_keep_60 (a := B.2.1 2 (x1) (0)) (by rw [Int.toNat_of_nonneg h19.1]) ?_
              refine lv_aload_n C.1 C.2.1 zd_O_keep_61 rfl (lv_at hl 0 rfl) ?_
              refine zg_O_now (r := 0) C hK hW (zvd_3 (by decide) (by decide)) zk_492 zd_O_keep_62 ?_
              refine zg_I_laws (r := 0) C hK hW (zvd_0 (by decide) (by decide)) zk_285 zd_O_keep_65 ?_
              refine lv_iload_n C.1 C.2.1 zd_O_keep_68 rfl (lv_at hl 3 rfl) ?_
              obtain ⟨a20, S21, ea20, hf⟩ := zbd_some hf
              refine zcVv (As := [.ref (B.2.1 0 (0) (16)), .int (zI (x3))]) (rest := []) C hK hSt hW hS (zc_S_takeLaw hap (x1) (0) h19 (by decide) x3 S17 nx3 ea20) zq_S_takeLaw zk_1120 (zrecv hK hW (zvd_2 h19 (by decide)) (ze_2_0 B _ (x1)) rfl) ⟨rfl, rfl, by decide, by decide⟩ ⟨Nat.zero_le _, Nat.zero_le _⟩ rfl hl.1 rfl (lv_room (Nat.le_of_ble_eq_true rfl)) zd_O_keep_69 (fun H locs hW hS => ?_)
              refine zr_iconst C zd_O_keep_72 ?_
              cases hf
              exact zre_i C hr hlk hK hW hS (znb rfl) zd_O_keep_73
            · rw [if_pos c18] at hf
              refine zr_iconst C zd_O_keep_53 ?_
              cases hf
              exact zre_i C hr hlk hK hW hS (znb rfl) zd_O_keep_54
        · rw [if_pos c6] at hf
          refine lv_aload_n C.1 C.2.1 zd_O_keep_22 rfl (lv_at hl 0 rfl) ?_
          refine zg_O_shelves (r := 0) C hK hW (zvd_3 (by decide) (by decide)) zk_497 zd_O_keep_23 ?_
          refine lv_iload_n C.1 C.2.1 zd_O_keep_26 rfl (lv_at hl 1 rfl) ?_
          obtain ⟨h22, hf⟩ := zck_some hf
          refine zaald (t0 := 3) C hK hW (zvd_3 (by decide) (by decide)) (fun f => ze_3_3 B f (0)) rfl rfl (by decide) h22 zd_O_keep_27 (a := B.2.1 2 (x1) (0)) (by rw [Int.toNat_of_nonneg h22.1]) ?_
          refine zr_iconst C zd_O_keep_28 ?_
          obtain ⟨S23, eS23, hf⟩ := zlt_some hf
          refine zp_S_holds (r := x1) C hK hap hW hS (zvd_2 h22 (by decide)) zk_344 (znb rfl) zd_O_keep_29 (fun H locs hW hS => ?_)
          rw [eS23] at hW
          refine zr_iconst C zd_O_keep_32 ?_
          cases hf
          exact zre_i C hr hlk hK hW hS (znb rfl) zd_O_keep_33
      · rw [if_neg c5] at hf
        refine zr_iconst C zd_O_keep_16 ?_
        cases hf
        exact zre_i C hr hlk hK hW hS (znb rfl) zd_O_keep_17

theorem zc_O_keep {l : Launch} {B : zB} (hap : zAp B) (x1 : Int) (x2 : Int) (x3 : Int) (S : Sg) (nx1 : zn x1) (nx2 : zn x2) (nx3 : zn x3) {res : Int} {S9 : Sg} (hf : zf_O_keep x1 x2 x3 S = some (res, S9)) : Met l zy_O_keep (Cond.code zy_O_keep zb_O_keep 4 (some .int) :: zT) zm_O_keep (zP B S [.ref (B.2.1 3 (0) (0)), .int (zI (x1)), .int (zI (x2)), .int (zI (x3))]) (zQi B res S9) 0 0 B.2.2.2 :=
  zmet (by decide) (Nat.le_of_ble_eq_true rfl) (fun p e s m args below meth c C hr hlk hK hSt hW ls hl => zw_O_keep C hr hlk hK hSt hap   x1 x2 x3 S nx1 nx2 nx3 hf _ _ _ hW va_S.rf hl)
/-! IslandOffice$Shelf.takeRow(II)V -/
abbrev zy_S_takeRow : MethodName := ⟨"IslandOffice$Shelf", "takeRow", "(II)V"⟩
abbrev zb_S_takeRow : ByteArray := prog_10_method_4_code
abbrev zm_S_takeRow : Room := { frames := 1, cells := 0, slots := 0, locals := 23 }
theorem zq_S_takeRow : zMy zy_S_takeRow zb_S_takeRow 3 (none) 2 := ⟨zk_1139, zk_1137, zk_1138, zk_9, by decide, by decide, by decide +kernel⟩
theorem zd_S_takeRow_0 : decode zb_S_takeRow 0 = .ok (.aload_n 0, 1) := by decide +kernel
theorem zd_S_takeRow_1 : decode zb_S_takeRow 1 = .ok (.iconst 3, 1) := by decide +kernel
theorem zd_S_takeRow_2 : decode zb_S_takeRow 2 = .ok (.putfield 11, 3) := by decide +kernel
theorem zd_S_takeRow_5 : decode zb_S_takeRow 5 = .ok (.aload_n 0, 1) := by decide +kernel
theorem zd_S_takeRow_6 : decode zb_S_takeRow 6 = .ok (.iload_n 1, 1) := by decide +kernel
theorem zd_S_takeRow_7 : decode zb_S_takeRow 7 = .ok (.putfield 24, 3) := by decide +kernel
theorem zd_S_takeRow_10 : decode zb_S_takeRow 10 = .ok (.aload_n 0, 1) := by decide +kernel
theorem zd_S_takeRow_11 : decode zb_S_takeRow 11 = .ok (.iload_n 2, 1) := by decide +kernel
theorem zd_S_takeRow_12 : decode zb_S_takeRow 12 = .ok (.putfield 27, 3) := by decide +kernel
theorem zd_S_takeRow_15 : decode zb_S_takeRow 15 = .ok (.aload_n 0, 1) := by decide +kernel
theorem zd_S_takeRow_16 : decode zb_S_takeRow 16 = .ok (.getfield 30, 3) := by decide +kernel
theorem zd_S_takeRow_19 : decode zb_S_takeRow 19 = .ok (.iconst 0, 1) := by decide +kernel
theorem zd_S_takeRow_20 : decode zb_S_takeRow 20 = .ok (.invokestatic 64, 3) := by decide +kernel
theorem zd_S_takeRow_23 : decode zb_S_takeRow 23 = .ok (.return_, 1) := by decide +kernel

def zf_S_takeRow (r0 : Int) (x1 : Int) (x2 : Int) (S : Sg) : Option (Int × Sg) :=
    zlt (zu S 2 r0 0 0 3) fun S1 => zlt (zu S1 2 r0 0 4 x1) fun S2 => zlt (zu S2 2 r0 0 5 x2) fun S3 => zbd (zf_Ja_fill 2 (r0) (1) 120 0 S3) fun a4 S5 => some (0, S5)
set_option maxHeartbeats 4000000 in
set_option maxRecDepth 100000 in
theorem zw_S_takeRow {p : Program} {l : Launch} {e : Env} {s : State} {m : MethodId} {args : Array Value} {below : List Frame} {meth : Method} {c : Code} {B : zB} (C : CallFix p m c zb_S_takeRow 3 s args zT "IslandOffice$Shelf") (hr : meth.sig.returnType = none) (hlk : meth.locks = false) (hK : zK B s) (hSt : zSt B s) (hap : zAp B) (r0 : Int) (hr0 : 0 ≤ r0 ∧ r0 < 8) {res : Int} {S9 : Sg} : ∀ (x1 : Int) (x2 : Int) (S : Sg) (nx1 : zn x1) (nx2 : zn x2), zf_S_takeRow r0 x1 x2 S = some (res, S9) → ∀ (H : Heap) (locs : List Loc) (ls : Array Slot), zW B S H → va_S B.2.2.2 s.heap H locs → lv_has ls 3 [(0, .ref (B.2.1 2 (r0) (0))), (1, .int (zI (x1))), (2, .int (zI (x2)))] → W p l e zm_S_takeRow s m args below meth c H locs 0 0 (MQ below (zQv B S9) args s 0 0 B.2.2.2) (F0 m 0 ls []) := by
  intro x1 x2 S nx1 nx2 hf H locs ls hW hS hl
  unfold zf_S_takeRow at hf
  refine lv_aload_n C.1 C.2.1 zd_S_takeRow_0 rfl (lv_at hl 0 rfl) ?_
  refine zr_iconst C zd_S_takeRow_1 ?_
  obtain ⟨S1, eS1, hf⟩ := zlt_some hf
  refine zp_S_holds (r := r0) C hK hap hW hS (zvd_2 hr0 (by decide)) zk_343 (znb rfl) zd_S_takeRow_2 (fun H locs hW hS => ?_)
  rw [eS1] at hW
  refine lv_aload_n C.1 C.2.1 zd_S_takeRow_5 rfl (lv_at hl 0 rfl) ?_
  refine lv_iload_n C.1 C.2.1 zd_S_takeRow_6 rfl (lv_at hl 1 rfl) ?_
  obtain ⟨S2, eS2, hf⟩ := zlt_some hf
  refine zp_S_sort (r := r0) C hK hap hW hS (zvd_2 hr0 (by decide)) zk_351 nx1 zd_S_takeRow_7 (fun H locs hW hS => ?_)
  rw [eS2] at hW
  refine lv_aload_n C.1 C.2.1 zd_S_takeRow_10 rfl (lv_at hl 0 rfl) ?_
  refine lv_iload_n C.1 C.2.1 zd_S_takeRow_11 rfl (lv_at hl 2 rfl) ?_
  obtain ⟨S3, eS3, hf⟩ := zlt_some hf
  refine zp_S_size (r := r0) C hK hap hW hS (zvd_2 hr0 (by decide)) zk_353 nx2 zd_S_takeRow_12 (fun H locs hW hS => ?_)
  rw [eS3] at hW
  refine lv_aload_n C.1 C.2.1 zd_S_takeRow_15 rfl (lv_at hl 0 rfl) ?_
  refine zg_S_cell (r := r0) C hK hW (zvd_2 hr0 (by decide)) zk_355 zd_S_takeRow_16 ?_
  refine zr_iconst C zd_S_takeRow_19 ?_
  obtain ⟨a4, S5, ea4, hf⟩ := zbd_some hf
  refine zcSv (As := [.ref (B.2.1 2 (r0) (1)), .int (zI (0))]) (rest := []) C hK hSt hW hS (zc_Ja_fill hap 2 (r0) (1) 120 (zvd_2 hr0 (by decide)) (fun f => ze_2_1 B f (r0)) (by decide) rfl 0 S3 (znb rfl) ea4) zq_Ja_fill zk_1140 ⟨rfl, rfl, by decide, by decide⟩ ⟨Nat.zero_le _, Nat.zero_le _⟩ rfl hl.1 rfl (lv_room (Nat.le_of_ble_eq_true rfl)) zd_S_takeRow_20 (fun H locs hW hS => ?_)
  cases hf
  exact zre_v C hr hlk hK hW hS zd_S_takeRow_23

theorem zc_S_takeRow {l : Launch} {B : zB} (hap : zAp B) (r0 : Int) (hr0 : 0 ≤ r0 ∧ r0 < 8) (x1 : Int) (x2 : Int) (S : Sg) (nx1 : zn x1) (nx2 : zn x2) {res : Int} {S9 : Sg} (hf : zf_S_takeRow r0 x1 x2 S = some (res, S9)) : Met l zy_S_takeRow (Cond.code zy_S_takeRow zb_S_takeRow 3 (none) :: zT) zm_S_takeRow (zP B S [.ref (B.2.1 2 (r0) (0)), .int (zI (x1)), .int (zI (x2))]) (zQv B S9) 0 0 B.2.2.2 :=
  zmet (by decide) (Nat.le_of_ble_eq_true rfl) (fun p e s m args below meth c C hr hlk hK hSt hW ls hl => zw_S_takeRow C hr hlk hK hSt hap r0 hr0 x1 x2 S nx1 nx2 hf _ _ _ hW va_S.rf hl)
/-! IslandOffice.row(III)I -/
abbrev zy_O_row : MethodName := ⟨"IslandOffice", "row", "(III)I"⟩
abbrev zb_O_row : ByteArray := prog_1_method_41_code
abbrev zm_O_row : Room := { frames := 2, cells := 0, slots := 0, locals := 45 }
theorem zq_O_row : zMy zy_O_row zb_O_row 4 (some .int) 3 := ⟨zk_1135, zk_1133, zk_1134, zk_1, by decide, by decide, by decide +kernel⟩
theorem zd_O_row_0 : decode zb_O_row 0 = .ok (.iload_n 1, 1) := by decide +kernel
theorem zd_O_row_1 : decode zb_O_row 1 = .ok (.invokestatic 151, 3) := by decide +kernel
theorem zd_O_row_4 : decode zb_O_row 4 = .ok (.ifCond .eq 18, 3) := by decide +kernel
theorem zd_O_row_7 : decode zb_O_row 7 = .ok (.iload_n 2, 1) := by decide +kernel
theorem zd_O_row_8 : decode zb_O_row 8 = .ok (.ifCond .lt 14, 3) := by decide +kernel
theorem zd_O_row_11 : decode zb_O_row 11 = .ok (.iload_n 2, 1) := by decide +kernel
theorem zd_O_row_12 : decode zb_O_row 12 = .ok (.iconst 3, 1) := by decide +kernel
theorem zd_O_row_13 : decode zb_O_row 13 = .ok (.if_icmp .ge 9, 3) := by decide +kernel
theorem zd_O_row_16 : decode zb_O_row 16 = .ok (.iload_n 3, 1) := by decide +kernel
theorem zd_O_row_17 : decode zb_O_row 17 = .ok (.bipush 120, 2) := by decide +kernel
theorem zd_O_row_19 : decode zb_O_row 19 = .ok (.if_icmp .le 5, 3) := by decide +kernel
theorem zd_O_row_22 : decode zb_O_row 22 = .ok (.iconst (-1), 1) := by decide +kernel
theorem zd_O_row_23 : decode zb_O_row 23 = .ok (.ireturn, 1) := by decide +kernel
theorem zd_O_row_24 : decode zb_O_row 24 = .ok (.iload_n 3, 1) := by decide +kernel
theorem zd_O_row_25 : decode zb_O_row 25 = .ok (.ifCond .ge 6, 3) := by decide +kernel
theorem zd_O_row_28 : decode zb_O_row 28 = .ok (.bipush (-14), 2) := by decide +kernel
theorem zd_O_row_30 : decode zb_O_row 30 = .ok (.ireturn, 1) := by decide +kernel
theorem zd_O_row_31 : decode zb_O_row 31 = .ok (.aload_n 0, 1) := by decide +kernel
theorem zd_O_row_32 : decode zb_O_row 32 = .ok (.getfield 36, 3) := by decide +kernel
theorem zd_O_row_35 : decode zb_O_row 35 = .ok (.iload_n 1, 1) := by decide +kernel
theorem zd_O_row_36 : decode zb_O_row 36 = .ok (.aaload, 1) := by decide +kernel
theorem zd_O_row_37 : decode zb_O_row 37 = .ok (.iload_n 2, 1) := by decide +kernel
theorem zd_O_row_38 : decode zb_O_row 38 = .ok (.iload_n 3, 1) := by decide +kernel
theorem zd_O_row_39 : decode zb_O_row 39 = .ok (.invokevirtual 363, 3) := by decide +kernel
theorem zd_O_row_42 : decode zb_O_row 42 = .ok (.iconst 0, 1) := by decide +kernel
theorem zd_O_row_43 : decode zb_O_row 43 = .ok (.ireturn, 1) := by decide +kernel

def zf_O_row (x1 : Int) (x2 : Int) (x3 : Int) (S : Sg) : Option (Int × Sg) :=
    zbd (zf_O_isShelf x1 S) fun a1 S2 => if a1 = 0 then (some (-1, S2)) else (if x2 < 0 then (some (-1, S2)) else (if 3 ≤ x2 then (some (-1, S2)) else (if x3 ≤ 120 then (if 0 ≤ x3 then (zck (0 ≤ x1 ∧ x1 < 8) <| zbd (zf_S_takeRow (x1) x2 x3 S2) fun a9 S10 => some (0, S10)) else (some (-14, S2))) else (some (-1, S2)))))
set_option maxHeartbeats 4000000 in
set_option maxRecDepth 100000 in
theorem zw_O_row {p : Program} {l : Launch} {e : Env} {s : State} {m : MethodId} {args : Array Value} {below : List Frame} {meth : Method} {c : Code} {B : zB} (C : CallFix p m c zb_O_row 4 s args zT "IslandOffice") (hr : meth.sig.returnType = some .int) (hlk : meth.locks = false) (hK : zK B s) (hSt : zSt B s) (hap : zAp B) {res : Int} {S9 : Sg} : ∀ (x1 : Int) (x2 : Int) (x3 : Int) (S : Sg) (nx1 : zn x1) (nx2 : zn x2) (nx3 : zn x3), zf_O_row x1 x2 x3 S = some (res, S9) → ∀ (H : Heap) (locs : List Loc) (ls : Array Slot), zW B S H → va_S B.2.2.2 s.heap H locs → lv_has ls 4 [(0, .ref (B.2.1 3 (0) (0))), (1, .int (zI (x1))), (2, .int (zI (x2))), (3, .int (zI (x3)))] → W p l e zm_O_row s m args below meth c H locs 0 0 (MQ below (zQi B res S9) args s 0 0 B.2.2.2) (F0 m 0 ls []) := by
  intro x1 x2 x3 S nx1 nx2 nx3 hf H locs ls hW hS hl
  unfold zf_O_row at hf
  refine lv_iload_n C.1 C.2.1 zd_O_row_0 rfl (lv_at hl 1 rfl) ?_
  obtain ⟨a1, S2, ea1, hf⟩ := zbd_some hf
  refine zcSi (As := [.int (zI (x1))]) (rest := []) C hK hSt hW hS (zc_O_isShelf hap x1 S nx1 ea1) zq_O_isShelf zk_612 ⟨rfl, rfl, by decide, by decide⟩ ⟨Nat.zero_le _, Nat.zero_le _⟩ rfl hl.1 rfl (lv_room (Nat.le_of_ble_eq_true rfl)) zd_O_row_1 (fun na1 H locs hW hS => ?_)
  refine zr_if_eq (tgt := 22) C na1 zd_O_row_4 (by decide) (fun c3 => ?_) (fun c3 => ?_)
  · rw [if_pos c3] at hf
    refine zr_iconst C zd_O_row_22 ?_
    cases hf
    exact zre_i C hr hlk hK hW hS (znb rfl) zd_O_row_23
  · rw [if_neg c3] at hf
    refine lv_iload_n C.1 C.2.1 zd_O_row_7 rfl (lv_at hl 2 rfl) ?_
    refine zr_if_lt (tgt := 22) C nx2 zd_O_row_8 (by decide) (fun c4 => ?_) (fun c4 => ?_)
    · rw [if_pos c4] at hf
      refine zr_iconst C zd_O_row_22 ?_
      cases hf
      exact zre_i C hr hlk hK hW hS (znb rfl) zd_O_row_23
    · rw [if_neg c4] at hf
      refine lv_iload_n C.1 C.2.1 zd_O_row_11 rfl (lv_at hl 2 rfl) ?_
      refine zr_iconst C zd_O_row_12 ?_
      refine zr_icmp_ge (tgt := 22) C nx2 (znb rfl) zd_O_row_13 (by decide) (fun c5 => ?_) (fun c5 => ?_)
      · rw [if_pos c5] at hf
        refine zr_iconst C zd_O_row_22 ?_
        cases hf
        exact zre_i C hr hlk hK hW hS (znb rfl) zd_O_row_23
      · rw [if_neg c5] at hf
        refine lv_iload_n C.1 C.2.1 zd_O_row_16 rfl (lv_at hl 3 rfl) ?_
        refine zr_bipush C zd_O_row_17 (by decide) ?_
        refine zr_icmp_le (tgt := 24) C nx3 (znb rfl) zd_O_row_19 (by decide) (fun c6 => ?_) (fun c6 => ?_)
        · rw [if_pos c6] at hf
          refine lv_iload_n C.1 C.2.1 zd_O_row_24 rfl (lv_at hl 3 rfl) ?_
          refine zr_if_ge (tgt := 31) C nx3 zd_O_row_25 (by decide) (fun c7 => ?_) (fun c7 => ?_)
          · rw [if_pos c7] at hf
            refine lv_aload_n C.1 C.2.1 zd_O_row_31 rfl (lv_at hl 0 rfl) ?_
            refine zg_O_shelves (r := 0) C hK hW (zvd_3 (by decide) (by decide)) zk_497 zd_O_row_32 ?_
            refine lv_iload_n C.1 C.2.1 zd_O_row_35 rfl (lv_at hl 1 rfl) ?_
            obtain ⟨h8, hf⟩ := zck_some hf
            refine zaald (t0 := 3) C hK hW (zvd_3 (by decide) (by decide)) (fun f => ze_3_3 B f (0)) rfl rfl (by decide) h8 zd_O_row_36 (a := B.2.1 2 (x1) (0)) (by rw [Int.toNat_of_nonneg h8.1]) ?_
            refine lv_iload_n C.1 C.2.1 zd_O_row_37 rfl (lv_at hl 2 rfl) ?_
            refine lv_iload_n C.1 C.2.1 zd_O_row_38 rfl (lv_at hl 3 rfl) ?_
            obtain ⟨a9, S10, ea9, hf⟩ := zbd_some hf
            refine zcVv (As := [.int (zI (x2)), .int (zI (x3))]) (rest := []) C hK hSt hW hS (zc_S_takeRow hap (x1) h8 x2 x3 S2 nx2 nx3 ea9) zq_S_takeRow zk_1136 (zrecv hK hW (zvd_2 h8 (by decide)) (ze_2_0 B _ (x1)) rfl) ⟨rfl, rfl, by decide, by decide⟩ ⟨Nat.zero_le _, Nat.zero_le _⟩ rfl hl.1 rfl (lv_room (Nat.le_of_ble_eq_true rfl)) zd_O_row_39 (fun H locs hW hS => ?_)
            refine zr_iconst C zd_O_row_42 ?_
            cases hf
            exact zre_i C hr hlk hK hW hS (znb rfl) zd_O_row_43
          · rw [if_neg c7] at hf
            refine zr_bipush C zd_O_row_28 (by decide) ?_
            cases hf
            exact zre_i C hr hlk hK hW hS (znb rfl) zd_O_row_30
        · rw [if_neg c6] at hf
          refine zr_iconst C zd_O_row_22 ?_
          cases hf
          exact zre_i C hr hlk hK hW hS (znb rfl) zd_O_row_23

theorem zc_O_row {l : Launch} {B : zB} (hap : zAp B) (x1 : Int) (x2 : Int) (x3 : Int) (S : Sg) (nx1 : zn x1) (nx2 : zn x2) (nx3 : zn x3) {res : Int} {S9 : Sg} (hf : zf_O_row x1 x2 x3 S = some (res, S9)) : Met l zy_O_row (Cond.code zy_O_row zb_O_row 4 (some .int) :: zT) zm_O_row (zP B S [.ref (B.2.1 3 (0) (0)), .int (zI (x1)), .int (zI (x2)), .int (zI (x3))]) (zQi B res S9) 0 0 B.2.2.2 :=
  zmet (by decide) (Nat.le_of_ble_eq_true rfl) (fun p e s m args below meth c C hr hlk hK hSt hW ls hl => zw_O_row C hr hlk hK hSt hap   x1 x2 x3 S nx1 nx2 nx3 hf _ _ _ hW va_S.rf hl)
/-! IslandOffice$Shelf.cut(I)I -/
abbrev zy_S_cut : MethodName := ⟨"IslandOffice$Shelf", "cut", "(I)I"⟩
abbrev zb_S_cut : ByteArray := prog_10_method_8_code
abbrev zm_S_cut : Room := { frames := 0, cells := 0, slots := 0, locals := 0 }
theorem zq_S_cut : zMy zy_S_cut zb_S_cut 2 (some .int) 1 := ⟨zk_1152, zk_1150, zk_1151, zk_9, by decide, by decide, by decide +kernel⟩
theorem zd_S_cut_0 : decode zb_S_cut 0 = .ok (.aload_n 0, 1) := by decide +kernel
theorem zd_S_cut_1 : decode zb_S_cut 1 = .ok (.getfield 24, 3) := by decide +kernel
theorem zd_S_cut_4 : decode zb_S_cut 4 = .ok (.ifCond .ne 8, 3) := by decide +kernel
theorem zd_S_cut_7 : decode zb_S_cut 7 = .ok (.iload_n 1, 1) := by decide +kernel
theorem zd_S_cut_8 : decode zb_S_cut 8 = .ok (.i2b, 1) := by decide +kernel
theorem zd_S_cut_9 : decode zb_S_cut 9 = .ok (.goto 17, 3) := by decide +kernel
theorem zd_S_cut_12 : decode zb_S_cut 12 = .ok (.aload_n 0, 1) := by decide +kernel
theorem zd_S_cut_13 : decode zb_S_cut 13 = .ok (.getfield 24, 3) := by decide +kernel
theorem zd_S_cut_16 : decode zb_S_cut 16 = .ok (.iconst 1, 1) := by decide +kernel
theorem zd_S_cut_17 : decode zb_S_cut 17 = .ok (.if_icmp .ne 8, 3) := by decide +kernel
theorem zd_S_cut_20 : decode zb_S_cut 20 = .ok (.iload_n 1, 1) := by decide +kernel
theorem zd_S_cut_21 : decode zb_S_cut 21 = .ok (.i2s, 1) := by decide +kernel
theorem zd_S_cut_22 : decode zb_S_cut 22 = .ok (.goto 4, 3) := by decide +kernel
theorem zd_S_cut_25 : decode zb_S_cut 25 = .ok (.iload_n 1, 1) := by decide +kernel
theorem zd_S_cut_26 : decode zb_S_cut 26 = .ok (.ireturn, 1) := by decide +kernel

def zf_S_cut (r0 : Int) (x1 : Int) (S : Sg) : Option (Int × Sg) :=
    if (S 2 r0 0 4) = 0 then (some (zi2b x1, S)) else (if (S 2 r0 0 4) = 1 then (some (zi2s x1, S)) else (some (x1, S)))
set_option maxHeartbeats 4000000 in
set_option maxRecDepth 100000 in
theorem zw_S_cut {p : Program} {l : Launch} {e : Env} {s : State} {m : MethodId} {args : Array Value} {below : List Frame} {meth : Method} {c : Code} {B : zB} (C : CallFix p m c zb_S_cut 2 s args zT "IslandOffice$Shelf") (hr : meth.sig.returnType = some .int) (hlk : meth.locks = false) (hK : zK B s) (hSt : zSt B s) (hap : zAp B) (r0 : Int) (hr0 : 0 ≤ r0 ∧ r0 < 8) {res : Int} {S9 : Sg} : ∀ (x1 : Int) (S : Sg) (nx1 : zn x1), zf_S_cut r0 x1 S = some (res, S9) → ∀ (H : Heap) (locs : List Loc) (ls : Array Slot), zW B S H → va_S B.2.2.2 s.heap H locs → lv_has ls 2 [(0, .ref (B.2.1 2 (r0) (0))), (1, .int (zI (x1)))] → W p l e zm_S_cut s m args below meth c H locs 0 0 (MQ below (zQi B res S9) args s 0 0 B.2.2.2) (F0 m 0 ls []) := by
  intro x1 S nx1 hf H locs ls hW hS hl
  unfold zf_S_cut at hf
  refine lv_aload_n C.1 C.2.1 zd_S_cut_0 rfl (lv_at hl 0 rfl) ?_
  refine zg_S_sort (r := r0) C hK hW (zvd_2 hr0 (by decide)) zk_351 zd_S_cut_1 ?_
  refine zr_if_ne (tgt := 12) C (zWn hW _ _ _ _ rfl) zd_S_cut_4 (by decide) (fun c1 => ?_) (fun c1 => ?_)
  · rw [if_neg c1] at hf
    refine lv_aload_n C.1 C.2.1 zd_S_cut_12 rfl (lv_at hl 0 rfl) ?_
    refine zg_S_sort (r := r0) C hK hW (zvd_2 hr0 (by decide)) zk_351 zd_S_cut_13 ?_
    refine zr_iconst C zd_S_cut_16 ?_
    refine zr_icmp_ne (tgt := 25) C (zWn hW _ _ _ _ rfl) (znb rfl) zd_S_cut_17 (by decide) (fun c2 => ?_) (fun c2 => ?_)
    · rw [if_neg c2] at hf
      refine lv_iload_n C.1 C.2.1 zd_S_cut_25 rfl (lv_at hl 1 rfl) ?_
      cases hf
      exact zre_i C hr hlk hK hW hS nx1 zd_S_cut_26
    · rw [if_pos c2] at hf
      refine lv_iload_n C.1 C.2.1 zd_S_cut_20 rfl (lv_at hl 1 rfl) ?_
      refine zr_i2s C zd_S_cut_21 ?_
      refine lv_goto (tgt := 26) C.1 C.2.1 zd_S_cut_22 (by decide) ?_
      cases hf
      exact zre_i C hr hlk hK hW hS (zn_i2s _) zd_S_cut_26
  · rw [if_pos c1] at hf
    refine lv_iload_n C.1 C.2.1 zd_S_cut_7 rfl (lv_at hl 1 rfl) ?_
    refine zr_i2b C zd_S_cut_8 ?_
    refine lv_goto (tgt := 26) C.1 C.2.1 zd_S_cut_9 (by decide) ?_
    cases hf
    exact zre_i C hr hlk hK hW hS (zn_i2b _) zd_S_cut_26

theorem zc_S_cut {l : Launch} {B : zB} (hap : zAp B) (r0 : Int) (hr0 : 0 ≤ r0 ∧ r0 < 8) (x1 : Int) (S : Sg) (nx1 : zn x1) {res : Int} {S9 : Sg} (hf : zf_S_cut r0 x1 S = some (res, S9)) : Met l zy_S_cut (Cond.code zy_S_cut zb_S_cut 2 (some .int) :: zT) zm_S_cut (zP B S [.ref (B.2.1 2 (r0) (0)), .int (zI (x1))]) (zQi B res S9) 0 0 B.2.2.2 :=
  zmet (by decide) (Nat.le_of_ble_eq_true rfl) (fun p e s m args below meth c C hr hlk hK hSt hW ls hl => zw_S_cut C hr hlk hK hSt hap r0 hr0 x1 S nx1 hf _ _ _ hW va_S.rf hl)
