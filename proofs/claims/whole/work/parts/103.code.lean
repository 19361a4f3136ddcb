/-! IslandOffice$Stores.spend(II)Z -/
abbrev zy_T_spend : MethodName := ⟨"IslandOffice$Stores", "spend", "(II)Z"⟩
abbrev zb_T_spend : ByteArray := prog_12_method_7_code
abbrev zm_T_spend : Room := { frames := 1, cells := 0, slots := 0, locals := 64 }
theorem zq_T_spend : zMy zy_T_spend zb_T_spend 4 (some .boolean) 2 := ⟨zk_1004, zk_1002, zk_1003, zk_7, by decide, by decide, by decide +kernel⟩
theorem zd_T_spend_0 : decode zb_T_spend 0 = .ok (.aload_n 0, 1) := by decide +kernel
theorem zd_T_spend_1 : decode zb_T_spend 1 = .ok (.getfield 9, 3) := by decide +kernel
theorem zd_T_spend_4 : decode zb_T_spend 4 = .ok (.iload_n 1, 1) := by decide +kernel
theorem zd_T_spend_5 : decode zb_T_spend 5 = .ok (.iaload, 1) := by decide +kernel
theorem zd_T_spend_6 : decode zb_T_spend 6 = .ok (.iload_n 2, 1) := by decide +kernel
theorem zd_T_spend_7 : decode zb_T_spend 7 = .ok (.if_icmp .lt 7, 3) := by decide +kernel
theorem zd_T_spend_10 : decode zb_T_spend 10 = .ok (.iconst 1, 1) := by decide +kernel
theorem zd_T_spend_11 : decode zb_T_spend 11 = .ok (.goto 4, 3) := by decide +kernel
theorem zd_T_spend_14 : decode zb_T_spend 14 = .ok (.iconst 0, 1) := by decide +kernel
theorem zd_T_spend_15 : decode zb_T_spend 15 = .ok (.istore_n 3, 1) := by decide +kernel
theorem zd_T_spend_16 : decode zb_T_spend 16 = .ok (.aload_n 0, 1) := by decide +kernel
theorem zd_T_spend_17 : decode zb_T_spend 17 = .ok (.getfield 9, 3) := by decide +kernel
theorem zd_T_spend_20 : decode zb_T_spend 20 = .ok (.iload_n 1, 1) := by decide +kernel
theorem zd_T_spend_21 : decode zb_T_spend 21 = .ok (.iconst 0, 1) := by decide +kernel
theorem zd_T_spend_22 : decode zb_T_spend 22 = .ok (.aload_n 0, 1) := by decide +kernel
theorem zd_T_spend_23 : decode zb_T_spend 23 = .ok (.getfield 9, 3) := by decide +kernel
theorem zd_T_spend_26 : decode zb_T_spend 26 = .ok (.iload_n 1, 1) := by decide +kernel
theorem zd_T_spend_27 : decode zb_T_spend 27 = .ok (.iaload, 1) := by decide +kernel
theorem zd_T_spend_28 : decode zb_T_spend 28 = .ok (.iload_n 2, 1) := by decide +kernel
theorem zd_T_spend_29 : decode zb_T_spend 29 = .ok (.isub, 1) := by decide +kernel
theorem zd_T_spend_30 : decode zb_T_spend 30 = .ok (.invokestatic 50, 3) := by decide +kernel
theorem zd_T_spend_33 : decode zb_T_spend 33 = .ok (.iastore, 1) := by decide +kernel
theorem zd_T_spend_34 : decode zb_T_spend 34 = .ok (.iload_n 3, 1) := by decide +kernel
theorem zd_T_spend_35 : decode zb_T_spend 35 = .ok (.ireturn, 1) := by decide +kernel

def zf_T_spend_15 (r0 : Int) (x1 : Int) (x2 : Int) (xt0 : Int) (S : Sg) : Option (Int × Sg) :=
    zck (0 ≤ x1 ∧ x1 < 4) <| zlt (zu S 0 r0 32 x1 (max 0 (zw ((S 0 r0 32 x1) - x2)))) fun S2 => zck (xt0 = 0 ∨ xt0 = 1) <| some (xt0, S2)
set_option maxHeartbeats 4000000 in
set_option maxRecDepth 100000 in
theorem zw_T_spend_15 {p : Program} {l : Launch} {e : Env} {s : State} {m : MethodId} {args : Array Value} {below : List Frame} {meth : Method} {c : Code} {B : zB} (C : CallFix p m c zb_T_spend 4 s args zT "IslandOffice$Stores") (hr : meth.sig.returnType = some .boolean) (hlk : meth.locks = false) (hK : zK B s) (hSt : zSt B s) (hap : zAp B) (r0 : Int) (hr0 : 0 ≤ r0 ∧ r0 < 3) {res : Int} {S9 : Sg} : ∀ (x1 : Int) (x2 : Int) (xt0 : Int) (S : Sg) (nx1 : zn x1) (nx2 : zn x2) (nxt0 : zn xt0), zf_T_spend_15 r0 x1 x2 xt0 S = some (res, S9) → ∀ (H : Heap) (locs : List Loc) (ls : Array Slot), zW B S H → va_S B.2.2.2 s.heap H locs → lv_has ls 4 [(0, .ref (B.2.1 0 (r0) (31))), (1, .int (zI (x1))), (2, .int (zI (x2)))] → W p l e zm_T_spend s m args below meth c H locs 0 0 (MQ below (zQi B res S9) args s 0 0 B.2.2.2) (F0 m 15 ls [.int (zI (xt0))]) := by
  intro x1 x2 xt0 S nx1 nx2 nxt0 hf H locs ls hW hS hl
  unfold zf_T_spend_15 at hf
  refine lv_istore_n (lv' := [(3, .int (zI (xt0))), (0, .ref (B.2.1 0 (r0) (31))), (1, .int (zI (x1))), (2, .int (zI (x2)))]) C.1 C.2.1 zd_T_spend_15 rfl hl (by decide) rfl (fun ls hl => ?_)
  refine lv_aload_n C.1 C.2.1 zd_T_spend_16 rfl (lv_at hl 1 rfl) ?_
  refine zg_T_stock (r := r0) C hK hW (zvd_0 hr0 (by decide)) zk_197 zd_T_spend_17 ?_
  refine lv_iload_n C.1 C.2.1 zd_T_spend_20 rfl (lv_at hl 2 rfl) ?_
  refine zr_iconst C zd_T_spend_21 ?_
  refine lv_aload_n C.1 C.2.1 zd_T_spend_22 rfl (lv_at hl 1 rfl) ?_
  refine zg_T_stock (r := r0) C hK hW (zvd_0 hr0 (by decide)) zk_197 zd_T_spend_23 ?_
  refine lv_iload_n C.1 C.2.1 zd_T_spend_26 rfl (lv_at hl 2 rfl) ?_
  obtain ⟨h1, hf⟩ := zck_some hf
  refine ziald C hK hW (zvd_0 hr0 (by decide)) (fun f => ze_0_32 B f (r0)) (by decide) h1 zd_T_spend_27 ?_
  refine lv_iload_n C.1 C.2.1 zd_T_spend_28 rfl (lv_at hl 3 rfl) ?_
  refine zr_isub C zd_T_spend_29 ?_
  refine zr_max C hl.1 (znb rfl) (zn_w _) zk_1005 zk_678 zk_16 zk_679 (by decide) (Nat.le_of_ble_eq_true rfl) ⟨by decide, by decide⟩ zd_T_spend_30 ?_
  obtain ⟨S2, eS2, hf⟩ := zlt_some hf
  refine ziast C hK hap hW hS (zvd_0 hr0 (by decide)) (fun f => ze_0_32 B f (r0)) (by decide) rfl (zn_max (znb rfl) (zn_w _)) h1 zd_T_spend_33 (fun H locs hW hS => ?_)
  rw [eS2] at hW
  refine lv_iload_n C.1 C.2.1 zd_T_spend_34 rfl (lv_at hl 0 rfl) ?_
  obtain ⟨h3, hf⟩ := zck_some hf
  cases hf
  exact zre_z C hr hlk hK hW hS nxt0 (zb01 h3) zd_T_spend_35

def zf_T_spend (r0 : Int) (x1 : Int) (x2 : Int) (S : Sg) : Option (Int × Sg) :=
    zck (0 ≤ x1 ∧ x1 < 4) <| if (S 0 r0 32 x1) < x2 then (zf_T_spend_15 r0 (x1) (x2) (0) S) else (zf_T_spend_15 r0 (x1) (x2) (1) S)
set_option maxHeartbeats 4000000 in
set_option maxRecDepth 100000 in
theorem zw_T_spend {p : Program} {l : Launch} {e : Env} {s : State} {m : MethodId} {args : Array Value} {below : List Frame} {meth : Method} {c : Code} {B : zB} (C : CallFix p m c zb_T_spend 4 s args zT "IslandOffice$Stores") (hr : meth.sig.returnType = some .boolean) (hlk : meth.locks = false) (hK : zK B s) (hSt : zSt B s) (hap : zAp B) (r0 : Int) (hr0 : 0 ≤ r0 ∧ r0 < 3) {res : Int} {S9 : Sg} : ∀ (x1 : Int) (x2 : Int) (S : Sg) (nx1 : zn x1) (nx2 : zn x2), zf_T_spend r0 x1 x2 S = some (res, S9) → ∀ (H : Heap) (locs : List Loc) (ls : Array Slot), zW B S H → va_S B.2.2.2 s.heap H locs → lv_has ls 4 [(0, .ref (B.2.1 0 (r0) (31))), (1, .int (zI (x1))), (2, .int (zI (x2)))] → W p l e zm_T_spend s m args below meth c H locs 0 0 (MQ below (zQi B res S9) args s 0 0 B.2.2.2) (F0 m 0 ls []) := by
  intro x1 x2 S nx1 nx2 hf H locs ls hW hS hl
  unfold zf_T_spend at hf
  refine lv_aload_n C.1 C.2.1 zd_T_spend_0 rfl (lv_at hl 0 rfl) ?_
  refine zg_T_stock (r := r0) C hK hW (zvd_0 hr0 (by decide)) zk_197 zd_T_spend_1 ?_
  refine lv_iload_n C.1 C.2.1 zd_T_spend_4 rfl (lv_at hl 1 rfl) ?_
  obtain ⟨h1, hf⟩ := zck_some hf
  refine ziald C hK hW (zvd_0 hr0 (by decide)) (fun f => ze_0_32 B f (r0)) (by decide) h1 zd_T_spend_5 ?_
  refine lv_iload_n C.1 C.2.1 zd_T_spend_6 rfl (lv_at hl 2 rfl) ?_
  refine zr_icmp_lt (tgt := 14) C (zWn hW _ _ _ _ rfl) nx2 zd_T_spend_7 (by decide) (fun c2 => ?_) (fun c2 => ?_)
  · rw [if_pos c2] at hf
    refine zr_iconst C zd_T_spend_14 ?_
    exact zw_T_spend_15 C hr hlk hK hSt hap r0 hr0 (x1) (x2) (0) S nx1 nx2 (znb rfl) hf _ _ _ hW hS (lv_sub hl [0, 1, 2] rfl)
  · rw [if_neg c2] at hf
    refine zr_iconst C zd_T_spend_10 ?_
    refine lv_goto (tgt := 15) C.1 C.2.1 zd_T_spend_11 (by decide) ?_
    exact zw_T_spend_15 C hr hlk hK hSt hap r0 hr0 (x1) (x2) (1) S nx1 nx2 (znb rfl) hf _ _ _ hW hS (lv_sub hl [0, 1, 2] rfl)

theorem zc_T_spend {l : Launch} {B : zB} (hap : zAp B) (r0 : Int) (hr0 : 0 ≤ r0 ∧ r0 < 3) (x1 : Int) (x2 : Int) (S : Sg) (nx1 : zn x1) (nx2 : zn x2) {res : Int} {S9 : Sg} (hf : zf_T_spend r0 x1 x2 S = some (res, S9)) : Met l zy_T_spend (Cond.code zy_T_spend zb_T_spend 4 (some .boolean) :: zT) zm_T_spend (zP B S [.ref (B.2.1 0 (r0) (31)), .int (zI (x1)), .int (zI (x2))]) (zQi B res S9) 0 0 B.2.2.2 :=
  zmet (by decide) (Nat.le_of_ble_eq_true rfl) (fun p e s m args below meth c C hr hlk hK hSt hW ls hl => zw_T_spend C hr hlk hK hSt hap r0 hr0 x1 x2 S nx1 nx2 hf _ _ _ hW va_S.rf hl)
/-! IslandOffice$Almanac.burn(LIslandOffice$Island;)I -/
abbrev zy_A_burn : MethodName := ⟨"IslandOffice$Almanac", "burn", "(LIslandOffice$Island;)I"⟩
abbrev zb_A_burn : ByteArray := prog_2_method_12_code
abbrev zm_A_burn : Room := { frames := 2, cells := 0, slots := 0, locals := 87 }
theorem zq_A_burn : zMy zy_A_burn zb_A_burn 6 (some .int) 1 := ⟨zk_1000, zk_999, zs_33, zk_13, by decide, by decide, by decide +kernel⟩
theorem zd_A_burn_0 : decode zb_A_burn 0 = .ok (.iconst 0, 1) := by decide +kernel
theorem zd_A_burn_1 : decode zb_A_burn 1 = .ok (.istore_n 2, 1) := by decide +kernel
theorem zd_A_burn_2 : decode zb_A_burn 2 = .ok (.iconst 1, 1) := by decide +kernel
theorem zd_A_burn_3 : decode zb_A_burn 3 = .ok (.istore_n 3, 1) := by decide +kernel
theorem zd_A_burn_4 : decode zb_A_burn 4 = .ok (.iload_n 3, 1) := by decide +kernel
theorem zd_A_burn_5 : decode zb_A_burn 5 = .ok (.iconst 4, 1) := by decide +kernel
theorem zd_A_burn_6 : decode zb_A_burn 6 = .ok (.if_icmp .ge 80, 3) := by decide +kernel
theorem zd_A_burn_9 : decode zb_A_burn 9 = .ok (.aload_n 1, 1) := by decide +kernel
theorem zd_A_burn_10 : decode zb_A_burn 10 = .ok (.getfield 90, 3) := by decide +kernel
theorem zd_A_burn_13 : decode zb_A_burn 13 = .ok (.getfield 215, 3) := by decide +kernel
theorem zd_A_burn_16 : decode zb_A_burn 16 = .ok (.iload_n 3, 1) := by decide +kernel
theorem zd_A_burn_17 : decode zb_A_burn 17 = .ok (.iaload, 1) := by decide +kernel
theorem zd_A_burn_18 : decode zb_A_burn 18 = .ok (.istore 4, 2) := by decide +kernel
theorem zd_A_burn_20 : decode zb_A_burn 20 = .ok (.iconst 0, 1) := by decide +kernel
theorem zd_A_burn_21 : decode zb_A_burn 21 = .ok (.istore 5, 2) := by decide +kernel
theorem zd_A_burn_23 : decode zb_A_burn 23 = .ok (.iload 5, 2) := by decide +kernel
theorem zd_A_burn_25 : decode zb_A_burn 25 = .ok (.bipush 12, 2) := by decide +kernel
theorem zd_A_burn_27 : decode zb_A_burn 27 = .ok (.if_icmp .ge 34, 3) := by decide +kernel
theorem zd_A_burn_30 : decode zb_A_burn 30 = .ok (.iload_n 3, 1) := by decide +kernel
theorem zd_A_burn_31 : decode zb_A_burn 31 = .ok (.iconst 1, 1) := by decide +kernel
theorem zd_A_burn_32 : decode zb_A_burn 32 = .ok (.if_icmp .ne 29, 3) := by decide +kernel
theorem zd_A_burn_35 : decode zb_A_burn 35 = .ok (.iload 4, 2) := by decide +kernel
theorem zd_A_burn_37 : decode zb_A_burn 37 = .ok (.aload_n 0, 1) := by decide +kernel
theorem zd_A_burn_38 : decode zb_A_burn 38 = .ok (.getfield 26, 3) := by decide +kernel
theorem zd_A_burn_41 : decode zb_A_burn 41 = .ok (.iload 5, 2) := by decide +kernel
theorem zd_A_burn_43 : decode zb_A_burn 43 = .ok (.iaload, 1) := by decide +kernel
theorem zd_A_burn_44 : decode zb_A_burn 44 = .ok (.ifCond .le 7, 3) := by decide +kernel
theorem zd_A_burn_47 : decode zb_A_burn 47 = .ok (.iconst 1, 1) := by decide +kernel
theorem zd_A_burn_48 : decode zb_A_burn 48 = .ok (.goto 4, 3) := by decide +kernel
theorem zd_A_burn_51 : decode zb_A_burn 51 = .ok (.iconst 0, 1) := by decide +kernel
theorem zd_A_burn_52 : decode zb_A_burn 52 = .ok (.iadd, 1) := by decide +kernel
theorem zd_A_burn_53 : decode zb_A_burn 53 = .ok (.istore 4, 2) := by decide +kernel
theorem zd_A_burn_55 : decode zb_A_burn 55 = .ok (.iinc 5 1, 3) := by decide +kernel
theorem zd_A_burn_58 : decode zb_A_burn 58 = .ok (.goto (-35), 3) := by decide +kernel
theorem zd_A_burn_61 : decode zb_A_burn 61 = .ok (.aload_n 1, 1) := by decide +kernel
theorem zd_A_burn_62 : decode zb_A_burn 62 = .ok (.getfield 90, 3) := by decide +kernel
theorem zd_A_burn_65 : decode zb_A_burn 65 = .ok (.iload_n 3, 1) := by decide +kernel
theorem zd_A_burn_66 : decode zb_A_burn 66 = .ok (.iload 4, 2) := by decide +kernel
theorem zd_A_burn_68 : decode zb_A_burn 68 = .ok (.invokevirtual 218, 3) := by decide +kernel
theorem zd_A_burn_71 : decode zb_A_burn 71 = .ok (.ifCond .ne 9, 3) := by decide +kernel
theorem zd_A_burn_74 : decode zb_A_burn 74 = .ok (.iload_n 2, 1) := by decide +kernel
theorem zd_A_burn_75 : decode zb_A_burn 75 = .ok (.iconst 1, 1) := by decide +kernel
theorem zd_A_burn_76 : decode zb_A_burn 76 = .ok (.iload_n 3, 1) := by decide +kernel
theorem zd_A_burn_77 : decode zb_A_burn 77 = .ok (.ishl, 1) := by decide +kernel
theorem zd_A_burn_78 : decode zb_A_burn 78 = .ok (.ior, 1) := by decide +kernel
theorem zd_A_burn_79 : decode zb_A_burn 79 = .ok (.istore_n 2, 1) := by decide +kernel
theorem zd_A_burn_80 : decode zb_A_burn 80 = .ok (.iinc 3 1, 3) := by decide +kernel
theorem zd_A_burn_83 : decode zb_A_burn 83 = .ok (.goto (-79), 3) := by decide +kernel
theorem zd_A_burn_86 : decode zb_A_burn 86 = .ok (.iload_n 2, 1) := by decide +kernel
theorem zd_A_burn_87 : decode zb_A_burn 87 = .ok (.ireturn, 1) := by decide +kernel

def zf_A_burn_80 (r1 : Int) (q4 : Int → Int → Sg → Option (Int × Sg)) (x2 : Int) (x3 : Int) (S : Sg) : Option (Int × Sg) :=
    zlt (zw (x3 + 1)) fun v1 => q4 (x2) (v1) S
set_option maxHeartbeats 4000000 in
set_option maxRecDepth 100000 in
theorem zw_A_burn_80 {p : Program} {l : Launch} {e : Env} {s : State} {m : MethodId} {args : Array Value} {below : List Frame} {meth : Method} {c : Code} {B : zB} (C : CallFix p m c zb_A_burn 6 s args zT "IslandOffice$Almanac") (hr : meth.sig.returnType = some .int) (hlk : meth.locks = false) (hK : zK B s) (hSt : zSt B s) (hap : zAp B) (r1 : Int) (hr1 : 0 ≤ r1 ∧ r1 < 3) {res : Int} {S9 : Sg} (q4 : Int → Int → Sg → Option (Int × Sg)) (hq4 : ∀ (x2 : Int) (x3 : Int) (S : Sg) (nx2 : zn x2) (nx3 : zn x3), q4 x2 x3 S = some (res, S9) → ∀ (H : Heap) (locs : List Loc) (ls : Array Slot), zW B S H → va_S B.2.2.2 s.heap H locs → lv_has ls 6 [(0, .ref (B.2.1 3 (0) (15))), (1, .ref (B.2.1 0 (r1) (0))), (2, .int (zI (x2))), (3, .int (zI (x3)))] → W p l e zm_A_burn s m args below meth c H locs 0 0 (MQ below (zQi B res S9) args s 0 0 B.2.2.2) (F0 m 4 ls [])) : ∀ (x2 : Int) (x3 : Int) (S : Sg) (nx2 : zn x2) (nx3 : zn x3), zf_A_burn_80 r1 q4 x2 x3 S = some (res, S9) → ∀ (H : Heap) (locs : List Loc) (ls : Array Slot), zW B S H → va_S B.2.2.2 s.heap H locs → lv_has ls 6 [(0, .ref (B.2.1 3 (0) (15))), (1, .ref (B.2.1 0 (r1) (0))), (2, .int (zI (x2))), (3, .int (zI (x3)))] → W p l e zm_A_burn s m args below meth c H locs 0 0 (MQ below (zQi B res S9) args s 0 0 B.2.2.2) (F0 m 80 ls []) := by
  intro x2 x3 S nx2 nx3 hf H locs ls hW hS hl
  unfold zf_A_burn_80 at hf
  obtain ⟨v1, ev1, hf⟩ := zlt_some hf
  have nv1 : zn v1 := by rw [← ev1]; exact zn_w _
  refine lv_iinc (v := zI v1) (lv' := [(3, .int (zI (v1))), (0, .ref (B.2.1 3 (0) (15))), (1, .ref (B.2.1 0 (r1) (0))), (2, .int (zI (x2)))]) C.1 C.2.1 zd_A_burn_80 hl (k := 3) rfl (by rw [← ev1, ← zI_add]; rfl) (by decide) rfl (fun ls hl => ?_)
  refine lv_goto (tgt := 4) C.1 C.2.1 zd_A_burn_83 (by decide) ?_
  exact hq4 (x2) (v1) S nx2 nv1 hf _ _ _ hW hS (lv_sub hl [1, 2, 3, 0] rfl)

def zf_A_burn_61 (r1 : Int) (q4 : Int → Int → Sg → Option (Int × Sg)) (x2 : Int) (x3 : Int) (x4 : Int) (S : Sg) : Option (Int × Sg) :=
    zbd (zf_T_spend (r1) x3 x4 S) fun a1 S2 => if a1 = 0 then (zlt (zor x2 (zshl 1 x3)) fun v4 => zf_A_burn_80 r1 q4 (v4) (x3) S2) else (zf_A_burn_80 r1 q4 (x2) (x3) S2)
set_option maxHeartbeats 4000000 in
set_option maxRecDepth 100000 in
theorem zw_A_burn_61 {p : Program} {l : Launch} {e : Env} {s : State} {m : MethodId} {args : Array Value} {below : List Frame} {meth : Method} {c : Code} {B : zB} (C : CallFix p m c zb_A_burn 6 s args zT "IslandOffice$Almanac") (hr : meth.sig.returnType = some .int) (hlk : meth.locks = false) (hK : zK B s) (hSt : zSt B s) (hap : zAp B) (r1 : Int) (hr1 : 0 ≤ r1 ∧ r1 < 3) {res : Int} {S9 : Sg} (q4 : Int → Int → Sg → Option (Int × Sg)) (hq4 : ∀ (x2 : Int) (x3 : Int) (S : Sg) (nx2 : zn x2) (nx3 : zn x3), q4 x2 x3 S = some (res, S9) → ∀ (H : Heap) (locs : List Loc) (ls : Array Slot), zW B S H → va_S B.2.2.2 s.heap H locs → lv_has ls 6 [(0, .ref (B.2.1 3 (0) (15))), (1, .ref (B.2.1 0 (r1) (0))), (2, .int (zI (x2))), (3, .int (zI (x3)))] → W p l e zm_A_burn s m args below meth c H locs 0 0 (MQ below (zQi B res S9) args s 0 0 B.2.2.2) (F0 m 4 ls [])) : ∀ (x2 : Int) (x3 : Int) (x4 : Int) (S : Sg) (nx2 : zn x2) (nx3 : zn x3) (nx4 : zn x4), zf_A_burn_61 r1 q4 x2 x3 x4 S = some (res, S9) → ∀ (H : Heap) (locs : List Loc) (ls : Array Slot), zW B S H → va_S B.2.2.2 s.heap H locs → lv_has ls 6 [(0, .ref (B.2.1 3 (0) (15))), (1, .ref (B.2.1 0 (r1) (0))), (2, .int (zI (x2))), (3, .int (zI (x3))), (4, .int (zI (x4)))] → W p l e zm_A_burn s m args below meth c H locs 0 0 (MQ below (zQi B res S9) args s 0 0 B.2.2.2) (F0 m 61 ls []) := by
  intro x2 x3 x4 S nx2 nx3 nx4 hf H locs ls hW hS hl
  unfold zf_A_burn_61 at hf
  refine lv_aload_n C.1 C.2.1 zd_A_burn_61 rfl (lv_at hl 1 rfl) ?_
  refine zg_I_stores (r := r1) C hK hW (zvd_0 hr1 (by decide)) zk_291 zd_A_burn_62 ?_
  refine lv_iload_n C.1 C.2.1 zd_A_burn_65 rfl (lv_at hl 3 rfl) ?_
  refine lv_iload C.1 C.2.1 zd_A_burn_66 (lv_at hl 4 rfl) ?_
  obtain ⟨a1, S2, ea1, hf⟩ := zbd_some hf
  refine zcVi (As := [.int (zI (x3)), .int (zI (x4))]) (rest := []) C hK hSt hW hS (zc_T_spend hap (r1) hr1 x3 x4 S nx3 nx4 ea1) zq_T_spend zk_1001 (zrecv hK hW (zvd_0 hr1 (by decide)) (ze_0_31 B _ (r1)) rfl) ⟨rfl, rfl, by decide, by decide⟩ ⟨Nat.zero_le _, Nat.zero_le _⟩ rfl hl.1 rfl (lv_room (Nat.le_of_ble_eq_true rfl)) zd_A_burn_68 (fun na1 H locs hW hS => ?_)
  refine zr_if_ne (tgt := 80) C na1 zd_A_burn_71 (by decide) (fun c3 => ?_) (fun c3 => ?_)
  · rw [if_neg c3] at hf
    exact zw_A_burn_80 C hr hlk hK hSt hap r1 hr1 q4 hq4 (x2) (x3) S2 nx2 nx3 hf _ _ _ hW hS (lv_sub hl [0, 1, 2, 3] rfl)
  · rw [if_pos c3] at hf
    refine lv_iload_n C.1 C.2.1 zd_A_burn_74 rfl (lv_at hl 2 rfl) ?_
    refine zr_iconst C zd_A_burn_75 ?_
    refine lv_iload_n C.1 C.2.1 zd_A_burn_76 rfl (lv_at hl 3 rfl) ?_
    refine zr_ishl C zd_A_burn_77 ?_
    refine zr_ior C zd_A_burn_78 ?_
    obtain ⟨v4, ev4, hf⟩ := zlt_some hf
    have nv4 : zn v4 := by rw [← ev4]; exact (zn_or _ _)
    rw [ev4]
    refine lv_istore_n (lv' := [(2, .int (zI (v4))), (0, .ref (B.2.1 3 (0) (15))), (1, .ref (B.2.1 0 (r1) (0))), (3, .int (zI (x3))), (4, .int (zI (x4)))]) C.1 C.2.1 zd_A_burn_79 rfl hl (by decide) rfl (fun ls hl => ?_)
    exact zw_A_burn_80 C hr hlk hK hSt hap r1 hr1 q4 hq4 (v4) (x3) S2 nv4 nx3 hf _ _ _ hW hS (lv_sub hl [1, 2, 0, 3] rfl)

def zf_A_burn_52 (r1 : Int) (q4 : Int → Int → Sg → Option (Int × Sg)) (q23 : Int → Int → Int → Int → Sg → Option (Int × Sg)) (x2 : Int) (x3 : Int) (x5 : Int) (xt0 : Int) (xt1 : Int) (S : Sg) : Option (Int × Sg) :=
    zlt (zw (xt0 + xt1)) fun v1 => zlt (zw (x5 + 1)) fun v2 => q23 (x2) (x3) (v1) (v2) S
set_option maxHeartbeats 4000000 in
set_option maxRecDepth 100000 in
theorem zw_A_burn_52 {p : Program} {l : Launch} {e : Env} {s : State} {m : MethodId} {args : Array Value} {below : List Frame} {meth : Method} {c : Code} {B : zB} (C : CallFix p m c zb_A_burn 6 s args zT "IslandOffice$Almanac") (hr : meth.sig.returnType = some .int) (hlk : meth.locks = false) (hK : zK B s) (hSt : zSt B s) (hap : zAp B) (r1 : Int) (hr1 : 0 ≤ r1 ∧ r1 < 3) {res : Int} {S9 : Sg} (q4 : Int → Int → Sg → Option (Int × Sg)) (hq4 : ∀ (x2 : Int) (x3 : Int) (S : Sg) (nx2 : zn x2) (nx3 : zn x3), q4 x2 x3 S = some (res, S9) → ∀ (H : Heap) (locs : List Loc) (ls : Array Slot), zW B S H → va_S B.2.2.2 s.heap H locs → lv_has ls 6 [(0, .ref (B.2.1 3 (0) (15))), (1, .ref (B.2.1 0 (r1) (0))), (2, .int (zI (x2))), (3, .int (zI (x3)))] → W p l e zm_A_burn s m args below meth c H locs 0 0 (MQ below (zQi B res S9) args s 0 0 B.2.2.2) (F0 m 4 ls [])) (q23 : Int → Int → Int → Int → Sg → Option (Int × Sg)) (hq23 : ∀ (x2 : Int) (x3 : Int) (x4 : Int) (x5 : Int) (S : Sg) (nx2 : zn x2) (nx3 : zn x3) (nx4 : zn x4) (nx5 : zn x5), q23 x2 x3 x4 x5 S = some (res, S9) → ∀ (H : Heap) (locs : List Loc) (ls : Array Slot), zW B S H → va_S B.2.2.2 s.heap H locs → lv_has ls 6 [(0, .ref (B.2.1 3 (0) (15))), (1, .ref (B.2.1 0 (r1) (0))), (2, .int (zI (x2))), (3, .int (zI (x3))), (4, .int (zI (x4))), (5, .int (zI (x5)))] → W p l e zm_A_burn s m args below meth c H locs 0 0 (MQ below (zQi B res S9) args s 0 0 B.2.2.2) (F0 m 23 ls [])) : ∀ (x2 : Int) (x3 : Int) (x5 : Int) (xt0 : Int) (xt1 : Int) (S : Sg) (nx2 : zn x2) (nx3 : zn x3) (nx5 : zn x5) (nxt0 : zn xt0) (nxt1 : zn xt1), zf_A_burn_52 r1 q4 q23 x2 x3 x5 xt0 xt1 S = some (res, S9) → ∀ (H : Heap) (locs : List Loc) (ls : Array Slot), zW B S H → va_S B.2.2.2 s.heap H locs → lv_has ls 6 [(0, .ref (B.2.1 3 (0) (15))), (1, .ref (B.2.1 0 (r1) (0))), (2, .int (zI (x2))), (3, .int (zI (x3))), (5, .int (zI (x5)))] → W p l e zm_A_burn s m args below meth c H locs 0 0 (MQ below (zQi B res S9) args s 0 0 B.2.2.2) (F0 m 52 ls [.int (zI (xt1)), .int (zI (xt0))]) := by
  intro x2 x3 x5 xt0 xt1 S nx2 nx3 nx5 nxt0 nxt1 hf H locs ls hW hS hl
  unfold zf_A_burn_52 at hf
  refine zr_iadd C zd_A_burn_52 ?_
  obtain ⟨v1, ev1, hf⟩ := zlt_some hf
  have nv1 : zn v1 := by rw [← ev1]; exact (zn_w _)
  rw [ev1]
  refine lv_istore (lv' := [(4, .int (zI (v1))), (0, .ref (B.2.1 3 (0) (15))), (1, .ref (B.2.1 0 (r1) (0))), (2, .int (zI (x2))), (3, .int (zI (x3))), (5, .int (zI (x5)))]) C.1 C.2.1 zd_A_burn_53 hl (by decide) rfl (fun ls hl => ?_)
  obtain ⟨v2, ev2, hf⟩ := zlt_some hf
  have nv2 : zn v2 := by rw [← ev2]; exact zn_w _
  refine lv_iinc (v := zI v2) (lv' := [(5, .int (zI (v2))), (4, .int (zI (v1))), (0, .ref (B.2.1 3 (0) (15))), (1, .ref (B.2.1 0 (r1) (0))), (2, .int (zI (x2))), (3, .int (zI (x3)))]) C.1 C.2.1 zd_A_burn_55 hl (k := 5) rfl (by rw [← ev2, ← zI_add]; rfl) (by decide) rfl (fun ls hl => ?_)
  refine lv_goto (tgt := 23) C.1 C.2.1 zd_A_burn_58 (by decide) ?_
  exact hq23 (x2) (x3) (v1) (v2) S nx2 nx3 nv1 nv2 hf _ _ _ hW hS (lv_sub hl [2, 3, 4, 5, 1, 0] rfl)

def zf_A_burn_23 (r1 : Int) (q4 : Int → Int → Sg → Option (Int × Sg)) : Nat → Int → Int → Int → Int → Sg → Option (Int × Sg)
  | 0, _, _, _, _, _ => none
  | n + 1, x2, x3, x4, x5, S =>
    if 12 ≤ x5 then (zf_A_burn_61 r1 q4 (x2) (x3) (x4) S) else (if x3 = 1 then (zck (0 ≤ x5 ∧ x5 < 12) <| if (S 3 0 18 x5) ≤ 0 then (zf_A_burn_52 r1 q4 (zf_A_burn_23 r1 q4 n) (x2) (x3) (x5) (x4) (0) S) else (zf_A_burn_52 r1 q4 (zf_A_burn_23 r1 q4 n) (x2) (x3) (x5) (x4) (1) S)) else (zf_A_burn_61 r1 q4 (x2) (x3) (x4) S))
set_option maxHeartbeats 4000000 in
set_option maxRecDepth 100000 in
theorem zw_A_burn_23 {p : Program} {l : Launch} {e : Env} {s : State} {m : MethodId} {args : Array Value} {below : List Frame} {meth : Method} {c : Code} {B : zB} (C : CallFix p m c zb_A_burn 6 s args zT "IslandOffice$Almanac") (hr : meth.sig.returnType = some .int) (hlk : meth.locks = false) (hK : zK B s) (hSt : zSt B s) (hap : zAp B) (r1 : Int) (hr1 : 0 ≤ r1 ∧ r1 < 3) {res : Int} {S9 : Sg} (q4 : Int → Int → Sg → Option (Int × Sg)) (hq4 : ∀ (x2 : Int) (x3 : Int) (S : Sg) (nx2 : zn x2) (nx3 : zn x3), q4 x2 x3 S = some (res, S9) → ∀ (H : Heap) (locs : List Loc) (ls : Array Slot), zW B S H → va_S B.2.2.2 s.heap H locs → lv_has ls 6 [(0, .ref (B.2.1 3 (0) (15))), (1, .ref (B.2.1 0 (r1) (0))), (2, .int (zI (x2))), (3, .int (zI (x3)))] → W p l e zm_A_burn s m args below meth c H locs 0 0 (MQ below (zQi B res S9) args s 0 0 B.2.2.2) (F0 m 4 ls [])) : ∀ n : Nat, ∀ (x2 : Int) (x3 : Int) (x4 : Int) (x5 : Int) (S : Sg) (nx2 : zn x2) (nx3 : zn x3) (nx4 : zn x4) (nx5 : zn x5), zf_A_burn_23 r1 q4 n x2 x3 x4 x5 S = some (res, S9) → ∀ (H : Heap) (locs : List Loc) (ls : Array Slot), zW B S H → va_S B.2.2.2 s.heap H locs → lv_has ls 6 [(0, .ref (B.2.1 3 (0) (15))), (1, .ref (B.2.1 0 (r1) (0))), (2, .int (zI (x2))), (3, .int (zI (x3))), (4, .int (zI (x4))), (5, .int (zI (x5)))] → W p l e zm_A_burn s m args below meth c H locs 0 0 (MQ below (zQi B res S9) args s 0 0 B.2.2.2) (F0 m 23 ls []) := by
  intro n
  induction n with
  | zero =>
    intro x2 x3 x4 x5 S nx2 nx3 nx4 nx5 hf H locs ls hW hS hl
    cases hf
  | succ n ih =>
    intro x2 x3 x4 x5 S nx2 nx3 nx4 nx5 hf H locs ls hW hS hl
    rw [zf_A_burn_23] at hf
    refine lv_iload C.1 C.2.1 zd_A_burn_23 (lv_at hl 5 rfl) ?_
    refine zr_bipush C zd_A_burn_25 (by decide) ?_
    refine zr_icmp_ge (tgt := 61) C nx5 (znb rfl) zd_A_burn_27 (by decide) (fun c1 => ?_) (fun c1 => ?_)
    · rw [if_pos c1] at hf
      exact zw_A_burn_61 C hr hlk hK hSt hap r1 hr1 q4 hq4 (x2) (x3) (x4) S nx2 nx3 nx4 hf _ _ _ hW hS (lv_sub hl [0, 1, 2, 3, 4] rfl)
    · rw [if_neg c1] at hf
      refine lv_iload_n C.1 C.2.1 zd_A_burn_30 rfl (lv_at hl 3 rfl) ?_
      refine zr_iconst C zd_A_burn_31 ?_
      refine zr_icmp_ne (tgt := 61) C nx3 (znb rfl) zd_A_burn_32 (by decide) (fun c2 => ?_) (fun c2 => ?_)
      · rw [if_neg c2] at hf
        exact zw_A_burn_61 C hr hlk hK hSt hap r1 hr1 q4 hq4 (x2) (x3) (x4) S nx2 nx3 nx4 hf _ _ _ hW hS (lv_sub hl [0, 1, 2, 3, 4] rfl)
      · rw [if_pos c2] at hf
        refine lv_iload C.1 C.2.1 zd_A_burn_35 (lv_at hl 4 rfl) ?_
        refine lv_aload_n C.1 C.2.1 zd_A_burn_37 rfl (lv_at hl 0 rfl) ?_
        refine zg_A_heads (r := 0) C hK hW (zvd_3 (by decide) (by decide)) zk_470 zd_A_burn_38 ?_
        refine lv_iload C.1 C.2.1 zd_A_burn_41 (lv_at hl 5 rfl) ?_
        obtain ⟨h3, hf⟩ := zck_some hf
        refine ziald C hK hW (zvd_3 (by decide) (by decide)) (fun f => ze_3_18 B f (0)) (by decide) h3 zd_A_burn_43 ?_
        refine zr_if_le (tgt := 51) C (zWn hW _ _ _ _ rfl) zd_A_burn_44 (by decide) (fun c4 => ?_) (fun c4 => ?_)
        · rw [if_pos c4] at hf
          refine zr_iconst C zd_A_burn_51 ?_
          exact zw_A_burn_52 C hr hlk hK hSt hap r1 hr1 q4 hq4 (zf_A_burn_23 r1 q4 n) (ih) (x2) (x3) (x5) (x4) (0) S nx2 nx3 nx5 nx4 (znb rfl) hf _ _ _ hW hS (lv_sub hl [0, 1, 2, 3, 5] rfl)
        · rw [if_neg c4] at hf
          refine zr_iconst C zd_A_burn_47 ?_
          refine lv_goto (tgt := 52) C.1 C.2.1 zd_A_burn_48 (by decide) ?_
          exact zw_A_burn_52 C hr hlk hK hSt hap r1 hr1 q4 hq4 (zf_A_burn_23 r1 q4 n) (ih) (x2) (x3) (x5) (x4) (1) S nx2 nx3 nx5 nx4 (znb rfl) hf _ _ _ hW hS (lv_sub hl [0, 1, 2, 3, 5] rfl)

def zf_A_burn_4 (r1 : Int) : Nat → Int → Int → Sg → Option (Int × Sg)
  | 0, _, _, _ => none
  | n + 1, x2, x3, S =>
    if 4 ≤ x3 then (some (x2, S)) else (zck (0 ≤ x3 ∧ x3 < 4) <| zlt (S 0 r1 34 x3) fun v3 => zf_A_burn_23 r1 (zf_A_burn_4 r1 n) 4096 (x2) (x3) (v3) (0) S)
set_option maxHeartbeats 4000000 in
set_option maxRecDepth 100000 in
theorem zw_A_burn_4 {p : Program} {l : Launch} {e : Env} {s : State} {m : MethodId} {args : Array Value} {below : List Frame} {meth : Method} {c : Code} {B : zB} (C : CallFix p m c zb_A_burn 6 s args zT "IslandOffice$Almanac") (hr : meth.sig.returnType = some .int) (hlk : meth.locks = false) (hK : zK B s) (hSt : zSt B s) (hap : zAp B) (r1 : Int) (hr1 : 0 ≤ r1 ∧ r1 < 3) {res : Int} {S9 : Sg} : ∀ n : Nat, ∀ (x2 : Int) (x3 : Int) (S : Sg) (nx2 : zn x2) (nx3 : zn x3), zf_A_burn_4 r1 n x2 x3 S = some (res, S9) → ∀ (H : Heap) (locs : List Loc) (ls : Array Slot), zW B S H → va_S B.2.2.2 s.heap H locs → lv_has ls 6 [(0, .ref (B.2.1 3 (0) (15))), (1, .ref (B.2.1 0 (r1) (0))), (2, .int (zI (x2))), (3, .int (zI (x3)))] → W p l e zm_A_burn s m args below meth c H locs 0 0 (MQ below (zQi B res S9) args s 0 0 B.2.2.2) (F0 m 4 ls []) := by
  intro n
  induction n with
  | zero =>
    intro x2 x3 S nx2 nx3 hf H locs ls hW hS hl
    cases hf
  | succ n ih =>
    intro x2 x3 S nx2 nx3 hf H locs ls hW hS hl
    rw [zf_A_burn_4] at hf
    refine lv_iload_n C.1 C.2.1 zd_A_burn_4 rfl (lv_at hl 3 rfl) ?_
    refine zr_iconst C zd_A_burn_5 ?_
    refine zr_icmp_ge (tgt := 86) C nx3 (znb rfl) zd_A_burn_6 (by decide) (fun c1 => ?_) (fun c1 => ?_)
    · rw [if_pos c1] at hf
      refine lv_iload_n C.1 C.2.1 zd_A_burn_86 rfl (lv_at hl 2 rfl) ?_
      cases hf
      exact zre_i C hr hlk hK hW hS nx2 zd_A_burn_87
    · rw [if_neg c1] at hf
      refine lv_aload_n C.1 C.2.1 zd_A_burn_9 rfl (lv_at hl 1 rfl) ?_
      refine zg_I_stores (r := r1) C hK hW (zvd_0 hr1 (by decide)) zk_291 zd_A_burn_10 ?_
      refine zg_T_uses (r := r1) C hK hW (zvd_0 hr1 (by decide)) zk_203 zd_A_burn_13 ?_
      refine lv_iload_n C.1 C.2.1 zd_A_burn_16 rfl (lv_at hl 3 rfl) ?_
      obtain ⟨h2, hf⟩ := zck_some hf
      refine ziald C hK hW (zvd_0 hr1 (by decide)) (fun f => ze_0_34 B f (r1)) (by decide) h2 zd_A_burn_17 ?_
      obtain ⟨v3, ev3, hf⟩ := zlt_some hf
      have nv3 : zn v3 := by rw [← ev3]; exact (zWn hW _ _ _ _ rfl)
      rw [ev3]
      refine lv_istore (lv' := [(4, .int (zI (v3))), (0, .ref (B.2.1 3 (0) (15))), (1, .ref (B.2.1 0 (r1) (0))), (2, .int (zI (x2))), (3, .int (zI (x3)))]) C.1 C.2.1 zd_A_burn_18 hl (by decide) rfl (fun ls hl => ?_)
      refine zr_iconst C zd_A_burn_20 ?_
      refine lv_istore (lv' := [(5, .int (zI (0))), (4, .int (zI (v3))), (0, .ref (B.2.1 3 (0) (15))), (1, .ref (B.2.1 0 (r1) (0))), (2, .int (zI (x2))), (3, .int (zI (x3)))]) C.1 C.2.1 zd_A_burn_21 hl (by decide) rfl (fun ls hl => ?_)
      exact zw_A_burn_23 C hr hlk hK hSt hap r1 hr1 (zf_A_burn_4 r1 n) (ih) 4096 (x2) (x3) (v3) (0) S nx2 nx3 nv3 (znb rfl) hf _ _ _ hW hS (lv_sub hl [2, 3, 4, 5, 1, 0] rfl)

def zf_A_burn (r1 : Int) (S : Sg) : Option (Int × Sg) :=
    zf_A_burn_4 r1 4096 (0) (1) S
set_option maxHeartbeats 4000000 in
set_option maxRecDepth 100000 in
theorem zw_A_burn {p : Program} {l : Launch} {e : Env} {s : State} {m : MethodId} {args : Array Value} {below : List Frame} {meth : Method} {c : Code} {B : zB} (C : CallFix p m c zb_A_burn 6 s args zT "IslandOffice$Almanac") (hr : meth.sig.returnType = some .int) (hlk : meth.locks = false) (hK : zK B s) (hSt : zSt B s) (hap : zAp B) (r1 : Int) (hr1 : 0 ≤ r1 ∧ r1 < 3) {res : Int} {S9 : Sg} : ∀  (S : Sg) , zf_A_burn r1  S = some (res, S9) → ∀ (H : Heap) (locs : List Loc) (ls : Array Slot), zW B S H → va_S B.2.2.2 s.heap H locs → lv_has ls 6 [(0, .ref (B.2.1 3 (0) (15))), (1, .ref (B.2.1 0 (r1) (0)))] → W p l e zm_A_burn s m args below meth c H locs 0 0 (MQ below (zQi B res S9) args s 0 0 B.2.2.2) (F0 m 0 ls []) := by
  intro S hf H locs ls hW hS hl
  unfold zf_A_burn at hf
  refine zr_iconst C zd_A_burn_0 ?_
  refine lv_istore_n (lv' := [(2, .int (zI (0))), (0, .ref (B.2.1 3 (0) (15))), (1, .ref (B.2.1 0 (r1) (0)))]) C.1 C.2.1 zd_A_burn_1 rfl hl (by decide) rfl (fun ls hl => ?_)
  refine zr_iconst C zd_A_burn_2 ?_
  refine lv_istore_n (lv' := [(3, .int (zI (1))), (2, .int (zI (0))), (0, .ref (B.2.1 3 (0) (15))), (1, .ref (B.2.1 0 (r1) (0)))]) C.1 C.2.1 zd_A_burn_3 rfl hl (by decide) rfl (fun ls hl => ?_)
  exact zw_A_burn_4 C hr hlk hK hSt hap r1 hr1 4096 (0) (1) S (znb rfl) (znb rfl) hf _ _ _ hW hS (lv_sub hl [2, 3, 1, 0] rfl)

theorem zc_A_burn {l : Launch} {B : zB} (hap : zAp B) (r1 : Int) (hr1 : 0 ≤ r1 ∧ r1 < 3) (S : Sg) {res : Int} {S9 : Sg} (hf : zf_A_burn r1 S = some (res, S9)) : Met l zy_A_burn (Cond.code zy_A_burn zb_A_burn 6 (some .int) :: zT) zm_A_burn (zP B S [.ref (B.2.1 3 (0) (15)), .ref (B.2.1 0 (r1) (0))]) (zQi B res S9) 0 0 B.2.2.2 :=
  zmet (by decide) (Nat.le_of_ble_eq_true rfl) (fun p e s m args below meth c C hr hlk hK hSt hW ls hl => zw_A_burn C hr hlk hK hSt hap r1 hr1  S  hf _ _ _ hW va_S.rf hl)
/-! IslandOffice$Almanac.countHeads(LIslandOffice$Island;)V -/
abbrev zy_A_countHeads : MethodName := ⟨"IslandOffice$Almanac", "countHeads", "(LIslandOffice$Island;)V"⟩
abbrev zb_A_countHeads : ByteArray := prog_2_method_5_code
abbrev zm_A_countHeads : Room := { frames := 1, cells := 0, slots := 0, locals := 23 }
theorem zq_A_countHeads : zMy zy_A_countHeads zb_A_countHeads 3 (none) 1 := ⟨zk_953, zk_952, zs_28, zk_13, by decide, by decide, by decide +kernel⟩
theorem zd_A_countHeads_0 : decode zb_A_countHeads 0 = .ok (.aload_n 0, 1) := by decide +kernel
theorem zd_A_countHeads_1 : decode zb_A_countHeads 1 = .ok (.getfield 26, 3) := by decide +kernel
theorem zd_A_countHeads_4 : decode zb_A_countHeads 4 = .ok (.iconst 0, 1) := by decide +kernel
theorem zd_A_countHeads_5 : decode zb_A_countHeads 5 = .ok (.invokestatic 153, 3) := by decide +kernel
theorem zd_A_countHeads_8 : decode zb_A_countHeads 8 = .ok (.iconst 0, 1) := by decide +kernel
theorem zd_A_countHeads_9 : decode zb_A_countHeads 9 = .ok (.istore_n 2, 1) := by decide +kernel
theorem zd_A_countHeads_10 : decode zb_A_countHeads 10 = .ok (.iload_n 2, 1) := by decide +kernel
theorem zd_A_countHeads_11 : decode zb_A_countHeads 11 = .ok (.aload_n 1, 1) := by decide +kernel
theorem zd_A_countHeads_12 : decode zb_A_countHeads 12 = .ok (.getfield 116, 3) := by decide +kernel
theorem zd_A_countHeads_15 : decode zb_A_countHeads 15 = .ok (.getfield 120, 3) := by decide +kernel
theorem zd_A_countHeads_18 : decode zb_A_countHeads 18 = .ok (.if_icmp .ge 39, 3) := by decide +kernel
theorem zd_A_countHeads_21 : decode zb_A_countHeads 21 = .ok (.aload_n 1, 1) := by decide +kernel
theorem zd_A_countHeads_22 : decode zb_A_countHeads 22 = .ok (.getfield 116, 3) := by decide +kernel
theorem zd_A_countHeads_25 : decode zb_A_countHeads 25 = .ok (.getfield 125, 3) := by decide +kernel
theorem zd_A_countHeads_28 : decode zb_A_countHeads 28 = .ok (.iload_n 2, 1) := by decide +kernel
theorem zd_A_countHeads_29 : decode zb_A_countHeads 29 = .ok (.iaload, 1) := by decide +kernel
theorem zd_A_countHeads_30 : decode zb_A_countHeads 30 = .ok (.ifCond .ne 21, 3) := by decide +kernel
theorem zd_A_countHeads_33 : decode zb_A_countHeads 33 = .ok (.aload_n 0, 1) := by decide +kernel
theorem zd_A_countHeads_34 : decode zb_A_countHeads 34 = .ok (.getfield 26, 3) := by decide +kernel
theorem zd_A_countHeads_37 : decode zb_A_countHeads 37 = .ok (.aload_n 1, 1) := by decide +kernel
theorem zd_A_countHeads_38 : decode zb_A_countHeads 38 = .ok (.getfield 116, 3) := by decide +kernel
theorem zd_A_countHeads_41 : decode zb_A_countHeads 41 = .ok (.getfield 158, 3) := by decide +kernel
theorem zd_A_countHeads_44 : decode zb_A_countHeads 44 = .ok (.iload_n 2, 1) := by decide +kernel
theorem zd_A_countHeads_45 : decode zb_A_countHeads 45 = .ok (.iaload, 1) := by decide +kernel
theorem zd_A_countHeads_46 : decode zb_A_countHeads 46 = .ok (.dup2, 1) := by decide +kernel
theorem zd_A_countHeads_47 : decode zb_A_countHeads 47 = .ok (.iaload, 1) := by decide +kernel
theorem zd_A_countHeads_48 : decode zb_A_countHeads 48 = .ok (.iconst 1, 1) := by decide +kernel
theorem zd_A_countHeads_49 : decode zb_A_countHeads 49 = .ok (.iadd, 1) := by decide +kernel
theorem zd_A_countHeads_50 : decode zb_A_countHeads 50 = .ok (.iastore, 1) := by decide +kernel
theorem zd_A_countHeads_51 : decode zb_A_countHeads 51 = .ok (.iinc 2 1, 3) := by decide +kernel
theorem zd_A_countHeads_54 : decode zb_A_countHeads 54 = .ok (.goto (-44), 3) := by decide +kernel
theorem zd_A_countHeads_57 : decode zb_A_countHeads 57 = .ok (.return_, 1) := by decide +kernel

def zf_A_countHeads_51 (r1 : Int) (q10 : Int → Sg → Option (Int × Sg)) (x2 : Int) (S : Sg) : Option (Int × Sg) :=
    zlt (zw (x2 + 1)) fun v1 => q10 (v1) S
set_option maxHeartbeats 4000000 in
set_option maxRecDepth 100000 in
theorem zw_A_countHeads_51 {p : Program} {l : Launch} {e : Env} {s : State} {m : MethodId} {args : Array Value} {below : List Frame} {meth : Method} {c : Code} {B : zB} (C : CallFix p m c zb_A_countHeads 3 s args zT "IslandOffice$Almanac") (hr : meth.sig.returnType = none) (hlk : meth.locks = false) (hK : zK B s) (hSt : zSt B s) (hap : zAp B) (r1 : Int) (hr1 : 0 ≤ r1 ∧ r1 < 3) {res : Int} {S9 : Sg} (q10 : Int → Sg → Option (Int × Sg)) (hq10 : ∀ (x2 : Int) (S : Sg) (nx2 : zn x2), q10 x2 S = some (res, S9) → ∀ (H : Heap) (locs : List Loc) (ls : Array Slot), zW B S H → va_S B.2.2.2 s.heap H locs → lv_has ls 3 [(0, .ref (B.2.1 3 (0) (15))), (1, .ref (B.2.1 0 (r1) (0))), (2, .int (zI (x2)))] → W p l e zm_A_countHeads s m args below meth c H locs 0 0 (MQ below (zQv B S9) args s 0 0 B.2.2.2) (F0 m 10 ls [])) : ∀ (x2 : Int) (S : Sg) (nx2 : zn x2), zf_A_countHeads_51 r1 q10 x2 S = some (res, S9) → ∀ (H : Heap) (locs : List Loc) (ls : Array Slot), zW B S H → va_S B.2.2.2 s.heap H locs → lv_has ls 3 [(0, .ref (B.2.1 3 (0) (15))), (1, .ref (B.2.1 0 (r1) (0))), (2, .int (zI (x2)))] → W p l e zm_A_countHeads s m args below meth c H locs 0 0 (MQ below (zQv B S9) args s 0 0 B.2.2.2) (F0 m 51 ls []) := by
  intro x2 S nx2 hf H locs ls hW hS hl
  unfold zf_A_countHeads_51 at hf
  obtain ⟨v1, ev1, hf⟩ := zlt_some hf
  have nv1 : zn v1 := by rw [← ev1]; exact zn_w _
  refine lv_iinc (v := zI v1) (lv' := [(2, .int (zI (v1))), (0, .ref (B.2.1 3 (0) (15))), (1, .ref (B.2.1 0 (r1) (0)))]) C.1 C.2.1 zd_A_countHeads_51 hl (k := 2) rfl (by rw [← ev1, ← zI_add]; rfl) (by decide) rfl (fun ls hl => ?_)
  refine lv_goto (tgt := 10) C.1 C.2.1 zd_A_countHeads_54 (by decide) ?_
  exact hq10 (v1) S nv1 hf _ _ _ hW hS (lv_sub hl [1, 2, 0] rfl)

def zf_A_countHeads_10 (r1 : Int) : Nat → Int → Sg → Option (Int × Sg)
  | 0, _, _ => none
  | n + 1, x2, S =>
    if (S 0 r1 6 0) ≤ x2 then (some (0, S)) else (zck (0 ≤ x2 ∧ x2 < 40) <| if (S 0 r1 11 x2) = 0 then (zck (0 ≤ (S 0 r1 8 x2) ∧ (S 0 r1 8 x2) < 12) <| zlt (zu S 3 0 18 (S 0 r1 8 x2) (zw ((S 3 0 18 (S 0 r1 8 x2)) + 1))) fun S5 => zf_A_countHeads_51 r1 (zf_A_countHeads_10 r1 n) (x2) S5) else (zf_A_countHeads_51 r1 (zf_A_countHeads_10 r1 n) (x2) S))
set_option maxHeartbeats 4000000 in
set_option maxRecDepth 100000 in
theorem zw_A_countHeads_10 {p : Program} {l : Launch} {e : Env} {s : State} {m : MethodId} {args : Array Value} {below : List Frame} {meth : Method} {c : Code} {B : zB} (C : CallFix p m c zb_A_countHeads 3 s args zT "IslandOffice$Almanac") (hr : meth.sig.returnType = none) (hlk : meth.locks = false) (hK : zK B s) (hSt : zSt B s) (hap : zAp B) (r1 : Int) (hr1 : 0 ≤ r1 ∧ r1 < 3) {res : Int} {S9 : Sg} : ∀ n : Nat, ∀ (x2 : Int) (S : Sg) (nx2 : zn x2), zf_A_countHeads_10 r1 n x2 S = some (res, S9) → ∀ (H : Heap) (locs : List Loc) (ls : Array Slot), zW B S H → va_S B.2.2.2 s.heap H locs → lv_has ls 3 [(0, .ref (B.2.1 3 (0) (15))), (1, .ref (B.2.1 0 (r1) (0))), (2, .int (zI (x2)))] → W p l e zm_A_countHeads s m args below meth c H locs 0 0 (MQ below (zQv B S9) args s 0 0 B.2.2.2) (F0 m 10 ls []) := by
  intro n
  induction n with
  | zero =>
    intro x2 S nx2 hf H locs ls hW hS hl
    cases hf
  | succ n ih =>
    intro x2 S nx2 hf H locs ls hW hS hl
    rw [zf_A_countHeads_10] at hf
    refine lv_iload_n C.1 C.2.1 zd_A_countHeads_10 rfl (lv_at hl 2 rfl) ?_
    refine lv_aload_n C.1 C.2.1 zd_A_countHeads_11 rfl (lv_at hl 1 rfl) ?_
    refine zg_I_people (r := r1) C hK hW (zvd_0 hr1 (by decide)) zk_281 zd_A_countHeads_12 ?_
    refine zg_P_n (r := r1) C hK hW (zvd_0 hr1 (by decide)) zk_54 zd_A_countHeads_15 ?_
    refine zr_icmp_ge (tgt := 57) C nx2 (zWn hW _ _ _ _ rfl) zd_A_countHeads_18 (by decide) (fun c1 => ?_) (fun c1 => ?_)
    · rw [if_pos c1] at hf
      cases hf
      exact zre_v C hr hlk hK hW hS zd_A_countHeads_57
    · rw [if_neg c1] at hf
      refine lv_aload_n C.1 C.2.1 zd_A_countHeads_21 rfl (lv_at hl 1 rfl) ?_
      refine zg_I_people (r := r1) C hK hW (zvd_0 hr1 (by decide)) zk_281 zd_A_countHeads_22 ?_
      refine zg_P_state (r := r1) C hK hW (zvd_0 hr1 (by decide)) zk_72 zd_A_countHeads_25 ?_
      refine lv_iload_n C.1 C.2.1 zd_A_countHeads_28 rfl (lv_at hl 2 rfl) ?_
      obtain ⟨h2, hf⟩ := zck_some hf
      refine ziald C hK hW (zvd_0 hr1 (by decide)) (fun f => ze_0_11 B f (r1)) (by decide) h2 zd_A_countHeads_29 ?_
      refine zr_if_ne (tgt := 51) C (zWn hW _ _ _ _ rfl) zd_A_countHeads_30 (by decide) (fun c3 => ?_) (fun c3 => ?_)
      · rw [if_neg c3] at hf
        exact zw_A_countHeads_51 C hr hlk hK hSt hap r1 hr1 (zf_A_countHeads_10 r1 n) (ih) (x2) S nx2 hf _ _ _ hW hS (lv_sub hl [0, 1, 2] rfl)
      · rw [if_pos c3] at hf
        refine lv_aload_n C.1 C.2.1 zd_A_countHeads_33 rfl (lv_at hl 0 rfl) ?_
        refine zg_A_heads (r := 0) C hK hW (zvd_3 (by decide) (by decide)) zk_470 zd_A_countHeads_34 ?_
        refine lv_aload_n C.1 C.2.1 zd_A_countHeads_37 rfl (lv_at hl 1 rfl) ?_
        refine zg_I_people (r := r1) C hK hW (zvd_0 hr1 (by decide)) zk_281 zd_A_countHeads_38 ?_
        refine zg_P_house (r := r1) C hK hW (zvd_0 hr1 (by decide)) zk_62 zd_A_countHeads_41 ?_
        refine lv_iload_n C.1 C.2.1 zd_A_countHeads_44 rfl (lv_at hl 2 rfl) ?_
        refine ziald C hK hW (zvd_0 hr1 (by decide)) (fun f => ze_0_8 B f (r1)) (by decide) h2 zd_A_countHeads_45 ?_
        refine lv_dup2_11 C.1 C.2.1 zd_A_countHeads_46 rfl rfl ?_
        obtain ⟨h4, hf⟩ := zck_some hf
        refine ziald C hK hW (zvd_3 (by decide) (by decide)) (fun f => ze_3_18 B f (0)) (by decide) h4 zd_A_countHeads_47 ?_
        refine zr_iconst C zd_A_countHeads_48 ?_
        refine zr_iadd C zd_A_countHeads_49 ?_
        obtain ⟨S5, eS5, hf⟩ := zlt_some hf
        refine ziast C hK hap hW hS (zvd_3 (by decide) (by decide)) (fun f => ze_3_18 B f (0)) (by decide) rfl (zn_w _) h4 zd_A_countHeads_50 (fun H locs hW hS => ?_)
        rw [eS5] at hW
        exact zw_A_countHeads_51 C hr hlk hK hSt hap r1 hr1 (zf_A_countHeads_10 r1 n) (ih) (x2) S5 nx2 hf _ _ _ hW hS (lv_sub hl [0, 1, 2] rfl)

def zf_A_countHeads (r1 : Int) (S : Sg) : Option (Int × Sg) :=
    zbd (zf_Ja_fill 3 (0) (18) 12 0 S) fun a1 S2 => zf_A_countHeads_10 r1 4096 (0) S2
set_option maxHeartbeats 4000000 in
set_option maxRecDepth 100000 in
theorem zw_A_countHeads {p : Program} {l : Launch} {e : Env} {s : State} {m : MethodId} {args : Array Value} {below : List Frame} {meth : Method} {c : Code} {B : zB} (C : CallFix p m c zb_A_countHeads 3 s args zT "IslandOffice$Almanac") (hr : meth.sig.returnType = none) (hlk : meth.locks = false) (hK : zK B s) (hSt : zSt B s) (hap : zAp B) (r1 : Int) (hr1 : 0 ≤ r1 ∧ r1 < 3) {res : Int} {S9 : Sg} : ∀  (S : Sg) , zf_A_countHeads r1  S = some (res, S9) → ∀ (H : Heap) (locs : List Loc) (ls : Array Slot), zW B S H → va_S B.2.2.2 s.heap H locs → lv_has ls 3 [(0, .ref (B.2.1 3 (0) (15))), (1, .ref (B.2.1 0 (r1) (0)))] → W p l e zm_A_countHeads s m args below meth c H locs 0 0 (MQ below (zQv B S9) args s 0 0 B.2.2.2) (F0 m 0 ls []) := by
  intro S hf H locs ls hW hS hl
  unfold zf_A_countHeads at hf
  refine lv_aload_n C.1 C.2.1 zd_A_countHeads_0 rfl (lv_at hl 0 rfl) ?_
  refine zg_A_heads (r := 0) C hK hW (zvd_3 (by decide) (by decide)) zk_470 zd_A_countHeads_1 ?_
  refine zr_iconst C zd_A_countHeads_4 ?_
  obtain ⟨a1, S2, ea1, hf⟩ := zbd_some hf
  refine zcSv (As := [.ref (B.2.1 3 (0) (18)), .int (zI (0))]) (rest := []) C hK hSt hW hS (zc_Ja_fill hap 3 (0) (18) 12 (zvd_3 (by decide) (by decide)) (fun f => ze_3_18 B f (0)) (by decide) rfl 0 S (znb rfl) ea1) zq_Ja_fill zk_954 ⟨rfl, rfl, by decide, by decide⟩ ⟨Nat.zero_le _, Nat.zero_le _⟩ rfl hl.1 rfl (lv_room (Nat.le_of_ble_eq_true rfl)) zd_A_countHeads_5 (fun H locs hW hS => ?_)
  refine zr_iconst C zd_A_countHeads_8 ?_
  refine lv_istore_n (lv' := [(2, .int (zI (0))), (0, .ref (B.2.1 3 (0) (15))), (1, .ref (B.2.1 0 (r1) (0)))]) C.1 C.2.1 zd_A_countHeads_9 rfl hl (by decide) rfl (fun ls hl => ?_)
  exact zw_A_countHeads_10 C hr hlk hK hSt hap r1 hr1 4096 (0) S2 (znb rfl) hf _ _ _ hW hS (lv_sub hl [1, 2, 0] rfl)

theorem zc_A_countHeads {l : Launch} {B : zB} (hap : zAp B) (r1 : Int) (hr1 : 0 ≤ r1 ∧ r1 < 3) (S : Sg) {res : Int} {S9 : Sg} (hf : zf_A_countHeads r1 S = some (res, S9)) : Met l zy_A_countHeads (Cond.code zy_A_countHeads zb_A_countHeads 3 (none) :: zT) zm_A_countHeads (zP B S [.ref (B.2.1 3 (0) (15)), .ref (B.2.1 0 (r1) (0))]) (zQv B S9) 0 0 B.2.2.2 :=
  zmet (by decide) (Nat.le_of_ble_eq_true rfl) (fun p e s m args below meth c C hr hlk hK hSt hW ls hl => zw_A_countHeads C hr hlk hK hSt hap r1 hr1  S  hf _ _ _ hW va_S.rf hl)
/-! IslandOffice$Almanac.drink(LIslandOffice$Island;)V -/
abbrev zy_A_drink : MethodName := ⟨"IslandOffice$Almanac", "drink", "(LIslandOffice$Island;)V"⟩
abbrev zb_A_drink : ByteArray := prog_2_method_6_code
abbrev zm_A_drink : Room := { frames := 1, cells := 0, slots := 0, locals := 64 }
theorem zq_A_drink : zMy zy_A_drink zb_A_drink 4 (none) 1 := ⟨zk_958, zk_957, zs_29, zk_13, by decide, by decide, by decide +kernel⟩
theorem zd_A_drink_0 : decode zb_A_drink 0 = .ok (.iconst 0, 1) := by decide +kernel
theorem zd_A_drink_1 : decode zb_A_drink 1 = .ok (.istore_n 2, 1) := by decide +kernel
theorem zd_A_drink_2 : decode zb_A_drink 2 = .ok (.iload_n 2, 1) := by decide +kernel
theorem zd_A_drink_3 : decode zb_A_drink 3 = .ok (.bipush 12, 2) := by decide +kernel
theorem zd_A_drink_5 : decode zb_A_drink 5 = .ok (.if_icmp .ge 62, 3) := by decide +kernel
theorem zd_A_drink_8 : decode zb_A_drink 8 = .ok (.aload_n 0, 1) := by decide +kernel
theorem zd_A_drink_9 : decode zb_A_drink 9 = .ok (.getfield 26, 3) := by decide +kernel
theorem zd_A_drink_12 : decode zb_A_drink 12 = .ok (.iload_n 2, 1) := by decide +kernel
theorem zd_A_drink_13 : decode zb_A_drink 13 = .ok (.iaload, 1) := by decide +kernel
theorem zd_A_drink_14 : decode zb_A_drink 14 = .ok (.aload_n 1, 1) := by decide +kernel
theorem zd_A_drink_15 : decode zb_A_drink 15 = .ok (.getfield 161, 3) := by decide +kernel
theorem zd_A_drink_18 : decode zb_A_drink 18 = .ok (.iload_n 2, 1) := by decide +kernel
theorem zd_A_drink_19 : decode zb_A_drink 19 = .ok (.iaload, 1) := by decide +kernel
theorem zd_A_drink_20 : decode zb_A_drink 20 = .ok (.iadd, 1) := by decide +kernel
theorem zd_A_drink_21 : decode zb_A_drink 21 = .ok (.istore_n 3, 1) := by decide +kernel
theorem zd_A_drink_22 : decode zb_A_drink 22 = .ok (.aload_n 1, 1) := by decide +kernel
theorem zd_A_drink_23 : decode zb_A_drink 23 = .ok (.getfield 164, 3) := by decide +kernel
theorem zd_A_drink_26 : decode zb_A_drink 26 = .ok (.iload_n 2, 1) := by decide +kernel
theorem zd_A_drink_27 : decode zb_A_drink 27 = .ok (.aload_n 1, 1) := by decide +kernel
theorem zd_A_drink_28 : decode zb_A_drink 28 = .ok (.getfield 134, 3) := by decide +kernel
theorem zd_A_drink_31 : decode zb_A_drink 31 = .ok (.iload_n 2, 1) := by decide +kernel
theorem zd_A_drink_32 : decode zb_A_drink 32 = .ok (.iaload, 1) := by decide +kernel
theorem zd_A_drink_33 : decode zb_A_drink 33 = .ok (.iload_n 3, 1) := by decide +kernel
theorem zd_A_drink_34 : decode zb_A_drink 34 = .ok (.if_icmp .ge 7, 3) := by decide +kernel
theorem zd_A_drink_37 : decode zb_A_drink 37 = .ok (.iconst 1, 1) := by decide +kernel
theorem zd_A_drink_38 : decode zb_A_drink 38 = .ok (.goto 4, 3) := by decide +kernel
theorem zd_A_drink_41 : decode zb_A_drink 41 = .ok (.iconst 0, 1) := by decide +kernel
theorem zd_A_drink_42 : decode zb_A_drink 42 = .ok (.iastore, 1) := by decide +kernel
theorem zd_A_drink_43 : decode zb_A_drink 43 = .ok (.aload_n 1, 1) := by decide +kernel
theorem zd_A_drink_44 : decode zb_A_drink 44 = .ok (.getfield 134, 3) := by decide +kernel
theorem zd_A_drink_47 : decode zb_A_drink 47 = .ok (.iload_n 2, 1) := by decide +kernel
theorem zd_A_drink_48 : decode zb_A_drink 48 = .ok (.iconst 0, 1) := by decide +kernel
theorem zd_A_drink_49 : decode zb_A_drink 49 = .ok (.aload_n 1, 1) := by decide +kernel
theorem zd_A_drink_50 : decode zb_A_drink 50 = .ok (.getfield 134, 3) := by decide +kernel
theorem zd_A_drink_53 : decode zb_A_drink 53 = .ok (.iload_n 2, 1) := by decide +kernel
theorem zd_A_drink_54 : decode zb_A_drink 54 = .ok (.iaload, 1) := by decide +kernel
theorem zd_A_drink_55 : decode zb_A_drink 55 = .ok (.iload_n 3, 1) := by decide +kernel
theorem zd_A_drink_56 : decode zb_A_drink 56 = .ok (.isub, 1) := by decide +kernel
theorem zd_A_drink_57 : decode zb_A_drink 57 = .ok (.invokestatic 167, 3) := by decide +kernel
theorem zd_A_drink_60 : decode zb_A_drink 60 = .ok (.iastore, 1) := by decide +kernel
theorem zd_A_drink_61 : decode zb_A_drink 61 = .ok (.iinc 2 1, 3) := by decide +kernel
theorem zd_A_drink_64 : decode zb_A_drink 64 = .ok (.goto (-62), 3) := by decide +kernel
theorem zd_A_drink_67 : decode zb_A_drink 67 = .ok (.return_, 1) := by decide +kernel

def zf_A_drink_42 (r1 : Int) (q2 : Int → Sg → Option (Int × Sg)) (x2 : Int) (x3 : Int) (xt1 : Int) (xt2 : Int) (S : Sg) : Option (Int × Sg) :=
    zck (0 ≤ xt1 ∧ xt1 < 12) <| zlt (zu S 0 r1 5 xt1 xt2) fun S2 => zck (0 ≤ x2 ∧ x2 < 12) <| zlt (zu S2 0 r1 3 x2 (max 0 (zw ((S2 0 r1 3 x2) - x3)))) fun S4 => zlt (zw (x2 + 1)) fun v5 => q2 (v5) S4
set_option maxHeartbeats 4000000 in
set_option maxRecDepth 100000 in
theorem zw_A_drink_42 {p : Program} {l : Launch} {e : Env} {s : State} {m : MethodId} {args : Array Value} {below : List Frame} {meth : Method} {c : Code} {B : zB} (C : CallFix p m c zb_A_drink 4 s args zT "IslandOffice$Almanac") (hr : meth.sig.returnType = none) (hlk : meth.locks = false) (hK : zK B s) (hSt : zSt B s) (hap : zAp B) (r1 : Int) (hr1 : 0 ≤ r1 ∧ r1 < 3) {res : Int} {S9 : Sg} (q2 : Int → Sg → Option (Int × Sg)) (hq2 : ∀ (x2 : Int) (S : Sg) (nx2 : zn x2), q2 x2 S = some (res, S9) → ∀ (H : Heap) (locs : List Loc) (ls : Array Slot), zW B S H → va_S B.2.2.2 s.heap H locs → lv_has ls 4 [(0, .ref (B.2.1 3 (0) (15))), (1, .ref (B.2.1 0 (r1) (0))), (2, .int (zI (x2)))] → W p l e zm_A_drink s m args below meth c H locs 0 0 (MQ below (zQv B S9) args s 0 0 B.2.2.2) (F0 m 2 ls [])) : ∀ (x2 : Int) (x3 : Int) (xt1 : Int) (xt2 : Int) (S : Sg) (nx2 : zn x2) (nx3 : zn x3) (nxt1 : zn xt1) (nxt2 : zn xt2), zf_A_drink_42 r1 q2 x2 x3 xt1 xt2 S = some (res, S9) → ∀ (H : Heap) (locs : List Loc) (ls : Array Slot), zW B S H → va_S B.2.2.2 s.heap H locs → lv_has ls 4 [(0, .ref (B.2.1 3 (0) (15))), (1, .ref (B.2.1 0 (r1) (0))), (2, .int (zI (x2))), (3, .int (zI (x3)))] → W p l e zm_A_drink s m args below meth c H locs 0 0 (MQ below (zQv B S9) args s 0 0 B.2.2.2) (F0 m 42 ls [.int (zI (xt2)), .int (zI (xt1)), .ref (B.2.1 0 (r1) (5))]) := by
  intro x2 x3 xt1 xt2 S nx2 nx3 nxt1 nxt2 hf H locs ls hW hS hl
  unfold zf_A_drink_42 at hf
  obtain ⟨h1, hf⟩ := zck_some hf
  obtain ⟨S2, eS2, hf⟩ := zlt_some hf
  refine ziast C hK hap hW hS (zvd_0 hr1 (by decide)) (fun f => ze_0_5 B f (r1)) (by decide) rfl nxt2 h1 zd_A_drink_42 (fun H locs hW hS => ?_)
  rw [eS2] at hW
  refine lv_aload_n C.1 C.2.1 zd_A_drink_43 rfl (lv_at hl 1 rfl) ?_
  refine zg_I_tank (r := r1) C hK hW (zvd_0 hr1 (by decide)) zk_270 zd_A_drink_44 ?_
  refine lv_iload_n C.1 C.2.1 zd_A_drink_47 rfl (lv_at hl 2 rfl) ?_
  refine zr_iconst C zd_A_drink_48 ?_
  refine lv_aload_n C.1 C.2.1 zd_A_drink_49 rfl (lv_at hl 1 rfl) ?_
  refine zg_I_tank (r := r1) C hK hW (zvd_0 hr1 (by decide)) zk_270 zd_A_drink_50 ?_
  refine lv_iload_n C.1 C.2.1 zd_A_drink_53 rfl (lv_at hl 2 rfl) ?_
  obtain ⟨h3, hf⟩ := zck_some hf
  refine ziald C hK hW (zvd_0 hr1 (by decide)) (fun f => ze_0_3 B f (r1)) (by decide) h3 zd_A_drink_54 ?_
  refine lv_iload_n C.1 C.2.1 zd_A_drink_55 rfl (lv_at hl 3 rfl) ?_
  refine zr_isub C zd_A_drink_56 ?_
  refine zr_max C hl.1 (znb rfl) (zn_w _) zk_959 zk_678 zk_16 zk_679 (by decide) (Nat.le_of_ble_eq_true rfl) ⟨by decide, by decide⟩ zd_A_drink_57 ?_
  obtain ⟨S4, eS4, hf⟩ := zlt_some hf
  refine ziast C hK hap hW hS (zvd_0 hr1 (by decide)) (fun f => ze_0_3 B f (r1)) (by decide) rfl (zn_max (znb rfl) (zn_w _)) h3 zd_A_drink_60 (fun H locs hW hS => ?_)
  rw [eS4] at hW
  obtain ⟨v5, ev5, hf⟩ := zlt_some hf
  have nv5 : zn v5 := by rw [← ev5]; exact zn_w _
  refine lv_iinc (v := zI v5) (lv' := [(2, .int (zI (v5))), (0, .ref (B.2.1 3 (0) (15))), (1, .ref (B.2.1 0 (r1) (0))), (3, .int (zI (x3)))]) C.1 C.2.1 zd_A_drink_61 hl (k := 2) rfl (by rw [← ev5, ← zI_add]; rfl) (by decide) rfl (fun ls hl => ?_)
  refine lv_goto (tgt := 2) C.1 C.2.1 zd_A_drink_64 (by decide) ?_
  exact hq2 (v5) S4 nv5 hf _ _ _ hW hS (lv_sub hl [1, 2, 0] rfl)

def zf_A_drink_2 (r1 : Int) : Nat → Int → Sg → Option (Int × Sg)
  | 0, _, _ => none
  | n + 1, x2, S =>
    if 12 ≤ x2 then (some (0, S)) else (zck (0 ≤ x2 ∧ x2 < 12) <| zlt (zw ((S 3 0 18 x2) + (S 0 r1 2 x2))) fun v3 => if v3 ≤ (S 0 r1 3 x2) then (zf_A_drink_42 r1 (zf_A_drink_2 r1 n) (x2) (v3) (x2) (0) S) else (zf_A_drink_42 r1 (zf_A_drink_2 r1 n) (x2) (v3) (x2) (1) S))
set_option maxHeartbeats 4000000 in
set_option maxRecDepth 100000 in
theorem zw_A_drink_2 {p : Program} {l : Launch} {e : Env} {s : State} {m : MethodId} {args : Array Value} {below : List Frame} {meth : Method} {c : Code} {B : zB} (C : CallFix p m c zb_A_drink 4 s args zT "IslandOffice$Almanac") (hr : meth.sig.returnType = none) (hlk : meth.locks = false) (hK : zK B s) (hSt : zSt B s) (hap : zAp B) (r1 : Int) (hr1 : 0 ≤ r1 ∧ r1 < 3) {res : Int} {S9 : Sg} : ∀ n : Nat, ∀ (x2 : Int) (S : Sg) (nx2 : zn x2), zf_A_drink_2 r1 n x2 S = some (res, S9) → ∀ (H : Heap) (locs : List Loc) (ls : Array Slot), zW B S H → va_S B.2.2.2 s.heap H locs → lv_has ls 4 [(0, .ref (B.2.1 3 (0) (15))), (1, .ref (B.2.1 0 (r1) (0))), (2, .int (zI (x2)))] → W p l e zm_A_drink s m args below meth c H locs 0 0 (MQ below (zQv B S9) args s 0 0 B.2.2.2) (F0 m 2 ls []) := by
  intro n
  induction n with
  | zero =>
    intro x2 S nx2 hf H locs ls hW hS hl
    cases hf
  | succ n ih =>
    intro x2 S nx2 hf H locs ls hW hS hl
    rw [zf_A_drink_2] at hf
    refine lv_iload_n C.1 C.2.1 zd_A_drink_2 rfl (lv_at hl 2 rfl) ?_
    refine zr_bipush C zd_A_drink_3 (by decide) ?_
    refine zr_icmp_ge (tgt := 67) C nx2 (znb rfl) zd_A_drink_5 (by decide) (fun c1 => ?_) (fun c1 => ?_)
    · rw [if_pos c1] at hf
      cases hf
      exact zre_v C hr hlk hK hW hS zd_A_drink_67
    · rw [if_neg c1] at hf
      refine lv_aload_n C.1 C.2.1 zd_A_drink_8 rfl (lv_at hl 0 rfl) ?_
      refine zg_A_heads (r := 0) C hK hW (zvd_3 (by decide) (by decide)) zk_470 zd_A_drink_9 ?_
      refine lv_iload_n C.1 C.2.1 zd_A_drink_12 rfl (lv_at hl 2 rfl) ?_
      obtain ⟨h2, hf⟩ := zck_some hf
      refine ziald C hK hW (zvd_3 (by decide) (by decide)) (fun f => ze_3_18 B f (0)) (by decide) h2 zd_A_drink_13 ?_
      refine lv_aload_n C.1 C.2.1 zd_A_drink_14 rfl (lv_at hl 1 rfl) ?_
      refine zg_I_cattle (r := r1) C hK hW (zvd_0 hr1 (by decide)) zk_267 zd_A_drink_15 ?_
      refine lv_iload_n C.1 C.2.1 zd_A_drink_18 rfl (lv_at hl 2 rfl) ?_
      refine ziald C hK hW (zvd_0 hr1 (by decide)) (fun f => ze_0_2 B f (r1)) (by decide) h2 zd_A_drink_19 ?_
      refine zr_iadd C zd_A_drink_20 ?_
      obtain ⟨v3, ev3, hf⟩ := zlt_some hf
      have nv3 : zn v3 := by rw [← ev3]; exact (zn_w _)
      rw [ev3]
      refine lv_istore_n (lv' := [(3, .int (zI (v3))), (0, .ref (B.2.1 3 (0) (15))), (1, .ref (B.2.1 0 (r1) (0))), (2, .int (zI (x2)))]) C.1 C.2.1 zd_A_drink_21 rfl hl (by decide) rfl (fun ls hl => ?_)
      refine lv_aload_n C.1 C.2.1 zd_A_drink_22 rfl (lv_at hl 2 rfl) ?_
      refine zg_I_dry (r := r1) C hK hW (zvd_0 hr1 (by decide)) zk_276 zd_A_drink_23 ?_
      refine lv_iload_n C.1 C.2.1 zd_A_drink_26 rfl (lv_at hl 3 rfl) ?_
      refine lv_aload_n C.1 C.2.1 zd_A_drink_27 rfl (lv_at hl 2 rfl) ?_
      refine zg_I_tank (r := r1) C hK hW (zvd_0 hr1 (by decide)) zk_270 zd_A_drink_28 ?_
      refine lv_iload_n C.1 C.2.1 zd_A_drink_31 rfl (lv_at hl 3 rfl) ?_
      refine ziald C hK hW (zvd_0 hr1 (by decide)) (fun f => ze_0_3 B f (r1)) (by decide) h2 zd_A_drink_32 ?_
      refine lv_iload_n C.1 C.2.1 zd_A_drink_33 rfl (lv_at hl 0 rfl) ?_
      refine zr_icmp_ge (tgt := 41) C (zWn hW _ _ _ _ rfl) nv3 zd_A_drink_34 (by decide) (fun c4 => ?_) (fun c4 => ?_)
      · rw [if_pos c4] at hf
        refine zr_iconst C zd_A_drink_41 ?_
        exact zw_A_drink_42 C hr hlk hK hSt hap r1 hr1 (zf_A_drink_2 r1 n) (ih) (x2) (v3) (x2) (0) S nx2 nv3 nx2 (znb rfl) hf _ _ _ hW hS (lv_sub hl [1, 2, 3, 0] rfl)
      · rw [if_neg c4] at hf
        refine zr_iconst C zd_A_drink_37 ?_
        refine lv_goto (tgt := 42) C.1 C.2.1 zd_A_drink_38 (by decide) ?_
        exact zw_A_drink_42 C hr hlk hK hSt hap r1 hr1 (zf_A_drink_2 r1 n) (ih) (x2) (v3) (x2) (1) S nx2 nv3 nx2 (znb rfl) hf _ _ _ hW hS (lv_sub hl [1, 2, 3, 0] rfl)

def zf_A_drink (r1 : Int) (S : Sg) : Option (Int × Sg) :=
    zf_A_drink_2 r1 4096 (0) S
set_option maxHeartbeats 4000000 in
set_option maxRecDepth 100000 in
theorem zw_A_drink {p : Program} {l : Launch} {e : Env} {s : State} {m : MethodId} {args : Array Value} {below : List Frame} {meth : Method} {c : Code} {B : zB} (C : CallFix p m c zb_A_drink 4 s args zT "IslandOffice$Almanac") (hr : meth.sig.returnType = none) (hlk : meth.locks = false) (hK : zK B s) (hSt : zSt B s) (hap : zAp B) (r1 : Int) (hr1 : 0 ≤ r1 ∧ r1 < 3) {res : Int} {S9 : Sg} : ∀  (S : Sg) , zf_A_drink r1  S = some (res, S9) → ∀ (H : Heap) (locs : List Loc) (ls : Array Slot), zW B S H → va_S B.2.2.2 s.heap H locs → lv_has ls 4 [(0, .ref (B.2.1 3 (0) (15))), (1, .ref (B.2.1 0 (r1) (0)))] → W p l e zm_A_drink s m args below meth c H locs 0 0 (MQ below (zQv B S9) args s 0 0 B.2.2.2) (F0 m 0 ls []) := by
  intro S hf H locs ls hW hS hl
  unfold zf_A_drink at hf
  refine zr_iconst C zd_A_drink_0 ?_
  refine lv_istore_n (lv' := [(2, .int (zI (0))), (0, .ref (B.2.1 3 (0) (15))), (1, .ref (B.2.1 0 (r1) (0)))]) C.1 C.2.1 zd_A_drink_1 rfl hl (by decide) rfl (fun ls hl => ?_)
  exact zw_A_drink_2 C hr hlk hK hSt hap r1 hr1 4096 (0) S (znb rfl) hf _ _ _ hW hS (lv_sub hl [1, 2, 0] rfl)

theorem zc_A_drink {l : Launch} {B : zB} (hap : zAp B) (r1 : Int) (hr1 : 0 ≤ r1 ∧ r1 < 3) (S : Sg) {res : Int} {S9 : Sg} (hf : zf_A_drink r1 S = some (res, S9)) : Met l zy_A_drink (Cond.code zy_A_drink zb_A_drink 4 (none) :: zT) zm_A_drink (zP B S [.ref (B.2.1 3 (0) (15)), .ref (B.2.1 0 (r1) (0))]) (zQv B S9) 0 0 B.2.2.2 :=
  zmet (by decide) (Nat.le_of_ble_eq_true rfl) (fun p e s m args below meth c C hr hlk hK hSt hW ls hl => zw_A_drink C hr hlk hK hSt hap r1 hr1  S  hf _ _ _ hW va_S.rf hl)
/-! IslandOffice$Almanac.shareOut(LIslandOffice$Island;)V -/
abbrev zy_A_shareOut : MethodName := ⟨"IslandOffice$Almanac", "shareOut", "(LIslandOffice$Island;)V"⟩
abbrev zb_A_shareOut : ByteArray := prog_2_method_11_code
abbrev zm_A_shareOut : Room := { frames := 3, cells := 0, slots := 0, locals := 71 }
theorem zq_A_shareOut : zMy zy_A_shareOut zb_A_shareOut 7 (none) 1 := ⟨zk_994, zk_993, zs_32, zk_13, by decide, by decide, by decide +kernel⟩
theorem zd_A_shareOut_0 : decode zb_A_shareOut 0 = .ok (.aload_n 1, 1) := by decide +kernel
theorem zd_A_shareOut_1 : decode zb_A_shareOut 1 = .ok (.getfield 116, 3) := by decide +kernel
theorem zd_A_shareOut_4 : decode zb_A_shareOut 4 = .ok (.astore_n 2, 1) := by decide +kernel
theorem zd_A_shareOut_5 : decode zb_A_shareOut 5 = .ok (.aload_n 1, 1) := by decide +kernel
theorem zd_A_shareOut_6 : decode zb_A_shareOut 6 = .ok (.getfield 90, 3) := by decide +kernel
theorem zd_A_shareOut_9 : decode zb_A_shareOut 9 = .ok (.getfield 171, 3) := by decide +kernel
theorem zd_A_shareOut_12 : decode zb_A_shareOut 12 = .ok (.iconst 0, 1) := by decide +kernel
theorem zd_A_shareOut_13 : decode zb_A_shareOut 13 = .ok (.iaload, 1) := by decide +kernel
theorem zd_A_shareOut_14 : decode zb_A_shareOut 14 = .ok (.istore_n 3, 1) := by decide +kernel
theorem zd_A_shareOut_15 : decode zb_A_shareOut 15 = .ok (.iconst 0, 1) := by decide +kernel
theorem zd_A_shareOut_16 : decode zb_A_shareOut 16 = .ok (.istore 4, 2) := by decide +kernel
theorem zd_A_shareOut_18 : decode zb_A_shareOut 18 = .ok (.iconst 0, 1) := by decide +kernel
theorem zd_A_shareOut_19 : decode zb_A_shareOut 19 = .ok (.istore 5, 2) := by decide +kernel
theorem zd_A_shareOut_21 : decode zb_A_shareOut 21 = .ok (.iload 5, 2) := by decide +kernel
theorem zd_A_shareOut_23 : decode zb_A_shareOut 23 = .ok (.aload_n 2, 1) := by decide +kernel
theorem zd_A_shareOut_24 : decode zb_A_shareOut 24 = .ok (.getfield 120, 3) := by decide +kernel
theorem zd_A_shareOut_27 : decode zb_A_shareOut 27 = .ok (.if_icmp .ge 121, 3) := by decide +kernel
theorem zd_A_shareOut_30 : decode zb_A_shareOut 30 = .ok (.aload_n 2, 1) := by decide +kernel
theorem zd_A_shareOut_31 : decode zb_A_shareOut 31 = .ok (.getfield 125, 3) := by decide +kernel
theorem zd_A_shareOut_34 : decode zb_A_shareOut 34 = .ok (.iload 5, 2) := by decide +kernel
theorem zd_A_shareOut_36 : decode zb_A_shareOut 36 = .ok (.iaload, 1) := by decide +kernel
theorem zd_A_shareOut_37 : decode zb_A_shareOut 37 = .ok (.ifCond .ne 7, 3) := by decide +kernel
theorem zd_A_shareOut_40 : decode zb_A_shareOut 40 = .ok (.iconst 1, 1) := by decide +kernel
theorem zd_A_shareOut_41 : decode zb_A_shareOut 41 = .ok (.goto 4, 3) := by decide +kernel
theorem zd_A_shareOut_44 : decode zb_A_shareOut 44 = .ok (.iconst 0, 1) := by decide +kernel
theorem zd_A_shareOut_45 : decode zb_A_shareOut 45 = .ok (.istore 6, 2) := by decide +kernel
theorem zd_A_shareOut_47 : decode zb_A_shareOut 47 = .ok (.aload_n 0, 1) := by decide +kernel
theorem zd_A_shareOut_48 : decode zb_A_shareOut 48 = .ok (.getfield 19, 3) := by decide +kernel
theorem zd_A_shareOut_51 : decode zb_A_shareOut 51 = .ok (.iload 5, 2) := by decide +kernel
theorem zd_A_shareOut_53 : decode zb_A_shareOut 53 = .ok (.iload 6, 2) := by decide +kernel
theorem zd_A_shareOut_55 : decode zb_A_shareOut 55 = .ok (.ifCond .eq 21, 3) := by decide +kernel
theorem zd_A_shareOut_58 : decode zb_A_shareOut 58 = .ok (.aload_n 0, 1) := by decide +kernel
theorem zd_A_shareOut_59 : decode zb_A_shareOut 59 = .ok (.getfield 9, 3) := by decide +kernel
theorem zd_A_shareOut_62 : decode zb_A_shareOut 62 = .ok (.aload_n 1, 1) := by decide +kernel
theorem zd_A_shareOut_63 : decode zb_A_shareOut 63 = .ok (.iconst 2, 1) := by decide +kernel
theorem zd_A_shareOut_64 : decode zb_A_shareOut 64 = .ok (.iload 5, 2) := by decide +kernel
theorem zd_A_shareOut_66 : decode zb_A_shareOut 66 = .ok (.invokevirtual 209, 3) := by decide +kernel
theorem zd_A_shareOut_69 : decode zb_A_shareOut 69 = .ok (.ifCond .eq 7, 3) := by decide +kernel
theorem zd_A_shareOut_72 : decode zb_A_shareOut 72 = .ok (.iconst 1, 1) := by decide +kernel
theorem zd_A_shareOut_73 : decode zb_A_shareOut 73 = .ok (.goto 4, 3) := by decide +kernel
theorem zd_A_shareOut_76 : decode zb_A_shareOut 76 = .ok (.iconst 0, 1) := by decide +kernel
theorem zd_A_shareOut_77 : decode zb_A_shareOut 77 = .ok (.iastore, 1) := by decide +kernel
theorem zd_A_shareOut_78 : decode zb_A_shareOut 78 = .ok (.aload_n 0, 1) := by decide +kernel
theorem zd_A_shareOut_79 : decode zb_A_shareOut 79 = .ok (.getfield 23, 3) := by decide +kernel
theorem zd_A_shareOut_82 : decode zb_A_shareOut 82 = .ok (.iload 5, 2) := by decide +kernel
theorem zd_A_shareOut_84 : decode zb_A_shareOut 84 = .ok (.aload_n 0, 1) := by decide +kernel
theorem zd_A_shareOut_85 : decode zb_A_shareOut 85 = .ok (.getfield 19, 3) := by decide +kernel
theorem zd_A_shareOut_88 : decode zb_A_shareOut 88 = .ok (.iload 5, 2) := by decide +kernel
theorem zd_A_shareOut_90 : decode zb_A_shareOut 90 = .ok (.iaload, 1) := by decide +kernel
theorem zd_A_shareOut_91 : decode zb_A_shareOut 91 = .ok (.iconst 1, 1) := by decide +kernel
theorem zd_A_shareOut_92 : decode zb_A_shareOut 92 = .ok (.if_icmp .ne 20, 3) := by decide +kernel
theorem zd_A_shareOut_95 : decode zb_A_shareOut 95 = .ok (.iload_n 3, 1) := by decide +kernel
theorem zd_A_shareOut_96 : decode zb_A_shareOut 96 = .ok (.aload_n 2, 1) := by decide +kernel
theorem zd_A_shareOut_97 : decode zb_A_shareOut 97 = .ok (.iload 5, 2) := by decide +kernel
theorem zd_A_shareOut_99 : decode zb_A_shareOut 99 = .ok (.aload_n 1, 1) := by decide +kernel
theorem zd_A_shareOut_100 : decode zb_A_shareOut 100 = .ok (.getfield 45, 3) := by decide +kernel
theorem zd_A_shareOut_103 : decode zb_A_shareOut 103 = .ok (.invokevirtual 206, 3) := by decide +kernel
theorem zd_A_shareOut_106 : decode zb_A_shareOut 106 = .ok (.invokestatic 174, 3) := by decide +kernel
theorem zd_A_shareOut_109 : decode zb_A_shareOut 109 = .ok (.goto 4, 3) := by decide +kernel
theorem zd_A_shareOut_112 : decode zb_A_shareOut 112 = .ok (.iconst 0, 1) := by decide +kernel
theorem zd_A_shareOut_113 : decode zb_A_shareOut 113 = .ok (.iastore, 1) := by decide +kernel
theorem zd_A_shareOut_114 : decode zb_A_shareOut 114 = .ok (.iload_n 3, 1) := by decide +kernel
theorem zd_A_shareOut_115 : decode zb_A_shareOut 115 = .ok (.aload_n 0, 1) := by decide +kernel
theorem zd_A_shareOut_116 : decode zb_A_shareOut 116 = .ok (.getfield 23, 3) := by decide +kernel
theorem zd_A_shareOut_119 : decode zb_A_shareOut 119 = .ok (.iload 5, 2) := by decide +kernel
theorem zd_A_shareOut_121 : decode zb_A_shareOut 121 = .ok (.iaload, 1) := by decide +kernel
theorem zd_A_shareOut_122 : decode zb_A_shareOut 122 = .ok (.isub, 1) := by decide +kernel
theorem zd_A_shareOut_123 : decode zb_A_shareOut 123 = .ok (.istore_n 3, 1) := by decide +kernel
theorem zd_A_shareOut_124 : decode zb_A_shareOut 124 = .ok (.iload 6, 2) := by decide +kernel
theorem zd_A_shareOut_126 : decode zb_A_shareOut 126 = .ok (.ifCond .eq 16, 3) := by decide +kernel
theorem zd_A_shareOut_129 : decode zb_A_shareOut 129 = .ok (.aload_n 0, 1) := by decide +kernel
theorem zd_A_shareOut_130 : decode zb_A_shareOut 130 = .ok (.getfield 19, 3) := by decide +kernel
theorem zd_A_shareOut_133 : decode zb_A_shareOut 133 = .ok (.iload 5, 2) := by decide +kernel
theorem zd_A_shareOut_135 : decode zb_A_shareOut 135 = .ok (.iaload, 1) := by decide +kernel
theorem zd_A_shareOut_136 : decode zb_A_shareOut 136 = .ok (.ifCond .ne 6, 3) := by decide +kernel
theorem zd_A_shareOut_139 : decode zb_A_shareOut 139 = .ok (.iinc 4 1, 3) := by decide +kernel
theorem zd_A_shareOut_142 : decode zb_A_shareOut 142 = .ok (.iinc 5 1, 3) := by decide +kernel
theorem zd_A_shareOut_145 : decode zb_A_shareOut 145 = .ok (.goto (-124), 3) := by decide +kernel
theorem zd_A_shareOut_148 : decode zb_A_shareOut 148 = .ok (.iload 4, 2) := by decide +kernel
theorem zd_A_shareOut_150 : decode zb_A_shareOut 150 = .ok (.ifCond .ne 7, 3) := by decide +kernel
theorem zd_A_shareOut_153 : decode zb_A_shareOut 153 = .ok (.iconst 0, 1) := by decide +kernel
theorem zd_A_shareOut_154 : decode zb_A_shareOut 154 = .ok (.goto 7, 3) := by decide +kernel
theorem zd_A_shareOut_157 : decode zb_A_shareOut 157 = .ok (.iload_n 3, 1) := by decide +kernel
theorem zd_A_shareOut_158 : decode zb_A_shareOut 158 = .ok (.iload 4, 2) := by decide +kernel
theorem zd_A_shareOut_160 : decode zb_A_shareOut 160 = .ok (.idiv, 1) := by decide +kernel
theorem zd_A_shareOut_161 : decode zb_A_shareOut 161 = .ok (.istore 5, 2) := by decide +kernel
theorem zd_A_shareOut_163 : decode zb_A_shareOut 163 = .ok (.iconst 0, 1) := by decide +kernel
theorem zd_A_shareOut_164 : decode zb_A_shareOut 164 = .ok (.istore 6, 2) := by decide +kernel
theorem zd_A_shareOut_166 : decode zb_A_shareOut 166 = .ok (.iload 6, 2) := by decide +kernel
theorem zd_A_shareOut_168 : decode zb_A_shareOut 168 = .ok (.aload_n 2, 1) := by decide +kernel
theorem zd_A_shareOut_169 : decode zb_A_shareOut 169 = .ok (.getfield 120, 3) := by decide +kernel
theorem zd_A_shareOut_172 : decode zb_A_shareOut 172 = .ok (.if_icmp .ge 51, 3) := by decide +kernel
theorem zd_A_shareOut_175 : decode zb_A_shareOut 175 = .ok (.aload_n 0, 1) := by decide +kernel
theorem zd_A_shareOut_176 : decode zb_A_shareOut 176 = .ok (.getfield 19, 3) := by decide +kernel
theorem zd_A_shareOut_179 : decode zb_A_shareOut 179 = .ok (.iload 6, 2) := by decide +kernel
theorem zd_A_shareOut_181 : decode zb_A_shareOut 181 = .ok (.iaload, 1) := by decide +kernel
theorem zd_A_shareOut_182 : decode zb_A_shareOut 182 = .ok (.ifCond .ne 35, 3) := by decide +kernel
theorem zd_A_shareOut_185 : decode zb_A_shareOut 185 = .ok (.aload_n 0, 1) := by decide +kernel
theorem zd_A_shareOut_186 : decode zb_A_shareOut 186 = .ok (.getfield 23, 3) := by decide +kernel
theorem zd_A_shareOut_189 : decode zb_A_shareOut 189 = .ok (.iload 6, 2) := by decide +kernel
theorem zd_A_shareOut_191 : decode zb_A_shareOut 191 = .ok (.iload 5, 2) := by decide +kernel
theorem zd_A_shareOut_193 : decode zb_A_shareOut 193 = .ok (.aload_n 2, 1) := by decide +kernel
theorem zd_A_shareOut_194 : decode zb_A_shareOut 194 = .ok (.iload 6, 2) := by decide +kernel
theorem zd_A_shareOut_196 : decode zb_A_shareOut 196 = .ok (.aload_n 1, 1) := by decide +kernel
theorem zd_A_shareOut_197 : decode zb_A_shareOut 197 = .ok (.getfield 45, 3) := by decide +kernel
theorem zd_A_shareOut_200 : decode zb_A_shareOut 200 = .ok (.invokevirtual 206, 3) := by decide +kernel
theorem zd_A_shareOut_203 : decode zb_A_shareOut 203 = .ok (.invokestatic 174, 3) := by decide +kernel
theorem zd_A_shareOut_206 : decode zb_A_shareOut 206 = .ok (.iastore, 1) := by decide +kernel
theorem zd_A_shareOut_207 : decode zb_A_shareOut 207 = .ok (.iload_n 3, 1) := by decide +kernel
theorem zd_A_shareOut_208 : decode zb_A_shareOut 208 = .ok (.aload_n 0, 1) := by decide +kernel
theorem zd_A_shareOut_209 : decode zb_A_shareOut 209 = .ok (.getfield 23, 3) := by decide +kernel
theorem zd_A_shareOut_212 : decode zb_A_shareOut 212 = .ok (.iload 6, 2) := by decide +kernel
theorem zd_A_shareOut_214 : decode zb_A_shareOut 214 = .ok (.iaload, 1) := by decide +kernel
theorem zd_A_shareOut_215 : decode zb_A_shareOut 215 = .ok (.isub, 1) := by decide +kernel
theorem zd_A_shareOut_216 : decode zb_A_shareOut 216 = .ok (.istore_n 3, 1) := by decide +kernel
theorem zd_A_shareOut_217 : decode zb_A_shareOut 217 = .ok (.iinc 6 1, 3) := by decide +kernel
theorem zd_A_shareOut_220 : decode zb_A_shareOut 220 = .ok (.goto (-54), 3) := by decide +kernel
theorem zd_A_shareOut_223 : decode zb_A_shareOut 223 = .ok (.iconst 0, 1) := by decide +kernel
theorem zd_A_shareOut_224 : decode zb_A_shareOut 224 = .ok (.istore 6, 2) := by decide +kernel
theorem zd_A_shareOut_226 : decode zb_A_shareOut 226 = .ok (.iload 6, 2) := by decide +kernel
theorem zd_A_shareOut_228 : decode zb_A_shareOut 228 = .ok (.aload_n 2, 1) := by decide +kernel
theorem zd_A_shareOut_229 : decode zb_A_shareOut 229 = .ok (.getfield 120, 3) := by decide +kernel
theorem zd_A_shareOut_232 : decode zb_A_shareOut 232 = .ok (.if_icmp .ge 47, 3) := by decide +kernel
theorem zd_A_shareOut_235 : decode zb_A_shareOut 235 = .ok (.iload_n 3, 1) := by decide +kernel
theorem zd_A_shareOut_236 : decode zb_A_shareOut 236 = .ok (.ifCond .le 43, 3) := by decide +kernel
theorem zd_A_shareOut_239 : decode zb_A_shareOut 239 = .ok (.aload_n 0, 1) := by decide +kernel
theorem zd_A_shareOut_240 : decode zb_A_shareOut 240 = .ok (.getfield 23, 3) := by decide +kernel
theorem zd_A_shareOut_243 : decode zb_A_shareOut 243 = .ok (.iload 6, 2) := by decide +kernel
theorem zd_A_shareOut_245 : decode zb_A_shareOut 245 = .ok (.iaload, 1) := by decide +kernel
theorem zd_A_shareOut_246 : decode zb_A_shareOut 246 = .ok (.aload_n 2, 1) := by decide +kernel
theorem zd_A_shareOut_247 : decode zb_A_shareOut 247 = .ok (.iload 6, 2) := by decide +kernel
theorem zd_A_shareOut_249 : decode zb_A_shareOut 249 = .ok (.aload_n 1, 1) := by decide +kernel
theorem zd_A_shareOut_250 : decode zb_A_shareOut 250 = .ok (.getfield 45, 3) := by decide +kernel
theorem zd_A_shareOut_253 : decode zb_A_shareOut 253 = .ok (.invokevirtual 206, 3) := by decide +kernel
theorem zd_A_shareOut_256 : decode zb_A_shareOut 256 = .ok (.if_icmp .ge 17, 3) := by decide +kernel
theorem zd_A_shareOut_259 : decode zb_A_shareOut 259 = .ok (.aload_n 0, 1) := by decide +kernel
theorem zd_A_shareOut_260 : decode zb_A_shareOut 260 = .ok (.getfield 23, 3) := by decide +kernel
theorem zd_A_shareOut_263 : decode zb_A_shareOut 263 = .ok (.iload 6, 2) := by decide +kernel
theorem zd_A_shareOut_265 : decode zb_A_shareOut 265 = .ok (.dup2, 1) := by decide +kernel
theorem zd_A_shareOut_266 : decode zb_A_shareOut 266 = .ok (.iaload, 1) := by decide +kernel
theorem zd_A_shareOut_267 : decode zb_A_shareOut 267 = .ok (.iconst 1, 1) := by decide +kernel
theorem zd_A_shareOut_268 : decode zb_A_shareOut 268 = .ok (.iadd, 1) := by decide +kernel
theorem zd_A_shareOut_269 : decode zb_A_shareOut 269 = .ok (.iastore, 1) := by decide +kernel
theorem zd_A_shareOut_270 : decode zb_A_shareOut 270 = .ok (.iinc 3 (-1), 3) := by decide +kernel
theorem zd_A_shareOut_273 : decode zb_A_shareOut 273 = .ok (.iinc 6 1, 3) := by decide +kernel
theorem zd_A_shareOut_276 : decode zb_A_shareOut 276 = .ok (.goto (-50), 3) := by decide +kernel
theorem zd_A_shareOut_279 : decode zb_A_shareOut 279 = .ok (.aload_n 1, 1) := by decide +kernel
theorem zd_A_shareOut_280 : decode zb_A_shareOut 280 = .ok (.getfield 90, 3) := by decide +kernel
theorem zd_A_shareOut_283 : decode zb_A_shareOut 283 = .ok (.getfield 171, 3) := by decide +kernel
theorem zd_A_shareOut_286 : decode zb_A_shareOut 286 = .ok (.iconst 0, 1) := by decide +kernel
theorem zd_A_shareOut_287 : decode zb_A_shareOut 287 = .ok (.iload_n 3, 1) := by decide +kernel
theorem zd_A_shareOut_288 : decode zb_A_shareOut 288 = .ok (.iastore, 1) := by decide +kernel
theorem zd_A_shareOut_289 : decode zb_A_shareOut 289 = .ok (.return_, 1) := by decide +kernel

def zf_A_shareOut_279 (r1 : Int) (x3 : Int) (S : Sg) : Option (Int × Sg) :=
    zlt (zu S 0 r1 32 0 x3) fun S1 => some (0, S1)
set_option maxHeartbeats 4000000 in
set_option maxRecDepth 100000 in
theorem zw_A_shareOut_279 {p : Program} {l : Launch} {e : Env} {s : State} {m : MethodId} {args : Array Value} {below : List Frame} {meth : Method} {c : Code} {B : zB} (C : CallFix p m c zb_A_shareOut 7 s args zT "IslandOffice$Almanac") (hr : meth.sig.returnType = none) (hlk : meth.locks = false) (hK : zK B s) (hSt : zSt B s) (hap : zAp B) (r1 : Int) (hr1 : 0 ≤ r1 ∧ r1 < 3) {res : Int} {S9 : Sg} : ∀ (x3 : Int) (S : Sg) (nx3 : zn x3), zf_A_shareOut_279 r1 x3 S = some (res, S9) → ∀ (H : Heap) (locs : List Loc) (ls : Array Slot), zW B S H → va_S B.2.2.2 s.heap H locs → lv_has ls 7 [(1, .ref (B.2.1 0 (r1) (0))), (3, .int (zI (x3)))] → W p l e zm_A_shareOut s m args below meth c H locs 0 0 (MQ below (zQv B S9) args s 0 0 B.2.2.2) (F0 m 279 ls []) := by
  intro x3 S nx3 hf H locs ls hW hS hl
  unfold zf_A_shareOut_279 at hf
  refine lv_aload_n C.1 C.2.1 zd_A_shareOut_279 rfl (lv_at hl 0 rfl) ?_
  refine zg_I_stores (r := r1) C hK hW (zvd_0 hr1 (by decide)) zk_291 zd_A_shareOut_280 ?_
  refine zg_T_stock (r := r1) C hK hW (zvd_0 hr1 (by decide)) zk_198 zd_A_shareOut_283 ?_
  refine zr_iconst C zd_A_shareOut_286 ?_
  refine lv_iload_n C.1 C.2.1 zd_A_shareOut_287 rfl (lv_at hl 1 rfl) ?_
  obtain ⟨S1, eS1, hf⟩ := zlt_some hf
  refine ziast C hK hap hW hS (zvd_0 hr1 (by decide)) (fun f => ze_0_32 B f (r1)) (by decide) rfl nx3 (by decide) zd_A_shareOut_288 (fun H locs hW hS => ?_)
  rw [eS1] at hW
  cases hf
  exact zre_v C hr hlk hK hW hS zd_A_shareOut_289

def zf_A_shareOut_273 (r1 : Int) (q226 : Int → Int → Sg → Option (Int × Sg)) (x3 : Int) (x6 : Int) (S : Sg) : Option (Int × Sg) :=
    zlt (zw (x6 + 1)) fun v1 => q226 (x3) (v1) S
set_option maxHeartbeats 4000000 in
set_option maxRecDepth 100000 in
theorem zw_A_shareOut_273 {p : Program} {l : Launch} {e : Env} {s : State} {m : MethodId} {args : Array Value} {below : List Frame} {meth : Method} {c : Code} {B : zB} (C : CallFix p m c zb_A_shareOut 7 s args zT "IslandOffice$Almanac") (hr : meth.sig.returnType = none) (hlk : meth.locks = false) (hK : zK B s) (hSt : zSt B s) (hap : zAp B) (r1 : Int) (hr1 : 0 ≤ r1 ∧ r1 < 3) {res : Int} {S9 : Sg} (q226 : Int → Int → Sg → Option (Int × Sg)) (hq226 : ∀ (x3 : Int) (x6 : Int) (S : Sg) (nx3 : zn x3) (nx6 : zn x6), q226 x3 x6 S = some (res, S9) → ∀ (H : Heap) (locs : List Loc) (ls : Array Slot), zW B S H → va_S B.2.2.2 s.heap H locs → lv_has ls 7 [(0, .ref (B.2.1 3 (0) (15))), (1, .ref (B.2.1 0 (r1) (0))), (2, .ref (B.2.1 0 (r1) (6))), (3, .int (zI (x3))), (6, .int (zI (x6)))] → W p l e zm_A_shareOut s m args below meth c H locs 0 0 (MQ below (zQv B S9) args s 0 0 B.2.2.2) (F0 m 226 ls [])) : ∀ (x3 : Int) (x6 : Int) (S : Sg) (nx3 : zn x3) (nx6 : zn x6), zf_A_shareOut_273 r1 q226 x3 x6 S = some (res, S9) → ∀ (H : Heap) (locs : List Loc) (ls : Array Slot), zW B S H → va_S B.2.2.2 s.heap H locs → lv_has ls 7 [(0, .ref (B.2.1 3 (0) (15))), (1, .ref (B.2.1 0 (r1) (0))), (2, .ref (B.2.1 0 (r1) (6))), (3, .int (zI (x3))), (6, .int (zI (x6)))] → W p l e zm_A_shareOut s m args below meth c H locs 0 0 (MQ below (zQv B S9) args s 0 0 B.2.2.2) (F0 m 273 ls []) := by
  intro x3 x6 S nx3 nx6 hf H locs ls hW hS hl
  unfold zf_A_shareOut_273 at hf
  obtain ⟨v1, ev1, hf⟩ := zlt_some hf
  have nv1 : zn v1 := by rw [← ev1]; exact zn_w _
  refine lv_iinc (v := zI v1) (lv' := [(6, .int (zI (v1))), (0, .ref (B.2.1 3 (0) (15))), (1, .ref (B.2.1 0 (r1) (0))), (2, .ref (B.2.1 0 (r1) (6))), (3, .int (zI (x3)))]) C.1 C.2.1 zd_A_shareOut_273 hl (k := 4) rfl (by rw [← ev1, ← zI_add]; rfl) (by decide) rfl (fun ls hl => ?_)
  refine lv_goto (tgt := 226) C.1 C.2.1 zd_A_shareOut_276 (by decide) ?_
  exact hq226 (x3) (v1) S nx3 nv1 hf _ _ _ hW hS (lv_sub hl [1, 2, 3, 4, 0] rfl)

def zf_A_shareOut_226 (r1 : Int) : Nat → Int → Int → Sg → Option (Int × Sg)
  | 0, _, _, _ => none
  | n + 1, x3, x6, S =>
    if (S 0 r1 6 0) ≤ x6 then (zf_A_shareOut_279 r1 (x3) S) else (if x3 ≤ 0 then (zf_A_shareOut_279 r1 (x3) S) else (zck (0 ≤ x6 ∧ x6 < 40) <| zbd (zf_P_need (r1) x6 (S 0 r1 0 0) S) fun a4 S5 => if a4 ≤ (S 3 0 17 x6) then (zf_A_shareOut_273 r1 (zf_A_shareOut_226 r1 n) (x3) (x6) S5) else (zlt (zu S5 3 0 17 x6 (zw ((S5 3 0 17 x6) + 1))) fun S8 => zlt (zw (x3 + (-1))) fun v9 => zf_A_shareOut_273 r1 (zf_A_shareOut_226 r1 n) (v9) (x6) S8)))
set_option maxHeartbeats 4000000 in
set_option maxRecDepth 100000 in
theorem zw_A_shareOut_226 {p : Program} {l : Launch} {e : Env} {s : State} {m : MethodId} {args : Array Value} {below : List Frame} {meth : Method} {c : Code} {B : zB} (C : CallFix p m c zb_A_shareOut 7 s args zT "IslandOffice$Almanac") (hr : meth.sig.returnType = none) (hlk : meth.locks = false) (hK : zK B s) (hSt : zSt B s) (hap : zAp B) (r1 : Int) (hr1 : 0 ≤ r1 ∧ r1 < 3) {res : Int} {S9 : Sg} : ∀ n : Nat, ∀ (x3 : Int) (x6 : Int) (S : Sg) (nx3 : zn x3) (nx6 : zn x6), zf_A_shareOut_226 r1 n x3 x6 S = some (res, S9) → ∀ (H : Heap) (locs : List Loc) (ls : Array Slot), zW B S H → va_S B.2.2.2 s.heap H locs → lv_has ls 7 [(0, .ref (B.2.1 3 (0) (15))), (1, .ref (B.2.1 0 (r1) (0))), (2, .ref (B.2.1 0 (r1) (6))), (3, .int (zI (x3))), (6, .int (zI (x6)))] → W p l e zm_A_shareOut s m args below meth c H locs 0 0 (MQ below (zQv B S9) args s 0 0 B.2.2.2) (F0 m 226 ls []) := by
  intro n
  induction n with
  | zero =>
    intro x3 x6 S nx3 nx6 hf H locs ls hW hS hl
    cases hf
  | succ n ih =>
    intro x3 x6 S nx3 nx6 hf H locs ls hW hS hl
    rw [zf_A_shareOut_226] at hf
    refine lv_iload C.1 C.2.1 zd_A_shareOut_226 (lv_at hl 4 rfl) ?_
    refine lv_aload_n C.1 C.2.1 zd_A_shareOut_228 rfl (lv_at hl 2 rfl) ?_
    refine zg_P_n (r := r1) C hK hW (zvd_0 hr1 (by decide)) zk_54 zd_A_shareOut_229 ?_
    refine zr_icmp_ge (tgt := 279) C nx6 (zWn hW _ _ _ _ rfl) zd_A_shareOut_232 (by decide) (fun c1 => ?_) (fun c1 => ?_)
    · rw [if_pos c1] at hf
      exact zw_A_shareOut_279 C hr hlk hK hSt hap r1 hr1 (x3) S nx3 hf _ _ _ hW hS (lv_sub hl [1, 3] rfl)
    · rw [if_neg c1] at hf
      refine lv_iload_n C.1 C.2.1 zd_A_shareOut_235 rfl (lv_at hl 3 rfl) ?_
      refine zr_if_le (tgt := 279) C nx3 zd_A_shareOut_236 (by decide) (fun c2 => ?_) (fun c2 => ?_)
      · rw [if_pos c2] at hf
        exact zw_A_shareOut_279 C hr hlk hK hSt hap r1 hr1 (x3) S nx3 hf _ _ _ hW hS (lv_sub hl [1, 3] rfl)
      · rw [if_neg c2] at hf
        refine lv_aload_n C.1 C.2.1 zd_A_shareOut_239 rfl (lv_at hl 0 rfl) ?_
        refine zg_A_got (r := 0) C hK hW (zvd_3 (by decide) (by decide)) zk_469 zd_A_shareOut_240 ?_
        refine lv_iload C.1 C.2.1 zd_A_shareOut_243 (lv_at hl 4 rfl) ?_
        obtain ⟨h3, hf⟩ := zck_some hf
        refine ziald C hK hW (zvd_3 (by decide) (by decide)) (fun f => ze_3_17 B f (0)) (by decide) h3 zd_A_shareOut_245 ?_
        refine lv_aload_n C.1 C.2.1 zd_A_shareOut_246 rfl (lv_at hl 2 rfl) ?_
        refine lv_iload C.1 C.2.1 zd_A_shareOut_247 (lv_at hl 4 rfl) ?_
        refine lv_aload_n C.1 C.2.1 zd_A_shareOut_249 rfl (lv_at hl 1 rfl) ?_
        refine zg_I_week (r := r1) C hK hW (zvd_0 hr1 (by decide)) zk_240 zd_A_shareOut_250 ?_
        have w6 : zn (S 3 0 17 x6) := (zWn hW _ _ _ _ rfl)
        obtain ⟨a4, S5, ea4, hf⟩ := zbd_some hf
        refine zcVi (As := [.int (zI (x6)), .int (zI (S 0 r1 0 0))]) (rest := [.int (zI (S 3 0 17 x6))]) C hK hSt hW hS (zc_P_need hap (r1) hr1 x6 (S 0 r1 0 0) S nx6 (zWn hW _ _ _ _ rfl) ea4) zq_P_need zk_996 (zrecv hK hW (zvd_0 hr1 (by decide)) (ze_0_6 B _ (r1)) rfl) ⟨rfl, rfl, by decide, by decide⟩ ⟨Nat.zero_le _, Nat.zero_le _⟩ rfl hl.1 rfl (lv_room (Nat.le_of_ble_eq_true rfl)) zd_A_shareOut_253 (fun na4 H locs hW hS => ?_)
        refine zr_icmp_ge (tgt := 273) C w6 na4 zd_A_shareOut_256 (by decide) (fun c7 => ?_) (fun c7 => ?_)
        · rw [if_pos c7] at hf
          exact zw_A_shareOut_273 C hr hlk hK hSt hap r1 hr1 (zf_A_shareOut_226 r1 n) (ih) (x3) (x6) S5 nx3 nx6 hf _ _ _ hW hS (lv_sub hl [0, 1, 2, 3, 4] rfl)
        · rw [if_neg c7] at hf
          refine lv_aload_n C.1 C.2.1 zd_A_shareOut_259 rfl (lv_at hl 0 rfl) ?_
          refine zg_A_got (r := 0) C hK hW (zvd_3 (by decide) (by decide)) zk_469 zd_A_shareOut_260 ?_
          refine lv_iload C.1 C.2.1 zd_A_shareOut_263 (lv_at hl 4 rfl) ?_
          refine lv_dup2_11 C.1 C.2.1 zd_A_shareOut_265 rfl rfl ?_
          refine ziald C hK hW (zvd_3 (by decide) (by decide)) (fun f => ze_3_17 B f (0)) (by decide) h3 zd_A_shareOut_266 ?_
          refine zr_iconst C zd_A_shareOut_267 ?_
          refine zr_iadd C zd_A_shareOut_268 ?_
          obtain ⟨S8, eS8, hf⟩ := zlt_some hf
          refine ziast C hK hap hW hS (zvd_3 (by decide) (by decide)) (fun f => ze_3_17 B f (0)) (by decide) rfl (zn_w _) h3 zd_A_shareOut_269 (fun H locs hW hS => ?_)
          rw [eS8] at hW
          obtain ⟨v9, ev9, hf⟩ := zlt_some hf
          have nv9 : zn v9 := by rw [← ev9]; exact zn_w _
          refine lv_iinc (v := zI v9) (lv' := [(3, .int (zI (v9))), (0, .ref (B.2.1 3 (0) (15))), (1, .ref (B.2.1 0 (r1) (0))), (2, .ref (B.2.1 0 (r1) (6))), (6, .int (zI (x6)))]) C.1 C.2.1 zd_A_shareOut_270 hl (k := 3) rfl (by rw [← ev9, ← zI_add]; rfl) (by decide) rfl (fun ls hl => ?_)
          exact zw_A_shareOut_273 C hr hlk hK hSt hap r1 hr1 (zf_A_shareOut_226 r1 n) (ih) (v9) (x6) S8 nv9 nx6 hf _ _ _ hW hS (lv_sub hl [1, 2, 3, 0, 4] rfl)

def zf_A_shareOut_217 (r1 : Int) (q166 : Int → Int → Int → Sg → Option (Int × Sg)) (x3 : Int) (x5 : Int) (x6 : Int) (S : Sg) : Option (Int × Sg) :=
    zlt (zw (x6 + 1)) fun v1 => q166 (x3) (x5) (v1) S
set_option maxHeartbeats 4000000 in
set_option maxRecDepth 100000 in
theorem zw_A_shareOut_217 {p : Program} {l : Launch} {e : Env} {s : State} {m : MethodId} {args : Array Value} {below : List Frame} {meth : Method} {c : Code} {B : zB} (C : CallFix p m c zb_A_shareOut 7 s args zT "IslandOffice$Almanac") (hr : meth.sig.returnType = none) (hlk : meth.locks = false) (hK : zK B s) (hSt : zSt B s) (hap : zAp B) (r1 : Int) (hr1 : 0 ≤ r1 ∧ r1 < 3) {res : Int} {S9 : Sg} (q166 : Int → Int → Int → Sg → Option (Int × Sg)) (hq166 : ∀ (x3 : Int) (x5 : Int) (x6 : Int) (S : Sg) (nx3 : zn x3) (nx5 : zn x5) (nx6 : zn x6), q166 x3 x5 x6 S = some (res, S9) → ∀ (H : Heap) (locs : List Loc) (ls : Array Slot), zW B S H → va_S B.2.2.2 s.heap H locs → lv_has ls 7 [(0, .ref (B.2.1 3 (0) (15))), (1, .ref (B.2.1 0 (r1) (0))), (2, .ref (B.2.1 0 (r1) (6))), (3, .int (zI (x3))), (5, .int (zI (x5))), (6, .int (zI (x6)))] → W p l e zm_A_shareOut s m args below meth c H locs 0 0 (MQ below (zQv B S9) args s 0 0 B.2.2.2) (F0 m 166 ls [])) : ∀ (x3 : Int) (x5 : Int) (x6 : Int) (S : Sg) (nx3 : zn x3) (nx5 : zn x5) (nx6 : zn x6), zf_A_shareOut_217 r1 q166 x3 x5 x6 S = some (res, S9) → ∀ (H : Heap) (locs : List Loc) (ls : Array Slot), zW B S H → va_S B.2.2.2 s.heap H locs → lv_has ls 7 [(0, .ref (B.2.1 3 (0) (15))), (1, .ref (B.2.1 0 (r1) (0))), (2, .ref (B.2.1 0 (r1) (6))), (3, .int (zI (x3))), (5, .int (zI (x5))), (6, .int (zI (x6)))] → W p l e zm_A_shareOut s m args below meth c H locs 0 0 (MQ below (zQv B S9) args s 0 0 B.2.2.2) (F0 m 217 ls []) := by
  intro x3 x5 x6 S nx3 nx5 nx6 hf H locs ls hW hS hl
  unfold zf_A_shareOut_217 at hf
  obtain ⟨v1, ev1, hf⟩ := zlt_some hf
  have nv1 : zn v1 := by rw [← ev1]; exact zn_w _
  refine lv_iinc (v := zI v1) (lv' := [(6, .int (zI (v1))), (0, .ref (B.2.1 3 (0) (15))), (1, .ref (B.2.1 0 (r1) (0))), (2, .ref (B.2.1 0 (r1) (6))), (3, .int (zI (x3))), (5, .int (zI (x5)))]) C.1 C.2.1 zd_A_shareOut_217 hl (k := 5) rfl (by rw [← ev1, ← zI_add]; rfl) (by decide) rfl (fun ls hl => ?_)
  refine lv_goto (tgt := 166) C.1 C.2.1 zd_A_shareOut_220 (by decide) ?_
  exact hq166 (x3) (x5) (v1) S nx3 nx5 nv1 hf _ _ _ hW hS (lv_sub hl [1, 2, 3, 4, 5, 0] rfl)

def zf_A_shareOut_166 (r1 : Int) : Nat → Int → Int → Int → Sg → Option (Int × Sg)
  | 0, _, _, _, _ => none
  | n + 1, x3, x5, x6, S =>
    if (S 0 r1 6 0) ≤ x6 then (zf_A_shareOut_226 r1 4096 (x3) (0) S) else (zck (0 ≤ x6 ∧ x6 < 40) <| if (S 3 0 16 x6) = 0 then (zbd (zf_P_need (r1) x6 (S 0 r1 0 0) S) fun a4 S5 => zlt (zu S5 3 0 17 x6 (min x5 a4)) fun S6 => zlt (zw (x3 - (S6 3 0 17 x6))) fun v7 => zf_A_shareOut_217 r1 (zf_A_shareOut_166 r1 n) (v7) (x5) (x6) S6) else (zf_A_shareOut_217 r1 (zf_A_shareOut_166 r1 n) (x3) (x5) (x6) S))
set_option maxHeartbeats 4000000 in
set_option maxRecDepth 100000 in
theorem zw_A_shareOut_166 {p : Program} {l : Launch} {e : Env} {s : State} {m : MethodId} {args : Array Value} {below : List Frame} {meth : Method} {c : Code} {B : zB} (C : CallFix p m c zb_A_shareOut 7 s args zT "IslandOffice$Almanac") (hr : meth.sig.returnType = none) (hlk : meth.locks = false) (hK : zK B s) (hSt : zSt B s) (hap : zAp B) (r1 : Int) (hr1 : 0 ≤ r1 ∧ r1 < 3) {res : Int} {S9 : Sg} : ∀ n : Nat, ∀ (x3 : Int) (x5 : Int) (x6 : Int) (S : Sg) (nx3 : zn x3) (nx5 : zn x5) (nx6 : zn x6), zf_A_shareOut_166 r1 n x3 x5 x6 S = some (res, S9) → ∀ (H : Heap) (locs : List Loc) (ls : Array Slot), zW B S H → va_S B.2.2.2 s.heap H locs → lv_has ls 7 [(0, .ref (B.2.1 3 (0) (15))), (1, .ref (B.2.1 0 (r1) (0))), (2, .ref (B.2.1 0 (r1) (6))), (3, .int (zI (x3))), (5, .int (zI (x5))), (6, .int (zI (x6)))] → W p l e zm_A_shareOut s m args below meth c H locs 0 0 (MQ below (zQv B S9) args s 0 0 B.2.2.2) (F0 m 166 ls []) := by
  intro n
  induction n with
  | zero =>
    intro x3 x5 x6 S nx3 nx5 nx6 hf H locs ls hW hS hl
    cases hf
  | succ n ih =>
    intro x3 x5 x6 S nx3 nx5 nx6 hf H locs ls hW hS hl
    rw [zf_A_shareOut_166] at hf
    refine lv_iload C.1 C.2.1 zd_A_shareOut_166 (lv_at hl 5 rfl) ?_
    refine lv_aload_n C.1 C.2.1 zd_A_shareOut_168 rfl (lv_at hl 2 rfl) ?_
    refine zg_P_n (r := r1) C hK hW (zvd_0 hr1 (by decide)) zk_54 zd_A_shareOut_169 ?_
    refine zr_icmp_ge (tgt := 223) C nx6 (zWn hW _ _ _ _ rfl) zd_A_shareOut_172 (by decide) (fun c1 => ?_) (fun c1 => ?_)
    · rw [if_pos c1] at hf
      refine zr_iconst C zd_A_shareOut_223 ?_
      refine lv_istore (lv' := [(6, .int (zI (0))), (0, .ref (B.2.1 3 (0) (15))), (1, .ref (B.2.1 0 (r1) (0))), (2, .ref (B.2.1 0 (r1) (6))), (3, .int (zI (x3))), (5, .int (zI (x5)))]) C.1 C.2.1 zd_A_shareOut_224 hl (by decide) rfl (fun ls hl => ?_)
      exact zw_A_shareOut_226 C hr hlk hK hSt hap r1 hr1 4096 (x3) (0) S nx3 (znb rfl) hf _ _ _ hW hS (lv_sub hl [1, 2, 3, 4, 0] rfl)
    · rw [if_neg c1] at hf
      refine lv_aload_n C.1 C.2.1 zd_A_shareOut_175 rfl (lv_at hl 0 rfl) ?_
      refine zg_A_first (r := 0) C hK hW (zvd_3 (by decide) (by decide)) zk_468 zd_A_shareOut_176 ?_
      refine lv_iload C.1 C.2.1 zd_A_shareOut_179 (lv_at hl 5 rfl) ?_
      obtain ⟨h2, hf⟩ := zck_some hf
      refine ziald C hK hW (zvd_3 (by decide) (by decide)) (fun f => ze_3_16 B f (0)) (by decide) h2 zd_A_shareOut_181 ?_
      refine zr_if_ne (tgt := 217) C (zWn hW _ _ _ _ rfl) zd_A_shareOut_182 (by decide) (fun c3 => ?_) (fun c3 => ?_)
      · rw [if_neg c3] at hf
        exact zw_A_shareOut_217 C hr hlk hK hSt hap r1 hr1 (zf_A_shareOut_166 r1 n) (ih) (x3) (x5) (x6) S nx3 nx5 nx6 hf _ _ _ hW hS (lv_sub hl [0, 1, 2, 3, 4, 5] rfl)
      · rw [if_pos c3] at hf
        refine lv_aload_n C.1 C.2.1 zd_A_shareOut_185 rfl (lv_at hl 0 rfl) ?_
        refine zg_A_got (r := 0) C hK hW (zvd_3 (by decide) (by decide)) zk_469 zd_A_shareOut_186 ?_
        refine lv_iload C.1 C.2.1 zd_A_shareOut_189 (lv_at hl 5 rfl) ?_
        refine lv_iload C.1 C.2.1 zd_A_shareOut_191 (lv_at hl 4 rfl) ?_
        refine lv_aload_n C.1 C.2.1 zd_A_shareOut_193 rfl (lv_at hl 2 rfl) ?_
        refine lv_iload C.1 C.2.1 zd_A_shareOut_194 (lv_at hl 5 rfl) ?_
        refine lv_aload_n C.1 C.2.1 zd_A_shareOut_196 rfl (lv_at hl 1 rfl) ?_
        refine zg_I_week (r := r1) C hK hW (zvd_0 hr1 (by decide)) zk_240 zd_A_shareOut_197 ?_
        obtain ⟨a4, S5, ea4, hf⟩ := zbd_some hf
        refine zcVi (As := [.int (zI (x6)), .int (zI (S 0 r1 0 0))]) (rest := [.int (zI (x5)), .int (zI (x6)), .ref (B.2.1 3 (0) (17))]) C hK hSt hW hS (zc_P_need hap (r1) hr1 x6 (S 0 r1 0 0) S nx6 (zWn hW _ _ _ _ rfl) ea4) zq_P_need zk_996 (zrecv hK hW (zvd_0 hr1 (by decide)) (ze_0_6 B _ (r1)) rfl) ⟨rfl, rfl, by decide, by decide⟩ ⟨Nat.zero_le _, Nat.zero_le _⟩ rfl hl.1 rfl (lv_room (Nat.le_of_ble_eq_true rfl)) zd_A_shareOut_200 (fun na4 H locs hW hS => ?_)
        refine zr_min C hl.1 nx5 na4 zk_963 zk_909 zk_16 zk_910 (by decide) (Nat.le_of_ble_eq_true rfl) ⟨by decide, by decide⟩ zd_A_shareOut_203 ?_
        obtain ⟨S6, eS6, hf⟩ := zlt_some hf
        refine ziast C hK hap hW hS (zvd_3 (by decide) (by decide)) (fun f => ze_3_17 B f (0)) (by decide) rfl (zn_min nx5 na4) h2 zd_A_shareOut_206 (fun H locs hW hS => ?_)
        rw [eS6] at hW
        refine lv_iload_n C.1 C.2.1 zd_A_shareOut_207 rfl (lv_at hl 3 rfl) ?_
        refine lv_aload_n C.1 C.2.1 zd_A_shareOut_208 rfl (lv_at hl 0 rfl) ?_
        refine zg_A_got (r := 0) C hK hW (zvd_3 (by decide) (by decide)) zk_469 zd_A_shareOut_209 ?_
        refine lv_iload C.1 C.2.1 zd_A_shareOut_212 (lv_at hl 5 rfl) ?_
        refine ziald C hK hW (zvd_3 (by decide) (by decide)) (fun f => ze_3_17 B f (0)) (by decide) h2 zd_A_shareOut_214 ?_
        refine zr_isub C zd_A_shareOut_215 ?_
        obtain ⟨v7, ev7, hf⟩ := zlt_some hf
        have nv7 : zn v7 := by rw [← ev7]; exact (zn_w _)
        rw [ev7]
        refine lv_istore_n (lv' := [(3, .int (zI (v7))), (0, .ref (B.2.1 3 (0) (15))), (1, .ref (B.2.1 0 (r1) (0))), (2, .ref (B.2.1 0 (r1) (6))), (5, .int (zI (x5))), (6, .int (zI (x6)))]) C.1 C.2.1 zd_A_shareOut_216 rfl hl (by decide) rfl (fun ls hl => ?_)
        exact zw_A_shareOut_217 C hr hlk hK hSt hap r1 hr1 (zf_A_shareOut_166 r1 n) (ih) (v7) (x5) (x6) S6 nv7 nx5 nx6 hf _ _ _ hW hS (lv_sub hl [1, 2, 3, 0, 4, 5] rfl)

def zf_A_shareOut_161 (r1 : Int) (x3 : Int) (xt0 : Int) (S : Sg) : Option (Int × Sg) :=
    zf_A_shareOut_166 r1 4096 (x3) (xt0) (0) S
set_option maxHeartbeats 4000000 in
set_option maxRecDepth 100000 in
theorem zw_A_shareOut_161 {p : Program} {l : Launch} {e : Env} {s : State} {m : MethodId} {args : Array Value} {below : List Frame} {meth : Method} {c : Code} {B : zB} (C : CallFix p m c zb_A_shareOut 7 s args zT "IslandOffice$Almanac") (hr : meth.sig.returnType = none) (hlk : meth.locks = false) (hK : zK B s) (hSt : zSt B s) (hap : zAp B) (r1 : Int) (hr1 : 0 ≤ r1 ∧ r1 < 3) {res : Int} {S9 : Sg} : ∀ (x3 : Int) (xt0 : Int) (S : Sg) (nx3 : zn x3) (nxt0 : zn xt0), zf_A_shareOut_161 r1 x3 xt0 S = some (res, S9) → ∀ (H : Heap) (locs : List Loc) (ls : Array Slot), zW B S H → va_S B.2.2.2 s.heap H locs → lv_has ls 7 [(0, .ref (B.2.1 3 (0) (15))), (1, .ref (B.2.1 0 (r1) (0))), (2, .ref (B.2.1 0 (r1) (6))), (3, .int (zI (x3)))] → W p l e zm_A_shareOut s m args below meth c H locs 0 0 (MQ below (zQv B S9) args s 0 0 B.2.2.2) (F0 m 161 ls [.int (zI (xt0))]) := by
  intro x3 xt0 S nx3 nxt0 hf H locs ls hW hS hl
  unfold zf_A_shareOut_161 at hf
  refine lv_istore (lv' := [(5, .int (zI (xt0))), (0, .ref (B.2.1 3 (0) (15))), (1, .ref (B.2.1 0 (r1) (0))), (2, .ref (B.2.1 0 (r1) (6))), (3, .int (zI (x3)))]) C.1 C.2.1 zd_A_shareOut_161 hl (by decide) rfl (fun ls hl => ?_)
  refine zr_iconst C zd_A_shareOut_163 ?_
  refine lv_istore (lv' := [(6, .int (zI (0))), (5, .int (zI (xt0))), (0, .ref (B.2.1 3 (0) (15))), (1, .ref (B.2.1 0 (r1) (0))), (2, .ref (B.2.1 0 (r1) (6))), (3, .int (zI (x3)))]) C.1 C.2.1 zd_A_shareOut_164 hl (by decide) rfl (fun ls hl => ?_)
  exact zw_A_shareOut_166 C hr hlk hK hSt hap r1 hr1 4096 (x3) (xt0) (0) S nx3 nxt0 (znb rfl) hf _ _ _ hW hS (lv_sub hl [2, 3, 4, 5, 1, 0] rfl)

def zf_A_shareOut_142 (r1 : Int) (q21 : Int → Int → Int → Sg → Option (Int × Sg)) (x3 : Int) (x4 : Int) (x5 : Int) (S : Sg) : Option (Int × Sg) :=
    zlt (zw (x5 + 1)) fun v1 => q21 (x3) (x4) (v1) S
set_option maxHeartbeats 4000000 in
set_option maxRecDepth 100000 in
theorem zw_A_shareOut_142 {p : Program} {l : Launch} {e : Env} {s : State} {m : MethodId} {args : Array Value} {below : List Frame} {meth : Method} {c : Code} {B : zB} (C : CallFix p m c zb_A_shareOut 7 s args zT "IslandOffice$Almanac") (hr : meth.sig.returnType = none) (hlk : meth.locks = false) (hK : zK B s) (hSt : zSt B s) (hap : zAp B) (r1 : Int) (hr1 : 0 ≤ r1 ∧ r1 < 3) {res : Int} {S9 : Sg} (q21 : Int → Int → Int → Sg → Option (Int × Sg)) (hq21 : ∀ (x3 : Int) (x4 : Int) (x5 : Int) (S : Sg) (nx3 : zn x3) (nx4 : zn x4) (nx5 : zn x5), q21 x3 x4 x5 S = some (res, S9) → ∀ (H : Heap) (locs : List Loc) (ls : Array Slot), zW B S H → va_S B.2.2.2 s.heap H locs → lv_has ls 7 [(0, .ref (B.2.1 3 (0) (15))), (1, .ref (B.2.1 0 (r1) (0))), (2, .ref (B.2.1 0 (r1) (6))), (3, .int (zI (x3))), (4, .int (zI (x4))), (5, .int (zI (x5)))] → W p l e zm_A_shareOut s m args below meth c H locs 0 0 (MQ below (zQv B S9) args s 0 0 B.2.2.2) (F0 m 21 ls [])) : ∀ (x3 : Int) (x4 : Int) (x5 : Int) (S : Sg) (nx3 : zn x3) (nx4 : zn x4) (nx5 : zn x5), zf_A_shareOut_142 r1 q21 x3 x4 x5 S = some (res, S9) → ∀ (H : Heap) (locs : List Loc) (ls : Array Slot), zW B S H → va_S B.2.2.2 s.heap H locs → lv_has ls 7 [(0, .ref (B.2.1 3 (0) (15))), (1, .ref (B.2.1 0 (r1) (0))), (2, .ref (B.2.1 0 (r1) (6))), (3, .int (zI (x3))), (4, .int (zI (x4))), (5, .int (zI (x5)))] → W p l e zm_A_shareOut s m args below meth c H locs 0 0 (MQ below (zQv B S9) args s 0 0 B.2.2.2) (F0 m 142 ls []) := by
  intro x3 x4 x5 S nx3 nx4 nx5 hf H locs ls hW hS hl
  unfold zf_A_shareOut_142 at hf
  obtain ⟨v1, ev1, hf⟩ := zlt_some hf
  have nv1 : zn v1 := by rw [← ev1]; exact zn_w _
  refine lv_iinc (v := zI v1) (lv' := [(5, .int (zI (v1))), (0, .ref (B.2.1 3 (0) (15))), (1, .ref (B.2.1 0 (r1) (0))), (2, .ref (B.2.1 0 (r1) (6))), (3, .int (zI (x3))), (4, .int (zI (x4)))]) C.1 C.2.1 zd_A_shareOut_142 hl (k := 5) rfl (by rw [← ev1, ← zI_add]; rfl) (by decide) rfl (fun ls hl => ?_)
  refine lv_goto (tgt := 21) C.1 C.2.1 zd_A_shareOut_145 (by decide) ?_
  exact hq21 (x3) (x4) (v1) S nx3 nx4 nv1 hf _ _ _ hW hS (lv_sub hl [1, 2, 3, 4, 5, 0] rfl)

def zf_A_shareOut_113 (r1 : Int) (q21 : Int → Int → Int → Sg → Option (Int × Sg)) (x3 : Int) (x4 : Int) (x5 : Int) (x6 : Int) (xt1 : Int) (xt2 : Int) (S : Sg) : Option (Int × Sg) :=
    zck (0 ≤ xt1 ∧ xt1 < 40) <| zlt (zu S 3 0 17 xt1 xt2) fun S2 => zck (0 ≤ x5 ∧ x5 < 40) <| zlt (zw (x3 - (S2 3 0 17 x5))) fun v4 => if x6 = 0 then (zf_A_shareOut_142 r1 q21 (v4) (x4) (x5) S2) else (if (S2 3 0 16 x5) = 0 then (zlt (zw (x4 + 1)) fun v7 => zf_A_shareOut_142 r1 q21 (v4) (v7) (x5) S2) else (zf_A_shareOut_142 r1 q21 (v4) (x4) (x5) S2))
set_option maxHeartbeats 4000000 in
set_option maxRecDepth 100000 in
theorem zw_A_shareOut_113 {p : Program} {l : Launch} {e : Env} {s : State} {m : MethodId} {args : Array Value} {below : List Frame} {meth : Method} {c : Code} {B : zB} (C : CallFix p m c zb_A_shareOut 7 s args zT "IslandOffice$Almanac") (hr : meth.sig.returnType = none) (hlk : meth.locks = false) (hK : zK B s) (hSt : zSt B s) (hap : zAp B) (r1 : Int) (hr1 : 0 ≤ r1 ∧ r1 < 3) {res : Int} {S9 : Sg} (q21 : Int → Int → Int → Sg → Option (Int × Sg)) (hq21 : ∀ (x3 : Int) (x4 : Int) (x5 : Int) (S : Sg) (nx3 : zn x3) (nx4 : zn x4) (nx5 : zn x5), q21 x3 x4 x5 S = some (res, S9) → ∀ (H : Heap) (locs : List Loc) (ls : Array Slot), zW B S H → va_S B.2.2.2 s.heap H locs → lv_has ls 7 [(0, .ref (B.2.1 3 (0) (15))), (1, .ref (B.2.1 0 (r1) (0))), (2, .ref (B.2.1 0 (r1) (6))), (3, .int (zI (x3))), (4, .int (zI (x4))), (5, .int (zI (x5)))] → W p l e zm_A_shareOut s m args below meth c H locs 0 0 (MQ below (zQv B S9) args s 0 0 B.2.2.2) (F0 m 21 ls [])) : ∀ (x3 : Int) (x4 : Int) (x5 : Int) (x6 : Int) (xt1 : Int) (xt2 : Int) (S : Sg) (nx3 : zn x3) (nx4 : zn x4) (nx5 : zn x5) (nx6 : zn x6) (nxt1 : zn xt1) (nxt2 : zn xt2), zf_A_shareOut_113 r1 q21 x3 x4 x5 x6 xt1 xt2 S = some (res, S9) → ∀ (H : Heap) (locs : List Loc) (ls : Array Slot), zW B S H → va_S B.2.2.2 s.heap H locs → lv_has ls 7 [(0, .ref (B.2.1 3 (0) (15))), (1, .ref (B.2.1 0 (r1) (0))), (2, .ref (B.2.1 0 (r1) (6))), (3, .int (zI (x3))), (4, .int (zI (x4))), (5, .int (zI (x5))), (6, .int (zI (x6)))] → W p l e zm_A_shareOut s m args below meth c H locs 0 0 (MQ below (zQv B S9) args s 0 0 B.2.2.2) (F0 m 113 ls [.int (zI (xt2)), .int (zI (xt1)), .ref (B.2.1 3 (0) (17))]) := by
  intro x3 x4 x5 x6 xt1 xt2 S nx3 nx4 nx5 nx6 nxt1 nxt2 hf H locs ls hW hS hl
  unfold zf_A_shareOut_113 at hf
  obtain ⟨h1, hf⟩ := zck_some hf
  obtain ⟨S2, eS2, hf⟩ := zlt_some hf
  refine ziast C hK hap hW hS (zvd_3 (by decide) (by decide)) (fun f => ze_3_17 B f (0)) (by decide) rfl nxt2 h1 zd_A_shareOut_113 (fun H locs hW hS => ?_)
  rw [eS2] at hW
  refine lv_iload_n C.1 C.2.1 zd_A_shareOut_114 rfl (lv_at hl 3 rfl) ?_
  refine lv_aload_n C.1 C.2.1 zd_A_shareOut_115 rfl (lv_at hl 0 rfl) ?_
  refine zg_A_got (r := 0) C hK hW (zvd_3 (by decide) (by decide)) zk_469 zd_A_shareOut_116 ?_
  refine lv_iload C.1 C.2.1 zd_A_shareOut_119 (lv_at hl 5 rfl) ?_
  obtain ⟨h3, hf⟩ := zck_some hf
  refine ziald C hK hW (zvd_3 (by decide) (by decide)) (fun f => ze_3_17 B f (0)) (by decide) h3 zd_A_shareOut_121 ?_
  refine zr_isub C zd_A_shareOut_122 ?_
  obtain ⟨v4, ev4, hf⟩ := zlt_some hf
  have nv4 : zn v4 := by rw [← ev4]; exact (zn_w _)
  rw [ev4]
  refine lv_istore_n (lv' := [(3, .int (zI (v4))), (0, .ref (B.2.1 3 (0) (15))), (1, .ref (B.2.1 0 (r1) (0))), (2, .ref (B.2.1 0 (r1) (6))), (4, .int (zI (x4))), (5, .int (zI (x5))), (6, .int (zI (x6)))]) C.1 C.2.1 zd_A_shareOut_123 rfl hl (by decide) rfl (fun ls hl => ?_)
  refine lv_iload C.1 C.2.1 zd_A_shareOut_124 (lv_at hl 6 rfl) ?_
  refine zr_if_eq (tgt := 142) C nx6 zd_A_shareOut_126 (by decide) (fun c5 => ?_) (fun c5 => ?_)
  · rw [if_pos c5] at hf
    exact zw_A_shareOut_142 C hr hlk hK hSt hap r1 hr1 q21 hq21 (v4) (x4) (x5) S2 nv4 nx4 nx5 hf _ _ _ hW hS (lv_sub hl [1, 2, 3, 0, 4, 5] rfl)
  · rw [if_neg c5] at hf
    refine lv_aload_n C.1 C.2.1 zd_A_shareOut_129 rfl (lv_at hl 1 rfl) ?_
    refine zg_A_first (r := 0) C hK hW (zvd_3 (by decide) (by decide)) zk_468 zd_A_shareOut_130 ?_
    refine lv_iload C.1 C.2.1 zd_A_shareOut_133 (lv_at hl 5 rfl) ?_
    refine ziald C hK hW (zvd_3 (by decide) (by decide)) (fun f => ze_3_16 B f (0)) (by decide) h3 zd_A_shareOut_135 ?_
    refine zr_if_ne (tgt := 142) C (zWn hW _ _ _ _ rfl) zd_A_shareOut_136 (by decide) (fun c6 => ?_) (fun c6 => ?_)
    · rw [if_neg c6] at hf
      exact zw_A_shareOut_142 C hr hlk hK hSt hap r1 hr1 q21 hq21 (v4) (x4) (x5) S2 nv4 nx4 nx5 hf _ _ _ hW hS (lv_sub hl [1, 2, 3, 0, 4, 5] rfl)
    · rw [if_pos c6] at hf
      obtain ⟨v7, ev7, hf⟩ := zlt_some hf
      have nv7 : zn v7 := by rw [← ev7]; exact zn_w _
      refine lv_iinc (v := zI v7) (lv' := [(4, .int (zI (v7))), (3, .int (zI (v4))), (0, .ref (B.2.1 3 (0) (15))), (1, .ref (B.2.1 0 (r1) (0))), (2, .ref (B.2.1 0 (r1) (6))), (5, .int (zI (x5))), (6, .int (zI (x6)))]) C.1 C.2.1 zd_A_shareOut_139 hl (k := 4) rfl (by rw [← ev7, ← zI_add]; rfl) (by decide) rfl (fun ls hl => ?_)
      exact zw_A_shareOut_142 C hr hlk hK hSt hap r1 hr1 q21 hq21 (v4) (v7) (x5) S2 nv4 nv7 nx5 hf _ _ _ hW hS (lv_sub hl [2, 3, 4, 1, 0, 5] rfl)

def zf_A_shareOut_77 (r1 : Int) (q21 : Int → Int → Int → Sg → Option (Int × Sg)) (x3 : Int) (x4 : Int) (x5 : Int) (x6 : Int) (xt1 : Int) (xt2 : Int) (S : Sg) : Option (Int × Sg) :=
    zck (0 ≤ xt1 ∧ xt1 < 40) <| zlt (zu S 3 0 16 xt1 xt2) fun S2 => zck (0 ≤ x5 ∧ x5 < 40) <| if (S2 3 0 16 x5) = 1 then (zbd (zf_P_need (r1) x5 (S2 0 r1 0 0) S2) fun a5 S6 => zf_A_shareOut_113 r1 q21 (x3) (x4) (x5) (x6) (x5) (min x3 a5) S6) else (zf_A_shareOut_113 r1 q21 (x3) (x4) (x5) (x6) (x5) (0) S2)
set_option maxHeartbeats 4000000 in
set_option maxRecDepth 100000 in
theorem zw_A_shareOut_77 {p : Program} {l : Launch} {e : Env} {s : State} {m : MethodId} {args : Array Value} {below : List Frame} {meth : Method} {c : Code} {B : zB} (C : CallFix p m c zb_A_shareOut 7 s args zT "IslandOffice$Almanac") (hr : meth.sig.returnType = none) (hlk : meth.locks = false) (hK : zK B s) (hSt : zSt B s) (hap : zAp B) (r1 : Int) (hr1 : 0 ≤ r1 ∧ r1 < 3) {res : Int} {S9 : Sg} (q21 : Int → Int → Int → Sg → Option (Int × Sg)) (hq21 : ∀ (x3 : Int) (x4 : Int) (x5 : Int) (S : Sg) (nx3 : zn x3) (nx4 : zn x4) (nx5 : zn x5), q21 x3 x4 x5 S = some (res, S9) → ∀ (H : Heap) (locs : List Loc) (ls : Array Slot), zW B S H → va_S B.2.2.2 s.heap H locs → lv_has ls 7 [(0, .ref (B.2.1 3 (0) (15))), (1, .ref (B.2.1 0 (r1) (0))), (2, .ref (B.2.1 0 (r1) (6))), (3, .int (zI (x3))), (4, .int (zI (x4))), (5, .int (zI (x5)))] → W p l e zm_A_shareOut s m args below meth c H locs 0 0 (MQ below (zQv B S9) args s 0 0 B.2.2.2) (F0 m 21 ls [])) : ∀ (x3 : Int) (x4 : Int) (x5 : Int) (x6 : Int) (xt1 : Int) (xt2 : Int) (S : Sg) (nx3 : zn x3) (nx4 : zn x4) (nx5 : zn x5) (nx6 : zn x6) (nxt1 : zn xt1) (nxt2 : zn xt2), zf_A_shareOut_77 r1 q21 x3 x4 x5 x6 xt1 xt2 S = some (res, S9) → ∀ (H : Heap) (locs : List Loc) (ls : Array Slot), zW B S H → va_S B.2.2.2 s.heap H locs → lv_has ls 7 [(0, .ref (B.2.1 3 (0) (15))), (1, .ref (B.2.1 0 (r1) (0))), (2, .ref (B.2.1 0 (r1) (6))), (3, .int (zI (x3))), (4, .int (zI (x4))), (5, .int (zI (x5))), (6, .int (zI (x6)))] → W p l e zm_A_shareOut s m args below meth c H locs 0 0 (MQ below (zQv B S9) args s 0 0 B.2.2.2) (F0 m 77 ls [.int (zI (xt2)), .int (zI (xt1)), .ref (B.2.1 3 (0) (16))]) := by
  intro x3 x4 x5 x6 xt1 xt2 S nx3 nx4 nx5 nx6 nxt1 nxt2 hf H locs ls hW hS hl
  unfold zf_A_shareOut_77 at hf
  obtain ⟨h1, hf⟩ := zck_some hf
  obtain ⟨S2, eS2, hf⟩ := zlt_some hf
  refine ziast C hK hap hW hS (zvd_3 (by decide) (by decide)) (fun f => ze_3_16 B f (0)) (by decide) rfl nxt2 h1 zd_A_shareOut_77 (fun H locs hW hS => ?_)
  rw [eS2] at hW
  refine lv_aload_n C.1 C.2.1 zd_A_shareOut_78 rfl (lv_at hl 0 rfl) ?_
  refine zg_A_got (r := 0) C hK hW (zvd_3 (by decide) (by decide)) zk_469 zd_A_shareOut_79 ?_
  refine lv_iload C.1 C.2.1 zd_A_shareOut_82 (lv_at hl 5 rfl) ?_
  refine lv_aload_n C.1 C.2.1 zd_A_shareOut_84 rfl (lv_at hl 0 rfl) ?_
  refine zg_A_first (r := 0) C hK hW (zvd_3 (by decide) (by decide)) zk_468 zd_A_shareOut_85 ?_
  refine lv_iload C.1 C.2.1 zd_A_shareOut_88 (lv_at hl 5 rfl) ?_
  obtain ⟨h3, hf⟩ := zck_some hf
  refine ziald C hK hW (zvd_3 (by decide) (by decide)) (fun f => ze_3_16 B f (0)) (by decide) h3 zd_A_shareOut_90 ?_
  refine zr_iconst C zd_A_shareOut_91 ?_
  refine zr_icmp_ne (tgt := 112) C (zWn hW _ _ _ _ rfl) (znb rfl) zd_A_shareOut_92 (by decide) (fun c4 => ?_) (fun c4 => ?_)
  · rw [if_neg c4] at hf
    refine zr_iconst C zd_A_shareOut_112 ?_
    exact zw_A_shareOut_113 C hr hlk hK hSt hap r1 hr1 q21 hq21 (x3) (x4) (x5) (x6) (x5) (0) S2 nx3 nx4 nx5 nx6 nx5 (znb rfl) hf _ _ _ hW hS (lv_sub hl [0, 1, 2, 3, 4, 5, 6] rfl)
  · rw [if_pos c4] at hf
    refine lv_iload_n C.1 C.2.1 zd_A_shareOut_95 rfl (lv_at hl 3 rfl) ?_
    refine lv_aload_n C.1 C.2.1 zd_A_shareOut_96 rfl (lv_at hl 2 rfl) ?_
    refine lv_iload C.1 C.2.1 zd_A_shareOut_97 (lv_at hl 5 rfl) ?_
    refine lv_aload_n C.1 C.2.1 zd_A_shareOut_99 rfl (lv_at hl 1 rfl) ?_
    refine zg_I_week (r := r1) C hK hW (zvd_0 hr1 (by decide)) zk_240 zd_A_shareOut_100 ?_
    obtain ⟨a5, S6, ea5, hf⟩ := zbd_some hf
    refine zcVi (As := [.int (zI (x5)), .int (zI (S2 0 r1 0 0))]) (rest := [.int (zI (x3)), .int (zI (x5)), .ref (B.2.1 3 (0) (17))]) C hK hSt hW hS (zc_P_need hap (r1) hr1 x5 (S2 0 r1 0 0) S2 nx5 (zWn hW _ _ _ _ rfl) ea5) zq_P_need zk_996 (zrecv hK hW (zvd_0 hr1 (by decide)) (ze_0_6 B _ (r1)) rfl) ⟨rfl, rfl, by decide, by decide⟩ ⟨Nat.zero_le _, Nat.zero_le _⟩ rfl hl.1 rfl (lv_room (Nat.le_of_ble_eq_true rfl)) zd_A_shareOut_103 (fun na5 H locs hW hS => ?_)
    refine zr_min C hl.1 nx3 na5 zk_963 zk_909 zk_16 zk_910 (by decide) (Nat.le_of_ble_eq_true rfl) ⟨by decide, by decide⟩ zd_A_shareOut_106 ?_
    refine lv_goto (tgt := 113) C.1 C.2.1 zd_A_shareOut_109 (by decide) ?_
    exact zw_A_shareOut_113 C hr hlk hK hSt hap r1 hr1 q21 hq21 (x3) (x4) (x5) (x6) (x5) (min x3 a5) S6 nx3 nx4 nx5 nx6 nx5 (zn_min nx3 na5) hf _ _ _ hW hS (lv_sub hl [0, 1, 2, 3, 4, 5, 6] rfl)

def zf_A_shareOut_76 (r1 : Int) (q21 : Int → Int → Int → Sg → Option (Int × Sg)) (x3 : Int) (x4 : Int) (x5 : Int) (x6 : Int) (xt1 : Int) (S : Sg) : Option (Int × Sg) :=
    zf_A_shareOut_77 r1 q21 (x3) (x4) (x5) (x6) (xt1) (0) S
set_option maxHeartbeats 4000000 in
set_option maxRecDepth 100000 in
theorem zw_A_shareOut_76 {p : Program} {l : Launch} {e : Env} {s : State} {m : MethodId} {args : Array Value} {below : List Frame} {meth : Method} {c : Code} {B : zB} (C : CallFix p m c zb_A_shareOut 7 s args zT "IslandOffice$Almanac") (hr : meth.sig.returnType = none) (hlk : meth.locks = false) (hK : zK B s) (hSt : zSt B s) (hap : zAp B) (r1 : Int) (hr1 : 0 ≤ r1 ∧ r1 < 3) {res : Int} {S9 : Sg} (q21 : Int → Int → Int → Sg → Option (Int × Sg)) (hq21 : ∀ (x3 : Int) (x4 : Int) (x5 : Int) (S : Sg) (nx3 : zn x3) (nx4 : zn x4) (nx5 : zn x5), q21 x3 x4 x5 S = some (res, S9) → ∀ (H : Heap) (locs : List Loc) (ls : Array Slot), zW B S H → va_S B.2.2.2 s.heap H locs → lv_has ls 7 [(0, .ref (B.2.1 3 (0) (15))), (1, .ref (B.2.1 0 (r1) (0))), (2, .ref (B.2.1 0 (r1) (6))), (3, .int (zI (x3))), (4, .int (zI (x4))), (5, .int (zI (x5)))] → W p l e zm_A_shareOut s m args below meth c H locs 0 0 (MQ below (zQv B S9) args s 0 0 B.2.2.2) (F0 m 21 ls [])) : ∀ (x3 : Int) (x4 : Int) (x5 : Int) (x6 : Int) (xt1 : Int) (S : Sg) (nx3 : zn x3) (nx4 : zn x4) (nx5 : zn x5) (nx6 : zn x6) (nxt1 : zn xt1), zf_A_shareOut_76 r1 q21 x3 x4 x5 x6 xt1 S = some (res, S9) → ∀ (H : Heap) (locs : List Loc) (ls : Array Slot), zW B S H → va_S B.2.2.2 s.heap H locs → lv_has ls 7 [(0, .ref (B.2.1 3 (0) (15))), (1, .ref (B.2.1 0 (r1) (0))), (2, .ref (B.2.1 0 (r1) (6))), (3, .int (zI (x3))), (4, .int (zI (x4))), (5, .int (zI (x5))), (6, .int (zI (x6)))] → W p l e zm_A_shareOut s m args below meth c H locs 0 0 (MQ below (zQv B S9) args s 0 0 B.2.2.2) (F0 m 76 ls [.int (zI (xt1)), .ref (B.2.1 3 (0) (16))]) := by
  intro x3 x4 x5 x6 xt1 S nx3 nx4 nx5 nx6 nxt1 hf H locs ls hW hS hl
  unfold zf_A_shareOut_76 at hf
  refine zr_iconst C zd_A_shareOut_76 ?_
  exact zw_A_shareOut_77 C hr hlk hK hSt hap r1 hr1 q21 hq21 (x3) (x4) (x5) (x6) (xt1) (0) S nx3 nx4 nx5 nx6 nxt1 (znb rfl) hf _ _ _ hW hS (lv_sub hl [0, 1, 2, 3, 4, 5, 6] rfl)

def zf_A_shareOut_45 (r1 : Int) (q21 : Int → Int → Int → Sg → Option (Int × Sg)) (x3 : Int) (x4 : Int) (x5 : Int) (xt0 : Int) (S : Sg) : Option (Int × Sg) :=
    if xt0 = 0 then (zf_A_shareOut_76 r1 q21 (x3) (x4) (x5) (xt0) (x5) S) else (zbd (zf_J_allows (r1) 2 x5 S) fun a2 S3 => if a2 = 0 then (zf_A_shareOut_76 r1 q21 (x3) (x4) (x5) (xt0) (x5) S3) else (zf_A_shareOut_77 r1 q21 (x3) (x4) (x5) (xt0) (x5) (1) S3))
set_option maxHeartbeats 4000000 in
set_option maxRecDepth 100000 in
theorem zw_A_shareOut_45 {p : Program} {l : Launch} {e : Env} {s : State} {m : MethodId} {args : Array Value} {below : List Frame} {meth : Method} {c : Code} {B : zB} (C : CallFix p m c zb_A_shareOut 7 s args zT "IslandOffice$Almanac") (hr : meth.sig.returnType = none) (hlk : meth.locks = false) (hK : zK B s) (hSt : zSt B s) (hap : zAp B) (r1 : Int) (hr1 : 0 ≤ r1 ∧ r1 < 3) {res : Int} {S9 : Sg} (q21 : Int → Int → Int → Sg → Option (Int × Sg)) (hq21 : ∀ (x3 : Int) (x4 : Int) (x5 : Int) (S : Sg) (nx3 : zn x3) (nx4 : zn x4) (nx5 : zn x5), q21 x3 x4 x5 S = some (res, S9) → ∀ (H : Heap) (locs : List Loc) (ls : Array Slot), zW B S H → va_S B.2.2.2 s.heap H locs → lv_has ls 7 [(0, .ref (B.2.1 3 (0) (15))), (1, .ref (B.2.1 0 (r1) (0))), (2, .ref (B.2.1 0 (r1) (6))), (3, .int (zI (x3))), (4, .int (zI (x4))), (5, .int (zI (x5)))] → W p l e zm_A_shareOut s m args below meth c H locs 0 0 (MQ below (zQv B S9) args s 0 0 B.2.2.2) (F0 m 21 ls [])) : ∀ (x3 : Int) (x4 : Int) (x5 : Int) (xt0 : Int) (S : Sg) (nx3 : zn x3) (nx4 : zn x4) (nx5 : zn x5) (nxt0 : zn xt0), zf_A_shareOut_45 r1 q21 x3 x4 x5 xt0 S = some (res, S9) → ∀ (H : Heap) (locs : List Loc) (ls : Array Slot), zW B S H → va_S B.2.2.2 s.heap H locs → lv_has ls 7 [(0, .ref (B.2.1 3 (0) (15))), (1, .ref (B.2.1 0 (r1) (0))), (2, .ref (B.2.1 0 (r1) (6))), (3, .int (zI (x3))), (4, .int (zI (x4))), (5, .int (zI (x5)))] → W p l e zm_A_shareOut s m args below meth c H locs 0 0 (MQ below (zQv B S9) args s 0 0 B.2.2.2) (F0 m 45 ls [.int (zI (xt0))]) := by
  intro x3 x4 x5 xt0 S nx3 nx4 nx5 nxt0 hf H locs ls hW hS hl
  unfold zf_A_shareOut_45 at hf
  refine lv_istore (lv' := [(6, .int (zI (xt0))), (0, .ref (B.2.1 3 (0) (15))), (1, .ref (B.2.1 0 (r1) (0))), (2, .ref (B.2.1 0 (r1) (6))), (3, .int (zI (x3))), (4, .int (zI (x4))), (5, .int (zI (x5)))]) C.1 C.2.1 zd_A_shareOut_45 hl (by decide) rfl (fun ls hl => ?_)
  refine lv_aload_n C.1 C.2.1 zd_A_shareOut_47 rfl (lv_at hl 1 rfl) ?_
  refine zg_A_first (r := 0) C hK hW (zvd_3 (by decide) (by decide)) zk_468 zd_A_shareOut_48 ?_
  refine lv_iload C.1 C.2.1 zd_A_shareOut_51 (lv_at hl 6 rfl) ?_
  refine lv_iload C.1 C.2.1 zd_A_shareOut_53 (lv_at hl 0 rfl) ?_
  refine zr_if_eq (tgt := 76) C nxt0 zd_A_shareOut_55 (by decide) (fun c1 => ?_) (fun c1 => ?_)
  · rw [if_pos c1] at hf
    exact zw_A_shareOut_76 C hr hlk hK hSt hap r1 hr1 q21 hq21 (x3) (x4) (x5) (xt0) (x5) S nx3 nx4 nx5 nxt0 nx5 hf _ _ _ hW hS (lv_sub hl [1, 2, 3, 4, 5, 6, 0] rfl)
  · rw [if_neg c1] at hf
    refine lv_aload_n C.1 C.2.1 zd_A_shareOut_58 rfl (lv_at hl 1 rfl) ?_
    refine zg_A_judge (r := 0) C hK hW (zvd_3 (by decide) (by decide)) zk_466 zd_A_shareOut_59 ?_
    refine lv_aload_n C.1 C.2.1 zd_A_shareOut_62 rfl (lv_at hl 2 rfl) ?_
    refine zr_iconst C zd_A_shareOut_63 ?_
    refine lv_iload C.1 C.2.1 zd_A_shareOut_64 (lv_at hl 6 rfl) ?_
    obtain ⟨a2, S3, ea2, hf⟩ := zbd_some hf
    refine zcVi (As := [.ref (B.2.1 0 (r1) (0)), .int (zI (2)), .int (zI (x5))]) (rest := [.int (zI (x5)), .ref (B.2.1 3 (0) (16))]) C hK hSt hW hS (zc_J_allows hap (r1) hr1 2 x5 S (znb rfl) nx5 ea2) zq_J_allows zk_995 (zrecv hK hW (zvd_3 (by decide) (by decide)) (ze_3_7 B _ (0)) rfl) ⟨rfl, rfl, by decide, by decide⟩ ⟨Nat.zero_le _, Nat.zero_le _⟩ rfl hl.1 rfl (lv_room (Nat.le_of_ble_eq_true rfl)) zd_A_shareOut_66 (fun na2 H locs hW hS => ?_)
    refine zr_if_eq (tgt := 76) C na2 zd_A_shareOut_69 (by decide) (fun c4 => ?_) (fun c4 => ?_)
    · rw [if_pos c4] at hf
      exact zw_A_shareOut_76 C hr hlk hK hSt hap r1 hr1 q21 hq21 (x3) (x4) (x5) (xt0) (x5) S3 nx3 nx4 nx5 nxt0 nx5 hf _ _ _ hW hS (lv_sub hl [1, 2, 3, 4, 5, 6, 0] rfl)
    · rw [if_neg c4] at hf
      refine zr_iconst C zd_A_shareOut_72 ?_
      refine lv_goto (tgt := 77) C.1 C.2.1 zd_A_shareOut_73 (by decide) ?_
      exact zw_A_shareOut_77 C hr hlk hK hSt hap r1 hr1 q21 hq21 (x3) (x4) (x5) (xt0) (x5) (1) S3 nx3 nx4 nx5 nxt0 nx5 (znb rfl) hf _ _ _ hW hS (lv_sub hl [1, 2, 3, 4, 5, 6, 0] rfl)

def zf_A_shareOut_21 (r1 : Int) : Nat → Int → Int → Int → Sg → Option (Int × Sg)
  | 0, _, _, _, _ => none
  | n + 1, x3, x4, x5, S =>
    if (S 0 r1 6 0) ≤ x5 then (if x4 = 0 then (zf_A_shareOut_161 r1 (x3) (0) S) else (zck (¬ x4 = 0) <| zf_A_shareOut_161 r1 (x3) (zdiv x3 x4) S)) else (zck (0 ≤ x5 ∧ x5 < 40) <| if (S 0 r1 11 x5) = 0 then (zf_A_shareOut_45 r1 (zf_A_shareOut_21 r1 n) (x3) (x4) (x5) (1) S) else (zf_A_shareOut_45 r1 (zf_A_shareOut_21 r1 n) (x3) (x4) (x5) (0) S))
set_option maxHeartbeats 4000000 in
set_option maxRecDepth 100000 in
theorem zw_A_shareOut_21 {p : Program} {l : Launch} {e : Env} {s : State} {m : MethodId} {args : Array Value} {below : List Frame} {meth : Method} {c : Code} {B : zB} (C : CallFix p m c zb_A_shareOut 7 s args zT "IslandOffice$Almanac") (hr : meth.sig.returnType = none) (hlk : meth.locks = false) (hK : zK B s) (hSt : zSt B s) (hap : zAp B) (r1 : Int) (hr1 : 0 ≤ r1 ∧ r1 < 3) {res : Int} {S9 : Sg} : ∀ n : Nat, ∀ (x3 : Int) (x4 : Int) (x5 : Int) (S : Sg) (nx3 : zn x3) (nx4 : zn x4) (nx5 : zn x5), zf_A_shareOut_21 r1 n x3 x4 x5 S = some (res, S9) → ∀ (H : Heap) (locs : List Loc) (ls : Array Slot), zW B S H → va_S B.2.2.2 s.heap H locs → lv_has ls 7 [(0, .ref (B.2.1 3 (0) (15))), (1, .ref (B.2.1 0 (r1) (0))), (2, .ref (B.2.1 0 (r1) (6))), (3, .int (zI (x3))), (4, .int (zI (x4))), (5, .int (zI (x5)))] → W p l e zm_A_shareOut s m args below meth c H locs 0 0 (MQ below (zQv B S9) args s 0 0 B.2.2.2) (F0 m 21 ls []) := by
  intro n
  induction n with
  | zero =>
    intro x3 x4 x5 S nx3 nx4 nx5 hf H locs ls hW hS hl
    cases hf
  | succ n ih =>
    intro x3 x4 x5 S nx3 nx4 nx5 hf H locs ls hW hS hl
    rw [zf_A_shareOut_21] at hf
    refine lv_iload C.1 C.2.1 zd_A_shareOut_21 (lv_at hl 5 rfl) ?_
    refine lv_aload_n C.1 C.2.1 zd_A_shareOut_23 rfl (lv_at hl 2 rfl) ?_
    refine zg_P_n (r := r1) C hK hW (zvd_0 hr1 (by decide)) zk_54 zd_A_shareOut_24 ?_
    refine zr_icmp_ge (tgt := 148) C nx5 (zWn hW _ _ _ _ rfl) zd_A_shareOut_27 (by decide) (fun c1 => ?_) (fun c1 => ?_)
    · rw [if_pos c1] at hf
      refine lv_iload C.1 C.2.1 zd_A_shareOut_148 (lv_at hl 4 rfl) ?_
      refine zr_if_ne (tgt := 157) C nx4 zd_A_shareOut_150 (by decide) (fun c2 => ?_) (fun c2 => ?_)
      · rw [if_neg c2] at hf
        refine lv_iload_n C.1 C.2.1 zd_A_shareOut_157 rfl (lv_at hl 3 rfl) ?_
        refine lv_iload C.1 C.2.1 zd_A_shareOut_158 (lv_at hl 4 rfl) ?_
        obtain ⟨h3, hf⟩ := zck_some hf
        refine zr_idiv C nx3 nx4 h3 zd_A_shareOut_160 ?_
        exact zw_A_shareOut_161 C hr hlk hK hSt hap r1 hr1 (x3) (zdiv x3 x4) S nx3 (zn_div _ _) hf _ _ _ hW hS (lv_sub hl [0, 1, 2, 3] rfl)
      · rw [if_pos c2] at hf
        refine zr_iconst C zd_A_shareOut_153 ?_
        refine lv_goto (tgt := 161) C.1 C.2.1 zd_A_shareOut_154 (by decide) ?_
        exact zw_A_shareOut_161 C hr hlk hK hSt hap r1 hr1 (x3) (0) S nx3 (znb rfl) hf _ _ _ hW hS (lv_sub hl [0, 1, 2, 3] rfl)
    · rw [if_neg c1] at hf
      refine lv_aload_n C.1 C.2.1 zd_A_shareOut_30 rfl (lv_at hl 2 rfl) ?_
      refine zg_P_state (r := r1) C hK hW (zvd_0 hr1 (by decide)) zk_72 zd_A_shareOut_31 ?_
      refine lv_iload C.1 C.2.1 zd_A_shareOut_34 (lv_at hl 5 rfl) ?_
      obtain ⟨h4, hf⟩ := zck_some hf
      refine ziald C hK hW (zvd_0 hr1 (by decide)) (fun f => ze_0_11 B f (r1)) (by decide) h4 zd_A_shareOut_36 ?_
      refine zr_if_ne (tgt := 44) C (zWn hW _ _ _ _ rfl) zd_A_shareOut_37 (by decide) (fun c5 => ?_) (fun c5 => ?_)
      · rw [if_neg c5] at hf
        refine zr_iconst C zd_A_shareOut_44 ?_
        exact zw_A_shareOut_45 C hr hlk hK hSt hap r1 hr1 (zf_A_shareOut_21 r1 n) (ih) (x3) (x4) (x5) (0) S nx3 nx4 nx5 (znb rfl) hf _ _ _ hW hS (lv_sub hl [0, 1, 2, 3, 4, 5] rfl)
      · rw [if_pos c5] at hf
        refine zr_iconst C zd_A_shareOut_40 ?_
        refine lv_goto (tgt := 45) C.1 C.2.1 zd_A_shareOut_41 (by decide) ?_
        exact zw_A_shareOut_45 C hr hlk hK hSt hap r1 hr1 (zf_A_shareOut_21 r1 n) (ih) (x3) (x4) (x5) (1) S nx3 nx4 nx5 (znb rfl) hf _ _ _ hW hS (lv_sub hl [0, 1, 2, 3, 4, 5] rfl)

def zf_A_shareOut (r1 : Int) (S : Sg) : Option (Int × Sg) :=
    zlt (S 0 r1 32 0) fun v1 => zf_A_shareOut_21 r1 4096 (v1) (0) (0) S
set_option maxHeartbeats 4000000 in
set_option maxRecDepth 100000 in
theorem zw_A_shareOut {p : Program} {l : Launch} {e : Env} {s : State} {m : MethodId} {args : Array Value} {below : List Frame} {meth : Method} {c : Code} {B : zB} (C : CallFix p m c zb_A_shareOut 7 s args zT "IslandOffice$Almanac") (hr : meth.sig.returnType = none) (hlk : meth.locks = false) (hK : zK B s) (hSt : zSt B s) (hap : zAp B) (r1 : Int) (hr1 : 0 ≤ r1 ∧ r1 < 3) {res : Int} {S9 : Sg} : ∀  (S : Sg) , zf_A_shareOut r1  S = some (res, S9) → ∀ (H : Heap) (locs : List Loc) (ls : Array Slot), zW B S H → va_S B.2.2.2 s.heap H locs → lv_has ls 7 [(0, .ref (B.2.1 3 (0) (15))), (1, .ref (B.2.1 0 (r1) (0)))] → W p l e zm_A_shareOut s m args below meth c H locs 0 0 (MQ below (zQv B S9) args s 0 0 B.2.2.2) (F0 m 0 ls []) := by
  intro S hf H locs ls hW hS hl
  unfold zf_A_shareOut at hf
  refine lv_aload_n C.1 C.2.1 zd_A_shareOut_0 rfl (lv_at hl 1 rfl) ?_
  refine zg_I_people (r := r1) C hK hW (zvd_0 hr1 (by decide)) zk_281 zd_A_shareOut_1 ?_
  refine lv_astore_n (lv' := [(2, .ref (B.2.1 0 (r1) (6))), (0, .ref (B.2.1 3 (0) (15))), (1, .ref (B.2.1 0 (r1) (0)))]) C.1 C.2.1 zd_A_shareOut_4 rfl hl (by decide) rfl (fun ls hl => ?_)
  refine lv_aload_n C.1 C.2.1 zd_A_shareOut_5 rfl (lv_at hl 2 rfl) ?_
  refine zg_I_stores (r := r1) C hK hW (zvd_0 hr1 (by decide)) zk_291 zd_A_shareOut_6 ?_
  refine zg_T_stock (r := r1) C hK hW (zvd_0 hr1 (by decide)) zk_198 zd_A_shareOut_9 ?_
  refine zr_iconst C zd_A_shareOut_12 ?_
  refine ziald C hK hW (zvd_0 hr1 (by decide)) (fun f => ze_0_32 B f (r1)) (by decide) (by decide) zd_A_shareOut_13 ?_
  obtain ⟨v1, ev1, hf⟩ := zlt_some hf
  have nv1 : zn v1 := by rw [← ev1]; exact (zWn hW _ _ _ _ rfl)
  rw [ev1]
  refine lv_istore_n (lv' := [(3, .int (zI (v1))), (2, .ref (B.2.1 0 (r1) (6))), (0, .ref (B.2.1 3 (0) (15))), (1, .ref (B.2.1 0 (r1) (0)))]) C.1 C.2.1 zd_A_shareOut_14 rfl hl (by decide) rfl (fun ls hl => ?_)
  refine zr_iconst C zd_A_shareOut_15 ?_
  refine lv_istore (lv' := [(4, .int (zI (0))), (3, .int (zI (v1))), (2, .ref (B.2.1 0 (r1) (6))), (0, .ref (B.2.1 3 (0) (15))), (1, .ref (B.2.1 0 (r1) (0)))]) C.1 C.2.1 zd_A_shareOut_16 hl (by decide) rfl (fun ls hl => ?_)
  refine zr_iconst C zd_A_shareOut_18 ?_
  refine lv_istore (lv' := [(5, .int (zI (0))), (4, .int (zI (0))), (3, .int (zI (v1))), (2, .ref (B.2.1 0 (r1) (6))), (0, .ref (B.2.1 3 (0) (15))), (1, .ref (B.2.1 0 (r1) (0)))]) C.1 C.2.1 zd_A_shareOut_19 hl (by decide) rfl (fun ls hl => ?_)
  exact zw_A_shareOut_21 C hr hlk hK hSt hap r1 hr1 4096 (v1) (0) (0) S nv1 (znb rfl) (znb rfl) hf _ _ _ hW hS (lv_sub hl [4, 5, 3, 2, 1, 0] rfl)

theorem zc_A_shareOut {l : Launch} {B : zB} (hap : zAp B) (r1 : Int) (hr1 : 0 ≤ r1 ∧ r1 < 3) (S : Sg) {res : Int} {S9 : Sg} (hf : zf_A_shareOut r1 S = some (res, S9)) : Met l zy_A_shareOut (Cond.code zy_A_shareOut zb_A_shareOut 7 (none) :: zT) zm_A_shareOut (zP B S [.ref (B.2.1 3 (0) (15)), .ref (B.2.1 0 (r1) (0))]) (zQv B S9) 0 0 B.2.2.2 :=
  zmet (by decide) (Nat.le_of_ble_eq_true rfl) (fun p e s m args below meth c C hr hlk hK hSt hW ls hl => zw_A_shareOut C hr hlk hK hSt hap r1 hr1  S  hf _ _ _ hW va_S.rf hl)
/-! IslandOffice$People.needOfAll(I)I -/
abbrev zy_P_needOfAll : MethodName := ⟨"IslandOffice$People", "needOfAll", "(I)I"⟩
abbrev zb_P_needOfAll : ByteArray := prog_7_method_13_code
abbrev zm_P_needOfAll : Room := { frames := 2, cells := 0, slots := 0, locals := 45 }
theorem zq_P_needOfAll : zMy zy_P_needOfAll zb_P_needOfAll 4 (some .int) 1 := ⟨zk_989, zk_987, zk_988, zk_4, by decide, by decide, by decide +kernel⟩
theorem zd_P_needOfAll_0 : decode zb_P_needOfAll 0 = .ok (.iconst 0, 1) := by decide +kernel
theorem zd_P_needOfAll_1 : decode zb_P_needOfAll 1 = .ok (.istore_n 2, 1) := by decide +kernel
theorem zd_P_needOfAll_2 : decode zb_P_needOfAll 2 = .ok (.iconst 0, 1) := by decide +kernel
theorem zd_P_needOfAll_3 : decode zb_P_needOfAll 3 = .ok (.istore_n 3, 1) := by decide +kernel
theorem zd_P_needOfAll_4 : decode zb_P_needOfAll 4 = .ok (.iload_n 3, 1) := by decide +kernel
theorem zd_P_needOfAll_5 : decode zb_P_needOfAll 5 = .ok (.aload_n 0, 1) := by decide +kernel
theorem zd_P_needOfAll_6 : decode zb_P_needOfAll 6 = .ok (.getfield 9, 3) := by decide +kernel
theorem zd_P_needOfAll_9 : decode zb_P_needOfAll 9 = .ok (.if_icmp .ge 18, 3) := by decide +kernel
theorem zd_P_needOfAll_12 : decode zb_P_needOfAll 12 = .ok (.iload_n 2, 1) := by decide +kernel
theorem zd_P_needOfAll_13 : decode zb_P_needOfAll 13 = .ok (.aload_n 0, 1) := by decide +kernel
theorem zd_P_needOfAll_14 : decode zb_P_needOfAll 14 = .ok (.iload_n 3, 1) := by decide +kernel
theorem zd_P_needOfAll_15 : decode zb_P_needOfAll 15 = .ok (.iload_n 1, 1) := by decide +kernel
theorem zd_P_needOfAll_16 : decode zb_P_needOfAll 16 = .ok (.invokevirtual 60, 3) := by decide +kernel
theorem zd_P_needOfAll_19 : decode zb_P_needOfAll 19 = .ok (.iadd, 1) := by decide +kernel
theorem zd_P_needOfAll_20 : decode zb_P_needOfAll 20 = .ok (.istore_n 2, 1) := by decide +kernel
theorem zd_P_needOfAll_21 : decode zb_P_needOfAll 21 = .ok (.iinc 3 1, 3) := by decide +kernel
theorem zd_P_needOfAll_24 : decode zb_P_needOfAll 24 = .ok (.goto (-20), 3) := by decide +kernel
theorem zd_P_needOfAll_27 : decode zb_P_needOfAll 27 = .ok (.iload_n 2, 1) := by decide +kernel
theorem zd_P_needOfAll_28 : decode zb_P_needOfAll 28 = .ok (.ireturn, 1) := by decide +kernel

def zf_P_needOfAll_4 (r0 : Int) : Nat → Int → Int → Int → Sg → Option (Int × Sg)
  | 0, _, _, _, _ => none
  | n + 1, x1, x2, x3, S =>
    if (S 0 r0 6 0) ≤ x3 then (some (x2, S)) else (zbd (zf_P_need (r0) x3 x1 S) fun a2 S3 => zlt (zw (x2 + a2)) fun v4 => zlt (zw (x3 + 1)) fun v5 => (zf_P_needOfAll_4 r0 n) (x1) (v4) (v5) S3)
set_option maxHeartbeats 4000000 in
set_option maxRecDepth 100000 in
theorem zw_P_needOfAll_4 {p : Program} {l : Launch} {e : Env} {s : State} {m : MethodId} {args : Array Value} {below : List Frame} {meth : Method} {c : Code} {B : zB} (C : CallFix p m c zb_P_needOfAll 4 s args zT "IslandOffice$People") (hr : meth.sig.returnType = some .int) (hlk : meth.locks = false) (hK : zK B s) (hSt : zSt B s) (hap : zAp B) (r0 : Int) (hr0 : 0 ≤ r0 ∧ r0 < 3) {res : Int} {S9 : Sg} : ∀ n : Nat, ∀ (x1 : Int) (x2 : Int) (x3 : Int) (S : Sg) (nx1 : zn x1) (nx2 : zn x2) (nx3 : zn x3), zf_P_needOfAll_4 r0 n x1 x2 x3 S = some (res, S9) → ∀ (H : Heap) (locs : List Loc) (ls : Array Slot), zW B S H → va_S B.2.2.2 s.heap H locs → lv_has ls 4 [(0, .ref (B.2.1 0 (r0) (6))), (1, .int (zI (x1))), (2, .int (zI (x2))), (3, .int (zI (x3)))] → W p l e zm_P_needOfAll s m args below meth c H locs 0 0 (MQ below (zQi B res S9) args s 0 0 B.2.2.2) (F0 m 4 ls []) := by
  intro n
  induction n with
  | zero =>
    intro x1 x2 x3 S nx1 nx2 nx3 hf H locs ls hW hS hl
    cases hf
  | succ n ih =>
    intro x1 x2 x3 S nx1 nx2 nx3 hf H locs ls hW hS hl
    rw [zf_P_needOfAll_4] at hf
    refine lv_iload_n C.1 C.2.1 zd_P_needOfAll_4 rfl (lv_at hl 3 rfl) ?_
    refine lv_aload_n C.1 C.2.1 zd_P_needOfAll_5 rfl (lv_at hl 0 rfl) ?_
    refine zg_P_n (r := r0) C hK hW (zvd_0 hr0 (by decide)) zk_52 zd_P_needOfAll_6 ?_
    refine zr_icmp_ge (tgt := 27) C nx3 (zWn hW _ _ _ _ rfl) zd_P_needOfAll_9 (by decide) (fun c1 => ?_) (fun c1 => ?_)
    · rw [if_pos c1] at hf
      refine lv_iload_n C.1 C.2.1 zd_P_needOfAll_27 rfl (lv_at hl 2 rfl) ?_
      cases hf
      exact zre_i C hr hlk hK hW hS nx2 zd_P_needOfAll_28
    · rw [if_neg c1] at hf
      refine lv_iload_n C.1 C.2.1 zd_P_needOfAll_12 rfl (lv_at hl 2 rfl) ?_
      refine lv_aload_n C.1 C.2.1 zd_P_needOfAll_13 rfl (lv_at hl 0 rfl) ?_
      refine lv_iload_n C.1 C.2.1 zd_P_needOfAll_14 rfl (lv_at hl 3 rfl) ?_
      refine lv_iload_n C.1 C.2.1 zd_P_needOfAll_15 rfl (lv_at hl 1 rfl) ?_
      obtain ⟨a2, S3, ea2, hf⟩ := zbd_some hf
      refine zcVi (As := [.int (zI (x3)), .int (zI (x1))]) (rest := [.int (zI (x2))]) C hK hSt hW hS (zc_P_need hap (r0) hr0 x3 x1 S nx3 nx1 ea2) zq_P_need zk_990 (zrecv hK hW (zvd_0 hr0 (by decide)) (ze_0_6 B _ (r0)) rfl) ⟨rfl, rfl, by decide, by decide⟩ ⟨Nat.zero_le _, Nat.zero_le _⟩ rfl hl.1 rfl (lv_room (Nat.le_of_ble_eq_true rfl)) zd_P_needOfAll_16 (fun na2 H locs hW hS => ?_)
      refine zr_iadd C zd_P_needOfAll_19 ?_
      obtain ⟨v4, ev4, hf⟩ := zlt_some hf
      have nv4 : zn v4 := by rw [← ev4]; exact (zn_w _)
      rw [ev4]
      refine lv_istore_n (lv' := [(2, .int (zI (v4))), (0, .ref (B.2.1 0 (r0) (6))), (1, .int (zI (x1))), (3, .int (zI (x3)))]) C.1 C.2.1 zd_P_needOfAll_20 rfl hl (by decide) rfl (fun ls hl => ?_)
      obtain ⟨v5, ev5, hf⟩ := zlt_some hf
      have nv5 : zn v5 := by rw [← ev5]; exact zn_w _
      refine lv_iinc (v := zI v5) (lv' := [(3, .int (zI (v5))), (2, .int (zI (v4))), (0, .ref (B.2.1 0 (r0) (6))), (1, .int (zI (x1)))]) C.1 C.2.1 zd_P_needOfAll_21 hl (k := 3) rfl (by rw [← ev5, ← zI_add]; rfl) (by decide) rfl (fun ls hl => ?_)
      refine lv_goto (tgt := 4) C.1 C.2.1 zd_P_needOfAll_24 (by decide) ?_
      exact ih (x1) (v4) (v5) S3 nx1 nv4 nv5 hf _ _ _ hW hS (lv_sub hl [2, 3, 1, 0] rfl)

def zf_P_needOfAll (r0 : Int) (x1 : Int) (S : Sg) : Option (Int × Sg) :=
    zf_P_needOfAll_4 r0 4096 (x1) (0) (0) S
set_option maxHeartbeats 4000000 in
set_option maxRecDepth 100000 in
theorem zw_P_needOfAll {p : Program} {l : Launch} {e : Env} {s : State} {m : MethodId} {args : Array Value} {below : List Frame} {meth : Method} {c : Code} {B : zB} (C : CallFix p m c zb_P_needOfAll 4 s args zT "IslandOffice$People") (hr : meth.sig.returnType = some .int) (hlk : meth.locks = false) (hK : zK B s) (hSt : zSt B s) (hap : zAp B) (r0 : Int) (hr0 : 0 ≤ r0 ∧ r0 < 3) {res : Int} {S9 : Sg} : ∀ (x1 : Int) (S : Sg) (nx1 : zn x1), zf_P_needOfAll r0 x1 S = some (res, S9) → ∀ (H : Heap) (locs : List Loc) (ls : Array Slot), zW B S H → va_S B.2.2.2 s.heap H locs → lv_has ls 4 [(0, .ref (B.2.1 0 (r0) (6))), (1, .int (zI (x1)))] → W p l e zm_P_needOfAll s m args below meth c H locs 0 0 (MQ below (zQi B res S9) args s 0 0 B.2.2.2) (F0 m 0 ls []) := by
  intro x1 S nx1 hf H locs ls hW hS hl
  unfold zf_P_needOfAll at hf
  refine zr_iconst C zd_P_needOfAll_0 ?_
  refine lv_istore_n (lv' := [(2, .int (zI (0))), (0, .ref (B.2.1 0 (r0) (6))), (1, .int (zI (x1)))]) C.1 C.2.1 zd_P_needOfAll_1 rfl hl (by decide) rfl (fun ls hl => ?_)
  refine zr_iconst C zd_P_needOfAll_2 ?_
  refine lv_istore_n (lv' := [(3, .int (zI (0))), (2, .int (zI (0))), (0, .ref (B.2.1 0 (r0) (6))), (1, .int (zI (x1)))]) C.1 C.2.1 zd_P_needOfAll_3 rfl hl (by decide) rfl (fun ls hl => ?_)
  exact zw_P_needOfAll_4 C hr hlk hK hSt hap r0 hr0 4096 (x1) (0) (0) S nx1 (znb rfl) (znb rfl) hf _ _ _ hW hS (lv_sub hl [2, 3, 1, 0] rfl)

theorem zc_P_needOfAll {l : Launch} {B : zB} (hap : zAp B) (r0 : Int) (hr0 : 0 ≤ r0 ∧ r0 < 3) (x1 : Int) (S : Sg) (nx1 : zn x1) {res : Int} {S9 : Sg} (hf : zf_P_needOfAll r0 x1 S = some (res, S9)) : Met l zy_P_needOfAll (Cond.code zy_P_needOfAll zb_P_needOfAll 4 (some .int) :: zT) zm_P_needOfAll (zP B S [.ref (B.2.1 0 (r0) (6)), .int (zI (x1))]) (zQi B res S9) 0 0 B.2.2.2 :=
  zmet (by decide) (Nat.le_of_ble_eq_true rfl) (fun p e s m args below meth c C hr hlk hK hSt hW ls hl => zw_P_needOfAll C hr hlk hK hSt hap r0 hr0 x1 S nx1 hf _ _ _ hW va_S.rf hl)
/-! IslandOffice$Almanac.feed(LIslandOffice$Island;)I -/
abbrev zy_A_feed : MethodName := ⟨"IslandOffice$Almanac", "feed", "(LIslandOffice$Island;)I"⟩
abbrev zb_A_feed : ByteArray := prog_2_method_10_code
abbrev zm_A_feed : Room := { frames := 4, cells := 0, slots := 0, locals := 97 }
theorem zq_A_feed : zMy zy_A_feed zb_A_feed 4 (some .int) 1 := ⟨zk_985, zk_984, zs_31, zk_13, by decide, by decide, by decide +kernel⟩
theorem zd_A_feed_0 : decode zb_A_feed 0 = .ok (.aload_n 1, 1) := by decide +kernel
theorem zd_A_feed_1 : decode zb_A_feed 1 = .ok (.getfield 116, 3) := by decide +kernel
theorem zd_A_feed_4 : decode zb_A_feed 4 = .ok (.aload_n 1, 1) := by decide +kernel
theorem zd_A_feed_5 : decode zb_A_feed 5 = .ok (.getfield 45, 3) := by decide +kernel
theorem zd_A_feed_8 : decode zb_A_feed 8 = .ok (.invokevirtual 197, 3) := by decide +kernel
theorem zd_A_feed_11 : decode zb_A_feed 11 = .ok (.istore_n 2, 1) := by decide +kernel
theorem zd_A_feed_12 : decode zb_A_feed 12 = .ok (.aload_n 1, 1) := by decide +kernel
theorem zd_A_feed_13 : decode zb_A_feed 13 = .ok (.getfield 90, 3) := by decide +kernel
theorem zd_A_feed_16 : decode zb_A_feed 16 = .ok (.getfield 171, 3) := by decide +kernel
theorem zd_A_feed_19 : decode zb_A_feed 19 = .ok (.iconst 0, 1) := by decide +kernel
theorem zd_A_feed_20 : decode zb_A_feed 20 = .ok (.iaload, 1) := by decide +kernel
theorem zd_A_feed_21 : decode zb_A_feed 21 = .ok (.iload_n 2, 1) := by decide +kernel
theorem zd_A_feed_22 : decode zb_A_feed 22 = .ok (.if_icmp .lt 29, 3) := by decide +kernel
theorem zd_A_feed_25 : decode zb_A_feed 25 = .ok (.aload_n 1, 1) := by decide +kernel
theorem zd_A_feed_26 : decode zb_A_feed 26 = .ok (.getfield 90, 3) := by decide +kernel
theorem zd_A_feed_29 : decode zb_A_feed 29 = .ok (.getfield 171, 3) := by decide +kernel
theorem zd_A_feed_32 : decode zb_A_feed 32 = .ok (.iconst 0, 1) := by decide +kernel
theorem zd_A_feed_33 : decode zb_A_feed 33 = .ok (.dup2, 1) := by decide +kernel
theorem zd_A_feed_34 : decode zb_A_feed 34 = .ok (.iaload, 1) := by decide +kernel
theorem zd_A_feed_35 : decode zb_A_feed 35 = .ok (.iload_n 2, 1) := by decide +kernel
theorem zd_A_feed_36 : decode zb_A_feed 36 = .ok (.isub, 1) := by decide +kernel
theorem zd_A_feed_37 : decode zb_A_feed 37 = .ok (.iastore, 1) := by decide +kernel
theorem zd_A_feed_38 : decode zb_A_feed 38 = .ok (.aload_n 1, 1) := by decide +kernel
theorem zd_A_feed_39 : decode zb_A_feed 39 = .ok (.getfield 116, 3) := by decide +kernel
theorem zd_A_feed_42 : decode zb_A_feed 42 = .ok (.getfield 200, 3) := by decide +kernel
theorem zd_A_feed_45 : decode zb_A_feed 45 = .ok (.iconst 0, 1) := by decide +kernel
theorem zd_A_feed_46 : decode zb_A_feed 46 = .ok (.invokestatic 153, 3) := by decide +kernel
theorem zd_A_feed_49 : decode zb_A_feed 49 = .ok (.iconst 0, 1) := by decide +kernel
theorem zd_A_feed_50 : decode zb_A_feed 50 = .ok (.ireturn, 1) := by decide +kernel
theorem zd_A_feed_51 : decode zb_A_feed 51 = .ok (.aload_n 0, 1) := by decide +kernel
theorem zd_A_feed_52 : decode zb_A_feed 52 = .ok (.aload_n 1, 1) := by decide +kernel
theorem zd_A_feed_53 : decode zb_A_feed 53 = .ok (.invokevirtual 203, 3) := by decide +kernel
theorem zd_A_feed_56 : decode zb_A_feed 56 = .ok (.iconst 0, 1) := by decide +kernel
theorem zd_A_feed_57 : decode zb_A_feed 57 = .ok (.istore_n 3, 1) := by decide +kernel
theorem zd_A_feed_58 : decode zb_A_feed 58 = .ok (.iload_n 3, 1) := by decide +kernel
theorem zd_A_feed_59 : decode zb_A_feed 59 = .ok (.aload_n 1, 1) := by decide +kernel
theorem zd_A_feed_60 : decode zb_A_feed 60 = .ok (.getfield 116, 3) := by decide +kernel
theorem zd_A_feed_63 : decode zb_A_feed 63 = .ok (.getfield 120, 3) := by decide +kernel
theorem zd_A_feed_66 : decode zb_A_feed 66 = .ok (.if_icmp .ge 44, 3) := by decide +kernel
theorem zd_A_feed_69 : decode zb_A_feed 69 = .ok (.aload_n 1, 1) := by decide +kernel
theorem zd_A_feed_70 : decode zb_A_feed 70 = .ok (.getfield 116, 3) := by decide +kernel
theorem zd_A_feed_73 : decode zb_A_feed 73 = .ok (.getfield 200, 3) := by decide +kernel
theorem zd_A_feed_76 : decode zb_A_feed 76 = .ok (.iload_n 3, 1) := by decide +kernel
theorem zd_A_feed_77 : decode zb_A_feed 77 = .ok (.aload_n 0, 1) := by decide +kernel
theorem zd_A_feed_78 : decode zb_A_feed 78 = .ok (.getfield 23, 3) := by decide +kernel
theorem zd_A_feed_81 : decode zb_A_feed 81 = .ok (.iload_n 3, 1) := by decide +kernel
theorem zd_A_feed_82 : decode zb_A_feed 82 = .ok (.iaload, 1) := by decide +kernel
theorem zd_A_feed_83 : decode zb_A_feed 83 = .ok (.aload_n 1, 1) := by decide +kernel
theorem zd_A_feed_84 : decode zb_A_feed 84 = .ok (.getfield 116, 3) := by decide +kernel
theorem zd_A_feed_87 : decode zb_A_feed 87 = .ok (.iload_n 3, 1) := by decide +kernel
theorem zd_A_feed_88 : decode zb_A_feed 88 = .ok (.aload_n 1, 1) := by decide +kernel
theorem zd_A_feed_89 : decode zb_A_feed 89 = .ok (.getfield 45, 3) := by decide +kernel
theorem zd_A_feed_92 : decode zb_A_feed 92 = .ok (.invokevirtual 206, 3) := by decide +kernel
theorem zd_A_feed_95 : decode zb_A_feed 95 = .ok (.if_icmp .ge 7, 3) := by decide +kernel
theorem zd_A_feed_98 : decode zb_A_feed 98 = .ok (.iconst 1, 1) := by decide +kernel
theorem zd_A_feed_99 : decode zb_A_feed 99 = .ok (.goto 4, 3) := by decide +kernel
theorem zd_A_feed_102 : decode zb_A_feed 102 = .ok (.iconst 0, 1) := by decide +kernel
theorem zd_A_feed_103 : decode zb_A_feed 103 = .ok (.iastore, 1) := by decide +kernel
theorem zd_A_feed_104 : decode zb_A_feed 104 = .ok (.iinc 3 1, 3) := by decide +kernel
theorem zd_A_feed_107 : decode zb_A_feed 107 = .ok (.goto (-49), 3) := by decide +kernel
theorem zd_A_feed_110 : decode zb_A_feed 110 = .ok (.iconst 1, 1) := by decide +kernel
theorem zd_A_feed_111 : decode zb_A_feed 111 = .ok (.ireturn, 1) := by decide +kernel

def zf_A_feed_103 (r1 : Int) (q58 : Int → Sg → Option (Int × Sg)) (x3 : Int) (xt1 : Int) (xt2 : Int) (S : Sg) : Option (Int × Sg) :=
    zck (0 ≤ xt1 ∧ xt1 < 40) <| zlt (zu S 0 r1 15 xt1 xt2) fun S2 => zlt (zw (x3 + 1)) fun v3 => q58 (v3) S2
set_option maxHeartbeats 4000000 in
set_option maxRecDepth 100000 in
theorem zw_A_feed_103 {p : Program} {l : Launch} {e : Env} {s : State} {m : MethodId} {args : Array Value} {below : List Frame} {meth : Method} {c : Code} {B : zB} (C : CallFix p m c zb_A_feed 4 s args zT "IslandOffice$Almanac") (hr : meth.sig.returnType = some .int) (hlk : meth.locks = false) (hK : zK B s) (hSt : zSt B s) (hap : zAp B) (r1 : Int) (hr1 : 0 ≤ r1 ∧ r1 < 3) {res : Int} {S9 : Sg} (q58 : Int → Sg → Option (Int × Sg)) (hq58 : ∀ (x3 : Int) (S : Sg) (nx3 : zn x3), q58 x3 S = some (res, S9) → ∀ (H : Heap) (locs : List Loc) (ls : Array Slot), zW B S H → va_S B.2.2.2 s.heap H locs → lv_has ls 4 [(0, .ref (B.2.1 3 (0) (15))), (1, .ref (B.2.1 0 (r1) (0))), (3, .int (zI (x3)))] → W p l e zm_A_feed s m args below meth c H locs 0 0 (MQ below (zQi B res S9) args s 0 0 B.2.2.2) (F0 m 58 ls [])) : ∀ (x3 : Int) (xt1 : Int) (xt2 : Int) (S : Sg) (nx3 : zn x3) (nxt1 : zn xt1) (nxt2 : zn xt2), zf_A_feed_103 r1 q58 x3 xt1 xt2 S = some (res, S9) → ∀ (H : Heap) (locs : List Loc) (ls : Array Slot), zW B S H → va_S B.2.2.2 s.heap H locs → lv_has ls 4 [(0, .ref (B.2.1 3 (0) (15))), (1, .ref (B.2.1 0 (r1) (0))), (3, .int (zI (x3)))] → W p l e zm_A_feed s m args below meth c H locs 0 0 (MQ below (zQi B res S9) args s 0 0 B.2.2.2) (F0 m 103 ls [.int (zI (xt2)), .int (zI (xt1)), .ref (B.2.1 0 (r1) (15))]) := by
  intro x3 xt1 xt2 S nx3 nxt1 nxt2 hf H locs ls hW hS hl
  unfold zf_A_feed_103 at hf
  obtain ⟨h1, hf⟩ := zck_some hf
  obtain ⟨S2, eS2, hf⟩ := zlt_some hf
  refine ziast C hK hap hW hS (zvd_0 hr1 (by decide)) (fun f => ze_0_15 B f (r1)) (by decide) rfl nxt2 h1 zd_A_feed_103 (fun H locs hW hS => ?_)
  rw [eS2] at hW
  obtain ⟨v3, ev3, hf⟩ := zlt_some hf
  have nv3 : zn v3 := by rw [← ev3]; exact zn_w _
  refine lv_iinc (v := zI v3) (lv' := [(3, .int (zI (v3))), (0, .ref (B.2.1 3 (0) (15))), (1, .ref (B.2.1 0 (r1) (0)))]) C.1 C.2.1 zd_A_feed_104 hl (k := 2) rfl (by rw [← ev3, ← zI_add]; rfl) (by decide) rfl (fun ls hl => ?_)
  refine lv_goto (tgt := 58) C.1 C.2.1 zd_A_feed_107 (by decide) ?_
  exact hq58 (v3) S2 nv3 hf _ _ _ hW hS (lv_sub hl [1, 2, 0] rfl)

def zf_A_feed_58 (r1 : Int) : Nat → Int → Sg → Option (Int × Sg)
  | 0, _, _ => none
  | n + 1, x3, S =>
    if (S 0 r1 6 0) ≤ x3 then (some (1, S)) else (zck (0 ≤ x3 ∧ x3 < 40) <| zbd (zf_P_need (r1) x3 (S 0 r1 0 0) S) fun a3 S4 => if a3 ≤ (S 3 0 17 x3) then (zf_A_feed_103 r1 (zf_A_feed_58 r1 n) (x3) (x3) (0) S4) else (zf_A_feed_103 r1 (zf_A_feed_58 r1 n) (x3) (x3) (1) S4))
set_option maxHeartbeats 4000000 in
set_option maxRecDepth 100000 in
theorem zw_A_feed_58 {p : Program} {l : Launch} {e : Env} {s : State} {m : MethodId} {args : Array Value} {below : List Frame} {meth : Method} {c : Code} {B : zB} (C : CallFix p m c zb_A_feed 4 s args zT "IslandOffice$Almanac") (hr : meth.sig.returnType = some .int) (hlk : meth.locks = false) (hK : zK B s) (hSt : zSt B s) (hap : zAp B) (r1 : Int) (hr1 : 0 ≤ r1 ∧ r1 < 3) {res : Int} {S9 : Sg} : ∀ n : Nat, ∀ (x3 : Int) (S : Sg) (nx3 : zn x3), zf_A_feed_58 r1 n x3 S = some (res, S9) → ∀ (H : Heap) (locs : List Loc) (ls : Array Slot), zW B S H → va_S B.2.2.2 s.heap H locs → lv_has ls 4 [(0, .ref (B.2.1 3 (0) (15))), (1, .ref (B.2.1 0 (r1) (0))), (3, .int (zI (x3)))] → W p l e zm_A_feed s m args below meth c H locs 0 0 (MQ below (zQi B res S9) args s 0 0 B.2.2.2) (F0 m 58 ls []) := by
  intro n
  induction n with
  | zero =>
    intro x3 S nx3 hf H locs ls hW hS hl
    cases hf
  | succ n ih =>
    intro x3 S nx3 hf H locs ls hW hS hl
    rw [zf_A_feed_58] at hf
    refine lv_iload_n C.1 C.2.1 zd_A_feed_58 rfl (lv_at hl 2 rfl) ?_
    refine lv_aload_n C.1 C.2.1 zd_A_feed_59 rfl (lv_at hl 1 rfl) ?_
    refine zg_I_people (r := r1) C hK hW (zvd_0 hr1 (by decide)) zk_281 zd_A_feed_60 ?_
    refine zg_P_n (r := r1) C hK hW (zvd_0 hr1 (by decide)) zk_54 zd_A_feed_63 ?_
    refine zr_icmp_ge (tgt := 110) C nx3 (zWn hW _ _ _ _ rfl) zd_A_feed_66 (by decide) (fun c1 => ?_) (fun c1 => ?_)
    · rw [if_pos c1] at hf
      refine zr_iconst C zd_A_feed_110 ?_
      cases hf
      exact zre_i C hr hlk hK hW hS (znb rfl) zd_A_feed_111
    · rw [if_neg c1] at hf
      refine lv_aload_n C.1 C.2.1 zd_A_feed_69 rfl (lv_at hl 1 rfl) ?_
      refine zg_I_people (r := r1) C hK hW (zvd_0 hr1 (by decide)) zk_281 zd_A_feed_70 ?_
      refine zg_P_hungry (r := r1) C hK hW (zvd_0 hr1 (by decide)) zk_85 zd_A_feed_73 ?_
      refine lv_iload_n C.1 C.2.1 zd_A_feed_76 rfl (lv_at hl 2 rfl) ?_
      refine lv_aload_n C.1 C.2.1 zd_A_feed_77 rfl (lv_at hl 0 rfl) ?_
      refine zg_A_got (r := 0) C hK hW (zvd_3 (by decide) (by decide)) zk_469 zd_A_feed_78 ?_
      refine lv_iload_n C.1 C.2.1 zd_A_feed_81 rfl (lv_at hl 2 rfl) ?_
      obtain ⟨h2, hf⟩ := zck_some hf
      refine ziald C hK hW (zvd_3 (by decide) (by decide)) (fun f => ze_3_17 B f (0)) (by decide) h2 zd_A_feed_82 ?_
      refine lv_aload_n C.1 C.2.1 zd_A_feed_83 rfl (lv_at hl 1 rfl) ?_
      refine zg_I_people (r := r1) C hK hW (zvd_0 hr1 (by decide)) zk_281 zd_A_feed_84 ?_
      refine lv_iload_n C.1 C.2.1 zd_A_feed_87 rfl (lv_at hl 2 rfl) ?_
      refine lv_aload_n C.1 C.2.1 zd_A_feed_88 rfl (lv_at hl 1 rfl) ?_
      refine zg_I_week (r := r1) C hK hW (zvd_0 hr1 (by decide)) zk_240 zd_A_feed_89 ?_
      have w5 : zn (S 3 0 17 x3) := (zWn hW _ _ _ _ rfl)
      obtain ⟨a3, S4, ea3, hf⟩ := zbd_some hf
      refine zcVi (As := [.int (zI (x3)), .int (zI (S 0 r1 0 0))]) (rest := [.int (zI (S 3 0 17 x3)), .int (zI (x3)), .ref (B.2.1 0 (r1) (15))]) C hK hSt hW hS (zc_P_need hap (r1) hr1 x3 (S 0 r1 0 0) S nx3 (zWn hW _ _ _ _ rfl) ea3) zq_P_need zk_996 (zrecv hK hW (zvd_0 hr1 (by decide)) (ze_0_6 B _ (r1)) rfl) ⟨rfl, rfl, by decide, by decide⟩ ⟨Nat.zero_le _, Nat.zero_le _⟩ rfl hl.1 rfl (lv_room (Nat.le_of_ble_eq_true rfl)) zd_A_feed_92 (fun na3 H locs hW hS => ?_)
      refine zr_icmp_ge (tgt := 102) C w5 na3 zd_A_feed_95 (by decide) (fun c6 => ?_) (fun c6 => ?_)
      · rw [if_pos c6] at hf
        refine zr_iconst C zd_A_feed_102 ?_
        exact zw_A_feed_103 C hr hlk hK hSt hap r1 hr1 (zf_A_feed_58 r1 n) (ih) (x3) (x3) (0) S4 nx3 nx3 (znb rfl) hf _ _ _ hW hS (lv_sub hl [0, 1, 2] rfl)
      · rw [if_neg c6] at hf
        refine zr_iconst C zd_A_feed_98 ?_
        refine lv_goto (tgt := 103) C.1 C.2.1 zd_A_feed_99 (by decide) ?_
        exact zw_A_feed_103 C hr hlk hK hSt hap r1 hr1 (zf_A_feed_58 r1 n) (ih) (x3) (x3) (1) S4 nx3 nx3 (znb rfl) hf _ _ _ hW hS (lv_sub hl [0, 1, 2] rfl)

def zf_A_feed (r1 : Int) (S : Sg) : Option (Int × Sg) :=
    zbd (zf_P_needOfAll (r1) (S 0 r1 0 0) S) fun a1 S2 => if (S2 0 r1 32 0) < a1 then (zbd (zf_A_shareOut (r1) S2) fun a4 S5 => zf_A_feed_58 r1 4096 (0) S5) else (zlt (zu S2 0 r1 32 0 (zw ((S2 0 r1 32 0) - a1))) fun S6 => zbd (zf_Ja_fill 0 (r1) (15) 40 0 S6) fun a7 S8 => some (0, S8))
set_option maxHeartbeats 4000000 in
set_option maxRecDepth 100000 in
theorem zw_A_feed {p : Program} {l : Launch} {e : Env} {s : State} {m : MethodId} {args : Array Value} {below : List Frame} {meth : Method} {c : Code} {B : zB} (C : CallFix p m c zb_A_feed 4 s args zT "IslandOffice$Almanac") (hr : meth.sig.returnType = some .int) (hlk : meth.locks = false) (hK : zK B s) (hSt : zSt B s) (hap : zAp B) (r1 : Int) (hr1 : 0 ≤ r1 ∧ r1 < 3) {res : Int} {S9 : Sg} : ∀  (S : Sg) , zf_A_feed r1  S = some (res, S9) → ∀ (H : Heap) (locs : List Loc) (ls : Array Slot), zW B S H → va_S B.2.2.2 s.heap H locs → lv_has ls 4 [(0, .ref (B.2.1 3 (0) (15))), (1, .ref (B.2.1 0 (r1) (0)))] → W p l e zm_A_feed s m args below meth c H locs 0 0 (MQ below (zQi B res S9) args s 0 0 B.2.2.2) (F0 m 0 ls []) := by
  intro S hf H locs ls hW hS hl
  unfold zf_A_feed at hf
  refine lv_aload_n C.1 C.2.1 zd_A_feed_0 rfl (lv_at hl 1 rfl) ?_
  refine zg_I_people (r := r1) C hK hW (zvd_0 hr1 (by decide)) zk_281 zd_A_feed_1 ?_
  refine lv_aload_n C.1 C.2.1 zd_A_feed_4 rfl (lv_at hl 1 rfl) ?_
  refine zg_I_week (r := r1) C hK hW (zvd_0 hr1 (by decide)) zk_240 zd_A_feed_5 ?_
  obtain ⟨a1, S2, ea1, hf⟩ := zbd_some hf
  refine zcVi (As := [.int (zI (S 0 r1 0 0))]) (rest := []) C hK hSt hW hS (zc_P_needOfAll hap (r1) hr1 (S 0 r1 0 0) S (zWn hW _ _ _ _ rfl) ea1) zq_P_needOfAll zk_986 (zrecv hK hW (zvd_0 hr1 (by decide)) (ze_0_6 B _ (r1)) rfl) ⟨rfl, rfl, by decide, by decide⟩ ⟨Nat.zero_le _, Nat.zero_le _⟩ rfl hl.1 rfl (lv_room (Nat.le_of_ble_eq_true rfl)) zd_A_feed_8 (fun na1 H locs hW hS => ?_)
  refine lv_istore_n (lv' := [(2, .int (zI (a1))), (0, .ref (B.2.1 3 (0) (15))), (1, .ref (B.2.1 0 (r1) (0)))]) C.1 C.2.1 zd_A_feed_11 rfl hl (by decide) rfl (fun ls hl => ?_)
  refine lv_aload_n C.1 C.2.1 zd_A_feed_12 rfl (lv_at hl 2 rfl) ?_
  refine zg_I_stores (r := r1) C hK hW (zvd_0 hr1 (by decide)) zk_291 zd_A_feed_13 ?_
  refine zg_T_stock (r := r1) C hK hW (zvd_0 hr1 (by decide)) zk_198 zd_A_feed_16 ?_
  refine zr_iconst C zd_A_feed_19 ?_
  refine ziald C hK hW (zvd_0 hr1 (by decide)) (fun f => ze_0_32 B f (r1)) (by decide) (by decide) zd_A_feed_20 ?_
  refine lv_iload_n C.1 C.2.1 zd_A_feed_21 rfl (lv_at hl 0 rfl) ?_
  refine zr_icmp_lt (tgt := 51) C (zWn hW _ _ _ _ rfl) na1 zd_A_feed_22 (by decide) (fun c3 => ?_) (fun c3 => ?_)
  · rw [if_pos c3] at hf
    refine lv_aload_n C.1 C.2.1 zd_A_feed_51 rfl (lv_at hl 1 rfl) ?_
    refine lv_aload_n C.1 C.2.1 zd_A_feed_52 rfl (lv_at hl 2 rfl) ?_
    obtain ⟨a4, S5, ea4, hf⟩ := zbd_some hf
    refine zcVv (As := [.ref (B.2.1 0 (r1) (0))]) (rest := []) C hK hSt hW hS (zc_A_shareOut hap (r1) hr1 S2 ea4) zq_A_shareOut zk_991 (zrecv hK hW (zvd_3 (by decide) (by decide)) (ze_3_15 B _ (0)) rfl) ⟨rfl, rfl, by decide, by decide⟩ ⟨Nat.zero_le _, Nat.zero_le _⟩ rfl hl.1 rfl (lv_room (Nat.le_of_ble_eq_true rfl)) zd_A_feed_53 (fun H locs hW hS => ?_)
    refine zr_iconst C zd_A_feed_56 ?_
    refine lv_istore_n (lv' := [(3, .int (zI (0))), (2, .int (zI (a1))), (0, .ref (B.2.1 3 (0) (15))), (1, .ref (B.2.1 0 (r1) (0)))]) C.1 C.2.1 zd_A_feed_57 rfl hl (by decide) rfl (fun ls hl => ?_)
    exact zw_A_feed_58 C hr hlk hK hSt hap r1 hr1 4096 (0) S5 (znb rfl) hf _ _ _ hW hS (lv_sub hl [2, 3, 0] rfl)
  · rw [if_neg c3] at hf
    refine lv_aload_n C.1 C.2.1 zd_A_feed_25 rfl (lv_at hl 2 rfl) ?_
    refine zg_I_stores (r := r1) C hK hW (zvd_0 hr1 (by decide)) zk_291 zd_A_feed_26 ?_
    refine zg_T_stock (r := r1) C hK hW (zvd_0 hr1 (by decide)) zk_198 zd_A_feed_29 ?_
    refine zr_iconst C zd_A_feed_32 ?_
    refine lv_dup2_11 C.1 C.2.1 zd_A_feed_33 rfl rfl ?_
    refine ziald C hK hW (zvd_0 hr1 (by decide)) (fun f => ze_0_32 B f (r1)) (by decide) (by decide) zd_A_feed_34 ?_
    refine lv_iload_n C.1 C.2.1 zd_A_feed_35 rfl (lv_at hl 0 rfl) ?_
    refine zr_isub C zd_A_feed_36 ?_
    obtain ⟨S6, eS6, hf⟩ := zlt_some hf
    refine ziast C hK hap hW hS (zvd_0 hr1 (by decide)) (fun f => ze_0_32 B f (r1)) (by decide) rfl (zn_w _) (by decide) zd_A_feed_37 (fun H locs hW hS => ?_)
    rw [eS6] at hW
    refine lv_aload_n C.1 C.2.1 zd_A_feed_38 rfl (lv_at hl 2 rfl) ?_
    refine zg_I_people (r := r1) C hK hW (zvd_0 hr1 (by decide)) zk_281 zd_A_feed_39 ?_
    refine zg_P_hungry (r := r1) C hK hW (zvd_0 hr1 (by decide)) zk_85 zd_A_feed_42 ?_
    refine zr_iconst C zd_A_feed_45 ?_
    obtain ⟨a7, S8, ea7, hf⟩ := zbd_some hf
    refine zcSv (As := [.ref (B.2.1 0 (r1) (15)), .int (zI (0))]) (rest := []) C hK hSt hW hS (zc_Ja_fill hap 0 (r1) (15) 40 (zvd_0 hr1 (by decide)) (fun f => ze_0_15 B f (r1)) (by decide) rfl 0 S6 (znb rfl) ea7) zq_Ja_fill zk_954 ⟨rfl, rfl, by decide, by decide⟩ ⟨Nat.zero_le _, Nat.zero_le _⟩ rfl hl.1 rfl (lv_room (Nat.le_of_ble_eq_true rfl)) zd_A_feed_46 (fun H locs hW hS => ?_)
    refine zr_iconst C zd_A_feed_49 ?_
    cases hf
    exact zre_i C hr hlk hK hW hS (znb rfl) zd_A_feed_50

theorem zc_A_feed {l : Launch} {B : zB} (hap : zAp B) (r1 : Int) (hr1 : 0 ≤ r1 ∧ r1 < 3) (S : Sg) {res : Int} {S9 : Sg} (hf : zf_A_feed r1 S = some (res, S9)) : Met l zy_A_feed (Cond.code zy_A_feed zb_A_feed 4 (some .int) :: zT) zm_A_feed (zP B S [.ref (B.2.1 3 (0) (15)), .ref (B.2.1 0 (r1) (0))]) (zQi B res S9) 0 0 B.2.2.2 :=
  zmet (by decide) (Nat.le_of_ble_eq_true rfl) (fun p e s m args below meth c C hr hlk hK hSt hW ls hl => zw_A_feed C hr hlk hK hSt hap r1 hr1  S  hf _ _ _ hW va_S.rf hl)
/-! IslandOffice$Almanac.isFilled(LIslandOffice$Island;I)Z -/
abbrev zy_A_isFilled : MethodName := ⟨"IslandOffice$Almanac", "isFilled", "(LIslandOffice$Island;I)Z"⟩
abbrev zb_A_isFilled : ByteArray := prog_2_method_13_code
abbrev zm_A_isFilled : Room := { frames := 0, cells := 0, slots := 0, locals := 0 }
theorem zq_A_isFilled : zMy zy_A_isFilled zb_A_isFilled 4 (some .boolean) 2 := ⟨zk_1013, zk_1012, zs_35, zk_13, by decide, by decide, by decide +kernel⟩
theorem zd_A_isFilled_0 : decode zb_A_isFilled 0 = .ok (.iconst 0, 1) := by decide +kernel
theorem zd_A_isFilled_1 : decode zb_A_isFilled 1 = .ok (.istore_n 3, 1) := by decide +kernel
theorem zd_A_isFilled_2 : decode zb_A_isFilled 2 = .ok (.iload_n 3, 1) := by decide +kernel
theorem zd_A_isFilled_3 : decode zb_A_isFilled 3 = .ok (.aload_n 1, 1) := by decide +kernel
theorem zd_A_isFilled_4 : decode zb_A_isFilled 4 = .ok (.getfield 179, 3) := by decide +kernel
theorem zd_A_isFilled_7 : decode zb_A_isFilled 7 = .ok (.getfield 183, 3) := by decide +kernel
theorem zd_A_isFilled_10 : decode zb_A_isFilled 10 = .ok (.if_icmp .ge 38, 3) := by decide +kernel
theorem zd_A_isFilled_13 : decode zb_A_isFilled 13 = .ok (.aload_n 0, 1) := by decide +kernel
theorem zd_A_isFilled_14 : decode zb_A_isFilled 14 = .ok (.getfield 15, 3) := by decide +kernel
theorem zd_A_isFilled_17 : decode zb_A_isFilled 17 = .ok (.getfield 186, 3) := by decide +kernel
theorem zd_A_isFilled_20 : decode zb_A_isFilled 20 = .ok (.iload_n 3, 1) := by decide +kernel
theorem zd_A_isFilled_21 : decode zb_A_isFilled 21 = .ok (.laload, 1) := by decide +kernel
theorem zd_A_isFilled_22 : decode zb_A_isFilled 22 = .ok (.lconst 0, 1) := by decide +kernel
theorem zd_A_isFilled_23 : decode zb_A_isFilled 23 = .ok (.lcmp, 1) := by decide +kernel
theorem zd_A_isFilled_24 : decode zb_A_isFilled 24 = .ok (.ifCond .eq 18, 3) := by decide +kernel
theorem zd_A_isFilled_27 : decode zb_A_isFilled 27 = .ok (.aload_n 1, 1) := by decide +kernel
theorem zd_A_isFilled_28 : decode zb_A_isFilled 28 = .ok (.getfield 179, 3) := by decide +kernel
theorem zd_A_isFilled_31 : decode zb_A_isFilled 31 = .ok (.getfield 190, 3) := by decide +kernel
theorem zd_A_isFilled_34 : decode zb_A_isFilled 34 = .ok (.iload_n 3, 1) := by decide +kernel
theorem zd_A_isFilled_35 : decode zb_A_isFilled 35 = .ok (.iaload, 1) := by decide +kernel
theorem zd_A_isFilled_36 : decode zb_A_isFilled 36 = .ok (.iload_n 2, 1) := by decide +kernel
theorem zd_A_isFilled_37 : decode zb_A_isFilled 37 = .ok (.if_icmp .ne 5, 3) := by decide +kernel
theorem zd_A_isFilled_40 : decode zb_A_isFilled 40 = .ok (.iconst 1, 1) := by decide +kernel
theorem zd_A_isFilled_41 : decode zb_A_isFilled 41 = .ok (.ireturn, 1) := by decide +kernel
theorem zd_A_isFilled_42 : decode zb_A_isFilled 42 = .ok (.iinc 3 1, 3) := by decide +kernel
theorem zd_A_isFilled_45 : decode zb_A_isFilled 45 = .ok (.goto (-43), 3) := by decide +kernel
theorem zd_A_isFilled_48 : decode zb_A_isFilled 48 = .ok (.iconst 0, 1) := by decide +kernel
theorem zd_A_isFilled_49 : decode zb_A_isFilled 49 = .ok (.ireturn, 1) := by decide +kernel

def zf_A_isFilled_42 (r1 : Int) (q2 : Int → Int → Sg → Option (Int × Sg)) (x2 : Int) (x3 : Int) (S : Sg) : Option (Int × Sg) :=
    zlt (zw (x3 + 1)) fun v1 => q2 (x2) (v1) S
set_option maxHeartbeats 4000000 in
set_option maxRecDepth 100000 in
theorem zw_A_isFilled_42 {p : Program} {l : Launch} {e : Env} {s : State} {m : MethodId} {args : Array Value} {below : List Frame} {meth : Method} {c : Code} {B : zB} (C : CallFix p m c zb_A_isFilled 4 s args zT "IslandOffice$Almanac") (hr : meth.sig.returnType = some .boolean) (hlk : meth.locks = false) (hK : zK B s) (hSt : zSt B s) (hap : zAp B) (r1 : Int) (hr1 : 0 ≤ r1 ∧ r1 < 3) {res : Int} {S9 : Sg} (q2 : Int → Int → Sg → Option (Int × Sg)) (hq2 : ∀ (x2 : Int) (x3 : Int) (S : Sg) (nx2 : zn x2) (nx3 : zn x3), q2 x2 x3 S = some (res, S9) → ∀ (H : Heap) (locs : List Loc) (ls : Array Slot), zW B S H → va_S B.2.2.2 s.heap H locs → lv_has ls 4 [(0, .ref (B.2.1 3 (0) (15))), (1, .ref (B.2.1 0 (r1) (0))), (2, .int (zI (x2))), (3, .int (zI (x3)))] → W p l e zm_A_isFilled s m args below meth c H locs 0 0 (MQ below (zQi B res S9) args s 0 0 B.2.2.2) (F0 m 2 ls [])) : ∀ (x2 : Int) (x3 : Int) (S : Sg) (nx2 : zn x2) (nx3 : zn x3), zf_A_isFilled_42 r1 q2 x2 x3 S = some (res, S9) → ∀ (H : Heap) (locs : List Loc) (ls : Array Slot), zW B S H → va_S B.2.2.2 s.heap H locs → lv_has ls 4 [(0, .ref (B.2.1 3 (0) (15))), (1, .ref (B.2.1 0 (r1) (0))), (2, .int (zI (x2))), (3, .int (zI (x3)))] → W p l e zm_A_isFilled s m args below meth c H locs 0 0 (MQ below (zQi B res S9) args s 0 0 B.2.2.2) (F0 m 42 ls []) := by
  intro x2 x3 S nx2 nx3 hf H locs ls hW hS hl
  unfold zf_A_isFilled_42 at hf
  obtain ⟨v1, ev1, hf⟩ := zlt_some hf
  have nv1 : zn v1 := by rw [← ev1]; exact zn_w _
  refine lv_iinc (v := zI v1) (lv' := [(3, .int (zI (v1))), (0, .ref (B.2.1 3 (0) (15))), (1, .ref (B.2.1 0 (r1) (0))), (2, .int (zI (x2)))]) C.1 C.2.1 zd_A_isFilled_42 hl (k := 3) rfl (by rw [← ev1, ← zI_add]; rfl) (by decide) rfl (fun ls hl => ?_)
  refine lv_goto (tgt := 2) C.1 C.2.1 zd_A_isFilled_45 (by decide) ?_
  exact hq2 (x2) (v1) S nx2 nv1 hf _ _ _ hW hS (lv_sub hl [1, 2, 3, 0] rfl)

def zf_A_isFilled_2 (r1 : Int) : Nat → Int → Int → Sg → Option (Int × Sg)
  | 0, _, _, _ => none
  | n + 1, x2, x3, S =>
    if (S 0 r1 26 0) ≤ x3 then (some (0, S)) else (zck (0 ≤ x3 ∧ x3 < 8) <| if (zcmp (S 20 0 0 x3) 0) = 0 then (zf_A_isFilled_42 r1 (zf_A_isFilled_2 r1 n) (x2) (x3) S) else (if (S 0 r1 29 x3) = x2 then (some (1, S)) else (zf_A_isFilled_42 r1 (zf_A_isFilled_2 r1 n) (x2) (x3) S)))
set_option maxHeartbeats 4000000 in
set_option maxRecDepth 100000 in
theorem zw_A_isFilled_2 {p : Program} {l : Launch} {e : Env} {s : State} {m : MethodId} {args : Array Value} {below : List Frame} {meth : Method} {c : Code} {B : zB} (C : CallFix p m c zb_A_isFilled 4 s args zT "IslandOffice$Almanac") (hr : meth.sig.returnType = some .boolean) (hlk : meth.locks = false) (hK : zK B s) (hSt : zSt B s) (hap : zAp B) (r1 : Int) (hr1 : 0 ≤ r1 ∧ r1 < 3) {res : Int} {S9 : Sg} : ∀ n : Nat, ∀ (x2 : Int) (x3 : Int) (S : Sg) (nx2 : zn x2) (nx3 : zn x3), zf_A_isFilled_2 r1 n x2 x3 S = some (res, S9) → ∀ (H : Heap) (locs : List Loc) (ls : Array Slot), zW B S H → va_S B.2.2.2 s.heap H locs → lv_has ls 4 [(0, .ref (B.2.1 3 (0) (15))), (1, .ref (B.2.1 0 (r1) (0))), (2, .int (zI (x2))), (3, .int (zI (x3)))] → W p l e zm_A_isFilled s m args below meth c H locs 0 0 (MQ below (zQi B res S9) args s 0 0 B.2.2.2) (F0 m 2 ls []) := by
  intro n
  induction n with
  | zero =>
    intro x2 x3 S nx2 nx3 hf H locs ls hW hS hl
    cases hf
  | succ n ih =>
    intro x2 x3 S nx2 nx3 hf H locs ls hW hS hl
    rw [zf_A_isFilled_2] at hf
    refine lv_iload_n C.1 C.2.1 zd_A_isFilled_2 rfl (lv_at hl 3 rfl) ?_
    refine lv_aload_n C.1 C.2.1 zd_A_isFilled_3 rfl (lv_at hl 1 rfl) ?_
    refine zg_I_posts (r := r1) C hK hW (zvd_0 hr1 (by decide)) zk_288 zd_A_isFilled_4 ?_
    refine zg_Q_n (r := r1) C hK hW (zvd_0 hr1 (by decide)) zk_169 zd_A_isFilled_7 ?_
    refine zr_icmp_ge (tgt := 48) C nx3 (zWn hW _ _ _ _ rfl) zd_A_isFilled_10 (by decide) (fun c1 => ?_) (fun c1 => ?_)
    · rw [if_pos c1] at hf
      refine zr_iconst C zd_A_isFilled_48 ?_
      cases hf
      exact zre_z C hr hlk hK hW hS (znb rfl) (zb01 (by decide)) zd_A_isFilled_49
    · rw [if_neg c1] at hf
      refine lv_aload_n C.1 C.2.1 zd_A_isFilled_13 rfl (lv_at hl 0 rfl) ?_
      refine zg_A_crews (r := 0) C hK hW (zvd_3 (by decide) (by decide)) zk_467 zd_A_isFilled_14 ?_
      refine zg_C_crew (r := 0) C hK hW (zvd_3 (by decide) (by decide)) zk_430 zd_A_isFilled_17 ?_
      refine lv_iload_n C.1 C.2.1 zd_A_isFilled_20 rfl (lv_at hl 3 rfl) ?_
      obtain ⟨h2, hf⟩ := zck_some hf
      refine zlald C hK hW (zvd_20 (by decide) (by decide)) (fun f => ze_20_0 B f (0)) (by decide) h2 zd_A_isFilled_21 ?_
      refine zr_lconst (k := 0) C zd_A_isFilled_22 rfl ?_
      refine zr_lcmp C (zWm hW _ _ _ _ rfl) (zmb rfl) zd_A_isFilled_23 ?_
      refine zr_if_eq (tgt := 42) C (zn_cmp _ _) zd_A_isFilled_24 (by decide) (fun c3 => ?_) (fun c3 => ?_)
      · rw [if_pos c3] at hf
        exact zw_A_isFilled_42 C hr hlk hK hSt hap r1 hr1 (zf_A_isFilled_2 r1 n) (ih) (x2) (x3) S nx2 nx3 hf _ _ _ hW hS (lv_sub hl [0, 1, 2, 3] rfl)
      · rw [if_neg c3] at hf
        refine lv_aload_n C.1 C.2.1 zd_A_isFilled_27 rfl (lv_at hl 1 rfl) ?_
        refine zg_I_posts (r := r1) C hK hW (zvd_0 hr1 (by decide)) zk_288 zd_A_isFilled_28 ?_
        refine zg_Q_sort (r := r1) C hK hW (zvd_0 hr1 (by decide)) zk_176 zd_A_isFilled_31 ?_
        refine lv_iload_n C.1 C.2.1 zd_A_isFilled_34 rfl (lv_at hl 3 rfl) ?_
        refine ziald C hK hW (zvd_0 hr1 (by decide)) (fun f => ze_0_29 B f (r1)) (by decide) h2 zd_A_isFilled_35 ?_
        refine lv_iload_n C.1 C.2.1 zd_A_isFilled_36 rfl (lv_at hl 2 rfl) ?_
        refine zr_icmp_ne (tgt := 42) C (zWn hW _ _ _ _ rfl) nx2 zd_A_isFilled_37 (by decide) (fun c4 => ?_) (fun c4 => ?_)
        · rw [if_neg c4] at hf
          exact zw_A_isFilled_42 C hr hlk hK hSt hap r1 hr1 (zf_A_isFilled_2 r1 n) (ih) (x2) (x3) S nx2 nx3 hf _ _ _ hW hS (lv_sub hl [0, 1, 2, 3] rfl)
        · rw [if_pos c4] at hf
          refine zr_iconst C zd_A_isFilled_40 ?_
          cases hf
          exact zre_z C hr hlk hK hW hS (znb rfl) (zb01 (by decide)) zd_A_isFilled_41

def zf_A_isFilled (r1 : Int) (x2 : Int) (S : Sg) : Option (Int × Sg) :=
    zf_A_isFilled_2 r1 4096 (x2) (0) S
set_option maxHeartbeats 4000000 in
set_option maxRecDepth 100000 in
theorem zw_A_isFilled {p : Program} {l : Launch} {e : Env} {s : State} {m : MethodId} {args : Array Value} {below : List Frame} {meth : Method} {c : Code} {B : zB} (C : CallFix p m c zb_A_isFilled 4 s args zT "IslandOffice$Almanac") (hr : meth.sig.returnType = some .boolean) (hlk : meth.locks = false) (hK : zK B s) (hSt : zSt B s) (hap : zAp B) (r1 : Int) (hr1 : 0 ≤ r1 ∧ r1 < 3) {res : Int} {S9 : Sg} : ∀ (x2 : Int) (S : Sg) (nx2 : zn x2), zf_A_isFilled r1 x2 S = some (res, S9) → ∀ (H : Heap) (locs : List Loc) (ls : Array Slot), zW B S H → va_S B.2.2.2 s.heap H locs → lv_has ls 4 [(0, .ref (B.2.1 3 (0) (15))), (1, .ref (B.2.1 0 (r1) (0))), (2, .int (zI (x2)))] → W p l e zm_A_isFilled s m args below meth c H locs 0 0 (MQ below (zQi B res S9) args s 0 0 B.2.2.2) (F0 m 0 ls []) := by
  intro x2 S nx2 hf H locs ls hW hS hl
  unfold zf_A_isFilled at hf
  refine zr_iconst C zd_A_isFilled_0 ?_
  refine lv_istore_n (lv' := [(3, .int (zI (0))), (0, .ref (B.2.1 3 (0) (15))), (1, .ref (B.2.1 0 (r1) (0))), (2, .int (zI (x2)))]) C.1 C.2.1 zd_A_isFilled_1 rfl hl (by decide) rfl (fun ls hl => ?_)
  exact zw_A_isFilled_2 C hr hlk hK hSt hap r1 hr1 4096 (x2) (0) S nx2 (znb rfl) hf _ _ _ hW hS (lv_sub hl [1, 2, 3, 0] rfl)

theorem zc_A_isFilled {l : Launch} {B : zB} (hap : zAp B) (r1 : Int) (hr1 : 0 ≤ r1 ∧ r1 < 3) (x2 : Int) (S : Sg) (nx2 : zn x2) {res : Int} {S9 : Sg} (hf : zf_A_isFilled r1 x2 S = some (res, S9)) : Met l zy_A_isFilled (Cond.code zy_A_isFilled zb_A_isFilled 4 (some .boolean) :: zT) zm_A_isFilled (zP B S [.ref (B.2.1 3 (0) (15)), .ref (B.2.1 0 (r1) (0)), .int (zI (x2))]) (zQi B res S9) 0 0 B.2.2.2 :=
  zmet (by decide) (Nat.le_of_ble_eq_true rfl) (fun p e s m args below meth c C hr hlk hK hSt hW ls hl => zw_A_isFilled C hr hlk hK hSt hap r1 hr1 x2 S nx2 hf _ _ _ hW va_S.rf hl)
/-! IslandOffice$Almanac.noteCares(LIslandOffice$Island;)V -/
abbrev zy_A_noteCares : MethodName := ⟨"IslandOffice$Almanac", "noteCares", "(LIslandOffice$Island;)V"⟩
abbrev zb_A_noteCares : ByteArray := prog_2_method_14_code
abbrev zm_A_noteCares : Room := { frames := 1, cells := 0, slots := 0, locals := 23 }
theorem zq_A_noteCares : zMy zy_A_noteCares zb_A_noteCares 4 (none) 1 := ⟨zk_1017, zk_1016, zs_36, zk_13, by decide, by decide, by decide +kernel⟩
theorem zd_A_noteCares_0 : decode zb_A_noteCares 0 = .ok (.aload_n 0, 1) := by decide +kernel
theorem zd_A_noteCares_1 : decode zb_A_noteCares 1 = .ok (.getfield 29, 3) := by decide +kernel
theorem zd_A_noteCares_4 : decode zb_A_noteCares 4 = .ok (.iconst 0, 1) := by decide +kernel
theorem zd_A_noteCares_5 : decode zb_A_noteCares 5 = .ok (.invokestatic 153, 3) := by decide +kernel
theorem zd_A_noteCares_8 : decode zb_A_noteCares 8 = .ok (.aload_n 0, 1) := by decide +kernel
theorem zd_A_noteCares_9 : decode zb_A_noteCares 9 = .ok (.getfield 32, 3) := by decide +kernel
theorem zd_A_noteCares_12 : decode zb_A_noteCares 12 = .ok (.iconst 0, 1) := by decide +kernel
theorem zd_A_noteCares_13 : decode zb_A_noteCares 13 = .ok (.invokestatic 153, 3) := by decide +kernel
theorem zd_A_noteCares_16 : decode zb_A_noteCares 16 = .ok (.iconst 0, 1) := by decide +kernel
theorem zd_A_noteCares_17 : decode zb_A_noteCares 17 = .ok (.istore_n 2, 1) := by decide +kernel
theorem zd_A_noteCares_18 : decode zb_A_noteCares 18 = .ok (.iload_n 2, 1) := by decide +kernel
theorem zd_A_noteCares_19 : decode zb_A_noteCares 19 = .ok (.aload_n 1, 1) := by decide +kernel
theorem zd_A_noteCares_20 : decode zb_A_noteCares 20 = .ok (.getfield 116, 3) := by decide +kernel
theorem zd_A_noteCares_23 : decode zb_A_noteCares 23 = .ok (.getfield 120, 3) := by decide +kernel
theorem zd_A_noteCares_26 : decode zb_A_noteCares 26 = .ok (.if_icmp .ge 74, 3) := by decide +kernel
theorem zd_A_noteCares_29 : decode zb_A_noteCares 29 = .ok (.aload_n 1, 1) := by decide +kernel
theorem zd_A_noteCares_30 : decode zb_A_noteCares 30 = .ok (.getfield 116, 3) := by decide +kernel
theorem zd_A_noteCares_33 : decode zb_A_noteCares 33 = .ok (.iload_n 2, 1) := by decide +kernel
theorem zd_A_noteCares_34 : decode zb_A_noteCares 34 = .ok (.aload_n 1, 1) := by decide +kernel
theorem zd_A_noteCares_35 : decode zb_A_noteCares 35 = .ok (.getfield 45, 3) := by decide +kernel
theorem zd_A_noteCares_38 : decode zb_A_noteCares 38 = .ok (.invokevirtual 222, 3) := by decide +kernel
theorem zd_A_noteCares_41 : decode zb_A_noteCares 41 = .ok (.istore_n 3, 1) := by decide +kernel
theorem zd_A_noteCares_42 : decode zb_A_noteCares 42 = .ok (.iload_n 3, 1) := by decide +kernel
theorem zd_A_noteCares_43 : decode zb_A_noteCares 43 = .ok (.iconst 1, 1) := by decide +kernel
theorem zd_A_noteCares_44 : decode zb_A_noteCares 44 = .ok (.if_icmp .ne 30, 3) := by decide +kernel
theorem zd_A_noteCares_47 : decode zb_A_noteCares 47 = .ok (.aload_n 1, 1) := by decide +kernel
theorem zd_A_noteCares_48 : decode zb_A_noteCares 48 = .ok (.getfield 116, 3) := by decide +kernel
theorem zd_A_noteCares_51 : decode zb_A_noteCares 51 = .ok (.getfield 225, 3) := by decide +kernel
theorem zd_A_noteCares_54 : decode zb_A_noteCares 54 = .ok (.iload_n 2, 1) := by decide +kernel
theorem zd_A_noteCares_55 : decode zb_A_noteCares 55 = .ok (.iaload, 1) := by decide +kernel
theorem zd_A_noteCares_56 : decode zb_A_noteCares 56 = .ok (.ifCond .lt 18, 3) := by decide +kernel
theorem zd_A_noteCares_59 : decode zb_A_noteCares 59 = .ok (.aload_n 0, 1) := by decide +kernel
theorem zd_A_noteCares_60 : decode zb_A_noteCares 60 = .ok (.getfield 29, 3) := by decide +kernel
theorem zd_A_noteCares_63 : decode zb_A_noteCares 63 = .ok (.aload_n 1, 1) := by decide +kernel
theorem zd_A_noteCares_64 : decode zb_A_noteCares 64 = .ok (.getfield 116, 3) := by decide +kernel
theorem zd_A_noteCares_67 : decode zb_A_noteCares 67 = .ok (.getfield 225, 3) := by decide +kernel
theorem zd_A_noteCares_70 : decode zb_A_noteCares 70 = .ok (.iload_n 2, 1) := by decide +kernel
theorem zd_A_noteCares_71 : decode zb_A_noteCares 71 = .ok (.iaload, 1) := by decide +kernel
theorem zd_A_noteCares_72 : decode zb_A_noteCares 72 = .ok (.iconst 1, 1) := by decide +kernel
theorem zd_A_noteCares_73 : decode zb_A_noteCares 73 = .ok (.iastore, 1) := by decide +kernel
theorem zd_A_noteCares_74 : decode zb_A_noteCares 74 = .ok (.iload_n 3, 1) := by decide +kernel
theorem zd_A_noteCares_75 : decode zb_A_noteCares 75 = .ok (.iconst 4, 1) := by decide +kernel
theorem zd_A_noteCares_76 : decode zb_A_noteCares 76 = .ok (.if_icmp .ne 18, 3) := by decide +kernel
theorem zd_A_noteCares_79 : decode zb_A_noteCares 79 = .ok (.aload_n 0, 1) := by decide +kernel
theorem zd_A_noteCares_80 : decode zb_A_noteCares 80 = .ok (.getfield 32, 3) := by decide +kernel
theorem zd_A_noteCares_83 : decode zb_A_noteCares 83 = .ok (.aload_n 1, 1) := by decide +kernel
theorem zd_A_noteCares_84 : decode zb_A_noteCares 84 = .ok (.getfield 116, 3) := by decide +kernel
theorem zd_A_noteCares_87 : decode zb_A_noteCares 87 = .ok (.getfield 158, 3) := by decide +kernel
theorem zd_A_noteCares_90 : decode zb_A_noteCares 90 = .ok (.iload_n 2, 1) := by decide +kernel
theorem zd_A_noteCares_91 : decode zb_A_noteCares 91 = .ok (.iaload, 1) := by decide +kernel
theorem zd_A_noteCares_92 : decode zb_A_noteCares 92 = .ok (.iconst 1, 1) := by decide +kernel
theorem zd_A_noteCares_93 : decode zb_A_noteCares 93 = .ok (.iastore, 1) := by decide +kernel
theorem zd_A_noteCares_94 : decode zb_A_noteCares 94 = .ok (.iinc 2 1, 3) := by decide +kernel
theorem zd_A_noteCares_97 : decode zb_A_noteCares 97 = .ok (.goto (-79), 3) := by decide +kernel
theorem zd_A_noteCares_100 : decode zb_A_noteCares 100 = .ok (.return_, 1) := by decide +kernel

def zf_A_noteCares_94 (r1 : Int) (q18 : Int → Sg → Option (Int × Sg)) (x2 : Int) (S : Sg) : Option (Int × Sg) :=
    zlt (zw (x2 + 1)) fun v1 => q18 (v1) S
set_option maxHeartbeats 4000000 in
set_option maxRecDepth 100000 in
theorem zw_A_noteCares_94 {p : Program} {l : Launch} {e : Env} {s : State} {m : MethodId} {args : Array Value} {below : List Frame} {meth : Method} {c : Code} {B : zB} (C : CallFix p m c zb_A_noteCares 4 s args zT "IslandOffice$Almanac") (hr : meth.sig.returnType = none) (hlk : meth.locks = false) (hK : zK B s) (hSt : zSt B s) (hap : zAp B) (r1 : Int) (hr1 : 0 ≤ r1 ∧ r1 < 3) {res : Int} {S9 : Sg} (q18 : Int → Sg → Option (Int × Sg)) (hq18 : ∀ (x2 : Int) (S : Sg) (nx2 : zn x2), q18 x2 S = some (res, S9) → ∀ (H : Heap) (locs : List Loc) (ls : Array Slot), zW B S H → va_S B.2.2.2 s.heap H locs → lv_has ls 4 [(0, .ref (B.2.1 3 (0) (15))), (1, .ref (B.2.1 0 (r1) (0))), (2, .int (zI (x2)))] → W p l e zm_A_noteCares s m args below meth c H locs 0 0 (MQ below (zQv B S9) args s 0 0 B.2.2.2) (F0 m 18 ls [])) : ∀ (x2 : Int) (S : Sg) (nx2 : zn x2), zf_A_noteCares_94 r1 q18 x2 S = some (res, S9) → ∀ (H : Heap) (locs : List Loc) (ls : Array Slot), zW B S H → va_S B.2.2.2 s.heap H locs → lv_has ls 4 [(0, .ref (B.2.1 3 (0) (15))), (1, .ref (B.2.1 0 (r1) (0))), (2, .int (zI (x2)))] → W p l e zm_A_noteCares s m args below meth c H locs 0 0 (MQ below (zQv B S9) args s 0 0 B.2.2.2) (F0 m 94 ls []) := by
  intro x2 S nx2 hf H locs ls hW hS hl
  unfold zf_A_noteCares_94 at hf
  obtain ⟨v1, ev1, hf⟩ := zlt_some hf
  have nv1 : zn v1 := by rw [← ev1]; exact zn_w _
  refine lv_iinc (v := zI v1) (lv' := [(2, .int (zI (v1))), (0, .ref (B.2.1 3 (0) (15))), (1, .ref (B.2.1 0 (r1) (0)))]) C.1 C.2.1 zd_A_noteCares_94 hl (k := 2) rfl (by rw [← ev1, ← zI_add]; rfl) (by decide) rfl (fun ls hl => ?_)
  refine lv_goto (tgt := 18) C.1 C.2.1 zd_A_noteCares_97 (by decide) ?_
  exact hq18 (v1) S nv1 hf _ _ _ hW hS (lv_sub hl [1, 2, 0] rfl)

def zf_A_noteCares_74 (r1 : Int) (q18 : Int → Sg → Option (Int × Sg)) (x2 : Int) (x3 : Int) (S : Sg) : Option (Int × Sg) :=
    if x3 = 4 then (zck (0 ≤ x2 ∧ x2 < 40) <| zck (0 ≤ (S 0 r1 8 x2) ∧ (S 0 r1 8 x2) < 12) <| zlt (zu S 3 0 20 (S 0 r1 8 x2) 1) fun S4 => zf_A_noteCares_94 r1 q18 (x2) S4) else (zf_A_noteCares_94 r1 q18 (x2) S)
set_option maxHeartbeats 4000000 in
set_option maxRecDepth 100000 in
theorem zw_A_noteCares_74 {p : Program} {l : Launch} {e : Env} {s : State} {m : MethodId} {args : Array Value} {below : List Frame} {meth : Method} {c : Code} {B : zB} (C : CallFix p m c zb_A_noteCares 4 s args zT "IslandOffice$Almanac") (hr : meth.sig.returnType = none) (hlk : meth.locks = false) (hK : zK B s) (hSt : zSt B s) (hap : zAp B) (r1 : Int) (hr1 : 0 ≤ r1 ∧ r1 < 3) {res : Int} {S9 : Sg} (q18 : Int → Sg → Option (Int × Sg)) (hq18 : ∀ (x2 : Int) (S : Sg) (nx2 : zn x2), q18 x2 S = some (res, S9) → ∀ (H : Heap) (locs : List Loc) (ls : Array Slot), zW B S H → va_S B.2.2.2 s.heap H locs → lv_has ls 4 [(0, .ref (B.2.1 3 (0) (15))), (1, .ref (B.2.1 0 (r1) (0))), (2, .int (zI (x2)))] → W p l e zm_A_noteCares s m args below meth c H locs 0 0 (MQ below (zQv B S9) args s 0 0 B.2.2.2) (F0 m 18 ls [])) : ∀ (x2 : Int) (x3 : Int) (S : Sg) (nx2 : zn x2) (nx3 : zn x3), zf_A_noteCares_74 r1 q18 x2 x3 S = some (res, S9) → ∀ (H : Heap) (locs : List Loc) (ls : Array Slot), zW B S H → va_S B.2.2.2 s.heap H locs → lv_has ls 4 [(0, .ref (B.2.1 3 (0) (15))), (1, .ref (B.2.1 0 (r1) (0))), (2, .int (zI (x2))), (3, .int (zI (x3)))] → W p l e zm_A_noteCares s m args below meth c H locs 0 0 (MQ below (zQv B S9) args s 0 0 B.2.2.2) (F0 m 74 ls []) := by
  intro x2 x3 S nx2 nx3 hf H locs ls hW hS hl
  unfold zf_A_noteCares_74 at hf
  refine lv_iload_n C.1 C.2.1 zd_A_noteCares_74 rfl (lv_at hl 3 rfl) ?_
  refine zr_iconst C zd_A_noteCares_75 ?_
  refine zr_icmp_ne (tgt := 94) C nx3 (znb rfl) zd_A_noteCares_76 (by decide) (fun c1 => ?_) (fun c1 => ?_)
  · rw [if_neg c1] at hf
    exact zw_A_noteCares_94 C hr hlk hK hSt hap r1 hr1 q18 hq18 (x2) S nx2 hf _ _ _ hW hS (lv_sub hl [0, 1, 2] rfl)
  · rw [if_pos c1] at hf
    refine lv_aload_n C.1 C.2.1 zd_A_noteCares_79 rfl (lv_at hl 0 rfl) ?_
    refine zg_A_tends (r := 0) C hK hW (zvd_3 (by decide) (by decide)) zk_472 zd_A_noteCares_80 ?_
    refine lv_aload_n C.1 C.2.1 zd_A_noteCares_83 rfl (lv_at hl 1 rfl) ?_
    refine zg_I_people (r := r1) C hK hW (zvd_0 hr1 (by decide)) zk_281 zd_A_noteCares_84 ?_
    refine zg_P_house (r := r1) C hK hW (zvd_0 hr1 (by decide)) zk_62 zd_A_noteCares_87 ?_
    refine lv_iload_n C.1 C.2.1 zd_A_noteCares_90 rfl (lv_at hl 2 rfl) ?_
    obtain ⟨h2, hf⟩ := zck_some hf
    refine ziald C hK hW (zvd_0 hr1 (by decide)) (fun f => ze_0_8 B f (r1)) (by decide) h2 zd_A_noteCares_91 ?_
    refine zr_iconst C zd_A_noteCares_92 ?_
    obtain ⟨h3, hf⟩ := zck_some hf
    obtain ⟨S4, eS4, hf⟩ := zlt_some hf
    refine ziast C hK hap hW hS (zvd_3 (by decide) (by decide)) (fun f => ze_3_20 B f (0)) (by decide) rfl (znb rfl) h3 zd_A_noteCares_93 (fun H locs hW hS => ?_)
    rw [eS4] at hW
    exact zw_A_noteCares_94 C hr hlk hK hSt hap r1 hr1 q18 hq18 (x2) S4 nx2 hf _ _ _ hW hS (lv_sub hl [0, 1, 2] rfl)

def zf_A_noteCares_18 (r1 : Int) : Nat → Int → Sg → Option (Int × Sg)
  | 0, _, _ => none
  | n + 1, x2, S =>
    if (S 0 r1 6 0) ≤ x2 then (some (0, S)) else (zbd (zf_P_kind (r1) x2 (S 0 r1 0 0) S) fun a2 S3 => if a2 = 1 then (zck (0 ≤ x2 ∧ x2 < 40) <| if (S3 0 r1 9 x2) < 0 then (zf_A_noteCares_74 r1 (zf_A_noteCares_18 r1 n) (x2) (a2) S3) else (zck (0 ≤ (S3 0 r1 9 x2) ∧ (S3 0 r1 9 x2) < 40) <| zlt (zu S3 3 0 19 (S3 0 r1 9 x2) 1) fun S8 => zf_A_noteCares_74 r1 (zf_A_noteCares_18 r1 n) (x2) (a2) S8)) else (zf_A_noteCares_74 r1 (zf_A_noteCares_18 r1 n) (x2) (a2) S3))
set_option maxHeartbeats 4000000 in
set_option maxRecDepth 100000 in
theorem zw_A_noteCares_18 {p : Program} {l : Launch} {e : Env} {s : State} {m : MethodId} {args : Array Value} {below : List Frame} {meth : Method} {c : Code} {B : zB} (C : CallFix p m c zb_A_noteCares 4 s args zT "IslandOffice$Almanac") (hr : meth.sig.returnType = none) (hlk : meth.locks = false) (hK : zK B s) (hSt : zSt B s) (hap : zAp B) (r1 : Int) (hr1 : 0 ≤ r1 ∧ r1 < 3) {res : Int} {S9 : Sg} : ∀ n : Nat, ∀ (x2 : Int) (S : Sg) (nx2 : zn x2), zf_A_noteCares_18 r1 n x2 S = some (res, S9) → ∀ (H : Heap) (locs : List Loc) (ls : Array Slot), zW B S H → va_S B.2.2.2 s.heap H locs → lv_has ls 4 [(0, .ref (B.2.1 3 (0) (15))), (1, .ref (B.2.1 0 (r1) (0))), (2, .int (zI (x2)))] → W p l e zm_A_noteCares s m args below meth c H locs 0 0 (MQ below (zQv B S9) args s 0 0 B.2.2.2) (F0 m 18 ls []) := by
  intro n
  induction n with
  | zero =>
    intro x2 S nx2 hf H locs ls hW hS hl
    cases hf
  | succ n ih =>
    intro x2 S nx2 hf H locs ls hW hS hl
    rw [zf_A_noteCares_18] at hf
    refine lv_iload_n C.1 C.2.1 zd_A_noteCares_18 rfl (lv_at hl 2 rfl) ?_
    refine lv_aload_n C.1 C.2.1 zd_A_noteCares_19 rfl (lv_at hl 1 rfl) ?_
    refine zg_I_people (r := r1) C hK hW (zvd_0 hr1 (by decide)) zk_281 zd_A_noteCares_20 ?_
    refine zg_P_n (r := r1) C hK hW (zvd_0 hr1 (by decide)) zk_54 zd_A_noteCares_23 ?_
    refine zr_icmp_ge (tgt := 100) C nx2 (zWn hW _ _ _ _ rfl) zd_A_noteCares_26 (by decide) (fun c1 => ?_) (fun c1 => ?_)
    · rw [if_pos c1] at hf
      cases hf
      exact zre_v C hr hlk hK hW hS zd_A_noteCares_100
    · rw [if_neg c1] at hf
      refine lv_aload_n C.1 C.2.1 zd_A_noteCares_29 rfl (lv_at hl 1 rfl) ?_
      refine zg_I_people (r := r1) C hK hW (zvd_0 hr1 (by decide)) zk_281 zd_A_noteCares_30 ?_
      refine lv_iload_n C.1 C.2.1 zd_A_noteCares_33 rfl (lv_at hl 2 rfl) ?_
      refine lv_aload_n C.1 C.2.1 zd_A_noteCares_34 rfl (lv_at hl 1 rfl) ?_
      refine zg_I_week (r := r1) C hK hW (zvd_0 hr1 (by decide)) zk_240 zd_A_noteCares_35 ?_
      obtain ⟨a2, S3, ea2, hf⟩ := zbd_some hf
      refine zcVi (As := [.int (zI (x2)), .int (zI (S 0 r1 0 0))]) (rest := []) C hK hSt hW hS (zc_P_kind hap (r1) hr1 x2 (S 0 r1 0 0) S nx2 (zWn hW _ _ _ _ rfl) ea2) zq_P_kind zk_1018 (zrecv hK hW (zvd_0 hr1 (by decide)) (ze_0_6 B _ (r1)) rfl) ⟨rfl, rfl, by decide, by decide⟩ ⟨Nat.zero_le _, Nat.zero_le _⟩ rfl hl.1 rfl (lv_room (Nat.le_of_ble_eq_true rfl)) zd_A_noteCares_38 (fun na2 H locs hW hS => ?_)
      refine lv_istore_n (lv' := [(3, .int (zI (a2))), (0, .ref (B.2.1 3 (0) (15))), (1, .ref (B.2.1 0 (r1) (0))), (2, .int (zI (x2)))]) C.1 C.2.1 zd_A_noteCares_41 rfl hl (by decide) rfl (fun ls hl => ?_)
      refine lv_iload_n C.1 C.2.1 zd_A_noteCares_42 rfl (lv_at hl 0 rfl) ?_
      refine zr_iconst C zd_A_noteCares_43 ?_
      refine zr_icmp_ne (tgt := 74) C na2 (znb rfl) zd_A_noteCares_44 (by decide) (fun c4 => ?_) (fun c4 => ?_)
      · rw [if_neg c4] at hf
        exact zw_A_noteCares_74 C hr hlk hK hSt hap r1 hr1 (zf_A_noteCares_18 r1 n) (ih) (x2) (a2) S3 nx2 na2 hf _ _ _ hW hS (lv_sub hl [1, 2, 3, 0] rfl)
      · rw [if_pos c4] at hf
        refine lv_aload_n C.1 C.2.1 zd_A_noteCares_47 rfl (lv_at hl 2 rfl) ?_
        refine zg_I_people (r := r1) C hK hW (zvd_0 hr1 (by decide)) zk_281 zd_A_noteCares_48 ?_
        refine zg_P_mother (r := r1) C hK hW (zvd_0 hr1 (by decide)) zk_65 zd_A_noteCares_51 ?_
        refine lv_iload_n C.1 C.2.1 zd_A_noteCares_54 rfl (lv_at hl 3 rfl) ?_
        obtain ⟨h5, hf⟩ := zck_some hf
        refine ziald C hK hW (zvd_0 hr1 (by decide)) (fun f => ze_0_9 B f (r1)) (by decide) h5 zd_A_noteCares_55 ?_
        refine zr_if_lt (tgt := 74) C (zWn hW _ _ _ _ rfl) zd_A_noteCares_56 (by decide) (fun c6 => ?_) (fun c6 => ?_)
        · rw [if_pos c6] at hf
          exact zw_A_noteCares_74 C hr hlk hK hSt hap r1 hr1 (zf_A_noteCares_18 r1 n) (ih) (x2) (a2) S3 nx2 na2 hf _ _ _ hW hS (lv_sub hl [1, 2, 3, 0] rfl)
        · rw [if_neg c6] at hf
          refine lv_aload_n C.1 C.2.1 zd_A_noteCares_59 rfl (lv_at hl 1 rfl) ?_
          refine zg_A_rears (r := 0) C hK hW (zvd_3 (by decide) (by decide)) zk_471 zd_A_noteCares_60 ?_
          refine lv_aload_n C.1 C.2.1 zd_A_noteCares_63 rfl (lv_at hl 2 rfl) ?_
          refine zg_I_people (r := r1) C hK hW (zvd_0 hr1 (by decide)) zk_281 zd_A_noteCares_64 ?_
          refine zg_P_mother (r := r1) C hK hW (zvd_0 hr1 (by decide)) zk_65 zd_A_noteCares_67 ?_
          refine lv_iload_n C.1 C.2.1 zd_A_noteCares_70 rfl (lv_at hl 3 rfl) ?_
          refine ziald C hK hW (zvd_0 hr1 (by decide)) (fun f => ze_0_9 B f (r1)) (by decide) h5 zd_A_noteCares_71 ?_
          refine zr_iconst C zd_A_noteCares_72 ?_
          obtain ⟨h7, hf⟩ := zck_some hf
          obtain ⟨S8, eS8, hf⟩ := zlt_some hf
          refine ziast C hK hap hW hS (zvd_3 (by decide) (by decide)) (fun f => ze_3_19 B f (0)) (by decide) rfl (znb rfl) h7 zd_A_noteCares_73 (fun H locs hW hS => ?_)
          rw [eS8] at hW
          exact zw_A_noteCares_74 C hr hlk hK hSt hap r1 hr1 (zf_A_noteCares_18 r1 n) (ih) (x2) (a2) S8 nx2 na2 hf _ _ _ hW hS (lv_sub hl [1, 2, 3, 0] rfl)

def zf_A_noteCares (r1 : Int) (S : Sg) : Option (Int × Sg) :=
    zbd (zf_Ja_fill 3 (0) (19) 40 0 S) fun a1 S2 => zbd (zf_Ja_fill 3 (0) (20) 12 0 S2) fun a3 S4 => zf_A_noteCares_18 r1 4096 (0) S4
set_option maxHeartbeats 4000000 in
set_option maxRecDepth 100000 in
theorem zw_A_noteCares {p : Program} {l : Launch} {e : Env} {s : State} {m : MethodId} {args : Array Value} {below : List Frame} {meth : Method} {c : Code} {B : zB} (C : CallFix p m c zb_A_noteCares 4 s args zT "IslandOffice$Almanac") (hr : meth.sig.returnType = none) (hlk : meth.locks = false) (hK : zK B s) (hSt : zSt B s) (hap : zAp B) (r1 : Int) (hr1 : 0 ≤ r1 ∧ r1 < 3) {res : Int} {S9 : Sg} : ∀  (S : Sg) , zf_A_noteCares r1  S = some (res, S9) → ∀ (H : Heap) (locs : List Loc) (ls : Array Slot), zW B S H → va_S B.2.2.2 s.heap H locs → lv_has ls 4 [(0, .ref (B.2.1 3 (0) (15))), (1, .ref (B.2.1 0 (r1) (0)))] → W p l e zm_A_noteCares s m args below meth c H locs 0 0 (MQ below (zQv B S9) args s 0 0 B.2.2.2) (F0 m 0 ls []) := by
  intro S hf H locs ls hW hS hl
  unfold zf_A_noteCares at hf
  refine lv_aload_n C.1 C.2.1 zd_A_noteCares_0 rfl (lv_at hl 0 rfl) ?_
  refine zg_A_rears (r := 0) C hK hW (zvd_3 (by decide) (by decide)) zk_471 zd_A_noteCares_1 ?_
  refine zr_iconst C zd_A_noteCares_4 ?_
  obtain ⟨a1, S2, ea1, hf⟩ := zbd_some hf
  refine zcSv (As := [.ref (B.2.1 3 (0) (19)), .int (zI (0))]) (rest := []) C hK hSt hW hS (zc_Ja_fill hap 3 (0) (19) 40 (zvd_3 (by decide) (by decide)) (fun f => ze_3_19 B f (0)) (by decide) rfl 0 S (znb rfl) ea1) zq_Ja_fill zk_954 ⟨rfl, rfl, by decide, by decide⟩ ⟨Nat.zero_le _, Nat.zero_le _⟩ rfl hl.1 rfl (lv_room (Nat.le_of_ble_eq_true rfl)) zd_A_noteCares_5 (fun H locs hW hS => ?_)
  refine lv_aload_n C.1 C.2.1 zd_A_noteCares_8 rfl (lv_at hl 0 rfl) ?_
  refine zg_A_tends (r := 0) C hK hW (zvd_3 (by decide) (by decide)) zk_472 zd_A_noteCares_9 ?_
  refine zr_iconst C zd_A_noteCares_12 ?_
  obtain ⟨a3, S4, ea3, hf⟩ := zbd_some hf
  refine zcSv (As := [.ref (B.2.1 3 (0) (20)), .int (zI (0))]) (rest := []) C hK hSt hW hS (zc_Ja_fill hap 3 (0) (20) 12 (zvd_3 (by decide) (by decide)) (fun f => ze_3_20 B f (0)) (by decide) rfl 0 S2 (znb rfl) ea3) zq_Ja_fill zk_954 ⟨rfl, rfl, by decide, by decide⟩ ⟨Nat.zero_le _, Nat.zero_le _⟩ rfl hl.1 rfl (lv_room (Nat.le_of_ble_eq_true rfl)) zd_A_noteCares_13 (fun H locs hW hS => ?_)
  refine zr_iconst C zd_A_noteCares_16 ?_
  refine lv_istore_n (lv' := [(2, .int (zI (0))), (0, .ref (B.2.1 3 (0) (15))), (1, .ref (B.2.1 0 (r1) (0)))]) C.1 C.2.1 zd_A_noteCares_17 rfl hl (by decide) rfl (fun ls hl => ?_)
  exact zw_A_noteCares_18 C hr hlk hK hSt hap r1 hr1 4096 (0) S4 (znb rfl) hf _ _ _ hW hS (lv_sub hl [1, 2, 0] rfl)

theorem zc_A_noteCares {l : Launch} {B : zB} (hap : zAp B) (r1 : Int) (hr1 : 0 ≤ r1 ∧ r1 < 3) (S : Sg) {res : Int} {S9 : Sg} (hf : zf_A_noteCares r1 S = some (res, S9)) : Met l zy_A_noteCares (Cond.code zy_A_noteCares zb_A_noteCares 4 (none) :: zT) zm_A_noteCares (zP B S [.ref (B.2.1 3 (0) (15)), .ref (B.2.1 0 (r1) (0))]) (zQv B S9) 0 0 B.2.2.2 :=
  zmet (by decide) (Nat.le_of_ble_eq_true rfl) (fun p e s m args below meth c C hr hlk hK hSt hW ls hl => zw_A_noteCares C hr hlk hK hSt hap r1 hr1  S  hf _ _ _ hW va_S.rf hl)
/-! IslandOffice$Almanac.fret(LIslandOffice$Island;Z)V -/
abbrev zy_A_fret : MethodName := ⟨"IslandOffice$Almanac", "fret", "(LIslandOffice$Island;Z)V"⟩
abbrev zb_A_fret : ByteArray := prog_2_method_15_code
abbrev zm_A_fret : Room := { frames := 2, cells := 0, slots := 0, locals := 64 }
theorem zq_A_fret : zMy zy_A_fret zb_A_fret 9 (none) 2 := ⟨zk_1009, zk_1008, zs_34, zk_13, by decide, by decide, by decide +kernel⟩
theorem zd_A_fret_0 : decode zb_A_fret 0 = .ok (.aload_n 1, 1) := by decide +kernel
theorem zd_A_fret_1 : decode zb_A_fret 1 = .ok (.getfield 116, 3) := by decide +kernel
theorem zd_A_fret_4 : decode zb_A_fret 4 = .ok (.astore_n 3, 1) := by decide +kernel
theorem zd_A_fret_5 : decode zb_A_fret 5 = .ok (.aload_n 0, 1) := by decide +kernel
theorem zd_A_fret_6 : decode zb_A_fret 6 = .ok (.aload_n 1, 1) := by decide +kernel
theorem zd_A_fret_7 : decode zb_A_fret 7 = .ok (.iconst 1, 1) := by decide +kernel
theorem zd_A_fret_8 : decode zb_A_fret 8 = .ok (.invokevirtual 228, 3) := by decide +kernel
theorem zd_A_fret_11 : decode zb_A_fret 11 = .ok (.istore 4, 2) := by decide +kernel
theorem zd_A_fret_13 : decode zb_A_fret 13 = .ok (.aload_n 0, 1) := by decide +kernel
theorem zd_A_fret_14 : decode zb_A_fret 14 = .ok (.aload_n 1, 1) := by decide +kernel
theorem zd_A_fret_15 : decode zb_A_fret 15 = .ok (.iconst 2, 1) := by decide +kernel
theorem zd_A_fret_16 : decode zb_A_fret 16 = .ok (.invokevirtual 228, 3) := by decide +kernel
theorem zd_A_fret_19 : decode zb_A_fret 19 = .ok (.istore 5, 2) := by decide +kernel
theorem zd_A_fret_21 : decode zb_A_fret 21 = .ok (.aload_n 0, 1) := by decide +kernel
theorem zd_A_fret_22 : decode zb_A_fret 22 = .ok (.aload_n 1, 1) := by decide +kernel
theorem zd_A_fret_23 : decode zb_A_fret 23 = .ok (.invokevirtual 232, 3) := by decide +kernel
theorem zd_A_fret_26 : decode zb_A_fret 26 = .ok (.iconst 0, 1) := by decide +kernel
theorem zd_A_fret_27 : decode zb_A_fret 27 = .ok (.istore 6, 2) := by decide +kernel
theorem zd_A_fret_29 : decode zb_A_fret 29 = .ok (.iload 6, 2) := by decide +kernel
theorem zd_A_fret_31 : decode zb_A_fret 31 = .ok (.aload_n 3, 1) := by decide +kernel
theorem zd_A_fret_32 : decode zb_A_fret 32 = .ok (.getfield 120, 3) := by decide +kernel
theorem zd_A_fret_35 : decode zb_A_fret 35 = .ok (.if_icmp .ge 176, 3) := by decide +kernel
theorem zd_A_fret_38 : decode zb_A_fret 38 = .ok (.aload_n 3, 1) := by decide +kernel
theorem zd_A_fret_39 : decode zb_A_fret 39 = .ok (.getfield 125, 3) := by decide +kernel
theorem zd_A_fret_42 : decode zb_A_fret 42 = .ok (.iload 6, 2) := by decide +kernel
theorem zd_A_fret_44 : decode zb_A_fret 44 = .ok (.iaload, 1) := by decide +kernel
theorem zd_A_fret_45 : decode zb_A_fret 45 = .ok (.ifCond .eq 6, 3) := by decide +kernel
theorem zd_A_fret_48 : decode zb_A_fret 48 = .ok (.goto 157, 3) := by decide +kernel
theorem zd_A_fret_51 : decode zb_A_fret 51 = .ok (.aload_n 3, 1) := by decide +kernel
theorem zd_A_fret_52 : decode zb_A_fret 52 = .ok (.getfield 200, 3) := by decide +kernel
theorem zd_A_fret_55 : decode zb_A_fret 55 = .ok (.iload 6, 2) := by decide +kernel
theorem zd_A_fret_57 : decode zb_A_fret 57 = .ok (.iaload, 1) := by decide +kernel
theorem zd_A_fret_58 : decode zb_A_fret 58 = .ok (.iconst 1, 1) := by decide +kernel
theorem zd_A_fret_59 : decode zb_A_fret 59 = .ok (.if_icmp .ne 7, 3) := by decide +kernel
theorem zd_A_fret_62 : decode zb_A_fret 62 = .ok (.iconst 2, 1) := by decide +kernel
theorem zd_A_fret_63 : decode zb_A_fret 63 = .ok (.goto 4, 3) := by decide +kernel
theorem zd_A_fret_66 : decode zb_A_fret 66 = .ok (.iconst 0, 1) := by decide +kernel
theorem zd_A_fret_67 : decode zb_A_fret 67 = .ok (.istore 7, 2) := by decide +kernel
theorem zd_A_fret_69 : decode zb_A_fret 69 = .ok (.iload 7, 2) := by decide +kernel
theorem zd_A_fret_71 : decode zb_A_fret 71 = .ok (.aload_n 1, 1) := by decide +kernel
theorem zd_A_fret_72 : decode zb_A_fret 72 = .ok (.getfield 164, 3) := by decide +kernel
theorem zd_A_fret_75 : decode zb_A_fret 75 = .ok (.aload_n 3, 1) := by decide +kernel
theorem zd_A_fret_76 : decode zb_A_fret 76 = .ok (.getfield 158, 3) := by decide +kernel
theorem zd_A_fret_79 : decode zb_A_fret 79 = .ok (.iload 6, 2) := by decide +kernel
theorem zd_A_fret_81 : decode zb_A_fret 81 = .ok (.iaload, 1) := by decide +kernel
theorem zd_A_fret_82 : decode zb_A_fret 82 = .ok (.iaload, 1) := by decide +kernel
theorem zd_A_fret_83 : decode zb_A_fret 83 = .ok (.iconst 1, 1) := by decide +kernel
theorem zd_A_fret_84 : decode zb_A_fret 84 = .ok (.if_icmp .ne 7, 3) := by decide +kernel
theorem zd_A_fret_87 : decode zb_A_fret 87 = .ok (.iconst 1, 1) := by decide +kernel
theorem zd_A_fret_88 : decode zb_A_fret 88 = .ok (.goto 4, 3) := by decide +kernel
theorem zd_A_fret_91 : decode zb_A_fret 91 = .ok (.iconst 0, 1) := by decide +kernel
theorem zd_A_fret_92 : decode zb_A_fret 92 = .ok (.iadd, 1) := by decide +kernel
theorem zd_A_fret_93 : decode zb_A_fret 93 = .ok (.istore 7, 2) := by decide +kernel
theorem zd_A_fret_95 : decode zb_A_fret 95 = .ok (.iload 7, 2) := by decide +kernel
theorem zd_A_fret_97 : decode zb_A_fret 97 = .ok (.iload 4, 2) := by decide +kernel
theorem zd_A_fret_99 : decode zb_A_fret 99 = .ok (.ifCond .ne 18, 3) := by decide +kernel
theorem zd_A_fret_102 : decode zb_A_fret 102 = .ok (.aload_n 0, 1) := by decide +kernel
theorem zd_A_fret_103 : decode zb_A_fret 103 = .ok (.getfield 29, 3) := by decide +kernel
theorem zd_A_fret_106 : decode zb_A_fret 106 = .ok (.iload 6, 2) := by decide +kernel
theorem zd_A_fret_108 : decode zb_A_fret 108 = .ok (.iaload, 1) := by decide +kernel
theorem zd_A_fret_109 : decode zb_A_fret 109 = .ok (.iconst 1, 1) := by decide +kernel
theorem zd_A_fret_110 : decode zb_A_fret 110 = .ok (.if_icmp .ne 7, 3) := by decide +kernel
theorem zd_A_fret_113 : decode zb_A_fret 113 = .ok (.iconst 2, 1) := by decide +kernel
theorem zd_A_fret_114 : decode zb_A_fret 114 = .ok (.goto 4, 3) := by decide +kernel
theorem zd_A_fret_117 : decode zb_A_fret 117 = .ok (.iconst 0, 1) := by decide +kernel
theorem zd_A_fret_118 : decode zb_A_fret 118 = .ok (.iadd, 1) := by decide +kernel
theorem zd_A_fret_119 : decode zb_A_fret 119 = .ok (.istore 7, 2) := by decide +kernel
theorem zd_A_fret_121 : decode zb_A_fret 121 = .ok (.iload 7, 2) := by decide +kernel
theorem zd_A_fret_123 : decode zb_A_fret 123 = .ok (.iload 5, 2) := by decide +kernel
theorem zd_A_fret_125 : decode zb_A_fret 125 = .ok (.ifCond .ne 23, 3) := by decide +kernel
theorem zd_A_fret_128 : decode zb_A_fret 128 = .ok (.aload_n 0, 1) := by decide +kernel
theorem zd_A_fret_129 : decode zb_A_fret 129 = .ok (.getfield 32, 3) := by decide +kernel
theorem zd_A_fret_132 : decode zb_A_fret 132 = .ok (.aload_n 3, 1) := by decide +kernel
theorem zd_A_fret_133 : decode zb_A_fret 133 = .ok (.getfield 158, 3) := by decide +kernel
theorem zd_A_fret_136 : decode zb_A_fret 136 = .ok (.iload 6, 2) := by decide +kernel
theorem zd_A_fret_138 : decode zb_A_fret 138 = .ok (.iaload, 1) := by decide +kernel
theorem zd_A_fret_139 : decode zb_A_fret 139 = .ok (.iaload, 1) := by decide +kernel
theorem zd_A_fret_140 : decode zb_A_fret 140 = .ok (.iconst 1, 1) := by decide +kernel
theorem zd_A_fret_141 : decode zb_A_fret 141 = .ok (.if_icmp .ne 7, 3) := by decide +kernel
theorem zd_A_fret_144 : decode zb_A_fret 144 = .ok (.iconst 1, 1) := by decide +kernel
theorem zd_A_fret_145 : decode zb_A_fret 145 = .ok (.goto 4, 3) := by decide +kernel
theorem zd_A_fret_148 : decode zb_A_fret 148 = .ok (.iconst 0, 1) := by decide +kernel
theorem zd_A_fret_149 : decode zb_A_fret 149 = .ok (.iadd, 1) := by decide +kernel
theorem zd_A_fret_150 : decode zb_A_fret 150 = .ok (.istore 7, 2) := by decide +kernel
theorem zd_A_fret_152 : decode zb_A_fret 152 = .ok (.iload 7, 2) := by decide +kernel
theorem zd_A_fret_154 : decode zb_A_fret 154 = .ok (.iload_n 2, 1) := by decide +kernel
theorem zd_A_fret_155 : decode zb_A_fret 155 = .ok (.ifCond .eq 7, 3) := by decide +kernel
theorem zd_A_fret_158 : decode zb_A_fret 158 = .ok (.iconst 1, 1) := by decide +kernel
theorem zd_A_fret_159 : decode zb_A_fret 159 = .ok (.goto 4, 3) := by decide +kernel
theorem zd_A_fret_162 : decode zb_A_fret 162 = .ok (.iconst 0, 1) := by decide +kernel
theorem zd_A_fret_163 : decode zb_A_fret 163 = .ok (.iadd, 1) := by decide +kernel
theorem zd_A_fret_164 : decode zb_A_fret 164 = .ok (.istore 7, 2) := by decide +kernel
theorem zd_A_fret_166 : decode zb_A_fret 166 = .ok (.aload_n 3, 1) := by decide +kernel
theorem zd_A_fret_167 : decode zb_A_fret 167 = .ok (.getfield 235, 3) := by decide +kernel
theorem zd_A_fret_170 : decode zb_A_fret 170 = .ok (.iload 6, 2) := by decide +kernel
theorem zd_A_fret_172 : decode zb_A_fret 172 = .ok (.iaload, 1) := by decide +kernel
theorem zd_A_fret_173 : decode zb_A_fret 173 = .ok (.iload 7, 2) := by decide +kernel
theorem zd_A_fret_175 : decode zb_A_fret 175 = .ok (.ifCond .ne 7, 3) := by decide +kernel
theorem zd_A_fret_178 : decode zb_A_fret 178 = .ok (.iconst (-1), 1) := by decide +kernel
theorem zd_A_fret_179 : decode zb_A_fret 179 = .ok (.goto 5, 3) := by decide +kernel
theorem zd_A_fret_182 : decode zb_A_fret 182 = .ok (.iload 7, 2) := by decide +kernel
theorem zd_A_fret_184 : decode zb_A_fret 184 = .ok (.iadd, 1) := by decide +kernel
theorem zd_A_fret_185 : decode zb_A_fret 185 = .ok (.istore 8, 2) := by decide +kernel
theorem zd_A_fret_187 : decode zb_A_fret 187 = .ok (.aload_n 3, 1) := by decide +kernel
theorem zd_A_fret_188 : decode zb_A_fret 188 = .ok (.getfield 235, 3) := by decide +kernel
theorem zd_A_fret_191 : decode zb_A_fret 191 = .ok (.iload 6, 2) := by decide +kernel
theorem zd_A_fret_193 : decode zb_A_fret 193 = .ok (.iconst 0, 1) := by decide +kernel
theorem zd_A_fret_194 : decode zb_A_fret 194 = .ok (.bipush 99, 2) := by decide +kernel
theorem zd_A_fret_196 : decode zb_A_fret 196 = .ok (.iload 8, 2) := by decide +kernel
theorem zd_A_fret_198 : decode zb_A_fret 198 = .ok (.invokestatic 174, 3) := by decide +kernel
theorem zd_A_fret_201 : decode zb_A_fret 201 = .ok (.invokestatic 167, 3) := by decide +kernel
theorem zd_A_fret_204 : decode zb_A_fret 204 = .ok (.iastore, 1) := by decide +kernel
theorem zd_A_fret_205 : decode zb_A_fret 205 = .ok (.iinc 6 1, 3) := by decide +kernel
theorem zd_A_fret_208 : decode zb_A_fret 208 = .ok (.goto (-179), 3) := by decide +kernel
theorem zd_A_fret_211 : decode zb_A_fret 211 = .ok (.return_, 1) := by decide +kernel

def zf_A_fret_205 (r1 : Int) (q29 : Int → Int → Int → Int → Sg → Option (Int × Sg)) (x2 : Int) (x4 : Int) (x5 : Int) (x6 : Int) (S : Sg) : Option (Int × Sg) :=
    zlt (zw (x6 + 1)) fun v1 => q29 (x2) (x4) (x5) (v1) S
set_option maxHeartbeats 4000000 in
set_option maxRecDepth 100000 in
theorem zw_A_fret_205 {p : Program} {l : Launch} {e : Env} {s : State} {m : MethodId} {args : Array Value} {below : List Frame} {meth : Method} {c : Code} {B : zB} (C : CallFix p m c zb_A_fret 9 s args zT "IslandOffice$Almanac") (hr : meth.sig.returnType = none) (hlk : meth.locks = false) (hK : zK B s) (hSt : zSt B s) (hap : zAp B) (r1 : Int) (hr1 : 0 ≤ r1 ∧ r1 < 3) {res : Int} {S9 : Sg} (q29 : Int → Int → Int → Int → Sg → Option (Int × Sg)) (hq29 : ∀ (x2 : Int) (x4 : Int) (x5 : Int) (x6 : Int) (S : Sg) (nx2 : zn x2) (nx4 : zn x4) (nx5 : zn x5) (nx6 : zn x6), q29 x2 x4 x5 x6 S = some (res, S9) → ∀ (H : Heap) (locs : List Loc) (ls : Array Slot), zW B S H → va_S B.2.2.2 s.heap H locs → lv_has ls 9 [(0, .ref (B.2.1 3 (0) (15))), (1, .ref (B.2.1 0 (r1) (0))), (2, .int (zI (x2))), (3, .ref (B.2.1 0 (r1) (6))), (4, .int (zI (x4))), (5, .int (zI (x5))), (6, .int (zI (x6)))] → W p l e zm_A_fret s m args below meth c H locs 0 0 (MQ below (zQv B S9) args s 0 0 B.2.2.2) (F0 m 29 ls [])) : ∀ (x2 : Int) (x4 : Int) (x5 : Int) (x6 : Int) (S : Sg) (nx2 : zn x2) (nx4 : zn x4) (nx5 : zn x5) (nx6 : zn x6), zf_A_fret_205 r1 q29 x2 x4 x5 x6 S = some (res, S9) → ∀ (H : Heap) (locs : List Loc) (ls : Array Slot), zW B S H → va_S B.2.2.2 s.heap H locs → lv_has ls 9 [(0, .ref (B.2.1 3 (0) (15))), (1, .ref (B.2.1 0 (r1) (0))), (2, .int (zI (x2))), (3, .ref (B.2.1 0 (r1) (6))), (4, .int (zI (x4))), (5, .int (zI (x5))), (6, .int (zI (x6)))] → W p l e zm_A_fret s m args below meth c H locs 0 0 (MQ below (zQv B S9) args s 0 0 B.2.2.2) (F0 m 205 ls []) := by
  intro x2 x4 x5 x6 S nx2 nx4 nx5 nx6 hf H locs ls hW hS hl
  unfold zf_A_fret_205 at hf
  obtain ⟨v1, ev1, hf⟩ := zlt_some hf
  have nv1 : zn v1 := by rw [← ev1]; exact zn_w _
  refine lv_iinc (v := zI v1) (lv' := [(6, .int (zI (v1))), (0, .ref (B.2.1 3 (0) (15))), (1, .ref (B.2.1 0 (r1) (0))), (2, .int (zI (x2))), (3, .ref (B.2.1 0 (r1) (6))), (4, .int (zI (x4))), (5, .int (zI (x5)))]) C.1 C.2.1 zd_A_fret_205 hl (k := 6) rfl (by rw [← ev1, ← zI_add]; rfl) (by decide) rfl (fun ls hl => ?_)
  refine lv_goto (tgt := 29) C.1 C.2.1 zd_A_fret_208 (by decide) ?_
  exact hq29 (x2) (x4) (x5) (v1) S nx2 nx4 nx5 nv1 hf _ _ _ hW hS (lv_sub hl [1, 2, 3, 4, 5, 6, 0] rfl)

def zf_A_fret_184 (r1 : Int) (q29 : Int → Int → Int → Int → Sg → Option (Int × Sg)) (x2 : Int) (x4 : Int) (x5 : Int) (x6 : Int) (xt0 : Int) (xt1 : Int) (S : Sg) : Option (Int × Sg) :=
    zlt (zw (xt0 + xt1)) fun v1 => zck (0 ≤ x6 ∧ x6 < 40) <| zlt (zu S 0 r1 13 x6 (max 0 (min 99 v1))) fun S3 => zf_A_fret_205 r1 q29 (x2) (x4) (x5) (x6) S3
set_option maxHeartbeats 4000000 in
set_option maxRecDepth 100000 in
theorem zw_A_fret_184 {p : Program} {l : Launch} {e : Env} {s : State} {m : MethodId} {args : Array Value} {below : List Frame} {meth : Method} {c : Code} {B : zB} (C : CallFix p m c zb_A_fret 9 s args zT "IslandOffice$Almanac") (hr : meth.sig.returnType = none) (hlk : meth.locks = false) (hK : zK B s) (hSt : zSt B s) (hap : zAp B) (r1 : Int) (hr1 : 0 ≤ r1 ∧ r1 < 3) {res : Int} {S9 : Sg} (q29 : Int → Int → Int → Int → Sg → Option (Int × Sg)) (hq29 : ∀ (x2 : Int) (x4 : Int) (x5 : Int) (x6 : Int) (S : Sg) (nx2 : zn x2) (nx4 : zn x4) (nx5 : zn x5) (nx6 : zn x6), q29 x2 x4 x5 x6 S = some (res, S9) → ∀ (H : Heap) (locs : List Loc) (ls : Array Slot), zW B S H → va_S B.2.2.2 s.heap H locs → lv_has ls 9 [(0, .ref (B.2.1 3 (0) (15))), (1, .ref (B.2.1 0 (r1) (0))), (2, .int (zI (x2))), (3, .ref (B.2.1 0 (r1) (6))), (4, .int (zI (x4))), (5, .int (zI (x5))), (6, .int (zI (x6)))] → W p l e zm_A_fret s m args below meth c H locs 0 0 (MQ below (zQv B S9) args s 0 0 B.2.2.2) (F0 m 29 ls [])) : ∀ (x2 : Int) (x4 : Int) (x5 : Int) (x6 : Int) (xt0 : Int) (xt1 : Int) (S : Sg) (nx2 : zn x2) (nx4 : zn x4) (nx5 : zn x5) (nx6 : zn x6) (nxt0 : zn xt0) (nxt1 : zn xt1), zf_A_fret_184 r1 q29 x2 x4 x5 x6 xt0 xt1 S = some (res, S9) → ∀ (H : Heap) (locs : List Loc) (ls : Array Slot), zW B S H → va_S B.2.2.2 s.heap H locs → lv_has ls 9 [(0, .ref (B.2.1 3 (0) (15))), (1, .ref (B.2.1 0 (r1) (0))), (2, .int (zI (x2))), (3, .ref (B.2.1 0 (r1) (6))), (4, .int (zI (x4))), (5, .int (zI (x5))), (6, .int (zI (x6)))] → W p l e zm_A_fret s m args below meth c H locs 0 0 (MQ below (zQv B S9) args s 0 0 B.2.2.2) (F0 m 184 ls [.int (zI (xt1)), .int (zI (xt0))]) := by
  intro x2 x4 x5 x6 xt0 xt1 S nx2 nx4 nx5 nx6 nxt0 nxt1 hf H locs ls hW hS hl
  unfold zf_A_fret_184 at hf
  refine zr_iadd C zd_A_fret_184 ?_
  obtain ⟨v1, ev1, hf⟩ := zlt_some hf
  have nv1 : zn v1 := by rw [← ev1]; exact (zn_w _)
  rw [ev1]
  refine lv_istore (lv' := [(8, .int (zI (v1))), (0, .ref (B.2.1 3 (0) (15))), (1, .ref (B.2.1 0 (r1) (0))), (2, .int (zI (x2))), (3, .ref (B.2.1 0 (r1) (6))), (4, .int (zI (x4))), (5, .int (zI (x5))), (6, .int (zI (x6)))]) C.1 C.2.1 zd_A_fret_185 hl (by decide) rfl (fun ls hl => ?_)
  refine lv_aload_n C.1 C.2.1 zd_A_fret_187 rfl (lv_at hl 4 rfl) ?_
  refine zg_P_discontent (r := r1) C hK hW (zvd_0 hr1 (by decide)) zk_80 zd_A_fret_188 ?_
  refine lv_iload C.1 C.2.1 zd_A_fret_191 (lv_at hl 7 rfl) ?_
  refine zr_iconst C zd_A_fret_193 ?_
  refine zr_bipush C zd_A_fret_194 (by decide) ?_
  refine lv_iload C.1 C.2.1 zd_A_fret_196 (lv_at hl 0 rfl) ?_
  refine zr_min C hl.1 (znb rfl) nv1 zk_963 zk_909 zk_16 zk_910 (by decide) (Nat.le_of_ble_eq_true rfl) ⟨by decide, by decide⟩ zd_A_fret_198 ?_
  refine zr_max C hl.1 (znb rfl) (zn_min (znb rfl) nv1) zk_959 zk_678 zk_16 zk_679 (by decide) (Nat.le_of_ble_eq_true rfl) ⟨by decide, by decide⟩ zd_A_fret_201 ?_
  obtain ⟨h2, hf⟩ := zck_some hf
  obtain ⟨S3, eS3, hf⟩ := zlt_some hf
  refine ziast C hK hap hW hS (zvd_0 hr1 (by decide)) (fun f => ze_0_13 B f (r1)) (by decide) rfl (zn_max (znb rfl) (zn_min (znb rfl) nv1)) h2 zd_A_fret_204 (fun H locs hW hS => ?_)
  rw [eS3] at hW
  exact zw_A_fret_205 C hr hlk hK hSt hap r1 hr1 q29 hq29 (x2) (x4) (x5) (x6) S3 nx2 nx4 nx5 nx6 hf _ _ _ hW hS (lv_sub hl [1, 2, 3, 4, 5, 6, 7] rfl)

def zf_A_fret_163 (r1 : Int) (q29 : Int → Int → Int → Int → Sg → Option (Int × Sg)) (x2 : Int) (x4 : Int) (x5 : Int) (x6 : Int) (xt0 : Int) (xt1 : Int) (S : Sg) : Option (Int × Sg) :=
    zlt (zw (xt0 + xt1)) fun v1 => zck (0 ≤ x6 ∧ x6 < 40) <| if v1 = 0 then (zf_A_fret_184 r1 q29 (x2) (x4) (x5) (x6) (S 0 r1 13 x6) (-1) S) else (zf_A_fret_184 r1 q29 (x2) (x4) (x5) (x6) (S 0 r1 13 x6) (v1) S)
set_option maxHeartbeats 4000000 in
set_option maxRecDepth 100000 in
theorem zw_A_fret_163 {p : Program} {l : Launch} {e : Env} {s : State} {m : MethodId} {args : Array Value} {below : List Frame} {meth : Method} {c : Code} {B : zB} (C : CallFix p m c zb_A_fret 9 s args zT "IslandOffice$Almanac") (hr : meth.sig.returnType = none) (hlk : meth.locks = false) (hK : zK B s) (hSt : zSt B s) (hap : zAp B) (r1 : Int) (hr1 : 0 ≤ r1 ∧ r1 < 3) {res : Int} {S9 : Sg} (q29 : Int → Int → Int → Int → Sg → Option (Int × Sg)) (hq29 : ∀ (x2 : Int) (x4 : Int) (x5 : Int) (x6 : Int) (S : Sg) (nx2 : zn x2) (nx4 : zn x4) (nx5 : zn x5) (nx6 : zn x6), q29 x2 x4 x5 x6 S = some (res, S9) → ∀ (H : Heap) (locs : List Loc) (ls : Array Slot), zW B S H → va_S B.2.2.2 s.heap H locs → lv_has ls 9 [(0, .ref (B.2.1 3 (0) (15))), (1, .ref (B.2.1 0 (r1) (0))), (2, .int (zI (x2))), (3, .ref (B.2.1 0 (r1) (6))), (4, .int (zI (x4))), (5, .int (zI (x5))), (6, .int (zI (x6)))] → W p l e zm_A_fret s m args below meth c H locs 0 0 (MQ below (zQv B S9) args s 0 0 B.2.2.2) (F0 m 29 ls [])) : ∀ (x2 : Int) (x4 : Int) (x5 : Int) (x6 : Int) (xt0 : Int) (xt1 : Int) (S : Sg) (nx2 : zn x2) (nx4 : zn x4) (nx5 : zn x5) (nx6 : zn x6) (nxt0 : zn xt0) (nxt1 : zn xt1), zf_A_fret_163 r1 q29 x2 x4 x5 x6 xt0 xt1 S = some (res, S9) → ∀ (H : Heap) (locs : List Loc) (ls : Array Slot), zW B S H → va_S B.2.2.2 s.heap H locs → lv_has ls 9 [(0, .ref (B.2.1 3 (0) (15))), (1, .ref (B.2.1 0 (r1) (0))), (2, .int (zI (x2))), (3, .ref (B.2.1 0 (r1) (6))), (4, .int (zI (x4))), (5, .int (zI (x5))), (6, .int (zI (x6)))] → W p l e zm_A_fret s m args below meth c H locs 0 0 (MQ below (zQv B S9) args s 0 0 B.2.2.2) (F0 m 163 ls [.int (zI (xt1)), .int (zI (xt0))]) := by
  intro x2 x4 x5 x6 xt0 xt1 S nx2 nx4 nx5 nx6 nxt0 nxt1 hf H locs ls hW hS hl
  unfold zf_A_fret_163 at hf
  refine zr_iadd C zd_A_fret_163 ?_
  obtain ⟨v1, ev1, hf⟩ := zlt_some hf
  have nv1 : zn v1 := by rw [← ev1]; exact (zn_w _)
  rw [ev1]
  refine lv_istore (lv' := [(7, .int (zI (v1))), (0, .ref (B.2.1 3 (0) (15))), (1, .ref (B.2.1 0 (r1) (0))), (2, .int (zI (x2))), (3, .ref (B.2.1 0 (r1) (6))), (4, .int (zI (x4))), (5, .int (zI (x5))), (6, .int (zI (x6)))]) C.1 C.2.1 zd_A_fret_164 hl (by decide) rfl (fun ls hl => ?_)
  refine lv_aload_n C.1 C.2.1 zd_A_fret_166 rfl (lv_at hl 4 rfl) ?_
  refine zg_P_discontent (r := r1) C hK hW (zvd_0 hr1 (by decide)) zk_80 zd_A_fret_167 ?_
  refine lv_iload C.1 C.2.1 zd_A_fret_170 (lv_at hl 7 rfl) ?_
  obtain ⟨h2, hf⟩ := zck_some hf
  refine ziald C hK hW (zvd_0 hr1 (by decide)) (fun f => ze_0_13 B f (r1)) (by decide) h2 zd_A_fret_172 ?_
  refine lv_iload C.1 C.2.1 zd_A_fret_173 (lv_at hl 0 rfl) ?_
  refine zr_if_ne (tgt := 182) C nv1 zd_A_fret_175 (by decide) (fun c3 => ?_) (fun c3 => ?_)
  · rw [if_neg c3] at hf
    refine lv_iload C.1 C.2.1 zd_A_fret_182 (lv_at hl 0 rfl) ?_
    exact zw_A_fret_184 C hr hlk hK hSt hap r1 hr1 q29 hq29 (x2) (x4) (x5) (x6) (S 0 r1 13 x6) (v1) S nx2 nx4 nx5 nx6 (zWn hW _ _ _ _ rfl) nv1 hf _ _ _ hW hS (lv_sub hl [1, 2, 3, 4, 5, 6, 7] rfl)
  · rw [if_pos c3] at hf
    refine zr_iconst C zd_A_fret_178 ?_
    refine lv_goto (tgt := 184) C.1 C.2.1 zd_A_fret_179 (by decide) ?_
    exact zw_A_fret_184 C hr hlk hK hSt hap r1 hr1 q29 hq29 (x2) (x4) (x5) (x6) (S 0 r1 13 x6) (-1) S nx2 nx4 nx5 nx6 (zWn hW _ _ _ _ rfl) (znb rfl) hf _ _ _ hW hS (lv_sub hl [1, 2, 3, 4, 5, 6, 7] rfl)

def zf_A_fret_149 (r1 : Int) (q29 : Int → Int → Int → Int → Sg → Option (Int × Sg)) (x2 : Int) (x4 : Int) (x5 : Int) (x6 : Int) (xt0 : Int) (xt1 : Int) (S : Sg) : Option (Int × Sg) :=
    zlt (zw (xt0 + xt1)) fun v1 => if x2 = 0 then (zf_A_fret_163 r1 q29 (x2) (x4) (x5) (x6) (v1) (0) S) else (zf_A_fret_163 r1 q29 (x2) (x4) (x5) (x6) (v1) (1) S)
set_option maxHeartbeats 4000000 in
set_option maxRecDepth 100000 in
theorem zw_A_fret_149 {p : Program} {l : Launch} {e : Env} {s : State} {m : MethodId} {args : Array Value} {below : List Frame} {meth : Method} {c : Code} {B : zB} (C : CallFix p m c zb_A_fret 9 s args zT "IslandOffice$Almanac") (hr : meth.sig.returnType = none) (hlk : meth.locks = false) (hK : zK B s) (hSt : zSt B s) (hap : zAp B) (r1 : Int) (hr1 : 0 ≤ r1 ∧ r1 < 3) {res : Int} {S9 : Sg} (q29 : Int → Int → Int → Int → Sg → Option (Int × Sg)) (hq29 : ∀ (x2 : Int) (x4 : Int) (x5 : Int) (x6 : Int) (S : Sg) (nx2 : zn x2) (nx4 : zn x4) (nx5 : zn x5) (nx6 : zn x6), q29 x2 x4 x5 x6 S = some (res, S9) → ∀ (H : Heap) (locs : List Loc) (ls : Array Slot), zW B S H → va_S B.2.2.2 s.heap H locs → lv_has ls 9 [(0, .ref (B.2.1 3 (0) (15))), (1, .ref (B.2.1 0 (r1) (0))), (2, .int (zI (x2))), (3, .ref (B.2.1 0 (r1) (6))), (4, .int (zI (x4))), (5, .int (zI (x5))), (6, .int (zI (x6)))] → W p l e zm_A_fret s m args below meth c H locs 0 0 (MQ below (zQv B S9) args s 0 0 B.2.2.2) (F0 m 29 ls [])) : ∀ (x2 : Int) (x4 : Int) (x5 : Int) (x6 : Int) (xt0 : Int) (xt1 : Int) (S : Sg) (nx2 : zn x2) (nx4 : zn x4) (nx5 : zn x5) (nx6 : zn x6) (nxt0 : zn xt0) (nxt1 : zn xt1), zf_A_fret_149 r1 q29 x2 x4 x5 x6 xt0 xt1 S = some (res, S9) → ∀ (H : Heap) (locs : List Loc) (ls : Array Slot), zW B S H → va_S B.2.2.2 s.heap H locs → lv_has ls 9 [(0, .ref (B.2.1 3 (0) (15))), (1, .ref (B.2.1 0 (r1) (0))), (2, .int (zI (x2))), (3, .ref (B.2.1 0 (r1) (6))), (4, .int (zI (x4))), (5, .int (zI (x5))), (6, .int (zI (x6)))] → W p l e zm_A_fret s m args below meth c H locs 0 0 (MQ below (zQv B S9) args s 0 0 B.2.2.2) (F0 m 149 ls [.int (zI (xt1)), .int (zI (xt0))]) := by
  intro x2 x4 x5 x6 xt0 xt1 S nx2 nx4 nx5 nx6 nxt0 nxt1 hf H locs ls hW hS hl
  unfold zf_A_fret_149 at hf
  refine zr_iadd C zd_A_fret_149 ?_
  obtain ⟨v1, ev1, hf⟩ := zlt_some hf
  have nv1 : zn v1 := by rw [← ev1]; exact (zn_w _)
  rw [ev1]
  refine lv_istore (lv' := [(7, .int (zI (v1))), (0, .ref (B.2.1 3 (0) (15))), (1, .ref (B.2.1 0 (r1) (0))), (2, .int (zI (x2))), (3, .ref (B.2.1 0 (r1) (6))), (4, .int (zI (x4))), (5, .int (zI (x5))), (6, .int (zI (x6)))]) C.1 C.2.1 zd_A_fret_150 hl (by decide) rfl (fun ls hl => ?_)
  refine lv_iload C.1 C.2.1 zd_A_fret_152 (lv_at hl 0 rfl) ?_
  refine lv_iload_n C.1 C.2.1 zd_A_fret_154 rfl (lv_at hl 3 rfl) ?_
  refine zr_if_eq (tgt := 162) C nx2 zd_A_fret_155 (by decide) (fun c2 => ?_) (fun c2 => ?_)
  · rw [if_pos c2] at hf
    refine zr_iconst C zd_A_fret_162 ?_
    exact zw_A_fret_163 C hr hlk hK hSt hap r1 hr1 q29 hq29 (x2) (x4) (x5) (x6) (v1) (0) S nx2 nx4 nx5 nx6 nv1 (znb rfl) hf _ _ _ hW hS (lv_sub hl [1, 2, 3, 4, 5, 6, 7] rfl)
  · rw [if_neg c2] at hf
    refine zr_iconst C zd_A_fret_158 ?_
    refine lv_goto (tgt := 163) C.1 C.2.1 zd_A_fret_159 (by decide) ?_
    exact zw_A_fret_163 C hr hlk hK hSt hap r1 hr1 q29 hq29 (x2) (x4) (x5) (x6) (v1) (1) S nx2 nx4 nx5 nx6 nv1 (znb rfl) hf _ _ _ hW hS (lv_sub hl [1, 2, 3, 4, 5, 6, 7] rfl)

def zf_A_fret_148 (r1 : Int) (q29 : Int → Int → Int → Int → Sg → Option (Int × Sg)) (x2 : Int) (x4 : Int) (x5 : Int) (x6 : Int) (xt0 : Int) (S : Sg) : Option (Int × Sg) :=
    zf_A_fret_149 r1 q29 (x2) (x4) (x5) (x6) (xt0) (0) S
set_option maxHeartbeats 4000000 in
set_option maxRecDepth 100000 in
theorem zw_A_fret_148 {p : Program} {l : Launch} {e : Env} {s : State} {m : MethodId} {args : Array Value} {below : List Frame} {meth : Method} {c : Code} {B : zB} (C : CallFix p m c zb_A_fret 9 s args zT "IslandOffice$Almanac") (hr : meth.sig.returnType = none) (hlk : meth.locks = false) (hK : zK B s) (hSt : zSt B s) (hap : zAp B) (r1 : Int) (hr1 : 0 ≤ r1 ∧ r1 < 3) {res : Int} {S9 : Sg} (q29 : Int → Int → Int → Int → Sg → Option (Int × Sg)) (hq29 : ∀ (x2 : Int) (x4 : Int) (x5 : Int) (x6 : Int) (S : Sg) (nx2 : zn x2) (nx4 : zn x4) (nx5 : zn x5) (nx6 : zn x6), q29 x2 x4 x5 x6 S = some (res, S9) → ∀ (H : Heap) (locs : List Loc) (ls : Array Slot), zW B S H → va_S B.2.2.2 s.heap H locs → lv_has ls 9 [(0, .ref (B.2.1 3 (0) (15))), (1, .ref (B.2.1 0 (r1) (0))), (2, .int (zI (x2))), (3, .ref (B.2.1 0 (r1) (6))), (4, .int (zI (x4))), (5, .int (zI (x5))), (6, .int (zI (x6)))] → W p l e zm_A_fret s m args below meth c H locs 0 0 (MQ below (zQv B S9) args s 0 0 B.2.2.2) (F0 m 29 ls [])) : ∀ (x2 : Int) (x4 : Int) (x5 : Int) (x6 : Int) (xt0 : Int) (S : Sg) (nx2 : zn x2) (nx4 : zn x4) (nx5 : zn x5) (nx6 : zn x6) (nxt0 : zn xt0), zf_A_fret_148 r1 q29 x2 x4 x5 x6 xt0 S = some (res, S9) → ∀ (H : Heap) (locs : List Loc) (ls : Array Slot), zW B S H → va_S B.2.2.2 s.heap H locs → lv_has ls 9 [(0, .ref (B.2.1 3 (0) (15))), (1, .ref (B.2.1 0 (r1) (0))), (2, .int (zI (x2))), (3, .ref (B.2.1 0 (r1) (6))), (4, .int (zI (x4))), (5, .int (zI (x5))), (6, .int (zI (x6)))] → W p l e zm_A_fret s m args below meth c H locs 0 0 (MQ below (zQv B S9) args s 0 0 B.2.2.2) (F0 m 148 ls [.int (zI (xt0))]) := by
  intro x2 x4 x5 x6 xt0 S nx2 nx4 nx5 nx6 nxt0 hf H locs ls hW hS hl
  unfold zf_A_fret_148 at hf
  refine zr_iconst C zd_A_fret_148 ?_
  exact zw_A_fret_149 C hr hlk hK hSt hap r1 hr1 q29 hq29 (x2) (x4) (x5) (x6) (xt0) (0) S nx2 nx4 nx5 nx6 nxt0 (znb rfl) hf _ _ _ hW hS (lv_sub hl [0, 1, 2, 3, 4, 5, 6] rfl)

def zf_A_fret_118 (r1 : Int) (q29 : Int → Int → Int → Int → Sg → Option (Int × Sg)) (x2 : Int) (x4 : Int) (x5 : Int) (x6 : Int) (xt0 : Int) (xt1 : Int) (S : Sg) : Option (Int × Sg) :=
    zlt (zw (xt0 + xt1)) fun v1 => if x5 = 0 then (zck (0 ≤ x6 ∧ x6 < 40) <| zck (0 ≤ (S 0 r1 8 x6) ∧ (S 0 r1 8 x6) < 12) <| if (S 3 0 20 (S 0 r1 8 x6)) = 1 then (zf_A_fret_149 r1 q29 (x2) (x4) (x5) (x6) (v1) (1) S) else (zf_A_fret_148 r1 q29 (x2) (x4) (x5) (x6) (v1) S)) else (zf_A_fret_148 r1 q29 (x2) (x4) (x5) (x6) (v1) S)
set_option maxHeartbeats 4000000 in
set_option maxRecDepth 100000 in
theorem zw_A_fret_118 {p : Program} {l : Launch} {e : Env} {s : State} {m : MethodId} {args : Array Value} {below : List Frame} {meth : Method} {c : Code} {B : zB} (C : CallFix p m c zb_A_fret 9 s args zT "IslandOffice$Almanac") (hr : meth.sig.returnType = none) (hlk : meth.locks = false) (hK : zK B s) (hSt : zSt B s) (hap : zAp B) (r1 : Int) (hr1 : 0 ≤ r1 ∧ r1 < 3) {res : Int} {S9 : Sg} (q29 : Int → Int → Int → Int → Sg → Option (Int × Sg)) (hq29 : ∀ (x2 : Int) (x4 : Int) (x5 : Int) (x6 : Int) (S : Sg) (nx2 : zn x2) (nx4 : zn x4) (nx5 : zn x5) (nx6 : zn x6), q29 x2 x4 x5 x6 S = some (res, S9) → ∀ (H : Heap) (locs : List Loc) (ls : Array Slot), zW B S H → va_S B.2.2.2 s.heap H locs → lv_has ls 9 [(0, .ref (B.2.1 3 (0) (15))), (1, .ref (B.2.1 0 (r1) (0))), (2, .int (zI (x2))), (3, .ref (B.2.1 0 (r1) (6))), (4, .int (zI (x4))), (5, .int (zI (x5))), (6, .int (zI (x6)))] → W p l e zm_A_fret s m args below meth c H locs 0 0 (MQ below (zQv B S9) args s 0 0 B.2.2.2) (F0 m 29 ls [])) : ∀ (x2 : Int) (x4 : Int) (x5 : Int) (x6 : Int) (xt0 : Int) (xt1 : Int) (S : Sg) (nx2 : zn x2) (nx4 : zn x4) (nx5 : zn x5) (nx6 : zn x6) (nxt0 : zn xt0) (nxt1 : zn xt1), zf_A_fret_118 r1 q29 x2 x4 x5 x6 xt0 xt1 S = some (res, S9) → ∀ (H : Heap) (locs : List Loc) (ls : Array Slot), zW B S H → va_S B.2.2.2 s.heap H locs → lv_has ls 9 [(0, .ref (B.2.1 3 (0) (15))), (1, .ref (B.2.1 0 (r1) (0))), (2, .int (zI (x2))), (3, .ref (B.2.1 0 (r1) (6))), (4, .int (zI (x4))), (5, .int (zI (x5))), (6, .int (zI (x6)))] → W p l e zm_A_fret s m args below meth c H locs 0 0 (MQ below (zQv B S9) args s 0 0 B.2.2.2) (F0 m 118 ls [.int (zI (xt1)), .int (zI (xt0))]) := by
  intro x2 x4 x5 x6 xt0 xt1 S nx2 nx4 nx5 nx6 nxt0 nxt1 hf H locs ls hW hS hl
  unfold zf_A_fret_118 at hf
  refine zr_iadd C zd_A_fret_118 ?_
  obtain ⟨v1, ev1, hf⟩ := zlt_some hf
  have nv1 : zn v1 := by rw [← ev1]; exact (zn_w _)
  rw [ev1]
  refine lv_istore (lv' := [(7, .int (zI (v1))), (0, .ref (B.2.1 3 (0) (15))), (1, .ref (B.2.1 0 (r1) (0))), (2, .int (zI (x2))), (3, .ref (B.2.1 0 (r1) (6))), (4, .int (zI (x4))), (5, .int (zI (x5))), (6, .int (zI (x6)))]) C.1 C.2.1 zd_A_fret_119 hl (by decide) rfl (fun ls hl => ?_)
  refine lv_iload C.1 C.2.1 zd_A_fret_121 (lv_at hl 0 rfl) ?_
  refine lv_iload C.1 C.2.1 zd_A_fret_123 (lv_at hl 6 rfl) ?_
  refine zr_if_ne (tgt := 148) C nx5 zd_A_fret_125 (by decide) (fun c2 => ?_) (fun c2 => ?_)
  · rw [if_neg c2] at hf
    exact zw_A_fret_148 C hr hlk hK hSt hap r1 hr1 q29 hq29 (x2) (x4) (x5) (x6) (v1) S nx2 nx4 nx5 nx6 nv1 hf _ _ _ hW hS (lv_sub hl [1, 2, 3, 4, 5, 6, 7] rfl)
  · rw [if_pos c2] at hf
    refine lv_aload_n C.1 C.2.1 zd_A_fret_128 rfl (lv_at hl 1 rfl) ?_
    refine zg_A_tends (r := 0) C hK hW (zvd_3 (by decide) (by decide)) zk_472 zd_A_fret_129 ?_
    refine lv_aload_n C.1 C.2.1 zd_A_fret_132 rfl (lv_at hl 4 rfl) ?_
    refine zg_P_house (r := r1) C hK hW (zvd_0 hr1 (by decide)) zk_62 zd_A_fret_133 ?_
    refine lv_iload C.1 C.2.1 zd_A_fret_136 (lv_at hl 7 rfl) ?_
    obtain ⟨h3, hf⟩ := zck_some hf
    refine ziald C hK hW (zvd_0 hr1 (by decide)) (fun f => ze_0_8 B f (r1)) (by decide) h3 zd_A_fret_138 ?_
    obtain ⟨h4, hf⟩ := zck_some hf
    refine ziald C hK hW (zvd_3 (by decide) (by decide)) (fun f => ze_3_20 B f (0)) (by decide) h4 zd_A_fret_139 ?_
    refine zr_iconst C zd_A_fret_140 ?_
    refine zr_icmp_ne (tgt := 148) C (zWn hW _ _ _ _ rfl) (znb rfl) zd_A_fret_141 (by decide) (fun c5 => ?_) (fun c5 => ?_)
    · rw [if_neg c5] at hf
      exact zw_A_fret_148 C hr hlk hK hSt hap r1 hr1 q29 hq29 (x2) (x4) (x5) (x6) (v1) S nx2 nx4 nx5 nx6 nv1 hf _ _ _ hW hS (lv_sub hl [1, 2, 3, 4, 5, 6, 7] rfl)
    · rw [if_pos c5] at hf
      refine zr_iconst C zd_A_fret_144 ?_
      refine lv_goto (tgt := 149) C.1 C.2.1 zd_A_fret_145 (by decide) ?_
      exact zw_A_fret_149 C hr hlk hK hSt hap r1 hr1 q29 hq29 (x2) (x4) (x5) (x6) (v1) (1) S nx2 nx4 nx5 nx6 nv1 (znb rfl) hf _ _ _ hW hS (lv_sub hl [1, 2, 3, 4, 5, 6, 7] rfl)

def zf_A_fret_117 (r1 : Int) (q29 : Int → Int → Int → Int → Sg → Option (Int × Sg)) (x2 : Int) (x4 : Int) (x5 : Int) (x6 : Int) (xt0 : Int) (S : Sg) : Option (Int × Sg) :=
    zf_A_fret_118 r1 q29 (x2) (x4) (x5) (x6) (xt0) (0) S
set_option maxHeartbeats 4000000 in
set_option maxRecDepth 100000 in
theorem zw_A_fret_117 {p : Program} {l : Launch} {e : Env} {s : State} {m : MethodId} {args : Array Value} {below : List Frame} {meth : Method} {c : Code} {B : zB} (C : CallFix p m c zb_A_fret 9 s args zT "IslandOffice$Almanac") (hr : meth.sig.returnType = none) (hlk : meth.locks = false) (hK : zK B s) (hSt : zSt B s) (hap : zAp B) (r1 : Int) (hr1 : 0 ≤ r1 ∧ r1 < 3) {res : Int} {S9 : Sg} (q29 : Int → Int → Int → Int → Sg → Option (Int × Sg)) (hq29 : ∀ (x2 : Int) (x4 : Int) (x5 : Int) (x6 : Int) (S : Sg) (nx2 : zn x2) (nx4 : zn x4) (nx5 : zn x5) (nx6 : zn x6), q29 x2 x4 x5 x6 S = some (res, S9) → ∀ (H : Heap) (locs : List Loc) (ls : Array Slot), zW B S H → va_S B.2.2.2 s.heap H locs → lv_has ls 9 [(0, .ref (B.2.1 3 (0) (15))), (1, .ref (B.2.1 0 (r1) (0))), (2, .int (zI (x2))), (3, .ref (B.2.1 0 (r1) (6))), (4, .int (zI (x4))), (5, .int (zI (x5))), (6, .int (zI (x6)))] → W p l e zm_A_fret s m args below meth c H locs 0 0 (MQ below (zQv B S9) args s 0 0 B.2.2.2) (F0 m 29 ls [])) : ∀ (x2 : Int) (x4 : Int) (x5 : Int) (x6 : Int) (xt0 : Int) (S : Sg) (nx2 : zn x2) (nx4 : zn x4) (nx5 : zn x5) (nx6 : zn x6) (nxt0 : zn xt0), zf_A_fret_117 r1 q29 x2 x4 x5 x6 xt0 S = some (res, S9) → ∀ (H : Heap) (locs : List Loc) (ls : Array Slot), zW B S H → va_S B.2.2.2 s.heap H locs → lv_has ls 9 [(0, .ref (B.2.1 3 (0) (15))), (1, .ref (B.2.1 0 (r1) (0))), (2, .int (zI (x2))), (3, .ref (B.2.1 0 (r1) (6))), (4, .int (zI (x4))), (5, .int (zI (x5))), (6, .int (zI (x6)))] → W p l e zm_A_fret s m args below meth c H locs 0 0 (MQ below (zQv B S9) args s 0 0 B.2.2.2) (F0 m 117 ls [.int (zI (xt0))]) := by
  intro x2 x4 x5 x6 xt0 S nx2 nx4 nx5 nx6 nxt0 hf H locs ls hW hS hl
  unfold zf_A_fret_117 at hf
  refine zr_iconst C zd_A_fret_117 ?_
  exact zw_A_fret_118 C hr hlk hK hSt hap r1 hr1 q29 hq29 (x2) (x4) (x5) (x6) (xt0) (0) S nx2 nx4 nx5 nx6 nxt0 (znb rfl) hf _ _ _ hW hS (lv_sub hl [0, 1, 2, 3, 4, 5, 6] rfl)

def zf_A_fret_92 (r1 : Int) (q29 : Int → Int → Int → Int → Sg → Option (Int × Sg)) (x2 : Int) (x4 : Int) (x5 : Int) (x6 : Int) (xt0 : Int) (xt1 : Int) (S : Sg) : Option (Int × Sg) :=
    zlt (zw (xt0 + xt1)) fun v1 => if x4 = 0 then (zck (0 ≤ x6 ∧ x6 < 40) <| if (S 3 0 19 x6) = 1 then (zf_A_fret_118 r1 q29 (x2) (x4) (x5) (x6) (v1) (2) S) else (zf_A_fret_117 r1 q29 (x2) (x4) (x5) (x6) (v1) S)) else (zf_A_fret_117 r1 q29 (x2) (x4) (x5) (x6) (v1) S)
set_option maxHeartbeats 4000000 in
set_option maxRecDepth 100000 in
theorem zw_A_fret_92 {p : Program} {l : Launch} {e : Env} {s : State} {m : MethodId} {args : Array Value} {below : List Frame} {meth : Method} {c : Code} {B : zB} (C : CallFix p m c zb_A_fret 9 s args zT "IslandOffice$Almanac") (hr : meth.sig.returnType = none) (hlk : meth.locks = false) (hK : zK B s) (hSt : zSt B s) (hap : zAp B) (r1 : Int) (hr1 : 0 ≤ r1 ∧ r1 < 3) {res : Int} {S9 : Sg} (q29 : Int → Int → Int → Int → Sg → Option (Int × Sg)) (hq29 : ∀ (x2 : Int) (x4 : Int) (x5 : Int) (x6 : Int) (S : Sg) (nx2 : zn x2) (nx4 : zn x4) (nx5 : zn x5) (nx6 : zn x6), q29 x2 x4 x5 x6 S = some (res, S9) → ∀ (H : Heap) (locs : List Loc) (ls : Array Slot), zW B S H → va_S B.2.2.2 s.heap H locs → lv_has ls 9 [(0, .ref (B.2.1 3 (0) (15))), (1, .ref (B.2.1 0 (r1) (0))), (2, .int (zI (x2))), (3, .ref (B.2.1 0 (r1) (6))), (4, .int (zI (x4))), (5, .int (zI (x5))), (6, .int (zI (x6)))] → W p l e zm_A_fret s m args below meth c H locs 0 0 (MQ below (zQv B S9) args s 0 0 B.2.2.2) (F0 m 29 ls [])) : ∀ (x2 : Int) (x4 : Int) (x5 : Int) (x6 : Int) (xt0 : Int) (xt1 : Int) (S : Sg) (nx2 : zn x2) (nx4 : zn x4) (nx5 : zn x5) (nx6 : zn x6) (nxt0 : zn xt0) (nxt1 : zn xt1), zf_A_fret_92 r1 q29 x2 x4 x5 x6 xt0 xt1 S = some (res, S9) → ∀ (H : Heap) (locs : List Loc) (ls : Array Slot), zW B S H → va_S B.2.2.2 s.heap H locs → lv_has ls 9 [(0, .ref (B.2.1 3 (0) (15))), (1, .ref (B.2.1 0 (r1) (0))), (2, .int (zI (x2))), (3, .ref (B.2.1 0 (r1) (6))), (4, .int (zI (x4))), (5, .int (zI (x5))), (6, .int (zI (x6)))] → W p l e zm_A_fret s m args below meth c H locs 0 0 (MQ below (zQv B S9) args s 0 0 B.2.2.2) (F0 m 92 ls [.int (zI (xt1)), .int (zI (xt0))]) := by
  intro x2 x4 x5 x6 xt0 xt1 S nx2 nx4 nx5 nx6 nxt0 nxt1 hf H locs ls hW hS hl
  unfold zf_A_fret_92 at hf
  refine zr_iadd C zd_A_fret_92 ?_
  obtain ⟨v1, ev1, hf⟩ := zlt_some hf
  have nv1 : zn v1 := by rw [← ev1]; exact (zn_w _)
  rw [ev1]
  refine lv_istore (lv' := [(7, .int (zI (v1))), (0, .ref (B.2.1 3 (0) (15))), (1, .ref (B.2.1 0 (r1) (0))), (2, .int (zI (x2))), (3, .ref (B.2.1 0 (r1) (6))), (4, .int (zI (x4))), (5, .int (zI (x5))), (6, .int (zI (x6)))]) C.1 C.2.1 zd_A_fret_93 hl (by decide) rfl (fun ls hl => ?_)
  refine lv_iload C.1 C.2.1 zd_A_fret_95 (lv_at hl 0 rfl) ?_
  refine lv_iload C.1 C.2.1 zd_A_fret_97 (lv_at hl 5 rfl) ?_
  refine zr_if_ne (tgt := 117) C nx4 zd_A_fret_99 (by decide) (fun c2 => ?_) (fun c2 => ?_)
  · rw [if_neg c2] at hf
    exact zw_A_fret_117 C hr hlk hK hSt hap r1 hr1 q29 hq29 (x2) (x4) (x5) (x6) (v1) S nx2 nx4 nx5 nx6 nv1 hf _ _ _ hW hS (lv_sub hl [1, 2, 3, 4, 5, 6, 7] rfl)
  · rw [if_pos c2] at hf
    refine lv_aload_n C.1 C.2.1 zd_A_fret_102 rfl (lv_at hl 1 rfl) ?_
    refine zg_A_rears (r := 0) C hK hW (zvd_3 (by decide) (by decide)) zk_471 zd_A_fret_103 ?_
    refine lv_iload C.1 C.2.1 zd_A_fret_106 (lv_at hl 7 rfl) ?_
    obtain ⟨h3, hf⟩ := zck_some hf
    refine ziald C hK hW (zvd_3 (by decide) (by decide)) (fun f => ze_3_19 B f (0)) (by decide) h3 zd_A_fret_108 ?_
    refine zr_iconst C zd_A_fret_109 ?_
    refine zr_icmp_ne (tgt := 117) C (zWn hW _ _ _ _ rfl) (znb rfl) zd_A_fret_110 (by decide) (fun c4 => ?_) (fun c4 => ?_)
    · rw [if_neg c4] at hf
      exact zw_A_fret_117 C hr hlk hK hSt hap r1 hr1 q29 hq29 (x2) (x4) (x5) (x6) (v1) S nx2 nx4 nx5 nx6 nv1 hf _ _ _ hW hS (lv_sub hl [1, 2, 3, 4, 5, 6, 7] rfl)
    · rw [if_pos c4] at hf
      refine zr_iconst C zd_A_fret_113 ?_
      refine lv_goto (tgt := 118) C.1 C.2.1 zd_A_fret_114 (by decide) ?_
      exact zw_A_fret_118 C hr hlk hK hSt hap r1 hr1 q29 hq29 (x2) (x4) (x5) (x6) (v1) (2) S nx2 nx4 nx5 nx6 nv1 (znb rfl) hf _ _ _ hW hS (lv_sub hl [1, 2, 3, 4, 5, 6, 7] rfl)

def zf_A_fret_67 (r1 : Int) (q29 : Int → Int → Int → Int → Sg → Option (Int × Sg)) (x2 : Int) (x4 : Int) (x5 : Int) (x6 : Int) (xt0 : Int) (S : Sg) : Option (Int × Sg) :=
    zck (0 ≤ x6 ∧ x6 < 40) <| zck (0 ≤ (S 0 r1 8 x6) ∧ (S 0 r1 8 x6) < 12) <| if (S 0 r1 5 (S 0 r1 8 x6)) = 1 then (zf_A_fret_92 r1 q29 (x2) (x4) (x5) (x6) (xt0) (1) S) else (zf_A_fret_92 r1 q29 (x2) (x4) (x5) (x6) (xt0) (0) S)
set_option maxHeartbeats 4000000 in
set_option maxRecDepth 100000 in
theorem zw_A_fret_67 {p : Program} {l : Launch} {e : Env} {s : State} {m : MethodId} {args : Array Value} {below : List Frame} {meth : Method} {c : Code} {B : zB} (C : CallFix p m c zb_A_fret 9 s args zT "IslandOffice$Almanac") (hr : meth.sig.returnType = none) (hlk : meth.locks = false) (hK : zK B s) (hSt : zSt B s) (hap : zAp B) (r1 : Int) (hr1 : 0 ≤ r1 ∧ r1 < 3) {res : Int} {S9 : Sg} (q29 : Int → Int → Int → Int → Sg → Option (Int × Sg)) (hq29 : ∀ (x2 : Int) (x4 : Int) (x5 : Int) (x6 : Int) (S : Sg) (nx2 : zn x2) (nx4 : zn x4) (nx5 : zn x5) (nx6 : zn x6), q29 x2 x4 x5 x6 S = some (res, S9) → ∀ (H : Heap) (locs : List Loc) (ls : Array Slot), zW B S H → va_S B.2.2.2 s.heap H locs → lv_has ls 9 [(0, .ref (B.2.1 3 (0) (15))), (1, .ref (B.2.1 0 (r1) (0))), (2, .int (zI (x2))), (3, .ref (B.2.1 0 (r1) (6))), (4, .int (zI (x4))), (5, .int (zI (x5))), (6, .int (zI (x6)))] → W p l e zm_A_fret s m args below meth c H locs 0 0 (MQ below (zQv B S9) args s 0 0 B.2.2.2) (F0 m 29 ls [])) : ∀ (x2 : Int) (x4 : Int) (x5 : Int) (x6 : Int) (xt0 : Int) (S : Sg) (nx2 : zn x2) (nx4 : zn x4) (nx5 : zn x5) (nx6 : zn x6) (nxt0 : zn xt0), zf_A_fret_67 r1 q29 x2 x4 x5 x6 xt0 S = some (res, S9) → ∀ (H : Heap) (locs : List Loc) (ls : Array Slot), zW B S H → va_S B.2.2.2 s.heap H locs → lv_has ls 9 [(0, .ref (B.2.1 3 (0) (15))), (1, .ref (B.2.1 0 (r1) (0))), (2, .int (zI (x2))), (3, .ref (B.2.1 0 (r1) (6))), (4, .int (zI (x4))), (5, .int (zI (x5))), (6, .int (zI (x6)))] → W p l e zm_A_fret s m args below meth c H locs 0 0 (MQ below (zQv B S9) args s 0 0 B.2.2.2) (F0 m 67 ls [.int (zI (xt0))]) := by
  intro x2 x4 x5 x6 xt0 S nx2 nx4 nx5 nx6 nxt0 hf H locs ls hW hS hl
  unfold zf_A_fret_67 at hf
  refine lv_istore (lv' := [(7, .int (zI (xt0))), (0, .ref (B.2.1 3 (0) (15))), (1, .ref (B.2.1 0 (r1) (0))), (2, .int (zI (x2))), (3, .ref (B.2.1 0 (r1) (6))), (4, .int (zI (x4))), (5, .int (zI (x5))), (6, .int (zI (x6)))]) C.1 C.2.1 zd_A_fret_67 hl (by decide) rfl (fun ls hl => ?_)
  refine lv_iload C.1 C.2.1 zd_A_fret_69 (lv_at hl 0 rfl) ?_
  refine lv_aload_n C.1 C.2.1 zd_A_fret_71 rfl (lv_at hl 2 rfl) ?_
  refine zg_I_dry (r := r1) C hK hW (zvd_0 hr1 (by decide)) zk_276 zd_A_fret_72 ?_
  refine lv_aload_n C.1 C.2.1 zd_A_fret_75 rfl (lv_at hl 4 rfl) ?_
  refine zg_P_house (r := r1) C hK hW (zvd_0 hr1 (by decide)) zk_62 zd_A_fret_76 ?_
  refine lv_iload C.1 C.2.1 zd_A_fret_79 (lv_at hl 7 rfl) ?_
  obtain ⟨h1, hf⟩ := zck_some hf
  refine ziald C hK hW (zvd_0 hr1 (by decide)) (fun f => ze_0_8 B f (r1)) (by decide) h1 zd_A_fret_81 ?_
  obtain ⟨h2, hf⟩ := zck_some hf
  refine ziald C hK hW (zvd_0 hr1 (by decide)) (fun f => ze_0_5 B f (r1)) (by decide) h2 zd_A_fret_82 ?_
  refine zr_iconst C zd_A_fret_83 ?_
  refine zr_icmp_ne (tgt := 91) C (zWn hW _ _ _ _ rfl) (znb rfl) zd_A_fret_84 (by decide) (fun c3 => ?_) (fun c3 => ?_)
  · rw [if_neg c3] at hf
    refine zr_iconst C zd_A_fret_91 ?_
    exact zw_A_fret_92 C hr hlk hK hSt hap r1 hr1 q29 hq29 (x2) (x4) (x5) (x6) (xt0) (0) S nx2 nx4 nx5 nx6 nxt0 (znb rfl) hf _ _ _ hW hS (lv_sub hl [1, 2, 3, 4, 5, 6, 7] rfl)
  · rw [if_pos c3] at hf
    refine zr_iconst C zd_A_fret_87 ?_
    refine lv_goto (tgt := 92) C.1 C.2.1 zd_A_fret_88 (by decide) ?_
    exact zw_A_fret_92 C hr hlk hK hSt hap r1 hr1 q29 hq29 (x2) (x4) (x5) (x6) (xt0) (1) S nx2 nx4 nx5 nx6 nxt0 (znb rfl) hf _ _ _ hW hS (lv_sub hl [1, 2, 3, 4, 5, 6, 7] rfl)

def zf_A_fret_29 (r1 : Int) : Nat → Int → Int → Int → Int → Sg → Option (Int × Sg)
  | 0, _, _, _, _, _ => none
  | n + 1, x2, x4, x5, x6, S =>
    if (S 0 r1 6 0) ≤ x6 then (some (0, S)) else (zck (0 ≤ x6 ∧ x6 < 40) <| if (S 0 r1 11 x6) = 0 then (if (S 0 r1 15 x6) = 1 then (zf_A_fret_67 r1 (zf_A_fret_29 r1 n) (x2) (x4) (x5) (x6) (2) S) else (zf_A_fret_67 r1 (zf_A_fret_29 r1 n) (x2) (x4) (x5) (x6) (0) S)) else (zf_A_fret_205 r1 (zf_A_fret_29 r1 n) (x2) (x4) (x5) (x6) S))
set_option maxHeartbeats 4000000 in
set_option maxRecDepth 100000 in
theorem zw_A_fret_29 {p : Program} {l : Launch} {e : Env} {s : State} {m : MethodId} {args : Array Value} {below : List Frame} {meth : Method} {c : Code} {B : zB} (C : CallFix p m c zb_A_fret 9 s args zT "IslandOffice$Almanac") (hr : meth.sig.returnType = none) (hlk : meth.locks = false) (hK : zK B s) (hSt : zSt B s) (hap : zAp B) (r1 : Int) (hr1 : 0 ≤ r1 ∧ r1 < 3) {res : Int} {S9 : Sg} : ∀ n : Nat, ∀ (x2 : Int) (x4 : Int) (x5 : Int) (x6 : Int) (S : Sg) (nx2 : zn x2) (nx4 : zn x4) (nx5 : zn x5) (nx6 : zn x6), zf_A_fret_29 r1 n x2 x4 x5 x6 S = some (res, S9) → ∀ (H : Heap) (locs : List Loc) (ls : Array Slot), zW B S H → va_S B.2.2.2 s.heap H locs → lv_has ls 9 [(0, .ref (B.2.1 3 (0) (15))), (1, .ref (B.2.1 0 (r1) (0))), (2, .int (zI (x2))), (3, .ref (B.2.1 0 (r1) (6))), (4, .int (zI (x4))), (5, .int (zI (x5))), (6, .int (zI (x6)))] → W p l e zm_A_fret s m args below meth c H locs 0 0 (MQ below (zQv B S9) args s 0 0 B.2.2.2) (F0 m 29 ls []) := by
  intro n
  induction n with
  | zero =>
    intro x2 x4 x5 x6 S nx2 nx4 nx5 nx6 hf H locs ls hW hS hl
    cases hf
  | succ n ih =>
    intro x2 x4 x5 x6 S nx2 nx4 nx5 nx6 hf H locs ls hW hS hl
    rw [zf_A_fret_29] at hf
    refine lv_iload C.1 C.2.1 zd_A_fret_29 (lv_at hl 6 rfl) ?_
    refine lv_aload_n C.1 C.2.1 zd_A_fret_31 rfl (lv_at hl 3 rfl) ?_
    refine zg_P_n (r := r1) C hK hW (zvd_0 hr1 (by decide)) zk_54 zd_A_fret_32 ?_
    refine zr_icmp_ge (tgt := 211) C nx6 (zWn hW _ _ _ _ rfl) zd_A_fret_35 (by decide) (fun c1 => ?_) (fun c1 => ?_)
    · rw [if_pos c1] at hf
      cases hf
      exact zre_v C hr hlk hK hW hS zd_A_fret_211
    · rw [if_neg c1] at hf
      refine lv_aload_n C.1 C.2.1 zd_A_fret_38 rfl (lv_at hl 3 rfl) ?_
      refine zg_P_state (r := r1) C hK hW (zvd_0 hr1 (by decide)) zk_72 zd_A_fret_39 ?_
      refine lv_iload C.1 C.2.1 zd_A_fret_42 (lv_at hl 6 rfl) ?_
      obtain ⟨h2, hf⟩ := zck_some hf
      refine ziald C hK hW (zvd_0 hr1 (by decide)) (fun f => ze_0_11 B f (r1)) (by decide) h2 zd_A_fret_44 ?_
      refine zr_if_eq (tgt := 51) C (zWn hW _ _ _ _ rfl) zd_A_fret_45 (by decide) (fun c3 => ?_) (fun c3 => ?_)
      · rw [if_pos c3] at hf
        refine lv_aload_n C.1 C.2.1 zd_A_fret_51 rfl (lv_at hl 3 rfl) ?_
        refine zg_P_hungry (r := r1) C hK hW (zvd_0 hr1 (by decide)) zk_85 zd_A_fret_52 ?_
        refine lv_iload C.1 C.2.1 zd_A_fret_55 (lv_at hl 6 rfl) ?_
        refine ziald C hK hW (zvd_0 hr1 (by decide)) (fun f => ze_0_15 B f (r1)) (by decide) h2 zd_A_fret_57 ?_
        refine zr_iconst C zd_A_fret_58 ?_
        refine zr_icmp_ne (tgt := 66) C (zWn hW _ _ _ _ rfl) (znb rfl) zd_A_fret_59 (by decide) (fun c4 => ?_) (fun c4 => ?_)
        · rw [if_neg c4] at hf
          refine zr_iconst C zd_A_fret_66 ?_
          exact zw_A_fret_67 C hr hlk hK hSt hap r1 hr1 (zf_A_fret_29 r1 n) (ih) (x2) (x4) (x5) (x6) (0) S nx2 nx4 nx5 nx6 (znb rfl) hf _ _ _ hW hS (lv_sub hl [0, 1, 2, 3, 4, 5, 6] rfl)
        · rw [if_pos c4] at hf
          refine zr_iconst C zd_A_fret_62 ?_
          refine lv_goto (tgt := 67) C.1 C.2.1 zd_A_fret_63 (by decide) ?_
          exact zw_A_fret_67 C hr hlk hK hSt hap r1 hr1 (zf_A_fret_29 r1 n) (ih) (x2) (x4) (x5) (x6) (2) S nx2 nx4 nx5 nx6 (znb rfl) hf _ _ _ hW hS (lv_sub hl [0, 1, 2, 3, 4, 5, 6] rfl)
      · rw [if_neg c3] at hf
        refine lv_goto (tgt := 205) C.1 C.2.1 zd_A_fret_48 (by decide) ?_
        exact zw_A_fret_205 C hr hlk hK hSt hap r1 hr1 (zf_A_fret_29 r1 n) (ih) (x2) (x4) (x5) (x6) S nx2 nx4 nx5 nx6 hf _ _ _ hW hS (lv_sub hl [0, 1, 2, 3, 4, 5, 6] rfl)

def zf_A_fret (r1 : Int) (x2 : Int) (S : Sg) : Option (Int × Sg) :=
    zbd (zf_A_isFilled (r1) 1 S) fun a1 S2 => zbd (zf_A_isFilled (r1) 2 S2) fun a3 S4 => zbd (zf_A_noteCares (r1) S4) fun a5 S6 => zf_A_fret_29 r1 4096 (x2) (a1) (a3) (0) S6
set_option maxHeartbeats 4000000 in
set_option maxRecDepth 100000 in
theorem zw_A_fret {p : Program} {l : Launch} {e : Env} {s : State} {m : MethodId} {args : Array Value} {below : List Frame} {meth : Method} {c : Code} {B : zB} (C : CallFix p m c zb_A_fret 9 s args zT "IslandOffice$Almanac") (hr : meth.sig.returnType = none) (hlk : meth.locks = false) (hK : zK B s) (hSt : zSt B s) (hap : zAp B) (r1 : Int) (hr1 : 0 ≤ r1 ∧ r1 < 3) {res : Int} {S9 : Sg} : ∀ (x2 : Int) (S : Sg) (nx2 : zn x2), zf_A_fret r1 x2 S = some (res, S9) → ∀ (H : Heap) (locs : List Loc) (ls : Array Slot), zW B S H → va_S B.2.2.2 s.heap H locs → lv_has ls 9 [(0, .ref (B.2.1 3 (0) (15))), (1, .ref (B.2.1 0 (r1) (0))), (2, .int (zI (x2)))] → W p l e zm_A_fret s m args below meth c H locs 0 0 (MQ below (zQv B S9) args s 0 0 B.2.2.2) (F0 m 0 ls []) := by
  intro x2 S nx2 hf H locs ls hW hS hl
  unfold zf_A_fret at hf
  refine lv_aload_n C.1 C.2.1 zd_A_fret_0 rfl (lv_at hl 1 rfl) ?_
  refine zg_I_people (r := r1) C hK hW (zvd_0 hr1 (by decide)) zk_281 zd_A_fret_1 ?_
  refine lv_astore_n (lv' := [(3, .ref (B.2.1 0 (r1) (6))), (0, .ref (B.2.1 3 (0) (15))), (1, .ref (B.2.1 0 (r1) (0))), (2, .int (zI (x2)))]) C.1 C.2.1 zd_A_fret_4 rfl hl (by decide) rfl (fun ls hl => ?_)
  refine lv_aload_n C.1 C.2.1 zd_A_fret_5 rfl (lv_at hl 1 rfl) ?_
  refine lv_aload_n C.1 C.2.1 zd_A_fret_6 rfl (lv_at hl 2 rfl) ?_
  refine zr_iconst C zd_A_fret_7 ?_
  obtain ⟨a1, S2, ea1, hf⟩ := zbd_some hf
  refine zcVi (As := [.ref (B.2.1 0 (r1) (0)), .int (zI (1))]) (rest := []) C hK hSt hW hS (zc_A_isFilled hap (r1) hr1 1 S (znb rfl) ea1) zq_A_isFilled zk_1010 (zrecv hK hW (zvd_3 (by decide) (by decide)) (ze_3_15 B _ (0)) rfl) ⟨rfl, rfl, by decide, by decide⟩ ⟨Nat.zero_le _, Nat.zero_le _⟩ rfl hl.1 rfl (lv_room (Nat.le_of_ble_eq_true rfl)) zd_A_fret_8 (fun na1 H locs hW hS => ?_)
  refine lv_istore (lv' := [(4, .int (zI (a1))), (3, .ref (B.2.1 0 (r1) (6))), (0, .ref (B.2.1 3 (0) (15))), (1, .ref (B.2.1 0 (r1) (0))), (2, .int (zI (x2)))]) C.1 C.2.1 zd_A_fret_11 hl (by decide) rfl (fun ls hl => ?_)
  refine lv_aload_n C.1 C.2.1 zd_A_fret_13 rfl (lv_at hl 2 rfl) ?_
  refine lv_aload_n C.1 C.2.1 zd_A_fret_14 rfl (lv_at hl 3 rfl) ?_
  refine zr_iconst C zd_A_fret_15 ?_
  obtain ⟨a3, S4, ea3, hf⟩ := zbd_some hf
  refine zcVi (As := [.ref (B.2.1 0 (r1) (0)), .int (zI (2))]) (rest := []) C hK hSt hW hS (zc_A_isFilled hap (r1) hr1 2 S2 (znb rfl) ea3) zq_A_isFilled zk_1010 (zrecv hK hW (zvd_3 (by decide) (by decide)) (ze_3_15 B _ (0)) rfl) ⟨rfl, rfl, by decide, by decide⟩ ⟨Nat.zero_le _, Nat.zero_le _⟩ rfl hl.1 rfl (lv_room (Nat.le_of_ble_eq_true rfl)) zd_A_fret_16 (fun na3 H locs hW hS => ?_)
  refine lv_istore (lv' := [(5, .int (zI (a3))), (4, .int (zI (a1))), (3, .ref (B.2.1 0 (r1) (6))), (0, .ref (B.2.1 3 (0) (15))), (1, .ref (B.2.1 0 (r1) (0))), (2, .int (zI (x2)))]) C.1 C.2.1 zd_A_fret_19 hl (by decide) rfl (fun ls hl => ?_)
  refine lv_aload_n C.1 C.2.1 zd_A_fret_21 rfl (lv_at hl 3 rfl) ?_
  refine lv_aload_n C.1 C.2.1 zd_A_fret_22 rfl (lv_at hl 4 rfl) ?_
  obtain ⟨a5, S6, ea5, hf⟩ := zbd_some hf
  refine zcVv (As := [.ref (B.2.1 0 (r1) (0))]) (rest := []) C hK hSt hW hS (zc_A_noteCares hap (r1) hr1 S4 ea5) zq_A_noteCares zk_1014 (zrecv hK hW (zvd_3 (by decide) (by decide)) (ze_3_15 B _ (0)) rfl) ⟨rfl, rfl, by decide, by decide⟩ ⟨Nat.zero_le _, Nat.zero_le _⟩ rfl hl.1 rfl (lv_room (Nat.le_of_ble_eq_true rfl)) zd_A_fret_23 (fun H locs hW hS => ?_)
  refine zr_iconst C zd_A_fret_26 ?_
  refine lv_istore (lv' := [(6, .int (zI (0))), (5, .int (zI (a3))), (4, .int (zI (a1))), (3, .ref (B.2.1 0 (r1) (6))), (0, .ref (B.2.1 3 (0) (15))), (1, .ref (B.2.1 0 (r1) (0))), (2, .int (zI (x2)))]) C.1 C.2.1 zd_A_fret_27 hl (by decide) rfl (fun ls hl => ?_)
  exact zw_A_fret_29 C hr hlk hK hSt hap r1 hr1 4096 (x2) (a1) (a3) (0) S6 nx2 na1 na3 (znb rfl) hf _ _ _ hW hS (lv_sub hl [4, 5, 6, 3, 2, 1, 0] rfl)

theorem zc_A_fret {l : Launch} {B : zB} (hap : zAp B) (r1 : Int) (hr1 : 0 ≤ r1 ∧ r1 < 3) (x2 : Int) (S : Sg) (nx2 : zn x2) {res : Int} {S9 : Sg} (hf : zf_A_fret r1 x2 S = some (res, S9)) : Met l zy_A_fret (Cond.code zy_A_fret zb_A_fret 9 (none) :: zT) zm_A_fret (zP B S [.ref (B.2.1 3 (0) (15)), .ref (B.2.1 0 (r1) (0)), .int (zI (x2))]) (zQv B S9) 0 0 B.2.2.2 :=
  zmet (by decide) (Nat.le_of_ble_eq_true rfl) (fun p e s m args below meth c C hr hlk hK hSt hW ls hl => zw_A_fret C hr hlk hK hSt hap r1 hr1 x2 S nx2 hf _ _ _ hW va_S.rf hl)
/-! IslandOffice$Almanac.graze(LIslandOffice$Island;)V -/
abbrev zy_A_graze : MethodName := ⟨"IslandOffice$Almanac", "graze", "(LIslandOffice$Island;)V"⟩
abbrev zb_A_graze : ByteArray := prog_2_method_7_code
abbrev zm_A_graze : Room := { frames := 1, cells := 0, slots := 0, locals := 64 }
theorem zq_A_graze : zMs zy_A_graze zb_A_graze 5 (none) 1 := ⟨zk_962, zk_961, zk_13, by decide, by decide, by decide +kernel⟩
theorem zd_A_graze_0 : decode zb_A_graze 0 = .ok (.aload_n 0, 1) := by decide +kernel
theorem zd_A_graze_1 : decode zb_A_graze 1 = .ok (.getfield 90, 3) := by decide +kernel
theorem zd_A_graze_4 : decode zb_A_graze 4 = .ok (.getfield 171, 3) := by decide +kernel
theorem zd_A_graze_7 : decode zb_A_graze 7 = .ok (.astore_n 1, 1) := by decide +kernel
theorem zd_A_graze_8 : decode zb_A_graze 8 = .ok (.iconst 0, 1) := by decide +kernel
theorem zd_A_graze_9 : decode zb_A_graze 9 = .ok (.istore_n 2, 1) := by decide +kernel
theorem zd_A_graze_10 : decode zb_A_graze 10 = .ok (.iload_n 2, 1) := by decide +kernel
theorem zd_A_graze_11 : decode zb_A_graze 11 = .ok (.bipush 12, 2) := by decide +kernel
theorem zd_A_graze_13 : decode zb_A_graze 13 = .ok (.if_icmp .ge 67, 3) := by decide +kernel
theorem zd_A_graze_16 : decode zb_A_graze 16 = .ok (.aload_n 0, 1) := by decide +kernel
theorem zd_A_graze_17 : decode zb_A_graze 17 = .ok (.getfield 161, 3) := by decide +kernel
theorem zd_A_graze_20 : decode zb_A_graze 20 = .ok (.iload_n 2, 1) := by decide +kernel
theorem zd_A_graze_21 : decode zb_A_graze 21 = .ok (.iaload, 1) := by decide +kernel
theorem zd_A_graze_22 : decode zb_A_graze 22 = .ok (.aload_n 0, 1) := by decide +kernel
theorem zd_A_graze_23 : decode zb_A_graze 23 = .ok (.getfield 150, 3) := by decide +kernel
theorem zd_A_graze_26 : decode zb_A_graze 26 = .ok (.invokestatic 174, 3) := by decide +kernel
theorem zd_A_graze_29 : decode zb_A_graze 29 = .ok (.istore_n 3, 1) := by decide +kernel
theorem zd_A_graze_30 : decode zb_A_graze 30 = .ok (.aload_n 0, 1) := by decide +kernel
theorem zd_A_graze_31 : decode zb_A_graze 31 = .ok (.dup, 1) := by decide +kernel
theorem zd_A_graze_32 : decode zb_A_graze 32 = .ok (.getfield 150, 3) := by decide +kernel
theorem zd_A_graze_35 : decode zb_A_graze 35 = .ok (.iload_n 3, 1) := by decide +kernel
theorem zd_A_graze_36 : decode zb_A_graze 36 = .ok (.isub, 1) := by decide +kernel
theorem zd_A_graze_37 : decode zb_A_graze 37 = .ok (.putfield 150, 3) := by decide +kernel
theorem zd_A_graze_40 : decode zb_A_graze 40 = .ok (.aload_n 0, 1) := by decide +kernel
theorem zd_A_graze_41 : decode zb_A_graze 41 = .ok (.getfield 161, 3) := by decide +kernel
theorem zd_A_graze_44 : decode zb_A_graze 44 = .ok (.iload_n 2, 1) := by decide +kernel
theorem zd_A_graze_45 : decode zb_A_graze 45 = .ok (.iaload, 1) := by decide +kernel
theorem zd_A_graze_46 : decode zb_A_graze 46 = .ok (.iload_n 3, 1) := by decide +kernel
theorem zd_A_graze_47 : decode zb_A_graze 47 = .ok (.isub, 1) := by decide +kernel
theorem zd_A_graze_48 : decode zb_A_graze 48 = .ok (.aload_n 1, 1) := by decide +kernel
theorem zd_A_graze_49 : decode zb_A_graze 49 = .ok (.iconst 2, 1) := by decide +kernel
theorem zd_A_graze_50 : decode zb_A_graze 50 = .ok (.iaload, 1) := by decide +kernel
theorem zd_A_graze_51 : decode zb_A_graze 51 = .ok (.invokestatic 174, 3) := by decide +kernel
theorem zd_A_graze_54 : decode zb_A_graze 54 = .ok (.istore 4, 2) := by decide +kernel
theorem zd_A_graze_56 : decode zb_A_graze 56 = .ok (.aload_n 1, 1) := by decide +kernel
theorem zd_A_graze_57 : decode zb_A_graze 57 = .ok (.iconst 2, 1) := by decide +kernel
theorem zd_A_graze_58 : decode zb_A_graze 58 = .ok (.dup2, 1) := by decide +kernel
theorem zd_A_graze_59 : decode zb_A_graze 59 = .ok (.iaload, 1) := by decide +kernel
theorem zd_A_graze_60 : decode zb_A_graze 60 = .ok (.iload 4, 2) := by decide +kernel
theorem zd_A_graze_62 : decode zb_A_graze 62 = .ok (.isub, 1) := by decide +kernel
theorem zd_A_graze_63 : decode zb_A_graze 63 = .ok (.iastore, 1) := by decide +kernel
theorem zd_A_graze_64 : decode zb_A_graze 64 = .ok (.aload_n 0, 1) := by decide +kernel
theorem zd_A_graze_65 : decode zb_A_graze 65 = .ok (.getfield 161, 3) := by decide +kernel
theorem zd_A_graze_68 : decode zb_A_graze 68 = .ok (.iload_n 2, 1) := by decide +kernel
theorem zd_A_graze_69 : decode zb_A_graze 69 = .ok (.iload_n 3, 1) := by decide +kernel
theorem zd_A_graze_70 : decode zb_A_graze 70 = .ok (.iload 4, 2) := by decide +kernel
theorem zd_A_graze_72 : decode zb_A_graze 72 = .ok (.iadd, 1) := by decide +kernel
theorem zd_A_graze_73 : decode zb_A_graze 73 = .ok (.iastore, 1) := by decide +kernel
theorem zd_A_graze_74 : decode zb_A_graze 74 = .ok (.iinc 2 1, 3) := by decide +kernel
theorem zd_A_graze_77 : decode zb_A_graze 77 = .ok (.goto (-67), 3) := by decide +kernel
theorem zd_A_graze_80 : decode zb_A_graze 80 = .ok (.return_, 1) := by decide +kernel

def zf_A_graze_10 (r0 : Int) : Nat → Int → Sg → Option (Int × Sg)
  | 0, _, _ => none
  | n + 1, x2, S =>
    if 12 ≤ x2 then (some (0, S)) else (zck (0 ≤ x2 ∧ x2 < 12) <| zlt (min (S 0 r0 2 x2) (S 0 r0 0 4)) fun v3 => zlt (zu S 0 r0 0 4 (zw ((S 0 r0 0 4) - v3))) fun S4 => zlt (min (zw ((S4 0 r0 2 x2) - v3)) (S4 0 r0 32 2)) fun v5 => zlt (zu S4 0 r0 32 2 (zw ((S4 0 r0 32 2) - v5))) fun S6 => zlt (zu S6 0 r0 2 x2 (zw (v3 + v5))) fun S7 => zlt (zw (x2 + 1)) fun v8 => (zf_A_graze_10 r0 n) (v8) S7)
set_option maxHeartbeats 4000000 in
set_option maxRecDepth 100000 in
theorem zw_A_graze_10 {p : Program} {l : Launch} {e : Env} {s : State} {m : MethodId} {args : Array Value} {below : List Frame} {meth : Method} {c : Code} {B : zB} (C : CallFix p m c zb_A_graze 5 s args zT "IslandOffice$Almanac") (hr : meth.sig.returnType = none) (hlk : meth.locks = false) (hK : zK B s) (hSt : zSt B s) (hap : zAp B) (r0 : Int) (hr0 : 0 ≤ r0 ∧ r0 < 3) {res : Int} {S9 : Sg} : ∀ n : Nat, ∀ (x2 : Int) (S : Sg) (nx2 : zn x2), zf_A_graze_10 r0 n x2 S = some (res, S9) → ∀ (H : Heap) (locs : List Loc) (ls : Array Slot), zW B S H → va_S B.2.2.2 s.heap H locs → lv_has ls 5 [(0, .ref (B.2.1 0 (r0) (0))), (1, .ref (B.2.1 0 (r0) (32))), (2, .int (zI (x2)))] → W p l e zm_A_graze s m args below meth c H locs 0 0 (MQ below (zQv B S9) args s 0 0 B.2.2.2) (F0 m 10 ls []) := by
  intro n
  induction n with
  | zero =>
    intro x2 S nx2 hf H locs ls hW hS hl
    cases hf
  | succ n ih =>
    intro x2 S nx2 hf H locs ls hW hS hl
    rw [zf_A_graze_10] at hf
    refine lv_iload_n C.1 C.2.1 zd_A_graze_10 rfl (lv_at hl 2 rfl) ?_
    refine zr_bipush C zd_A_graze_11 (by decide) ?_
    refine zr_icmp_ge (tgt := 80) C nx2 (znb rfl) zd_A_graze_13 (by decide) (fun c1 => ?_) (fun c1 => ?_)
    · rw [if_pos c1] at hf
      cases hf
      exact zre_v C hr hlk hK hW hS zd_A_graze_80
    · rw [if_neg c1] at hf
      refine lv_aload_n C.1 C.2.1 zd_A_graze_16 rfl (lv_at hl 0 rfl) ?_
      refine zg_I_cattle (r := r0) C hK hW (zvd_0 hr0 (by decide)) zk_267 zd_A_graze_17 ?_
      refine lv_iload_n C.1 C.2.1 zd_A_graze_20 rfl (lv_at hl 2 rfl) ?_
      obtain ⟨h2, hf⟩ := zck_some hf
      refine ziald C hK hW (zvd_0 hr0 (by decide)) (fun f => ze_0_2 B f (r0)) (by decide) h2 zd_A_graze_21 ?_
      refine lv_aload_n C.1 C.2.1 zd_A_graze_22 rfl (lv_at hl 0 rfl) ?_
      refine zg_I_grass (r := r0) C hK hW (zvd_0 hr0 (by decide)) zk_254 zd_A_graze_23 ?_
      refine zr_min C hl.1 (zWn hW _ _ _ _ rfl) (zWn hW _ _ _ _ rfl) zk_963 zk_909 zk_16 zk_910 (by decide) (Nat.le_of_ble_eq_true rfl) ⟨by decide, by decide⟩ zd_A_graze_26 ?_
      obtain ⟨v3, ev3, hf⟩ := zlt_some hf
      have nv3 : zn v3 := by rw [← ev3]; exact (zn_min (zWn hW _ _ _ _ rfl) (zWn hW _ _ _ _ rfl))
      rw [ev3]
      refine lv_istore_n (lv' := [(3, .int (zI (v3))), (0, .ref (B.2.1 0 (r0) (0))), (1, .ref (B.2.1 0 (r0) (32))), (2, .int (zI (x2)))]) C.1 C.2.1 zd_A_graze_29 rfl hl (by decide) rfl (fun ls hl => ?_)
      refine lv_aload_n C.1 C.2.1 zd_A_graze_30 rfl (lv_at hl 1 rfl) ?_
      refine lv_dup C.1 C.2.1 zd_A_graze_31 rfl ?_
      refine zg_I_grass (r := r0) C hK hW (zvd_0 hr0 (by decide)) zk_254 zd_A_graze_32 ?_
      refine lv_iload_n C.1 C.2.1 zd_A_graze_35 rfl (lv_at hl 0 rfl) ?_
      refine zr_isub C zd_A_graze_36 ?_
      obtain ⟨S4, eS4, hf⟩ := zlt_some hf
      refine zp_I_grass (r := r0) C hK hap hW hS (zvd_0 hr0 (by decide)) zk_254 (zn_w _) zd_A_graze_37 (fun H locs hW hS => ?_)
      rw [eS4] at hW
      refine lv_aload_n C.1 C.2.1 zd_A_graze_40 rfl (lv_at hl 1 rfl) ?_
      refine zg_I_cattle (r := r0) C hK hW (zvd_0 hr0 (by decide)) zk_267 zd_A_graze_41 ?_
      refine lv_iload_n C.1 C.2.1 zd_A_graze_44 rfl (lv_at hl 3 rfl) ?_
      refine ziald C hK hW (zvd_0 hr0 (by decide)) (fun f => ze_0_2 B f (r0)) (by decide) h2 zd_A_graze_45 ?_
      refine lv_iload_n C.1 C.2.1 zd_A_graze_46 rfl (lv_at hl 0 rfl) ?_
      refine zr_isub C zd_A_graze_47 ?_
      refine lv_aload_n C.1 C.2.1 zd_A_graze_48 rfl (lv_at hl 2 rfl) ?_
      refine zr_iconst C zd_A_graze_49 ?_
      refine ziald C hK hW (zvd_0 hr0 (by decide)) (fun f => ze_0_32 B f (r0)) (by decide) (by decide) zd_A_graze_50 ?_
      refine zr_min C hl.1 (zn_w _) (zWn hW _ _ _ _ rfl) zk_963 zk_909 zk_16 zk_910 (by decide) (Nat.le_of_ble_eq_true rfl) ⟨by decide, by decide⟩ zd_A_graze_51 ?_
      obtain ⟨v5, ev5, hf⟩ := zlt_some hf
      have nv5 : zn v5 := by rw [← ev5]; exact (zn_min (zn_w _) (zWn hW _ _ _ _ rfl))
      rw [ev5]
      refine lv_istore (lv' := [(4, .int (zI (v5))), (3, .int (zI (v3))), (0, .ref (B.2.1 0 (r0) (0))), (1, .ref (B.2.1 0 (r0) (32))), (2, .int (zI (x2)))]) C.1 C.2.1 zd_A_graze_54 hl (by decide) rfl (fun ls hl => ?_)
      refine lv_aload_n C.1 C.2.1 zd_A_graze_56 rfl (lv_at hl 3 rfl) ?_
      refine zr_iconst C zd_A_graze_57 ?_
      refine lv_dup2_11 C.1 C.2.1 zd_A_graze_58 rfl rfl ?_
      refine ziald C hK hW (zvd_0 hr0 (by decide)) (fun f => ze_0_32 B f (r0)) (by decide) (by decide) zd_A_graze_59 ?_
      refine lv_iload C.1 C.2.1 zd_A_graze_60 (lv_at hl 0 rfl) ?_
      refine zr_isub C zd_A_graze_62 ?_
      obtain ⟨S6, eS6, hf⟩ := zlt_some hf
      refine ziast C hK hap hW hS (zvd_0 hr0 (by decide)) (fun f => ze_0_32 B f (r0)) (by decide) rfl (zn_w _) (by decide) zd_A_graze_63 (fun H locs hW hS => ?_)
      rw [eS6] at hW
      refine lv_aload_n C.1 C.2.1 zd_A_graze_64 rfl (lv_at hl 2 rfl) ?_
      refine zg_I_cattle (r := r0) C hK hW (zvd_0 hr0 (by decide)) zk_267 zd_A_graze_65 ?_
      refine lv_iload_n C.1 C.2.1 zd_A_graze_68 rfl (lv_at hl 4 rfl) ?_
      refine lv_iload_n C.1 C.2.1 zd_A_graze_69 rfl (lv_at hl 1 rfl) ?_
      refine lv_iload C.1 C.2.1 zd_A_graze_70 (lv_at hl 0 rfl) ?_
      refine zr_iadd C zd_A_graze_72 ?_
      obtain ⟨S7, eS7, hf⟩ := zlt_some hf
      refine ziast C hK hap hW hS (zvd_0 hr0 (by decide)) (fun f => ze_0_2 B f (r0)) (by decide) rfl (zn_w _) h2 zd_A_graze_73 (fun H locs hW hS => ?_)
      rw [eS7] at hW
      obtain ⟨v8, ev8, hf⟩ := zlt_some hf
      have nv8 : zn v8 := by rw [← ev8]; exact zn_w _
      refine lv_iinc (v := zI v8) (lv' := [(2, .int (zI (v8))), (4, .int (zI (v5))), (3, .int (zI (v3))), (0, .ref (B.2.1 0 (r0) (0))), (1, .ref (B.2.1 0 (r0) (32)))]) C.1 C.2.1 zd_A_graze_74 hl (k := 4) rfl (by rw [← ev8, ← zI_add]; rfl) (by decide) rfl (fun ls hl => ?_)
      refine lv_goto (tgt := 10) C.1 C.2.1 zd_A_graze_77 (by decide) ?_
      exact ih (v8) S7 nv8 hf _ _ _ hW hS (lv_sub hl [3, 4, 0] rfl)

def zf_A_graze (r0 : Int) (S : Sg) : Option (Int × Sg) :=
    zf_A_graze_10 r0 4096 (0) S
set_option maxHeartbeats 4000000 in
set_option maxRecDepth 100000 in
theorem zw_A_graze {p : Program} {l : Launch} {e : Env} {s : State} {m : MethodId} {args : Array Value} {below : List Frame} {meth : Method} {c : Code} {B : zB} (C : CallFix p m c zb_A_graze 5 s args zT "IslandOffice$Almanac") (hr : meth.sig.returnType = none) (hlk : meth.locks = false) (hK : zK B s) (hSt : zSt B s) (hap : zAp B) (r0 : Int) (hr0 : 0 ≤ r0 ∧ r0 < 3) {res : Int} {S9 : Sg} : ∀  (S : Sg) , zf_A_graze r0  S = some (res, S9) → ∀ (H : Heap) (locs : List Loc) (ls : Array Slot), zW B S H → va_S B.2.2.2 s.heap H locs → lv_has ls 5 [(0, .ref (B.2.1 0 (r0) (0)))] → W p l e zm_A_graze s m args below meth c H locs 0 0 (MQ below (zQv B S9) args s 0 0 B.2.2.2) (F0 m 0 ls []) := by
  intro S hf H locs ls hW hS hl
  unfold zf_A_graze at hf
  refine lv_aload_n C.1 C.2.1 zd_A_graze_0 rfl (lv_at hl 0 rfl) ?_
  refine zg_I_stores (r := r0) C hK hW (zvd_0 hr0 (by decide)) zk_291 zd_A_graze_1 ?_
  refine zg_T_stock (r := r0) C hK hW (zvd_0 hr0 (by decide)) zk_198 zd_A_graze_4 ?_
  refine lv_astore_n (lv' := [(1, .ref (B.2.1 0 (r0) (32))), (0, .ref (B.2.1 0 (r0) (0)))]) C.1 C.2.1 zd_A_graze_7 rfl hl (by decide) rfl (fun ls hl => ?_)
  refine zr_iconst C zd_A_graze_8 ?_
  refine lv_istore_n (lv' := [(2, .int (zI (0))), (1, .ref (B.2.1 0 (r0) (32))), (0, .ref (B.2.1 0 (r0) (0)))]) C.1 C.2.1 zd_A_graze_9 rfl hl (by decide) rfl (fun ls hl => ?_)
  exact zw_A_graze_10 C hr hlk hK hSt hap r0 hr0 4096 (0) S (znb rfl) hf _ _ _ hW hS (lv_sub hl [2, 1, 0] rfl)

theorem zc_A_graze {l : Launch} {B : zB} (hap : zAp B) (r0 : Int) (hr0 : 0 ≤ r0 ∧ r0 < 3) (S : Sg) {res : Int} {S9 : Sg} (hf : zf_A_graze r0 S = some (res, S9)) : Met l zy_A_graze (Cond.code zy_A_graze zb_A_graze 5 (none) :: zT) zm_A_graze (zP B S [.ref (B.2.1 0 (r0) (0))]) (zQv B S9) 0 0 B.2.2.2 :=
  zmet (by decide) (Nat.le_of_ble_eq_true rfl) (fun p e s m args below meth c C hr hlk hK hSt hW ls hl => zw_A_graze C hr hlk hK hSt hap r0 hr0  S  hf _ _ _ hW va_S.rf hl)
/-! IslandOffice$Almanac.lands(LIslandOffice$Island;Z)Z -/
abbrev zy_A_lands : MethodName := ⟨"IslandOffice$Almanac", "lands", "(LIslandOffice$Island;Z)Z"⟩
abbrev zb_A_lands : ByteArray := prog_2_method_9_code
abbrev zm_A_lands : Room := { frames := 0, cells := 0, slots := 0, locals := 0 }
theorem zq_A_lands : zMs zy_A_lands zb_A_lands 3 (some .boolean) 2 := ⟨zk_976, zk_975, zk_13, by decide, by decide, by decide +kernel⟩
theorem zd_A_lands_0 : decode zb_A_lands 0 = .ok (.aload_n 0, 1) := by decide +kernel
theorem zd_A_lands_1 : decode zb_A_lands 1 = .ok (.getfield 87, 3) := by decide +kernel
theorem zd_A_lands_4 : decode zb_A_lands 4 = .ok (.ifCond .lt 22, 3) := by decide +kernel
theorem zd_A_lands_7 : decode zb_A_lands 7 = .ok (.aload_n 0, 1) := by decide +kernel
theorem zd_A_lands_8 : decode zb_A_lands 8 = .ok (.getfield 87, 3) := by decide +kernel
theorem zd_A_lands_11 : decode zb_A_lands 11 = .ok (.iconst 4, 1) := by decide +kernel
theorem zd_A_lands_12 : decode zb_A_lands 12 = .ok (.idiv, 1) := by decide +kernel
theorem zd_A_lands_13 : decode zb_A_lands 13 = .ok (.aload_n 0, 1) := by decide +kernel
theorem zd_A_lands_14 : decode zb_A_lands 14 = .ok (.getfield 45, 3) := by decide +kernel
theorem zd_A_lands_17 : decode zb_A_lands 17 = .ok (.iconst 4, 1) := by decide +kernel
theorem zd_A_lands_18 : decode zb_A_lands 18 = .ok (.idiv, 1) := by decide +kernel
theorem zd_A_lands_19 : decode zb_A_lands 19 = .ok (.if_icmp .ne 7, 3) := by decide +kernel
theorem zd_A_lands_22 : decode zb_A_lands 22 = .ok (.iconst 1, 1) := by decide +kernel
theorem zd_A_lands_23 : decode zb_A_lands 23 = .ok (.goto 4, 3) := by decide +kernel
theorem zd_A_lands_26 : decode zb_A_lands 26 = .ok (.iconst 0, 1) := by decide +kernel
theorem zd_A_lands_27 : decode zb_A_lands 27 = .ok (.istore_n 2, 1) := by decide +kernel
theorem zd_A_lands_28 : decode zb_A_lands 28 = .ok (.aload_n 0, 1) := by decide +kernel
theorem zd_A_lands_29 : decode zb_A_lands 29 = .ok (.getfield 45, 3) := by decide +kernel
theorem zd_A_lands_32 : decode zb_A_lands 32 = .ok (.iconst 4, 1) := by decide +kernel
theorem zd_A_lands_33 : decode zb_A_lands 33 = .ok (.if_icmp .lt 15, 3) := by decide +kernel
theorem zd_A_lands_36 : decode zb_A_lands 36 = .ok (.iload_n 1, 1) := by decide +kernel
theorem zd_A_lands_37 : decode zb_A_lands 37 = .ok (.ifCond .eq 11, 3) := by decide +kernel
theorem zd_A_lands_40 : decode zb_A_lands 40 = .ok (.iload_n 2, 1) := by decide +kernel
theorem zd_A_lands_41 : decode zb_A_lands 41 = .ok (.ifCond .ne 7, 3) := by decide +kernel
theorem zd_A_lands_44 : decode zb_A_lands 44 = .ok (.iconst 1, 1) := by decide +kernel
theorem zd_A_lands_45 : decode zb_A_lands 45 = .ok (.goto 4, 3) := by decide +kernel
theorem zd_A_lands_48 : decode zb_A_lands 48 = .ok (.iconst 0, 1) := by decide +kernel
theorem zd_A_lands_49 : decode zb_A_lands 49 = .ok (.ireturn, 1) := by decide +kernel

def zf_A_lands_27 (r0 : Int) (x1 : Int) (xt0 : Int) (S : Sg) : Option (Int × Sg) :=
    if (S 0 r0 0 0) < 4 then (some (0, S)) else (if x1 = 0 then (some (0, S)) else (if xt0 = 0 then (some (1, S)) else (some (0, S))))
set_option maxHeartbeats 4000000 in
set_option maxRecDepth 100000 in
theorem zw_A_lands_27 {p : Program} {l : Launch} {e : Env} {s : State} {m : MethodId} {args : Array Value} {below : List Frame} {meth : Method} {c : Code} {B : zB} (C : CallFix p m c zb_A_lands 3 s args zT "IslandOffice$Almanac") (hr : meth.sig.returnType = some .boolean) (hlk : meth.locks = false) (hK : zK B s) (hSt : zSt B s) (hap : zAp B) (r0 : Int) (hr0 : 0 ≤ r0 ∧ r0 < 3) {res : Int} {S9 : Sg} : ∀ (x1 : Int) (xt0 : Int) (S : Sg) (nx1 : zn x1) (nxt0 : zn xt0), zf_A_lands_27 r0 x1 xt0 S = some (res, S9) → ∀ (H : Heap) (locs : List Loc) (ls : Array Slot), zW B S H → va_S B.2.2.2 s.heap H locs → lv_has ls 3 [(0, .ref (B.2.1 0 (r0) (0))), (1, .int (zI (x1)))] → W p l e zm_A_lands s m args below meth c H locs 0 0 (MQ below (zQi B res S9) args s 0 0 B.2.2.2) (F0 m 27 ls [.int (zI (xt0))]) := by
  intro x1 xt0 S nx1 nxt0 hf H locs ls hW hS hl
  unfold zf_A_lands_27 at hf
  refine lv_istore_n (lv' := [(2, .int (zI (xt0))), (0, .ref (B.2.1 0 (r0) (0))), (1, .int (zI (x1)))]) C.1 C.2.1 zd_A_lands_27 rfl hl (by decide) rfl (fun ls hl => ?_)
  refine lv_aload_n C.1 C.2.1 zd_A_lands_28 rfl (lv_at hl 1 rfl) ?_
  refine zg_I_week (r := r0) C hK hW (zvd_0 hr0 (by decide)) zk_240 zd_A_lands_29 ?_
  refine zr_iconst C zd_A_lands_32 ?_
  refine zr_icmp_lt (tgt := 48) C (zWn hW _ _ _ _ rfl) (znb rfl) zd_A_lands_33 (by decide) (fun c1 => ?_) (fun c1 => ?_)
  · rw [if_pos c1] at hf
    refine zr_iconst C zd_A_lands_48 ?_
    cases hf
    exact zre_z C hr hlk hK hW hS (znb rfl) (zb01 (by decide)) zd_A_lands_49
  · rw [if_neg c1] at hf
    refine lv_iload_n C.1 C.2.1 zd_A_lands_36 rfl (lv_at hl 2 rfl) ?_
    refine zr_if_eq (tgt := 48) C nx1 zd_A_lands_37 (by decide) (fun c2 => ?_) (fun c2 => ?_)
    · rw [if_pos c2] at hf
      refine zr_iconst C zd_A_lands_48 ?_
      cases hf
      exact zre_z C hr hlk hK hW hS (znb rfl) (zb01 (by decide)) zd_A_lands_49
    · rw [if_neg c2] at hf
      refine lv_iload_n C.1 C.2.1 zd_A_lands_40 rfl (lv_at hl 0 rfl) ?_
      refine zr_if_ne (tgt := 48) C nxt0 zd_A_lands_41 (by decide) (fun c3 => ?_) (fun c3 => ?_)
      · rw [if_neg c3] at hf
        refine zr_iconst C zd_A_lands_48 ?_
        cases hf
        exact zre_z C hr hlk hK hW hS (znb rfl) (zb01 (by decide)) zd_A_lands_49
      · rw [if_pos c3] at hf
        refine zr_iconst C zd_A_lands_44 ?_
        refine lv_goto (tgt := 49) C.1 C.2.1 zd_A_lands_45 (by decide) ?_
        cases hf
        exact zre_z C hr hlk hK hW hS (znb rfl) (zb01 (by decide)) zd_A_lands_49

def zf_A_lands_26 (r0 : Int) (x1 : Int) (S : Sg) : Option (Int × Sg) :=
    zf_A_lands_27 r0 (x1) (0) S
set_option maxHeartbeats 4000000 in
set_option maxRecDepth 100000 in
theorem zw_A_lands_26 {p : Program} {l : Launch} {e : Env} {s : State} {m : MethodId} {args : Array Value} {below : List Frame} {meth : Method} {c : Code} {B : zB} (C : CallFix p m c zb_A_lands 3 s args zT "IslandOffice$Almanac") (hr : meth.sig.returnType = some .boolean) (hlk : meth.locks = false) (hK : zK B s) (hSt : zSt B s) (hap : zAp B) (r0 : Int) (hr0 : 0 ≤ r0 ∧ r0 < 3) {res : Int} {S9 : Sg} : ∀ (x1 : Int) (S : Sg) (nx1 : zn x1), zf_A_lands_26 r0 x1 S = some (res, S9) → ∀ (H : Heap) (locs : List Loc) (ls : Array Slot), zW B S H → va_S B.2.2.2 s.heap H locs → lv_has ls 3 [(0, .ref (B.2.1 0 (r0) (0))), (1, .int (zI (x1)))] → W p l e zm_A_lands s m args below meth c H locs 0 0 (MQ below (zQi B res S9) args s 0 0 B.2.2.2) (F0 m 26 ls []) := by
  intro x1 S nx1 hf H locs ls hW hS hl
  unfold zf_A_lands_26 at hf
  refine zr_iconst C zd_A_lands_26 ?_
  exact zw_A_lands_27 C hr hlk hK hSt hap r0 hr0 (x1) (0) S nx1 (znb rfl) hf _ _ _ hW hS (lv_sub hl [0, 1] rfl)

def zf_A_lands (r0 : Int) (x1 : Int) (S : Sg) : Option (Int × Sg) :=
    if (S 0 r0 0 6) < 0 then (zf_A_lands_26 r0 (x1) S) else (if (zdiv (S 0 r0 0 6) 4) = (zdiv (S 0 r0 0 0) 4) then (zf_A_lands_27 r0 (x1) (1) S) else (zf_A_lands_26 r0 (x1) S))
set_option maxHeartbeats 4000000 in
set_option maxRecDepth 100000 in
theorem zw_A_lands {p : Program} {l : Launch} {e : Env} {s : State} {m : MethodId} {args : Array Value} {below : List Frame} {meth : Method} {c : Code} {B : zB} (C : CallFix p m c zb_A_lands 3 s args zT "IslandOffice$Almanac") (hr : meth.sig.returnType = some .boolean) (hlk : meth.locks = false) (hK : zK B s) (hSt : zSt B s) (hap : zAp B) (r0 : Int) (hr0 : 0 ≤ r0 ∧ r0 < 3) {res : Int} {S9 : Sg} : ∀ (x1 : Int) (S : Sg) (nx1 : zn x1), zf_A_lands r0 x1 S = some (res, S9) → ∀ (H : Heap) (locs : List Loc) (ls : Array Slot), zW B S H → va_S B.2.2.2 s.heap H locs → lv_has ls 3 [(0, .ref (B.2.1 0 (r0) (0))), (1, .int (zI (x1)))] → W p l e zm_A_lands s m args below meth c H locs 0 0 (MQ below (zQi B res S9) args s 0 0 B.2.2.2) (F0 m 0 ls []) := by
  intro x1 S nx1 hf H locs ls hW hS hl
  unfold zf_A_lands at hf
  refine lv_aload_n C.1 C.2.1 zd_A_lands_0 rfl (lv_at hl 0 rfl) ?_
  refine zg_I_landed (r := r0) C hK hW (zvd_0 hr0 (by decide)) zk_260 zd_A_lands_1 ?_
  refine zr_if_lt (tgt := 26) C (zWn hW _ _ _ _ rfl) zd_A_lands_4 (by decide) (fun c1 => ?_) (fun c1 => ?_)
  · rw [if_pos c1] at hf
    exact zw_A_lands_26 C hr hlk hK hSt hap r0 hr0 (x1) S nx1 hf _ _ _ hW hS (lv_sub hl [0, 1] rfl)
  · rw [if_neg c1] at hf
    refine lv_aload_n C.1 C.2.1 zd_A_lands_7 rfl (lv_at hl 0 rfl) ?_
    refine zg_I_landed (r := r0) C hK hW (zvd_0 hr0 (by decide)) zk_260 zd_A_lands_8 ?_
    refine zr_iconst C zd_A_lands_11 ?_
    refine zr_idiv C (zWn hW _ _ _ _ rfl) (znb rfl) (by decide) zd_A_lands_12 ?_
    refine lv_aload_n C.1 C.2.1 zd_A_lands_13 rfl (lv_at hl 0 rfl) ?_
    refine zg_I_week (r := r0) C hK hW (zvd_0 hr0 (by decide)) zk_240 zd_A_lands_14 ?_
    refine zr_iconst C zd_A_lands_17 ?_
    refine zr_idiv C (zWn hW _ _ _ _ rfl) (znb rfl) (by decide) zd_A_lands_18 ?_
    refine zr_icmp_ne (tgt := 26) C (zn_div _ _) (zn_div _ _) zd_A_lands_19 (by decide) (fun c2 => ?_) (fun c2 => ?_)
    · rw [if_neg c2] at hf
      exact zw_A_lands_26 C hr hlk hK hSt hap r0 hr0 (x1) S nx1 hf _ _ _ hW hS (lv_sub hl [0, 1] rfl)
    · rw [if_pos c2] at hf
      refine zr_iconst C zd_A_lands_22 ?_
      refine lv_goto (tgt := 27) C.1 C.2.1 zd_A_lands_23 (by decide) ?_
      exact zw_A_lands_27 C hr hlk hK hSt hap r0 hr0 (x1) (1) S nx1 (znb rfl) hf _ _ _ hW hS (lv_sub hl [0, 1] rfl)

theorem zc_A_lands {l : Launch} {B : zB} (hap : zAp B) (r0 : Int) (hr0 : 0 ≤ r0 ∧ r0 < 3) (x1 : Int) (S : Sg) (nx1 : zn x1) {res : Int} {S9 : Sg} (hf : zf_A_lands r0 x1 S = some (res, S9)) : Met l zy_A_lands (Cond.code zy_A_lands zb_A_lands 3 (some .boolean) :: zT) zm_A_lands (zP B S [.ref (B.2.1 0 (r0) (0)), .int (zI (x1))]) (zQi B res S9) 0 0 B.2.2.2 :=
  zmet (by decide) (Nat.le_of_ble_eq_true rfl) (fun p e s m args below meth c C hr hlk hK hSt hW ls hl => zw_A_lands C hr hlk hK hSt hap r0 hr0 x1 S nx1 hf _ _ _ hW va_S.rf hl)
/-! IslandOffice$People.goAway(I)V -/
abbrev zy_P_goAway : MethodName := ⟨"IslandOffice$People", "goAway", "(I)V"⟩
abbrev zb_P_goAway : ByteArray := prog_7_method_14_code
abbrev zm_P_goAway : Room := { frames := 0, cells := 0, slots := 0, locals := 0 }
theorem zq_P_goAway : zMy zy_P_goAway zb_P_goAway 2 (none) 1 := ⟨zk_1038, zk_1036, zk_1037, zk_4, by decide, by decide, by decide +kernel⟩
theorem zd_P_goAway_0 : decode zb_P_goAway 0 = .ok (.aload_n 0, 1) := by decide +kernel
theorem zd_P_goAway_1 : decode zb_P_goAway 1 = .ok (.getfield 28, 3) := by decide +kernel
theorem zd_P_goAway_4 : decode zb_P_goAway 4 = .ok (.iload_n 1, 1) := by decide +kernel
theorem zd_P_goAway_5 : decode zb_P_goAway 5 = .ok (.iconst 1, 1) := by decide +kernel
theorem zd_P_goAway_6 : decode zb_P_goAway 6 = .ok (.iastore, 1) := by decide +kernel
theorem zd_P_goAway_7 : decode zb_P_goAway 7 = .ok (.aload_n 0, 1) := by decide +kernel
theorem zd_P_goAway_8 : decode zb_P_goAway 8 = .ok (.getfield 34, 3) := by decide +kernel
theorem zd_P_goAway_11 : decode zb_P_goAway 11 = .ok (.iload_n 1, 1) := by decide +kernel
theorem zd_P_goAway_12 : decode zb_P_goAway 12 = .ok (.iconst 0, 1) := by decide +kernel
theorem zd_P_goAway_13 : decode zb_P_goAway 13 = .ok (.iastore, 1) := by decide +kernel
theorem zd_P_goAway_14 : decode zb_P_goAway 14 = .ok (.return_, 1) := by decide +kernel

def zf_P_goAway (r0 : Int) (x1 : Int) (S : Sg) : Option (Int × Sg) :=
    zck (0 ≤ x1 ∧ x1 < 40) <| zlt (zu S 0 r0 11 x1 1) fun S2 => zlt (zu S2 0 r0 13 x1 0) fun S3 => some (0, S3)
set_option maxHeartbeats 4000000 in
set_option maxRecDepth 100000 in
theorem zw_P_goAway {p : Program} {l : Launch} {e : Env} {s : State} {m : MethodId} {args : Array Value} {below : List Frame} {meth : Method} {c : Code} {B : zB} (C : CallFix p m c zb_P_goAway 2 s args zT "IslandOffice$People") (hr : meth.sig.returnType = none) (hlk : meth.locks = false) (hK : zK B s) (hSt : zSt B s) (hap : zAp B) (r0 : Int) (hr0 : 0 ≤ r0 ∧ r0 < 3) {res : Int} {S9 : Sg} : ∀ (x1 : Int) (S : Sg) (nx1 : zn x1), zf_P_goAway r0 x1 S = some (res, S9) → ∀ (H : Heap) (locs : List Loc) (ls : Array Slot), zW B S H → va_S B.2.2.2 s.heap H locs → lv_has ls 2 [(0, .ref (B.2.1 0 (r0) (6))), (1, .int (zI (x1)))] → W p l e zm_P_goAway s m args below meth c H locs 0 0 (MQ below (zQv B S9) args s 0 0 B.2.2.2) (F0 m 0 ls []) := by
  intro x1 S nx1 hf H locs ls hW hS hl
  unfold zf_P_goAway at hf
  refine lv_aload_n C.1 C.2.1 zd_P_goAway_0 rfl (lv_at hl 0 rfl) ?_
  refine zg_P_state (r := r0) C hK hW (zvd_0 hr0 (by decide)) zk_70 zd_P_goAway_1 ?_
  refine lv_iload_n C.1 C.2.1 zd_P_goAway_4 rfl (lv_at hl 1 rfl) ?_
  refine zr_iconst C zd_P_goAway_5 ?_
  obtain ⟨h1, hf⟩ := zck_some hf
  obtain ⟨S2, eS2, hf⟩ := zlt_some hf
  refine ziast C hK hap hW hS (zvd_0 hr0 (by decide)) (fun f => ze_0_11 B f (r0)) (by decide) rfl (znb rfl) h1 zd_P_goAway_6 (fun H locs hW hS => ?_)
  rw [eS2] at hW
  refine lv_aload_n C.1 C.2.1 zd_P_goAway_7 rfl (lv_at hl 0 rfl) ?_
  refine zg_P_discontent (r := r0) C hK hW (zvd_0 hr0 (by decide)) zk_77 zd_P_goAway_8 ?_
  refine lv_iload_n C.1 C.2.1 zd_P_goAway_11 rfl (lv_at hl 1 rfl) ?_
  refine zr_iconst C zd_P_goAway_12 ?_
  obtain ⟨S3, eS3, hf⟩ := zlt_some hf
  refine ziast C hK hap hW hS (zvd_0 hr0 (by decide)) (fun f => ze_0_13 B f (r0)) (by decide) rfl (znb rfl) h1 zd_P_goAway_13 (fun H locs hW hS => ?_)
  rw [eS3] at hW
  cases hf
  exact zre_v C hr hlk hK hW hS zd_P_goAway_14

theorem zc_P_goAway {l : Launch} {B : zB} (hap : zAp B) (r0 : Int) (hr0 : 0 ≤ r0 ∧ r0 < 3) (x1 : Int) (S : Sg) (nx1 : zn x1) {res : Int} {S9 : Sg} (hf : zf_P_goAway r0 x1 S = some (res, S9)) : Met l zy_P_goAway (Cond.code zy_P_goAway zb_P_goAway 2 (none) :: zT) zm_P_goAway (zP B S [.ref (B.2.1 0 (r0) (6)), .int (zI (x1))]) (zQv B S9) 0 0 B.2.2.2 :=
  zmet (by decide) (Nat.le_of_ble_eq_true rfl) (fun p e s m args below meth c C hr hlk hK hSt hW ls hl => zw_P_goAway C hr hlk hK hSt hap r0 hr0 x1 S nx1 hf _ _ _ hW va_S.rf hl)
/-! IslandOffice$Almanac.leave(LIslandOffice$Island;)V -/
abbrev zy_A_leave : MethodName := ⟨"IslandOffice$Almanac", "leave", "(LIslandOffice$Island;)V"⟩
abbrev zb_A_leave : ByteArray := prog_2_method_18_code
abbrev zm_A_leave : Room := { frames := 3, cells := 0, slots := 0, locals := 71 }
theorem zq_A_leave : zMy zy_A_leave zb_A_leave 7 (none) 1 := ⟨zk_1034, zk_1033, zs_37, zk_13, by decide, by decide, by decide +kernel⟩
theorem zd_A_leave_0 : decode zb_A_leave 0 = .ok (.aload_n 1, 1) := by decide +kernel
theorem zd_A_leave_1 : decode zb_A_leave 1 = .ok (.getfield 116, 3) := by decide +kernel
theorem zd_A_leave_4 : decode zb_A_leave 4 = .ok (.astore_n 2, 1) := by decide +kernel
theorem zd_A_leave_5 : decode zb_A_leave 5 = .ok (.iconst 0, 1) := by decide +kernel
theorem zd_A_leave_6 : decode zb_A_leave 6 = .ok (.istore_n 3, 1) := by decide +kernel
theorem zd_A_leave_7 : decode zb_A_leave 7 = .ok (.iload_n 3, 1) := by decide +kernel
theorem zd_A_leave_8 : decode zb_A_leave 8 = .ok (.aload_n 2, 1) := by decide +kernel
theorem zd_A_leave_9 : decode zb_A_leave 9 = .ok (.getfield 120, 3) := by decide +kernel
theorem zd_A_leave_12 : decode zb_A_leave 12 = .ok (.if_icmp .ge 128, 3) := by decide +kernel
theorem zd_A_leave_15 : decode zb_A_leave 15 = .ok (.aload_n 2, 1) := by decide +kernel
theorem zd_A_leave_16 : decode zb_A_leave 16 = .ok (.iload_n 3, 1) := by decide +kernel
theorem zd_A_leave_17 : decode zb_A_leave 17 = .ok (.aload_n 1, 1) := by decide +kernel
theorem zd_A_leave_18 : decode zb_A_leave 18 = .ok (.getfield 45, 3) := by decide +kernel
theorem zd_A_leave_21 : decode zb_A_leave 21 = .ok (.invokevirtual 222, 3) := by decide +kernel
theorem zd_A_leave_24 : decode zb_A_leave 24 = .ok (.istore 4, 2) := by decide +kernel
theorem zd_A_leave_26 : decode zb_A_leave 26 = .ok (.iload 4, 2) := by decide +kernel
theorem zd_A_leave_28 : decode zb_A_leave 28 = .ok (.ifCond .eq 9, 3) := by decide +kernel
theorem zd_A_leave_31 : decode zb_A_leave 31 = .ok (.iload 4, 2) := by decide +kernel
theorem zd_A_leave_33 : decode zb_A_leave 33 = .ok (.iconst 2, 1) := by decide +kernel
theorem zd_A_leave_34 : decode zb_A_leave 34 = .ok (.if_icmp .ne 22, 3) := by decide +kernel
theorem zd_A_leave_37 : decode zb_A_leave 37 = .ok (.aload_n 2, 1) := by decide +kernel
theorem zd_A_leave_38 : decode zb_A_leave 38 = .ok (.getfield 235, 3) := by decide +kernel
theorem zd_A_leave_41 : decode zb_A_leave 41 = .ok (.iload_n 3, 1) := by decide +kernel
theorem zd_A_leave_42 : decode zb_A_leave 42 = .ok (.iaload, 1) := by decide +kernel
theorem zd_A_leave_43 : decode zb_A_leave 43 = .ok (.aload_n 1, 1) := by decide +kernel
theorem zd_A_leave_44 : decode zb_A_leave 44 = .ok (.getfield 54, 3) := by decide +kernel
theorem zd_A_leave_47 : decode zb_A_leave 47 = .ok (.iconst 3, 1) := by decide +kernel
theorem zd_A_leave_48 : decode zb_A_leave 48 = .ok (.iaload, 1) := by decide +kernel
theorem zd_A_leave_49 : decode zb_A_leave 49 = .ok (.if_icmp .lt 7, 3) := by decide +kernel
theorem zd_A_leave_52 : decode zb_A_leave 52 = .ok (.iconst 1, 1) := by decide +kernel
theorem zd_A_leave_53 : decode zb_A_leave 53 = .ok (.goto 4, 3) := by decide +kernel
theorem zd_A_leave_56 : decode zb_A_leave 56 = .ok (.iconst 0, 1) := by decide +kernel
theorem zd_A_leave_57 : decode zb_A_leave 57 = .ok (.istore 5, 2) := by decide +kernel
theorem zd_A_leave_59 : decode zb_A_leave 59 = .ok (.iload 5, 2) := by decide +kernel
theorem zd_A_leave_61 : decode zb_A_leave 61 = .ok (.ifCond .eq 73, 3) := by decide +kernel
theorem zd_A_leave_64 : decode zb_A_leave 64 = .ok (.aload_n 0, 1) := by decide +kernel
theorem zd_A_leave_65 : decode zb_A_leave 65 = .ok (.getfield 9, 3) := by decide +kernel
theorem zd_A_leave_68 : decode zb_A_leave 68 = .ok (.aload_n 1, 1) := by decide +kernel
theorem zd_A_leave_69 : decode zb_A_leave 69 = .ok (.iconst 3, 1) := by decide +kernel
theorem zd_A_leave_70 : decode zb_A_leave 70 = .ok (.iload_n 3, 1) := by decide +kernel
theorem zd_A_leave_71 : decode zb_A_leave 71 = .ok (.invokevirtual 209, 3) := by decide +kernel
theorem zd_A_leave_74 : decode zb_A_leave 74 = .ok (.ifCond .ne 6, 3) := by decide +kernel
theorem zd_A_leave_77 : decode zb_A_leave 77 = .ok (.goto 57, 3) := by decide +kernel
theorem zd_A_leave_80 : decode zb_A_leave 80 = .ok (.aload_n 2, 1) := by decide +kernel
theorem zd_A_leave_81 : decode zb_A_leave 81 = .ok (.iload_n 3, 1) := by decide +kernel
theorem zd_A_leave_82 : decode zb_A_leave 82 = .ok (.invokevirtual 260, 3) := by decide +kernel
theorem zd_A_leave_85 : decode zb_A_leave 85 = .ok (.iconst 0, 1) := by decide +kernel
theorem zd_A_leave_86 : decode zb_A_leave 86 = .ok (.istore 6, 2) := by decide +kernel
theorem zd_A_leave_88 : decode zb_A_leave 88 = .ok (.iload 6, 2) := by decide +kernel
theorem zd_A_leave_90 : decode zb_A_leave 90 = .ok (.aload_n 2, 1) := by decide +kernel
theorem zd_A_leave_91 : decode zb_A_leave 91 = .ok (.getfield 120, 3) := by decide +kernel
theorem zd_A_leave_94 : decode zb_A_leave 94 = .ok (.if_icmp .ge 40, 3) := by decide +kernel
theorem zd_A_leave_97 : decode zb_A_leave 97 = .ok (.aload_n 2, 1) := by decide +kernel
theorem zd_A_leave_98 : decode zb_A_leave 98 = .ok (.getfield 225, 3) := by decide +kernel
theorem zd_A_leave_101 : decode zb_A_leave 101 = .ok (.iload 6, 2) := by decide +kernel
theorem zd_A_leave_103 : decode zb_A_leave 103 = .ok (.iaload, 1) := by decide +kernel
theorem zd_A_leave_104 : decode zb_A_leave 104 = .ok (.iload_n 3, 1) := by decide +kernel
theorem zd_A_leave_105 : decode zb_A_leave 105 = .ok (.if_icmp .ne 23, 3) := by decide +kernel
theorem zd_A_leave_108 : decode zb_A_leave 108 = .ok (.aload_n 2, 1) := by decide +kernel
theorem zd_A_leave_109 : decode zb_A_leave 109 = .ok (.iload 6, 2) := by decide +kernel
theorem zd_A_leave_111 : decode zb_A_leave 111 = .ok (.aload_n 1, 1) := by decide +kernel
theorem zd_A_leave_112 : decode zb_A_leave 112 = .ok (.getfield 45, 3) := by decide +kernel
theorem zd_A_leave_115 : decode zb_A_leave 115 = .ok (.invokevirtual 222, 3) := by decide +kernel
theorem zd_A_leave_118 : decode zb_A_leave 118 = .ok (.iconst 1, 1) := by decide +kernel
theorem zd_A_leave_119 : decode zb_A_leave 119 = .ok (.if_icmp .ne 9, 3) := by decide +kernel
theorem zd_A_leave_122 : decode zb_A_leave 122 = .ok (.aload_n 2, 1) := by decide +kernel
theorem zd_A_leave_123 : decode zb_A_leave 123 = .ok (.iload 6, 2) := by decide +kernel
theorem zd_A_leave_125 : decode zb_A_leave 125 = .ok (.invokevirtual 260, 3) := by decide +kernel
theorem zd_A_leave_128 : decode zb_A_leave 128 = .ok (.iinc 6 1, 3) := by decide +kernel
theorem zd_A_leave_131 : decode zb_A_leave 131 = .ok (.goto (-43), 3) := by decide +kernel
theorem zd_A_leave_134 : decode zb_A_leave 134 = .ok (.iinc 3 1, 3) := by decide +kernel
theorem zd_A_leave_137 : decode zb_A_leave 137 = .ok (.goto (-130), 3) := by decide +kernel
theorem zd_A_leave_140 : decode zb_A_leave 140 = .ok (.return_, 1) := by decide +kernel

def zf_A_leave_134 (r1 : Int) (q7 : Int → Sg → Option (Int × Sg)) (x3 : Int) (S : Sg) : Option (Int × Sg) :=
    zlt (zw (x3 + 1)) fun v1 => q7 (v1) S
set_option maxHeartbeats 4000000 in
set_option maxRecDepth 100000 in
theorem zw_A_leave_134 {p : Program} {l : Launch} {e : Env} {s : State} {m : MethodId} {args : Array Value} {below : List Frame} {meth : Method} {c : Code} {B : zB} (C : CallFix p m c zb_A_leave 7 s args zT "IslandOffice$Almanac") (hr : meth.sig.returnType = none) (hlk : meth.locks = false) (hK : zK B s) (hSt : zSt B s) (hap : zAp B) (r1 : Int) (hr1 : 0 ≤ r1 ∧ r1 < 3) {res : Int} {S9 : Sg} (q7 : Int → Sg → Option (Int × Sg)) (hq7 : ∀ (x3 : Int) (S : Sg) (nx3 : zn x3), q7 x3 S = some (res, S9) → ∀ (H : Heap) (locs : List Loc) (ls : Array Slot), zW B S H → va_S B.2.2.2 s.heap H locs → lv_has ls 7 [(0, .ref (B.2.1 3 (0) (15))), (1, .ref (B.2.1 0 (r1) (0))), (2, .ref (B.2.1 0 (r1) (6))), (3, .int (zI (x3)))] → W p l e zm_A_leave s m args below meth c H locs 0 0 (MQ below (zQv B S9) args s 0 0 B.2.2.2) (F0 m 7 ls [])) : ∀ (x3 : Int) (S : Sg) (nx3 : zn x3), zf_A_leave_134 r1 q7 x3 S = some (res, S9) → ∀ (H : Heap) (locs : List Loc) (ls : Array Slot), zW B S H → va_S B.2.2.2 s.heap H locs → lv_has ls 7 [(0, .ref (B.2.1 3 (0) (15))), (1, .ref (B.2.1 0 (r1) (0))), (2, .ref (B.2.1 0 (r1) (6))), (3, .int (zI (x3)))] → W p l e zm_A_leave s m args below meth c H locs 0 0 (MQ below (zQv B S9) args s 0 0 B.2.2.2) (F0 m 134 ls []) := by
  intro x3 S nx3 hf H locs ls hW hS hl
  unfold zf_A_leave_134 at hf
  obtain ⟨v1, ev1, hf⟩ := zlt_some hf
  have nv1 : zn v1 := by rw [← ev1]; exact zn_w _
  refine lv_iinc (v := zI v1) (lv' := [(3, .int (zI (v1))), (0, .ref (B.2.1 3 (0) (15))), (1, .ref (B.2.1 0 (r1) (0))), (2, .ref (B.2.1 0 (r1) (6)))]) C.1 C.2.1 zd_A_leave_134 hl (k := 3) rfl (by rw [← ev1, ← zI_add]; rfl) (by decide) rfl (fun ls hl => ?_)
  refine lv_goto (tgt := 7) C.1 C.2.1 zd_A_leave_137 (by decide) ?_
  exact hq7 (v1) S nv1 hf _ _ _ hW hS (lv_sub hl [1, 2, 3, 0] rfl)

def zf_A_leave_128 (r1 : Int) (q7 : Int → Sg → Option (Int × Sg)) (q88 : Int → Int → Sg → Option (Int × Sg)) (x3 : Int) (x6 : Int) (S : Sg) : Option (Int × Sg) :=
    zlt (zw (x6 + 1)) fun v1 => q88 (x3) (v1) S
set_option maxHeartbeats 4000000 in
set_option maxRecDepth 100000 in
theorem zw_A_leave_128 {p : Program} {l : Launch} {e : Env} {s : State} {m : MethodId} {args : Array Value} {below : List Frame} {meth : Method} {c : Code} {B : zB} (C : CallFix p m c zb_A_leave 7 s args zT "IslandOffice$Almanac") (hr : meth.sig.returnType = none) (hlk : meth.locks = false) (hK : zK B s) (hSt : zSt B s) (hap : zAp B) (r1 : Int) (hr1 : 0 ≤ r1 ∧ r1 < 3) {res : Int} {S9 : Sg} (q7 : Int → Sg → Option (Int × Sg)) (hq7 : ∀ (x3 : Int) (S : Sg) (nx3 : zn x3), q7 x3 S = some (res, S9) → ∀ (H : Heap) (locs : List Loc) (ls : Array Slot), zW B S H → va_S B.2.2.2 s.heap H locs → lv_has ls 7 [(0, .ref (B.2.1 3 (0) (15))), (1, .ref (B.2.1 0 (r1) (0))), (2, .ref (B.2.1 0 (r1) (6))), (3, .int (zI (x3)))] → W p l e zm_A_leave s m args below meth c H locs 0 0 (MQ below (zQv B S9) args s 0 0 B.2.2.2) (F0 m 7 ls [])) (q88 : Int → Int → Sg → Option (Int × Sg)) (hq88 : ∀ (x3 : Int) (x6 : Int) (S : Sg) (nx3 : zn x3) (nx6 : zn x6), q88 x3 x6 S = some (res, S9) → ∀ (H : Heap) (locs : List Loc) (ls : Array Slot), zW B S H → va_S B.2.2.2 s.heap H locs → lv_has ls 7 [(0, .ref (B.2.1 3 (0) (15))), (1, .ref (B.2.1 0 (r1) (0))), (2, .ref (B.2.1 0 (r1) (6))), (3, .int (zI (x3))), (6, .int (zI (x6)))] → W p l e zm_A_leave s m args below meth c H locs 0 0 (MQ below (zQv B S9) args s 0 0 B.2.2.2) (F0 m 88 ls [])) : ∀ (x3 : Int) (x6 : Int) (S : Sg) (nx3 : zn x3) (nx6 : zn x6), zf_A_leave_128 r1 q7 q88 x3 x6 S = some (res, S9) → ∀ (H : Heap) (locs : List Loc) (ls : Array Slot), zW B S H → va_S B.2.2.2 s.heap H locs → lv_has ls 7 [(0, .ref (B.2.1 3 (0) (15))), (1, .ref (B.2.1 0 (r1) (0))), (2, .ref (B.2.1 0 (r1) (6))), (3, .int (zI (x3))), (6, .int (zI (x6)))] → W p l e zm_A_leave s m args below meth c H locs 0 0 (MQ below (zQv B S9) args s 0 0 B.2.2.2) (F0 m 128 ls []) := by
  intro x3 x6 S nx3 nx6 hf H locs ls hW hS hl
  unfold zf_A_leave_128 at hf
  obtain ⟨v1, ev1, hf⟩ := zlt_some hf
  have nv1 : zn v1 := by rw [← ev1]; exact zn_w _
  refine lv_iinc (v := zI v1) (lv' := [(6, .int (zI (v1))), (0, .ref (B.2.1 3 (0) (15))), (1, .ref (B.2.1 0 (r1) (0))), (2, .ref (B.2.1 0 (r1) (6))), (3, .int (zI (x3)))]) C.1 C.2.1 zd_A_leave_128 hl (k := 4) rfl (by rw [← ev1, ← zI_add]; rfl) (by decide) rfl (fun ls hl => ?_)
  refine lv_goto (tgt := 88) C.1 C.2.1 zd_A_leave_131 (by decide) ?_
  exact hq88 (x3) (v1) S nx3 nv1 hf _ _ _ hW hS (lv_sub hl [1, 2, 3, 4, 0] rfl)

def zf_A_leave_88 (r1 : Int) (q7 : Int → Sg → Option (Int × Sg)) : Nat → Int → Int → Sg → Option (Int × Sg)
  | 0, _, _, _ => none
  | n + 1, x3, x6, S =>
    if (S 0 r1 6 0) ≤ x6 then (zf_A_leave_134 r1 q7 (x3) S) else (zck (0 ≤ x6 ∧ x6 < 40) <| if (S 0 r1 9 x6) = x3 then (zbd (zf_P_kind (r1) x6 (S 0 r1 0 0) S) fun a4 S5 => if a4 = 1 then (zbd (zf_P_goAway (r1) x6 S5) fun a7 S8 => zf_A_leave_128 r1 q7 (zf_A_leave_88 r1 q7 n) (x3) (x6) S8) else (zf_A_leave_128 r1 q7 (zf_A_leave_88 r1 q7 n) (x3) (x6) S5)) else (zf_A_leave_128 r1 q7 (zf_A_leave_88 r1 q7 n) (x3) (x6) S))
set_option maxHeartbeats 4000000 in
set_option maxRecDepth 100000 in
theorem zw_A_leave_88 {p : Program} {l : Launch} {e : Env} {s : State} {m : MethodId} {args : Array Value} {below : List Frame} {meth : Method} {c : Code} {B : zB} (C : CallFix p m c zb_A_leave 7 s args zT "IslandOffice$Almanac") (hr : meth.sig.returnType = none) (hlk : meth.locks = false) (hK : zK B s) (hSt : zSt B s) (hap : zAp B) (r1 : Int) (hr1 : 0 ≤ r1 ∧ r1 < 3) {res : Int} {S9 : Sg} (q7 : Int → Sg → Option (Int × Sg)) (hq7 : ∀ (x3 : Int) (S : Sg) (nx3 : zn x3), q7 x3 S = some (res, S9) → ∀ (H : Heap) (locs : List Loc) (ls : Array Slot), zW B S H → va_S B.2.2.2 s.heap H locs → lv_has ls 7 [(0, .ref (B.2.1 3 (0) (15))), (1, .ref (B.2.1 0 (r1) (0))), (2, .ref (B.2.1 0 (r1) (6))), (3, .int (zI (x3)))] → W p l e zm_A_leave s m args below meth c H locs 0 0 (MQ below (zQv B S9) args s 0 0 B.2.2.2) (F0 m 7 ls [])) : ∀ n : Nat, ∀ (x3 : Int) (x6 : Int) (S : Sg) (nx3 : zn x3) (nx6 : zn x6), zf_A_leave_88 r1 q7 n x3 x6 S = some (res, S9) → ∀ (H : Heap) (locs : List Loc) (ls : Array Slot), zW B S H → va_S B.2.2.2 s.heap H locs → lv_has ls 7 [(0, .ref (B.2.1 3 (0) (15))), (1, .ref (B.2.1 0 (r1) (0))), (2, .ref (B.2.1 0 (r1) (6))), (3, .int (zI (x3))), (6, .int (zI (x6)))] → W p l e zm_A_leave s m args below meth c H locs 0 0 (MQ below (zQv B S9) args s 0 0 B.2.2.2) (F0 m 88 ls []) := by
  intro n
  induction n with
  | zero =>
    intro x3 x6 S nx3 nx6 hf H locs ls hW hS hl
    cases hf
  | succ n ih =>
    intro x3 x6 S nx3 nx6 hf H locs ls hW hS hl
    rw [zf_A_leave_88] at hf
    refine lv_iload C.1 C.2.1 zd_A_leave_88 (lv_at hl 4 rfl) ?_
    refine lv_aload_n C.1 C.2.1 zd_A_leave_90 rfl (lv_at hl 2 rfl) ?_
    refine zg_P_n (r := r1) C hK hW (zvd_0 hr1 (by decide)) zk_54 zd_A_leave_91 ?_
    refine zr_icmp_ge (tgt := 134) C nx6 (zWn hW _ _ _ _ rfl) zd_A_leave_94 (by decide) (fun c1 => ?_) (fun c1 => ?_)
    · rw [if_pos c1] at hf
      exact zw_A_leave_134 C hr hlk hK hSt hap r1 hr1 q7 hq7 (x3) S nx3 hf _ _ _ hW hS (lv_sub hl [0, 1, 2, 3] rfl)
    · rw [if_neg c1] at hf
      refine lv_aload_n C.1 C.2.1 zd_A_leave_97 rfl (lv_at hl 2 rfl) ?_
      refine zg_P_mother (r := r1) C hK hW (zvd_0 hr1 (by decide)) zk_65 zd_A_leave_98 ?_
      refine lv_iload C.1 C.2.1 zd_A_leave_101 (lv_at hl 4 rfl) ?_
      obtain ⟨h2, hf⟩ := zck_some hf
      refine ziald C hK hW (zvd_0 hr1 (by decide)) (fun f => ze_0_9 B f (r1)) (by decide) h2 zd_A_leave_103 ?_
      refine lv_iload_n C.1 C.2.1 zd_A_leave_104 rfl (lv_at hl 3 rfl) ?_
      refine zr_icmp_ne (tgt := 128) C (zWn hW _ _ _ _ rfl) nx3 zd_A_leave_105 (by decide) (fun c3 => ?_) (fun c3 => ?_)
      · rw [if_neg c3] at hf
        exact zw_A_leave_128 C hr hlk hK hSt hap r1 hr1 q7 hq7 (zf_A_leave_88 r1 q7 n) (ih) (x3) (x6) S nx3 nx6 hf _ _ _ hW hS (lv_sub hl [0, 1, 2, 3, 4] rfl)
      · rw [if_pos c3] at hf
        refine lv_aload_n C.1 C.2.1 zd_A_leave_108 rfl (lv_at hl 2 rfl) ?_
        refine lv_iload C.1 C.2.1 zd_A_leave_109 (lv_at hl 4 rfl) ?_
        refine lv_aload_n C.1 C.2.1 zd_A_leave_111 rfl (lv_at hl 1 rfl) ?_
        refine zg_I_week (r := r1) C hK hW (zvd_0 hr1 (by decide)) zk_240 zd_A_leave_112 ?_
        obtain ⟨a4, S5, ea4, hf⟩ := zbd_some hf
        refine zcVi (As := [.int (zI (x6)), .int (zI (S 0 r1 0 0))]) (rest := []) C hK hSt hW hS (zc_P_kind hap (r1) hr1 x6 (S 0 r1 0 0) S nx6 (zWn hW _ _ _ _ rfl) ea4) zq_P_kind zk_1018 (zrecv hK hW (zvd_0 hr1 (by decide)) (ze_0_6 B _ (r1)) rfl) ⟨rfl, rfl, by decide, by decide⟩ ⟨Nat.zero_le _, Nat.zero_le _⟩ rfl hl.1 rfl (lv_room (Nat.le_of_ble_eq_true rfl)) zd_A_leave_115 (fun na4 H locs hW hS => ?_)
        refine zr_iconst C zd_A_leave_118 ?_
        refine zr_icmp_ne (tgt := 128) C na4 (znb rfl) zd_A_leave_119 (by decide) (fun c6 => ?_) (fun c6 => ?_)
        · rw [if_neg c6] at hf
          exact zw_A_leave_128 C hr hlk hK hSt hap r1 hr1 q7 hq7 (zf_A_leave_88 r1 q7 n) (ih) (x3) (x6) S5 nx3 nx6 hf _ _ _ hW hS (lv_sub hl [0, 1, 2, 3, 4] rfl)
        · rw [if_pos c6] at hf
          refine lv_aload_n C.1 C.2.1 zd_A_leave_122 rfl (lv_at hl 2 rfl) ?_
          refine lv_iload C.1 C.2.1 zd_A_leave_123 (lv_at hl 4 rfl) ?_
          obtain ⟨a7, S8, ea7, hf⟩ := zbd_some hf
          refine zcVv (As := [.int (zI (x6))]) (rest := []) C hK hSt hW hS (zc_P_goAway hap (r1) hr1 x6 S5 nx6 ea7) zq_P_goAway zk_1035 (zrecv hK hW (zvd_0 hr1 (by decide)) (ze_0_6 B _ (r1)) rfl) ⟨rfl, rfl, by decide, by decide⟩ ⟨Nat.zero_le _, Nat.zero_le _⟩ rfl hl.1 rfl (lv_room (Nat.le_of_ble_eq_true rfl)) zd_A_leave_125 (fun H locs hW hS => ?_)
          exact zw_A_leave_128 C hr hlk hK hSt hap r1 hr1 q7 hq7 (zf_A_leave_88 r1 q7 n) (ih) (x3) (x6) S8 nx3 nx6 hf _ _ _ hW hS (lv_sub hl [0, 1, 2, 3, 4] rfl)

def zf_A_leave_57 (r1 : Int) (q7 : Int → Sg → Option (Int × Sg)) (x3 : Int) (xt0 : Int) (S : Sg) : Option (Int × Sg) :=
    if xt0 = 0 then (zf_A_leave_134 r1 q7 (x3) S) else (zbd (zf_J_allows (r1) 3 x3 S) fun a2 S3 => if a2 = 0 then (zf_A_leave_134 r1 q7 (x3) S3) else (zbd (zf_P_goAway (r1) x3 S3) fun a5 S6 => zf_A_leave_88 r1 q7 4096 (x3) (0) S6))
set_option maxHeartbeats 4000000 in
set_option maxRecDepth 100000 in
theorem zw_A_leave_57 {p : Program} {l : Launch} {e : Env} {s : State} {m : MethodId} {args : Array Value} {below : List Frame} {meth : Method} {c : Code} {B : zB} (C : CallFix p m c zb_A_leave 7 s args zT "IslandOffice$Almanac") (hr : meth.sig.returnType = none) (hlk : meth.locks = false) (hK : zK B s) (hSt : zSt B s) (hap : zAp B) (r1 : Int) (hr1 : 0 ≤ r1 ∧ r1 < 3) {res : Int} {S9 : Sg} (q7 : Int → Sg → Option (Int × Sg)) (hq7 : ∀ (x3 : Int) (S : Sg) (nx3 : zn x3), q7 x3 S = some (res, S9) → ∀ (H : Heap) (locs : List Loc) (ls : Array Slot), zW B S H → va_S B.2.2.2 s.heap H locs → lv_has ls 7 [(0, .ref (B.2.1 3 (0) (15))), (1, .ref (B.2.1 0 (r1) (0))), (2, .ref (B.2.1 0 (r1) (6))), (3, .int (zI (x3)))] → W p l e zm_A_leave s m args below meth c H locs 0 0 (MQ below (zQv B S9) args s 0 0 B.2.2.2) (F0 m 7 ls [])) : ∀ (x3 : Int) (xt0 : Int) (S : Sg) (nx3 : zn x3) (nxt0 : zn xt0), zf_A_leave_57 r1 q7 x3 xt0 S = some (res, S9) → ∀ (H : Heap) (locs : List Loc) (ls : Array Slot), zW B S H → va_S B.2.2.2 s.heap H locs → lv_has ls 7 [(0, .ref (B.2.1 3 (0) (15))), (1, .ref (B.2.1 0 (r1) (0))), (2, .ref (B.2.1 0 (r1) (6))), (3, .int (zI (x3)))] → W p l e zm_A_leave s m args below meth c H locs 0 0 (MQ below (zQv B S9) args s 0 0 B.2.2.2) (F0 m 57 ls [.int (zI (xt0))]) := by
  intro x3 xt0 S nx3 nxt0 hf H locs ls hW hS hl
  unfold zf_A_leave_57 at hf
  refine lv_istore (lv' := [(5, .int (zI (xt0))), (0, .ref (B.2.1 3 (0) (15))), (1, .ref (B.2.1 0 (r1) (0))), (2, .ref (B.2.1 0 (r1) (6))), (3, .int (zI (x3)))]) C.1 C.2.1 zd_A_leave_57 hl (by decide) rfl (fun ls hl => ?_)
  refine lv_iload C.1 C.2.1 zd_A_leave_59 (lv_at hl 0 rfl) ?_
  refine zr_if_eq (tgt := 134) C nxt0 zd_A_leave_61 (by decide) (fun c1 => ?_) (fun c1 => ?_)
  · rw [if_pos c1] at hf
    exact zw_A_leave_134 C hr hlk hK hSt hap r1 hr1 q7 hq7 (x3) S nx3 hf _ _ _ hW hS (lv_sub hl [1, 2, 3, 4] rfl)
  · rw [if_neg c1] at hf
    refine lv_aload_n C.1 C.2.1 zd_A_leave_64 rfl (lv_at hl 1 rfl) ?_
    refine zg_A_judge (r := 0) C hK hW (zvd_3 (by decide) (by decide)) zk_466 zd_A_leave_65 ?_
    refine lv_aload_n C.1 C.2.1 zd_A_leave_68 rfl (lv_at hl 2 rfl) ?_
    refine zr_iconst C zd_A_leave_69 ?_
    refine lv_iload_n C.1 C.2.1 zd_A_leave_70 rfl (lv_at hl 4 rfl) ?_
    obtain ⟨a2, S3, ea2, hf⟩ := zbd_some hf
    refine zcVi (As := [.ref (B.2.1 0 (r1) (0)), .int (zI (3)), .int (zI (x3))]) (rest := []) C hK hSt hW hS (zc_J_allows hap (r1) hr1 3 x3 S (znb rfl) nx3 ea2) zq_J_allows zk_995 (zrecv hK hW (zvd_3 (by decide) (by decide)) (ze_3_7 B _ (0)) rfl) ⟨rfl, rfl, by decide, by decide⟩ ⟨Nat.zero_le _, Nat.zero_le _⟩ rfl hl.1 rfl (lv_room (Nat.le_of_ble_eq_true rfl)) zd_A_leave_71 (fun na2 H locs hW hS => ?_)
    refine zr_if_ne (tgt := 80) C na2 zd_A_leave_74 (by decide) (fun c4 => ?_) (fun c4 => ?_)
    · rw [if_neg c4] at hf
      refine lv_aload_n C.1 C.2.1 zd_A_leave_80 rfl (lv_at hl 3 rfl) ?_
      refine lv_iload_n C.1 C.2.1 zd_A_leave_81 rfl (lv_at hl 4 rfl) ?_
      obtain ⟨a5, S6, ea5, hf⟩ := zbd_some hf
      refine zcVv (As := [.int (zI (x3))]) (rest := []) C hK hSt hW hS (zc_P_goAway hap (r1) hr1 x3 S3 nx3 ea5) zq_P_goAway zk_1035 (zrecv hK hW (zvd_0 hr1 (by decide)) (ze_0_6 B _ (r1)) rfl) ⟨rfl, rfl, by decide, by decide⟩ ⟨Nat.zero_le _, Nat.zero_le _⟩ rfl hl.1 rfl (lv_room (Nat.le_of_ble_eq_true rfl)) zd_A_leave_82 (fun H locs hW hS => ?_)
      refine zr_iconst C zd_A_leave_85 ?_
      refine lv_istore (lv' := [(6, .int (zI (0))), (5, .int (zI (xt0))), (0, .ref (B.2.1 3 (0) (15))), (1, .ref (B.2.1 0 (r1) (0))), (2, .ref (B.2.1 0 (r1) (6))), (3, .int (zI (x3)))]) C.1 C.2.1 zd_A_leave_86 hl (by decide) rfl (fun ls hl => ?_)
      exact zw_A_leave_88 C hr hlk hK hSt hap r1 hr1 q7 hq7 4096 (x3) (0) S6 nx3 (znb rfl) hf _ _ _ hW hS (lv_sub hl [2, 3, 4, 5, 0] rfl)
    · rw [if_pos c4] at hf
      refine lv_goto (tgt := 134) C.1 C.2.1 zd_A_leave_77 (by decide) ?_
      exact zw_A_leave_134 C hr hlk hK hSt hap r1 hr1 q7 hq7 (x3) S3 nx3 hf _ _ _ hW hS (lv_sub hl [1, 2, 3, 4] rfl)

def zf_A_leave_56 (r1 : Int) (q7 : Int → Sg → Option (Int × Sg)) (x3 : Int) (S : Sg) : Option (Int × Sg) :=
    zf_A_leave_57 r1 q7 (x3) (0) S
set_option maxHeartbeats 4000000 in
set_option maxRecDepth 100000 in
theorem zw_A_leave_56 {p : Program} {l : Launch} {e : Env} {s : State} {m : MethodId} {args : Array Value} {below : List Frame} {meth : Method} {c : Code} {B : zB} (C : CallFix p m c zb_A_leave 7 s args zT "IslandOffice$Almanac") (hr : meth.sig.returnType = none) (hlk : meth.locks = false) (hK : zK B s) (hSt : zSt B s) (hap : zAp B) (r1 : Int) (hr1 : 0 ≤ r1 ∧ r1 < 3) {res : Int} {S9 : Sg} (q7 : Int → Sg → Option (Int × Sg)) (hq7 : ∀ (x3 : Int) (S : Sg) (nx3 : zn x3), q7 x3 S = some (res, S9) → ∀ (H : Heap) (locs : List Loc) (ls : Array Slot), zW B S H → va_S B.2.2.2 s.heap H locs → lv_has ls 7 [(0, .ref (B.2.1 3 (0) (15))), (1, .ref (B.2.1 0 (r1) (0))), (2, .ref (B.2.1 0 (r1) (6))), (3, .int (zI (x3)))] → W p l e zm_A_leave s m args below meth c H locs 0 0 (MQ below (zQv B S9) args s 0 0 B.2.2.2) (F0 m 7 ls [])) : ∀ (x3 : Int) (S : Sg) (nx3 : zn x3), zf_A_leave_56 r1 q7 x3 S = some (res, S9) → ∀ (H : Heap) (locs : List Loc) (ls : Array Slot), zW B S H → va_S B.2.2.2 s.heap H locs → lv_has ls 7 [(0, .ref (B.2.1 3 (0) (15))), (1, .ref (B.2.1 0 (r1) (0))), (2, .ref (B.2.1 0 (r1) (6))), (3, .int (zI (x3)))] → W p l e zm_A_leave s m args below meth c H locs 0 0 (MQ below (zQv B S9) args s 0 0 B.2.2.2) (F0 m 56 ls []) := by
  intro x3 S nx3 hf H locs ls hW hS hl
  unfold zf_A_leave_56 at hf
  refine zr_iconst C zd_A_leave_56 ?_
  exact zw_A_leave_57 C hr hlk hK hSt hap r1 hr1 q7 hq7 (x3) (0) S nx3 (znb rfl) hf _ _ _ hW hS (lv_sub hl [0, 1, 2, 3] rfl)

def zf_A_leave_37 (r1 : Int) (q7 : Int → Sg → Option (Int × Sg)) (x3 : Int) (S : Sg) : Option (Int × Sg) :=
    zck (0 ≤ x3 ∧ x3 < 40) <| if (S 0 r1 13 x3) < (S 0 r1 1 3) then (zf_A_leave_56 r1 q7 (x3) S) else (zf_A_leave_57 r1 q7 (x3) (1) S)
set_option maxHeartbeats 4000000 in
set_option maxRecDepth 100000 in
theorem zw_A_leave_37 {p : Program} {l : Launch} {e : Env} {s : State} {m : MethodId} {args : Array Value} {below : List Frame} {meth : Method} {c : Code} {B : zB} (C : CallFix p m c zb_A_leave 7 s args zT "IslandOffice$Almanac") (hr : meth.sig.returnType = none) (hlk : meth.locks = false) (hK : zK B s) (hSt : zSt B s) (hap : zAp B) (r1 : Int) (hr1 : 0 ≤ r1 ∧ r1 < 3) {res : Int} {S9 : Sg} (q7 : Int → Sg → Option (Int × Sg)) (hq7 : ∀ (x3 : Int) (S : Sg) (nx3 : zn x3), q7 x3 S = some (res, S9) → ∀ (H : Heap) (locs : List Loc) (ls : Array Slot), zW B S H → va_S B.2.2.2 s.heap H locs → lv_has ls 7 [(0, .ref (B.2.1 3 (0) (15))), (1, .ref (B.2.1 0 (r1) (0))), (2, .ref (B.2.1 0 (r1) (6))), (3, .int (zI (x3)))] → W p l e zm_A_leave s m args below meth c H locs 0 0 (MQ below (zQv B S9) args s 0 0 B.2.2.2) (F0 m 7 ls [])) : ∀ (x3 : Int) (S : Sg) (nx3 : zn x3), zf_A_leave_37 r1 q7 x3 S = some (res, S9) → ∀ (H : Heap) (locs : List Loc) (ls : Array Slot), zW B S H → va_S B.2.2.2 s.heap H locs → lv_has ls 7 [(0, .ref (B.2.1 3 (0) (15))), (1, .ref (B.2.1 0 (r1) (0))), (2, .ref (B.2.1 0 (r1) (6))), (3, .int (zI (x3)))] → W p l e zm_A_leave s m args below meth c H locs 0 0 (MQ below (zQv B S9) args s 0 0 B.2.2.2) (F0 m 37 ls []) := by
  intro x3 S nx3 hf H locs ls hW hS hl
  unfold zf_A_leave_37 at hf
  refine lv_aload_n C.1 C.2.1 zd_A_leave_37 rfl (lv_at hl 2 rfl) ?_
  refine zg_P_discontent (r := r1) C hK hW (zvd_0 hr1 (by decide)) zk_80 zd_A_leave_38 ?_
  refine lv_iload_n C.1 C.2.1 zd_A_leave_41 rfl (lv_at hl 3 rfl) ?_
  obtain ⟨h1, hf⟩ := zck_some hf
  refine ziald C hK hW (zvd_0 hr1 (by decide)) (fun f => ze_0_13 B f (r1)) (by decide) h1 zd_A_leave_42 ?_
  refine lv_aload_n C.1 C.2.1 zd_A_leave_43 rfl (lv_at hl 1 rfl) ?_
  refine zg_I_settings (r := r1) C hK hW (zvd_0 hr1 (by decide)) zk_263 zd_A_leave_44 ?_
  refine zr_iconst C zd_A_leave_47 ?_
  refine ziald C hK hW (zvd_0 hr1 (by decide)) (fun f => ze_0_1 B f (r1)) (by decide) (by decide) zd_A_leave_48 ?_
  refine zr_icmp_lt (tgt := 56) C (zWn hW _ _ _ _ rfl) (zWn hW _ _ _ _ rfl) zd_A_leave_49 (by decide) (fun c2 => ?_) (fun c2 => ?_)
  · rw [if_pos c2] at hf
    exact zw_A_leave_56 C hr hlk hK hSt hap r1 hr1 q7 hq7 (x3) S nx3 hf _ _ _ hW hS (lv_sub hl [0, 1, 2, 3] rfl)
  · rw [if_neg c2] at hf
    refine zr_iconst C zd_A_leave_52 ?_
    refine lv_goto (tgt := 57) C.1 C.2.1 zd_A_leave_53 (by decide) ?_
    exact zw_A_leave_57 C hr hlk hK hSt hap r1 hr1 q7 hq7 (x3) (1) S nx3 (znb rfl) hf _ _ _ hW hS (lv_sub hl [0, 1, 2, 3] rfl)

def zf_A_leave_7 (r1 : Int) : Nat → Int → Sg → Option (Int × Sg)
  | 0, _, _ => none
  | n + 1, x3, S =>
    if (S 0 r1 6 0) ≤ x3 then (some (0, S)) else (zbd (zf_P_kind (r1) x3 (S 0 r1 0 0) S) fun a2 S3 => if a2 = 0 then (zf_A_leave_37 r1 (zf_A_leave_7 r1 n) (x3) S3) else (if a2 = 2 then (zf_A_leave_37 r1 (zf_A_leave_7 r1 n) (x3) S3) else (zf_A_leave_56 r1 (zf_A_leave_7 r1 n) (x3) S3)))
set_option maxHeartbeats 4000000 in
set_option maxRecDepth 100000 in
theorem zw_A_leave_7 {p : Program} {l : Launch} {e : Env} {s : State} {m : MethodId} {args : Array Value} {below : List Frame} {meth : Method} {c : Code} {B : zB} (C : CallFix p m c zb_A_leave 7 s args zT "IslandOffice$Almanac") (hr : meth.sig.returnType = none) (hlk : meth.locks = false) (hK : zK B s) (hSt : zSt B s) (hap : zAp B) (r1 : Int) (hr1 : 0 ≤ r1 ∧ r1 < 3) {res : Int} {S9 : Sg} : ∀ n : Nat, ∀ (x3 : Int) (S : Sg) (nx3 : zn x3), zf_A_leave_7 r1 n x3 S = some (res, S9) → ∀ (H : Heap) (locs : List Loc) (ls : Array Slot), zW B S H → va_S B.2.2.2 s.heap H locs → lv_has ls 7 [(0, .ref (B.2.1 3 (0) (15))), (1, .ref (B.2.1 0 (r1) (0))), (2, .ref (B.2.1 0 (r1) (6))), (3, .int (zI (x3)))] → W p l e zm_A_leave s m args below meth c H locs 0 0 (MQ below (zQv B S9) args s 0 0 B.2.2.2) (F0 m 7 ls []) := by
  intro n
  induction n with
  | zero =>
    intro x3 S nx3 hf H locs ls hW hS hl
    cases hf
  | succ n ih =>
    intro x3 S nx3 hf H locs ls hW hS hl
    rw [zf_A_leave_7] at hf
    refine lv_iload_n C.1 C.2.1 zd_A_leave_7 rfl (lv_at hl 3 rfl) ?_
    refine lv_aload_n C.1 C.2.1 zd_A_leave_8 rfl (lv_at hl 2 rfl) ?_
    refine zg_P_n (r := r1) C hK hW (zvd_0 hr1 (by decide)) zk_54 zd_A_leave_9 ?_
    refine zr_icmp_ge (tgt := 140) C nx3 (zWn hW _ _ _ _ rfl) zd_A_leave_12 (by decide) (fun c1 => ?_) (fun c1 => ?_)
    · rw [if_pos c1] at hf
      cases hf
      exact zre_v C hr hlk hK hW hS zd_A_leave_140
    · rw [if_neg c1] at hf
      refine lv_aload_n C.1 C.2.1 zd_A_leave_15 rfl (lv_at hl 2 rfl) ?_
      refine lv_iload_n C.1 C.2.1 zd_A_leave_16 rfl (lv_at hl 3 rfl) ?_
      refine lv_aload_n C.1 C.2.1 zd_A_leave_17 rfl (lv_at hl 1 rfl) ?_
      refine zg_I_week (r := r1) C hK hW (zvd_0 hr1 (by decide)) zk_240 zd_A_leave_18 ?_
      obtain ⟨a2, S3, ea2, hf⟩ := zbd_some hf
      refine zcVi (As := [.int (zI (x3)), .int (zI (S 0 r1 0 0))]) (rest := []) C hK hSt hW hS (zc_P_kind hap (r1) hr1 x3 (S 0 r1 0 0) S nx3 (zWn hW _ _ _ _ rfl) ea2) zq_P_kind zk_1018 (zrecv hK hW (zvd_0 hr1 (by decide)) (ze_0_6 B _ (r1)) rfl) ⟨rfl, rfl, by decide, by decide⟩ ⟨Nat.zero_le _, Nat.zero_le _⟩ rfl hl.1 rfl (lv_room (Nat.le_of_ble_eq_true rfl)) zd_A_leave_21 (fun na2 H locs hW hS => ?_)
      refine lv_istore (lv' := [(4, .int (zI (a2))), (0, .ref (B.2.1 3 (0) (15))), (1, .ref (B.2.1 0 (r1) (0))), (2, .ref (B.2.1 0 (r1) (6))), (3, .int (zI (x3)))]) C.1 C.2.1 zd_A_leave_24 hl (by decide) rfl (fun ls hl => ?_)
      refine lv_iload C.1 C.2.1 zd_A_leave_26 (lv_at hl 0 rfl) ?_
      refine zr_if_eq (tgt := 37) C na2 zd_A_leave_28 (by decide) (fun c4 => ?_) (fun c4 => ?_)
      · rw [if_pos c4] at hf
        exact zw_A_leave_37 C hr hlk hK hSt hap r1 hr1 (zf_A_leave_7 r1 n) (ih) (x3) S3 nx3 hf _ _ _ hW hS (lv_sub hl [1, 2, 3, 4] rfl)
      · rw [if_neg c4] at hf
        refine lv_iload C.1 C.2.1 zd_A_leave_31 (lv_at hl 0 rfl) ?_
        refine zr_iconst C zd_A_leave_33 ?_
        refine zr_icmp_ne (tgt := 56) C na2 (znb rfl) zd_A_leave_34 (by decide) (fun c5 => ?_) (fun c5 => ?_)
        · rw [if_neg c5] at hf
          exact zw_A_leave_56 C hr hlk hK hSt hap r1 hr1 (zf_A_leave_7 r1 n) (ih) (x3) S3 nx3 hf _ _ _ hW hS (lv_sub hl [1, 2, 3, 4] rfl)
        · rw [if_pos c5] at hf
          exact zw_A_leave_37 C hr hlk hK hSt hap r1 hr1 (zf_A_leave_7 r1 n) (ih) (x3) S3 nx3 hf _ _ _ hW hS (lv_sub hl [1, 2, 3, 4] rfl)

def zf_A_leave (r1 : Int) (S : Sg) : Option (Int × Sg) :=
    zf_A_leave_7 r1 4096 (0) S
set_option maxHeartbeats 4000000 in
set_option maxRecDepth 100000 in
theorem zw_A_leave {p : Program} {l : Launch} {e : Env} {s : State} {m : MethodId} {args : Array Value} {below : List Frame} {meth : Method} {c : Code} {B : zB} (C : CallFix p m c zb_A_leave 7 s args zT "IslandOffice$Almanac") (hr : meth.sig.returnType = none) (hlk : meth.locks = false) (hK : zK B s) (hSt : zSt B s) (hap : zAp B) (r1 : Int) (hr1 : 0 ≤ r1 ∧ r1 < 3) {res : Int} {S9 : Sg} : ∀  (S : Sg) , zf_A_leave r1  S = some (res, S9) → ∀ (H : Heap) (locs : List Loc) (ls : Array Slot), zW B S H → va_S B.2.2.2 s.heap H locs → lv_has ls 7 [(0, .ref (B.2.1 3 (0) (15))), (1, .ref (B.2.1 0 (r1) (0)))] → W p l e zm_A_leave s m args below meth c H locs 0 0 (MQ below (zQv B S9) args s 0 0 B.2.2.2) (F0 m 0 ls []) := by
  intro S hf H locs ls hW hS hl
  unfold zf_A_leave at hf
  refine lv_aload_n C.1 C.2.1 zd_A_leave_0 rfl (lv_at hl 1 rfl) ?_
  refine zg_I_people (r := r1) C hK hW (zvd_0 hr1 (by decide)) zk_281 zd_A_leave_1 ?_
  refine lv_astore_n (lv' := [(2, .ref (B.2.1 0 (r1) (6))), (0, .ref (B.2.1 3 (0) (15))), (1, .ref (B.2.1 0 (r1) (0)))]) C.1 C.2.1 zd_A_leave_4 rfl hl (by decide) rfl (fun ls hl => ?_)
  refine zr_iconst C zd_A_leave_5 ?_
  refine lv_istore_n (lv' := [(3, .int (zI (0))), (2, .ref (B.2.1 0 (r1) (6))), (0, .ref (B.2.1 3 (0) (15))), (1, .ref (B.2.1 0 (r1) (0)))]) C.1 C.2.1 zd_A_leave_6 rfl hl (by decide) rfl (fun ls hl => ?_)
  exact zw_A_leave_7 C hr hlk hK hSt hap r1 hr1 4096 (0) S (znb rfl) hf _ _ _ hW hS (lv_sub hl [2, 3, 1, 0] rfl)

theorem zc_A_leave {l : Launch} {B : zB} (hap : zAp B) (r1 : Int) (hr1 : 0 ≤ r1 ∧ r1 < 3) (S : Sg) {res : Int} {S9 : Sg} (hf : zf_A_leave r1 S = some (res, S9)) : Met l zy_A_leave (Cond.code zy_A_leave zb_A_leave 7 (none) :: zT) zm_A_leave (zP B S [.ref (B.2.1 3 (0) (15)), .ref (B.2.1 0 (r1) (0))]) (zQv B S9) 0 0 B.2.2.2 :=
  zmet (by decide) (Nat.le_of_ble_eq_true rfl) (fun p e s m args below meth c C hr hlk hK hSt hW ls hl => zw_A_leave C hr hlk hK hSt hap r1 hr1  S  hf _ _ _ hW va_S.rf hl)
/-! IslandOffice$Almanac.letRain(LIslandOffice$Island;)V -/
abbrev zy_A_letRain : MethodName := ⟨"IslandOffice$Almanac", "letRain", "(LIslandOffice$Island;)V"⟩
abbrev zb_A_letRain : ByteArray := prog_2_method_4_code
abbrev zm_A_letRain : Room := { frames := 3, cells := 0, slots := 0, locals := 111 }
theorem zq_A_letRain : zMs zy_A_letRain zb_A_letRain 4 (none) 1 := ⟨zk_944, zk_943, zk_13, by decide, by decide, by decide +kernel⟩
theorem zd_A_letRain_0 : decode zb_A_letRain 0 = .ok (.aload_n 0, 1) := by decide +kernel
theorem zd_A_letRain_1 : decode zb_A_letRain 1 = .ok (.getfield 131, 3) := by decide +kernel
theorem zd_A_letRain_4 : decode zb_A_letRain 4 = .ok (.aload_n 0, 1) := by decide +kernel
theorem zd_A_letRain_5 : decode zb_A_letRain 5 = .ok (.getfield 45, 3) := by decide +kernel
theorem zd_A_letRain_8 : decode zb_A_letRain 8 = .ok (.invokevirtual 48, 3) := by decide +kernel
theorem zd_A_letRain_11 : decode zb_A_letRain 11 = .ok (.i2l, 1) := by decide +kernel
theorem zd_A_letRain_12 : decode zb_A_letRain 12 = .ok (.lstore_n 1, 1) := by decide +kernel
theorem zd_A_letRain_13 : decode zb_A_letRain 13 = .ok (.iconst 0, 1) := by decide +kernel
theorem zd_A_letRain_14 : decode zb_A_letRain 14 = .ok (.istore_n 3, 1) := by decide +kernel
theorem zd_A_letRain_15 : decode zb_A_letRain 15 = .ok (.iload_n 3, 1) := by decide +kernel
theorem zd_A_letRain_16 : decode zb_A_letRain 16 = .ok (.bipush 12, 2) := by decide +kernel
theorem zd_A_letRain_18 : decode zb_A_letRain 18 = .ok (.if_icmp .ge 39, 3) := by decide +kernel
theorem zd_A_letRain_21 : decode zb_A_letRain 21 = .ok (.aload_n 0, 1) := by decide +kernel
theorem zd_A_letRain_22 : decode zb_A_letRain 22 = .ok (.getfield 134, 3) := by decide +kernel
theorem zd_A_letRain_25 : decode zb_A_letRain 25 = .ok (.iload_n 3, 1) := by decide +kernel
theorem zd_A_letRain_26 : decode zb_A_letRain 26 = .ok (.ldc2_w 137, 3) := by decide +kernel
theorem zd_A_letRain_29 : decode zb_A_letRain 29 = .ok (.aload_n 0, 1) := by decide +kernel
theorem zd_A_letRain_30 : decode zb_A_letRain 30 = .ok (.getfield 134, 3) := by decide +kernel
theorem zd_A_letRain_33 : decode zb_A_letRain 33 = .ok (.iload_n 3, 1) := by decide +kernel
theorem zd_A_letRain_34 : decode zb_A_letRain 34 = .ok (.iaload, 1) := by decide +kernel
theorem zd_A_letRain_35 : decode zb_A_letRain 35 = .ok (.i2l, 1) := by decide +kernel
theorem zd_A_letRain_36 : decode zb_A_letRain 36 = .ok (.lload_n 1, 1) := by decide +kernel
theorem zd_A_letRain_37 : decode zb_A_letRain 37 = .ok (.aload_n 0, 1) := by decide +kernel
theorem zd_A_letRain_38 : decode zb_A_letRain 38 = .ok (.getfield 139, 3) := by decide +kernel
theorem zd_A_letRain_41 : decode zb_A_letRain 41 = .ok (.iload_n 3, 1) := by decide +kernel
theorem zd_A_letRain_42 : decode zb_A_letRain 42 = .ok (.iaload, 1) := by decide +kernel
theorem zd_A_letRain_43 : decode zb_A_letRain 43 = .ok (.i2l, 1) := by decide +kernel
theorem zd_A_letRain_44 : decode zb_A_letRain 44 = .ok (.lmul, 1) := by decide +kernel
theorem zd_A_letRain_45 : decode zb_A_letRain 45 = .ok (.ladd, 1) := by decide +kernel
theorem zd_A_letRain_46 : decode zb_A_letRain 46 = .ok (.invokestatic 142, 3) := by decide +kernel
theorem zd_A_letRain_49 : decode zb_A_letRain 49 = .ok (.l2i, 1) := by decide +kernel
theorem zd_A_letRain_50 : decode zb_A_letRain 50 = .ok (.iastore, 1) := by decide +kernel
theorem zd_A_letRain_51 : decode zb_A_letRain 51 = .ok (.iinc 3 1, 3) := by decide +kernel
theorem zd_A_letRain_54 : decode zb_A_letRain 54 = .ok (.goto (-39), 3) := by decide +kernel
theorem zd_A_letRain_57 : decode zb_A_letRain 57 = .ok (.aload_n 0, 1) := by decide +kernel
theorem zd_A_letRain_58 : decode zb_A_letRain 58 = .ok (.ldc2_w 148, 3) := by decide +kernel
theorem zd_A_letRain_61 : decode zb_A_letRain 61 = .ok (.aload_n 0, 1) := by decide +kernel
theorem zd_A_letRain_62 : decode zb_A_letRain 62 = .ok (.getfield 150, 3) := by decide +kernel
theorem zd_A_letRain_65 : decode zb_A_letRain 65 = .ok (.i2l, 1) := by decide +kernel
theorem zd_A_letRain_66 : decode zb_A_letRain 66 = .ok (.lload_n 1, 1) := by decide +kernel
theorem zd_A_letRain_67 : decode zb_A_letRain 67 = .ok (.ladd, 1) := by decide +kernel
theorem zd_A_letRain_68 : decode zb_A_letRain 68 = .ok (.invokestatic 142, 3) := by decide +kernel
theorem zd_A_letRain_71 : decode zb_A_letRain 71 = .ok (.l2i, 1) := by decide +kernel
theorem zd_A_letRain_72 : decode zb_A_letRain 72 = .ok (.putfield 150, 3) := by decide +kernel
theorem zd_A_letRain_75 : decode zb_A_letRain 75 = .ok (.return_, 1) := by decide +kernel

def zf_A_letRain_15 (r0 : Int) : Nat → Int → Int → Sg → Option (Int × Sg)
  | 0, _, _, _ => none
  | n + 1, x1, x3, S =>
    if 12 ≤ x3 then (zlt (zu S 0 r0 0 4 (zw (min 500 (zv ((S 0 r0 0 4) + x1))))) fun S2 => some (0, S2)) else (zck (0 ≤ x3 ∧ x3 < 12) <| zlt (zu S 0 r0 3 x3 (zw (min 200 (zv ((S 0 r0 3 x3) + (zv (x1 * (S 0 r0 4 x3)))))))) fun S4 => zlt (zw (x3 + 1)) fun v5 => (zf_A_letRain_15 r0 n) (x1) (v5) S4)
set_option maxHeartbeats 4000000 in
set_option maxRecDepth 100000 in
theorem zw_A_letRain_15 {p : Program} {l : Launch} {e : Env} {s : State} {m : MethodId} {args : Array Value} {below : List Frame} {meth : Method} {c : Code} {B : zB} (C : CallFix p m c zb_A_letRain 4 s args zT "IslandOffice$Almanac") (hr : meth.sig.returnType = none) (hlk : meth.locks = false) (hK : zK B s) (hSt : zSt B s) (hap : zAp B) (r0 : Int) (hr0 : 0 ≤ r0 ∧ r0 < 3) {res : Int} {S9 : Sg} : ∀ n : Nat, ∀ (x1 : Int) (x3 : Int) (S : Sg) (nx1 : zm x1) (nx3 : zn x3), zf_A_letRain_15 r0 n x1 x3 S = some (res, S9) → ∀ (H : Heap) (locs : List Loc) (ls : Array Slot), zW B S H → va_S B.2.2.2 s.heap H locs → lv_has ls 4 [(0, .ref (B.2.1 0 (r0) (0))), (1, .long (zL (x1))), (3, .int (zI (x3)))] → W p l e zm_A_letRain s m args below meth c H locs 0 0 (MQ below (zQv B S9) args s 0 0 B.2.2.2) (F0 m 15 ls []) := by
  intro n
  induction n with
  | zero =>
    intro x1 x3 S nx1 nx3 hf H locs ls hW hS hl
    cases hf
  | succ n ih =>
    intro x1 x3 S nx1 nx3 hf H locs ls hW hS hl
    rw [zf_A_letRain_15] at hf
    refine lv_iload_n C.1 C.2.1 zd_A_letRain_15 rfl (lv_at hl 2 rfl) ?_
    refine zr_bipush C zd_A_letRain_16 (by decide) ?_
    refine zr_icmp_ge (tgt := 57) C nx3 (znb rfl) zd_A_letRain_18 (by decide) (fun c1 => ?_) (fun c1 => ?_)
    · rw [if_pos c1] at hf
      refine lv_aload_n C.1 C.2.1 zd_A_letRain_57 rfl (lv_at hl 0 rfl) ?_
      refine zr_ldc2 (n := 500) C zk_949 (by decide) zd_A_letRain_58 ?_
      refine lv_aload_n C.1 C.2.1 zd_A_letRain_61 rfl (lv_at hl 0 rfl) ?_
      refine zg_I_grass (r := r0) C hK hW (zvd_0 hr0 (by decide)) zk_254 zd_A_letRain_62 ?_
      refine zr_i2l C (zWn hW _ _ _ _ rfl) zd_A_letRain_65 ?_
      refine lv_lload_n C.1 C.2.1 zd_A_letRain_66 rfl (lv_at hl 1 rfl) ?_
      refine zr_ladd C zd_A_letRain_67 ?_
      refine zr_minl C hl.1 (zmb rfl) (zm_v _) zk_946 zk_947 zk_16 zk_948 (by decide) (Nat.le_of_ble_eq_true rfl) ⟨by decide, by decide⟩ zd_A_letRain_68 ?_
      refine zr_l2i C (zm_min (zmb rfl) (zm_v _)) zd_A_letRain_71 ?_
      obtain ⟨S2, eS2, hf⟩ := zlt_some hf
      refine zp_I_grass (r := r0) C hK hap hW hS (zvd_0 hr0 (by decide)) zk_254 (zn_w _) zd_A_letRain_72 (fun H locs hW hS => ?_)
      rw [eS2] at hW
      cases hf
      exact zre_v C hr hlk hK hW hS zd_A_letRain_75
    · rw [if_neg c1] at hf
      refine lv_aload_n C.1 C.2.1 zd_A_letRain_21 rfl (lv_at hl 0 rfl) ?_
      refine zg_I_tank (r := r0) C hK hW (zvd_0 hr0 (by decide)) zk_270 zd_A_letRain_22 ?_
      refine lv_iload_n C.1 C.2.1 zd_A_letRain_25 rfl (lv_at hl 2 rfl) ?_
      refine zr_ldc2 (n := 200) C zk_945 (by decide) zd_A_letRain_26 ?_
      refine lv_aload_n C.1 C.2.1 zd_A_letRain_29 rfl (lv_at hl 0 rfl) ?_
      refine zg_I_tank (r := r0) C hK hW (zvd_0 hr0 (by decide)) zk_270 zd_A_letRain_30 ?_
      refine lv_iload_n C.1 C.2.1 zd_A_letRain_33 rfl (lv_at hl 2 rfl) ?_
      obtain ⟨h3, hf⟩ := zck_some hf
      refine ziald C hK hW (zvd_0 hr0 (by decide)) (fun f => ze_0_3 B f (r0)) (by decide) h3 zd_A_letRain_34 ?_
      refine zr_i2l C (zWn hW _ _ _ _ rfl) zd_A_letRain_35 ?_
      refine lv_lload_n C.1 C.2.1 zd_A_letRain_36 rfl (lv_at hl 1 rfl) ?_
      refine lv_aload_n C.1 C.2.1 zd_A_letRain_37 rfl (lv_at hl 0 rfl) ?_
      refine zg_I_roof (r := r0) C hK hW (zvd_0 hr0 (by decide)) zk_273 zd_A_letRain_38 ?_
      refine lv_iload_n C.1 C.2.1 zd_A_letRain_41 rfl (lv_at hl 2 rfl) ?_
      refine ziald C hK hW (zvd_0 hr0 (by decide)) (fun f => ze_0_4 B f (r0)) (by decide) h3 zd_A_letRain_42 ?_
      refine zr_i2l C (zWn hW _ _ _ _ rfl) zd_A_letRain_43 ?_
      refine zr_lmul C zd_A_letRain_44 ?_
      refine zr_ladd C zd_A_letRain_45 ?_
      refine zr_minl C hl.1 (zmb rfl) (zm_v _) zk_946 zk_947 zk_16 zk_948 (by decide) (Nat.le_of_ble_eq_true rfl) ⟨by decide, by decide⟩ zd_A_letRain_46 ?_
      refine zr_l2i C (zm_min (zmb rfl) (zm_v _)) zd_A_letRain_49 ?_
      obtain ⟨S4, eS4, hf⟩ := zlt_some hf
      refine ziast C hK hap hW hS (zvd_0 hr0 (by decide)) (fun f => ze_0_3 B f (r0)) (by decide) rfl (zn_w _) h3 zd_A_letRain_50 (fun H locs hW hS => ?_)
      rw [eS4] at hW
      obtain ⟨v5, ev5, hf⟩ := zlt_some hf
      have nv5 : zn v5 := by rw [← ev5]; exact zn_w _
      refine lv_iinc (v := zI v5) (lv' := [(3, .int (zI (v5))), (0, .ref (B.2.1 0 (r0) (0))), (1, .long (zL (x1)))]) C.1 C.2.1 zd_A_letRain_51 hl (k := 2) rfl (by rw [← ev5, ← zI_add]; rfl) (by decide) rfl (fun ls hl => ?_)
      refine lv_goto (tgt := 15) C.1 C.2.1 zd_A_letRain_54 (by decide) ?_
      exact ih (x1) (v5) S4 nx1 nv5 hf _ _ _ hW hS (lv_sub hl [1, 2, 0] rfl)

def zf_A_letRain (r0 : Int) (S : Sg) : Option (Int × Sg) :=
    zbd (zf_Y_at (r0) (1) (S 0 r0 0 0) S) fun a1 S2 => zf_A_letRain_15 r0 4096 (a1) (0) S2
set_option maxHeartbeats 4000000 in
set_option maxRecDepth 100000 in
theorem zw_A_letRain {p : Program} {l : Launch} {e : Env} {s : State} {m : MethodId} {args : Array Value} {below : List Frame} {meth : Method} {c : Code} {B : zB} (C : CallFix p m c zb_A_letRain 4 s args zT "IslandOffice$Almanac") (hr : meth.sig.returnType = none) (hlk : meth.locks = false) (hK : zK B s) (hSt : zSt B s) (hap : zAp B) (r0 : Int) (hr0 : 0 ≤ r0 ∧ r0 < 3) {res : Int} {S9 : Sg} : ∀  (S : Sg) , zf_A_letRain r0  S = some (res, S9) → ∀ (H : Heap) (locs : List Loc) (ls : Array Slot), zW B S H → va_S B.2.2.2 s.heap H locs → lv_has ls 4 [(0, .ref (B.2.1 0 (r0) (0)))] → W p l e zm_A_letRain s m args below meth c H locs 0 0 (MQ below (zQv B S9) args s 0 0 B.2.2.2) (F0 m 0 ls []) := by
  intro S hf H locs ls hW hS hl
  unfold zf_A_letRain at hf
  refine lv_aload_n C.1 C.2.1 zd_A_letRain_0 rfl (lv_at hl 0 rfl) ?_
  refine zg_I_rain (r := r0) C hK hW (zvd_0 hr0 (by decide)) zk_297 zd_A_letRain_1 ?_
  refine lv_aload_n C.1 C.2.1 zd_A_letRain_4 rfl (lv_at hl 0 rfl) ?_
  refine zg_I_week (r := r0) C hK hW (zvd_0 hr0 (by decide)) zk_240 zd_A_letRain_5 ?_
  obtain ⟨a1, S2, ea1, hf⟩ := zbd_some hf
  refine zcVi (As := [.int (zI (S 0 r0 0 0))]) (rest := []) C hK hSt hW hS (zc_Y_at hap (r0) (1) hr0 (by decide) (S 0 r0 0 0) S (zWn hW _ _ _ _ rfl) ea1) zq_Y_at zk_938 (zrecv hK hW (zvd_13 hr0 (by decide)) (ze_13 B _ (r0) (1)) rfl) ⟨rfl, rfl, by decide, by decide⟩ ⟨Nat.zero_le _, Nat.zero_le _⟩ rfl hl.1 rfl (lv_room (Nat.le_of_ble_eq_true rfl)) zd_A_letRain_8 (fun na1 H locs hW hS => ?_)
  refine zr_i2l C na1 zd_A_letRain_11 ?_
  refine lv_lstore_n (lv' := [(1, .long (zL (a1))), (0, .ref (B.2.1 0 (r0) (0)))]) C.1 C.2.1 zd_A_letRain_12 rfl hl (by decide) rfl (fun ls hl => ?_)
  refine zr_iconst C zd_A_letRain_13 ?_
  refine lv_istore_n (lv' := [(3, .int (zI (0))), (1, .long (zL (a1))), (0, .ref (B.2.1 0 (r0) (0)))]) C.1 C.2.1 zd_A_letRain_14 rfl hl (by decide) rfl (fun ls hl => ?_)
  exact zw_A_letRain_15 C hr hlk hK hSt hap r0 hr0 4096 (a1) (0) S2 (zm_n na1) (znb rfl) hf _ _ _ hW hS (lv_sub hl [2, 1, 0] rfl)

theorem zc_A_letRain {l : Launch} {B : zB} (hap : zAp B) (r0 : Int) (hr0 : 0 ≤ r0 ∧ r0 < 3) (S : Sg) {res : Int} {S9 : Sg} (hf : zf_A_letRain r0 S = some (res, S9)) : Met l zy_A_letRain (Cond.code zy_A_letRain zb_A_letRain 4 (none) :: zT) zm_A_letRain (zP B S [.ref (B.2.1 0 (r0) (0))]) (zQv B S9) 0 0 B.2.2.2 :=
  zmet (by decide) (Nat.le_of_ble_eq_true rfl) (fun p e s m args below meth c C hr hlk hK hSt hW ls hl => zw_A_letRain C hr hlk hK hSt hap r0 hr0  S  hf _ _ _ hW va_S.rf hl)
/-! IslandOffice$Almanac.payEach(LIslandOffice$Island;Z)V -/
abbrev zy_A_payEach : MethodName := ⟨"IslandOffice$Almanac", "payEach", "(LIslandOffice$Island;Z)V"⟩
abbrev zb_A_payEach : ByteArray := prog_2_method_17_code
abbrev zm_A_payEach : Room := { frames := 2, cells := 0, slots := 0, locals := 45 }
theorem zq_A_payEach : zMs zy_A_payEach zb_A_payEach 4 (none) 2 := ⟨zk_1029, zk_1028, zk_13, by decide, by decide, by decide +kernel⟩
theorem zd_A_payEach_0 : decode zb_A_payEach 0 = .ok (.iconst 0, 1) := by decide +kernel
theorem zd_A_payEach_1 : decode zb_A_payEach 1 = .ok (.istore_n 2, 1) := by decide +kernel
theorem zd_A_payEach_2 : decode zb_A_payEach 2 = .ok (.iload_n 2, 1) := by decide +kernel
theorem zd_A_payEach_3 : decode zb_A_payEach 3 = .ok (.aload_n 0, 1) := by decide +kernel
theorem zd_A_payEach_4 : decode zb_A_payEach 4 = .ok (.getfield 116, 3) := by decide +kernel
theorem zd_A_payEach_7 : decode zb_A_payEach 7 = .ok (.getfield 120, 3) := by decide +kernel
theorem zd_A_payEach_10 : decode zb_A_payEach 10 = .ok (.if_icmp .ge 85, 3) := by decide +kernel
theorem zd_A_payEach_13 : decode zb_A_payEach 13 = .ok (.aload_n 0, 1) := by decide +kernel
theorem zd_A_payEach_14 : decode zb_A_payEach 14 = .ok (.getfield 116, 3) := by decide +kernel
theorem zd_A_payEach_17 : decode zb_A_payEach 17 = .ok (.iload_n 2, 1) := by decide +kernel
theorem zd_A_payEach_18 : decode zb_A_payEach 18 = .ok (.aload_n 0, 1) := by decide +kernel
theorem zd_A_payEach_19 : decode zb_A_payEach 19 = .ok (.getfield 45, 3) := by decide +kernel
theorem zd_A_payEach_22 : decode zb_A_payEach 22 = .ok (.invokevirtual 254, 3) := by decide +kernel
theorem zd_A_payEach_25 : decode zb_A_payEach 25 = .ok (.istore_n 3, 1) := by decide +kernel
theorem zd_A_payEach_26 : decode zb_A_payEach 26 = .ok (.iload_n 3, 1) := by decide +kernel
theorem zd_A_payEach_27 : decode zb_A_payEach 27 = .ok (.ifCond .eq 62, 3) := by decide +kernel
theorem zd_A_payEach_30 : decode zb_A_payEach 30 = .ok (.iload_n 1, 1) := by decide +kernel
theorem zd_A_payEach_31 : decode zb_A_payEach 31 = .ok (.aload_n 0, 1) := by decide +kernel
theorem zd_A_payEach_32 : decode zb_A_payEach 32 = .ok (.getfield 116, 3) := by decide +kernel
theorem zd_A_payEach_35 : decode zb_A_payEach 35 = .ok (.iload_n 2, 1) := by decide +kernel
theorem zd_A_payEach_36 : decode zb_A_payEach 36 = .ok (.aload_n 0, 1) := by decide +kernel
theorem zd_A_payEach_37 : decode zb_A_payEach 37 = .ok (.getfield 45, 3) := by decide +kernel
theorem zd_A_payEach_40 : decode zb_A_payEach 40 = .ok (.invokevirtual 222, 3) := by decide +kernel
theorem zd_A_payEach_43 : decode zb_A_payEach 43 = .ok (.iconst 4, 1) := by decide +kernel
theorem zd_A_payEach_44 : decode zb_A_payEach 44 = .ok (.if_icmp .ne 7, 3) := by decide +kernel
theorem zd_A_payEach_47 : decode zb_A_payEach 47 = .ok (.iconst 1, 1) := by decide +kernel
theorem zd_A_payEach_48 : decode zb_A_payEach 48 = .ok (.goto 4, 3) := by decide +kernel
theorem zd_A_payEach_51 : decode zb_A_payEach 51 = .ok (.iconst 0, 1) := by decide +kernel
theorem zd_A_payEach_52 : decode zb_A_payEach 52 = .ok (.if_icmp .eq 6, 3) := by decide +kernel
theorem zd_A_payEach_55 : decode zb_A_payEach 55 = .ok (.goto 34, 3) := by decide +kernel
theorem zd_A_payEach_58 : decode zb_A_payEach 58 = .ok (.aload_n 0, 1) := by decide +kernel
theorem zd_A_payEach_59 : decode zb_A_payEach 59 = .ok (.getfield 239, 3) := by decide +kernel
theorem zd_A_payEach_62 : decode zb_A_payEach 62 = .ok (.iload_n 3, 1) := by decide +kernel
theorem zd_A_payEach_63 : decode zb_A_payEach 63 = .ok (.if_icmp .lt 16, 3) := by decide +kernel
theorem zd_A_payEach_66 : decode zb_A_payEach 66 = .ok (.aload_n 0, 1) := by decide +kernel
theorem zd_A_payEach_67 : decode zb_A_payEach 67 = .ok (.dup, 1) := by decide +kernel
theorem zd_A_payEach_68 : decode zb_A_payEach 68 = .ok (.getfield 239, 3) := by decide +kernel
theorem zd_A_payEach_71 : decode zb_A_payEach 71 = .ok (.iload_n 3, 1) := by decide +kernel
theorem zd_A_payEach_72 : decode zb_A_payEach 72 = .ok (.isub, 1) := by decide +kernel
theorem zd_A_payEach_73 : decode zb_A_payEach 73 = .ok (.putfield 239, 3) := by decide +kernel
theorem zd_A_payEach_76 : decode zb_A_payEach 76 = .ok (.goto 13, 3) := by decide +kernel
theorem zd_A_payEach_79 : decode zb_A_payEach 79 = .ok (.aload_n 0, 1) := by decide +kernel
theorem zd_A_payEach_80 : decode zb_A_payEach 80 = .ok (.dup, 1) := by decide +kernel
theorem zd_A_payEach_81 : decode zb_A_payEach 81 = .ok (.getfield 257, 3) := by decide +kernel
theorem zd_A_payEach_84 : decode zb_A_payEach 84 = .ok (.iconst 1, 1) := by decide +kernel
theorem zd_A_payEach_85 : decode zb_A_payEach 85 = .ok (.iadd, 1) := by decide +kernel
theorem zd_A_payEach_86 : decode zb_A_payEach 86 = .ok (.putfield 257, 3) := by decide +kernel
theorem zd_A_payEach_89 : decode zb_A_payEach 89 = .ok (.iinc 2 1, 3) := by decide +kernel
theorem zd_A_payEach_92 : decode zb_A_payEach 92 = .ok (.goto (-90), 3) := by decide +kernel
theorem zd_A_payEach_95 : decode zb_A_payEach 95 = .ok (.return_, 1) := by decide +kernel

def zf_A_payEach_89 (r0 : Int) (q2 : Int → Int → Sg → Option (Int × Sg)) (x1 : Int) (x2 : Int) (S : Sg) : Option (Int × Sg) :=
    zlt (zw (x2 + 1)) fun v1 => q2 (x1) (v1) S
set_option maxHeartbeats 4000000 in
set_option maxRecDepth 100000 in
theorem zw_A_payEach_89 {p : Program} {l : Launch} {e : Env} {s : State} {m : MethodId} {args : Array Value} {below : List Frame} {meth : Method} {c : Code} {B : zB} (C : CallFix p m c zb_A_payEach 4 s args zT "IslandOffice$Almanac") (hr : meth.sig.returnType = none) (hlk : meth.locks = false) (hK : zK B s) (hSt : zSt B s) (hap : zAp B) (r0 : Int) (hr0 : 0 ≤ r0 ∧ r0 < 3) {res : Int} {S9 : Sg} (q2 : Int → Int → Sg → Option (Int × Sg)) (hq2 : ∀ (x1 : Int) (x2 : Int) (S : Sg) (nx1 : zn x1) (nx2 : zn x2), q2 x1 x2 S = some (res, S9) → ∀ (H : Heap) (locs : List Loc) (ls : Array Slot), zW B S H → va_S B.2.2.2 s.heap H locs → lv_has ls 4 [(0, .ref (B.2.1 0 (r0) (0))), (1, .int (zI (x1))), (2, .int (zI (x2)))] → W p l e zm_A_payEach s m args below meth c H locs 0 0 (MQ below (zQv B S9) args s 0 0 B.2.2.2) (F0 m 2 ls [])) : ∀ (x1 : Int) (x2 : Int) (S : Sg) (nx1 : zn x1) (nx2 : zn x2), zf_A_payEach_89 r0 q2 x1 x2 S = some (res, S9) → ∀ (H : Heap) (locs : List Loc) (ls : Array Slot), zW B S H → va_S B.2.2.2 s.heap H locs → lv_has ls 4 [(0, .ref (B.2.1 0 (r0) (0))), (1, .int (zI (x1))), (2, .int (zI (x2)))] → W p l e zm_A_payEach s m args below meth c H locs 0 0 (MQ below (zQv B S9) args s 0 0 B.2.2.2) (F0 m 89 ls []) := by
  intro x1 x2 S nx1 nx2 hf H locs ls hW hS hl
  unfold zf_A_payEach_89 at hf
  obtain ⟨v1, ev1, hf⟩ := zlt_some hf
  have nv1 : zn v1 := by rw [← ev1]; exact zn_w _
  refine lv_iinc (v := zI v1) (lv' := [(2, .int (zI (v1))), (0, .ref (B.2.1 0 (r0) (0))), (1, .int (zI (x1)))]) C.1 C.2.1 zd_A_payEach_89 hl (k := 2) rfl (by rw [← ev1, ← zI_add]; rfl) (by decide) rfl (fun ls hl => ?_)
  refine lv_goto (tgt := 2) C.1 C.2.1 zd_A_payEach_92 (by decide) ?_
  exact hq2 (x1) (v1) S nx1 nv1 hf _ _ _ hW hS (lv_sub hl [1, 2, 0] rfl)

def zf_A_payEach_52 (r0 : Int) (q2 : Int → Int → Sg → Option (Int × Sg)) (x1 : Int) (x2 : Int) (x3 : Int) (xt0 : Int) (xt1 : Int) (S : Sg) : Option (Int × Sg) :=
    if xt0 = xt1 then (if (S 0 r0 0 1) < x3 then (zlt (zu S 0 r0 0 3 (zw ((S 0 r0 0 3) + 1))) fun S3 => zf_A_payEach_89 r0 q2 (x1) (x2) S3) else (zlt (zu S 0 r0 0 1 (zw ((S 0 r0 0 1) - x3))) fun S4 => zf_A_payEach_89 r0 q2 (x1) (x2) S4)) else (zf_A_payEach_89 r0 q2 (x1) (x2) S)
set_option maxHeartbeats 4000000 in
set_option maxRecDepth 100000 in
theorem zw_A_payEach_52 {p : Program} {l : Launch} {e : Env} {s : State} {m : MethodId} {args : Array Value} {below : List Frame} {meth : Method} {c : Code} {B : zB} (C : CallFix p m c zb_A_payEach 4 s args zT "IslandOffice$Almanac") (hr : meth.sig.returnType = none) (hlk : meth.locks = false) (hK : zK B s) (hSt : zSt B s) (hap : zAp B) (r0 : Int) (hr0 : 0 ≤ r0 ∧ r0 < 3) {res : Int} {S9 : Sg} (q2 : Int → Int → Sg → Option (Int × Sg)) (hq2 : ∀ (x1 : Int) (x2 : Int) (S : Sg) (nx1 : zn x1) (nx2 : zn x2), q2 x1 x2 S = some (res, S9) → ∀ (H : Heap) (locs : List Loc) (ls : Array Slot), zW B S H → va_S B.2.2.2 s.heap H locs → lv_has ls 4 [(0, .ref (B.2.1 0 (r0) (0))), (1, .int (zI (x1))), (2, .int (zI (x2)))] → W p l e zm_A_payEach s m args below meth c H locs 0 0 (MQ below (zQv B S9) args s 0 0 B.2.2.2) (F0 m 2 ls [])) : ∀ (x1 : Int) (x2 : Int) (x3 : Int) (xt0 : Int) (xt1 : Int) (S : Sg) (nx1 : zn x1) (nx2 : zn x2) (nx3 : zn x3) (nxt0 : zn xt0) (nxt1 : zn xt1), zf_A_payEach_52 r0 q2 x1 x2 x3 xt0 xt1 S = some (res, S9) → ∀ (H : Heap) (locs : List Loc) (ls : Array Slot), zW B S H → va_S B.2.2.2 s.heap H locs → lv_has ls 4 [(0, .ref (B.2.1 0 (r0) (0))), (1, .int (zI (x1))), (2, .int (zI (x2))), (3, .int (zI (x3)))] → W p l e zm_A_payEach s m args below meth c H locs 0 0 (MQ below (zQv B S9) args s 0 0 B.2.2.2) (F0 m 52 ls [.int (zI (xt1)), .int (zI (xt0))]) := by
  intro x1 x2 x3 xt0 xt1 S nx1 nx2 nx3 nxt0 nxt1 hf H locs ls hW hS hl
  unfold zf_A_payEach_52 at hf
  refine zr_icmp_eq (tgt := 58) C nxt0 nxt1 zd_A_payEach_52 (by decide) (fun c1 => ?_) (fun c1 => ?_)
  · rw [if_pos c1] at hf
    refine lv_aload_n C.1 C.2.1 zd_A_payEach_58 rfl (lv_at hl 0 rfl) ?_
    refine zg_I_purse (r := r0) C hK hW (zvd_0 hr0 (by decide)) zk_245 zd_A_payEach_59 ?_
    refine lv_iload_n C.1 C.2.1 zd_A_payEach_62 rfl (lv_at hl 3 rfl) ?_
    refine zr_icmp_lt (tgt := 79) C (zWn hW _ _ _ _ rfl) nx3 zd_A_payEach_63 (by decide) (fun c2 => ?_) (fun c2 => ?_)
    · rw [if_pos c2] at hf
      refine lv_aload_n C.1 C.2.1 zd_A_payEach_79 rfl (lv_at hl 0 rfl) ?_
      refine lv_dup C.1 C.2.1 zd_A_payEach_80 rfl ?_
      refine zg_I_unpaid (r := r0) C hK hW (zvd_0 hr0 (by decide)) zk_251 zd_A_payEach_81 ?_
      refine zr_iconst C zd_A_payEach_84 ?_
      refine zr_iadd C zd_A_payEach_85 ?_
      obtain ⟨S3, eS3, hf⟩ := zlt_some hf
      refine zp_I_unpaid (r := r0) C hK hap hW hS (zvd_0 hr0 (by decide)) zk_251 (zn_w _) zd_A_payEach_86 (fun H locs hW hS => ?_)
      rw [eS3] at hW
      exact zw_A_payEach_89 C hr hlk hK hSt hap r0 hr0 q2 hq2 (x1) (x2) S3 nx1 nx2 hf _ _ _ hW hS (lv_sub hl [0, 1, 2] rfl)
    · rw [if_neg c2] at hf
      refine lv_aload_n C.1 C.2.1 zd_A_payEach_66 rfl (lv_at hl 0 rfl) ?_
      refine lv_dup C.1 C.2.1 zd_A_payEach_67 rfl ?_
      refine zg_I_purse (r := r0) C hK hW (zvd_0 hr0 (by decide)) zk_245 zd_A_payEach_68 ?_
      refine lv_iload_n C.1 C.2.1 zd_A_payEach_71 rfl (lv_at hl 3 rfl) ?_
      refine zr_isub C zd_A_payEach_72 ?_
      obtain ⟨S4, eS4, hf⟩ := zlt_some hf
      refine zp_I_purse (r := r0) C hK hap hW hS (zvd_0 hr0 (by decide)) zk_245 (zn_w _) zd_A_payEach_73 (fun H locs hW hS => ?_)
      rw [eS4] at hW
      refine lv_goto (tgt := 89) C.1 C.2.1 zd_A_payEach_76 (by decide) ?_
      exact zw_A_payEach_89 C hr hlk hK hSt hap r0 hr0 q2 hq2 (x1) (x2) S4 nx1 nx2 hf _ _ _ hW hS (lv_sub hl [0, 1, 2] rfl)
  · rw [if_neg c1] at hf
    refine lv_goto (tgt := 89) C.1 C.2.1 zd_A_payEach_55 (by decide) ?_
    exact zw_A_payEach_89 C hr hlk hK hSt hap r0 hr0 q2 hq2 (x1) (x2) S nx1 nx2 hf _ _ _ hW hS (lv_sub hl [0, 1, 2] rfl)

def zf_A_payEach_2 (r0 : Int) : Nat → Int → Int → Sg → Option (Int × Sg)
  | 0, _, _, _ => none
  | n + 1, x1, x2, S =>
    if (S 0 r0 6 0) ≤ x2 then (some (0, S)) else (zbd (zf_P_wage (r0) x2 (S 0 r0 0 0) S) fun a2 S3 => if a2 = 0 then (zf_A_payEach_89 r0 (zf_A_payEach_2 r0 n) (x1) (x2) S3) else (zbd (zf_P_kind (r0) x2 (S3 0 r0 0 0) S3) fun a5 S6 => if a5 = 4 then (zf_A_payEach_52 r0 (zf_A_payEach_2 r0 n) (x1) (x2) (a2) (x1) (1) S6) else (zf_A_payEach_52 r0 (zf_A_payEach_2 r0 n) (x1) (x2) (a2) (x1) (0) S6)))
set_option maxHeartbeats 4000000 in
set_option maxRecDepth 100000 in
theorem zw_A_payEach_2 {p : Program} {l : Launch} {e : Env} {s : State} {m : MethodId} {args : Array Value} {below : List Frame} {meth : Method} {c : Code} {B : zB} (C : CallFix p m c zb_A_payEach 4 s args zT "IslandOffice$Almanac") (hr : meth.sig.returnType = none) (hlk : meth.locks = false) (hK : zK B s) (hSt : zSt B s) (hap : zAp B) (r0 : Int) (hr0 : 0 ≤ r0 ∧ r0 < 3) {res : Int} {S9 : Sg} : ∀ n : Nat, ∀ (x1 : Int) (x2 : Int) (S : Sg) (nx1 : zn x1) (nx2 : zn x2), zf_A_payEach_2 r0 n x1 x2 S = some (res, S9) → ∀ (H : Heap) (locs : List Loc) (ls : Array Slot), zW B S H → va_S B.2.2.2 s.heap H locs → lv_has ls 4 [(0, .ref (B.2.1 0 (r0) (0))), (1, .int (zI (x1))), (2, .int (zI (x2)))] → W p l e zm_A_payEach s m args below meth c H locs 0 0 (MQ below (zQv B S9) args s 0 0 B.2.2.2) (F0 m 2 ls []) := by
  intro n
  induction n with
  | zero =>
    intro x1 x2 S nx1 nx2 hf H locs ls hW hS hl
    cases hf
  | succ n ih =>
    intro x1 x2 S nx1 nx2 hf H locs ls hW hS hl
    rw [zf_A_payEach_2] at hf
    refine lv_iload_n C.1 C.2.1 zd_A_payEach_2 rfl (lv_at hl 2 rfl) ?_
    refine lv_aload_n C.1 C.2.1 zd_A_payEach_3 rfl (lv_at hl 0 rfl) ?_
    refine zg_I_people (r := r0) C hK hW (zvd_0 hr0 (by decide)) zk_281 zd_A_payEach_4 ?_
    refine zg_P_n (r := r0) C hK hW (zvd_0 hr0 (by decide)) zk_54 zd_A_payEach_7 ?_
    refine zr_icmp_ge (tgt := 95) C nx2 (zWn hW _ _ _ _ rfl) zd_A_payEach_10 (by decide) (fun c1 => ?_) (fun c1 => ?_)
    · rw [if_pos c1] at hf
      cases hf
      exact zre_v C hr hlk hK hW hS zd_A_payEach_95
    · rw [if_neg c1] at hf
      refine lv_aload_n C.1 C.2.1 zd_A_payEach_13 rfl (lv_at hl 0 rfl) ?_
      refine zg_I_people (r := r0) C hK hW (zvd_0 hr0 (by decide)) zk_281 zd_A_payEach_14 ?_
      refine lv_iload_n C.1 C.2.1 zd_A_payEach_17 rfl (lv_at hl 2 rfl) ?_
      refine lv_aload_n C.1 C.2.1 zd_A_payEach_18 rfl (lv_at hl 0 rfl) ?_
      refine zg_I_week (r := r0) C hK hW (zvd_0 hr0 (by decide)) zk_240 zd_A_payEach_19 ?_
      obtain ⟨a2, S3, ea2, hf⟩ := zbd_some hf
      refine zcVi (As := [.int (zI (x2)), .int (zI (S 0 r0 0 0))]) (rest := []) C hK hSt hW hS (zc_P_wage hap (r0) hr0 x2 (S 0 r0 0 0) S nx2 (zWn hW _ _ _ _ rfl) ea2) zq_P_wage zk_1030 (zrecv hK hW (zvd_0 hr0 (by decide)) (ze_0_6 B _ (r0)) rfl) ⟨rfl, rfl, by decide, by decide⟩ ⟨Nat.zero_le _, Nat.zero_le _⟩ rfl hl.1 rfl (lv_room (Nat.le_of_ble_eq_true rfl)) zd_A_payEach_22 (fun na2 H locs hW hS => ?_)
      refine lv_istore_n (lv' := [(3, .int (zI (a2))), (0, .ref (B.2.1 0 (r0) (0))), (1, .int (zI (x1))), (2, .int (zI (x2)))]) C.1 C.2.1 zd_A_payEach_25 rfl hl (by decide) rfl (fun ls hl => ?_)
      refine lv_iload_n C.1 C.2.1 zd_A_payEach_26 rfl (lv_at hl 0 rfl) ?_
      refine zr_if_eq (tgt := 89) C na2 zd_A_payEach_27 (by decide) (fun c4 => ?_) (fun c4 => ?_)
      · rw [if_pos c4] at hf
        exact zw_A_payEach_89 C hr hlk hK hSt hap r0 hr0 (zf_A_payEach_2 r0 n) (ih) (x1) (x2) S3 nx1 nx2 hf _ _ _ hW hS (lv_sub hl [1, 2, 3] rfl)
      · rw [if_neg c4] at hf
        refine lv_iload_n C.1 C.2.1 zd_A_payEach_30 rfl (lv_at hl 2 rfl) ?_
        refine lv_aload_n C.1 C.2.1 zd_A_payEach_31 rfl (lv_at hl 1 rfl) ?_
        refine zg_I_people (r := r0) C hK hW (zvd_0 hr0 (by decide)) zk_281 zd_A_payEach_32 ?_
        refine lv_iload_n C.1 C.2.1 zd_A_payEach_35 rfl (lv_at hl 3 rfl) ?_
        refine lv_aload_n C.1 C.2.1 zd_A_payEach_36 rfl (lv_at hl 1 rfl) ?_
        refine zg_I_week (r := r0) C hK hW (zvd_0 hr0 (by decide)) zk_240 zd_A_payEach_37 ?_
        obtain ⟨a5, S6, ea5, hf⟩ := zbd_some hf
        refine zcVi (As := [.int (zI (x2)), .int (zI (S3 0 r0 0 0))]) (rest := [.int (zI (x1))]) C hK hSt hW hS (zc_P_kind hap (r0) hr0 x2 (S3 0 r0 0 0) S3 nx2 (zWn hW _ _ _ _ rfl) ea5) zq_P_kind zk_1018 (zrecv hK hW (zvd_0 hr0 (by decide)) (ze_0_6 B _ (r0)) rfl) ⟨rfl, rfl, by decide, by decide⟩ ⟨Nat.zero_le _, Nat.zero_le _⟩ rfl hl.1 rfl (lv_room (Nat.le_of_ble_eq_true rfl)) zd_A_payEach_40 (fun na5 H locs hW hS => ?_)
        refine zr_iconst C zd_A_payEach_43 ?_
        refine zr_icmp_ne (tgt := 51) C na5 (znb rfl) zd_A_payEach_44 (by decide) (fun c7 => ?_) (fun c7 => ?_)
        · rw [if_neg c7] at hf
          refine zr_iconst C zd_A_payEach_51 ?_
          exact zw_A_payEach_52 C hr hlk hK hSt hap r0 hr0 (zf_A_payEach_2 r0 n) (ih) (x1) (x2) (a2) (x1) (0) S6 nx1 nx2 na2 nx1 (znb rfl) hf _ _ _ hW hS (lv_sub hl [1, 2, 3, 0] rfl)
        · rw [if_pos c7] at hf
          refine zr_iconst C zd_A_payEach_47 ?_
          refine lv_goto (tgt := 52) C.1 C.2.1 zd_A_payEach_48 (by decide) ?_
          exact zw_A_payEach_52 C hr hlk hK hSt hap r0 hr0 (zf_A_payEach_2 r0 n) (ih) (x1) (x2) (a2) (x1) (1) S6 nx1 nx2 na2 nx1 (znb rfl) hf _ _ _ hW hS (lv_sub hl [1, 2, 3, 0] rfl)

def zf_A_payEach (r0 : Int) (x1 : Int) (S : Sg) : Option (Int × Sg) :=
    zf_A_payEach_2 r0 4096 (x1) (0) S
set_option maxHeartbeats 4000000 in
set_option maxRecDepth 100000 in
theorem zw_A_payEach {p : Program} {l : Launch} {e : Env} {s : State} {m : MethodId} {args : Array Value} {below : List Frame} {meth : Method} {c : Code} {B : zB} (C : CallFix p m c zb_A_payEach 4 s args zT "IslandOffice$Almanac") (hr : meth.sig.returnType = none) (hlk : meth.locks = false) (hK : zK B s) (hSt : zSt B s) (hap : zAp B) (r0 : Int) (hr0 : 0 ≤ r0 ∧ r0 < 3) {res : Int} {S9 : Sg} : ∀ (x1 : Int) (S : Sg) (nx1 : zn x1), zf_A_payEach r0 x1 S = some (res, S9) → ∀ (H : Heap) (locs : List Loc) (ls : Array Slot), zW B S H → va_S B.2.2.2 s.heap H locs → lv_has ls 4 [(0, .ref (B.2.1 0 (r0) (0))), (1, .int (zI (x1)))] → W p l e zm_A_payEach s m args below meth c H locs 0 0 (MQ below (zQv B S9) args s 0 0 B.2.2.2) (F0 m 0 ls []) := by
  intro x1 S nx1 hf H locs ls hW hS hl
  unfold zf_A_payEach at hf
  refine zr_iconst C zd_A_payEach_0 ?_
  refine lv_istore_n (lv' := [(2, .int (zI (0))), (0, .ref (B.2.1 0 (r0) (0))), (1, .int (zI (x1)))]) C.1 C.2.1 zd_A_payEach_1 rfl hl (by decide) rfl (fun ls hl => ?_)
  exact zw_A_payEach_2 C hr hlk hK hSt hap r0 hr0 4096 (x1) (0) S nx1 (znb rfl) hf _ _ _ hW hS (lv_sub hl [1, 2, 0] rfl)

theorem zc_A_payEach {l : Launch} {B : zB} (hap : zAp B) (r0 : Int) (hr0 : 0 ≤ r0 ∧ r0 < 3) (x1 : Int) (S : Sg) (nx1 : zn x1) {res : Int} {S9 : Sg} (hf : zf_A_payEach r0 x1 S = some (res, S9)) : Met l zy_A_payEach (Cond.code zy_A_payEach zb_A_payEach 4 (none) :: zT) zm_A_payEach (zP B S [.ref (B.2.1 0 (r0) (0)), .int (zI (x1))]) (zQv B S9) 0 0 B.2.2.2 :=
  zmet (by decide) (Nat.le_of_ble_eq_true rfl) (fun p e s m args below meth c C hr hlk hK hSt hW ls hl => zw_A_payEach C hr hlk hK hSt hap r0 hr0 x1 S nx1 hf _ _ _ hW va_S.rf hl)
/-! IslandOffice$Almanac.payMonth(LIslandOffice$Island;)V -/
abbrev zy_A_payMonth : MethodName := ⟨"IslandOffice$Almanac", "payMonth", "(LIslandOffice$Island;)V"⟩
abbrev zb_A_payMonth : ByteArray := prog_2_method_16_code
abbrev zm_A_payMonth : Room := { frames := 3, cells := 0, slots := 0, locals := 68 }
theorem zq_A_payMonth : zMs zy_A_payMonth zb_A_payMonth 4 (none) 1 := ⟨zk_1021, zk_1020, zk_13, by decide, by decide, by decide +kernel⟩
theorem zd_A_payMonth_0 : decode zb_A_payMonth 0 = .ok (.aload_n 0, 1) := by decide +kernel
theorem zd_A_payMonth_1 : decode zb_A_payMonth 1 = .ok (.ldc 238, 2) := by decide +kernel
theorem zd_A_payMonth_3 : decode zb_A_payMonth 3 = .ok (.aload_n 0, 1) := by decide +kernel
theorem zd_A_payMonth_4 : decode zb_A_payMonth 4 = .ok (.getfield 239, 3) := by decide +kernel
theorem zd_A_payMonth_7 : decode zb_A_payMonth 7 = .ok (.iconst 5, 1) := by decide +kernel
theorem zd_A_payMonth_8 : decode zb_A_payMonth 8 = .ok (.aload_n 0, 1) := by decide +kernel
theorem zd_A_payMonth_9 : decode zb_A_payMonth 9 = .ok (.getfield 116, 3) := by decide +kernel
theorem zd_A_payMonth_12 : decode zb_A_payMonth 12 = .ok (.iconst 1, 1) := by decide +kernel
theorem zd_A_payMonth_13 : decode zb_A_payMonth 13 = .ok (.invokevirtual 242, 3) := by decide +kernel
theorem zd_A_payMonth_16 : decode zb_A_payMonth 16 = .ok (.imul, 1) := by decide +kernel
theorem zd_A_payMonth_17 : decode zb_A_payMonth 17 = .ok (.iadd, 1) := by decide +kernel
theorem zd_A_payMonth_18 : decode zb_A_payMonth 18 = .ok (.invokestatic 174, 3) := by decide +kernel
theorem zd_A_payMonth_21 : decode zb_A_payMonth 21 = .ok (.putfield 239, 3) := by decide +kernel
theorem zd_A_payMonth_24 : decode zb_A_payMonth 24 = .ok (.aload_n 0, 1) := by decide +kernel
theorem zd_A_payMonth_25 : decode zb_A_payMonth 25 = .ok (.getfield 245, 3) := by decide +kernel
theorem zd_A_payMonth_28 : decode zb_A_payMonth 28 = .ok (.istore_n 1, 1) := by decide +kernel
theorem zd_A_payMonth_29 : decode zb_A_payMonth 29 = .ok (.iconst 0, 1) := by decide +kernel
theorem zd_A_payMonth_30 : decode zb_A_payMonth 30 = .ok (.istore_n 2, 1) := by decide +kernel
theorem zd_A_payMonth_31 : decode zb_A_payMonth 31 = .ok (.iload_n 2, 1) := by decide +kernel
theorem zd_A_payMonth_32 : decode zb_A_payMonth 32 = .ok (.iconst 3, 1) := by decide +kernel
theorem zd_A_payMonth_33 : decode zb_A_payMonth 33 = .ok (.if_icmp .ge 71, 3) := by decide +kernel
theorem zd_A_payMonth_36 : decode zb_A_payMonth 36 = .ok (.iload_n 1, 1) := by decide +kernel
theorem zd_A_payMonth_37 : decode zb_A_payMonth 37 = .ok (.iconst 3, 1) := by decide +kernel
theorem zd_A_payMonth_38 : decode zb_A_payMonth 38 = .ok (.irem, 1) := by decide +kernel
theorem zd_A_payMonth_39 : decode zb_A_payMonth 39 = .ok (.istore_n 3, 1) := by decide +kernel
theorem zd_A_payMonth_40 : decode zb_A_payMonth 40 = .ok (.iload_n 1, 1) := by decide +kernel
theorem zd_A_payMonth_41 : decode zb_A_payMonth 41 = .ok (.iconst 3, 1) := by decide +kernel
theorem zd_A_payMonth_42 : decode zb_A_payMonth 42 = .ok (.idiv, 1) := by decide +kernel
theorem zd_A_payMonth_43 : decode zb_A_payMonth 43 = .ok (.istore_n 1, 1) := by decide +kernel
theorem zd_A_payMonth_44 : decode zb_A_payMonth 44 = .ok (.iload_n 3, 1) := by decide +kernel
theorem zd_A_payMonth_45 : decode zb_A_payMonth 45 = .ok (.ifCond .eq 8, 3) := by decide +kernel
theorem zd_A_payMonth_48 : decode zb_A_payMonth 48 = .ok (.iload_n 3, 1) := by decide +kernel
theorem zd_A_payMonth_49 : decode zb_A_payMonth 49 = .ok (.iconst 1, 1) := by decide +kernel
theorem zd_A_payMonth_50 : decode zb_A_payMonth 50 = .ok (.if_icmp .ne 20, 3) := by decide +kernel
theorem zd_A_payMonth_53 : decode zb_A_payMonth 53 = .ok (.aload_n 0, 1) := by decide +kernel
theorem zd_A_payMonth_54 : decode zb_A_payMonth 54 = .ok (.iload_n 3, 1) := by decide +kernel
theorem zd_A_payMonth_55 : decode zb_A_payMonth 55 = .ok (.iconst 1, 1) := by decide +kernel
theorem zd_A_payMonth_56 : decode zb_A_payMonth 56 = .ok (.if_icmp .ne 7, 3) := by decide +kernel
theorem zd_A_payMonth_59 : decode zb_A_payMonth 59 = .ok (.iconst 1, 1) := by decide +kernel
theorem zd_A_payMonth_60 : decode zb_A_payMonth 60 = .ok (.goto 4, 3) := by decide +kernel
theorem zd_A_payMonth_63 : decode zb_A_payMonth 63 = .ok (.iconst 0, 1) := by decide +kernel
theorem zd_A_payMonth_64 : decode zb_A_payMonth 64 = .ok (.invokestatic 248, 3) := by decide +kernel
theorem zd_A_payMonth_67 : decode zb_A_payMonth 67 = .ok (.goto 31, 3) := by decide +kernel
theorem zd_A_payMonth_70 : decode zb_A_payMonth 70 = .ok (.aload_n 0, 1) := by decide +kernel
theorem zd_A_payMonth_71 : decode zb_A_payMonth 71 = .ok (.getfield 239, 3) := by decide +kernel
theorem zd_A_payMonth_74 : decode zb_A_payMonth 74 = .ok (.iconst 5, 1) := by decide +kernel
theorem zd_A_payMonth_75 : decode zb_A_payMonth 75 = .ok (.if_icmp .lt 23, 3) := by decide +kernel
theorem zd_A_payMonth_78 : decode zb_A_payMonth 78 = .ok (.aload_n 0, 1) := by decide +kernel
theorem zd_A_payMonth_79 : decode zb_A_payMonth 79 = .ok (.dup, 1) := by decide +kernel
theorem zd_A_payMonth_80 : decode zb_A_payMonth 80 = .ok (.getfield 239, 3) := by decide +kernel
theorem zd_A_payMonth_83 : decode zb_A_payMonth 83 = .ok (.iconst 5, 1) := by decide +kernel
theorem zd_A_payMonth_84 : decode zb_A_payMonth 84 = .ok (.isub, 1) := by decide +kernel
theorem zd_A_payMonth_85 : decode zb_A_payMonth 85 = .ok (.putfield 239, 3) := by decide +kernel
theorem zd_A_payMonth_88 : decode zb_A_payMonth 88 = .ok (.aload_n 0, 1) := by decide +kernel
theorem zd_A_payMonth_89 : decode zb_A_payMonth 89 = .ok (.dup, 1) := by decide +kernel
theorem zd_A_payMonth_90 : decode zb_A_payMonth 90 = .ok (.getfield 251, 3) := by decide +kernel
theorem zd_A_payMonth_93 : decode zb_A_payMonth 93 = .ok (.iconst 5, 1) := by decide +kernel
theorem zd_A_payMonth_94 : decode zb_A_payMonth 94 = .ok (.iadd, 1) := by decide +kernel
theorem zd_A_payMonth_95 : decode zb_A_payMonth 95 = .ok (.putfield 251, 3) := by decide +kernel
theorem zd_A_payMonth_98 : decode zb_A_payMonth 98 = .ok (.iinc 2 1, 3) := by decide +kernel
theorem zd_A_payMonth_101 : decode zb_A_payMonth 101 = .ok (.goto (-70), 3) := by decide +kernel
theorem zd_A_payMonth_104 : decode zb_A_payMonth 104 = .ok (.return_, 1) := by decide +kernel

def zf_A_payMonth_98 (r0 : Int) (q31 : Int → Int → Sg → Option (Int × Sg)) (x1 : Int) (x2 : Int) (S : Sg) : Option (Int × Sg) :=
    zlt (zw (x2 + 1)) fun v1 => q31 (x1) (v1) S
set_option maxHeartbeats 4000000 in
set_option maxRecDepth 100000 in
theorem zw_A_payMonth_98 {p : Program} {l : Launch} {e : Env} {s : State} {m : MethodId} {args : Array Value} {below : List Frame} {meth : Method} {c : Code} {B : zB} (C : CallFix p m c zb_A_payMonth 4 s args zT "IslandOffice$Almanac") (hr : meth.sig.returnType = none) (hlk : meth.locks = false) (hK : zK B s) (hSt : zSt B s) (hap : zAp B) (r0 : Int) (hr0 : 0 ≤ r0 ∧ r0 < 3) {res : Int} {S9 : Sg} (q31 : Int → Int → Sg → Option (Int × Sg)) (hq31 : ∀ (x1 : Int) (x2 : Int) (S : Sg) (nx1 : zn x1) (nx2 : zn x2), q31 x1 x2 S = some (res, S9) → ∀ (H : Heap) (locs : List Loc) (ls : Array Slot), zW B S H → va_S B.2.2.2 s.heap H locs → lv_has ls 4 [(0, .ref (B.2.1 0 (r0) (0))), (1, .int (zI (x1))), (2, .int (zI (x2)))] → W p l e zm_A_payMonth s m args below meth c H locs 0 0 (MQ below (zQv B S9) args s 0 0 B.2.2.2) (F0 m 31 ls [])) : ∀ (x1 : Int) (x2 : Int) (S : Sg) (nx1 : zn x1) (nx2 : zn x2), zf_A_payMonth_98 r0 q31 x1 x2 S = some (res, S9) → ∀ (H : Heap) (locs : List Loc) (ls : Array Slot), zW B S H → va_S B.2.2.2 s.heap H locs → lv_has ls 4 [(0, .ref (B.2.1 0 (r0) (0))), (1, .int (zI (x1))), (2, .int (zI (x2)))] → W p l e zm_A_payMonth s m args below meth c H locs 0 0 (MQ below (zQv B S9) args s 0 0 B.2.2.2) (F0 m 98 ls []) := by
  intro x1 x2 S nx1 nx2 hf H locs ls hW hS hl
  unfold zf_A_payMonth_98 at hf
  obtain ⟨v1, ev1, hf⟩ := zlt_some hf
  have nv1 : zn v1 := by rw [← ev1]; exact zn_w _
  refine lv_iinc (v := zI v1) (lv' := [(2, .int (zI (v1))), (0, .ref (B.2.1 0 (r0) (0))), (1, .int (zI (x1)))]) C.1 C.2.1 zd_A_payMonth_98 hl (k := 2) rfl (by rw [← ev1, ← zI_add]; rfl) (by decide) rfl (fun ls hl => ?_)
  refine lv_goto (tgt := 31) C.1 C.2.1 zd_A_payMonth_101 (by decide) ?_
  exact hq31 (x1) (v1) S nx1 nv1 hf _ _ _ hW hS (lv_sub hl [1, 2, 0] rfl)

def zf_A_payMonth_64 (r0 : Int) (q31 : Int → Int → Sg → Option (Int × Sg)) (x1 : Int) (x2 : Int) (xt1 : Int) (S : Sg) : Option (Int × Sg) :=
    zbd (zf_A_payEach (r0) xt1 S) fun a1 S2 => zf_A_payMonth_98 r0 q31 (x1) (x2) S2
set_option maxHeartbeats 4000000 in
set_option maxRecDepth 100000 in
theorem zw_A_payMonth_64 {p : Program} {l : Launch} {e : Env} {s : State} {m : MethodId} {args : Array Value} {below : List Frame} {meth : Method} {c : Code} {B : zB} (C : CallFix p m c zb_A_payMonth 4 s args zT "IslandOffice$Almanac") (hr : meth.sig.returnType = none) (hlk : meth.locks = false) (hK : zK B s) (hSt : zSt B s) (hap : zAp B) (r0 : Int) (hr0 : 0 ≤ r0 ∧ r0 < 3) {res : Int} {S9 : Sg} (q31 : Int → Int → Sg → Option (Int × Sg)) (hq31 : ∀ (x1 : Int) (x2 : Int) (S : Sg) (nx1 : zn x1) (nx2 : zn x2), q31 x1 x2 S = some (res, S9) → ∀ (H : Heap) (locs : List Loc) (ls : Array Slot), zW B S H → va_S B.2.2.2 s.heap H locs → lv_has ls 4 [(0, .ref (B.2.1 0 (r0) (0))), (1, .int (zI (x1))), (2, .int (zI (x2)))] → W p l e zm_A_payMonth s m args below meth c H locs 0 0 (MQ below (zQv B S9) args s 0 0 B.2.2.2) (F0 m 31 ls [])) : ∀ (x1 : Int) (x2 : Int) (xt1 : Int) (S : Sg) (nx1 : zn x1) (nx2 : zn x2) (nxt1 : zn xt1), zf_A_payMonth_64 r0 q31 x1 x2 xt1 S = some (res, S9) → ∀ (H : Heap) (locs : List Loc) (ls : Array Slot), zW B S H → va_S B.2.2.2 s.heap H locs → lv_has ls 4 [(0, .ref (B.2.1 0 (r0) (0))), (1, .int (zI (x1))), (2, .int (zI (x2)))] → W p l e zm_A_payMonth s m args below meth c H locs 0 0 (MQ below (zQv B S9) args s 0 0 B.2.2.2) (F0 m 64 ls [.int (zI (xt1)), .ref (B.2.1 0 (r0) (0))]) := by
  intro x1 x2 xt1 S nx1 nx2 nxt1 hf H locs ls hW hS hl
  unfold zf_A_payMonth_64 at hf
  obtain ⟨a1, S2, ea1, hf⟩ := zbd_some hf
  refine zcSv (As := [.ref (B.2.1 0 (r0) (0)), .int (zI (xt1))]) (rest := []) C hK hSt hW hS (zc_A_payEach hap (r0) hr0 xt1 S nxt1 ea1) zq_A_payEach zk_1027 ⟨rfl, rfl, by decide, by decide⟩ ⟨Nat.zero_le _, Nat.zero_le _⟩ rfl hl.1 rfl (lv_room (Nat.le_of_ble_eq_true rfl)) zd_A_payMonth_64 (fun H locs hW hS => ?_)
  refine lv_goto (tgt := 98) C.1 C.2.1 zd_A_payMonth_67 (by decide) ?_
  exact zw_A_payMonth_98 C hr hlk hK hSt hap r0 hr0 q31 hq31 (x1) (x2) S2 nx1 nx2 hf _ _ _ hW hS (lv_sub hl [0, 1, 2] rfl)

def zf_A_payMonth_53 (r0 : Int) (q31 : Int → Int → Sg → Option (Int × Sg)) (x1 : Int) (x2 : Int) (x3 : Int) (S : Sg) : Option (Int × Sg) :=
    if x3 = 1 then (zf_A_payMonth_64 r0 q31 (x1) (x2) (1) S) else (zf_A_payMonth_64 r0 q31 (x1) (x2) (0) S)
set_option maxHeartbeats 4000000 in
set_option maxRecDepth 100000 in
theorem zw_A_payMonth_53 {p : Program} {l : Launch} {e : Env} {s : State} {m : MethodId} {args : Array Value} {below : List Frame} {meth : Method} {c : Code} {B : zB} (C : CallFix p m c zb_A_payMonth 4 s args zT "IslandOffice$Almanac") (hr : meth.sig.returnType = none) (hlk : meth.locks = false) (hK : zK B s) (hSt : zSt B s) (hap : zAp B) (r0 : Int) (hr0 : 0 ≤ r0 ∧ r0 < 3) {res : Int} {S9 : Sg} (q31 : Int → Int → Sg → Option (Int × Sg)) (hq31 : ∀ (x1 : Int) (x2 : Int) (S : Sg) (nx1 : zn x1) (nx2 : zn x2), q31 x1 x2 S = some (res, S9) → ∀ (H : Heap) (locs : List Loc) (ls : Array Slot), zW B S H → va_S B.2.2.2 s.heap H locs → lv_has ls 4 [(0, .ref (B.2.1 0 (r0) (0))), (1, .int (zI (x1))), (2, .int (zI (x2)))] → W p l e zm_A_payMonth s m args below meth c H locs 0 0 (MQ below (zQv B S9) args s 0 0 B.2.2.2) (F0 m 31 ls [])) : ∀ (x1 : Int) (x2 : Int) (x3 : Int) (S : Sg) (nx1 : zn x1) (nx2 : zn x2) (nx3 : zn x3), zf_A_payMonth_53 r0 q31 x1 x2 x3 S = some (res, S9) → ∀ (H : Heap) (locs : List Loc) (ls : Array Slot), zW B S H → va_S B.2.2.2 s.heap H locs → lv_has ls 4 [(0, .ref (B.2.1 0 (r0) (0))), (1, .int (zI (x1))), (2, .int (zI (x2))), (3, .int (zI (x3)))] → W p l e zm_A_payMonth s m args below meth c H locs 0 0 (MQ below (zQv B S9) args s 0 0 B.2.2.2) (F0 m 53 ls []) := by
  intro x1 x2 x3 S nx1 nx2 nx3 hf H locs ls hW hS hl
  unfold zf_A_payMonth_53 at hf
  refine lv_aload_n C.1 C.2.1 zd_A_payMonth_53 rfl (lv_at hl 0 rfl) ?_
  refine lv_iload_n C.1 C.2.1 zd_A_payMonth_54 rfl (lv_at hl 3 rfl) ?_
  refine zr_iconst C zd_A_payMonth_55 ?_
  refine zr_icmp_ne (tgt := 63) C nx3 (znb rfl) zd_A_payMonth_56 (by decide) (fun c1 => ?_) (fun c1 => ?_)
  · rw [if_neg c1] at hf
    refine zr_iconst C zd_A_payMonth_63 ?_
    exact zw_A_payMonth_64 C hr hlk hK hSt hap r0 hr0 q31 hq31 (x1) (x2) (0) S nx1 nx2 (znb rfl) hf _ _ _ hW hS (lv_sub hl [0, 1, 2] rfl)
  · rw [if_pos c1] at hf
    refine zr_iconst C zd_A_payMonth_59 ?_
    refine lv_goto (tgt := 64) C.1 C.2.1 zd_A_payMonth_60 (by decide) ?_
    exact zw_A_payMonth_64 C hr hlk hK hSt hap r0 hr0 q31 hq31 (x1) (x2) (1) S nx1 nx2 (znb rfl) hf _ _ _ hW hS (lv_sub hl [0, 1, 2] rfl)

def zf_A_payMonth_31 (r0 : Int) : Nat → Int → Int → Sg → Option (Int × Sg)
  | 0, _, _, _ => none
  | n + 1, x1, x2, S =>
    if 3 ≤ x2 then (some (0, S)) else (zlt (zrem x1 3) fun v2 => zlt (zdiv x1 3) fun v3 => if v2 = 0 then (zf_A_payMonth_53 r0 (zf_A_payMonth_31 r0 n) (v3) (x2) (v2) S) else (if v2 = 1 then (zf_A_payMonth_53 r0 (zf_A_payMonth_31 r0 n) (v3) (x2) (v2) S) else (if (S 0 r0 0 1) < 5 then (zf_A_payMonth_98 r0 (zf_A_payMonth_31 r0 n) (v3) (x2) S) else (zlt (zu S 0 r0 0 1 (zw ((S 0 r0 0 1) - 5))) fun S7 => zlt (zu S7 0 r0 0 2 (zw ((S7 0 r0 0 2) + 5))) fun S8 => zf_A_payMonth_98 r0 (zf_A_payMonth_31 r0 n) (v3) (x2) S8))))
set_option maxHeartbeats 4000000 in
set_option maxRecDepth 100000 in
theorem zw_A_payMonth_31 {p : Program} {l : Launch} {e : Env} {s : State} {m : MethodId} {args : Array Value} {below : List Frame} {meth : Method} {c : Code} {B : zB} (C : CallFix p m c zb_A_payMonth 4 s args zT "IslandOffice$Almanac") (hr : meth.sig.returnType = none) (hlk : meth.locks = false) (hK : zK B s) (hSt : zSt B s) (hap : zAp B) (r0 : Int) (hr0 : 0 ≤ r0 ∧ r0 < 3) {res : Int} {S9 : Sg} : ∀ n : Nat, ∀ (x1 : Int) (x2 : Int) (S : Sg) (nx1 : zn x1) (nx2 : zn x2), zf_A_payMonth_31 r0 n x1 x2 S = some (res, S9) → ∀ (H : Heap) (locs : List Loc) (ls : Array Slot), zW B S H → va_S B.2.2.2 s.heap H locs → lv_has ls 4 [(0, .ref (B.2.1 0 (r0) (0))), (1, .int (zI (x1))), (2, .int (zI (x2)))] → W p l e zm_A_payMonth s m args below meth c H locs 0 0 (MQ below (zQv B S9) args s 0 0 B.2.2.2) (F0 m 31 ls []) := by
  intro n
  induction n with
  | zero =>
    intro x1 x2 S nx1 nx2 hf H locs ls hW hS hl
    cases hf
  | succ n ih =>
    intro x1 x2 S nx1 nx2 hf H locs ls hW hS hl
    rw [zf_A_payMonth_31] at hf
    refine lv_iload_n C.1 C.2.1 zd_A_payMonth_31 rfl (lv_at hl 2 rfl) ?_
    refine zr_iconst C zd_A_payMonth_32 ?_
    refine zr_icmp_ge (tgt := 104) C nx2 (znb rfl) zd_A_payMonth_33 (by decide) (fun c1 => ?_) (fun c1 => ?_)
    · rw [if_pos c1] at hf
      cases hf
      exact zre_v C hr hlk hK hW hS zd_A_payMonth_104
    · rw [if_neg c1] at hf
      refine lv_iload_n C.1 C.2.1 zd_A_payMonth_36 rfl (lv_at hl 1 rfl) ?_
      refine zr_iconst C zd_A_payMonth_37 ?_
      refine zr_irem C nx1 (znb rfl) (by decide) zd_A_payMonth_38 ?_
      obtain ⟨v2, ev2, hf⟩ := zlt_some hf
      have nv2 : zn v2 := by rw [← ev2]; exact (zn_rem _ _)
      rw [ev2]
      refine lv_istore_n (lv' := [(3, .int (zI (v2))), (0, .ref (B.2.1 0 (r0) (0))), (1, .int (zI (x1))), (2, .int (zI (x2)))]) C.1 C.2.1 zd_A_payMonth_39 rfl hl (by decide) rfl (fun ls hl => ?_)
      refine lv_iload_n C.1 C.2.1 zd_A_payMonth_40 rfl (lv_at hl 2 rfl) ?_
      refine zr_iconst C zd_A_payMonth_41 ?_
      refine zr_idiv C nx1 (znb rfl) (by decide) zd_A_payMonth_42 ?_
      obtain ⟨v3, ev3, hf⟩ := zlt_some hf
      have nv3 : zn v3 := by rw [← ev3]; exact (zn_div _ _)
      rw [ev3]
      refine lv_istore_n (lv' := [(1, .int (zI (v3))), (3, .int (zI (v2))), (0, .ref (B.2.1 0 (r0) (0))), (2, .int (zI (x2)))]) C.1 C.2.1 zd_A_payMonth_43 rfl hl (by decide) rfl (fun ls hl => ?_)
      refine lv_iload_n C.1 C.2.1 zd_A_payMonth_44 rfl (lv_at hl 1 rfl) ?_
      refine zr_if_eq (tgt := 53) C nv2 zd_A_payMonth_45 (by decide) (fun c4 => ?_) (fun c4 => ?_)
      · rw [if_pos c4] at hf
        exact zw_A_payMonth_53 C hr hlk hK hSt hap r0 hr0 (zf_A_payMonth_31 r0 n) (ih) (v3) (x2) (v2) S nv3 nx2 nv2 hf _ _ _ hW hS (lv_sub hl [2, 0, 3, 1] rfl)
      · rw [if_neg c4] at hf
        refine lv_iload_n C.1 C.2.1 zd_A_payMonth_48 rfl (lv_at hl 1 rfl) ?_
        refine zr_iconst C zd_A_payMonth_49 ?_
        refine zr_icmp_ne (tgt := 70) C nv2 (znb rfl) zd_A_payMonth_50 (by decide) (fun c5 => ?_) (fun c5 => ?_)
        · rw [if_neg c5] at hf
          refine lv_aload_n C.1 C.2.1 zd_A_payMonth_70 rfl (lv_at hl 2 rfl) ?_
          refine zg_I_purse (r := r0) C hK hW (zvd_0 hr0 (by decide)) zk_245 zd_A_payMonth_71 ?_
          refine zr_iconst C zd_A_payMonth_74 ?_
          refine zr_icmp_lt (tgt := 98) C (zWn hW _ _ _ _ rfl) (znb rfl) zd_A_payMonth_75 (by decide) (fun c6 => ?_) (fun c6 => ?_)
          · rw [if_pos c6] at hf
            exact zw_A_payMonth_98 C hr hlk hK hSt hap r0 hr0 (zf_A_payMonth_31 r0 n) (ih) (v3) (x2) S nv3 nx2 hf _ _ _ hW hS (lv_sub hl [2, 0, 3] rfl)
          · rw [if_neg c6] at hf
            refine lv_aload_n C.1 C.2.1 zd_A_payMonth_78 rfl (lv_at hl 2 rfl) ?_
            refine lv_dup C.1 C.2.1 zd_A_payMonth_79 rfl ?_
            refine zg_I_purse (r := r0) C hK hW (zvd_0 hr0 (by decide)) zk_245 zd_A_payMonth_80 ?_
            refine zr_iconst C zd_A_payMonth_83 ?_
            refine zr_isub C zd_A_payMonth_84 ?_
            obtain ⟨S7, eS7, hf⟩ := zlt_some hf
            refine zp_I_purse (r := r0) C hK hap hW hS (zvd_0 hr0 (by decide)) zk_245 (zn_w _) zd_A_payMonth_85 (fun H locs hW hS => ?_)
            rw [eS7] at hW
            refine lv_aload_n C.1 C.2.1 zd_A_payMonth_88 rfl (lv_at hl 2 rfl) ?_
            refine lv_dup C.1 C.2.1 zd_A_payMonth_89 rfl ?_
            refine zg_I_fund (r := r0) C hK hW (zvd_0 hr0 (by decide)) zk_248 zd_A_payMonth_90 ?_
            refine zr_iconst C zd_A_payMonth_93 ?_
            refine zr_iadd C zd_A_payMonth_94 ?_
            obtain ⟨S8, eS8, hf⟩ := zlt_some hf
            refine zp_I_fund (r := r0) C hK hap hW hS (zvd_0 hr0 (by decide)) zk_248 (zn_w _) zd_A_payMonth_95 (fun H locs hW hS => ?_)
            rw [eS8] at hW
            exact zw_A_payMonth_98 C hr hlk hK hSt hap r0 hr0 (zf_A_payMonth_31 r0 n) (ih) (v3) (x2) S8 nv3 nx2 hf _ _ _ hW hS (lv_sub hl [2, 0, 3] rfl)
        · rw [if_pos c5] at hf
          exact zw_A_payMonth_53 C hr hlk hK hSt hap r0 hr0 (zf_A_payMonth_31 r0 n) (ih) (v3) (x2) (v2) S nv3 nx2 nv2 hf _ _ _ hW hS (lv_sub hl [2, 0, 3, 1] rfl)

def zf_A_payMonth (r0 : Int) (S : Sg) : Option (Int × Sg) :=
    zbd (zf_P_in (r0) 1 S) fun a1 S2 => zlt (zu S2 0 r0 0 1 (min 1000000 (zw ((S 0 r0 0 1) + (zw (5 * a1)))))) fun S4 => zlt (S4 0 r0 0 5) fun v5 => zf_A_payMonth_31 r0 4096 (v5) (0) S4
set_option maxHeartbeats 4000000 in
set_option maxRecDepth 100000 in
theorem zw_A_payMonth {p : Program} {l : Launch} {e : Env} {s : State} {m : MethodId} {args : Array Value} {below : List Frame} {meth : Method} {c : Code} {B : zB} (C : CallFix p m c zb_A_payMonth 4 s args zT "IslandOffice$Almanac") (hr : meth.sig.returnType = none) (hlk : meth.locks = false) (hK : zK B s) (hSt : zSt B s) (hap : zAp B) (r0 : Int) (hr0 : 0 ≤ r0 ∧ r0 < 3) {res : Int} {S9 : Sg} : ∀  (S : Sg) , zf_A_payMonth r0  S = some (res, S9) → ∀ (H : Heap) (locs : List Loc) (ls : Array Slot), zW B S H → va_S B.2.2.2 s.heap H locs → lv_has ls 4 [(0, .ref (B.2.1 0 (r0) (0)))] → W p l e zm_A_payMonth s m args below meth c H locs 0 0 (MQ below (zQv B S9) args s 0 0 B.2.2.2) (F0 m 0 ls []) := by
  intro S hf H locs ls hW hS hl
  unfold zf_A_payMonth at hf
  refine lv_aload_n C.1 C.2.1 zd_A_payMonth_0 rfl (lv_at hl 0 rfl) ?_
  refine zr_ldc (n := 1000000) C zk_1022 (by decide) zd_A_payMonth_1 ?_
  refine lv_aload_n C.1 C.2.1 zd_A_payMonth_3 rfl (lv_at hl 0 rfl) ?_
  refine zg_I_purse (r := r0) C hK hW (zvd_0 hr0 (by decide)) zk_245 zd_A_payMonth_4 ?_
  refine zr_iconst C zd_A_payMonth_7 ?_
  refine lv_aload_n C.1 C.2.1 zd_A_payMonth_8 rfl (lv_at hl 0 rfl) ?_
  refine zg_I_people (r := r0) C hK hW (zvd_0 hr0 (by decide)) zk_281 zd_A_payMonth_9 ?_
  refine zr_iconst C zd_A_payMonth_12 ?_
  have w3 : zn (S 0 r0 0 1) := (zWn hW _ _ _ _ rfl)
  obtain ⟨a1, S2, ea1, hf⟩ := zbd_some hf
  refine zcVi (As := [.int (zI (1))]) (rest := [.int (zI (5)), .int (zI (S 0 r0 0 1)), .int (zI (1000000)), .ref (B.2.1 0 (r0) (0))]) C hK hSt hW hS (zc_P_in hap (r0) hr0 1 S (znb rfl) ea1) zq_P_in zk_1023 (zrecv hK hW (zvd_0 hr0 (by decide)) (ze_0_6 B _ (r0)) rfl) ⟨rfl, rfl, by decide, by decide⟩ ⟨Nat.zero_le _, Nat.zero_le _⟩ rfl hl.1 rfl (lv_room (Nat.le_of_ble_eq_true rfl)) zd_A_payMonth_13 (fun na1 H locs hW hS => ?_)
  refine zr_imul C zd_A_payMonth_16 ?_
  refine zr_iadd C zd_A_payMonth_17 ?_
  refine zr_min C hl.1 (znb rfl) (zn_w _) zk_963 zk_909 zk_16 zk_910 (by decide) (Nat.le_of_ble_eq_true rfl) ⟨by decide, by decide⟩ zd_A_payMonth_18 ?_
  obtain ⟨S4, eS4, hf⟩ := zlt_some hf
  refine zp_I_purse (r := r0) C hK hap hW hS (zvd_0 hr0 (by decide)) zk_245 (zn_min (znb rfl) (zn_w _)) zd_A_payMonth_21 (fun H locs hW hS => ?_)
  rw [eS4] at hW
  refine lv_aload_n C.1 C.2.1 zd_A_payMonth_24 rfl (lv_at hl 0 rfl) ?_
  refine zg_I_orderOfPay (r := r0) C hK hW (zvd_0 hr0 (by decide)) zk_257 zd_A_payMonth_25 ?_
  obtain ⟨v5, ev5, hf⟩ := zlt_some hf
  have nv5 : zn v5 := by rw [← ev5]; exact (zWn hW _ _ _ _ rfl)
  rw [ev5]
  refine lv_istore_n (lv' := [(1, .int (zI (v5))), (0, .ref (B.2.1 0 (r0) (0)))]) C.1 C.2.1 zd_A_payMonth_28 rfl hl (by decide) rfl (fun ls hl => ?_)
  refine zr_iconst C zd_A_payMonth_29 ?_
  refine lv_istore_n (lv' := [(2, .int (zI (0))), (1, .int (zI (v5))), (0, .ref (B.2.1 0 (r0) (0)))]) C.1 C.2.1 zd_A_payMonth_30 rfl hl (by decide) rfl (fun ls hl => ?_)
  exact zw_A_payMonth_31 C hr hlk hK hSt hap r0 hr0 4096 (v5) (0) S4 nv5 (znb rfl) hf _ _ _ hW hS (lv_sub hl [2, 1, 0] rfl)

theorem zc_A_payMonth {l : Launch} {B : zB} (hap : zAp B) (r0 : Int) (hr0 : 0 ≤ r0 ∧ r0 < 3) (S : Sg) {res : Int} {S9 : Sg} (hf : zf_A_payMonth r0 S = some (res, S9)) : Met l zy_A_payMonth (Cond.code zy_A_payMonth zb_A_payMonth 4 (none) :: zT) zm_A_payMonth (zP B S [.ref (B.2.1 0 (r0) (0))]) (zQv B S9) 0 0 B.2.2.2 :=
  zmet (by decide) (Nat.le_of_ble_eq_true rfl) (fun p e s m args below meth c C hr hlk hK hSt hW ls hl => zw_A_payMonth C hr hlk hK hSt hap r0 hr0  S  hf _ _ _ hW va_S.rf hl)
/-! IslandOffice$Almanac.sendGuestsOff(LIslandOffice$Island;)V -/
abbrev zy_A_sendGuestsOff : MethodName := ⟨"IslandOffice$Almanac", "sendGuestsOff", "(LIslandOffice$Island;)V"⟩
abbrev zb_A_sendGuestsOff : ByteArray := prog_2_method_3_code
abbrev zm_A_sendGuestsOff : Room := { frames := 0, cells := 0, slots := 0, locals := 0 }
theorem zq_A_sendGuestsOff : zMs zy_A_sendGuestsOff zb_A_sendGuestsOff 3 (none) 1 := ⟨zk_941, zk_940, zk_13, by decide, by decide, by decide +kernel⟩
theorem zd_A_sendGuestsOff_0 : decode zb_A_sendGuestsOff 0 = .ok (.aload_n 0, 1) := by decide +kernel
theorem zd_A_sendGuestsOff_1 : decode zb_A_sendGuestsOff 1 = .ok (.getfield 116, 3) := by decide +kernel
theorem zd_A_sendGuestsOff_4 : decode zb_A_sendGuestsOff 4 = .ok (.astore_n 1, 1) := by decide +kernel
theorem zd_A_sendGuestsOff_5 : decode zb_A_sendGuestsOff 5 = .ok (.iconst 0, 1) := by decide +kernel
theorem zd_A_sendGuestsOff_6 : decode zb_A_sendGuestsOff 6 = .ok (.istore_n 2, 1) := by decide +kernel
theorem zd_A_sendGuestsOff_7 : decode zb_A_sendGuestsOff 7 = .ok (.iload_n 2, 1) := by decide +kernel
theorem zd_A_sendGuestsOff_8 : decode zb_A_sendGuestsOff 8 = .ok (.aload_n 1, 1) := by decide +kernel
theorem zd_A_sendGuestsOff_9 : decode zb_A_sendGuestsOff 9 = .ok (.getfield 120, 3) := by decide +kernel
theorem zd_A_sendGuestsOff_12 : decode zb_A_sendGuestsOff 12 = .ok (.if_icmp .ge 47, 3) := by decide +kernel
theorem zd_A_sendGuestsOff_15 : decode zb_A_sendGuestsOff 15 = .ok (.aload_n 1, 1) := by decide +kernel
theorem zd_A_sendGuestsOff_16 : decode zb_A_sendGuestsOff 16 = .ok (.getfield 125, 3) := by decide +kernel
theorem zd_A_sendGuestsOff_19 : decode zb_A_sendGuestsOff 19 = .ok (.iload_n 2, 1) := by decide +kernel
theorem zd_A_sendGuestsOff_20 : decode zb_A_sendGuestsOff 20 = .ok (.iaload, 1) := by decide +kernel
theorem zd_A_sendGuestsOff_21 : decode zb_A_sendGuestsOff 21 = .ok (.ifCond .ne 32, 3) := by decide +kernel
theorem zd_A_sendGuestsOff_24 : decode zb_A_sendGuestsOff 24 = .ok (.aload_n 1, 1) := by decide +kernel
theorem zd_A_sendGuestsOff_25 : decode zb_A_sendGuestsOff 25 = .ok (.getfield 128, 3) := by decide +kernel
theorem zd_A_sendGuestsOff_28 : decode zb_A_sendGuestsOff 28 = .ok (.iload_n 2, 1) := by decide +kernel
theorem zd_A_sendGuestsOff_29 : decode zb_A_sendGuestsOff 29 = .ok (.iaload, 1) := by decide +kernel
theorem zd_A_sendGuestsOff_30 : decode zb_A_sendGuestsOff 30 = .ok (.ifCond .lt 23, 3) := by decide +kernel
theorem zd_A_sendGuestsOff_33 : decode zb_A_sendGuestsOff 33 = .ok (.aload_n 1, 1) := by decide +kernel
theorem zd_A_sendGuestsOff_34 : decode zb_A_sendGuestsOff 34 = .ok (.getfield 128, 3) := by decide +kernel
theorem zd_A_sendGuestsOff_37 : decode zb_A_sendGuestsOff 37 = .ok (.iload_n 2, 1) := by decide +kernel
theorem zd_A_sendGuestsOff_38 : decode zb_A_sendGuestsOff 38 = .ok (.iaload, 1) := by decide +kernel
theorem zd_A_sendGuestsOff_39 : decode zb_A_sendGuestsOff 39 = .ok (.aload_n 0, 1) := by decide +kernel
theorem zd_A_sendGuestsOff_40 : decode zb_A_sendGuestsOff 40 = .ok (.getfield 45, 3) := by decide +kernel
theorem zd_A_sendGuestsOff_43 : decode zb_A_sendGuestsOff 43 = .ok (.if_icmp .gt 10, 3) := by decide +kernel
theorem zd_A_sendGuestsOff_46 : decode zb_A_sendGuestsOff 46 = .ok (.aload_n 1, 1) := by decide +kernel
theorem zd_A_sendGuestsOff_47 : decode zb_A_sendGuestsOff 47 = .ok (.getfield 125, 3) := by decide +kernel
theorem zd_A_sendGuestsOff_50 : decode zb_A_sendGuestsOff 50 = .ok (.iload_n 2, 1) := by decide +kernel
theorem zd_A_sendGuestsOff_51 : decode zb_A_sendGuestsOff 51 = .ok (.iconst 2, 1) := by decide +kernel
theorem zd_A_sendGuestsOff_52 : decode zb_A_sendGuestsOff 52 = .ok (.iastore, 1) := by decide +kernel
theorem zd_A_sendGuestsOff_53 : decode zb_A_sendGuestsOff 53 = .ok (.iinc 2 1, 3) := by decide +kernel
theorem zd_A_sendGuestsOff_56 : decode zb_A_sendGuestsOff 56 = .ok (.goto (-49), 3) := by decide +kernel
theorem zd_A_sendGuestsOff_59 : decode zb_A_sendGuestsOff 59 = .ok (.return_, 1) := by decide +kernel

def zf_A_sendGuestsOff_53 (r0 : Int) (q7 : Int → Sg → Option (Int × Sg)) (x2 : Int) (S : Sg) : Option (Int × Sg) :=
    zlt (zw (x2 + 1)) fun v1 => q7 (v1) S
set_option maxHeartbeats 4000000 in
set_option maxRecDepth 100000 in
theorem zw_A_sendGuestsOff_53 {p : Program} {l : Launch} {e : Env} {s : State} {m : MethodId} {args : Array Value} {below : List Frame} {meth : Method} {c : Code} {B : zB} (C : CallFix p m c zb_A_sendGuestsOff 3 s args zT "IslandOffice$Almanac") (hr : meth.sig.returnType = none) (hlk : meth.locks = false) (hK : zK B s) (hSt : zSt B s) (hap : zAp B) (r0 : Int) (hr0 : 0 ≤ r0 ∧ r0 < 3) {res : Int} {S9 : Sg} (q7 : Int → Sg → Option (Int × Sg)) (hq7 : ∀ (x2 : Int) (S : Sg) (nx2 : zn x2), q7 x2 S = some (res, S9) → ∀ (H : Heap) (locs : List Loc) (ls : Array Slot), zW B S H → va_S B.2.2.2 s.heap H locs → lv_has ls 3 [(0, .ref (B.2.1 0 (r0) (0))), (1, .ref (B.2.1 0 (r0) (6))), (2, .int (zI (x2)))] → W p l e zm_A_sendGuestsOff s m args below meth c H locs 0 0 (MQ below (zQv B S9) args s 0 0 B.2.2.2) (F0 m 7 ls [])) : ∀ (x2 : Int) (S : Sg) (nx2 : zn x2), zf_A_sendGuestsOff_53 r0 q7 x2 S = some (res, S9) → ∀ (H : Heap) (locs : List Loc) (ls : Array Slot), zW B S H → va_S B.2.2.2 s.heap H locs → lv_has ls 3 [(0, .ref (B.2.1 0 (r0) (0))), (1, .ref (B.2.1 0 (r0) (6))), (2, .int (zI (x2)))] → W p l e zm_A_sendGuestsOff s m args below meth c H locs 0 0 (MQ below (zQv B S9) args s 0 0 B.2.2.2) (F0 m 53 ls []) := by
  intro x2 S nx2 hf H locs ls hW hS hl
  unfold zf_A_sendGuestsOff_53 at hf
  obtain ⟨v1, ev1, hf⟩ := zlt_some hf
  have nv1 : zn v1 := by rw [← ev1]; exact zn_w _
  refine lv_iinc (v := zI v1) (lv' := [(2, .int (zI (v1))), (0, .ref (B.2.1 0 (r0) (0))), (1, .ref (B.2.1 0 (r0) (6)))]) C.1 C.2.1 zd_A_sendGuestsOff_53 hl (k := 2) rfl (by rw [← ev1, ← zI_add]; rfl) (by decide) rfl (fun ls hl => ?_)
  refine lv_goto (tgt := 7) C.1 C.2.1 zd_A_sendGuestsOff_56 (by decide) ?_
  exact hq7 (v1) S nv1 hf _ _ _ hW hS (lv_sub hl [1, 2, 0] rfl)

def zf_A_sendGuestsOff_7 (r0 : Int) : Nat → Int → Sg → Option (Int × Sg)
  | 0, _, _ => none
  | n + 1, x2, S =>
    if (S 0 r0 6 0) ≤ x2 then (some (0, S)) else (zck (0 ≤ x2 ∧ x2 < 40) <| if (S 0 r0 11 x2) = 0 then (if (S 0 r0 12 x2) < 0 then (zf_A_sendGuestsOff_53 r0 (zf_A_sendGuestsOff_7 r0 n) (x2) S) else (if (S 0 r0 0 0) < (S 0 r0 12 x2) then (zf_A_sendGuestsOff_53 r0 (zf_A_sendGuestsOff_7 r0 n) (x2) S) else (zlt (zu S 0 r0 11 x2 2) fun S6 => zf_A_sendGuestsOff_53 r0 (zf_A_sendGuestsOff_7 r0 n) (x2) S6))) else (zf_A_sendGuestsOff_53 r0 (zf_A_sendGuestsOff_7 r0 n) (x2) S))
set_option maxHeartbeats 4000000 in
set_option maxRecDepth 100000 in
theorem zw_A_sendGuestsOff_7 {p : Program} {l : Launch} {e : Env} {s : State} {m : MethodId} {args : Array Value} {below : List Frame} {meth : Method} {c : Code} {B : zB} (C : CallFix p m c zb_A_sendGuestsOff 3 s args zT "IslandOffice$Almanac") (hr : meth.sig.returnType = none) (hlk : meth.locks = false) (hK : zK B s) (hSt : zSt B s) (hap : zAp B) (r0 : Int) (hr0 : 0 ≤ r0 ∧ r0 < 3) {res : Int} {S9 : Sg} : ∀ n : Nat, ∀ (x2 : Int) (S : Sg) (nx2 : zn x2), zf_A_sendGuestsOff_7 r0 n x2 S = some (res, S9) → ∀ (H : Heap) (locs : List Loc) (ls : Array Slot), zW B S H → va_S B.2.2.2 s.heap H locs → lv_has ls 3 [(0, .ref (B.2.1 0 (r0) (0))), (1, .ref (B.2.1 0 (r0) (6))), (2, .int (zI (x2)))] → W p l e zm_A_sendGuestsOff s m args below meth c H locs 0 0 (MQ below (zQv B S9) args s 0 0 B.2.2.2) (F0 m 7 ls []) := by
  intro n
  induction n with
  | zero =>
    intro x2 S nx2 hf H locs ls hW hS hl
    cases hf
  | succ n ih =>
    intro x2 S nx2 hf H locs ls hW hS hl
    rw [zf_A_sendGuestsOff_7] at hf
    refine lv_iload_n C.1 C.2.1 zd_A_sendGuestsOff_7 rfl (lv_at hl 2 rfl) ?_
    refine lv_aload_n C.1 C.2.1 zd_A_sendGuestsOff_8 rfl (lv_at hl 1 rfl) ?_
    refine zg_P_n (r := r0) C hK hW (zvd_0 hr0 (by decide)) zk_54 zd_A_sendGuestsOff_9 ?_
    refine zr_icmp_ge (tgt := 59) C nx2 (zWn hW _ _ _ _ rfl) zd_A_sendGuestsOff_12 (by decide) (fun c1 => ?_) (fun c1 => ?_)
    · rw [if_pos c1] at hf
      cases hf
      exact zre_v C hr hlk hK hW hS zd_A_sendGuestsOff_59
    · rw [if_neg c1] at hf
      refine lv_aload_n C.1 C.2.1 zd_A_sendGuestsOff_15 rfl (lv_at hl 1 rfl) ?_
      refine zg_P_state (r := r0) C hK hW (zvd_0 hr0 (by decide)) zk_72 zd_A_sendGuestsOff_16 ?_
      refine lv_iload_n C.1 C.2.1 zd_A_sendGuestsOff_19 rfl (lv_at hl 2 rfl) ?_
      obtain ⟨h2, hf⟩ := zck_some hf
      refine ziald C hK hW (zvd_0 hr0 (by decide)) (fun f => ze_0_11 B f (r0)) (by decide) h2 zd_A_sendGuestsOff_20 ?_
      refine zr_if_ne (tgt := 53) C (zWn hW _ _ _ _ rfl) zd_A_sendGuestsOff_21 (by decide) (fun c3 => ?_) (fun c3 => ?_)
      · rw [if_neg c3] at hf
        exact zw_A_sendGuestsOff_53 C hr hlk hK hSt hap r0 hr0 (zf_A_sendGuestsOff_7 r0 n) (ih) (x2) S nx2 hf _ _ _ hW hS (lv_sub hl [0, 1, 2] rfl)
      · rw [if_pos c3] at hf
        refine lv_aload_n C.1 C.2.1 zd_A_sendGuestsOff_24 rfl (lv_at hl 1 rfl) ?_
        refine zg_P_end (r := r0) C hK hW (zvd_0 hr0 (by decide)) zk_76 zd_A_sendGuestsOff_25 ?_
        refine lv_iload_n C.1 C.2.1 zd_A_sendGuestsOff_28 rfl (lv_at hl 2 rfl) ?_
        refine ziald C hK hW (zvd_0 hr0 (by decide)) (fun f => ze_0_12 B f (r0)) (by decide) h2 zd_A_sendGuestsOff_29 ?_
        refine zr_if_lt (tgt := 53) C (zWn hW _ _ _ _ rfl) zd_A_sendGuestsOff_30 (by decide) (fun c4 => ?_) (fun c4 => ?_)
        · rw [if_pos c4] at hf
          exact zw_A_sendGuestsOff_53 C hr hlk hK hSt hap r0 hr0 (zf_A_sendGuestsOff_7 r0 n) (ih) (x2) S nx2 hf _ _ _ hW hS (lv_sub hl [0, 1, 2] rfl)
        · rw [if_neg c4] at hf
          refine lv_aload_n C.1 C.2.1 zd_A_sendGuestsOff_33 rfl (lv_at hl 1 rfl) ?_
          refine zg_P_end (r := r0) C hK hW (zvd_0 hr0 (by decide)) zk_76 zd_A_sendGuestsOff_34 ?_
          refine lv_iload_n C.1 C.2.1 zd_A_sendGuestsOff_37 rfl (lv_at hl 2 rfl) ?_
          refine ziald C hK hW (zvd_0 hr0 (by decide)) (fun f => ze_0_12 B f (r0)) (by decide) h2 zd_A_sendGuestsOff_38 ?_
          refine lv_aload_n C.1 C.2.1 zd_A_sendGuestsOff_39 rfl (lv_at hl 0 rfl) ?_
          refine zg_I_week (r := r0) C hK hW (zvd_0 hr0 (by decide)) zk_240 zd_A_sendGuestsOff_40 ?_
          refine zr_icmp_gt (tgt := 53) C (zWn hW _ _ _ _ rfl) (zWn hW _ _ _ _ rfl) zd_A_sendGuestsOff_43 (by decide) (fun c5 => ?_) (fun c5 => ?_)
          · rw [if_pos c5] at hf
            exact zw_A_sendGuestsOff_53 C hr hlk hK hSt hap r0 hr0 (zf_A_sendGuestsOff_7 r0 n) (ih) (x2) S nx2 hf _ _ _ hW hS (lv_sub hl [0, 1, 2] rfl)
          · rw [if_neg c5] at hf
            refine lv_aload_n C.1 C.2.1 zd_A_sendGuestsOff_46 rfl (lv_at hl 1 rfl) ?_
            refine zg_P_state (r := r0) C hK hW (zvd_0 hr0 (by decide)) zk_72 zd_A_sendGuestsOff_47 ?_
            refine lv_iload_n C.1 C.2.1 zd_A_sendGuestsOff_50 rfl (lv_at hl 2 rfl) ?_
            refine zr_iconst C zd_A_sendGuestsOff_51 ?_
            obtain ⟨S6, eS6, hf⟩ := zlt_some hf
            refine ziast C hK hap hW hS (zvd_0 hr0 (by decide)) (fun f => ze_0_11 B f (r0)) (by decide) rfl (znb rfl) h2 zd_A_sendGuestsOff_52 (fun H locs hW hS => ?_)
            rw [eS6] at hW
            exact zw_A_sendGuestsOff_53 C hr hlk hK hSt hap r0 hr0 (zf_A_sendGuestsOff_7 r0 n) (ih) (x2) S6 nx2 hf _ _ _ hW hS (lv_sub hl [0, 1, 2] rfl)

def zf_A_sendGuestsOff (r0 : Int) (S : Sg) : Option (Int × Sg) :=
    zf_A_sendGuestsOff_7 r0 4096 (0) S
set_option maxHeartbeats 4000000 in
set_option maxRecDepth 100000 in
theorem zw_A_sendGuestsOff {p : Program} {l : Launch} {e : Env} {s : State} {m : MethodId} {args : Array Value} {below : List Frame} {meth : Method} {c : Code} {B : zB} (C : CallFix p m c zb_A_sendGuestsOff 3 s args zT "IslandOffice$Almanac") (hr : meth.sig.returnType = none) (hlk : meth.locks = false) (hK : zK B s) (hSt : zSt B s) (hap : zAp B) (r0 : Int) (hr0 : 0 ≤ r0 ∧ r0 < 3) {res : Int} {S9 : Sg} : ∀  (S : Sg) , zf_A_sendGuestsOff r0  S = some (res, S9) → ∀ (H : Heap) (locs : List Loc) (ls : Array Slot), zW B S H → va_S B.2.2.2 s.heap H locs → lv_has ls 3 [(0, .ref (B.2.1 0 (r0) (0)))] → W p l e zm_A_sendGuestsOff s m args below meth c H locs 0 0 (MQ below (zQv B S9) args s 0 0 B.2.2.2) (F0 m 0 ls []) := by
  intro S hf H locs ls hW hS hl
  unfold zf_A_sendGuestsOff at hf
  refine lv_aload_n C.1 C.2.1 zd_A_sendGuestsOff_0 rfl (lv_at hl 0 rfl) ?_
  refine zg_I_people (r := r0) C hK hW (zvd_0 hr0 (by decide)) zk_281 zd_A_sendGuestsOff_1 ?_
  refine lv_astore_n (lv' := [(1, .ref (B.2.1 0 (r0) (6))), (0, .ref (B.2.1 0 (r0) (0)))]) C.1 C.2.1 zd_A_sendGuestsOff_4 rfl hl (by decide) rfl (fun ls hl => ?_)
  refine zr_iconst C zd_A_sendGuestsOff_5 ?_
  refine lv_istore_n (lv' := [(2, .int (zI (0))), (1, .ref (B.2.1 0 (r0) (6))), (0, .ref (B.2.1 0 (r0) (0)))]) C.1 C.2.1 zd_A_sendGuestsOff_6 rfl hl (by decide) rfl (fun ls hl => ?_)
  exact zw_A_sendGuestsOff_7 C hr hlk hK hSt hap r0 hr0 4096 (0) S (znb rfl) hf _ _ _ hW hS (lv_sub hl [2, 1, 0] rfl)

theorem zc_A_sendGuestsOff {l : Launch} {B : zB} (hap : zAp B) (r0 : Int) (hr0 : 0 ≤ r0 ∧ r0 < 3) (S : Sg) {res : Int} {S9 : Sg} (hf : zf_A_sendGuestsOff r0 S = some (res, S9)) : Met l zy_A_sendGuestsOff (Cond.code zy_A_sendGuestsOff zb_A_sendGuestsOff 3 (none) :: zT) zm_A_sendGuestsOff (zP B S [.ref (B.2.1 0 (r0) (0))]) (zQv B S9) 0 0 B.2.2.2 :=
  zmet (by decide) (Nat.le_of_ble_eq_true rfl) (fun p e s m args below meth c C hr hlk hK hSt hW ls hl => zw_A_sendGuestsOff C hr hlk hK hSt hap r0 hr0  S  hf _ _ _ hW va_S.rf hl)
