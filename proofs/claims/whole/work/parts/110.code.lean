/-! IslandOfficeModel.toss(I)I -/
abbrev zy_M_toss : MethodName := ⟨"IslandOfficeModel", "toss", "(I)I"⟩
abbrev zb_M_toss : ByteArray := prog_14_method_73_code
abbrev zm_M_toss : Room := { frames := 2, cells := 0, slots := 0, locals := 43 }
theorem zq_M_toss : zMy zy_M_toss zb_M_toss 3 (some .int) 1 := ⟨zk_2061, zk_2059, zk_2060, zk_14, by decide, by decide, by decide +kernel⟩
theorem zd_M_toss_0 : decode zb_M_toss 0 = .ok (.aload_n 0, 1) := by decide +kernel
theorem zd_M_toss_1 : decode zb_M_toss 1 = .ok (.iconst 0, 1) := by decide +kernel
theorem zd_M_toss_2 : decode zb_M_toss 2 = .ok (.putfield 46, 3) := by decide +kernel
theorem zd_M_toss_5 : decode zb_M_toss 5 = .ok (.iload_n 1, 1) := by decide +kernel
theorem zd_M_toss_6 : decode zb_M_toss 6 = .ok (.invokestatic 172, 3) := by decide +kernel
theorem zd_M_toss_9 : decode zb_M_toss 9 = .ok (.ifCond .ne 5, 3) := by decide +kernel
theorem zd_M_toss_12 : decode zb_M_toss 12 = .ok (.iconst (-1), 1) := by decide +kernel
theorem zd_M_toss_13 : decode zb_M_toss 13 = .ok (.ireturn, 1) := by decide +kernel
theorem zd_M_toss_14 : decode zb_M_toss 14 = .ok (.aload_n 0, 1) := by decide +kernel
theorem zd_M_toss_15 : decode zb_M_toss 15 = .ok (.iload_n 1, 1) := by decide +kernel
theorem zd_M_toss_16 : decode zb_M_toss 16 = .ok (.invokevirtual 342, 3) := by decide +kernel
theorem zd_M_toss_19 : decode zb_M_toss 19 = .ok (.ifCond .eq 9, 3) := by decide +kernel
theorem zd_M_toss_22 : decode zb_M_toss 22 = .ok (.aload_n 0, 1) := by decide +kernel
theorem zd_M_toss_23 : decode zb_M_toss 23 = .ok (.iload_n 1, 1) := by decide +kernel
theorem zd_M_toss_24 : decode zb_M_toss 24 = .ok (.invokevirtual 342, 3) := by decide +kernel
theorem zd_M_toss_27 : decode zb_M_toss 27 = .ok (.ireturn, 1) := by decide +kernel
theorem zd_M_toss_28 : decode zb_M_toss 28 = .ok (.aload_n 0, 1) := by decide +kernel
theorem zd_M_toss_29 : decode zb_M_toss 29 = .ok (.getfield 22, 3) := by decide +kernel
theorem zd_M_toss_32 : decode zb_M_toss 32 = .ok (.iload_n 1, 1) := by decide +kernel
theorem zd_M_toss_33 : decode zb_M_toss 33 = .ok (.iaload, 1) := by decide +kernel
theorem zd_M_toss_34 : decode zb_M_toss 34 = .ok (.iconst 2, 1) := by decide +kernel
theorem zd_M_toss_35 : decode zb_M_toss 35 = .ok (.if_icmp .ne 62, 3) := by decide +kernel
theorem zd_M_toss_38 : decode zb_M_toss 38 = .ok (.aload_n 0, 1) := by decide +kernel
theorem zd_M_toss_39 : decode zb_M_toss 39 = .ok (.aload_n 0, 1) := by decide +kernel
theorem zd_M_toss_40 : decode zb_M_toss 40 = .ok (.getfield 37, 3) := by decide +kernel
theorem zd_M_toss_43 : decode zb_M_toss 43 = .ok (.iload_n 1, 1) := by decide +kernel
theorem zd_M_toss_44 : decode zb_M_toss 44 = .ok (.aaload, 1) := by decide +kernel
theorem zd_M_toss_45 : decode zb_M_toss 45 = .ok (.iconst 0, 1) := by decide +kernel
theorem zd_M_toss_46 : decode zb_M_toss 46 = .ok (.iaload, 1) := by decide +kernel
theorem zd_M_toss_47 : decode zb_M_toss 47 = .ok (.invokevirtual 216, 3) := by decide +kernel
theorem zd_M_toss_50 : decode zb_M_toss 50 = .ok (.ifCond .eq 27, 3) := by decide +kernel
theorem zd_M_toss_53 : decode zb_M_toss 53 = .ok (.aload_n 0, 1) := by decide +kernel
theorem zd_M_toss_54 : decode zb_M_toss 54 = .ok (.getfield 10, 3) := by decide +kernel
theorem zd_M_toss_57 : decode zb_M_toss 57 = .ok (.getfield 210, 3) := by decide +kernel
theorem zd_M_toss_60 : decode zb_M_toss 60 = .ok (.aload_n 0, 1) := by decide +kernel
theorem zd_M_toss_61 : decode zb_M_toss 61 = .ok (.getfield 37, 3) := by decide +kernel
theorem zd_M_toss_64 : decode zb_M_toss 64 = .ok (.iload_n 1, 1) := by decide +kernel
theorem zd_M_toss_65 : decode zb_M_toss 65 = .ok (.aaload, 1) := by decide +kernel
theorem zd_M_toss_66 : decode zb_M_toss 66 = .ok (.iconst 0, 1) := by decide +kernel
theorem zd_M_toss_67 : decode zb_M_toss 67 = .ok (.iaload, 1) := by decide +kernel
theorem zd_M_toss_68 : decode zb_M_toss 68 = .ok (.iaload, 1) := by decide +kernel
theorem zd_M_toss_69 : decode zb_M_toss 69 = .ok (.iconst 1, 1) := by decide +kernel
theorem zd_M_toss_70 : decode zb_M_toss 70 = .ok (.if_icmp .ne 7, 3) := by decide +kernel
theorem zd_M_toss_73 : decode zb_M_toss 73 = .ok (.iconst 1, 1) := by decide +kernel
theorem zd_M_toss_74 : decode zb_M_toss 74 = .ok (.goto 4, 3) := by decide +kernel
theorem zd_M_toss_77 : decode zb_M_toss 77 = .ok (.iconst 0, 1) := by decide +kernel
theorem zd_M_toss_78 : decode zb_M_toss 78 = .ok (.istore_n 2, 1) := by decide +kernel
theorem zd_M_toss_79 : decode zb_M_toss 79 = .ok (.iload_n 2, 1) := by decide +kernel
theorem zd_M_toss_80 : decode zb_M_toss 80 = .ok (.ifCond .eq 8, 3) := by decide +kernel
theorem zd_M_toss_83 : decode zb_M_toss 83 = .ok (.bipush (-15), 2) := by decide +kernel
theorem zd_M_toss_85 : decode zb_M_toss 85 = .ok (.goto 11, 3) := by decide +kernel
theorem zd_M_toss_88 : decode zb_M_toss 88 = .ok (.aload_n 0, 1) := by decide +kernel
theorem zd_M_toss_89 : decode zb_M_toss 89 = .ok (.getfield 37, 3) := by decide +kernel
theorem zd_M_toss_92 : decode zb_M_toss 92 = .ok (.iload_n 1, 1) := by decide +kernel
theorem zd_M_toss_93 : decode zb_M_toss 93 = .ok (.aaload, 1) := by decide +kernel
theorem zd_M_toss_94 : decode zb_M_toss 94 = .ok (.iconst 3, 1) := by decide +kernel
theorem zd_M_toss_95 : decode zb_M_toss 95 = .ok (.iaload, 1) := by decide +kernel
theorem zd_M_toss_96 : decode zb_M_toss 96 = .ok (.ireturn, 1) := by decide +kernel
theorem zd_M_toss_97 : decode zb_M_toss 97 = .ok (.aload_n 0, 1) := by decide +kernel
theorem zd_M_toss_98 : decode zb_M_toss 98 = .ok (.getfield 37, 3) := by decide +kernel
theorem zd_M_toss_101 : decode zb_M_toss 101 = .ok (.iload_n 1, 1) := by decide +kernel
theorem zd_M_toss_102 : decode zb_M_toss 102 = .ok (.aaload, 1) := by decide +kernel
theorem zd_M_toss_103 : decode zb_M_toss 103 = .ok (.iconst 0, 1) := by decide +kernel
theorem zd_M_toss_104 : decode zb_M_toss 104 = .ok (.iaload, 1) := by decide +kernel
theorem zd_M_toss_105 : decode zb_M_toss 105 = .ok (.iconst 3, 1) := by decide +kernel
theorem zd_M_toss_106 : decode zb_M_toss 106 = .ok (.if_icmp .ne 8, 3) := by decide +kernel
theorem zd_M_toss_109 : decode zb_M_toss 109 = .ok (.bipush (-15), 2) := by decide +kernel
theorem zd_M_toss_111 : decode zb_M_toss 111 = .ok (.goto 37, 3) := by decide +kernel
theorem zd_M_toss_114 : decode zb_M_toss 114 = .ok (.aload_n 0, 1) := by decide +kernel
theorem zd_M_toss_115 : decode zb_M_toss 115 = .ok (.getfield 37, 3) := by decide +kernel
theorem zd_M_toss_118 : decode zb_M_toss 118 = .ok (.iload_n 1, 1) := by decide +kernel
theorem zd_M_toss_119 : decode zb_M_toss 119 = .ok (.aaload, 1) := by decide +kernel
theorem zd_M_toss_120 : decode zb_M_toss 120 = .ok (.iconst 0, 1) := by decide +kernel
theorem zd_M_toss_121 : decode zb_M_toss 121 = .ok (.iaload, 1) := by decide +kernel
theorem zd_M_toss_122 : decode zb_M_toss 122 = .ok (.iconst 5, 1) := by decide +kernel
theorem zd_M_toss_123 : decode zb_M_toss 123 = .ok (.if_icmp .ne 17, 3) := by decide +kernel
theorem zd_M_toss_126 : decode zb_M_toss 126 = .ok (.aload_n 0, 1) := by decide +kernel
theorem zd_M_toss_127 : decode zb_M_toss 127 = .ok (.getfield 37, 3) := by decide +kernel
theorem zd_M_toss_130 : decode zb_M_toss 130 = .ok (.iload_n 1, 1) := by decide +kernel
theorem zd_M_toss_131 : decode zb_M_toss 131 = .ok (.aaload, 1) := by decide +kernel
theorem zd_M_toss_132 : decode zb_M_toss 132 = .ok (.iconst 2, 1) := by decide +kernel
theorem zd_M_toss_133 : decode zb_M_toss 133 = .ok (.iaload, 1) := by decide +kernel
theorem zd_M_toss_134 : decode zb_M_toss 134 = .ok (.bipush 100, 2) := by decide +kernel
theorem zd_M_toss_136 : decode zb_M_toss 136 = .ok (.iadd, 1) := by decide +kernel
theorem zd_M_toss_137 : decode zb_M_toss 137 = .ok (.goto 11, 3) := by decide +kernel
theorem zd_M_toss_140 : decode zb_M_toss 140 = .ok (.aload_n 0, 1) := by decide +kernel
theorem zd_M_toss_141 : decode zb_M_toss 141 = .ok (.getfield 37, 3) := by decide +kernel
theorem zd_M_toss_144 : decode zb_M_toss 144 = .ok (.iload_n 1, 1) := by decide +kernel
theorem zd_M_toss_145 : decode zb_M_toss 145 = .ok (.aaload, 1) := by decide +kernel
theorem zd_M_toss_146 : decode zb_M_toss 146 = .ok (.iconst 2, 1) := by decide +kernel
theorem zd_M_toss_147 : decode zb_M_toss 147 = .ok (.iaload, 1) := by decide +kernel
theorem zd_M_toss_148 : decode zb_M_toss 148 = .ok (.ireturn, 1) := by decide +kernel

def zf_M_toss_78 (x1 : Int) (xt0 : Int) (S : Sg) : Option (Int × Sg) :=
    if xt0 = 0 then (zck (0 ≤ x1 ∧ x1 < 8) <| some (S 11 x1 0 3, S)) else (some (-15, S))
set_option maxHeartbeats 4000000 in
set_option maxRecDepth 100000 in
theorem zw_M_toss_78 {p : Program} {l : Launch} {e : Env} {s : State} {m : MethodId} {args : Array Value} {below : List Frame} {meth : Method} {c : Code} {B : zB} (C : CallFix p m c zb_M_toss 3 s args zT "IslandOfficeModel") (hr : meth.sig.returnType = some .int) (hlk : meth.locks = false) (hK : zK B s) (hSt : zSt B s) (hap : zAp B) {res : Int} {S9 : Sg} : ∀ (x1 : Int) (xt0 : Int) (S : Sg) (nx1 : zn x1) (nxt0 : zn xt0), zf_M_toss_78 x1 xt0 S = some (res, S9) → ∀ (H : Heap) (locs : List Loc) (ls : Array Slot), zW B S H → va_S B.2.2.2 s.heap H locs → lv_has ls 3 [(0, .ref (B.2.1 9 (0) (0))), (1, .int (zI (x1)))] → W p l e zm_M_toss s m args below meth c H locs 0 0 (MQ below (zQi B res S9) args s 0 0 B.2.2.2) (F0 m 78 ls [.int (zI (xt0))]) := by
  intro x1 xt0 S nx1 nxt0 hf H locs ls hW hS hl
  unfold zf_M_toss_78 at hf
  refine lv_istore_n (lv' := [(2, .int (zI (xt0))), (0, .ref (B.2.1 9 (0) (0))), (1, .int (zI (x1)))]) C.1 C.2.1 zd_M_toss_78 rfl hl (by decide) rfl (fun ls hl => ?_)
  refine lv_iload_n C.1 C.2.1 zd_M_toss_79 rfl (lv_at hl 0 rfl) ?_
  refine zr_if_eq (tgt := 88) C nxt0 zd_M_toss_80 (by decide) (fun c1 => ?_) (fun c1 => ?_)
  · rw [if_pos c1] at hf
    refine lv_aload_n C.1 C.2.1 zd_M_toss_88 rfl (lv_at hl 1 rfl) ?_
    refine zg_M_kept (r := 0) C hK hW (zvd_9 (by decide) (by decide)) zk_1509 zd_M_toss_89 ?_
    refine lv_iload_n C.1 C.2.1 zd_M_toss_92 rfl (lv_at hl 2 rfl) ?_
    obtain ⟨h2, hf⟩ := zck_some hf
    refine zaald (t0 := 4) C hK hW (zvd_9 (by decide) (by decide)) (fun f => ze_9_5 B f (0)) rfl rfl (by decide) h2 zd_M_toss_93 (a := B.2.1 11 (x1) (0)) (by rw [Int.toNat_of_nonneg h2.1]) ?_
    refine zr_iconst C zd_M_toss_94 ?_
    refine ziald C hK hW (zvd_11 h2 (by decide)) (fun f => ze_11_0 B f (x1)) (by decide) (by decide) zd_M_toss_95 ?_
    cases hf
    exact zre_i C hr hlk hK hW hS (zWn hW _ _ _ _ rfl) zd_M_toss_96
  · rw [if_neg c1] at hf
    refine zr_bipush C zd_M_toss_83 (by decide) ?_
    refine lv_goto (tgt := 96) C.1 C.2.1 zd_M_toss_85 (by decide) ?_
    cases hf
    exact zre_i C hr hlk hK hW hS (znb rfl) zd_M_toss_96

def zf_M_toss_77 (x1 : Int) (S : Sg) : Option (Int × Sg) :=
    zf_M_toss_78 (x1) (0) S
set_option maxHeartbeats 4000000 in
set_option maxRecDepth 100000 in
theorem zw_M_toss_77 {p : Program} {l : Launch} {e : Env} {s : State} {m : MethodId} {args : Array Value} {below : List Frame} {meth : Method} {c : Code} {B : zB} (C : CallFix p m c zb_M_toss 3 s args zT "IslandOfficeModel") (hr : meth.sig.returnType = some .int) (hlk : meth.locks = false) (hK : zK B s) (hSt : zSt B s) (hap : zAp B) {res : Int} {S9 : Sg} : ∀ (x1 : Int) (S : Sg) (nx1 : zn x1), zf_M_toss_77 x1 S = some (res, S9) → ∀ (H : Heap) (locs : List Loc) (ls : Array Slot), zW B S H → va_S B.2.2.2 s.heap H locs → lv_has ls 3 [(0, .ref (B.2.1 9 (0) (0))), (1, .int (zI (x1)))] → W p l e zm_M_toss s m args below meth c H locs 0 0 (MQ below (zQi B res S9) args s 0 0 B.2.2.2) (F0 m 77 ls []) := by
  intro x1 S nx1 hf H locs ls hW hS hl
  unfold zf_M_toss_77 at hf
  refine zr_iconst C zd_M_toss_77 ?_
  exact zw_M_toss_78 C hr hlk hK hSt hap   (x1) (0) S nx1 (znb rfl) hf _ _ _ hW hS (lv_sub hl [0, 1] rfl)

def zf_M_toss (x1 : Int) (S : Sg) : Option (Int × Sg) :=
    zlt (zu S 9 0 0 4 0) fun S1 => zbd (zf_M_isShelf x1 S1) fun a2 S3 => if a2 = 0 then (some (-1, S3)) else (zbd (zf_M_noThing x1 S3) fun a5 S6 => if a5 = 0 then (zck (0 ≤ x1 ∧ x1 < 8) <| if (S6 9 0 1 x1) = 2 then (zbd (zf_M_isLaw (S6 11 x1 0 0) S6) fun a12 S13 => if a12 = 0 then (zf_M_toss_77 (x1) S13) else (zck (0 ≤ (S13 11 x1 0 0) ∧ (S13 11 x1 0 0) < 12) <| if (S13 5 0 19 (S13 11 x1 0 0)) = 1 then (zf_M_toss_78 (x1) (1) S13) else (zf_M_toss_77 (x1) S13))) else (if (S6 11 x1 0 0) = 3 then (some (-15, S6)) else (if (S6 11 x1 0 0) = 5 then (some (zw ((S6 11 x1 0 2) + 100), S6)) else (some (S6 11 x1 0 2, S6))))) else (zbd (zf_M_noThing x1 S6) fun a17 S18 => some (a17, S18)))
set_option maxHeartbeats 4000000 in
set_option maxRecDepth 100000 in
theorem zw_M_toss {p : Program} {l : Launch} {e : Env} {s : State} {m : MethodId} {args : Array Value} {below : List Frame} {meth : Method} {c : Code} {B : zB} (C : CallFix p m c zb_M_toss 3 s args zT "IslandOfficeModel") (hr : meth.sig.returnType = some .int) (hlk : meth.locks = false) (hK : zK B s) (hSt : zSt B s) (hap : zAp B) {res : Int} {S9 : Sg} : ∀ (x1 : Int) (S : Sg) (nx1 : zn x1), zf_M_toss x1 S = some (res, S9) → ∀ (H : Heap) (locs : List Loc) (ls : Array Slot), zW B S H → va_S B.2.2.2 s.heap H locs → lv_has ls 3 [(0, .ref (B.2.1 9 (0) (0))), (1, .int (zI (x1)))] → W p l e zm_M_toss s m args below meth c H locs 0 0 (MQ below (zQi B res S9) args s 0 0 B.2.2.2) (F0 m 0 ls []) := by
  intro x1 S nx1 hf H locs ls hW hS hl
  unfold zf_M_toss at hf
  refine lv_aload_n C.1 C.2.1 zd_M_toss_0 rfl (lv_at hl 0 rfl) ?_
  refine zr_iconst C zd_M_toss_1 ?_
  obtain ⟨S1, eS1, hf⟩ := zlt_some hf
  refine zp_M_thrown (r := 0) C hK hap hW hS (zvd_9 (by decide) (by decide)) zk_1504 (znb rfl) zd_M_toss_2 (fun H locs hW hS => ?_)
  rw [eS1] at hW
  refine lv_iload_n C.1 C.2.1 zd_M_toss_5 rfl (lv_at hl 1 rfl) ?_
  obtain ⟨a2, S3, ea2, hf⟩ := zbd_some hf
  refine zcSi (As := [.int (zI (x1))]) (rest := []) C hK hSt hW hS (zc_M_isShelf hap x1 S1 nx1 ea2) zq_M_isShelf zk_1645 ⟨rfl, rfl, by decide, by decide⟩ ⟨Nat.zero_le _, Nat.zero_le _⟩ rfl hl.1 rfl (lv_room (Nat.le_of_ble_eq_true rfl)) zd_M_toss_6 (fun na2 H locs hW hS => ?_)
  refine zr_if_ne (tgt := 14) C na2 zd_M_toss_9 (by decide) (fun c4 => ?_) (fun c4 => ?_)
  · rw [if_neg c4] at hf
    refine lv_aload_n C.1 C.2.1 zd_M_toss_14 rfl (lv_at hl 0 rfl) ?_
    refine lv_iload_n C.1 C.2.1 zd_M_toss_15 rfl (lv_at hl 1 rfl) ?_
    obtain ⟨a5, S6, ea5, hf⟩ := zbd_some hf
    refine zcVi (As := [.int (zI (x1))]) (rest := []) C hK hSt hW hS (zc_M_noThing hap x1 S3 nx1 ea5) zq_M_noThing zk_2052 (zrecv hK hW (zvd_9 (by decide) (by decide)) (ze_9_0 B _ (0)) rfl) ⟨rfl, rfl, by decide, by decide⟩ ⟨Nat.zero_le _, Nat.zero_le _⟩ rfl hl.1 rfl (lv_room (Nat.le_of_ble_eq_true rfl)) zd_M_toss_16 (fun na5 H locs hW hS => ?_)
    refine zr_if_eq (tgt := 28) C na5 zd_M_toss_19 (by decide) (fun c7 => ?_) (fun c7 => ?_)
    · rw [if_pos c7] at hf
      refine lv_aload_n C.1 C.2.1 zd_M_toss_28 rfl (lv_at hl 0 rfl) ?_
      refine zg_M_held (r := 0) C hK hW (zvd_9 (by decide) (by decide)) zk_1505 zd_M_toss_29 ?_
      refine lv_iload_n C.1 C.2.1 zd_M_toss_32 rfl (lv_at hl 1 rfl) ?_
      obtain ⟨h8, hf⟩ := zck_some hf
      refine ziald C hK hW (zvd_9 (by decide) (by decide)) (fun f => ze_9_1 B f (0)) (by decide) h8 zd_M_toss_33 ?_
      refine zr_iconst C zd_M_toss_34 ?_
      refine zr_icmp_ne (tgt := 97) C (zWn hW _ _ _ _ rfl) (znb rfl) zd_M_toss_35 (by decide) (fun c9 => ?_) (fun c9 => ?_)
      · rw [if_neg c9] at hf
        refine lv_aload_n C.1 C.2.1 zd_M_toss_97 rfl (lv_at hl 0 rfl) ?_
        refine zg_M_kept (r := 0) C hK hW (zvd_9 (by decide) (by decide)) zk_1509 zd_M_toss_98 ?_
        refine lv_iload_n C.1 C.2.1 zd_M_toss_101 rfl (lv_at hl 1 rfl) ?_
        refine zaald (t0 := 4) C hK hW (zvd_9 (by decide) (by decide)) (fun f => ze_9_5 B f (0)) rfl rfl (by decide) h8 zd_M_toss_102 (a := B.2.1 11 (x1) (0)) (by rw [Int.toNat_of_nonneg h8.1]) ?_
        refine zr_iconst C zd_M_toss_103 ?_
        refine ziald C hK hW (zvd_11 h8 (by decide)) (fun f => ze_11_0 B f (x1)) (by decide) (by decide) zd_M_toss_104 ?_
        refine zr_iconst C zd_M_toss_105 ?_
        refine zr_icmp_ne (tgt := 114) C (zWn hW _ _ _ _ rfl) (znb rfl) zd_M_toss_106 (by decide) (fun c10 => ?_) (fun c10 => ?_)
        · rw [if_neg c10] at hf
          refine lv_aload_n C.1 C.2.1 zd_M_toss_114 rfl (lv_at hl 0 rfl) ?_
          refine zg_M_kept (r := 0) C hK hW (zvd_9 (by decide) (by decide)) zk_1509 zd_M_toss_115 ?_
          refine lv_iload_n C.1 C.2.1 zd_M_toss_118 rfl (lv_at hl 1 rfl) ?_
          refine zaald (t0 := 4) C hK hW (zvd_9 (by decide) (by decide)) (fun f => ze_9_5 B f (0)) rfl rfl (by decide) h8 zd_M_toss_119 (a := B.2.1 11 (x1) (0)) (by rw [Int.toNat_of_nonneg h8.1]) ?_
          refine zr_iconst C zd_M_toss_120 ?_
          refine ziald C hK hW (zvd_11 h8 (by decide)) (fun f => ze_11_0 B f (x1)) (by decide) (by decide) zd_M_toss_121 ?_
          refine zr_iconst C zd_M_toss_122 ?_
          refine zr_icmp_ne (tgt := 140) C (zWn hW _ _ _ _ rfl) (znb rfl) zd_M_toss_123 (by decide) (fun c11 => ?_) (fun c11 => ?_)
          · rw [if_neg c11] at hf
            refine lv_aload_n C.1 C.2.1 zd_M_toss_140 rfl (lv_at hl 0 rfl) ?_
            refine zg_M_kept (r := 0) C hK hW (zvd_9 (by decide) (by decide)) zk_1509 zd_M_toss_141 ?_
            refine lv_iload_n C.1 C.2.1 zd_M_toss_144 rfl (lv_at hl 1 rfl) ?_
            refine zaald (t0 := 4) C hK hW (zvd_9 (by decide) (by decide)) (fun f => ze_9_5 B f (0)) rfl rfl (by decide) h8 zd_M_toss_145 (a := B.2.1 11 (x1) (0)) (by rw [Int.toNat_of_nonneg h8.1]) ?_
            refine zr_iconst C zd_M_toss_146 ?_
            refine ziald C hK hW (zvd_11 h8 (by decide)) (fun f => ze_11_0 B f (x1)) (by decide) (by decide) zd_M_toss_147 ?_
            cases hf
            exact zre_i C hr hlk hK hW hS (zWn hW _ _ _ _ rfl) zd_M_toss_148
          · rw [if_pos c11] at hf
            refine lv_aload_n C.1 C.2.1 zd_M_toss_126 rfl (lv_at hl 0 rfl) ?_
            refine zg_M_kept (r := 0) C hK hW (zvd_9 (by decide) (by decide)) zk_1509 zd_M_toss_127 ?_
            refine lv_iload_n C.1 C.2.1 zd_M_toss_130 rfl (lv_at hl 1 rfl) ?_
            refine zaald (t0 := 4) C hK hW (zvd_9 (by decide) (by decide)) (fun f => ze_9_5 B f (0)) rfl rfl (by decide) h8 zd_M_toss_131 (a := B.2.1 11 (x1) (0)) (by rw [Int.toNat_of_nonneg h8.1]) ?_
            refine zr_iconst C zd_M_toss_132 ?_
            refine ziald C hK hW (zvd_11 h8 (by decide)) (fun f => ze_11_0 B f (x1)) (by decide) (by decide) zd_M_toss_133 ?_
            refine zr_bipush C zd_M_toss_134 (by decide) ?_
            refine zr_iadd C zd_M_toss_136 ?_
            refine lv_goto (tgt := 148) C.1 C.2.1 zd_M_toss_137 (by decide) ?_
            cases hf
            exact zre_i C hr hlk hK hW hS (zn_w _) zd_M_toss_148
        · rw [if_pos c10] at hf
          refine zr_bipush C zd_M_toss_109 (by decide) ?_
          refine lv_goto (tgt := 148) C.1 C.2.1 zd_M_toss_111 (by decide) ?_
          cases hf
          exact zre_i C hr hlk hK hW hS (znb rfl) zd_M_toss_148
      · rw [if_pos c9] at hf
        refine lv_aload_n C.1 C.2.1 zd_M_toss_38 rfl (lv_at hl 0 rfl) ?_
        refine lv_aload_n C.1 C.2.1 zd_M_toss_39 rfl (lv_at hl 0 rfl) ?_
        refine zg_M_kept (r := 0) C hK hW (zvd_9 (by decide) (by decide)) zk_1509 zd_M_toss_40 ?_
        refine lv_iload_n C.1 C.2.1 zd_M_toss_43 rfl (lv_at hl 1 rfl) ?_
        refine zaald (t0 := 4) C hK hW (zvd_9 (by decide) (by decide)) (fun f => ze_9_5 B f (0)) rfl rfl (by decide) h8 zd_M_toss_44 (a := B.2.1 11 (x1) (0)) (by rw [Int.toNat_of_nonneg h8.1]) ?_
        refine zr_iconst C zd_M_toss_45 ?_
        refine ziald C hK hW (zvd_11 h8 (by decide)) (fun f => ze_11_0 B f (x1)) (by decide) (by decide) zd_M_toss_46 ?_
        obtain ⟨a12, S13, ea12, hf⟩ := zbd_some hf
        refine zcVi (As := [.int (zI (S6 11 x1 0 0))]) (rest := []) C hK hSt hW hS (zc_M_isLaw hap (S6 11 x1 0 0) S6 (zWn hW _ _ _ _ rfl) ea12) zq_M_isLaw zk_1749 (zrecv hK hW (zvd_9 (by decide) (by decide)) (ze_9_0 B _ (0)) rfl) ⟨rfl, rfl, by decide, by decide⟩ ⟨Nat.zero_le _, Nat.zero_le _⟩ rfl hl.1 rfl (lv_room (Nat.le_of_ble_eq_true rfl)) zd_M_toss_47 (fun na12 H locs hW hS => ?_)
        refine zr_if_eq (tgt := 77) C na12 zd_M_toss_50 (by decide) (fun c14 => ?_) (fun c14 => ?_)
        · rw [if_pos c14] at hf
          exact zw_M_toss_77 C hr hlk hK hSt hap   (x1) S13 nx1 hf _ _ _ hW hS (lv_sub hl [0, 1] rfl)
        · rw [if_neg c14] at hf
          refine lv_aload_n C.1 C.2.1 zd_M_toss_53 rfl (lv_at hl 0 rfl) ?_
          refine zg_M_world (r := 0) C hK hW (zvd_9 (by decide) (by decide)) zk_1500 zd_M_toss_54 ?_
          refine zg_W_isVoid (r := 0) C hK hW (zvd_5 (by decide) (by decide)) zk_1322 zd_M_toss_57 ?_
          refine lv_aload_n C.1 C.2.1 zd_M_toss_60 rfl (lv_at hl 0 rfl) ?_
          refine zg_M_kept (r := 0) C hK hW (zvd_9 (by decide) (by decide)) zk_1509 zd_M_toss_61 ?_
          refine lv_iload_n C.1 C.2.1 zd_M_toss_64 rfl (lv_at hl 1 rfl) ?_
          refine zaald (t0 := 4) C hK hW (zvd_9 (by decide) (by decide)) (fun f => ze_9_5 B f (0)) rfl rfl (by decide) h8 zd_M_toss_65 (a := B.2.1 11 (x1) (0)) (by rw [Int.toNat_of_nonneg h8.1]) ?_
          refine zr_iconst C zd_M_toss_66 ?_
          refine ziald C hK hW (zvd_11 h8 (by decide)) (fun f => ze_11_0 B f (x1)) (by decide) (by decide) zd_M_toss_67 ?_
          obtain ⟨h15, hf⟩ := zck_some hf
          refine ziald C hK hW (zvd_5 (by decide) (by decide)) (fun f => ze_5_19 B f (0)) (by decide) h15 zd_M_toss_68 ?_
          refine zr_iconst C zd_M_toss_69 ?_
          refine zr_icmp_ne (tgt := 77) C (zWn hW _ _ _ _ rfl) (znb rfl) zd_M_toss_70 (by decide) (fun c16 => ?_) (fun c16 => ?_)
          · rw [if_neg c16] at hf
            exact zw_M_toss_77 C hr hlk hK hSt hap   (x1) S13 nx1 hf _ _ _ hW hS (lv_sub hl [0, 1] rfl)
          · rw [if_pos c16] at hf
            refine zr_iconst C zd_M_toss_73 ?_
            refine lv_goto (tgt := 78) C.1 C.2.1 zd_M_toss_74 (by decide) ?_
            exact zw_M_toss_78 C hr hlk hK hSt hap   (x1) (1) S13 nx1 (znb rfl) hf _ _ _ hW hS (lv_sub hl [0, 1] rfl)
    · rw [if_neg c7] at hf
      refine lv_aload_n C.1 C.2.1 zd_M_toss_22 rfl (lv_at hl 0 rfl) ?_
      refine lv_iload_n C.1 C.2.1 zd_M_toss_23 rfl (lv_at hl 1 rfl) ?_
      obtain ⟨a17, S18, ea17, hf⟩ := zbd_some hf
      refine zcVi (As := [.int (zI (x1))]) (rest := []) C hK hSt hW hS (zc_M_noThing hap x1 S6 nx1 ea17) zq_M_noThing zk_2052 (zrecv hK hW (zvd_9 (by decide) (by decide)) (ze_9_0 B _ (0)) rfl) ⟨rfl, rfl, by decide, by decide⟩ ⟨Nat.zero_le _, Nat.zero_le _⟩ rfl hl.1 rfl (lv_room (Nat.le_of_ble_eq_true rfl)) zd_M_toss_24 (fun na17 H locs hW hS => ?_)
      cases hf
      exact zre_i C hr hlk hK hW hS na17 zd_M_toss_27
  · rw [if_pos c4] at hf
    refine zr_iconst C zd_M_toss_12 ?_
    cases hf
    exact zre_i C hr hlk hK hW hS (znb rfl) zd_M_toss_13

theorem zc_M_toss {l : Launch} {B : zB} (hap : zAp B) (x1 : Int) (S : Sg) (nx1 : zn x1) {res : Int} {S9 : Sg} (hf : zf_M_toss x1 S = some (res, S9)) : Met l zy_M_toss (Cond.code zy_M_toss zb_M_toss 3 (some .int) :: zT) zm_M_toss (zP B S [.ref (B.2.1 9 (0) (0)), .int (zI (x1))]) (zQi B res S9) 0 0 B.2.2.2 :=
  zmet (by decide) (Nat.le_of_ble_eq_true rfl) (fun p e s m args below meth c C hr hlk hK hSt hW ls hl => zw_M_toss C hr hlk hK hSt hap   x1 S nx1 hf _ _ _ hW va_S.rf hl)
