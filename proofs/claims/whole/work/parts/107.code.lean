/-! IslandOfficeModel$World.rather(II)Z -/
abbrev zy_W_rather : MethodName := ⟨"IslandOfficeModel$World", "rather", "(II)Z"⟩
abbrev zb_W_rather : ByteArray := prog_15_method_30_code
abbrev zm_W_rather : Room := { frames := 1, cells := 0, slots := 0, locals := 20 }
theorem zq_W_rather : zMy zy_W_rather zb_W_rather 4 (some .boolean) 2 := ⟨zk_1822, zk_1821, zs_71, zk_15, by decide, by decide, by decide +kernel⟩
theorem zd_W_rather_0 : decode zb_W_rather 0 = .ok (.iload_n 1, 1) := by decide +kernel
theorem zd_W_rather_1 : decode zb_W_rather 1 = .ok (.invokestatic 213, 3) := by decide +kernel
theorem zd_W_rather_4 : decode zb_W_rather 4 = .ok (.iload_n 2, 1) := by decide +kernel
theorem zd_W_rather_5 : decode zb_W_rather 5 = .ok (.invokestatic 213, 3) := by decide +kernel
theorem zd_W_rather_8 : decode zb_W_rather 8 = .ok (.if_icmp .eq 20, 3) := by decide +kernel
theorem zd_W_rather_11 : decode zb_W_rather 11 = .ok (.iload_n 1, 1) := by decide +kernel
theorem zd_W_rather_12 : decode zb_W_rather 12 = .ok (.invokestatic 213, 3) := by decide +kernel
theorem zd_W_rather_15 : decode zb_W_rather 15 = .ok (.iload_n 2, 1) := by decide +kernel
theorem zd_W_rather_16 : decode zb_W_rather 16 = .ok (.invokestatic 213, 3) := by decide +kernel
theorem zd_W_rather_19 : decode zb_W_rather 19 = .ok (.if_icmp .le 7, 3) := by decide +kernel
theorem zd_W_rather_22 : decode zb_W_rather 22 = .ok (.iconst 1, 1) := by decide +kernel
theorem zd_W_rather_23 : decode zb_W_rather 23 = .ok (.goto 4, 3) := by decide +kernel
theorem zd_W_rather_26 : decode zb_W_rather 26 = .ok (.iconst 0, 1) := by decide +kernel
theorem zd_W_rather_27 : decode zb_W_rather 27 = .ok (.ireturn, 1) := by decide +kernel
theorem zd_W_rather_28 : decode zb_W_rather 28 = .ok (.iload_n 1, 1) := by decide +kernel
theorem zd_W_rather_29 : decode zb_W_rather 29 = .ok (.iload_n 2, 1) := by decide +kernel
theorem zd_W_rather_30 : decode zb_W_rather 30 = .ok (.ixor, 1) := by decide +kernel
theorem zd_W_rather_31 : decode zb_W_rather 31 = .ok (.istore_n 3, 1) := by decide +kernel
theorem zd_W_rather_32 : decode zb_W_rather 32 = .ok (.iload_n 1, 1) := by decide +kernel
theorem zd_W_rather_33 : decode zb_W_rather 33 = .ok (.iload_n 3, 1) := by decide +kernel
theorem zd_W_rather_34 : decode zb_W_rather 34 = .ok (.iand, 1) := by decide +kernel
theorem zd_W_rather_35 : decode zb_W_rather 35 = .ok (.iload_n 3, 1) := by decide +kernel
theorem zd_W_rather_36 : decode zb_W_rather 36 = .ok (.ineg, 1) := by decide +kernel
theorem zd_W_rather_37 : decode zb_W_rather 37 = .ok (.iand, 1) := by decide +kernel
theorem zd_W_rather_38 : decode zb_W_rather 38 = .ok (.ifCond .eq 7, 3) := by decide +kernel
theorem zd_W_rather_41 : decode zb_W_rather 41 = .ok (.iconst 1, 1) := by decide +kernel
theorem zd_W_rather_42 : decode zb_W_rather 42 = .ok (.goto 4, 3) := by decide +kernel
theorem zd_W_rather_45 : decode zb_W_rather 45 = .ok (.iconst 0, 1) := by decide +kernel
theorem zd_W_rather_46 : decode zb_W_rather 46 = .ok (.ireturn, 1) := by decide +kernel

def zf_W_rather (r0 : Int) (x1 : Int) (x2 : Int) (S : Sg) : Option (Int × Sg) :=
    zbd (zf_Ji_bitCount x1 S) fun a1 S2 => zbd (zf_Ji_bitCount x2 S2) fun a3 S4 => if a1 = a3 then (zlt (zxor x1 x2) fun v6 => if (zand (zand x1 v6) (zw (-v6))) = 0 then (some (0, S4)) else (some (1, S4))) else (zbd (zf_Ji_bitCount x1 S4) fun a8 S9 => zbd (zf_Ji_bitCount x2 S9) fun a10 S11 => if a8 ≤ a10 then (some (0, S11)) else (some (1, S11)))
set_option maxHeartbeats 4000000 in
set_option maxRecDepth 100000 in
theorem zw_W_rather {p : Program} {l : Launch} {e : Env} {s : State} {m : MethodId} {args : Array Value} {below : List Frame} {meth : Method} {c : Code} {B : zB} (C : CallFix p m c zb_W_rather 4 s args zT "IslandOfficeModel$World") (hr : meth.sig.returnType = some .boolean) (hlk : meth.locks = false) (hK : zK B s) (hSt : zSt B s) (hap : zAp B) (r0 : Int) (hr0 : 0 ≤ r0 ∧ r0 < 3) {res : Int} {S9 : Sg} : ∀ (x1 : Int) (x2 : Int) (S : Sg) (nx1 : zn x1) (nx2 : zn x2), zf_W_rather r0 x1 x2 S = some (res, S9) → ∀ (H : Heap) (locs : List Loc) (ls : Array Slot), zW B S H → va_S B.2.2.2 s.heap H locs → lv_has ls 4 [(0, .ref (B.2.1 5 (r0) (0))), (1, .int (zI (x1))), (2, .int (zI (x2)))] → W p l e zm_W_rather s m args below meth c H locs 0 0 (MQ below (zQi B res S9) args s 0 0 B.2.2.2) (F0 m 0 ls []) := by
  intro x1 x2 S nx1 nx2 hf H locs ls hW hS hl
  unfold zf_W_rather at hf
  refine lv_iload_n C.1 C.2.1 zd_W_rather_0 rfl (lv_at hl 1 rfl) ?_
  obtain ⟨a1, S2, ea1, hf⟩ := zbd_some hf
  refine zcSi (As := [.int (zI (x1))]) (rest := []) C hK hSt hW hS (zc_Ji_bitCount hap x1 S nx1 ea1) zq_Ji_bitCount zk_1742 ⟨rfl, rfl, by decide, by decide⟩ ⟨Nat.zero_le _, Nat.zero_le _⟩ rfl hl.1 rfl (lv_room (Nat.le_of_ble_eq_true rfl)) zd_W_rather_1 (fun na1 H locs hW hS => ?_)
  refine lv_iload_n C.1 C.2.1 zd_W_rather_4 rfl (lv_at hl 2 rfl) ?_
  obtain ⟨a3, S4, ea3, hf⟩ := zbd_some hf
  refine zcSi (As := [.int (zI (x2))]) (rest := [.int (zI (a1))]) C hK hSt hW hS (zc_Ji_bitCount hap x2 S2 nx2 ea3) zq_Ji_bitCount zk_1742 ⟨rfl, rfl, by decide, by decide⟩ ⟨Nat.zero_le _, Nat.zero_le _⟩ rfl hl.1 rfl (lv_room (Nat.le_of_ble_eq_true rfl)) zd_W_rather_5 (fun na3 H locs hW hS => ?_)
  refine zr_icmp_eq (tgt := 28) C na1 na3 zd_W_rather_8 (by decide) (fun c5 => ?_) (fun c5 => ?_)
  · rw [if_pos c5] at hf
    refine lv_iload_n C.1 C.2.1 zd_W_rather_28 rfl (lv_at hl 1 rfl) ?_
    refine lv_iload_n C.1 C.2.1 zd_W_rather_29 rfl (lv_at hl 2 rfl) ?_
    refine zr_ixor C zd_W_rather_30 ?_
    obtain ⟨v6, ev6, hf⟩ := zlt_some hf
    have nv6 : zn v6 := by rw [← ev6]; exact (zn_xor _ _)
    rw [ev6]
    refine lv_istore_n (lv' := [(3, .int (zI (v6))), (0, .ref (B.2.1 5 (r0) (0))), (1, .int (zI (x1))), (2, .int (zI (x2)))]) C.1 C.2.1 zd_W_rather_31 rfl hl (by decide) rfl (fun ls hl => ?_)
    refine lv_iload_n C.1 C.2.1 zd_W_rather_32 rfl (lv_at hl 2 rfl) ?_
    refine lv_iload_n C.1 C.2.1 zd_W_rather_33 rfl (lv_at hl 0 rfl) ?_
    refine zr_iand C zd_W_rather_34 ?_
    refine lv_iload_n C.1 C.2.1 zd_W_rather_35 rfl (lv_at hl 0 rfl) ?_
    refine zr_ineg C zd_W_rather_36 ?_
    refine zr_iand C zd_W_rather_37 ?_
    refine zr_if_eq (tgt := 45) C (zn_and _ _) zd_W_rather_38 (by decide) (fun c7 => ?_) (fun c7 => ?_)
    · rw [if_pos c7] at hf
      refine zr_iconst C zd_W_rather_45 ?_
      cases hf
      exact zre_z C hr hlk hK hW hS (znb rfl) (zb01 (by decide)) zd_W_rather_46
    · rw [if_neg c7] at hf
      refine zr_iconst C zd_W_rather_41 ?_
      refine lv_goto (tgt := 46) C.1 C.2.1 zd_W_rather_42 (by decide) ?_
      cases hf
      exact zre_z C hr hlk hK hW hS (znb rfl) (zb01 (by decide)) zd_W_rather_46
  · rw [if_neg c5] at hf
    refine lv_iload_n C.1 C.2.1 zd_W_rather_11 rfl (lv_at hl 1 rfl) ?_
    obtain ⟨a8, S9, ea8, hf⟩ := zbd_some hf
    refine zcSi (As := [.int (zI (x1))]) (rest := []) C hK hSt hW hS (zc_Ji_bitCount hap x1 S4 nx1 ea8) zq_Ji_bitCount zk_1742 ⟨rfl, rfl, by decide, by decide⟩ ⟨Nat.zero_le _, Nat.zero_le _⟩ rfl hl.1 rfl (lv_room (Nat.le_of_ble_eq_true rfl)) zd_W_rather_12 (fun na8 H locs hW hS => ?_)
    refine lv_iload_n C.1 C.2.1 zd_W_rather_15 rfl (lv_at hl 2 rfl) ?_
    obtain ⟨a10, S11, ea10, hf⟩ := zbd_some hf
    refine zcSi (As := [.int (zI (x2))]) (rest := [.int (zI (a8))]) C hK hSt hW hS (zc_Ji_bitCount hap x2 S9 nx2 ea10) zq_Ji_bitCount zk_1742 ⟨rfl, rfl, by decide, by decide⟩ ⟨Nat.zero_le _, Nat.zero_le _⟩ rfl hl.1 rfl (lv_room (Nat.le_of_ble_eq_true rfl)) zd_W_rather_16 (fun na10 H locs hW hS => ?_)
    refine zr_icmp_le (tgt := 26) C na8 na10 zd_W_rather_19 (by decide) (fun c12 => ?_) (fun c12 => ?_)
    · rw [if_pos c12] at hf
      refine zr_iconst C zd_W_rather_26 ?_
      cases hf
      exact zre_z C hr hlk hK hW hS (znb rfl) (zb01 (by decide)) zd_W_rather_27
    · rw [if_neg c12] at hf
      refine zr_iconst C zd_W_rather_22 ?_
      refine lv_goto (tgt := 27) C.1 C.2.1 zd_W_rather_23 (by decide) ?_
      cases hf
      exact zre_z C hr hlk hK hW hS (znb rfl) (zb01 (by decide)) zd_W_rather_27

theorem zc_W_rather {l : Launch} {B : zB} (hap : zAp B) (r0 : Int) (hr0 : 0 ≤ r0 ∧ r0 < 3) (x1 : Int) (x2 : Int) (S : Sg) (nx1 : zn x1) (nx2 : zn x2) {res : Int} {S9 : Sg} (hf : zf_W_rather r0 x1 x2 S = some (res, S9)) : Met l zy_W_rather (Cond.code zy_W_rather zb_W_rather 4 (some .boolean) :: zT) zm_W_rather (zP B S [.ref (B.2.1 5 (r0) (0)), .int (zI (x1)), .int (zI (x2))]) (zQi B res S9) 0 0 B.2.2.2 :=
  zmet (by decide) (Nat.le_of_ble_eq_true rfl) (fun p e s m args below meth c C hr hlk hK hSt hW ls hl => zw_W_rather C hr hlk hK hSt hap r0 hr0 x1 x2 S nx1 nx2 hf _ _ _ hW va_S.rf hl)
/-! IslandOfficeModel$World.bestSet()I -/
abbrev zy_W_bestSet : MethodName := ⟨"IslandOfficeModel$World", "bestSet", "()I"⟩
abbrev zb_W_bestSet : ByteArray := prog_15_method_31_code
abbrev zm_W_bestSet : Room := { frames := 2, cells := 0, slots := 0, locals := 48 }
theorem zq_W_bestSet : zMy zy_W_bestSet zb_W_bestSet 5 (some .int) 0 := ⟨zk_1818, zk_1817, zs_70, zk_15, by decide, by decide, by decide +kernel⟩
theorem zd_W_bestSet_0 : decode zb_W_bestSet 0 = .ok (.iconst 0, 1) := by decide +kernel
theorem zd_W_bestSet_1 : decode zb_W_bestSet 1 = .ok (.istore_n 1, 1) := by decide +kernel
theorem zd_W_bestSet_2 : decode zb_W_bestSet 2 = .ok (.iconst 1, 1) := by decide +kernel
theorem zd_W_bestSet_3 : decode zb_W_bestSet 3 = .ok (.istore_n 2, 1) := by decide +kernel
theorem zd_W_bestSet_4 : decode zb_W_bestSet 4 = .ok (.iload_n 2, 1) := by decide +kernel
theorem zd_W_bestSet_5 : decode zb_W_bestSet 5 = .ok (.iconst 1, 1) := by decide +kernel
theorem zd_W_bestSet_6 : decode zb_W_bestSet 6 = .ok (.aload_n 0, 1) := by decide +kernel
theorem zd_W_bestSet_7 : decode zb_W_bestSet 7 = .ok (.getfield 168, 3) := by decide +kernel
theorem zd_W_bestSet_10 : decode zb_W_bestSet 10 = .ok (.ishl, 1) := by decide +kernel
theorem zd_W_bestSet_11 : decode zb_W_bestSet 11 = .ok (.if_icmp .ge 82, 3) := by decide +kernel
theorem zd_W_bestSet_14 : decode zb_W_bestSet 14 = .ok (.iconst 1, 1) := by decide +kernel
theorem zd_W_bestSet_15 : decode zb_W_bestSet 15 = .ok (.istore_n 3, 1) := by decide +kernel
theorem zd_W_bestSet_16 : decode zb_W_bestSet 16 = .ok (.iconst 0, 1) := by decide +kernel
theorem zd_W_bestSet_17 : decode zb_W_bestSet 17 = .ok (.istore 4, 2) := by decide +kernel
theorem zd_W_bestSet_19 : decode zb_W_bestSet 19 = .ok (.iload 4, 2) := by decide +kernel
theorem zd_W_bestSet_21 : decode zb_W_bestSet 21 = .ok (.aload_n 0, 1) := by decide +kernel
theorem zd_W_bestSet_22 : decode zb_W_bestSet 22 = .ok (.getfield 168, 3) := by decide +kernel
theorem zd_W_bestSet_25 : decode zb_W_bestSet 25 = .ok (.if_icmp .ge 37, 3) := by decide +kernel
theorem zd_W_bestSet_28 : decode zb_W_bestSet 28 = .ok (.iload_n 3, 1) := by decide +kernel
theorem zd_W_bestSet_29 : decode zb_W_bestSet 29 = .ok (.iload_n 2, 1) := by decide +kernel
theorem zd_W_bestSet_30 : decode zb_W_bestSet 30 = .ok (.iload 4, 2) := by decide +kernel
theorem zd_W_bestSet_32 : decode zb_W_bestSet 32 = .ok (.ishr, 1) := by decide +kernel
theorem zd_W_bestSet_33 : decode zb_W_bestSet 33 = .ok (.iconst 1, 1) := by decide +kernel
theorem zd_W_bestSet_34 : decode zb_W_bestSet 34 = .ok (.iand, 1) := by decide +kernel
theorem zd_W_bestSet_35 : decode zb_W_bestSet 35 = .ok (.ifCond .eq 14, 3) := by decide +kernel
theorem zd_W_bestSet_38 : decode zb_W_bestSet 38 = .ok (.aload_n 0, 1) := by decide +kernel
theorem zd_W_bestSet_39 : decode zb_W_bestSet 39 = .ok (.getfield 90, 3) := by decide +kernel
theorem zd_W_bestSet_42 : decode zb_W_bestSet 42 = .ok (.iload 4, 2) := by decide +kernel
theorem zd_W_bestSet_44 : decode zb_W_bestSet 44 = .ok (.iaload, 1) := by decide +kernel
theorem zd_W_bestSet_45 : decode zb_W_bestSet 45 = .ok (.iconst 1, 1) := by decide +kernel
theorem zd_W_bestSet_46 : decode zb_W_bestSet 46 = .ok (.if_icmp .ne 7, 3) := by decide +kernel
theorem zd_W_bestSet_49 : decode zb_W_bestSet 49 = .ok (.iconst 1, 1) := by decide +kernel
theorem zd_W_bestSet_50 : decode zb_W_bestSet 50 = .ok (.goto 4, 3) := by decide +kernel
theorem zd_W_bestSet_53 : decode zb_W_bestSet 53 = .ok (.iconst 0, 1) := by decide +kernel
theorem zd_W_bestSet_54 : decode zb_W_bestSet 54 = .ok (.iand, 1) := by decide +kernel
theorem zd_W_bestSet_55 : decode zb_W_bestSet 55 = .ok (.istore_n 3, 1) := by decide +kernel
theorem zd_W_bestSet_56 : decode zb_W_bestSet 56 = .ok (.iinc 4 1, 3) := by decide +kernel
theorem zd_W_bestSet_59 : decode zb_W_bestSet 59 = .ok (.goto (-40), 3) := by decide +kernel
theorem zd_W_bestSet_62 : decode zb_W_bestSet 62 = .ok (.iload_n 3, 1) := by decide +kernel
theorem zd_W_bestSet_63 : decode zb_W_bestSet 63 = .ok (.ifCond .eq 24, 3) := by decide +kernel
theorem zd_W_bestSet_66 : decode zb_W_bestSet 66 = .ok (.aload_n 0, 1) := by decide +kernel
theorem zd_W_bestSet_67 : decode zb_W_bestSet 67 = .ok (.iload_n 2, 1) := by decide +kernel
theorem zd_W_bestSet_68 : decode zb_W_bestSet 68 = .ok (.iload_n 1, 1) := by decide +kernel
theorem zd_W_bestSet_69 : decode zb_W_bestSet 69 = .ok (.invokevirtual 270, 3) := by decide +kernel
theorem zd_W_bestSet_72 : decode zb_W_bestSet 72 = .ok (.ifCond .eq 15, 3) := by decide +kernel
theorem zd_W_bestSet_75 : decode zb_W_bestSet 75 = .ok (.aload_n 0, 1) := by decide +kernel
theorem zd_W_bestSet_76 : decode zb_W_bestSet 76 = .ok (.iload_n 2, 1) := by decide +kernel
theorem zd_W_bestSet_77 : decode zb_W_bestSet 77 = .ok (.iconst 0, 1) := by decide +kernel
theorem zd_W_bestSet_78 : decode zb_W_bestSet 78 = .ok (.iconst 0, 1) := by decide +kernel
theorem zd_W_bestSet_79 : decode zb_W_bestSet 79 = .ok (.invokevirtual 273, 3) := by decide +kernel
theorem zd_W_bestSet_82 : decode zb_W_bestSet 82 = .ok (.ifCond .eq 5, 3) := by decide +kernel
theorem zd_W_bestSet_85 : decode zb_W_bestSet 85 = .ok (.iload_n 2, 1) := by decide +kernel
theorem zd_W_bestSet_86 : decode zb_W_bestSet 86 = .ok (.istore_n 1, 1) := by decide +kernel
theorem zd_W_bestSet_87 : decode zb_W_bestSet 87 = .ok (.iinc 2 1, 3) := by decide +kernel
theorem zd_W_bestSet_90 : decode zb_W_bestSet 90 = .ok (.goto (-86), 3) := by decide +kernel
theorem zd_W_bestSet_93 : decode zb_W_bestSet 93 = .ok (.iload_n 1, 1) := by decide +kernel
theorem zd_W_bestSet_94 : decode zb_W_bestSet 94 = .ok (.ireturn, 1) := by decide +kernel

def zf_W_bestSet_87 (r0 : Int) (q4 : Int → Int → Sg → Option (Int × Sg)) (x1 : Int) (x2 : Int) (S : Sg) : Option (Int × Sg) :=
    zlt (zw (x2 + 1)) fun v1 => q4 (x1) (v1) S
set_option maxHeartbeats 4000000 in
set_option maxRecDepth 100000 in
theorem zw_W_bestSet_87 {p : Program} {l : Launch} {e : Env} {s : State} {m : MethodId} {args : Array Value} {below : List Frame} {meth : Method} {c : Code} {B : zB} (C : CallFix p m c zb_W_bestSet 5 s args zT "IslandOfficeModel$World") (hr : meth.sig.returnType = some .int) (hlk : meth.locks = false) (hK : zK B s) (hSt : zSt B s) (hap : zAp B) (r0 : Int) (hr0 : 0 ≤ r0 ∧ r0 < 3) {res : Int} {S9 : Sg} (q4 : Int → Int → Sg → Option (Int × Sg)) (hq4 : ∀ (x1 : Int) (x2 : Int) (S : Sg) (nx1 : zn x1) (nx2 : zn x2), q4 x1 x2 S = some (res, S9) → ∀ (H : Heap) (locs : List Loc) (ls : Array Slot), zW B S H → va_S B.2.2.2 s.heap H locs → lv_has ls 5 [(0, .ref (B.2.1 5 (r0) (0))), (1, .int (zI (x1))), (2, .int (zI (x2)))] → W p l e zm_W_bestSet s m args below meth c H locs 0 0 (MQ below (zQi B res S9) args s 0 0 B.2.2.2) (F0 m 4 ls [])) : ∀ (x1 : Int) (x2 : Int) (S : Sg) (nx1 : zn x1) (nx2 : zn x2), zf_W_bestSet_87 r0 q4 x1 x2 S = some (res, S9) → ∀ (H : Heap) (locs : List Loc) (ls : Array Slot), zW B S H → va_S B.2.2.2 s.heap H locs → lv_has ls 5 [(0, .ref (B.2.1 5 (r0) (0))), (1, .int (zI (x1))), (2, .int (zI (x2)))] → W p l e zm_W_bestSet s m args below meth c H locs 0 0 (MQ below (zQi B res S9) args s 0 0 B.2.2.2) (F0 m 87 ls []) := by
  intro x1 x2 S nx1 nx2 hf H locs ls hW hS hl
  unfold zf_W_bestSet_87 at hf
  obtain ⟨v1, ev1, hf⟩ := zlt_some hf
  have nv1 : zn v1 := by rw [← ev1]; exact zn_w _
  refine lv_iinc (v := zI v1) (lv' := [(2, .int (zI (v1))), (0, .ref (B.2.1 5 (r0) (0))), (1, .int (zI (x1)))]) C.1 C.2.1 zd_W_bestSet_87 hl (k := 2) rfl (by rw [← ev1, ← zI_add]; rfl) (by decide) rfl (fun ls hl => ?_)
  refine lv_goto (tgt := 4) C.1 C.2.1 zd_W_bestSet_90 (by decide) ?_
  exact hq4 (x1) (v1) S nx1 nv1 hf _ _ _ hW hS (lv_sub hl [1, 2, 0] rfl)

def zf_W_bestSet_54 (r0 : Int) (q4 : Int → Int → Sg → Option (Int × Sg)) (q19 : Int → Int → Int → Int → Sg → Option (Int × Sg)) (x1 : Int) (x2 : Int) (x4 : Int) (xt0 : Int) (xt1 : Int) (S : Sg) : Option (Int × Sg) :=
    zlt (zand xt0 xt1) fun v1 => zlt (zw (x4 + 1)) fun v2 => q19 (x1) (x2) (v1) (v2) S
set_option maxHeartbeats 4000000 in
set_option maxRecDepth 100000 in
theorem zw_W_bestSet_54 {p : Program} {l : Launch} {e : Env} {s : State} {m : MethodId} {args : Array Value} {below : List Frame} {meth : Method} {c : Code} {B : zB} (C : CallFix p m c zb_W_bestSet 5 s args zT "IslandOfficeModel$World") (hr : meth.sig.returnType = some .int) (hlk : meth.locks = false) (hK : zK B s) (hSt : zSt B s) (hap : zAp B) (r0 : Int) (hr0 : 0 ≤ r0 ∧ r0 < 3) {res : Int} {S9 : Sg} (q4 : Int → Int → Sg → Option (Int × Sg)) (hq4 : ∀ (x1 : Int) (x2 : Int) (S : Sg) (nx1 : zn x1) (nx2 : zn x2), q4 x1 x2 S = some (res, S9) → ∀ (H : Heap) (locs : List Loc) (ls : Array Slot), zW B S H → va_S B.2.2.2 s.heap H locs → lv_has ls 5 [(0, .ref (B.2.1 5 (r0) (0))), (1, .int (zI (x1))), (2, .int (zI (x2)))] → W p l e zm_W_bestSet s m args below meth c H locs 0 0 (MQ below (zQi B res S9) args s 0 0 B.2.2.2) (F0 m 4 ls [])) (q19 : Int → Int → Int → Int → Sg → Option (Int × Sg)) (hq19 : ∀ (x1 : Int) (x2 : Int) (x3 : Int) (x4 : Int) (S : Sg) (nx1 : zn x1) (nx2 : zn x2) (nx3 : zn x3) (nx4 : zn x4), q19 x1 x2 x3 x4 S = some (res, S9) → ∀ (H : Heap) (locs : List Loc) (ls : Array Slot), zW B S H → va_S B.2.2.2 s.heap H locs → lv_has ls 5 [(0, .ref (B.2.1 5 (r0) (0))), (1, .int (zI (x1))), (2, .int (zI (x2))), (3, .int (zI (x3))), (4, .int (zI (x4)))] → W p l e zm_W_bestSet s m args below meth c H locs 0 0 (MQ below (zQi B res S9) args s 0 0 B.2.2.2) (F0 m 19 ls [])) : ∀ (x1 : Int) (x2 : Int) (x4 : Int) (xt0 : Int) (xt1 : Int) (S : Sg) (nx1 : zn x1) (nx2 : zn x2) (nx4 : zn x4) (nxt0 : zn xt0) (nxt1 : zn xt1), zf_W_bestSet_54 r0 q4 q19 x1 x2 x4 xt0 xt1 S = some (res, S9) → ∀ (H : Heap) (locs : List Loc) (ls : Array Slot), zW B S H → va_S B.2.2.2 s.heap H locs → lv_has ls 5 [(0, .ref (B.2.1 5 (r0) (0))), (1, .int (zI (x1))), (2, .int (zI (x2))), (4, .int (zI (x4)))] → W p l e zm_W_bestSet s m args below meth c H locs 0 0 (MQ below (zQi B res S9) args s 0 0 B.2.2.2) (F0 m 54 ls [.int (zI (xt1)), .int (zI (xt0))]) := by
  intro x1 x2 x4 xt0 xt1 S nx1 nx2 nx4 nxt0 nxt1 hf H locs ls hW hS hl
  unfold zf_W_bestSet_54 at hf
  refine zr_iand C zd_W_bestSet_54 ?_
  obtain ⟨v1, ev1, hf⟩ := zlt_some hf
  have nv1 : zn v1 := by rw [← ev1]; exact (zn_and _ _)
  rw [ev1]
  refine lv_istore_n (lv' := [(3, .int (zI (v1))), (0, .ref (B.2.1 5 (r0) (0))), (1, .int (zI (x1))), (2, .int (zI (x2))), (4, .int (zI (x4)))]) C.1 C.2.1 zd_W_bestSet_55 rfl hl (by decide) rfl (fun ls hl => ?_)
  obtain ⟨v2, ev2, hf⟩ := zlt_some hf
  have nv2 : zn v2 := by rw [← ev2]; exact zn_w _
  refine lv_iinc (v := zI v2) (lv' := [(4, .int (zI (v2))), (3, .int (zI (v1))), (0, .ref (B.2.1 5 (r0) (0))), (1, .int (zI (x1))), (2, .int (zI (x2)))]) C.1 C.2.1 zd_W_bestSet_56 hl (k := 4) rfl (by rw [← ev2, ← zI_add]; rfl) (by decide) rfl (fun ls hl => ?_)
  refine lv_goto (tgt := 19) C.1 C.2.1 zd_W_bestSet_59 (by decide) ?_
  exact hq19 (x1) (x2) (v1) (v2) S nx1 nx2 nv1 nv2 hf _ _ _ hW hS (lv_sub hl [2, 3, 4, 1, 0] rfl)

def zf_W_bestSet_49 (r0 : Int) (q4 : Int → Int → Sg → Option (Int × Sg)) (q19 : Int → Int → Int → Int → Sg → Option (Int × Sg)) (x1 : Int) (x2 : Int) (x4 : Int) (xt0 : Int) (S : Sg) : Option (Int × Sg) :=
    zf_W_bestSet_54 r0 q4 q19 (x1) (x2) (x4) (xt0) (1) S
set_option maxHeartbeats 4000000 in
set_option maxRecDepth 100000 in
theorem zw_W_bestSet_49 {p : Program} {l : Launch} {e : Env} {s : State} {m : MethodId} {args : Array Value} {below : List Frame} {meth : Method} {c : Code} {B : zB} (C : CallFix p m c zb_W_bestSet 5 s args zT "IslandOfficeModel$World") (hr : meth.sig.returnType = some .int) (hlk : meth.locks = false) (hK : zK B s) (hSt : zSt B s) (hap : zAp B) (r0 : Int) (hr0 : 0 ≤ r0 ∧ r0 < 3) {res : Int} {S9 : Sg} (q4 : Int → Int → Sg → Option (Int × Sg)) (hq4 : ∀ (x1 : Int) (x2 : Int) (S : Sg) (nx1 : zn x1) (nx2 : zn x2), q4 x1 x2 S = some (res, S9) → ∀ (H : Heap) (locs : List Loc) (ls : Array Slot), zW B S H → va_S B.2.2.2 s.heap H locs → lv_has ls 5 [(0, .ref (B.2.1 5 (r0) (0))), (1, .int (zI (x1))), (2, .int (zI (x2)))] → W p l e zm_W_bestSet s m args below meth c H locs 0 0 (MQ below (zQi B res S9) args s 0 0 B.2.2.2) (F0 m 4 ls [])) (q19 : Int → Int → Int → Int → Sg → Option (Int × Sg)) (hq19 : ∀ (x1 : Int) (x2 : Int) (x3 : Int) (x4 : Int) (S : Sg) (nx1 : zn x1) (nx2 : zn x2) (nx3 : zn x3) (nx4 : zn x4), q19 x1 x2 x3 x4 S = some (res, S9) → ∀ (H : Heap) (locs : List Loc) (ls : Array Slot), zW B S H → va_S B.2.2.2 s.heap H locs → lv_has ls 5 [(0, .ref (B.2.1 5 (r0) (0))), (1, .int (zI (x1))), (2, .int (zI (x2))), (3, .int (zI (x3))), (4, .int (zI (x4)))] → W p l e zm_W_bestSet s m args below meth c H locs 0 0 (MQ below (zQi B res S9) args s 0 0 B.2.2.2) (F0 m 19 ls [])) : ∀ (x1 : Int) (x2 : Int) (x4 : Int) (xt0 : Int) (S : Sg) (nx1 : zn x1) (nx2 : zn x2) (nx4 : zn x4) (nxt0 : zn xt0), zf_W_bestSet_49 r0 q4 q19 x1 x2 x4 xt0 S = some (res, S9) → ∀ (H : Heap) (locs : List Loc) (ls : Array Slot), zW B S H → va_S B.2.2.2 s.heap H locs → lv_has ls 5 [(0, .ref (B.2.1 5 (r0) (0))), (1, .int (zI (x1))), (2, .int (zI (x2))), (4, .int (zI (x4)))] → W p l e zm_W_bestSet s m args below meth c H locs 0 0 (MQ below (zQi B res S9) args s 0 0 B.2.2.2) (F0 m 49 ls [.int (zI (xt0))]) := by
  intro x1 x2 x4 xt0 S nx1 nx2 nx4 nxt0 hf H locs ls hW hS hl
  unfold zf_W_bestSet_49 at hf
  refine zr_iconst C zd_W_bestSet_49 ?_
  refine lv_goto (tgt := 54) C.1 C.2.1 zd_W_bestSet_50 (by decide) ?_
  exact zw_W_bestSet_54 C hr hlk hK hSt hap r0 hr0 q4 hq4 q19 hq19 (x1) (x2) (x4) (xt0) (1) S nx1 nx2 nx4 nxt0 (znb rfl) hf _ _ _ hW hS (lv_sub hl [0, 1, 2, 3] rfl)

def zf_W_bestSet_19 (r0 : Int) (q4 : Int → Int → Sg → Option (Int × Sg)) : Nat → Int → Int → Int → Int → Sg → Option (Int × Sg)
  | 0, _, _, _, _, _ => none
  | n + 1, x1, x2, x3, x4, S =>
    if (S 5 r0 0 25) ≤ x4 then (if x3 = 0 then (zf_W_bestSet_87 r0 q4 (x1) (x2) S) else (zbd (zf_W_rather (r0) x2 x1 S) fun a3 S4 => if a3 = 0 then (zf_W_bestSet_87 r0 q4 (x1) (x2) S4) else (zbd (zf_W_feasible (r0) x2 0 0 S4) fun a6 S7 => if a6 = 0 then (zf_W_bestSet_87 r0 q4 (x1) (x2) S7) else (zf_W_bestSet_87 r0 q4 (x2) (x2) S7)))) else (if (zand (zshr x2 x4) 1) = 0 then (zf_W_bestSet_49 r0 q4 (zf_W_bestSet_19 r0 q4 n) (x1) (x2) (x4) (x3) S) else (zck (0 ≤ x4 ∧ x4 < 8) <| if (S 5 r0 24 x4) = 1 then (zf_W_bestSet_49 r0 q4 (zf_W_bestSet_19 r0 q4 n) (x1) (x2) (x4) (x3) S) else (zf_W_bestSet_54 r0 q4 (zf_W_bestSet_19 r0 q4 n) (x1) (x2) (x4) (x3) (0) S)))
set_option maxHeartbeats 4000000 in
set_option maxRecDepth 100000 in
theorem zw_W_bestSet_19 {p : Program} {l : Launch} {e : Env} {s : State} {m : MethodId} {args : Array Value} {below : List Frame} {meth : Method} {c : Code} {B : zB} (C : CallFix p m c zb_W_bestSet 5 s args zT "IslandOfficeModel$World") (hr : meth.sig.returnType = some .int) (hlk : meth.locks = false) (hK : zK B s) (hSt : zSt B s) (hap : zAp B) (r0 : Int) (hr0 : 0 ≤ r0 ∧ r0 < 3) {res : Int} {S9 : Sg} (q4 : Int → Int → Sg → Option (Int × Sg)) (hq4 : ∀ (x1 : Int) (x2 : Int) (S : Sg) (nx1 : zn x1) (nx2 : zn x2), q4 x1 x2 S = some (res, S9) → ∀ (H : Heap) (locs : List Loc) (ls : Array Slot), zW B S H → va_S B.2.2.2 s.heap H locs → lv_has ls 5 [(0, .ref (B.2.1 5 (r0) (0))), (1, .int (zI (x1))), (2, .int (zI (x2)))] → W p l e zm_W_bestSet s m args below meth c H locs 0 0 (MQ below (zQi B res S9) args s 0 0 B.2.2.2) (F0 m 4 ls [])) : ∀ n : Nat, ∀ (x1 : Int) (x2 : Int) (x3 : Int) (x4 : Int) (S : Sg) (nx1 : zn x1) (nx2 : zn x2) (nx3 : zn x3) (nx4 : zn x4), zf_W_bestSet_19 r0 q4 n x1 x2 x3 x4 S = some (res, S9) → ∀ (H : Heap) (locs : List Loc) (ls : Array Slot), zW B S H → va_S B.2.2.2 s.heap H locs → lv_has ls 5 [(0, .ref (B.2.1 5 (r0) (0))), (1, .int (zI (x1))), (2, .int (zI (x2))), (3, .int (zI (x3))), (4, .int (zI (x4)))] → W p l e zm_W_bestSet s m args below meth c H locs 0 0 (MQ below (zQi B res S9) args s 0 0 B.2.2.2) (F0 m 19 ls []) := by
  intro n
  induction n with
  | zero =>
    intro x1 x2 x3 x4 S nx1 nx2 nx3 nx4 hf H locs ls hW hS hl
    cases hf
  | succ n ih =>
    intro x1 x2 x3 x4 S nx1 nx2 nx3 nx4 hf H locs ls hW hS hl
    rw [zf_W_bestSet_19] at hf
    refine lv_iload C.1 C.2.1 zd_W_bestSet_19 (lv_at hl 4 rfl) ?_
    refine lv_aload_n C.1 C.2.1 zd_W_bestSet_21 rfl (lv_at hl 0 rfl) ?_
    refine zg_W_posts (r := r0) C hK hW (zvd_5 hr0 (by decide)) zk_1325 zd_W_bestSet_22 ?_
    refine zr_icmp_ge (tgt := 62) C nx4 (zWn hW _ _ _ _ rfl) zd_W_bestSet_25 (by decide) (fun c1 => ?_) (fun c1 => ?_)
    · rw [if_pos c1] at hf
      refine lv_iload_n C.1 C.2.1 zd_W_bestSet_62 rfl (lv_at hl 3 rfl) ?_
      refine zr_if_eq (tgt := 87) C nx3 zd_W_bestSet_63 (by decide) (fun c2 => ?_) (fun c2 => ?_)
      · rw [if_pos c2] at hf
        exact zw_W_bestSet_87 C hr hlk hK hSt hap r0 hr0 q4 hq4 (x1) (x2) S nx1 nx2 hf _ _ _ hW hS (lv_sub hl [0, 1, 2] rfl)
      · rw [if_neg c2] at hf
        refine lv_aload_n C.1 C.2.1 zd_W_bestSet_66 rfl (lv_at hl 0 rfl) ?_
        refine lv_iload_n C.1 C.2.1 zd_W_bestSet_67 rfl (lv_at hl 2 rfl) ?_
        refine lv_iload_n C.1 C.2.1 zd_W_bestSet_68 rfl (lv_at hl 1 rfl) ?_
        obtain ⟨a3, S4, ea3, hf⟩ := zbd_some hf
        refine zcVi (As := [.int (zI (x2)), .int (zI (x1))]) (rest := []) C hK hSt hW hS (zc_W_rather hap (r0) hr0 x2 x1 S nx2 nx1 ea3) zq_W_rather zk_1819 (zrecv hK hW (zvd_5 hr0 (by decide)) (ze_5_0 B _ (r0)) rfl) ⟨rfl, rfl, by decide, by decide⟩ ⟨Nat.zero_le _, Nat.zero_le _⟩ rfl hl.1 rfl (lv_room (Nat.le_of_ble_eq_true rfl)) zd_W_bestSet_69 (fun na3 H locs hW hS => ?_)
        refine zr_if_eq (tgt := 87) C na3 zd_W_bestSet_72 (by decide) (fun c5 => ?_) (fun c5 => ?_)
        · rw [if_pos c5] at hf
          exact zw_W_bestSet_87 C hr hlk hK hSt hap r0 hr0 q4 hq4 (x1) (x2) S4 nx1 nx2 hf _ _ _ hW hS (lv_sub hl [0, 1, 2] rfl)
        · rw [if_neg c5] at hf
          refine lv_aload_n C.1 C.2.1 zd_W_bestSet_75 rfl (lv_at hl 0 rfl) ?_
          refine lv_iload_n C.1 C.2.1 zd_W_bestSet_76 rfl (lv_at hl 2 rfl) ?_
          refine zr_iconst C zd_W_bestSet_77 ?_
          refine zr_iconst C zd_W_bestSet_78 ?_
          obtain ⟨a6, S7, ea6, hf⟩ := zbd_some hf
          refine zcVi (As := [.int (zI (x2)), .int (zI (0)), .int (zI (0))]) (rest := []) C hK hSt hW hS (zc_W_feasible hap (r0) hr0 x2 0 0 S4 nx2 (znb rfl) (znb rfl) ea6) zq_W_feasible zk_1823 (zrecv hK hW (zvd_5 hr0 (by decide)) (ze_5_0 B _ (r0)) rfl) ⟨rfl, rfl, by decide, by decide⟩ ⟨Nat.zero_le _, Nat.zero_le _⟩ rfl hl.1 rfl (lv_room (Nat.le_of_ble_eq_true rfl)) zd_W_bestSet_79 (fun na6 H locs hW hS => ?_)
          refine zr_if_eq (tgt := 87) C na6 zd_W_bestSet_82 (by decide) (fun c8 => ?_) (fun c8 => ?_)
          · rw [if_pos c8] at hf
            exact zw_W_bestSet_87 C hr hlk hK hSt hap r0 hr0 q4 hq4 (x1) (x2) S7 nx1 nx2 hf _ _ _ hW hS (lv_sub hl [0, 1, 2] rfl)
          · rw [if_neg c8] at hf
            refine lv_iload_n C.1 C.2.1 zd_W_bestSet_85 rfl (lv_at hl 2 rfl) ?_
            refine lv_istore_n (lv' := [(1, .int (zI (x2))), (0, .ref (B.2.1 5 (r0) (0))), (2, .int (zI (x2))), (3, .int (zI (x3))), (4, .int (zI (x4)))]) C.1 C.2.1 zd_W_bestSet_86 rfl hl (by decide) rfl (fun ls hl => ?_)
            exact zw_W_bestSet_87 C hr hlk hK hSt hap r0 hr0 q4 hq4 (x2) (x2) S7 nx2 nx2 hf _ _ _ hW hS (lv_sub hl [1, 0, 2] rfl)
    · rw [if_neg c1] at hf
      refine lv_iload_n C.1 C.2.1 zd_W_bestSet_28 rfl (lv_at hl 3 rfl) ?_
      refine lv_iload_n C.1 C.2.1 zd_W_bestSet_29 rfl (lv_at hl 2 rfl) ?_
      refine lv_iload C.1 C.2.1 zd_W_bestSet_30 (lv_at hl 4 rfl) ?_
      refine zr_ishr C zd_W_bestSet_32 ?_
      refine zr_iconst C zd_W_bestSet_33 ?_
      refine zr_iand C zd_W_bestSet_34 ?_
      refine zr_if_eq (tgt := 49) C (zn_and _ _) zd_W_bestSet_35 (by decide) (fun c9 => ?_) (fun c9 => ?_)
      · rw [if_pos c9] at hf
        exact zw_W_bestSet_49 C hr hlk hK hSt hap r0 hr0 q4 hq4 (zf_W_bestSet_19 r0 q4 n) (ih) (x1) (x2) (x4) (x3) S nx1 nx2 nx4 nx3 hf _ _ _ hW hS (lv_sub hl [0, 1, 2, 4] rfl)
      · rw [if_neg c9] at hf
        refine lv_aload_n C.1 C.2.1 zd_W_bestSet_38 rfl (lv_at hl 0 rfl) ?_
        refine zg_W_postOpen (r := r0) C hK hW (zvd_5 hr0 (by decide)) zk_1333 zd_W_bestSet_39 ?_
        refine lv_iload C.1 C.2.1 zd_W_bestSet_42 (lv_at hl 4 rfl) ?_
        obtain ⟨h10, hf⟩ := zck_some hf
        refine ziald C hK hW (zvd_5 hr0 (by decide)) (fun f => ze_5_24 B f (r0)) (by decide) h10 zd_W_bestSet_44 ?_
        refine zr_iconst C zd_W_bestSet_45 ?_
        refine zr_icmp_ne (tgt := 53) C (zWn hW _ _ _ _ rfl) (znb rfl) zd_W_bestSet_46 (by decide) (fun c11 => ?_) (fun c11 => ?_)
        · rw [if_neg c11] at hf
          refine zr_iconst C zd_W_bestSet_53 ?_
          exact zw_W_bestSet_54 C hr hlk hK hSt hap r0 hr0 q4 hq4 (zf_W_bestSet_19 r0 q4 n) (ih) (x1) (x2) (x4) (x3) (0) S nx1 nx2 nx4 nx3 (znb rfl) hf _ _ _ hW hS (lv_sub hl [0, 1, 2, 4] rfl)
        · rw [if_pos c11] at hf
          exact zw_W_bestSet_49 C hr hlk hK hSt hap r0 hr0 q4 hq4 (zf_W_bestSet_19 r0 q4 n) (ih) (x1) (x2) (x4) (x3) S nx1 nx2 nx4 nx3 hf _ _ _ hW hS (lv_sub hl [0, 1, 2, 4] rfl)

def zf_W_bestSet_4 (r0 : Int) : Nat → Int → Int → Sg → Option (Int × Sg)
  | 0, _, _, _ => none
  | n + 1, x1, x2, S =>
    if (zshl 1 (S 5 r0 0 25)) ≤ x2 then (some (x1, S)) else (zf_W_bestSet_19 r0 (zf_W_bestSet_4 r0 n) 4096 (x1) (x2) (1) (0) S)
set_option maxHeartbeats 4000000 in
set_option maxRecDepth 100000 in
theorem zw_W_bestSet_4 {p : Program} {l : Launch} {e : Env} {s : State} {m : MethodId} {args : Array Value} {below : List Frame} {meth : Method} {c : Code} {B : zB} (C : CallFix p m c zb_W_bestSet 5 s args zT "IslandOfficeModel$World") (hr : meth.sig.returnType = some .int) (hlk : meth.locks = false) (hK : zK B s) (hSt : zSt B s) (hap : zAp B) (r0 : Int) (hr0 : 0 ≤ r0 ∧ r0 < 3) {res : Int} {S9 : Sg} : ∀ n : Nat, ∀ (x1 : Int) (x2 : Int) (S : Sg) (nx1 : zn x1) (nx2 : zn x2), zf_W_bestSet_4 r0 n x1 x2 S = some (res, S9) → ∀ (H : Heap) (locs : List Loc) (ls : Array Slot), zW B S H → va_S B.2.2.2 s.heap H locs → lv_has ls 5 [(0, .ref (B.2.1 5 (r0) (0))), (1, .int (zI (x1))), (2, .int (zI (x2)))] → W p l e zm_W_bestSet s m args below meth c H locs 0 0 (MQ below (zQi B res S9) args s 0 0 B.2.2.2) (F0 m 4 ls []) := by
  intro n
  induction n with
  | zero =>
    intro x1 x2 S nx1 nx2 hf H locs ls hW hS hl
    cases hf
  | succ n ih =>
    intro x1 x2 S nx1 nx2 hf H locs ls hW hS hl
    rw [zf_W_bestSet_4] at hf
    refine lv_iload_n C.1 C.2.1 zd_W_bestSet_4 rfl (lv_at hl 2 rfl) ?_
    refine zr_iconst C zd_W_bestSet_5 ?_
    refine lv_aload_n C.1 C.2.1 zd_W_bestSet_6 rfl (lv_at hl 0 rfl) ?_
    refine zg_W_posts (r := r0) C hK hW (zvd_5 hr0 (by decide)) zk_1325 zd_W_bestSet_7 ?_
    refine zr_ishl C zd_W_bestSet_10 ?_
    refine zr_icmp_ge (tgt := 93) C nx2 (zn_shl _ _) zd_W_bestSet_11 (by decide) (fun c1 => ?_) (fun c1 => ?_)
    · rw [if_pos c1] at hf
      refine lv_iload_n C.1 C.2.1 zd_W_bestSet_93 rfl (lv_at hl 1 rfl) ?_
      cases hf
      exact zre_i C hr hlk hK hW hS nx1 zd_W_bestSet_94
    · rw [if_neg c1] at hf
      refine zr_iconst C zd_W_bestSet_14 ?_
      refine lv_istore_n (lv' := [(3, .int (zI (1))), (0, .ref (B.2.1 5 (r0) (0))), (1, .int (zI (x1))), (2, .int (zI (x2)))]) C.1 C.2.1 zd_W_bestSet_15 rfl hl (by decide) rfl (fun ls hl => ?_)
      refine zr_iconst C zd_W_bestSet_16 ?_
      refine lv_istore (lv' := [(4, .int (zI (0))), (3, .int (zI (1))), (0, .ref (B.2.1 5 (r0) (0))), (1, .int (zI (x1))), (2, .int (zI (x2)))]) C.1 C.2.1 zd_W_bestSet_17 hl (by decide) rfl (fun ls hl => ?_)
      exact zw_W_bestSet_19 C hr hlk hK hSt hap r0 hr0 (zf_W_bestSet_4 r0 n) (ih) 4096 (x1) (x2) (1) (0) S nx1 nx2 (znb rfl) (znb rfl) hf _ _ _ hW hS (lv_sub hl [2, 3, 4, 1, 0] rfl)

def zf_W_bestSet (r0 : Int) (S : Sg) : Option (Int × Sg) :=
    zf_W_bestSet_4 r0 4096 (0) (1) S
set_option maxHeartbeats 4000000 in
set_option maxRecDepth 100000 in
theorem zw_W_bestSet {p : Program} {l : Launch} {e : Env} {s : State} {m : MethodId} {args : Array Value} {below : List Frame} {meth : Method} {c : Code} {B : zB} (C : CallFix p m c zb_W_bestSet 5 s args zT "IslandOfficeModel$World") (hr : meth.sig.returnType = some .int) (hlk : meth.locks = false) (hK : zK B s) (hSt : zSt B s) (hap : zAp B) (r0 : Int) (hr0 : 0 ≤ r0 ∧ r0 < 3) {res : Int} {S9 : Sg} : ∀  (S : Sg) , zf_W_bestSet r0  S = some (res, S9) → ∀ (H : Heap) (locs : List Loc) (ls : Array Slot), zW B S H → va_S B.2.2.2 s.heap H locs → lv_has ls 5 [(0, .ref (B.2.1 5 (r0) (0)))] → W p l e zm_W_bestSet s m args below meth c H locs 0 0 (MQ below (zQi B res S9) args s 0 0 B.2.2.2) (F0 m 0 ls []) := by
  intro S hf H locs ls hW hS hl
  unfold zf_W_bestSet at hf
  refine zr_iconst C zd_W_bestSet_0 ?_
  refine lv_istore_n (lv' := [(1, .int (zI (0))), (0, .ref (B.2.1 5 (r0) (0)))]) C.1 C.2.1 zd_W_bestSet_1 rfl hl (by decide) rfl (fun ls hl => ?_)
  refine zr_iconst C zd_W_bestSet_2 ?_
  refine lv_istore_n (lv' := [(2, .int (zI (1))), (1, .int (zI (0))), (0, .ref (B.2.1 5 (r0) (0)))]) C.1 C.2.1 zd_W_bestSet_3 rfl hl (by decide) rfl (fun ls hl => ?_)
  exact zw_W_bestSet_4 C hr hlk hK hSt hap r0 hr0 4096 (0) (1) S (znb rfl) (znb rfl) hf _ _ _ hW hS (lv_sub hl [2, 1, 0] rfl)

theorem zc_W_bestSet {l : Launch} {B : zB} (hap : zAp B) (r0 : Int) (hr0 : 0 ≤ r0 ∧ r0 < 3) (S : Sg) {res : Int} {S9 : Sg} (hf : zf_W_bestSet r0 S = some (res, S9)) : Met l zy_W_bestSet (Cond.code zy_W_bestSet zb_W_bestSet 5 (some .int) :: zT) zm_W_bestSet (zP B S [.ref (B.2.1 5 (r0) (0))]) (zQi B res S9) 0 0 B.2.2.2 :=
  zmet (by decide) (Nat.le_of_ble_eq_true rfl) (fun p e s m args below meth c C hr hlk hK hSt hW ls hl => zw_W_bestSet C hr hlk hK hSt hap r0 hr0  S  hf _ _ _ hW va_S.rf hl)
/-! IslandOfficeModel$World.isCrew(III)Z -/
abbrev zy_W_isCrew : MethodName := ⟨"IslandOfficeModel$World", "isCrew", "(III)Z"⟩
abbrev zb_W_isCrew : ByteArray := prog_15_method_29_code
abbrev zm_W_isCrew : Room := { frames := 1, cells := 0, slots := 0, locals := 20 }
theorem zq_W_isCrew : zMy zy_W_isCrew zb_W_isCrew 4 (some .boolean) 3 := ⟨zk_1830, zk_1829, zs_73, zk_15, by decide, by decide, by decide +kernel⟩
theorem zd_W_isCrew_0 : decode zb_W_isCrew 0 = .ok (.iload_n 2, 1) := by decide +kernel
theorem zd_W_isCrew_1 : decode zb_W_isCrew 1 = .ok (.iload_n 3, 1) := by decide +kernel
theorem zd_W_isCrew_2 : decode zb_W_isCrew 2 = .ok (.iand, 1) := by decide +kernel
theorem zd_W_isCrew_3 : decode zb_W_isCrew 3 = .ok (.ifCond .ne 33, 3) := by decide +kernel
theorem zd_W_isCrew_6 : decode zb_W_isCrew 6 = .ok (.iload_n 2, 1) := by decide +kernel
theorem zd_W_isCrew_7 : decode zb_W_isCrew 7 = .ok (.invokestatic 213, 3) := by decide +kernel
theorem zd_W_isCrew_10 : decode zb_W_isCrew 10 = .ok (.aload_n 0, 1) := by decide +kernel
theorem zd_W_isCrew_11 : decode zb_W_isCrew 11 = .ok (.getfield 84, 3) := by decide +kernel
theorem zd_W_isCrew_14 : decode zb_W_isCrew 14 = .ok (.iload_n 1, 1) := by decide +kernel
theorem zd_W_isCrew_15 : decode zb_W_isCrew 15 = .ok (.iaload, 1) := by decide +kernel
theorem zd_W_isCrew_16 : decode zb_W_isCrew 16 = .ok (.if_icmp .ne 20, 3) := by decide +kernel
theorem zd_W_isCrew_19 : decode zb_W_isCrew 19 = .ok (.iload_n 2, 1) := by decide +kernel
theorem zd_W_isCrew_20 : decode zb_W_isCrew 20 = .ok (.aload_n 0, 1) := by decide +kernel
theorem zd_W_isCrew_21 : decode zb_W_isCrew 21 = .ok (.getfield 146, 3) := by decide +kernel
theorem zd_W_isCrew_24 : decode zb_W_isCrew 24 = .ok (.iload_n 1, 1) := by decide +kernel
theorem zd_W_isCrew_25 : decode zb_W_isCrew 25 = .ok (.iaload, 1) := by decide +kernel
theorem zd_W_isCrew_26 : decode zb_W_isCrew 26 = .ok (.iconst (-1), 1) := by decide +kernel
theorem zd_W_isCrew_27 : decode zb_W_isCrew 27 = .ok (.ixor, 1) := by decide +kernel
theorem zd_W_isCrew_28 : decode zb_W_isCrew 28 = .ok (.iand, 1) := by decide +kernel
theorem zd_W_isCrew_29 : decode zb_W_isCrew 29 = .ok (.ifCond .ne 7, 3) := by decide +kernel
theorem zd_W_isCrew_32 : decode zb_W_isCrew 32 = .ok (.iconst 1, 1) := by decide +kernel
theorem zd_W_isCrew_33 : decode zb_W_isCrew 33 = .ok (.goto 4, 3) := by decide +kernel
theorem zd_W_isCrew_36 : decode zb_W_isCrew 36 = .ok (.iconst 0, 1) := by decide +kernel
theorem zd_W_isCrew_37 : decode zb_W_isCrew 37 = .ok (.ireturn, 1) := by decide +kernel

def zf_W_isCrew (r0 : Int) (x1 : Int) (x2 : Int) (x3 : Int) (S : Sg) : Option (Int × Sg) :=
    if (zand x2 x3) = 0 then (zbd (zf_Ji_bitCount x2 S) fun a2 S3 => zck (0 ≤ x1 ∧ x1 < 8) <| if a2 = (S3 5 r0 22 x1) then (if (zand x2 (zxor (S3 5 r0 38 x1) (-1))) = 0 then (some (1, S3)) else (some (0, S3))) else (some (0, S3))) else (some (0, S))
set_option maxHeartbeats 4000000 in
set_option maxRecDepth 100000 in
theorem zw_W_isCrew {p : Program} {l : Launch} {e : Env} {s : State} {m : MethodId} {args : Array Value} {below : List Frame} {meth : Method} {c : Code} {B : zB} (C : CallFix p m c zb_W_isCrew 4 s args zT "IslandOfficeModel$World") (hr : meth.sig.returnType = some .boolean) (hlk : meth.locks = false) (hK : zK B s) (hSt : zSt B s) (hap : zAp B) (r0 : Int) (hr0 : 0 ≤ r0 ∧ r0 < 3) {res : Int} {S9 : Sg} : ∀ (x1 : Int) (x2 : Int) (x3 : Int) (S : Sg) (nx1 : zn x1) (nx2 : zn x2) (nx3 : zn x3), zf_W_isCrew r0 x1 x2 x3 S = some (res, S9) → ∀ (H : Heap) (locs : List Loc) (ls : Array Slot), zW B S H → va_S B.2.2.2 s.heap H locs → lv_has ls 4 [(0, .ref (B.2.1 5 (r0) (0))), (1, .int (zI (x1))), (2, .int (zI (x2))), (3, .int (zI (x3)))] → W p l e zm_W_isCrew s m args below meth c H locs 0 0 (MQ below (zQi B res S9) args s 0 0 B.2.2.2) (F0 m 0 ls []) := by
  intro x1 x2 x3 S nx1 nx2 nx3 hf H locs ls hW hS hl
  unfold zf_W_isCrew at hf
  refine lv_iload_n C.1 C.2.1 zd_W_isCrew_0 rfl (lv_at hl 2 rfl) ?_
  refine lv_iload_n C.1 C.2.1 zd_W_isCrew_1 rfl (lv_at hl 3 rfl) ?_
  refine zr_iand C zd_W_isCrew_2 ?_
  refine zr_if_ne (tgt := 36) C (zn_and _ _) zd_W_isCrew_3 (by decide) (fun c1 => ?_) (fun c1 => ?_)
  · rw [if_neg c1] at hf
    refine zr_iconst C zd_W_isCrew_36 ?_
    cases hf
    exact zre_z C hr hlk hK hW hS (znb rfl) (zb01 (by decide)) zd_W_isCrew_37
  · rw [if_pos c1] at hf
    refine lv_iload_n C.1 C.2.1 zd_W_isCrew_6 rfl (lv_at hl 2 rfl) ?_
    obtain ⟨a2, S3, ea2, hf⟩ := zbd_some hf
    refine zcSi (As := [.int (zI (x2))]) (rest := []) C hK hSt hW hS (zc_Ji_bitCount hap x2 S nx2 ea2) zq_Ji_bitCount zk_1742 ⟨rfl, rfl, by decide, by decide⟩ ⟨Nat.zero_le _, Nat.zero_le _⟩ rfl hl.1 rfl (lv_room (Nat.le_of_ble_eq_true rfl)) zd_W_isCrew_7 (fun na2 H locs hW hS => ?_)
    refine lv_aload_n C.1 C.2.1 zd_W_isCrew_10 rfl (lv_at hl 0 rfl) ?_
    refine zg_W_postHands (r := r0) C hK hW (zvd_5 hr0 (by decide)) zk_1329 zd_W_isCrew_11 ?_
    refine lv_iload_n C.1 C.2.1 zd_W_isCrew_14 rfl (lv_at hl 1 rfl) ?_
    obtain ⟨h4, hf⟩ := zck_some hf
    refine ziald C hK hW (zvd_5 hr0 (by decide)) (fun f => ze_5_22 B f (r0)) (by decide) h4 zd_W_isCrew_15 ?_
    refine zr_icmp_ne (tgt := 36) C na2 (zWn hW _ _ _ _ rfl) zd_W_isCrew_16 (by decide) (fun c5 => ?_) (fun c5 => ?_)
    · rw [if_neg c5] at hf
      refine zr_iconst C zd_W_isCrew_36 ?_
      cases hf
      exact zre_z C hr hlk hK hW hS (znb rfl) (zb01 (by decide)) zd_W_isCrew_37
    · rw [if_pos c5] at hf
      refine lv_iload_n C.1 C.2.1 zd_W_isCrew_19 rfl (lv_at hl 2 rfl) ?_
      refine lv_aload_n C.1 C.2.1 zd_W_isCrew_20 rfl (lv_at hl 0 rfl) ?_
      refine zg_W_fitBits (r := r0) C hK hW (zvd_5 hr0 (by decide)) zk_1378 zd_W_isCrew_21 ?_
      refine lv_iload_n C.1 C.2.1 zd_W_isCrew_24 rfl (lv_at hl 1 rfl) ?_
      refine ziald C hK hW (zvd_5 hr0 (by decide)) (fun f => ze_5_38 B f (r0)) (by decide) h4 zd_W_isCrew_25 ?_
      refine zr_iconst C zd_W_isCrew_26 ?_
      refine zr_ixor C zd_W_isCrew_27 ?_
      refine zr_iand C zd_W_isCrew_28 ?_
      refine zr_if_ne (tgt := 36) C (zn_and _ _) zd_W_isCrew_29 (by decide) (fun c6 => ?_) (fun c6 => ?_)
      · rw [if_neg c6] at hf
        refine zr_iconst C zd_W_isCrew_36 ?_
        cases hf
        exact zre_z C hr hlk hK hW hS (znb rfl) (zb01 (by decide)) zd_W_isCrew_37
      · rw [if_pos c6] at hf
        refine zr_iconst C zd_W_isCrew_32 ?_
        refine lv_goto (tgt := 37) C.1 C.2.1 zd_W_isCrew_33 (by decide) ?_
        cases hf
        exact zre_z C hr hlk hK hW hS (znb rfl) (zb01 (by decide)) zd_W_isCrew_37

theorem zc_W_isCrew {l : Launch} {B : zB} (hap : zAp B) (r0 : Int) (hr0 : 0 ≤ r0 ∧ r0 < 3) (x1 : Int) (x2 : Int) (x3 : Int) (S : Sg) (nx1 : zn x1) (nx2 : zn x2) (nx3 : zn x3) {res : Int} {S9 : Sg} (hf : zf_W_isCrew r0 x1 x2 x3 S = some (res, S9)) : Met l zy_W_isCrew (Cond.code zy_W_isCrew zb_W_isCrew 4 (some .boolean) :: zT) zm_W_isCrew (zP B S [.ref (B.2.1 5 (r0) (0)), .int (zI (x1)), .int (zI (x2)), .int (zI (x3))]) (zQi B res S9) 0 0 B.2.2.2 :=
  zmet (by decide) (Nat.le_of_ble_eq_true rfl) (fun p e s m args below meth c C hr hlk hK hSt hW ls hl => zw_W_isCrew C hr hlk hK hSt hap r0 hr0 x1 x2 x3 S nx1 nx2 nx3 hf _ _ _ hW va_S.rf hl)
/-! IslandOfficeModel$World.byAll()V -/
abbrev zy_W_byAll : MethodName := ⟨"IslandOfficeModel$World", "byAll", "()V"⟩
abbrev zb_W_byAll : ByteArray := prog_15_method_32_code
abbrev zm_W_byAll : Room := { frames := 3, cells := 0, slots := 0, locals := 72 }
theorem zq_W_byAll : zMy zy_W_byAll zb_W_byAll 6 (none) 0 := ⟨zk_1814, zk_1813, zs_69, zk_15, by decide, by decide, by decide +kernel⟩
theorem zd_W_byAll_0 : decode zb_W_byAll 0 = .ok (.aload_n 0, 1) := by decide +kernel
theorem zd_W_byAll_1 : decode zb_W_byAll 1 = .ok (.invokevirtual 277, 3) := by decide +kernel
theorem zd_W_byAll_4 : decode zb_W_byAll 4 = .ok (.istore_n 1, 1) := by decide +kernel
theorem zd_W_byAll_5 : decode zb_W_byAll 5 = .ok (.iconst 0, 1) := by decide +kernel
theorem zd_W_byAll_6 : decode zb_W_byAll 6 = .ok (.istore_n 2, 1) := by decide +kernel
theorem zd_W_byAll_7 : decode zb_W_byAll 7 = .ok (.iconst 0, 1) := by decide +kernel
theorem zd_W_byAll_8 : decode zb_W_byAll 8 = .ok (.istore_n 3, 1) := by decide +kernel
theorem zd_W_byAll_9 : decode zb_W_byAll 9 = .ok (.iload_n 3, 1) := by decide +kernel
theorem zd_W_byAll_10 : decode zb_W_byAll 10 = .ok (.aload_n 0, 1) := by decide +kernel
theorem zd_W_byAll_11 : decode zb_W_byAll 11 = .ok (.getfield 168, 3) := by decide +kernel
theorem zd_W_byAll_14 : decode zb_W_byAll 14 = .ok (.if_icmp .ge 132, 3) := by decide +kernel
theorem zd_W_byAll_17 : decode zb_W_byAll 17 = .ok (.iload_n 1, 1) := by decide +kernel
theorem zd_W_byAll_18 : decode zb_W_byAll 18 = .ok (.iload_n 3, 1) := by decide +kernel
theorem zd_W_byAll_19 : decode zb_W_byAll 19 = .ok (.ishr, 1) := by decide +kernel
theorem zd_W_byAll_20 : decode zb_W_byAll 20 = .ok (.iconst 1, 1) := by decide +kernel
theorem zd_W_byAll_21 : decode zb_W_byAll 21 = .ok (.iand, 1) := by decide +kernel
theorem zd_W_byAll_22 : decode zb_W_byAll 22 = .ok (.ifCond .ne 6, 3) := by decide +kernel
theorem zd_W_byAll_25 : decode zb_W_byAll 25 = .ok (.goto 115, 3) := by decide +kernel
theorem zd_W_byAll_28 : decode zb_W_byAll 28 = .ok (.iconst 1, 1) := by decide +kernel
theorem zd_W_byAll_29 : decode zb_W_byAll 29 = .ok (.istore 4, 2) := by decide +kernel
theorem zd_W_byAll_31 : decode zb_W_byAll 31 = .ok (.iload 4, 2) := by decide +kernel
theorem zd_W_byAll_33 : decode zb_W_byAll 33 = .ok (.iconst 1, 1) := by decide +kernel
theorem zd_W_byAll_34 : decode zb_W_byAll 34 = .ok (.aload_n 0, 1) := by decide +kernel
theorem zd_W_byAll_35 : decode zb_W_byAll 35 = .ok (.getfield 261, 3) := by decide +kernel
theorem zd_W_byAll_38 : decode zb_W_byAll 38 = .ok (.ishl, 1) := by decide +kernel
theorem zd_W_byAll_39 : decode zb_W_byAll 39 = .ok (.if_icmp .ge 101, 3) := by decide +kernel
theorem zd_W_byAll_42 : decode zb_W_byAll 42 = .ok (.aload_n 0, 1) := by decide +kernel
theorem zd_W_byAll_43 : decode zb_W_byAll 43 = .ok (.iload_n 3, 1) := by decide +kernel
theorem zd_W_byAll_44 : decode zb_W_byAll 44 = .ok (.iload 4, 2) := by decide +kernel
theorem zd_W_byAll_46 : decode zb_W_byAll 46 = .ok (.iload_n 2, 1) := by decide +kernel
theorem zd_W_byAll_47 : decode zb_W_byAll 47 = .ok (.invokevirtual 280, 3) := by decide +kernel
theorem zd_W_byAll_50 : decode zb_W_byAll 50 = .ok (.ifCond .eq 84, 3) := by decide +kernel
theorem zd_W_byAll_53 : decode zb_W_byAll 53 = .ok (.aload_n 0, 1) := by decide +kernel
theorem zd_W_byAll_54 : decode zb_W_byAll 54 = .ok (.iload_n 1, 1) := by decide +kernel
theorem zd_W_byAll_55 : decode zb_W_byAll 55 = .ok (.iload_n 3, 1) := by decide +kernel
theorem zd_W_byAll_56 : decode zb_W_byAll 56 = .ok (.iconst 1, 1) := by decide +kernel
theorem zd_W_byAll_57 : decode zb_W_byAll 57 = .ok (.iadd, 1) := by decide +kernel
theorem zd_W_byAll_58 : decode zb_W_byAll 58 = .ok (.iload_n 2, 1) := by decide +kernel
theorem zd_W_byAll_59 : decode zb_W_byAll 59 = .ok (.iload 4, 2) := by decide +kernel
theorem zd_W_byAll_61 : decode zb_W_byAll 61 = .ok (.ior, 1) := by decide +kernel
theorem zd_W_byAll_62 : decode zb_W_byAll 62 = .ok (.invokevirtual 273, 3) := by decide +kernel
theorem zd_W_byAll_65 : decode zb_W_byAll 65 = .ok (.ifCond .eq 69, 3) := by decide +kernel
theorem zd_W_byAll_68 : decode zb_W_byAll 68 = .ok (.iload_n 2, 1) := by decide +kernel
theorem zd_W_byAll_69 : decode zb_W_byAll 69 = .ok (.iload 4, 2) := by decide +kernel
theorem zd_W_byAll_71 : decode zb_W_byAll 71 = .ok (.ior, 1) := by decide +kernel
theorem zd_W_byAll_72 : decode zb_W_byAll 72 = .ok (.istore_n 2, 1) := by decide +kernel
theorem zd_W_byAll_73 : decode zb_W_byAll 73 = .ok (.aload_n 0, 1) := by decide +kernel
theorem zd_W_byAll_74 : decode zb_W_byAll 74 = .ok (.getfield 142, 3) := by decide +kernel
theorem zd_W_byAll_77 : decode zb_W_byAll 77 = .ok (.iload_n 3, 1) := by decide +kernel
theorem zd_W_byAll_78 : decode zb_W_byAll 78 = .ok (.iconst 1, 1) := by decide +kernel
theorem zd_W_byAll_79 : decode zb_W_byAll 79 = .ok (.bastore, 1) := by decide +kernel
theorem zd_W_byAll_80 : decode zb_W_byAll 80 = .ok (.iconst 0, 1) := by decide +kernel
theorem zd_W_byAll_81 : decode zb_W_byAll 81 = .ok (.istore 5, 2) := by decide +kernel
theorem zd_W_byAll_83 : decode zb_W_byAll 83 = .ok (.iload 5, 2) := by decide +kernel
theorem zd_W_byAll_85 : decode zb_W_byAll 85 = .ok (.aload_n 0, 1) := by decide +kernel
theorem zd_W_byAll_86 : decode zb_W_byAll 86 = .ok (.getfield 261, 3) := by decide +kernel
theorem zd_W_byAll_89 : decode zb_W_byAll 89 = .ok (.if_icmp .ge 42, 3) := by decide +kernel
theorem zd_W_byAll_92 : decode zb_W_byAll 92 = .ok (.aload_n 0, 1) := by decide +kernel
theorem zd_W_byAll_93 : decode zb_W_byAll 93 = .ok (.getfield 138, 3) := by decide +kernel
theorem zd_W_byAll_96 : decode zb_W_byAll 96 = .ok (.iload_n 3, 1) := by decide +kernel
theorem zd_W_byAll_97 : decode zb_W_byAll 97 = .ok (.dup2, 1) := by decide +kernel
theorem zd_W_byAll_98 : decode zb_W_byAll 98 = .ok (.laload, 1) := by decide +kernel
theorem zd_W_byAll_99 : decode zb_W_byAll 99 = .ok (.iload 4, 2) := by decide +kernel
theorem zd_W_byAll_101 : decode zb_W_byAll 101 = .ok (.iload 5, 2) := by decide +kernel
theorem zd_W_byAll_103 : decode zb_W_byAll 103 = .ok (.ishr, 1) := by decide +kernel
theorem zd_W_byAll_104 : decode zb_W_byAll 104 = .ok (.iconst 1, 1) := by decide +kernel
theorem zd_W_byAll_105 : decode zb_W_byAll 105 = .ok (.iand, 1) := by decide +kernel
theorem zd_W_byAll_106 : decode zb_W_byAll 106 = .ok (.iconst 1, 1) := by decide +kernel
theorem zd_W_byAll_107 : decode zb_W_byAll 107 = .ok (.if_icmp .ne 15, 3) := by decide +kernel
theorem zd_W_byAll_110 : decode zb_W_byAll 110 = .ok (.lconst 1, 1) := by decide +kernel
theorem zd_W_byAll_111 : decode zb_W_byAll 111 = .ok (.aload_n 0, 1) := by decide +kernel
theorem zd_W_byAll_112 : decode zb_W_byAll 112 = .ok (.getfield 135, 3) := by decide +kernel
theorem zd_W_byAll_115 : decode zb_W_byAll 115 = .ok (.iload 5, 2) := by decide +kernel
theorem zd_W_byAll_117 : decode zb_W_byAll 117 = .ok (.iaload, 1) := by decide +kernel
theorem zd_W_byAll_118 : decode zb_W_byAll 118 = .ok (.lshl, 1) := by decide +kernel
theorem zd_W_byAll_119 : decode zb_W_byAll 119 = .ok (.goto 4, 3) := by decide +kernel
theorem zd_W_byAll_122 : decode zb_W_byAll 122 = .ok (.lconst 0, 1) := by decide +kernel
theorem zd_W_byAll_123 : decode zb_W_byAll 123 = .ok (.lor, 1) := by decide +kernel
theorem zd_W_byAll_124 : decode zb_W_byAll 124 = .ok (.lastore, 1) := by decide +kernel
theorem zd_W_byAll_125 : decode zb_W_byAll 125 = .ok (.iinc 5 1, 3) := by decide +kernel
theorem zd_W_byAll_128 : decode zb_W_byAll 128 = .ok (.goto (-45), 3) := by decide +kernel
theorem zd_W_byAll_131 : decode zb_W_byAll 131 = .ok (.goto 9, 3) := by decide +kernel
theorem zd_W_byAll_134 : decode zb_W_byAll 134 = .ok (.iinc 4 1, 3) := by decide +kernel
theorem zd_W_byAll_137 : decode zb_W_byAll 137 = .ok (.goto (-106), 3) := by decide +kernel
theorem zd_W_byAll_140 : decode zb_W_byAll 140 = .ok (.iinc 3 1, 3) := by decide +kernel
theorem zd_W_byAll_143 : decode zb_W_byAll 143 = .ok (.goto (-134), 3) := by decide +kernel
theorem zd_W_byAll_146 : decode zb_W_byAll 146 = .ok (.return_, 1) := by decide +kernel

def zf_W_byAll_140 (r0 : Int) (q9 : Int → Int → Int → Sg → Option (Int × Sg)) (x1 : Int) (x2 : Int) (x3 : Int) (S : Sg) : Option (Int × Sg) :=
    zlt (zw (x3 + 1)) fun v1 => q9 (x1) (x2) (v1) S
set_option maxHeartbeats 4000000 in
set_option maxRecDepth 100000 in
theorem zw_W_byAll_140 {p : Program} {l : Launch} {e : Env} {s : State} {m : MethodId} {args : Array Value} {below : List Frame} {meth : Method} {c : Code} {B : zB} (C : CallFix p m c zb_W_byAll 6 s args zT "IslandOfficeModel$World") (hr : meth.sig.returnType = none) (hlk : meth.locks = false) (hK : zK B s) (hSt : zSt B s) (hap : zAp B) (r0 : Int) (hr0 : 0 ≤ r0 ∧ r0 < 3) {res : Int} {S9 : Sg} (q9 : Int → Int → Int → Sg → Option (Int × Sg)) (hq9 : ∀ (x1 : Int) (x2 : Int) (x3 : Int) (S : Sg) (nx1 : zn x1) (nx2 : zn x2) (nx3 : zn x3), q9 x1 x2 x3 S = some (res, S9) → ∀ (H : Heap) (locs : List Loc) (ls : Array Slot), zW B S H → va_S B.2.2.2 s.heap H locs → lv_has ls 6 [(0, .ref (B.2.1 5 (r0) (0))), (1, .int (zI (x1))), (2, .int (zI (x2))), (3, .int (zI (x3)))] → W p l e zm_W_byAll s m args below meth c H locs 0 0 (MQ below (zQv B S9) args s 0 0 B.2.2.2) (F0 m 9 ls [])) : ∀ (x1 : Int) (x2 : Int) (x3 : Int) (S : Sg) (nx1 : zn x1) (nx2 : zn x2) (nx3 : zn x3), zf_W_byAll_140 r0 q9 x1 x2 x3 S = some (res, S9) → ∀ (H : Heap) (locs : List Loc) (ls : Array Slot), zW B S H → va_S B.2.2.2 s.heap H locs → lv_has ls 6 [(0, .ref (B.2.1 5 (r0) (0))), (1, .int (zI (x1))), (2, .int (zI (x2))), (3, .int (zI (x3)))] → W p l e zm_W_byAll s m args below meth c H locs 0 0 (MQ below (zQv B S9) args s 0 0 B.2.2.2) (F0 m 140 ls []) := by
  intro x1 x2 x3 S nx1 nx2 nx3 hf H locs ls hW hS hl
  unfold zf_W_byAll_140 at hf
  obtain ⟨v1, ev1, hf⟩ := zlt_some hf
  have nv1 : zn v1 := by rw [← ev1]; exact zn_w _
  refine lv_iinc (v := zI v1) (lv' := [(3, .int (zI (v1))), (0, .ref (B.2.1 5 (r0) (0))), (1, .int (zI (x1))), (2, .int (zI (x2)))]) C.1 C.2.1 zd_W_byAll_140 hl (k := 3) rfl (by rw [← ev1, ← zI_add]; rfl) (by decide) rfl (fun ls hl => ?_)
  refine lv_goto (tgt := 9) C.1 C.2.1 zd_W_byAll_143 (by decide) ?_
  exact hq9 (x1) (x2) (v1) S nx1 nx2 nv1 hf _ _ _ hW hS (lv_sub hl [1, 2, 3, 0] rfl)

def zf_W_byAll_134 (r0 : Int) (q9 : Int → Int → Int → Sg → Option (Int × Sg)) (q31 : Int → Int → Int → Int → Sg → Option (Int × Sg)) (x1 : Int) (x2 : Int) (x3 : Int) (x4 : Int) (S : Sg) : Option (Int × Sg) :=
    zlt (zw (x4 + 1)) fun v1 => q31 (x1) (x2) (x3) (v1) S
set_option maxHeartbeats 4000000 in
set_option maxRecDepth 100000 in
theorem zw_W_byAll_134 {p : Program} {l : Launch} {e : Env} {s : State} {m : MethodId} {args : Array Value} {below : List Frame} {meth : Method} {c : Code} {B : zB} (C : CallFix p m c zb_W_byAll 6 s args zT "IslandOfficeModel$World") (hr : meth.sig.returnType = none) (hlk : meth.locks = false) (hK : zK B s) (hSt : zSt B s) (hap : zAp B) (r0 : Int) (hr0 : 0 ≤ r0 ∧ r0 < 3) {res : Int} {S9 : Sg} (q9 : Int → Int → Int → Sg → Option (Int × Sg)) (hq9 : ∀ (x1 : Int) (x2 : Int) (x3 : Int) (S : Sg) (nx1 : zn x1) (nx2 : zn x2) (nx3 : zn x3), q9 x1 x2 x3 S = some (res, S9) → ∀ (H : Heap) (locs : List Loc) (ls : Array Slot), zW B S H → va_S B.2.2.2 s.heap H locs → lv_has ls 6 [(0, .ref (B.2.1 5 (r0) (0))), (1, .int (zI (x1))), (2, .int (zI (x2))), (3, .int (zI (x3)))] → W p l e zm_W_byAll s m args below meth c H locs 0 0 (MQ below (zQv B S9) args s 0 0 B.2.2.2) (F0 m 9 ls [])) (q31 : Int → Int → Int → Int → Sg → Option (Int × Sg)) (hq31 : ∀ (x1 : Int) (x2 : Int) (x3 : Int) (x4 : Int) (S : Sg) (nx1 : zn x1) (nx2 : zn x2) (nx3 : zn x3) (nx4 : zn x4), q31 x1 x2 x3 x4 S = some (res, S9) → ∀ (H : Heap) (locs : List Loc) (ls : Array Slot), zW B S H → va_S B.2.2.2 s.heap H locs → lv_has ls 6 [(0, .ref (B.2.1 5 (r0) (0))), (1, .int (zI (x1))), (2, .int (zI (x2))), (3, .int (zI (x3))), (4, .int (zI (x4)))] → W p l e zm_W_byAll s m args below meth c H locs 0 0 (MQ below (zQv B S9) args s 0 0 B.2.2.2) (F0 m 31 ls [])) : ∀ (x1 : Int) (x2 : Int) (x3 : Int) (x4 : Int) (S : Sg) (nx1 : zn x1) (nx2 : zn x2) (nx3 : zn x3) (nx4 : zn x4), zf_W_byAll_134 r0 q9 q31 x1 x2 x3 x4 S = some (res, S9) → ∀ (H : Heap) (locs : List Loc) (ls : Array Slot), zW B S H → va_S B.2.2.2 s.heap H locs → lv_has ls 6 [(0, .ref (B.2.1 5 (r0) (0))), (1, .int (zI (x1))), (2, .int (zI (x2))), (3, .int (zI (x3))), (4, .int (zI (x4)))] → W p l e zm_W_byAll s m args below meth c H locs 0 0 (MQ below (zQv B S9) args s 0 0 B.2.2.2) (F0 m 134 ls []) := by
  intro x1 x2 x3 x4 S nx1 nx2 nx3 nx4 hf H locs ls hW hS hl
  unfold zf_W_byAll_134 at hf
  obtain ⟨v1, ev1, hf⟩ := zlt_some hf
  have nv1 : zn v1 := by rw [← ev1]; exact zn_w _
  refine lv_iinc (v := zI v1) (lv' := [(4, .int (zI (v1))), (0, .ref (B.2.1 5 (r0) (0))), (1, .int (zI (x1))), (2, .int (zI (x2))), (3, .int (zI (x3)))]) C.1 C.2.1 zd_W_byAll_134 hl (k := 4) rfl (by rw [← ev1, ← zI_add]; rfl) (by decide) rfl (fun ls hl => ?_)
  refine lv_goto (tgt := 31) C.1 C.2.1 zd_W_byAll_137 (by decide) ?_
  exact hq31 (x1) (x2) (x3) (v1) S nx1 nx2 nx3 nv1 hf _ _ _ hW hS (lv_sub hl [1, 2, 3, 4, 0] rfl)

def zf_W_byAll_123 (r0 : Int) (q9 : Int → Int → Int → Sg → Option (Int × Sg)) (q83 : Int → Int → Int → Int → Int → Sg → Option (Int × Sg)) (x1 : Int) (x2 : Int) (x3 : Int) (x4 : Int) (x5 : Int) (xt1 : Int) (xt2 : Int) (xt3 : Int) (S : Sg) : Option (Int × Sg) :=
    zck (0 ≤ xt1 ∧ xt1 < 8) <| zlt (zu S 21 r0 0 xt1 (zlor xt2 xt3)) fun S2 => zlt (zw (x5 + 1)) fun v3 => q83 (x1) (x2) (x3) (x4) (v3) S2
set_option maxHeartbeats 4000000 in
set_option maxRecDepth 100000 in
theorem zw_W_byAll_123 {p : Program} {l : Launch} {e : Env} {s : State} {m : MethodId} {args : Array Value} {below : List Frame} {meth : Method} {c : Code} {B : zB} (C : CallFix p m c zb_W_byAll 6 s args zT "IslandOfficeModel$World") (hr : meth.sig.returnType = none) (hlk : meth.locks = false) (hK : zK B s) (hSt : zSt B s) (hap : zAp B) (r0 : Int) (hr0 : 0 ≤ r0 ∧ r0 < 3) {res : Int} {S9 : Sg} (q9 : Int → Int → Int → Sg → Option (Int × Sg)) (hq9 : ∀ (x1 : Int) (x2 : Int) (x3 : Int) (S : Sg) (nx1 : zn x1) (nx2 : zn x2) (nx3 : zn x3), q9 x1 x2 x3 S = some (res, S9) → ∀ (H : Heap) (locs : List Loc) (ls : Array Slot), zW B S H → va_S B.2.2.2 s.heap H locs → lv_has ls 6 [(0, .ref (B.2.1 5 (r0) (0))), (1, .int (zI (x1))), (2, .int (zI (x2))), (3, .int (zI (x3)))] → W p l e zm_W_byAll s m args below meth c H locs 0 0 (MQ below (zQv B S9) args s 0 0 B.2.2.2) (F0 m 9 ls [])) (q83 : Int → Int → Int → Int → Int → Sg → Option (Int × Sg)) (hq83 : ∀ (x1 : Int) (x2 : Int) (x3 : Int) (x4 : Int) (x5 : Int) (S : Sg) (nx1 : zn x1) (nx2 : zn x2) (nx3 : zn x3) (nx4 : zn x4) (nx5 : zn x5), q83 x1 x2 x3 x4 x5 S = some (res, S9) → ∀ (H : Heap) (locs : List Loc) (ls : Array Slot), zW B S H → va_S B.2.2.2 s.heap H locs → lv_has ls 6 [(0, .ref (B.2.1 5 (r0) (0))), (1, .int (zI (x1))), (2, .int (zI (x2))), (3, .int (zI (x3))), (4, .int (zI (x4))), (5, .int (zI (x5)))] → W p l e zm_W_byAll s m args below meth c H locs 0 0 (MQ below (zQv B S9) args s 0 0 B.2.2.2) (F0 m 83 ls [])) : ∀ (x1 : Int) (x2 : Int) (x3 : Int) (x4 : Int) (x5 : Int) (xt1 : Int) (xt2 : Int) (xt3 : Int) (S : Sg) (nx1 : zn x1) (nx2 : zn x2) (nx3 : zn x3) (nx4 : zn x4) (nx5 : zn x5) (nxt1 : zn xt1) (nxt2 : zm xt2) (nxt3 : zm xt3), zf_W_byAll_123 r0 q9 q83 x1 x2 x3 x4 x5 xt1 xt2 xt3 S = some (res, S9) → ∀ (H : Heap) (locs : List Loc) (ls : Array Slot), zW B S H → va_S B.2.2.2 s.heap H locs → lv_has ls 6 [(0, .ref (B.2.1 5 (r0) (0))), (1, .int (zI (x1))), (2, .int (zI (x2))), (3, .int (zI (x3))), (4, .int (zI (x4))), (5, .int (zI (x5)))] → W p l e zm_W_byAll s m args below meth c H locs 0 0 (MQ below (zQv B S9) args s 0 0 B.2.2.2) (F0 m 123 ls [.long (zL (xt3)), .long (zL (xt2)), .int (zI (xt1)), .ref (B.2.1 21 (r0) (0))]) := by
  intro x1 x2 x3 x4 x5 xt1 xt2 xt3 S nx1 nx2 nx3 nx4 nx5 nxt1 nxt2 nxt3 hf H locs ls hW hS hl
  unfold zf_W_byAll_123 at hf
  refine zr_lor C zd_W_byAll_123 ?_
  obtain ⟨h1, hf⟩ := zck_some hf
  obtain ⟨S2, eS2, hf⟩ := zlt_some hf
  refine zlast C hK hap hW hS (zvd_21 hr0 (by decide)) (fun f => ze_21_0 B f (r0)) (by decide) rfl (zm_lor _ _) h1 zd_W_byAll_124 (fun H locs hW hS => ?_)
  rw [eS2] at hW
  obtain ⟨v3, ev3, hf⟩ := zlt_some hf
  have nv3 : zn v3 := by rw [← ev3]; exact zn_w _
  refine lv_iinc (v := zI v3) (lv' := [(5, .int (zI (v3))), (0, .ref (B.2.1 5 (r0) (0))), (1, .int (zI (x1))), (2, .int (zI (x2))), (3, .int (zI (x3))), (4, .int (zI (x4)))]) C.1 C.2.1 zd_W_byAll_125 hl (k := 5) rfl (by rw [← ev3, ← zI_add]; rfl) (by decide) rfl (fun ls hl => ?_)
  refine lv_goto (tgt := 83) C.1 C.2.1 zd_W_byAll_128 (by decide) ?_
  exact hq83 (x1) (x2) (x3) (x4) (v3) S2 nx1 nx2 nx3 nx4 nv3 hf _ _ _ hW hS (lv_sub hl [1, 2, 3, 4, 5, 0] rfl)

def zf_W_byAll_83 (r0 : Int) (q9 : Int → Int → Int → Sg → Option (Int × Sg)) : Nat → Int → Int → Int → Int → Int → Sg → Option (Int × Sg)
  | 0, _, _, _, _, _, _ => none
  | n + 1, x1, x2, x3, x4, x5, S =>
    if (S 5 r0 0 52) ≤ x5 then (zf_W_byAll_140 r0 q9 (x1) (x2) (x3) S) else (zck (0 ≤ x3 ∧ x3 < 8) <| if (zand (zshr x4 x5) 1) = 1 then (zck (0 ≤ x5 ∧ x5 < 40) <| zf_W_byAll_123 r0 q9 (zf_W_byAll_83 r0 q9 n) (x1) (x2) (x3) (x4) (x5) (x3) (S 21 r0 0 x3) (zlsl 1 (S 5 r0 36 x5)) S) else (zf_W_byAll_123 r0 q9 (zf_W_byAll_83 r0 q9 n) (x1) (x2) (x3) (x4) (x5) (x3) (S 21 r0 0 x3) (0) S))
set_option maxHeartbeats 4000000 in
set_option maxRecDepth 100000 in
theorem zw_W_byAll_83 {p : Program} {l : Launch} {e : Env} {s : State} {m : MethodId} {args : Array Value} {below : List Frame} {meth : Method} {c : Code} {B : zB} (C : CallFix p m c zb_W_byAll 6 s args zT "IslandOfficeModel$World") (hr : meth.sig.returnType = none) (hlk : meth.locks = false) (hK : zK B s) (hSt : zSt B s) (hap : zAp B) (r0 : Int) (hr0 : 0 ≤ r0 ∧ r0 < 3) {res : Int} {S9 : Sg} (q9 : Int → Int → Int → Sg → Option (Int × Sg)) (hq9 : ∀ (x1 : Int) (x2 : Int) (x3 : Int) (S : Sg) (nx1 : zn x1) (nx2 : zn x2) (nx3 : zn x3), q9 x1 x2 x3 S = some (res, S9) → ∀ (H : Heap) (locs : List Loc) (ls : Array Slot), zW B S H → va_S B.2.2.2 s.heap H locs → lv_has ls 6 [(0, .ref (B.2.1 5 (r0) (0))), (1, .int (zI (x1))), (2, .int (zI (x2))), (3, .int (zI (x3)))] → W p l e zm_W_byAll s m args below meth c H locs 0 0 (MQ below (zQv B S9) args s 0 0 B.2.2.2) (F0 m 9 ls [])) : ∀ n : Nat, ∀ (x1 : Int) (x2 : Int) (x3 : Int) (x4 : Int) (x5 : Int) (S : Sg) (nx1 : zn x1) (nx2 : zn x2) (nx3 : zn x3) (nx4 : zn x4) (nx5 : zn x5), zf_W_byAll_83 r0 q9 n x1 x2 x3 x4 x5 S = some (res, S9) → ∀ (H : Heap) (locs : List Loc) (ls : Array Slot), zW B S H → va_S B.2.2.2 s.heap H locs → lv_has ls 6 [(0, .ref (B.2.1 5 (r0) (0))), (1, .int (zI (x1))), (2, .int (zI (x2))), (3, .int (zI (x3))), (4, .int (zI (x4))), (5, .int (zI (x5)))] → W p l e zm_W_byAll s m args below meth c H locs 0 0 (MQ below (zQv B S9) args s 0 0 B.2.2.2) (F0 m 83 ls []) := by
  intro n
  induction n with
  | zero =>
    intro x1 x2 x3 x4 x5 S nx1 nx2 nx3 nx4 nx5 hf H locs ls hW hS hl
    cases hf
  | succ n ih =>
    intro x1 x2 x3 x4 x5 S nx1 nx2 nx3 nx4 nx5 hf H locs ls hW hS hl
    rw [zf_W_byAll_83] at hf
    refine lv_iload C.1 C.2.1 zd_W_byAll_83 (lv_at hl 5 rfl) ?_
    refine lv_aload_n C.1 C.2.1 zd_W_byAll_85 rfl (lv_at hl 0 rfl) ?_
    refine zg_W_cans (r := r0) C hK hW (zvd_5 hr0 (by decide)) zk_1374 zd_W_byAll_86 ?_
    refine zr_icmp_ge (tgt := 131) C nx5 (zWn hW _ _ _ _ rfl) zd_W_byAll_89 (by decide) (fun c1 => ?_) (fun c1 => ?_)
    · rw [if_pos c1] at hf
      refine lv_goto (tgt := 140) C.1 C.2.1 zd_W_byAll_131 (by decide) ?_
      exact zw_W_byAll_140 C hr hlk hK hSt hap r0 hr0 q9 hq9 (x1) (x2) (x3) S nx1 nx2 nx3 hf _ _ _ hW hS (lv_sub hl [0, 1, 2, 3] rfl)
    · rw [if_neg c1] at hf
      refine lv_aload_n C.1 C.2.1 zd_W_byAll_92 rfl (lv_at hl 0 rfl) ?_
      refine zg_W_crew (r := r0) C hK hW (zvd_5 hr0 (by decide)) zk_1375 zd_W_byAll_93 ?_
      refine lv_iload_n C.1 C.2.1 zd_W_byAll_96 rfl (lv_at hl 3 rfl) ?_
      refine lv_dup2_11 C.1 C.2.1 zd_W_byAll_97 rfl rfl ?_
      obtain ⟨h2, hf⟩ := zck_some hf
      refine zlald C hK hW (zvd_21 hr0 (by decide)) (fun f => ze_21_0 B f (r0)) (by decide) h2 zd_W_byAll_98 ?_
      refine lv_iload C.1 C.2.1 zd_W_byAll_99 (lv_at hl 4 rfl) ?_
      refine lv_iload C.1 C.2.1 zd_W_byAll_101 (lv_at hl 5 rfl) ?_
      refine zr_ishr C zd_W_byAll_103 ?_
      refine zr_iconst C zd_W_byAll_104 ?_
      refine zr_iand C zd_W_byAll_105 ?_
      refine zr_iconst C zd_W_byAll_106 ?_
      refine zr_icmp_ne (tgt := 122) C (zn_and _ _) (znb rfl) zd_W_byAll_107 (by decide) (fun c3 => ?_) (fun c3 => ?_)
      · rw [if_neg c3] at hf
        refine zr_lconst (k := 0) C zd_W_byAll_122 rfl ?_
        exact zw_W_byAll_123 C hr hlk hK hSt hap r0 hr0 q9 hq9 (zf_W_byAll_83 r0 q9 n) (ih) (x1) (x2) (x3) (x4) (x5) (x3) (S 21 r0 0 x3) (0) S nx1 nx2 nx3 nx4 nx5 nx3 (zWm hW _ _ _ _ rfl) (zmb rfl) hf _ _ _ hW hS (lv_sub hl [0, 1, 2, 3, 4, 5] rfl)
      · rw [if_pos c3] at hf
        refine zr_lconst (k := 1) C zd_W_byAll_110 rfl ?_
        refine lv_aload_n C.1 C.2.1 zd_W_byAll_111 rfl (lv_at hl 0 rfl) ?_
        refine zg_W_can (r := r0) C hK hW (zvd_5 hr0 (by decide)) zk_1373 zd_W_byAll_112 ?_
        refine lv_iload C.1 C.2.1 zd_W_byAll_115 (lv_at hl 5 rfl) ?_
        obtain ⟨h4, hf⟩ := zck_some hf
        refine ziald C hK hW (zvd_5 hr0 (by decide)) (fun f => ze_5_36 B f (r0)) (by decide) h4 zd_W_byAll_117 ?_
        refine zr_lshl C zd_W_byAll_118 ?_
        refine lv_goto (tgt := 123) C.1 C.2.1 zd_W_byAll_119 (by decide) ?_
        exact zw_W_byAll_123 C hr hlk hK hSt hap r0 hr0 q9 hq9 (zf_W_byAll_83 r0 q9 n) (ih) (x1) (x2) (x3) (x4) (x5) (x3) (S 21 r0 0 x3) (zlsl 1 (S 5 r0 36 x5)) S nx1 nx2 nx3 nx4 nx5 nx3 (zWm hW _ _ _ _ rfl) (zm_lsl _ _) hf _ _ _ hW hS (lv_sub hl [0, 1, 2, 3, 4, 5] rfl)

def zf_W_byAll_31 (r0 : Int) (q9 : Int → Int → Int → Sg → Option (Int × Sg)) : Nat → Int → Int → Int → Int → Sg → Option (Int × Sg)
  | 0, _, _, _, _, _ => none
  | n + 1, x1, x2, x3, x4, S =>
    if (zshl 1 (S 5 r0 0 52)) ≤ x4 then (zf_W_byAll_140 r0 q9 (x1) (x2) (x3) S) else (zbd (zf_W_isCrew (r0) x3 x4 x2 S) fun a2 S3 => if a2 = 0 then (zf_W_byAll_134 r0 q9 (zf_W_byAll_31 r0 q9 n) (x1) (x2) (x3) (x4) S3) else (zbd (zf_W_feasible (r0) x1 (zw (x3 + 1)) (zor x2 x4) S3) fun a5 S6 => if a5 = 0 then (zf_W_byAll_134 r0 q9 (zf_W_byAll_31 r0 q9 n) (x1) (x2) (x3) (x4) S6) else (zlt (zor x2 x4) fun v8 => zck (0 ≤ x3 ∧ x3 < 8) <| zlt (zu S6 5 r0 37 x3 1) fun S10 => zf_W_byAll_83 r0 q9 4096 (x1) (v8) (x3) (x4) (0) S10)))
set_option maxHeartbeats 4000000 in
set_option maxRecDepth 100000 in
theorem zw_W_byAll_31 {p : Program} {l : Launch} {e : Env} {s : State} {m : MethodId} {args : Array Value} {below : List Frame} {meth : Method} {c : Code} {B : zB} (C : CallFix p m c zb_W_byAll 6 s args zT "IslandOfficeModel$World") (hr : meth.sig.returnType = none) (hlk : meth.locks = false) (hK : zK B s) (hSt : zSt B s) (hap : zAp B) (r0 : Int) (hr0 : 0 ≤ r0 ∧ r0 < 3) {res : Int} {S9 : Sg} (q9 : Int → Int → Int → Sg → Option (Int × Sg)) (hq9 : ∀ (x1 : Int) (x2 : Int) (x3 : Int) (S : Sg) (nx1 : zn x1) (nx2 : zn x2) (nx3 : zn x3), q9 x1 x2 x3 S = some (res, S9) → ∀ (H : Heap) (locs : List Loc) (ls : Array Slot), zW B S H → va_S B.2.2.2 s.heap H locs → lv_has ls 6 [(0, .ref (B.2.1 5 (r0) (0))), (1, .int (zI (x1))), (2, .int (zI (x2))), (3, .int (zI (x3)))] → W p l e zm_W_byAll s m args below meth c H locs 0 0 (MQ below (zQv B S9) args s 0 0 B.2.2.2) (F0 m 9 ls [])) : ∀ n : Nat, ∀ (x1 : Int) (x2 : Int) (x3 : Int) (x4 : Int) (S : Sg) (nx1 : zn x1) (nx2 : zn x2) (nx3 : zn x3) (nx4 : zn x4), zf_W_byAll_31 r0 q9 n x1 x2 x3 x4 S = some (res, S9) → ∀ (H : Heap) (locs : List Loc) (ls : Array Slot), zW B S H → va_S B.2.2.2 s.heap H locs → lv_has ls 6 [(0, .ref (B.2.1 5 (r0) (0))), (1, .int (zI (x1))), (2, .int (zI (x2))), (3, .int (zI (x3))), (4, .int (zI (x4)))] → W p l e zm_W_byAll s m args below meth c H locs 0 0 (MQ below (zQv B S9) args s 0 0 B.2.2.2) (F0 m 31 ls []) := by
  intro n
  induction n with
  | zero =>
    intro x1 x2 x3 x4 S nx1 nx2 nx3 nx4 hf H locs ls hW hS hl
    cases hf
  | succ n ih =>
    intro x1 x2 x3 x4 S nx1 nx2 nx3 nx4 hf H locs ls hW hS hl
    rw [zf_W_byAll_31] at hf
    refine lv_iload C.1 C.2.1 zd_W_byAll_31 (lv_at hl 4 rfl) ?_
    refine zr_iconst C zd_W_byAll_33 ?_
    refine lv_aload_n C.1 C.2.1 zd_W_byAll_34 rfl (lv_at hl 0 rfl) ?_
    refine zg_W_cans (r := r0) C hK hW (zvd_5 hr0 (by decide)) zk_1374 zd_W_byAll_35 ?_
    refine zr_ishl C zd_W_byAll_38 ?_
    refine zr_icmp_ge (tgt := 140) C nx4 (zn_shl _ _) zd_W_byAll_39 (by decide) (fun c1 => ?_) (fun c1 => ?_)
    · rw [if_pos c1] at hf
      exact zw_W_byAll_140 C hr hlk hK hSt hap r0 hr0 q9 hq9 (x1) (x2) (x3) S nx1 nx2 nx3 hf _ _ _ hW hS (lv_sub hl [0, 1, 2, 3] rfl)
    · rw [if_neg c1] at hf
      refine lv_aload_n C.1 C.2.1 zd_W_byAll_42 rfl (lv_at hl 0 rfl) ?_
      refine lv_iload_n C.1 C.2.1 zd_W_byAll_43 rfl (lv_at hl 3 rfl) ?_
      refine lv_iload C.1 C.2.1 zd_W_byAll_44 (lv_at hl 4 rfl) ?_
      refine lv_iload_n C.1 C.2.1 zd_W_byAll_46 rfl (lv_at hl 2 rfl) ?_
      obtain ⟨a2, S3, ea2, hf⟩ := zbd_some hf
      refine zcVi (As := [.int (zI (x3)), .int (zI (x4)), .int (zI (x2))]) (rest := []) C hK hSt hW hS (zc_W_isCrew hap (r0) hr0 x3 x4 x2 S nx3 nx4 nx2 ea2) zq_W_isCrew zk_1827 (zrecv hK hW (zvd_5 hr0 (by decide)) (ze_5_0 B _ (r0)) rfl) ⟨rfl, rfl, by decide, by decide⟩ ⟨Nat.zero_le _, Nat.zero_le _⟩ rfl hl.1 rfl (lv_room (Nat.le_of_ble_eq_true rfl)) zd_W_byAll_47 (fun na2 H locs hW hS => ?_)
      refine zr_if_eq (tgt := 134) C na2 zd_W_byAll_50 (by decide) (fun c4 => ?_) (fun c4 => ?_)
      · rw [if_pos c4] at hf
        exact zw_W_byAll_134 C hr hlk hK hSt hap r0 hr0 q9 hq9 (zf_W_byAll_31 r0 q9 n) (ih) (x1) (x2) (x3) (x4) S3 nx1 nx2 nx3 nx4 hf _ _ _ hW hS (lv_sub hl [0, 1, 2, 3, 4] rfl)
      · rw [if_neg c4] at hf
        refine lv_aload_n C.1 C.2.1 zd_W_byAll_53 rfl (lv_at hl 0 rfl) ?_
        refine lv_iload_n C.1 C.2.1 zd_W_byAll_54 rfl (lv_at hl 1 rfl) ?_
        refine lv_iload_n C.1 C.2.1 zd_W_byAll_55 rfl (lv_at hl 3 rfl) ?_
        refine zr_iconst C zd_W_byAll_56 ?_
        refine zr_iadd C zd_W_byAll_57 ?_
        refine lv_iload_n C.1 C.2.1 zd_W_byAll_58 rfl (lv_at hl 2 rfl) ?_
        refine lv_iload C.1 C.2.1 zd_W_byAll_59 (lv_at hl 4 rfl) ?_
        refine zr_ior C zd_W_byAll_61 ?_
        obtain ⟨a5, S6, ea5, hf⟩ := zbd_some hf
        refine zcVi (As := [.int (zI (x1)), .int (zI (zw (x3 + 1))), .int (zI (zor x2 x4))]) (rest := []) C hK hSt hW hS (zc_W_feasible hap (r0) hr0 x1 (zw (x3 + 1)) (zor x2 x4) S3 nx1 (zn_w _) (zn_or _ _) ea5) zq_W_feasible zk_1823 (zrecv hK hW (zvd_5 hr0 (by decide)) (ze_5_0 B _ (r0)) rfl) ⟨rfl, rfl, by decide, by decide⟩ ⟨Nat.zero_le _, Nat.zero_le _⟩ rfl hl.1 rfl (lv_room (Nat.le_of_ble_eq_true rfl)) zd_W_byAll_62 (fun na5 H locs hW hS => ?_)
        refine zr_if_eq (tgt := 134) C na5 zd_W_byAll_65 (by decide) (fun c7 => ?_) (fun c7 => ?_)
        · rw [if_pos c7] at hf
          exact zw_W_byAll_134 C hr hlk hK hSt hap r0 hr0 q9 hq9 (zf_W_byAll_31 r0 q9 n) (ih) (x1) (x2) (x3) (x4) S6 nx1 nx2 nx3 nx4 hf _ _ _ hW hS (lv_sub hl [0, 1, 2, 3, 4] rfl)
        · rw [if_neg c7] at hf
          refine lv_iload_n C.1 C.2.1 zd_W_byAll_68 rfl (lv_at hl 2 rfl) ?_
          refine lv_iload C.1 C.2.1 zd_W_byAll_69 (lv_at hl 4 rfl) ?_
          refine zr_ior C zd_W_byAll_71 ?_
          obtain ⟨v8, ev8, hf⟩ := zlt_some hf
          have nv8 : zn v8 := by rw [← ev8]; exact (zn_or _ _)
          rw [ev8]
          refine lv_istore_n (lv' := [(2, .int (zI (v8))), (0, .ref (B.2.1 5 (r0) (0))), (1, .int (zI (x1))), (3, .int (zI (x3))), (4, .int (zI (x4)))]) C.1 C.2.1 zd_W_byAll_72 rfl hl (by decide) rfl (fun ls hl => ?_)
          refine lv_aload_n C.1 C.2.1 zd_W_byAll_73 rfl (lv_at hl 1 rfl) ?_
          refine zg_W_isFilled (r := r0) C hK hW (zvd_5 hr0 (by decide)) zk_1377 zd_W_byAll_74 ?_
          refine lv_iload_n C.1 C.2.1 zd_W_byAll_77 rfl (lv_at hl 3 rfl) ?_
          refine zr_iconst C zd_W_byAll_78 ?_
          obtain ⟨h9, hf⟩ := zck_some hf
          obtain ⟨S10, eS10, hf⟩ := zlt_some hf
          refine zzast C hK hap hW hS (zvd_5 hr0 (by decide)) (fun f => ze_5_37 B f (r0)) (by decide) rfl (znb rfl) rfl h9 zd_W_byAll_79 (fun H locs hW hS => ?_)
          rw [eS10] at hW
          refine zr_iconst C zd_W_byAll_80 ?_
          refine lv_istore (lv' := [(5, .int (zI (0))), (2, .int (zI (v8))), (0, .ref (B.2.1 5 (r0) (0))), (1, .int (zI (x1))), (3, .int (zI (x3))), (4, .int (zI (x4)))]) C.1 C.2.1 zd_W_byAll_81 hl (by decide) rfl (fun ls hl => ?_)
          exact zw_W_byAll_83 C hr hlk hK hSt hap r0 hr0 q9 hq9 4096 (x1) (v8) (x3) (x4) (0) S10 nx1 nv8 nx3 nx4 (znb rfl) hf _ _ _ hW hS (lv_sub hl [2, 3, 1, 4, 5, 0] rfl)

def zf_W_byAll_9 (r0 : Int) : Nat → Int → Int → Int → Sg → Option (Int × Sg)
  | 0, _, _, _, _ => none
  | n + 1, x1, x2, x3, S =>
    if (S 5 r0 0 25) ≤ x3 then (some (0, S)) else (if (zand (zshr x1 x3) 1) = 0 then (zf_W_byAll_140 r0 (zf_W_byAll_9 r0 n) (x1) (x2) (x3) S) else (zf_W_byAll_31 r0 (zf_W_byAll_9 r0 n) 4096 (x1) (x2) (x3) (1) S))
set_option maxHeartbeats 4000000 in
set_option maxRecDepth 100000 in
theorem zw_W_byAll_9 {p : Program} {l : Launch} {e : Env} {s : State} {m : MethodId} {args : Array Value} {below : List Frame} {meth : Method} {c : Code} {B : zB} (C : CallFix p m c zb_W_byAll 6 s args zT "IslandOfficeModel$World") (hr : meth.sig.returnType = none) (hlk : meth.locks = false) (hK : zK B s) (hSt : zSt B s) (hap : zAp B) (r0 : Int) (hr0 : 0 ≤ r0 ∧ r0 < 3) {res : Int} {S9 : Sg} : ∀ n : Nat, ∀ (x1 : Int) (x2 : Int) (x3 : Int) (S : Sg) (nx1 : zn x1) (nx2 : zn x2) (nx3 : zn x3), zf_W_byAll_9 r0 n x1 x2 x3 S = some (res, S9) → ∀ (H : Heap) (locs : List Loc) (ls : Array Slot), zW B S H → va_S B.2.2.2 s.heap H locs → lv_has ls 6 [(0, .ref (B.2.1 5 (r0) (0))), (1, .int (zI (x1))), (2, .int (zI (x2))), (3, .int (zI (x3)))] → W p l e zm_W_byAll s m args below meth c H locs 0 0 (MQ below (zQv B S9) args s 0 0 B.2.2.2) (F0 m 9 ls []) := by
  intro n
  induction n with
  | zero =>
    intro x1 x2 x3 S nx1 nx2 nx3 hf H locs ls hW hS hl
    cases hf
  | succ n ih =>
    intro x1 x2 x3 S nx1 nx2 nx3 hf H locs ls hW hS hl
    rw [zf_W_byAll_9] at hf
    refine lv_iload_n C.1 C.2.1 zd_W_byAll_9 rfl (lv_at hl 3 rfl) ?_
    refine lv_aload_n C.1 C.2.1 zd_W_byAll_10 rfl (lv_at hl 0 rfl) ?_
    refine zg_W_posts (r := r0) C hK hW (zvd_5 hr0 (by decide)) zk_1325 zd_W_byAll_11 ?_
    refine zr_icmp_ge (tgt := 146) C nx3 (zWn hW _ _ _ _ rfl) zd_W_byAll_14 (by decide) (fun c1 => ?_) (fun c1 => ?_)
    · rw [if_pos c1] at hf
      cases hf
      exact zre_v C hr hlk hK hW hS zd_W_byAll_146
    · rw [if_neg c1] at hf
      refine lv_iload_n C.1 C.2.1 zd_W_byAll_17 rfl (lv_at hl 1 rfl) ?_
      refine lv_iload_n C.1 C.2.1 zd_W_byAll_18 rfl (lv_at hl 3 rfl) ?_
      refine zr_ishr C zd_W_byAll_19 ?_
      refine zr_iconst C zd_W_byAll_20 ?_
      refine zr_iand C zd_W_byAll_21 ?_
      refine zr_if_ne (tgt := 28) C (zn_and _ _) zd_W_byAll_22 (by decide) (fun c2 => ?_) (fun c2 => ?_)
      · rw [if_neg c2] at hf
        refine zr_iconst C zd_W_byAll_28 ?_
        refine lv_istore (lv' := [(4, .int (zI (1))), (0, .ref (B.2.1 5 (r0) (0))), (1, .int (zI (x1))), (2, .int (zI (x2))), (3, .int (zI (x3)))]) C.1 C.2.1 zd_W_byAll_29 hl (by decide) rfl (fun ls hl => ?_)
        exact zw_W_byAll_31 C hr hlk hK hSt hap r0 hr0 (zf_W_byAll_9 r0 n) (ih) 4096 (x1) (x2) (x3) (1) S nx1 nx2 nx3 (znb rfl) hf _ _ _ hW hS (lv_sub hl [1, 2, 3, 4, 0] rfl)
      · rw [if_pos c2] at hf
        refine lv_goto (tgt := 140) C.1 C.2.1 zd_W_byAll_25 (by decide) ?_
        exact zw_W_byAll_140 C hr hlk hK hSt hap r0 hr0 (zf_W_byAll_9 r0 n) (ih) (x1) (x2) (x3) S nx1 nx2 nx3 hf _ _ _ hW hS (lv_sub hl [0, 1, 2, 3] rfl)

def zf_W_byAll (r0 : Int) (S : Sg) : Option (Int × Sg) :=
    zbd (zf_W_bestSet (r0) S) fun a1 S2 => zf_W_byAll_9 r0 4096 (a1) (0) (0) S2
set_option maxHeartbeats 4000000 in
set_option maxRecDepth 100000 in
theorem zw_W_byAll {p : Program} {l : Launch} {e : Env} {s : State} {m : MethodId} {args : Array Value} {below : List Frame} {meth : Method} {c : Code} {B : zB} (C : CallFix p m c zb_W_byAll 6 s args zT "IslandOfficeModel$World") (hr : meth.sig.returnType = none) (hlk : meth.locks = false) (hK : zK B s) (hSt : zSt B s) (hap : zAp B) (r0 : Int) (hr0 : 0 ≤ r0 ∧ r0 < 3) {res : Int} {S9 : Sg} : ∀  (S : Sg) , zf_W_byAll r0  S = some (res, S9) → ∀ (H : Heap) (locs : List Loc) (ls : Array Slot), zW B S H → va_S B.2.2.2 s.heap H locs → lv_has ls 6 [(0, .ref (B.2.1 5 (r0) (0)))] → W p l e zm_W_byAll s m args below meth c H locs 0 0 (MQ below (zQv B S9) args s 0 0 B.2.2.2) (F0 m 0 ls []) := by
  intro S hf H locs ls hW hS hl
  unfold zf_W_byAll at hf
  refine lv_aload_n C.1 C.2.1 zd_W_byAll_0 rfl (lv_at hl 0 rfl) ?_
  obtain ⟨a1, S2, ea1, hf⟩ := zbd_some hf
  refine zcVi (As := []) (rest := []) C hK hSt hW hS (zc_W_bestSet hap (r0) hr0 S ea1) zq_W_bestSet zk_1815 (zrecv hK hW (zvd_5 hr0 (by decide)) (ze_5_0 B _ (r0)) rfl) ⟨rfl, rfl, by decide, by decide⟩ ⟨Nat.zero_le _, Nat.zero_le _⟩ rfl hl.1 rfl (lv_room (Nat.le_of_ble_eq_true rfl)) zd_W_byAll_1 (fun na1 H locs hW hS => ?_)
  refine lv_istore_n (lv' := [(1, .int (zI (a1))), (0, .ref (B.2.1 5 (r0) (0)))]) C.1 C.2.1 zd_W_byAll_4 rfl hl (by decide) rfl (fun ls hl => ?_)
  refine zr_iconst C zd_W_byAll_5 ?_
  refine lv_istore_n (lv' := [(2, .int (zI (0))), (1, .int (zI (a1))), (0, .ref (B.2.1 5 (r0) (0)))]) C.1 C.2.1 zd_W_byAll_6 rfl hl (by decide) rfl (fun ls hl => ?_)
  refine zr_iconst C zd_W_byAll_7 ?_
  refine lv_istore_n (lv' := [(3, .int (zI (0))), (2, .int (zI (0))), (1, .int (zI (a1))), (0, .ref (B.2.1 5 (r0) (0)))]) C.1 C.2.1 zd_W_byAll_8 rfl hl (by decide) rfl (fun ls hl => ?_)
  exact zw_W_byAll_9 C hr hlk hK hSt hap r0 hr0 4096 (a1) (0) (0) S2 na1 (znb rfl) (znb rfl) hf _ _ _ hW hS (lv_sub hl [3, 2, 1, 0] rfl)

theorem zc_W_byAll {l : Launch} {B : zB} (hap : zAp B) (r0 : Int) (hr0 : 0 ≤ r0 ∧ r0 < 3) (S : Sg) {res : Int} {S9 : Sg} (hf : zf_W_byAll r0 S = some (res, S9)) : Met l zy_W_byAll (Cond.code zy_W_byAll zb_W_byAll 6 (none) :: zT) zm_W_byAll (zP B S [.ref (B.2.1 5 (r0) (0))]) (zQv B S9) 0 0 B.2.2.2 :=
  zmet (by decide) (Nat.le_of_ble_eq_true rfl) (fun p e s m args below meth c C hr hlk hK hSt hW ls hl => zw_W_byAll C hr hlk hK hSt hap r0 hr0  S  hf _ _ _ hW va_S.rf hl)
/-! IslandOfficeModel$World.fits(II)Z -/
abbrev zy_W_fits : MethodName := ⟨"IslandOfficeModel$World", "fits", "(II)Z"⟩
abbrev zb_W_fits : ByteArray := prog_15_method_24_code
abbrev zm_W_fits : Room := { frames := 0, cells := 0, slots := 0, locals := 0 }
theorem zq_W_fits : zMy zy_W_fits zb_W_fits 3 (some .boolean) 2 := ⟨zk_1806, zk_1805, zs_67, zk_15, by decide, by decide, by decide +kernel⟩
theorem zd_W_fits_0 : decode zb_W_fits 0 = .ok (.aload_n 0, 1) := by decide +kernel
theorem zd_W_fits_1 : decode zb_W_fits 1 = .ok (.getfield 21, 3) := by decide +kernel
theorem zd_W_fits_4 : decode zb_W_fits 4 = .ok (.iload_n 2, 1) := by decide +kernel
theorem zd_W_fits_5 : decode zb_W_fits 5 = .ok (.iaload, 1) := by decide +kernel
theorem zd_W_fits_6 : decode zb_W_fits 6 = .ok (.aload_n 0, 1) := by decide +kernel
theorem zd_W_fits_7 : decode zb_W_fits 7 = .ok (.getfield 81, 3) := by decide +kernel
theorem zd_W_fits_10 : decode zb_W_fits 10 = .ok (.iload_n 1, 1) := by decide +kernel
theorem zd_W_fits_11 : decode zb_W_fits 11 = .ok (.iaload, 1) := by decide +kernel
theorem zd_W_fits_12 : decode zb_W_fits 12 = .ok (.ishr, 1) := by decide +kernel
theorem zd_W_fits_13 : decode zb_W_fits 13 = .ok (.iconst 1, 1) := by decide +kernel
theorem zd_W_fits_14 : decode zb_W_fits 14 = .ok (.iand, 1) := by decide +kernel
theorem zd_W_fits_15 : decode zb_W_fits 15 = .ok (.iconst 1, 1) := by decide +kernel
theorem zd_W_fits_16 : decode zb_W_fits 16 = .ok (.if_icmp .ne 7, 3) := by decide +kernel
theorem zd_W_fits_19 : decode zb_W_fits 19 = .ok (.iconst 1, 1) := by decide +kernel
theorem zd_W_fits_20 : decode zb_W_fits 20 = .ok (.goto 4, 3) := by decide +kernel
theorem zd_W_fits_23 : decode zb_W_fits 23 = .ok (.iconst 0, 1) := by decide +kernel
theorem zd_W_fits_24 : decode zb_W_fits 24 = .ok (.ireturn, 1) := by decide +kernel

def zf_W_fits (r0 : Int) (x1 : Int) (x2 : Int) (S : Sg) : Option (Int × Sg) :=
    zck (0 ≤ x2 ∧ x2 < 40) <| zck (0 ≤ x1 ∧ x1 < 8) <| if (zand (zshr (S 5 r0 4 x2) (S 5 r0 21 x1)) 1) = 1 then (some (1, S)) else (some (0, S))
set_option maxHeartbeats 4000000 in
set_option maxRecDepth 100000 in
theorem zw_W_fits {p : Program} {l : Launch} {e : Env} {s : State} {m : MethodId} {args : Array Value} {below : List Frame} {meth : Method} {c : Code} {B : zB} (C : CallFix p m c zb_W_fits 3 s args zT "IslandOfficeModel$World") (hr : meth.sig.returnType = some .boolean) (hlk : meth.locks = false) (hK : zK B s) (hSt : zSt B s) (hap : zAp B) (r0 : Int) (hr0 : 0 ≤ r0 ∧ r0 < 3) {res : Int} {S9 : Sg} : ∀ (x1 : Int) (x2 : Int) (S : Sg) (nx1 : zn x1) (nx2 : zn x2), zf_W_fits r0 x1 x2 S = some (res, S9) → ∀ (H : Heap) (locs : List Loc) (ls : Array Slot), zW B S H → va_S B.2.2.2 s.heap H locs → lv_has ls 3 [(0, .ref (B.2.1 5 (r0) (0))), (1, .int (zI (x1))), (2, .int (zI (x2)))] → W p l e zm_W_fits s m args below meth c H locs 0 0 (MQ below (zQi B res S9) args s 0 0 B.2.2.2) (F0 m 0 ls []) := by
  intro x1 x2 S nx1 nx2 hf H locs ls hW hS hl
  unfold zf_W_fits at hf
  refine lv_aload_n C.1 C.2.1 zd_W_fits_0 rfl (lv_at hl 0 rfl) ?_
  refine zg_W_skills (r := r0) C hK hW (zvd_5 hr0 (by decide)) zk_1285 zd_W_fits_1 ?_
  refine lv_iload_n C.1 C.2.1 zd_W_fits_4 rfl (lv_at hl 2 rfl) ?_
  obtain ⟨h1, hf⟩ := zck_some hf
  refine ziald C hK hW (zvd_5 hr0 (by decide)) (fun f => ze_5_4 B f (r0)) (by decide) h1 zd_W_fits_5 ?_
  refine lv_aload_n C.1 C.2.1 zd_W_fits_6 rfl (lv_at hl 0 rfl) ?_
  refine zg_W_postSkill (r := r0) C hK hW (zvd_5 hr0 (by decide)) zk_1327 zd_W_fits_7 ?_
  refine lv_iload_n C.1 C.2.1 zd_W_fits_10 rfl (lv_at hl 1 rfl) ?_
  obtain ⟨h2, hf⟩ := zck_some hf
  refine ziald C hK hW (zvd_5 hr0 (by decide)) (fun f => ze_5_21 B f (r0)) (by decide) h2 zd_W_fits_11 ?_
  refine zr_ishr C zd_W_fits_12 ?_
  refine zr_iconst C zd_W_fits_13 ?_
  refine zr_iand C zd_W_fits_14 ?_
  refine zr_iconst C zd_W_fits_15 ?_
  refine zr_icmp_ne (tgt := 23) C (zn_and _ _) (znb rfl) zd_W_fits_16 (by decide) (fun c3 => ?_) (fun c3 => ?_)
  · rw [if_neg c3] at hf
    refine zr_iconst C zd_W_fits_23 ?_
    cases hf
    exact zre_z C hr hlk hK hW hS (znb rfl) (zb01 (by decide)) zd_W_fits_24
  · rw [if_pos c3] at hf
    refine zr_iconst C zd_W_fits_19 ?_
    refine lv_goto (tgt := 24) C.1 C.2.1 zd_W_fits_20 (by decide) ?_
    cases hf
    exact zre_z C hr hlk hK hW hS (znb rfl) (zb01 (by decide)) zd_W_fits_24

theorem zc_W_fits {l : Launch} {B : zB} (hap : zAp B) (r0 : Int) (hr0 : 0 ≤ r0 ∧ r0 < 3) (x1 : Int) (x2 : Int) (S : Sg) (nx1 : zn x1) (nx2 : zn x2) {res : Int} {S9 : Sg} (hf : zf_W_fits r0 x1 x2 S = some (res, S9)) : Met l zy_W_fits (Cond.code zy_W_fits zb_W_fits 3 (some .boolean) :: zT) zm_W_fits (zP B S [.ref (B.2.1 5 (r0) (0)), .int (zI (x1)), .int (zI (x2))]) (zQi B res S9) 0 0 B.2.2.2 :=
  zmet (by decide) (Nat.le_of_ble_eq_true rfl) (fun p e s m args below meth c C hr hlk hK hSt hW ls hl => zw_W_fits C hr hlk hK hSt hap r0 hr0 x1 x2 S nx1 nx2 hf _ _ _ hW va_S.rf hl)
/-! IslandOfficeModel$World.canAny(I)Z -/
abbrev zy_W_canAny : MethodName := ⟨"IslandOfficeModel$World", "canAny", "(I)Z"⟩
abbrev zb_W_canAny : ByteArray := prog_15_method_25_code
abbrev zm_W_canAny : Room := { frames := 1, cells := 0, slots := 0, locals := 22 }
theorem zq_W_canAny : zMy zy_W_canAny zb_W_canAny 3 (some .boolean) 1 := ⟨zk_1802, zk_1801, zs_66, zk_15, by decide, by decide, by decide +kernel⟩
theorem zd_W_canAny_0 : decode zb_W_canAny 0 = .ok (.iconst 0, 1) := by decide +kernel
theorem zd_W_canAny_1 : decode zb_W_canAny 1 = .ok (.istore_n 2, 1) := by decide +kernel
theorem zd_W_canAny_2 : decode zb_W_canAny 2 = .ok (.iload_n 2, 1) := by decide +kernel
theorem zd_W_canAny_3 : decode zb_W_canAny 3 = .ok (.aload_n 0, 1) := by decide +kernel
theorem zd_W_canAny_4 : decode zb_W_canAny 4 = .ok (.getfield 168, 3) := by decide +kernel
theorem zd_W_canAny_7 : decode zb_W_canAny 7 = .ok (.if_icmp .ge 30, 3) := by decide +kernel
theorem zd_W_canAny_10 : decode zb_W_canAny 10 = .ok (.aload_n 0, 1) := by decide +kernel
theorem zd_W_canAny_11 : decode zb_W_canAny 11 = .ok (.getfield 90, 3) := by decide +kernel
theorem zd_W_canAny_14 : decode zb_W_canAny 14 = .ok (.iload_n 2, 1) := by decide +kernel
theorem zd_W_canAny_15 : decode zb_W_canAny 15 = .ok (.iaload, 1) := by decide +kernel
theorem zd_W_canAny_16 : decode zb_W_canAny 16 = .ok (.iconst 1, 1) := by decide +kernel
theorem zd_W_canAny_17 : decode zb_W_canAny 17 = .ok (.if_icmp .ne 14, 3) := by decide +kernel
theorem zd_W_canAny_20 : decode zb_W_canAny 20 = .ok (.aload_n 0, 1) := by decide +kernel
theorem zd_W_canAny_21 : decode zb_W_canAny 21 = .ok (.iload_n 2, 1) := by decide +kernel
theorem zd_W_canAny_22 : decode zb_W_canAny 22 = .ok (.iload_n 1, 1) := by decide +kernel
theorem zd_W_canAny_23 : decode zb_W_canAny 23 = .ok (.invokevirtual 258, 3) := by decide +kernel
theorem zd_W_canAny_26 : decode zb_W_canAny 26 = .ok (.ifCond .eq 5, 3) := by decide +kernel
theorem zd_W_canAny_29 : decode zb_W_canAny 29 = .ok (.iconst 1, 1) := by decide +kernel
theorem zd_W_canAny_30 : decode zb_W_canAny 30 = .ok (.ireturn, 1) := by decide +kernel
theorem zd_W_canAny_31 : decode zb_W_canAny 31 = .ok (.iinc 2 1, 3) := by decide +kernel
theorem zd_W_canAny_34 : decode zb_W_canAny 34 = .ok (.goto (-32), 3) := by decide +kernel
theorem zd_W_canAny_37 : decode zb_W_canAny 37 = .ok (.iconst 0, 1) := by decide +kernel
theorem zd_W_canAny_38 : decode zb_W_canAny 38 = .ok (.ireturn, 1) := by decide +kernel

def zf_W_canAny_31 (r0 : Int) (q2 : Int → Int → Sg → Option (Int × Sg)) (x1 : Int) (x2 : Int) (S : Sg) : Option (Int × Sg) :=
    zlt (zw (x2 + 1)) fun v1 => q2 (x1) (v1) S
set_option maxHeartbeats 4000000 in
set_option maxRecDepth 100000 in
theorem zw_W_canAny_31 {p : Program} {l : Launch} {e : Env} {s : State} {m : MethodId} {args : Array Value} {below : List Frame} {meth : Method} {c : Code} {B : zB} (C : CallFix p m c zb_W_canAny 3 s args zT "IslandOfficeModel$World") (hr : meth.sig.returnType = some .boolean) (hlk : meth.locks = false) (hK : zK B s) (hSt : zSt B s) (hap : zAp B) (r0 : Int) (hr0 : 0 ≤ r0 ∧ r0 < 3) {res : Int} {S9 : Sg} (q2 : Int → Int → Sg → Option (Int × Sg)) (hq2 : ∀ (x1 : Int) (x2 : Int) (S : Sg) (nx1 : zn x1) (nx2 : zn x2), q2 x1 x2 S = some (res, S9) → ∀ (H : Heap) (locs : List Loc) (ls : Array Slot), zW B S H → va_S B.2.2.2 s.heap H locs → lv_has ls 3 [(0, .ref (B.2.1 5 (r0) (0))), (1, .int (zI (x1))), (2, .int (zI (x2)))] → W p l e zm_W_canAny s m args below meth c H locs 0 0 (MQ below (zQi B res S9) args s 0 0 B.2.2.2) (F0 m 2 ls [])) : ∀ (x1 : Int) (x2 : Int) (S : Sg) (nx1 : zn x1) (nx2 : zn x2), zf_W_canAny_31 r0 q2 x1 x2 S = some (res, S9) → ∀ (H : Heap) (locs : List Loc) (ls : Array Slot), zW B S H → va_S B.2.2.2 s.heap H locs → lv_has ls 3 [(0, .ref (B.2.1 5 (r0) (0))), (1, .int (zI (x1))), (2, .int (zI (x2)))] → W p l e zm_W_canAny s m args below meth c H locs 0 0 (MQ below (zQi B res S9) args s 0 0 B.2.2.2) (F0 m 31 ls []) := by
  intro x1 x2 S nx1 nx2 hf H locs ls hW hS hl
  unfold zf_W_canAny_31 at hf
  obtain ⟨v1, ev1, hf⟩ := zlt_some hf
  have nv1 : zn v1 := by rw [← ev1]; exact zn_w _
  refine lv_iinc (v := zI v1) (lv' := [(2, .int (zI (v1))), (0, .ref (B.2.1 5 (r0) (0))), (1, .int (zI (x1)))]) C.1 C.2.1 zd_W_canAny_31 hl (k := 2) rfl (by rw [← ev1, ← zI_add]; rfl) (by decide) rfl (fun ls hl => ?_)
  refine lv_goto (tgt := 2) C.1 C.2.1 zd_W_canAny_34 (by decide) ?_
  exact hq2 (x1) (v1) S nx1 nv1 hf _ _ _ hW hS (lv_sub hl [1, 2, 0] rfl)

def zf_W_canAny_2 (r0 : Int) : Nat → Int → Int → Sg → Option (Int × Sg)
  | 0, _, _, _ => none
  | n + 1, x1, x2, S =>
    if (S 5 r0 0 25) ≤ x2 then (some (0, S)) else (zck (0 ≤ x2 ∧ x2 < 8) <| if (S 5 r0 24 x2) = 1 then (zbd (zf_W_fits (r0) x2 x1 S) fun a4 S5 => if a4 = 0 then (zf_W_canAny_31 r0 (zf_W_canAny_2 r0 n) (x1) (x2) S5) else (some (1, S5))) else (zf_W_canAny_31 r0 (zf_W_canAny_2 r0 n) (x1) (x2) S))
set_option maxHeartbeats 4000000 in
set_option maxRecDepth 100000 in
theorem zw_W_canAny_2 {p : Program} {l : Launch} {e : Env} {s : State} {m : MethodId} {args : Array Value} {below : List Frame} {meth : Method} {c : Code} {B : zB} (C : CallFix p m c zb_W_canAny 3 s args zT "IslandOfficeModel$World") (hr : meth.sig.returnType = some .boolean) (hlk : meth.locks = false) (hK : zK B s) (hSt : zSt B s) (hap : zAp B) (r0 : Int) (hr0 : 0 ≤ r0 ∧ r0 < 3) {res : Int} {S9 : Sg} : ∀ n : Nat, ∀ (x1 : Int) (x2 : Int) (S : Sg) (nx1 : zn x1) (nx2 : zn x2), zf_W_canAny_2 r0 n x1 x2 S = some (res, S9) → ∀ (H : Heap) (locs : List Loc) (ls : Array Slot), zW B S H → va_S B.2.2.2 s.heap H locs → lv_has ls 3 [(0, .ref (B.2.1 5 (r0) (0))), (1, .int (zI (x1))), (2, .int (zI (x2)))] → W p l e zm_W_canAny s m args below meth c H locs 0 0 (MQ below (zQi B res S9) args s 0 0 B.2.2.2) (F0 m 2 ls []) := by
  intro n
  induction n with
  | zero =>
    intro x1 x2 S nx1 nx2 hf H locs ls hW hS hl
    cases hf
  | succ n ih =>
    intro x1 x2 S nx1 nx2 hf H locs ls hW hS hl
    rw [zf_W_canAny_2] at hf
    refine lv_iload_n C.1 C.2.1 zd_W_canAny_2 rfl (lv_at hl 2 rfl) ?_
    refine lv_aload_n C.1 C.2.1 zd_W_canAny_3 rfl (lv_at hl 0 rfl) ?_
    refine zg_W_posts (r := r0) C hK hW (zvd_5 hr0 (by decide)) zk_1325 zd_W_canAny_4 ?_
    refine zr_icmp_ge (tgt := 37) C nx2 (zWn hW _ _ _ _ rfl) zd_W_canAny_7 (by decide) (fun c1 => ?_) (fun c1 => ?_)
    · rw [if_pos c1] at hf
      refine zr_iconst C zd_W_canAny_37 ?_
      cases hf
      exact zre_z C hr hlk hK hW hS (znb rfl) (zb01 (by decide)) zd_W_canAny_38
    · rw [if_neg c1] at hf
      refine lv_aload_n C.1 C.2.1 zd_W_canAny_10 rfl (lv_at hl 0 rfl) ?_
      refine zg_W_postOpen (r := r0) C hK hW (zvd_5 hr0 (by decide)) zk_1333 zd_W_canAny_11 ?_
      refine lv_iload_n C.1 C.2.1 zd_W_canAny_14 rfl (lv_at hl 2 rfl) ?_
      obtain ⟨h2, hf⟩ := zck_some hf
      refine ziald C hK hW (zvd_5 hr0 (by decide)) (fun f => ze_5_24 B f (r0)) (by decide) h2 zd_W_canAny_15 ?_
      refine zr_iconst C zd_W_canAny_16 ?_
      refine zr_icmp_ne (tgt := 31) C (zWn hW _ _ _ _ rfl) (znb rfl) zd_W_canAny_17 (by decide) (fun c3 => ?_) (fun c3 => ?_)
      · rw [if_neg c3] at hf
        exact zw_W_canAny_31 C hr hlk hK hSt hap r0 hr0 (zf_W_canAny_2 r0 n) (ih) (x1) (x2) S nx1 nx2 hf _ _ _ hW hS (lv_sub hl [0, 1, 2] rfl)
      · rw [if_pos c3] at hf
        refine lv_aload_n C.1 C.2.1 zd_W_canAny_20 rfl (lv_at hl 0 rfl) ?_
        refine lv_iload_n C.1 C.2.1 zd_W_canAny_21 rfl (lv_at hl 2 rfl) ?_
        refine lv_iload_n C.1 C.2.1 zd_W_canAny_22 rfl (lv_at hl 1 rfl) ?_
        obtain ⟨a4, S5, ea4, hf⟩ := zbd_some hf
        refine zcVi (As := [.int (zI (x2)), .int (zI (x1))]) (rest := []) C hK hSt hW hS (zc_W_fits hap (r0) hr0 x2 x1 S nx2 nx1 ea4) zq_W_fits zk_1803 (zrecv hK hW (zvd_5 hr0 (by decide)) (ze_5_0 B _ (r0)) rfl) ⟨rfl, rfl, by decide, by decide⟩ ⟨Nat.zero_le _, Nat.zero_le _⟩ rfl hl.1 rfl (lv_room (Nat.le_of_ble_eq_true rfl)) zd_W_canAny_23 (fun na4 H locs hW hS => ?_)
        refine zr_if_eq (tgt := 31) C na4 zd_W_canAny_26 (by decide) (fun c6 => ?_) (fun c6 => ?_)
        · rw [if_pos c6] at hf
          exact zw_W_canAny_31 C hr hlk hK hSt hap r0 hr0 (zf_W_canAny_2 r0 n) (ih) (x1) (x2) S5 nx1 nx2 hf _ _ _ hW hS (lv_sub hl [0, 1, 2] rfl)
        · rw [if_neg c6] at hf
          refine zr_iconst C zd_W_canAny_29 ?_
          cases hf
          exact zre_z C hr hlk hK hW hS (znb rfl) (zb01 (by decide)) zd_W_canAny_30

def zf_W_canAny (r0 : Int) (x1 : Int) (S : Sg) : Option (Int × Sg) :=
    zf_W_canAny_2 r0 4096 (x1) (0) S
set_option maxHeartbeats 4000000 in
set_option maxRecDepth 100000 in
theorem zw_W_canAny {p : Program} {l : Launch} {e : Env} {s : State} {m : MethodId} {args : Array Value} {below : List Frame} {meth : Method} {c : Code} {B : zB} (C : CallFix p m c zb_W_canAny 3 s args zT "IslandOfficeModel$World") (hr : meth.sig.returnType = some .boolean) (hlk : meth.locks = false) (hK : zK B s) (hSt : zSt B s) (hap : zAp B) (r0 : Int) (hr0 : 0 ≤ r0 ∧ r0 < 3) {res : Int} {S9 : Sg} : ∀ (x1 : Int) (S : Sg) (nx1 : zn x1), zf_W_canAny r0 x1 S = some (res, S9) → ∀ (H : Heap) (locs : List Loc) (ls : Array Slot), zW B S H → va_S B.2.2.2 s.heap H locs → lv_has ls 3 [(0, .ref (B.2.1 5 (r0) (0))), (1, .int (zI (x1)))] → W p l e zm_W_canAny s m args below meth c H locs 0 0 (MQ below (zQi B res S9) args s 0 0 B.2.2.2) (F0 m 0 ls []) := by
  intro x1 S nx1 hf H locs ls hW hS hl
  unfold zf_W_canAny at hf
  refine zr_iconst C zd_W_canAny_0 ?_
  refine lv_istore_n (lv' := [(2, .int (zI (0))), (0, .ref (B.2.1 5 (r0) (0))), (1, .int (zI (x1)))]) C.1 C.2.1 zd_W_canAny_1 rfl hl (by decide) rfl (fun ls hl => ?_)
  exact zw_W_canAny_2 C hr hlk hK hSt hap r0 hr0 4096 (x1) (0) S nx1 (znb rfl) hf _ _ _ hW hS (lv_sub hl [1, 2, 0] rfl)

theorem zc_W_canAny {l : Launch} {B : zB} (hap : zAp B) (r0 : Int) (hr0 : 0 ≤ r0 ∧ r0 < 3) (x1 : Int) (S : Sg) (nx1 : zn x1) {res : Int} {S9 : Sg} (hf : zf_W_canAny r0 x1 S = some (res, S9)) : Met l zy_W_canAny (Cond.code zy_W_canAny zb_W_canAny 3 (some .boolean) :: zT) zm_W_canAny (zP B S [.ref (B.2.1 5 (r0) (0)), .int (zI (x1))]) (zQi B res S9) 0 0 B.2.2.2 :=
  zmet (by decide) (Nat.le_of_ble_eq_true rfl) (fun p e s m args below meth c C hr hlk hK hSt hW ls hl => zw_W_canAny C hr hlk hK hSt hap r0 hr0 x1 S nx1 hf _ _ _ hW va_S.rf hl)
/-! IslandOfficeModel$World.findFits()V -/
abbrev zy_W_findFits : MethodName := ⟨"IslandOfficeModel$World", "findFits", "()V"⟩
abbrev zb_W_findFits : ByteArray := prog_15_method_27_code
abbrev zm_W_findFits : Room := { frames := 1, cells := 0, slots := 0, locals := 22 }
theorem zq_W_findFits : zMy zy_W_findFits zb_W_findFits 3 (none) 0 := ⟨zk_1810, zk_1809, zs_68, zk_15, by decide, by decide, by decide +kernel⟩
theorem zd_W_findFits_0 : decode zb_W_findFits 0 = .ok (.iconst 0, 1) := by decide +kernel
theorem zd_W_findFits_1 : decode zb_W_findFits 1 = .ok (.istore_n 1, 1) := by decide +kernel
theorem zd_W_findFits_2 : decode zb_W_findFits 2 = .ok (.iload_n 1, 1) := by decide +kernel
theorem zd_W_findFits_3 : decode zb_W_findFits 3 = .ok (.aload_n 0, 1) := by decide +kernel
theorem zd_W_findFits_4 : decode zb_W_findFits 4 = .ok (.getfield 168, 3) := by decide +kernel
theorem zd_W_findFits_7 : decode zb_W_findFits 7 = .ok (.if_icmp .ge 68, 3) := by decide +kernel
theorem zd_W_findFits_10 : decode zb_W_findFits 10 = .ok (.aload_n 0, 1) := by decide +kernel
theorem zd_W_findFits_11 : decode zb_W_findFits 11 = .ok (.getfield 146, 3) := by decide +kernel
theorem zd_W_findFits_14 : decode zb_W_findFits 14 = .ok (.iload_n 1, 1) := by decide +kernel
theorem zd_W_findFits_15 : decode zb_W_findFits 15 = .ok (.iconst 0, 1) := by decide +kernel
theorem zd_W_findFits_16 : decode zb_W_findFits 16 = .ok (.iastore, 1) := by decide +kernel
theorem zd_W_findFits_17 : decode zb_W_findFits 17 = .ok (.iconst 0, 1) := by decide +kernel
theorem zd_W_findFits_18 : decode zb_W_findFits 18 = .ok (.istore_n 2, 1) := by decide +kernel
theorem zd_W_findFits_19 : decode zb_W_findFits 19 = .ok (.iload_n 2, 1) := by decide +kernel
theorem zd_W_findFits_20 : decode zb_W_findFits 20 = .ok (.aload_n 0, 1) := by decide +kernel
theorem zd_W_findFits_21 : decode zb_W_findFits 21 = .ok (.getfield 261, 3) := by decide +kernel
theorem zd_W_findFits_24 : decode zb_W_findFits 24 = .ok (.if_icmp .ge 45, 3) := by decide +kernel
theorem zd_W_findFits_27 : decode zb_W_findFits 27 = .ok (.iload_n 2, 1) := by decide +kernel
theorem zd_W_findFits_28 : decode zb_W_findFits 28 = .ok (.bipush 31, 2) := by decide +kernel
theorem zd_W_findFits_30 : decode zb_W_findFits 30 = .ok (.if_icmp .ge 39, 3) := by decide +kernel
theorem zd_W_findFits_33 : decode zb_W_findFits 33 = .ok (.aload_n 0, 1) := by decide +kernel
theorem zd_W_findFits_34 : decode zb_W_findFits 34 = .ok (.getfield 146, 3) := by decide +kernel
theorem zd_W_findFits_37 : decode zb_W_findFits 37 = .ok (.iload_n 1, 1) := by decide +kernel
theorem zd_W_findFits_38 : decode zb_W_findFits 38 = .ok (.dup2, 1) := by decide +kernel
theorem zd_W_findFits_39 : decode zb_W_findFits 39 = .ok (.iaload, 1) := by decide +kernel
theorem zd_W_findFits_40 : decode zb_W_findFits 40 = .ok (.aload_n 0, 1) := by decide +kernel
theorem zd_W_findFits_41 : decode zb_W_findFits 41 = .ok (.iload_n 1, 1) := by decide +kernel
theorem zd_W_findFits_42 : decode zb_W_findFits 42 = .ok (.aload_n 0, 1) := by decide +kernel
theorem zd_W_findFits_43 : decode zb_W_findFits 43 = .ok (.getfield 135, 3) := by decide +kernel
theorem zd_W_findFits_46 : decode zb_W_findFits 46 = .ok (.iload_n 2, 1) := by decide +kernel
theorem zd_W_findFits_47 : decode zb_W_findFits 47 = .ok (.iaload, 1) := by decide +kernel
theorem zd_W_findFits_48 : decode zb_W_findFits 48 = .ok (.invokevirtual 258, 3) := by decide +kernel
theorem zd_W_findFits_51 : decode zb_W_findFits 51 = .ok (.ifCond .eq 9, 3) := by decide +kernel
theorem zd_W_findFits_54 : decode zb_W_findFits 54 = .ok (.iconst 1, 1) := by decide +kernel
theorem zd_W_findFits_55 : decode zb_W_findFits 55 = .ok (.iload_n 2, 1) := by decide +kernel
theorem zd_W_findFits_56 : decode zb_W_findFits 56 = .ok (.ishl, 1) := by decide +kernel
theorem zd_W_findFits_57 : decode zb_W_findFits 57 = .ok (.goto 4, 3) := by decide +kernel
theorem zd_W_findFits_60 : decode zb_W_findFits 60 = .ok (.iconst 0, 1) := by decide +kernel
theorem zd_W_findFits_61 : decode zb_W_findFits 61 = .ok (.ior, 1) := by decide +kernel
theorem zd_W_findFits_62 : decode zb_W_findFits 62 = .ok (.iastore, 1) := by decide +kernel
theorem zd_W_findFits_63 : decode zb_W_findFits 63 = .ok (.iinc 2 1, 3) := by decide +kernel
theorem zd_W_findFits_66 : decode zb_W_findFits 66 = .ok (.goto (-47), 3) := by decide +kernel
theorem zd_W_findFits_69 : decode zb_W_findFits 69 = .ok (.iinc 1 1, 3) := by decide +kernel
theorem zd_W_findFits_72 : decode zb_W_findFits 72 = .ok (.goto (-70), 3) := by decide +kernel
theorem zd_W_findFits_75 : decode zb_W_findFits 75 = .ok (.return_, 1) := by decide +kernel

def zf_W_findFits_69 (r0 : Int) (q2 : Int → Sg → Option (Int × Sg)) (x1 : Int) (S : Sg) : Option (Int × Sg) :=
    zlt (zw (x1 + 1)) fun v1 => q2 (v1) S
set_option maxHeartbeats 4000000 in
set_option maxRecDepth 100000 in
theorem zw_W_findFits_69 {p : Program} {l : Launch} {e : Env} {s : State} {m : MethodId} {args : Array Value} {below : List Frame} {meth : Method} {c : Code} {B : zB} (C : CallFix p m c zb_W_findFits 3 s args zT "IslandOfficeModel$World") (hr : meth.sig.returnType = none) (hlk : meth.locks = false) (hK : zK B s) (hSt : zSt B s) (hap : zAp B) (r0 : Int) (hr0 : 0 ≤ r0 ∧ r0 < 3) {res : Int} {S9 : Sg} (q2 : Int → Sg → Option (Int × Sg)) (hq2 : ∀ (x1 : Int) (S : Sg) (nx1 : zn x1), q2 x1 S = some (res, S9) → ∀ (H : Heap) (locs : List Loc) (ls : Array Slot), zW B S H → va_S B.2.2.2 s.heap H locs → lv_has ls 3 [(0, .ref (B.2.1 5 (r0) (0))), (1, .int (zI (x1)))] → W p l e zm_W_findFits s m args below meth c H locs 0 0 (MQ below (zQv B S9) args s 0 0 B.2.2.2) (F0 m 2 ls [])) : ∀ (x1 : Int) (S : Sg) (nx1 : zn x1), zf_W_findFits_69 r0 q2 x1 S = some (res, S9) → ∀ (H : Heap) (locs : List Loc) (ls : Array Slot), zW B S H → va_S B.2.2.2 s.heap H locs → lv_has ls 3 [(0, .ref (B.2.1 5 (r0) (0))), (1, .int (zI (x1)))] → W p l e zm_W_findFits s m args below meth c H locs 0 0 (MQ below (zQv B S9) args s 0 0 B.2.2.2) (F0 m 69 ls []) := by
  intro x1 S nx1 hf H locs ls hW hS hl
  unfold zf_W_findFits_69 at hf
  obtain ⟨v1, ev1, hf⟩ := zlt_some hf
  have nv1 : zn v1 := by rw [← ev1]; exact zn_w _
  refine lv_iinc (v := zI v1) (lv' := [(1, .int (zI (v1))), (0, .ref (B.2.1 5 (r0) (0)))]) C.1 C.2.1 zd_W_findFits_69 hl (k := 1) rfl (by rw [← ev1, ← zI_add]; rfl) (by decide) rfl (fun ls hl => ?_)
  refine lv_goto (tgt := 2) C.1 C.2.1 zd_W_findFits_72 (by decide) ?_
  exact hq2 (v1) S nv1 hf _ _ _ hW hS (lv_sub hl [1, 0] rfl)

def zf_W_findFits_61 (r0 : Int) (q2 : Int → Sg → Option (Int × Sg)) (q19 : Int → Int → Sg → Option (Int × Sg)) (x1 : Int) (x2 : Int) (xt1 : Int) (xt2 : Int) (xt3 : Int) (S : Sg) : Option (Int × Sg) :=
    zck (0 ≤ xt1 ∧ xt1 < 8) <| zlt (zu S 5 r0 38 xt1 (zor xt2 xt3)) fun S2 => zlt (zw (x2 + 1)) fun v3 => q19 (x1) (v3) S2
set_option maxHeartbeats 4000000 in
set_option maxRecDepth 100000 in
theorem zw_W_findFits_61 {p : Program} {l : Launch} {e : Env} {s : State} {m : MethodId} {args : Array Value} {below : List Frame} {meth : Method} {c : Code} {B : zB} (C : CallFix p m c zb_W_findFits 3 s args zT "IslandOfficeModel$World") (hr : meth.sig.returnType = none) (hlk : meth.locks = false) (hK : zK B s) (hSt : zSt B s) (hap : zAp B) (r0 : Int) (hr0 : 0 ≤ r0 ∧ r0 < 3) {res : Int} {S9 : Sg} (q2 : Int → Sg → Option (Int × Sg)) (hq2 : ∀ (x1 : Int) (S : Sg) (nx1 : zn x1), q2 x1 S = some (res, S9) → ∀ (H : Heap) (locs : List Loc) (ls : Array Slot), zW B S H → va_S B.2.2.2 s.heap H locs → lv_has ls 3 [(0, .ref (B.2.1 5 (r0) (0))), (1, .int (zI (x1)))] → W p l e zm_W_findFits s m args below meth c H locs 0 0 (MQ below (zQv B S9) args s 0 0 B.2.2.2) (F0 m 2 ls [])) (q19 : Int → Int → Sg → Option (Int × Sg)) (hq19 : ∀ (x1 : Int) (x2 : Int) (S : Sg) (nx1 : zn x1) (nx2 : zn x2), q19 x1 x2 S = some (res, S9) → ∀ (H : Heap) (locs : List Loc) (ls : Array Slot), zW B S H → va_S B.2.2.2 s.heap H locs → lv_has ls 3 [(0, .ref (B.2.1 5 (r0) (0))), (1, .int (zI (x1))), (2, .int (zI (x2)))] → W p l e zm_W_findFits s m args below meth c H locs 0 0 (MQ below (zQv B S9) args s 0 0 B.2.2.2) (F0 m 19 ls [])) : ∀ (x1 : Int) (x2 : Int) (xt1 : Int) (xt2 : Int) (xt3 : Int) (S : Sg) (nx1 : zn x1) (nx2 : zn x2) (nxt1 : zn xt1) (nxt2 : zn xt2) (nxt3 : zn xt3), zf_W_findFits_61 r0 q2 q19 x1 x2 xt1 xt2 xt3 S = some (res, S9) → ∀ (H : Heap) (locs : List Loc) (ls : Array Slot), zW B S H → va_S B.2.2.2 s.heap H locs → lv_has ls 3 [(0, .ref (B.2.1 5 (r0) (0))), (1, .int (zI (x1))), (2, .int (zI (x2)))] → W p l e zm_W_findFits s m args below meth c H locs 0 0 (MQ below (zQv B S9) args s 0 0 B.2.2.2) (F0 m 61 ls [.int (zI (xt3)), .int (zI (xt2)), .int (zI (xt1)), .ref (B.2.1 5 (r0) (38))]) := by
  intro x1 x2 xt1 xt2 xt3 S nx1 nx2 nxt1 nxt2 nxt3 hf H locs ls hW hS hl
  unfold zf_W_findFits_61 at hf
  refine zr_ior C zd_W_findFits_61 ?_
  obtain ⟨h1, hf⟩ := zck_some hf
  obtain ⟨S2, eS2, hf⟩ := zlt_some hf
  refine ziast C hK hap hW hS (zvd_5 hr0 (by decide)) (fun f => ze_5_38 B f (r0)) (by decide) rfl (zn_or _ _) h1 zd_W_findFits_62 (fun H locs hW hS => ?_)
  rw [eS2] at hW
  obtain ⟨v3, ev3, hf⟩ := zlt_some hf
  have nv3 : zn v3 := by rw [← ev3]; exact zn_w _
  refine lv_iinc (v := zI v3) (lv' := [(2, .int (zI (v3))), (0, .ref (B.2.1 5 (r0) (0))), (1, .int (zI (x1)))]) C.1 C.2.1 zd_W_findFits_63 hl (k := 2) rfl (by rw [← ev3, ← zI_add]; rfl) (by decide) rfl (fun ls hl => ?_)
  refine lv_goto (tgt := 19) C.1 C.2.1 zd_W_findFits_66 (by decide) ?_
  exact hq19 (x1) (v3) S2 nx1 nv3 hf _ _ _ hW hS (lv_sub hl [1, 2, 0] rfl)

def zf_W_findFits_19 (r0 : Int) (q2 : Int → Sg → Option (Int × Sg)) : Nat → Int → Int → Sg → Option (Int × Sg)
  | 0, _, _, _ => none
  | n + 1, x1, x2, S =>
    if (S 5 r0 0 52) ≤ x2 then (zf_W_findFits_69 r0 q2 (x1) S) else (if 31 ≤ x2 then (zf_W_findFits_69 r0 q2 (x1) S) else (zck (0 ≤ x1 ∧ x1 < 8) <| zck (0 ≤ x2 ∧ x2 < 40) <| zbd (zf_W_fits (r0) x1 (S 5 r0 36 x2) S) fun a5 S6 => if a5 = 0 then (zf_W_findFits_61 r0 q2 (zf_W_findFits_19 r0 q2 n) (x1) (x2) (x1) (S 5 r0 38 x1) (0) S6) else (zf_W_findFits_61 r0 q2 (zf_W_findFits_19 r0 q2 n) (x1) (x2) (x1) (S 5 r0 38 x1) (zshl 1 x2) S6)))
set_option maxHeartbeats 4000000 in
set_option maxRecDepth 100000 in
theorem zw_W_findFits_19 {p : Program} {l : Launch} {e : Env} {s : State} {m : MethodId} {args : Array Value} {below : List Frame} {meth : Method} {c : Code} {B : zB} (C : CallFix p m c zb_W_findFits 3 s args zT "IslandOfficeModel$World") (hr : meth.sig.returnType = none) (hlk : meth.locks = false) (hK : zK B s) (hSt : zSt B s) (hap : zAp B) (r0 : Int) (hr0 : 0 ≤ r0 ∧ r0 < 3) {res : Int} {S9 : Sg} (q2 : Int → Sg → Option (Int × Sg)) (hq2 : ∀ (x1 : Int) (S : Sg) (nx1 : zn x1), q2 x1 S = some (res, S9) → ∀ (H : Heap) (locs : List Loc) (ls : Array Slot), zW B S H → va_S B.2.2.2 s.heap H locs → lv_has ls 3 [(0, .ref (B.2.1 5 (r0) (0))), (1, .int (zI (x1)))] → W p l e zm_W_findFits s m args below meth c H locs 0 0 (MQ below (zQv B S9) args s 0 0 B.2.2.2) (F0 m 2 ls [])) : ∀ n : Nat, ∀ (x1 : Int) (x2 : Int) (S : Sg) (nx1 : zn x1) (nx2 : zn x2), zf_W_findFits_19 r0 q2 n x1 x2 S = some (res, S9) → ∀ (H : Heap) (locs : List Loc) (ls : Array Slot), zW B S H → va_S B.2.2.2 s.heap H locs → lv_has ls 3 [(0, .ref (B.2.1 5 (r0) (0))), (1, .int (zI (x1))), (2, .int (zI (x2)))] → W p l e zm_W_findFits s m args below meth c H locs 0 0 (MQ below (zQv B S9) args s 0 0 B.2.2.2) (F0 m 19 ls []) := by
  intro n
  induction n with
  | zero =>
    intro x1 x2 S nx1 nx2 hf H locs ls hW hS hl
    cases hf
  | succ n ih =>
    intro x1 x2 S nx1 nx2 hf H locs ls hW hS hl
    rw [zf_W_findFits_19] at hf
    refine lv_iload_n C.1 C.2.1 zd_W_findFits_19 rfl (lv_at hl 2 rfl) ?_
    refine lv_aload_n C.1 C.2.1 zd_W_findFits_20 rfl (lv_at hl 0 rfl) ?_
    refine zg_W_cans (r := r0) C hK hW (zvd_5 hr0 (by decide)) zk_1374 zd_W_findFits_21 ?_
    refine zr_icmp_ge (tgt := 69) C nx2 (zWn hW _ _ _ _ rfl) zd_W_findFits_24 (by decide) (fun c1 => ?_) (fun c1 => ?_)
    · rw [if_pos c1] at hf
      exact zw_W_findFits_69 C hr hlk hK hSt hap r0 hr0 q2 hq2 (x1) S nx1 hf _ _ _ hW hS (lv_sub hl [0, 1] rfl)
    · rw [if_neg c1] at hf
      refine lv_iload_n C.1 C.2.1 zd_W_findFits_27 rfl (lv_at hl 2 rfl) ?_
      refine zr_bipush C zd_W_findFits_28 (by decide) ?_
      refine zr_icmp_ge (tgt := 69) C nx2 (znb rfl) zd_W_findFits_30 (by decide) (fun c2 => ?_) (fun c2 => ?_)
      · rw [if_pos c2] at hf
        exact zw_W_findFits_69 C hr hlk hK hSt hap r0 hr0 q2 hq2 (x1) S nx1 hf _ _ _ hW hS (lv_sub hl [0, 1] rfl)
      · rw [if_neg c2] at hf
        refine lv_aload_n C.1 C.2.1 zd_W_findFits_33 rfl (lv_at hl 0 rfl) ?_
        refine zg_W_fitBits (r := r0) C hK hW (zvd_5 hr0 (by decide)) zk_1378 zd_W_findFits_34 ?_
        refine lv_iload_n C.1 C.2.1 zd_W_findFits_37 rfl (lv_at hl 1 rfl) ?_
        refine lv_dup2_11 C.1 C.2.1 zd_W_findFits_38 rfl rfl ?_
        obtain ⟨h3, hf⟩ := zck_some hf
        refine ziald C hK hW (zvd_5 hr0 (by decide)) (fun f => ze_5_38 B f (r0)) (by decide) h3 zd_W_findFits_39 ?_
        refine lv_aload_n C.1 C.2.1 zd_W_findFits_40 rfl (lv_at hl 0 rfl) ?_
        refine lv_iload_n C.1 C.2.1 zd_W_findFits_41 rfl (lv_at hl 1 rfl) ?_
        refine lv_aload_n C.1 C.2.1 zd_W_findFits_42 rfl (lv_at hl 0 rfl) ?_
        refine zg_W_can (r := r0) C hK hW (zvd_5 hr0 (by decide)) zk_1373 zd_W_findFits_43 ?_
        refine lv_iload_n C.1 C.2.1 zd_W_findFits_46 rfl (lv_at hl 2 rfl) ?_
        obtain ⟨h4, hf⟩ := zck_some hf
        refine ziald C hK hW (zvd_5 hr0 (by decide)) (fun f => ze_5_36 B f (r0)) (by decide) h4 zd_W_findFits_47 ?_
        have w7 : zn (S 5 r0 38 x1) := (zWn hW _ _ _ _ rfl)
        obtain ⟨a5, S6, ea5, hf⟩ := zbd_some hf
        refine zcVi (As := [.int (zI (x1)), .int (zI (S 5 r0 36 x2))]) (rest := [.int (zI (S 5 r0 38 x1)), .int (zI (x1)), .ref (B.2.1 5 (r0) (38))]) C hK hSt hW hS (zc_W_fits hap (r0) hr0 x1 (S 5 r0 36 x2) S nx1 (zWn hW _ _ _ _ rfl) ea5) zq_W_fits zk_1803 (zrecv hK hW (zvd_5 hr0 (by decide)) (ze_5_0 B _ (r0)) rfl) ⟨rfl, rfl, by decide, by decide⟩ ⟨Nat.zero_le _, Nat.zero_le _⟩ rfl hl.1 rfl (lv_room (Nat.le_of_ble_eq_true rfl)) zd_W_findFits_48 (fun na5 H locs hW hS => ?_)
        refine zr_if_eq (tgt := 60) C na5 zd_W_findFits_51 (by decide) (fun c8 => ?_) (fun c8 => ?_)
        · rw [if_pos c8] at hf
          refine zr_iconst C zd_W_findFits_60 ?_
          exact zw_W_findFits_61 C hr hlk hK hSt hap r0 hr0 q2 hq2 (zf_W_findFits_19 r0 q2 n) (ih) (x1) (x2) (x1) (S 5 r0 38 x1) (0) S6 nx1 nx2 nx1 w7 (znb rfl) hf _ _ _ hW hS (lv_sub hl [0, 1, 2] rfl)
        · rw [if_neg c8] at hf
          refine zr_iconst C zd_W_findFits_54 ?_
          refine lv_iload_n C.1 C.2.1 zd_W_findFits_55 rfl (lv_at hl 2 rfl) ?_
          refine zr_ishl C zd_W_findFits_56 ?_
          refine lv_goto (tgt := 61) C.1 C.2.1 zd_W_findFits_57 (by decide) ?_
          exact zw_W_findFits_61 C hr hlk hK hSt hap r0 hr0 q2 hq2 (zf_W_findFits_19 r0 q2 n) (ih) (x1) (x2) (x1) (S 5 r0 38 x1) (zshl 1 x2) S6 nx1 nx2 nx1 w7 (zn_shl _ _) hf _ _ _ hW hS (lv_sub hl [0, 1, 2] rfl)

def zf_W_findFits_2 (r0 : Int) : Nat → Int → Sg → Option (Int × Sg)
  | 0, _, _ => none
  | n + 1, x1, S =>
    if (S 5 r0 0 25) ≤ x1 then (some (0, S)) else (zck (0 ≤ x1 ∧ x1 < 8) <| zlt (zu S 5 r0 38 x1 0) fun S3 => zf_W_findFits_19 r0 (zf_W_findFits_2 r0 n) 4096 (x1) (0) S3)
set_option maxHeartbeats 4000000 in
set_option maxRecDepth 100000 in
theorem zw_W_findFits_2 {p : Program} {l : Launch} {e : Env} {s : State} {m : MethodId} {args : Array Value} {below : List Frame} {meth : Method} {c : Code} {B : zB} (C : CallFix p m c zb_W_findFits 3 s args zT "IslandOfficeModel$World") (hr : meth.sig.returnType = none) (hlk : meth.locks = false) (hK : zK B s) (hSt : zSt B s) (hap : zAp B) (r0 : Int) (hr0 : 0 ≤ r0 ∧ r0 < 3) {res : Int} {S9 : Sg} : ∀ n : Nat, ∀ (x1 : Int) (S : Sg) (nx1 : zn x1), zf_W_findFits_2 r0 n x1 S = some (res, S9) → ∀ (H : Heap) (locs : List Loc) (ls : Array Slot), zW B S H → va_S B.2.2.2 s.heap H locs → lv_has ls 3 [(0, .ref (B.2.1 5 (r0) (0))), (1, .int (zI (x1)))] → W p l e zm_W_findFits s m args below meth c H locs 0 0 (MQ below (zQv B S9) args s 0 0 B.2.2.2) (F0 m 2 ls []) := by
  intro n
  induction n with
  | zero =>
    intro x1 S nx1 hf H locs ls hW hS hl
    cases hf
  | succ n ih =>
    intro x1 S nx1 hf H locs ls hW hS hl
    rw [zf_W_findFits_2] at hf
    refine lv_iload_n C.1 C.2.1 zd_W_findFits_2 rfl (lv_at hl 1 rfl) ?_
    refine lv_aload_n C.1 C.2.1 zd_W_findFits_3 rfl (lv_at hl 0 rfl) ?_
    refine zg_W_posts (r := r0) C hK hW (zvd_5 hr0 (by decide)) zk_1325 zd_W_findFits_4 ?_
    refine zr_icmp_ge (tgt := 75) C nx1 (zWn hW _ _ _ _ rfl) zd_W_findFits_7 (by decide) (fun c1 => ?_) (fun c1 => ?_)
    · rw [if_pos c1] at hf
      cases hf
      exact zre_v C hr hlk hK hW hS zd_W_findFits_75
    · rw [if_neg c1] at hf
      refine lv_aload_n C.1 C.2.1 zd_W_findFits_10 rfl (lv_at hl 0 rfl) ?_
      refine zg_W_fitBits (r := r0) C hK hW (zvd_5 hr0 (by decide)) zk_1378 zd_W_findFits_11 ?_
      refine lv_iload_n C.1 C.2.1 zd_W_findFits_14 rfl (lv_at hl 1 rfl) ?_
      refine zr_iconst C zd_W_findFits_15 ?_
      obtain ⟨h2, hf⟩ := zck_some hf
      obtain ⟨S3, eS3, hf⟩ := zlt_some hf
      refine ziast C hK hap hW hS (zvd_5 hr0 (by decide)) (fun f => ze_5_38 B f (r0)) (by decide) rfl (znb rfl) h2 zd_W_findFits_16 (fun H locs hW hS => ?_)
      rw [eS3] at hW
      refine zr_iconst C zd_W_findFits_17 ?_
      refine lv_istore_n (lv' := [(2, .int (zI (0))), (0, .ref (B.2.1 5 (r0) (0))), (1, .int (zI (x1)))]) C.1 C.2.1 zd_W_findFits_18 rfl hl (by decide) rfl (fun ls hl => ?_)
      exact zw_W_findFits_19 C hr hlk hK hSt hap r0 hr0 (zf_W_findFits_2 r0 n) (ih) 4096 (x1) (0) S3 nx1 (znb rfl) hf _ _ _ hW hS (lv_sub hl [1, 2, 0] rfl)

def zf_W_findFits (r0 : Int) (S : Sg) : Option (Int × Sg) :=
    zf_W_findFits_2 r0 4096 (0) S
set_option maxHeartbeats 4000000 in
set_option maxRecDepth 100000 in
theorem zw_W_findFits {p : Program} {l : Launch} {e : Env} {s : State} {m : MethodId} {args : Array Value} {below : List Frame} {meth : Method} {c : Code} {B : zB} (C : CallFix p m c zb_W_findFits 3 s args zT "IslandOfficeModel$World") (hr : meth.sig.returnType = none) (hlk : meth.locks = false) (hK : zK B s) (hSt : zSt B s) (hap : zAp B) (r0 : Int) (hr0 : 0 ≤ r0 ∧ r0 < 3) {res : Int} {S9 : Sg} : ∀  (S : Sg) , zf_W_findFits r0  S = some (res, S9) → ∀ (H : Heap) (locs : List Loc) (ls : Array Slot), zW B S H → va_S B.2.2.2 s.heap H locs → lv_has ls 3 [(0, .ref (B.2.1 5 (r0) (0)))] → W p l e zm_W_findFits s m args below meth c H locs 0 0 (MQ below (zQv B S9) args s 0 0 B.2.2.2) (F0 m 0 ls []) := by
  intro S hf H locs ls hW hS hl
  unfold zf_W_findFits at hf
  refine zr_iconst C zd_W_findFits_0 ?_
  refine lv_istore_n (lv' := [(1, .int (zI (0))), (0, .ref (B.2.1 5 (r0) (0)))]) C.1 C.2.1 zd_W_findFits_1 rfl hl (by decide) rfl (fun ls hl => ?_)
  exact zw_W_findFits_2 C hr hlk hK hSt hap r0 hr0 4096 (0) S (znb rfl) hf _ _ _ hW hS (lv_sub hl [1, 0] rfl)

theorem zc_W_findFits {l : Launch} {B : zB} (hap : zAp B) (r0 : Int) (hr0 : 0 ≤ r0 ∧ r0 < 3) (S : Sg) {res : Int} {S9 : Sg} (hf : zf_W_findFits r0 S = some (res, S9)) : Met l zy_W_findFits (Cond.code zy_W_findFits zb_W_findFits 3 (none) :: zT) zm_W_findFits (zP B S [.ref (B.2.1 5 (r0) (0))]) (zQv B S9) 0 0 B.2.2.2 :=
  zmet (by decide) (Nat.le_of_ble_eq_true rfl) (fun p e s m args below meth c C hr hlk hK hSt hW ls hl => zw_W_findFits C hr hlk hK hSt hap r0 hr0  S  hf _ _ _ hW va_S.rf hl)
/-! IslandOfficeModel$World.gather()V -/
abbrev zy_W_gather : MethodName := ⟨"IslandOfficeModel$World", "gather", "()V"⟩
abbrev zb_W_gather : ByteArray := prog_15_method_26_code
abbrev zm_W_gather : Room := { frames := 394, cells := 0, slots := 0, locals := 8539 }
theorem zq_W_gather : zMy zy_W_gather zb_W_gather 3 (none) 0 := ⟨zk_1798, zk_1797, zs_65, zk_15, by decide, by decide, by decide +kernel⟩
theorem zd_W_gather_0 : decode zb_W_gather 0 = .ok (.aload_n 0, 1) := by decide +kernel
theorem zd_W_gather_1 : decode zb_W_gather 1 = .ok (.iconst 0, 1) := by decide +kernel
theorem zd_W_gather_2 : decode zb_W_gather 2 = .ok (.putfield 261, 3) := by decide +kernel
theorem zd_W_gather_5 : decode zb_W_gather 5 = .ok (.iconst 0, 1) := by decide +kernel
theorem zd_W_gather_6 : decode zb_W_gather 6 = .ok (.istore_n 1, 1) := by decide +kernel
theorem zd_W_gather_7 : decode zb_W_gather 7 = .ok (.iload_n 1, 1) := by decide +kernel
theorem zd_W_gather_8 : decode zb_W_gather 8 = .ok (.aload_n 0, 1) := by decide +kernel
theorem zd_W_gather_9 : decode zb_W_gather 9 = .ok (.getfield 158, 3) := by decide +kernel
theorem zd_W_gather_12 : decode zb_W_gather 12 = .ok (.if_icmp .ge 71, 3) := by decide +kernel
theorem zd_W_gather_15 : decode zb_W_gather 15 = .ok (.aload_n 0, 1) := by decide +kernel
theorem zd_W_gather_16 : decode zb_W_gather 16 = .ok (.iload_n 1, 1) := by decide +kernel
theorem zd_W_gather_17 : decode zb_W_gather 17 = .ok (.invokevirtual 193, 3) := by decide +kernel
theorem zd_W_gather_20 : decode zb_W_gather 20 = .ok (.iconst 2, 1) := by decide +kernel
theorem zd_W_gather_21 : decode zb_W_gather 21 = .ok (.if_icmp .eq 12, 3) := by decide +kernel
theorem zd_W_gather_24 : decode zb_W_gather 24 = .ok (.aload_n 0, 1) := by decide +kernel
theorem zd_W_gather_25 : decode zb_W_gather 25 = .ok (.iload_n 1, 1) := by decide +kernel
theorem zd_W_gather_26 : decode zb_W_gather 26 = .ok (.invokevirtual 193, 3) := by decide +kernel
theorem zd_W_gather_29 : decode zb_W_gather 29 = .ok (.iconst 5, 1) := by decide +kernel
theorem zd_W_gather_30 : decode zb_W_gather 30 = .ok (.if_icmp .ne 7, 3) := by decide +kernel
theorem zd_W_gather_33 : decode zb_W_gather 33 = .ok (.iconst 1, 1) := by decide +kernel
theorem zd_W_gather_34 : decode zb_W_gather 34 = .ok (.goto 4, 3) := by decide +kernel
theorem zd_W_gather_37 : decode zb_W_gather 37 = .ok (.iconst 0, 1) := by decide +kernel
theorem zd_W_gather_38 : decode zb_W_gather 38 = .ok (.istore_n 2, 1) := by decide +kernel
theorem zd_W_gather_39 : decode zb_W_gather 39 = .ok (.iload_n 2, 1) := by decide +kernel
theorem zd_W_gather_40 : decode zb_W_gather 40 = .ok (.ifCond .eq 37, 3) := by decide +kernel
theorem zd_W_gather_43 : decode zb_W_gather 43 = .ok (.aload_n 0, 1) := by decide +kernel
theorem zd_W_gather_44 : decode zb_W_gather 44 = .ok (.iload_n 1, 1) := by decide +kernel
theorem zd_W_gather_45 : decode zb_W_gather 45 = .ok (.invokevirtual 264, 3) := by decide +kernel
theorem zd_W_gather_48 : decode zb_W_gather 48 = .ok (.ifCond .eq 29, 3) := by decide +kernel
theorem zd_W_gather_51 : decode zb_W_gather 51 = .ok (.aload_n 0, 1) := by decide +kernel
theorem zd_W_gather_52 : decode zb_W_gather 52 = .ok (.iload_n 1, 1) := by decide +kernel
theorem zd_W_gather_53 : decode zb_W_gather 53 = .ok (.iconst 1, 1) := by decide +kernel
theorem zd_W_gather_54 : decode zb_W_gather 54 = .ok (.invokevirtual 255, 3) := by decide +kernel
theorem zd_W_gather_57 : decode zb_W_gather 57 = .ok (.ifCond .eq 20, 3) := by decide +kernel
theorem zd_W_gather_60 : decode zb_W_gather 60 = .ok (.aload_n 0, 1) := by decide +kernel
theorem zd_W_gather_61 : decode zb_W_gather 61 = .ok (.getfield 135, 3) := by decide +kernel
theorem zd_W_gather_64 : decode zb_W_gather 64 = .ok (.aload_n 0, 1) := by decide +kernel
theorem zd_W_gather_65 : decode zb_W_gather 65 = .ok (.dup, 1) := by decide +kernel
theorem zd_W_gather_66 : decode zb_W_gather 66 = .ok (.getfield 261, 3) := by decide +kernel
theorem zd_W_gather_69 : decode zb_W_gather 69 = .ok (.dup_x1, 1) := by decide +kernel
theorem zd_W_gather_70 : decode zb_W_gather 70 = .ok (.iconst 1, 1) := by decide +kernel
theorem zd_W_gather_71 : decode zb_W_gather 71 = .ok (.iadd, 1) := by decide +kernel
theorem zd_W_gather_72 : decode zb_W_gather 72 = .ok (.putfield 261, 3) := by decide +kernel
theorem zd_W_gather_75 : decode zb_W_gather 75 = .ok (.iload_n 1, 1) := by decide +kernel
theorem zd_W_gather_76 : decode zb_W_gather 76 = .ok (.iastore, 1) := by decide +kernel
theorem zd_W_gather_77 : decode zb_W_gather 77 = .ok (.iinc 1 1, 3) := by decide +kernel
theorem zd_W_gather_80 : decode zb_W_gather 80 = .ok (.goto (-73), 3) := by decide +kernel
theorem zd_W_gather_83 : decode zb_W_gather 83 = .ok (.aload_n 0, 1) := by decide +kernel
theorem zd_W_gather_84 : decode zb_W_gather 84 = .ok (.invokevirtual 267, 3) := by decide +kernel
theorem zd_W_gather_87 : decode zb_W_gather 87 = .ok (.return_, 1) := by decide +kernel

def zf_W_gather_77 (r0 : Int) (q7 : Int → Sg → Option (Int × Sg)) (x1 : Int) (S : Sg) : Option (Int × Sg) :=
    zlt (zw (x1 + 1)) fun v1 => q7 (v1) S
set_option maxHeartbeats 4000000 in
set_option maxRecDepth 100000 in
theorem zw_W_gather_77 {p : Program} {l : Launch} {e : Env} {s : State} {m : MethodId} {args : Array Value} {below : List Frame} {meth : Method} {c : Code} {B : zB} (C : CallFix p m c zb_W_gather 3 s args zT "IslandOfficeModel$World") (hr : meth.sig.returnType = none) (hlk : meth.locks = false) (hK : zK B s) (hSt : zSt B s) (hap : zAp B) (r0 : Int) (hr0 : 0 ≤ r0 ∧ r0 < 3) {res : Int} {S9 : Sg} (q7 : Int → Sg → Option (Int × Sg)) (hq7 : ∀ (x1 : Int) (S : Sg) (nx1 : zn x1), q7 x1 S = some (res, S9) → ∀ (H : Heap) (locs : List Loc) (ls : Array Slot), zW B S H → va_S B.2.2.2 s.heap H locs → lv_has ls 3 [(0, .ref (B.2.1 5 (r0) (0))), (1, .int (zI (x1)))] → W p l e zm_W_gather s m args below meth c H locs 0 0 (MQ below (zQv B S9) args s 0 0 B.2.2.2) (F0 m 7 ls [])) : ∀ (x1 : Int) (S : Sg) (nx1 : zn x1), zf_W_gather_77 r0 q7 x1 S = some (res, S9) → ∀ (H : Heap) (locs : List Loc) (ls : Array Slot), zW B S H → va_S B.2.2.2 s.heap H locs → lv_has ls 3 [(0, .ref (B.2.1 5 (r0) (0))), (1, .int (zI (x1)))] → W p l e zm_W_gather s m args below meth c H locs 0 0 (MQ below (zQv B S9) args s 0 0 B.2.2.2) (F0 m 77 ls []) := by
  intro x1 S nx1 hf H locs ls hW hS hl
  unfold zf_W_gather_77 at hf
  obtain ⟨v1, ev1, hf⟩ := zlt_some hf
  have nv1 : zn v1 := by rw [← ev1]; exact zn_w _
  refine lv_iinc (v := zI v1) (lv' := [(1, .int (zI (v1))), (0, .ref (B.2.1 5 (r0) (0)))]) C.1 C.2.1 zd_W_gather_77 hl (k := 1) rfl (by rw [← ev1, ← zI_add]; rfl) (by decide) rfl (fun ls hl => ?_)
  refine lv_goto (tgt := 7) C.1 C.2.1 zd_W_gather_80 (by decide) ?_
  exact hq7 (v1) S nv1 hf _ _ _ hW hS (lv_sub hl [1, 0] rfl)

def zf_W_gather_38 (r0 : Int) (q7 : Int → Sg → Option (Int × Sg)) (x1 : Int) (xt0 : Int) (S : Sg) : Option (Int × Sg) :=
    if xt0 = 0 then (zf_W_gather_77 r0 q7 (x1) S) else (zbd (zf_W_canAny (r0) x1 S) fun a2 S3 => if a2 = 0 then (zf_W_gather_77 r0 q7 (x1) S3) else (zbd (zf_W_may (r0) x1 1 S3) fun a5 S6 => if a5 = 0 then (zf_W_gather_77 r0 q7 (x1) S6) else (zlt (zu S6 5 r0 0 52 (zw ((S6 5 r0 0 52) + 1))) fun S8 => zck (0 ≤ (S6 5 r0 0 52) ∧ (S6 5 r0 0 52) < 40) <| zlt (zu S8 5 r0 36 (S6 5 r0 0 52) x1) fun S11 => zf_W_gather_77 r0 q7 (x1) S11)))
set_option maxHeartbeats 4000000 in
set_option maxRecDepth 100000 in
theorem zw_W_gather_38 {p : Program} {l : Launch} {e : Env} {s : State} {m : MethodId} {args : Array Value} {below : List Frame} {meth : Method} {c : Code} {B : zB} (C : CallFix p m c zb_W_gather 3 s args zT "IslandOfficeModel$World") (hr : meth.sig.returnType = none) (hlk : meth.locks = false) (hK : zK B s) (hSt : zSt B s) (hap : zAp B) (r0 : Int) (hr0 : 0 ≤ r0 ∧ r0 < 3) {res : Int} {S9 : Sg} (q7 : Int → Sg → Option (Int × Sg)) (hq7 : ∀ (x1 : Int) (S : Sg) (nx1 : zn x1), q7 x1 S = some (res, S9) → ∀ (H : Heap) (locs : List Loc) (ls : Array Slot), zW B S H → va_S B.2.2.2 s.heap H locs → lv_has ls 3 [(0, .ref (B.2.1 5 (r0) (0))), (1, .int (zI (x1)))] → W p l e zm_W_gather s m args below meth c H locs 0 0 (MQ below (zQv B S9) args s 0 0 B.2.2.2) (F0 m 7 ls [])) : ∀ (x1 : Int) (xt0 : Int) (S : Sg) (nx1 : zn x1) (nxt0 : zn xt0), zf_W_gather_38 r0 q7 x1 xt0 S = some (res, S9) → ∀ (H : Heap) (locs : List Loc) (ls : Array Slot), zW B S H → va_S B.2.2.2 s.heap H locs → lv_has ls 3 [(0, .ref (B.2.1 5 (r0) (0))), (1, .int (zI (x1)))] → W p l e zm_W_gather s m args below meth c H locs 0 0 (MQ below (zQv B S9) args s 0 0 B.2.2.2) (F0 m 38 ls [.int (zI (xt0))]) := by
  intro x1 xt0 S nx1 nxt0 hf H locs ls hW hS hl
  unfold zf_W_gather_38 at hf
  refine lv_istore_n (lv' := [(2, .int (zI (xt0))), (0, .ref (B.2.1 5 (r0) (0))), (1, .int (zI (x1)))]) C.1 C.2.1 zd_W_gather_38 rfl hl (by decide) rfl (fun ls hl => ?_)
  refine lv_iload_n C.1 C.2.1 zd_W_gather_39 rfl (lv_at hl 0 rfl) ?_
  refine zr_if_eq (tgt := 77) C nxt0 zd_W_gather_40 (by decide) (fun c1 => ?_) (fun c1 => ?_)
  · rw [if_pos c1] at hf
    exact zw_W_gather_77 C hr hlk hK hSt hap r0 hr0 q7 hq7 (x1) S nx1 hf _ _ _ hW hS (lv_sub hl [1, 2] rfl)
  · rw [if_neg c1] at hf
    refine lv_aload_n C.1 C.2.1 zd_W_gather_43 rfl (lv_at hl 1 rfl) ?_
    refine lv_iload_n C.1 C.2.1 zd_W_gather_44 rfl (lv_at hl 2 rfl) ?_
    obtain ⟨a2, S3, ea2, hf⟩ := zbd_some hf
    refine zcVi (As := [.int (zI (x1))]) (rest := []) C hK hSt hW hS (zc_W_canAny hap (r0) hr0 x1 S nx1 ea2) zq_W_canAny zk_1799 (zrecv hK hW (zvd_5 hr0 (by decide)) (ze_5_0 B _ (r0)) rfl) ⟨rfl, rfl, by decide, by decide⟩ ⟨Nat.zero_le _, Nat.zero_le _⟩ rfl hl.1 rfl (lv_room (Nat.le_of_ble_eq_true rfl)) zd_W_gather_45 (fun na2 H locs hW hS => ?_)
    refine zr_if_eq (tgt := 77) C na2 zd_W_gather_48 (by decide) (fun c4 => ?_) (fun c4 => ?_)
    · rw [if_pos c4] at hf
      exact zw_W_gather_77 C hr hlk hK hSt hap r0 hr0 q7 hq7 (x1) S3 nx1 hf _ _ _ hW hS (lv_sub hl [1, 2] rfl)
    · rw [if_neg c4] at hf
      refine lv_aload_n C.1 C.2.1 zd_W_gather_51 rfl (lv_at hl 1 rfl) ?_
      refine lv_iload_n C.1 C.2.1 zd_W_gather_52 rfl (lv_at hl 2 rfl) ?_
      refine zr_iconst C zd_W_gather_53 ?_
      obtain ⟨a5, S6, ea5, hf⟩ := zbd_some hf
      refine zcVi (As := [.int (zI (x1)), .int (zI (1))]) (rest := []) C hK hSt hW hS (zc_W_may hap (r0) hr0 x1 1 S3 nx1 (znb rfl) ea5) zq_W_may zk_1700 (zrecv hK hW (zvd_5 hr0 (by decide)) (ze_5_0 B _ (r0)) rfl) ⟨rfl, rfl, by decide, by decide⟩ ⟨Nat.zero_le _, Nat.zero_le _⟩ rfl hl.1 rfl (lv_room (Nat.le_of_ble_eq_true rfl)) zd_W_gather_54 (fun na5 H locs hW hS => ?_)
      refine zr_if_eq (tgt := 77) C na5 zd_W_gather_57 (by decide) (fun c7 => ?_) (fun c7 => ?_)
      · rw [if_pos c7] at hf
        exact zw_W_gather_77 C hr hlk hK hSt hap r0 hr0 q7 hq7 (x1) S6 nx1 hf _ _ _ hW hS (lv_sub hl [1, 2] rfl)
      · rw [if_neg c7] at hf
        refine lv_aload_n C.1 C.2.1 zd_W_gather_60 rfl (lv_at hl 1 rfl) ?_
        refine zg_W_can (r := r0) C hK hW (zvd_5 hr0 (by decide)) zk_1373 zd_W_gather_61 ?_
        refine lv_aload_n C.1 C.2.1 zd_W_gather_64 rfl (lv_at hl 1 rfl) ?_
        refine lv_dup C.1 C.2.1 zd_W_gather_65 rfl ?_
        refine zg_W_cans (r := r0) C hK hW (zvd_5 hr0 (by decide)) zk_1374 zd_W_gather_66 ?_
        refine lv_dup_x1 C.1 C.2.1 zd_W_gather_69 rfl rfl ?_
        refine zr_iconst C zd_W_gather_70 ?_
        refine zr_iadd C zd_W_gather_71 ?_
        have w9 : zn (S6 5 r0 0 52) := (zWn hW _ _ _ _ rfl)
        obtain ⟨S8, eS8, hf⟩ := zlt_some hf
        refine zp_W_cans (r := r0) C hK hap hW hS (zvd_5 hr0 (by decide)) zk_1374 (zn_w _) zd_W_gather_72 (fun H locs hW hS => ?_)
        rw [eS8] at hW
        refine lv_iload_n C.1 C.2.1 zd_W_gather_75 rfl (lv_at hl 2 rfl) ?_
        obtain ⟨h10, hf⟩ := zck_some hf
        obtain ⟨S11, eS11, hf⟩ := zlt_some hf
        refine ziast C hK hap hW hS (zvd_5 hr0 (by decide)) (fun f => ze_5_36 B f (r0)) (by decide) rfl nx1 h10 zd_W_gather_76 (fun H locs hW hS => ?_)
        rw [eS11] at hW
        exact zw_W_gather_77 C hr hlk hK hSt hap r0 hr0 q7 hq7 (x1) S11 nx1 hf _ _ _ hW hS (lv_sub hl [1, 2] rfl)

def zf_W_gather_33 (r0 : Int) (q7 : Int → Sg → Option (Int × Sg)) (x1 : Int) (S : Sg) : Option (Int × Sg) :=
    zf_W_gather_38 r0 q7 (x1) (1) S
set_option maxHeartbeats 4000000 in
set_option maxRecDepth 100000 in
theorem zw_W_gather_33 {p : Program} {l : Launch} {e : Env} {s : State} {m : MethodId} {args : Array Value} {below : List Frame} {meth : Method} {c : Code} {B : zB} (C : CallFix p m c zb_W_gather 3 s args zT "IslandOfficeModel$World") (hr : meth.sig.returnType = none) (hlk : meth.locks = false) (hK : zK B s) (hSt : zSt B s) (hap : zAp B) (r0 : Int) (hr0 : 0 ≤ r0 ∧ r0 < 3) {res : Int} {S9 : Sg} (q7 : Int → Sg → Option (Int × Sg)) (hq7 : ∀ (x1 : Int) (S : Sg) (nx1 : zn x1), q7 x1 S = some (res, S9) → ∀ (H : Heap) (locs : List Loc) (ls : Array Slot), zW B S H → va_S B.2.2.2 s.heap H locs → lv_has ls 3 [(0, .ref (B.2.1 5 (r0) (0))), (1, .int (zI (x1)))] → W p l e zm_W_gather s m args below meth c H locs 0 0 (MQ below (zQv B S9) args s 0 0 B.2.2.2) (F0 m 7 ls [])) : ∀ (x1 : Int) (S : Sg) (nx1 : zn x1), zf_W_gather_33 r0 q7 x1 S = some (res, S9) → ∀ (H : Heap) (locs : List Loc) (ls : Array Slot), zW B S H → va_S B.2.2.2 s.heap H locs → lv_has ls 3 [(0, .ref (B.2.1 5 (r0) (0))), (1, .int (zI (x1)))] → W p l e zm_W_gather s m args below meth c H locs 0 0 (MQ below (zQv B S9) args s 0 0 B.2.2.2) (F0 m 33 ls []) := by
  intro x1 S nx1 hf H locs ls hW hS hl
  unfold zf_W_gather_33 at hf
  refine zr_iconst C zd_W_gather_33 ?_
  refine lv_goto (tgt := 38) C.1 C.2.1 zd_W_gather_34 (by decide) ?_
  exact zw_W_gather_38 C hr hlk hK hSt hap r0 hr0 q7 hq7 (x1) (1) S nx1 (znb rfl) hf _ _ _ hW hS (lv_sub hl [0, 1] rfl)

def zf_W_gather_7 (r0 : Int) : Nat → Int → Sg → Option (Int × Sg)
  | 0, _, _ => none
  | n + 1, x1, S =>
    if (S 5 r0 0 1) ≤ x1 then (zbd (zf_W_findFits (r0) S) fun a2 S3 => some (0, S3)) else (zbd (zf_W_kind (r0) x1 S) fun a4 S5 => if a4 = 2 then (zf_W_gather_33 r0 (zf_W_gather_7 r0 n) (x1) S5) else (zbd (zf_W_kind (r0) x1 S5) fun a7 S8 => if a7 = 5 then (zf_W_gather_33 r0 (zf_W_gather_7 r0 n) (x1) S8) else (zf_W_gather_38 r0 (zf_W_gather_7 r0 n) (x1) (0) S8)))
set_option maxHeartbeats 4000000 in
set_option maxRecDepth 100000 in
theorem zw_W_gather_7 {p : Program} {l : Launch} {e : Env} {s : State} {m : MethodId} {args : Array Value} {below : List Frame} {meth : Method} {c : Code} {B : zB} (C : CallFix p m c zb_W_gather 3 s args zT "IslandOfficeModel$World") (hr : meth.sig.returnType = none) (hlk : meth.locks = false) (hK : zK B s) (hSt : zSt B s) (hap : zAp B) (r0 : Int) (hr0 : 0 ≤ r0 ∧ r0 < 3) {res : Int} {S9 : Sg} : ∀ n : Nat, ∀ (x1 : Int) (S : Sg) (nx1 : zn x1), zf_W_gather_7 r0 n x1 S = some (res, S9) → ∀ (H : Heap) (locs : List Loc) (ls : Array Slot), zW B S H → va_S B.2.2.2 s.heap H locs → lv_has ls 3 [(0, .ref (B.2.1 5 (r0) (0))), (1, .int (zI (x1)))] → W p l e zm_W_gather s m args below meth c H locs 0 0 (MQ below (zQv B S9) args s 0 0 B.2.2.2) (F0 m 7 ls []) := by
  intro n
  induction n with
  | zero =>
    intro x1 S nx1 hf H locs ls hW hS hl
    cases hf
  | succ n ih =>
    intro x1 S nx1 hf H locs ls hW hS hl
    rw [zf_W_gather_7] at hf
    refine lv_iload_n C.1 C.2.1 zd_W_gather_7 rfl (lv_at hl 1 rfl) ?_
    refine lv_aload_n C.1 C.2.1 zd_W_gather_8 rfl (lv_at hl 0 rfl) ?_
    refine zg_W_people (r := r0) C hK hW (zvd_5 hr0 (by decide)) zk_1277 zd_W_gather_9 ?_
    refine zr_icmp_ge (tgt := 83) C nx1 (zWn hW _ _ _ _ rfl) zd_W_gather_12 (by decide) (fun c1 => ?_) (fun c1 => ?_)
    · rw [if_pos c1] at hf
      refine lv_aload_n C.1 C.2.1 zd_W_gather_83 rfl (lv_at hl 0 rfl) ?_
      obtain ⟨a2, S3, ea2, hf⟩ := zbd_some hf
      refine zcVv (As := []) (rest := []) C hK hSt hW hS (zc_W_findFits hap (r0) hr0 S ea2) zq_W_findFits zk_1807 (zrecv hK hW (zvd_5 hr0 (by decide)) (ze_5_0 B _ (r0)) rfl) ⟨rfl, rfl, by decide, by decide⟩ ⟨Nat.zero_le _, Nat.zero_le _⟩ rfl hl.1 rfl (lv_room (Nat.le_of_ble_eq_true rfl)) zd_W_gather_84 (fun H locs hW hS => ?_)
      cases hf
      exact zre_v C hr hlk hK hW hS zd_W_gather_87
    · rw [if_neg c1] at hf
      refine lv_aload_n C.1 C.2.1 zd_W_gather_15 rfl (lv_at hl 0 rfl) ?_
      refine lv_iload_n C.1 C.2.1 zd_W_gather_16 rfl (lv_at hl 1 rfl) ?_
      obtain ⟨a4, S5, ea4, hf⟩ := zbd_some hf
      refine zcVi (As := [.int (zI (x1))]) (rest := []) C hK hSt hW hS (zc_W_kind hap (r0) hr0 x1 S nx1 ea4) zq_W_kind zk_1621 (zrecv hK hW (zvd_5 hr0 (by decide)) (ze_5_0 B _ (r0)) rfl) ⟨rfl, rfl, by decide, by decide⟩ ⟨Nat.zero_le _, Nat.zero_le _⟩ rfl hl.1 rfl (lv_room (Nat.le_of_ble_eq_true rfl)) zd_W_gather_17 (fun na4 H locs hW hS => ?_)
      refine zr_iconst C zd_W_gather_20 ?_
      refine zr_icmp_eq (tgt := 33) C na4 (znb rfl) zd_W_gather_21 (by decide) (fun c6 => ?_) (fun c6 => ?_)
      · rw [if_pos c6] at hf
        exact zw_W_gather_33 C hr hlk hK hSt hap r0 hr0 (zf_W_gather_7 r0 n) (ih) (x1) S5 nx1 hf _ _ _ hW hS (lv_sub hl [0, 1] rfl)
      · rw [if_neg c6] at hf
        refine lv_aload_n C.1 C.2.1 zd_W_gather_24 rfl (lv_at hl 0 rfl) ?_
        refine lv_iload_n C.1 C.2.1 zd_W_gather_25 rfl (lv_at hl 1 rfl) ?_
        obtain ⟨a7, S8, ea7, hf⟩ := zbd_some hf
        refine zcVi (As := [.int (zI (x1))]) (rest := []) C hK hSt hW hS (zc_W_kind hap (r0) hr0 x1 S5 nx1 ea7) zq_W_kind zk_1621 (zrecv hK hW (zvd_5 hr0 (by decide)) (ze_5_0 B _ (r0)) rfl) ⟨rfl, rfl, by decide, by decide⟩ ⟨Nat.zero_le _, Nat.zero_le _⟩ rfl hl.1 rfl (lv_room (Nat.le_of_ble_eq_true rfl)) zd_W_gather_26 (fun na7 H locs hW hS => ?_)
        refine zr_iconst C zd_W_gather_29 ?_
        refine zr_icmp_ne (tgt := 37) C na7 (znb rfl) zd_W_gather_30 (by decide) (fun c9 => ?_) (fun c9 => ?_)
        · rw [if_neg c9] at hf
          refine zr_iconst C zd_W_gather_37 ?_
          exact zw_W_gather_38 C hr hlk hK hSt hap r0 hr0 (zf_W_gather_7 r0 n) (ih) (x1) (0) S8 nx1 (znb rfl) hf _ _ _ hW hS (lv_sub hl [0, 1] rfl)
        · rw [if_pos c9] at hf
          exact zw_W_gather_33 C hr hlk hK hSt hap r0 hr0 (zf_W_gather_7 r0 n) (ih) (x1) S8 nx1 hf _ _ _ hW hS (lv_sub hl [0, 1] rfl)

def zf_W_gather (r0 : Int) (S : Sg) : Option (Int × Sg) :=
    zlt (zu S 5 r0 0 52 0) fun S1 => zf_W_gather_7 r0 4096 (0) S1
set_option maxHeartbeats 4000000 in
set_option maxRecDepth 100000 in
theorem zw_W_gather {p : Program} {l : Launch} {e : Env} {s : State} {m : MethodId} {args : Array Value} {below : List Frame} {meth : Method} {c : Code} {B : zB} (C : CallFix p m c zb_W_gather 3 s args zT "IslandOfficeModel$World") (hr : meth.sig.returnType = none) (hlk : meth.locks = false) (hK : zK B s) (hSt : zSt B s) (hap : zAp B) (r0 : Int) (hr0 : 0 ≤ r0 ∧ r0 < 3) {res : Int} {S9 : Sg} : ∀  (S : Sg) , zf_W_gather r0  S = some (res, S9) → ∀ (H : Heap) (locs : List Loc) (ls : Array Slot), zW B S H → va_S B.2.2.2 s.heap H locs → lv_has ls 3 [(0, .ref (B.2.1 5 (r0) (0)))] → W p l e zm_W_gather s m args below meth c H locs 0 0 (MQ below (zQv B S9) args s 0 0 B.2.2.2) (F0 m 0 ls []) := by
  intro S hf H locs ls hW hS hl
  unfold zf_W_gather at hf
  refine lv_aload_n C.1 C.2.1 zd_W_gather_0 rfl (lv_at hl 0 rfl) ?_
  refine zr_iconst C zd_W_gather_1 ?_
  obtain ⟨S1, eS1, hf⟩ := zlt_some hf
  refine zp_W_cans (r := r0) C hK hap hW hS (zvd_5 hr0 (by decide)) zk_1374 (znb rfl) zd_W_gather_2 (fun H locs hW hS => ?_)
  rw [eS1] at hW
  refine zr_iconst C zd_W_gather_5 ?_
  refine lv_istore_n (lv' := [(1, .int (zI (0))), (0, .ref (B.2.1 5 (r0) (0)))]) C.1 C.2.1 zd_W_gather_6 rfl hl (by decide) rfl (fun ls hl => ?_)
  exact zw_W_gather_7 C hr hlk hK hSt hap r0 hr0 4096 (0) S1 (znb rfl) hf _ _ _ hW hS (lv_sub hl [1, 0] rfl)

theorem zc_W_gather {l : Launch} {B : zB} (hap : zAp B) (r0 : Int) (hr0 : 0 ≤ r0 ∧ r0 < 3) (S : Sg) {res : Int} {S9 : Sg} (hf : zf_W_gather r0 S = some (res, S9)) : Met l zy_W_gather (Cond.code zy_W_gather zb_W_gather 3 (none) :: zT) zm_W_gather (zP B S [.ref (B.2.1 5 (r0) (0))]) (zQv B S9) 0 0 B.2.2.2 :=
  zmet (by decide) (Nat.le_of_ble_eq_true rfl) (fun p e s m args below meth c C hr hlk hK hSt hW ls hl => zw_W_gather C hr hlk hK hSt hap r0 hr0  S  hf _ _ _ hW va_S.rf hl)
/-! IslandOfficeModel$World.oneByOne()V -/
abbrev zy_W_oneByOne : MethodName := ⟨"IslandOfficeModel$World", "oneByOne", "()V"⟩
abbrev zb_W_oneByOne : ByteArray := prog_15_method_33_code
abbrev zm_W_oneByOne : Room := { frames := 1, cells := 0, slots := 0, locals := 22 }
theorem zq_W_oneByOne : zMy zy_W_oneByOne zb_W_oneByOne 8 (none) 0 := ⟨zk_1834, zk_1833, zs_74, zk_15, by decide, by decide, by decide +kernel⟩
theorem zd_W_oneByOne_0 : decode zb_W_oneByOne 0 = .ok (.lconst 0, 1) := by decide +kernel
theorem zd_W_oneByOne_1 : decode zb_W_oneByOne 1 = .ok (.lstore_n 1, 1) := by decide +kernel
theorem zd_W_oneByOne_2 : decode zb_W_oneByOne 2 = .ok (.iconst 0, 1) := by decide +kernel
theorem zd_W_oneByOne_3 : decode zb_W_oneByOne 3 = .ok (.istore_n 3, 1) := by decide +kernel
theorem zd_W_oneByOne_4 : decode zb_W_oneByOne 4 = .ok (.iload_n 3, 1) := by decide +kernel
theorem zd_W_oneByOne_5 : decode zb_W_oneByOne 5 = .ok (.aload_n 0, 1) := by decide +kernel
theorem zd_W_oneByOne_6 : decode zb_W_oneByOne 6 = .ok (.getfield 168, 3) := by decide +kernel
theorem zd_W_oneByOne_9 : decode zb_W_oneByOne 9 = .ok (.if_icmp .ge 143, 3) := by decide +kernel
theorem zd_W_oneByOne_12 : decode zb_W_oneByOne 12 = .ok (.lconst 0, 1) := by decide +kernel
theorem zd_W_oneByOne_13 : decode zb_W_oneByOne 13 = .ok (.lstore 4, 2) := by decide +kernel
theorem zd_W_oneByOne_15 : decode zb_W_oneByOne 15 = .ok (.iconst 0, 1) := by decide +kernel
theorem zd_W_oneByOne_16 : decode zb_W_oneByOne 16 = .ok (.istore 6, 2) := by decide +kernel
theorem zd_W_oneByOne_18 : decode zb_W_oneByOne 18 = .ok (.iconst 0, 1) := by decide +kernel
theorem zd_W_oneByOne_19 : decode zb_W_oneByOne 19 = .ok (.istore 7, 2) := by decide +kernel
theorem zd_W_oneByOne_21 : decode zb_W_oneByOne 21 = .ok (.iload 7, 2) := by decide +kernel
theorem zd_W_oneByOne_23 : decode zb_W_oneByOne 23 = .ok (.aload_n 0, 1) := by decide +kernel
theorem zd_W_oneByOne_24 : decode zb_W_oneByOne 24 = .ok (.getfield 261, 3) := by decide +kernel
theorem zd_W_oneByOne_27 : decode zb_W_oneByOne 27 = .ok (.if_icmp .ge 78, 3) := by decide +kernel
theorem zd_W_oneByOne_30 : decode zb_W_oneByOne 30 = .ok (.iload 6, 2) := by decide +kernel
theorem zd_W_oneByOne_32 : decode zb_W_oneByOne 32 = .ok (.aload_n 0, 1) := by decide +kernel
theorem zd_W_oneByOne_33 : decode zb_W_oneByOne 33 = .ok (.getfield 84, 3) := by decide +kernel
theorem zd_W_oneByOne_36 : decode zb_W_oneByOne 36 = .ok (.iload_n 3, 1) := by decide +kernel
theorem zd_W_oneByOne_37 : decode zb_W_oneByOne 37 = .ok (.iaload, 1) := by decide +kernel
theorem zd_W_oneByOne_38 : decode zb_W_oneByOne 38 = .ok (.if_icmp .ge 67, 3) := by decide +kernel
theorem zd_W_oneByOne_41 : decode zb_W_oneByOne 41 = .ok (.aload_n 0, 1) := by decide +kernel
theorem zd_W_oneByOne_42 : decode zb_W_oneByOne 42 = .ok (.getfield 90, 3) := by decide +kernel
theorem zd_W_oneByOne_45 : decode zb_W_oneByOne 45 = .ok (.iload_n 3, 1) := by decide +kernel
theorem zd_W_oneByOne_46 : decode zb_W_oneByOne 46 = .ok (.iaload, 1) := by decide +kernel
theorem zd_W_oneByOne_47 : decode zb_W_oneByOne 47 = .ok (.iconst 1, 1) := by decide +kernel
theorem zd_W_oneByOne_48 : decode zb_W_oneByOne 48 = .ok (.if_icmp .ne 51, 3) := by decide +kernel
theorem zd_W_oneByOne_51 : decode zb_W_oneByOne 51 = .ok (.lload_n 1, 1) := by decide +kernel
theorem zd_W_oneByOne_52 : decode zb_W_oneByOne 52 = .ok (.aload_n 0, 1) := by decide +kernel
theorem zd_W_oneByOne_53 : decode zb_W_oneByOne 53 = .ok (.getfield 135, 3) := by decide +kernel
theorem zd_W_oneByOne_56 : decode zb_W_oneByOne 56 = .ok (.iload 7, 2) := by decide +kernel
theorem zd_W_oneByOne_58 : decode zb_W_oneByOne 58 = .ok (.iaload, 1) := by decide +kernel
theorem zd_W_oneByOne_59 : decode zb_W_oneByOne 59 = .ok (.lshr, 1) := by decide +kernel
theorem zd_W_oneByOne_60 : decode zb_W_oneByOne 60 = .ok (.lconst 1, 1) := by decide +kernel
theorem zd_W_oneByOne_61 : decode zb_W_oneByOne 61 = .ok (.land, 1) := by decide +kernel
theorem zd_W_oneByOne_62 : decode zb_W_oneByOne 62 = .ok (.lconst 0, 1) := by decide +kernel
theorem zd_W_oneByOne_63 : decode zb_W_oneByOne 63 = .ok (.lcmp, 1) := by decide +kernel
theorem zd_W_oneByOne_64 : decode zb_W_oneByOne 64 = .ok (.ifCond .ne 35, 3) := by decide +kernel
theorem zd_W_oneByOne_67 : decode zb_W_oneByOne 67 = .ok (.aload_n 0, 1) := by decide +kernel
theorem zd_W_oneByOne_68 : decode zb_W_oneByOne 68 = .ok (.iload_n 3, 1) := by decide +kernel
theorem zd_W_oneByOne_69 : decode zb_W_oneByOne 69 = .ok (.aload_n 0, 1) := by decide +kernel
theorem zd_W_oneByOne_70 : decode zb_W_oneByOne 70 = .ok (.getfield 135, 3) := by decide +kernel
theorem zd_W_oneByOne_73 : decode zb_W_oneByOne 73 = .ok (.iload 7, 2) := by decide +kernel
theorem zd_W_oneByOne_75 : decode zb_W_oneByOne 75 = .ok (.iaload, 1) := by decide +kernel
theorem zd_W_oneByOne_76 : decode zb_W_oneByOne 76 = .ok (.invokevirtual 258, 3) := by decide +kernel
theorem zd_W_oneByOne_79 : decode zb_W_oneByOne 79 = .ok (.ifCond .eq 20, 3) := by decide +kernel
theorem zd_W_oneByOne_82 : decode zb_W_oneByOne 82 = .ok (.lload 4, 2) := by decide +kernel
theorem zd_W_oneByOne_84 : decode zb_W_oneByOne 84 = .ok (.lconst 1, 1) := by decide +kernel
theorem zd_W_oneByOne_85 : decode zb_W_oneByOne 85 = .ok (.aload_n 0, 1) := by decide +kernel
theorem zd_W_oneByOne_86 : decode zb_W_oneByOne 86 = .ok (.getfield 135, 3) := by decide +kernel
theorem zd_W_oneByOne_89 : decode zb_W_oneByOne 89 = .ok (.iload 7, 2) := by decide +kernel
theorem zd_W_oneByOne_91 : decode zb_W_oneByOne 91 = .ok (.iaload, 1) := by decide +kernel
theorem zd_W_oneByOne_92 : decode zb_W_oneByOne 92 = .ok (.lshl, 1) := by decide +kernel
theorem zd_W_oneByOne_93 : decode zb_W_oneByOne 93 = .ok (.lor, 1) := by decide +kernel
theorem zd_W_oneByOne_94 : decode zb_W_oneByOne 94 = .ok (.lstore 4, 2) := by decide +kernel
theorem zd_W_oneByOne_96 : decode zb_W_oneByOne 96 = .ok (.iinc 6 1, 3) := by decide +kernel
theorem zd_W_oneByOne_99 : decode zb_W_oneByOne 99 = .ok (.iinc 7 1, 3) := by decide +kernel
theorem zd_W_oneByOne_102 : decode zb_W_oneByOne 102 = .ok (.goto (-81), 3) := by decide +kernel
theorem zd_W_oneByOne_105 : decode zb_W_oneByOne 105 = .ok (.aload_n 0, 1) := by decide +kernel
theorem zd_W_oneByOne_106 : decode zb_W_oneByOne 106 = .ok (.getfield 90, 3) := by decide +kernel
theorem zd_W_oneByOne_109 : decode zb_W_oneByOne 109 = .ok (.iload_n 3, 1) := by decide +kernel
theorem zd_W_oneByOne_110 : decode zb_W_oneByOne 110 = .ok (.iaload, 1) := by decide +kernel
theorem zd_W_oneByOne_111 : decode zb_W_oneByOne 111 = .ok (.iconst 1, 1) := by decide +kernel
theorem zd_W_oneByOne_112 : decode zb_W_oneByOne 112 = .ok (.if_icmp .ne 34, 3) := by decide +kernel
theorem zd_W_oneByOne_115 : decode zb_W_oneByOne 115 = .ok (.iload 6, 2) := by decide +kernel
theorem zd_W_oneByOne_117 : decode zb_W_oneByOne 117 = .ok (.aload_n 0, 1) := by decide +kernel
theorem zd_W_oneByOne_118 : decode zb_W_oneByOne 118 = .ok (.getfield 84, 3) := by decide +kernel
theorem zd_W_oneByOne_121 : decode zb_W_oneByOne 121 = .ok (.iload_n 3, 1) := by decide +kernel
theorem zd_W_oneByOne_122 : decode zb_W_oneByOne 122 = .ok (.iaload, 1) := by decide +kernel
theorem zd_W_oneByOne_123 : decode zb_W_oneByOne 123 = .ok (.if_icmp .ne 23, 3) := by decide +kernel
theorem zd_W_oneByOne_126 : decode zb_W_oneByOne 126 = .ok (.aload_n 0, 1) := by decide +kernel
theorem zd_W_oneByOne_127 : decode zb_W_oneByOne 127 = .ok (.getfield 138, 3) := by decide +kernel
theorem zd_W_oneByOne_130 : decode zb_W_oneByOne 130 = .ok (.iload_n 3, 1) := by decide +kernel
theorem zd_W_oneByOne_131 : decode zb_W_oneByOne 131 = .ok (.lload 4, 2) := by decide +kernel
theorem zd_W_oneByOne_133 : decode zb_W_oneByOne 133 = .ok (.lastore, 1) := by decide +kernel
theorem zd_W_oneByOne_134 : decode zb_W_oneByOne 134 = .ok (.aload_n 0, 1) := by decide +kernel
theorem zd_W_oneByOne_135 : decode zb_W_oneByOne 135 = .ok (.getfield 142, 3) := by decide +kernel
theorem zd_W_oneByOne_138 : decode zb_W_oneByOne 138 = .ok (.iload_n 3, 1) := by decide +kernel
theorem zd_W_oneByOne_139 : decode zb_W_oneByOne 139 = .ok (.iconst 1, 1) := by decide +kernel
theorem zd_W_oneByOne_140 : decode zb_W_oneByOne 140 = .ok (.bastore, 1) := by decide +kernel
theorem zd_W_oneByOne_141 : decode zb_W_oneByOne 141 = .ok (.lload_n 1, 1) := by decide +kernel
theorem zd_W_oneByOne_142 : decode zb_W_oneByOne 142 = .ok (.lload 4, 2) := by decide +kernel
theorem zd_W_oneByOne_144 : decode zb_W_oneByOne 144 = .ok (.lor, 1) := by decide +kernel
theorem zd_W_oneByOne_145 : decode zb_W_oneByOne 145 = .ok (.lstore_n 1, 1) := by decide +kernel
theorem zd_W_oneByOne_146 : decode zb_W_oneByOne 146 = .ok (.iinc 3 1, 3) := by decide +kernel
theorem zd_W_oneByOne_149 : decode zb_W_oneByOne 149 = .ok (.goto (-145), 3) := by decide +kernel
theorem zd_W_oneByOne_152 : decode zb_W_oneByOne 152 = .ok (.return_, 1) := by decide +kernel

def zf_W_oneByOne_146 (r0 : Int) (q4 : Int → Int → Sg → Option (Int × Sg)) (x1 : Int) (x3 : Int) (S : Sg) : Option (Int × Sg) :=
    zlt (zw (x3 + 1)) fun v1 => q4 (x1) (v1) S
set_option maxHeartbeats 4000000 in
set_option maxRecDepth 100000 in
theorem zw_W_oneByOne_146 {p : Program} {l : Launch} {e : Env} {s : State} {m : MethodId} {args : Array Value} {below : List Frame} {meth : Method} {c : Code} {B : zB} (C : CallFix p m c zb_W_oneByOne 8 s args zT "IslandOfficeModel$World") (hr : meth.sig.returnType = none) (hlk : meth.locks = false) (hK : zK B s) (hSt : zSt B s) (hap : zAp B) (r0 : Int) (hr0 : 0 ≤ r0 ∧ r0 < 3) {res : Int} {S9 : Sg} (q4 : Int → Int → Sg → Option (Int × Sg)) (hq4 : ∀ (x1 : Int) (x3 : Int) (S : Sg) (nx1 : zm x1) (nx3 : zn x3), q4 x1 x3 S = some (res, S9) → ∀ (H : Heap) (locs : List Loc) (ls : Array Slot), zW B S H → va_S B.2.2.2 s.heap H locs → lv_has ls 8 [(0, .ref (B.2.1 5 (r0) (0))), (1, .long (zL (x1))), (3, .int (zI (x3)))] → W p l e zm_W_oneByOne s m args below meth c H locs 0 0 (MQ below (zQv B S9) args s 0 0 B.2.2.2) (F0 m 4 ls [])) : ∀ (x1 : Int) (x3 : Int) (S : Sg) (nx1 : zm x1) (nx3 : zn x3), zf_W_oneByOne_146 r0 q4 x1 x3 S = some (res, S9) → ∀ (H : Heap) (locs : List Loc) (ls : Array Slot), zW B S H → va_S B.2.2.2 s.heap H locs → lv_has ls 8 [(0, .ref (B.2.1 5 (r0) (0))), (1, .long (zL (x1))), (3, .int (zI (x3)))] → W p l e zm_W_oneByOne s m args below meth c H locs 0 0 (MQ below (zQv B S9) args s 0 0 B.2.2.2) (F0 m 146 ls []) := by
  intro x1 x3 S nx1 nx3 hf H locs ls hW hS hl
  unfold zf_W_oneByOne_146 at hf
  obtain ⟨v1, ev1, hf⟩ := zlt_some hf
  have nv1 : zn v1 := by rw [← ev1]; exact zn_w _
  refine lv_iinc (v := zI v1) (lv' := [(3, .int (zI (v1))), (0, .ref (B.2.1 5 (r0) (0))), (1, .long (zL (x1)))]) C.1 C.2.1 zd_W_oneByOne_146 hl (k := 2) rfl (by rw [← ev1, ← zI_add]; rfl) (by decide) rfl (fun ls hl => ?_)
  refine lv_goto (tgt := 4) C.1 C.2.1 zd_W_oneByOne_149 (by decide) ?_
  exact hq4 (x1) (v1) S nx1 nv1 hf _ _ _ hW hS (lv_sub hl [1, 2, 0] rfl)

def zf_W_oneByOne_105 (r0 : Int) (q4 : Int → Int → Sg → Option (Int × Sg)) (x1 : Int) (x3 : Int) (x4 : Int) (x6 : Int) (S : Sg) : Option (Int × Sg) :=
    zck (0 ≤ x3 ∧ x3 < 8) <| if (S 5 r0 24 x3) = 1 then (if x6 = (S 5 r0 22 x3) then (zlt (zu S 21 r0 0 x3 x4) fun S4 => zlt (zu S4 5 r0 37 x3 1) fun S5 => zlt (zlor x1 x4) fun v6 => zf_W_oneByOne_146 r0 q4 (v6) (x3) S5) else (zf_W_oneByOne_146 r0 q4 (x1) (x3) S)) else (zf_W_oneByOne_146 r0 q4 (x1) (x3) S)
set_option maxHeartbeats 4000000 in
set_option maxRecDepth 100000 in
theorem zw_W_oneByOne_105 {p : Program} {l : Launch} {e : Env} {s : State} {m : MethodId} {args : Array Value} {below : List Frame} {meth : Method} {c : Code} {B : zB} (C : CallFix p m c zb_W_oneByOne 8 s args zT "IslandOfficeModel$World") (hr : meth.sig.returnType = none) (hlk : meth.locks = false) (hK : zK B s) (hSt : zSt B s) (hap : zAp B) (r0 : Int) (hr0 : 0 ≤ r0 ∧ r0 < 3) {res : Int} {S9 : Sg} (q4 : Int → Int → Sg → Option (Int × Sg)) (hq4 : ∀ (x1 : Int) (x3 : Int) (S : Sg) (nx1 : zm x1) (nx3 : zn x3), q4 x1 x3 S = some (res, S9) → ∀ (H : Heap) (locs : List Loc) (ls : Array Slot), zW B S H → va_S B.2.2.2 s.heap H locs → lv_has ls 8 [(0, .ref (B.2.1 5 (r0) (0))), (1, .long (zL (x1))), (3, .int (zI (x3)))] → W p l e zm_W_oneByOne s m args below meth c H locs 0 0 (MQ below (zQv B S9) args s 0 0 B.2.2.2) (F0 m 4 ls [])) : ∀ (x1 : Int) (x3 : Int) (x4 : Int) (x6 : Int) (S : Sg) (nx1 : zm x1) (nx3 : zn x3) (nx4 : zm x4) (nx6 : zn x6), zf_W_oneByOne_105 r0 q4 x1 x3 x4 x6 S = some (res, S9) → ∀ (H : Heap) (locs : List Loc) (ls : Array Slot), zW B S H → va_S B.2.2.2 s.heap H locs → lv_has ls 8 [(0, .ref (B.2.1 5 (r0) (0))), (1, .long (zL (x1))), (3, .int (zI (x3))), (4, .long (zL (x4))), (6, .int (zI (x6)))] → W p l e zm_W_oneByOne s m args below meth c H locs 0 0 (MQ below (zQv B S9) args s 0 0 B.2.2.2) (F0 m 105 ls []) := by
  intro x1 x3 x4 x6 S nx1 nx3 nx4 nx6 hf H locs ls hW hS hl
  unfold zf_W_oneByOne_105 at hf
  refine lv_aload_n C.1 C.2.1 zd_W_oneByOne_105 rfl (lv_at hl 0 rfl) ?_
  refine zg_W_postOpen (r := r0) C hK hW (zvd_5 hr0 (by decide)) zk_1333 zd_W_oneByOne_106 ?_
  refine lv_iload_n C.1 C.2.1 zd_W_oneByOne_109 rfl (lv_at hl 2 rfl) ?_
  obtain ⟨h1, hf⟩ := zck_some hf
  refine ziald C hK hW (zvd_5 hr0 (by decide)) (fun f => ze_5_24 B f (r0)) (by decide) h1 zd_W_oneByOne_110 ?_
  refine zr_iconst C zd_W_oneByOne_111 ?_
  refine zr_icmp_ne (tgt := 146) C (zWn hW _ _ _ _ rfl) (znb rfl) zd_W_oneByOne_112 (by decide) (fun c2 => ?_) (fun c2 => ?_)
  · rw [if_neg c2] at hf
    exact zw_W_oneByOne_146 C hr hlk hK hSt hap r0 hr0 q4 hq4 (x1) (x3) S nx1 nx3 hf _ _ _ hW hS (lv_sub hl [0, 1, 2] rfl)
  · rw [if_pos c2] at hf
    refine lv_iload C.1 C.2.1 zd_W_oneByOne_115 (lv_at hl 4 rfl) ?_
    refine lv_aload_n C.1 C.2.1 zd_W_oneByOne_117 rfl (lv_at hl 0 rfl) ?_
    refine zg_W_postHands (r := r0) C hK hW (zvd_5 hr0 (by decide)) zk_1329 zd_W_oneByOne_118 ?_
    refine lv_iload_n C.1 C.2.1 zd_W_oneByOne_121 rfl (lv_at hl 2 rfl) ?_
    refine ziald C hK hW (zvd_5 hr0 (by decide)) (fun f => ze_5_22 B f (r0)) (by decide) h1 zd_W_oneByOne_122 ?_
    refine zr_icmp_ne (tgt := 146) C nx6 (zWn hW _ _ _ _ rfl) zd_W_oneByOne_123 (by decide) (fun c3 => ?_) (fun c3 => ?_)
    · rw [if_neg c3] at hf
      exact zw_W_oneByOne_146 C hr hlk hK hSt hap r0 hr0 q4 hq4 (x1) (x3) S nx1 nx3 hf _ _ _ hW hS (lv_sub hl [0, 1, 2] rfl)
    · rw [if_pos c3] at hf
      refine lv_aload_n C.1 C.2.1 zd_W_oneByOne_126 rfl (lv_at hl 0 rfl) ?_
      refine zg_W_crew (r := r0) C hK hW (zvd_5 hr0 (by decide)) zk_1375 zd_W_oneByOne_127 ?_
      refine lv_iload_n C.1 C.2.1 zd_W_oneByOne_130 rfl (lv_at hl 2 rfl) ?_
      refine lv_lload C.1 C.2.1 zd_W_oneByOne_131 (lv_at hl 3 rfl) ?_
      obtain ⟨S4, eS4, hf⟩ := zlt_some hf
      refine zlast C hK hap hW hS (zvd_21 hr0 (by decide)) (fun f => ze_21_0 B f (r0)) (by decide) rfl nx4 h1 zd_W_oneByOne_133 (fun H locs hW hS => ?_)
      rw [eS4] at hW
      refine lv_aload_n C.1 C.2.1 zd_W_oneByOne_134 rfl (lv_at hl 0 rfl) ?_
      refine zg_W_isFilled (r := r0) C hK hW (zvd_5 hr0 (by decide)) zk_1377 zd_W_oneByOne_135 ?_
      refine lv_iload_n C.1 C.2.1 zd_W_oneByOne_138 rfl (lv_at hl 2 rfl) ?_
      refine zr_iconst C zd_W_oneByOne_139 ?_
      obtain ⟨S5, eS5, hf⟩ := zlt_some hf
      refine zzast C hK hap hW hS (zvd_5 hr0 (by decide)) (fun f => ze_5_37 B f (r0)) (by decide) rfl (znb rfl) rfl h1 zd_W_oneByOne_140 (fun H locs hW hS => ?_)
      rw [eS5] at hW
      refine lv_lload_n C.1 C.2.1 zd_W_oneByOne_141 rfl (lv_at hl 1 rfl) ?_
      refine lv_lload C.1 C.2.1 zd_W_oneByOne_142 (lv_at hl 3 rfl) ?_
      refine zr_lor C zd_W_oneByOne_144 ?_
      obtain ⟨v6, ev6, hf⟩ := zlt_some hf
      have nv6 : zm v6 := by rw [← ev6]; exact (zm_lor _ _)
      rw [ev6]
      refine lv_lstore_n (lv' := [(1, .long (zL (v6))), (0, .ref (B.2.1 5 (r0) (0))), (3, .int (zI (x3))), (4, .long (zL (x4))), (6, .int (zI (x6)))]) C.1 C.2.1 zd_W_oneByOne_145 rfl hl (by decide) rfl (fun ls hl => ?_)
      exact zw_W_oneByOne_146 C hr hlk hK hSt hap r0 hr0 q4 hq4 (v6) (x3) S5 nv6 nx3 hf _ _ _ hW hS (lv_sub hl [1, 0, 2] rfl)

def zf_W_oneByOne_99 (r0 : Int) (q4 : Int → Int → Sg → Option (Int × Sg)) (q21 : Int → Int → Int → Int → Int → Sg → Option (Int × Sg)) (x1 : Int) (x3 : Int) (x4 : Int) (x6 : Int) (x7 : Int) (S : Sg) : Option (Int × Sg) :=
    zlt (zw (x7 + 1)) fun v1 => q21 (x1) (x3) (x4) (x6) (v1) S
set_option maxHeartbeats 4000000 in
set_option maxRecDepth 100000 in
theorem zw_W_oneByOne_99 {p : Program} {l : Launch} {e : Env} {s : State} {m : MethodId} {args : Array Value} {below : List Frame} {meth : Method} {c : Code} {B : zB} (C : CallFix p m c zb_W_oneByOne 8 s args zT "IslandOfficeModel$World") (hr : meth.sig.returnType = none) (hlk : meth.locks = false) (hK : zK B s) (hSt : zSt B s) (hap : zAp B) (r0 : Int) (hr0 : 0 ≤ r0 ∧ r0 < 3) {res : Int} {S9 : Sg} (q4 : Int → Int → Sg → Option (Int × Sg)) (hq4 : ∀ (x1 : Int) (x3 : Int) (S : Sg) (nx1 : zm x1) (nx3 : zn x3), q4 x1 x3 S = some (res, S9) → ∀ (H : Heap) (locs : List Loc) (ls : Array Slot), zW B S H → va_S B.2.2.2 s.heap H locs → lv_has ls 8 [(0, .ref (B.2.1 5 (r0) (0))), (1, .long (zL (x1))), (3, .int (zI (x3)))] → W p l e zm_W_oneByOne s m args below meth c H locs 0 0 (MQ below (zQv B S9) args s 0 0 B.2.2.2) (F0 m 4 ls [])) (q21 : Int → Int → Int → Int → Int → Sg → Option (Int × Sg)) (hq21 : ∀ (x1 : Int) (x3 : Int) (x4 : Int) (x6 : Int) (x7 : Int) (S : Sg) (nx1 : zm x1) (nx3 : zn x3) (nx4 : zm x4) (nx6 : zn x6) (nx7 : zn x7), q21 x1 x3 x4 x6 x7 S = some (res, S9) → ∀ (H : Heap) (locs : List Loc) (ls : Array Slot), zW B S H → va_S B.2.2.2 s.heap H locs → lv_has ls 8 [(0, .ref (B.2.1 5 (r0) (0))), (1, .long (zL (x1))), (3, .int (zI (x3))), (4, .long (zL (x4))), (6, .int (zI (x6))), (7, .int (zI (x7)))] → W p l e zm_W_oneByOne s m args below meth c H locs 0 0 (MQ below (zQv B S9) args s 0 0 B.2.2.2) (F0 m 21 ls [])) : ∀ (x1 : Int) (x3 : Int) (x4 : Int) (x6 : Int) (x7 : Int) (S : Sg) (nx1 : zm x1) (nx3 : zn x3) (nx4 : zm x4) (nx6 : zn x6) (nx7 : zn x7), zf_W_oneByOne_99 r0 q4 q21 x1 x3 x4 x6 x7 S = some (res, S9) → ∀ (H : Heap) (locs : List Loc) (ls : Array Slot), zW B S H → va_S B.2.2.2 s.heap H locs → lv_has ls 8 [(0, .ref (B.2.1 5 (r0) (0))), (1, .long (zL (x1))), (3, .int (zI (x3))), (4, .long (zL (x4))), (6, .int (zI (x6))), (7, .int (zI (x7)))] → W p l e zm_W_oneByOne s m args below meth c H locs 0 0 (MQ below (zQv B S9) args s 0 0 B.2.2.2) (F0 m 99 ls []) := by
  intro x1 x3 x4 x6 x7 S nx1 nx3 nx4 nx6 nx7 hf H locs ls hW hS hl
  unfold zf_W_oneByOne_99 at hf
  obtain ⟨v1, ev1, hf⟩ := zlt_some hf
  have nv1 : zn v1 := by rw [← ev1]; exact zn_w _
  refine lv_iinc (v := zI v1) (lv' := [(7, .int (zI (v1))), (0, .ref (B.2.1 5 (r0) (0))), (1, .long (zL (x1))), (3, .int (zI (x3))), (4, .long (zL (x4))), (6, .int (zI (x6)))]) C.1 C.2.1 zd_W_oneByOne_99 hl (k := 5) rfl (by rw [← ev1, ← zI_add]; rfl) (by decide) rfl (fun ls hl => ?_)
  refine lv_goto (tgt := 21) C.1 C.2.1 zd_W_oneByOne_102 (by decide) ?_
  exact hq21 (x1) (x3) (x4) (x6) (v1) S nx1 nx3 nx4 nx6 nv1 hf _ _ _ hW hS (lv_sub hl [1, 2, 3, 4, 5, 0] rfl)

def zf_W_oneByOne_21 (r0 : Int) (q4 : Int → Int → Sg → Option (Int × Sg)) : Nat → Int → Int → Int → Int → Int → Sg → Option (Int × Sg)
  | 0, _, _, _, _, _, _ => none
  | n + 1, x1, x3, x4, x6, x7, S =>
    if (S 5 r0 0 52) ≤ x7 then (zf_W_oneByOne_105 r0 q4 (x1) (x3) (x4) (x6) S) else (zck (0 ≤ x3 ∧ x3 < 8) <| if (S 5 r0 22 x3) ≤ x6 then (zf_W_oneByOne_105 r0 q4 (x1) (x3) (x4) (x6) S) else (if (S 5 r0 24 x3) = 1 then (zck (0 ≤ x7 ∧ x7 < 40) <| if (zcmp (zlnd (zlsr x1 (S 5 r0 36 x7)) 1) 0) = 0 then (zbd (zf_W_fits (r0) x3 (S 5 r0 36 x7) S) fun a7 S8 => if a7 = 0 then (zf_W_oneByOne_99 r0 q4 (zf_W_oneByOne_21 r0 q4 n) (x1) (x3) (x4) (x6) (x7) S8) else (zlt (zlor x4 (zlsl 1 (S8 5 r0 36 x7))) fun v10 => zlt (zw (x6 + 1)) fun v11 => zf_W_oneByOne_99 r0 q4 (zf_W_oneByOne_21 r0 q4 n) (x1) (x3) (v10) (v11) (x7) S8)) else (zf_W_oneByOne_99 r0 q4 (zf_W_oneByOne_21 r0 q4 n) (x1) (x3) (x4) (x6) (x7) S)) else (zf_W_oneByOne_99 r0 q4 (zf_W_oneByOne_21 r0 q4 n) (x1) (x3) (x4) (x6) (x7) S)))
set_option maxHeartbeats 4000000 in
set_option maxRecDepth 100000 in
theorem zw_W_oneByOne_21 {p : Program} {l : Launch} {e : Env} {s : State} {m : MethodId} {args : Array Value} {below : List Frame} {meth : Method} {c : Code} {B : zB} (C : CallFix p m c zb_W_oneByOne 8 s args zT "IslandOfficeModel$World") (hr : meth.sig.returnType = none) (hlk : meth.locks = false) (hK : zK B s) (hSt : zSt B s) (hap : zAp B) (r0 : Int) (hr0 : 0 ≤ r0 ∧ r0 < 3) {res : Int} {S9 : Sg} (q4 : Int → Int → Sg → Option (Int × Sg)) (hq4 : ∀ (x1 : Int) (x3 : Int) (S : Sg) (nx1 : zm x1) (nx3 : zn x3), q4 x1 x3 S = some (res, S9) → ∀ (H : Heap) (locs : List Loc) (ls : Array Slot), zW B S H → va_S B.2.2.2 s.heap H locs → lv_has ls 8 [(0, .ref (B.2.1 5 (r0) (0))), (1, .long (zL (x1))), (3, .int (zI (x3)))] → W p l e zm_W_oneByOne s m args below meth c H locs 0 0 (MQ below (zQv B S9) args s 0 0 B.2.2.2) (F0 m 4 ls [])) : ∀ n : Nat, ∀ (x1 : Int) (x3 : Int) (x4 : Int) (x6 : Int) (x7 : Int) (S : Sg) (nx1 : zm x1) (nx3 : zn x3) (nx4 : zm x4) (nx6 : zn x6) (nx7 : zn x7), zf_W_oneByOne_21 r0 q4 n x1 x3 x4 x6 x7 S = some (res, S9) → ∀ (H : Heap) (locs : List Loc) (ls : Array Slot), zW B S H → va_S B.2.2.2 s.heap H locs → lv_has ls 8 [(0, .ref (B.2.1 5 (r0) (0))), (1, .long (zL (x1))), (3, .int (zI (x3))), (4, .long (zL (x4))), (6, .int (zI (x6))), (7, .int (zI (x7)))] → W p l e zm_W_oneByOne s m args below meth c H locs 0 0 (MQ below (zQv B S9) args s 0 0 B.2.2.2) (F0 m 21 ls []) := by
  intro n
  induction n with
  | zero =>
    intro x1 x3 x4 x6 x7 S nx1 nx3 nx4 nx6 nx7 hf H locs ls hW hS hl
    cases hf
  | succ n ih =>
    intro x1 x3 x4 x6 x7 S nx1 nx3 nx4 nx6 nx7 hf H locs ls hW hS hl
    rw [zf_W_oneByOne_21] at hf
    refine lv_iload C.1 C.2.1 zd_W_oneByOne_21 (lv_at hl 5 rfl) ?_
    refine lv_aload_n C.1 C.2.1 zd_W_oneByOne_23 rfl (lv_at hl 0 rfl) ?_
    refine zg_W_cans (r := r0) C hK hW (zvd_5 hr0 (by decide)) zk_1374 zd_W_oneByOne_24 ?_
    refine zr_icmp_ge (tgt := 105) C nx7 (zWn hW _ _ _ _ rfl) zd_W_oneByOne_27 (by decide) (fun c1 => ?_) (fun c1 => ?_)
    · rw [if_pos c1] at hf
      exact zw_W_oneByOne_105 C hr hlk hK hSt hap r0 hr0 q4 hq4 (x1) (x3) (x4) (x6) S nx1 nx3 nx4 nx6 hf _ _ _ hW hS (lv_sub hl [0, 1, 2, 3, 4] rfl)
    · rw [if_neg c1] at hf
      refine lv_iload C.1 C.2.1 zd_W_oneByOne_30 (lv_at hl 4 rfl) ?_
      refine lv_aload_n C.1 C.2.1 zd_W_oneByOne_32 rfl (lv_at hl 0 rfl) ?_
      refine zg_W_postHands (r := r0) C hK hW (zvd_5 hr0 (by decide)) zk_1329 zd_W_oneByOne_33 ?_
      refine lv_iload_n C.1 C.2.1 zd_W_oneByOne_36 rfl (lv_at hl 2 rfl) ?_
      obtain ⟨h2, hf⟩ := zck_some hf
      refine ziald C hK hW (zvd_5 hr0 (by decide)) (fun f => ze_5_22 B f (r0)) (by decide) h2 zd_W_oneByOne_37 ?_
      refine zr_icmp_ge (tgt := 105) C nx6 (zWn hW _ _ _ _ rfl) zd_W_oneByOne_38 (by decide) (fun c3 => ?_) (fun c3 => ?_)
      · rw [if_pos c3] at hf
        exact zw_W_oneByOne_105 C hr hlk hK hSt hap r0 hr0 q4 hq4 (x1) (x3) (x4) (x6) S nx1 nx3 nx4 nx6 hf _ _ _ hW hS (lv_sub hl [0, 1, 2, 3, 4] rfl)
      · rw [if_neg c3] at hf
        refine lv_aload_n C.1 C.2.1 zd_W_oneByOne_41 rfl (lv_at hl 0 rfl) ?_
        refine zg_W_postOpen (r := r0) C hK hW (zvd_5 hr0 (by decide)) zk_1333 zd_W_oneByOne_42 ?_
        refine lv_iload_n C.1 C.2.1 zd_W_oneByOne_45 rfl (lv_at hl 2 rfl) ?_
        refine ziald C hK hW (zvd_5 hr0 (by decide)) (fun f => ze_5_24 B f (r0)) (by decide) h2 zd_W_oneByOne_46 ?_
        refine zr_iconst C zd_W_oneByOne_47 ?_
        refine zr_icmp_ne (tgt := 99) C (zWn hW _ _ _ _ rfl) (znb rfl) zd_W_oneByOne_48 (by decide) (fun c4 => ?_) (fun c4 => ?_)
        · rw [if_neg c4] at hf
          exact zw_W_oneByOne_99 C hr hlk hK hSt hap r0 hr0 q4 hq4 (zf_W_oneByOne_21 r0 q4 n) (ih) (x1) (x3) (x4) (x6) (x7) S nx1 nx3 nx4 nx6 nx7 hf _ _ _ hW hS (lv_sub hl [0, 1, 2, 3, 4, 5] rfl)
        · rw [if_pos c4] at hf
          refine lv_lload_n C.1 C.2.1 zd_W_oneByOne_51 rfl (lv_at hl 1 rfl) ?_
          refine lv_aload_n C.1 C.2.1 zd_W_oneByOne_52 rfl (lv_at hl 0 rfl) ?_
          refine zg_W_can (r := r0) C hK hW (zvd_5 hr0 (by decide)) zk_1373 zd_W_oneByOne_53 ?_
          refine lv_iload C.1 C.2.1 zd_W_oneByOne_56 (lv_at hl 5 rfl) ?_
          obtain ⟨h5, hf⟩ := zck_some hf
          refine ziald C hK hW (zvd_5 hr0 (by decide)) (fun f => ze_5_36 B f (r0)) (by decide) h5 zd_W_oneByOne_58 ?_
          refine zr_lshr C zd_W_oneByOne_59 ?_
          refine zr_lconst (k := 1) C zd_W_oneByOne_60 rfl ?_
          refine zr_land C zd_W_oneByOne_61 ?_
          refine zr_lconst (k := 0) C zd_W_oneByOne_62 rfl ?_
          refine zr_lcmp C (zm_lnd _ _) (zmb rfl) zd_W_oneByOne_63 ?_
          refine zr_if_ne (tgt := 99) C (zn_cmp _ _) zd_W_oneByOne_64 (by decide) (fun c6 => ?_) (fun c6 => ?_)
          · rw [if_neg c6] at hf
            exact zw_W_oneByOne_99 C hr hlk hK hSt hap r0 hr0 q4 hq4 (zf_W_oneByOne_21 r0 q4 n) (ih) (x1) (x3) (x4) (x6) (x7) S nx1 nx3 nx4 nx6 nx7 hf _ _ _ hW hS (lv_sub hl [0, 1, 2, 3, 4, 5] rfl)
          · rw [if_pos c6] at hf
            refine lv_aload_n C.1 C.2.1 zd_W_oneByOne_67 rfl (lv_at hl 0 rfl) ?_
            refine lv_iload_n C.1 C.2.1 zd_W_oneByOne_68 rfl (lv_at hl 2 rfl) ?_
            refine lv_aload_n C.1 C.2.1 zd_W_oneByOne_69 rfl (lv_at hl 0 rfl) ?_
            refine zg_W_can (r := r0) C hK hW (zvd_5 hr0 (by decide)) zk_1373 zd_W_oneByOne_70 ?_
            refine lv_iload C.1 C.2.1 zd_W_oneByOne_73 (lv_at hl 5 rfl) ?_
            refine ziald C hK hW (zvd_5 hr0 (by decide)) (fun f => ze_5_36 B f (r0)) (by decide) h5 zd_W_oneByOne_75 ?_
            obtain ⟨a7, S8, ea7, hf⟩ := zbd_some hf
            refine zcVi (As := [.int (zI (x3)), .int (zI (S 5 r0 36 x7))]) (rest := []) C hK hSt hW hS (zc_W_fits hap (r0) hr0 x3 (S 5 r0 36 x7) S nx3 (zWn hW _ _ _ _ rfl) ea7) zq_W_fits zk_1803 (zrecv hK hW (zvd_5 hr0 (by decide)) (ze_5_0 B _ (r0)) rfl) ⟨rfl, rfl, by decide, by decide⟩ ⟨Nat.zero_le _, Nat.zero_le _⟩ rfl hl.1 rfl (lv_room (Nat.le_of_ble_eq_true rfl)) zd_W_oneByOne_76 (fun na7 H locs hW hS => ?_)
            refine zr_if_eq (tgt := 99) C na7 zd_W_oneByOne_79 (by decide) (fun c9 => ?_) (fun c9 => ?_)
            · rw [if_pos c9] at hf
              exact zw_W_oneByOne_99 C hr hlk hK hSt hap r0 hr0 q4 hq4 (zf_W_oneByOne_21 r0 q4 n) (ih) (x1) (x3) (x4) (x6) (x7) S8 nx1 nx3 nx4 nx6 nx7 hf _ _ _ hW hS (lv_sub hl [0, 1, 2, 3, 4, 5] rfl)
            · rw [if_neg c9] at hf
              refine lv_lload C.1 C.2.1 zd_W_oneByOne_82 (lv_at hl 3 rfl) ?_
              refine zr_lconst (k := 1) C zd_W_oneByOne_84 rfl ?_
              refine lv_aload_n C.1 C.2.1 zd_W_oneByOne_85 rfl (lv_at hl 0 rfl) ?_
              refine zg_W_can (r := r0) C hK hW (zvd_5 hr0 (by decide)) zk_1373 zd_W_oneByOne_86 ?_
              refine lv_iload C.1 C.2.1 zd_W_oneByOne_89 (lv_at hl 5 rfl) ?_
              refine ziald C hK hW (zvd_5 hr0 (by decide)) (fun f => ze_5_36 B f (r0)) (by decide) h5 zd_W_oneByOne_91 ?_
              refine zr_lshl C zd_W_oneByOne_92 ?_
              refine zr_lor C zd_W_oneByOne_93 ?_
              obtain ⟨v10, ev10, hf⟩ := zlt_some hf
              have nv10 : zm v10 := by rw [← ev10]; exact (zm_lor _ _)
              rw [ev10]
              refine lv_lstore (lv' := [(4, .long (zL (v10))), (0, .ref (B.2.1 5 (r0) (0))), (1, .long (zL (x1))), (3, .int (zI (x3))), (6, .int (zI (x6))), (7, .int (zI (x7)))]) C.1 C.2.1 zd_W_oneByOne_94 hl (by decide) rfl (fun ls hl => ?_)
              obtain ⟨v11, ev11, hf⟩ := zlt_some hf
              have nv11 : zn v11 := by rw [← ev11]; exact zn_w _
              refine lv_iinc (v := zI v11) (lv' := [(6, .int (zI (v11))), (4, .long (zL (v10))), (0, .ref (B.2.1 5 (r0) (0))), (1, .long (zL (x1))), (3, .int (zI (x3))), (7, .int (zI (x7)))]) C.1 C.2.1 zd_W_oneByOne_96 hl (k := 4) rfl (by rw [← ev11, ← zI_add]; rfl) (by decide) rfl (fun ls hl => ?_)
              exact zw_W_oneByOne_99 C hr hlk hK hSt hap r0 hr0 q4 hq4 (zf_W_oneByOne_21 r0 q4 n) (ih) (x1) (x3) (v10) (v11) (x7) S8 nx1 nx3 nv10 nv11 nx7 hf _ _ _ hW hS (lv_sub hl [2, 3, 4, 1, 0, 5] rfl)

def zf_W_oneByOne_4 (r0 : Int) : Nat → Int → Int → Sg → Option (Int × Sg)
  | 0, _, _, _ => none
  | n + 1, x1, x3, S =>
    if (S 5 r0 0 25) ≤ x3 then (some (0, S)) else (zf_W_oneByOne_21 r0 (zf_W_oneByOne_4 r0 n) 4096 (x1) (x3) (0) (0) (0) S)
set_option maxHeartbeats 4000000 in
set_option maxRecDepth 100000 in
theorem zw_W_oneByOne_4 {p : Program} {l : Launch} {e : Env} {s : State} {m : MethodId} {args : Array Value} {below : List Frame} {meth : Method} {c : Code} {B : zB} (C : CallFix p m c zb_W_oneByOne 8 s args zT "IslandOfficeModel$World") (hr : meth.sig.returnType = none) (hlk : meth.locks = false) (hK : zK B s) (hSt : zSt B s) (hap : zAp B) (r0 : Int) (hr0 : 0 ≤ r0 ∧ r0 < 3) {res : Int} {S9 : Sg} : ∀ n : Nat, ∀ (x1 : Int) (x3 : Int) (S : Sg) (nx1 : zm x1) (nx3 : zn x3), zf_W_oneByOne_4 r0 n x1 x3 S = some (res, S9) → ∀ (H : Heap) (locs : List Loc) (ls : Array Slot), zW B S H → va_S B.2.2.2 s.heap H locs → lv_has ls 8 [(0, .ref (B.2.1 5 (r0) (0))), (1, .long (zL (x1))), (3, .int (zI (x3)))] → W p l e zm_W_oneByOne s m args below meth c H locs 0 0 (MQ below (zQv B S9) args s 0 0 B.2.2.2) (F0 m 4 ls []) := by
  intro n
  induction n with
  | zero =>
    intro x1 x3 S nx1 nx3 hf H locs ls hW hS hl
    cases hf
  | succ n ih =>
    intro x1 x3 S nx1 nx3 hf H locs ls hW hS hl
    rw [zf_W_oneByOne_4] at hf
    refine lv_iload_n C.1 C.2.1 zd_W_oneByOne_4 rfl (lv_at hl 2 rfl) ?_
    refine lv_aload_n C.1 C.2.1 zd_W_oneByOne_5 rfl (lv_at hl 0 rfl) ?_
    refine zg_W_posts (r := r0) C hK hW (zvd_5 hr0 (by decide)) zk_1325 zd_W_oneByOne_6 ?_
    refine zr_icmp_ge (tgt := 152) C nx3 (zWn hW _ _ _ _ rfl) zd_W_oneByOne_9 (by decide) (fun c1 => ?_) (fun c1 => ?_)
    · rw [if_pos c1] at hf
      cases hf
      exact zre_v C hr hlk hK hW hS zd_W_oneByOne_152
    · rw [if_neg c1] at hf
      refine zr_lconst (k := 0) C zd_W_oneByOne_12 rfl ?_
      refine lv_lstore (lv' := [(4, .long (zL (0))), (0, .ref (B.2.1 5 (r0) (0))), (1, .long (zL (x1))), (3, .int (zI (x3)))]) C.1 C.2.1 zd_W_oneByOne_13 hl (by decide) rfl (fun ls hl => ?_)
      refine zr_iconst C zd_W_oneByOne_15 ?_
      refine lv_istore (lv' := [(6, .int (zI (0))), (4, .long (zL (0))), (0, .ref (B.2.1 5 (r0) (0))), (1, .long (zL (x1))), (3, .int (zI (x3)))]) C.1 C.2.1 zd_W_oneByOne_16 hl (by decide) rfl (fun ls hl => ?_)
      refine zr_iconst C zd_W_oneByOne_18 ?_
      refine lv_istore (lv' := [(7, .int (zI (0))), (6, .int (zI (0))), (4, .long (zL (0))), (0, .ref (B.2.1 5 (r0) (0))), (1, .long (zL (x1))), (3, .int (zI (x3)))]) C.1 C.2.1 zd_W_oneByOne_19 hl (by decide) rfl (fun ls hl => ?_)
      exact zw_W_oneByOne_21 C hr hlk hK hSt hap r0 hr0 (zf_W_oneByOne_4 r0 n) (ih) 4096 (x1) (x3) (0) (0) (0) S nx1 nx3 (zmb rfl) (znb rfl) (znb rfl) hf _ _ _ hW hS (lv_sub hl [3, 4, 5, 2, 1, 0] rfl)

def zf_W_oneByOne (r0 : Int) (S : Sg) : Option (Int × Sg) :=
    zf_W_oneByOne_4 r0 4096 (0) (0) S
set_option maxHeartbeats 4000000 in
set_option maxRecDepth 100000 in
theorem zw_W_oneByOne {p : Program} {l : Launch} {e : Env} {s : State} {m : MethodId} {args : Array Value} {below : List Frame} {meth : Method} {c : Code} {B : zB} (C : CallFix p m c zb_W_oneByOne 8 s args zT "IslandOfficeModel$World") (hr : meth.sig.returnType = none) (hlk : meth.locks = false) (hK : zK B s) (hSt : zSt B s) (hap : zAp B) (r0 : Int) (hr0 : 0 ≤ r0 ∧ r0 < 3) {res : Int} {S9 : Sg} : ∀  (S : Sg) , zf_W_oneByOne r0  S = some (res, S9) → ∀ (H : Heap) (locs : List Loc) (ls : Array Slot), zW B S H → va_S B.2.2.2 s.heap H locs → lv_has ls 8 [(0, .ref (B.2.1 5 (r0) (0)))] → W p l e zm_W_oneByOne s m args below meth c H locs 0 0 (MQ below (zQv B S9) args s 0 0 B.2.2.2) (F0 m 0 ls []) := by
  intro S hf H locs ls hW hS hl
  unfold zf_W_oneByOne at hf
  refine zr_lconst (k := 0) C zd_W_oneByOne_0 rfl ?_
  refine lv_lstore_n (lv' := [(1, .long (zL (0))), (0, .ref (B.2.1 5 (r0) (0)))]) C.1 C.2.1 zd_W_oneByOne_1 rfl hl (by decide) rfl (fun ls hl => ?_)
  refine zr_iconst C zd_W_oneByOne_2 ?_
  refine lv_istore_n (lv' := [(3, .int (zI (0))), (1, .long (zL (0))), (0, .ref (B.2.1 5 (r0) (0)))]) C.1 C.2.1 zd_W_oneByOne_3 rfl hl (by decide) rfl (fun ls hl => ?_)
  exact zw_W_oneByOne_4 C hr hlk hK hSt hap r0 hr0 4096 (0) (0) S (zmb rfl) (znb rfl) hf _ _ _ hW hS (lv_sub hl [2, 1, 0] rfl)

theorem zc_W_oneByOne {l : Launch} {B : zB} (hap : zAp B) (r0 : Int) (hr0 : 0 ≤ r0 ∧ r0 < 3) (S : Sg) {res : Int} {S9 : Sg} (hf : zf_W_oneByOne r0 S = some (res, S9)) : Met l zy_W_oneByOne (Cond.code zy_W_oneByOne zb_W_oneByOne 8 (none) :: zT) zm_W_oneByOne (zP B S [.ref (B.2.1 5 (r0) (0))]) (zQv B S9) 0 0 B.2.2.2 :=
  zmet (by decide) (Nat.le_of_ble_eq_true rfl) (fun p e s m args below meth c C hr hlk hK hSt hW ls hl => zw_W_oneByOne C hr hlk hK hSt hap r0 hr0  S  hf _ _ _ hW va_S.rf hl)
/-! IslandOfficeModel$World.fill()I -/
abbrev zy_W_fill : MethodName := ⟨"IslandOfficeModel$World", "fill", "()I"⟩
abbrev zb_W_fill : ByteArray := prog_15_method_34_code
abbrev zm_W_fill : Room := { frames := 395, cells := 0, slots := 0, locals := 8561 }
theorem zq_W_fill : zMy zy_W_fill zb_W_fill 3 (some .int) 0 := ⟨zk_1794, zk_1792, zk_1793, zk_15, by decide, by decide, by decide +kernel⟩
theorem zd_W_fill_0 : decode zb_W_fill 0 = .ok (.aload_n 0, 1) := by decide +kernel
theorem zd_W_fill_1 : decode zb_W_fill 1 = .ok (.invokevirtual 283, 3) := by decide +kernel
theorem zd_W_fill_4 : decode zb_W_fill 4 = .ok (.iconst 0, 1) := by decide +kernel
theorem zd_W_fill_5 : decode zb_W_fill 5 = .ok (.istore_n 1, 1) := by decide +kernel
theorem zd_W_fill_6 : decode zb_W_fill 6 = .ok (.iload_n 1, 1) := by decide +kernel
theorem zd_W_fill_7 : decode zb_W_fill 7 = .ok (.bipush 8, 2) := by decide +kernel
theorem zd_W_fill_9 : decode zb_W_fill 9 = .ok (.if_icmp .ge 23, 3) := by decide +kernel
theorem zd_W_fill_12 : decode zb_W_fill 12 = .ok (.aload_n 0, 1) := by decide +kernel
theorem zd_W_fill_13 : decode zb_W_fill 13 = .ok (.getfield 138, 3) := by decide +kernel
theorem zd_W_fill_16 : decode zb_W_fill 16 = .ok (.iload_n 1, 1) := by decide +kernel
theorem zd_W_fill_17 : decode zb_W_fill 17 = .ok (.lconst 0, 1) := by decide +kernel
theorem zd_W_fill_18 : decode zb_W_fill 18 = .ok (.lastore, 1) := by decide +kernel
theorem zd_W_fill_19 : decode zb_W_fill 19 = .ok (.aload_n 0, 1) := by decide +kernel
theorem zd_W_fill_20 : decode zb_W_fill 20 = .ok (.getfield 142, 3) := by decide +kernel
theorem zd_W_fill_23 : decode zb_W_fill 23 = .ok (.iload_n 1, 1) := by decide +kernel
theorem zd_W_fill_24 : decode zb_W_fill 24 = .ok (.iconst 0, 1) := by decide +kernel
theorem zd_W_fill_25 : decode zb_W_fill 25 = .ok (.bastore, 1) := by decide +kernel
theorem zd_W_fill_26 : decode zb_W_fill 26 = .ok (.iinc 1 1, 3) := by decide +kernel
theorem zd_W_fill_29 : decode zb_W_fill 29 = .ok (.goto (-23), 3) := by decide +kernel
theorem zd_W_fill_32 : decode zb_W_fill 32 = .ok (.aload_n 0, 1) := by decide +kernel
theorem zd_W_fill_33 : decode zb_W_fill 33 = .ok (.getfield 261, 3) := by decide +kernel
theorem zd_W_fill_36 : decode zb_W_fill 36 = .ok (.bipush 9, 2) := by decide +kernel
theorem zd_W_fill_38 : decode zb_W_fill 38 = .ok (.if_icmp .gt 10, 3) := by decide +kernel
theorem zd_W_fill_41 : decode zb_W_fill 41 = .ok (.aload_n 0, 1) := by decide +kernel
theorem zd_W_fill_42 : decode zb_W_fill 42 = .ok (.invokevirtual 286, 3) := by decide +kernel
theorem zd_W_fill_45 : decode zb_W_fill 45 = .ok (.goto 7, 3) := by decide +kernel
theorem zd_W_fill_48 : decode zb_W_fill 48 = .ok (.aload_n 0, 1) := by decide +kernel
theorem zd_W_fill_49 : decode zb_W_fill 49 = .ok (.invokevirtual 289, 3) := by decide +kernel
theorem zd_W_fill_52 : decode zb_W_fill 52 = .ok (.iconst 0, 1) := by decide +kernel
theorem zd_W_fill_53 : decode zb_W_fill 53 = .ok (.istore_n 1, 1) := by decide +kernel
theorem zd_W_fill_54 : decode zb_W_fill 54 = .ok (.iconst 0, 1) := by decide +kernel
theorem zd_W_fill_55 : decode zb_W_fill 55 = .ok (.istore_n 2, 1) := by decide +kernel
theorem zd_W_fill_56 : decode zb_W_fill 56 = .ok (.iload_n 2, 1) := by decide +kernel
theorem zd_W_fill_57 : decode zb_W_fill 57 = .ok (.aload_n 0, 1) := by decide +kernel
theorem zd_W_fill_58 : decode zb_W_fill 58 = .ok (.getfield 168, 3) := by decide +kernel
theorem zd_W_fill_61 : decode zb_W_fill 61 = .ok (.if_icmp .ge 26, 3) := by decide +kernel
theorem zd_W_fill_64 : decode zb_W_fill 64 = .ok (.iload_n 1, 1) := by decide +kernel
theorem zd_W_fill_65 : decode zb_W_fill 65 = .ok (.aload_n 0, 1) := by decide +kernel
theorem zd_W_fill_66 : decode zb_W_fill 66 = .ok (.getfield 142, 3) := by decide +kernel
theorem zd_W_fill_69 : decode zb_W_fill 69 = .ok (.iload_n 2, 1) := by decide +kernel
theorem zd_W_fill_70 : decode zb_W_fill 70 = .ok (.baload, 1) := by decide +kernel
theorem zd_W_fill_71 : decode zb_W_fill 71 = .ok (.ifCond .eq 7, 3) := by decide +kernel
theorem zd_W_fill_74 : decode zb_W_fill 74 = .ok (.iconst 1, 1) := by decide +kernel
theorem zd_W_fill_75 : decode zb_W_fill 75 = .ok (.goto 4, 3) := by decide +kernel
theorem zd_W_fill_78 : decode zb_W_fill 78 = .ok (.iconst 0, 1) := by decide +kernel
theorem zd_W_fill_79 : decode zb_W_fill 79 = .ok (.iadd, 1) := by decide +kernel
theorem zd_W_fill_80 : decode zb_W_fill 80 = .ok (.istore_n 1, 1) := by decide +kernel
theorem zd_W_fill_81 : decode zb_W_fill 81 = .ok (.iinc 2 1, 3) := by decide +kernel
theorem zd_W_fill_84 : decode zb_W_fill 84 = .ok (.goto (-28), 3) := by decide +kernel
theorem zd_W_fill_87 : decode zb_W_fill 87 = .ok (.iload_n 1, 1) := by decide +kernel
theorem zd_W_fill_88 : decode zb_W_fill 88 = .ok (.ireturn, 1) := by decide +kernel

def zf_W_fill_79 (r0 : Int) (q56 : Int → Int → Sg → Option (Int × Sg)) (x2 : Int) (xt0 : Int) (xt1 : Int) (S : Sg) : Option (Int × Sg) :=
    zlt (zw (xt0 + xt1)) fun v1 => zlt (zw (x2 + 1)) fun v2 => q56 (v1) (v2) S
set_option maxHeartbeats 4000000 in
set_option maxRecDepth 100000 in
theorem zw_W_fill_79 {p : Program} {l : Launch} {e : Env} {s : State} {m : MethodId} {args : Array Value} {below : List Frame} {meth : Method} {c : Code} {B : zB} (C : CallFix p m c zb_W_fill 3 s args zT "IslandOfficeModel$World") (hr : meth.sig.returnType = some .int) (hlk : meth.locks = false) (hK : zK B s) (hSt : zSt B s) (hap : zAp B) (r0 : Int) (hr0 : 0 ≤ r0 ∧ r0 < 3) {res : Int} {S9 : Sg} (q56 : Int → Int → Sg → Option (Int × Sg)) (hq56 : ∀ (x1 : Int) (x2 : Int) (S : Sg) (nx1 : zn x1) (nx2 : zn x2), q56 x1 x2 S = some (res, S9) → ∀ (H : Heap) (locs : List Loc) (ls : Array Slot), zW B S H → va_S B.2.2.2 s.heap H locs → lv_has ls 3 [(0, .ref (B.2.1 5 (r0) (0))), (1, .int (zI (x1))), (2, .int (zI (x2)))] → W p l e zm_W_fill s m args below meth c H locs 0 0 (MQ below (zQi B res S9) args s 0 0 B.2.2.2) (F0 m 56 ls [])) : ∀ (x2 : Int) (xt0 : Int) (xt1 : Int) (S : Sg) (nx2 : zn x2) (nxt0 : zn xt0) (nxt1 : zn xt1), zf_W_fill_79 r0 q56 x2 xt0 xt1 S = some (res, S9) → ∀ (H : Heap) (locs : List Loc) (ls : Array Slot), zW B S H → va_S B.2.2.2 s.heap H locs → lv_has ls 3 [(0, .ref (B.2.1 5 (r0) (0))), (2, .int (zI (x2)))] → W p l e zm_W_fill s m args below meth c H locs 0 0 (MQ below (zQi B res S9) args s 0 0 B.2.2.2) (F0 m 79 ls [.int (zI (xt1)), .int (zI (xt0))]) := by
  intro x2 xt0 xt1 S nx2 nxt0 nxt1 hf H locs ls hW hS hl
  unfold zf_W_fill_79 at hf
  refine zr_iadd C zd_W_fill_79 ?_
  obtain ⟨v1, ev1, hf⟩ := zlt_some hf
  have nv1 : zn v1 := by rw [← ev1]; exact (zn_w _)
  rw [ev1]
  refine lv_istore_n (lv' := [(1, .int (zI (v1))), (0, .ref (B.2.1 5 (r0) (0))), (2, .int (zI (x2)))]) C.1 C.2.1 zd_W_fill_80 rfl hl (by decide) rfl (fun ls hl => ?_)
  obtain ⟨v2, ev2, hf⟩ := zlt_some hf
  have nv2 : zn v2 := by rw [← ev2]; exact zn_w _
  refine lv_iinc (v := zI v2) (lv' := [(2, .int (zI (v2))), (1, .int (zI (v1))), (0, .ref (B.2.1 5 (r0) (0)))]) C.1 C.2.1 zd_W_fill_81 hl (k := 2) rfl (by rw [← ev2, ← zI_add]; rfl) (by decide) rfl (fun ls hl => ?_)
  refine lv_goto (tgt := 56) C.1 C.2.1 zd_W_fill_84 (by decide) ?_
  exact hq56 (v1) (v2) S nv1 nv2 hf _ _ _ hW hS (lv_sub hl [2, 1, 0] rfl)

def zf_W_fill_56 (r0 : Int) : Nat → Int → Int → Sg → Option (Int × Sg)
  | 0, _, _, _ => none
  | n + 1, x1, x2, S =>
    if (S 5 r0 0 25) ≤ x2 then (some (x1, S)) else (zck (0 ≤ x2 ∧ x2 < 8) <| if (S 5 r0 37 x2) = 0 then (zf_W_fill_79 r0 (zf_W_fill_56 r0 n) (x2) (x1) (0) S) else (zf_W_fill_79 r0 (zf_W_fill_56 r0 n) (x2) (x1) (1) S))
set_option maxHeartbeats 4000000 in
set_option maxRecDepth 100000 in
theorem zw_W_fill_56 {p : Program} {l : Launch} {e : Env} {s : State} {m : MethodId} {args : Array Value} {below : List Frame} {meth : Method} {c : Code} {B : zB} (C : CallFix p m c zb_W_fill 3 s args zT "IslandOfficeModel$World") (hr : meth.sig.returnType = some .int) (hlk : meth.locks = false) (hK : zK B s) (hSt : zSt B s) (hap : zAp B) (r0 : Int) (hr0 : 0 ≤ r0 ∧ r0 < 3) {res : Int} {S9 : Sg} : ∀ n : Nat, ∀ (x1 : Int) (x2 : Int) (S : Sg) (nx1 : zn x1) (nx2 : zn x2), zf_W_fill_56 r0 n x1 x2 S = some (res, S9) → ∀ (H : Heap) (locs : List Loc) (ls : Array Slot), zW B S H → va_S B.2.2.2 s.heap H locs → lv_has ls 3 [(0, .ref (B.2.1 5 (r0) (0))), (1, .int (zI (x1))), (2, .int (zI (x2)))] → W p l e zm_W_fill s m args below meth c H locs 0 0 (MQ below (zQi B res S9) args s 0 0 B.2.2.2) (F0 m 56 ls []) := by
  intro n
  induction n with
  | zero =>
    intro x1 x2 S nx1 nx2 hf H locs ls hW hS hl
    cases hf
  | succ n ih =>
    intro x1 x2 S nx1 nx2 hf H locs ls hW hS hl
    rw [zf_W_fill_56] at hf
    refine lv_iload_n C.1 C.2.1 zd_W_fill_56 rfl (lv_at hl 2 rfl) ?_
    refine lv_aload_n C.1 C.2.1 zd_W_fill_57 rfl (lv_at hl 0 rfl) ?_
    refine zg_W_posts (r := r0) C hK hW (zvd_5 hr0 (by decide)) zk_1325 zd_W_fill_58 ?_
    refine zr_icmp_ge (tgt := 87) C nx2 (zWn hW _ _ _ _ rfl) zd_W_fill_61 (by decide) (fun c1 => ?_) (fun c1 => ?_)
    · rw [if_pos c1] at hf
      refine lv_iload_n C.1 C.2.1 zd_W_fill_87 rfl (lv_at hl 1 rfl) ?_
      cases hf
      exact zre_i C hr hlk hK hW hS nx1 zd_W_fill_88
    · rw [if_neg c1] at hf
      refine lv_iload_n C.1 C.2.1 zd_W_fill_64 rfl (lv_at hl 1 rfl) ?_
      refine lv_aload_n C.1 C.2.1 zd_W_fill_65 rfl (lv_at hl 0 rfl) ?_
      refine zg_W_isFilled (r := r0) C hK hW (zvd_5 hr0 (by decide)) zk_1377 zd_W_fill_66 ?_
      refine lv_iload_n C.1 C.2.1 zd_W_fill_69 rfl (lv_at hl 2 rfl) ?_
      obtain ⟨h2, hf⟩ := zck_some hf
      refine zzald C hK hW (zvd_5 hr0 (by decide)) (fun f => ze_5_37 B f (r0)) (by decide) h2 zd_W_fill_70 ?_
      refine zr_if_eq (tgt := 78) C (zWn hW _ _ _ _ rfl) zd_W_fill_71 (by decide) (fun c3 => ?_) (fun c3 => ?_)
      · rw [if_pos c3] at hf
        refine zr_iconst C zd_W_fill_78 ?_
        exact zw_W_fill_79 C hr hlk hK hSt hap r0 hr0 (zf_W_fill_56 r0 n) (ih) (x2) (x1) (0) S nx2 nx1 (znb rfl) hf _ _ _ hW hS (lv_sub hl [0, 2] rfl)
      · rw [if_neg c3] at hf
        refine zr_iconst C zd_W_fill_74 ?_
        refine lv_goto (tgt := 79) C.1 C.2.1 zd_W_fill_75 (by decide) ?_
        exact zw_W_fill_79 C hr hlk hK hSt hap r0 hr0 (zf_W_fill_56 r0 n) (ih) (x2) (x1) (1) S nx2 nx1 (znb rfl) hf _ _ _ hW hS (lv_sub hl [0, 2] rfl)

def zf_W_fill_52 (r0 : Int) (S : Sg) : Option (Int × Sg) :=
    zf_W_fill_56 r0 4096 (0) (0) S
set_option maxHeartbeats 4000000 in
set_option maxRecDepth 100000 in
theorem zw_W_fill_52 {p : Program} {l : Launch} {e : Env} {s : State} {m : MethodId} {args : Array Value} {below : List Frame} {meth : Method} {c : Code} {B : zB} (C : CallFix p m c zb_W_fill 3 s args zT "IslandOfficeModel$World") (hr : meth.sig.returnType = some .int) (hlk : meth.locks = false) (hK : zK B s) (hSt : zSt B s) (hap : zAp B) (r0 : Int) (hr0 : 0 ≤ r0 ∧ r0 < 3) {res : Int} {S9 : Sg} : ∀  (S : Sg) , zf_W_fill_52 r0  S = some (res, S9) → ∀ (H : Heap) (locs : List Loc) (ls : Array Slot), zW B S H → va_S B.2.2.2 s.heap H locs → lv_has ls 3 [(0, .ref (B.2.1 5 (r0) (0)))] → W p l e zm_W_fill s m args below meth c H locs 0 0 (MQ below (zQi B res S9) args s 0 0 B.2.2.2) (F0 m 52 ls []) := by
  intro S hf H locs ls hW hS hl
  unfold zf_W_fill_52 at hf
  refine zr_iconst C zd_W_fill_52 ?_
  refine lv_istore_n (lv' := [(1, .int (zI (0))), (0, .ref (B.2.1 5 (r0) (0)))]) C.1 C.2.1 zd_W_fill_53 rfl hl (by decide) rfl (fun ls hl => ?_)
  refine zr_iconst C zd_W_fill_54 ?_
  refine lv_istore_n (lv' := [(2, .int (zI (0))), (1, .int (zI (0))), (0, .ref (B.2.1 5 (r0) (0)))]) C.1 C.2.1 zd_W_fill_55 rfl hl (by decide) rfl (fun ls hl => ?_)
  exact zw_W_fill_56 C hr hlk hK hSt hap r0 hr0 4096 (0) (0) S (znb rfl) (znb rfl) hf _ _ _ hW hS (lv_sub hl [2, 1, 0] rfl)

def zf_W_fill_6 (r0 : Int) : Nat → Int → Sg → Option (Int × Sg)
  | 0, _, _ => none
  | n + 1, x1, S =>
    if 8 ≤ x1 then (if 9 < (S 5 r0 0 52) then (zbd (zf_W_oneByOne (r0) S) fun a3 S4 => zf_W_fill_52 r0  S4) else (zbd (zf_W_byAll (r0) S) fun a5 S6 => zf_W_fill_52 r0  S6)) else (zck (0 ≤ x1 ∧ x1 < 8) <| zlt (zu S 21 r0 0 x1 0) fun S8 => zlt (zu S8 5 r0 37 x1 0) fun S9 => zlt (zw (x1 + 1)) fun v10 => (zf_W_fill_6 r0 n) (v10) S9)
set_option maxHeartbeats 4000000 in
set_option maxRecDepth 100000 in
theorem zw_W_fill_6 {p : Program} {l : Launch} {e : Env} {s : State} {m : MethodId} {args : Array Value} {below : List Frame} {meth : Method} {c : Code} {B : zB} (C : CallFix p m c zb_W_fill 3 s args zT "IslandOfficeModel$World") (hr : meth.sig.returnType = some .int) (hlk : meth.locks = false) (hK : zK B s) (hSt : zSt B s) (hap : zAp B) (r0 : Int) (hr0 : 0 ≤ r0 ∧ r0 < 3) {res : Int} {S9 : Sg} : ∀ n : Nat, ∀ (x1 : Int) (S : Sg) (nx1 : zn x1), zf_W_fill_6 r0 n x1 S = some (res, S9) → ∀ (H : Heap) (locs : List Loc) (ls : Array Slot), zW B S H → va_S B.2.2.2 s.heap H locs → lv_has ls 3 [(0, .ref (B.2.1 5 (r0) (0))), (1, .int (zI (x1)))] → W p l e zm_W_fill s m args below meth c H locs 0 0 (MQ below (zQi B res S9) args s 0 0 B.2.2.2) (F0 m 6 ls []) := by
  intro n
  induction n with
  | zero =>
    intro x1 S nx1 hf H locs ls hW hS hl
    cases hf
  | succ n ih =>
    intro x1 S nx1 hf H locs ls hW hS hl
    rw [zf_W_fill_6] at hf
    refine lv_iload_n C.1 C.2.1 zd_W_fill_6 rfl (lv_at hl 1 rfl) ?_
    refine zr_bipush C zd_W_fill_7 (by decide) ?_
    refine zr_icmp_ge (tgt := 32) C nx1 (znb rfl) zd_W_fill_9 (by decide) (fun c1 => ?_) (fun c1 => ?_)
    · rw [if_pos c1] at hf
      refine lv_aload_n C.1 C.2.1 zd_W_fill_32 rfl (lv_at hl 0 rfl) ?_
      refine zg_W_cans (r := r0) C hK hW (zvd_5 hr0 (by decide)) zk_1374 zd_W_fill_33 ?_
      refine zr_bipush C zd_W_fill_36 (by decide) ?_
      refine zr_icmp_gt (tgt := 48) C (zWn hW _ _ _ _ rfl) (znb rfl) zd_W_fill_38 (by decide) (fun c2 => ?_) (fun c2 => ?_)
      · rw [if_pos c2] at hf
        refine lv_aload_n C.1 C.2.1 zd_W_fill_48 rfl (lv_at hl 0 rfl) ?_
        obtain ⟨a3, S4, ea3, hf⟩ := zbd_some hf
        refine zcVv (As := []) (rest := []) C hK hSt hW hS (zc_W_oneByOne hap (r0) hr0 S ea3) zq_W_oneByOne zk_1831 (zrecv hK hW (zvd_5 hr0 (by decide)) (ze_5_0 B _ (r0)) rfl) ⟨rfl, rfl, by decide, by decide⟩ ⟨Nat.zero_le _, Nat.zero_le _⟩ rfl hl.1 rfl (lv_room (Nat.le_of_ble_eq_true rfl)) zd_W_fill_49 (fun H locs hW hS => ?_)
        exact zw_W_fill_52 C hr hlk hK hSt hap r0 hr0  S4  hf _ _ _ hW hS (lv_sub hl [0] rfl)
      · rw [if_neg c2] at hf
        refine lv_aload_n C.1 C.2.1 zd_W_fill_41 rfl (lv_at hl 0 rfl) ?_
        obtain ⟨a5, S6, ea5, hf⟩ := zbd_some hf
        refine zcVv (As := []) (rest := []) C hK hSt hW hS (zc_W_byAll hap (r0) hr0 S ea5) zq_W_byAll zk_1811 (zrecv hK hW (zvd_5 hr0 (by decide)) (ze_5_0 B _ (r0)) rfl) ⟨rfl, rfl, by decide, by decide⟩ ⟨Nat.zero_le _, Nat.zero_le _⟩ rfl hl.1 rfl (lv_room (Nat.le_of_ble_eq_true rfl)) zd_W_fill_42 (fun H locs hW hS => ?_)
        refine lv_goto (tgt := 52) C.1 C.2.1 zd_W_fill_45 (by decide) ?_
        exact zw_W_fill_52 C hr hlk hK hSt hap r0 hr0  S6  hf _ _ _ hW hS (lv_sub hl [0] rfl)
    · rw [if_neg c1] at hf
      refine lv_aload_n C.1 C.2.1 zd_W_fill_12 rfl (lv_at hl 0 rfl) ?_
      refine zg_W_crew (r := r0) C hK hW (zvd_5 hr0 (by decide)) zk_1375 zd_W_fill_13 ?_
      refine lv_iload_n C.1 C.2.1 zd_W_fill_16 rfl (lv_at hl 1 rfl) ?_
      refine zr_lconst (k := 0) C zd_W_fill_17 rfl ?_
      obtain ⟨h7, hf⟩ := zck_some hf
      obtain ⟨S8, eS8, hf⟩ := zlt_some hf
      refine zlast C hK hap hW hS (zvd_21 hr0 (by decide)) (fun f => ze_21_0 B f (r0)) (by decide) rfl (zmb rfl) h7 zd_W_fill_18 (fun H locs hW hS => ?_)
      rw [eS8] at hW
      refine lv_aload_n C.1 C.2.1 zd_W_fill_19 rfl (lv_at hl 0 rfl) ?_
      refine zg_W_isFilled (r := r0) C hK hW (zvd_5 hr0 (by decide)) zk_1377 zd_W_fill_20 ?_
      refine lv_iload_n C.1 C.2.1 zd_W_fill_23 rfl (lv_at hl 1 rfl) ?_
      refine zr_iconst C zd_W_fill_24 ?_
      obtain ⟨S9, eS9, hf⟩ := zlt_some hf
      refine zzast C hK hap hW hS (zvd_5 hr0 (by decide)) (fun f => ze_5_37 B f (r0)) (by decide) rfl (znb rfl) rfl h7 zd_W_fill_25 (fun H locs hW hS => ?_)
      rw [eS9] at hW
      obtain ⟨v10, ev10, hf⟩ := zlt_some hf
      have nv10 : zn v10 := by rw [← ev10]; exact zn_w _
      refine lv_iinc (v := zI v10) (lv' := [(1, .int (zI (v10))), (0, .ref (B.2.1 5 (r0) (0)))]) C.1 C.2.1 zd_W_fill_26 hl (k := 1) rfl (by rw [← ev10, ← zI_add]; rfl) (by decide) rfl (fun ls hl => ?_)
      refine lv_goto (tgt := 6) C.1 C.2.1 zd_W_fill_29 (by decide) ?_
      exact ih (v10) S9 nv10 hf _ _ _ hW hS (lv_sub hl [1, 0] rfl)

def zf_W_fill (r0 : Int) (S : Sg) : Option (Int × Sg) :=
    zbd (zf_W_gather (r0) S) fun a1 S2 => zf_W_fill_6 r0 4096 (0) S2
set_option maxHeartbeats 4000000 in
set_option maxRecDepth 100000 in
theorem zw_W_fill {p : Program} {l : Launch} {e : Env} {s : State} {m : MethodId} {args : Array Value} {below : List Frame} {meth : Method} {c : Code} {B : zB} (C : CallFix p m c zb_W_fill 3 s args zT "IslandOfficeModel$World") (hr : meth.sig.returnType = some .int) (hlk : meth.locks = false) (hK : zK B s) (hSt : zSt B s) (hap : zAp B) (r0 : Int) (hr0 : 0 ≤ r0 ∧ r0 < 3) {res : Int} {S9 : Sg} : ∀  (S : Sg) , zf_W_fill r0  S = some (res, S9) → ∀ (H : Heap) (locs : List Loc) (ls : Array Slot), zW B S H → va_S B.2.2.2 s.heap H locs → lv_has ls 3 [(0, .ref (B.2.1 5 (r0) (0)))] → W p l e zm_W_fill s m args below meth c H locs 0 0 (MQ below (zQi B res S9) args s 0 0 B.2.2.2) (F0 m 0 ls []) := by
  intro S hf H locs ls hW hS hl
  unfold zf_W_fill at hf
  refine lv_aload_n C.1 C.2.1 zd_W_fill_0 rfl (lv_at hl 0 rfl) ?_
  obtain ⟨a1, S2, ea1, hf⟩ := zbd_some hf
  refine zcVv (As := []) (rest := []) C hK hSt hW hS (zc_W_gather hap (r0) hr0 S ea1) zq_W_gather zk_1795 (zrecv hK hW (zvd_5 hr0 (by decide)) (ze_5_0 B _ (r0)) rfl) ⟨rfl, rfl, by decide, by decide⟩ ⟨Nat.zero_le _, Nat.zero_le _⟩ rfl hl.1 rfl (lv_room (Nat.le_of_ble_eq_true rfl)) zd_W_fill_1 (fun H locs hW hS => ?_)
  refine zr_iconst C zd_W_fill_4 ?_
  refine lv_istore_n (lv' := [(1, .int (zI (0))), (0, .ref (B.2.1 5 (r0) (0)))]) C.1 C.2.1 zd_W_fill_5 rfl hl (by decide) rfl (fun ls hl => ?_)
  exact zw_W_fill_6 C hr hlk hK hSt hap r0 hr0 4096 (0) S2 (znb rfl) hf _ _ _ hW hS (lv_sub hl [1, 0] rfl)

theorem zc_W_fill {l : Launch} {B : zB} (hap : zAp B) (r0 : Int) (hr0 : 0 ≤ r0 ∧ r0 < 3) (S : Sg) {res : Int} {S9 : Sg} (hf : zf_W_fill r0 S = some (res, S9)) : Met l zy_W_fill (Cond.code zy_W_fill zb_W_fill 3 (some .int) :: zT) zm_W_fill (zP B S [.ref (B.2.1 5 (r0) (0))]) (zQi B res S9) 0 0 B.2.2.2 :=
  zmet (by decide) (Nat.le_of_ble_eq_true rfl) (fun p e s m args below meth c C hr hlk hK hSt hW ls hl => zw_W_fill C hr hlk hK hSt hap r0 hr0  S  hf _ _ _ hW va_S.rf hl)
/-! IslandOfficeModel.hands(IZ)I -/
abbrev zy_M_hands : MethodName := ⟨"IslandOfficeModel", "hands", "(IZ)I"⟩
abbrev zb_M_hands : ByteArray := prog_14_method_43_code
abbrev zm_M_hands : Room := { frames := 396, cells := 0, slots := 0, locals := 8583 }
theorem zq_M_hands : zMy zy_M_hands zb_M_hands 3 (some .int) 2 := ⟨zk_1790, zk_1788, zk_1789, zk_14, by decide, by decide, by decide +kernel⟩
theorem zd_M_hands_0 : decode zb_M_hands 0 = .ok (.aload_n 0, 1) := by decide +kernel
theorem zd_M_hands_1 : decode zb_M_hands 1 = .ok (.iconst 0, 1) := by decide +kernel
theorem zd_M_hands_2 : decode zb_M_hands 2 = .ok (.putfield 46, 3) := by decide +kernel
theorem zd_M_hands_5 : decode zb_M_hands 5 = .ok (.aload_n 0, 1) := by decide +kernel
theorem zd_M_hands_6 : decode zb_M_hands 6 = .ok (.iload_n 1, 1) := by decide +kernel
theorem zd_M_hands_7 : decode zb_M_hands 7 = .ok (.invokevirtual 244, 3) := by decide +kernel
theorem zd_M_hands_10 : decode zb_M_hands 10 = .ok (.ifCond .ne 5, 3) := by decide +kernel
theorem zd_M_hands_13 : decode zb_M_hands 13 = .ok (.iconst (-1), 1) := by decide +kernel
theorem zd_M_hands_14 : decode zb_M_hands 14 = .ok (.ireturn, 1) := by decide +kernel
theorem zd_M_hands_15 : decode zb_M_hands 15 = .ok (.aload_n 0, 1) := by decide +kernel
theorem zd_M_hands_16 : decode zb_M_hands 16 = .ok (.getfield 10, 3) := by decide +kernel
theorem zd_M_hands_19 : decode zb_M_hands 19 = .ok (.invokevirtual 247, 3) := by decide +kernel
theorem zd_M_hands_22 : decode zb_M_hands 22 = .ok (.pop, 1) := by decide +kernel
theorem zd_M_hands_23 : decode zb_M_hands 23 = .ok (.iload_n 2, 1) := by decide +kernel
theorem zd_M_hands_24 : decode zb_M_hands 24 = .ok (.ifCond .eq 19, 3) := by decide +kernel
theorem zd_M_hands_27 : decode zb_M_hands 27 = .ok (.aload_n 0, 1) := by decide +kernel
theorem zd_M_hands_28 : decode zb_M_hands 28 = .ok (.getfield 10, 3) := by decide +kernel
theorem zd_M_hands_31 : decode zb_M_hands 31 = .ok (.getfield 250, 3) := by decide +kernel
theorem zd_M_hands_34 : decode zb_M_hands 34 = .ok (.iload_n 1, 1) := by decide +kernel
theorem zd_M_hands_35 : decode zb_M_hands 35 = .ok (.laload, 1) := by decide +kernel
theorem zd_M_hands_36 : decode zb_M_hands 36 = .ok (.bipush 32, 2) := by decide +kernel
theorem zd_M_hands_38 : decode zb_M_hands 38 = .ok (.lshr, 1) := by decide +kernel
theorem zd_M_hands_39 : decode zb_M_hands 39 = .ok (.l2i, 1) := by decide +kernel
theorem zd_M_hands_40 : decode zb_M_hands 40 = .ok (.goto 13, 3) := by decide +kernel
theorem zd_M_hands_43 : decode zb_M_hands 43 = .ok (.aload_n 0, 1) := by decide +kernel
theorem zd_M_hands_44 : decode zb_M_hands 44 = .ok (.getfield 10, 3) := by decide +kernel
theorem zd_M_hands_47 : decode zb_M_hands 47 = .ok (.getfield 250, 3) := by decide +kernel
theorem zd_M_hands_50 : decode zb_M_hands 50 = .ok (.iload_n 1, 1) := by decide +kernel
theorem zd_M_hands_51 : decode zb_M_hands 51 = .ok (.laload, 1) := by decide +kernel
theorem zd_M_hands_52 : decode zb_M_hands 52 = .ok (.l2i, 1) := by decide +kernel
theorem zd_M_hands_53 : decode zb_M_hands 53 = .ok (.ireturn, 1) := by decide +kernel

def zf_M_hands (x1 : Int) (x2 : Int) (S : Sg) : Option (Int × Sg) :=
    zlt (zu S 9 0 0 4 0) fun S1 => zbd (zf_M_isPost x1 S1) fun a2 S3 => if a2 = 0 then (some (-1, S3)) else (zbd (zf_W_fill (0) S3) fun a5 S6 => if x2 = 0 then (zck (0 ≤ x1 ∧ x1 < 8) <| some (zw (S6 21 0 0 x1), S6)) else (zck (0 ≤ x1 ∧ x1 < 8) <| some (zw (zlsr (S6 21 0 0 x1) 32), S6)))
set_option maxHeartbeats 4000000 in
set_option maxRecDepth 100000 in
theorem zw_M_hands {p : Program} {l : Launch} {e : Env} {s : State} {m : MethodId} {args : Array Value} {below : List Frame} {meth : Method} {c : Code} {B : zB} (C : CallFix p m c zb_M_hands 3 s args zT "IslandOfficeModel") (hr : meth.sig.returnType = some .int) (hlk : meth.locks = false) (hK : zK B s) (hSt : zSt B s) (hap : zAp B) {res : Int} {S9 : Sg} : ∀ (x1 : Int) (x2 : Int) (S : Sg) (nx1 : zn x1) (nx2 : zn x2), zf_M_hands x1 x2 S = some (res, S9) → ∀ (H : Heap) (locs : List Loc) (ls : Array Slot), zW B S H → va_S B.2.2.2 s.heap H locs → lv_has ls 3 [(0, .ref (B.2.1 9 (0) (0))), (1, .int (zI (x1))), (2, .int (zI (x2)))] → W p l e zm_M_hands s m args below meth c H locs 0 0 (MQ below (zQi B res S9) args s 0 0 B.2.2.2) (F0 m 0 ls []) := by
  intro x1 x2 S nx1 nx2 hf H locs ls hW hS hl
  unfold zf_M_hands at hf
  refine lv_aload_n C.1 C.2.1 zd_M_hands_0 rfl (lv_at hl 0 rfl) ?_
  refine zr_iconst C zd_M_hands_1 ?_
  obtain ⟨S1, eS1, hf⟩ := zlt_some hf
  refine zp_M_thrown (r := 0) C hK hap hW hS (zvd_9 (by decide) (by decide)) zk_1504 (znb rfl) zd_M_hands_2 (fun H locs hW hS => ?_)
  rw [eS1] at hW
  refine lv_aload_n C.1 C.2.1 zd_M_hands_5 rfl (lv_at hl 0 rfl) ?_
  refine lv_iload_n C.1 C.2.1 zd_M_hands_6 rfl (lv_at hl 1 rfl) ?_
  obtain ⟨a2, S3, ea2, hf⟩ := zbd_some hf
  refine zcVi (As := [.int (zI (x1))]) (rest := []) C hK hSt hW hS (zc_M_isPost hap x1 S1 nx1 ea2) zq_M_isPost zk_1783 (zrecv hK hW (zvd_9 (by decide) (by decide)) (ze_9_0 B _ (0)) rfl) ⟨rfl, rfl, by decide, by decide⟩ ⟨Nat.zero_le _, Nat.zero_le _⟩ rfl hl.1 rfl (lv_room (Nat.le_of_ble_eq_true rfl)) zd_M_hands_7 (fun na2 H locs hW hS => ?_)
  refine zr_if_ne (tgt := 15) C na2 zd_M_hands_10 (by decide) (fun c4 => ?_) (fun c4 => ?_)
  · rw [if_neg c4] at hf
    refine lv_aload_n C.1 C.2.1 zd_M_hands_15 rfl (lv_at hl 0 rfl) ?_
    refine zg_M_world (r := 0) C hK hW (zvd_9 (by decide) (by decide)) zk_1500 zd_M_hands_16 ?_
    obtain ⟨a5, S6, ea5, hf⟩ := zbd_some hf
    refine zcVi (As := []) (rest := []) C hK hSt hW hS (zc_W_fill hap (0) (by decide) S3 ea5) zq_W_fill zk_1791 (zrecv hK hW (zvd_5 (by decide) (by decide)) (ze_5_0 B _ (0)) rfl) ⟨rfl, rfl, by decide, by decide⟩ ⟨Nat.zero_le _, Nat.zero_le _⟩ rfl hl.1 rfl (lv_room (Nat.le_of_ble_eq_true rfl)) zd_M_hands_19 (fun na5 H locs hW hS => ?_)
    refine lv_pop C.1 C.2.1 zd_M_hands_22 rfl ?_
    refine lv_iload_n C.1 C.2.1 zd_M_hands_23 rfl (lv_at hl 2 rfl) ?_
    refine zr_if_eq (tgt := 43) C nx2 zd_M_hands_24 (by decide) (fun c7 => ?_) (fun c7 => ?_)
    · rw [if_pos c7] at hf
      refine lv_aload_n C.1 C.2.1 zd_M_hands_43 rfl (lv_at hl 0 rfl) ?_
      refine zg_M_world (r := 0) C hK hW (zvd_9 (by decide) (by decide)) zk_1500 zd_M_hands_44 ?_
      refine zg_W_crew (r := 0) C hK hW (zvd_5 (by decide) (by decide)) zk_1376 zd_M_hands_47 ?_
      refine lv_iload_n C.1 C.2.1 zd_M_hands_50 rfl (lv_at hl 1 rfl) ?_
      obtain ⟨h8, hf⟩ := zck_some hf
      refine zlald C hK hW (zvd_21 (by decide) (by decide)) (fun f => ze_21_0 B f (0)) (by decide) h8 zd_M_hands_51 ?_
      refine zr_l2i C (zWm hW _ _ _ _ rfl) zd_M_hands_52 ?_
      cases hf
      exact zre_i C hr hlk hK hW hS (zn_w _) zd_M_hands_53
    · rw [if_neg c7] at hf
      refine lv_aload_n C.1 C.2.1 zd_M_hands_27 rfl (lv_at hl 0 rfl) ?_
      refine zg_M_world (r := 0) C hK hW (zvd_9 (by decide) (by decide)) zk_1500 zd_M_hands_28 ?_
      refine zg_W_crew (r := 0) C hK hW (zvd_5 (by decide) (by decide)) zk_1376 zd_M_hands_31 ?_
      refine lv_iload_n C.1 C.2.1 zd_M_hands_34 rfl (lv_at hl 1 rfl) ?_
      obtain ⟨h9, hf⟩ := zck_some hf
      refine zlald C hK hW (zvd_21 (by decide) (by decide)) (fun f => ze_21_0 B f (0)) (by decide) h9 zd_M_hands_35 ?_
      refine zr_bipush C zd_M_hands_36 (by decide) ?_
      refine zr_lshr C zd_M_hands_38 ?_
      refine zr_l2i C (zm_lsr _ _) zd_M_hands_39 ?_
      refine lv_goto (tgt := 53) C.1 C.2.1 zd_M_hands_40 (by decide) ?_
      cases hf
      exact zre_i C hr hlk hK hW hS (zn_w _) zd_M_hands_53
  · rw [if_pos c4] at hf
    refine zr_iconst C zd_M_hands_13 ?_
    cases hf
    exact zre_i C hr hlk hK hW hS (znb rfl) zd_M_hands_14

theorem zc_M_hands {l : Launch} {B : zB} (hap : zAp B) (x1 : Int) (x2 : Int) (S : Sg) (nx1 : zn x1) (nx2 : zn x2) {res : Int} {S9 : Sg} (hf : zf_M_hands x1 x2 S = some (res, S9)) : Met l zy_M_hands (Cond.code zy_M_hands zb_M_hands 3 (some .int) :: zT) zm_M_hands (zP B S [.ref (B.2.1 9 (0) (0)), .int (zI (x1)), .int (zI (x2))]) (zQi B res S9) 0 0 B.2.2.2 :=
  zmet (by decide) (Nat.le_of_ble_eq_true rfl) (fun p e s m args below meth c C hr hlk hK hSt hW ls hl => zw_M_hands C hr hlk hK hSt hap   x1 x2 S nx1 nx2 hf _ _ _ hW va_S.rf hl)
/-! IslandOfficeModel.filled()I -/
abbrev zy_M_filled : MethodName := ⟨"IslandOfficeModel", "filled", "()I"⟩
abbrev zb_M_filled : ByteArray := prog_14_method_44_code
abbrev zm_M_filled : Room := { frames := 396, cells := 0, slots := 0, locals := 8583 }
theorem zq_M_filled : zMy zy_M_filled zb_M_filled 1 (some .int) 0 := ⟨zk_1838, zk_1836, zk_1837, zk_14, by decide, by decide, by decide +kernel⟩
theorem zd_M_filled_0 : decode zb_M_filled 0 = .ok (.aload_n 0, 1) := by decide +kernel
theorem zd_M_filled_1 : decode zb_M_filled 1 = .ok (.iconst 0, 1) := by decide +kernel
theorem zd_M_filled_2 : decode zb_M_filled 2 = .ok (.putfield 46, 3) := by decide +kernel
theorem zd_M_filled_5 : decode zb_M_filled 5 = .ok (.aload_n 0, 1) := by decide +kernel
theorem zd_M_filled_6 : decode zb_M_filled 6 = .ok (.getfield 10, 3) := by decide +kernel
theorem zd_M_filled_9 : decode zb_M_filled 9 = .ok (.invokevirtual 247, 3) := by decide +kernel
theorem zd_M_filled_12 : decode zb_M_filled 12 = .ok (.ireturn, 1) := by decide +kernel

def zf_M_filled (S : Sg) : Option (Int × Sg) :=
    zlt (zu S 9 0 0 4 0) fun S1 => zbd (zf_W_fill (0) S1) fun a2 S3 => some (a2, S3)
set_option maxHeartbeats 4000000 in
set_option maxRecDepth 100000 in
theorem zw_M_filled {p : Program} {l : Launch} {e : Env} {s : State} {m : MethodId} {args : Array Value} {below : List Frame} {meth : Method} {c : Code} {B : zB} (C : CallFix p m c zb_M_filled 1 s args zT "IslandOfficeModel") (hr : meth.sig.returnType = some .int) (hlk : meth.locks = false) (hK : zK B s) (hSt : zSt B s) (hap : zAp B) {res : Int} {S9 : Sg} : ∀  (S : Sg) , zf_M_filled  S = some (res, S9) → ∀ (H : Heap) (locs : List Loc) (ls : Array Slot), zW B S H → va_S B.2.2.2 s.heap H locs → lv_has ls 1 [(0, .ref (B.2.1 9 (0) (0)))] → W p l e zm_M_filled s m args below meth c H locs 0 0 (MQ below (zQi B res S9) args s 0 0 B.2.2.2) (F0 m 0 ls []) := by
  intro S hf H locs ls hW hS hl
  unfold zf_M_filled at hf
  refine lv_aload_n C.1 C.2.1 zd_M_filled_0 rfl (lv_at hl 0 rfl) ?_
  refine zr_iconst C zd_M_filled_1 ?_
  obtain ⟨S1, eS1, hf⟩ := zlt_some hf
  refine zp_M_thrown (r := 0) C hK hap hW hS (zvd_9 (by decide) (by decide)) zk_1504 (znb rfl) zd_M_filled_2 (fun H locs hW hS => ?_)
  rw [eS1] at hW
  refine lv_aload_n C.1 C.2.1 zd_M_filled_5 rfl (lv_at hl 0 rfl) ?_
  refine zg_M_world (r := 0) C hK hW (zvd_9 (by decide) (by decide)) zk_1500 zd_M_filled_6 ?_
  obtain ⟨a2, S3, ea2, hf⟩ := zbd_some hf
  refine zcVi (As := []) (rest := []) C hK hSt hW hS (zc_W_fill hap (0) (by decide) S1 ea2) zq_W_fill zk_1791 (zrecv hK hW (zvd_5 (by decide) (by decide)) (ze_5_0 B _ (0)) rfl) ⟨rfl, rfl, by decide, by decide⟩ ⟨Nat.zero_le _, Nat.zero_le _⟩ rfl hl.1 rfl (lv_room (Nat.le_of_ble_eq_true rfl)) zd_M_filled_9 (fun na2 H locs hW hS => ?_)
  cases hf
  exact zre_i C hr hlk hK hW hS na2 zd_M_filled_12

theorem zc_M_filled {l : Launch} {B : zB} (hap : zAp B) (S : Sg) {res : Int} {S9 : Sg} (hf : zf_M_filled  S = some (res, S9)) : Met l zy_M_filled (Cond.code zy_M_filled zb_M_filled 1 (some .int) :: zT) zm_M_filled (zP B S [.ref (B.2.1 9 (0) (0))]) (zQi B res S9) 0 0 B.2.2.2 :=
  zmet (by decide) (Nat.le_of_ble_eq_true rfl) (fun p e s m args below meth c C hr hlk hK hSt hW ls hl => zw_M_filled C hr hlk hK hSt hap    S  hf _ _ _ hW va_S.rf hl)
/-! IslandOfficeModel.isGood(I)Z -/
abbrev zy_M_isGood : MethodName := ⟨"IslandOfficeModel", "isGood", "(I)Z"⟩
abbrev zb_M_isGood : ByteArray := prog_14_method_7_code
abbrev zm_M_isGood : Room := { frames := 1, cells := 0, slots := 0, locals := 22 }
theorem zq_M_isGood : zMs zy_M_isGood zb_M_isGood 1 (some .boolean) 1 := ⟨zk_1845, zk_1844, zk_14, by decide, by decide, by decide +kernel⟩
theorem zd_M_isGood_0 : decode zb_M_isGood 0 = .ok (.iload_n 0, 1) := by decide +kernel
theorem zd_M_isGood_1 : decode zb_M_isGood 1 = .ok (.iconst 0, 1) := by decide +kernel
theorem zd_M_isGood_2 : decode zb_M_isGood 2 = .ok (.iconst 3, 1) := by decide +kernel
theorem zd_M_isGood_3 : decode zb_M_isGood 3 = .ok (.invokestatic 53, 3) := by decide +kernel
theorem zd_M_isGood_6 : decode zb_M_isGood 6 = .ok (.ireturn, 1) := by decide +kernel

def zf_M_isGood (x0 : Int) (S : Sg) : Option (Int × Sg) :=
    zbd (zf_M_in x0 0 3 S) fun a1 S2 => zck (a1 = 0 ∨ a1 = 1) <| some (a1, S2)
set_option maxHeartbeats 4000000 in
set_option maxRecDepth 100000 in
theorem zw_M_isGood {p : Program} {l : Launch} {e : Env} {s : State} {m : MethodId} {args : Array Value} {below : List Frame} {meth : Method} {c : Code} {B : zB} (C : CallFix p m c zb_M_isGood 1 s args zT "IslandOfficeModel") (hr : meth.sig.returnType = some .boolean) (hlk : meth.locks = false) (hK : zK B s) (hSt : zSt B s) (hap : zAp B) {res : Int} {S9 : Sg} : ∀ (x0 : Int) (S : Sg) (nx0 : zn x0), zf_M_isGood x0 S = some (res, S9) → ∀ (H : Heap) (locs : List Loc) (ls : Array Slot), zW B S H → va_S B.2.2.2 s.heap H locs → lv_has ls 1 [(0, .int (zI (x0)))] → W p l e zm_M_isGood s m args below meth c H locs 0 0 (MQ below (zQi B res S9) args s 0 0 B.2.2.2) (F0 m 0 ls []) := by
  intro x0 S nx0 hf H locs ls hW hS hl
  unfold zf_M_isGood at hf
  refine lv_iload_n C.1 C.2.1 zd_M_isGood_0 rfl (lv_at hl 0 rfl) ?_
  refine zr_iconst C zd_M_isGood_1 ?_
  refine zr_iconst C zd_M_isGood_2 ?_
  obtain ⟨a1, S2, ea1, hf⟩ := zbd_some hf
  refine zcSi (As := [.int (zI (x0)), .int (zI (0)), .int (zI (3))]) (rest := []) C hK hSt hW hS (zc_M_in hap x0 0 3 S nx0 (znb rfl) (znb rfl) ea1) zq_M_in zk_1558 ⟨rfl, rfl, by decide, by decide⟩ ⟨Nat.zero_le _, Nat.zero_le _⟩ rfl hl.1 rfl (lv_room (Nat.le_of_ble_eq_true rfl)) zd_M_isGood_3 (fun na1 H locs hW hS => ?_)
  obtain ⟨h3, hf⟩ := zck_some hf
  cases hf
  exact zre_z C hr hlk hK hW hS na1 (zb01 h3) zd_M_isGood_6

theorem zc_M_isGood {l : Launch} {B : zB} (hap : zAp B) (x0 : Int) (S : Sg) (nx0 : zn x0) {res : Int} {S9 : Sg} (hf : zf_M_isGood x0 S = some (res, S9)) : Met l zy_M_isGood (Cond.code zy_M_isGood zb_M_isGood 1 (some .boolean) :: zT) zm_M_isGood (zP B S [.int (zI (x0))]) (zQi B res S9) 0 0 B.2.2.2 :=
  zmet (by decide) (Nat.le_of_ble_eq_true rfl) (fun p e s m args below meth c C hr hlk hK hSt hW ls hl => zw_M_isGood C hr hlk hK hSt hap   x0 S nx0 hf _ _ _ hW va_S.rf hl)
/-! IslandOfficeModel.store(II)I -/
abbrev zy_M_store : MethodName := ⟨"IslandOfficeModel", "store", "(II)I"⟩
abbrev zb_M_store : ByteArray := prog_14_method_45_code
abbrev zm_M_store : Room := { frames := 2, cells := 0, slots := 0, locals := 42 }
theorem zq_M_store : zMy zy_M_store zb_M_store 3 (some .int) 2 := ⟨zk_1842, zk_1840, zk_1841, zk_14, by decide, by decide, by decide +kernel⟩
theorem zd_M_store_0 : decode zb_M_store 0 = .ok (.aload_n 0, 1) := by decide +kernel
theorem zd_M_store_1 : decode zb_M_store 1 = .ok (.iconst 0, 1) := by decide +kernel
theorem zd_M_store_2 : decode zb_M_store 2 = .ok (.putfield 46, 3) := by decide +kernel
theorem zd_M_store_5 : decode zb_M_store 5 = .ok (.iload_n 1, 1) := by decide +kernel
theorem zd_M_store_6 : decode zb_M_store 6 = .ok (.invokestatic 254, 3) := by decide +kernel
theorem zd_M_store_9 : decode zb_M_store 9 = .ok (.ifCond .eq 14, 3) := by decide +kernel
theorem zd_M_store_12 : decode zb_M_store 12 = .ok (.iload_n 2, 1) := by decide +kernel
theorem zd_M_store_13 : decode zb_M_store 13 = .ok (.iconst 1, 1) := by decide +kernel
theorem zd_M_store_14 : decode zb_M_store 14 = .ok (.sipush 1000, 3) := by decide +kernel
theorem zd_M_store_17 : decode zb_M_store 17 = .ok (.invokestatic 53, 3) := by decide +kernel
theorem zd_M_store_20 : decode zb_M_store 20 = .ok (.ifCond .ne 5, 3) := by decide +kernel
theorem zd_M_store_23 : decode zb_M_store 23 = .ok (.iconst (-1), 1) := by decide +kernel
theorem zd_M_store_24 : decode zb_M_store 24 = .ok (.ireturn, 1) := by decide +kernel
theorem zd_M_store_25 : decode zb_M_store 25 = .ok (.aload_n 0, 1) := by decide +kernel
theorem zd_M_store_26 : decode zb_M_store 26 = .ok (.getfield 10, 3) := by decide +kernel
theorem zd_M_store_29 : decode zb_M_store 29 = .ok (.getfield 257, 3) := by decide +kernel
theorem zd_M_store_32 : decode zb_M_store 32 = .ok (.iload_n 1, 1) := by decide +kernel
theorem zd_M_store_33 : decode zb_M_store 33 = .ok (.iaload, 1) := by decide +kernel
theorem zd_M_store_34 : decode zb_M_store 34 = .ok (.iload_n 2, 1) := by decide +kernel
theorem zd_M_store_35 : decode zb_M_store 35 = .ok (.iadd, 1) := by decide +kernel
theorem zd_M_store_36 : decode zb_M_store 36 = .ok (.sipush 9999, 3) := by decide +kernel
theorem zd_M_store_39 : decode zb_M_store 39 = .ok (.if_icmp .le 6, 3) := by decide +kernel
theorem zd_M_store_42 : decode zb_M_store 42 = .ok (.bipush (-2), 2) := by decide +kernel
theorem zd_M_store_44 : decode zb_M_store 44 = .ok (.ireturn, 1) := by decide +kernel
theorem zd_M_store_45 : decode zb_M_store 45 = .ok (.aload_n 0, 1) := by decide +kernel
theorem zd_M_store_46 : decode zb_M_store 46 = .ok (.getfield 10, 3) := by decide +kernel
theorem zd_M_store_49 : decode zb_M_store 49 = .ok (.getfield 257, 3) := by decide +kernel
theorem zd_M_store_52 : decode zb_M_store 52 = .ok (.iload_n 1, 1) := by decide +kernel
theorem zd_M_store_53 : decode zb_M_store 53 = .ok (.dup2, 1) := by decide +kernel
theorem zd_M_store_54 : decode zb_M_store 54 = .ok (.iaload, 1) := by decide +kernel
theorem zd_M_store_55 : decode zb_M_store 55 = .ok (.iload_n 2, 1) := by decide +kernel
theorem zd_M_store_56 : decode zb_M_store 56 = .ok (.iadd, 1) := by decide +kernel
theorem zd_M_store_57 : decode zb_M_store 57 = .ok (.iastore, 1) := by decide +kernel
theorem zd_M_store_58 : decode zb_M_store 58 = .ok (.aload_n 0, 1) := by decide +kernel
theorem zd_M_store_59 : decode zb_M_store 59 = .ok (.getfield 10, 3) := by decide +kernel
theorem zd_M_store_62 : decode zb_M_store 62 = .ok (.getfield 257, 3) := by decide +kernel
theorem zd_M_store_65 : decode zb_M_store 65 = .ok (.iload_n 1, 1) := by decide +kernel
theorem zd_M_store_66 : decode zb_M_store 66 = .ok (.iaload, 1) := by decide +kernel
theorem zd_M_store_67 : decode zb_M_store 67 = .ok (.ireturn, 1) := by decide +kernel

def zf_M_store (x1 : Int) (x2 : Int) (S : Sg) : Option (Int × Sg) :=
    zlt (zu S 9 0 0 4 0) fun S1 => zbd (zf_M_isGood x1 S1) fun a2 S3 => if a2 = 0 then (some (-1, S3)) else (zbd (zf_M_in x2 1 1000 S3) fun a5 S6 => if a5 = 0 then (some (-1, S6)) else (zck (0 ≤ x1 ∧ x1 < 4) <| if (zw ((S6 5 0 25 x1) + x2)) ≤ 9999 then (zlt (zu S6 5 0 25 x1 (zw ((S6 5 0 25 x1) + x2))) fun S10 => some (S10 5 0 25 x1, S10)) else (some (-2, S6))))
set_option maxHeartbeats 4000000 in
set_option maxRecDepth 100000 in
theorem zw_M_store {p : Program} {l : Launch} {e : Env} {s : State} {m : MethodId} {args : Array Value} {below : List Frame} {meth : Method} {c : Code} {B : zB} (C : CallFix p m c zb_M_store 3 s args zT "IslandOfficeModel") (hr : meth.sig.returnType = some .int) (hlk : meth.locks = false) (hK : zK B s) (hSt : zSt B s) (hap : zAp B) {res : Int} {S9 : Sg} : ∀ (x1 : Int) (x2 : Int) (S : Sg) (nx1 : zn x1) (nx2 : zn x2), zf_M_store x1 x2 S = some (res, S9) → ∀ (H : Heap) (locs : List Loc) (ls : Array Slot), zW B S H → va_S B.2.2.2 s.heap H locs → lv_has ls 3 [(0, .ref (B.2.1 9 (0) (0))), (1, .int (zI (x1))), (2, .int (zI (x2)))] → W p l e zm_M_store s m args below meth c H locs 0 0 (MQ below (zQi B res S9) args s 0 0 B.2.2.2) (F0 m 0 ls []) := by
  intro x1 x2 S nx1 nx2 hf H locs ls hW hS hl
  unfold zf_M_store at hf
  refine lv_aload_n C.1 C.2.1 zd_M_store_0 rfl (lv_at hl 0 rfl) ?_
  refine zr_iconst C zd_M_store_1 ?_
  obtain ⟨S1, eS1, hf⟩ := zlt_some hf
  refine zp_M_thrown (r := 0) C hK hap hW hS (zvd_9 (by decide) (by decide)) zk_1504 (znb rfl) zd_M_store_2 (fun H locs hW hS => ?_)
  rw [eS1] at hW
  refine lv_iload_n C.1 C.2.1 zd_M_store_5 rfl (lv_at hl 1 rfl) ?_
  obtain ⟨a2, S3, ea2, hf⟩ := zbd_some hf
  refine zcSi (As := [.int (zI (x1))]) (rest := []) C hK hSt hW hS (zc_M_isGood hap x1 S1 nx1 ea2) zq_M_isGood zk_1843 ⟨rfl, rfl, by decide, by decide⟩ ⟨Nat.zero_le _, Nat.zero_le _⟩ rfl hl.1 rfl (lv_room (Nat.le_of_ble_eq_true rfl)) zd_M_store_6 (fun na2 H locs hW hS => ?_)
  refine zr_if_eq (tgt := 23) C na2 zd_M_store_9 (by decide) (fun c4 => ?_) (fun c4 => ?_)
  · rw [if_pos c4] at hf
    refine zr_iconst C zd_M_store_23 ?_
    cases hf
    exact zre_i C hr hlk hK hW hS (znb rfl) zd_M_store_24
  · rw [if_neg c4] at hf
    refine lv_iload_n C.1 C.2.1 zd_M_store_12 rfl (lv_at hl 2 rfl) ?_
    refine zr_iconst C zd_M_store_13 ?_
    refine zr_sipush C zd_M_store_14 (by decide) ?_
    obtain ⟨a5, S6, ea5, hf⟩ := zbd_some hf
    refine zcSi (As := [.int (zI (x2)), .int (zI (1)), .int (zI (1000))]) (rest := []) C hK hSt hW hS (zc_M_in hap x2 1 1000 S3 nx2 (znb rfl) (znb rfl) ea5) zq_M_in zk_1558 ⟨rfl, rfl, by decide, by decide⟩ ⟨Nat.zero_le _, Nat.zero_le _⟩ rfl hl.1 rfl (lv_room (Nat.le_of_ble_eq_true rfl)) zd_M_store_17 (fun na5 H locs hW hS => ?_)
    refine zr_if_ne (tgt := 25) C na5 zd_M_store_20 (by decide) (fun c7 => ?_) (fun c7 => ?_)
    · rw [if_neg c7] at hf
      refine lv_aload_n C.1 C.2.1 zd_M_store_25 rfl (lv_at hl 0 rfl) ?_
      refine zg_M_world (r := 0) C hK hW (zvd_9 (by decide) (by decide)) zk_1500 zd_M_store_26 ?_
      refine zg_W_store (r := 0) C hK hW (zvd_5 (by decide) (by decide)) zk_1336 zd_M_store_29 ?_
      refine lv_iload_n C.1 C.2.1 zd_M_store_32 rfl (lv_at hl 1 rfl) ?_
      obtain ⟨h8, hf⟩ := zck_some hf
      refine ziald C hK hW (zvd_5 (by decide) (by decide)) (fun f => ze_5_25 B f (0)) (by decide) h8 zd_M_store_33 ?_
      refine lv_iload_n C.1 C.2.1 zd_M_store_34 rfl (lv_at hl 2 rfl) ?_
      refine zr_iadd C zd_M_store_35 ?_
      refine zr_sipush C zd_M_store_36 (by decide) ?_
      refine zr_icmp_le (tgt := 45) C (zn_w _) (znb rfl) zd_M_store_39 (by decide) (fun c9 => ?_) (fun c9 => ?_)
      · rw [if_pos c9] at hf
        refine lv_aload_n C.1 C.2.1 zd_M_store_45 rfl (lv_at hl 0 rfl) ?_
        refine zg_M_world (r := 0) C hK hW (zvd_9 (by decide) (by decide)) zk_1500 zd_M_store_46 ?_
        refine zg_W_store (r := 0) C hK hW (zvd_5 (by decide) (by decide)) zk_1336 zd_M_store_49 ?_
        refine lv_iload_n C.1 C.2.1 zd_M_store_52 rfl (lv_at hl 1 rfl) ?_
        refine lv_dup2_11 C.1 C.2.1 zd_M_store_53 rfl rfl ?_
        refine ziald C hK hW (zvd_5 (by decide) (by decide)) (fun f => ze_5_25 B f (0)) (by decide) h8 zd_M_store_54 ?_
        refine lv_iload_n C.1 C.2.1 zd_M_store_55 rfl (lv_at hl 2 rfl) ?_
        refine zr_iadd C zd_M_store_56 ?_
        obtain ⟨S10, eS10, hf⟩ := zlt_some hf
        refine ziast C hK hap hW hS (zvd_5 (by decide) (by decide)) (fun f => ze_5_25 B f (0)) (by decide) rfl (zn_w _) h8 zd_M_store_57 (fun H locs hW hS => ?_)
        rw [eS10] at hW
        refine lv_aload_n C.1 C.2.1 zd_M_store_58 rfl (lv_at hl 0 rfl) ?_
        refine zg_M_world (r := 0) C hK hW (zvd_9 (by decide) (by decide)) zk_1500 zd_M_store_59 ?_
        refine zg_W_store (r := 0) C hK hW (zvd_5 (by decide) (by decide)) zk_1336 zd_M_store_62 ?_
        refine lv_iload_n C.1 C.2.1 zd_M_store_65 rfl (lv_at hl 1 rfl) ?_
        refine ziald C hK hW (zvd_5 (by decide) (by decide)) (fun f => ze_5_25 B f (0)) (by decide) h8 zd_M_store_66 ?_
        cases hf
        exact zre_i C hr hlk hK hW hS (zWn hW _ _ _ _ rfl) zd_M_store_67
      · rw [if_neg c9] at hf
        refine zr_bipush C zd_M_store_42 (by decide) ?_
        cases hf
        exact zre_i C hr hlk hK hW hS (znb rfl) zd_M_store_44
    · rw [if_pos c7] at hf
      refine zr_iconst C zd_M_store_23 ?_
      cases hf
      exact zre_i C hr hlk hK hW hS (znb rfl) zd_M_store_24

theorem zc_M_store {l : Launch} {B : zB} (hap : zAp B) (x1 : Int) (x2 : Int) (S : Sg) (nx1 : zn x1) (nx2 : zn x2) {res : Int} {S9 : Sg} (hf : zf_M_store x1 x2 S = some (res, S9)) : Met l zy_M_store (Cond.code zy_M_store zb_M_store 3 (some .int) :: zT) zm_M_store (zP B S [.ref (B.2.1 9 (0) (0)), .int (zI (x1)), .int (zI (x2))]) (zQi B res S9) 0 0 B.2.2.2 :=
  zmet (by decide) (Nat.le_of_ble_eq_true rfl) (fun p e s m args below meth c C hr hlk hK hSt hW ls hl => zw_M_store C hr hlk hK hSt hap   x1 x2 S nx1 nx2 hf _ _ _ hW va_S.rf hl)
/-! IslandOfficeModel.rank(III)I -/
abbrev zy_M_rank : MethodName := ⟨"IslandOfficeModel", "rank", "(III)I"⟩
abbrev zb_M_rank : ByteArray := prog_14_method_46_code
abbrev zm_M_rank : Room := { frames := 2, cells := 0, slots := 0, locals := 42 }
theorem zq_M_rank : zMy zy_M_rank zb_M_rank 6 (some .int) 3 := ⟨zk_1849, zk_1847, zk_1848, zk_14, by decide, by decide, by decide +kernel⟩
theorem zd_M_rank_0 : decode zb_M_rank 0 = .ok (.aload_n 0, 1) := by decide +kernel
theorem zd_M_rank_1 : decode zb_M_rank 1 = .ok (.iconst 0, 1) := by decide +kernel
theorem zd_M_rank_2 : decode zb_M_rank 2 = .ok (.putfield 46, 3) := by decide +kernel
theorem zd_M_rank_5 : decode zb_M_rank 5 = .ok (.iload_n 1, 1) := by decide +kernel
theorem zd_M_rank_6 : decode zb_M_rank 6 = .ok (.invokestatic 254, 3) := by decide +kernel
theorem zd_M_rank_9 : decode zb_M_rank 9 = .ok (.ifCond .eq 40, 3) := by decide +kernel
theorem zd_M_rank_12 : decode zb_M_rank 12 = .ok (.iload_n 2, 1) := by decide +kernel
theorem zd_M_rank_13 : decode zb_M_rank 13 = .ok (.iconst 0, 1) := by decide +kernel
theorem zd_M_rank_14 : decode zb_M_rank 14 = .ok (.iconst 1, 1) := by decide +kernel
theorem zd_M_rank_15 : decode zb_M_rank 15 = .ok (.invokestatic 53, 3) := by decide +kernel
theorem zd_M_rank_18 : decode zb_M_rank 18 = .ok (.ifCond .eq 31, 3) := by decide +kernel
theorem zd_M_rank_21 : decode zb_M_rank 21 = .ok (.iload_n 3, 1) := by decide +kernel
theorem zd_M_rank_22 : decode zb_M_rank 22 = .ok (.iconst 0, 1) := by decide +kernel
theorem zd_M_rank_23 : decode zb_M_rank 23 = .ok (.iload_n 2, 1) := by decide +kernel
theorem zd_M_rank_24 : decode zb_M_rank 24 = .ok (.ifCond .ne 8, 3) := by decide +kernel
theorem zd_M_rank_27 : decode zb_M_rank 27 = .ok (.bipush 9, 2) := by decide +kernel
theorem zd_M_rank_29 : decode zb_M_rank 29 = .ok (.goto 5, 3) := by decide +kernel
theorem zd_M_rank_32 : decode zb_M_rank 32 = .ok (.bipush 99, 2) := by decide +kernel
theorem zd_M_rank_34 : decode zb_M_rank 34 = .ok (.invokestatic 53, 3) := by decide +kernel
theorem zd_M_rank_37 : decode zb_M_rank 37 = .ok (.ifCond .eq 12, 3) := by decide +kernel
theorem zd_M_rank_40 : decode zb_M_rank 40 = .ok (.iload_n 2, 1) := by decide +kernel
theorem zd_M_rank_41 : decode zb_M_rank 41 = .ok (.iconst 1, 1) := by decide +kernel
theorem zd_M_rank_42 : decode zb_M_rank 42 = .ok (.if_icmp .ne 9, 3) := by decide +kernel
theorem zd_M_rank_45 : decode zb_M_rank 45 = .ok (.iload_n 1, 1) := by decide +kernel
theorem zd_M_rank_46 : decode zb_M_rank 46 = .ok (.ifCond .ne 5, 3) := by decide +kernel
theorem zd_M_rank_49 : decode zb_M_rank 49 = .ok (.iconst (-1), 1) := by decide +kernel
theorem zd_M_rank_50 : decode zb_M_rank 50 = .ok (.ireturn, 1) := by decide +kernel
theorem zd_M_rank_51 : decode zb_M_rank 51 = .ok (.iload_n 2, 1) := by decide +kernel
theorem zd_M_rank_52 : decode zb_M_rank 52 = .ok (.ifCond .ne 13, 3) := by decide +kernel
theorem zd_M_rank_55 : decode zb_M_rank 55 = .ok (.aload_n 0, 1) := by decide +kernel
theorem zd_M_rank_56 : decode zb_M_rank 56 = .ok (.getfield 10, 3) := by decide +kernel
theorem zd_M_rank_59 : decode zb_M_rank 59 = .ok (.getfield 260, 3) := by decide +kernel
theorem zd_M_rank_62 : decode zb_M_rank 62 = .ok (.goto 10, 3) := by decide +kernel
theorem zd_M_rank_65 : decode zb_M_rank 65 = .ok (.aload_n 0, 1) := by decide +kernel
theorem zd_M_rank_66 : decode zb_M_rank 66 = .ok (.getfield 10, 3) := by decide +kernel
theorem zd_M_rank_69 : decode zb_M_rank 69 = .ok (.getfield 263, 3) := by decide +kernel
theorem zd_M_rank_72 : decode zb_M_rank 72 = .ok (.astore 4, 2) := by decide +kernel
theorem zd_M_rank_74 : decode zb_M_rank 74 = .ok (.aload 4, 2) := by decide +kernel
theorem zd_M_rank_76 : decode zb_M_rank 76 = .ok (.iload_n 1, 1) := by decide +kernel
theorem zd_M_rank_77 : decode zb_M_rank 77 = .ok (.iaload, 1) := by decide +kernel
theorem zd_M_rank_78 : decode zb_M_rank 78 = .ok (.istore 5, 2) := by decide +kernel
theorem zd_M_rank_80 : decode zb_M_rank 80 = .ok (.aload 4, 2) := by decide +kernel
theorem zd_M_rank_82 : decode zb_M_rank 82 = .ok (.iload_n 1, 1) := by decide +kernel
theorem zd_M_rank_83 : decode zb_M_rank 83 = .ok (.iload_n 3, 1) := by decide +kernel
theorem zd_M_rank_84 : decode zb_M_rank 84 = .ok (.iastore, 1) := by decide +kernel
theorem zd_M_rank_85 : decode zb_M_rank 85 = .ok (.iload 5, 2) := by decide +kernel
theorem zd_M_rank_87 : decode zb_M_rank 87 = .ok (.ireturn, 1) := by decide +kernel

def zf_M_rank_51 (x1 : Int) (x2 : Int) (x3 : Int) (S : Sg) : Option (Int × Sg) :=
    if x2 = 0 then (zck (0 ≤ x1 ∧ x1 < 4) <| zlt (S 5 0 26 x1) fun v6 => zlt (zu S 5 0 26 x1 x3) fun S7 => some (v6, S7)) else (zck (0 ≤ x1 ∧ x1 < 4) <| zlt (S 5 0 27 x1) fun v3 => zlt (zu S 5 0 27 x1 x3) fun S4 => some (v3, S4))
set_option maxHeartbeats 4000000 in
set_option maxRecDepth 100000 in
theorem zw_M_rank_51 {p : Program} {l : Launch} {e : Env} {s : State} {m : MethodId} {args : Array Value} {below : List Frame} {meth : Method} {c : Code} {B : zB} (C : CallFix p m c zb_M_rank 6 s args zT "IslandOfficeModel") (hr : meth.sig.returnType = some .int) (hlk : meth.locks = false) (hK : zK B s) (hSt : zSt B s) (hap : zAp B) {res : Int} {S9 : Sg} : ∀ (x1 : Int) (x2 : Int) (x3 : Int) (S : Sg) (nx1 : zn x1) (nx2 : zn x2) (nx3 : zn x3), zf_M_rank_51 x1 x2 x3 S = some (res, S9) → ∀ (H : Heap) (locs : List Loc) (ls : Array Slot), zW B S H → va_S B.2.2.2 s.heap H locs → lv_has ls 6 [(0, .ref (B.2.1 9 (0) (0))), (1, .int (zI (x1))), (2, .int (zI (x2))), (3, .int (zI (x3)))] → W p l e zm_M_rank s m args below meth c H locs 0 0 (MQ below (zQi B res S9) args s 0 0 B.2.2.2) (F0 m 51 ls []) := by
  intro x1 x2 x3 S nx1 nx2 nx3 hf H locs ls hW hS hl
  unfold zf_M_rank_51 at hf
  refine lv_iload_n C.1 C.2.1 zd_M_rank_51 rfl (lv_at hl 2 rfl) ?_
  refine zr_if_ne (tgt := 65) C nx2 zd_M_rank_52 (by decide) (fun c1 => ?_) (fun c1 => ?_)
  · rw [if_neg c1] at hf
    refine lv_aload_n C.1 C.2.1 zd_M_rank_65 rfl (lv_at hl 0 rfl) ?_
    refine zg_M_world (r := 0) C hK hW (zvd_9 (by decide) (by decide)) zk_1500 zd_M_rank_66 ?_
    refine zg_W_use (r := 0) C hK hW (zvd_5 (by decide) (by decide)) zk_1340 zd_M_rank_69 ?_
    refine lv_astore (lv' := [(4, .ref (B.2.1 5 (0) (27))), (0, .ref (B.2.1 9 (0) (0))), (1, .int (zI (x1))), (2, .int (zI (x2))), (3, .int (zI (x3)))]) C.1 C.2.1 zd_M_rank_72 hl (by decide) rfl (fun ls hl => ?_)
    refine lv_aload C.1 C.2.1 zd_M_rank_74 (lv_at hl 0 rfl) ?_
    refine lv_iload_n C.1 C.2.1 zd_M_rank_76 rfl (lv_at hl 2 rfl) ?_
    obtain ⟨h2, hf⟩ := zck_some hf
    refine ziald C hK hW (zvd_5 (by decide) (by decide)) (fun f => ze_5_27 B f (0)) (by decide) h2 zd_M_rank_77 ?_
    obtain ⟨v3, ev3, hf⟩ := zlt_some hf
    have nv3 : zn v3 := by rw [← ev3]; exact (zWn hW _ _ _ _ rfl)
    rw [ev3]
    refine lv_istore (lv' := [(5, .int (zI (v3))), (4, .ref (B.2.1 5 (0) (27))), (0, .ref (B.2.1 9 (0) (0))), (1, .int (zI (x1))), (2, .int (zI (x2))), (3, .int (zI (x3)))]) C.1 C.2.1 zd_M_rank_78 hl (by decide) rfl (fun ls hl => ?_)
    refine lv_aload C.1 C.2.1 zd_M_rank_80 (lv_at hl 1 rfl) ?_
    refine lv_iload_n C.1 C.2.1 zd_M_rank_82 rfl (lv_at hl 3 rfl) ?_
    refine lv_iload_n C.1 C.2.1 zd_M_rank_83 rfl (lv_at hl 5 rfl) ?_
    obtain ⟨S4, eS4, hf⟩ := zlt_some hf
    refine ziast C hK hap hW hS (zvd_5 (by decide) (by decide)) (fun f => ze_5_27 B f (0)) (by decide) rfl nx3 h2 zd_M_rank_84 (fun H locs hW hS => ?_)
    rw [eS4] at hW
    refine lv_iload C.1 C.2.1 zd_M_rank_85 (lv_at hl 0 rfl) ?_
    cases hf
    exact zre_i C hr hlk hK hW hS nv3 zd_M_rank_87
  · rw [if_pos c1] at hf
    refine lv_aload_n C.1 C.2.1 zd_M_rank_55 rfl (lv_at hl 0 rfl) ?_
    refine zg_M_world (r := 0) C hK hW (zvd_9 (by decide) (by decide)) zk_1500 zd_M_rank_56 ?_
    refine zg_W_rank (r := 0) C hK hW (zvd_5 (by decide) (by decide)) zk_1338 zd_M_rank_59 ?_
    refine lv_goto (tgt := 72) C.1 C.2.1 zd_M_rank_62 (by decide) ?_
    refine lv_astore (lv' := [(4, .ref (B.2.1 5 (0) (26))), (0, .ref (B.2.1 9 (0) (0))), (1, .int (zI (x1))), (2, .int (zI (x2))), (3, .int (zI (x3)))]) C.1 C.2.1 zd_M_rank_72 hl (by decide) rfl (fun ls hl => ?_)
    refine lv_aload C.1 C.2.1 zd_M_rank_74 (lv_at hl 0 rfl) ?_
    refine lv_iload_n C.1 C.2.1 zd_M_rank_76 rfl (lv_at hl 2 rfl) ?_
    obtain ⟨h5, hf⟩ := zck_some hf
    refine ziald C hK hW (zvd_5 (by decide) (by decide)) (fun f => ze_5_26 B f (0)) (by decide) h5 zd_M_rank_77 ?_
    obtain ⟨v6, ev6, hf⟩ := zlt_some hf
    have nv6 : zn v6 := by rw [← ev6]; exact (zWn hW _ _ _ _ rfl)
    rw [ev6]
    refine lv_istore (lv' := [(5, .int (zI (v6))), (4, .ref (B.2.1 5 (0) (26))), (0, .ref (B.2.1 9 (0) (0))), (1, .int (zI (x1))), (2, .int (zI (x2))), (3, .int (zI (x3)))]) C.1 C.2.1 zd_M_rank_78 hl (by decide) rfl (fun ls hl => ?_)
    refine lv_aload C.1 C.2.1 zd_M_rank_80 (lv_at hl 1 rfl) ?_
    refine lv_iload_n C.1 C.2.1 zd_M_rank_82 rfl (lv_at hl 3 rfl) ?_
    refine lv_iload_n C.1 C.2.1 zd_M_rank_83 rfl (lv_at hl 5 rfl) ?_
    obtain ⟨S7, eS7, hf⟩ := zlt_some hf
    refine ziast C hK hap hW hS (zvd_5 (by decide) (by decide)) (fun f => ze_5_26 B f (0)) (by decide) rfl nx3 h5 zd_M_rank_84 (fun H locs hW hS => ?_)
    rw [eS7] at hW
    refine lv_iload C.1 C.2.1 zd_M_rank_85 (lv_at hl 0 rfl) ?_
    cases hf
    exact zre_i C hr hlk hK hW hS nv6 zd_M_rank_87

def zf_M_rank_34 (x1 : Int) (x2 : Int) (x3 : Int) (xt0 : Int) (xt1 : Int) (xt2 : Int) (S : Sg) : Option (Int × Sg) :=
    zbd (zf_M_in xt0 xt1 xt2 S) fun a1 S2 => if a1 = 0 then (some (-1, S2)) else (if x2 = 1 then (if x1 = 0 then (some (-1, S2)) else (zf_M_rank_51 (x1) (x2) (x3) S2)) else (zf_M_rank_51 (x1) (x2) (x3) S2))
set_option maxHeartbeats 4000000 in
set_option maxRecDepth 100000 in
theorem zw_M_rank_34 {p : Program} {l : Launch} {e : Env} {s : State} {m : MethodId} {args : Array Value} {below : List Frame} {meth : Method} {c : Code} {B : zB} (C : CallFix p m c zb_M_rank 6 s args zT "IslandOfficeModel") (hr : meth.sig.returnType = some .int) (hlk : meth.locks = false) (hK : zK B s) (hSt : zSt B s) (hap : zAp B) {res : Int} {S9 : Sg} : ∀ (x1 : Int) (x2 : Int) (x3 : Int) (xt0 : Int) (xt1 : Int) (xt2 : Int) (S : Sg) (nx1 : zn x1) (nx2 : zn x2) (nx3 : zn x3) (nxt0 : zn xt0) (nxt1 : zn xt1) (nxt2 : zn xt2), zf_M_rank_34 x1 x2 x3 xt0 xt1 xt2 S = some (res, S9) → ∀ (H : Heap) (locs : List Loc) (ls : Array Slot), zW B S H → va_S B.2.2.2 s.heap H locs → lv_has ls 6 [(0, .ref (B.2.1 9 (0) (0))), (1, .int (zI (x1))), (2, .int (zI (x2))), (3, .int (zI (x3)))] → W p l e zm_M_rank s m args below meth c H locs 0 0 (MQ below (zQi B res S9) args s 0 0 B.2.2.2) (F0 m 34 ls [.int (zI (xt2)), .int (zI (xt1)), .int (zI (xt0))]) := by
  intro x1 x2 x3 xt0 xt1 xt2 S nx1 nx2 nx3 nxt0 nxt1 nxt2 hf H locs ls hW hS hl
  unfold zf_M_rank_34 at hf
  obtain ⟨a1, S2, ea1, hf⟩ := zbd_some hf
  refine zcSi (As := [.int (zI (xt0)), .int (zI (xt1)), .int (zI (xt2))]) (rest := []) C hK hSt hW hS (zc_M_in hap xt0 xt1 xt2 S nxt0 nxt1 nxt2 ea1) zq_M_in zk_1558 ⟨rfl, rfl, by decide, by decide⟩ ⟨Nat.zero_le _, Nat.zero_le _⟩ rfl hl.1 rfl (lv_room (Nat.le_of_ble_eq_true rfl)) zd_M_rank_34 (fun na1 H locs hW hS => ?_)
  refine zr_if_eq (tgt := 49) C na1 zd_M_rank_37 (by decide) (fun c3 => ?_) (fun c3 => ?_)
  · rw [if_pos c3] at hf
    refine zr_iconst C zd_M_rank_49 ?_
    cases hf
    exact zre_i C hr hlk hK hW hS (znb rfl) zd_M_rank_50
  · rw [if_neg c3] at hf
    refine lv_iload_n C.1 C.2.1 zd_M_rank_40 rfl (lv_at hl 2 rfl) ?_
    refine zr_iconst C zd_M_rank_41 ?_
    refine zr_icmp_ne (tgt := 51) C nx2 (znb rfl) zd_M_rank_42 (by decide) (fun c4 => ?_) (fun c4 => ?_)
    · rw [if_neg c4] at hf
      exact zw_M_rank_51 C hr hlk hK hSt hap   (x1) (x2) (x3) S2 nx1 nx2 nx3 hf _ _ _ hW hS (lv_sub hl [0, 1, 2, 3] rfl)
    · rw [if_pos c4] at hf
      refine lv_iload_n C.1 C.2.1 zd_M_rank_45 rfl (lv_at hl 1 rfl) ?_
      refine zr_if_ne (tgt := 51) C nx1 zd_M_rank_46 (by decide) (fun c5 => ?_) (fun c5 => ?_)
      · rw [if_neg c5] at hf
        exact zw_M_rank_51 C hr hlk hK hSt hap   (x1) (x2) (x3) S2 nx1 nx2 nx3 hf _ _ _ hW hS (lv_sub hl [0, 1, 2, 3] rfl)
      · rw [if_pos c5] at hf
        refine zr_iconst C zd_M_rank_49 ?_
        cases hf
        exact zre_i C hr hlk hK hW hS (znb rfl) zd_M_rank_50

def zf_M_rank (x1 : Int) (x2 : Int) (x3 : Int) (S : Sg) : Option (Int × Sg) :=
    zlt (zu S 9 0 0 4 0) fun S1 => zbd (zf_M_isGood x1 S1) fun a2 S3 => if a2 = 0 then (some (-1, S3)) else (zbd (zf_M_in x2 0 1 S3) fun a5 S6 => if a5 = 0 then (some (-1, S6)) else (if x2 = 0 then (zf_M_rank_34 (x1) (x2) (x3) (x3) (0) (9) S6) else (zf_M_rank_34 (x1) (x2) (x3) (x3) (0) (99) S6)))
set_option maxHeartbeats 4000000 in
set_option maxRecDepth 100000 in
theorem zw_M_rank {p : Program} {l : Launch} {e : Env} {s : State} {m : MethodId} {args : Array Value} {below : List Frame} {meth : Method} {c : Code} {B : zB} (C : CallFix p m c zb_M_rank 6 s args zT "IslandOfficeModel") (hr : meth.sig.returnType = some .int) (hlk : meth.locks = false) (hK : zK B s) (hSt : zSt B s) (hap : zAp B) {res : Int} {S9 : Sg} : ∀ (x1 : Int) (x2 : Int) (x3 : Int) (S : Sg) (nx1 : zn x1) (nx2 : zn x2) (nx3 : zn x3), zf_M_rank x1 x2 x3 S = some (res, S9) → ∀ (H : Heap) (locs : List Loc) (ls : Array Slot), zW B S H → va_S B.2.2.2 s.heap H locs → lv_has ls 6 [(0, .ref (B.2.1 9 (0) (0))), (1, .int (zI (x1))), (2, .int (zI (x2))), (3, .int (zI (x3)))] → W p l e zm_M_rank s m args below meth c H locs 0 0 (MQ below (zQi B res S9) args s 0 0 B.2.2.2) (F0 m 0 ls []) := by
  intro x1 x2 x3 S nx1 nx2 nx3 hf H locs ls hW hS hl
  unfold zf_M_rank at hf
  refine lv_aload_n C.1 C.2.1 zd_M_rank_0 rfl (lv_at hl 0 rfl) ?_
  refine zr_iconst C zd_M_rank_1 ?_
  obtain ⟨S1, eS1, hf⟩ := zlt_some hf
  refine zp_M_thrown (r := 0) C hK hap hW hS (zvd_9 (by decide) (by decide)) zk_1504 (znb rfl) zd_M_rank_2 (fun H locs hW hS => ?_)
  rw [eS1] at hW
  refine lv_iload_n C.1 C.2.1 zd_M_rank_5 rfl (lv_at hl 1 rfl) ?_
  obtain ⟨a2, S3, ea2, hf⟩ := zbd_some hf
  refine zcSi (As := [.int (zI (x1))]) (rest := []) C hK hSt hW hS (zc_M_isGood hap x1 S1 nx1 ea2) zq_M_isGood zk_1843 ⟨rfl, rfl, by decide, by decide⟩ ⟨Nat.zero_le _, Nat.zero_le _⟩ rfl hl.1 rfl (lv_room (Nat.le_of_ble_eq_true rfl)) zd_M_rank_6 (fun na2 H locs hW hS => ?_)
  refine zr_if_eq (tgt := 49) C na2 zd_M_rank_9 (by decide) (fun c4 => ?_) (fun c4 => ?_)
  · rw [if_pos c4] at hf
    refine zr_iconst C zd_M_rank_49 ?_
    cases hf
    exact zre_i C hr hlk hK hW hS (znb rfl) zd_M_rank_50
  · rw [if_neg c4] at hf
    refine lv_iload_n C.1 C.2.1 zd_M_rank_12 rfl (lv_at hl 2 rfl) ?_
    refine zr_iconst C zd_M_rank_13 ?_
    refine zr_iconst C zd_M_rank_14 ?_
    obtain ⟨a5, S6, ea5, hf⟩ := zbd_some hf
    refine zcSi (As := [.int (zI (x2)), .int (zI (0)), .int (zI (1))]) (rest := []) C hK hSt hW hS (zc_M_in hap x2 0 1 S3 nx2 (znb rfl) (znb rfl) ea5) zq_M_in zk_1558 ⟨rfl, rfl, by decide, by decide⟩ ⟨Nat.zero_le _, Nat.zero_le _⟩ rfl hl.1 rfl (lv_room (Nat.le_of_ble_eq_true rfl)) zd_M_rank_15 (fun na5 H locs hW hS => ?_)
    refine zr_if_eq (tgt := 49) C na5 zd_M_rank_18 (by decide) (fun c7 => ?_) (fun c7 => ?_)
    · rw [if_pos c7] at hf
      refine zr_iconst C zd_M_rank_49 ?_
      cases hf
      exact zre_i C hr hlk hK hW hS (znb rfl) zd_M_rank_50
    · rw [if_neg c7] at hf
      refine lv_iload_n C.1 C.2.1 zd_M_rank_21 rfl (lv_at hl 3 rfl) ?_
      refine zr_iconst C zd_M_rank_22 ?_
      refine lv_iload_n C.1 C.2.1 zd_M_rank_23 rfl (lv_at hl 2 rfl) ?_
      refine zr_if_ne (tgt := 32) C nx2 zd_M_rank_24 (by decide) (fun c8 => ?_) (fun c8 => ?_)
      · rw [if_neg c8] at hf
        refine zr_bipush C zd_M_rank_32 (by decide) ?_
        exact zw_M_rank_34 C hr hlk hK hSt hap   (x1) (x2) (x3) (x3) (0) (99) S6 nx1 nx2 nx3 nx3 (znb rfl) (znb rfl) hf _ _ _ hW hS (lv_sub hl [0, 1, 2, 3] rfl)
      · rw [if_pos c8] at hf
        refine zr_bipush C zd_M_rank_27 (by decide) ?_
        refine lv_goto (tgt := 34) C.1 C.2.1 zd_M_rank_29 (by decide) ?_
        exact zw_M_rank_34 C hr hlk hK hSt hap   (x1) (x2) (x3) (x3) (0) (9) S6 nx1 nx2 nx3 nx3 (znb rfl) (znb rfl) hf _ _ _ hW hS (lv_sub hl [0, 1, 2, 3] rfl)

theorem zc_M_rank {l : Launch} {B : zB} (hap : zAp B) (x1 : Int) (x2 : Int) (x3 : Int) (S : Sg) (nx1 : zn x1) (nx2 : zn x2) (nx3 : zn x3) {res : Int} {S9 : Sg} (hf : zf_M_rank x1 x2 x3 S = some (res, S9)) : Met l zy_M_rank (Cond.code zy_M_rank zb_M_rank 6 (some .int) :: zT) zm_M_rank (zP B S [.ref (B.2.1 9 (0) (0)), .int (zI (x1)), .int (zI (x2)), .int (zI (x3))]) (zQi B res S9) 0 0 B.2.2.2 :=
  zmet (by decide) (Nat.le_of_ble_eq_true rfl) (fun p e s m args below meth c C hr hlk hK hSt hW ls hl => zw_M_rank C hr hlk hK hSt hap   x1 x2 x3 S nx1 nx2 nx3 hf _ _ _ hW va_S.rf hl)
/-! IslandOfficeModel.order(II)I -/
abbrev zy_M_order : MethodName := ⟨"IslandOfficeModel", "order", "(II)I"⟩
abbrev zb_M_order : ByteArray := prog_14_method_47_code
abbrev zm_M_order : Room := { frames := 2, cells := 0, slots := 0, locals := 42 }
theorem zq_M_order : zMy zy_M_order zb_M_order 3 (some .int) 2 := ⟨zk_1853, zk_1851, zk_1852, zk_14, by decide, by decide, by decide +kernel⟩
theorem zd_M_order_0 : decode zb_M_order 0 = .ok (.aload_n 0, 1) := by decide +kernel
theorem zd_M_order_1 : decode zb_M_order 1 = .ok (.iconst 0, 1) := by decide +kernel
theorem zd_M_order_2 : decode zb_M_order 2 = .ok (.putfield 46, 3) := by decide +kernel
theorem zd_M_order_5 : decode zb_M_order 5 = .ok (.iload_n 1, 1) := by decide +kernel
theorem zd_M_order_6 : decode zb_M_order 6 = .ok (.invokestatic 254, 3) := by decide +kernel
theorem zd_M_order_9 : decode zb_M_order 9 = .ok (.ifCond .eq 14, 3) := by decide +kernel
theorem zd_M_order_12 : decode zb_M_order 12 = .ok (.iload_n 2, 1) := by decide +kernel
theorem zd_M_order_13 : decode zb_M_order 13 = .ok (.iconst 1, 1) := by decide +kernel
theorem zd_M_order_14 : decode zb_M_order 14 = .ok (.sipush 500, 3) := by decide +kernel
theorem zd_M_order_17 : decode zb_M_order 17 = .ok (.invokestatic 53, 3) := by decide +kernel
theorem zd_M_order_20 : decode zb_M_order 20 = .ok (.ifCond .ne 5, 3) := by decide +kernel
theorem zd_M_order_23 : decode zb_M_order 23 = .ok (.iconst (-1), 1) := by decide +kernel
theorem zd_M_order_24 : decode zb_M_order 24 = .ok (.ireturn, 1) := by decide +kernel
theorem zd_M_order_25 : decode zb_M_order 25 = .ok (.aload_n 0, 1) := by decide +kernel
theorem zd_M_order_26 : decode zb_M_order 26 = .ok (.getfield 10, 3) := by decide +kernel
theorem zd_M_order_29 : decode zb_M_order 29 = .ok (.getfield 266, 3) := by decide +kernel
theorem zd_M_order_32 : decode zb_M_order 32 = .ok (.bipush 30, 2) := by decide +kernel
theorem zd_M_order_34 : decode zb_M_order 34 = .ok (.if_icmp .ne 6, 3) := by decide +kernel
theorem zd_M_order_37 : decode zb_M_order 37 = .ok (.bipush (-2), 2) := by decide +kernel
theorem zd_M_order_39 : decode zb_M_order 39 = .ok (.ireturn, 1) := by decide +kernel
theorem zd_M_order_40 : decode zb_M_order 40 = .ok (.aload_n 0, 1) := by decide +kernel
theorem zd_M_order_41 : decode zb_M_order 41 = .ok (.getfield 10, 3) := by decide +kernel
theorem zd_M_order_44 : decode zb_M_order 44 = .ok (.getfield 269, 3) := by decide +kernel
theorem zd_M_order_47 : decode zb_M_order 47 = .ok (.aload_n 0, 1) := by decide +kernel
theorem zd_M_order_48 : decode zb_M_order 48 = .ok (.getfield 10, 3) := by decide +kernel
theorem zd_M_order_51 : decode zb_M_order 51 = .ok (.getfield 266, 3) := by decide +kernel
theorem zd_M_order_54 : decode zb_M_order 54 = .ok (.iload_n 1, 1) := by decide +kernel
theorem zd_M_order_55 : decode zb_M_order 55 = .ok (.iastore, 1) := by decide +kernel
theorem zd_M_order_56 : decode zb_M_order 56 = .ok (.aload_n 0, 1) := by decide +kernel
theorem zd_M_order_57 : decode zb_M_order 57 = .ok (.getfield 10, 3) := by decide +kernel
theorem zd_M_order_60 : decode zb_M_order 60 = .ok (.getfield 272, 3) := by decide +kernel
theorem zd_M_order_63 : decode zb_M_order 63 = .ok (.aload_n 0, 1) := by decide +kernel
theorem zd_M_order_64 : decode zb_M_order 64 = .ok (.getfield 10, 3) := by decide +kernel
theorem zd_M_order_67 : decode zb_M_order 67 = .ok (.getfield 266, 3) := by decide +kernel
theorem zd_M_order_70 : decode zb_M_order 70 = .ok (.iload_n 2, 1) := by decide +kernel
theorem zd_M_order_71 : decode zb_M_order 71 = .ok (.iastore, 1) := by decide +kernel
theorem zd_M_order_72 : decode zb_M_order 72 = .ok (.aload_n 0, 1) := by decide +kernel
theorem zd_M_order_73 : decode zb_M_order 73 = .ok (.getfield 10, 3) := by decide +kernel
theorem zd_M_order_76 : decode zb_M_order 76 = .ok (.dup, 1) := by decide +kernel
theorem zd_M_order_77 : decode zb_M_order 77 = .ok (.getfield 266, 3) := by decide +kernel
theorem zd_M_order_80 : decode zb_M_order 80 = .ok (.dup_x1, 1) := by decide +kernel
theorem zd_M_order_81 : decode zb_M_order 81 = .ok (.iconst 1, 1) := by decide +kernel
theorem zd_M_order_82 : decode zb_M_order 82 = .ok (.iadd, 1) := by decide +kernel
theorem zd_M_order_83 : decode zb_M_order 83 = .ok (.putfield 266, 3) := by decide +kernel
theorem zd_M_order_86 : decode zb_M_order 86 = .ok (.ireturn, 1) := by decide +kernel

def zf_M_order (x1 : Int) (x2 : Int) (S : Sg) : Option (Int × Sg) :=
    zlt (zu S 9 0 0 4 0) fun S1 => zbd (zf_M_isGood x1 S1) fun a2 S3 => if a2 = 0 then (some (-1, S3)) else (zbd (zf_M_in x2 1 500 S3) fun a5 S6 => if a5 = 0 then (some (-1, S6)) else (if (S6 5 0 0 33) = 30 then (some (-2, S6)) else (zck (0 ≤ (S6 5 0 0 33) ∧ (S6 5 0 0 33) < 30) <| zlt (zu S6 5 0 28 (S6 5 0 0 33) x1) fun S10 => zck (0 ≤ (S10 5 0 0 33) ∧ (S10 5 0 0 33) < 30) <| zlt (zu S10 5 0 29 (S10 5 0 0 33) x2) fun S12 => zlt (zu S12 5 0 0 33 (zw ((S12 5 0 0 33) + 1))) fun S13 => some (S12 5 0 0 33, S13))))
set_option maxHeartbeats 4000000 in
set_option maxRecDepth 100000 in
theorem zw_M_order {p : Program} {l : Launch} {e : Env} {s : State} {m : MethodId} {args : Array Value} {below : List Frame} {meth : Method} {c : Code} {B : zB} (C : CallFix p m c zb_M_order 3 s args zT "IslandOfficeModel") (hr : meth.sig.returnType = some .int) (hlk : meth.locks = false) (hK : zK B s) (hSt : zSt B s) (hap : zAp B) {res : Int} {S9 : Sg} : ∀ (x1 : Int) (x2 : Int) (S : Sg) (nx1 : zn x1) (nx2 : zn x2), zf_M_order x1 x2 S = some (res, S9) → ∀ (H : Heap) (locs : List Loc) (ls : Array Slot), zW B S H → va_S B.2.2.2 s.heap H locs → lv_has ls 3 [(0, .ref (B.2.1 9 (0) (0))), (1, .int (zI (x1))), (2, .int (zI (x2)))] → W p l e zm_M_order s m args below meth c H locs 0 0 (MQ below (zQi B res S9) args s 0 0 B.2.2.2) (F0 m 0 ls []) := by
  intro x1 x2 S nx1 nx2 hf H locs ls hW hS hl
  unfold zf_M_order at hf
  refine lv_aload_n C.1 C.2.1 zd_M_order_0 rfl (lv_at hl 0 rfl) ?_
  refine zr_iconst C zd_M_order_1 ?_
  obtain ⟨S1, eS1, hf⟩ := zlt_some hf
  refine zp_M_thrown (r := 0) C hK hap hW hS (zvd_9 (by decide) (by decide)) zk_1504 (znb rfl) zd_M_order_2 (fun H locs hW hS => ?_)
  rw [eS1] at hW
  refine lv_iload_n C.1 C.2.1 zd_M_order_5 rfl (lv_at hl 1 rfl) ?_
  obtain ⟨a2, S3, ea2, hf⟩ := zbd_some hf
  refine zcSi (As := [.int (zI (x1))]) (rest := []) C hK hSt hW hS (zc_M_isGood hap x1 S1 nx1 ea2) zq_M_isGood zk_1843 ⟨rfl, rfl, by decide, by decide⟩ ⟨Nat.zero_le _, Nat.zero_le _⟩ rfl hl.1 rfl (lv_room (Nat.le_of_ble_eq_true rfl)) zd_M_order_6 (fun na2 H locs hW hS => ?_)
  refine zr_if_eq (tgt := 23) C na2 zd_M_order_9 (by decide) (fun c4 => ?_) (fun c4 => ?_)
  · rw [if_pos c4] at hf
    refine zr_iconst C zd_M_order_23 ?_
    cases hf
    exact zre_i C hr hlk hK hW hS (znb rfl) zd_M_order_24
  · rw [if_neg c4] at hf
    refine lv_iload_n C.1 C.2.1 zd_M_order_12 rfl (lv_at hl 2 rfl) ?_
    refine zr_iconst C zd_M_order_13 ?_
    refine zr_sipush C zd_M_order_14 (by decide) ?_
    obtain ⟨a5, S6, ea5, hf⟩ := zbd_some hf
    refine zcSi (As := [.int (zI (x2)), .int (zI (1)), .int (zI (500))]) (rest := []) C hK hSt hW hS (zc_M_in hap x2 1 500 S3 nx2 (znb rfl) (znb rfl) ea5) zq_M_in zk_1558 ⟨rfl, rfl, by decide, by decide⟩ ⟨Nat.zero_le _, Nat.zero_le _⟩ rfl hl.1 rfl (lv_room (Nat.le_of_ble_eq_true rfl)) zd_M_order_17 (fun na5 H locs hW hS => ?_)
    refine zr_if_ne (tgt := 25) C na5 zd_M_order_20 (by decide) (fun c7 => ?_) (fun c7 => ?_)
    · rw [if_neg c7] at hf
      refine lv_aload_n C.1 C.2.1 zd_M_order_25 rfl (lv_at hl 0 rfl) ?_
      refine zg_M_world (r := 0) C hK hW (zvd_9 (by decide) (by decide)) zk_1500 zd_M_order_26 ?_
      refine zg_W_orders (r := 0) C hK hW (zvd_5 (by decide) (by decide)) zk_1342 zd_M_order_29 ?_
      refine zr_bipush C zd_M_order_32 (by decide) ?_
      refine zr_icmp_ne (tgt := 40) C (zWn hW _ _ _ _ rfl) (znb rfl) zd_M_order_34 (by decide) (fun c8 => ?_) (fun c8 => ?_)
      · rw [if_neg c8] at hf
        refine lv_aload_n C.1 C.2.1 zd_M_order_40 rfl (lv_at hl 0 rfl) ?_
        refine zg_M_world (r := 0) C hK hW (zvd_9 (by decide) (by decide)) zk_1500 zd_M_order_41 ?_
        refine zg_W_orderGood (r := 0) C hK hW (zvd_5 (by decide) (by decide)) zk_1344 zd_M_order_44 ?_
        refine lv_aload_n C.1 C.2.1 zd_M_order_47 rfl (lv_at hl 0 rfl) ?_
        refine zg_M_world (r := 0) C hK hW (zvd_9 (by decide) (by decide)) zk_1500 zd_M_order_48 ?_
        refine zg_W_orders (r := 0) C hK hW (zvd_5 (by decide) (by decide)) zk_1342 zd_M_order_51 ?_
        refine lv_iload_n C.1 C.2.1 zd_M_order_54 rfl (lv_at hl 1 rfl) ?_
        obtain ⟨h9, hf⟩ := zck_some hf
        obtain ⟨S10, eS10, hf⟩ := zlt_some hf
        refine ziast C hK hap hW hS (zvd_5 (by decide) (by decide)) (fun f => ze_5_28 B f (0)) (by decide) rfl nx1 h9 zd_M_order_55 (fun H locs hW hS => ?_)
        rw [eS10] at hW
        refine lv_aload_n C.1 C.2.1 zd_M_order_56 rfl (lv_at hl 0 rfl) ?_
        refine zg_M_world (r := 0) C hK hW (zvd_9 (by decide) (by decide)) zk_1500 zd_M_order_57 ?_
        refine zg_W_orderDue (r := 0) C hK hW (zvd_5 (by decide) (by decide)) zk_1346 zd_M_order_60 ?_
        refine lv_aload_n C.1 C.2.1 zd_M_order_63 rfl (lv_at hl 0 rfl) ?_
        refine zg_M_world (r := 0) C hK hW (zvd_9 (by decide) (by decide)) zk_1500 zd_M_order_64 ?_
        refine zg_W_orders (r := 0) C hK hW (zvd_5 (by decide) (by decide)) zk_1342 zd_M_order_67 ?_
        refine lv_iload_n C.1 C.2.1 zd_M_order_70 rfl (lv_at hl 2 rfl) ?_
        obtain ⟨h11, hf⟩ := zck_some hf
        obtain ⟨S12, eS12, hf⟩ := zlt_some hf
        refine ziast C hK hap hW hS (zvd_5 (by decide) (by decide)) (fun f => ze_5_29 B f (0)) (by decide) rfl nx2 h11 zd_M_order_71 (fun H locs hW hS => ?_)
        rw [eS12] at hW
        refine lv_aload_n C.1 C.2.1 zd_M_order_72 rfl (lv_at hl 0 rfl) ?_
        refine zg_M_world (r := 0) C hK hW (zvd_9 (by decide) (by decide)) zk_1500 zd_M_order_73 ?_
        refine lv_dup C.1 C.2.1 zd_M_order_76 rfl ?_
        refine zg_W_orders (r := 0) C hK hW (zvd_5 (by decide) (by decide)) zk_1342 zd_M_order_77 ?_
        refine lv_dup_x1 C.1 C.2.1 zd_M_order_80 rfl rfl ?_
        refine zr_iconst C zd_M_order_81 ?_
        refine zr_iadd C zd_M_order_82 ?_
        have w14 : zn (S12 5 0 0 33) := (zWn hW _ _ _ _ rfl)
        obtain ⟨S13, eS13, hf⟩ := zlt_some hf
        refine zp_W_orders (r := 0) C hK hap hW hS (zvd_5 (by decide) (by decide)) zk_1342 (zn_w _) zd_M_order_83 (fun H locs hW hS => ?_)
        rw [eS13] at hW
        cases hf
        exact zre_i C hr hlk hK hW hS w14 zd_M_order_86
      · rw [if_pos c8] at hf
        refine zr_bipush C zd_M_order_37 (by decide) ?_
        cases hf
        exact zre_i C hr hlk hK hW hS (znb rfl) zd_M_order_39
    · rw [if_pos c7] at hf
      refine zr_iconst C zd_M_order_23 ?_
      cases hf
      exact zre_i C hr hlk hK hW hS (znb rfl) zd_M_order_24

theorem zc_M_order {l : Launch} {B : zB} (hap : zAp B) (x1 : Int) (x2 : Int) (S : Sg) (nx1 : zn x1) (nx2 : zn x2) {res : Int} {S9 : Sg} (hf : zf_M_order x1 x2 S = some (res, S9)) : Met l zy_M_order (Cond.code zy_M_order zb_M_order 3 (some .int) :: zT) zm_M_order (zP B S [.ref (B.2.1 9 (0) (0)), .int (zI (x1)), .int (zI (x2))]) (zQi B res S9) 0 0 B.2.2.2 :=
  zmet (by decide) (Nat.le_of_ble_eq_true rfl) (fun p e s m args below meth c C hr hlk hK hSt hW ls hl => zw_M_order C hr hlk hK hSt hap   x1 x2 S nx1 nx2 hf _ _ _ hW va_S.rf hl)
/-! IslandOfficeModel.due(I)I -/
abbrev zy_M_due : MethodName := ⟨"IslandOfficeModel", "due", "(I)I"⟩
abbrev zb_M_due : ByteArray := prog_14_method_48_code
abbrev zm_M_due : Room := { frames := 1, cells := 0, slots := 0, locals := 22 }
theorem zq_M_due : zMy zy_M_due zb_M_due 2 (some .int) 1 := ⟨zk_1857, zk_1855, zk_1856, zk_14, by decide, by decide, by decide +kernel⟩
theorem zd_M_due_0 : decode zb_M_due 0 = .ok (.aload_n 0, 1) := by decide +kernel
theorem zd_M_due_1 : decode zb_M_due 1 = .ok (.iconst 0, 1) := by decide +kernel
theorem zd_M_due_2 : decode zb_M_due 2 = .ok (.putfield 46, 3) := by decide +kernel
theorem zd_M_due_5 : decode zb_M_due 5 = .ok (.iload_n 1, 1) := by decide +kernel
theorem zd_M_due_6 : decode zb_M_due 6 = .ok (.iconst 0, 1) := by decide +kernel
theorem zd_M_due_7 : decode zb_M_due 7 = .ok (.aload_n 0, 1) := by decide +kernel
theorem zd_M_due_8 : decode zb_M_due 8 = .ok (.getfield 10, 3) := by decide +kernel
theorem zd_M_due_11 : decode zb_M_due 11 = .ok (.getfield 266, 3) := by decide +kernel
theorem zd_M_due_14 : decode zb_M_due 14 = .ok (.iconst 1, 1) := by decide +kernel
theorem zd_M_due_15 : decode zb_M_due 15 = .ok (.isub, 1) := by decide +kernel
theorem zd_M_due_16 : decode zb_M_due 16 = .ok (.invokestatic 53, 3) := by decide +kernel
theorem zd_M_due_19 : decode zb_M_due 19 = .ok (.ifCond .eq 15, 3) := by decide +kernel
theorem zd_M_due_22 : decode zb_M_due 22 = .ok (.aload_n 0, 1) := by decide +kernel
theorem zd_M_due_23 : decode zb_M_due 23 = .ok (.getfield 10, 3) := by decide +kernel
theorem zd_M_due_26 : decode zb_M_due 26 = .ok (.getfield 272, 3) := by decide +kernel
theorem zd_M_due_29 : decode zb_M_due 29 = .ok (.iload_n 1, 1) := by decide +kernel
theorem zd_M_due_30 : decode zb_M_due 30 = .ok (.iaload, 1) := by decide +kernel
theorem zd_M_due_31 : decode zb_M_due 31 = .ok (.goto 4, 3) := by decide +kernel
theorem zd_M_due_34 : decode zb_M_due 34 = .ok (.iconst (-1), 1) := by decide +kernel
theorem zd_M_due_35 : decode zb_M_due 35 = .ok (.ireturn, 1) := by decide +kernel

def zf_M_due (x1 : Int) (S : Sg) : Option (Int × Sg) :=
    zlt (zu S 9 0 0 4 0) fun S1 => zbd (zf_M_in x1 0 (zw ((S1 5 0 0 33) - 1)) S1) fun a2 S3 => if a2 = 0 then (some (-1, S3)) else (zck (0 ≤ x1 ∧ x1 < 30) <| some (S3 5 0 29 x1, S3))
set_option maxHeartbeats 4000000 in
set_option maxRecDepth 100000 in
theorem zw_M_due {p : Program} {l : Launch} {e : Env} {s : State} {m : MethodId} {args : Array Value} {below : List Frame} {meth : Method} {c : Code} {B : zB} (C : CallFix p m c zb_M_due 2 s args zT "IslandOfficeModel") (hr : meth.sig.returnType = some .int) (hlk : meth.locks = false) (hK : zK B s) (hSt : zSt B s) (hap : zAp B) {res : Int} {S9 : Sg} : ∀ (x1 : Int) (S : Sg) (nx1 : zn x1), zf_M_due x1 S = some (res, S9) → ∀ (H : Heap) (locs : List Loc) (ls : Array Slot), zW B S H → va_S B.2.2.2 s.heap H locs → lv_has ls 2 [(0, .ref (B.2.1 9 (0) (0))), (1, .int (zI (x1)))] → W p l e zm_M_due s m args below meth c H locs 0 0 (MQ below (zQi B res S9) args s 0 0 B.2.2.2) (F0 m 0 ls []) := by
  intro x1 S nx1 hf H locs ls hW hS hl
  unfold zf_M_due at hf
  refine lv_aload_n C.1 C.2.1 zd_M_due_0 rfl (lv_at hl 0 rfl) ?_
  refine zr_iconst C zd_M_due_1 ?_
  obtain ⟨S1, eS1, hf⟩ := zlt_some hf
  refine zp_M_thrown (r := 0) C hK hap hW hS (zvd_9 (by decide) (by decide)) zk_1504 (znb rfl) zd_M_due_2 (fun H locs hW hS => ?_)
  rw [eS1] at hW
  refine lv_iload_n C.1 C.2.1 zd_M_due_5 rfl (lv_at hl 1 rfl) ?_
  refine zr_iconst C zd_M_due_6 ?_
  refine lv_aload_n C.1 C.2.1 zd_M_due_7 rfl (lv_at hl 0 rfl) ?_
  refine zg_M_world (r := 0) C hK hW (zvd_9 (by decide) (by decide)) zk_1500 zd_M_due_8 ?_
  refine zg_W_orders (r := 0) C hK hW (zvd_5 (by decide) (by decide)) zk_1342 zd_M_due_11 ?_
  refine zr_iconst C zd_M_due_14 ?_
  refine zr_isub C zd_M_due_15 ?_
  obtain ⟨a2, S3, ea2, hf⟩ := zbd_some hf
  refine zcSi (As := [.int (zI (x1)), .int (zI (0)), .int (zI (zw ((S1 5 0 0 33) - 1)))]) (rest := []) C hK hSt hW hS (zc_M_in hap x1 0 (zw ((S1 5 0 0 33) - 1)) S1 nx1 (znb rfl) (zn_w _) ea2) zq_M_in zk_1558 ⟨rfl, rfl, by decide, by decide⟩ ⟨Nat.zero_le _, Nat.zero_le _⟩ rfl hl.1 rfl (lv_room (Nat.le_of_ble_eq_true rfl)) zd_M_due_16 (fun na2 H locs hW hS => ?_)
  refine zr_if_eq (tgt := 34) C na2 zd_M_due_19 (by decide) (fun c4 => ?_) (fun c4 => ?_)
  · rw [if_pos c4] at hf
    refine zr_iconst C zd_M_due_34 ?_
    cases hf
    exact zre_i C hr hlk hK hW hS (znb rfl) zd_M_due_35
  · rw [if_neg c4] at hf
    refine lv_aload_n C.1 C.2.1 zd_M_due_22 rfl (lv_at hl 0 rfl) ?_
    refine zg_M_world (r := 0) C hK hW (zvd_9 (by decide) (by decide)) zk_1500 zd_M_due_23 ?_
    refine zg_W_orderDue (r := 0) C hK hW (zvd_5 (by decide) (by decide)) zk_1346 zd_M_due_26 ?_
    refine lv_iload_n C.1 C.2.1 zd_M_due_29 rfl (lv_at hl 1 rfl) ?_
    obtain ⟨h5, hf⟩ := zck_some hf
    refine ziald C hK hW (zvd_5 (by decide) (by decide)) (fun f => ze_5_29 B f (0)) (by decide) h5 zd_M_due_30 ?_
    refine lv_goto (tgt := 35) C.1 C.2.1 zd_M_due_31 (by decide) ?_
    cases hf
    exact zre_i C hr hlk hK hW hS (zWn hW _ _ _ _ rfl) zd_M_due_35

theorem zc_M_due {l : Launch} {B : zB} (hap : zAp B) (x1 : Int) (S : Sg) (nx1 : zn x1) {res : Int} {S9 : Sg} (hf : zf_M_due x1 S = some (res, S9)) : Met l zy_M_due (Cond.code zy_M_due zb_M_due 2 (some .int) :: zT) zm_M_due (zP B S [.ref (B.2.1 9 (0) (0)), .int (zI (x1))]) (zQi B res S9) 0 0 B.2.2.2 :=
  zmet (by decide) (Nat.le_of_ble_eq_true rfl) (fun p e s m args below meth c C hr hlk hK hSt hW ls hl => zw_M_due C hr hlk hK hSt hap   x1 S nx1 hf _ _ _ hW va_S.rf hl)
/-! IslandOfficeModel.set(II)I -/
abbrev zy_M_set : MethodName := ⟨"IslandOfficeModel", "set", "(II)I"⟩
abbrev zb_M_set : ByteArray := prog_14_method_49_code
abbrev zm_M_set : Room := { frames := 1, cells := 0, slots := 0, locals := 22 }
theorem zq_M_set : zMy zy_M_set zb_M_set 5 (some .int) 2 := ⟨zk_1861, zk_1859, zk_1860, zk_14, by decide, by decide, by decide +kernel⟩
theorem zd_M_set_0 : decode zb_M_set 0 = .ok (.aload_n 0, 1) := by decide +kernel
theorem zd_M_set_1 : decode zb_M_set 1 = .ok (.iconst 0, 1) := by decide +kernel
theorem zd_M_set_2 : decode zb_M_set 2 = .ok (.putfield 46, 3) := by decide +kernel
theorem zd_M_set_5 : decode zb_M_set 5 = .ok (.iload_n 1, 1) := by decide +kernel
theorem zd_M_set_6 : decode zb_M_set 6 = .ok (.ifCond .ne 14, 3) := by decide +kernel
theorem zd_M_set_9 : decode zb_M_set 9 = .ok (.iload_n 2, 1) := by decide +kernel
theorem zd_M_set_10 : decode zb_M_set 10 = .ok (.iconst 0, 1) := by decide +kernel
theorem zd_M_set_11 : decode zb_M_set 11 = .ok (.sipush 500, 3) := by decide +kernel
theorem zd_M_set_14 : decode zb_M_set 14 = .ok (.invokestatic 53, 3) := by decide +kernel
theorem zd_M_set_17 : decode zb_M_set 17 = .ok (.goto 54, 3) := by decide +kernel
theorem zd_M_set_20 : decode zb_M_set 20 = .ok (.iload_n 1, 1) := by decide +kernel
theorem zd_M_set_21 : decode zb_M_set 21 = .ok (.iconst 1, 1) := by decide +kernel
theorem zd_M_set_22 : decode zb_M_set 22 = .ok (.if_icmp .ne 14, 3) := by decide +kernel
theorem zd_M_set_25 : decode zb_M_set 25 = .ok (.iload_n 2, 1) := by decide +kernel
theorem zd_M_set_26 : decode zb_M_set 26 = .ok (.iconst 0, 1) := by decide +kernel
theorem zd_M_set_27 : decode zb_M_set 27 = .ok (.sipush 9999, 3) := by decide +kernel
theorem zd_M_set_30 : decode zb_M_set 30 = .ok (.invokestatic 53, 3) := by decide +kernel
theorem zd_M_set_33 : decode zb_M_set 33 = .ok (.goto 38, 3) := by decide +kernel
theorem zd_M_set_36 : decode zb_M_set 36 = .ok (.iload_n 1, 1) := by decide +kernel
theorem zd_M_set_37 : decode zb_M_set 37 = .ok (.iconst 2, 1) := by decide +kernel
theorem zd_M_set_38 : decode zb_M_set 38 = .ok (.if_icmp .ne 13, 3) := by decide +kernel
theorem zd_M_set_41 : decode zb_M_set 41 = .ok (.iload_n 2, 1) := by decide +kernel
theorem zd_M_set_42 : decode zb_M_set 42 = .ok (.iconst 0, 1) := by decide +kernel
theorem zd_M_set_43 : decode zb_M_set 43 = .ok (.bipush 99, 2) := by decide +kernel
theorem zd_M_set_45 : decode zb_M_set 45 = .ok (.invokestatic 53, 3) := by decide +kernel
theorem zd_M_set_48 : decode zb_M_set 48 = .ok (.goto 23, 3) := by decide +kernel
theorem zd_M_set_51 : decode zb_M_set 51 = .ok (.iload_n 1, 1) := by decide +kernel
theorem zd_M_set_52 : decode zb_M_set 52 = .ok (.iconst 3, 1) := by decide +kernel
theorem zd_M_set_53 : decode zb_M_set 53 = .ok (.if_icmp .ne 17, 3) := by decide +kernel
theorem zd_M_set_56 : decode zb_M_set 56 = .ok (.iload_n 2, 1) := by decide +kernel
theorem zd_M_set_57 : decode zb_M_set 57 = .ok (.iconst 1, 1) := by decide +kernel
theorem zd_M_set_58 : decode zb_M_set 58 = .ok (.bipush 99, 2) := by decide +kernel
theorem zd_M_set_60 : decode zb_M_set 60 = .ok (.invokestatic 53, 3) := by decide +kernel
theorem zd_M_set_63 : decode zb_M_set 63 = .ok (.ifCond .eq 7, 3) := by decide +kernel
theorem zd_M_set_66 : decode zb_M_set 66 = .ok (.iconst 1, 1) := by decide +kernel
theorem zd_M_set_67 : decode zb_M_set 67 = .ok (.goto 4, 3) := by decide +kernel
theorem zd_M_set_70 : decode zb_M_set 70 = .ok (.iconst 0, 1) := by decide +kernel
theorem zd_M_set_71 : decode zb_M_set 71 = .ok (.istore_n 3, 1) := by decide +kernel
theorem zd_M_set_72 : decode zb_M_set 72 = .ok (.iload_n 3, 1) := by decide +kernel
theorem zd_M_set_73 : decode zb_M_set 73 = .ok (.ifCond .ne 5, 3) := by decide +kernel
theorem zd_M_set_76 : decode zb_M_set 76 = .ok (.iconst (-1), 1) := by decide +kernel
theorem zd_M_set_77 : decode zb_M_set 77 = .ok (.ireturn, 1) := by decide +kernel
theorem zd_M_set_78 : decode zb_M_set 78 = .ok (.aload_n 0, 1) := by decide +kernel
theorem zd_M_set_79 : decode zb_M_set 79 = .ok (.getfield 10, 3) := by decide +kernel
theorem zd_M_set_82 : decode zb_M_set 82 = .ok (.getfield 275, 3) := by decide +kernel
theorem zd_M_set_85 : decode zb_M_set 85 = .ok (.iload_n 1, 1) := by decide +kernel
theorem zd_M_set_86 : decode zb_M_set 86 = .ok (.iaload, 1) := by decide +kernel
theorem zd_M_set_87 : decode zb_M_set 87 = .ok (.istore 4, 2) := by decide +kernel
theorem zd_M_set_89 : decode zb_M_set 89 = .ok (.aload_n 0, 1) := by decide +kernel
theorem zd_M_set_90 : decode zb_M_set 90 = .ok (.getfield 10, 3) := by decide +kernel
theorem zd_M_set_93 : decode zb_M_set 93 = .ok (.getfield 275, 3) := by decide +kernel
theorem zd_M_set_96 : decode zb_M_set 96 = .ok (.iload_n 1, 1) := by decide +kernel
theorem zd_M_set_97 : decode zb_M_set 97 = .ok (.iload_n 2, 1) := by decide +kernel
theorem zd_M_set_98 : decode zb_M_set 98 = .ok (.iastore, 1) := by decide +kernel
theorem zd_M_set_99 : decode zb_M_set 99 = .ok (.iload 4, 2) := by decide +kernel
theorem zd_M_set_101 : decode zb_M_set 101 = .ok (.ireturn, 1) := by decide +kernel

def zf_M_set_71 (x1 : Int) (x2 : Int) (xt0 : Int) (S : Sg) : Option (Int × Sg) :=
    if xt0 = 0 then (some (-1, S)) else (zck (0 ≤ x1 ∧ x1 < 4) <| zlt (S 5 0 30 x1) fun v3 => zlt (zu S 5 0 30 x1 x2) fun S4 => some (v3, S4))
set_option maxHeartbeats 4000000 in
set_option maxRecDepth 100000 in
theorem zw_M_set_71 {p : Program} {l : Launch} {e : Env} {s : State} {m : MethodId} {args : Array Value} {below : List Frame} {meth : Method} {c : Code} {B : zB} (C : CallFix p m c zb_M_set 5 s args zT "IslandOfficeModel") (hr : meth.sig.returnType = some .int) (hlk : meth.locks = false) (hK : zK B s) (hSt : zSt B s) (hap : zAp B) {res : Int} {S9 : Sg} : ∀ (x1 : Int) (x2 : Int) (xt0 : Int) (S : Sg) (nx1 : zn x1) (nx2 : zn x2) (nxt0 : zn xt0), zf_M_set_71 x1 x2 xt0 S = some (res, S9) → ∀ (H : Heap) (locs : List Loc) (ls : Array Slot), zW B S H → va_S B.2.2.2 s.heap H locs → lv_has ls 5 [(0, .ref (B.2.1 9 (0) (0))), (1, .int (zI (x1))), (2, .int (zI (x2)))] → W p l e zm_M_set s m args below meth c H locs 0 0 (MQ below (zQi B res S9) args s 0 0 B.2.2.2) (F0 m 71 ls [.int (zI (xt0))]) := by
  intro x1 x2 xt0 S nx1 nx2 nxt0 hf H locs ls hW hS hl
  unfold zf_M_set_71 at hf
  refine lv_istore_n (lv' := [(3, .int (zI (xt0))), (0, .ref (B.2.1 9 (0) (0))), (1, .int (zI (x1))), (2, .int (zI (x2)))]) C.1 C.2.1 zd_M_set_71 rfl hl (by decide) rfl (fun ls hl => ?_)
  refine lv_iload_n C.1 C.2.1 zd_M_set_72 rfl (lv_at hl 0 rfl) ?_
  refine zr_if_ne (tgt := 78) C nxt0 zd_M_set_73 (by decide) (fun c1 => ?_) (fun c1 => ?_)
  · rw [if_neg c1] at hf
    refine lv_aload_n C.1 C.2.1 zd_M_set_78 rfl (lv_at hl 1 rfl) ?_
    refine zg_M_world (r := 0) C hK hW (zvd_9 (by decide) (by decide)) zk_1500 zd_M_set_79 ?_
    refine zg_W_set (r := 0) C hK hW (zvd_5 (by decide) (by decide)) zk_1348 zd_M_set_82 ?_
    refine lv_iload_n C.1 C.2.1 zd_M_set_85 rfl (lv_at hl 2 rfl) ?_
    obtain ⟨h2, hf⟩ := zck_some hf
    refine ziald C hK hW (zvd_5 (by decide) (by decide)) (fun f => ze_5_30 B f (0)) (by decide) h2 zd_M_set_86 ?_
    obtain ⟨v3, ev3, hf⟩ := zlt_some hf
    have nv3 : zn v3 := by rw [← ev3]; exact (zWn hW _ _ _ _ rfl)
    rw [ev3]
    refine lv_istore (lv' := [(4, .int (zI (v3))), (3, .int (zI (xt0))), (0, .ref (B.2.1 9 (0) (0))), (1, .int (zI (x1))), (2, .int (zI (x2)))]) C.1 C.2.1 zd_M_set_87 hl (by decide) rfl (fun ls hl => ?_)
    refine lv_aload_n C.1 C.2.1 zd_M_set_89 rfl (lv_at hl 2 rfl) ?_
    refine zg_M_world (r := 0) C hK hW (zvd_9 (by decide) (by decide)) zk_1500 zd_M_set_90 ?_
    refine zg_W_set (r := 0) C hK hW (zvd_5 (by decide) (by decide)) zk_1348 zd_M_set_93 ?_
    refine lv_iload_n C.1 C.2.1 zd_M_set_96 rfl (lv_at hl 3 rfl) ?_
    refine lv_iload_n C.1 C.2.1 zd_M_set_97 rfl (lv_at hl 4 rfl) ?_
    obtain ⟨S4, eS4, hf⟩ := zlt_some hf
    refine ziast C hK hap hW hS (zvd_5 (by decide) (by decide)) (fun f => ze_5_30 B f (0)) (by decide) rfl nx2 h2 zd_M_set_98 (fun H locs hW hS => ?_)
    rw [eS4] at hW
    refine lv_iload C.1 C.2.1 zd_M_set_99 (lv_at hl 0 rfl) ?_
    cases hf
    exact zre_i C hr hlk hK hW hS nv3 zd_M_set_101
  · rw [if_pos c1] at hf
    refine zr_iconst C zd_M_set_76 ?_
    cases hf
    exact zre_i C hr hlk hK hW hS (znb rfl) zd_M_set_77

def zf_M_set_70 (x1 : Int) (x2 : Int) (S : Sg) : Option (Int × Sg) :=
    zf_M_set_71 (x1) (x2) (0) S
set_option maxHeartbeats 4000000 in
set_option maxRecDepth 100000 in
theorem zw_M_set_70 {p : Program} {l : Launch} {e : Env} {s : State} {m : MethodId} {args : Array Value} {below : List Frame} {meth : Method} {c : Code} {B : zB} (C : CallFix p m c zb_M_set 5 s args zT "IslandOfficeModel") (hr : meth.sig.returnType = some .int) (hlk : meth.locks = false) (hK : zK B s) (hSt : zSt B s) (hap : zAp B) {res : Int} {S9 : Sg} : ∀ (x1 : Int) (x2 : Int) (S : Sg) (nx1 : zn x1) (nx2 : zn x2), zf_M_set_70 x1 x2 S = some (res, S9) → ∀ (H : Heap) (locs : List Loc) (ls : Array Slot), zW B S H → va_S B.2.2.2 s.heap H locs → lv_has ls 5 [(0, .ref (B.2.1 9 (0) (0))), (1, .int (zI (x1))), (2, .int (zI (x2)))] → W p l e zm_M_set s m args below meth c H locs 0 0 (MQ below (zQi B res S9) args s 0 0 B.2.2.2) (F0 m 70 ls []) := by
  intro x1 x2 S nx1 nx2 hf H locs ls hW hS hl
  unfold zf_M_set_70 at hf
  refine zr_iconst C zd_M_set_70 ?_
  exact zw_M_set_71 C hr hlk hK hSt hap   (x1) (x2) (0) S nx1 nx2 (znb rfl) hf _ _ _ hW hS (lv_sub hl [0, 1, 2] rfl)

def zf_M_set (x1 : Int) (x2 : Int) (S : Sg) : Option (Int × Sg) :=
    zlt (zu S 9 0 0 4 0) fun S1 => if x1 = 0 then (zbd (zf_M_in x2 0 500 S1) fun a13 S14 => zf_M_set_71 (x1) (x2) (a13) S14) else (if x1 = 1 then (zbd (zf_M_in x2 0 9999 S1) fun a11 S12 => zf_M_set_71 (x1) (x2) (a11) S12) else (if x1 = 2 then (zbd (zf_M_in x2 0 99 S1) fun a9 S10 => zf_M_set_71 (x1) (x2) (a9) S10) else (if x1 = 3 then (zbd (zf_M_in x2 1 99 S1) fun a6 S7 => if a6 = 0 then (zf_M_set_70 (x1) (x2) S7) else (zf_M_set_71 (x1) (x2) (1) S7)) else (zf_M_set_70 (x1) (x2) S1))))
set_option maxHeartbeats 4000000 in
set_option maxRecDepth 100000 in
theorem zw_M_set {p : Program} {l : Launch} {e : Env} {s : State} {m : MethodId} {args : Array Value} {below : List Frame} {meth : Method} {c : Code} {B : zB} (C : CallFix p m c zb_M_set 5 s args zT "IslandOfficeModel") (hr : meth.sig.returnType = some .int) (hlk : meth.locks = false) (hK : zK B s) (hSt : zSt B s) (hap : zAp B) {res : Int} {S9 : Sg} : ∀ (x1 : Int) (x2 : Int) (S : Sg) (nx1 : zn x1) (nx2 : zn x2), zf_M_set x1 x2 S = some (res, S9) → ∀ (H : Heap) (locs : List Loc) (ls : Array Slot), zW B S H → va_S B.2.2.2 s.heap H locs → lv_has ls 5 [(0, .ref (B.2.1 9 (0) (0))), (1, .int (zI (x1))), (2, .int (zI (x2)))] → W p l e zm_M_set s m args below meth c H locs 0 0 (MQ below (zQi B res S9) args s 0 0 B.2.2.2) (F0 m 0 ls []) := by
  intro x1 x2 S nx1 nx2 hf H locs ls hW hS hl
  unfold zf_M_set at hf
  refine lv_aload_n C.1 C.2.1 zd_M_set_0 rfl (lv_at hl 0 rfl) ?_
  refine zr_iconst C zd_M_set_1 ?_
  obtain ⟨S1, eS1, hf⟩ := zlt_some hf
  refine zp_M_thrown (r := 0) C hK hap hW hS (zvd_9 (by decide) (by decide)) zk_1504 (znb rfl) zd_M_set_2 (fun H locs hW hS => ?_)
  rw [eS1] at hW
  refine lv_iload_n C.1 C.2.1 zd_M_set_5 rfl (lv_at hl 1 rfl) ?_
  refine zr_if_ne (tgt := 20) C nx1 zd_M_set_6 (by decide) (fun c2 => ?_) (fun c2 => ?_)
  · rw [if_neg c2] at hf
    refine lv_iload_n C.1 C.2.1 zd_M_set_20 rfl (lv_at hl 1 rfl) ?_
    refine zr_iconst C zd_M_set_21 ?_
    refine zr_icmp_ne (tgt := 36) C nx1 (znb rfl) zd_M_set_22 (by decide) (fun c3 => ?_) (fun c3 => ?_)
    · rw [if_neg c3] at hf
      refine lv_iload_n C.1 C.2.1 zd_M_set_36 rfl (lv_at hl 1 rfl) ?_
      refine zr_iconst C zd_M_set_37 ?_
      refine zr_icmp_ne (tgt := 51) C nx1 (znb rfl) zd_M_set_38 (by decide) (fun c4 => ?_) (fun c4 => ?_)
      · rw [if_neg c4] at hf
        refine lv_iload_n C.1 C.2.1 zd_M_set_51 rfl (lv_at hl 1 rfl) ?_
        refine zr_iconst C zd_M_set_52 ?_
        refine zr_icmp_ne (tgt := 70) C nx1 (znb rfl) zd_M_set_53 (by decide) (fun c5 => ?_) (fun c5 => ?_)
        · rw [if_neg c5] at hf
          exact zw_M_set_70 C hr hlk hK hSt hap   (x1) (x2) S1 nx1 nx2 hf _ _ _ hW hS (lv_sub hl [0, 1, 2] rfl)
        · rw [if_pos c5] at hf
          refine lv_iload_n C.1 C.2.1 zd_M_set_56 rfl (lv_at hl 2 rfl) ?_
          refine zr_iconst C zd_M_set_57 ?_
          refine zr_bipush C zd_M_set_58 (by decide) ?_
          obtain ⟨a6, S7, ea6, hf⟩ := zbd_some hf
          refine zcSi (As := [.int (zI (x2)), .int (zI (1)), .int (zI (99))]) (rest := []) C hK hSt hW hS (zc_M_in hap x2 1 99 S1 nx2 (znb rfl) (znb rfl) ea6) zq_M_in zk_1558 ⟨rfl, rfl, by decide, by decide⟩ ⟨Nat.zero_le _, Nat.zero_le _⟩ rfl hl.1 rfl (lv_room (Nat.le_of_ble_eq_true rfl)) zd_M_set_60 (fun na6 H locs hW hS => ?_)
          refine zr_if_eq (tgt := 70) C na6 zd_M_set_63 (by decide) (fun c8 => ?_) (fun c8 => ?_)
          · rw [if_pos c8] at hf
            exact zw_M_set_70 C hr hlk hK hSt hap   (x1) (x2) S7 nx1 nx2 hf _ _ _ hW hS (lv_sub hl [0, 1, 2] rfl)
          · rw [if_neg c8] at hf
            refine zr_iconst C zd_M_set_66 ?_
            refine lv_goto (tgt := 71) C.1 C.2.1 zd_M_set_67 (by decide) ?_
            exact zw_M_set_71 C hr hlk hK hSt hap   (x1) (x2) (1) S7 nx1 nx2 (znb rfl) hf _ _ _ hW hS (lv_sub hl [0, 1, 2] rfl)
      · rw [if_pos c4] at hf
        refine lv_iload_n C.1 C.2.1 zd_M_set_41 rfl (lv_at hl 2 rfl) ?_
        refine zr_iconst C zd_M_set_42 ?_
        refine zr_bipush C zd_M_set_43 (by decide) ?_
        obtain ⟨a9, S10, ea9, hf⟩ := zbd_some hf
        refine zcSi (As := [.int (zI (x2)), .int (zI (0)), .int (zI (99))]) (rest := []) C hK hSt hW hS (zc_M_in hap x2 0 99 S1 nx2 (znb rfl) (znb rfl) ea9) zq_M_in zk_1558 ⟨rfl, rfl, by decide, by decide⟩ ⟨Nat.zero_le _, Nat.zero_le _⟩ rfl hl.1 rfl (lv_room (Nat.le_of_ble_eq_true rfl)) zd_M_set_45 (fun na9 H locs hW hS => ?_)
        refine lv_goto (tgt := 71) C.1 C.2.1 zd_M_set_48 (by decide) ?_
        exact zw_M_set_71 C hr hlk hK hSt hap   (x1) (x2) (a9) S10 nx1 nx2 na9 hf _ _ _ hW hS (lv_sub hl [0, 1, 2] rfl)
    · rw [if_pos c3] at hf
      refine lv_iload_n C.1 C.2.1 zd_M_set_25 rfl (lv_at hl 2 rfl) ?_
      refine zr_iconst C zd_M_set_26 ?_
      refine zr_sipush C zd_M_set_27 (by decide) ?_
      obtain ⟨a11, S12, ea11, hf⟩ := zbd_some hf
      refine zcSi (As := [.int (zI (x2)), .int (zI (0)), .int (zI (9999))]) (rest := []) C hK hSt hW hS (zc_M_in hap x2 0 9999 S1 nx2 (znb rfl) (znb rfl) ea11) zq_M_in zk_1558 ⟨rfl, rfl, by decide, by decide⟩ ⟨Nat.zero_le _, Nat.zero_le _⟩ rfl hl.1 rfl (lv_room (Nat.le_of_ble_eq_true rfl)) zd_M_set_30 (fun na11 H locs hW hS => ?_)
      refine lv_goto (tgt := 71) C.1 C.2.1 zd_M_set_33 (by decide) ?_
      exact zw_M_set_71 C hr hlk hK hSt hap   (x1) (x2) (a11) S12 nx1 nx2 na11 hf _ _ _ hW hS (lv_sub hl [0, 1, 2] rfl)
  · rw [if_pos c2] at hf
    refine lv_iload_n C.1 C.2.1 zd_M_set_9 rfl (lv_at hl 2 rfl) ?_
    refine zr_iconst C zd_M_set_10 ?_
    refine zr_sipush C zd_M_set_11 (by decide) ?_
    obtain ⟨a13, S14, ea13, hf⟩ := zbd_some hf
    refine zcSi (As := [.int (zI (x2)), .int (zI (0)), .int (zI (500))]) (rest := []) C hK hSt hW hS (zc_M_in hap x2 0 500 S1 nx2 (znb rfl) (znb rfl) ea13) zq_M_in zk_1558 ⟨rfl, rfl, by decide, by decide⟩ ⟨Nat.zero_le _, Nat.zero_le _⟩ rfl hl.1 rfl (lv_room (Nat.le_of_ble_eq_true rfl)) zd_M_set_14 (fun na13 H locs hW hS => ?_)
    refine lv_goto (tgt := 71) C.1 C.2.1 zd_M_set_17 (by decide) ?_
    exact zw_M_set_71 C hr hlk hK hSt hap   (x1) (x2) (a13) S14 nx1 nx2 na13 hf _ _ _ hW hS (lv_sub hl [0, 1, 2] rfl)

theorem zc_M_set {l : Launch} {B : zB} (hap : zAp B) (x1 : Int) (x2 : Int) (S : Sg) (nx1 : zn x1) (nx2 : zn x2) {res : Int} {S9 : Sg} (hf : zf_M_set x1 x2 S = some (res, S9)) : Met l zy_M_set (Cond.code zy_M_set zb_M_set 5 (some .int) :: zT) zm_M_set (zP B S [.ref (B.2.1 9 (0) (0)), .int (zI (x1)), .int (zI (x2))]) (zQi B res S9) 0 0 B.2.2.2 :=
  zmet (by decide) (Nat.le_of_ble_eq_true rfl) (fun p e s m args below meth c C hr hlk hK hSt hW ls hl => zw_M_set C hr hlk hK hSt hap   x1 x2 S nx1 nx2 hf _ _ _ hW va_S.rf hl)
/-! IslandOfficeModel.pays(I)I -/
abbrev zy_M_pays : MethodName := ⟨"IslandOfficeModel", "pays", "(I)I"⟩
abbrev zb_M_pays : ByteArray := prog_14_method_50_code
abbrev zm_M_pays : Room := { frames := 1, cells := 0, slots := 0, locals := 22 }
theorem zq_M_pays : zMy zy_M_pays zb_M_pays 6 (some .int) 1 := ⟨zk_1865, zk_1863, zk_1864, zk_14, by decide, by decide, by decide +kernel⟩
theorem zd_M_pays_0 : decode zb_M_pays 0 = .ok (.aload_n 0, 1) := by decide +kernel
theorem zd_M_pays_1 : decode zb_M_pays 1 = .ok (.iconst 0, 1) := by decide +kernel
theorem zd_M_pays_2 : decode zb_M_pays 2 = .ok (.putfield 46, 3) := by decide +kernel
theorem zd_M_pays_5 : decode zb_M_pays 5 = .ok (.iload_n 1, 1) := by decide +kernel
theorem zd_M_pays_6 : decode zb_M_pays 6 = .ok (.iconst 0, 1) := by decide +kernel
theorem zd_M_pays_7 : decode zb_M_pays 7 = .ok (.bipush 26, 2) := by decide +kernel
theorem zd_M_pays_9 : decode zb_M_pays 9 = .ok (.invokestatic 53, 3) := by decide +kernel
theorem zd_M_pays_12 : decode zb_M_pays 12 = .ok (.ifCond .ne 5, 3) := by decide +kernel
theorem zd_M_pays_15 : decode zb_M_pays 15 = .ok (.iconst (-1), 1) := by decide +kernel
theorem zd_M_pays_16 : decode zb_M_pays 16 = .ok (.ireturn, 1) := by decide +kernel
theorem zd_M_pays_17 : decode zb_M_pays 17 = .ok (.iload_n 1, 1) := by decide +kernel
theorem zd_M_pays_18 : decode zb_M_pays 18 = .ok (.iconst 3, 1) := by decide +kernel
theorem zd_M_pays_19 : decode zb_M_pays 19 = .ok (.irem, 1) := by decide +kernel
theorem zd_M_pays_20 : decode zb_M_pays 20 = .ok (.istore_n 2, 1) := by decide +kernel
theorem zd_M_pays_21 : decode zb_M_pays 21 = .ok (.iload_n 1, 1) := by decide +kernel
theorem zd_M_pays_22 : decode zb_M_pays 22 = .ok (.iconst 3, 1) := by decide +kernel
theorem zd_M_pays_23 : decode zb_M_pays 23 = .ok (.idiv, 1) := by decide +kernel
theorem zd_M_pays_24 : decode zb_M_pays 24 = .ok (.iconst 3, 1) := by decide +kernel
theorem zd_M_pays_25 : decode zb_M_pays 25 = .ok (.irem, 1) := by decide +kernel
theorem zd_M_pays_26 : decode zb_M_pays 26 = .ok (.istore_n 3, 1) := by decide +kernel
theorem zd_M_pays_27 : decode zb_M_pays 27 = .ok (.iload_n 1, 1) := by decide +kernel
theorem zd_M_pays_28 : decode zb_M_pays 28 = .ok (.bipush 9, 2) := by decide +kernel
theorem zd_M_pays_30 : decode zb_M_pays 30 = .ok (.idiv, 1) := by decide +kernel
theorem zd_M_pays_31 : decode zb_M_pays 31 = .ok (.istore 4, 2) := by decide +kernel
theorem zd_M_pays_33 : decode zb_M_pays 33 = .ok (.iload_n 2, 1) := by decide +kernel
theorem zd_M_pays_34 : decode zb_M_pays 34 = .ok (.iload_n 3, 1) := by decide +kernel
theorem zd_M_pays_35 : decode zb_M_pays 35 = .ok (.if_icmp .eq 15, 3) := by decide +kernel
theorem zd_M_pays_38 : decode zb_M_pays 38 = .ok (.iload_n 2, 1) := by decide +kernel
theorem zd_M_pays_39 : decode zb_M_pays 39 = .ok (.iload 4, 2) := by decide +kernel
theorem zd_M_pays_41 : decode zb_M_pays 41 = .ok (.if_icmp .eq 9, 3) := by decide +kernel
theorem zd_M_pays_44 : decode zb_M_pays 44 = .ok (.iload_n 3, 1) := by decide +kernel
theorem zd_M_pays_45 : decode zb_M_pays 45 = .ok (.iload 4, 2) := by decide +kernel
theorem zd_M_pays_47 : decode zb_M_pays 47 = .ok (.if_icmp .ne 5, 3) := by decide +kernel
theorem zd_M_pays_50 : decode zb_M_pays 50 = .ok (.iconst (-1), 1) := by decide +kernel
theorem zd_M_pays_51 : decode zb_M_pays 51 = .ok (.ireturn, 1) := by decide +kernel
theorem zd_M_pays_52 : decode zb_M_pays 52 = .ok (.aload_n 0, 1) := by decide +kernel
theorem zd_M_pays_53 : decode zb_M_pays 53 = .ok (.getfield 10, 3) := by decide +kernel
theorem zd_M_pays_56 : decode zb_M_pays 56 = .ok (.getfield 278, 3) := by decide +kernel
theorem zd_M_pays_59 : decode zb_M_pays 59 = .ok (.iconst 0, 1) := by decide +kernel
theorem zd_M_pays_60 : decode zb_M_pays 60 = .ok (.iaload, 1) := by decide +kernel
theorem zd_M_pays_61 : decode zb_M_pays 61 = .ok (.iload_n 2, 1) := by decide +kernel
theorem zd_M_pays_62 : decode zb_M_pays 62 = .ok (.if_icmp .ne 16, 3) := by decide +kernel
theorem zd_M_pays_65 : decode zb_M_pays 65 = .ok (.aload_n 0, 1) := by decide +kernel
theorem zd_M_pays_66 : decode zb_M_pays 66 = .ok (.getfield 10, 3) := by decide +kernel
theorem zd_M_pays_69 : decode zb_M_pays 69 = .ok (.getfield 278, 3) := by decide +kernel
theorem zd_M_pays_72 : decode zb_M_pays 72 = .ok (.iconst 1, 1) := by decide +kernel
theorem zd_M_pays_73 : decode zb_M_pays 73 = .ok (.iaload, 1) := by decide +kernel
theorem zd_M_pays_74 : decode zb_M_pays 74 = .ok (.iload_n 3, 1) := by decide +kernel
theorem zd_M_pays_75 : decode zb_M_pays 75 = .ok (.if_icmp .eq 7, 3) := by decide +kernel
theorem zd_M_pays_78 : decode zb_M_pays 78 = .ok (.iconst 1, 1) := by decide +kernel
theorem zd_M_pays_79 : decode zb_M_pays 79 = .ok (.goto 4, 3) := by decide +kernel
theorem zd_M_pays_82 : decode zb_M_pays 82 = .ok (.iconst 0, 1) := by decide +kernel
theorem zd_M_pays_83 : decode zb_M_pays 83 = .ok (.istore 5, 2) := by decide +kernel
theorem zd_M_pays_85 : decode zb_M_pays 85 = .ok (.aload_n 0, 1) := by decide +kernel
theorem zd_M_pays_86 : decode zb_M_pays 86 = .ok (.getfield 10, 3) := by decide +kernel
theorem zd_M_pays_89 : decode zb_M_pays 89 = .ok (.getfield 278, 3) := by decide +kernel
theorem zd_M_pays_92 : decode zb_M_pays 92 = .ok (.iconst 0, 1) := by decide +kernel
theorem zd_M_pays_93 : decode zb_M_pays 93 = .ok (.iload_n 2, 1) := by decide +kernel
theorem zd_M_pays_94 : decode zb_M_pays 94 = .ok (.iastore, 1) := by decide +kernel
theorem zd_M_pays_95 : decode zb_M_pays 95 = .ok (.aload_n 0, 1) := by decide +kernel
theorem zd_M_pays_96 : decode zb_M_pays 96 = .ok (.getfield 10, 3) := by decide +kernel
theorem zd_M_pays_99 : decode zb_M_pays 99 = .ok (.getfield 278, 3) := by decide +kernel
theorem zd_M_pays_102 : decode zb_M_pays 102 = .ok (.iconst 1, 1) := by decide +kernel
theorem zd_M_pays_103 : decode zb_M_pays 103 = .ok (.iload_n 3, 1) := by decide +kernel
theorem zd_M_pays_104 : decode zb_M_pays 104 = .ok (.iastore, 1) := by decide +kernel
theorem zd_M_pays_105 : decode zb_M_pays 105 = .ok (.aload_n 0, 1) := by decide +kernel
theorem zd_M_pays_106 : decode zb_M_pays 106 = .ok (.getfield 10, 3) := by decide +kernel
theorem zd_M_pays_109 : decode zb_M_pays 109 = .ok (.getfield 278, 3) := by decide +kernel
theorem zd_M_pays_112 : decode zb_M_pays 112 = .ok (.iconst 2, 1) := by decide +kernel
theorem zd_M_pays_113 : decode zb_M_pays 113 = .ok (.iload 4, 2) := by decide +kernel
theorem zd_M_pays_115 : decode zb_M_pays 115 = .ok (.iastore, 1) := by decide +kernel
theorem zd_M_pays_116 : decode zb_M_pays 116 = .ok (.iload 5, 2) := by decide +kernel
theorem zd_M_pays_118 : decode zb_M_pays 118 = .ok (.ifCond .eq 7, 3) := by decide +kernel
theorem zd_M_pays_121 : decode zb_M_pays 121 = .ok (.iconst 1, 1) := by decide +kernel
theorem zd_M_pays_122 : decode zb_M_pays 122 = .ok (.goto 4, 3) := by decide +kernel
theorem zd_M_pays_125 : decode zb_M_pays 125 = .ok (.iconst 0, 1) := by decide +kernel
theorem zd_M_pays_126 : decode zb_M_pays 126 = .ok (.ireturn, 1) := by decide +kernel

def zf_M_pays_83 (x2 : Int) (x3 : Int) (x4 : Int) (xt0 : Int) (S : Sg) : Option (Int × Sg) :=
    zlt (zu S 5 0 31 0 x2) fun S1 => zlt (zu S1 5 0 31 1 x3) fun S2 => zlt (zu S2 5 0 31 2 x4) fun S3 => if xt0 = 0 then (some (0, S3)) else (some (1, S3))
set_option maxHeartbeats 4000000 in
set_option maxRecDepth 100000 in
theorem zw_M_pays_83 {p : Program} {l : Launch} {e : Env} {s : State} {m : MethodId} {args : Array Value} {below : List Frame} {meth : Method} {c : Code} {B : zB} (C : CallFix p m c zb_M_pays 6 s args zT "IslandOfficeModel") (hr : meth.sig.returnType = some .int) (hlk : meth.locks = false) (hK : zK B s) (hSt : zSt B s) (hap : zAp B) {res : Int} {S9 : Sg} : ∀ (x2 : Int) (x3 : Int) (x4 : Int) (xt0 : Int) (S : Sg) (nx2 : zn x2) (nx3 : zn x3) (nx4 : zn x4) (nxt0 : zn xt0), zf_M_pays_83 x2 x3 x4 xt0 S = some (res, S9) → ∀ (H : Heap) (locs : List Loc) (ls : Array Slot), zW B S H → va_S B.2.2.2 s.heap H locs → lv_has ls 6 [(0, .ref (B.2.1 9 (0) (0))), (2, .int (zI (x2))), (3, .int (zI (x3))), (4, .int (zI (x4)))] → W p l e zm_M_pays s m args below meth c H locs 0 0 (MQ below (zQi B res S9) args s 0 0 B.2.2.2) (F0 m 83 ls [.int (zI (xt0))]) := by
  intro x2 x3 x4 xt0 S nx2 nx3 nx4 nxt0 hf H locs ls hW hS hl
  unfold zf_M_pays_83 at hf
  refine lv_istore (lv' := [(5, .int (zI (xt0))), (0, .ref (B.2.1 9 (0) (0))), (2, .int (zI (x2))), (3, .int (zI (x3))), (4, .int (zI (x4)))]) C.1 C.2.1 zd_M_pays_83 hl (by decide) rfl (fun ls hl => ?_)
  refine lv_aload_n C.1 C.2.1 zd_M_pays_85 rfl (lv_at hl 1 rfl) ?_
  refine zg_M_world (r := 0) C hK hW (zvd_9 (by decide) (by decide)) zk_1500 zd_M_pays_86 ?_
  refine zg_W_pays (r := 0) C hK hW (zvd_5 (by decide) (by decide)) zk_1350 zd_M_pays_89 ?_
  refine zr_iconst C zd_M_pays_92 ?_
  refine lv_iload_n C.1 C.2.1 zd_M_pays_93 rfl (lv_at hl 2 rfl) ?_
  obtain ⟨S1, eS1, hf⟩ := zlt_some hf
  refine ziast C hK hap hW hS (zvd_5 (by decide) (by decide)) (fun f => ze_5_31 B f (0)) (by decide) rfl nx2 (by decide) zd_M_pays_94 (fun H locs hW hS => ?_)
  rw [eS1] at hW
  refine lv_aload_n C.1 C.2.1 zd_M_pays_95 rfl (lv_at hl 1 rfl) ?_
  refine zg_M_world (r := 0) C hK hW (zvd_9 (by decide) (by decide)) zk_1500 zd_M_pays_96 ?_
  refine zg_W_pays (r := 0) C hK hW (zvd_5 (by decide) (by decide)) zk_1350 zd_M_pays_99 ?_
  refine zr_iconst C zd_M_pays_102 ?_
  refine lv_iload_n C.1 C.2.1 zd_M_pays_103 rfl (lv_at hl 3 rfl) ?_
  obtain ⟨S2, eS2, hf⟩ := zlt_some hf
  refine ziast C hK hap hW hS (zvd_5 (by decide) (by decide)) (fun f => ze_5_31 B f (0)) (by decide) rfl nx3 (by decide) zd_M_pays_104 (fun H locs hW hS => ?_)
  rw [eS2] at hW
  refine lv_aload_n C.1 C.2.1 zd_M_pays_105 rfl (lv_at hl 1 rfl) ?_
  refine zg_M_world (r := 0) C hK hW (zvd_9 (by decide) (by decide)) zk_1500 zd_M_pays_106 ?_
  refine zg_W_pays (r := 0) C hK hW (zvd_5 (by decide) (by decide)) zk_1350 zd_M_pays_109 ?_
  refine zr_iconst C zd_M_pays_112 ?_
  refine lv_iload C.1 C.2.1 zd_M_pays_113 (lv_at hl 4 rfl) ?_
  obtain ⟨S3, eS3, hf⟩ := zlt_some hf
  refine ziast C hK hap hW hS (zvd_5 (by decide) (by decide)) (fun f => ze_5_31 B f (0)) (by decide) rfl nx4 (by decide) zd_M_pays_115 (fun H locs hW hS => ?_)
  rw [eS3] at hW
  refine lv_iload C.1 C.2.1 zd_M_pays_116 (lv_at hl 0 rfl) ?_
  refine zr_if_eq (tgt := 125) C nxt0 zd_M_pays_118 (by decide) (fun c4 => ?_) (fun c4 => ?_)
  · rw [if_pos c4] at hf
    refine zr_iconst C zd_M_pays_125 ?_
    cases hf
    exact zre_i C hr hlk hK hW hS (znb rfl) zd_M_pays_126
  · rw [if_neg c4] at hf
    refine zr_iconst C zd_M_pays_121 ?_
    refine lv_goto (tgt := 126) C.1 C.2.1 zd_M_pays_122 (by decide) ?_
    cases hf
    exact zre_i C hr hlk hK hW hS (znb rfl) zd_M_pays_126

def zf_M_pays_78 (x2 : Int) (x3 : Int) (x4 : Int) (S : Sg) : Option (Int × Sg) :=
    zf_M_pays_83 (x2) (x3) (x4) (1) S
set_option maxHeartbeats 4000000 in
set_option maxRecDepth 100000 in
theorem zw_M_pays_78 {p : Program} {l : Launch} {e : Env} {s : State} {m : MethodId} {args : Array Value} {below : List Frame} {meth : Method} {c : Code} {B : zB} (C : CallFix p m c zb_M_pays 6 s args zT "IslandOfficeModel") (hr : meth.sig.returnType = some .int) (hlk : meth.locks = false) (hK : zK B s) (hSt : zSt B s) (hap : zAp B) {res : Int} {S9 : Sg} : ∀ (x2 : Int) (x3 : Int) (x4 : Int) (S : Sg) (nx2 : zn x2) (nx3 : zn x3) (nx4 : zn x4), zf_M_pays_78 x2 x3 x4 S = some (res, S9) → ∀ (H : Heap) (locs : List Loc) (ls : Array Slot), zW B S H → va_S B.2.2.2 s.heap H locs → lv_has ls 6 [(0, .ref (B.2.1 9 (0) (0))), (2, .int (zI (x2))), (3, .int (zI (x3))), (4, .int (zI (x4)))] → W p l e zm_M_pays s m args below meth c H locs 0 0 (MQ below (zQi B res S9) args s 0 0 B.2.2.2) (F0 m 78 ls []) := by
  intro x2 x3 x4 S nx2 nx3 nx4 hf H locs ls hW hS hl
  unfold zf_M_pays_78 at hf
  refine zr_iconst C zd_M_pays_78 ?_
  refine lv_goto (tgt := 83) C.1 C.2.1 zd_M_pays_79 (by decide) ?_
  exact zw_M_pays_83 C hr hlk hK hSt hap   (x2) (x3) (x4) (1) S nx2 nx3 nx4 (znb rfl) hf _ _ _ hW hS (lv_sub hl [0, 1, 2, 3] rfl)

def zf_M_pays (x1 : Int) (S : Sg) : Option (Int × Sg) :=
    zlt (zu S 9 0 0 4 0) fun S1 => zbd (zf_M_in x1 0 26 S1) fun a2 S3 => if a2 = 0 then (some (-1, S3)) else (zlt (zrem x1 3) fun v5 => zlt (zrem (zdiv x1 3) 3) fun v6 => zlt (zdiv x1 9) fun v7 => if v5 = v6 then (some (-1, S3)) else (if v5 = v7 then (some (-1, S3)) else (if v6 = v7 then (some (-1, S3)) else (if (S3 5 0 31 0) = v5 then (if (S3 5 0 31 1) = v6 then (zf_M_pays_83 (v5) (v6) (v7) (0) S3) else (zf_M_pays_78 (v5) (v6) (v7) S3)) else (zf_M_pays_78 (v5) (v6) (v7) S3)))))
set_option maxHeartbeats 4000000 in
set_option maxRecDepth 100000 in
theorem zw_M_pays {p : Program} {l : Launch} {e : Env} {s : State} {m : MethodId} {args : Array Value} {below : List Frame} {meth : Method} {c : Code} {B : zB} (C : CallFix p m c zb_M_pays 6 s args zT "IslandOfficeModel") (hr : meth.sig.returnType = some .int) (hlk : meth.locks = false) (hK : zK B s) (hSt : zSt B s) (hap : zAp B) {res : Int} {S9 : Sg} : ∀ (x1 : Int) (S : Sg) (nx1 : zn x1), zf_M_pays x1 S = some (res, S9) → ∀ (H : Heap) (locs : List Loc) (ls : Array Slot), zW B S H → va_S B.2.2.2 s.heap H locs → lv_has ls 6 [(0, .ref (B.2.1 9 (0) (0))), (1, .int (zI (x1)))] → W p l e zm_M_pays s m args below meth c H locs 0 0 (MQ below (zQi B res S9) args s 0 0 B.2.2.2) (F0 m 0 ls []) := by
  intro x1 S nx1 hf H locs ls hW hS hl
  unfold zf_M_pays at hf
  refine lv_aload_n C.1 C.2.1 zd_M_pays_0 rfl (lv_at hl 0 rfl) ?_
  refine zr_iconst C zd_M_pays_1 ?_
  obtain ⟨S1, eS1, hf⟩ := zlt_some hf
  refine zp_M_thrown (r := 0) C hK hap hW hS (zvd_9 (by decide) (by decide)) zk_1504 (znb rfl) zd_M_pays_2 (fun H locs hW hS => ?_)
  rw [eS1] at hW
  refine lv_iload_n C.1 C.2.1 zd_M_pays_5 rfl (lv_at hl 1 rfl) ?_
  refine zr_iconst C zd_M_pays_6 ?_
  refine zr_bipush C zd_M_pays_7 (by decide) ?_
  obtain ⟨a2, S3, ea2, hf⟩ := zbd_some hf
  refine zcSi (As := [.int (zI (x1)), .int (zI (0)), .int (zI (26))]) (rest := []) C hK hSt hW hS (zc_M_in hap x1 0 26 S1 nx1 (znb rfl) (znb rfl) ea2) zq_M_in zk_1558 ⟨rfl, rfl, by decide, by decide⟩ ⟨Nat.zero_le _, Nat.zero_le _⟩ rfl hl.1 rfl (lv_room (Nat.le_of_ble_eq_true rfl)) zd_M_pays_9 (fun na2 H locs hW hS => ?_)
  refine zr_if_ne (tgt := 17) C na2 zd_M_pays_12 (by decide) (fun c4 => ?_) (fun c4 => ?_)
  · rw [if_neg c4] at hf
    refine lv_iload_n C.1 C.2.1 zd_M_pays_17 rfl (lv_at hl 1 rfl) ?_
    refine zr_iconst C zd_M_pays_18 ?_
    refine zr_irem C nx1 (znb rfl) (by decide) zd_M_pays_19 ?_
    obtain ⟨v5, ev5, hf⟩ := zlt_some hf
    have nv5 : zn v5 := by rw [← ev5]; exact (zn_rem _ _)
    rw [ev5]
    refine lv_istore_n (lv' := [(2, .int (zI (v5))), (0, .ref (B.2.1 9 (0) (0))), (1, .int (zI (x1)))]) C.1 C.2.1 zd_M_pays_20 rfl hl (by decide) rfl (fun ls hl => ?_)
    refine lv_iload_n C.1 C.2.1 zd_M_pays_21 rfl (lv_at hl 2 rfl) ?_
    refine zr_iconst C zd_M_pays_22 ?_
    refine zr_idiv C nx1 (znb rfl) (by decide) zd_M_pays_23 ?_
    refine zr_iconst C zd_M_pays_24 ?_
    refine zr_irem C (zn_div _ _) (znb rfl) (by decide) zd_M_pays_25 ?_
    obtain ⟨v6, ev6, hf⟩ := zlt_some hf
    have nv6 : zn v6 := by rw [← ev6]; exact (zn_rem _ _)
    rw [ev6]
    refine lv_istore_n (lv' := [(3, .int (zI (v6))), (2, .int (zI (v5))), (0, .ref (B.2.1 9 (0) (0))), (1, .int (zI (x1)))]) C.1 C.2.1 zd_M_pays_26 rfl hl (by decide) rfl (fun ls hl => ?_)
    refine lv_iload_n C.1 C.2.1 zd_M_pays_27 rfl (lv_at hl 3 rfl) ?_
    refine zr_bipush C zd_M_pays_28 (by decide) ?_
    refine zr_idiv C nx1 (znb rfl) (by decide) zd_M_pays_30 ?_
    obtain ⟨v7, ev7, hf⟩ := zlt_some hf
    have nv7 : zn v7 := by rw [← ev7]; exact (zn_div _ _)
    rw [ev7]
    refine lv_istore (lv' := [(4, .int (zI (v7))), (3, .int (zI (v6))), (2, .int (zI (v5))), (0, .ref (B.2.1 9 (0) (0))), (1, .int (zI (x1)))]) C.1 C.2.1 zd_M_pays_31 hl (by decide) rfl (fun ls hl => ?_)
    refine lv_iload_n C.1 C.2.1 zd_M_pays_33 rfl (lv_at hl 2 rfl) ?_
    refine lv_iload_n C.1 C.2.1 zd_M_pays_34 rfl (lv_at hl 1 rfl) ?_
    refine zr_icmp_eq (tgt := 50) C nv5 nv6 zd_M_pays_35 (by decide) (fun c8 => ?_) (fun c8 => ?_)
    · rw [if_pos c8] at hf
      refine zr_iconst C zd_M_pays_50 ?_
      cases hf
      exact zre_i C hr hlk hK hW hS (znb rfl) zd_M_pays_51
    · rw [if_neg c8] at hf
      refine lv_iload_n C.1 C.2.1 zd_M_pays_38 rfl (lv_at hl 2 rfl) ?_
      refine lv_iload C.1 C.2.1 zd_M_pays_39 (lv_at hl 0 rfl) ?_
      refine zr_icmp_eq (tgt := 50) C nv5 nv7 zd_M_pays_41 (by decide) (fun c9 => ?_) (fun c9 => ?_)
      · rw [if_pos c9] at hf
        refine zr_iconst C zd_M_pays_50 ?_
        cases hf
        exact zre_i C hr hlk hK hW hS (znb rfl) zd_M_pays_51
      · rw [if_neg c9] at hf
        refine lv_iload_n C.1 C.2.1 zd_M_pays_44 rfl (lv_at hl 1 rfl) ?_
        refine lv_iload C.1 C.2.1 zd_M_pays_45 (lv_at hl 0 rfl) ?_
        refine zr_icmp_ne (tgt := 52) C nv6 nv7 zd_M_pays_47 (by decide) (fun c10 => ?_) (fun c10 => ?_)
        · rw [if_neg c10] at hf
          refine lv_aload_n C.1 C.2.1 zd_M_pays_52 rfl (lv_at hl 3 rfl) ?_
          refine zg_M_world (r := 0) C hK hW (zvd_9 (by decide) (by decide)) zk_1500 zd_M_pays_53 ?_
          refine zg_W_pays (r := 0) C hK hW (zvd_5 (by decide) (by decide)) zk_1350 zd_M_pays_56 ?_
          refine zr_iconst C zd_M_pays_59 ?_
          refine ziald C hK hW (zvd_5 (by decide) (by decide)) (fun f => ze_5_31 B f (0)) (by decide) (by decide) zd_M_pays_60 ?_
          refine lv_iload_n C.1 C.2.1 zd_M_pays_61 rfl (lv_at hl 2 rfl) ?_
          refine zr_icmp_ne (tgt := 78) C (zWn hW _ _ _ _ rfl) nv5 zd_M_pays_62 (by decide) (fun c11 => ?_) (fun c11 => ?_)
          · rw [if_neg c11] at hf
            exact zw_M_pays_78 C hr hlk hK hSt hap   (v5) (v6) (v7) S3 nv5 nv6 nv7 hf _ _ _ hW hS (lv_sub hl [3, 2, 1, 0] rfl)
          · rw [if_pos c11] at hf
            refine lv_aload_n C.1 C.2.1 zd_M_pays_65 rfl (lv_at hl 3 rfl) ?_
            refine zg_M_world (r := 0) C hK hW (zvd_9 (by decide) (by decide)) zk_1500 zd_M_pays_66 ?_
            refine zg_W_pays (r := 0) C hK hW (zvd_5 (by decide) (by decide)) zk_1350 zd_M_pays_69 ?_
            refine zr_iconst C zd_M_pays_72 ?_
            refine ziald C hK hW (zvd_5 (by decide) (by decide)) (fun f => ze_5_31 B f (0)) (by decide) (by decide) zd_M_pays_73 ?_
            refine lv_iload_n C.1 C.2.1 zd_M_pays_74 rfl (lv_at hl 1 rfl) ?_
            refine zr_icmp_eq (tgt := 82) C (zWn hW _ _ _ _ rfl) nv6 zd_M_pays_75 (by decide) (fun c12 => ?_) (fun c12 => ?_)
            · rw [if_pos c12] at hf
              refine zr_iconst C zd_M_pays_82 ?_
              exact zw_M_pays_83 C hr hlk hK hSt hap   (v5) (v6) (v7) (0) S3 nv5 nv6 nv7 (znb rfl) hf _ _ _ hW hS (lv_sub hl [3, 2, 1, 0] rfl)
            · rw [if_neg c12] at hf
              exact zw_M_pays_78 C hr hlk hK hSt hap   (v5) (v6) (v7) S3 nv5 nv6 nv7 hf _ _ _ hW hS (lv_sub hl [3, 2, 1, 0] rfl)
        · rw [if_pos c10] at hf
          refine zr_iconst C zd_M_pays_50 ?_
          cases hf
          exact zre_i C hr hlk hK hW hS (znb rfl) zd_M_pays_51
  · rw [if_pos c4] at hf
    refine zr_iconst C zd_M_pays_15 ?_
    cases hf
    exact zre_i C hr hlk hK hW hS (znb rfl) zd_M_pays_16

theorem zc_M_pays {l : Launch} {B : zB} (hap : zAp B) (x1 : Int) (S : Sg) (nx1 : zn x1) {res : Int} {S9 : Sg} (hf : zf_M_pays x1 S = some (res, S9)) : Met l zy_M_pays (Cond.code zy_M_pays zb_M_pays 6 (some .int) :: zT) zm_M_pays (zP B S [.ref (B.2.1 9 (0) (0)), .int (zI (x1))]) (zQi B res S9) 0 0 B.2.2.2 :=
  zmet (by decide) (Nat.le_of_ble_eq_true rfl) (fun p e s m args below meth c C hr hlk hK hSt hW ls hl => zw_M_pays C hr hlk hK hSt hap   x1 S nx1 hf _ _ _ hW va_S.rf hl)
/-! IslandOfficeModel.earn(I)I -/
abbrev zy_M_earn : MethodName := ⟨"IslandOfficeModel", "earn", "(I)I"⟩
abbrev zb_M_earn : ByteArray := prog_14_method_51_code
abbrev zm_M_earn : Room := { frames := 1, cells := 0, slots := 0, locals := 22 }
theorem zq_M_earn : zMy zy_M_earn zb_M_earn 2 (some .int) 1 := ⟨zk_1869, zk_1867, zk_1868, zk_14, by decide, by decide, by decide +kernel⟩
theorem zd_M_earn_0 : decode zb_M_earn 0 = .ok (.aload_n 0, 1) := by decide +kernel
theorem zd_M_earn_1 : decode zb_M_earn 1 = .ok (.iconst 0, 1) := by decide +kernel
theorem zd_M_earn_2 : decode zb_M_earn 2 = .ok (.putfield 46, 3) := by decide +kernel
theorem zd_M_earn_5 : decode zb_M_earn 5 = .ok (.iload_n 1, 1) := by decide +kernel
theorem zd_M_earn_6 : decode zb_M_earn 6 = .ok (.iconst 1, 1) := by decide +kernel
theorem zd_M_earn_7 : decode zb_M_earn 7 = .ok (.sipush 10000, 3) := by decide +kernel
theorem zd_M_earn_10 : decode zb_M_earn 10 = .ok (.invokestatic 53, 3) := by decide +kernel
theorem zd_M_earn_13 : decode zb_M_earn 13 = .ok (.ifCond .ne 5, 3) := by decide +kernel
theorem zd_M_earn_16 : decode zb_M_earn 16 = .ok (.iconst (-1), 1) := by decide +kernel
theorem zd_M_earn_17 : decode zb_M_earn 17 = .ok (.ireturn, 1) := by decide +kernel
theorem zd_M_earn_18 : decode zb_M_earn 18 = .ok (.aload_n 0, 1) := by decide +kernel
theorem zd_M_earn_19 : decode zb_M_earn 19 = .ok (.getfield 10, 3) := by decide +kernel
theorem zd_M_earn_22 : decode zb_M_earn 22 = .ok (.getfield 281, 3) := by decide +kernel
theorem zd_M_earn_25 : decode zb_M_earn 25 = .ok (.iload_n 1, 1) := by decide +kernel
theorem zd_M_earn_26 : decode zb_M_earn 26 = .ok (.iadd, 1) := by decide +kernel
theorem zd_M_earn_27 : decode zb_M_earn 27 = .ok (.ldc_w 284, 3) := by decide +kernel
theorem zd_M_earn_30 : decode zb_M_earn 30 = .ok (.if_icmp .le 6, 3) := by decide +kernel
theorem zd_M_earn_33 : decode zb_M_earn 33 = .ok (.bipush (-2), 2) := by decide +kernel
theorem zd_M_earn_35 : decode zb_M_earn 35 = .ok (.ireturn, 1) := by decide +kernel
theorem zd_M_earn_36 : decode zb_M_earn 36 = .ok (.aload_n 0, 1) := by decide +kernel
theorem zd_M_earn_37 : decode zb_M_earn 37 = .ok (.getfield 10, 3) := by decide +kernel
theorem zd_M_earn_40 : decode zb_M_earn 40 = .ok (.dup, 1) := by decide +kernel
theorem zd_M_earn_41 : decode zb_M_earn 41 = .ok (.getfield 281, 3) := by decide +kernel
theorem zd_M_earn_44 : decode zb_M_earn 44 = .ok (.iload_n 1, 1) := by decide +kernel
theorem zd_M_earn_45 : decode zb_M_earn 45 = .ok (.iadd, 1) := by decide +kernel
theorem zd_M_earn_46 : decode zb_M_earn 46 = .ok (.putfield 281, 3) := by decide +kernel
theorem zd_M_earn_49 : decode zb_M_earn 49 = .ok (.aload_n 0, 1) := by decide +kernel
theorem zd_M_earn_50 : decode zb_M_earn 50 = .ok (.getfield 10, 3) := by decide +kernel
theorem zd_M_earn_53 : decode zb_M_earn 53 = .ok (.getfield 281, 3) := by decide +kernel
theorem zd_M_earn_56 : decode zb_M_earn 56 = .ok (.ireturn, 1) := by decide +kernel

def zf_M_earn (x1 : Int) (S : Sg) : Option (Int × Sg) :=
    zlt (zu S 9 0 0 4 0) fun S1 => zbd (zf_M_in x1 1 10000 S1) fun a2 S3 => if a2 = 0 then (some (-1, S3)) else (if (zw ((S3 5 0 0 38) + x1)) ≤ 1000000 then (zlt (zu S3 5 0 0 38 (zw ((S3 5 0 0 38) + x1))) fun S6 => some (S6 5 0 0 38, S6)) else (some (-2, S3)))
set_option maxHeartbeats 4000000 in
set_option maxRecDepth 100000 in
theorem zw_M_earn {p : Program} {l : Launch} {e : Env} {s : State} {m : MethodId} {args : Array Value} {below : List Frame} {meth : Method} {c : Code} {B : zB} (C : CallFix p m c zb_M_earn 2 s args zT "IslandOfficeModel") (hr : meth.sig.returnType = some .int) (hlk : meth.locks = false) (hK : zK B s) (hSt : zSt B s) (hap : zAp B) {res : Int} {S9 : Sg} : ∀ (x1 : Int) (S : Sg) (nx1 : zn x1), zf_M_earn x1 S = some (res, S9) → ∀ (H : Heap) (locs : List Loc) (ls : Array Slot), zW B S H → va_S B.2.2.2 s.heap H locs → lv_has ls 2 [(0, .ref (B.2.1 9 (0) (0))), (1, .int (zI (x1)))] → W p l e zm_M_earn s m args below meth c H locs 0 0 (MQ below (zQi B res S9) args s 0 0 B.2.2.2) (F0 m 0 ls []) := by
  intro x1 S nx1 hf H locs ls hW hS hl
  unfold zf_M_earn at hf
  refine lv_aload_n C.1 C.2.1 zd_M_earn_0 rfl (lv_at hl 0 rfl) ?_
  refine zr_iconst C zd_M_earn_1 ?_
  obtain ⟨S1, eS1, hf⟩ := zlt_some hf
  refine zp_M_thrown (r := 0) C hK hap hW hS (zvd_9 (by decide) (by decide)) zk_1504 (znb rfl) zd_M_earn_2 (fun H locs hW hS => ?_)
  rw [eS1] at hW
  refine lv_iload_n C.1 C.2.1 zd_M_earn_5 rfl (lv_at hl 1 rfl) ?_
  refine zr_iconst C zd_M_earn_6 ?_
  refine zr_sipush C zd_M_earn_7 (by decide) ?_
  obtain ⟨a2, S3, ea2, hf⟩ := zbd_some hf
  refine zcSi (As := [.int (zI (x1)), .int (zI (1)), .int (zI (10000))]) (rest := []) C hK hSt hW hS (zc_M_in hap x1 1 10000 S1 nx1 (znb rfl) (znb rfl) ea2) zq_M_in zk_1558 ⟨rfl, rfl, by decide, by decide⟩ ⟨Nat.zero_le _, Nat.zero_le _⟩ rfl hl.1 rfl (lv_room (Nat.le_of_ble_eq_true rfl)) zd_M_earn_10 (fun na2 H locs hW hS => ?_)
  refine zr_if_ne (tgt := 18) C na2 zd_M_earn_13 (by decide) (fun c4 => ?_) (fun c4 => ?_)
  · rw [if_neg c4] at hf
    refine lv_aload_n C.1 C.2.1 zd_M_earn_18 rfl (lv_at hl 0 rfl) ?_
    refine zg_M_world (r := 0) C hK hW (zvd_9 (by decide) (by decide)) zk_1500 zd_M_earn_19 ?_
    refine zg_W_purse (r := 0) C hK hW (zvd_5 (by decide) (by decide)) zk_1352 zd_M_earn_22 ?_
    refine lv_iload_n C.1 C.2.1 zd_M_earn_25 rfl (lv_at hl 1 rfl) ?_
    refine zr_iadd C zd_M_earn_26 ?_
    refine zr_ldcw (n := 1000000) C zk_1870 (by decide) zd_M_earn_27 ?_
    refine zr_icmp_le (tgt := 36) C (zn_w _) (znb rfl) zd_M_earn_30 (by decide) (fun c5 => ?_) (fun c5 => ?_)
    · rw [if_pos c5] at hf
      refine lv_aload_n C.1 C.2.1 zd_M_earn_36 rfl (lv_at hl 0 rfl) ?_
      refine zg_M_world (r := 0) C hK hW (zvd_9 (by decide) (by decide)) zk_1500 zd_M_earn_37 ?_
      refine lv_dup C.1 C.2.1 zd_M_earn_40 rfl ?_
      refine zg_W_purse (r := 0) C hK hW (zvd_5 (by decide) (by decide)) zk_1352 zd_M_earn_41 ?_
      refine lv_iload_n C.1 C.2.1 zd_M_earn_44 rfl (lv_at hl 1 rfl) ?_
      refine zr_iadd C zd_M_earn_45 ?_
      obtain ⟨S6, eS6, hf⟩ := zlt_some hf
      refine zp_W_purse (r := 0) C hK hap hW hS (zvd_5 (by decide) (by decide)) zk_1352 (zn_w _) zd_M_earn_46 (fun H locs hW hS => ?_)
      rw [eS6] at hW
      refine lv_aload_n C.1 C.2.1 zd_M_earn_49 rfl (lv_at hl 0 rfl) ?_
      refine zg_M_world (r := 0) C hK hW (zvd_9 (by decide) (by decide)) zk_1500 zd_M_earn_50 ?_
      refine zg_W_purse (r := 0) C hK hW (zvd_5 (by decide) (by decide)) zk_1352 zd_M_earn_53 ?_
      cases hf
      exact zre_i C hr hlk hK hW hS (zWn hW _ _ _ _ rfl) zd_M_earn_56
    · rw [if_neg c5] at hf
      refine zr_bipush C zd_M_earn_33 (by decide) ?_
      cases hf
      exact zre_i C hr hlk hK hW hS (znb rfl) zd_M_earn_35
  · rw [if_pos c4] at hf
    refine zr_iconst C zd_M_earn_16 ?_
    cases hf
    exact zre_i C hr hlk hK hW hS (znb rfl) zd_M_earn_17

theorem zc_M_earn {l : Launch} {B : zB} (hap : zAp B) (x1 : Int) (S : Sg) (nx1 : zn x1) {res : Int} {S9 : Sg} (hf : zf_M_earn x1 S = some (res, S9)) : Met l zy_M_earn (Cond.code zy_M_earn zb_M_earn 2 (some .int) :: zT) zm_M_earn (zP B S [.ref (B.2.1 9 (0) (0)), .int (zI (x1))]) (zQi B res S9) 0 0 B.2.2.2 :=
  zmet (by decide) (Nat.le_of_ble_eq_true rfl) (fun p e s m args below meth c C hr hlk hK hSt hW ls hl => zw_M_earn C hr hlk hK hSt hap   x1 S nx1 hf _ _ _ hW va_S.rf hl)
/-! IslandOfficeModel.noRow(I)I -/
abbrev zy_M_noRow : MethodName := ⟨"IslandOfficeModel", "noRow", "(I)I"⟩
abbrev zb_M_noRow : ByteArray := prog_14_method_52_code
abbrev zm_M_noRow : Room := { frames := 0, cells := 0, slots := 0, locals := 0 }
theorem zq_M_noRow : zMy zy_M_noRow zb_M_noRow 2 (some .int) 1 := ⟨zk_1878, zk_1877, zs_75, zk_14, by decide, by decide, by decide +kernel⟩
theorem zd_M_noRow_0 : decode zb_M_noRow 0 = .ok (.aload_n 0, 1) := by decide +kernel
theorem zd_M_noRow_1 : decode zb_M_noRow 1 = .ok (.getfield 22, 3) := by decide +kernel
theorem zd_M_noRow_4 : decode zb_M_noRow 4 = .ok (.iload_n 1, 1) := by decide +kernel
theorem zd_M_noRow_5 : decode zb_M_noRow 5 = .ok (.iaload, 1) := by decide +kernel
theorem zd_M_noRow_6 : decode zb_M_noRow 6 = .ok (.ifCond .ne 8, 3) := by decide +kernel
theorem zd_M_noRow_9 : decode zb_M_noRow 9 = .ok (.bipush (-11), 2) := by decide +kernel
theorem zd_M_noRow_11 : decode zb_M_noRow 11 = .ok (.goto 19, 3) := by decide +kernel
theorem zd_M_noRow_14 : decode zb_M_noRow 14 = .ok (.aload_n 0, 1) := by decide +kernel
theorem zd_M_noRow_15 : decode zb_M_noRow 15 = .ok (.getfield 22, 3) := by decide +kernel
theorem zd_M_noRow_18 : decode zb_M_noRow 18 = .ok (.iload_n 1, 1) := by decide +kernel
theorem zd_M_noRow_19 : decode zb_M_noRow 19 = .ok (.iaload, 1) := by decide +kernel
theorem zd_M_noRow_20 : decode zb_M_noRow 20 = .ok (.iconst 3, 1) := by decide +kernel
theorem zd_M_noRow_21 : decode zb_M_noRow 21 = .ok (.if_icmp .eq 8, 3) := by decide +kernel
theorem zd_M_noRow_24 : decode zb_M_noRow 24 = .ok (.bipush (-12), 2) := by decide +kernel
theorem zd_M_noRow_26 : decode zb_M_noRow 26 = .ok (.goto 4, 3) := by decide +kernel
theorem zd_M_noRow_29 : decode zb_M_noRow 29 = .ok (.iconst 0, 1) := by decide +kernel
theorem zd_M_noRow_30 : decode zb_M_noRow 30 = .ok (.ireturn, 1) := by decide +kernel

def zf_M_noRow (x1 : Int) (S : Sg) : Option (Int × Sg) :=
    zck (0 ≤ x1 ∧ x1 < 8) <| if (S 9 0 1 x1) = 0 then (some (-11, S)) else (if (S 9 0 1 x1) = 3 then (some (0, S)) else (some (-12, S)))
set_option maxHeartbeats 4000000 in
set_option maxRecDepth 100000 in
theorem zw_M_noRow {p : Program} {l : Launch} {e : Env} {s : State} {m : MethodId} {args : Array Value} {below : List Frame} {meth : Method} {c : Code} {B : zB} (C : CallFix p m c zb_M_noRow 2 s args zT "IslandOfficeModel") (hr : meth.sig.returnType = some .int) (hlk : meth.locks = false) (hK : zK B s) (hSt : zSt B s) (hap : zAp B) {res : Int} {S9 : Sg} : ∀ (x1 : Int) (S : Sg) (nx1 : zn x1), zf_M_noRow x1 S = some (res, S9) → ∀ (H : Heap) (locs : List Loc) (ls : Array Slot), zW B S H → va_S B.2.2.2 s.heap H locs → lv_has ls 2 [(0, .ref (B.2.1 9 (0) (0))), (1, .int (zI (x1)))] → W p l e zm_M_noRow s m args below meth c H locs 0 0 (MQ below (zQi B res S9) args s 0 0 B.2.2.2) (F0 m 0 ls []) := by
  intro x1 S nx1 hf H locs ls hW hS hl
  unfold zf_M_noRow at hf
  refine lv_aload_n C.1 C.2.1 zd_M_noRow_0 rfl (lv_at hl 0 rfl) ?_
  refine zg_M_held (r := 0) C hK hW (zvd_9 (by decide) (by decide)) zk_1505 zd_M_noRow_1 ?_
  refine lv_iload_n C.1 C.2.1 zd_M_noRow_4 rfl (lv_at hl 1 rfl) ?_
  obtain ⟨h1, hf⟩ := zck_some hf
  refine ziald C hK hW (zvd_9 (by decide) (by decide)) (fun f => ze_9_1 B f (0)) (by decide) h1 zd_M_noRow_5 ?_
  refine zr_if_ne (tgt := 14) C (zWn hW _ _ _ _ rfl) zd_M_noRow_6 (by decide) (fun c2 => ?_) (fun c2 => ?_)
  · rw [if_neg c2] at hf
    refine lv_aload_n C.1 C.2.1 zd_M_noRow_14 rfl (lv_at hl 0 rfl) ?_
    refine zg_M_held (r := 0) C hK hW (zvd_9 (by decide) (by decide)) zk_1505 zd_M_noRow_15 ?_
    refine lv_iload_n C.1 C.2.1 zd_M_noRow_18 rfl (lv_at hl 1 rfl) ?_
    refine ziald C hK hW (zvd_9 (by decide) (by decide)) (fun f => ze_9_1 B f (0)) (by decide) h1 zd_M_noRow_19 ?_
    refine zr_iconst C zd_M_noRow_20 ?_
    refine zr_icmp_eq (tgt := 29) C (zWn hW _ _ _ _ rfl) (znb rfl) zd_M_noRow_21 (by decide) (fun c3 => ?_) (fun c3 => ?_)
    · rw [if_pos c3] at hf
      refine zr_iconst C zd_M_noRow_29 ?_
      cases hf
      exact zre_i C hr hlk hK hW hS (znb rfl) zd_M_noRow_30
    · rw [if_neg c3] at hf
      refine zr_bipush C zd_M_noRow_24 (by decide) ?_
      refine lv_goto (tgt := 30) C.1 C.2.1 zd_M_noRow_26 (by decide) ?_
      cases hf
      exact zre_i C hr hlk hK hW hS (znb rfl) zd_M_noRow_30
  · rw [if_pos c2] at hf
    refine zr_bipush C zd_M_noRow_9 (by decide) ?_
    refine lv_goto (tgt := 30) C.1 C.2.1 zd_M_noRow_11 (by decide) ?_
    cases hf
    exact zre_i C hr hlk hK hW hS (znb rfl) zd_M_noRow_30

theorem zc_M_noRow {l : Launch} {B : zB} (hap : zAp B) (x1 : Int) (S : Sg) (nx1 : zn x1) {res : Int} {S9 : Sg} (hf : zf_M_noRow x1 S = some (res, S9)) : Met l zy_M_noRow (Cond.code zy_M_noRow zb_M_noRow 2 (some .int) :: zT) zm_M_noRow (zP B S [.ref (B.2.1 9 (0) (0)), .int (zI (x1))]) (zQi B res S9) 0 0 B.2.2.2 :=
  zmet (by decide) (Nat.le_of_ble_eq_true rfl) (fun p e s m args below meth c C hr hlk hK hSt hW ls hl => zw_M_noRow C hr hlk hK hSt hap   x1 S nx1 hf _ _ _ hW va_S.rf hl)
/-! IslandOfficeModel.weather(IZ)I -/
abbrev zy_M_weather : MethodName := ⟨"IslandOfficeModel", "weather", "(IZ)I"⟩
abbrev zb_M_weather : ByteArray := prog_14_method_53_code
abbrev zm_M_weather : Room := { frames := 2, cells := 0, slots := 0, locals := 64 }
theorem zq_M_weather : zMy zy_M_weather zb_M_weather 4 (some .int) 2 := ⟨zk_1874, zk_1872, zk_1873, zk_14, by decide, by decide, by decide +kernel⟩
theorem zd_M_weather_0 : decode zb_M_weather 0 = .ok (.aload_n 0, 1) := by decide +kernel
theorem zd_M_weather_1 : decode zb_M_weather 1 = .ok (.iconst 0, 1) := by decide +kernel
theorem zd_M_weather_2 : decode zb_M_weather 2 = .ok (.putfield 46, 3) := by decide +kernel
theorem zd_M_weather_5 : decode zb_M_weather 5 = .ok (.iload_n 1, 1) := by decide +kernel
theorem zd_M_weather_6 : decode zb_M_weather 6 = .ok (.invokestatic 172, 3) := by decide +kernel
theorem zd_M_weather_9 : decode zb_M_weather 9 = .ok (.ifCond .ne 5, 3) := by decide +kernel
theorem zd_M_weather_12 : decode zb_M_weather 12 = .ok (.iconst (-1), 1) := by decide +kernel
theorem zd_M_weather_13 : decode zb_M_weather 13 = .ok (.ireturn, 1) := by decide +kernel
theorem zd_M_weather_14 : decode zb_M_weather 14 = .ok (.aload_n 0, 1) := by decide +kernel
theorem zd_M_weather_15 : decode zb_M_weather 15 = .ok (.iload_n 1, 1) := by decide +kernel
theorem zd_M_weather_16 : decode zb_M_weather 16 = .ok (.invokevirtual 285, 3) := by decide +kernel
theorem zd_M_weather_19 : decode zb_M_weather 19 = .ok (.ifCond .eq 9, 3) := by decide +kernel
theorem zd_M_weather_22 : decode zb_M_weather 22 = .ok (.aload_n 0, 1) := by decide +kernel
theorem zd_M_weather_23 : decode zb_M_weather 23 = .ok (.iload_n 1, 1) := by decide +kernel
theorem zd_M_weather_24 : decode zb_M_weather 24 = .ok (.invokevirtual 285, 3) := by decide +kernel
theorem zd_M_weather_27 : decode zb_M_weather 27 = .ok (.ireturn, 1) := by decide +kernel
theorem zd_M_weather_28 : decode zb_M_weather 28 = .ok (.iload_n 2, 1) := by decide +kernel
theorem zd_M_weather_29 : decode zb_M_weather 29 = .ok (.ifCond .eq 7, 3) := by decide +kernel
theorem zd_M_weather_32 : decode zb_M_weather 32 = .ok (.iconst 1, 1) := by decide +kernel
theorem zd_M_weather_33 : decode zb_M_weather 33 = .ok (.goto 4, 3) := by decide +kernel
theorem zd_M_weather_36 : decode zb_M_weather 36 = .ok (.iconst 0, 1) := by decide +kernel
theorem zd_M_weather_37 : decode zb_M_weather 37 = .ok (.istore_n 3, 1) := by decide +kernel
theorem zd_M_weather_38 : decode zb_M_weather 38 = .ok (.aload_n 0, 1) := by decide +kernel
theorem zd_M_weather_39 : decode zb_M_weather 39 = .ok (.getfield 10, 3) := by decide +kernel
theorem zd_M_weather_42 : decode zb_M_weather 42 = .ok (.getfield 288, 3) := by decide +kernel
theorem zd_M_weather_45 : decode zb_M_weather 45 = .ok (.iload_n 3, 1) := by decide +kernel
theorem zd_M_weather_46 : decode zb_M_weather 46 = .ok (.aload_n 0, 1) := by decide +kernel
theorem zd_M_weather_47 : decode zb_M_weather 47 = .ok (.getfield 26, 3) := by decide +kernel
theorem zd_M_weather_50 : decode zb_M_weather 50 = .ok (.iload_n 1, 1) := by decide +kernel
theorem zd_M_weather_51 : decode zb_M_weather 51 = .ok (.iaload, 1) := by decide +kernel
theorem zd_M_weather_52 : decode zb_M_weather 52 = .ok (.iastore, 1) := by decide +kernel
theorem zd_M_weather_53 : decode zb_M_weather 53 = .ok (.aload_n 0, 1) := by decide +kernel
theorem zd_M_weather_54 : decode zb_M_weather 54 = .ok (.getfield 10, 3) := by decide +kernel
theorem zd_M_weather_57 : decode zb_M_weather 57 = .ok (.getfield 291, 3) := by decide +kernel
theorem zd_M_weather_60 : decode zb_M_weather 60 = .ok (.iload_n 3, 1) := by decide +kernel
theorem zd_M_weather_61 : decode zb_M_weather 61 = .ok (.aload_n 0, 1) := by decide +kernel
theorem zd_M_weather_62 : decode zb_M_weather 62 = .ok (.getfield 29, 3) := by decide +kernel
theorem zd_M_weather_65 : decode zb_M_weather 65 = .ok (.iload_n 1, 1) := by decide +kernel
theorem zd_M_weather_66 : decode zb_M_weather 66 = .ok (.iaload, 1) := by decide +kernel
theorem zd_M_weather_67 : decode zb_M_weather 67 = .ok (.iastore, 1) := by decide +kernel
theorem zd_M_weather_68 : decode zb_M_weather 68 = .ok (.aload_n 0, 1) := by decide +kernel
theorem zd_M_weather_69 : decode zb_M_weather 69 = .ok (.getfield 34, 3) := by decide +kernel
theorem zd_M_weather_72 : decode zb_M_weather 72 = .ok (.iload_n 1, 1) := by decide +kernel
theorem zd_M_weather_73 : decode zb_M_weather 73 = .ok (.aaload, 1) := by decide +kernel
theorem zd_M_weather_74 : decode zb_M_weather 74 = .ok (.iconst 0, 1) := by decide +kernel
theorem zd_M_weather_75 : decode zb_M_weather 75 = .ok (.aload_n 0, 1) := by decide +kernel
theorem zd_M_weather_76 : decode zb_M_weather 76 = .ok (.getfield 10, 3) := by decide +kernel
theorem zd_M_weather_79 : decode zb_M_weather 79 = .ok (.getfield 294, 3) := by decide +kernel
theorem zd_M_weather_82 : decode zb_M_weather 82 = .ok (.iload_n 3, 1) := by decide +kernel
theorem zd_M_weather_83 : decode zb_M_weather 83 = .ok (.aaload, 1) := by decide +kernel
theorem zd_M_weather_84 : decode zb_M_weather 84 = .ok (.iconst 0, 1) := by decide +kernel
theorem zd_M_weather_85 : decode zb_M_weather 85 = .ok (.bipush 120, 2) := by decide +kernel
theorem zd_M_weather_87 : decode zb_M_weather 87 = .ok (.invokestatic 186, 3) := by decide +kernel
theorem zd_M_weather_90 : decode zb_M_weather 90 = .ok (.aload_n 0, 1) := by decide +kernel
theorem zd_M_weather_91 : decode zb_M_weather 91 = .ok (.getfield 29, 3) := by decide +kernel
theorem zd_M_weather_94 : decode zb_M_weather 94 = .ok (.iload_n 1, 1) := by decide +kernel
theorem zd_M_weather_95 : decode zb_M_weather 95 = .ok (.iaload, 1) := by decide +kernel
theorem zd_M_weather_96 : decode zb_M_weather 96 = .ok (.ireturn, 1) := by decide +kernel

def zf_M_weather_37 (x1 : Int) (xt0 : Int) (S : Sg) : Option (Int × Sg) :=
    zck (0 ≤ x1 ∧ x1 < 8) <| zck (0 ≤ xt0 ∧ xt0 < 2) <| zlt (zu S 5 0 32 xt0 (S 9 0 2 x1)) fun S3 => zlt (zu S3 5 0 33 xt0 (S3 9 0 3 x1)) fun S4 => zlt (zcp S4 10 x1 0 0 7 0 xt0 0 120) fun S5 => some (S5 9 0 3 x1, S5)
set_option maxHeartbeats 4000000 in
set_option maxRecDepth 100000 in
theorem zw_M_weather_37 {p : Program} {l : Launch} {e : Env} {s : State} {m : MethodId} {args : Array Value} {below : List Frame} {meth : Method} {c : Code} {B : zB} (C : CallFix p m c zb_M_weather 4 s args zT "IslandOfficeModel") (hr : meth.sig.returnType = some .int) (hlk : meth.locks = false) (hK : zK B s) (hSt : zSt B s) (hap : zAp B) {res : Int} {S9 : Sg} : ∀ (x1 : Int) (xt0 : Int) (S : Sg) (nx1 : zn x1) (nxt0 : zn xt0), zf_M_weather_37 x1 xt0 S = some (res, S9) → ∀ (H : Heap) (locs : List Loc) (ls : Array Slot), zW B S H → va_S B.2.2.2 s.heap H locs → lv_has ls 4 [(0, .ref (B.2.1 9 (0) (0))), (1, .int (zI (x1)))] → W p l e zm_M_weather s m args below meth c H locs 0 0 (MQ below (zQi B res S9) args s 0 0 B.2.2.2) (F0 m 37 ls [.int (zI (xt0))]) := by
  intro x1 xt0 S nx1 nxt0 hf H locs ls hW hS hl
  unfold zf_M_weather_37 at hf
  refine lv_istore_n (lv' := [(3, .int (zI (xt0))), (0, .ref (B.2.1 9 (0) (0))), (1, .int (zI (x1)))]) C.1 C.2.1 zd_M_weather_37 rfl hl (by decide) rfl (fun ls hl => ?_)
  refine lv_aload_n C.1 C.2.1 zd_M_weather_38 rfl (lv_at hl 1 rfl) ?_
  refine zg_M_world (r := 0) C hK hW (zvd_9 (by decide) (by decide)) zk_1500 zd_M_weather_39 ?_
  refine zg_W_skySort (r := 0) C hK hW (zvd_5 (by decide) (by decide)) zk_1360 zd_M_weather_42 ?_
  refine lv_iload_n C.1 C.2.1 zd_M_weather_45 rfl (lv_at hl 0 rfl) ?_
  refine lv_aload_n C.1 C.2.1 zd_M_weather_46 rfl (lv_at hl 1 rfl) ?_
  refine zg_M_rowSort (r := 0) C hK hW (zvd_9 (by decide) (by decide)) zk_1506 zd_M_weather_47 ?_
  refine lv_iload_n C.1 C.2.1 zd_M_weather_50 rfl (lv_at hl 2 rfl) ?_
  obtain ⟨h1, hf⟩ := zck_some hf
  refine ziald C hK hW (zvd_9 (by decide) (by decide)) (fun f => ze_9_2 B f (0)) (by decide) h1 zd_M_weather_51 ?_
  obtain ⟨h2, hf⟩ := zck_some hf
  obtain ⟨S3, eS3, hf⟩ := zlt_some hf
  refine ziast C hK hap hW hS (zvd_5 (by decide) (by decide)) (fun f => ze_5_32 B f (0)) (by decide) rfl (zWn hW _ _ _ _ rfl) h2 zd_M_weather_52 (fun H locs hW hS => ?_)
  rw [eS3] at hW
  refine lv_aload_n C.1 C.2.1 zd_M_weather_53 rfl (lv_at hl 1 rfl) ?_
  refine zg_M_world (r := 0) C hK hW (zvd_9 (by decide) (by decide)) zk_1500 zd_M_weather_54 ?_
  refine zg_W_skySize (r := 0) C hK hW (zvd_5 (by decide) (by decide)) zk_1362 zd_M_weather_57 ?_
  refine lv_iload_n C.1 C.2.1 zd_M_weather_60 rfl (lv_at hl 0 rfl) ?_
  refine lv_aload_n C.1 C.2.1 zd_M_weather_61 rfl (lv_at hl 1 rfl) ?_
  refine zg_M_rowSize (r := 0) C hK hW (zvd_9 (by decide) (by decide)) zk_1507 zd_M_weather_62 ?_
  refine lv_iload_n C.1 C.2.1 zd_M_weather_65 rfl (lv_at hl 2 rfl) ?_
  refine ziald C hK hW (zvd_9 (by decide) (by decide)) (fun f => ze_9_3 B f (0)) (by decide) h1 zd_M_weather_66 ?_
  obtain ⟨S4, eS4, hf⟩ := zlt_some hf
  refine ziast C hK hap hW hS (zvd_5 (by decide) (by decide)) (fun f => ze_5_33 B f (0)) (by decide) rfl (zWn hW _ _ _ _ rfl) h2 zd_M_weather_67 (fun H locs hW hS => ?_)
  rw [eS4] at hW
  refine lv_aload_n C.1 C.2.1 zd_M_weather_68 rfl (lv_at hl 1 rfl) ?_
  refine zg_M_rows (r := 0) C hK hW (zvd_9 (by decide) (by decide)) zk_1508 zd_M_weather_69 ?_
  refine lv_iload_n C.1 C.2.1 zd_M_weather_72 rfl (lv_at hl 2 rfl) ?_
  refine zaald (t0 := 4) C hK hW (zvd_9 (by decide) (by decide)) (fun f => ze_9_4 B f (0)) rfl rfl (by decide) h1 zd_M_weather_73 (a := B.2.1 10 (x1) (0)) (by rw [Int.toNat_of_nonneg h1.1]) ?_
  refine zr_iconst C zd_M_weather_74 ?_
  refine lv_aload_n C.1 C.2.1 zd_M_weather_75 rfl (lv_at hl 1 rfl) ?_
  refine zg_M_world (r := 0) C hK hW (zvd_9 (by decide) (by decide)) zk_1500 zd_M_weather_76 ?_
  refine zg_W_sky (r := 0) C hK hW (zvd_5 (by decide) (by decide)) zk_1364 zd_M_weather_79 ?_
  refine lv_iload_n C.1 C.2.1 zd_M_weather_82 rfl (lv_at hl 0 rfl) ?_
  refine zaald (t0 := 4) C hK hW (zvd_5 (by decide) (by decide)) (fun f => ze_5_42 B f (0)) rfl rfl (by decide) h2 zd_M_weather_83 (a := B.2.1 7 (0) (xt0)) (by rw [Int.toNat_of_nonneg h2.1]) ?_
  refine zr_iconst C zd_M_weather_84 ?_
  refine zr_bipush C zd_M_weather_85 (by decide) ?_
  obtain ⟨S5, eS5, hf⟩ := zlt_some hf
  refine zcopy C hK hap hW hS hl.1 (zvd_10 h1 (by decide)) (zvd_7 (by decide) h2) (fun f => ze_10_0 B f (x1)) (fun f => ze_7 B f (0) (xt0)) (by decide) (by decide) rfl rfl (by decide) zk_1743 zk_735 zk_734 zk_18 (by decide) (Nat.le_of_ble_eq_true rfl) zd_M_weather_87 (fun H locs hW hS => ?_)
  rw [eS5] at hW
  refine lv_aload_n C.1 C.2.1 zd_M_weather_90 rfl (lv_at hl 1 rfl) ?_
  refine zg_M_rowSize (r := 0) C hK hW (zvd_9 (by decide) (by decide)) zk_1507 zd_M_weather_91 ?_
  refine lv_iload_n C.1 C.2.1 zd_M_weather_94 rfl (lv_at hl 2 rfl) ?_
  refine ziald C hK hW (zvd_9 (by decide) (by decide)) (fun f => ze_9_3 B f (0)) (by decide) h1 zd_M_weather_95 ?_
  cases hf
  exact zre_i C hr hlk hK hW hS (zWn hW _ _ _ _ rfl) zd_M_weather_96

def zf_M_weather (x1 : Int) (x2 : Int) (S : Sg) : Option (Int × Sg) :=
    zlt (zu S 9 0 0 4 0) fun S1 => zbd (zf_M_isShelf x1 S1) fun a2 S3 => if a2 = 0 then (some (-1, S3)) else (zbd (zf_M_noRow x1 S3) fun a5 S6 => if a5 = 0 then (if x2 = 0 then (zf_M_weather_37 (x1) (0) S6) else (zf_M_weather_37 (x1) (1) S6)) else (zbd (zf_M_noRow x1 S6) fun a9 S10 => some (a9, S10)))
set_option maxHeartbeats 4000000 in
set_option maxRecDepth 100000 in
theorem zw_M_weather {p : Program} {l : Launch} {e : Env} {s : State} {m : MethodId} {args : Array Value} {below : List Frame} {meth : Method} {c : Code} {B : zB} (C : CallFix p m c zb_M_weather 4 s args zT "IslandOfficeModel") (hr : meth.sig.returnType = some .int) (hlk : meth.locks = false) (hK : zK B s) (hSt : zSt B s) (hap : zAp B) {res : Int} {S9 : Sg} : ∀ (x1 : Int) (x2 : Int) (S : Sg) (nx1 : zn x1) (nx2 : zn x2), zf_M_weather x1 x2 S = some (res, S9) → ∀ (H : Heap) (locs : List Loc) (ls : Array Slot), zW B S H → va_S B.2.2.2 s.heap H locs → lv_has ls 4 [(0, .ref (B.2.1 9 (0) (0))), (1, .int (zI (x1))), (2, .int (zI (x2)))] → W p l e zm_M_weather s m args below meth c H locs 0 0 (MQ below (zQi B res S9) args s 0 0 B.2.2.2) (F0 m 0 ls []) := by
  intro x1 x2 S nx1 nx2 hf H locs ls hW hS hl
  unfold zf_M_weather at hf
  refine lv_aload_n C.1 C.2.1 zd_M_weather_0 rfl (lv_at hl 0 rfl) ?_
  refine zr_iconst C zd_M_weather_1 ?_
  obtain ⟨S1, eS1, hf⟩ := zlt_some hf
  refine zp_M_thrown (r := 0) C hK hap hW hS (zvd_9 (by decide) (by decide)) zk_1504 (znb rfl) zd_M_weather_2 (fun H locs hW hS => ?_)
  rw [eS1] at hW
  refine lv_iload_n C.1 C.2.1 zd_M_weather_5 rfl (lv_at hl 1 rfl) ?_
  obtain ⟨a2, S3, ea2, hf⟩ := zbd_some hf
  refine zcSi (As := [.int (zI (x1))]) (rest := []) C hK hSt hW hS (zc_M_isShelf hap x1 S1 nx1 ea2) zq_M_isShelf zk_1645 ⟨rfl, rfl, by decide, by decide⟩ ⟨Nat.zero_le _, Nat.zero_le _⟩ rfl hl.1 rfl (lv_room (Nat.le_of_ble_eq_true rfl)) zd_M_weather_6 (fun na2 H locs hW hS => ?_)
  refine zr_if_ne (tgt := 14) C na2 zd_M_weather_9 (by decide) (fun c4 => ?_) (fun c4 => ?_)
  · rw [if_neg c4] at hf
    refine lv_aload_n C.1 C.2.1 zd_M_weather_14 rfl (lv_at hl 0 rfl) ?_
    refine lv_iload_n C.1 C.2.1 zd_M_weather_15 rfl (lv_at hl 1 rfl) ?_
    obtain ⟨a5, S6, ea5, hf⟩ := zbd_some hf
    refine zcVi (As := [.int (zI (x1))]) (rest := []) C hK hSt hW hS (zc_M_noRow hap x1 S3 nx1 ea5) zq_M_noRow zk_1875 (zrecv hK hW (zvd_9 (by decide) (by decide)) (ze_9_0 B _ (0)) rfl) ⟨rfl, rfl, by decide, by decide⟩ ⟨Nat.zero_le _, Nat.zero_le _⟩ rfl hl.1 rfl (lv_room (Nat.le_of_ble_eq_true rfl)) zd_M_weather_16 (fun na5 H locs hW hS => ?_)
    refine zr_if_eq (tgt := 28) C na5 zd_M_weather_19 (by decide) (fun c7 => ?_) (fun c7 => ?_)
    · rw [if_pos c7] at hf
      refine lv_iload_n C.1 C.2.1 zd_M_weather_28 rfl (lv_at hl 2 rfl) ?_
      refine zr_if_eq (tgt := 36) C nx2 zd_M_weather_29 (by decide) (fun c8 => ?_) (fun c8 => ?_)
      · rw [if_pos c8] at hf
        refine zr_iconst C zd_M_weather_36 ?_
        exact zw_M_weather_37 C hr hlk hK hSt hap   (x1) (0) S6 nx1 (znb rfl) hf _ _ _ hW hS (lv_sub hl [0, 1] rfl)
      · rw [if_neg c8] at hf
        refine zr_iconst C zd_M_weather_32 ?_
        refine lv_goto (tgt := 37) C.1 C.2.1 zd_M_weather_33 (by decide) ?_
        exact zw_M_weather_37 C hr hlk hK hSt hap   (x1) (1) S6 nx1 (znb rfl) hf _ _ _ hW hS (lv_sub hl [0, 1] rfl)
    · rw [if_neg c7] at hf
      refine lv_aload_n C.1 C.2.1 zd_M_weather_22 rfl (lv_at hl 0 rfl) ?_
      refine lv_iload_n C.1 C.2.1 zd_M_weather_23 rfl (lv_at hl 1 rfl) ?_
      obtain ⟨a9, S10, ea9, hf⟩ := zbd_some hf
      refine zcVi (As := [.int (zI (x1))]) (rest := []) C hK hSt hW hS (zc_M_noRow hap x1 S6 nx1 ea9) zq_M_noRow zk_1875 (zrecv hK hW (zvd_9 (by decide) (by decide)) (ze_9_0 B _ (0)) rfl) ⟨rfl, rfl, by decide, by decide⟩ ⟨Nat.zero_le _, Nat.zero_le _⟩ rfl hl.1 rfl (lv_room (Nat.le_of_ble_eq_true rfl)) zd_M_weather_24 (fun na9 H locs hW hS => ?_)
      cases hf
      exact zre_i C hr hlk hK hW hS na9 zd_M_weather_27
  · rw [if_pos c4] at hf
    refine zr_iconst C zd_M_weather_12 ?_
    cases hf
    exact zre_i C hr hlk hK hW hS (znb rfl) zd_M_weather_13

theorem zc_M_weather {l : Launch} {B : zB} (hap : zAp B) (x1 : Int) (x2 : Int) (S : Sg) (nx1 : zn x1) (nx2 : zn x2) {res : Int} {S9 : Sg} (hf : zf_M_weather x1 x2 S = some (res, S9)) : Met l zy_M_weather (Cond.code zy_M_weather zb_M_weather 4 (some .int) :: zT) zm_M_weather (zP B S [.ref (B.2.1 9 (0) (0)), .int (zI (x1)), .int (zI (x2))]) (zQi B res S9) 0 0 B.2.2.2 :=
  zmet (by decide) (Nat.le_of_ble_eq_true rfl) (fun p e s m args below meth c C hr hlk hK hSt hW ls hl => zw_M_weather C hr hlk hK hSt hap   x1 x2 S nx1 nx2 hf _ _ _ hW va_S.rf hl)
/-! IslandOfficeModel$World.leastOf(I)J -/
abbrev zy_W_leastOf : MethodName := ⟨"IslandOfficeModel$World", "leastOf", "(I)J"⟩
abbrev zb_W_leastOf : ByteArray := prog_15_method_36_code
abbrev zm_W_leastOf : Room := { frames := 0, cells := 0, slots := 0, locals := 0 }
theorem zq_W_leastOf : zMy zy_W_leastOf zb_W_leastOf 2 (some .long) 1 := ⟨zk_1894, zk_1893, zs_77, zk_15, by decide, by decide, by decide +kernel⟩
theorem zd_W_leastOf_0 : decode zb_W_leastOf 0 = .ok (.aload_n 0, 1) := by decide +kernel
theorem zd_W_leastOf_1 : decode zb_W_leastOf 1 = .ok (.getfield 117, 3) := by decide +kernel
theorem zd_W_leastOf_4 : decode zb_W_leastOf 4 = .ok (.iload_n 1, 1) := by decide +kernel
theorem zd_W_leastOf_5 : decode zb_W_leastOf 5 = .ok (.iaload, 1) := by decide +kernel
theorem zd_W_leastOf_6 : decode zb_W_leastOf 6 = .ok (.ifCond .ne 9, 3) := by decide +kernel
theorem zd_W_leastOf_9 : decode zb_W_leastOf 9 = .ok (.ldc2_w 294, 3) := by decide +kernel
theorem zd_W_leastOf_12 : decode zb_W_leastOf 12 = .ok (.goto 22, 3) := by decide +kernel
theorem zd_W_leastOf_15 : decode zb_W_leastOf 15 = .ok (.aload_n 0, 1) := by decide +kernel
theorem zd_W_leastOf_16 : decode zb_W_leastOf 16 = .ok (.getfield 117, 3) := by decide +kernel
theorem zd_W_leastOf_19 : decode zb_W_leastOf 19 = .ok (.iload_n 1, 1) := by decide +kernel
theorem zd_W_leastOf_20 : decode zb_W_leastOf 20 = .ok (.iaload, 1) := by decide +kernel
theorem zd_W_leastOf_21 : decode zb_W_leastOf 21 = .ok (.iconst 1, 1) := by decide +kernel
theorem zd_W_leastOf_22 : decode zb_W_leastOf 22 = .ok (.if_icmp .ne 9, 3) := by decide +kernel
theorem zd_W_leastOf_25 : decode zb_W_leastOf 25 = .ok (.ldc2_w 298, 3) := by decide +kernel
theorem zd_W_leastOf_28 : decode zb_W_leastOf 28 = .ok (.goto 6, 3) := by decide +kernel
theorem zd_W_leastOf_31 : decode zb_W_leastOf 31 = .ok (.ldc2_w 300, 3) := by decide +kernel
theorem zd_W_leastOf_34 : decode zb_W_leastOf 34 = .ok (.lreturn, 1) := by decide +kernel

def zf_W_leastOf (r0 : Int) (x1 : Int) (S : Sg) : Option (Int × Sg) :=
    zck (0 ≤ x1 ∧ x1 < 2) <| if (S 5 r0 32 x1) = 0 then (some (-128, S)) else (if (S 5 r0 32 x1) = 1 then (some (-32768, S)) else (some (-2147483648, S)))
set_option maxHeartbeats 4000000 in
set_option maxRecDepth 100000 in
theorem zw_W_leastOf {p : Program} {l : Launch} {e : Env} {s : State} {m : MethodId} {args : Array Value} {below : List Frame} {meth : Method} {c : Code} {B : zB} (C : CallFix p m c zb_W_leastOf 2 s args zT "IslandOfficeModel$World") (hr : meth.sig.returnType = some .long) (hlk : meth.locks = false) (hK : zK B s) (hSt : zSt B s) (hap : zAp B) (r0 : Int) (hr0 : 0 ≤ r0 ∧ r0 < 3) {res : Int} {S9 : Sg} : ∀ (x1 : Int) (S : Sg) (nx1 : zn x1), zf_W_leastOf r0 x1 S = some (res, S9) → ∀ (H : Heap) (locs : List Loc) (ls : Array Slot), zW B S H → va_S B.2.2.2 s.heap H locs → lv_has ls 2 [(0, .ref (B.2.1 5 (r0) (0))), (1, .int (zI (x1)))] → W p l e zm_W_leastOf s m args below meth c H locs 0 0 (MQ below (zQl B res S9) args s 0 0 B.2.2.2) (F0 m 0 ls []) := by
  intro x1 S nx1 hf H locs ls hW hS hl
  unfold zf_W_leastOf at hf
  refine lv_aload_n C.1 C.2.1 zd_W_leastOf_0 rfl (lv_at hl 0 rfl) ?_
  refine zg_W_skySort (r := r0) C hK hW (zvd_5 hr0 (by decide)) zk_1359 zd_W_leastOf_1 ?_
  refine lv_iload_n C.1 C.2.1 zd_W_leastOf_4 rfl (lv_at hl 1 rfl) ?_
  obtain ⟨h1, hf⟩ := zck_some hf
  refine ziald C hK hW (zvd_5 hr0 (by decide)) (fun f => ze_5_32 B f (r0)) (by decide) h1 zd_W_leastOf_5 ?_
  refine zr_if_ne (tgt := 15) C (zWn hW _ _ _ _ rfl) zd_W_leastOf_6 (by decide) (fun c2 => ?_) (fun c2 => ?_)
  · rw [if_neg c2] at hf
    refine lv_aload_n C.1 C.2.1 zd_W_leastOf_15 rfl (lv_at hl 0 rfl) ?_
    refine zg_W_skySort (r := r0) C hK hW (zvd_5 hr0 (by decide)) zk_1359 zd_W_leastOf_16 ?_
    refine lv_iload_n C.1 C.2.1 zd_W_leastOf_19 rfl (lv_at hl 1 rfl) ?_
    refine ziald C hK hW (zvd_5 hr0 (by decide)) (fun f => ze_5_32 B f (r0)) (by decide) h1 zd_W_leastOf_20 ?_
    refine zr_iconst C zd_W_leastOf_21 ?_
    refine zr_icmp_ne (tgt := 31) C (zWn hW _ _ _ _ rfl) (znb rfl) zd_W_leastOf_22 (by decide) (fun c3 => ?_) (fun c3 => ?_)
    · rw [if_neg c3] at hf
      refine zr_ldc2 (n := -2147483648) C zk_1897 (by decide) zd_W_leastOf_31 ?_
      cases hf
      exact zre_l C hr hlk hK hW hS (zmb rfl) zd_W_leastOf_34
    · rw [if_pos c3] at hf
      refine zr_ldc2 (n := -32768) C zk_1896 (by decide) zd_W_leastOf_25 ?_
      refine lv_goto (tgt := 34) C.1 C.2.1 zd_W_leastOf_28 (by decide) ?_
      cases hf
      exact zre_l C hr hlk hK hW hS (zmb rfl) zd_W_leastOf_34
  · rw [if_pos c2] at hf
    refine zr_ldc2 (n := -128) C zk_1895 (by decide) zd_W_leastOf_9 ?_
    refine lv_goto (tgt := 34) C.1 C.2.1 zd_W_leastOf_12 (by decide) ?_
    cases hf
    exact zre_l C hr hlk hK hW hS (zmb rfl) zd_W_leastOf_34

theorem zc_W_leastOf {l : Launch} {B : zB} (hap : zAp B) (r0 : Int) (hr0 : 0 ≤ r0 ∧ r0 < 3) (x1 : Int) (S : Sg) (nx1 : zn x1) {res : Int} {S9 : Sg} (hf : zf_W_leastOf r0 x1 S = some (res, S9)) : Met l zy_W_leastOf (Cond.code zy_W_leastOf zb_W_leastOf 2 (some .long) :: zT) zm_W_leastOf (zP B S [.ref (B.2.1 5 (r0) (0)), .int (zI (x1))]) (zQl B res S9) 0 0 B.2.2.2 :=
  zmet (by decide) (Nat.le_of_ble_eq_true rfl) (fun p e s m args below meth c C hr hlk hK hSt hW ls hl => zw_W_leastOf C hr hlk hK hSt hap r0 hr0 x1 S nx1 hf _ _ _ hW va_S.rf hl)
/-! IslandOfficeModel$World.missing(II)Z -/
abbrev zy_W_missing : MethodName := ⟨"IslandOfficeModel$World", "missing", "(II)Z"⟩
abbrev zb_W_missing : ByteArray := prog_15_method_37_code
abbrev zm_W_missing : Room := { frames := 1, cells := 0, slots := 0, locals := 21 }
theorem zq_W_missing : zMy zy_W_missing zb_W_missing 3 (some .boolean) 2 := ⟨zk_1890, zk_1889, zs_76, zk_15, by decide, by decide, by decide +kernel⟩
theorem zd_W_missing_0 : decode zb_W_missing 0 = .ok (.iload_n 2, 1) := by decide +kernel
theorem zd_W_missing_1 : decode zb_W_missing 1 = .ok (.aload_n 0, 1) := by decide +kernel
theorem zd_W_missing_2 : decode zb_W_missing 2 = .ok (.getfield 120, 3) := by decide +kernel
theorem zd_W_missing_5 : decode zb_W_missing 5 = .ok (.iload_n 1, 1) := by decide +kernel
theorem zd_W_missing_6 : decode zb_W_missing 6 = .ok (.iaload, 1) := by decide +kernel
theorem zd_W_missing_7 : decode zb_W_missing 7 = .ok (.if_icmp .ge 25, 3) := by decide +kernel
theorem zd_W_missing_10 : decode zb_W_missing 10 = .ok (.aload_n 0, 1) := by decide +kernel
theorem zd_W_missing_11 : decode zb_W_missing 11 = .ok (.getfield 123, 3) := by decide +kernel
theorem zd_W_missing_14 : decode zb_W_missing 14 = .ok (.iload_n 1, 1) := by decide +kernel
theorem zd_W_missing_15 : decode zb_W_missing 15 = .ok (.aaload, 1) := by decide +kernel
theorem zd_W_missing_16 : decode zb_W_missing 16 = .ok (.iload_n 2, 1) := by decide +kernel
theorem zd_W_missing_17 : decode zb_W_missing 17 = .ok (.iaload, 1) := by decide +kernel
theorem zd_W_missing_18 : decode zb_W_missing 18 = .ok (.i2l, 1) := by decide +kernel
theorem zd_W_missing_19 : decode zb_W_missing 19 = .ok (.aload_n 0, 1) := by decide +kernel
theorem zd_W_missing_20 : decode zb_W_missing 20 = .ok (.iload_n 1, 1) := by decide +kernel
theorem zd_W_missing_21 : decode zb_W_missing 21 = .ok (.invokevirtual 302, 3) := by decide +kernel
theorem zd_W_missing_24 : decode zb_W_missing 24 = .ok (.lcmp, 1) := by decide +kernel
theorem zd_W_missing_25 : decode zb_W_missing 25 = .ok (.ifCond .ne 7, 3) := by decide +kernel
theorem zd_W_missing_28 : decode zb_W_missing 28 = .ok (.iconst 1, 1) := by decide +kernel
theorem zd_W_missing_29 : decode zb_W_missing 29 = .ok (.goto 4, 3) := by decide +kernel
theorem zd_W_missing_32 : decode zb_W_missing 32 = .ok (.iconst 0, 1) := by decide +kernel
theorem zd_W_missing_33 : decode zb_W_missing 33 = .ok (.ireturn, 1) := by decide +kernel

def zf_W_missing (r0 : Int) (x1 : Int) (x2 : Int) (S : Sg) : Option (Int × Sg) :=
    zck (0 ≤ x1 ∧ x1 < 2) <| if (S 5 r0 33 x1) ≤ x2 then (some (0, S)) else (zck (0 ≤ x2 ∧ x2 < 120) <| zbd (zf_W_leastOf (r0) x1 S) fun a4 S5 => if (zcmp (S 7 r0 x1 x2) a4) = 0 then (some (1, S5)) else (some (0, S5)))
set_option maxHeartbeats 4000000 in
set_option maxRecDepth 100000 in
theorem zw_W_missing {p : Program} {l : Launch} {e : Env} {s : State} {m : MethodId} {args : Array Value} {below : List Frame} {meth : Method} {c : Code} {B : zB} (C : CallFix p m c zb_W_missing 3 s args zT "IslandOfficeModel$World") (hr : meth.sig.returnType = some .boolean) (hlk : meth.locks = false) (hK : zK B s) (hSt : zSt B s) (hap : zAp B) (r0 : Int) (hr0 : 0 ≤ r0 ∧ r0 < 3) {res : Int} {S9 : Sg} : ∀ (x1 : Int) (x2 : Int) (S : Sg) (nx1 : zn x1) (nx2 : zn x2), zf_W_missing r0 x1 x2 S = some (res, S9) → ∀ (H : Heap) (locs : List Loc) (ls : Array Slot), zW B S H → va_S B.2.2.2 s.heap H locs → lv_has ls 3 [(0, .ref (B.2.1 5 (r0) (0))), (1, .int (zI (x1))), (2, .int (zI (x2)))] → W p l e zm_W_missing s m args below meth c H locs 0 0 (MQ below (zQi B res S9) args s 0 0 B.2.2.2) (F0 m 0 ls []) := by
  intro x1 x2 S nx1 nx2 hf H locs ls hW hS hl
  unfold zf_W_missing at hf
  refine lv_iload_n C.1 C.2.1 zd_W_missing_0 rfl (lv_at hl 2 rfl) ?_
  refine lv_aload_n C.1 C.2.1 zd_W_missing_1 rfl (lv_at hl 0 rfl) ?_
  refine zg_W_skySize (r := r0) C hK hW (zvd_5 hr0 (by decide)) zk_1361 zd_W_missing_2 ?_
  refine lv_iload_n C.1 C.2.1 zd_W_missing_5 rfl (lv_at hl 1 rfl) ?_
  obtain ⟨h1, hf⟩ := zck_some hf
  refine ziald C hK hW (zvd_5 hr0 (by decide)) (fun f => ze_5_33 B f (r0)) (by decide) h1 zd_W_missing_6 ?_
  refine zr_icmp_ge (tgt := 32) C nx2 (zWn hW _ _ _ _ rfl) zd_W_missing_7 (by decide) (fun c2 => ?_) (fun c2 => ?_)
  · rw [if_pos c2] at hf
    refine zr_iconst C zd_W_missing_32 ?_
    cases hf
    exact zre_z C hr hlk hK hW hS (znb rfl) (zb01 (by decide)) zd_W_missing_33
  · rw [if_neg c2] at hf
    refine lv_aload_n C.1 C.2.1 zd_W_missing_10 rfl (lv_at hl 0 rfl) ?_
    refine zg_W_sky (r := r0) C hK hW (zvd_5 hr0 (by decide)) zk_1363 zd_W_missing_11 ?_
    refine lv_iload_n C.1 C.2.1 zd_W_missing_14 rfl (lv_at hl 1 rfl) ?_
    refine zaald (t0 := 4) C hK hW (zvd_5 hr0 (by decide)) (fun f => ze_5_42 B f (r0)) rfl rfl (by decide) h1 zd_W_missing_15 (a := B.2.1 7 (r0) (x1)) (by rw [Int.toNat_of_nonneg h1.1]) ?_
    refine lv_iload_n C.1 C.2.1 zd_W_missing_16 rfl (lv_at hl 2 rfl) ?_
    obtain ⟨h3, hf⟩ := zck_some hf
    refine ziald C hK hW (zvd_7 hr0 h1) (fun f => ze_7 B f (r0) (x1)) (by decide) h3 zd_W_missing_17 ?_
    refine zr_i2l C (zWn hW _ _ _ _ rfl) zd_W_missing_18 ?_
    refine lv_aload_n C.1 C.2.1 zd_W_missing_19 rfl (lv_at hl 0 rfl) ?_
    refine lv_iload_n C.1 C.2.1 zd_W_missing_20 rfl (lv_at hl 1 rfl) ?_
    have w6 : zm (S 7 r0 x1 x2) := (zm_n (zWn hW _ _ _ _ rfl))
    obtain ⟨a4, S5, ea4, hf⟩ := zbd_some hf
    refine zcVl (As := [.int (zI (x1))]) (rest := [.long (zL (S 7 r0 x1 x2))]) C hK hSt hW hS (zc_W_leastOf hap (r0) hr0 x1 S nx1 ea4) zq_W_leastOf zk_1891 (zrecv hK hW (zvd_5 hr0 (by decide)) (ze_5_0 B _ (r0)) rfl) ⟨rfl, rfl, by decide, by decide⟩ ⟨Nat.zero_le _, Nat.zero_le _⟩ rfl hl.1 rfl (lv_room (Nat.le_of_ble_eq_true rfl)) zd_W_missing_21 (fun na4 H locs hW hS => ?_)
    refine zr_lcmp C w6 na4 zd_W_missing_24 ?_
    refine zr_if_ne (tgt := 32) C (zn_cmp _ _) zd_W_missing_25 (by decide) (fun c7 => ?_) (fun c7 => ?_)
    · rw [if_neg c7] at hf
      refine zr_iconst C zd_W_missing_32 ?_
      cases hf
      exact zre_z C hr hlk hK hW hS (znb rfl) (zb01 (by decide)) zd_W_missing_33
    · rw [if_pos c7] at hf
      refine zr_iconst C zd_W_missing_28 ?_
      refine lv_goto (tgt := 33) C.1 C.2.1 zd_W_missing_29 (by decide) ?_
      cases hf
      exact zre_z C hr hlk hK hW hS (znb rfl) (zb01 (by decide)) zd_W_missing_33

theorem zc_W_missing {l : Launch} {B : zB} (hap : zAp B) (r0 : Int) (hr0 : 0 ≤ r0 ∧ r0 < 3) (x1 : Int) (x2 : Int) (S : Sg) (nx1 : zn x1) (nx2 : zn x2) {res : Int} {S9 : Sg} (hf : zf_W_missing r0 x1 x2 S = some (res, S9)) : Met l zy_W_missing (Cond.code zy_W_missing zb_W_missing 3 (some .boolean) :: zT) zm_W_missing (zP B S [.ref (B.2.1 5 (r0) (0)), .int (zI (x1)), .int (zI (x2))]) (zQi B res S9) 0 0 B.2.2.2 :=
  zmet (by decide) (Nat.le_of_ble_eq_true rfl) (fun p e s m args below meth c C hr hlk hK hSt hW ls hl => zw_W_missing C hr hlk hK hSt hap r0 hr0 x1 x2 S nx1 nx2 hf _ _ _ hW va_S.rf hl)
/-! IslandOfficeModel$World.skyOf(II)I -/
abbrev zy_W_skyOf : MethodName := ⟨"IslandOfficeModel$World", "skyOf", "(II)I"⟩
abbrev zb_W_skyOf : ByteArray := prog_15_method_38_code
abbrev zm_W_skyOf : Room := { frames := 2, cells := 0, slots := 0, locals := 64 }
theorem zq_W_skyOf : zMy zy_W_skyOf zb_W_skyOf 7 (some .int) 2 := ⟨zk_1886, zk_1884, zk_1885, zk_15, by decide, by decide, by decide +kernel⟩
theorem zd_W_skyOf_0 : decode zb_W_skyOf 0 = .ok (.iload_n 2, 1) := by decide +kernel
theorem zd_W_skyOf_1 : decode zb_W_skyOf 1 = .ok (.aload_n 0, 1) := by decide +kernel
theorem zd_W_skyOf_2 : decode zb_W_skyOf 2 = .ok (.getfield 120, 3) := by decide +kernel
theorem zd_W_skyOf_5 : decode zb_W_skyOf 5 = .ok (.iload_n 1, 1) := by decide +kernel
theorem zd_W_skyOf_6 : decode zb_W_skyOf 6 = .ok (.iaload, 1) := by decide +kernel
theorem zd_W_skyOf_7 : decode zb_W_skyOf 7 = .ok (.if_icmp .lt 5, 3) := by decide +kernel
theorem zd_W_skyOf_10 : decode zb_W_skyOf 10 = .ok (.iconst 0, 1) := by decide +kernel
theorem zd_W_skyOf_11 : decode zb_W_skyOf 11 = .ok (.ireturn, 1) := by decide +kernel
theorem zd_W_skyOf_12 : decode zb_W_skyOf 12 = .ok (.aload_n 0, 1) := by decide +kernel
theorem zd_W_skyOf_13 : decode zb_W_skyOf 13 = .ok (.iload_n 1, 1) := by decide +kernel
theorem zd_W_skyOf_14 : decode zb_W_skyOf 14 = .ok (.iload_n 2, 1) := by decide +kernel
theorem zd_W_skyOf_15 : decode zb_W_skyOf 15 = .ok (.invokevirtual 306, 3) := by decide +kernel
theorem zd_W_skyOf_18 : decode zb_W_skyOf 18 = .ok (.ifCond .ne 16, 3) := by decide +kernel
theorem zd_W_skyOf_21 : decode zb_W_skyOf 21 = .ok (.iconst 0, 1) := by decide +kernel
theorem zd_W_skyOf_22 : decode zb_W_skyOf 22 = .ok (.aload_n 0, 1) := by decide +kernel
theorem zd_W_skyOf_23 : decode zb_W_skyOf 23 = .ok (.getfield 123, 3) := by decide +kernel
theorem zd_W_skyOf_26 : decode zb_W_skyOf 26 = .ok (.iload_n 1, 1) := by decide +kernel
theorem zd_W_skyOf_27 : decode zb_W_skyOf 27 = .ok (.aaload, 1) := by decide +kernel
theorem zd_W_skyOf_28 : decode zb_W_skyOf 28 = .ok (.iload_n 2, 1) := by decide +kernel
theorem zd_W_skyOf_29 : decode zb_W_skyOf 29 = .ok (.iaload, 1) := by decide +kernel
theorem zd_W_skyOf_30 : decode zb_W_skyOf 30 = .ok (.invokestatic 309, 3) := by decide +kernel
theorem zd_W_skyOf_33 : decode zb_W_skyOf 33 = .ok (.ireturn, 1) := by decide +kernel
theorem zd_W_skyOf_34 : decode zb_W_skyOf 34 = .ok (.lconst 0, 1) := by decide +kernel
theorem zd_W_skyOf_35 : decode zb_W_skyOf 35 = .ok (.lstore_n 3, 1) := by decide +kernel
theorem zd_W_skyOf_36 : decode zb_W_skyOf 36 = .ok (.iconst 0, 1) := by decide +kernel
theorem zd_W_skyOf_37 : decode zb_W_skyOf 37 = .ok (.istore 5, 2) := by decide +kernel
theorem zd_W_skyOf_39 : decode zb_W_skyOf 39 = .ok (.iload_n 2, 1) := by decide +kernel
theorem zd_W_skyOf_40 : decode zb_W_skyOf 40 = .ok (.iconst 4, 1) := by decide +kernel
theorem zd_W_skyOf_41 : decode zb_W_skyOf 41 = .ok (.idiv, 1) := by decide +kernel
theorem zd_W_skyOf_42 : decode zb_W_skyOf 42 = .ok (.iconst 4, 1) := by decide +kernel
theorem zd_W_skyOf_43 : decode zb_W_skyOf 43 = .ok (.imul, 1) := by decide +kernel
theorem zd_W_skyOf_44 : decode zb_W_skyOf 44 = .ok (.istore 6, 2) := by decide +kernel
theorem zd_W_skyOf_46 : decode zb_W_skyOf 46 = .ok (.iload 6, 2) := by decide +kernel
theorem zd_W_skyOf_48 : decode zb_W_skyOf 48 = .ok (.iload_n 2, 1) := by decide +kernel
theorem zd_W_skyOf_49 : decode zb_W_skyOf 49 = .ok (.iconst 4, 1) := by decide +kernel
theorem zd_W_skyOf_50 : decode zb_W_skyOf 50 = .ok (.idiv, 1) := by decide +kernel
theorem zd_W_skyOf_51 : decode zb_W_skyOf 51 = .ok (.iconst 4, 1) := by decide +kernel
theorem zd_W_skyOf_52 : decode zb_W_skyOf 52 = .ok (.imul, 1) := by decide +kernel
theorem zd_W_skyOf_53 : decode zb_W_skyOf 53 = .ok (.iconst 4, 1) := by decide +kernel
theorem zd_W_skyOf_54 : decode zb_W_skyOf 54 = .ok (.iadd, 1) := by decide +kernel
theorem zd_W_skyOf_55 : decode zb_W_skyOf 55 = .ok (.if_icmp .ge 50, 3) := by decide +kernel
theorem zd_W_skyOf_58 : decode zb_W_skyOf 58 = .ok (.iload 6, 2) := by decide +kernel
theorem zd_W_skyOf_60 : decode zb_W_skyOf 60 = .ok (.aload_n 0, 1) := by decide +kernel
theorem zd_W_skyOf_61 : decode zb_W_skyOf 61 = .ok (.getfield 120, 3) := by decide +kernel
theorem zd_W_skyOf_64 : decode zb_W_skyOf 64 = .ok (.iload_n 1, 1) := by decide +kernel
theorem zd_W_skyOf_65 : decode zb_W_skyOf 65 = .ok (.iaload, 1) := by decide +kernel
theorem zd_W_skyOf_66 : decode zb_W_skyOf 66 = .ok (.if_icmp .ge 33, 3) := by decide +kernel
theorem zd_W_skyOf_69 : decode zb_W_skyOf 69 = .ok (.aload_n 0, 1) := by decide +kernel
theorem zd_W_skyOf_70 : decode zb_W_skyOf 70 = .ok (.iload_n 1, 1) := by decide +kernel
theorem zd_W_skyOf_71 : decode zb_W_skyOf 71 = .ok (.iload 6, 2) := by decide +kernel
theorem zd_W_skyOf_73 : decode zb_W_skyOf 73 = .ok (.invokevirtual 306, 3) := by decide +kernel
theorem zd_W_skyOf_76 : decode zb_W_skyOf 76 = .ok (.ifCond .ne 23, 3) := by decide +kernel
theorem zd_W_skyOf_79 : decode zb_W_skyOf 79 = .ok (.lload_n 3, 1) := by decide +kernel
theorem zd_W_skyOf_80 : decode zb_W_skyOf 80 = .ok (.iconst 0, 1) := by decide +kernel
theorem zd_W_skyOf_81 : decode zb_W_skyOf 81 = .ok (.aload_n 0, 1) := by decide +kernel
theorem zd_W_skyOf_82 : decode zb_W_skyOf 82 = .ok (.getfield 123, 3) := by decide +kernel
theorem zd_W_skyOf_85 : decode zb_W_skyOf 85 = .ok (.iload_n 1, 1) := by decide +kernel
theorem zd_W_skyOf_86 : decode zb_W_skyOf 86 = .ok (.aaload, 1) := by decide +kernel
theorem zd_W_skyOf_87 : decode zb_W_skyOf 87 = .ok (.iload 6, 2) := by decide +kernel
theorem zd_W_skyOf_89 : decode zb_W_skyOf 89 = .ok (.iaload, 1) := by decide +kernel
theorem zd_W_skyOf_90 : decode zb_W_skyOf 90 = .ok (.invokestatic 309, 3) := by decide +kernel
theorem zd_W_skyOf_93 : decode zb_W_skyOf 93 = .ok (.i2l, 1) := by decide +kernel
theorem zd_W_skyOf_94 : decode zb_W_skyOf 94 = .ok (.ladd, 1) := by decide +kernel
theorem zd_W_skyOf_95 : decode zb_W_skyOf 95 = .ok (.lstore_n 3, 1) := by decide +kernel
theorem zd_W_skyOf_96 : decode zb_W_skyOf 96 = .ok (.iinc 5 1, 3) := by decide +kernel
theorem zd_W_skyOf_99 : decode zb_W_skyOf 99 = .ok (.iinc 6 1, 3) := by decide +kernel
theorem zd_W_skyOf_102 : decode zb_W_skyOf 102 = .ok (.goto (-56), 3) := by decide +kernel
theorem zd_W_skyOf_105 : decode zb_W_skyOf 105 = .ok (.iload 5, 2) := by decide +kernel
theorem zd_W_skyOf_107 : decode zb_W_skyOf 107 = .ok (.ifCond .ne 7, 3) := by decide +kernel
theorem zd_W_skyOf_110 : decode zb_W_skyOf 110 = .ok (.iconst 0, 1) := by decide +kernel
theorem zd_W_skyOf_111 : decode zb_W_skyOf 111 = .ok (.goto 9, 3) := by decide +kernel
theorem zd_W_skyOf_114 : decode zb_W_skyOf 114 = .ok (.lload_n 3, 1) := by decide +kernel
theorem zd_W_skyOf_115 : decode zb_W_skyOf 115 = .ok (.iload 5, 2) := by decide +kernel
theorem zd_W_skyOf_117 : decode zb_W_skyOf 117 = .ok (.i2l, 1) := by decide +kernel
theorem zd_W_skyOf_118 : decode zb_W_skyOf 118 = .ok (.ldiv, 1) := by decide +kernel
theorem zd_W_skyOf_119 : decode zb_W_skyOf 119 = .ok (.l2i, 1) := by decide +kernel
theorem zd_W_skyOf_120 : decode zb_W_skyOf 120 = .ok (.ireturn, 1) := by decide +kernel

def zf_W_skyOf_99 (r0 : Int) (q46 : Int → Int → Int → Int → Int → Sg → Option (Int × Sg)) (x1 : Int) (x2 : Int) (x3 : Int) (x5 : Int) (x6 : Int) (S : Sg) : Option (Int × Sg) :=
    zlt (zw (x6 + 1)) fun v1 => q46 (x1) (x2) (x3) (x5) (v1) S
set_option maxHeartbeats 4000000 in
set_option maxRecDepth 100000 in
theorem zw_W_skyOf_99 {p : Program} {l : Launch} {e : Env} {s : State} {m : MethodId} {args : Array Value} {below : List Frame} {meth : Method} {c : Code} {B : zB} (C : CallFix p m c zb_W_skyOf 7 s args zT "IslandOfficeModel$World") (hr : meth.sig.returnType = some .int) (hlk : meth.locks = false) (hK : zK B s) (hSt : zSt B s) (hap : zAp B) (r0 : Int) (hr0 : 0 ≤ r0 ∧ r0 < 3) {res : Int} {S9 : Sg} (q46 : Int → Int → Int → Int → Int → Sg → Option (Int × Sg)) (hq46 : ∀ (x1 : Int) (x2 : Int) (x3 : Int) (x5 : Int) (x6 : Int) (S : Sg) (nx1 : zn x1) (nx2 : zn x2) (nx3 : zm x3) (nx5 : zn x5) (nx6 : zn x6), q46 x1 x2 x3 x5 x6 S = some (res, S9) → ∀ (H : Heap) (locs : List Loc) (ls : Array Slot), zW B S H → va_S B.2.2.2 s.heap H locs → lv_has ls 7 [(0, .ref (B.2.1 5 (r0) (0))), (1, .int (zI (x1))), (2, .int (zI (x2))), (3, .long (zL (x3))), (5, .int (zI (x5))), (6, .int (zI (x6)))] → W p l e zm_W_skyOf s m args below meth c H locs 0 0 (MQ below (zQi B res S9) args s 0 0 B.2.2.2) (F0 m 46 ls [])) : ∀ (x1 : Int) (x2 : Int) (x3 : Int) (x5 : Int) (x6 : Int) (S : Sg) (nx1 : zn x1) (nx2 : zn x2) (nx3 : zm x3) (nx5 : zn x5) (nx6 : zn x6), zf_W_skyOf_99 r0 q46 x1 x2 x3 x5 x6 S = some (res, S9) → ∀ (H : Heap) (locs : List Loc) (ls : Array Slot), zW B S H → va_S B.2.2.2 s.heap H locs → lv_has ls 7 [(0, .ref (B.2.1 5 (r0) (0))), (1, .int (zI (x1))), (2, .int (zI (x2))), (3, .long (zL (x3))), (5, .int (zI (x5))), (6, .int (zI (x6)))] → W p l e zm_W_skyOf s m args below meth c H locs 0 0 (MQ below (zQi B res S9) args s 0 0 B.2.2.2) (F0 m 99 ls []) := by
  intro x1 x2 x3 x5 x6 S nx1 nx2 nx3 nx5 nx6 hf H locs ls hW hS hl
  unfold zf_W_skyOf_99 at hf
  obtain ⟨v1, ev1, hf⟩ := zlt_some hf
  have nv1 : zn v1 := by rw [← ev1]; exact zn_w _
  refine lv_iinc (v := zI v1) (lv' := [(6, .int (zI (v1))), (0, .ref (B.2.1 5 (r0) (0))), (1, .int (zI (x1))), (2, .int (zI (x2))), (3, .long (zL (x3))), (5, .int (zI (x5)))]) C.1 C.2.1 zd_W_skyOf_99 hl (k := 5) rfl (by rw [← ev1, ← zI_add]; rfl) (by decide) rfl (fun ls hl => ?_)
  refine lv_goto (tgt := 46) C.1 C.2.1 zd_W_skyOf_102 (by decide) ?_
  exact hq46 (x1) (x2) (x3) (x5) (v1) S nx1 nx2 nx3 nx5 nv1 hf _ _ _ hW hS (lv_sub hl [1, 2, 3, 4, 5, 0] rfl)

def zf_W_skyOf_46 (r0 : Int) : Nat → Int → Int → Int → Int → Int → Sg → Option (Int × Sg)
  | 0, _, _, _, _, _, _ => none
  | n + 1, x1, x2, x3, x5, x6, S =>
    if (zw ((zw ((zdiv x2 4) * 4)) + 4)) ≤ x6 then (if x5 = 0 then (some (0, S)) else (zck (¬ x5 = 0) <| some (zw (zldv x3 x5), S))) else (zck (0 ≤ x1 ∧ x1 < 2) <| if (S 5 r0 33 x1) ≤ x6 then (zf_W_skyOf_99 r0 (zf_W_skyOf_46 r0 n) (x1) (x2) (x3) (x5) (x6) S) else (zbd (zf_W_missing (r0) x1 x6 S) fun a6 S7 => if a6 = 0 then (zck (0 ≤ x6 ∧ x6 < 120) <| zlt (zv (x3 + (max 0 (S7 7 r0 x1 x6)))) fun v10 => zlt (zw (x5 + 1)) fun v11 => zf_W_skyOf_99 r0 (zf_W_skyOf_46 r0 n) (x1) (x2) (v10) (v11) (x6) S7) else (zf_W_skyOf_99 r0 (zf_W_skyOf_46 r0 n) (x1) (x2) (x3) (x5) (x6) S7)))
set_option maxHeartbeats 4000000 in
set_option maxRecDepth 100000 in
theorem zw_W_skyOf_46 {p : Program} {l : Launch} {e : Env} {s : State} {m : MethodId} {args : Array Value} {below : List Frame} {meth : Method} {c : Code} {B : zB} (C : CallFix p m c zb_W_skyOf 7 s args zT "IslandOfficeModel$World") (hr : meth.sig.returnType = some .int) (hlk : meth.locks = false) (hK : zK B s) (hSt : zSt B s) (hap : zAp B) (r0 : Int) (hr0 : 0 ≤ r0 ∧ r0 < 3) {res : Int} {S9 : Sg} : ∀ n : Nat, ∀ (x1 : Int) (x2 : Int) (x3 : Int) (x5 : Int) (x6 : Int) (S : Sg) (nx1 : zn x1) (nx2 : zn x2) (nx3 : zm x3) (nx5 : zn x5) (nx6 : zn x6), zf_W_skyOf_46 r0 n x1 x2 x3 x5 x6 S = some (res, S9) → ∀ (H : Heap) (locs : List Loc) (ls : Array Slot), zW B S H → va_S B.2.2.2 s.heap H locs → lv_has ls 7 [(0, .ref (B.2.1 5 (r0) (0))), (1, .int (zI (x1))), (2, .int (zI (x2))), (3, .long (zL (x3))), (5, .int (zI (x5))), (6, .int (zI (x6)))] → W p l e zm_W_skyOf s m args below meth c H locs 0 0 (MQ below (zQi B res S9) args s 0 0 B.2.2.2) (F0 m 46 ls []) := by
  intro n
  induction n with
  | zero =>
    intro x1 x2 x3 x5 x6 S nx1 nx2 nx3 nx5 nx6 hf H locs ls hW hS hl
    cases hf
  | succ n ih =>
    intro x1 x2 x3 x5 x6 S nx1 nx2 nx3 nx5 nx6 hf H locs ls hW hS hl
    rw [zf_W_skyOf_46] at hf
    refine lv_iload C.1 C.2.1 zd_W_skyOf_46 (lv_at hl 5 rfl) ?_
    refine lv_iload_n C.1 C.2.1 zd_W_skyOf_48 rfl (lv_at hl 2 rfl) ?_
    refine zr_iconst C zd_W_skyOf_49 ?_
    refine zr_idiv C nx2 (znb rfl) (by decide) zd_W_skyOf_50 ?_
    refine zr_iconst C zd_W_skyOf_51 ?_
    refine zr_imul C zd_W_skyOf_52 ?_
    refine zr_iconst C zd_W_skyOf_53 ?_
    refine zr_iadd C zd_W_skyOf_54 ?_
    refine zr_icmp_ge (tgt := 105) C nx6 (zn_w _) zd_W_skyOf_55 (by decide) (fun c1 => ?_) (fun c1 => ?_)
    · rw [if_pos c1] at hf
      refine lv_iload C.1 C.2.1 zd_W_skyOf_105 (lv_at hl 4 rfl) ?_
      refine zr_if_ne (tgt := 114) C nx5 zd_W_skyOf_107 (by decide) (fun c2 => ?_) (fun c2 => ?_)
      · rw [if_neg c2] at hf
        refine lv_lload_n C.1 C.2.1 zd_W_skyOf_114 rfl (lv_at hl 3 rfl) ?_
        refine lv_iload C.1 C.2.1 zd_W_skyOf_115 (lv_at hl 4 rfl) ?_
        refine zr_i2l C nx5 zd_W_skyOf_117 ?_
        obtain ⟨h3, hf⟩ := zck_some hf
        refine zr_ldiv C nx3 (zm_n nx5) h3 zd_W_skyOf_118 ?_
        refine zr_l2i C (zm_ldv _ _) zd_W_skyOf_119 ?_
        cases hf
        exact zre_i C hr hlk hK hW hS (zn_w _) zd_W_skyOf_120
      · rw [if_pos c2] at hf
        refine zr_iconst C zd_W_skyOf_110 ?_
        refine lv_goto (tgt := 120) C.1 C.2.1 zd_W_skyOf_111 (by decide) ?_
        cases hf
        exact zre_i C hr hlk hK hW hS (znb rfl) zd_W_skyOf_120
    · rw [if_neg c1] at hf
      refine lv_iload C.1 C.2.1 zd_W_skyOf_58 (lv_at hl 5 rfl) ?_
      refine lv_aload_n C.1 C.2.1 zd_W_skyOf_60 rfl (lv_at hl 0 rfl) ?_
      refine zg_W_skySize (r := r0) C hK hW (zvd_5 hr0 (by decide)) zk_1361 zd_W_skyOf_61 ?_
      refine lv_iload_n C.1 C.2.1 zd_W_skyOf_64 rfl (lv_at hl 1 rfl) ?_
      obtain ⟨h4, hf⟩ := zck_some hf
      refine ziald C hK hW (zvd_5 hr0 (by decide)) (fun f => ze_5_33 B f (r0)) (by decide) h4 zd_W_skyOf_65 ?_
      refine zr_icmp_ge (tgt := 99) C nx6 (zWn hW _ _ _ _ rfl) zd_W_skyOf_66 (by decide) (fun c5 => ?_) (fun c5 => ?_)
      · rw [if_pos c5] at hf
        exact zw_W_skyOf_99 C hr hlk hK hSt hap r0 hr0 (zf_W_skyOf_46 r0 n) (ih) (x1) (x2) (x3) (x5) (x6) S nx1 nx2 nx3 nx5 nx6 hf _ _ _ hW hS (lv_sub hl [0, 1, 2, 3, 4, 5] rfl)
      · rw [if_neg c5] at hf
        refine lv_aload_n C.1 C.2.1 zd_W_skyOf_69 rfl (lv_at hl 0 rfl) ?_
        refine lv_iload_n C.1 C.2.1 zd_W_skyOf_70 rfl (lv_at hl 1 rfl) ?_
        refine lv_iload C.1 C.2.1 zd_W_skyOf_71 (lv_at hl 5 rfl) ?_
        obtain ⟨a6, S7, ea6, hf⟩ := zbd_some hf
        refine zcVi (As := [.int (zI (x1)), .int (zI (x6))]) (rest := []) C hK hSt hW hS (zc_W_missing hap (r0) hr0 x1 x6 S nx1 nx6 ea6) zq_W_missing zk_1887 (zrecv hK hW (zvd_5 hr0 (by decide)) (ze_5_0 B _ (r0)) rfl) ⟨rfl, rfl, by decide, by decide⟩ ⟨Nat.zero_le _, Nat.zero_le _⟩ rfl hl.1 rfl (lv_room (Nat.le_of_ble_eq_true rfl)) zd_W_skyOf_73 (fun na6 H locs hW hS => ?_)
        refine zr_if_ne (tgt := 99) C na6 zd_W_skyOf_76 (by decide) (fun c8 => ?_) (fun c8 => ?_)
        · rw [if_neg c8] at hf
          exact zw_W_skyOf_99 C hr hlk hK hSt hap r0 hr0 (zf_W_skyOf_46 r0 n) (ih) (x1) (x2) (x3) (x5) (x6) S7 nx1 nx2 nx3 nx5 nx6 hf _ _ _ hW hS (lv_sub hl [0, 1, 2, 3, 4, 5] rfl)
        · rw [if_pos c8] at hf
          refine lv_lload_n C.1 C.2.1 zd_W_skyOf_79 rfl (lv_at hl 3 rfl) ?_
          refine zr_iconst C zd_W_skyOf_80 ?_
          refine lv_aload_n C.1 C.2.1 zd_W_skyOf_81 rfl (lv_at hl 0 rfl) ?_
          refine zg_W_sky (r := r0) C hK hW (zvd_5 hr0 (by decide)) zk_1363 zd_W_skyOf_82 ?_
          refine lv_iload_n C.1 C.2.1 zd_W_skyOf_85 rfl (lv_at hl 1 rfl) ?_
          refine zaald (t0 := 4) C hK hW (zvd_5 hr0 (by decide)) (fun f => ze_5_42 B f (r0)) rfl rfl (by decide) h4 zd_W_skyOf_86 (a := B.2.1 7 (r0) (x1)) (by rw [Int.toNat_of_nonneg h4.1]) ?_
          refine lv_iload C.1 C.2.1 zd_W_skyOf_87 (lv_at hl 5 rfl) ?_
          obtain ⟨h9, hf⟩ := zck_some hf
          refine ziald C hK hW (zvd_7 hr0 h4) (fun f => ze_7 B f (r0) (x1)) (by decide) h9 zd_W_skyOf_89 ?_
          refine zr_max C hl.1 (znb rfl) (zWn hW _ _ _ _ rfl) zk_1898 zk_678 zk_16 zk_679 (by decide) (Nat.le_of_ble_eq_true rfl) ⟨by decide, by decide⟩ zd_W_skyOf_90 ?_
          refine zr_i2l C (zn_max (znb rfl) (zWn hW _ _ _ _ rfl)) zd_W_skyOf_93 ?_
          refine zr_ladd C zd_W_skyOf_94 ?_
          obtain ⟨v10, ev10, hf⟩ := zlt_some hf
          have nv10 : zm v10 := by rw [← ev10]; exact (zm_v _)
          rw [ev10]
          refine lv_lstore_n (lv' := [(3, .long (zL (v10))), (0, .ref (B.2.1 5 (r0) (0))), (1, .int (zI (x1))), (2, .int (zI (x2))), (5, .int (zI (x5))), (6, .int (zI (x6)))]) C.1 C.2.1 zd_W_skyOf_95 rfl hl (by decide) rfl (fun ls hl => ?_)
          obtain ⟨v11, ev11, hf⟩ := zlt_some hf
          have nv11 : zn v11 := by rw [← ev11]; exact zn_w _
          refine lv_iinc (v := zI v11) (lv' := [(5, .int (zI (v11))), (3, .long (zL (v10))), (0, .ref (B.2.1 5 (r0) (0))), (1, .int (zI (x1))), (2, .int (zI (x2))), (6, .int (zI (x6)))]) C.1 C.2.1 zd_W_skyOf_96 hl (k := 4) rfl (by rw [← ev11, ← zI_add]; rfl) (by decide) rfl (fun ls hl => ?_)
          exact zw_W_skyOf_99 C hr hlk hK hSt hap r0 hr0 (zf_W_skyOf_46 r0 n) (ih) (x1) (x2) (v10) (v11) (x6) S7 nx1 nx2 nv10 nv11 nx6 hf _ _ _ hW hS (lv_sub hl [2, 3, 4, 1, 0, 5] rfl)

def zf_W_skyOf (r0 : Int) (x1 : Int) (x2 : Int) (S : Sg) : Option (Int × Sg) :=
    zck (0 ≤ x1 ∧ x1 < 2) <| if x2 < (S 5 r0 33 x1) then (zbd (zf_W_missing (r0) x1 x2 S) fun a3 S4 => if a3 = 0 then (zck (0 ≤ x2 ∧ x2 < 120) <| some (max 0 (S4 7 r0 x1 x2), S4)) else (zlt (zw ((zdiv x2 4) * 4)) fun v6 => zf_W_skyOf_46 r0 4096 (x1) (x2) (0) (0) (v6) S4)) else (some (0, S))
set_option maxHeartbeats 4000000 in
set_option maxRecDepth 100000 in
theorem zw_W_skyOf {p : Program} {l : Launch} {e : Env} {s : State} {m : MethodId} {args : Array Value} {below : List Frame} {meth : Method} {c : Code} {B : zB} (C : CallFix p m c zb_W_skyOf 7 s args zT "IslandOfficeModel$World") (hr : meth.sig.returnType = some .int) (hlk : meth.locks = false) (hK : zK B s) (hSt : zSt B s) (hap : zAp B) (r0 : Int) (hr0 : 0 ≤ r0 ∧ r0 < 3) {res : Int} {S9 : Sg} : ∀ (x1 : Int) (x2 : Int) (S : Sg) (nx1 : zn x1) (nx2 : zn x2), zf_W_skyOf r0 x1 x2 S = some (res, S9) → ∀ (H : Heap) (locs : List Loc) (ls : Array Slot), zW B S H → va_S B.2.2.2 s.heap H locs → lv_has ls 7 [(0, .ref (B.2.1 5 (r0) (0))), (1, .int (zI (x1))), (2, .int (zI (x2)))] → W p l e zm_W_skyOf s m args below meth c H locs 0 0 (MQ below (zQi B res S9) args s 0 0 B.2.2.2) (F0 m 0 ls []) := by
  intro x1 x2 S nx1 nx2 hf H locs ls hW hS hl
  unfold zf_W_skyOf at hf
  refine lv_iload_n C.1 C.2.1 zd_W_skyOf_0 rfl (lv_at hl 2 rfl) ?_
  refine lv_aload_n C.1 C.2.1 zd_W_skyOf_1 rfl (lv_at hl 0 rfl) ?_
  refine zg_W_skySize (r := r0) C hK hW (zvd_5 hr0 (by decide)) zk_1361 zd_W_skyOf_2 ?_
  refine lv_iload_n C.1 C.2.1 zd_W_skyOf_5 rfl (lv_at hl 1 rfl) ?_
  obtain ⟨h1, hf⟩ := zck_some hf
  refine ziald C hK hW (zvd_5 hr0 (by decide)) (fun f => ze_5_33 B f (r0)) (by decide) h1 zd_W_skyOf_6 ?_
  refine zr_icmp_lt (tgt := 12) C nx2 (zWn hW _ _ _ _ rfl) zd_W_skyOf_7 (by decide) (fun c2 => ?_) (fun c2 => ?_)
  · rw [if_pos c2] at hf
    refine lv_aload_n C.1 C.2.1 zd_W_skyOf_12 rfl (lv_at hl 0 rfl) ?_
    refine lv_iload_n C.1 C.2.1 zd_W_skyOf_13 rfl (lv_at hl 1 rfl) ?_
    refine lv_iload_n C.1 C.2.1 zd_W_skyOf_14 rfl (lv_at hl 2 rfl) ?_
    obtain ⟨a3, S4, ea3, hf⟩ := zbd_some hf
    refine zcVi (As := [.int (zI (x1)), .int (zI (x2))]) (rest := []) C hK hSt hW hS (zc_W_missing hap (r0) hr0 x1 x2 S nx1 nx2 ea3) zq_W_missing zk_1887 (zrecv hK hW (zvd_5 hr0 (by decide)) (ze_5_0 B _ (r0)) rfl) ⟨rfl, rfl, by decide, by decide⟩ ⟨Nat.zero_le _, Nat.zero_le _⟩ rfl hl.1 rfl (lv_room (Nat.le_of_ble_eq_true rfl)) zd_W_skyOf_15 (fun na3 H locs hW hS => ?_)
    refine zr_if_ne (tgt := 34) C na3 zd_W_skyOf_18 (by decide) (fun c5 => ?_) (fun c5 => ?_)
    · rw [if_neg c5] at hf
      refine zr_lconst (k := 0) C zd_W_skyOf_34 rfl ?_
      refine lv_lstore_n (lv' := [(3, .long (zL (0))), (0, .ref (B.2.1 5 (r0) (0))), (1, .int (zI (x1))), (2, .int (zI (x2)))]) C.1 C.2.1 zd_W_skyOf_35 rfl hl (by decide) rfl (fun ls hl => ?_)
      refine zr_iconst C zd_W_skyOf_36 ?_
      refine lv_istore (lv' := [(5, .int (zI (0))), (3, .long (zL (0))), (0, .ref (B.2.1 5 (r0) (0))), (1, .int (zI (x1))), (2, .int (zI (x2)))]) C.1 C.2.1 zd_W_skyOf_37 hl (by decide) rfl (fun ls hl => ?_)
      refine lv_iload_n C.1 C.2.1 zd_W_skyOf_39 rfl (lv_at hl 4 rfl) ?_
      refine zr_iconst C zd_W_skyOf_40 ?_
      refine zr_idiv C nx2 (znb rfl) (by decide) zd_W_skyOf_41 ?_
      refine zr_iconst C zd_W_skyOf_42 ?_
      refine zr_imul C zd_W_skyOf_43 ?_
      obtain ⟨v6, ev6, hf⟩ := zlt_some hf
      have nv6 : zn v6 := by rw [← ev6]; exact (zn_w _)
      rw [ev6]
      refine lv_istore (lv' := [(6, .int (zI (v6))), (5, .int (zI (0))), (3, .long (zL (0))), (0, .ref (B.2.1 5 (r0) (0))), (1, .int (zI (x1))), (2, .int (zI (x2)))]) C.1 C.2.1 zd_W_skyOf_44 hl (by decide) rfl (fun ls hl => ?_)
      exact zw_W_skyOf_46 C hr hlk hK hSt hap r0 hr0 4096 (x1) (x2) (0) (0) (v6) S4 nx1 nx2 (zmb rfl) (znb rfl) nv6 hf _ _ _ hW hS (lv_sub hl [3, 4, 5, 2, 1, 0] rfl)
    · rw [if_pos c5] at hf
      refine zr_iconst C zd_W_skyOf_21 ?_
      refine lv_aload_n C.1 C.2.1 zd_W_skyOf_22 rfl (lv_at hl 0 rfl) ?_
      refine zg_W_sky (r := r0) C hK hW (zvd_5 hr0 (by decide)) zk_1363 zd_W_skyOf_23 ?_
      refine lv_iload_n C.1 C.2.1 zd_W_skyOf_26 rfl (lv_at hl 1 rfl) ?_
      refine zaald (t0 := 4) C hK hW (zvd_5 hr0 (by decide)) (fun f => ze_5_42 B f (r0)) rfl rfl (by decide) h1 zd_W_skyOf_27 (a := B.2.1 7 (r0) (x1)) (by rw [Int.toNat_of_nonneg h1.1]) ?_
      refine lv_iload_n C.1 C.2.1 zd_W_skyOf_28 rfl (lv_at hl 2 rfl) ?_
      obtain ⟨h7, hf⟩ := zck_some hf
      refine ziald C hK hW (zvd_7 hr0 h1) (fun f => ze_7 B f (r0) (x1)) (by decide) h7 zd_W_skyOf_29 ?_
      refine zr_max C hl.1 (znb rfl) (zWn hW _ _ _ _ rfl) zk_1898 zk_678 zk_16 zk_679 (by decide) (Nat.le_of_ble_eq_true rfl) ⟨by decide, by decide⟩ zd_W_skyOf_30 ?_
      cases hf
      exact zre_i C hr hlk hK hW hS (zn_max (znb rfl) (zWn hW _ _ _ _ rfl)) zd_W_skyOf_33
  · rw [if_neg c2] at hf
    refine zr_iconst C zd_W_skyOf_10 ?_
    cases hf
    exact zre_i C hr hlk hK hW hS (znb rfl) zd_W_skyOf_11

theorem zc_W_skyOf {l : Launch} {B : zB} (hap : zAp B) (r0 : Int) (hr0 : 0 ≤ r0 ∧ r0 < 3) (x1 : Int) (x2 : Int) (S : Sg) (nx1 : zn x1) (nx2 : zn x2) {res : Int} {S9 : Sg} (hf : zf_W_skyOf r0 x1 x2 S = some (res, S9)) : Met l zy_W_skyOf (Cond.code zy_W_skyOf zb_W_skyOf 7 (some .int) :: zT) zm_W_skyOf (zP B S [.ref (B.2.1 5 (r0) (0)), .int (zI (x1)), .int (zI (x2))]) (zQi B res S9) 0 0 B.2.2.2 :=
  zmet (by decide) (Nat.le_of_ble_eq_true rfl) (fun p e s m args below meth c C hr hlk hK hSt hW ls hl => zw_W_skyOf C hr hlk hK hSt hap r0 hr0 x1 x2 S nx1 nx2 hf _ _ _ hW va_S.rf hl)
/-! IslandOfficeModel.sky(IZ)I -/
abbrev zy_M_sky : MethodName := ⟨"IslandOfficeModel", "sky", "(IZ)I"⟩
abbrev zb_M_sky : ByteArray := prog_14_method_54_code
abbrev zm_M_sky : Room := { frames := 3, cells := 0, slots := 0, locals := 90 }
theorem zq_M_sky : zMy zy_M_sky zb_M_sky 3 (some .int) 2 := ⟨zk_1882, zk_1880, zk_1881, zk_14, by decide, by decide, by decide +kernel⟩
theorem zd_M_sky_0 : decode zb_M_sky 0 = .ok (.aload_n 0, 1) := by decide +kernel
theorem zd_M_sky_1 : decode zb_M_sky 1 = .ok (.iconst 0, 1) := by decide +kernel
theorem zd_M_sky_2 : decode zb_M_sky 2 = .ok (.putfield 46, 3) := by decide +kernel
theorem zd_M_sky_5 : decode zb_M_sky 5 = .ok (.iload_n 1, 1) := by decide +kernel
theorem zd_M_sky_6 : decode zb_M_sky 6 = .ok (.iconst 0, 1) := by decide +kernel
theorem zd_M_sky_7 : decode zb_M_sky 7 = .ok (.sipush 400, 3) := by decide +kernel
theorem zd_M_sky_10 : decode zb_M_sky 10 = .ok (.invokestatic 53, 3) := by decide +kernel
theorem zd_M_sky_13 : decode zb_M_sky 13 = .ok (.ifCond .eq 23, 3) := by decide +kernel
theorem zd_M_sky_16 : decode zb_M_sky 16 = .ok (.aload_n 0, 1) := by decide +kernel
theorem zd_M_sky_17 : decode zb_M_sky 17 = .ok (.getfield 10, 3) := by decide +kernel
theorem zd_M_sky_20 : decode zb_M_sky 20 = .ok (.iload_n 2, 1) := by decide +kernel
theorem zd_M_sky_21 : decode zb_M_sky 21 = .ok (.ifCond .eq 7, 3) := by decide +kernel
theorem zd_M_sky_24 : decode zb_M_sky 24 = .ok (.iconst 1, 1) := by decide +kernel
theorem zd_M_sky_25 : decode zb_M_sky 25 = .ok (.goto 4, 3) := by decide +kernel
theorem zd_M_sky_28 : decode zb_M_sky 28 = .ok (.iconst 0, 1) := by decide +kernel
theorem zd_M_sky_29 : decode zb_M_sky 29 = .ok (.iload_n 1, 1) := by decide +kernel
theorem zd_M_sky_30 : decode zb_M_sky 30 = .ok (.invokevirtual 297, 3) := by decide +kernel
theorem zd_M_sky_33 : decode zb_M_sky 33 = .ok (.goto 4, 3) := by decide +kernel
theorem zd_M_sky_36 : decode zb_M_sky 36 = .ok (.iconst (-1), 1) := by decide +kernel
theorem zd_M_sky_37 : decode zb_M_sky 37 = .ok (.ireturn, 1) := by decide +kernel

def zf_M_sky_29 (x1 : Int) (xt1 : Int) (S : Sg) : Option (Int × Sg) :=
    zbd (zf_W_skyOf (0) xt1 x1 S) fun a1 S2 => some (a1, S2)
set_option maxHeartbeats 4000000 in
set_option maxRecDepth 100000 in
theorem zw_M_sky_29 {p : Program} {l : Launch} {e : Env} {s : State} {m : MethodId} {args : Array Value} {below : List Frame} {meth : Method} {c : Code} {B : zB} (C : CallFix p m c zb_M_sky 3 s args zT "IslandOfficeModel") (hr : meth.sig.returnType = some .int) (hlk : meth.locks = false) (hK : zK B s) (hSt : zSt B s) (hap : zAp B) {res : Int} {S9 : Sg} : ∀ (x1 : Int) (xt1 : Int) (S : Sg) (nx1 : zn x1) (nxt1 : zn xt1), zf_M_sky_29 x1 xt1 S = some (res, S9) → ∀ (H : Heap) (locs : List Loc) (ls : Array Slot), zW B S H → va_S B.2.2.2 s.heap H locs → lv_has ls 3 [(1, .int (zI (x1)))] → W p l e zm_M_sky s m args below meth c H locs 0 0 (MQ below (zQi B res S9) args s 0 0 B.2.2.2) (F0 m 29 ls [.int (zI (xt1)), .ref (B.2.1 5 (0) (0))]) := by
  intro x1 xt1 S nx1 nxt1 hf H locs ls hW hS hl
  unfold zf_M_sky_29 at hf
  refine lv_iload_n C.1 C.2.1 zd_M_sky_29 rfl (lv_at hl 0 rfl) ?_
  obtain ⟨a1, S2, ea1, hf⟩ := zbd_some hf
  refine zcVi (As := [.int (zI (xt1)), .int (zI (x1))]) (rest := []) C hK hSt hW hS (zc_W_skyOf hap (0) (by decide) xt1 x1 S nxt1 nx1 ea1) zq_W_skyOf zk_1883 (zrecv hK hW (zvd_5 (by decide) (by decide)) (ze_5_0 B _ (0)) rfl) ⟨rfl, rfl, by decide, by decide⟩ ⟨Nat.zero_le _, Nat.zero_le _⟩ rfl hl.1 rfl (lv_room (Nat.le_of_ble_eq_true rfl)) zd_M_sky_30 (fun na1 H locs hW hS => ?_)
  refine lv_goto (tgt := 37) C.1 C.2.1 zd_M_sky_33 (by decide) ?_
  cases hf
  exact zre_i C hr hlk hK hW hS na1 zd_M_sky_37

def zf_M_sky (x1 : Int) (x2 : Int) (S : Sg) : Option (Int × Sg) :=
    zlt (zu S 9 0 0 4 0) fun S1 => zbd (zf_M_in x1 0 400 S1) fun a2 S3 => if a2 = 0 then (some (-1, S3)) else (if x2 = 0 then (zf_M_sky_29 (x1) (0) S3) else (zf_M_sky_29 (x1) (1) S3))
set_option maxHeartbeats 4000000 in
set_option maxRecDepth 100000 in
theorem zw_M_sky {p : Program} {l : Launch} {e : Env} {s : State} {m : MethodId} {args : Array Value} {below : List Frame} {meth : Method} {c : Code} {B : zB} (C : CallFix p m c zb_M_sky 3 s args zT "IslandOfficeModel") (hr : meth.sig.returnType = some .int) (hlk : meth.locks = false) (hK : zK B s) (hSt : zSt B s) (hap : zAp B) {res : Int} {S9 : Sg} : ∀ (x1 : Int) (x2 : Int) (S : Sg) (nx1 : zn x1) (nx2 : zn x2), zf_M_sky x1 x2 S = some (res, S9) → ∀ (H : Heap) (locs : List Loc) (ls : Array Slot), zW B S H → va_S B.2.2.2 s.heap H locs → lv_has ls 3 [(0, .ref (B.2.1 9 (0) (0))), (1, .int (zI (x1))), (2, .int (zI (x2)))] → W p l e zm_M_sky s m args below meth c H locs 0 0 (MQ below (zQi B res S9) args s 0 0 B.2.2.2) (F0 m 0 ls []) := by
  intro x1 x2 S nx1 nx2 hf H locs ls hW hS hl
  unfold zf_M_sky at hf
  refine lv_aload_n C.1 C.2.1 zd_M_sky_0 rfl (lv_at hl 0 rfl) ?_
  refine zr_iconst C zd_M_sky_1 ?_
  obtain ⟨S1, eS1, hf⟩ := zlt_some hf
  refine zp_M_thrown (r := 0) C hK hap hW hS (zvd_9 (by decide) (by decide)) zk_1504 (znb rfl) zd_M_sky_2 (fun H locs hW hS => ?_)
  rw [eS1] at hW
  refine lv_iload_n C.1 C.2.1 zd_M_sky_5 rfl (lv_at hl 1 rfl) ?_
  refine zr_iconst C zd_M_sky_6 ?_
  refine zr_sipush C zd_M_sky_7 (by decide) ?_
  obtain ⟨a2, S3, ea2, hf⟩ := zbd_some hf
  refine zcSi (As := [.int (zI (x1)), .int (zI (0)), .int (zI (400))]) (rest := []) C hK hSt hW hS (zc_M_in hap x1 0 400 S1 nx1 (znb rfl) (znb rfl) ea2) zq_M_in zk_1558 ⟨rfl, rfl, by decide, by decide⟩ ⟨Nat.zero_le _, Nat.zero_le _⟩ rfl hl.1 rfl (lv_room (Nat.le_of_ble_eq_true rfl)) zd_M_sky_10 (fun na2 H locs hW hS => ?_)
  refine zr_if_eq (tgt := 36) C na2 zd_M_sky_13 (by decide) (fun c4 => ?_) (fun c4 => ?_)
  · rw [if_pos c4] at hf
    refine zr_iconst C zd_M_sky_36 ?_
    cases hf
    exact zre_i C hr hlk hK hW hS (znb rfl) zd_M_sky_37
  · rw [if_neg c4] at hf
    refine lv_aload_n C.1 C.2.1 zd_M_sky_16 rfl (lv_at hl 0 rfl) ?_
    refine zg_M_world (r := 0) C hK hW (zvd_9 (by decide) (by decide)) zk_1500 zd_M_sky_17 ?_
    refine lv_iload_n C.1 C.2.1 zd_M_sky_20 rfl (lv_at hl 2 rfl) ?_
    refine zr_if_eq (tgt := 28) C nx2 zd_M_sky_21 (by decide) (fun c5 => ?_) (fun c5 => ?_)
    · rw [if_pos c5] at hf
      refine zr_iconst C zd_M_sky_28 ?_
      exact zw_M_sky_29 C hr hlk hK hSt hap   (x1) (0) S3 nx1 (znb rfl) hf _ _ _ hW hS (lv_sub hl [1] rfl)
    · rw [if_neg c5] at hf
      refine zr_iconst C zd_M_sky_24 ?_
      refine lv_goto (tgt := 29) C.1 C.2.1 zd_M_sky_25 (by decide) ?_
      exact zw_M_sky_29 C hr hlk hK hSt hap   (x1) (1) S3 nx1 (znb rfl) hf _ _ _ hW hS (lv_sub hl [1] rfl)

theorem zc_M_sky {l : Launch} {B : zB} (hap : zAp B) (x1 : Int) (x2 : Int) (S : Sg) (nx1 : zn x1) (nx2 : zn x2) {res : Int} {S9 : Sg} (hf : zf_M_sky x1 x2 S = some (res, S9)) : Met l zy_M_sky (Cond.code zy_M_sky zb_M_sky 3 (some .int) :: zT) zm_M_sky (zP B S [.ref (B.2.1 9 (0) (0)), .int (zI (x1)), .int (zI (x2))]) (zQi B res S9) 0 0 B.2.2.2 :=
  zmet (by decide) (Nat.le_of_ble_eq_true rfl) (fun p e s m args below meth c C hr hlk hK hSt hW ls hl => zw_M_sky C hr hlk hK hSt hap   x1 x2 S nx1 nx2 hf _ _ _ hW va_S.rf hl)
/-! IslandOfficeModel$World.inState(I)I -/
abbrev zy_W_inState : MethodName := ⟨"IslandOfficeModel$World", "inState", "(I)I"⟩
abbrev zb_W_inState : ByteArray := prog_15_method_12_code
abbrev zm_W_inState : Room := { frames := 0, cells := 0, slots := 0, locals := 0 }
theorem zq_W_inState : zMy zy_W_inState zb_W_inState 4 (some .int) 1 := ⟨zk_1966, zk_1964, zk_1965, zk_15, by decide, by decide, by decide +kernel⟩
theorem zd_W_inState_0 : decode zb_W_inState 0 = .ok (.iconst 0, 1) := by decide +kernel
theorem zd_W_inState_1 : decode zb_W_inState 1 = .ok (.istore_n 2, 1) := by decide +kernel
theorem zd_W_inState_2 : decode zb_W_inState 2 = .ok (.iconst 0, 1) := by decide +kernel
theorem zd_W_inState_3 : decode zb_W_inState 3 = .ok (.istore_n 3, 1) := by decide +kernel
theorem zd_W_inState_4 : decode zb_W_inState 4 = .ok (.iload_n 3, 1) := by decide +kernel
theorem zd_W_inState_5 : decode zb_W_inState 5 = .ok (.aload_n 0, 1) := by decide +kernel
theorem zd_W_inState_6 : decode zb_W_inState 6 = .ok (.getfield 158, 3) := by decide +kernel
theorem zd_W_inState_9 : decode zb_W_inState 9 = .ok (.if_icmp .ge 27, 3) := by decide +kernel
theorem zd_W_inState_12 : decode zb_W_inState 12 = .ok (.iload_n 2, 1) := by decide +kernel
theorem zd_W_inState_13 : decode zb_W_inState 13 = .ok (.aload_n 0, 1) := by decide +kernel
theorem zd_W_inState_14 : decode zb_W_inState 14 = .ok (.getfield 24, 3) := by decide +kernel
theorem zd_W_inState_17 : decode zb_W_inState 17 = .ok (.iload_n 3, 1) := by decide +kernel
theorem zd_W_inState_18 : decode zb_W_inState 18 = .ok (.iaload, 1) := by decide +kernel
theorem zd_W_inState_19 : decode zb_W_inState 19 = .ok (.iload_n 1, 1) := by decide +kernel
theorem zd_W_inState_20 : decode zb_W_inState 20 = .ok (.if_icmp .ne 7, 3) := by decide +kernel
theorem zd_W_inState_23 : decode zb_W_inState 23 = .ok (.iconst 1, 1) := by decide +kernel
theorem zd_W_inState_24 : decode zb_W_inState 24 = .ok (.goto 4, 3) := by decide +kernel
theorem zd_W_inState_27 : decode zb_W_inState 27 = .ok (.iconst 0, 1) := by decide +kernel
theorem zd_W_inState_28 : decode zb_W_inState 28 = .ok (.iadd, 1) := by decide +kernel
theorem zd_W_inState_29 : decode zb_W_inState 29 = .ok (.istore_n 2, 1) := by decide +kernel
theorem zd_W_inState_30 : decode zb_W_inState 30 = .ok (.iinc 3 1, 3) := by decide +kernel
theorem zd_W_inState_33 : decode zb_W_inState 33 = .ok (.goto (-29), 3) := by decide +kernel
theorem zd_W_inState_36 : decode zb_W_inState 36 = .ok (.iload_n 2, 1) := by decide +kernel
theorem zd_W_inState_37 : decode zb_W_inState 37 = .ok (.ireturn, 1) := by decide +kernel

def zf_W_inState_28 (r0 : Int) (q4 : Int → Int → Int → Sg → Option (Int × Sg)) (x1 : Int) (x3 : Int) (xt0 : Int) (xt1 : Int) (S : Sg) : Option (Int × Sg) :=
    zlt (zw (xt0 + xt1)) fun v1 => zlt (zw (x3 + 1)) fun v2 => q4 (x1) (v1) (v2) S
set_option maxHeartbeats 4000000 in
set_option maxRecDepth 100000 in
theorem zw_W_inState_28 {p : Program} {l : Launch} {e : Env} {s : State} {m : MethodId} {args : Array Value} {below : List Frame} {meth : Method} {c : Code} {B : zB} (C : CallFix p m c zb_W_inState 4 s args zT "IslandOfficeModel$World") (hr : meth.sig.returnType = some .int) (hlk : meth.locks = false) (hK : zK B s) (hSt : zSt B s) (hap : zAp B) (r0 : Int) (hr0 : 0 ≤ r0 ∧ r0 < 3) {res : Int} {S9 : Sg} (q4 : Int → Int → Int → Sg → Option (Int × Sg)) (hq4 : ∀ (x1 : Int) (x2 : Int) (x3 : Int) (S : Sg) (nx1 : zn x1) (nx2 : zn x2) (nx3 : zn x3), q4 x1 x2 x3 S = some (res, S9) → ∀ (H : Heap) (locs : List Loc) (ls : Array Slot), zW B S H → va_S B.2.2.2 s.heap H locs → lv_has ls 4 [(0, .ref (B.2.1 5 (r0) (0))), (1, .int (zI (x1))), (2, .int (zI (x2))), (3, .int (zI (x3)))] → W p l e zm_W_inState s m args below meth c H locs 0 0 (MQ below (zQi B res S9) args s 0 0 B.2.2.2) (F0 m 4 ls [])) : ∀ (x1 : Int) (x3 : Int) (xt0 : Int) (xt1 : Int) (S : Sg) (nx1 : zn x1) (nx3 : zn x3) (nxt0 : zn xt0) (nxt1 : zn xt1), zf_W_inState_28 r0 q4 x1 x3 xt0 xt1 S = some (res, S9) → ∀ (H : Heap) (locs : List Loc) (ls : Array Slot), zW B S H → va_S B.2.2.2 s.heap H locs → lv_has ls 4 [(0, .ref (B.2.1 5 (r0) (0))), (1, .int (zI (x1))), (3, .int (zI (x3)))] → W p l e zm_W_inState s m args below meth c H locs 0 0 (MQ below (zQi B res S9) args s 0 0 B.2.2.2) (F0 m 28 ls [.int (zI (xt1)), .int (zI (xt0))]) := by
  intro x1 x3 xt0 xt1 S nx1 nx3 nxt0 nxt1 hf H locs ls hW hS hl
  unfold zf_W_inState_28 at hf
  refine zr_iadd C zd_W_inState_28 ?_
  obtain ⟨v1, ev1, hf⟩ := zlt_some hf
  have nv1 : zn v1 := by rw [← ev1]; exact (zn_w _)
  rw [ev1]
  refine lv_istore_n (lv' := [(2, .int (zI (v1))), (0, .ref (B.2.1 5 (r0) (0))), (1, .int (zI (x1))), (3, .int (zI (x3)))]) C.1 C.2.1 zd_W_inState_29 rfl hl (by decide) rfl (fun ls hl => ?_)
  obtain ⟨v2, ev2, hf⟩ := zlt_some hf
  have nv2 : zn v2 := by rw [← ev2]; exact zn_w _
  refine lv_iinc (v := zI v2) (lv' := [(3, .int (zI (v2))), (2, .int (zI (v1))), (0, .ref (B.2.1 5 (r0) (0))), (1, .int (zI (x1)))]) C.1 C.2.1 zd_W_inState_30 hl (k := 3) rfl (by rw [← ev2, ← zI_add]; rfl) (by decide) rfl (fun ls hl => ?_)
  refine lv_goto (tgt := 4) C.1 C.2.1 zd_W_inState_33 (by decide) ?_
  exact hq4 (x1) (v1) (v2) S nx1 nv1 nv2 hf _ _ _ hW hS (lv_sub hl [2, 3, 1, 0] rfl)

def zf_W_inState_4 (r0 : Int) : Nat → Int → Int → Int → Sg → Option (Int × Sg)
  | 0, _, _, _, _ => none
  | n + 1, x1, x2, x3, S =>
    if (S 5 r0 0 1) ≤ x3 then (some (x2, S)) else (zck (0 ≤ x3 ∧ x3 < 40) <| if (S 5 r0 5 x3) = x1 then (zf_W_inState_28 r0 (zf_W_inState_4 r0 n) (x1) (x3) (x2) (1) S) else (zf_W_inState_28 r0 (zf_W_inState_4 r0 n) (x1) (x3) (x2) (0) S))
set_option maxHeartbeats 4000000 in
set_option maxRecDepth 100000 in
theorem zw_W_inState_4 {p : Program} {l : Launch} {e : Env} {s : State} {m : MethodId} {args : Array Value} {below : List Frame} {meth : Method} {c : Code} {B : zB} (C : CallFix p m c zb_W_inState 4 s args zT "IslandOfficeModel$World") (hr : meth.sig.returnType = some .int) (hlk : meth.locks = false) (hK : zK B s) (hSt : zSt B s) (hap : zAp B) (r0 : Int) (hr0 : 0 ≤ r0 ∧ r0 < 3) {res : Int} {S9 : Sg} : ∀ n : Nat, ∀ (x1 : Int) (x2 : Int) (x3 : Int) (S : Sg) (nx1 : zn x1) (nx2 : zn x2) (nx3 : zn x3), zf_W_inState_4 r0 n x1 x2 x3 S = some (res, S9) → ∀ (H : Heap) (locs : List Loc) (ls : Array Slot), zW B S H → va_S B.2.2.2 s.heap H locs → lv_has ls 4 [(0, .ref (B.2.1 5 (r0) (0))), (1, .int (zI (x1))), (2, .int (zI (x2))), (3, .int (zI (x3)))] → W p l e zm_W_inState s m args below meth c H locs 0 0 (MQ below (zQi B res S9) args s 0 0 B.2.2.2) (F0 m 4 ls []) := by
  intro n
  induction n with
  | zero =>
    intro x1 x2 x3 S nx1 nx2 nx3 hf H locs ls hW hS hl
    cases hf
  | succ n ih =>
    intro x1 x2 x3 S nx1 nx2 nx3 hf H locs ls hW hS hl
    rw [zf_W_inState_4] at hf
    refine lv_iload_n C.1 C.2.1 zd_W_inState_4 rfl (lv_at hl 3 rfl) ?_
    refine lv_aload_n C.1 C.2.1 zd_W_inState_5 rfl (lv_at hl 0 rfl) ?_
    refine zg_W_people (r := r0) C hK hW (zvd_5 hr0 (by decide)) zk_1277 zd_W_inState_6 ?_
    refine zr_icmp_ge (tgt := 36) C nx3 (zWn hW _ _ _ _ rfl) zd_W_inState_9 (by decide) (fun c1 => ?_) (fun c1 => ?_)
    · rw [if_pos c1] at hf
      refine lv_iload_n C.1 C.2.1 zd_W_inState_36 rfl (lv_at hl 2 rfl) ?_
      cases hf
      exact zre_i C hr hlk hK hW hS nx2 zd_W_inState_37
    · rw [if_neg c1] at hf
      refine lv_iload_n C.1 C.2.1 zd_W_inState_12 rfl (lv_at hl 2 rfl) ?_
      refine lv_aload_n C.1 C.2.1 zd_W_inState_13 rfl (lv_at hl 0 rfl) ?_
      refine zg_W_state (r := r0) C hK hW (zvd_5 hr0 (by decide)) zk_1287 zd_W_inState_14 ?_
      refine lv_iload_n C.1 C.2.1 zd_W_inState_17 rfl (lv_at hl 3 rfl) ?_
      obtain ⟨h2, hf⟩ := zck_some hf
      refine ziald C hK hW (zvd_5 hr0 (by decide)) (fun f => ze_5_5 B f (r0)) (by decide) h2 zd_W_inState_18 ?_
      refine lv_iload_n C.1 C.2.1 zd_W_inState_19 rfl (lv_at hl 1 rfl) ?_
      refine zr_icmp_ne (tgt := 27) C (zWn hW _ _ _ _ rfl) nx1 zd_W_inState_20 (by decide) (fun c3 => ?_) (fun c3 => ?_)
      · rw [if_neg c3] at hf
        refine zr_iconst C zd_W_inState_27 ?_
        exact zw_W_inState_28 C hr hlk hK hSt hap r0 hr0 (zf_W_inState_4 r0 n) (ih) (x1) (x3) (x2) (0) S nx1 nx3 nx2 (znb rfl) hf _ _ _ hW hS (lv_sub hl [0, 1, 3] rfl)
      · rw [if_pos c3] at hf
        refine zr_iconst C zd_W_inState_23 ?_
        refine lv_goto (tgt := 28) C.1 C.2.1 zd_W_inState_24 (by decide) ?_
        exact zw_W_inState_28 C hr hlk hK hSt hap r0 hr0 (zf_W_inState_4 r0 n) (ih) (x1) (x3) (x2) (1) S nx1 nx3 nx2 (znb rfl) hf _ _ _ hW hS (lv_sub hl [0, 1, 3] rfl)

def zf_W_inState (r0 : Int) (x1 : Int) (S : Sg) : Option (Int × Sg) :=
    zf_W_inState_4 r0 4096 (x1) (0) (0) S
set_option maxHeartbeats 4000000 in
set_option maxRecDepth 100000 in
theorem zw_W_inState {p : Program} {l : Launch} {e : Env} {s : State} {m : MethodId} {args : Array Value} {below : List Frame} {meth : Method} {c : Code} {B : zB} (C : CallFix p m c zb_W_inState 4 s args zT "IslandOfficeModel$World") (hr : meth.sig.returnType = some .int) (hlk : meth.locks = false) (hK : zK B s) (hSt : zSt B s) (hap : zAp B) (r0 : Int) (hr0 : 0 ≤ r0 ∧ r0 < 3) {res : Int} {S9 : Sg} : ∀ (x1 : Int) (S : Sg) (nx1 : zn x1), zf_W_inState r0 x1 S = some (res, S9) → ∀ (H : Heap) (locs : List Loc) (ls : Array Slot), zW B S H → va_S B.2.2.2 s.heap H locs → lv_has ls 4 [(0, .ref (B.2.1 5 (r0) (0))), (1, .int (zI (x1)))] → W p l e zm_W_inState s m args below meth c H locs 0 0 (MQ below (zQi B res S9) args s 0 0 B.2.2.2) (F0 m 0 ls []) := by
  intro x1 S nx1 hf H locs ls hW hS hl
  unfold zf_W_inState at hf
  refine zr_iconst C zd_W_inState_0 ?_
  refine lv_istore_n (lv' := [(2, .int (zI (0))), (0, .ref (B.2.1 5 (r0) (0))), (1, .int (zI (x1)))]) C.1 C.2.1 zd_W_inState_1 rfl hl (by decide) rfl (fun ls hl => ?_)
  refine zr_iconst C zd_W_inState_2 ?_
  refine lv_istore_n (lv' := [(3, .int (zI (0))), (2, .int (zI (0))), (0, .ref (B.2.1 5 (r0) (0))), (1, .int (zI (x1)))]) C.1 C.2.1 zd_W_inState_3 rfl hl (by decide) rfl (fun ls hl => ?_)
  exact zw_W_inState_4 C hr hlk hK hSt hap r0 hr0 4096 (x1) (0) (0) S nx1 (znb rfl) (znb rfl) hf _ _ _ hW hS (lv_sub hl [2, 3, 1, 0] rfl)

theorem zc_W_inState {l : Launch} {B : zB} (hap : zAp B) (r0 : Int) (hr0 : 0 ≤ r0 ∧ r0 < 3) (x1 : Int) (S : Sg) (nx1 : zn x1) {res : Int} {S9 : Sg} (hf : zf_W_inState r0 x1 S = some (res, S9)) : Met l zy_W_inState (Cond.code zy_W_inState zb_W_inState 4 (some .int) :: zT) zm_W_inState (zP B S [.ref (B.2.1 5 (r0) (0)), .int (zI (x1))]) (zQi B res S9) 0 0 B.2.2.2 :=
  zmet (by decide) (Nat.le_of_ble_eq_true rfl) (fun p e s m args below meth c C hr hlk hK hSt hW ls hl => zw_W_inState C hr hlk hK hSt hap r0 hr0 x1 S nx1 hf _ _ _ hW va_S.rf hl)
