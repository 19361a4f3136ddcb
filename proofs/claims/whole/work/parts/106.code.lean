/-! IslandOfficeModel.text()Z -/
abbrev zy_M_text : MethodName := ⟨"IslandOfficeModel", "text", "()Z"⟩
abbrev zb_M_text : ByteArray := prog_14_method_29_code
abbrev zm_M_text : Room := { frames := 391, cells := 0, slots := 0, locals := 7822 }
theorem zq_M_text : zMy zy_M_text zb_M_text 2 (some .boolean) 0 := ⟨zk_1659, zk_1658, zs_47, zk_14, by decide, by decide, by decide +kernel⟩
theorem zd_M_text_0 : decode zb_M_text 0 = .ok (.aload_n 0, 1) := by decide +kernel
theorem zd_M_text_1 : decode zb_M_text 1 = .ok (.invokevirtual 141, 3) := by decide +kernel
theorem zd_M_text_4 : decode zb_M_text 4 = .ok (.istore_n 1, 1) := by decide +kernel
theorem zd_M_text_5 : decode zb_M_text 5 = .ok (.iload_n 1, 1) := by decide +kernel
theorem zd_M_text_6 : decode zb_M_text 6 = .ok (.bipush 118, 2) := by decide +kernel
theorem zd_M_text_8 : decode zb_M_text 8 = .ok (.if_icmp .eq 26, 3) := by decide +kernel
theorem zd_M_text_11 : decode zb_M_text 11 = .ok (.iload_n 1, 1) := by decide +kernel
theorem zd_M_text_12 : decode zb_M_text 12 = .ok (.bipush 112, 2) := by decide +kernel
theorem zd_M_text_14 : decode zb_M_text 14 = .ok (.if_icmp .eq 20, 3) := by decide +kernel
theorem zd_M_text_17 : decode zb_M_text 17 = .ok (.iload_n 1, 1) := by decide +kernel
theorem zd_M_text_18 : decode zb_M_text 18 = .ok (.bipush 101, 2) := by decide +kernel
theorem zd_M_text_20 : decode zb_M_text 20 = .ok (.if_icmp .eq 14, 3) := by decide +kernel
theorem zd_M_text_23 : decode zb_M_text 23 = .ok (.iload_n 1, 1) := by decide +kernel
theorem zd_M_text_24 : decode zb_M_text 24 = .ok (.bipush 108, 2) := by decide +kernel
theorem zd_M_text_26 : decode zb_M_text 26 = .ok (.if_icmp .eq 8, 3) := by decide +kernel
theorem zd_M_text_29 : decode zb_M_text 29 = .ok (.aload_n 0, 1) := by decide +kernel
theorem zd_M_text_30 : decode zb_M_text 30 = .ok (.invokevirtual 148, 3) := by decide +kernel
theorem zd_M_text_33 : decode zb_M_text 33 = .ok (.ireturn, 1) := by decide +kernel
theorem zd_M_text_34 : decode zb_M_text 34 = .ok (.aload_n 0, 1) := by decide +kernel
theorem zd_M_text_35 : decode zb_M_text 35 = .ok (.dup, 1) := by decide +kernel
theorem zd_M_text_36 : decode zb_M_text 36 = .ok (.getfield 129, 3) := by decide +kernel
theorem zd_M_text_39 : decode zb_M_text 39 = .ok (.iconst 1, 1) := by decide +kernel
theorem zd_M_text_40 : decode zb_M_text 40 = .ok (.iadd, 1) := by decide +kernel
theorem zd_M_text_41 : decode zb_M_text 41 = .ok (.putfield 129, 3) := by decide +kernel
theorem zd_M_text_44 : decode zb_M_text 44 = .ok (.aload_n 0, 1) := by decide +kernel
theorem zd_M_text_45 : decode zb_M_text 45 = .ok (.invokevirtual 141, 3) := by decide +kernel
theorem zd_M_text_48 : decode zb_M_text 48 = .ok (.bipush 58, 2) := by decide +kernel
theorem zd_M_text_50 : decode zb_M_text 50 = .ok (.if_icmp .eq 8, 3) := by decide +kernel
theorem zd_M_text_53 : decode zb_M_text 53 = .ok (.aload_n 0, 1) := by decide +kernel
theorem zd_M_text_54 : decode zb_M_text 54 = .ok (.invokevirtual 148, 3) := by decide +kernel
theorem zd_M_text_57 : decode zb_M_text 57 = .ok (.ireturn, 1) := by decide +kernel
theorem zd_M_text_58 : decode zb_M_text 58 = .ok (.aload_n 0, 1) := by decide +kernel
theorem zd_M_text_59 : decode zb_M_text 59 = .ok (.dup, 1) := by decide +kernel
theorem zd_M_text_60 : decode zb_M_text 60 = .ok (.getfield 129, 3) := by decide +kernel
theorem zd_M_text_63 : decode zb_M_text 63 = .ok (.iconst 1, 1) := by decide +kernel
theorem zd_M_text_64 : decode zb_M_text 64 = .ok (.iadd, 1) := by decide +kernel
theorem zd_M_text_65 : decode zb_M_text 65 = .ok (.putfield 129, 3) := by decide +kernel
theorem zd_M_text_68 : decode zb_M_text 68 = .ok (.aload_n 0, 1) := by decide +kernel
theorem zd_M_text_69 : decode zb_M_text 69 = .ok (.invokevirtual 160, 3) := by decide +kernel
theorem zd_M_text_72 : decode zb_M_text 72 = .ok (.ifCond .eq 25, 3) := by decide +kernel
theorem zd_M_text_75 : decode zb_M_text 75 = .ok (.aload_n 0, 1) := by decide +kernel
theorem zd_M_text_76 : decode zb_M_text 76 = .ok (.getfield 129, 3) := by decide +kernel
theorem zd_M_text_79 : decode zb_M_text 79 = .ok (.aload_n 0, 1) := by decide +kernel
theorem zd_M_text_80 : decode zb_M_text 80 = .ok (.getfield 132, 3) := by decide +kernel
theorem zd_M_text_83 : decode zb_M_text 83 = .ok (.if_icmp .eq 10, 3) := by decide +kernel
theorem zd_M_text_86 : decode zb_M_text 86 = .ok (.aload_n 0, 1) := by decide +kernel
theorem zd_M_text_87 : decode zb_M_text 87 = .ok (.invokevirtual 148, 3) := by decide +kernel
theorem zd_M_text_90 : decode zb_M_text 90 = .ok (.ifCond .eq 7, 3) := by decide +kernel
theorem zd_M_text_93 : decode zb_M_text 93 = .ok (.iconst 1, 1) := by decide +kernel
theorem zd_M_text_94 : decode zb_M_text 94 = .ok (.goto 4, 3) := by decide +kernel
theorem zd_M_text_97 : decode zb_M_text 97 = .ok (.iconst 0, 1) := by decide +kernel
theorem zd_M_text_98 : decode zb_M_text 98 = .ok (.ireturn, 1) := by decide +kernel

def zf_M_text_93 (S : Sg) : Option (Int × Sg) :=
    some (1, S)
set_option maxHeartbeats 4000000 in
set_option maxRecDepth 100000 in
theorem zw_M_text_93 {p : Program} {l : Launch} {e : Env} {s : State} {m : MethodId} {args : Array Value} {below : List Frame} {meth : Method} {c : Code} {B : zB} (C : CallFix p m c zb_M_text 2 s args zT "IslandOfficeModel") (hr : meth.sig.returnType = some .boolean) (hlk : meth.locks = false) (hK : zK B s) (hSt : zSt B s) (hap : zAp B) {res : Int} {S9 : Sg} : ∀  (S : Sg) , zf_M_text_93  S = some (res, S9) → ∀ (H : Heap) (locs : List Loc) (ls : Array Slot), zW B S H → va_S B.2.2.2 s.heap H locs → lv_has ls 2 [] → W p l e zm_M_text s m args below meth c H locs 0 0 (MQ below (zQi B res S9) args s 0 0 B.2.2.2) (F0 m 93 ls []) := by
  intro S hf H locs ls hW hS hl
  unfold zf_M_text_93 at hf
  refine zr_iconst C zd_M_text_93 ?_
  refine lv_goto (tgt := 98) C.1 C.2.1 zd_M_text_94 (by decide) ?_
  cases hf
  exact zre_z C hr hlk hK hW hS (znb rfl) (zb01 (by decide)) zd_M_text_98

def zf_M_text_34 (S : Sg) : Option (Int × Sg) :=
    zlt (zu S 9 0 0 12 (zw ((S 9 0 0 12) + 1))) fun S1 => zbd (zf_M_here  S1) fun a2 S3 => if a2 = 58 then (zlt (zu S3 9 0 0 12 (zw ((S3 9 0 0 12) + 1))) fun S5 => zbd (zf_M_expr  S5) fun a6 S7 => if a6 = 0 then (some (0, S7)) else (if (S7 9 0 0 12) = (S7 9 0 0 11) then (zf_M_text_93  S7) else (zbd (zf_M_wrong  S7) fun a10 S11 => if a10 = 0 then (some (0, S11)) else (zf_M_text_93  S11)))) else (zbd (zf_M_wrong  S3) fun a13 S14 => zck (a13 = 0 ∨ a13 = 1) <| some (a13, S14))
set_option maxHeartbeats 4000000 in
set_option maxRecDepth 100000 in
theorem zw_M_text_34 {p : Program} {l : Launch} {e : Env} {s : State} {m : MethodId} {args : Array Value} {below : List Frame} {meth : Method} {c : Code} {B : zB} (C : CallFix p m c zb_M_text 2 s args zT "IslandOfficeModel") (hr : meth.sig.returnType = some .boolean) (hlk : meth.locks = false) (hK : zK B s) (hSt : zSt B s) (hap : zAp B) {res : Int} {S9 : Sg} : ∀  (S : Sg) , zf_M_text_34  S = some (res, S9) → ∀ (H : Heap) (locs : List Loc) (ls : Array Slot), zW B S H → va_S B.2.2.2 s.heap H locs → lv_has ls 2 [(0, .ref (B.2.1 9 (0) (0)))] → W p l e zm_M_text s m args below meth c H locs 0 0 (MQ below (zQi B res S9) args s 0 0 B.2.2.2) (F0 m 34 ls []) := by
  intro S hf H locs ls hW hS hl
  unfold zf_M_text_34 at hf
  refine lv_aload_n C.1 C.2.1 zd_M_text_34 rfl (lv_at hl 0 rfl) ?_
  refine lv_dup C.1 C.2.1 zd_M_text_35 rfl ?_
  refine zg_M_at (r := 0) C hK hW (zvd_9 (by decide) (by decide)) zk_1512 zd_M_text_36 ?_
  refine zr_iconst C zd_M_text_39 ?_
  refine zr_iadd C zd_M_text_40 ?_
  obtain ⟨S1, eS1, hf⟩ := zlt_some hf
  refine zp_M_at (r := 0) C hK hap hW hS (zvd_9 (by decide) (by decide)) zk_1512 (zn_w _) zd_M_text_41 (fun H locs hW hS => ?_)
  rw [eS1] at hW
  refine lv_aload_n C.1 C.2.1 zd_M_text_44 rfl (lv_at hl 0 rfl) ?_
  obtain ⟨a2, S3, ea2, hf⟩ := zbd_some hf
  refine zcVi (As := []) (rest := []) C hK hSt hW hS (zc_M_here hap S1 ea2) zq_M_here zk_1660 (zrecv hK hW (zvd_9 (by decide) (by decide)) (ze_9_0 B _ (0)) rfl) ⟨rfl, rfl, by decide, by decide⟩ ⟨Nat.zero_le _, Nat.zero_le _⟩ rfl hl.1 rfl (lv_room (Nat.le_of_ble_eq_true rfl)) zd_M_text_45 (fun na2 H locs hW hS => ?_)
  refine zr_bipush C zd_M_text_48 (by decide) ?_
  refine zr_icmp_eq (tgt := 58) C na2 (znb rfl) zd_M_text_50 (by decide) (fun c4 => ?_) (fun c4 => ?_)
  · rw [if_pos c4] at hf
    refine lv_aload_n C.1 C.2.1 zd_M_text_58 rfl (lv_at hl 0 rfl) ?_
    refine lv_dup C.1 C.2.1 zd_M_text_59 rfl ?_
    refine zg_M_at (r := 0) C hK hW (zvd_9 (by decide) (by decide)) zk_1512 zd_M_text_60 ?_
    refine zr_iconst C zd_M_text_63 ?_
    refine zr_iadd C zd_M_text_64 ?_
    obtain ⟨S5, eS5, hf⟩ := zlt_some hf
    refine zp_M_at (r := 0) C hK hap hW hS (zvd_9 (by decide) (by decide)) zk_1512 (zn_w _) zd_M_text_65 (fun H locs hW hS => ?_)
    rw [eS5] at hW
    refine lv_aload_n C.1 C.2.1 zd_M_text_68 rfl (lv_at hl 0 rfl) ?_
    obtain ⟨a6, S7, ea6, hf⟩ := zbd_some hf
    refine zcVi (As := []) (rest := []) C hK hSt hW hS (zc_M_expr hap S5 ea6) zq_M_expr zk_1668 (zrecv hK hW (zvd_9 (by decide) (by decide)) (ze_9_0 B _ (0)) rfl) ⟨rfl, rfl, by decide, by decide⟩ ⟨Nat.zero_le _, Nat.zero_le _⟩ rfl hl.1 rfl (lv_room (Nat.le_of_ble_eq_true rfl)) zd_M_text_69 (fun na6 H locs hW hS => ?_)
    refine zr_if_eq (tgt := 97) C na6 zd_M_text_72 (by decide) (fun c8 => ?_) (fun c8 => ?_)
    · rw [if_pos c8] at hf
      refine zr_iconst C zd_M_text_97 ?_
      cases hf
      exact zre_z C hr hlk hK hW hS (znb rfl) (zb01 (by decide)) zd_M_text_98
    · rw [if_neg c8] at hf
      refine lv_aload_n C.1 C.2.1 zd_M_text_75 rfl (lv_at hl 0 rfl) ?_
      refine zg_M_at (r := 0) C hK hW (zvd_9 (by decide) (by decide)) zk_1512 zd_M_text_76 ?_
      refine lv_aload_n C.1 C.2.1 zd_M_text_79 rfl (lv_at hl 0 rfl) ?_
      refine zg_M_size (r := 0) C hK hW (zvd_9 (by decide) (by decide)) zk_1511 zd_M_text_80 ?_
      refine zr_icmp_eq (tgt := 93) C (zWn hW _ _ _ _ rfl) (zWn hW _ _ _ _ rfl) zd_M_text_83 (by decide) (fun c9 => ?_) (fun c9 => ?_)
      · rw [if_pos c9] at hf
        exact zw_M_text_93 C hr hlk hK hSt hap    S7  hf _ _ _ hW hS (lv_sub hl [] rfl)
      · rw [if_neg c9] at hf
        refine lv_aload_n C.1 C.2.1 zd_M_text_86 rfl (lv_at hl 0 rfl) ?_
        obtain ⟨a10, S11, ea10, hf⟩ := zbd_some hf
        refine zcVi (As := []) (rest := []) C hK hSt hW hS (zc_M_wrong hap S7 ea10) zq_M_wrong zk_1664 (zrecv hK hW (zvd_9 (by decide) (by decide)) (ze_9_0 B _ (0)) rfl) ⟨rfl, rfl, by decide, by decide⟩ ⟨Nat.zero_le _, Nat.zero_le _⟩ rfl hl.1 rfl (lv_room (Nat.le_of_ble_eq_true rfl)) zd_M_text_87 (fun na10 H locs hW hS => ?_)
        refine zr_if_eq (tgt := 97) C na10 zd_M_text_90 (by decide) (fun c12 => ?_) (fun c12 => ?_)
        · rw [if_pos c12] at hf
          refine zr_iconst C zd_M_text_97 ?_
          cases hf
          exact zre_z C hr hlk hK hW hS (znb rfl) (zb01 (by decide)) zd_M_text_98
        · rw [if_neg c12] at hf
          exact zw_M_text_93 C hr hlk hK hSt hap    S11  hf _ _ _ hW hS (lv_sub hl [] rfl)
  · rw [if_neg c4] at hf
    refine lv_aload_n C.1 C.2.1 zd_M_text_53 rfl (lv_at hl 0 rfl) ?_
    obtain ⟨a13, S14, ea13, hf⟩ := zbd_some hf
    refine zcVi (As := []) (rest := []) C hK hSt hW hS (zc_M_wrong hap S3 ea13) zq_M_wrong zk_1664 (zrecv hK hW (zvd_9 (by decide) (by decide)) (ze_9_0 B _ (0)) rfl) ⟨rfl, rfl, by decide, by decide⟩ ⟨Nat.zero_le _, Nat.zero_le _⟩ rfl hl.1 rfl (lv_room (Nat.le_of_ble_eq_true rfl)) zd_M_text_54 (fun na13 H locs hW hS => ?_)
    obtain ⟨h15, hf⟩ := zck_some hf
    cases hf
    exact zre_z C hr hlk hK hW hS na13 (zb01 h15) zd_M_text_57

def zf_M_text (S : Sg) : Option (Int × Sg) :=
    zbd (zf_M_here  S) fun a1 S2 => if a1 = 118 then (zf_M_text_34  S2) else (if a1 = 112 then (zf_M_text_34  S2) else (if a1 = 101 then (zf_M_text_34  S2) else (if a1 = 108 then (zf_M_text_34  S2) else (zbd (zf_M_wrong  S2) fun a7 S8 => zck (a7 = 0 ∨ a7 = 1) <| some (a7, S8)))))
set_option maxHeartbeats 4000000 in
set_option maxRecDepth 100000 in
theorem zw_M_text {p : Program} {l : Launch} {e : Env} {s : State} {m : MethodId} {args : Array Value} {below : List Frame} {meth : Method} {c : Code} {B : zB} (C : CallFix p m c zb_M_text 2 s args zT "IslandOfficeModel") (hr : meth.sig.returnType = some .boolean) (hlk : meth.locks = false) (hK : zK B s) (hSt : zSt B s) (hap : zAp B) {res : Int} {S9 : Sg} : ∀  (S : Sg) , zf_M_text  S = some (res, S9) → ∀ (H : Heap) (locs : List Loc) (ls : Array Slot), zW B S H → va_S B.2.2.2 s.heap H locs → lv_has ls 2 [(0, .ref (B.2.1 9 (0) (0)))] → W p l e zm_M_text s m args below meth c H locs 0 0 (MQ below (zQi B res S9) args s 0 0 B.2.2.2) (F0 m 0 ls []) := by
  intro S hf H locs ls hW hS hl
  unfold zf_M_text at hf
  refine lv_aload_n C.1 C.2.1 zd_M_text_0 rfl (lv_at hl 0 rfl) ?_
  obtain ⟨a1, S2, ea1, hf⟩ := zbd_some hf
  refine zcVi (As := []) (rest := []) C hK hSt hW hS (zc_M_here hap S ea1) zq_M_here zk_1660 (zrecv hK hW (zvd_9 (by decide) (by decide)) (ze_9_0 B _ (0)) rfl) ⟨rfl, rfl, by decide, by decide⟩ ⟨Nat.zero_le _, Nat.zero_le _⟩ rfl hl.1 rfl (lv_room (Nat.le_of_ble_eq_true rfl)) zd_M_text_1 (fun na1 H locs hW hS => ?_)
  refine lv_istore_n (lv' := [(1, .int (zI (a1))), (0, .ref (B.2.1 9 (0) (0)))]) C.1 C.2.1 zd_M_text_4 rfl hl (by decide) rfl (fun ls hl => ?_)
  refine lv_iload_n C.1 C.2.1 zd_M_text_5 rfl (lv_at hl 0 rfl) ?_
  refine zr_bipush C zd_M_text_6 (by decide) ?_
  refine zr_icmp_eq (tgt := 34) C na1 (znb rfl) zd_M_text_8 (by decide) (fun c3 => ?_) (fun c3 => ?_)
  · rw [if_pos c3] at hf
    exact zw_M_text_34 C hr hlk hK hSt hap    S2  hf _ _ _ hW hS (lv_sub hl [1] rfl)
  · rw [if_neg c3] at hf
    refine lv_iload_n C.1 C.2.1 zd_M_text_11 rfl (lv_at hl 0 rfl) ?_
    refine zr_bipush C zd_M_text_12 (by decide) ?_
    refine zr_icmp_eq (tgt := 34) C na1 (znb rfl) zd_M_text_14 (by decide) (fun c4 => ?_) (fun c4 => ?_)
    · rw [if_pos c4] at hf
      exact zw_M_text_34 C hr hlk hK hSt hap    S2  hf _ _ _ hW hS (lv_sub hl [1] rfl)
    · rw [if_neg c4] at hf
      refine lv_iload_n C.1 C.2.1 zd_M_text_17 rfl (lv_at hl 0 rfl) ?_
      refine zr_bipush C zd_M_text_18 (by decide) ?_
      refine zr_icmp_eq (tgt := 34) C na1 (znb rfl) zd_M_text_20 (by decide) (fun c5 => ?_) (fun c5 => ?_)
      · rw [if_pos c5] at hf
        exact zw_M_text_34 C hr hlk hK hSt hap    S2  hf _ _ _ hW hS (lv_sub hl [1] rfl)
      · rw [if_neg c5] at hf
        refine lv_iload_n C.1 C.2.1 zd_M_text_23 rfl (lv_at hl 0 rfl) ?_
        refine zr_bipush C zd_M_text_24 (by decide) ?_
        refine zr_icmp_eq (tgt := 34) C na1 (znb rfl) zd_M_text_26 (by decide) (fun c6 => ?_) (fun c6 => ?_)
        · rw [if_pos c6] at hf
          exact zw_M_text_34 C hr hlk hK hSt hap    S2  hf _ _ _ hW hS (lv_sub hl [1] rfl)
        · rw [if_neg c6] at hf
          refine lv_aload_n C.1 C.2.1 zd_M_text_29 rfl (lv_at hl 1 rfl) ?_
          obtain ⟨a7, S8, ea7, hf⟩ := zbd_some hf
          refine zcVi (As := []) (rest := []) C hK hSt hW hS (zc_M_wrong hap S2 ea7) zq_M_wrong zk_1664 (zrecv hK hW (zvd_9 (by decide) (by decide)) (ze_9_0 B _ (0)) rfl) ⟨rfl, rfl, by decide, by decide⟩ ⟨Nat.zero_le _, Nat.zero_le _⟩ rfl hl.1 rfl (lv_room (Nat.le_of_ble_eq_true rfl)) zd_M_text_30 (fun na7 H locs hW hS => ?_)
          obtain ⟨h9, hf⟩ := zck_some hf
          cases hf
          exact zre_z C hr hlk hK hW hS na7 (zb01 h9) zd_M_text_33

theorem zc_M_text {l : Launch} {B : zB} (hap : zAp B) (S : Sg) {res : Int} {S9 : Sg} (hf : zf_M_text  S = some (res, S9)) : Met l zy_M_text (Cond.code zy_M_text zb_M_text 2 (some .boolean) :: zT) zm_M_text (zP B S [.ref (B.2.1 9 (0) (0))]) (zQi B res S9) 0 0 B.2.2.2 :=
  zmet (by decide) (Nat.le_of_ble_eq_true rfl) (fun p e s m args below meth c C hr hlk hK hSt hW ls hl => zw_M_text C hr hlk hK hSt hap    S  hf _ _ _ hW va_S.rf hl)
/-! IslandOfficeModel.faultOf(I)I -/
abbrev zy_M_faultOf : MethodName := ⟨"IslandOfficeModel", "faultOf", "(I)I"⟩
abbrev zb_M_faultOf : ByteArray := prog_14_method_30_code
abbrev zm_M_faultOf : Room := { frames := 392, cells := 0, slots := 0, locals := 7843 }
theorem zq_M_faultOf : zMy zy_M_faultOf zb_M_faultOf 2 (some .int) 1 := ⟨zk_1655, zk_1654, zs_46, zk_14, by decide, by decide, by decide +kernel⟩
theorem zd_M_faultOf_0 : decode zb_M_faultOf 0 = .ok (.aload_n 0, 1) := by decide +kernel
theorem zd_M_faultOf_1 : decode zb_M_faultOf 1 = .ok (.aload_n 0, 1) := by decide +kernel
theorem zd_M_faultOf_2 : decode zb_M_faultOf 2 = .ok (.getfield 34, 3) := by decide +kernel
theorem zd_M_faultOf_5 : decode zb_M_faultOf 5 = .ok (.iload_n 1, 1) := by decide +kernel
theorem zd_M_faultOf_6 : decode zb_M_faultOf 6 = .ok (.aaload, 1) := by decide +kernel
theorem zd_M_faultOf_7 : decode zb_M_faultOf 7 = .ok (.putfield 135, 3) := by decide +kernel
theorem zd_M_faultOf_10 : decode zb_M_faultOf 10 = .ok (.aload_n 0, 1) := by decide +kernel
theorem zd_M_faultOf_11 : decode zb_M_faultOf 11 = .ok (.aload_n 0, 1) := by decide +kernel
theorem zd_M_faultOf_12 : decode zb_M_faultOf 12 = .ok (.getfield 29, 3) := by decide +kernel
theorem zd_M_faultOf_15 : decode zb_M_faultOf 15 = .ok (.iload_n 1, 1) := by decide +kernel
theorem zd_M_faultOf_16 : decode zb_M_faultOf 16 = .ok (.iaload, 1) := by decide +kernel
theorem zd_M_faultOf_17 : decode zb_M_faultOf 17 = .ok (.putfield 132, 3) := by decide +kernel
theorem zd_M_faultOf_20 : decode zb_M_faultOf 20 = .ok (.aload_n 0, 1) := by decide +kernel
theorem zd_M_faultOf_21 : decode zb_M_faultOf 21 = .ok (.iconst 0, 1) := by decide +kernel
theorem zd_M_faultOf_22 : decode zb_M_faultOf 22 = .ok (.putfield 129, 3) := by decide +kernel
theorem zd_M_faultOf_25 : decode zb_M_faultOf 25 = .ok (.aload_n 0, 1) := by decide +kernel
theorem zd_M_faultOf_26 : decode zb_M_faultOf 26 = .ok (.iconst 0, 1) := by decide +kernel
theorem zd_M_faultOf_27 : decode zb_M_faultOf 27 = .ok (.putfield 157, 3) := by decide +kernel
theorem zd_M_faultOf_30 : decode zb_M_faultOf 30 = .ok (.aload_n 0, 1) := by decide +kernel
theorem zd_M_faultOf_31 : decode zb_M_faultOf 31 = .ok (.invokevirtual 169, 3) := by decide +kernel
theorem zd_M_faultOf_34 : decode zb_M_faultOf 34 = .ok (.ifCond .eq 8, 3) := by decide +kernel
theorem zd_M_faultOf_37 : decode zb_M_faultOf 37 = .ok (.bipush (-2), 2) := by decide +kernel
theorem zd_M_faultOf_39 : decode zb_M_faultOf 39 = .ok (.goto 7, 3) := by decide +kernel
theorem zd_M_faultOf_42 : decode zb_M_faultOf 42 = .ok (.aload_n 0, 1) := by decide +kernel
theorem zd_M_faultOf_43 : decode zb_M_faultOf 43 = .ok (.getfield 138, 3) := by decide +kernel
theorem zd_M_faultOf_46 : decode zb_M_faultOf 46 = .ok (.ireturn, 1) := by decide +kernel

def zf_M_faultOf (x1 : Int) (S : Sg) : Option (Int × Sg) :=
    zck (0 ≤ x1 ∧ x1 < 8) <| zlt (zu S 9 0 0 10 (x1 + 1)) fun S2 => zlt (zu S2 9 0 0 11 (S2 9 0 3 x1)) fun S3 => zlt (zu S3 9 0 0 12 0) fun S4 => zlt (zu S4 9 0 0 13 0) fun S5 => zbd (zf_M_text  S5) fun a6 S7 => if a6 = 0 then (some (S7 9 0 0 14, S7)) else (some (-2, S7))
set_option maxHeartbeats 4000000 in
set_option maxRecDepth 100000 in
theorem zw_M_faultOf {p : Program} {l : Launch} {e : Env} {s : State} {m : MethodId} {args : Array Value} {below : List Frame} {meth : Method} {c : Code} {B : zB} (C : CallFix p m c zb_M_faultOf 2 s args zT "IslandOfficeModel") (hr : meth.sig.returnType = some .int) (hlk : meth.locks = false) (hK : zK B s) (hSt : zSt B s) (hap : zAp B) {res : Int} {S9 : Sg} : ∀ (x1 : Int) (S : Sg) (nx1 : zn x1), zf_M_faultOf x1 S = some (res, S9) → ∀ (H : Heap) (locs : List Loc) (ls : Array Slot), zW B S H → va_S B.2.2.2 s.heap H locs → lv_has ls 2 [(0, .ref (B.2.1 9 (0) (0))), (1, .int (zI (x1)))] → W p l e zm_M_faultOf s m args below meth c H locs 0 0 (MQ below (zQi B res S9) args s 0 0 B.2.2.2) (F0 m 0 ls []) := by
  intro x1 S nx1 hf H locs ls hW hS hl
  unfold zf_M_faultOf at hf
  refine lv_aload_n C.1 C.2.1 zd_M_faultOf_0 rfl (lv_at hl 0 rfl) ?_
  refine lv_aload_n C.1 C.2.1 zd_M_faultOf_1 rfl (lv_at hl 0 rfl) ?_
  refine zg_M_rows (r := 0) C hK hW (zvd_9 (by decide) (by decide)) zk_1508 zd_M_faultOf_2 ?_
  refine lv_iload_n C.1 C.2.1 zd_M_faultOf_5 rfl (lv_at hl 1 rfl) ?_
  obtain ⟨h1, hf⟩ := zck_some hf
  refine zaald (t0 := 4) C hK hW (zvd_9 (by decide) (by decide)) (fun f => ze_9_4 B f (0)) rfl rfl (by decide) h1 zd_M_faultOf_6 (a := B.2.1 10 (x1) (0)) (by rw [Int.toNat_of_nonneg h1.1]) ?_
  obtain ⟨S2, eS2, hf⟩ := zlt_some hf
  refine zp_M_letters (r := 0) C hK hap hW hS (zvd_9 (by decide) (by decide)) zk_1510 h1 zd_M_faultOf_7 (fun H locs hW hS => ?_)
  rw [eS2] at hW
  refine lv_aload_n C.1 C.2.1 zd_M_faultOf_10 rfl (lv_at hl 0 rfl) ?_
  refine lv_aload_n C.1 C.2.1 zd_M_faultOf_11 rfl (lv_at hl 0 rfl) ?_
  refine zg_M_rowSize (r := 0) C hK hW (zvd_9 (by decide) (by decide)) zk_1507 zd_M_faultOf_12 ?_
  refine lv_iload_n C.1 C.2.1 zd_M_faultOf_15 rfl (lv_at hl 1 rfl) ?_
  refine ziald C hK hW (zvd_9 (by decide) (by decide)) (fun f => ze_9_3 B f (0)) (by decide) h1 zd_M_faultOf_16 ?_
  obtain ⟨S3, eS3, hf⟩ := zlt_some hf
  refine zp_M_size (r := 0) C hK hap hW hS (zvd_9 (by decide) (by decide)) zk_1511 (zWn hW _ _ _ _ rfl) zd_M_faultOf_17 (fun H locs hW hS => ?_)
  rw [eS3] at hW
  refine lv_aload_n C.1 C.2.1 zd_M_faultOf_20 rfl (lv_at hl 0 rfl) ?_
  refine zr_iconst C zd_M_faultOf_21 ?_
  obtain ⟨S4, eS4, hf⟩ := zlt_some hf
  refine zp_M_at (r := 0) C hK hap hW hS (zvd_9 (by decide) (by decide)) zk_1512 (znb rfl) zd_M_faultOf_22 (fun H locs hW hS => ?_)
  rw [eS4] at hW
  refine lv_aload_n C.1 C.2.1 zd_M_faultOf_25 rfl (lv_at hl 0 rfl) ?_
  refine zr_iconst C zd_M_faultOf_26 ?_
  obtain ⟨S5, eS5, hf⟩ := zlt_some hf
  refine zp_M_deep (r := 0) C hK hap hW hS (zvd_9 (by decide) (by decide)) zk_1513 (znb rfl) zd_M_faultOf_27 (fun H locs hW hS => ?_)
  rw [eS5] at hW
  refine lv_aload_n C.1 C.2.1 zd_M_faultOf_30 rfl (lv_at hl 0 rfl) ?_
  obtain ⟨a6, S7, ea6, hf⟩ := zbd_some hf
  refine zcVi (As := []) (rest := []) C hK hSt hW hS (zc_M_text hap S5 ea6) zq_M_text zk_1656 (zrecv hK hW (zvd_9 (by decide) (by decide)) (ze_9_0 B _ (0)) rfl) ⟨rfl, rfl, by decide, by decide⟩ ⟨Nat.zero_le _, Nat.zero_le _⟩ rfl hl.1 rfl (lv_room (Nat.le_of_ble_eq_true rfl)) zd_M_faultOf_31 (fun na6 H locs hW hS => ?_)
  refine zr_if_eq (tgt := 42) C na6 zd_M_faultOf_34 (by decide) (fun c8 => ?_) (fun c8 => ?_)
  · rw [if_pos c8] at hf
    refine lv_aload_n C.1 C.2.1 zd_M_faultOf_42 rfl (lv_at hl 0 rfl) ?_
    refine zg_M_fault (r := 0) C hK hW (zvd_9 (by decide) (by decide)) zk_1514 zd_M_faultOf_43 ?_
    cases hf
    exact zre_i C hr hlk hK hW hS (zWn hW _ _ _ _ rfl) zd_M_faultOf_46
  · rw [if_neg c8] at hf
    refine zr_bipush C zd_M_faultOf_37 (by decide) ?_
    refine lv_goto (tgt := 46) C.1 C.2.1 zd_M_faultOf_39 (by decide) ?_
    cases hf
    exact zre_i C hr hlk hK hW hS (znb rfl) zd_M_faultOf_46

theorem zc_M_faultOf {l : Launch} {B : zB} (hap : zAp B) (x1 : Int) (S : Sg) (nx1 : zn x1) {res : Int} {S9 : Sg} (hf : zf_M_faultOf x1 S = some (res, S9)) : Met l zy_M_faultOf (Cond.code zy_M_faultOf zb_M_faultOf 2 (some .int) :: zT) zm_M_faultOf (zP B S [.ref (B.2.1 9 (0) (0)), .int (zI (x1))]) (zQi B res S9) 0 0 B.2.2.2 :=
  zmet (by decide) (Nat.le_of_ble_eq_true rfl) (fun p e s m args below meth c C hr hlk hK hSt hW ls hl => zw_M_faultOf C hr hlk hK hSt hap   x1 S nx1 hf _ _ _ hW va_S.rf hl)
/-! IslandOfficeModel.isShelf(I)Z -/
abbrev zy_M_isShelf : MethodName := ⟨"IslandOfficeModel", "isShelf", "(I)Z"⟩
abbrev zb_M_isShelf : ByteArray := prog_14_method_8_code
abbrev zm_M_isShelf : Room := { frames := 1, cells := 0, slots := 0, locals := 22 }
theorem zq_M_isShelf : zMs zy_M_isShelf zb_M_isShelf 1 (some .boolean) 1 := ⟨zk_1647, zk_1646, zk_14, by decide, by decide, by decide +kernel⟩
theorem zd_M_isShelf_0 : decode zb_M_isShelf 0 = .ok (.iload_n 0, 1) := by decide +kernel
theorem zd_M_isShelf_1 : decode zb_M_isShelf 1 = .ok (.iconst 0, 1) := by decide +kernel
theorem zd_M_isShelf_2 : decode zb_M_isShelf 2 = .ok (.bipush 7, 2) := by decide +kernel
theorem zd_M_isShelf_4 : decode zb_M_isShelf 4 = .ok (.invokestatic 53, 3) := by decide +kernel
theorem zd_M_isShelf_7 : decode zb_M_isShelf 7 = .ok (.ireturn, 1) := by decide +kernel

def zf_M_isShelf (x0 : Int) (S : Sg) : Option (Int × Sg) :=
    zbd (zf_M_in x0 0 7 S) fun a1 S2 => zck (a1 = 0 ∨ a1 = 1) <| some (a1, S2)
set_option maxHeartbeats 4000000 in
set_option maxRecDepth 100000 in
theorem zw_M_isShelf {p : Program} {l : Launch} {e : Env} {s : State} {m : MethodId} {args : Array Value} {below : List Frame} {meth : Method} {c : Code} {B : zB} (C : CallFix p m c zb_M_isShelf 1 s args zT "IslandOfficeModel") (hr : meth.sig.returnType = some .boolean) (hlk : meth.locks = false) (hK : zK B s) (hSt : zSt B s) (hap : zAp B) {res : Int} {S9 : Sg} : ∀ (x0 : Int) (S : Sg) (nx0 : zn x0), zf_M_isShelf x0 S = some (res, S9) → ∀ (H : Heap) (locs : List Loc) (ls : Array Slot), zW B S H → va_S B.2.2.2 s.heap H locs → lv_has ls 1 [(0, .int (zI (x0)))] → W p l e zm_M_isShelf s m args below meth c H locs 0 0 (MQ below (zQi B res S9) args s 0 0 B.2.2.2) (F0 m 0 ls []) := by
  intro x0 S nx0 hf H locs ls hW hS hl
  unfold zf_M_isShelf at hf
  refine lv_iload_n C.1 C.2.1 zd_M_isShelf_0 rfl (lv_at hl 0 rfl) ?_
  refine zr_iconst C zd_M_isShelf_1 ?_
  refine zr_bipush C zd_M_isShelf_2 (by decide) ?_
  obtain ⟨a1, S2, ea1, hf⟩ := zbd_some hf
  refine zcSi (As := [.int (zI (x0)), .int (zI (0)), .int (zI (7))]) (rest := []) C hK hSt hW hS (zc_M_in hap x0 0 7 S nx0 (znb rfl) (znb rfl) ea1) zq_M_in zk_1558 ⟨rfl, rfl, by decide, by decide⟩ ⟨Nat.zero_le _, Nat.zero_le _⟩ rfl hl.1 rfl (lv_room (Nat.le_of_ble_eq_true rfl)) zd_M_isShelf_4 (fun na1 H locs hW hS => ?_)
  obtain ⟨h3, hf⟩ := zck_some hf
  cases hf
  exact zre_z C hr hlk hK hW hS na1 (zb01 h3) zd_M_isShelf_7

theorem zc_M_isShelf {l : Launch} {B : zB} (hap : zAp B) (x0 : Int) (S : Sg) (nx0 : zn x0) {res : Int} {S9 : Sg} (hf : zf_M_isShelf x0 S = some (res, S9)) : Met l zy_M_isShelf (Cond.code zy_M_isShelf zb_M_isShelf 1 (some .boolean) :: zT) zm_M_isShelf (zP B S [.int (zI (x0))]) (zQi B res S9) 0 0 B.2.2.2 :=
  zmet (by decide) (Nat.le_of_ble_eq_true rfl) (fun p e s m args below meth c C hr hlk hK hSt hW ls hl => zw_M_isShelf C hr hlk hK hSt hap   x0 S nx0 hf _ _ _ hW va_S.rf hl)
/-! IslandOfficeModel.noBytes(I)I -/
abbrev zy_M_noBytes : MethodName := ⟨"IslandOfficeModel", "noBytes", "(I)I"⟩
abbrev zb_M_noBytes : ByteArray := prog_14_method_31_code
abbrev zm_M_noBytes : Room := { frames := 0, cells := 0, slots := 0, locals := 0 }
theorem zq_M_noBytes : zMy zy_M_noBytes zb_M_noBytes 2 (some .int) 1 := ⟨zk_1651, zk_1650, zs_45, zk_14, by decide, by decide, by decide +kernel⟩
theorem zd_M_noBytes_0 : decode zb_M_noBytes 0 = .ok (.aload_n 0, 1) := by decide +kernel
theorem zd_M_noBytes_1 : decode zb_M_noBytes 1 = .ok (.getfield 22, 3) := by decide +kernel
theorem zd_M_noBytes_4 : decode zb_M_noBytes 4 = .ok (.iload_n 1, 1) := by decide +kernel
theorem zd_M_noBytes_5 : decode zb_M_noBytes 5 = .ok (.iaload, 1) := by decide +kernel
theorem zd_M_noBytes_6 : decode zb_M_noBytes 6 = .ok (.ifCond .ne 8, 3) := by decide +kernel
theorem zd_M_noBytes_9 : decode zb_M_noBytes 9 = .ok (.bipush (-11), 2) := by decide +kernel
theorem zd_M_noBytes_11 : decode zb_M_noBytes 11 = .ok (.goto 28, 3) := by decide +kernel
theorem zd_M_noBytes_14 : decode zb_M_noBytes 14 = .ok (.aload_n 0, 1) := by decide +kernel
theorem zd_M_noBytes_15 : decode zb_M_noBytes 15 = .ok (.getfield 22, 3) := by decide +kernel
theorem zd_M_noBytes_18 : decode zb_M_noBytes 18 = .ok (.iload_n 1, 1) := by decide +kernel
theorem zd_M_noBytes_19 : decode zb_M_noBytes 19 = .ok (.iaload, 1) := by decide +kernel
theorem zd_M_noBytes_20 : decode zb_M_noBytes 20 = .ok (.iconst 3, 1) := by decide +kernel
theorem zd_M_noBytes_21 : decode zb_M_noBytes 21 = .ok (.if_icmp .ne 12, 3) := by decide +kernel
theorem zd_M_noBytes_24 : decode zb_M_noBytes 24 = .ok (.aload_n 0, 1) := by decide +kernel
theorem zd_M_noBytes_25 : decode zb_M_noBytes 25 = .ok (.getfield 26, 3) := by decide +kernel
theorem zd_M_noBytes_28 : decode zb_M_noBytes 28 = .ok (.iload_n 1, 1) := by decide +kernel
theorem zd_M_noBytes_29 : decode zb_M_noBytes 29 = .ok (.iaload, 1) := by decide +kernel
theorem zd_M_noBytes_30 : decode zb_M_noBytes 30 = .ok (.ifCond .eq 8, 3) := by decide +kernel
theorem zd_M_noBytes_33 : decode zb_M_noBytes 33 = .ok (.bipush (-12), 2) := by decide +kernel
theorem zd_M_noBytes_35 : decode zb_M_noBytes 35 = .ok (.goto 4, 3) := by decide +kernel
theorem zd_M_noBytes_38 : decode zb_M_noBytes 38 = .ok (.iconst 0, 1) := by decide +kernel
theorem zd_M_noBytes_39 : decode zb_M_noBytes 39 = .ok (.ireturn, 1) := by decide +kernel

def zf_M_noBytes_33 (S : Sg) : Option (Int × Sg) :=
    some (-12, S)
set_option maxHeartbeats 4000000 in
set_option maxRecDepth 100000 in
theorem zw_M_noBytes_33 {p : Program} {l : Launch} {e : Env} {s : State} {m : MethodId} {args : Array Value} {below : List Frame} {meth : Method} {c : Code} {B : zB} (C : CallFix p m c zb_M_noBytes 2 s args zT "IslandOfficeModel") (hr : meth.sig.returnType = some .int) (hlk : meth.locks = false) (hK : zK B s) (hSt : zSt B s) (hap : zAp B) {res : Int} {S9 : Sg} : ∀  (S : Sg) , zf_M_noBytes_33  S = some (res, S9) → ∀ (H : Heap) (locs : List Loc) (ls : Array Slot), zW B S H → va_S B.2.2.2 s.heap H locs → lv_has ls 2 [] → W p l e zm_M_noBytes s m args below meth c H locs 0 0 (MQ below (zQi B res S9) args s 0 0 B.2.2.2) (F0 m 33 ls []) := by
  intro S hf H locs ls hW hS hl
  unfold zf_M_noBytes_33 at hf
  refine zr_bipush C zd_M_noBytes_33 (by decide) ?_
  refine lv_goto (tgt := 39) C.1 C.2.1 zd_M_noBytes_35 (by decide) ?_
  cases hf
  exact zre_i C hr hlk hK hW hS (znb rfl) zd_M_noBytes_39

def zf_M_noBytes (x1 : Int) (S : Sg) : Option (Int × Sg) :=
    zck (0 ≤ x1 ∧ x1 < 8) <| if (S 9 0 1 x1) = 0 then (some (-11, S)) else (if (S 9 0 1 x1) = 3 then (if (S 9 0 2 x1) = 0 then (some (0, S)) else (zf_M_noBytes_33  S)) else (zf_M_noBytes_33  S))
set_option maxHeartbeats 4000000 in
set_option maxRecDepth 100000 in
theorem zw_M_noBytes {p : Program} {l : Launch} {e : Env} {s : State} {m : MethodId} {args : Array Value} {below : List Frame} {meth : Method} {c : Code} {B : zB} (C : CallFix p m c zb_M_noBytes 2 s args zT "IslandOfficeModel") (hr : meth.sig.returnType = some .int) (hlk : meth.locks = false) (hK : zK B s) (hSt : zSt B s) (hap : zAp B) {res : Int} {S9 : Sg} : ∀ (x1 : Int) (S : Sg) (nx1 : zn x1), zf_M_noBytes x1 S = some (res, S9) → ∀ (H : Heap) (locs : List Loc) (ls : Array Slot), zW B S H → va_S B.2.2.2 s.heap H locs → lv_has ls 2 [(0, .ref (B.2.1 9 (0) (0))), (1, .int (zI (x1)))] → W p l e zm_M_noBytes s m args below meth c H locs 0 0 (MQ below (zQi B res S9) args s 0 0 B.2.2.2) (F0 m 0 ls []) := by
  intro x1 S nx1 hf H locs ls hW hS hl
  unfold zf_M_noBytes at hf
  refine lv_aload_n C.1 C.2.1 zd_M_noBytes_0 rfl (lv_at hl 0 rfl) ?_
  refine zg_M_held (r := 0) C hK hW (zvd_9 (by decide) (by decide)) zk_1505 zd_M_noBytes_1 ?_
  refine lv_iload_n C.1 C.2.1 zd_M_noBytes_4 rfl (lv_at hl 1 rfl) ?_
  obtain ⟨h1, hf⟩ := zck_some hf
  refine ziald C hK hW (zvd_9 (by decide) (by decide)) (fun f => ze_9_1 B f (0)) (by decide) h1 zd_M_noBytes_5 ?_
  refine zr_if_ne (tgt := 14) C (zWn hW _ _ _ _ rfl) zd_M_noBytes_6 (by decide) (fun c2 => ?_) (fun c2 => ?_)
  · rw [if_neg c2] at hf
    refine lv_aload_n C.1 C.2.1 zd_M_noBytes_14 rfl (lv_at hl 0 rfl) ?_
    refine zg_M_held (r := 0) C hK hW (zvd_9 (by decide) (by decide)) zk_1505 zd_M_noBytes_15 ?_
    refine lv_iload_n C.1 C.2.1 zd_M_noBytes_18 rfl (lv_at hl 1 rfl) ?_
    refine ziald C hK hW (zvd_9 (by decide) (by decide)) (fun f => ze_9_1 B f (0)) (by decide) h1 zd_M_noBytes_19 ?_
    refine zr_iconst C zd_M_noBytes_20 ?_
    refine zr_icmp_ne (tgt := 33) C (zWn hW _ _ _ _ rfl) (znb rfl) zd_M_noBytes_21 (by decide) (fun c3 => ?_) (fun c3 => ?_)
    · rw [if_neg c3] at hf
      exact zw_M_noBytes_33 C hr hlk hK hSt hap    S  hf _ _ _ hW hS (lv_sub hl [] rfl)
    · rw [if_pos c3] at hf
      refine lv_aload_n C.1 C.2.1 zd_M_noBytes_24 rfl (lv_at hl 0 rfl) ?_
      refine zg_M_rowSort (r := 0) C hK hW (zvd_9 (by decide) (by decide)) zk_1506 zd_M_noBytes_25 ?_
      refine lv_iload_n C.1 C.2.1 zd_M_noBytes_28 rfl (lv_at hl 1 rfl) ?_
      refine ziald C hK hW (zvd_9 (by decide) (by decide)) (fun f => ze_9_2 B f (0)) (by decide) h1 zd_M_noBytes_29 ?_
      refine zr_if_eq (tgt := 38) C (zWn hW _ _ _ _ rfl) zd_M_noBytes_30 (by decide) (fun c4 => ?_) (fun c4 => ?_)
      · rw [if_pos c4] at hf
        refine zr_iconst C zd_M_noBytes_38 ?_
        cases hf
        exact zre_i C hr hlk hK hW hS (znb rfl) zd_M_noBytes_39
      · rw [if_neg c4] at hf
        exact zw_M_noBytes_33 C hr hlk hK hSt hap    S  hf _ _ _ hW hS (lv_sub hl [] rfl)
  · rw [if_pos c2] at hf
    refine zr_bipush C zd_M_noBytes_9 (by decide) ?_
    refine lv_goto (tgt := 39) C.1 C.2.1 zd_M_noBytes_11 (by decide) ?_
    cases hf
    exact zre_i C hr hlk hK hW hS (znb rfl) zd_M_noBytes_39

theorem zc_M_noBytes {l : Launch} {B : zB} (hap : zAp B) (x1 : Int) (S : Sg) (nx1 : zn x1) {res : Int} {S9 : Sg} (hf : zf_M_noBytes x1 S = some (res, S9)) : Met l zy_M_noBytes (Cond.code zy_M_noBytes zb_M_noBytes 2 (some .int) :: zT) zm_M_noBytes (zP B S [.ref (B.2.1 9 (0) (0)), .int (zI (x1))]) (zQi B res S9) 0 0 B.2.2.2 :=
  zmet (by decide) (Nat.le_of_ble_eq_true rfl) (fun p e s m args below meth c C hr hlk hK hSt hW ls hl => zw_M_noBytes C hr hlk hK hSt hap   x1 S nx1 hf _ _ _ hW va_S.rf hl)
/-! IslandOfficeModel.fault(I)I -/
abbrev zy_M_fault : MethodName := ⟨"IslandOfficeModel", "fault", "(I)I"⟩
abbrev zb_M_fault : ByteArray := prog_14_method_32_code
abbrev zm_M_fault : Room := { frames := 393, cells := 0, slots := 0, locals := 7864 }
theorem zq_M_fault : zMy zy_M_fault zb_M_fault 2 (some .int) 1 := ⟨zk_1644, zk_1642, zk_1643, zk_14, by decide, by decide, by decide +kernel⟩
theorem zd_M_fault_0 : decode zb_M_fault 0 = .ok (.aload_n 0, 1) := by decide +kernel
theorem zd_M_fault_1 : decode zb_M_fault 1 = .ok (.iconst 0, 1) := by decide +kernel
theorem zd_M_fault_2 : decode zb_M_fault 2 = .ok (.putfield 46, 3) := by decide +kernel
theorem zd_M_fault_5 : decode zb_M_fault 5 = .ok (.iload_n 1, 1) := by decide +kernel
theorem zd_M_fault_6 : decode zb_M_fault 6 = .ok (.invokestatic 172, 3) := by decide +kernel
theorem zd_M_fault_9 : decode zb_M_fault 9 = .ok (.ifCond .ne 5, 3) := by decide +kernel
theorem zd_M_fault_12 : decode zb_M_fault 12 = .ok (.iconst (-1), 1) := by decide +kernel
theorem zd_M_fault_13 : decode zb_M_fault 13 = .ok (.ireturn, 1) := by decide +kernel
theorem zd_M_fault_14 : decode zb_M_fault 14 = .ok (.aload_n 0, 1) := by decide +kernel
theorem zd_M_fault_15 : decode zb_M_fault 15 = .ok (.iload_n 1, 1) := by decide +kernel
theorem zd_M_fault_16 : decode zb_M_fault 16 = .ok (.invokevirtual 175, 3) := by decide +kernel
theorem zd_M_fault_19 : decode zb_M_fault 19 = .ok (.ifCond .eq 11, 3) := by decide +kernel
theorem zd_M_fault_22 : decode zb_M_fault 22 = .ok (.aload_n 0, 1) := by decide +kernel
theorem zd_M_fault_23 : decode zb_M_fault 23 = .ok (.iload_n 1, 1) := by decide +kernel
theorem zd_M_fault_24 : decode zb_M_fault 24 = .ok (.invokevirtual 175, 3) := by decide +kernel
theorem zd_M_fault_27 : decode zb_M_fault 27 = .ok (.goto 8, 3) := by decide +kernel
theorem zd_M_fault_30 : decode zb_M_fault 30 = .ok (.aload_n 0, 1) := by decide +kernel
theorem zd_M_fault_31 : decode zb_M_fault 31 = .ok (.iload_n 1, 1) := by decide +kernel
theorem zd_M_fault_32 : decode zb_M_fault 32 = .ok (.invokevirtual 178, 3) := by decide +kernel
theorem zd_M_fault_35 : decode zb_M_fault 35 = .ok (.ireturn, 1) := by decide +kernel

def zf_M_fault (x1 : Int) (S : Sg) : Option (Int × Sg) :=
    zlt (zu S 9 0 0 4 0) fun S1 => zbd (zf_M_isShelf x1 S1) fun a2 S3 => if a2 = 0 then (some (-1, S3)) else (zbd (zf_M_noBytes x1 S3) fun a5 S6 => if a5 = 0 then (zbd (zf_M_faultOf x1 S6) fun a8 S9 => some (a8, S9)) else (zbd (zf_M_noBytes x1 S6) fun a10 S11 => some (a10, S11)))
set_option maxHeartbeats 4000000 in
set_option maxRecDepth 100000 in
theorem zw_M_fault {p : Program} {l : Launch} {e : Env} {s : State} {m : MethodId} {args : Array Value} {below : List Frame} {meth : Method} {c : Code} {B : zB} (C : CallFix p m c zb_M_fault 2 s args zT "IslandOfficeModel") (hr : meth.sig.returnType = some .int) (hlk : meth.locks = false) (hK : zK B s) (hSt : zSt B s) (hap : zAp B) {res : Int} {S9 : Sg} : ∀ (x1 : Int) (S : Sg) (nx1 : zn x1), zf_M_fault x1 S = some (res, S9) → ∀ (H : Heap) (locs : List Loc) (ls : Array Slot), zW B S H → va_S B.2.2.2 s.heap H locs → lv_has ls 2 [(0, .ref (B.2.1 9 (0) (0))), (1, .int (zI (x1)))] → W p l e zm_M_fault s m args below meth c H locs 0 0 (MQ below (zQi B res S9) args s 0 0 B.2.2.2) (F0 m 0 ls []) := by
  intro x1 S nx1 hf H locs ls hW hS hl
  unfold zf_M_fault at hf
  refine lv_aload_n C.1 C.2.1 zd_M_fault_0 rfl (lv_at hl 0 rfl) ?_
  refine zr_iconst C zd_M_fault_1 ?_
  obtain ⟨S1, eS1, hf⟩ := zlt_some hf
  refine zp_M_thrown (r := 0) C hK hap hW hS (zvd_9 (by decide) (by decide)) zk_1504 (znb rfl) zd_M_fault_2 (fun H locs hW hS => ?_)
  rw [eS1] at hW
  refine lv_iload_n C.1 C.2.1 zd_M_fault_5 rfl (lv_at hl 1 rfl) ?_
  obtain ⟨a2, S3, ea2, hf⟩ := zbd_some hf
  refine zcSi (As := [.int (zI (x1))]) (rest := []) C hK hSt hW hS (zc_M_isShelf hap x1 S1 nx1 ea2) zq_M_isShelf zk_1645 ⟨rfl, rfl, by decide, by decide⟩ ⟨Nat.zero_le _, Nat.zero_le _⟩ rfl hl.1 rfl (lv_room (Nat.le_of_ble_eq_true rfl)) zd_M_fault_6 (fun na2 H locs hW hS => ?_)
  refine zr_if_ne (tgt := 14) C na2 zd_M_fault_9 (by decide) (fun c4 => ?_) (fun c4 => ?_)
  · rw [if_neg c4] at hf
    refine lv_aload_n C.1 C.2.1 zd_M_fault_14 rfl (lv_at hl 0 rfl) ?_
    refine lv_iload_n C.1 C.2.1 zd_M_fault_15 rfl (lv_at hl 1 rfl) ?_
    obtain ⟨a5, S6, ea5, hf⟩ := zbd_some hf
    refine zcVi (As := [.int (zI (x1))]) (rest := []) C hK hSt hW hS (zc_M_noBytes hap x1 S3 nx1 ea5) zq_M_noBytes zk_1648 (zrecv hK hW (zvd_9 (by decide) (by decide)) (ze_9_0 B _ (0)) rfl) ⟨rfl, rfl, by decide, by decide⟩ ⟨Nat.zero_le _, Nat.zero_le _⟩ rfl hl.1 rfl (lv_room (Nat.le_of_ble_eq_true rfl)) zd_M_fault_16 (fun na5 H locs hW hS => ?_)
    refine zr_if_eq (tgt := 30) C na5 zd_M_fault_19 (by decide) (fun c7 => ?_) (fun c7 => ?_)
    · rw [if_pos c7] at hf
      refine lv_aload_n C.1 C.2.1 zd_M_fault_30 rfl (lv_at hl 0 rfl) ?_
      refine lv_iload_n C.1 C.2.1 zd_M_fault_31 rfl (lv_at hl 1 rfl) ?_
      obtain ⟨a8, S9, ea8, hf⟩ := zbd_some hf
      refine zcVi (As := [.int (zI (x1))]) (rest := []) C hK hSt hW hS (zc_M_faultOf hap x1 S6 nx1 ea8) zq_M_faultOf zk_1652 (zrecv hK hW (zvd_9 (by decide) (by decide)) (ze_9_0 B _ (0)) rfl) ⟨rfl, rfl, by decide, by decide⟩ ⟨Nat.zero_le _, Nat.zero_le _⟩ rfl hl.1 rfl (lv_room (Nat.le_of_ble_eq_true rfl)) zd_M_fault_32 (fun na8 H locs hW hS => ?_)
      cases hf
      exact zre_i C hr hlk hK hW hS na8 zd_M_fault_35
    · rw [if_neg c7] at hf
      refine lv_aload_n C.1 C.2.1 zd_M_fault_22 rfl (lv_at hl 0 rfl) ?_
      refine lv_iload_n C.1 C.2.1 zd_M_fault_23 rfl (lv_at hl 1 rfl) ?_
      obtain ⟨a10, S11, ea10, hf⟩ := zbd_some hf
      refine zcVi (As := [.int (zI (x1))]) (rest := []) C hK hSt hW hS (zc_M_noBytes hap x1 S6 nx1 ea10) zq_M_noBytes zk_1648 (zrecv hK hW (zvd_9 (by decide) (by decide)) (ze_9_0 B _ (0)) rfl) ⟨rfl, rfl, by decide, by decide⟩ ⟨Nat.zero_le _, Nat.zero_le _⟩ rfl hl.1 rfl (lv_room (Nat.le_of_ble_eq_true rfl)) zd_M_fault_24 (fun na10 H locs hW hS => ?_)
      refine lv_goto (tgt := 35) C.1 C.2.1 zd_M_fault_27 (by decide) ?_
      cases hf
      exact zre_i C hr hlk hK hW hS na10 zd_M_fault_35
  · rw [if_pos c4] at hf
    refine zr_iconst C zd_M_fault_12 ?_
    cases hf
    exact zre_i C hr hlk hK hW hS (znb rfl) zd_M_fault_13

theorem zc_M_fault {l : Launch} {B : zB} (hap : zAp B) (x1 : Int) (S : Sg) (nx1 : zn x1) {res : Int} {S9 : Sg} (hf : zf_M_fault x1 S = some (res, S9)) : Met l zy_M_fault (Cond.code zy_M_fault zb_M_fault 2 (some .int) :: zT) zm_M_fault (zP B S [.ref (B.2.1 9 (0) (0)), .int (zI (x1))]) (zQi B res S9) 0 0 B.2.2.2 :=
  zmet (by decide) (Nat.le_of_ble_eq_true rfl) (fun p e s m args below meth c C hr hlk hK hSt hW ls hl => zw_M_fault C hr hlk hK hSt hap   x1 S nx1 hf _ _ _ hW va_S.rf hl)
/-! IslandOfficeModel$World.subject(I)I -/
abbrev zy_W_subject : MethodName := ⟨"IslandOfficeModel$World", "subject", "(I)I"⟩
abbrev zb_W_subject : ByteArray := prog_15_method_20_code
abbrev zm_W_subject : Room := { frames := 0, cells := 0, slots := 0, locals := 0 }
theorem zq_W_subject : zMy zy_W_subject zb_W_subject 3 (some .int) 1 := ⟨zk_1711, zk_1709, zk_1710, zk_15, by decide, by decide, by decide +kernel⟩
theorem zd_W_subject_0 : decode zb_W_subject 0 = .ok (.aload_n 0, 1) := by decide +kernel
theorem zd_W_subject_1 : decode zb_W_subject 1 = .ok (.getfield 57, 3) := by decide +kernel
theorem zd_W_subject_4 : decode zb_W_subject 4 = .ok (.iload_n 1, 1) := by decide +kernel
theorem zd_W_subject_5 : decode zb_W_subject 5 = .ok (.aaload, 1) := by decide +kernel
theorem zd_W_subject_6 : decode zb_W_subject 6 = .ok (.iconst 0, 1) := by decide +kernel
theorem zd_W_subject_7 : decode zb_W_subject 7 = .ok (.iaload, 1) := by decide +kernel
theorem zd_W_subject_8 : decode zb_W_subject 8 = .ok (.istore_n 2, 1) := by decide +kernel
theorem zd_W_subject_9 : decode zb_W_subject 9 = .ok (.iload_n 2, 1) := by decide +kernel
theorem zd_W_subject_10 : decode zb_W_subject 10 = .ok (.bipush 118, 2) := by decide +kernel
theorem zd_W_subject_12 : decode zb_W_subject 12 = .ok (.if_icmp .ne 7, 3) := by decide +kernel
theorem zd_W_subject_15 : decode zb_W_subject 15 = .ok (.iconst 0, 1) := by decide +kernel
theorem zd_W_subject_16 : decode zb_W_subject 16 = .ok (.goto 24, 3) := by decide +kernel
theorem zd_W_subject_19 : decode zb_W_subject 19 = .ok (.iload_n 2, 1) := by decide +kernel
theorem zd_W_subject_20 : decode zb_W_subject 20 = .ok (.bipush 112, 2) := by decide +kernel
theorem zd_W_subject_22 : decode zb_W_subject 22 = .ok (.if_icmp .ne 7, 3) := by decide +kernel
theorem zd_W_subject_25 : decode zb_W_subject 25 = .ok (.iconst 1, 1) := by decide +kernel
theorem zd_W_subject_26 : decode zb_W_subject 26 = .ok (.goto 14, 3) := by decide +kernel
theorem zd_W_subject_29 : decode zb_W_subject 29 = .ok (.iload_n 2, 1) := by decide +kernel
theorem zd_W_subject_30 : decode zb_W_subject 30 = .ok (.bipush 101, 2) := by decide +kernel
theorem zd_W_subject_32 : decode zb_W_subject 32 = .ok (.if_icmp .ne 7, 3) := by decide +kernel
theorem zd_W_subject_35 : decode zb_W_subject 35 = .ok (.iconst 2, 1) := by decide +kernel
theorem zd_W_subject_36 : decode zb_W_subject 36 = .ok (.goto 4, 3) := by decide +kernel
theorem zd_W_subject_39 : decode zb_W_subject 39 = .ok (.iconst 3, 1) := by decide +kernel
theorem zd_W_subject_40 : decode zb_W_subject 40 = .ok (.ireturn, 1) := by decide +kernel

def zf_W_subject (r0 : Int) (x1 : Int) (S : Sg) : Option (Int × Sg) :=
    zck (0 ≤ x1 ∧ x1 < 12) <| zlt (S 6 r0 x1 0) fun v2 => if v2 = 118 then (some (0, S)) else (if v2 = 112 then (some (1, S)) else (if v2 = 101 then (some (2, S)) else (some (3, S))))
set_option maxHeartbeats 4000000 in
set_option maxRecDepth 100000 in
theorem zw_W_subject {p : Program} {l : Launch} {e : Env} {s : State} {m : MethodId} {args : Array Value} {below : List Frame} {meth : Method} {c : Code} {B : zB} (C : CallFix p m c zb_W_subject 3 s args zT "IslandOfficeModel$World") (hr : meth.sig.returnType = some .int) (hlk : meth.locks = false) (hK : zK B s) (hSt : zSt B s) (hap : zAp B) (r0 : Int) (hr0 : 0 ≤ r0 ∧ r0 < 3) {res : Int} {S9 : Sg} : ∀ (x1 : Int) (S : Sg) (nx1 : zn x1), zf_W_subject r0 x1 S = some (res, S9) → ∀ (H : Heap) (locs : List Loc) (ls : Array Slot), zW B S H → va_S B.2.2.2 s.heap H locs → lv_has ls 3 [(0, .ref (B.2.1 5 (r0) (0))), (1, .int (zI (x1)))] → W p l e zm_W_subject s m args below meth c H locs 0 0 (MQ below (zQi B res S9) args s 0 0 B.2.2.2) (F0 m 0 ls []) := by
  intro x1 S nx1 hf H locs ls hW hS hl
  unfold zf_W_subject at hf
  refine lv_aload_n C.1 C.2.1 zd_W_subject_0 rfl (lv_at hl 0 rfl) ?_
  refine zg_W_text (r := r0) C hK hW (zvd_5 hr0 (by decide)) zk_1309 zd_W_subject_1 ?_
  refine lv_iload_n C.1 C.2.1 zd_W_subject_4 rfl (lv_at hl 1 rfl) ?_
  obtain ⟨h1, hf⟩ := zck_some hf
  refine zaald (t0 := 4) C hK hW (zvd_5 hr0 (by decide)) (fun f => ze_5_41 B f (r0)) rfl rfl (by decide) h1 zd_W_subject_5 (a := B.2.1 6 (r0) (x1)) (by rw [Int.toNat_of_nonneg h1.1]) ?_
  refine zr_iconst C zd_W_subject_6 ?_
  refine ziald C hK hW (zvd_6 hr0 h1) (fun f => ze_6 B f (r0) (x1)) (by decide) (by decide) zd_W_subject_7 ?_
  obtain ⟨v2, ev2, hf⟩ := zlt_some hf
  have nv2 : zn v2 := by rw [← ev2]; exact (zWn hW _ _ _ _ rfl)
  rw [ev2]
  refine lv_istore_n (lv' := [(2, .int (zI (v2))), (0, .ref (B.2.1 5 (r0) (0))), (1, .int (zI (x1)))]) C.1 C.2.1 zd_W_subject_8 rfl hl (by decide) rfl (fun ls hl => ?_)
  refine lv_iload_n C.1 C.2.1 zd_W_subject_9 rfl (lv_at hl 0 rfl) ?_
  refine zr_bipush C zd_W_subject_10 (by decide) ?_
  refine zr_icmp_ne (tgt := 19) C nv2 (znb rfl) zd_W_subject_12 (by decide) (fun c3 => ?_) (fun c3 => ?_)
  · rw [if_neg c3] at hf
    refine lv_iload_n C.1 C.2.1 zd_W_subject_19 rfl (lv_at hl 0 rfl) ?_
    refine zr_bipush C zd_W_subject_20 (by decide) ?_
    refine zr_icmp_ne (tgt := 29) C nv2 (znb rfl) zd_W_subject_22 (by decide) (fun c4 => ?_) (fun c4 => ?_)
    · rw [if_neg c4] at hf
      refine lv_iload_n C.1 C.2.1 zd_W_subject_29 rfl (lv_at hl 0 rfl) ?_
      refine zr_bipush C zd_W_subject_30 (by decide) ?_
      refine zr_icmp_ne (tgt := 39) C nv2 (znb rfl) zd_W_subject_32 (by decide) (fun c5 => ?_) (fun c5 => ?_)
      · rw [if_neg c5] at hf
        refine zr_iconst C zd_W_subject_39 ?_
        cases hf
        exact zre_i C hr hlk hK hW hS (znb rfl) zd_W_subject_40
      · rw [if_pos c5] at hf
        refine zr_iconst C zd_W_subject_35 ?_
        refine lv_goto (tgt := 40) C.1 C.2.1 zd_W_subject_36 (by decide) ?_
        cases hf
        exact zre_i C hr hlk hK hW hS (znb rfl) zd_W_subject_40
    · rw [if_pos c4] at hf
      refine zr_iconst C zd_W_subject_25 ?_
      refine lv_goto (tgt := 40) C.1 C.2.1 zd_W_subject_26 (by decide) ?_
      cases hf
      exact zre_i C hr hlk hK hW hS (znb rfl) zd_W_subject_40
  · rw [if_pos c3] at hf
    refine zr_iconst C zd_W_subject_15 ?_
    refine lv_goto (tgt := 40) C.1 C.2.1 zd_W_subject_16 (by decide) ?_
    cases hf
    exact zre_i C hr hlk hK hW hS (znb rfl) zd_W_subject_40

theorem zc_W_subject {l : Launch} {B : zB} (hap : zAp B) (r0 : Int) (hr0 : 0 ≤ r0 ∧ r0 < 3) (x1 : Int) (S : Sg) (nx1 : zn x1) {res : Int} {S9 : Sg} (hf : zf_W_subject r0 x1 S = some (res, S9)) : Met l zy_W_subject (Cond.code zy_W_subject zb_W_subject 3 (some .int) :: zT) zm_W_subject (zP B S [.ref (B.2.1 5 (r0) (0)), .int (zI (x1))]) (zQi B res S9) 0 0 B.2.2.2 :=
  zmet (by decide) (Nat.le_of_ble_eq_true rfl) (fun p e s m args below meth c C hr hlk hK hSt hW ls hl => zw_W_subject C hr hlk hK hSt hap r0 hr0 x1 S nx1 hf _ _ _ hW va_S.rf hl)
/-! IslandOfficeModel$World.force(II)I -/
abbrev zy_W_force : MethodName := ⟨"IslandOfficeModel$World", "force", "(II)I"⟩
abbrev zb_W_force : ByteArray := prog_15_method_21_code
abbrev zm_W_force : Room := { frames := 1, cells := 0, slots := 0, locals := 22 }
theorem zq_W_force : zMy zy_W_force zb_W_force 6 (some .int) 2 := ⟨zk_1707, zk_1705, zk_1706, zk_15, by decide, by decide, by decide +kernel⟩
theorem zd_W_force_0 : decode zb_W_force 0 = .ok (.bipush (-2), 2) := by decide +kernel
theorem zd_W_force_2 : decode zb_W_force 2 = .ok (.istore_n 3, 1) := by decide +kernel
theorem zd_W_force_3 : decode zb_W_force 3 = .ok (.iconst 0, 1) := by decide +kernel
theorem zd_W_force_4 : decode zb_W_force 4 = .ok (.istore 4, 2) := by decide +kernel
theorem zd_W_force_6 : decode zb_W_force 6 = .ok (.iload 4, 2) := by decide +kernel
theorem zd_W_force_8 : decode zb_W_force 8 = .ok (.aload_n 0, 1) := by decide +kernel
theorem zd_W_force_9 : decode zb_W_force 9 = .ok (.getfield 165, 3) := by decide +kernel
theorem zd_W_force_12 : decode zb_W_force 12 = .ok (.if_icmp .ge 100, 3) := by decide +kernel
theorem zd_W_force_15 : decode zb_W_force 15 = .ok (.aload_n 0, 1) := by decide +kernel
theorem zd_W_force_16 : decode zb_W_force 16 = .ok (.iload 4, 2) := by decide +kernel
theorem zd_W_force_18 : decode zb_W_force 18 = .ok (.invokevirtual 244, 3) := by decide +kernel
theorem zd_W_force_21 : decode zb_W_force 21 = .ok (.iload_n 1, 1) := by decide +kernel
theorem zd_W_force_22 : decode zb_W_force 22 = .ok (.if_icmp .ne 51, 3) := by decide +kernel
theorem zd_W_force_25 : decode zb_W_force 25 = .ok (.aload_n 0, 1) := by decide +kernel
theorem zd_W_force_26 : decode zb_W_force 26 = .ok (.getfield 75, 3) := by decide +kernel
theorem zd_W_force_29 : decode zb_W_force 29 = .ok (.iload 4, 2) := by decide +kernel
theorem zd_W_force_31 : decode zb_W_force 31 = .ok (.iaload, 1) := by decide +kernel
theorem zd_W_force_32 : decode zb_W_force 32 = .ok (.ifCond .ne 41, 3) := by decide +kernel
theorem zd_W_force_35 : decode zb_W_force 35 = .ok (.aload_n 0, 1) := by decide +kernel
theorem zd_W_force_36 : decode zb_W_force 36 = .ok (.getfield 63, 3) := by decide +kernel
theorem zd_W_force_39 : decode zb_W_force 39 = .ok (.iload 4, 2) := by decide +kernel
theorem zd_W_force_41 : decode zb_W_force 41 = .ok (.iaload, 1) := by decide +kernel
theorem zd_W_force_42 : decode zb_W_force 42 = .ok (.iload_n 2, 1) := by decide +kernel
theorem zd_W_force_43 : decode zb_W_force 43 = .ok (.if_icmp .gt 30, 3) := by decide +kernel
theorem zd_W_force_46 : decode zb_W_force 46 = .ok (.aload_n 0, 1) := by decide +kernel
theorem zd_W_force_47 : decode zb_W_force 47 = .ok (.getfield 78, 3) := by decide +kernel
theorem zd_W_force_50 : decode zb_W_force 50 = .ok (.iload 4, 2) := by decide +kernel
theorem zd_W_force_52 : decode zb_W_force 52 = .ok (.iaload, 1) := by decide +kernel
theorem zd_W_force_53 : decode zb_W_force 53 = .ok (.bipush (-2), 2) := by decide +kernel
theorem zd_W_force_55 : decode zb_W_force 55 = .ok (.if_icmp .eq 14, 3) := by decide +kernel
theorem zd_W_force_58 : decode zb_W_force 58 = .ok (.aload_n 0, 1) := by decide +kernel
theorem zd_W_force_59 : decode zb_W_force 59 = .ok (.getfield 78, 3) := by decide +kernel
theorem zd_W_force_62 : decode zb_W_force 62 = .ok (.iload 4, 2) := by decide +kernel
theorem zd_W_force_64 : decode zb_W_force 64 = .ok (.iaload, 1) := by decide +kernel
theorem zd_W_force_65 : decode zb_W_force 65 = .ok (.iload_n 2, 1) := by decide +kernel
theorem zd_W_force_66 : decode zb_W_force 66 = .ok (.if_icmp .le 7, 3) := by decide +kernel
theorem zd_W_force_69 : decode zb_W_force 69 = .ok (.iconst 1, 1) := by decide +kernel
theorem zd_W_force_70 : decode zb_W_force 70 = .ok (.goto 4, 3) := by decide +kernel
theorem zd_W_force_73 : decode zb_W_force 73 = .ok (.iconst 0, 1) := by decide +kernel
theorem zd_W_force_74 : decode zb_W_force 74 = .ok (.istore 5, 2) := by decide +kernel
theorem zd_W_force_76 : decode zb_W_force 76 = .ok (.iload 5, 2) := by decide +kernel
theorem zd_W_force_78 : decode zb_W_force 78 = .ok (.ifCond .eq 28, 3) := by decide +kernel
theorem zd_W_force_81 : decode zb_W_force 81 = .ok (.iload_n 3, 1) := by decide +kernel
theorem zd_W_force_82 : decode zb_W_force 82 = .ok (.bipush (-2), 2) := by decide +kernel
theorem zd_W_force_84 : decode zb_W_force 84 = .ok (.if_icmp .eq 19, 3) := by decide +kernel
theorem zd_W_force_87 : decode zb_W_force 87 = .ok (.aload_n 0, 1) := by decide +kernel
theorem zd_W_force_88 : decode zb_W_force 88 = .ok (.getfield 63, 3) := by decide +kernel
theorem zd_W_force_91 : decode zb_W_force 91 = .ok (.iload 4, 2) := by decide +kernel
theorem zd_W_force_93 : decode zb_W_force 93 = .ok (.iaload, 1) := by decide +kernel
theorem zd_W_force_94 : decode zb_W_force 94 = .ok (.aload_n 0, 1) := by decide +kernel
theorem zd_W_force_95 : decode zb_W_force 95 = .ok (.getfield 63, 3) := by decide +kernel
theorem zd_W_force_98 : decode zb_W_force 98 = .ok (.iload_n 3, 1) := by decide +kernel
theorem zd_W_force_99 : decode zb_W_force 99 = .ok (.iaload, 1) := by decide +kernel
theorem zd_W_force_100 : decode zb_W_force 100 = .ok (.if_icmp .lt 6, 3) := by decide +kernel
theorem zd_W_force_103 : decode zb_W_force 103 = .ok (.iload 4, 2) := by decide +kernel
theorem zd_W_force_105 : decode zb_W_force 105 = .ok (.istore_n 3, 1) := by decide +kernel
theorem zd_W_force_106 : decode zb_W_force 106 = .ok (.iinc 4 1, 3) := by decide +kernel
theorem zd_W_force_109 : decode zb_W_force 109 = .ok (.goto (-103), 3) := by decide +kernel
theorem zd_W_force_112 : decode zb_W_force 112 = .ok (.iload_n 3, 1) := by decide +kernel
theorem zd_W_force_113 : decode zb_W_force 113 = .ok (.ireturn, 1) := by decide +kernel

def zf_W_force_106 (r0 : Int) (q6 : Int → Int → Int → Int → Sg → Option (Int × Sg)) (x1 : Int) (x2 : Int) (x3 : Int) (x4 : Int) (S : Sg) : Option (Int × Sg) :=
    zlt (zw (x4 + 1)) fun v1 => q6 (x1) (x2) (x3) (v1) S
set_option maxHeartbeats 4000000 in
set_option maxRecDepth 100000 in
theorem zw_W_force_106 {p : Program} {l : Launch} {e : Env} {s : State} {m : MethodId} {args : Array Value} {below : List Frame} {meth : Method} {c : Code} {B : zB} (C : CallFix p m c zb_W_force 6 s args zT "IslandOfficeModel$World") (hr : meth.sig.returnType = some .int) (hlk : meth.locks = false) (hK : zK B s) (hSt : zSt B s) (hap : zAp B) (r0 : Int) (hr0 : 0 ≤ r0 ∧ r0 < 3) {res : Int} {S9 : Sg} (q6 : Int → Int → Int → Int → Sg → Option (Int × Sg)) (hq6 : ∀ (x1 : Int) (x2 : Int) (x3 : Int) (x4 : Int) (S : Sg) (nx1 : zn x1) (nx2 : zn x2) (nx3 : zn x3) (nx4 : zn x4), q6 x1 x2 x3 x4 S = some (res, S9) → ∀ (H : Heap) (locs : List Loc) (ls : Array Slot), zW B S H → va_S B.2.2.2 s.heap H locs → lv_has ls 6 [(0, .ref (B.2.1 5 (r0) (0))), (1, .int (zI (x1))), (2, .int (zI (x2))), (3, .int (zI (x3))), (4, .int (zI (x4)))] → W p l e zm_W_force s m args below meth c H locs 0 0 (MQ below (zQi B res S9) args s 0 0 B.2.2.2) (F0 m 6 ls [])) : ∀ (x1 : Int) (x2 : Int) (x3 : Int) (x4 : Int) (S : Sg) (nx1 : zn x1) (nx2 : zn x2) (nx3 : zn x3) (nx4 : zn x4), zf_W_force_106 r0 q6 x1 x2 x3 x4 S = some (res, S9) → ∀ (H : Heap) (locs : List Loc) (ls : Array Slot), zW B S H → va_S B.2.2.2 s.heap H locs → lv_has ls 6 [(0, .ref (B.2.1 5 (r0) (0))), (1, .int (zI (x1))), (2, .int (zI (x2))), (3, .int (zI (x3))), (4, .int (zI (x4)))] → W p l e zm_W_force s m args below meth c H locs 0 0 (MQ below (zQi B res S9) args s 0 0 B.2.2.2) (F0 m 106 ls []) := by
  intro x1 x2 x3 x4 S nx1 nx2 nx3 nx4 hf H locs ls hW hS hl
  unfold zf_W_force_106 at hf
  obtain ⟨v1, ev1, hf⟩ := zlt_some hf
  have nv1 : zn v1 := by rw [← ev1]; exact zn_w _
  refine lv_iinc (v := zI v1) (lv' := [(4, .int (zI (v1))), (0, .ref (B.2.1 5 (r0) (0))), (1, .int (zI (x1))), (2, .int (zI (x2))), (3, .int (zI (x3)))]) C.1 C.2.1 zd_W_force_106 hl (k := 4) rfl (by rw [← ev1, ← zI_add]; rfl) (by decide) rfl (fun ls hl => ?_)
  refine lv_goto (tgt := 6) C.1 C.2.1 zd_W_force_109 (by decide) ?_
  exact hq6 (x1) (x2) (x3) (v1) S nx1 nx2 nx3 nv1 hf _ _ _ hW hS (lv_sub hl [1, 2, 3, 4, 0] rfl)

def zf_W_force_103 (r0 : Int) (q6 : Int → Int → Int → Int → Sg → Option (Int × Sg)) (x1 : Int) (x2 : Int) (x4 : Int) (S : Sg) : Option (Int × Sg) :=
    zf_W_force_106 r0 q6 (x1) (x2) (x4) (x4) S
set_option maxHeartbeats 4000000 in
set_option maxRecDepth 100000 in
theorem zw_W_force_103 {p : Program} {l : Launch} {e : Env} {s : State} {m : MethodId} {args : Array Value} {below : List Frame} {meth : Method} {c : Code} {B : zB} (C : CallFix p m c zb_W_force 6 s args zT "IslandOfficeModel$World") (hr : meth.sig.returnType = some .int) (hlk : meth.locks = false) (hK : zK B s) (hSt : zSt B s) (hap : zAp B) (r0 : Int) (hr0 : 0 ≤ r0 ∧ r0 < 3) {res : Int} {S9 : Sg} (q6 : Int → Int → Int → Int → Sg → Option (Int × Sg)) (hq6 : ∀ (x1 : Int) (x2 : Int) (x3 : Int) (x4 : Int) (S : Sg) (nx1 : zn x1) (nx2 : zn x2) (nx3 : zn x3) (nx4 : zn x4), q6 x1 x2 x3 x4 S = some (res, S9) → ∀ (H : Heap) (locs : List Loc) (ls : Array Slot), zW B S H → va_S B.2.2.2 s.heap H locs → lv_has ls 6 [(0, .ref (B.2.1 5 (r0) (0))), (1, .int (zI (x1))), (2, .int (zI (x2))), (3, .int (zI (x3))), (4, .int (zI (x4)))] → W p l e zm_W_force s m args below meth c H locs 0 0 (MQ below (zQi B res S9) args s 0 0 B.2.2.2) (F0 m 6 ls [])) : ∀ (x1 : Int) (x2 : Int) (x4 : Int) (S : Sg) (nx1 : zn x1) (nx2 : zn x2) (nx4 : zn x4), zf_W_force_103 r0 q6 x1 x2 x4 S = some (res, S9) → ∀ (H : Heap) (locs : List Loc) (ls : Array Slot), zW B S H → va_S B.2.2.2 s.heap H locs → lv_has ls 6 [(0, .ref (B.2.1 5 (r0) (0))), (1, .int (zI (x1))), (2, .int (zI (x2))), (4, .int (zI (x4)))] → W p l e zm_W_force s m args below meth c H locs 0 0 (MQ below (zQi B res S9) args s 0 0 B.2.2.2) (F0 m 103 ls []) := by
  intro x1 x2 x4 S nx1 nx2 nx4 hf H locs ls hW hS hl
  unfold zf_W_force_103 at hf
  refine lv_iload C.1 C.2.1 zd_W_force_103 (lv_at hl 3 rfl) ?_
  refine lv_istore_n (lv' := [(3, .int (zI (x4))), (0, .ref (B.2.1 5 (r0) (0))), (1, .int (zI (x1))), (2, .int (zI (x2))), (4, .int (zI (x4)))]) C.1 C.2.1 zd_W_force_105 rfl hl (by decide) rfl (fun ls hl => ?_)
  exact zw_W_force_106 C hr hlk hK hSt hap r0 hr0 q6 hq6 (x1) (x2) (x4) (x4) S nx1 nx2 nx4 nx4 hf _ _ _ hW hS (lv_sub hl [1, 2, 3, 0, 4] rfl)

def zf_W_force_74 (r0 : Int) (q6 : Int → Int → Int → Int → Sg → Option (Int × Sg)) (x1 : Int) (x2 : Int) (x3 : Int) (x4 : Int) (xt0 : Int) (S : Sg) : Option (Int × Sg) :=
    if xt0 = 0 then (zf_W_force_106 r0 q6 (x1) (x2) (x3) (x4) S) else (if x3 = (-2) then (zf_W_force_103 r0 q6 (x1) (x2) (x4) S) else (zck (0 ≤ x4 ∧ x4 < 12) <| zck (0 ≤ x3 ∧ x3 < 12) <| if (S 5 r0 15 x4) < (S 5 r0 15 x3) then (zf_W_force_106 r0 q6 (x1) (x2) (x3) (x4) S) else (zf_W_force_103 r0 q6 (x1) (x2) (x4) S)))
set_option maxHeartbeats 4000000 in
set_option maxRecDepth 100000 in
theorem zw_W_force_74 {p : Program} {l : Launch} {e : Env} {s : State} {m : MethodId} {args : Array Value} {below : List Frame} {meth : Method} {c : Code} {B : zB} (C : CallFix p m c zb_W_force 6 s args zT "IslandOfficeModel$World") (hr : meth.sig.returnType = some .int) (hlk : meth.locks = false) (hK : zK B s) (hSt : zSt B s) (hap : zAp B) (r0 : Int) (hr0 : 0 ≤ r0 ∧ r0 < 3) {res : Int} {S9 : Sg} (q6 : Int → Int → Int → Int → Sg → Option (Int × Sg)) (hq6 : ∀ (x1 : Int) (x2 : Int) (x3 : Int) (x4 : Int) (S : Sg) (nx1 : zn x1) (nx2 : zn x2) (nx3 : zn x3) (nx4 : zn x4), q6 x1 x2 x3 x4 S = some (res, S9) → ∀ (H : Heap) (locs : List Loc) (ls : Array Slot), zW B S H → va_S B.2.2.2 s.heap H locs → lv_has ls 6 [(0, .ref (B.2.1 5 (r0) (0))), (1, .int (zI (x1))), (2, .int (zI (x2))), (3, .int (zI (x3))), (4, .int (zI (x4)))] → W p l e zm_W_force s m args below meth c H locs 0 0 (MQ below (zQi B res S9) args s 0 0 B.2.2.2) (F0 m 6 ls [])) : ∀ (x1 : Int) (x2 : Int) (x3 : Int) (x4 : Int) (xt0 : Int) (S : Sg) (nx1 : zn x1) (nx2 : zn x2) (nx3 : zn x3) (nx4 : zn x4) (nxt0 : zn xt0), zf_W_force_74 r0 q6 x1 x2 x3 x4 xt0 S = some (res, S9) → ∀ (H : Heap) (locs : List Loc) (ls : Array Slot), zW B S H → va_S B.2.2.2 s.heap H locs → lv_has ls 6 [(0, .ref (B.2.1 5 (r0) (0))), (1, .int (zI (x1))), (2, .int (zI (x2))), (3, .int (zI (x3))), (4, .int (zI (x4)))] → W p l e zm_W_force s m args below meth c H locs 0 0 (MQ below (zQi B res S9) args s 0 0 B.2.2.2) (F0 m 74 ls [.int (zI (xt0))]) := by
  intro x1 x2 x3 x4 xt0 S nx1 nx2 nx3 nx4 nxt0 hf H locs ls hW hS hl
  unfold zf_W_force_74 at hf
  refine lv_istore (lv' := [(5, .int (zI (xt0))), (0, .ref (B.2.1 5 (r0) (0))), (1, .int (zI (x1))), (2, .int (zI (x2))), (3, .int (zI (x3))), (4, .int (zI (x4)))]) C.1 C.2.1 zd_W_force_74 hl (by decide) rfl (fun ls hl => ?_)
  refine lv_iload C.1 C.2.1 zd_W_force_76 (lv_at hl 0 rfl) ?_
  refine zr_if_eq (tgt := 106) C nxt0 zd_W_force_78 (by decide) (fun c1 => ?_) (fun c1 => ?_)
  · rw [if_pos c1] at hf
    exact zw_W_force_106 C hr hlk hK hSt hap r0 hr0 q6 hq6 (x1) (x2) (x3) (x4) S nx1 nx2 nx3 nx4 hf _ _ _ hW hS (lv_sub hl [1, 2, 3, 4, 5] rfl)
  · rw [if_neg c1] at hf
    refine lv_iload_n C.1 C.2.1 zd_W_force_81 rfl (lv_at hl 4 rfl) ?_
    refine zr_bipush C zd_W_force_82 (by decide) ?_
    refine zr_icmp_eq (tgt := 103) C nx3 (znb rfl) zd_W_force_84 (by decide) (fun c2 => ?_) (fun c2 => ?_)
    · rw [if_pos c2] at hf
      exact zw_W_force_103 C hr hlk hK hSt hap r0 hr0 q6 hq6 (x1) (x2) (x4) S nx1 nx2 nx4 hf _ _ _ hW hS (lv_sub hl [1, 2, 3, 5] rfl)
    · rw [if_neg c2] at hf
      refine lv_aload_n C.1 C.2.1 zd_W_force_87 rfl (lv_at hl 1 rfl) ?_
      refine zg_W_from (r := r0) C hK hW (zvd_5 hr0 (by decide)) zk_1313 zd_W_force_88 ?_
      refine lv_iload C.1 C.2.1 zd_W_force_91 (lv_at hl 5 rfl) ?_
      obtain ⟨h3, hf⟩ := zck_some hf
      refine ziald C hK hW (zvd_5 hr0 (by decide)) (fun f => ze_5_15 B f (r0)) (by decide) h3 zd_W_force_93 ?_
      refine lv_aload_n C.1 C.2.1 zd_W_force_94 rfl (lv_at hl 1 rfl) ?_
      refine zg_W_from (r := r0) C hK hW (zvd_5 hr0 (by decide)) zk_1313 zd_W_force_95 ?_
      refine lv_iload_n C.1 C.2.1 zd_W_force_98 rfl (lv_at hl 4 rfl) ?_
      obtain ⟨h4, hf⟩ := zck_some hf
      refine ziald C hK hW (zvd_5 hr0 (by decide)) (fun f => ze_5_15 B f (r0)) (by decide) h4 zd_W_force_99 ?_
      refine zr_icmp_lt (tgt := 106) C (zWn hW _ _ _ _ rfl) (zWn hW _ _ _ _ rfl) zd_W_force_100 (by decide) (fun c5 => ?_) (fun c5 => ?_)
      · rw [if_pos c5] at hf
        exact zw_W_force_106 C hr hlk hK hSt hap r0 hr0 q6 hq6 (x1) (x2) (x3) (x4) S nx1 nx2 nx3 nx4 hf _ _ _ hW hS (lv_sub hl [1, 2, 3, 4, 5] rfl)
      · rw [if_neg c5] at hf
        exact zw_W_force_103 C hr hlk hK hSt hap r0 hr0 q6 hq6 (x1) (x2) (x4) S nx1 nx2 nx4 hf _ _ _ hW hS (lv_sub hl [1, 2, 3, 5] rfl)

def zf_W_force_73 (r0 : Int) (q6 : Int → Int → Int → Int → Sg → Option (Int × Sg)) (x1 : Int) (x2 : Int) (x3 : Int) (x4 : Int) (S : Sg) : Option (Int × Sg) :=
    zf_W_force_74 r0 q6 (x1) (x2) (x3) (x4) (0) S
set_option maxHeartbeats 4000000 in
set_option maxRecDepth 100000 in
theorem zw_W_force_73 {p : Program} {l : Launch} {e : Env} {s : State} {m : MethodId} {args : Array Value} {below : List Frame} {meth : Method} {c : Code} {B : zB} (C : CallFix p m c zb_W_force 6 s args zT "IslandOfficeModel$World") (hr : meth.sig.returnType = some .int) (hlk : meth.locks = false) (hK : zK B s) (hSt : zSt B s) (hap : zAp B) (r0 : Int) (hr0 : 0 ≤ r0 ∧ r0 < 3) {res : Int} {S9 : Sg} (q6 : Int → Int → Int → Int → Sg → Option (Int × Sg)) (hq6 : ∀ (x1 : Int) (x2 : Int) (x3 : Int) (x4 : Int) (S : Sg) (nx1 : zn x1) (nx2 : zn x2) (nx3 : zn x3) (nx4 : zn x4), q6 x1 x2 x3 x4 S = some (res, S9) → ∀ (H : Heap) (locs : List Loc) (ls : Array Slot), zW B S H → va_S B.2.2.2 s.heap H locs → lv_has ls 6 [(0, .ref (B.2.1 5 (r0) (0))), (1, .int (zI (x1))), (2, .int (zI (x2))), (3, .int (zI (x3))), (4, .int (zI (x4)))] → W p l e zm_W_force s m args below meth c H locs 0 0 (MQ below (zQi B res S9) args s 0 0 B.2.2.2) (F0 m 6 ls [])) : ∀ (x1 : Int) (x2 : Int) (x3 : Int) (x4 : Int) (S : Sg) (nx1 : zn x1) (nx2 : zn x2) (nx3 : zn x3) (nx4 : zn x4), zf_W_force_73 r0 q6 x1 x2 x3 x4 S = some (res, S9) → ∀ (H : Heap) (locs : List Loc) (ls : Array Slot), zW B S H → va_S B.2.2.2 s.heap H locs → lv_has ls 6 [(0, .ref (B.2.1 5 (r0) (0))), (1, .int (zI (x1))), (2, .int (zI (x2))), (3, .int (zI (x3))), (4, .int (zI (x4)))] → W p l e zm_W_force s m args below meth c H locs 0 0 (MQ below (zQi B res S9) args s 0 0 B.2.2.2) (F0 m 73 ls []) := by
  intro x1 x2 x3 x4 S nx1 nx2 nx3 nx4 hf H locs ls hW hS hl
  unfold zf_W_force_73 at hf
  refine zr_iconst C zd_W_force_73 ?_
  exact zw_W_force_74 C hr hlk hK hSt hap r0 hr0 q6 hq6 (x1) (x2) (x3) (x4) (0) S nx1 nx2 nx3 nx4 (znb rfl) hf _ _ _ hW hS (lv_sub hl [0, 1, 2, 3, 4] rfl)

def zf_W_force_69 (r0 : Int) (q6 : Int → Int → Int → Int → Sg → Option (Int × Sg)) (x1 : Int) (x2 : Int) (x3 : Int) (x4 : Int) (S : Sg) : Option (Int × Sg) :=
    zf_W_force_74 r0 q6 (x1) (x2) (x3) (x4) (1) S
set_option maxHeartbeats 4000000 in
set_option maxRecDepth 100000 in
theorem zw_W_force_69 {p : Program} {l : Launch} {e : Env} {s : State} {m : MethodId} {args : Array Value} {below : List Frame} {meth : Method} {c : Code} {B : zB} (C : CallFix p m c zb_W_force 6 s args zT "IslandOfficeModel$World") (hr : meth.sig.returnType = some .int) (hlk : meth.locks = false) (hK : zK B s) (hSt : zSt B s) (hap : zAp B) (r0 : Int) (hr0 : 0 ≤ r0 ∧ r0 < 3) {res : Int} {S9 : Sg} (q6 : Int → Int → Int → Int → Sg → Option (Int × Sg)) (hq6 : ∀ (x1 : Int) (x2 : Int) (x3 : Int) (x4 : Int) (S : Sg) (nx1 : zn x1) (nx2 : zn x2) (nx3 : zn x3) (nx4 : zn x4), q6 x1 x2 x3 x4 S = some (res, S9) → ∀ (H : Heap) (locs : List Loc) (ls : Array Slot), zW B S H → va_S B.2.2.2 s.heap H locs → lv_has ls 6 [(0, .ref (B.2.1 5 (r0) (0))), (1, .int (zI (x1))), (2, .int (zI (x2))), (3, .int (zI (x3))), (4, .int (zI (x4)))] → W p l e zm_W_force s m args below meth c H locs 0 0 (MQ below (zQi B res S9) args s 0 0 B.2.2.2) (F0 m 6 ls [])) : ∀ (x1 : Int) (x2 : Int) (x3 : Int) (x4 : Int) (S : Sg) (nx1 : zn x1) (nx2 : zn x2) (nx3 : zn x3) (nx4 : zn x4), zf_W_force_69 r0 q6 x1 x2 x3 x4 S = some (res, S9) → ∀ (H : Heap) (locs : List Loc) (ls : Array Slot), zW B S H → va_S B.2.2.2 s.heap H locs → lv_has ls 6 [(0, .ref (B.2.1 5 (r0) (0))), (1, .int (zI (x1))), (2, .int (zI (x2))), (3, .int (zI (x3))), (4, .int (zI (x4)))] → W p l e zm_W_force s m args below meth c H locs 0 0 (MQ below (zQi B res S9) args s 0 0 B.2.2.2) (F0 m 69 ls []) := by
  intro x1 x2 x3 x4 S nx1 nx2 nx3 nx4 hf H locs ls hW hS hl
  unfold zf_W_force_69 at hf
  refine zr_iconst C zd_W_force_69 ?_
  refine lv_goto (tgt := 74) C.1 C.2.1 zd_W_force_70 (by decide) ?_
  exact zw_W_force_74 C hr hlk hK hSt hap r0 hr0 q6 hq6 (x1) (x2) (x3) (x4) (1) S nx1 nx2 nx3 nx4 (znb rfl) hf _ _ _ hW hS (lv_sub hl [0, 1, 2, 3, 4] rfl)

def zf_W_force_6 (r0 : Int) : Nat → Int → Int → Int → Int → Sg → Option (Int × Sg)
  | 0, _, _, _, _, _ => none
  | n + 1, x1, x2, x3, x4, S =>
    if (S 5 r0 0 16) ≤ x4 then (some (x3, S)) else (zbd (zf_W_subject (r0) x4 S) fun a2 S3 => if a2 = x1 then (zck (0 ≤ x4 ∧ x4 < 12) <| if (S3 5 r0 19 x4) = 0 then (if x2 < (S3 5 r0 15 x4) then (zf_W_force_73 r0 (zf_W_force_6 r0 n) (x1) (x2) (x3) (x4) S3) else (if (S3 5 r0 20 x4) = (-2) then (zf_W_force_69 r0 (zf_W_force_6 r0 n) (x1) (x2) (x3) (x4) S3) else (if (S3 5 r0 20 x4) ≤ x2 then (zf_W_force_73 r0 (zf_W_force_6 r0 n) (x1) (x2) (x3) (x4) S3) else (zf_W_force_69 r0 (zf_W_force_6 r0 n) (x1) (x2) (x3) (x4) S3)))) else (zf_W_force_73 r0 (zf_W_force_6 r0 n) (x1) (x2) (x3) (x4) S3)) else (zf_W_force_73 r0 (zf_W_force_6 r0 n) (x1) (x2) (x3) (x4) S3))
set_option maxHeartbeats 4000000 in
set_option maxRecDepth 100000 in
theorem zw_W_force_6 {p : Program} {l : Launch} {e : Env} {s : State} {m : MethodId} {args : Array Value} {below : List Frame} {meth : Method} {c : Code} {B : zB} (C : CallFix p m c zb_W_force 6 s args zT "IslandOfficeModel$World") (hr : meth.sig.returnType = some .int) (hlk : meth.locks = false) (hK : zK B s) (hSt : zSt B s) (hap : zAp B) (r0 : Int) (hr0 : 0 ≤ r0 ∧ r0 < 3) {res : Int} {S9 : Sg} : ∀ n : Nat, ∀ (x1 : Int) (x2 : Int) (x3 : Int) (x4 : Int) (S : Sg) (nx1 : zn x1) (nx2 : zn x2) (nx3 : zn x3) (nx4 : zn x4), zf_W_force_6 r0 n x1 x2 x3 x4 S = some (res, S9) → ∀ (H : Heap) (locs : List Loc) (ls : Array Slot), zW B S H → va_S B.2.2.2 s.heap H locs → lv_has ls 6 [(0, .ref (B.2.1 5 (r0) (0))), (1, .int (zI (x1))), (2, .int (zI (x2))), (3, .int (zI (x3))), (4, .int (zI (x4)))] → W p l e zm_W_force s m args below meth c H locs 0 0 (MQ below (zQi B res S9) args s 0 0 B.2.2.2) (F0 m 6 ls []) := by
  intro n
  induction n with
  | zero =>
    intro x1 x2 x3 x4 S nx1 nx2 nx3 nx4 hf H locs ls hW hS hl
    cases hf
  | succ n ih =>
    intro x1 x2 x3 x4 S nx1 nx2 nx3 nx4 hf H locs ls hW hS hl
    rw [zf_W_force_6] at hf
    refine lv_iload C.1 C.2.1 zd_W_force_6 (lv_at hl 4 rfl) ?_
    refine lv_aload_n C.1 C.2.1 zd_W_force_8 rfl (lv_at hl 0 rfl) ?_
    refine zg_W_laws (r := r0) C hK hW (zvd_5 hr0 (by decide)) zk_1307 zd_W_force_9 ?_
    refine zr_icmp_ge (tgt := 112) C nx4 (zWn hW _ _ _ _ rfl) zd_W_force_12 (by decide) (fun c1 => ?_) (fun c1 => ?_)
    · rw [if_pos c1] at hf
      refine lv_iload_n C.1 C.2.1 zd_W_force_112 rfl (lv_at hl 3 rfl) ?_
      cases hf
      exact zre_i C hr hlk hK hW hS nx3 zd_W_force_113
    · rw [if_neg c1] at hf
      refine lv_aload_n C.1 C.2.1 zd_W_force_15 rfl (lv_at hl 0 rfl) ?_
      refine lv_iload C.1 C.2.1 zd_W_force_16 (lv_at hl 4 rfl) ?_
      obtain ⟨a2, S3, ea2, hf⟩ := zbd_some hf
      refine zcVi (As := [.int (zI (x4))]) (rest := []) C hK hSt hW hS (zc_W_subject hap (r0) hr0 x4 S nx4 ea2) zq_W_subject zk_1708 (zrecv hK hW (zvd_5 hr0 (by decide)) (ze_5_0 B _ (r0)) rfl) ⟨rfl, rfl, by decide, by decide⟩ ⟨Nat.zero_le _, Nat.zero_le _⟩ rfl hl.1 rfl (lv_room (Nat.le_of_ble_eq_true rfl)) zd_W_force_18 (fun na2 H locs hW hS => ?_)
      refine lv_iload_n C.1 C.2.1 zd_W_force_21 rfl (lv_at hl 1 rfl) ?_
      refine zr_icmp_ne (tgt := 73) C na2 nx1 zd_W_force_22 (by decide) (fun c4 => ?_) (fun c4 => ?_)
      · rw [if_neg c4] at hf
        exact zw_W_force_73 C hr hlk hK hSt hap r0 hr0 (zf_W_force_6 r0 n) (ih) (x1) (x2) (x3) (x4) S3 nx1 nx2 nx3 nx4 hf _ _ _ hW hS (lv_sub hl [0, 1, 2, 3, 4] rfl)
      · rw [if_pos c4] at hf
        refine lv_aload_n C.1 C.2.1 zd_W_force_25 rfl (lv_at hl 0 rfl) ?_
        refine zg_W_isVoid (r := r0) C hK hW (zvd_5 hr0 (by decide)) zk_1321 zd_W_force_26 ?_
        refine lv_iload C.1 C.2.1 zd_W_force_29 (lv_at hl 4 rfl) ?_
        obtain ⟨h5, hf⟩ := zck_some hf
        refine ziald C hK hW (zvd_5 hr0 (by decide)) (fun f => ze_5_19 B f (r0)) (by decide) h5 zd_W_force_31 ?_
        refine zr_if_ne (tgt := 73) C (zWn hW _ _ _ _ rfl) zd_W_force_32 (by decide) (fun c6 => ?_) (fun c6 => ?_)
        · rw [if_neg c6] at hf
          exact zw_W_force_73 C hr hlk hK hSt hap r0 hr0 (zf_W_force_6 r0 n) (ih) (x1) (x2) (x3) (x4) S3 nx1 nx2 nx3 nx4 hf _ _ _ hW hS (lv_sub hl [0, 1, 2, 3, 4] rfl)
        · rw [if_pos c6] at hf
          refine lv_aload_n C.1 C.2.1 zd_W_force_35 rfl (lv_at hl 0 rfl) ?_
          refine zg_W_from (r := r0) C hK hW (zvd_5 hr0 (by decide)) zk_1313 zd_W_force_36 ?_
          refine lv_iload C.1 C.2.1 zd_W_force_39 (lv_at hl 4 rfl) ?_
          refine ziald C hK hW (zvd_5 hr0 (by decide)) (fun f => ze_5_15 B f (r0)) (by decide) h5 zd_W_force_41 ?_
          refine lv_iload_n C.1 C.2.1 zd_W_force_42 rfl (lv_at hl 2 rfl) ?_
          refine zr_icmp_gt (tgt := 73) C (zWn hW _ _ _ _ rfl) nx2 zd_W_force_43 (by decide) (fun c7 => ?_) (fun c7 => ?_)
          · rw [if_pos c7] at hf
            exact zw_W_force_73 C hr hlk hK hSt hap r0 hr0 (zf_W_force_6 r0 n) (ih) (x1) (x2) (x3) (x4) S3 nx1 nx2 nx3 nx4 hf _ _ _ hW hS (lv_sub hl [0, 1, 2, 3, 4] rfl)
          · rw [if_neg c7] at hf
            refine lv_aload_n C.1 C.2.1 zd_W_force_46 rfl (lv_at hl 0 rfl) ?_
            refine zg_W_repealed (r := r0) C hK hW (zvd_5 hr0 (by decide)) zk_1323 zd_W_force_47 ?_
            refine lv_iload C.1 C.2.1 zd_W_force_50 (lv_at hl 4 rfl) ?_
            refine ziald C hK hW (zvd_5 hr0 (by decide)) (fun f => ze_5_20 B f (r0)) (by decide) h5 zd_W_force_52 ?_
            refine zr_bipush C zd_W_force_53 (by decide) ?_
            refine zr_icmp_eq (tgt := 69) C (zWn hW _ _ _ _ rfl) (znb rfl) zd_W_force_55 (by decide) (fun c8 => ?_) (fun c8 => ?_)
            · rw [if_pos c8] at hf
              exact zw_W_force_69 C hr hlk hK hSt hap r0 hr0 (zf_W_force_6 r0 n) (ih) (x1) (x2) (x3) (x4) S3 nx1 nx2 nx3 nx4 hf _ _ _ hW hS (lv_sub hl [0, 1, 2, 3, 4] rfl)
            · rw [if_neg c8] at hf
              refine lv_aload_n C.1 C.2.1 zd_W_force_58 rfl (lv_at hl 0 rfl) ?_
              refine zg_W_repealed (r := r0) C hK hW (zvd_5 hr0 (by decide)) zk_1323 zd_W_force_59 ?_
              refine lv_iload C.1 C.2.1 zd_W_force_62 (lv_at hl 4 rfl) ?_
              refine ziald C hK hW (zvd_5 hr0 (by decide)) (fun f => ze_5_20 B f (r0)) (by decide) h5 zd_W_force_64 ?_
              refine lv_iload_n C.1 C.2.1 zd_W_force_65 rfl (lv_at hl 2 rfl) ?_
              refine zr_icmp_le (tgt := 73) C (zWn hW _ _ _ _ rfl) nx2 zd_W_force_66 (by decide) (fun c9 => ?_) (fun c9 => ?_)
              · rw [if_pos c9] at hf
                exact zw_W_force_73 C hr hlk hK hSt hap r0 hr0 (zf_W_force_6 r0 n) (ih) (x1) (x2) (x3) (x4) S3 nx1 nx2 nx3 nx4 hf _ _ _ hW hS (lv_sub hl [0, 1, 2, 3, 4] rfl)
              · rw [if_neg c9] at hf
                exact zw_W_force_69 C hr hlk hK hSt hap r0 hr0 (zf_W_force_6 r0 n) (ih) (x1) (x2) (x3) (x4) S3 nx1 nx2 nx3 nx4 hf _ _ _ hW hS (lv_sub hl [0, 1, 2, 3, 4] rfl)

def zf_W_force (r0 : Int) (x1 : Int) (x2 : Int) (S : Sg) : Option (Int × Sg) :=
    zf_W_force_6 r0 4096 (x1) (x2) (-2) (0) S
set_option maxHeartbeats 4000000 in
set_option maxRecDepth 100000 in
theorem zw_W_force {p : Program} {l : Launch} {e : Env} {s : State} {m : MethodId} {args : Array Value} {below : List Frame} {meth : Method} {c : Code} {B : zB} (C : CallFix p m c zb_W_force 6 s args zT "IslandOfficeModel$World") (hr : meth.sig.returnType = some .int) (hlk : meth.locks = false) (hK : zK B s) (hSt : zSt B s) (hap : zAp B) (r0 : Int) (hr0 : 0 ≤ r0 ∧ r0 < 3) {res : Int} {S9 : Sg} : ∀ (x1 : Int) (x2 : Int) (S : Sg) (nx1 : zn x1) (nx2 : zn x2), zf_W_force r0 x1 x2 S = some (res, S9) → ∀ (H : Heap) (locs : List Loc) (ls : Array Slot), zW B S H → va_S B.2.2.2 s.heap H locs → lv_has ls 6 [(0, .ref (B.2.1 5 (r0) (0))), (1, .int (zI (x1))), (2, .int (zI (x2)))] → W p l e zm_W_force s m args below meth c H locs 0 0 (MQ below (zQi B res S9) args s 0 0 B.2.2.2) (F0 m 0 ls []) := by
  intro x1 x2 S nx1 nx2 hf H locs ls hW hS hl
  unfold zf_W_force at hf
  refine zr_bipush C zd_W_force_0 (by decide) ?_
  refine lv_istore_n (lv' := [(3, .int (zI (-2))), (0, .ref (B.2.1 5 (r0) (0))), (1, .int (zI (x1))), (2, .int (zI (x2)))]) C.1 C.2.1 zd_W_force_2 rfl hl (by decide) rfl (fun ls hl => ?_)
  refine zr_iconst C zd_W_force_3 ?_
  refine lv_istore (lv' := [(4, .int (zI (0))), (3, .int (zI (-2))), (0, .ref (B.2.1 5 (r0) (0))), (1, .int (zI (x1))), (2, .int (zI (x2)))]) C.1 C.2.1 zd_W_force_4 hl (by decide) rfl (fun ls hl => ?_)
  exact zw_W_force_6 C hr hlk hK hSt hap r0 hr0 4096 (x1) (x2) (-2) (0) S nx1 nx2 (znb rfl) (znb rfl) hf _ _ _ hW hS (lv_sub hl [2, 3, 4, 1, 0] rfl)

theorem zc_W_force {l : Launch} {B : zB} (hap : zAp B) (r0 : Int) (hr0 : 0 ≤ r0 ∧ r0 < 3) (x1 : Int) (x2 : Int) (S : Sg) (nx1 : zn x1) (nx2 : zn x2) {res : Int} {S9 : Sg} (hf : zf_W_force r0 x1 x2 S = some (res, S9)) : Met l zy_W_force (Cond.code zy_W_force zb_W_force 6 (some .int) :: zT) zm_W_force (zP B S [.ref (B.2.1 5 (r0) (0)), .int (zI (x1)), .int (zI (x2))]) (zQi B res S9) 0 0 B.2.2.2 :=
  zmet (by decide) (Nat.le_of_ble_eq_true rfl) (fun p e s m args below meth c C hr hlk hK hSt hW ls hl => zw_W_force C hr hlk hK hSt hap r0 hr0 x1 x2 S nx1 nx2 hf _ _ _ hW va_S.rf hl)
/-! IslandOfficeModel$World.field(I)I -/
abbrev zy_W_field : MethodName := ⟨"IslandOfficeModel$World", "field", "(I)I"⟩
abbrev zb_W_field : ByteArray := prog_15_method_13_code
abbrev zm_W_field : Room := { frames := 2, cells := 0, slots := 0, locals := 44 }
theorem zq_W_field : zMy zy_W_field zb_W_field 2 (some .int) 1 := ⟨zk_1740, zk_1739, zs_61, zk_15, by decide, by decide, by decide +kernel⟩
theorem zd_W_field_0 : decode zb_W_field 0 = .ok (.iload_n 1, 1) := by decide +kernel
theorem zd_W_field_1 : decode zb_W_field 1 = .ok (.lookupswitch 127 #[(97, 59), (99, 91), (104, 77), (107, 68), (115, 106), (119, 119)], 59) := by decide +kernel
theorem zd_W_field_60 : decode zb_W_field 60 = .ok (.aload_n 0, 1) := by decide +kernel
theorem zd_W_field_61 : decode zb_W_field 61 = .ok (.aload_n 0, 1) := by decide +kernel
theorem zd_W_field_62 : decode zb_W_field 62 = .ok (.getfield 207, 3) := by decide +kernel
theorem zd_W_field_65 : decode zb_W_field 65 = .ok (.invokevirtual 189, 3) := by decide +kernel
theorem zd_W_field_68 : decode zb_W_field 68 = .ok (.ireturn, 1) := by decide +kernel
theorem zd_W_field_69 : decode zb_W_field 69 = .ok (.aload_n 0, 1) := by decide +kernel
theorem zd_W_field_70 : decode zb_W_field 70 = .ok (.aload_n 0, 1) := by decide +kernel
theorem zd_W_field_71 : decode zb_W_field 71 = .ok (.getfield 207, 3) := by decide +kernel
theorem zd_W_field_74 : decode zb_W_field 74 = .ok (.invokevirtual 193, 3) := by decide +kernel
theorem zd_W_field_77 : decode zb_W_field 77 = .ok (.ireturn, 1) := by decide +kernel
theorem zd_W_field_78 : decode zb_W_field 78 = .ok (.aload_n 0, 1) := by decide +kernel
theorem zd_W_field_79 : decode zb_W_field 79 = .ok (.aload_n 0, 1) := by decide +kernel
theorem zd_W_field_80 : decode zb_W_field 80 = .ok (.getfield 15, 3) := by decide +kernel
theorem zd_W_field_83 : decode zb_W_field 83 = .ok (.aload_n 0, 1) := by decide +kernel
theorem zd_W_field_84 : decode zb_W_field 84 = .ok (.getfield 207, 3) := by decide +kernel
theorem zd_W_field_87 : decode zb_W_field 87 = .ok (.iaload, 1) := by decide +kernel
theorem zd_W_field_88 : decode zb_W_field 88 = .ok (.invokevirtual 210, 3) := by decide +kernel
theorem zd_W_field_91 : decode zb_W_field 91 = .ok (.ireturn, 1) := by decide +kernel
theorem zd_W_field_92 : decode zb_W_field 92 = .ok (.aload_n 0, 1) := by decide +kernel
theorem zd_W_field_93 : decode zb_W_field 93 = .ok (.getfield 39, 3) := by decide +kernel
theorem zd_W_field_96 : decode zb_W_field 96 = .ok (.aload_n 0, 1) := by decide +kernel
theorem zd_W_field_97 : decode zb_W_field 97 = .ok (.getfield 15, 3) := by decide +kernel
theorem zd_W_field_100 : decode zb_W_field 100 = .ok (.aload_n 0, 1) := by decide +kernel
theorem zd_W_field_101 : decode zb_W_field 101 = .ok (.getfield 207, 3) := by decide +kernel
theorem zd_W_field_104 : decode zb_W_field 104 = .ok (.iaload, 1) := by decide +kernel
theorem zd_W_field_105 : decode zb_W_field 105 = .ok (.iaload, 1) := by decide +kernel
theorem zd_W_field_106 : decode zb_W_field 106 = .ok (.ireturn, 1) := by decide +kernel
theorem zd_W_field_107 : decode zb_W_field 107 = .ok (.aload_n 0, 1) := by decide +kernel
theorem zd_W_field_108 : decode zb_W_field 108 = .ok (.getfield 21, 3) := by decide +kernel
theorem zd_W_field_111 : decode zb_W_field 111 = .ok (.aload_n 0, 1) := by decide +kernel
theorem zd_W_field_112 : decode zb_W_field 112 = .ok (.getfield 207, 3) := by decide +kernel
theorem zd_W_field_115 : decode zb_W_field 115 = .ok (.iaload, 1) := by decide +kernel
theorem zd_W_field_116 : decode zb_W_field 116 = .ok (.invokestatic 213, 3) := by decide +kernel
theorem zd_W_field_119 : decode zb_W_field 119 = .ok (.ireturn, 1) := by decide +kernel
theorem zd_W_field_120 : decode zb_W_field 120 = .ok (.aload_n 0, 1) := by decide +kernel
theorem zd_W_field_121 : decode zb_W_field 121 = .ok (.getfield 155, 3) := by decide +kernel
theorem zd_W_field_124 : decode zb_W_field 124 = .ok (.bipush 52, 2) := by decide +kernel
theorem zd_W_field_126 : decode zb_W_field 126 = .ok (.irem, 1) := by decide +kernel
theorem zd_W_field_127 : decode zb_W_field 127 = .ok (.ireturn, 1) := by decide +kernel
theorem zd_W_field_128 : decode zb_W_field 128 = .ok (.aload_n 0, 1) := by decide +kernel
theorem zd_W_field_129 : decode zb_W_field 129 = .ok (.getfield 30, 3) := by decide +kernel
theorem zd_W_field_132 : decode zb_W_field 132 = .ok (.aload_n 0, 1) := by decide +kernel
theorem zd_W_field_133 : decode zb_W_field 133 = .ok (.getfield 207, 3) := by decide +kernel
theorem zd_W_field_136 : decode zb_W_field 136 = .ok (.iaload, 1) := by decide +kernel
theorem zd_W_field_137 : decode zb_W_field 137 = .ok (.ireturn, 1) := by decide +kernel

def zf_W_field (r0 : Int) (x1 : Int) (S : Sg) : Option (Int × Sg) :=
    if x1 = 97 then (zbd (zf_W_age (r0) (S 5 r0 0 49) S) fun a2 S3 => some (a2, S3)) else (if x1 = 99 then (zck (0 ≤ (S 5 r0 0 49) ∧ (S 5 r0 0 49) < 40) <| zck (0 ≤ (S 5 r0 2 (S 5 r0 0 49)) ∧ (S 5 r0 2 (S 5 r0 0 49)) < 12) <| some (S 5 r0 10 (S 5 r0 2 (S 5 r0 0 49)), S)) else (if x1 = 104 then (zck (0 ≤ (S 5 r0 0 49) ∧ (S 5 r0 0 49) < 40) <| zbd (zf_W_heads (r0) (S 5 r0 2 (S 5 r0 0 49)) S) fun a9 S10 => some (a9, S10)) else (if x1 = 107 then (zbd (zf_W_kind (r0) (S 5 r0 0 49) S) fun a12 S13 => some (a12, S13)) else (if x1 = 115 then (zck (0 ≤ (S 5 r0 0 49) ∧ (S 5 r0 0 49) < 40) <| zbd (zf_Ji_bitCount (S 5 r0 4 (S 5 r0 0 49)) S) fun a16 S17 => some (a16, S17)) else (if x1 = 119 then (some (zrem (S 5 r0 0 0) 52, S)) else (zck (0 ≤ (S 5 r0 0 49) ∧ (S 5 r0 0 49) < 40) <| some (S 5 r0 7 (S 5 r0 0 49), S)))))))
set_option maxHeartbeats 4000000 in
set_option maxRecDepth 100000 in
theorem zw_W_field {p : Program} {l : Launch} {e : Env} {s : State} {m : MethodId} {args : Array Value} {below : List Frame} {meth : Method} {c : Code} {B : zB} (C : CallFix p m c zb_W_field 2 s args zT "IslandOfficeModel$World") (hr : meth.sig.returnType = some .int) (hlk : meth.locks = false) (hK : zK B s) (hSt : zSt B s) (hap : zAp B) (r0 : Int) (hr0 : 0 ≤ r0 ∧ r0 < 3) {res : Int} {S9 : Sg} : ∀ (x1 : Int) (S : Sg) (nx1 : zn x1), zf_W_field r0 x1 S = some (res, S9) → ∀ (H : Heap) (locs : List Loc) (ls : Array Slot), zW B S H → va_S B.2.2.2 s.heap H locs → lv_has ls 2 [(0, .ref (B.2.1 5 (r0) (0))), (1, .int (zI (x1)))] → W p l e zm_W_field s m args below meth c H locs 0 0 (MQ below (zQi B res S9) args s 0 0 B.2.2.2) (F0 m 0 ls []) := by
  intro x1 S nx1 hf H locs ls hW hS hl
  unfold zf_W_field at hf
  refine lv_iload_n C.1 C.2.1 zd_W_field_0 rfl (lv_at hl 1 rfl) ?_
  by_cases c1 : x1 = 97
  · rw [if_pos c1] at hf
    refine zr_look (off := 59) (tgt := 60) C nx1 zd_W_field_1 (by decide) (by rw [c1]; rfl) (by decide) ?_
    refine lv_aload_n C.1 C.2.1 zd_W_field_60 rfl (lv_at hl 0 rfl) ?_
    refine lv_aload_n C.1 C.2.1 zd_W_field_61 rfl (lv_at hl 0 rfl) ?_
    refine zg_W_whom (r := r0) C hK hW (zvd_5 hr0 (by decide)) zk_1371 zd_W_field_62 ?_
    obtain ⟨a2, S3, ea2, hf⟩ := zbd_some hf
    refine zcVi (As := [.int (zI (S 5 r0 0 49))]) (rest := []) C hK hSt hW hS (zc_W_age hap (r0) hr0 (S 5 r0 0 49) S (zWn hW _ _ _ _ rfl) ea2) zq_W_age zk_1584 (zrecv hK hW (zvd_5 hr0 (by decide)) (ze_5_0 B _ (r0)) rfl) ⟨rfl, rfl, by decide, by decide⟩ ⟨Nat.zero_le _, Nat.zero_le _⟩ rfl hl.1 rfl (lv_room (Nat.le_of_ble_eq_true rfl)) zd_W_field_65 (fun na2 H locs hW hS => ?_)
    cases hf
    exact zre_i C hr hlk hK hW hS na2 zd_W_field_68
  rw [if_neg c1] at hf
  by_cases c4 : x1 = 99
  · rw [if_pos c4] at hf
    refine zr_look (off := 91) (tgt := 92) C nx1 zd_W_field_1 (by decide) (by rw [c4]; rfl) (by decide) ?_
    refine lv_aload_n C.1 C.2.1 zd_W_field_92 rfl (lv_at hl 0 rfl) ?_
    refine zg_W_cattle (r := r0) C hK hW (zvd_5 hr0 (by decide)) zk_1297 zd_W_field_93 ?_
    refine lv_aload_n C.1 C.2.1 zd_W_field_96 rfl (lv_at hl 0 rfl) ?_
    refine zg_W_house (r := r0) C hK hW (zvd_5 hr0 (by decide)) zk_1281 zd_W_field_97 ?_
    refine lv_aload_n C.1 C.2.1 zd_W_field_100 rfl (lv_at hl 0 rfl) ?_
    refine zg_W_whom (r := r0) C hK hW (zvd_5 hr0 (by decide)) zk_1371 zd_W_field_101 ?_
    obtain ⟨h5, hf⟩ := zck_some hf
    refine ziald C hK hW (zvd_5 hr0 (by decide)) (fun f => ze_5_2 B f (r0)) (by decide) h5 zd_W_field_104 ?_
    obtain ⟨h6, hf⟩ := zck_some hf
    refine ziald C hK hW (zvd_5 hr0 (by decide)) (fun f => ze_5_10 B f (r0)) (by decide) h6 zd_W_field_105 ?_
    cases hf
    exact zre_i C hr hlk hK hW hS (zWn hW _ _ _ _ rfl) zd_W_field_106
  rw [if_neg c4] at hf
  by_cases c7 : x1 = 104
  · rw [if_pos c7] at hf
    refine zr_look (off := 77) (tgt := 78) C nx1 zd_W_field_1 (by decide) (by rw [c7]; rfl) (by decide) ?_
    refine lv_aload_n C.1 C.2.1 zd_W_field_78 rfl (lv_at hl 0 rfl) ?_
    refine lv_aload_n C.1 C.2.1 zd_W_field_79 rfl (lv_at hl 0 rfl) ?_
    refine zg_W_house (r := r0) C hK hW (zvd_5 hr0 (by decide)) zk_1281 zd_W_field_80 ?_
    refine lv_aload_n C.1 C.2.1 zd_W_field_83 rfl (lv_at hl 0 rfl) ?_
    refine zg_W_whom (r := r0) C hK hW (zvd_5 hr0 (by decide)) zk_1371 zd_W_field_84 ?_
    obtain ⟨h8, hf⟩ := zck_some hf
    refine ziald C hK hW (zvd_5 hr0 (by decide)) (fun f => ze_5_2 B f (r0)) (by decide) h8 zd_W_field_87 ?_
    obtain ⟨a9, S10, ea9, hf⟩ := zbd_some hf
    refine zcVi (As := [.int (zI (S 5 r0 2 (S 5 r0 0 49)))]) (rest := []) C hK hSt hW hS (zc_W_heads hap (r0) hr0 (S 5 r0 2 (S 5 r0 0 49)) S (zWn hW _ _ _ _ rfl) ea9) zq_W_heads zk_1741 (zrecv hK hW (zvd_5 hr0 (by decide)) (ze_5_0 B _ (r0)) rfl) ⟨rfl, rfl, by decide, by decide⟩ ⟨Nat.zero_le _, Nat.zero_le _⟩ rfl hl.1 rfl (lv_room (Nat.le_of_ble_eq_true rfl)) zd_W_field_88 (fun na9 H locs hW hS => ?_)
    cases hf
    exact zre_i C hr hlk hK hW hS na9 zd_W_field_91
  rw [if_neg c7] at hf
  by_cases c11 : x1 = 107
  · rw [if_pos c11] at hf
    refine zr_look (off := 68) (tgt := 69) C nx1 zd_W_field_1 (by decide) (by rw [c11]; rfl) (by decide) ?_
    refine lv_aload_n C.1 C.2.1 zd_W_field_69 rfl (lv_at hl 0 rfl) ?_
    refine lv_aload_n C.1 C.2.1 zd_W_field_70 rfl (lv_at hl 0 rfl) ?_
    refine zg_W_whom (r := r0) C hK hW (zvd_5 hr0 (by decide)) zk_1371 zd_W_field_71 ?_
    obtain ⟨a12, S13, ea12, hf⟩ := zbd_some hf
    refine zcVi (As := [.int (zI (S 5 r0 0 49))]) (rest := []) C hK hSt hW hS (zc_W_kind hap (r0) hr0 (S 5 r0 0 49) S (zWn hW _ _ _ _ rfl) ea12) zq_W_kind zk_1621 (zrecv hK hW (zvd_5 hr0 (by decide)) (ze_5_0 B _ (r0)) rfl) ⟨rfl, rfl, by decide, by decide⟩ ⟨Nat.zero_le _, Nat.zero_le _⟩ rfl hl.1 rfl (lv_room (Nat.le_of_ble_eq_true rfl)) zd_W_field_74 (fun na12 H locs hW hS => ?_)
    cases hf
    exact zre_i C hr hlk hK hW hS na12 zd_W_field_77
  rw [if_neg c11] at hf
  by_cases c14 : x1 = 115
  · rw [if_pos c14] at hf
    refine zr_look (off := 106) (tgt := 107) C nx1 zd_W_field_1 (by decide) (by rw [c14]; rfl) (by decide) ?_
    refine lv_aload_n C.1 C.2.1 zd_W_field_107 rfl (lv_at hl 0 rfl) ?_
    refine zg_W_skills (r := r0) C hK hW (zvd_5 hr0 (by decide)) zk_1285 zd_W_field_108 ?_
    refine lv_aload_n C.1 C.2.1 zd_W_field_111 rfl (lv_at hl 0 rfl) ?_
    refine zg_W_whom (r := r0) C hK hW (zvd_5 hr0 (by decide)) zk_1371 zd_W_field_112 ?_
    obtain ⟨h15, hf⟩ := zck_some hf
    refine ziald C hK hW (zvd_5 hr0 (by decide)) (fun f => ze_5_4 B f (r0)) (by decide) h15 zd_W_field_115 ?_
    obtain ⟨a16, S17, ea16, hf⟩ := zbd_some hf
    refine zcSi (As := [.int (zI (S 5 r0 4 (S 5 r0 0 49)))]) (rest := []) C hK hSt hW hS (zc_Ji_bitCount hap (S 5 r0 4 (S 5 r0 0 49)) S (zWn hW _ _ _ _ rfl) ea16) zq_Ji_bitCount zk_1742 ⟨rfl, rfl, by decide, by decide⟩ ⟨Nat.zero_le _, Nat.zero_le _⟩ rfl hl.1 rfl (lv_room (Nat.le_of_ble_eq_true rfl)) zd_W_field_116 (fun na16 H locs hW hS => ?_)
    cases hf
    exact zre_i C hr hlk hK hW hS na16 zd_W_field_119
  rw [if_neg c14] at hf
  by_cases c18 : x1 = 119
  · rw [if_pos c18] at hf
    refine zr_look (off := 119) (tgt := 120) C nx1 zd_W_field_1 (by decide) (by rw [c18]; rfl) (by decide) ?_
    refine lv_aload_n C.1 C.2.1 zd_W_field_120 rfl (lv_at hl 0 rfl) ?_
    refine zg_W_week (r := r0) C hK hW (zvd_5 hr0 (by decide)) zk_1275 zd_W_field_121 ?_
    refine zr_bipush C zd_W_field_124 (by decide) ?_
    refine zr_irem C (zWn hW _ _ _ _ rfl) (znb rfl) (by decide) zd_W_field_126 ?_
    cases hf
    exact zre_i C hr hlk hK hW hS (zn_rem _ _) zd_W_field_127
  rw [if_neg c18] at hf
  refine zr_look (off := 127) (tgt := 128) C nx1 zd_W_field_1 (by decide) (by simp [Op.lookupswitch.offset, show ¬ (x1 = 97) from c1, show ¬ ((97 : Int) = x1) from Ne.symm c1, show ¬ (x1 = 99) from c4, show ¬ ((99 : Int) = x1) from Ne.symm c4, show ¬ (x1 = 104) from c7, show ¬ ((104 : Int) = x1) from Ne.symm c7, show ¬ (x1 = 107) from c11, show ¬ ((107 : Int) = x1) from Ne.symm c11, show ¬ (x1 = 115) from c14, show ¬ ((115 : Int) = x1) from Ne.symm c14, show ¬ (x1 = 119) from c18, show ¬ ((119 : Int) = x1) from Ne.symm c18]) (by decide) ?_
  refine lv_aload_n C.1 C.2.1 zd_W_field_128 rfl (lv_at hl 0 rfl) ?_
  refine zg_W_discontent (r := r0) C hK hW (zvd_5 hr0 (by decide)) zk_1291 zd_W_field_129 ?_
  refine lv_aload_n C.1 C.2.1 zd_W_field_132 rfl (lv_at hl 0 rfl) ?_
  refine zg_W_whom (r := r0) C hK hW (zvd_5 hr0 (by decide)) zk_1371 zd_W_field_133 ?_
  obtain ⟨h19, hf⟩ := zck_some hf
  refine ziald C hK hW (zvd_5 hr0 (by decide)) (fun f => ze_5_7 B f (r0)) (by decide) h19 zd_W_field_136 ?_
  cases hf
  exact zre_i C hr hlk hK hW hS (zWn hW _ _ _ _ rfl) zd_W_field_137

theorem zc_W_field {l : Launch} {B : zB} (hap : zAp B) (r0 : Int) (hr0 : 0 ≤ r0 ∧ r0 < 3) (x1 : Int) (S : Sg) (nx1 : zn x1) {res : Int} {S9 : Sg} (hf : zf_W_field r0 x1 S = some (res, S9)) : Met l zy_W_field (Cond.code zy_W_field zb_W_field 2 (some .int) :: zT) zm_W_field (zP B S [.ref (B.2.1 5 (r0) (0)), .int (zI (x1))]) (zQi B res S9) 0 0 B.2.2.2 :=
  zmet (by decide) (Nat.le_of_ble_eq_true rfl) (fun p e s m args below meth c C hr hlk hK hSt hW ls hl => zw_W_field C hr hlk hK hSt hap r0 hr0 x1 S nx1 hf _ _ _ hW va_S.rf hl)
/-! IslandOfficeModel$World.atom()I -/
abbrev zy_W_atom : MethodName := ⟨"IslandOfficeModel$World", "atom", "()I"⟩
abbrev zb_W_atom : ByteArray := prog_15_method_14_code
abbrev zm_W_atom : Room := { frames := 3, cells := 0, slots := 0, locals := 65 }
theorem zq_W_atom : zMy zy_W_atom zb_W_atom 3 (some .int) 0 := ⟨zk_1736, zk_1735, zs_60, zk_15, by decide, by decide, by decide +kernel⟩
theorem zd_W_atom_0 : decode zb_W_atom 0 = .ok (.aload_n 0, 1) := by decide +kernel
theorem zd_W_atom_1 : decode zb_W_atom 1 = .ok (.getfield 218, 3) := by decide +kernel
theorem zd_W_atom_4 : decode zb_W_atom 4 = .ok (.aload_n 0, 1) := by decide +kernel
theorem zd_W_atom_5 : decode zb_W_atom 5 = .ok (.dup, 1) := by decide +kernel
theorem zd_W_atom_6 : decode zb_W_atom 6 = .ok (.getfield 221, 3) := by decide +kernel
theorem zd_W_atom_9 : decode zb_W_atom 9 = .ok (.dup_x1, 1) := by decide +kernel
theorem zd_W_atom_10 : decode zb_W_atom 10 = .ok (.iconst 1, 1) := by decide +kernel
theorem zd_W_atom_11 : decode zb_W_atom 11 = .ok (.iadd, 1) := by decide +kernel
theorem zd_W_atom_12 : decode zb_W_atom 12 = .ok (.putfield 221, 3) := by decide +kernel
theorem zd_W_atom_15 : decode zb_W_atom 15 = .ok (.iaload, 1) := by decide +kernel
theorem zd_W_atom_16 : decode zb_W_atom 16 = .ok (.istore_n 1, 1) := by decide +kernel
theorem zd_W_atom_17 : decode zb_W_atom 17 = .ok (.iload_n 1, 1) := by decide +kernel
theorem zd_W_atom_18 : decode zb_W_atom 18 = .ok (.bipush 48, 2) := by decide +kernel
theorem zd_W_atom_20 : decode zb_W_atom 20 = .ok (.if_icmp .lt 9, 3) := by decide +kernel
theorem zd_W_atom_23 : decode zb_W_atom 23 = .ok (.iload_n 1, 1) := by decide +kernel
theorem zd_W_atom_24 : decode zb_W_atom 24 = .ok (.bipush 57, 2) := by decide +kernel
theorem zd_W_atom_26 : decode zb_W_atom 26 = .ok (.if_icmp .le 9, 3) := by decide +kernel
theorem zd_W_atom_29 : decode zb_W_atom 29 = .ok (.aload_n 0, 1) := by decide +kernel
theorem zd_W_atom_30 : decode zb_W_atom 30 = .ok (.iload_n 1, 1) := by decide +kernel
theorem zd_W_atom_31 : decode zb_W_atom 31 = .ok (.invokevirtual 224, 3) := by decide +kernel
theorem zd_W_atom_34 : decode zb_W_atom 34 = .ok (.ireturn, 1) := by decide +kernel
theorem zd_W_atom_35 : decode zb_W_atom 35 = .ok (.iload_n 1, 1) := by decide +kernel
theorem zd_W_atom_36 : decode zb_W_atom 36 = .ok (.bipush 48, 2) := by decide +kernel
theorem zd_W_atom_38 : decode zb_W_atom 38 = .ok (.isub, 1) := by decide +kernel
theorem zd_W_atom_39 : decode zb_W_atom 39 = .ok (.istore_n 2, 1) := by decide +kernel
theorem zd_W_atom_40 : decode zb_W_atom 40 = .ok (.aload_n 0, 1) := by decide +kernel
theorem zd_W_atom_41 : decode zb_W_atom 41 = .ok (.getfield 218, 3) := by decide +kernel
theorem zd_W_atom_44 : decode zb_W_atom 44 = .ok (.aload_n 0, 1) := by decide +kernel
theorem zd_W_atom_45 : decode zb_W_atom 45 = .ok (.getfield 221, 3) := by decide +kernel
theorem zd_W_atom_48 : decode zb_W_atom 48 = .ok (.iaload, 1) := by decide +kernel
theorem zd_W_atom_49 : decode zb_W_atom 49 = .ok (.bipush 48, 2) := by decide +kernel
theorem zd_W_atom_51 : decode zb_W_atom 51 = .ok (.if_icmp .lt 45, 3) := by decide +kernel
theorem zd_W_atom_54 : decode zb_W_atom 54 = .ok (.aload_n 0, 1) := by decide +kernel
theorem zd_W_atom_55 : decode zb_W_atom 55 = .ok (.getfield 218, 3) := by decide +kernel
theorem zd_W_atom_58 : decode zb_W_atom 58 = .ok (.aload_n 0, 1) := by decide +kernel
theorem zd_W_atom_59 : decode zb_W_atom 59 = .ok (.getfield 221, 3) := by decide +kernel
theorem zd_W_atom_62 : decode zb_W_atom 62 = .ok (.iaload, 1) := by decide +kernel
theorem zd_W_atom_63 : decode zb_W_atom 63 = .ok (.bipush 57, 2) := by decide +kernel
theorem zd_W_atom_65 : decode zb_W_atom 65 = .ok (.if_icmp .gt 31, 3) := by decide +kernel
theorem zd_W_atom_68 : decode zb_W_atom 68 = .ok (.bipush 10, 2) := by decide +kernel
theorem zd_W_atom_70 : decode zb_W_atom 70 = .ok (.iload_n 2, 1) := by decide +kernel
theorem zd_W_atom_71 : decode zb_W_atom 71 = .ok (.imul, 1) := by decide +kernel
theorem zd_W_atom_72 : decode zb_W_atom 72 = .ok (.aload_n 0, 1) := by decide +kernel
theorem zd_W_atom_73 : decode zb_W_atom 73 = .ok (.getfield 218, 3) := by decide +kernel
theorem zd_W_atom_76 : decode zb_W_atom 76 = .ok (.aload_n 0, 1) := by decide +kernel
theorem zd_W_atom_77 : decode zb_W_atom 77 = .ok (.dup, 1) := by decide +kernel
theorem zd_W_atom_78 : decode zb_W_atom 78 = .ok (.getfield 221, 3) := by decide +kernel
theorem zd_W_atom_81 : decode zb_W_atom 81 = .ok (.dup_x1, 1) := by decide +kernel
theorem zd_W_atom_82 : decode zb_W_atom 82 = .ok (.iconst 1, 1) := by decide +kernel
theorem zd_W_atom_83 : decode zb_W_atom 83 = .ok (.iadd, 1) := by decide +kernel
theorem zd_W_atom_84 : decode zb_W_atom 84 = .ok (.putfield 221, 3) := by decide +kernel
theorem zd_W_atom_87 : decode zb_W_atom 87 = .ok (.iaload, 1) := by decide +kernel
theorem zd_W_atom_88 : decode zb_W_atom 88 = .ok (.iadd, 1) := by decide +kernel
theorem zd_W_atom_89 : decode zb_W_atom 89 = .ok (.bipush 48, 2) := by decide +kernel
theorem zd_W_atom_91 : decode zb_W_atom 91 = .ok (.isub, 1) := by decide +kernel
theorem zd_W_atom_92 : decode zb_W_atom 92 = .ok (.istore_n 2, 1) := by decide +kernel
theorem zd_W_atom_93 : decode zb_W_atom 93 = .ok (.goto (-53), 3) := by decide +kernel
theorem zd_W_atom_96 : decode zb_W_atom 96 = .ok (.iload_n 2, 1) := by decide +kernel
theorem zd_W_atom_97 : decode zb_W_atom 97 = .ok (.ireturn, 1) := by decide +kernel

def zf_W_atom_29 (r0 : Int) (x1 : Int) (S : Sg) : Option (Int × Sg) :=
    zbd (zf_W_field (r0) x1 S) fun a1 S2 => some (a1, S2)
set_option maxHeartbeats 4000000 in
set_option maxRecDepth 100000 in
theorem zw_W_atom_29 {p : Program} {l : Launch} {e : Env} {s : State} {m : MethodId} {args : Array Value} {below : List Frame} {meth : Method} {c : Code} {B : zB} (C : CallFix p m c zb_W_atom 3 s args zT "IslandOfficeModel$World") (hr : meth.sig.returnType = some .int) (hlk : meth.locks = false) (hK : zK B s) (hSt : zSt B s) (hap : zAp B) (r0 : Int) (hr0 : 0 ≤ r0 ∧ r0 < 3) {res : Int} {S9 : Sg} : ∀ (x1 : Int) (S : Sg) (nx1 : zn x1), zf_W_atom_29 r0 x1 S = some (res, S9) → ∀ (H : Heap) (locs : List Loc) (ls : Array Slot), zW B S H → va_S B.2.2.2 s.heap H locs → lv_has ls 3 [(0, .ref (B.2.1 5 (r0) (0))), (1, .int (zI (x1)))] → W p l e zm_W_atom s m args below meth c H locs 0 0 (MQ below (zQi B res S9) args s 0 0 B.2.2.2) (F0 m 29 ls []) := by
  intro x1 S nx1 hf H locs ls hW hS hl
  unfold zf_W_atom_29 at hf
  refine lv_aload_n C.1 C.2.1 zd_W_atom_29 rfl (lv_at hl 0 rfl) ?_
  refine lv_iload_n C.1 C.2.1 zd_W_atom_30 rfl (lv_at hl 1 rfl) ?_
  obtain ⟨a1, S2, ea1, hf⟩ := zbd_some hf
  refine zcVi (As := [.int (zI (x1))]) (rest := []) C hK hSt hW hS (zc_W_field hap (r0) hr0 x1 S nx1 ea1) zq_W_field zk_1737 (zrecv hK hW (zvd_5 hr0 (by decide)) (ze_5_0 B _ (r0)) rfl) ⟨rfl, rfl, by decide, by decide⟩ ⟨Nat.zero_le _, Nat.zero_le _⟩ rfl hl.1 rfl (lv_room (Nat.le_of_ble_eq_true rfl)) zd_W_atom_31 (fun na1 H locs hW hS => ?_)
  cases hf
  exact zre_i C hr hlk hK hW hS na1 zd_W_atom_34

def zf_W_atom_40 (r0 : Int) : Nat → Int → Sg → Option (Int × Sg)
  | 0, _, _ => none
  | n + 1, x2, S =>
    zck (S 5 r0 0 47 = 1) <| zck (0 ≤ (S 5 r0 0 48) ∧ (S 5 r0 0 48) < 121) <| if (S 5 r0 35 (S 5 r0 0 48)) < 48 then (some (x2, S)) else (if 57 < (S 5 r0 35 (S 5 r0 0 48)) then (some (x2, S)) else (zlt (zu S 5 r0 0 48 (zw ((S 5 r0 0 48) + 1))) fun S5 => zlt (zw ((zw ((zw (10 * x2)) + (S5 5 r0 35 (S 5 r0 0 48)))) - 48)) fun v7 => (zf_W_atom_40 r0 n) (v7) S5))
set_option maxHeartbeats 4000000 in
set_option maxRecDepth 100000 in
theorem zw_W_atom_40 {p : Program} {l : Launch} {e : Env} {s : State} {m : MethodId} {args : Array Value} {below : List Frame} {meth : Method} {c : Code} {B : zB} (C : CallFix p m c zb_W_atom 3 s args zT "IslandOfficeModel$World") (hr : meth.sig.returnType = some .int) (hlk : meth.locks = false) (hK : zK B s) (hSt : zSt B s) (hap : zAp B) (r0 : Int) (hr0 : 0 ≤ r0 ∧ r0 < 3) {res : Int} {S9 : Sg} : ∀ n : Nat, ∀ (x2 : Int) (S : Sg) (nx2 : zn x2), zf_W_atom_40 r0 n x2 S = some (res, S9) → ∀ (H : Heap) (locs : List Loc) (ls : Array Slot), zW B S H → va_S B.2.2.2 s.heap H locs → lv_has ls 3 [(0, .ref (B.2.1 5 (r0) (0))), (2, .int (zI (x2)))] → W p l e zm_W_atom s m args below meth c H locs 0 0 (MQ below (zQi B res S9) args s 0 0 B.2.2.2) (F0 m 40 ls []) := by
  intro n
  induction n with
  | zero =>
    intro x2 S nx2 hf H locs ls hW hS hl
    cases hf
  | succ n ih =>
    intro x2 S nx2 hf H locs ls hW hS hl
    rw [zf_W_atom_40] at hf
    refine lv_aload_n C.1 C.2.1 zd_W_atom_40 rfl (lv_at hl 0 rfl) ?_
    obtain ⟨h1, hf⟩ := zck_some hf
    refine zg_W_letters (r := r0) C hK hW (zvd_5 hr0 (by decide)) zk_1369 zd_W_atom_41 h1 ?_
    refine lv_aload_n C.1 C.2.1 zd_W_atom_44 rfl (lv_at hl 0 rfl) ?_
    refine zg_W_at (r := r0) C hK hW (zvd_5 hr0 (by decide)) zk_1370 zd_W_atom_45 ?_
    obtain ⟨h2, hf⟩ := zck_some hf
    refine ziald C hK hW (zvd_5 hr0 (by decide)) (fun f => ze_5_35 B f (r0)) (by decide) h2 zd_W_atom_48 ?_
    refine zr_bipush C zd_W_atom_49 (by decide) ?_
    refine zr_icmp_lt (tgt := 96) C (zWn hW _ _ _ _ rfl) (znb rfl) zd_W_atom_51 (by decide) (fun c3 => ?_) (fun c3 => ?_)
    · rw [if_pos c3] at hf
      refine lv_iload_n C.1 C.2.1 zd_W_atom_96 rfl (lv_at hl 1 rfl) ?_
      cases hf
      exact zre_i C hr hlk hK hW hS nx2 zd_W_atom_97
    · rw [if_neg c3] at hf
      refine lv_aload_n C.1 C.2.1 zd_W_atom_54 rfl (lv_at hl 0 rfl) ?_
      refine zg_W_letters (r := r0) C hK hW (zvd_5 hr0 (by decide)) zk_1369 zd_W_atom_55 h1 ?_
      refine lv_aload_n C.1 C.2.1 zd_W_atom_58 rfl (lv_at hl 0 rfl) ?_
      refine zg_W_at (r := r0) C hK hW (zvd_5 hr0 (by decide)) zk_1370 zd_W_atom_59 ?_
      refine ziald C hK hW (zvd_5 hr0 (by decide)) (fun f => ze_5_35 B f (r0)) (by decide) h2 zd_W_atom_62 ?_
      refine zr_bipush C zd_W_atom_63 (by decide) ?_
      refine zr_icmp_gt (tgt := 96) C (zWn hW _ _ _ _ rfl) (znb rfl) zd_W_atom_65 (by decide) (fun c4 => ?_) (fun c4 => ?_)
      · rw [if_pos c4] at hf
        refine lv_iload_n C.1 C.2.1 zd_W_atom_96 rfl (lv_at hl 1 rfl) ?_
        cases hf
        exact zre_i C hr hlk hK hW hS nx2 zd_W_atom_97
      · rw [if_neg c4] at hf
        refine zr_bipush C zd_W_atom_68 (by decide) ?_
        refine lv_iload_n C.1 C.2.1 zd_W_atom_70 rfl (lv_at hl 1 rfl) ?_
        refine zr_imul C zd_W_atom_71 ?_
        refine lv_aload_n C.1 C.2.1 zd_W_atom_72 rfl (lv_at hl 0 rfl) ?_
        refine zg_W_letters (r := r0) C hK hW (zvd_5 hr0 (by decide)) zk_1369 zd_W_atom_73 h1 ?_
        refine lv_aload_n C.1 C.2.1 zd_W_atom_76 rfl (lv_at hl 0 rfl) ?_
        refine lv_dup C.1 C.2.1 zd_W_atom_77 rfl ?_
        refine zg_W_at (r := r0) C hK hW (zvd_5 hr0 (by decide)) zk_1370 zd_W_atom_78 ?_
        refine lv_dup_x1 C.1 C.2.1 zd_W_atom_81 rfl rfl ?_
        refine zr_iconst C zd_W_atom_82 ?_
        refine zr_iadd C zd_W_atom_83 ?_
        have w6 : zn (S 5 r0 0 48) := (zWn hW _ _ _ _ rfl)
        obtain ⟨S5, eS5, hf⟩ := zlt_some hf
        refine zp_W_at (r := r0) C hK hap hW hS (zvd_5 hr0 (by decide)) zk_1370 (zn_w _) zd_W_atom_84 (fun H locs hW hS => ?_)
        rw [eS5] at hW
        refine ziald C hK hW (zvd_5 hr0 (by decide)) (fun f => ze_5_35 B f (r0)) (by decide) h2 zd_W_atom_87 ?_
        refine zr_iadd C zd_W_atom_88 ?_
        refine zr_bipush C zd_W_atom_89 (by decide) ?_
        refine zr_isub C zd_W_atom_91 ?_
        obtain ⟨v7, ev7, hf⟩ := zlt_some hf
        have nv7 : zn v7 := by rw [← ev7]; exact (zn_w _)
        rw [ev7]
        refine lv_istore_n (lv' := [(2, .int (zI (v7))), (0, .ref (B.2.1 5 (r0) (0)))]) C.1 C.2.1 zd_W_atom_92 rfl hl (by decide) rfl (fun ls hl => ?_)
        refine lv_goto (tgt := 40) C.1 C.2.1 zd_W_atom_93 (by decide) ?_
        exact ih (v7) S5 nv7 hf _ _ _ hW hS (lv_sub hl [1, 0] rfl)

def zf_W_atom (r0 : Int) (S : Sg) : Option (Int × Sg) :=
    zck (S 5 r0 0 47 = 1) <| zlt (zu S 5 r0 0 48 (zw ((S 5 r0 0 48) + 1))) fun S2 => zck (0 ≤ (S 5 r0 0 48) ∧ (S 5 r0 0 48) < 121) <| zlt (S2 5 r0 35 (S 5 r0 0 48)) fun v5 => if v5 < 48 then (zf_W_atom_29 r0 (v5) S2) else (if v5 ≤ 57 then (zlt (zw (v5 - 48)) fun v8 => zf_W_atom_40 r0 4096 (v8) S2) else (zf_W_atom_29 r0 (v5) S2))
set_option maxHeartbeats 4000000 in
set_option maxRecDepth 100000 in
theorem zw_W_atom {p : Program} {l : Launch} {e : Env} {s : State} {m : MethodId} {args : Array Value} {below : List Frame} {meth : Method} {c : Code} {B : zB} (C : CallFix p m c zb_W_atom 3 s args zT "IslandOfficeModel$World") (hr : meth.sig.returnType = some .int) (hlk : meth.locks = false) (hK : zK B s) (hSt : zSt B s) (hap : zAp B) (r0 : Int) (hr0 : 0 ≤ r0 ∧ r0 < 3) {res : Int} {S9 : Sg} : ∀  (S : Sg) , zf_W_atom r0  S = some (res, S9) → ∀ (H : Heap) (locs : List Loc) (ls : Array Slot), zW B S H → va_S B.2.2.2 s.heap H locs → lv_has ls 3 [(0, .ref (B.2.1 5 (r0) (0)))] → W p l e zm_W_atom s m args below meth c H locs 0 0 (MQ below (zQi B res S9) args s 0 0 B.2.2.2) (F0 m 0 ls []) := by
  intro S hf H locs ls hW hS hl
  unfold zf_W_atom at hf
  refine lv_aload_n C.1 C.2.1 zd_W_atom_0 rfl (lv_at hl 0 rfl) ?_
  obtain ⟨h1, hf⟩ := zck_some hf
  refine zg_W_letters (r := r0) C hK hW (zvd_5 hr0 (by decide)) zk_1369 zd_W_atom_1 h1 ?_
  refine lv_aload_n C.1 C.2.1 zd_W_atom_4 rfl (lv_at hl 0 rfl) ?_
  refine lv_dup C.1 C.2.1 zd_W_atom_5 rfl ?_
  refine zg_W_at (r := r0) C hK hW (zvd_5 hr0 (by decide)) zk_1370 zd_W_atom_6 ?_
  refine lv_dup_x1 C.1 C.2.1 zd_W_atom_9 rfl rfl ?_
  refine zr_iconst C zd_W_atom_10 ?_
  refine zr_iadd C zd_W_atom_11 ?_
  have w3 : zn (S 5 r0 0 48) := (zWn hW _ _ _ _ rfl)
  obtain ⟨S2, eS2, hf⟩ := zlt_some hf
  refine zp_W_at (r := r0) C hK hap hW hS (zvd_5 hr0 (by decide)) zk_1370 (zn_w _) zd_W_atom_12 (fun H locs hW hS => ?_)
  rw [eS2] at hW
  obtain ⟨h4, hf⟩ := zck_some hf
  refine ziald C hK hW (zvd_5 hr0 (by decide)) (fun f => ze_5_35 B f (r0)) (by decide) h4 zd_W_atom_15 ?_
  obtain ⟨v5, ev5, hf⟩ := zlt_some hf
  have nv5 : zn v5 := by rw [← ev5]; exact (zWn hW _ _ _ _ rfl)
  rw [ev5]
  refine lv_istore_n (lv' := [(1, .int (zI (v5))), (0, .ref (B.2.1 5 (r0) (0)))]) C.1 C.2.1 zd_W_atom_16 rfl hl (by decide) rfl (fun ls hl => ?_)
  refine lv_iload_n C.1 C.2.1 zd_W_atom_17 rfl (lv_at hl 0 rfl) ?_
  refine zr_bipush C zd_W_atom_18 (by decide) ?_
  refine zr_icmp_lt (tgt := 29) C nv5 (znb rfl) zd_W_atom_20 (by decide) (fun c6 => ?_) (fun c6 => ?_)
  · rw [if_pos c6] at hf
    exact zw_W_atom_29 C hr hlk hK hSt hap r0 hr0 (v5) S2 nv5 hf _ _ _ hW hS (lv_sub hl [1, 0] rfl)
  · rw [if_neg c6] at hf
    refine lv_iload_n C.1 C.2.1 zd_W_atom_23 rfl (lv_at hl 0 rfl) ?_
    refine zr_bipush C zd_W_atom_24 (by decide) ?_
    refine zr_icmp_le (tgt := 35) C nv5 (znb rfl) zd_W_atom_26 (by decide) (fun c7 => ?_) (fun c7 => ?_)
    · rw [if_pos c7] at hf
      refine lv_iload_n C.1 C.2.1 zd_W_atom_35 rfl (lv_at hl 0 rfl) ?_
      refine zr_bipush C zd_W_atom_36 (by decide) ?_
      refine zr_isub C zd_W_atom_38 ?_
      obtain ⟨v8, ev8, hf⟩ := zlt_some hf
      have nv8 : zn v8 := by rw [← ev8]; exact (zn_w _)
      rw [ev8]
      refine lv_istore_n (lv' := [(2, .int (zI (v8))), (1, .int (zI (v5))), (0, .ref (B.2.1 5 (r0) (0)))]) C.1 C.2.1 zd_W_atom_39 rfl hl (by decide) rfl (fun ls hl => ?_)
      exact zw_W_atom_40 C hr hlk hK hSt hap r0 hr0 4096 (v8) S2 nv8 hf _ _ _ hW hS (lv_sub hl [2, 0] rfl)
    · rw [if_neg c7] at hf
      exact zw_W_atom_29 C hr hlk hK hSt hap r0 hr0 (v5) S2 nv5 hf _ _ _ hW hS (lv_sub hl [1, 0] rfl)

theorem zc_W_atom {l : Launch} {B : zB} (hap : zAp B) (r0 : Int) (hr0 : 0 ≤ r0 ∧ r0 < 3) (S : Sg) {res : Int} {S9 : Sg} (hf : zf_W_atom r0 S = some (res, S9)) : Met l zy_W_atom (Cond.code zy_W_atom zb_W_atom 3 (some .int) :: zT) zm_W_atom (zP B S [.ref (B.2.1 5 (r0) (0))]) (zQi B res S9) 0 0 B.2.2.2 :=
  zmet (by decide) (Nat.le_of_ble_eq_true rfl) (fun p e s m args below meth c C hr hlk hK hSt hW ls hl => zw_W_atom C hr hlk hK hSt hap r0 hr0  S  hf _ _ _ hW va_S.rf hl)
/-! IslandOfficeModel$World.sum()I -/
abbrev zy_W_sum : MethodName := ⟨"IslandOfficeModel$World", "sum", "()I"⟩
abbrev zb_W_sum : ByteArray := prog_15_method_15_code
abbrev zm_W_sum : Room := { frames := 4, cells := 0, slots := 0, locals := 87 }
theorem zq_W_sum : zMy zy_W_sum zb_W_sum 3 (some .int) 0 := ⟨zk_1732, zk_1731, zs_59, zk_15, by decide, by decide, by decide +kernel⟩
theorem zd_W_sum_0 : decode zb_W_sum 0 = .ok (.aload_n 0, 1) := by decide +kernel
theorem zd_W_sum_1 : decode zb_W_sum 1 = .ok (.invokevirtual 227, 3) := by decide +kernel
theorem zd_W_sum_4 : decode zb_W_sum 4 = .ok (.istore_n 1, 1) := by decide +kernel
theorem zd_W_sum_5 : decode zb_W_sum 5 = .ok (.aload_n 0, 1) := by decide +kernel
theorem zd_W_sum_6 : decode zb_W_sum 6 = .ok (.getfield 218, 3) := by decide +kernel
theorem zd_W_sum_9 : decode zb_W_sum 9 = .ok (.aload_n 0, 1) := by decide +kernel
theorem zd_W_sum_10 : decode zb_W_sum 10 = .ok (.getfield 221, 3) := by decide +kernel
theorem zd_W_sum_13 : decode zb_W_sum 13 = .ok (.iaload, 1) := by decide +kernel
theorem zd_W_sum_14 : decode zb_W_sum 14 = .ok (.bipush 43, 2) := by decide +kernel
theorem zd_W_sum_16 : decode zb_W_sum 16 = .ok (.if_icmp .eq 17, 3) := by decide +kernel
theorem zd_W_sum_19 : decode zb_W_sum 19 = .ok (.aload_n 0, 1) := by decide +kernel
theorem zd_W_sum_20 : decode zb_W_sum 20 = .ok (.getfield 218, 3) := by decide +kernel
theorem zd_W_sum_23 : decode zb_W_sum 23 = .ok (.aload_n 0, 1) := by decide +kernel
theorem zd_W_sum_24 : decode zb_W_sum 24 = .ok (.getfield 221, 3) := by decide +kernel
theorem zd_W_sum_27 : decode zb_W_sum 27 = .ok (.iaload, 1) := by decide +kernel
theorem zd_W_sum_28 : decode zb_W_sum 28 = .ok (.bipush 45, 2) := by decide +kernel
theorem zd_W_sum_30 : decode zb_W_sum 30 = .ok (.if_icmp .ne 42, 3) := by decide +kernel
theorem zd_W_sum_33 : decode zb_W_sum 33 = .ok (.aload_n 0, 1) := by decide +kernel
theorem zd_W_sum_34 : decode zb_W_sum 34 = .ok (.getfield 218, 3) := by decide +kernel
theorem zd_W_sum_37 : decode zb_W_sum 37 = .ok (.aload_n 0, 1) := by decide +kernel
theorem zd_W_sum_38 : decode zb_W_sum 38 = .ok (.dup, 1) := by decide +kernel
theorem zd_W_sum_39 : decode zb_W_sum 39 = .ok (.getfield 221, 3) := by decide +kernel
theorem zd_W_sum_42 : decode zb_W_sum 42 = .ok (.dup_x1, 1) := by decide +kernel
theorem zd_W_sum_43 : decode zb_W_sum 43 = .ok (.iconst 1, 1) := by decide +kernel
theorem zd_W_sum_44 : decode zb_W_sum 44 = .ok (.iadd, 1) := by decide +kernel
theorem zd_W_sum_45 : decode zb_W_sum 45 = .ok (.putfield 221, 3) := by decide +kernel
theorem zd_W_sum_48 : decode zb_W_sum 48 = .ok (.iaload, 1) := by decide +kernel
theorem zd_W_sum_49 : decode zb_W_sum 49 = .ok (.bipush 43, 2) := by decide +kernel
theorem zd_W_sum_51 : decode zb_W_sum 51 = .ok (.if_icmp .ne 7, 3) := by decide +kernel
theorem zd_W_sum_54 : decode zb_W_sum 54 = .ok (.iconst 1, 1) := by decide +kernel
theorem zd_W_sum_55 : decode zb_W_sum 55 = .ok (.goto 4, 3) := by decide +kernel
theorem zd_W_sum_58 : decode zb_W_sum 58 = .ok (.iconst (-1), 1) := by decide +kernel
theorem zd_W_sum_59 : decode zb_W_sum 59 = .ok (.istore_n 2, 1) := by decide +kernel
theorem zd_W_sum_60 : decode zb_W_sum 60 = .ok (.iload_n 1, 1) := by decide +kernel
theorem zd_W_sum_61 : decode zb_W_sum 61 = .ok (.iload_n 2, 1) := by decide +kernel
theorem zd_W_sum_62 : decode zb_W_sum 62 = .ok (.aload_n 0, 1) := by decide +kernel
theorem zd_W_sum_63 : decode zb_W_sum 63 = .ok (.invokevirtual 227, 3) := by decide +kernel
theorem zd_W_sum_66 : decode zb_W_sum 66 = .ok (.imul, 1) := by decide +kernel
theorem zd_W_sum_67 : decode zb_W_sum 67 = .ok (.iadd, 1) := by decide +kernel
theorem zd_W_sum_68 : decode zb_W_sum 68 = .ok (.istore_n 1, 1) := by decide +kernel
theorem zd_W_sum_69 : decode zb_W_sum 69 = .ok (.goto (-64), 3) := by decide +kernel
theorem zd_W_sum_72 : decode zb_W_sum 72 = .ok (.iload_n 1, 1) := by decide +kernel
theorem zd_W_sum_73 : decode zb_W_sum 73 = .ok (.ireturn, 1) := by decide +kernel

def zf_W_sum_59 (r0 : Int) (q5 : Int → Sg → Option (Int × Sg)) (x1 : Int) (xt0 : Int) (S : Sg) : Option (Int × Sg) :=
    zbd (zf_W_atom (r0) S) fun a1 S2 => zlt (zw (x1 + (zw (xt0 * a1)))) fun v3 => q5 (v3) S2
set_option maxHeartbeats 4000000 in
set_option maxRecDepth 100000 in
theorem zw_W_sum_59 {p : Program} {l : Launch} {e : Env} {s : State} {m : MethodId} {args : Array Value} {below : List Frame} {meth : Method} {c : Code} {B : zB} (C : CallFix p m c zb_W_sum 3 s args zT "IslandOfficeModel$World") (hr : meth.sig.returnType = some .int) (hlk : meth.locks = false) (hK : zK B s) (hSt : zSt B s) (hap : zAp B) (r0 : Int) (hr0 : 0 ≤ r0 ∧ r0 < 3) {res : Int} {S9 : Sg} (q5 : Int → Sg → Option (Int × Sg)) (hq5 : ∀ (x1 : Int) (S : Sg) (nx1 : zn x1), q5 x1 S = some (res, S9) → ∀ (H : Heap) (locs : List Loc) (ls : Array Slot), zW B S H → va_S B.2.2.2 s.heap H locs → lv_has ls 3 [(0, .ref (B.2.1 5 (r0) (0))), (1, .int (zI (x1)))] → W p l e zm_W_sum s m args below meth c H locs 0 0 (MQ below (zQi B res S9) args s 0 0 B.2.2.2) (F0 m 5 ls [])) : ∀ (x1 : Int) (xt0 : Int) (S : Sg) (nx1 : zn x1) (nxt0 : zn xt0), zf_W_sum_59 r0 q5 x1 xt0 S = some (res, S9) → ∀ (H : Heap) (locs : List Loc) (ls : Array Slot), zW B S H → va_S B.2.2.2 s.heap H locs → lv_has ls 3 [(0, .ref (B.2.1 5 (r0) (0))), (1, .int (zI (x1)))] → W p l e zm_W_sum s m args below meth c H locs 0 0 (MQ below (zQi B res S9) args s 0 0 B.2.2.2) (F0 m 59 ls [.int (zI (xt0))]) := by
  intro x1 xt0 S nx1 nxt0 hf H locs ls hW hS hl
  unfold zf_W_sum_59 at hf
  refine lv_istore_n (lv' := [(2, .int (zI (xt0))), (0, .ref (B.2.1 5 (r0) (0))), (1, .int (zI (x1)))]) C.1 C.2.1 zd_W_sum_59 rfl hl (by decide) rfl (fun ls hl => ?_)
  refine lv_iload_n C.1 C.2.1 zd_W_sum_60 rfl (lv_at hl 2 rfl) ?_
  refine lv_iload_n C.1 C.2.1 zd_W_sum_61 rfl (lv_at hl 0 rfl) ?_
  refine lv_aload_n C.1 C.2.1 zd_W_sum_62 rfl (lv_at hl 1 rfl) ?_
  obtain ⟨a1, S2, ea1, hf⟩ := zbd_some hf
  refine zcVi (As := []) (rest := [.int (zI (xt0)), .int (zI (x1))]) C hK hSt hW hS (zc_W_atom hap (r0) hr0 S ea1) zq_W_atom zk_1733 (zrecv hK hW (zvd_5 hr0 (by decide)) (ze_5_0 B _ (r0)) rfl) ⟨rfl, rfl, by decide, by decide⟩ ⟨Nat.zero_le _, Nat.zero_le _⟩ rfl hl.1 rfl (lv_room (Nat.le_of_ble_eq_true rfl)) zd_W_sum_63 (fun na1 H locs hW hS => ?_)
  refine zr_imul C zd_W_sum_66 ?_
  refine zr_iadd C zd_W_sum_67 ?_
  obtain ⟨v3, ev3, hf⟩ := zlt_some hf
  have nv3 : zn v3 := by rw [← ev3]; exact (zn_w _)
  rw [ev3]
  refine lv_istore_n (lv' := [(1, .int (zI (v3))), (2, .int (zI (xt0))), (0, .ref (B.2.1 5 (r0) (0)))]) C.1 C.2.1 zd_W_sum_68 rfl hl (by decide) rfl (fun ls hl => ?_)
  refine lv_goto (tgt := 5) C.1 C.2.1 zd_W_sum_69 (by decide) ?_
  exact hq5 (v3) S2 nv3 hf _ _ _ hW hS (lv_sub hl [2, 0] rfl)

def zf_W_sum_33 (r0 : Int) (q5 : Int → Sg → Option (Int × Sg)) (x1 : Int) (S : Sg) : Option (Int × Sg) :=
    zck (S 5 r0 0 47 = 1) <| zlt (zu S 5 r0 0 48 (zw ((S 5 r0 0 48) + 1))) fun S2 => zck (0 ≤ (S 5 r0 0 48) ∧ (S 5 r0 0 48) < 121) <| if (S2 5 r0 35 (S 5 r0 0 48)) = 43 then (zf_W_sum_59 r0 q5 (x1) (1) S2) else (zf_W_sum_59 r0 q5 (x1) (-1) S2)
set_option maxHeartbeats 4000000 in
set_option maxRecDepth 100000 in
theorem zw_W_sum_33 {p : Program} {l : Launch} {e : Env} {s : State} {m : MethodId} {args : Array Value} {below : List Frame} {meth : Method} {c : Code} {B : zB} (C : CallFix p m c zb_W_sum 3 s args zT "IslandOfficeModel$World") (hr : meth.sig.returnType = some .int) (hlk : meth.locks = false) (hK : zK B s) (hSt : zSt B s) (hap : zAp B) (r0 : Int) (hr0 : 0 ≤ r0 ∧ r0 < 3) {res : Int} {S9 : Sg} (q5 : Int → Sg → Option (Int × Sg)) (hq5 : ∀ (x1 : Int) (S : Sg) (nx1 : zn x1), q5 x1 S = some (res, S9) → ∀ (H : Heap) (locs : List Loc) (ls : Array Slot), zW B S H → va_S B.2.2.2 s.heap H locs → lv_has ls 3 [(0, .ref (B.2.1 5 (r0) (0))), (1, .int (zI (x1)))] → W p l e zm_W_sum s m args below meth c H locs 0 0 (MQ below (zQi B res S9) args s 0 0 B.2.2.2) (F0 m 5 ls [])) : ∀ (x1 : Int) (S : Sg) (nx1 : zn x1), zf_W_sum_33 r0 q5 x1 S = some (res, S9) → ∀ (H : Heap) (locs : List Loc) (ls : Array Slot), zW B S H → va_S B.2.2.2 s.heap H locs → lv_has ls 3 [(0, .ref (B.2.1 5 (r0) (0))), (1, .int (zI (x1)))] → W p l e zm_W_sum s m args below meth c H locs 0 0 (MQ below (zQi B res S9) args s 0 0 B.2.2.2) (F0 m 33 ls []) := by
  intro x1 S nx1 hf H locs ls hW hS hl
  unfold zf_W_sum_33 at hf
  refine lv_aload_n C.1 C.2.1 zd_W_sum_33 rfl (lv_at hl 0 rfl) ?_
  obtain ⟨h1, hf⟩ := zck_some hf
  refine zg_W_letters (r := r0) C hK hW (zvd_5 hr0 (by decide)) zk_1369 zd_W_sum_34 h1 ?_
  refine lv_aload_n C.1 C.2.1 zd_W_sum_37 rfl (lv_at hl 0 rfl) ?_
  refine lv_dup C.1 C.2.1 zd_W_sum_38 rfl ?_
  refine zg_W_at (r := r0) C hK hW (zvd_5 hr0 (by decide)) zk_1370 zd_W_sum_39 ?_
  refine lv_dup_x1 C.1 C.2.1 zd_W_sum_42 rfl rfl ?_
  refine zr_iconst C zd_W_sum_43 ?_
  refine zr_iadd C zd_W_sum_44 ?_
  have w3 : zn (S 5 r0 0 48) := (zWn hW _ _ _ _ rfl)
  obtain ⟨S2, eS2, hf⟩ := zlt_some hf
  refine zp_W_at (r := r0) C hK hap hW hS (zvd_5 hr0 (by decide)) zk_1370 (zn_w _) zd_W_sum_45 (fun H locs hW hS => ?_)
  rw [eS2] at hW
  obtain ⟨h4, hf⟩ := zck_some hf
  refine ziald C hK hW (zvd_5 hr0 (by decide)) (fun f => ze_5_35 B f (r0)) (by decide) h4 zd_W_sum_48 ?_
  refine zr_bipush C zd_W_sum_49 (by decide) ?_
  refine zr_icmp_ne (tgt := 58) C (zWn hW _ _ _ _ rfl) (znb rfl) zd_W_sum_51 (by decide) (fun c5 => ?_) (fun c5 => ?_)
  · rw [if_neg c5] at hf
    refine zr_iconst C zd_W_sum_58 ?_
    exact zw_W_sum_59 C hr hlk hK hSt hap r0 hr0 q5 hq5 (x1) (-1) S2 nx1 (znb rfl) hf _ _ _ hW hS (lv_sub hl [0, 1] rfl)
  · rw [if_pos c5] at hf
    refine zr_iconst C zd_W_sum_54 ?_
    refine lv_goto (tgt := 59) C.1 C.2.1 zd_W_sum_55 (by decide) ?_
    exact zw_W_sum_59 C hr hlk hK hSt hap r0 hr0 q5 hq5 (x1) (1) S2 nx1 (znb rfl) hf _ _ _ hW hS (lv_sub hl [0, 1] rfl)

def zf_W_sum_5 (r0 : Int) : Nat → Int → Sg → Option (Int × Sg)
  | 0, _, _ => none
  | n + 1, x1, S =>
    zck (S 5 r0 0 47 = 1) <| zck (0 ≤ (S 5 r0 0 48) ∧ (S 5 r0 0 48) < 121) <| if (S 5 r0 35 (S 5 r0 0 48)) = 43 then (zf_W_sum_33 r0 (zf_W_sum_5 r0 n) (x1) S) else (if (S 5 r0 35 (S 5 r0 0 48)) = 45 then (zf_W_sum_33 r0 (zf_W_sum_5 r0 n) (x1) S) else (some (x1, S)))
set_option maxHeartbeats 4000000 in
set_option maxRecDepth 100000 in
theorem zw_W_sum_5 {p : Program} {l : Launch} {e : Env} {s : State} {m : MethodId} {args : Array Value} {below : List Frame} {meth : Method} {c : Code} {B : zB} (C : CallFix p m c zb_W_sum 3 s args zT "IslandOfficeModel$World") (hr : meth.sig.returnType = some .int) (hlk : meth.locks = false) (hK : zK B s) (hSt : zSt B s) (hap : zAp B) (r0 : Int) (hr0 : 0 ≤ r0 ∧ r0 < 3) {res : Int} {S9 : Sg} : ∀ n : Nat, ∀ (x1 : Int) (S : Sg) (nx1 : zn x1), zf_W_sum_5 r0 n x1 S = some (res, S9) → ∀ (H : Heap) (locs : List Loc) (ls : Array Slot), zW B S H → va_S B.2.2.2 s.heap H locs → lv_has ls 3 [(0, .ref (B.2.1 5 (r0) (0))), (1, .int (zI (x1)))] → W p l e zm_W_sum s m args below meth c H locs 0 0 (MQ below (zQi B res S9) args s 0 0 B.2.2.2) (F0 m 5 ls []) := by
  intro n
  induction n with
  | zero =>
    intro x1 S nx1 hf H locs ls hW hS hl
    cases hf
  | succ n ih =>
    intro x1 S nx1 hf H locs ls hW hS hl
    rw [zf_W_sum_5] at hf
    refine lv_aload_n C.1 C.2.1 zd_W_sum_5 rfl (lv_at hl 0 rfl) ?_
    obtain ⟨h1, hf⟩ := zck_some hf
    refine zg_W_letters (r := r0) C hK hW (zvd_5 hr0 (by decide)) zk_1369 zd_W_sum_6 h1 ?_
    refine lv_aload_n C.1 C.2.1 zd_W_sum_9 rfl (lv_at hl 0 rfl) ?_
    refine zg_W_at (r := r0) C hK hW (zvd_5 hr0 (by decide)) zk_1370 zd_W_sum_10 ?_
    obtain ⟨h2, hf⟩ := zck_some hf
    refine ziald C hK hW (zvd_5 hr0 (by decide)) (fun f => ze_5_35 B f (r0)) (by decide) h2 zd_W_sum_13 ?_
    refine zr_bipush C zd_W_sum_14 (by decide) ?_
    refine zr_icmp_eq (tgt := 33) C (zWn hW _ _ _ _ rfl) (znb rfl) zd_W_sum_16 (by decide) (fun c3 => ?_) (fun c3 => ?_)
    · rw [if_pos c3] at hf
      exact zw_W_sum_33 C hr hlk hK hSt hap r0 hr0 (zf_W_sum_5 r0 n) (ih) (x1) S nx1 hf _ _ _ hW hS (lv_sub hl [0, 1] rfl)
    · rw [if_neg c3] at hf
      refine lv_aload_n C.1 C.2.1 zd_W_sum_19 rfl (lv_at hl 0 rfl) ?_
      refine zg_W_letters (r := r0) C hK hW (zvd_5 hr0 (by decide)) zk_1369 zd_W_sum_20 h1 ?_
      refine lv_aload_n C.1 C.2.1 zd_W_sum_23 rfl (lv_at hl 0 rfl) ?_
      refine zg_W_at (r := r0) C hK hW (zvd_5 hr0 (by decide)) zk_1370 zd_W_sum_24 ?_
      refine ziald C hK hW (zvd_5 hr0 (by decide)) (fun f => ze_5_35 B f (r0)) (by decide) h2 zd_W_sum_27 ?_
      refine zr_bipush C zd_W_sum_28 (by decide) ?_
      refine zr_icmp_ne (tgt := 72) C (zWn hW _ _ _ _ rfl) (znb rfl) zd_W_sum_30 (by decide) (fun c4 => ?_) (fun c4 => ?_)
      · rw [if_neg c4] at hf
        refine lv_iload_n C.1 C.2.1 zd_W_sum_72 rfl (lv_at hl 1 rfl) ?_
        cases hf
        exact zre_i C hr hlk hK hW hS nx1 zd_W_sum_73
      · rw [if_pos c4] at hf
        exact zw_W_sum_33 C hr hlk hK hSt hap r0 hr0 (zf_W_sum_5 r0 n) (ih) (x1) S nx1 hf _ _ _ hW hS (lv_sub hl [0, 1] rfl)

def zf_W_sum (r0 : Int) (S : Sg) : Option (Int × Sg) :=
    zbd (zf_W_atom (r0) S) fun a1 S2 => zf_W_sum_5 r0 4096 (a1) S2
set_option maxHeartbeats 4000000 in
set_option maxRecDepth 100000 in
theorem zw_W_sum {p : Program} {l : Launch} {e : Env} {s : State} {m : MethodId} {args : Array Value} {below : List Frame} {meth : Method} {c : Code} {B : zB} (C : CallFix p m c zb_W_sum 3 s args zT "IslandOfficeModel$World") (hr : meth.sig.returnType = some .int) (hlk : meth.locks = false) (hK : zK B s) (hSt : zSt B s) (hap : zAp B) (r0 : Int) (hr0 : 0 ≤ r0 ∧ r0 < 3) {res : Int} {S9 : Sg} : ∀  (S : Sg) , zf_W_sum r0  S = some (res, S9) → ∀ (H : Heap) (locs : List Loc) (ls : Array Slot), zW B S H → va_S B.2.2.2 s.heap H locs → lv_has ls 3 [(0, .ref (B.2.1 5 (r0) (0)))] → W p l e zm_W_sum s m args below meth c H locs 0 0 (MQ below (zQi B res S9) args s 0 0 B.2.2.2) (F0 m 0 ls []) := by
  intro S hf H locs ls hW hS hl
  unfold zf_W_sum at hf
  refine lv_aload_n C.1 C.2.1 zd_W_sum_0 rfl (lv_at hl 0 rfl) ?_
  obtain ⟨a1, S2, ea1, hf⟩ := zbd_some hf
  refine zcVi (As := []) (rest := []) C hK hSt hW hS (zc_W_atom hap (r0) hr0 S ea1) zq_W_atom zk_1733 (zrecv hK hW (zvd_5 hr0 (by decide)) (ze_5_0 B _ (r0)) rfl) ⟨rfl, rfl, by decide, by decide⟩ ⟨Nat.zero_le _, Nat.zero_le _⟩ rfl hl.1 rfl (lv_room (Nat.le_of_ble_eq_true rfl)) zd_W_sum_1 (fun na1 H locs hW hS => ?_)
  refine lv_istore_n (lv' := [(1, .int (zI (a1))), (0, .ref (B.2.1 5 (r0) (0)))]) C.1 C.2.1 zd_W_sum_4 rfl hl (by decide) rfl (fun ls hl => ?_)
  exact zw_W_sum_5 C hr hlk hK hSt hap r0 hr0 4096 (a1) S2 na1 hf _ _ _ hW hS (lv_sub hl [1, 0] rfl)

theorem zc_W_sum {l : Launch} {B : zB} (hap : zAp B) (r0 : Int) (hr0 : 0 ≤ r0 ∧ r0 < 3) (S : Sg) {res : Int} {S9 : Sg} (hf : zf_W_sum r0 S = some (res, S9)) : Met l zy_W_sum (Cond.code zy_W_sum zb_W_sum 3 (some .int) :: zT) zm_W_sum (zP B S [.ref (B.2.1 5 (r0) (0))]) (zQi B res S9) 0 0 B.2.2.2 :=
  zmet (by decide) (Nat.le_of_ble_eq_true rfl) (fun p e s m args below meth c C hr hlk hK hSt hW ls hl => zw_W_sum C hr hlk hK hSt hap r0 hr0  S  hf _ _ _ hW va_S.rf hl)
abbrev zy_W_factor : MethodName := ⟨"IslandOfficeModel$World", "factor", "()Z"⟩
abbrev zb_W_factor : ByteArray := prog_15_method_16_code
abbrev zm_W_factor : Room := { frames := 389, cells := 0, slots := 0, locals := 8429 }
theorem zq_W_factor : zMy zy_W_factor zb_W_factor 4 (some .boolean) 0 := ⟨zk_1728, zk_1727, zs_58, zk_15, by decide, by decide, by decide +kernel⟩
theorem zd_W_factor_0 : decode zb_W_factor 0 = .ok (.aload_n 0, 1) := by decide +kernel
theorem zd_W_factor_1 : decode zb_W_factor 1 = .ok (.getfield 218, 3) := by decide +kernel
theorem zd_W_factor_4 : decode zb_W_factor 4 = .ok (.aload_n 0, 1) := by decide +kernel
theorem zd_W_factor_5 : decode zb_W_factor 5 = .ok (.getfield 221, 3) := by decide +kernel
theorem zd_W_factor_8 : decode zb_W_factor 8 = .ok (.iaload, 1) := by decide +kernel
theorem zd_W_factor_9 : decode zb_W_factor 9 = .ok (.bipush 33, 2) := by decide +kernel
theorem zd_W_factor_11 : decode zb_W_factor 11 = .ok (.if_icmp .ne 26, 3) := by decide +kernel
theorem zd_W_factor_14 : decode zb_W_factor 14 = .ok (.aload_n 0, 1) := by decide +kernel
theorem zd_W_factor_15 : decode zb_W_factor 15 = .ok (.dup, 1) := by decide +kernel
theorem zd_W_factor_16 : decode zb_W_factor 16 = .ok (.getfield 221, 3) := by decide +kernel
theorem zd_W_factor_19 : decode zb_W_factor 19 = .ok (.iconst 1, 1) := by decide +kernel
theorem zd_W_factor_20 : decode zb_W_factor 20 = .ok (.iadd, 1) := by decide +kernel
theorem zd_W_factor_21 : decode zb_W_factor 21 = .ok (.putfield 221, 3) := by decide +kernel
theorem zd_W_factor_24 : decode zb_W_factor 24 = .ok (.aload_n 0, 1) := by decide +kernel
theorem zd_W_factor_25 : decode zb_W_factor 25 = .ok (.invokevirtual 231, 3) := by decide +kernel
theorem zd_W_factor_28 : decode zb_W_factor 28 = .ok (.ifCond .ne 7, 3) := by decide +kernel
theorem zd_W_factor_31 : decode zb_W_factor 31 = .ok (.iconst 1, 1) := by decide +kernel
theorem zd_W_factor_32 : decode zb_W_factor 32 = .ok (.goto 4, 3) := by decide +kernel
theorem zd_W_factor_35 : decode zb_W_factor 35 = .ok (.iconst 0, 1) := by decide +kernel
theorem zd_W_factor_36 : decode zb_W_factor 36 = .ok (.ireturn, 1) := by decide +kernel
theorem zd_W_factor_37 : decode zb_W_factor 37 = .ok (.aload_n 0, 1) := by decide +kernel
theorem zd_W_factor_38 : decode zb_W_factor 38 = .ok (.getfield 218, 3) := by decide +kernel
theorem zd_W_factor_41 : decode zb_W_factor 41 = .ok (.aload_n 0, 1) := by decide +kernel
theorem zd_W_factor_42 : decode zb_W_factor 42 = .ok (.getfield 221, 3) := by decide +kernel
theorem zd_W_factor_45 : decode zb_W_factor 45 = .ok (.iaload, 1) := by decide +kernel
theorem zd_W_factor_46 : decode zb_W_factor 46 = .ok (.bipush 40, 2) := by decide +kernel
theorem zd_W_factor_48 : decode zb_W_factor 48 = .ok (.if_icmp .ne 30, 3) := by decide +kernel
theorem zd_W_factor_51 : decode zb_W_factor 51 = .ok (.aload_n 0, 1) := by decide +kernel
theorem zd_W_factor_52 : decode zb_W_factor 52 = .ok (.dup, 1) := by decide +kernel
theorem zd_W_factor_53 : decode zb_W_factor 53 = .ok (.getfield 221, 3) := by decide +kernel
theorem zd_W_factor_56 : decode zb_W_factor 56 = .ok (.iconst 1, 1) := by decide +kernel
theorem zd_W_factor_57 : decode zb_W_factor 57 = .ok (.iadd, 1) := by decide +kernel
theorem zd_W_factor_58 : decode zb_W_factor 58 = .ok (.putfield 221, 3) := by decide +kernel
theorem zd_W_factor_61 : decode zb_W_factor 61 = .ok (.aload_n 0, 1) := by decide +kernel
theorem zd_W_factor_62 : decode zb_W_factor 62 = .ok (.invokevirtual 235, 3) := by decide +kernel
theorem zd_W_factor_65 : decode zb_W_factor 65 = .ok (.istore_n 1, 1) := by decide +kernel
theorem zd_W_factor_66 : decode zb_W_factor 66 = .ok (.aload_n 0, 1) := by decide +kernel
theorem zd_W_factor_67 : decode zb_W_factor 67 = .ok (.dup, 1) := by decide +kernel
theorem zd_W_factor_68 : decode zb_W_factor 68 = .ok (.getfield 221, 3) := by decide +kernel
theorem zd_W_factor_71 : decode zb_W_factor 71 = .ok (.iconst 1, 1) := by decide +kernel
theorem zd_W_factor_72 : decode zb_W_factor 72 = .ok (.iadd, 1) := by decide +kernel
theorem zd_W_factor_73 : decode zb_W_factor 73 = .ok (.putfield 221, 3) := by decide +kernel
theorem zd_W_factor_76 : decode zb_W_factor 76 = .ok (.iload_n 1, 1) := by decide +kernel
theorem zd_W_factor_77 : decode zb_W_factor 77 = .ok (.ireturn, 1) := by decide +kernel
theorem zd_W_factor_78 : decode zb_W_factor 78 = .ok (.aload_n 0, 1) := by decide +kernel
theorem zd_W_factor_79 : decode zb_W_factor 79 = .ok (.invokevirtual 238, 3) := by decide +kernel
theorem zd_W_factor_82 : decode zb_W_factor 82 = .ok (.istore_n 1, 1) := by decide +kernel
theorem zd_W_factor_83 : decode zb_W_factor 83 = .ok (.aload_n 0, 1) := by decide +kernel
theorem zd_W_factor_84 : decode zb_W_factor 84 = .ok (.getfield 218, 3) := by decide +kernel
theorem zd_W_factor_87 : decode zb_W_factor 87 = .ok (.aload_n 0, 1) := by decide +kernel
theorem zd_W_factor_88 : decode zb_W_factor 88 = .ok (.dup, 1) := by decide +kernel
theorem zd_W_factor_89 : decode zb_W_factor 89 = .ok (.getfield 221, 3) := by decide +kernel
theorem zd_W_factor_92 : decode zb_W_factor 92 = .ok (.dup_x1, 1) := by decide +kernel
theorem zd_W_factor_93 : decode zb_W_factor 93 = .ok (.iconst 1, 1) := by decide +kernel
theorem zd_W_factor_94 : decode zb_W_factor 94 = .ok (.iadd, 1) := by decide +kernel
theorem zd_W_factor_95 : decode zb_W_factor 95 = .ok (.putfield 221, 3) := by decide +kernel
theorem zd_W_factor_98 : decode zb_W_factor 98 = .ok (.iaload, 1) := by decide +kernel
theorem zd_W_factor_99 : decode zb_W_factor 99 = .ok (.istore_n 2, 1) := by decide +kernel
theorem zd_W_factor_100 : decode zb_W_factor 100 = .ok (.aload_n 0, 1) := by decide +kernel
theorem zd_W_factor_101 : decode zb_W_factor 101 = .ok (.invokevirtual 238, 3) := by decide +kernel
theorem zd_W_factor_104 : decode zb_W_factor 104 = .ok (.istore_n 3, 1) := by decide +kernel
theorem zd_W_factor_105 : decode zb_W_factor 105 = .ok (.iload_n 2, 1) := by decide +kernel
theorem zd_W_factor_106 : decode zb_W_factor 106 = .ok (.bipush 60, 2) := by decide +kernel
theorem zd_W_factor_108 : decode zb_W_factor 108 = .ok (.if_icmp .ne 16, 3) := by decide +kernel
theorem zd_W_factor_111 : decode zb_W_factor 111 = .ok (.iload_n 1, 1) := by decide +kernel
theorem zd_W_factor_112 : decode zb_W_factor 112 = .ok (.iload_n 3, 1) := by decide +kernel
theorem zd_W_factor_113 : decode zb_W_factor 113 = .ok (.if_icmp .ge 7, 3) := by decide +kernel
theorem zd_W_factor_116 : decode zb_W_factor 116 = .ok (.iconst 1, 1) := by decide +kernel
theorem zd_W_factor_117 : decode zb_W_factor 117 = .ok (.goto 36, 3) := by decide +kernel
theorem zd_W_factor_120 : decode zb_W_factor 120 = .ok (.iconst 0, 1) := by decide +kernel
theorem zd_W_factor_121 : decode zb_W_factor 121 = .ok (.goto 32, 3) := by decide +kernel
theorem zd_W_factor_124 : decode zb_W_factor 124 = .ok (.iload_n 2, 1) := by decide +kernel
theorem zd_W_factor_125 : decode zb_W_factor 125 = .ok (.bipush 62, 2) := by decide +kernel
theorem zd_W_factor_127 : decode zb_W_factor 127 = .ok (.if_icmp .ne 16, 3) := by decide +kernel
theorem zd_W_factor_130 : decode zb_W_factor 130 = .ok (.iload_n 1, 1) := by decide +kernel
theorem zd_W_factor_131 : decode zb_W_factor 131 = .ok (.iload_n 3, 1) := by decide +kernel
theorem zd_W_factor_132 : decode zb_W_factor 132 = .ok (.if_icmp .le 7, 3) := by decide +kernel
theorem zd_W_factor_135 : decode zb_W_factor 135 = .ok (.iconst 1, 1) := by decide +kernel
theorem zd_W_factor_136 : decode zb_W_factor 136 = .ok (.goto 17, 3) := by decide +kernel
theorem zd_W_factor_139 : decode zb_W_factor 139 = .ok (.iconst 0, 1) := by decide +kernel
theorem zd_W_factor_140 : decode zb_W_factor 140 = .ok (.goto 13, 3) := by decide +kernel
theorem zd_W_factor_143 : decode zb_W_factor 143 = .ok (.iload_n 1, 1) := by decide +kernel
theorem zd_W_factor_144 : decode zb_W_factor 144 = .ok (.iload_n 3, 1) := by decide +kernel
theorem zd_W_factor_145 : decode zb_W_factor 145 = .ok (.if_icmp .ne 7, 3) := by decide +kernel
theorem zd_W_factor_148 : decode zb_W_factor 148 = .ok (.iconst 1, 1) := by decide +kernel
theorem zd_W_factor_149 : decode zb_W_factor 149 = .ok (.goto 4, 3) := by decide +kernel
theorem zd_W_factor_152 : decode zb_W_factor 152 = .ok (.iconst 0, 1) := by decide +kernel
theorem zd_W_factor_153 : decode zb_W_factor 153 = .ok (.ireturn, 1) := by decide +kernel

abbrev zy_W_term : MethodName := ⟨"IslandOfficeModel$World", "term", "()Z"⟩
abbrev zb_W_term : ByteArray := prog_15_method_17_code
abbrev zm_W_term : Room := { frames := 390, cells := 0, slots := 0, locals := 8452 }
theorem zq_W_term : zMy zy_W_term zb_W_term 2 (some .boolean) 0 := ⟨zk_1724, zk_1723, zs_57, zk_15, by decide, by decide, by decide +kernel⟩
theorem zd_W_term_0 : decode zb_W_term 0 = .ok (.aload_n 0, 1) := by decide +kernel
theorem zd_W_term_1 : decode zb_W_term 1 = .ok (.invokevirtual 231, 3) := by decide +kernel
theorem zd_W_term_4 : decode zb_W_term 4 = .ok (.istore_n 1, 1) := by decide +kernel
theorem zd_W_term_5 : decode zb_W_term 5 = .ok (.aload_n 0, 1) := by decide +kernel
theorem zd_W_term_6 : decode zb_W_term 6 = .ok (.getfield 218, 3) := by decide +kernel
theorem zd_W_term_9 : decode zb_W_term 9 = .ok (.aload_n 0, 1) := by decide +kernel
theorem zd_W_term_10 : decode zb_W_term 10 = .ok (.getfield 221, 3) := by decide +kernel
theorem zd_W_term_13 : decode zb_W_term 13 = .ok (.iaload, 1) := by decide +kernel
theorem zd_W_term_14 : decode zb_W_term 14 = .ok (.bipush 38, 2) := by decide +kernel
theorem zd_W_term_16 : decode zb_W_term 16 = .ok (.if_icmp .ne 23, 3) := by decide +kernel
theorem zd_W_term_19 : decode zb_W_term 19 = .ok (.aload_n 0, 1) := by decide +kernel
theorem zd_W_term_20 : decode zb_W_term 20 = .ok (.dup, 1) := by decide +kernel
theorem zd_W_term_21 : decode zb_W_term 21 = .ok (.getfield 221, 3) := by decide +kernel
theorem zd_W_term_24 : decode zb_W_term 24 = .ok (.iconst 1, 1) := by decide +kernel
theorem zd_W_term_25 : decode zb_W_term 25 = .ok (.iadd, 1) := by decide +kernel
theorem zd_W_term_26 : decode zb_W_term 26 = .ok (.putfield 221, 3) := by decide +kernel
theorem zd_W_term_29 : decode zb_W_term 29 = .ok (.iload_n 1, 1) := by decide +kernel
theorem zd_W_term_30 : decode zb_W_term 30 = .ok (.aload_n 0, 1) := by decide +kernel
theorem zd_W_term_31 : decode zb_W_term 31 = .ok (.invokevirtual 231, 3) := by decide +kernel
theorem zd_W_term_34 : decode zb_W_term 34 = .ok (.iand, 1) := by decide +kernel
theorem zd_W_term_35 : decode zb_W_term 35 = .ok (.istore_n 1, 1) := by decide +kernel
theorem zd_W_term_36 : decode zb_W_term 36 = .ok (.goto (-31), 3) := by decide +kernel
theorem zd_W_term_39 : decode zb_W_term 39 = .ok (.iload_n 1, 1) := by decide +kernel
theorem zd_W_term_40 : decode zb_W_term 40 = .ok (.ireturn, 1) := by decide +kernel

abbrev zy_W_expr : MethodName := ⟨"IslandOfficeModel$World", "expr", "()Z"⟩
abbrev zb_W_expr : ByteArray := prog_15_method_18_code
abbrev zm_W_expr : Room := { frames := 391, cells := 0, slots := 0, locals := 8473 }
theorem zq_W_expr : zMy zy_W_expr zb_W_expr 2 (some .boolean) 0 := ⟨zk_1720, zk_1719, zs_56, zk_15, by decide, by decide, by decide +kernel⟩
theorem zd_W_expr_0 : decode zb_W_expr 0 = .ok (.aload_n 0, 1) := by decide +kernel
theorem zd_W_expr_1 : decode zb_W_expr 1 = .ok (.invokevirtual 241, 3) := by decide +kernel
theorem zd_W_expr_4 : decode zb_W_expr 4 = .ok (.istore_n 1, 1) := by decide +kernel
theorem zd_W_expr_5 : decode zb_W_expr 5 = .ok (.aload_n 0, 1) := by decide +kernel
theorem zd_W_expr_6 : decode zb_W_expr 6 = .ok (.getfield 218, 3) := by decide +kernel
theorem zd_W_expr_9 : decode zb_W_expr 9 = .ok (.aload_n 0, 1) := by decide +kernel
theorem zd_W_expr_10 : decode zb_W_expr 10 = .ok (.getfield 221, 3) := by decide +kernel
theorem zd_W_expr_13 : decode zb_W_expr 13 = .ok (.iaload, 1) := by decide +kernel
theorem zd_W_expr_14 : decode zb_W_expr 14 = .ok (.bipush 124, 2) := by decide +kernel
theorem zd_W_expr_16 : decode zb_W_expr 16 = .ok (.if_icmp .ne 23, 3) := by decide +kernel
theorem zd_W_expr_19 : decode zb_W_expr 19 = .ok (.aload_n 0, 1) := by decide +kernel
theorem zd_W_expr_20 : decode zb_W_expr 20 = .ok (.dup, 1) := by decide +kernel
theorem zd_W_expr_21 : decode zb_W_expr 21 = .ok (.getfield 221, 3) := by decide +kernel
theorem zd_W_expr_24 : decode zb_W_expr 24 = .ok (.iconst 1, 1) := by decide +kernel
theorem zd_W_expr_25 : decode zb_W_expr 25 = .ok (.iadd, 1) := by decide +kernel
theorem zd_W_expr_26 : decode zb_W_expr 26 = .ok (.putfield 221, 3) := by decide +kernel
theorem zd_W_expr_29 : decode zb_W_expr 29 = .ok (.iload_n 1, 1) := by decide +kernel
theorem zd_W_expr_30 : decode zb_W_expr 30 = .ok (.aload_n 0, 1) := by decide +kernel
theorem zd_W_expr_31 : decode zb_W_expr 31 = .ok (.invokevirtual 241, 3) := by decide +kernel
theorem zd_W_expr_34 : decode zb_W_expr 34 = .ok (.ior, 1) := by decide +kernel
theorem zd_W_expr_35 : decode zb_W_expr 35 = .ok (.istore_n 1, 1) := by decide +kernel
theorem zd_W_expr_36 : decode zb_W_expr 36 = .ok (.goto (-31), 3) := by decide +kernel
theorem zd_W_expr_39 : decode zb_W_expr 39 = .ok (.iload_n 1, 1) := by decide +kernel
theorem zd_W_expr_40 : decode zb_W_expr 40 = .ok (.ireturn, 1) := by decide +kernel

def zhr_W_factor (rm : Room) : Prop := 5 ≤ rm.frames ∧ 109 ≤ rm.locals
def zhr_W_term (rm : Room) : Prop := 5 ≤ rm.frames ∧ 109 ≤ rm.locals
def zhr_W_expr (rm : Room) : Prop := 5 ≤ rm.frames ∧ 109 ≤ rm.locals
def zf_W_factor_B (r0 : Int) (F_W_factor : Sg → Option (Int × Sg)) (F_W_expr : Sg → Option (Int × Sg)) (S : Sg) : Option (Int × Sg) :=
    zck (S 5 r0 0 47 = 1) <| zck (0 ≤ (S 5 r0 0 48) ∧ (S 5 r0 0 48) < 121) <| if (S 5 r0 35 (S 5 r0 0 48)) = 33 then (zlt (zu S 5 r0 0 48 (zw ((S 5 r0 0 48) + 1))) fun S24 => zbd (F_W_factor  S24) fun a25 S26 => if a25 = 0 then (some (1, S26)) else (some (0, S26))) else (if (S 5 r0 35 (S 5 r0 0 48)) = 40 then (zlt (zu S 5 r0 0 48 (zw ((S 5 r0 0 48) + 1))) fun S19 => zbd (F_W_expr  S19) fun a20 S21 => zlt (zu S21 5 r0 0 48 (zw ((S21 5 r0 0 48) + 1))) fun S22 => zck (a20 = 0 ∨ a20 = 1) <| some (a20, S22)) else (zbd (zf_W_sum (r0) S) fun a5 S6 => zck (S6 5 r0 0 47 = 1) <| zlt (zu S6 5 r0 0 48 (zw ((S6 5 r0 0 48) + 1))) fun S8 => zck (0 ≤ (S6 5 r0 0 48) ∧ (S6 5 r0 0 48) < 121) <| zlt (S8 5 r0 35 (S6 5 r0 0 48)) fun v11 => zbd (zf_W_sum (r0) S8) fun a12 S13 => if v11 = 60 then (if a12 ≤ a5 then (some (0, S13)) else (some (1, S13))) else (if v11 = 62 then (if a5 ≤ a12 then (some (0, S13)) else (some (1, S13))) else (if a5 = a12 then (some (1, S13)) else (some (0, S13))))))
set_option maxHeartbeats 4000000 in
set_option maxRecDepth 100000 in
theorem zw_W_factor {p : Program} {l : Launch} {e : Env} {s : State} {m : MethodId} {args : Array Value} {below : List Frame} {meth : Method} {c : Code} {B : zB} (C : CallFix p m c zb_W_factor 4 s args zT "IslandOfficeModel$World") (hr : meth.sig.returnType = some .boolean) (hlk : meth.locks = false) (hK : zK B s) (hSt : zSt B s) (hap : zAp B) (r0 : Int) (F_W_factor : Sg → Option (Int × Sg)) (F_W_expr : Sg → Option (Int × Sg)) (hr0 : 0 ≤ r0 ∧ r0 < 3) {rm : Room} (hrm : zhr_W_factor rm) {rq_W_factor : Room} (hF_W_factor : ∀ (S : Sg) {res : Int} {S9 : Sg}, F_W_factor S = some (res, S9) → Met l zy_W_factor (Cond.code zy_W_factor zb_W_factor 4 (some .boolean) :: zT) rq_W_factor (zP B S [.ref (B.2.1 5 (r0) (0))]) (zQi B res S9) 0 0 B.2.2.2) (hq_W_factor : zRm rm rq_W_factor 4) {rq_W_expr : Room} (hF_W_expr : ∀ (S : Sg) {res : Int} {S9 : Sg}, F_W_expr S = some (res, S9) → Met l zy_W_expr (Cond.code zy_W_expr zb_W_expr 2 (some .boolean) :: zT) rq_W_expr (zP B S [.ref (B.2.1 5 (r0) (0))]) (zQi B res S9) 0 0 B.2.2.2) (hq_W_expr : zRm rm rq_W_expr 2) {res : Int} {S9 : Sg} : ∀  (S : Sg) , zf_W_factor_B r0 F_W_factor F_W_expr  S = some (res, S9) → ∀ (H : Heap) (locs : List Loc) (ls : Array Slot), zW B S H → va_S B.2.2.2 s.heap H locs → lv_has ls 4 [(0, .ref (B.2.1 5 (r0) (0)))] → W p l e rm s m args below meth c H locs 0 0 (MQ below (zQi B res S9) args s 0 0 B.2.2.2) (F0 m 0 ls []) := by
  intro S hf H locs ls hW hS hl
  unfold zf_W_factor_B at hf
  refine lv_aload_n C.1 C.2.1 zd_W_factor_0 rfl (lv_at hl 0 rfl) ?_
  obtain ⟨h1, hf⟩ := zck_some hf
  refine zg_W_letters (r := r0) C hK hW (zvd_5 hr0 (by decide)) zk_1369 zd_W_factor_1 h1 ?_
  refine lv_aload_n C.1 C.2.1 zd_W_factor_4 rfl (lv_at hl 0 rfl) ?_
  refine zg_W_at (r := r0) C hK hW (zvd_5 hr0 (by decide)) zk_1370 zd_W_factor_5 ?_
  obtain ⟨h2, hf⟩ := zck_some hf
  refine ziald C hK hW (zvd_5 hr0 (by decide)) (fun f => ze_5_35 B f (r0)) (by decide) h2 zd_W_factor_8 ?_
  refine zr_bipush C zd_W_factor_9 (by decide) ?_
  refine zr_icmp_ne (tgt := 37) C (zWn hW _ _ _ _ rfl) (znb rfl) zd_W_factor_11 (by decide) (fun c3 => ?_) (fun c3 => ?_)
  · rw [if_neg c3] at hf
    refine lv_aload_n C.1 C.2.1 zd_W_factor_37 rfl (lv_at hl 0 rfl) ?_
    refine zg_W_letters (r := r0) C hK hW (zvd_5 hr0 (by decide)) zk_1369 zd_W_factor_38 h1 ?_
    refine lv_aload_n C.1 C.2.1 zd_W_factor_41 rfl (lv_at hl 0 rfl) ?_
    refine zg_W_at (r := r0) C hK hW (zvd_5 hr0 (by decide)) zk_1370 zd_W_factor_42 ?_
    refine ziald C hK hW (zvd_5 hr0 (by decide)) (fun f => ze_5_35 B f (r0)) (by decide) h2 zd_W_factor_45 ?_
    refine zr_bipush C zd_W_factor_46 (by decide) ?_
    refine zr_icmp_ne (tgt := 78) C (zWn hW _ _ _ _ rfl) (znb rfl) zd_W_factor_48 (by decide) (fun c4 => ?_) (fun c4 => ?_)
    · rw [if_neg c4] at hf
      refine lv_aload_n C.1 C.2.1 zd_W_factor_78 rfl (lv_at hl 0 rfl) ?_
      obtain ⟨a5, S6, ea5, hf⟩ := zbd_some hf
      refine zcVi (As := []) (rest := []) C hK hSt hW hS (zc_W_sum hap (r0) hr0 S ea5) zq_W_sum zk_1729 (zrecv hK hW (zvd_5 hr0 (by decide)) (ze_5_0 B _ (r0)) rfl) ⟨rfl, rfl, Nat.le_trans (by decide) hrm.1, Nat.le_trans (by decide) hrm.2⟩ ⟨Nat.zero_le _, Nat.zero_le _⟩ rfl hl.1 rfl (lv_room (Nat.le_of_ble_eq_true rfl)) zd_W_factor_79 (fun na5 H locs hW hS => ?_)
      refine lv_istore_n (lv' := [(1, .int (zI (a5))), (0, .ref (B.2.1 5 (r0) (0)))]) C.1 C.2.1 zd_W_factor_82 rfl hl (by decide) rfl (fun ls hl => ?_)
      refine lv_aload_n C.1 C.2.1 zd_W_factor_83 rfl (lv_at hl 1 rfl) ?_
      obtain ⟨h7, hf⟩ := zck_some hf
      refine zg_W_letters (r := r0) C hK hW (zvd_5 hr0 (by decide)) zk_1369 zd_W_factor_84 h7 ?_
      refine lv_aload_n C.1 C.2.1 zd_W_factor_87 rfl (lv_at hl 1 rfl) ?_
      refine lv_dup C.1 C.2.1 zd_W_factor_88 rfl ?_
      refine zg_W_at (r := r0) C hK hW (zvd_5 hr0 (by decide)) zk_1370 zd_W_factor_89 ?_
      refine lv_dup_x1 C.1 C.2.1 zd_W_factor_92 rfl rfl ?_
      refine zr_iconst C zd_W_factor_93 ?_
      refine zr_iadd C zd_W_factor_94 ?_
      have w9 : zn (S6 5 r0 0 48) := (zWn hW _ _ _ _ rfl)
      obtain ⟨S8, eS8, hf⟩ := zlt_some hf
      refine zp_W_at (r := r0) C hK hap hW hS (zvd_5 hr0 (by decide)) zk_1370 (zn_w _) zd_W_factor_95 (fun H locs hW hS => ?_)
      rw [eS8] at hW
      obtain ⟨h10, hf⟩ := zck_some hf
      refine ziald C hK hW (zvd_5 hr0 (by decide)) (fun f => ze_5_35 B f (r0)) (by decide) h10 zd_W_factor_98 ?_
      obtain ⟨v11, ev11, hf⟩ := zlt_some hf
      have nv11 : zn v11 := by rw [← ev11]; exact (zWn hW _ _ _ _ rfl)
      rw [ev11]
      refine lv_istore_n (lv' := [(2, .int (zI (v11))), (1, .int (zI (a5))), (0, .ref (B.2.1 5 (r0) (0)))]) C.1 C.2.1 zd_W_factor_99 rfl hl (by decide) rfl (fun ls hl => ?_)
      refine lv_aload_n C.1 C.2.1 zd_W_factor_100 rfl (lv_at hl 2 rfl) ?_
      obtain ⟨a12, S13, ea12, hf⟩ := zbd_some hf
      refine zcVi (As := []) (rest := []) C hK hSt hW hS (zc_W_sum hap (r0) hr0 S8 ea12) zq_W_sum zk_1729 (zrecv hK hW (zvd_5 hr0 (by decide)) (ze_5_0 B _ (r0)) rfl) ⟨rfl, rfl, Nat.le_trans (by decide) hrm.1, Nat.le_trans (by decide) hrm.2⟩ ⟨Nat.zero_le _, Nat.zero_le _⟩ rfl hl.1 rfl (lv_room (Nat.le_of_ble_eq_true rfl)) zd_W_factor_101 (fun na12 H locs hW hS => ?_)
      refine lv_istore_n (lv' := [(3, .int (zI (a12))), (2, .int (zI (v11))), (1, .int (zI (a5))), (0, .ref (B.2.1 5 (r0) (0)))]) C.1 C.2.1 zd_W_factor_104 rfl hl (by decide) rfl (fun ls hl => ?_)
      refine lv_iload_n C.1 C.2.1 zd_W_factor_105 rfl (lv_at hl 1 rfl) ?_
      refine zr_bipush C zd_W_factor_106 (by decide) ?_
      refine zr_icmp_ne (tgt := 124) C nv11 (znb rfl) zd_W_factor_108 (by decide) (fun c14 => ?_) (fun c14 => ?_)
      · rw [if_neg c14] at hf
        refine lv_iload_n C.1 C.2.1 zd_W_factor_124 rfl (lv_at hl 1 rfl) ?_
        refine zr_bipush C zd_W_factor_125 (by decide) ?_
        refine zr_icmp_ne (tgt := 143) C nv11 (znb rfl) zd_W_factor_127 (by decide) (fun c15 => ?_) (fun c15 => ?_)
        · rw [if_neg c15] at hf
          refine lv_iload_n C.1 C.2.1 zd_W_factor_143 rfl (lv_at hl 2 rfl) ?_
          refine lv_iload_n C.1 C.2.1 zd_W_factor_144 rfl (lv_at hl 0 rfl) ?_
          refine zr_icmp_ne (tgt := 152) C na5 na12 zd_W_factor_145 (by decide) (fun c16 => ?_) (fun c16 => ?_)
          · rw [if_neg c16] at hf
            refine zr_iconst C zd_W_factor_152 ?_
            cases hf
            exact zre_z C hr hlk hK hW hS (znb rfl) (zb01 (by decide)) zd_W_factor_153
          · rw [if_pos c16] at hf
            refine zr_iconst C zd_W_factor_148 ?_
            refine lv_goto (tgt := 153) C.1 C.2.1 zd_W_factor_149 (by decide) ?_
            cases hf
            exact zre_z C hr hlk hK hW hS (znb rfl) (zb01 (by decide)) zd_W_factor_153
        · rw [if_pos c15] at hf
          refine lv_iload_n C.1 C.2.1 zd_W_factor_130 rfl (lv_at hl 2 rfl) ?_
          refine lv_iload_n C.1 C.2.1 zd_W_factor_131 rfl (lv_at hl 0 rfl) ?_
          refine zr_icmp_le (tgt := 139) C na5 na12 zd_W_factor_132 (by decide) (fun c17 => ?_) (fun c17 => ?_)
          · rw [if_pos c17] at hf
            refine zr_iconst C zd_W_factor_139 ?_
            refine lv_goto (tgt := 153) C.1 C.2.1 zd_W_factor_140 (by decide) ?_
            cases hf
            exact zre_z C hr hlk hK hW hS (znb rfl) (zb01 (by decide)) zd_W_factor_153
          · rw [if_neg c17] at hf
            refine zr_iconst C zd_W_factor_135 ?_
            refine lv_goto (tgt := 153) C.1 C.2.1 zd_W_factor_136 (by decide) ?_
            cases hf
            exact zre_z C hr hlk hK hW hS (znb rfl) (zb01 (by decide)) zd_W_factor_153
      · rw [if_pos c14] at hf
        refine lv_iload_n C.1 C.2.1 zd_W_factor_111 rfl (lv_at hl 2 rfl) ?_
        refine lv_iload_n C.1 C.2.1 zd_W_factor_112 rfl (lv_at hl 0 rfl) ?_
        refine zr_icmp_ge (tgt := 120) C na5 na12 zd_W_factor_113 (by decide) (fun c18 => ?_) (fun c18 => ?_)
        · rw [if_pos c18] at hf
          refine zr_iconst C zd_W_factor_120 ?_
          refine lv_goto (tgt := 153) C.1 C.2.1 zd_W_factor_121 (by decide) ?_
          cases hf
          exact zre_z C hr hlk hK hW hS (znb rfl) (zb01 (by decide)) zd_W_factor_153
        · rw [if_neg c18] at hf
          refine zr_iconst C zd_W_factor_116 ?_
          refine lv_goto (tgt := 153) C.1 C.2.1 zd_W_factor_117 (by decide) ?_
          cases hf
          exact zre_z C hr hlk hK hW hS (znb rfl) (zb01 (by decide)) zd_W_factor_153
    · rw [if_pos c4] at hf
      refine lv_aload_n C.1 C.2.1 zd_W_factor_51 rfl (lv_at hl 0 rfl) ?_
      refine lv_dup C.1 C.2.1 zd_W_factor_52 rfl ?_
      refine zg_W_at (r := r0) C hK hW (zvd_5 hr0 (by decide)) zk_1370 zd_W_factor_53 ?_
      refine zr_iconst C zd_W_factor_56 ?_
      refine zr_iadd C zd_W_factor_57 ?_
      obtain ⟨S19, eS19, hf⟩ := zlt_some hf
      refine zp_W_at (r := r0) C hK hap hW hS (zvd_5 hr0 (by decide)) zk_1370 (zn_w _) zd_W_factor_58 (fun H locs hW hS => ?_)
      rw [eS19] at hW
      refine lv_aload_n C.1 C.2.1 zd_W_factor_61 rfl (lv_at hl 0 rfl) ?_
      obtain ⟨a20, S21, ea20, hf⟩ := zbd_some hf
      refine zcVi (As := []) (rest := []) C hK hSt hW hS (hF_W_expr S19 ea20) zq_W_expr zk_1717 (zrecv hK hW (zvd_5 hr0 (by decide)) (ze_5_0 B _ (r0)) rfl) hq_W_expr ⟨Nat.zero_le _, Nat.zero_le _⟩ rfl hl.1 rfl (lv_room (Nat.le_of_ble_eq_true rfl)) zd_W_factor_62 (fun na20 H locs hW hS => ?_)
      refine lv_istore_n (lv' := [(1, .int (zI (a20))), (0, .ref (B.2.1 5 (r0) (0)))]) C.1 C.2.1 zd_W_factor_65 rfl hl (by decide) rfl (fun ls hl => ?_)
      refine lv_aload_n C.1 C.2.1 zd_W_factor_66 rfl (lv_at hl 1 rfl) ?_
      refine lv_dup C.1 C.2.1 zd_W_factor_67 rfl ?_
      refine zg_W_at (r := r0) C hK hW (zvd_5 hr0 (by decide)) zk_1370 zd_W_factor_68 ?_
      refine zr_iconst C zd_W_factor_71 ?_
      refine zr_iadd C zd_W_factor_72 ?_
      obtain ⟨S22, eS22, hf⟩ := zlt_some hf
      refine zp_W_at (r := r0) C hK hap hW hS (zvd_5 hr0 (by decide)) zk_1370 (zn_w _) zd_W_factor_73 (fun H locs hW hS => ?_)
      rw [eS22] at hW
      refine lv_iload_n C.1 C.2.1 zd_W_factor_76 rfl (lv_at hl 0 rfl) ?_
      obtain ⟨h23, hf⟩ := zck_some hf
      cases hf
      exact zre_z C hr hlk hK hW hS na20 (zb01 h23) zd_W_factor_77
  · rw [if_pos c3] at hf
    refine lv_aload_n C.1 C.2.1 zd_W_factor_14 rfl (lv_at hl 0 rfl) ?_
    refine lv_dup C.1 C.2.1 zd_W_factor_15 rfl ?_
    refine zg_W_at (r := r0) C hK hW (zvd_5 hr0 (by decide)) zk_1370 zd_W_factor_16 ?_
    refine zr_iconst C zd_W_factor_19 ?_
    refine zr_iadd C zd_W_factor_20 ?_
    obtain ⟨S24, eS24, hf⟩ := zlt_some hf
    refine zp_W_at (r := r0) C hK hap hW hS (zvd_5 hr0 (by decide)) zk_1370 (zn_w _) zd_W_factor_21 (fun H locs hW hS => ?_)
    rw [eS24] at hW
    refine lv_aload_n C.1 C.2.1 zd_W_factor_24 rfl (lv_at hl 0 rfl) ?_
    obtain ⟨a25, S26, ea25, hf⟩ := zbd_some hf
    refine zcVi (As := []) (rest := []) C hK hSt hW hS (hF_W_factor S24 ea25) zq_W_factor zk_1725 (zrecv hK hW (zvd_5 hr0 (by decide)) (ze_5_0 B _ (r0)) rfl) hq_W_factor ⟨Nat.zero_le _, Nat.zero_le _⟩ rfl hl.1 rfl (lv_room (Nat.le_of_ble_eq_true rfl)) zd_W_factor_25 (fun na25 H locs hW hS => ?_)
    refine zr_if_ne (tgt := 35) C na25 zd_W_factor_28 (by decide) (fun c27 => ?_) (fun c27 => ?_)
    · rw [if_neg c27] at hf
      refine zr_iconst C zd_W_factor_35 ?_
      cases hf
      exact zre_z C hr hlk hK hW hS (znb rfl) (zb01 (by decide)) zd_W_factor_36
    · rw [if_pos c27] at hf
      refine zr_iconst C zd_W_factor_31 ?_
      refine lv_goto (tgt := 36) C.1 C.2.1 zd_W_factor_32 (by decide) ?_
      cases hf
      exact zre_z C hr hlk hK hW hS (znb rfl) (zb01 (by decide)) zd_W_factor_36

theorem zcb_W_factor {l : Launch} {B : zB} (hap : zAp B) (r0 : Int) (F_W_factor : Sg → Option (Int × Sg)) (F_W_expr : Sg → Option (Int × Sg)) (hr0 : 0 ≤ r0 ∧ r0 < 3) {rm : Room} (hrm : zhr_W_factor rm) {rq_W_factor : Room} (hF_W_factor : ∀ (S : Sg) {res : Int} {S9 : Sg}, F_W_factor S = some (res, S9) → Met l zy_W_factor (Cond.code zy_W_factor zb_W_factor 4 (some .boolean) :: zT) rq_W_factor (zP B S [.ref (B.2.1 5 (r0) (0))]) (zQi B res S9) 0 0 B.2.2.2) (hq_W_factor : zRm rm rq_W_factor 4) {rq_W_expr : Room} (hF_W_expr : ∀ (S : Sg) {res : Int} {S9 : Sg}, F_W_expr S = some (res, S9) → Met l zy_W_expr (Cond.code zy_W_expr zb_W_expr 2 (some .boolean) :: zT) rq_W_expr (zP B S [.ref (B.2.1 5 (r0) (0))]) (zQi B res S9) 0 0 B.2.2.2) (hq_W_expr : zRm rm rq_W_expr 2) (S : Sg) {res : Int} {S9 : Sg} (hf : zf_W_factor_B r0 F_W_factor F_W_expr S = some (res, S9)) : Met l zy_W_factor (Cond.code zy_W_factor zb_W_factor 4 (some .boolean) :: zT) rm (zP B S [.ref (B.2.1 5 (r0) (0))]) (zQi B res S9) 0 0 B.2.2.2 :=
  zmet (by decide) (Nat.le_of_ble_eq_true rfl) (fun p e s m args below meth c C hr hlk hK hSt hW ls hl => zw_W_factor C hr hlk hK hSt hap r0 F_W_factor F_W_expr hr0 hrm hF_W_factor hq_W_factor hF_W_expr hq_W_expr  S  hf _ _ _ hW va_S.rf hl)
def zf_W_term_5 (r0 : Int) (F_W_factor : Sg → Option (Int × Sg)) : Nat → Int → Sg → Option (Int × Sg)
  | 0, _, _ => none
  | n + 1, x1, S =>
    zck (S 5 r0 0 47 = 1) <| zck (0 ≤ (S 5 r0 0 48) ∧ (S 5 r0 0 48) < 121) <| if (S 5 r0 35 (S 5 r0 0 48)) = 38 then (zlt (zu S 5 r0 0 48 (zw ((S 5 r0 0 48) + 1))) fun S5 => zbd (F_W_factor  S5) fun a6 S7 => zlt (zand x1 a6) fun v8 => (zf_W_term_5 r0 F_W_factor n) (v8) S7) else (zck (x1 = 0 ∨ x1 = 1) <| some (x1, S))
set_option maxHeartbeats 4000000 in
set_option maxRecDepth 100000 in
theorem zw_W_term_5 {p : Program} {l : Launch} {e : Env} {s : State} {m : MethodId} {args : Array Value} {below : List Frame} {meth : Method} {c : Code} {B : zB} (C : CallFix p m c zb_W_term 2 s args zT "IslandOfficeModel$World") (hr : meth.sig.returnType = some .boolean) (hlk : meth.locks = false) (hK : zK B s) (hSt : zSt B s) (hap : zAp B) (r0 : Int) (F_W_factor : Sg → Option (Int × Sg)) (hr0 : 0 ≤ r0 ∧ r0 < 3) {rm : Room} (hrm : zhr_W_term rm) {rq_W_factor : Room} (hF_W_factor : ∀ (S : Sg) {res : Int} {S9 : Sg}, F_W_factor S = some (res, S9) → Met l zy_W_factor (Cond.code zy_W_factor zb_W_factor 4 (some .boolean) :: zT) rq_W_factor (zP B S [.ref (B.2.1 5 (r0) (0))]) (zQi B res S9) 0 0 B.2.2.2) (hq_W_factor : zRm rm rq_W_factor 4) {res : Int} {S9 : Sg} : ∀ n : Nat, ∀ (x1 : Int) (S : Sg) (nx1 : zn x1), zf_W_term_5 r0 F_W_factor n x1 S = some (res, S9) → ∀ (H : Heap) (locs : List Loc) (ls : Array Slot), zW B S H → va_S B.2.2.2 s.heap H locs → lv_has ls 2 [(0, .ref (B.2.1 5 (r0) (0))), (1, .int (zI (x1)))] → W p l e rm s m args below meth c H locs 0 0 (MQ below (zQi B res S9) args s 0 0 B.2.2.2) (F0 m 5 ls []) := by
  intro n
  induction n with
  | zero =>
    intro x1 S nx1 hf H locs ls hW hS hl
    cases hf
  | succ n ih =>
    intro x1 S nx1 hf H locs ls hW hS hl
    rw [zf_W_term_5] at hf
    refine lv_aload_n C.1 C.2.1 zd_W_term_5 rfl (lv_at hl 0 rfl) ?_
    obtain ⟨h1, hf⟩ := zck_some hf
    refine zg_W_letters (r := r0) C hK hW (zvd_5 hr0 (by decide)) zk_1369 zd_W_term_6 h1 ?_
    refine lv_aload_n C.1 C.2.1 zd_W_term_9 rfl (lv_at hl 0 rfl) ?_
    refine zg_W_at (r := r0) C hK hW (zvd_5 hr0 (by decide)) zk_1370 zd_W_term_10 ?_
    obtain ⟨h2, hf⟩ := zck_some hf
    refine ziald C hK hW (zvd_5 hr0 (by decide)) (fun f => ze_5_35 B f (r0)) (by decide) h2 zd_W_term_13 ?_
    refine zr_bipush C zd_W_term_14 (by decide) ?_
    refine zr_icmp_ne (tgt := 39) C (zWn hW _ _ _ _ rfl) (znb rfl) zd_W_term_16 (by decide) (fun c3 => ?_) (fun c3 => ?_)
    · rw [if_neg c3] at hf
      refine lv_iload_n C.1 C.2.1 zd_W_term_39 rfl (lv_at hl 1 rfl) ?_
      obtain ⟨h4, hf⟩ := zck_some hf
      cases hf
      exact zre_z C hr hlk hK hW hS nx1 (zb01 h4) zd_W_term_40
    · rw [if_pos c3] at hf
      refine lv_aload_n C.1 C.2.1 zd_W_term_19 rfl (lv_at hl 0 rfl) ?_
      refine lv_dup C.1 C.2.1 zd_W_term_20 rfl ?_
      refine zg_W_at (r := r0) C hK hW (zvd_5 hr0 (by decide)) zk_1370 zd_W_term_21 ?_
      refine zr_iconst C zd_W_term_24 ?_
      refine zr_iadd C zd_W_term_25 ?_
      obtain ⟨S5, eS5, hf⟩ := zlt_some hf
      refine zp_W_at (r := r0) C hK hap hW hS (zvd_5 hr0 (by decide)) zk_1370 (zn_w _) zd_W_term_26 (fun H locs hW hS => ?_)
      rw [eS5] at hW
      refine lv_iload_n C.1 C.2.1 zd_W_term_29 rfl (lv_at hl 1 rfl) ?_
      refine lv_aload_n C.1 C.2.1 zd_W_term_30 rfl (lv_at hl 0 rfl) ?_
      obtain ⟨a6, S7, ea6, hf⟩ := zbd_some hf
      refine zcVi (As := []) (rest := [.int (zI (x1))]) C hK hSt hW hS (hF_W_factor S5 ea6) zq_W_factor zk_1725 (zrecv hK hW (zvd_5 hr0 (by decide)) (ze_5_0 B _ (r0)) rfl) hq_W_factor ⟨Nat.zero_le _, Nat.zero_le _⟩ rfl hl.1 rfl (lv_room (Nat.le_of_ble_eq_true rfl)) zd_W_term_31 (fun na6 H locs hW hS => ?_)
      refine zr_iand C zd_W_term_34 ?_
      obtain ⟨v8, ev8, hf⟩ := zlt_some hf
      have nv8 : zn v8 := by rw [← ev8]; exact (zn_and _ _)
      rw [ev8]
      refine lv_istore_n (lv' := [(1, .int (zI (v8))), (0, .ref (B.2.1 5 (r0) (0)))]) C.1 C.2.1 zd_W_term_35 rfl hl (by decide) rfl (fun ls hl => ?_)
      refine lv_goto (tgt := 5) C.1 C.2.1 zd_W_term_36 (by decide) ?_
      exact ih (v8) S7 nv8 hf _ _ _ hW hS (lv_sub hl [1, 0] rfl)

def zf_W_term_B (r0 : Int) (F_W_factor : Sg → Option (Int × Sg)) (S : Sg) : Option (Int × Sg) :=
    zbd (F_W_factor  S) fun a1 S2 => zf_W_term_5 r0 F_W_factor 4096 (a1) S2
set_option maxHeartbeats 4000000 in
set_option maxRecDepth 100000 in
theorem zw_W_term {p : Program} {l : Launch} {e : Env} {s : State} {m : MethodId} {args : Array Value} {below : List Frame} {meth : Method} {c : Code} {B : zB} (C : CallFix p m c zb_W_term 2 s args zT "IslandOfficeModel$World") (hr : meth.sig.returnType = some .boolean) (hlk : meth.locks = false) (hK : zK B s) (hSt : zSt B s) (hap : zAp B) (r0 : Int) (F_W_factor : Sg → Option (Int × Sg)) (hr0 : 0 ≤ r0 ∧ r0 < 3) {rm : Room} (hrm : zhr_W_term rm) {rq_W_factor : Room} (hF_W_factor : ∀ (S : Sg) {res : Int} {S9 : Sg}, F_W_factor S = some (res, S9) → Met l zy_W_factor (Cond.code zy_W_factor zb_W_factor 4 (some .boolean) :: zT) rq_W_factor (zP B S [.ref (B.2.1 5 (r0) (0))]) (zQi B res S9) 0 0 B.2.2.2) (hq_W_factor : zRm rm rq_W_factor 4) {res : Int} {S9 : Sg} : ∀  (S : Sg) , zf_W_term_B r0 F_W_factor  S = some (res, S9) → ∀ (H : Heap) (locs : List Loc) (ls : Array Slot), zW B S H → va_S B.2.2.2 s.heap H locs → lv_has ls 2 [(0, .ref (B.2.1 5 (r0) (0)))] → W p l e rm s m args below meth c H locs 0 0 (MQ below (zQi B res S9) args s 0 0 B.2.2.2) (F0 m 0 ls []) := by
  intro S hf H locs ls hW hS hl
  unfold zf_W_term_B at hf
  refine lv_aload_n C.1 C.2.1 zd_W_term_0 rfl (lv_at hl 0 rfl) ?_
  obtain ⟨a1, S2, ea1, hf⟩ := zbd_some hf
  refine zcVi (As := []) (rest := []) C hK hSt hW hS (hF_W_factor S ea1) zq_W_factor zk_1725 (zrecv hK hW (zvd_5 hr0 (by decide)) (ze_5_0 B _ (r0)) rfl) hq_W_factor ⟨Nat.zero_le _, Nat.zero_le _⟩ rfl hl.1 rfl (lv_room (Nat.le_of_ble_eq_true rfl)) zd_W_term_1 (fun na1 H locs hW hS => ?_)
  refine lv_istore_n (lv' := [(1, .int (zI (a1))), (0, .ref (B.2.1 5 (r0) (0)))]) C.1 C.2.1 zd_W_term_4 rfl hl (by decide) rfl (fun ls hl => ?_)
  exact zw_W_term_5 C hr hlk hK hSt hap r0 F_W_factor hr0 hrm hF_W_factor hq_W_factor 4096 (a1) S2 na1 hf _ _ _ hW hS (lv_sub hl [1, 0] rfl)

theorem zcb_W_term {l : Launch} {B : zB} (hap : zAp B) (r0 : Int) (F_W_factor : Sg → Option (Int × Sg)) (hr0 : 0 ≤ r0 ∧ r0 < 3) {rm : Room} (hrm : zhr_W_term rm) {rq_W_factor : Room} (hF_W_factor : ∀ (S : Sg) {res : Int} {S9 : Sg}, F_W_factor S = some (res, S9) → Met l zy_W_factor (Cond.code zy_W_factor zb_W_factor 4 (some .boolean) :: zT) rq_W_factor (zP B S [.ref (B.2.1 5 (r0) (0))]) (zQi B res S9) 0 0 B.2.2.2) (hq_W_factor : zRm rm rq_W_factor 4) (S : Sg) {res : Int} {S9 : Sg} (hf : zf_W_term_B r0 F_W_factor S = some (res, S9)) : Met l zy_W_term (Cond.code zy_W_term zb_W_term 2 (some .boolean) :: zT) rm (zP B S [.ref (B.2.1 5 (r0) (0))]) (zQi B res S9) 0 0 B.2.2.2 :=
  zmet (by decide) (Nat.le_of_ble_eq_true rfl) (fun p e s m args below meth c C hr hlk hK hSt hW ls hl => zw_W_term C hr hlk hK hSt hap r0 F_W_factor hr0 hrm hF_W_factor hq_W_factor  S  hf _ _ _ hW va_S.rf hl)
def zf_W_expr_5 (r0 : Int) (F_W_term : Sg → Option (Int × Sg)) : Nat → Int → Sg → Option (Int × Sg)
  | 0, _, _ => none
  | n + 1, x1, S =>
    zck (S 5 r0 0 47 = 1) <| zck (0 ≤ (S 5 r0 0 48) ∧ (S 5 r0 0 48) < 121) <| if (S 5 r0 35 (S 5 r0 0 48)) = 124 then (zlt (zu S 5 r0 0 48 (zw ((S 5 r0 0 48) + 1))) fun S5 => zbd (F_W_term  S5) fun a6 S7 => zlt (zor x1 a6) fun v8 => (zf_W_expr_5 r0 F_W_term n) (v8) S7) else (zck (x1 = 0 ∨ x1 = 1) <| some (x1, S))
set_option maxHeartbeats 4000000 in
set_option maxRecDepth 100000 in
theorem zw_W_expr_5 {p : Program} {l : Launch} {e : Env} {s : State} {m : MethodId} {args : Array Value} {below : List Frame} {meth : Method} {c : Code} {B : zB} (C : CallFix p m c zb_W_expr 2 s args zT "IslandOfficeModel$World") (hr : meth.sig.returnType = some .boolean) (hlk : meth.locks = false) (hK : zK B s) (hSt : zSt B s) (hap : zAp B) (r0 : Int) (F_W_term : Sg → Option (Int × Sg)) (hr0 : 0 ≤ r0 ∧ r0 < 3) {rm : Room} (hrm : zhr_W_expr rm) {rq_W_term : Room} (hF_W_term : ∀ (S : Sg) {res : Int} {S9 : Sg}, F_W_term S = some (res, S9) → Met l zy_W_term (Cond.code zy_W_term zb_W_term 2 (some .boolean) :: zT) rq_W_term (zP B S [.ref (B.2.1 5 (r0) (0))]) (zQi B res S9) 0 0 B.2.2.2) (hq_W_term : zRm rm rq_W_term 2) {res : Int} {S9 : Sg} : ∀ n : Nat, ∀ (x1 : Int) (S : Sg) (nx1 : zn x1), zf_W_expr_5 r0 F_W_term n x1 S = some (res, S9) → ∀ (H : Heap) (locs : List Loc) (ls : Array Slot), zW B S H → va_S B.2.2.2 s.heap H locs → lv_has ls 2 [(0, .ref (B.2.1 5 (r0) (0))), (1, .int (zI (x1)))] → W p l e rm s m args below meth c H locs 0 0 (MQ below (zQi B res S9) args s 0 0 B.2.2.2) (F0 m 5 ls []) := by
  intro n
  induction n with
  | zero =>
    intro x1 S nx1 hf H locs ls hW hS hl
    cases hf
  | succ n ih =>
    intro x1 S nx1 hf H locs ls hW hS hl
    rw [zf_W_expr_5] at hf
    refine lv_aload_n C.1 C.2.1 zd_W_expr_5 rfl (lv_at hl 0 rfl) ?_
    obtain ⟨h1, hf⟩ := zck_some hf
    refine zg_W_letters (r := r0) C hK hW (zvd_5 hr0 (by decide)) zk_1369 zd_W_expr_6 h1 ?_
    refine lv_aload_n C.1 C.2.1 zd_W_expr_9 rfl (lv_at hl 0 rfl) ?_
    refine zg_W_at (r := r0) C hK hW (zvd_5 hr0 (by decide)) zk_1370 zd_W_expr_10 ?_
    obtain ⟨h2, hf⟩ := zck_some hf
    refine ziald C hK hW (zvd_5 hr0 (by decide)) (fun f => ze_5_35 B f (r0)) (by decide) h2 zd_W_expr_13 ?_
    refine zr_bipush C zd_W_expr_14 (by decide) ?_
    refine zr_icmp_ne (tgt := 39) C (zWn hW _ _ _ _ rfl) (znb rfl) zd_W_expr_16 (by decide) (fun c3 => ?_) (fun c3 => ?_)
    · rw [if_neg c3] at hf
      refine lv_iload_n C.1 C.2.1 zd_W_expr_39 rfl (lv_at hl 1 rfl) ?_
      obtain ⟨h4, hf⟩ := zck_some hf
      cases hf
      exact zre_z C hr hlk hK hW hS nx1 (zb01 h4) zd_W_expr_40
    · rw [if_pos c3] at hf
      refine lv_aload_n C.1 C.2.1 zd_W_expr_19 rfl (lv_at hl 0 rfl) ?_
      refine lv_dup C.1 C.2.1 zd_W_expr_20 rfl ?_
      refine zg_W_at (r := r0) C hK hW (zvd_5 hr0 (by decide)) zk_1370 zd_W_expr_21 ?_
      refine zr_iconst C zd_W_expr_24 ?_
      refine zr_iadd C zd_W_expr_25 ?_
      obtain ⟨S5, eS5, hf⟩ := zlt_some hf
      refine zp_W_at (r := r0) C hK hap hW hS (zvd_5 hr0 (by decide)) zk_1370 (zn_w _) zd_W_expr_26 (fun H locs hW hS => ?_)
      rw [eS5] at hW
      refine lv_iload_n C.1 C.2.1 zd_W_expr_29 rfl (lv_at hl 1 rfl) ?_
      refine lv_aload_n C.1 C.2.1 zd_W_expr_30 rfl (lv_at hl 0 rfl) ?_
      obtain ⟨a6, S7, ea6, hf⟩ := zbd_some hf
      refine zcVi (As := []) (rest := [.int (zI (x1))]) C hK hSt hW hS (hF_W_term S5 ea6) zq_W_term zk_1721 (zrecv hK hW (zvd_5 hr0 (by decide)) (ze_5_0 B _ (r0)) rfl) hq_W_term ⟨Nat.zero_le _, Nat.zero_le _⟩ rfl hl.1 rfl (lv_room (Nat.le_of_ble_eq_true rfl)) zd_W_expr_31 (fun na6 H locs hW hS => ?_)
      refine zr_ior C zd_W_expr_34 ?_
      obtain ⟨v8, ev8, hf⟩ := zlt_some hf
      have nv8 : zn v8 := by rw [← ev8]; exact (zn_or _ _)
      rw [ev8]
      refine lv_istore_n (lv' := [(1, .int (zI (v8))), (0, .ref (B.2.1 5 (r0) (0)))]) C.1 C.2.1 zd_W_expr_35 rfl hl (by decide) rfl (fun ls hl => ?_)
      refine lv_goto (tgt := 5) C.1 C.2.1 zd_W_expr_36 (by decide) ?_
      exact ih (v8) S7 nv8 hf _ _ _ hW hS (lv_sub hl [1, 0] rfl)

def zf_W_expr_B (r0 : Int) (F_W_term : Sg → Option (Int × Sg)) (S : Sg) : Option (Int × Sg) :=
    zbd (F_W_term  S) fun a1 S2 => zf_W_expr_5 r0 F_W_term 4096 (a1) S2
set_option maxHeartbeats 4000000 in
set_option maxRecDepth 100000 in
theorem zw_W_expr {p : Program} {l : Launch} {e : Env} {s : State} {m : MethodId} {args : Array Value} {below : List Frame} {meth : Method} {c : Code} {B : zB} (C : CallFix p m c zb_W_expr 2 s args zT "IslandOfficeModel$World") (hr : meth.sig.returnType = some .boolean) (hlk : meth.locks = false) (hK : zK B s) (hSt : zSt B s) (hap : zAp B) (r0 : Int) (F_W_term : Sg → Option (Int × Sg)) (hr0 : 0 ≤ r0 ∧ r0 < 3) {rm : Room} (hrm : zhr_W_expr rm) {rq_W_term : Room} (hF_W_term : ∀ (S : Sg) {res : Int} {S9 : Sg}, F_W_term S = some (res, S9) → Met l zy_W_term (Cond.code zy_W_term zb_W_term 2 (some .boolean) :: zT) rq_W_term (zP B S [.ref (B.2.1 5 (r0) (0))]) (zQi B res S9) 0 0 B.2.2.2) (hq_W_term : zRm rm rq_W_term 2) {res : Int} {S9 : Sg} : ∀  (S : Sg) , zf_W_expr_B r0 F_W_term  S = some (res, S9) → ∀ (H : Heap) (locs : List Loc) (ls : Array Slot), zW B S H → va_S B.2.2.2 s.heap H locs → lv_has ls 2 [(0, .ref (B.2.1 5 (r0) (0)))] → W p l e rm s m args below meth c H locs 0 0 (MQ below (zQi B res S9) args s 0 0 B.2.2.2) (F0 m 0 ls []) := by
  intro S hf H locs ls hW hS hl
  unfold zf_W_expr_B at hf
  refine lv_aload_n C.1 C.2.1 zd_W_expr_0 rfl (lv_at hl 0 rfl) ?_
  obtain ⟨a1, S2, ea1, hf⟩ := zbd_some hf
  refine zcVi (As := []) (rest := []) C hK hSt hW hS (hF_W_term S ea1) zq_W_term zk_1721 (zrecv hK hW (zvd_5 hr0 (by decide)) (ze_5_0 B _ (r0)) rfl) hq_W_term ⟨Nat.zero_le _, Nat.zero_le _⟩ rfl hl.1 rfl (lv_room (Nat.le_of_ble_eq_true rfl)) zd_W_expr_1 (fun na1 H locs hW hS => ?_)
  refine lv_istore_n (lv' := [(1, .int (zI (a1))), (0, .ref (B.2.1 5 (r0) (0)))]) C.1 C.2.1 zd_W_expr_4 rfl hl (by decide) rfl (fun ls hl => ?_)
  exact zw_W_expr_5 C hr hlk hK hSt hap r0 F_W_term hr0 hrm hF_W_term hq_W_term 4096 (a1) S2 na1 hf _ _ _ hW hS (lv_sub hl [1, 0] rfl)

theorem zcb_W_expr {l : Launch} {B : zB} (hap : zAp B) (r0 : Int) (F_W_term : Sg → Option (Int × Sg)) (hr0 : 0 ≤ r0 ∧ r0 < 3) {rm : Room} (hrm : zhr_W_expr rm) {rq_W_term : Room} (hF_W_term : ∀ (S : Sg) {res : Int} {S9 : Sg}, F_W_term S = some (res, S9) → Met l zy_W_term (Cond.code zy_W_term zb_W_term 2 (some .boolean) :: zT) rq_W_term (zP B S [.ref (B.2.1 5 (r0) (0))]) (zQi B res S9) 0 0 B.2.2.2) (hq_W_term : zRm rm rq_W_term 2) (S : Sg) {res : Int} {S9 : Sg} (hf : zf_W_expr_B r0 F_W_term S = some (res, S9)) : Met l zy_W_expr (Cond.code zy_W_expr zb_W_expr 2 (some .boolean) :: zT) rm (zP B S [.ref (B.2.1 5 (r0) (0))]) (zQi B res S9) 0 0 B.2.2.2 :=
  zmet (by decide) (Nat.le_of_ble_eq_true rfl) (fun p e s m args below meth c C hr hlk hK hSt hW ls hl => zw_W_expr C hr hlk hK hSt hap r0 F_W_term hr0 hrm hF_W_term hq_W_term  S  hf _ _ _ hW va_S.rf hl)
def zf_W_factor_D (r0 : Int) : Nat → Sg → Option (Int × Sg)
  | 0, _ => none
  | n + 1, S => zf_W_factor_B r0 (zf_W_factor_D r0 n) (zf_W_expr_B r0 (zf_W_term_B r0 (zf_W_factor_D r0 n))) S
def zf_W_factor (r0 : Int) (S : Sg) : Option (Int × Sg) := zf_W_factor_D r0 128 S
def zf_W_term (r0 : Int) (S : Sg) : Option (Int × Sg) := zf_W_term_B r0 (zf_W_factor_D r0 128) S
def zf_W_expr (r0 : Int) (S : Sg) : Option (Int × Sg) := zf_W_expr_B r0 (zf_W_term_B r0 (zf_W_factor_D r0 128)) S
theorem zct_W_term {l : Launch} {B : zB} (hap : zAp B) (r0 : Int) (hr0 : 0 ≤ r0 ∧ r0 < 3) (d : Nat) (hF : ∀ (S : Sg) {res : Int} {S9 : Sg}, zf_W_factor_D r0 d S = some (res, S9) → Met l zy_W_factor (Cond.code zy_W_factor zb_W_factor 4 (some .boolean) :: zT) ({ frames := 5 + 3 * d + 0, cells := 0, slots := 0, locals := 109 + 65 * d + 0 }) (zP B S [.ref (B.2.1 5 (r0) (0))]) (zQi B res S9) 0 0 B.2.2.2) (S : Sg) {res : Int} {S9 : Sg} (hf : zf_W_term_B r0 (zf_W_factor_D r0 d) S = some (res, S9)) : Met l zy_W_term (Cond.code zy_W_term zb_W_term 2 (some .boolean) :: zT) ({ frames := 5 + 3 * d + 1, cells := 0, slots := 0, locals := 109 + 65 * d + 23 }) (zP B S [.ref (B.2.1 5 (r0) (0))]) (zQi B res S9) 0 0 B.2.2.2 :=
  zcb_W_term hap r0 (zf_W_factor_D r0 d) hr0 ⟨by dsimp only; omega, by dsimp only; omega⟩ hF ⟨rfl, rfl, by dsimp only; omega, by dsimp only; omega⟩ S hf
theorem zct_W_expr {l : Launch} {B : zB} (hap : zAp B) (r0 : Int) (hr0 : 0 ≤ r0 ∧ r0 < 3) (d : Nat) (hF : ∀ (S : Sg) {res : Int} {S9 : Sg}, zf_W_factor_D r0 d S = some (res, S9) → Met l zy_W_factor (Cond.code zy_W_factor zb_W_factor 4 (some .boolean) :: zT) ({ frames := 5 + 3 * d + 0, cells := 0, slots := 0, locals := 109 + 65 * d + 0 }) (zP B S [.ref (B.2.1 5 (r0) (0))]) (zQi B res S9) 0 0 B.2.2.2) (S : Sg) {res : Int} {S9 : Sg} (hf : zf_W_expr_B r0 (zf_W_term_B r0 (zf_W_factor_D r0 d)) S = some (res, S9)) : Met l zy_W_expr (Cond.code zy_W_expr zb_W_expr 2 (some .boolean) :: zT) ({ frames := 5 + 3 * d + 2, cells := 0, slots := 0, locals := 109 + 65 * d + 44 }) (zP B S [.ref (B.2.1 5 (r0) (0))]) (zQi B res S9) 0 0 B.2.2.2 :=
  zcb_W_expr hap r0 (zf_W_term_B r0 (zf_W_factor_D r0 d)) hr0 ⟨by dsimp only; omega, by dsimp only; omega⟩ (fun S _ _ h => zct_W_term hap r0 hr0 d hF S h) ⟨rfl, rfl, by dsimp only; omega, by dsimp only; omega⟩ S hf
theorem zct_W_factor {l : Launch} {B : zB} (hap : zAp B) (r0 : Int) (hr0 : 0 ≤ r0 ∧ r0 < 3) : ∀ (d : Nat) (S : Sg) {res : Int} {S9 : Sg}, zf_W_factor_D r0 d S = some (res, S9) → Met l zy_W_factor (Cond.code zy_W_factor zb_W_factor 4 (some .boolean) :: zT) ({ frames := 5 + 3 * d + 0, cells := 0, slots := 0, locals := 109 + 65 * d + 0 }) (zP B S [.ref (B.2.1 5 (r0) (0))]) (zQi B res S9) 0 0 B.2.2.2 := by
  intro d
  induction d with
  | zero =>
    intro S res S9 hf
    cases hf
  | succ d ih =>
    intro S res S9 hf
    rw [zf_W_factor_D] at hf
    exact zcb_W_factor hap r0 (zf_W_factor_D r0 d) (zf_W_expr_B r0 (zf_W_term_B r0 (zf_W_factor_D r0 d))) hr0 ⟨by dsimp only; omega, by dsimp only; omega⟩ (fun S _ _ h => ih S h) ⟨rfl, rfl, by dsimp only; omega, by dsimp only; omega⟩ (fun S _ _ h => zct_W_expr hap r0 hr0 d (fun S _ _ h => ih S h) S h) ⟨rfl, rfl, by dsimp only; omega, by dsimp only; omega⟩ S hf
theorem zc_W_factor {l : Launch} {B : zB} (hap : zAp B) (r0 : Int) (hr0 : 0 ≤ r0 ∧ r0 < 3) (S : Sg) {res : Int} {S9 : Sg} (hf : zf_W_factor r0 S = some (res, S9)) : Met l zy_W_factor (Cond.code zy_W_factor zb_W_factor 4 (some .boolean) :: zT) zm_W_factor (zP B S [.ref (B.2.1 5 (r0) (0))]) (zQi B res S9) 0 0 B.2.2.2 :=
  zct_W_factor hap r0 hr0 128 S hf
theorem zc_W_term {l : Launch} {B : zB} (hap : zAp B) (r0 : Int) (hr0 : 0 ≤ r0 ∧ r0 < 3) (S : Sg) {res : Int} {S9 : Sg} (hf : zf_W_term r0 S = some (res, S9)) : Met l zy_W_term (Cond.code zy_W_term zb_W_term 2 (some .boolean) :: zT) zm_W_term (zP B S [.ref (B.2.1 5 (r0) (0))]) (zQi B res S9) 0 0 B.2.2.2 :=
  zct_W_term hap r0 hr0 128 (fun S _ _ h => zct_W_factor hap r0 hr0 128 S h) S hf
theorem zc_W_expr {l : Launch} {B : zB} (hap : zAp B) (r0 : Int) (hr0 : 0 ≤ r0 ∧ r0 < 3) (S : Sg) {res : Int} {S9 : Sg} (hf : zf_W_expr r0 S = some (res, S9)) : Met l zy_W_expr (Cond.code zy_W_expr zb_W_expr 2 (some .boolean) :: zT) zm_W_expr (zP B S [.ref (B.2.1 5 (r0) (0))]) (zQi B res S9) 0 0 B.2.2.2 :=
  zct_W_expr hap r0 hr0 128 (fun S _ _ h => zct_W_factor hap r0 hr0 128 S h) S hf
/-! IslandOfficeModel$World.holds(II)Z -/
abbrev zy_W_holds : MethodName := ⟨"IslandOfficeModel$World", "holds", "(II)Z"⟩
abbrev zb_W_holds : ByteArray := prog_15_method_19_code
abbrev zm_W_holds : Room := { frames := 392, cells := 0, slots := 0, locals := 8494 }
theorem zq_W_holds : zMy zy_W_holds zb_W_holds 3 (some .boolean) 2 := ⟨zk_1715, zk_1713, zk_1714, zk_15, by decide, by decide, by decide +kernel⟩
theorem zd_W_holds_0 : decode zb_W_holds 0 = .ok (.aload_n 0, 1) := by decide +kernel
theorem zd_W_holds_1 : decode zb_W_holds 1 = .ok (.getfield 57, 3) := by decide +kernel
theorem zd_W_holds_4 : decode zb_W_holds 4 = .ok (.iload_n 1, 1) := by decide +kernel
theorem zd_W_holds_5 : decode zb_W_holds 5 = .ok (.aaload, 1) := by decide +kernel
theorem zd_W_holds_6 : decode zb_W_holds 6 = .ok (.iconst 0, 1) := by decide +kernel
theorem zd_W_holds_7 : decode zb_W_holds 7 = .ok (.aload_n 0, 1) := by decide +kernel
theorem zd_W_holds_8 : decode zb_W_holds 8 = .ok (.getfield 132, 3) := by decide +kernel
theorem zd_W_holds_11 : decode zb_W_holds 11 = .ok (.iconst 0, 1) := by decide +kernel
theorem zd_W_holds_12 : decode zb_W_holds 12 = .ok (.aload_n 0, 1) := by decide +kernel
theorem zd_W_holds_13 : decode zb_W_holds 13 = .ok (.getfield 60, 3) := by decide +kernel
theorem zd_W_holds_16 : decode zb_W_holds 16 = .ok (.iload_n 1, 1) := by decide +kernel
theorem zd_W_holds_17 : decode zb_W_holds 17 = .ok (.iaload, 1) := by decide +kernel
theorem zd_W_holds_18 : decode zb_W_holds 18 = .ok (.invokestatic 183, 3) := by decide +kernel
theorem zd_W_holds_21 : decode zb_W_holds 21 = .ok (.aload_n 0, 1) := by decide +kernel
theorem zd_W_holds_22 : decode zb_W_holds 22 = .ok (.getfield 132, 3) := by decide +kernel
theorem zd_W_holds_25 : decode zb_W_holds 25 = .ok (.aload_n 0, 1) := by decide +kernel
theorem zd_W_holds_26 : decode zb_W_holds 26 = .ok (.getfield 60, 3) := by decide +kernel
theorem zd_W_holds_29 : decode zb_W_holds 29 = .ok (.iload_n 1, 1) := by decide +kernel
theorem zd_W_holds_30 : decode zb_W_holds 30 = .ok (.iaload, 1) := by decide +kernel
theorem zd_W_holds_31 : decode zb_W_holds 31 = .ok (.iconst 0, 1) := by decide +kernel
theorem zd_W_holds_32 : decode zb_W_holds 32 = .ok (.iastore, 1) := by decide +kernel
theorem zd_W_holds_33 : decode zb_W_holds 33 = .ok (.aload_n 0, 1) := by decide +kernel
theorem zd_W_holds_34 : decode zb_W_holds 34 = .ok (.aload_n 0, 1) := by decide +kernel
theorem zd_W_holds_35 : decode zb_W_holds 35 = .ok (.getfield 132, 3) := by decide +kernel
theorem zd_W_holds_38 : decode zb_W_holds 38 = .ok (.putfield 218, 3) := by decide +kernel
theorem zd_W_holds_41 : decode zb_W_holds 41 = .ok (.aload_n 0, 1) := by decide +kernel
theorem zd_W_holds_42 : decode zb_W_holds 42 = .ok (.iconst 2, 1) := by decide +kernel
theorem zd_W_holds_43 : decode zb_W_holds 43 = .ok (.putfield 221, 3) := by decide +kernel
theorem zd_W_holds_46 : decode zb_W_holds 46 = .ok (.aload_n 0, 1) := by decide +kernel
theorem zd_W_holds_47 : decode zb_W_holds 47 = .ok (.iload_n 2, 1) := by decide +kernel
theorem zd_W_holds_48 : decode zb_W_holds 48 = .ok (.putfield 207, 3) := by decide +kernel
theorem zd_W_holds_51 : decode zb_W_holds 51 = .ok (.aload_n 0, 1) := by decide +kernel
theorem zd_W_holds_52 : decode zb_W_holds 52 = .ok (.invokevirtual 235, 3) := by decide +kernel
theorem zd_W_holds_55 : decode zb_W_holds 55 = .ok (.ireturn, 1) := by decide +kernel

def zf_W_holds (r0 : Int) (x1 : Int) (x2 : Int) (S : Sg) : Option (Int × Sg) :=
    zck (0 ≤ x1 ∧ x1 < 12) <| zck ((0 : Int) ≤ 0 ∧ (0 : Int) ≤ 0 ∧ (0 : Int) ≤ (S 5 r0 14 x1) ∧ (0 + (S 5 r0 14 x1) : Int) ≤ 120 ∧ (0 + (S 5 r0 14 x1) : Int) ≤ 121) <| zlt (zcp S 6 r0 x1 0 5 r0 35 0 (S 5 r0 14 x1)) fun S3 => zck (0 ≤ (S3 5 r0 14 x1) ∧ (S3 5 r0 14 x1) < 121) <| zlt (zu S3 5 r0 35 (S3 5 r0 14 x1) 0) fun S5 => zlt (zu S5 5 r0 0 47 1) fun S6 => zlt (zu S6 5 r0 0 48 2) fun S7 => zlt (zu S7 5 r0 0 49 x2) fun S8 => zbd (zf_W_expr (r0) S8) fun a9 S10 => zck (a9 = 0 ∨ a9 = 1) <| some (a9, S10)
set_option maxHeartbeats 4000000 in
set_option maxRecDepth 100000 in
theorem zw_W_holds {p : Program} {l : Launch} {e : Env} {s : State} {m : MethodId} {args : Array Value} {below : List Frame} {meth : Method} {c : Code} {B : zB} (C : CallFix p m c zb_W_holds 3 s args zT "IslandOfficeModel$World") (hr : meth.sig.returnType = some .boolean) (hlk : meth.locks = false) (hK : zK B s) (hSt : zSt B s) (hap : zAp B) (r0 : Int) (hr0 : 0 ≤ r0 ∧ r0 < 3) {res : Int} {S9 : Sg} : ∀ (x1 : Int) (x2 : Int) (S : Sg) (nx1 : zn x1) (nx2 : zn x2), zf_W_holds r0 x1 x2 S = some (res, S9) → ∀ (H : Heap) (locs : List Loc) (ls : Array Slot), zW B S H → va_S B.2.2.2 s.heap H locs → lv_has ls 3 [(0, .ref (B.2.1 5 (r0) (0))), (1, .int (zI (x1))), (2, .int (zI (x2)))] → W p l e zm_W_holds s m args below meth c H locs 0 0 (MQ below (zQi B res S9) args s 0 0 B.2.2.2) (F0 m 0 ls []) := by
  intro x1 x2 S nx1 nx2 hf H locs ls hW hS hl
  unfold zf_W_holds at hf
  refine lv_aload_n C.1 C.2.1 zd_W_holds_0 rfl (lv_at hl 0 rfl) ?_
  refine zg_W_text (r := r0) C hK hW (zvd_5 hr0 (by decide)) zk_1309 zd_W_holds_1 ?_
  refine lv_iload_n C.1 C.2.1 zd_W_holds_4 rfl (lv_at hl 1 rfl) ?_
  obtain ⟨h1, hf⟩ := zck_some hf
  refine zaald (t0 := 4) C hK hW (zvd_5 hr0 (by decide)) (fun f => ze_5_41 B f (r0)) rfl rfl (by decide) h1 zd_W_holds_5 (a := B.2.1 6 (r0) (x1)) (by rw [Int.toNat_of_nonneg h1.1]) ?_
  refine zr_iconst C zd_W_holds_6 ?_
  refine lv_aload_n C.1 C.2.1 zd_W_holds_7 rfl (lv_at hl 0 rfl) ?_
  refine zg_W_work (r := r0) C hK hW (zvd_5 hr0 (by decide)) zk_1372 zd_W_holds_8 ?_
  refine zr_iconst C zd_W_holds_11 ?_
  refine lv_aload_n C.1 C.2.1 zd_W_holds_12 rfl (lv_at hl 0 rfl) ?_
  refine zg_W_size (r := r0) C hK hW (zvd_5 hr0 (by decide)) zk_1311 zd_W_holds_13 ?_
  refine lv_iload_n C.1 C.2.1 zd_W_holds_16 rfl (lv_at hl 1 rfl) ?_
  refine ziald C hK hW (zvd_5 hr0 (by decide)) (fun f => ze_5_14 B f (r0)) (by decide) h1 zd_W_holds_17 ?_
  obtain ⟨h2, hf⟩ := zck_some hf
  obtain ⟨S3, eS3, hf⟩ := zlt_some hf
  refine zcopy C hK hap hW hS hl.1 (zvd_6 hr0 h1) (zvd_5 hr0 (by decide)) (fun f => ze_6 B f (r0) (x1)) (fun f => ze_5_35 B f (r0)) (by decide) (by decide) rfl rfl h2 zk_1716 zk_735 zk_734 zk_18 (by decide) (Nat.le_of_ble_eq_true rfl) zd_W_holds_18 (fun H locs hW hS => ?_)
  rw [eS3] at hW
  refine lv_aload_n C.1 C.2.1 zd_W_holds_21 rfl (lv_at hl 0 rfl) ?_
  refine zg_W_work (r := r0) C hK hW (zvd_5 hr0 (by decide)) zk_1372 zd_W_holds_22 ?_
  refine lv_aload_n C.1 C.2.1 zd_W_holds_25 rfl (lv_at hl 0 rfl) ?_
  refine zg_W_size (r := r0) C hK hW (zvd_5 hr0 (by decide)) zk_1311 zd_W_holds_26 ?_
  refine lv_iload_n C.1 C.2.1 zd_W_holds_29 rfl (lv_at hl 1 rfl) ?_
  refine ziald C hK hW (zvd_5 hr0 (by decide)) (fun f => ze_5_14 B f (r0)) (by decide) h1 zd_W_holds_30 ?_
  refine zr_iconst C zd_W_holds_31 ?_
  obtain ⟨h4, hf⟩ := zck_some hf
  obtain ⟨S5, eS5, hf⟩ := zlt_some hf
  refine ziast C hK hap hW hS (zvd_5 hr0 (by decide)) (fun f => ze_5_35 B f (r0)) (by decide) rfl (znb rfl) h4 zd_W_holds_32 (fun H locs hW hS => ?_)
  rw [eS5] at hW
  refine lv_aload_n C.1 C.2.1 zd_W_holds_33 rfl (lv_at hl 0 rfl) ?_
  refine lv_aload_n C.1 C.2.1 zd_W_holds_34 rfl (lv_at hl 0 rfl) ?_
  refine zg_W_work (r := r0) C hK hW (zvd_5 hr0 (by decide)) zk_1372 zd_W_holds_35 ?_
  obtain ⟨S6, eS6, hf⟩ := zlt_some hf
  refine zp_W_letters (r := r0) C hK hap hW hS (zvd_5 hr0 (by decide)) zk_1369 zd_W_holds_38 (fun H locs hW hS => ?_)
  rw [eS6] at hW
  refine lv_aload_n C.1 C.2.1 zd_W_holds_41 rfl (lv_at hl 0 rfl) ?_
  refine zr_iconst C zd_W_holds_42 ?_
  obtain ⟨S7, eS7, hf⟩ := zlt_some hf
  refine zp_W_at (r := r0) C hK hap hW hS (zvd_5 hr0 (by decide)) zk_1370 (znb rfl) zd_W_holds_43 (fun H locs hW hS => ?_)
  rw [eS7] at hW
  refine lv_aload_n C.1 C.2.1 zd_W_holds_46 rfl (lv_at hl 0 rfl) ?_
  refine lv_iload_n C.1 C.2.1 zd_W_holds_47 rfl (lv_at hl 2 rfl) ?_
  obtain ⟨S8, eS8, hf⟩ := zlt_some hf
  refine zp_W_whom (r := r0) C hK hap hW hS (zvd_5 hr0 (by decide)) zk_1371 nx2 zd_W_holds_48 (fun H locs hW hS => ?_)
  rw [eS8] at hW
  refine lv_aload_n C.1 C.2.1 zd_W_holds_51 rfl (lv_at hl 0 rfl) ?_
  obtain ⟨a9, S10, ea9, hf⟩ := zbd_some hf
  refine zcVi (As := []) (rest := []) C hK hSt hW hS (zc_W_expr hap (r0) hr0 S8 ea9) zq_W_expr zk_1717 (zrecv hK hW (zvd_5 hr0 (by decide)) (ze_5_0 B _ (r0)) rfl) ⟨rfl, rfl, by decide, by decide⟩ ⟨Nat.zero_le _, Nat.zero_le _⟩ rfl hl.1 rfl (lv_room (Nat.le_of_ble_eq_true rfl)) zd_W_holds_52 (fun na9 H locs hW hS => ?_)
  obtain ⟨h11, hf⟩ := zck_some hf
  cases hf
  exact zre_z C hr hlk hK hW hS na9 (zb01 h11) zd_W_holds_55

theorem zc_W_holds {l : Launch} {B : zB} (hap : zAp B) (r0 : Int) (hr0 : 0 ≤ r0 ∧ r0 < 3) (x1 : Int) (x2 : Int) (S : Sg) (nx1 : zn x1) (nx2 : zn x2) {res : Int} {S9 : Sg} (hf : zf_W_holds r0 x1 x2 S = some (res, S9)) : Met l zy_W_holds (Cond.code zy_W_holds zb_W_holds 3 (some .boolean) :: zT) zm_W_holds (zP B S [.ref (B.2.1 5 (r0) (0)), .int (zI (x1)), .int (zI (x2))]) (zQi B res S9) 0 0 B.2.2.2 :=
  zmet (by decide) (Nat.le_of_ble_eq_true rfl) (fun p e s m args below meth c C hr hlk hK hSt hW ls hl => zw_W_holds C hr hlk hK hSt hap r0 hr0 x1 x2 S nx1 nx2 hf _ _ _ hW va_S.rf hl)
/-! IslandOfficeModel$World.may(II)Z -/
abbrev zy_W_may : MethodName := ⟨"IslandOfficeModel$World", "may", "(II)Z"⟩
abbrev zb_W_may : ByteArray := prog_15_method_22_code
abbrev zm_W_may : Room := { frames := 393, cells := 0, slots := 0, locals := 8516 }
theorem zq_W_may : zMy zy_W_may zb_W_may 4 (some .boolean) 2 := ⟨zk_1703, zk_1701, zk_1702, zk_15, by decide, by decide, by decide +kernel⟩
theorem zd_W_may_0 : decode zb_W_may 0 = .ok (.aload_n 0, 1) := by decide +kernel
theorem zd_W_may_1 : decode zb_W_may 1 = .ok (.iload_n 2, 1) := by decide +kernel
theorem zd_W_may_2 : decode zb_W_may 2 = .ok (.aload_n 0, 1) := by decide +kernel
theorem zd_W_may_3 : decode zb_W_may 3 = .ok (.getfield 155, 3) := by decide +kernel
theorem zd_W_may_6 : decode zb_W_may 6 = .ok (.invokevirtual 247, 3) := by decide +kernel
theorem zd_W_may_9 : decode zb_W_may 9 = .ok (.istore_n 3, 1) := by decide +kernel
theorem zd_W_may_10 : decode zb_W_may 10 = .ok (.iload_n 3, 1) := by decide +kernel
theorem zd_W_may_11 : decode zb_W_may 11 = .ok (.bipush (-2), 2) := by decide +kernel
theorem zd_W_may_13 : decode zb_W_may 13 = .ok (.if_icmp .eq 10, 3) := by decide +kernel
theorem zd_W_may_16 : decode zb_W_may 16 = .ok (.aload_n 0, 1) := by decide +kernel
theorem zd_W_may_17 : decode zb_W_may 17 = .ok (.iload_n 3, 1) := by decide +kernel
theorem zd_W_may_18 : decode zb_W_may 18 = .ok (.iload_n 1, 1) := by decide +kernel
theorem zd_W_may_19 : decode zb_W_may 19 = .ok (.invokevirtual 251, 3) := by decide +kernel
theorem zd_W_may_22 : decode zb_W_may 22 = .ok (.ireturn, 1) := by decide +kernel
theorem zd_W_may_23 : decode zb_W_may 23 = .ok (.iload_n 2, 1) := by decide +kernel
theorem zd_W_may_24 : decode zb_W_may 24 = .ok (.ifCond .ne 21, 3) := by decide +kernel
theorem zd_W_may_27 : decode zb_W_may 27 = .ok (.aload_n 0, 1) := by decide +kernel
theorem zd_W_may_28 : decode zb_W_may 28 = .ok (.iload_n 1, 1) := by decide +kernel
theorem zd_W_may_29 : decode zb_W_may 29 = .ok (.invokevirtual 189, 3) := by decide +kernel
theorem zd_W_may_32 : decode zb_W_may 32 = .ok (.bipush 18, 2) := by decide +kernel
theorem zd_W_may_34 : decode zb_W_may 34 = .ok (.if_icmp .lt 7, 3) := by decide +kernel
theorem zd_W_may_37 : decode zb_W_may 37 = .ok (.iconst 1, 1) := by decide +kernel
theorem zd_W_may_38 : decode zb_W_may 38 = .ok (.goto 17, 3) := by decide +kernel
theorem zd_W_may_41 : decode zb_W_may 41 = .ok (.iconst 0, 1) := by decide +kernel
theorem zd_W_may_42 : decode zb_W_may 42 = .ok (.goto 13, 3) := by decide +kernel
theorem zd_W_may_45 : decode zb_W_may 45 = .ok (.iload_n 2, 1) := by decide +kernel
theorem zd_W_may_46 : decode zb_W_may 46 = .ok (.iconst 2, 1) := by decide +kernel
theorem zd_W_may_47 : decode zb_W_may 47 = .ok (.if_icmp .eq 7, 3) := by decide +kernel
theorem zd_W_may_50 : decode zb_W_may 50 = .ok (.iconst 1, 1) := by decide +kernel
theorem zd_W_may_51 : decode zb_W_may 51 = .ok (.goto 4, 3) := by decide +kernel
theorem zd_W_may_54 : decode zb_W_may 54 = .ok (.iconst 0, 1) := by decide +kernel
theorem zd_W_may_55 : decode zb_W_may 55 = .ok (.ireturn, 1) := by decide +kernel

def zf_W_may (r0 : Int) (x1 : Int) (x2 : Int) (S : Sg) : Option (Int × Sg) :=
    zbd (zf_W_force (r0) x2 (S 5 r0 0 0) S) fun a1 S2 => if a1 = (-2) then (if x2 = 0 then (zbd (zf_W_age (r0) x1 S2) fun a6 S7 => if a6 < 18 then (some (0, S7)) else (some (1, S7))) else (if x2 = 2 then (some (0, S2)) else (some (1, S2)))) else (zbd (zf_W_holds (r0) a1 x1 S2) fun a9 S10 => zck (a9 = 0 ∨ a9 = 1) <| some (a9, S10))
set_option maxHeartbeats 4000000 in
set_option maxRecDepth 100000 in
theorem zw_W_may {p : Program} {l : Launch} {e : Env} {s : State} {m : MethodId} {args : Array Value} {below : List Frame} {meth : Method} {c : Code} {B : zB} (C : CallFix p m c zb_W_may 4 s args zT "IslandOfficeModel$World") (hr : meth.sig.returnType = some .boolean) (hlk : meth.locks = false) (hK : zK B s) (hSt : zSt B s) (hap : zAp B) (r0 : Int) (hr0 : 0 ≤ r0 ∧ r0 < 3) {res : Int} {S9 : Sg} : ∀ (x1 : Int) (x2 : Int) (S : Sg) (nx1 : zn x1) (nx2 : zn x2), zf_W_may r0 x1 x2 S = some (res, S9) → ∀ (H : Heap) (locs : List Loc) (ls : Array Slot), zW B S H → va_S B.2.2.2 s.heap H locs → lv_has ls 4 [(0, .ref (B.2.1 5 (r0) (0))), (1, .int (zI (x1))), (2, .int (zI (x2)))] → W p l e zm_W_may s m args below meth c H locs 0 0 (MQ below (zQi B res S9) args s 0 0 B.2.2.2) (F0 m 0 ls []) := by
  intro x1 x2 S nx1 nx2 hf H locs ls hW hS hl
  unfold zf_W_may at hf
  refine lv_aload_n C.1 C.2.1 zd_W_may_0 rfl (lv_at hl 0 rfl) ?_
  refine lv_iload_n C.1 C.2.1 zd_W_may_1 rfl (lv_at hl 2 rfl) ?_
  refine lv_aload_n C.1 C.2.1 zd_W_may_2 rfl (lv_at hl 0 rfl) ?_
  refine zg_W_week (r := r0) C hK hW (zvd_5 hr0 (by decide)) zk_1275 zd_W_may_3 ?_
  obtain ⟨a1, S2, ea1, hf⟩ := zbd_some hf
  refine zcVi (As := [.int (zI (x2)), .int (zI (S 5 r0 0 0))]) (rest := []) C hK hSt hW hS (zc_W_force hap (r0) hr0 x2 (S 5 r0 0 0) S nx2 (zWn hW _ _ _ _ rfl) ea1) zq_W_force zk_1704 (zrecv hK hW (zvd_5 hr0 (by decide)) (ze_5_0 B _ (r0)) rfl) ⟨rfl, rfl, by decide, by decide⟩ ⟨Nat.zero_le _, Nat.zero_le _⟩ rfl hl.1 rfl (lv_room (Nat.le_of_ble_eq_true rfl)) zd_W_may_6 (fun na1 H locs hW hS => ?_)
  refine lv_istore_n (lv' := [(3, .int (zI (a1))), (0, .ref (B.2.1 5 (r0) (0))), (1, .int (zI (x1))), (2, .int (zI (x2)))]) C.1 C.2.1 zd_W_may_9 rfl hl (by decide) rfl (fun ls hl => ?_)
  refine lv_iload_n C.1 C.2.1 zd_W_may_10 rfl (lv_at hl 0 rfl) ?_
  refine zr_bipush C zd_W_may_11 (by decide) ?_
  refine zr_icmp_eq (tgt := 23) C na1 (znb rfl) zd_W_may_13 (by decide) (fun c3 => ?_) (fun c3 => ?_)
  · rw [if_pos c3] at hf
    refine lv_iload_n C.1 C.2.1 zd_W_may_23 rfl (lv_at hl 3 rfl) ?_
    refine zr_if_ne (tgt := 45) C nx2 zd_W_may_24 (by decide) (fun c4 => ?_) (fun c4 => ?_)
    · rw [if_neg c4] at hf
      refine lv_iload_n C.1 C.2.1 zd_W_may_45 rfl (lv_at hl 3 rfl) ?_
      refine zr_iconst C zd_W_may_46 ?_
      refine zr_icmp_eq (tgt := 54) C nx2 (znb rfl) zd_W_may_47 (by decide) (fun c5 => ?_) (fun c5 => ?_)
      · rw [if_pos c5] at hf
        refine zr_iconst C zd_W_may_54 ?_
        cases hf
        exact zre_z C hr hlk hK hW hS (znb rfl) (zb01 (by decide)) zd_W_may_55
      · rw [if_neg c5] at hf
        refine zr_iconst C zd_W_may_50 ?_
        refine lv_goto (tgt := 55) C.1 C.2.1 zd_W_may_51 (by decide) ?_
        cases hf
        exact zre_z C hr hlk hK hW hS (znb rfl) (zb01 (by decide)) zd_W_may_55
    · rw [if_pos c4] at hf
      refine lv_aload_n C.1 C.2.1 zd_W_may_27 rfl (lv_at hl 1 rfl) ?_
      refine lv_iload_n C.1 C.2.1 zd_W_may_28 rfl (lv_at hl 2 rfl) ?_
      obtain ⟨a6, S7, ea6, hf⟩ := zbd_some hf
      refine zcVi (As := [.int (zI (x1))]) (rest := []) C hK hSt hW hS (zc_W_age hap (r0) hr0 x1 S2 nx1 ea6) zq_W_age zk_1584 (zrecv hK hW (zvd_5 hr0 (by decide)) (ze_5_0 B _ (r0)) rfl) ⟨rfl, rfl, by decide, by decide⟩ ⟨Nat.zero_le _, Nat.zero_le _⟩ rfl hl.1 rfl (lv_room (Nat.le_of_ble_eq_true rfl)) zd_W_may_29 (fun na6 H locs hW hS => ?_)
      refine zr_bipush C zd_W_may_32 (by decide) ?_
      refine zr_icmp_lt (tgt := 41) C na6 (znb rfl) zd_W_may_34 (by decide) (fun c8 => ?_) (fun c8 => ?_)
      · rw [if_pos c8] at hf
        refine zr_iconst C zd_W_may_41 ?_
        refine lv_goto (tgt := 55) C.1 C.2.1 zd_W_may_42 (by decide) ?_
        cases hf
        exact zre_z C hr hlk hK hW hS (znb rfl) (zb01 (by decide)) zd_W_may_55
      · rw [if_neg c8] at hf
        refine zr_iconst C zd_W_may_37 ?_
        refine lv_goto (tgt := 55) C.1 C.2.1 zd_W_may_38 (by decide) ?_
        cases hf
        exact zre_z C hr hlk hK hW hS (znb rfl) (zb01 (by decide)) zd_W_may_55
  · rw [if_neg c3] at hf
    refine lv_aload_n C.1 C.2.1 zd_W_may_16 rfl (lv_at hl 1 rfl) ?_
    refine lv_iload_n C.1 C.2.1 zd_W_may_17 rfl (lv_at hl 0 rfl) ?_
    refine lv_iload_n C.1 C.2.1 zd_W_may_18 rfl (lv_at hl 2 rfl) ?_
    obtain ⟨a9, S10, ea9, hf⟩ := zbd_some hf
    refine zcVi (As := [.int (zI (a1)), .int (zI (x1))]) (rest := []) C hK hSt hW hS (zc_W_holds hap (r0) hr0 a1 x1 S2 na1 nx1 ea9) zq_W_holds zk_1712 (zrecv hK hW (zvd_5 hr0 (by decide)) (ze_5_0 B _ (r0)) rfl) ⟨rfl, rfl, by decide, by decide⟩ ⟨Nat.zero_le _, Nat.zero_le _⟩ rfl hl.1 rfl (lv_room (Nat.le_of_ble_eq_true rfl)) zd_W_may_19 (fun na9 H locs hW hS => ?_)
    obtain ⟨h11, hf⟩ := zck_some hf
    cases hf
    exact zre_z C hr hlk hK hW hS na9 (zb01 h11) zd_W_may_22

theorem zc_W_may {l : Launch} {B : zB} (hap : zAp B) (r0 : Int) (hr0 : 0 ≤ r0 ∧ r0 < 3) (x1 : Int) (x2 : Int) (S : Sg) (nx1 : zn x1) (nx2 : zn x2) {res : Int} {S9 : Sg} (hf : zf_W_may r0 x1 x2 S = some (res, S9)) : Met l zy_W_may (Cond.code zy_W_may zb_W_may 4 (some .boolean) :: zT) zm_W_may (zP B S [.ref (B.2.1 5 (r0) (0)), .int (zI (x1)), .int (zI (x2))]) (zQi B res S9) 0 0 B.2.2.2 :=
  zmet (by decide) (Nat.le_of_ble_eq_true rfl) (fun p e s m args below meth c C hr hlk hK hSt hW ls hl => zw_W_may C hr hlk hK hSt hap r0 hr0 x1 x2 S nx1 nx2 hf _ _ _ hW va_S.rf hl)
/-! IslandOfficeModel$World.votersNow()I -/
abbrev zy_W_votersNow : MethodName := ⟨"IslandOfficeModel$World", "votersNow", "()I"⟩
abbrev zb_W_votersNow : ByteArray := prog_15_method_23_code
abbrev zm_W_votersNow : Room := { frames := 394, cells := 0, slots := 0, locals := 8539 }
theorem zq_W_votersNow : zMy zy_W_votersNow zb_W_votersNow 3 (some .int) 0 := ⟨zk_1699, zk_1697, zk_1698, zk_15, by decide, by decide, by decide +kernel⟩
theorem zd_W_votersNow_0 : decode zb_W_votersNow 0 = .ok (.iconst 0, 1) := by decide +kernel
theorem zd_W_votersNow_1 : decode zb_W_votersNow 1 = .ok (.istore_n 1, 1) := by decide +kernel
theorem zd_W_votersNow_2 : decode zb_W_votersNow 2 = .ok (.iconst 0, 1) := by decide +kernel
theorem zd_W_votersNow_3 : decode zb_W_votersNow 3 = .ok (.istore_n 2, 1) := by decide +kernel
theorem zd_W_votersNow_4 : decode zb_W_votersNow 4 = .ok (.iload_n 2, 1) := by decide +kernel
theorem zd_W_votersNow_5 : decode zb_W_votersNow 5 = .ok (.aload_n 0, 1) := by decide +kernel
theorem zd_W_votersNow_6 : decode zb_W_votersNow 6 = .ok (.getfield 158, 3) := by decide +kernel
theorem zd_W_votersNow_9 : decode zb_W_votersNow 9 = .ok (.if_icmp .ge 43, 3) := by decide +kernel
theorem zd_W_votersNow_12 : decode zb_W_votersNow 12 = .ok (.iload_n 1, 1) := by decide +kernel
theorem zd_W_votersNow_13 : decode zb_W_votersNow 13 = .ok (.aload_n 0, 1) := by decide +kernel
theorem zd_W_votersNow_14 : decode zb_W_votersNow 14 = .ok (.iload_n 2, 1) := by decide +kernel
theorem zd_W_votersNow_15 : decode zb_W_votersNow 15 = .ok (.invokevirtual 203, 3) := by decide +kernel
theorem zd_W_votersNow_18 : decode zb_W_votersNow 18 = .ok (.ifCond .eq 25, 3) := by decide +kernel
theorem zd_W_votersNow_21 : decode zb_W_votersNow 21 = .ok (.aload_n 0, 1) := by decide +kernel
theorem zd_W_votersNow_22 : decode zb_W_votersNow 22 = .ok (.iload_n 2, 1) := by decide +kernel
theorem zd_W_votersNow_23 : decode zb_W_votersNow 23 = .ok (.invokevirtual 193, 3) := by decide +kernel
theorem zd_W_votersNow_26 : decode zb_W_votersNow 26 = .ok (.iconst 5, 1) := by decide +kernel
theorem zd_W_votersNow_27 : decode zb_W_votersNow 27 = .ok (.if_icmp .eq 16, 3) := by decide +kernel
theorem zd_W_votersNow_30 : decode zb_W_votersNow 30 = .ok (.aload_n 0, 1) := by decide +kernel
theorem zd_W_votersNow_31 : decode zb_W_votersNow 31 = .ok (.iload_n 2, 1) := by decide +kernel
theorem zd_W_votersNow_32 : decode zb_W_votersNow 32 = .ok (.iconst 0, 1) := by decide +kernel
theorem zd_W_votersNow_33 : decode zb_W_votersNow 33 = .ok (.invokevirtual 255, 3) := by decide +kernel
theorem zd_W_votersNow_36 : decode zb_W_votersNow 36 = .ok (.ifCond .eq 7, 3) := by decide +kernel
theorem zd_W_votersNow_39 : decode zb_W_votersNow 39 = .ok (.iconst 1, 1) := by decide +kernel
theorem zd_W_votersNow_40 : decode zb_W_votersNow 40 = .ok (.goto 4, 3) := by decide +kernel
theorem zd_W_votersNow_43 : decode zb_W_votersNow 43 = .ok (.iconst 0, 1) := by decide +kernel
theorem zd_W_votersNow_44 : decode zb_W_votersNow 44 = .ok (.iadd, 1) := by decide +kernel
theorem zd_W_votersNow_45 : decode zb_W_votersNow 45 = .ok (.istore_n 1, 1) := by decide +kernel
theorem zd_W_votersNow_46 : decode zb_W_votersNow 46 = .ok (.iinc 2 1, 3) := by decide +kernel
theorem zd_W_votersNow_49 : decode zb_W_votersNow 49 = .ok (.goto (-45), 3) := by decide +kernel
theorem zd_W_votersNow_52 : decode zb_W_votersNow 52 = .ok (.iload_n 1, 1) := by decide +kernel
theorem zd_W_votersNow_53 : decode zb_W_votersNow 53 = .ok (.ireturn, 1) := by decide +kernel

def zf_W_votersNow_44 (r0 : Int) (q4 : Int → Int → Sg → Option (Int × Sg)) (x2 : Int) (xt0 : Int) (xt1 : Int) (S : Sg) : Option (Int × Sg) :=
    zlt (zw (xt0 + xt1)) fun v1 => zlt (zw (x2 + 1)) fun v2 => q4 (v1) (v2) S
set_option maxHeartbeats 4000000 in
set_option maxRecDepth 100000 in
theorem zw_W_votersNow_44 {p : Program} {l : Launch} {e : Env} {s : State} {m : MethodId} {args : Array Value} {below : List Frame} {meth : Method} {c : Code} {B : zB} (C : CallFix p m c zb_W_votersNow 3 s args zT "IslandOfficeModel$World") (hr : meth.sig.returnType = some .int) (hlk : meth.locks = false) (hK : zK B s) (hSt : zSt B s) (hap : zAp B) (r0 : Int) (hr0 : 0 ≤ r0 ∧ r0 < 3) {res : Int} {S9 : Sg} (q4 : Int → Int → Sg → Option (Int × Sg)) (hq4 : ∀ (x1 : Int) (x2 : Int) (S : Sg) (nx1 : zn x1) (nx2 : zn x2), q4 x1 x2 S = some (res, S9) → ∀ (H : Heap) (locs : List Loc) (ls : Array Slot), zW B S H → va_S B.2.2.2 s.heap H locs → lv_has ls 3 [(0, .ref (B.2.1 5 (r0) (0))), (1, .int (zI (x1))), (2, .int (zI (x2)))] → W p l e zm_W_votersNow s m args below meth c H locs 0 0 (MQ below (zQi B res S9) args s 0 0 B.2.2.2) (F0 m 4 ls [])) : ∀ (x2 : Int) (xt0 : Int) (xt1 : Int) (S : Sg) (nx2 : zn x2) (nxt0 : zn xt0) (nxt1 : zn xt1), zf_W_votersNow_44 r0 q4 x2 xt0 xt1 S = some (res, S9) → ∀ (H : Heap) (locs : List Loc) (ls : Array Slot), zW B S H → va_S B.2.2.2 s.heap H locs → lv_has ls 3 [(0, .ref (B.2.1 5 (r0) (0))), (2, .int (zI (x2)))] → W p l e zm_W_votersNow s m args below meth c H locs 0 0 (MQ below (zQi B res S9) args s 0 0 B.2.2.2) (F0 m 44 ls [.int (zI (xt1)), .int (zI (xt0))]) := by
  intro x2 xt0 xt1 S nx2 nxt0 nxt1 hf H locs ls hW hS hl
  unfold zf_W_votersNow_44 at hf
  refine zr_iadd C zd_W_votersNow_44 ?_
  obtain ⟨v1, ev1, hf⟩ := zlt_some hf
  have nv1 : zn v1 := by rw [← ev1]; exact (zn_w _)
  rw [ev1]
  refine lv_istore_n (lv' := [(1, .int (zI (v1))), (0, .ref (B.2.1 5 (r0) (0))), (2, .int (zI (x2)))]) C.1 C.2.1 zd_W_votersNow_45 rfl hl (by decide) rfl (fun ls hl => ?_)
  obtain ⟨v2, ev2, hf⟩ := zlt_some hf
  have nv2 : zn v2 := by rw [← ev2]; exact zn_w _
  refine lv_iinc (v := zI v2) (lv' := [(2, .int (zI (v2))), (1, .int (zI (v1))), (0, .ref (B.2.1 5 (r0) (0)))]) C.1 C.2.1 zd_W_votersNow_46 hl (k := 2) rfl (by rw [← ev2, ← zI_add]; rfl) (by decide) rfl (fun ls hl => ?_)
  refine lv_goto (tgt := 4) C.1 C.2.1 zd_W_votersNow_49 (by decide) ?_
  exact hq4 (v1) (v2) S nv1 nv2 hf _ _ _ hW hS (lv_sub hl [2, 1, 0] rfl)

def zf_W_votersNow_43 (r0 : Int) (q4 : Int → Int → Sg → Option (Int × Sg)) (x2 : Int) (xt0 : Int) (S : Sg) : Option (Int × Sg) :=
    zf_W_votersNow_44 r0 q4 (x2) (xt0) (0) S
set_option maxHeartbeats 4000000 in
set_option maxRecDepth 100000 in
theorem zw_W_votersNow_43 {p : Program} {l : Launch} {e : Env} {s : State} {m : MethodId} {args : Array Value} {below : List Frame} {meth : Method} {c : Code} {B : zB} (C : CallFix p m c zb_W_votersNow 3 s args zT "IslandOfficeModel$World") (hr : meth.sig.returnType = some .int) (hlk : meth.locks = false) (hK : zK B s) (hSt : zSt B s) (hap : zAp B) (r0 : Int) (hr0 : 0 ≤ r0 ∧ r0 < 3) {res : Int} {S9 : Sg} (q4 : Int → Int → Sg → Option (Int × Sg)) (hq4 : ∀ (x1 : Int) (x2 : Int) (S : Sg) (nx1 : zn x1) (nx2 : zn x2), q4 x1 x2 S = some (res, S9) → ∀ (H : Heap) (locs : List Loc) (ls : Array Slot), zW B S H → va_S B.2.2.2 s.heap H locs → lv_has ls 3 [(0, .ref (B.2.1 5 (r0) (0))), (1, .int (zI (x1))), (2, .int (zI (x2)))] → W p l e zm_W_votersNow s m args below meth c H locs 0 0 (MQ below (zQi B res S9) args s 0 0 B.2.2.2) (F0 m 4 ls [])) : ∀ (x2 : Int) (xt0 : Int) (S : Sg) (nx2 : zn x2) (nxt0 : zn xt0), zf_W_votersNow_43 r0 q4 x2 xt0 S = some (res, S9) → ∀ (H : Heap) (locs : List Loc) (ls : Array Slot), zW B S H → va_S B.2.2.2 s.heap H locs → lv_has ls 3 [(0, .ref (B.2.1 5 (r0) (0))), (2, .int (zI (x2)))] → W p l e zm_W_votersNow s m args below meth c H locs 0 0 (MQ below (zQi B res S9) args s 0 0 B.2.2.2) (F0 m 43 ls [.int (zI (xt0))]) := by
  intro x2 xt0 S nx2 nxt0 hf H locs ls hW hS hl
  unfold zf_W_votersNow_43 at hf
  refine zr_iconst C zd_W_votersNow_43 ?_
  exact zw_W_votersNow_44 C hr hlk hK hSt hap r0 hr0 q4 hq4 (x2) (xt0) (0) S nx2 nxt0 (znb rfl) hf _ _ _ hW hS (lv_sub hl [0, 1] rfl)

def zf_W_votersNow_4 (r0 : Int) : Nat → Int → Int → Sg → Option (Int × Sg)
  | 0, _, _, _ => none
  | n + 1, x1, x2, S =>
    if (S 5 r0 0 1) ≤ x2 then (some (x1, S)) else (zbd (zf_W_here (r0) x2 S) fun a2 S3 => if a2 = 0 then (zf_W_votersNow_43 r0 (zf_W_votersNow_4 r0 n) (x2) (x1) S3) else (zbd (zf_W_kind (r0) x2 S3) fun a5 S6 => if a5 = 5 then (zf_W_votersNow_43 r0 (zf_W_votersNow_4 r0 n) (x2) (x1) S6) else (zbd (zf_W_may (r0) x2 0 S6) fun a8 S9 => if a8 = 0 then (zf_W_votersNow_43 r0 (zf_W_votersNow_4 r0 n) (x2) (x1) S9) else (zf_W_votersNow_44 r0 (zf_W_votersNow_4 r0 n) (x2) (x1) (1) S9))))
set_option maxHeartbeats 4000000 in
set_option maxRecDepth 100000 in
theorem zw_W_votersNow_4 {p : Program} {l : Launch} {e : Env} {s : State} {m : MethodId} {args : Array Value} {below : List Frame} {meth : Method} {c : Code} {B : zB} (C : CallFix p m c zb_W_votersNow 3 s args zT "IslandOfficeModel$World") (hr : meth.sig.returnType = some .int) (hlk : meth.locks = false) (hK : zK B s) (hSt : zSt B s) (hap : zAp B) (r0 : Int) (hr0 : 0 ≤ r0 ∧ r0 < 3) {res : Int} {S9 : Sg} : ∀ n : Nat, ∀ (x1 : Int) (x2 : Int) (S : Sg) (nx1 : zn x1) (nx2 : zn x2), zf_W_votersNow_4 r0 n x1 x2 S = some (res, S9) → ∀ (H : Heap) (locs : List Loc) (ls : Array Slot), zW B S H → va_S B.2.2.2 s.heap H locs → lv_has ls 3 [(0, .ref (B.2.1 5 (r0) (0))), (1, .int (zI (x1))), (2, .int (zI (x2)))] → W p l e zm_W_votersNow s m args below meth c H locs 0 0 (MQ below (zQi B res S9) args s 0 0 B.2.2.2) (F0 m 4 ls []) := by
  intro n
  induction n with
  | zero =>
    intro x1 x2 S nx1 nx2 hf H locs ls hW hS hl
    cases hf
  | succ n ih =>
    intro x1 x2 S nx1 nx2 hf H locs ls hW hS hl
    rw [zf_W_votersNow_4] at hf
    refine lv_iload_n C.1 C.2.1 zd_W_votersNow_4 rfl (lv_at hl 2 rfl) ?_
    refine lv_aload_n C.1 C.2.1 zd_W_votersNow_5 rfl (lv_at hl 0 rfl) ?_
    refine zg_W_people (r := r0) C hK hW (zvd_5 hr0 (by decide)) zk_1277 zd_W_votersNow_6 ?_
    refine zr_icmp_ge (tgt := 52) C nx2 (zWn hW _ _ _ _ rfl) zd_W_votersNow_9 (by decide) (fun c1 => ?_) (fun c1 => ?_)
    · rw [if_pos c1] at hf
      refine lv_iload_n C.1 C.2.1 zd_W_votersNow_52 rfl (lv_at hl 1 rfl) ?_
      cases hf
      exact zre_i C hr hlk hK hW hS nx1 zd_W_votersNow_53
    · rw [if_neg c1] at hf
      refine lv_iload_n C.1 C.2.1 zd_W_votersNow_12 rfl (lv_at hl 1 rfl) ?_
      refine lv_aload_n C.1 C.2.1 zd_W_votersNow_13 rfl (lv_at hl 0 rfl) ?_
      refine lv_iload_n C.1 C.2.1 zd_W_votersNow_14 rfl (lv_at hl 2 rfl) ?_
      obtain ⟨a2, S3, ea2, hf⟩ := zbd_some hf
      refine zcVi (As := [.int (zI (x2))]) (rest := [.int (zI (x1))]) C hK hSt hW hS (zc_W_here hap (r0) hr0 x2 S nx2 ea2) zq_W_here zk_1640 (zrecv hK hW (zvd_5 hr0 (by decide)) (ze_5_0 B _ (r0)) rfl) ⟨rfl, rfl, by decide, by decide⟩ ⟨Nat.zero_le _, Nat.zero_le _⟩ rfl hl.1 rfl (lv_room (Nat.le_of_ble_eq_true rfl)) zd_W_votersNow_15 (fun na2 H locs hW hS => ?_)
      refine zr_if_eq (tgt := 43) C na2 zd_W_votersNow_18 (by decide) (fun c4 => ?_) (fun c4 => ?_)
      · rw [if_pos c4] at hf
        exact zw_W_votersNow_43 C hr hlk hK hSt hap r0 hr0 (zf_W_votersNow_4 r0 n) (ih) (x2) (x1) S3 nx2 nx1 hf _ _ _ hW hS (lv_sub hl [0, 2] rfl)
      · rw [if_neg c4] at hf
        refine lv_aload_n C.1 C.2.1 zd_W_votersNow_21 rfl (lv_at hl 0 rfl) ?_
        refine lv_iload_n C.1 C.2.1 zd_W_votersNow_22 rfl (lv_at hl 2 rfl) ?_
        obtain ⟨a5, S6, ea5, hf⟩ := zbd_some hf
        refine zcVi (As := [.int (zI (x2))]) (rest := [.int (zI (x1))]) C hK hSt hW hS (zc_W_kind hap (r0) hr0 x2 S3 nx2 ea5) zq_W_kind zk_1621 (zrecv hK hW (zvd_5 hr0 (by decide)) (ze_5_0 B _ (r0)) rfl) ⟨rfl, rfl, by decide, by decide⟩ ⟨Nat.zero_le _, Nat.zero_le _⟩ rfl hl.1 rfl (lv_room (Nat.le_of_ble_eq_true rfl)) zd_W_votersNow_23 (fun na5 H locs hW hS => ?_)
        refine zr_iconst C zd_W_votersNow_26 ?_
        refine zr_icmp_eq (tgt := 43) C na5 (znb rfl) zd_W_votersNow_27 (by decide) (fun c7 => ?_) (fun c7 => ?_)
        · rw [if_pos c7] at hf
          exact zw_W_votersNow_43 C hr hlk hK hSt hap r0 hr0 (zf_W_votersNow_4 r0 n) (ih) (x2) (x1) S6 nx2 nx1 hf _ _ _ hW hS (lv_sub hl [0, 2] rfl)
        · rw [if_neg c7] at hf
          refine lv_aload_n C.1 C.2.1 zd_W_votersNow_30 rfl (lv_at hl 0 rfl) ?_
          refine lv_iload_n C.1 C.2.1 zd_W_votersNow_31 rfl (lv_at hl 2 rfl) ?_
          refine zr_iconst C zd_W_votersNow_32 ?_
          obtain ⟨a8, S9, ea8, hf⟩ := zbd_some hf
          refine zcVi (As := [.int (zI (x2)), .int (zI (0))]) (rest := [.int (zI (x1))]) C hK hSt hW hS (zc_W_may hap (r0) hr0 x2 0 S6 nx2 (znb rfl) ea8) zq_W_may zk_1700 (zrecv hK hW (zvd_5 hr0 (by decide)) (ze_5_0 B _ (r0)) rfl) ⟨rfl, rfl, by decide, by decide⟩ ⟨Nat.zero_le _, Nat.zero_le _⟩ rfl hl.1 rfl (lv_room (Nat.le_of_ble_eq_true rfl)) zd_W_votersNow_33 (fun na8 H locs hW hS => ?_)
          refine zr_if_eq (tgt := 43) C na8 zd_W_votersNow_36 (by decide) (fun c10 => ?_) (fun c10 => ?_)
          · rw [if_pos c10] at hf
            exact zw_W_votersNow_43 C hr hlk hK hSt hap r0 hr0 (zf_W_votersNow_4 r0 n) (ih) (x2) (x1) S9 nx2 nx1 hf _ _ _ hW hS (lv_sub hl [0, 2] rfl)
          · rw [if_neg c10] at hf
            refine zr_iconst C zd_W_votersNow_39 ?_
            refine lv_goto (tgt := 44) C.1 C.2.1 zd_W_votersNow_40 (by decide) ?_
            exact zw_W_votersNow_44 C hr hlk hK hSt hap r0 hr0 (zf_W_votersNow_4 r0 n) (ih) (x2) (x1) (1) S9 nx2 nx1 (znb rfl) hf _ _ _ hW hS (lv_sub hl [0, 2] rfl)

def zf_W_votersNow (r0 : Int) (S : Sg) : Option (Int × Sg) :=
    zf_W_votersNow_4 r0 4096 (0) (0) S
set_option maxHeartbeats 4000000 in
set_option maxRecDepth 100000 in
theorem zw_W_votersNow {p : Program} {l : Launch} {e : Env} {s : State} {m : MethodId} {args : Array Value} {below : List Frame} {meth : Method} {c : Code} {B : zB} (C : CallFix p m c zb_W_votersNow 3 s args zT "IslandOfficeModel$World") (hr : meth.sig.returnType = some .int) (hlk : meth.locks = false) (hK : zK B s) (hSt : zSt B s) (hap : zAp B) (r0 : Int) (hr0 : 0 ≤ r0 ∧ r0 < 3) {res : Int} {S9 : Sg} : ∀  (S : Sg) , zf_W_votersNow r0  S = some (res, S9) → ∀ (H : Heap) (locs : List Loc) (ls : Array Slot), zW B S H → va_S B.2.2.2 s.heap H locs → lv_has ls 3 [(0, .ref (B.2.1 5 (r0) (0)))] → W p l e zm_W_votersNow s m args below meth c H locs 0 0 (MQ below (zQi B res S9) args s 0 0 B.2.2.2) (F0 m 0 ls []) := by
  intro S hf H locs ls hW hS hl
  unfold zf_W_votersNow at hf
  refine zr_iconst C zd_W_votersNow_0 ?_
  refine lv_istore_n (lv' := [(1, .int (zI (0))), (0, .ref (B.2.1 5 (r0) (0)))]) C.1 C.2.1 zd_W_votersNow_1 rfl hl (by decide) rfl (fun ls hl => ?_)
  refine zr_iconst C zd_W_votersNow_2 ?_
  refine lv_istore_n (lv' := [(2, .int (zI (0))), (1, .int (zI (0))), (0, .ref (B.2.1 5 (r0) (0)))]) C.1 C.2.1 zd_W_votersNow_3 rfl hl (by decide) rfl (fun ls hl => ?_)
  exact zw_W_votersNow_4 C hr hlk hK hSt hap r0 hr0 4096 (0) (0) S (znb rfl) (znb rfl) hf _ _ _ hW hS (lv_sub hl [2, 1, 0] rfl)

theorem zc_W_votersNow {l : Launch} {B : zB} (hap : zAp B) (r0 : Int) (hr0 : 0 ≤ r0 ∧ r0 < 3) (S : Sg) {res : Int} {S9 : Sg} (hf : zf_W_votersNow r0 S = some (res, S9)) : Met l zy_W_votersNow (Cond.code zy_W_votersNow zb_W_votersNow 3 (some .int) :: zT) zm_W_votersNow (zP B S [.ref (B.2.1 5 (r0) (0))]) (zQi B res S9) 0 0 B.2.2.2 :=
  zmet (by decide) (Nat.le_of_ble_eq_true rfl) (fun p e s m args below meth c C hr hlk hK hSt hW ls hl => zw_W_votersNow C hr hlk hK hSt hap r0 hr0  S  hf _ _ _ hW va_S.rf hl)
/-! IslandOfficeModel.vote(II)I -/
abbrev zy_M_vote : MethodName := ⟨"IslandOfficeModel", "vote", "(II)I"⟩
abbrev zb_M_vote : ByteArray := prog_14_method_33_code
abbrev zm_M_vote : Room := { frames := 395, cells := 0, slots := 0, locals := 8561 }
theorem zq_M_vote : zMy zy_M_vote zb_M_vote 6 (some .int) 2 := ⟨zk_1695, zk_1693, zk_1694, zk_14, by decide, by decide, by decide +kernel⟩
theorem zd_M_vote_0 : decode zb_M_vote 0 = .ok (.aload_n 0, 1) := by decide +kernel
theorem zd_M_vote_1 : decode zb_M_vote 1 = .ok (.iconst 0, 1) := by decide +kernel
theorem zd_M_vote_2 : decode zb_M_vote 2 = .ok (.putfield 46, 3) := by decide +kernel
theorem zd_M_vote_5 : decode zb_M_vote 5 = .ok (.aload_n 0, 1) := by decide +kernel
theorem zd_M_vote_6 : decode zb_M_vote 6 = .ok (.getfield 10, 3) := by decide +kernel
theorem zd_M_vote_9 : decode zb_M_vote 9 = .ok (.invokevirtual 181, 3) := by decide +kernel
theorem zd_M_vote_12 : decode zb_M_vote 12 = .ok (.istore_n 3, 1) := by decide +kernel
theorem zd_M_vote_13 : decode zb_M_vote 13 = .ok (.iload_n 1, 1) := by decide +kernel
theorem zd_M_vote_14 : decode zb_M_vote 14 = .ok (.invokestatic 172, 3) := by decide +kernel
theorem zd_M_vote_17 : decode zb_M_vote 17 = .ok (.ifCond .eq 12, 3) := by decide +kernel
theorem zd_M_vote_20 : decode zb_M_vote 20 = .ok (.iload_n 2, 1) := by decide +kernel
theorem zd_M_vote_21 : decode zb_M_vote 21 = .ok (.iconst 0, 1) := by decide +kernel
theorem zd_M_vote_22 : decode zb_M_vote 22 = .ok (.iload_n 3, 1) := by decide +kernel
theorem zd_M_vote_23 : decode zb_M_vote 23 = .ok (.invokestatic 53, 3) := by decide +kernel
theorem zd_M_vote_26 : decode zb_M_vote 26 = .ok (.ifCond .ne 5, 3) := by decide +kernel
theorem zd_M_vote_29 : decode zb_M_vote 29 = .ok (.iconst (-1), 1) := by decide +kernel
theorem zd_M_vote_30 : decode zb_M_vote 30 = .ok (.ireturn, 1) := by decide +kernel
theorem zd_M_vote_31 : decode zb_M_vote 31 = .ok (.aload_n 0, 1) := by decide +kernel
theorem zd_M_vote_32 : decode zb_M_vote 32 = .ok (.iload_n 1, 1) := by decide +kernel
theorem zd_M_vote_33 : decode zb_M_vote 33 = .ok (.invokevirtual 175, 3) := by decide +kernel
theorem zd_M_vote_36 : decode zb_M_vote 36 = .ok (.ifCond .eq 9, 3) := by decide +kernel
theorem zd_M_vote_39 : decode zb_M_vote 39 = .ok (.aload_n 0, 1) := by decide +kernel
theorem zd_M_vote_40 : decode zb_M_vote 40 = .ok (.iload_n 1, 1) := by decide +kernel
theorem zd_M_vote_41 : decode zb_M_vote 41 = .ok (.invokevirtual 175, 3) := by decide +kernel
theorem zd_M_vote_44 : decode zb_M_vote 44 = .ok (.ireturn, 1) := by decide +kernel
theorem zd_M_vote_45 : decode zb_M_vote 45 = .ok (.aload_n 0, 1) := by decide +kernel
theorem zd_M_vote_46 : decode zb_M_vote 46 = .ok (.iload_n 1, 1) := by decide +kernel
theorem zd_M_vote_47 : decode zb_M_vote 47 = .ok (.invokevirtual 178, 3) := by decide +kernel
theorem zd_M_vote_50 : decode zb_M_vote 50 = .ok (.istore 4, 2) := by decide +kernel
theorem zd_M_vote_52 : decode zb_M_vote 52 = .ok (.iload 4, 2) := by decide +kernel
theorem zd_M_vote_54 : decode zb_M_vote 54 = .ok (.bipush (-2), 2) := by decide +kernel
theorem zd_M_vote_56 : decode zb_M_vote 56 = .ok (.if_icmp .eq 9, 3) := by decide +kernel
theorem zd_M_vote_59 : decode zb_M_vote 59 = .ok (.bipush (-100), 2) := by decide +kernel
theorem zd_M_vote_61 : decode zb_M_vote 61 = .ok (.iload 4, 2) := by decide +kernel
theorem zd_M_vote_63 : decode zb_M_vote 63 = .ok (.isub, 1) := by decide +kernel
theorem zd_M_vote_64 : decode zb_M_vote 64 = .ok (.ireturn, 1) := by decide +kernel
theorem zd_M_vote_65 : decode zb_M_vote 65 = .ok (.aload_n 0, 1) := by decide +kernel
theorem zd_M_vote_66 : decode zb_M_vote 66 = .ok (.getfield 10, 3) := by decide +kernel
theorem zd_M_vote_69 : decode zb_M_vote 69 = .ok (.getfield 57, 3) := by decide +kernel
theorem zd_M_vote_72 : decode zb_M_vote 72 = .ok (.bipush 12, 2) := by decide +kernel
theorem zd_M_vote_74 : decode zb_M_vote 74 = .ok (.if_icmp .ne 6, 3) := by decide +kernel
theorem zd_M_vote_77 : decode zb_M_vote 77 = .ok (.bipush (-2), 2) := by decide +kernel
theorem zd_M_vote_79 : decode zb_M_vote 79 = .ok (.ireturn, 1) := by decide +kernel
theorem zd_M_vote_80 : decode zb_M_vote 80 = .ok (.iconst 2, 1) := by decide +kernel
theorem zd_M_vote_81 : decode zb_M_vote 81 = .ok (.iload_n 2, 1) := by decide +kernel
theorem zd_M_vote_82 : decode zb_M_vote 82 = .ok (.imul, 1) := by decide +kernel
theorem zd_M_vote_83 : decode zb_M_vote 83 = .ok (.iload_n 3, 1) := by decide +kernel
theorem zd_M_vote_84 : decode zb_M_vote 84 = .ok (.if_icmp .gt 6, 3) := by decide +kernel
theorem zd_M_vote_87 : decode zb_M_vote 87 = .ok (.bipush (-3), 2) := by decide +kernel
theorem zd_M_vote_89 : decode zb_M_vote 89 = .ok (.ireturn, 1) := by decide +kernel
theorem zd_M_vote_90 : decode zb_M_vote 90 = .ok (.aload_n 0, 1) := by decide +kernel
theorem zd_M_vote_91 : decode zb_M_vote 91 = .ok (.getfield 10, 3) := by decide +kernel
theorem zd_M_vote_94 : decode zb_M_vote 94 = .ok (.getfield 57, 3) := by decide +kernel
theorem zd_M_vote_97 : decode zb_M_vote 97 = .ok (.istore 5, 2) := by decide +kernel
theorem zd_M_vote_99 : decode zb_M_vote 99 = .ok (.aload_n 0, 1) := by decide +kernel
theorem zd_M_vote_100 : decode zb_M_vote 100 = .ok (.getfield 34, 3) := by decide +kernel
theorem zd_M_vote_103 : decode zb_M_vote 103 = .ok (.iload_n 1, 1) := by decide +kernel
theorem zd_M_vote_104 : decode zb_M_vote 104 = .ok (.aaload, 1) := by decide +kernel
theorem zd_M_vote_105 : decode zb_M_vote 105 = .ok (.iconst 0, 1) := by decide +kernel
theorem zd_M_vote_106 : decode zb_M_vote 106 = .ok (.aload_n 0, 1) := by decide +kernel
theorem zd_M_vote_107 : decode zb_M_vote 107 = .ok (.getfield 10, 3) := by decide +kernel
theorem zd_M_vote_110 : decode zb_M_vote 110 = .ok (.getfield 184, 3) := by decide +kernel
theorem zd_M_vote_113 : decode zb_M_vote 113 = .ok (.iload 5, 2) := by decide +kernel
theorem zd_M_vote_115 : decode zb_M_vote 115 = .ok (.aaload, 1) := by decide +kernel
theorem zd_M_vote_116 : decode zb_M_vote 116 = .ok (.iconst 0, 1) := by decide +kernel
theorem zd_M_vote_117 : decode zb_M_vote 117 = .ok (.aload_n 0, 1) := by decide +kernel
theorem zd_M_vote_118 : decode zb_M_vote 118 = .ok (.getfield 29, 3) := by decide +kernel
theorem zd_M_vote_121 : decode zb_M_vote 121 = .ok (.iload_n 1, 1) := by decide +kernel
theorem zd_M_vote_122 : decode zb_M_vote 122 = .ok (.iaload, 1) := by decide +kernel
theorem zd_M_vote_123 : decode zb_M_vote 123 = .ok (.invokestatic 186, 3) := by decide +kernel
theorem zd_M_vote_126 : decode zb_M_vote 126 = .ok (.aload_n 0, 1) := by decide +kernel
theorem zd_M_vote_127 : decode zb_M_vote 127 = .ok (.getfield 10, 3) := by decide +kernel
theorem zd_M_vote_130 : decode zb_M_vote 130 = .ok (.getfield 192, 3) := by decide +kernel
theorem zd_M_vote_133 : decode zb_M_vote 133 = .ok (.iload 5, 2) := by decide +kernel
theorem zd_M_vote_135 : decode zb_M_vote 135 = .ok (.aload_n 0, 1) := by decide +kernel
theorem zd_M_vote_136 : decode zb_M_vote 136 = .ok (.getfield 29, 3) := by decide +kernel
theorem zd_M_vote_139 : decode zb_M_vote 139 = .ok (.iload_n 1, 1) := by decide +kernel
theorem zd_M_vote_140 : decode zb_M_vote 140 = .ok (.iaload, 1) := by decide +kernel
theorem zd_M_vote_141 : decode zb_M_vote 141 = .ok (.iastore, 1) := by decide +kernel
theorem zd_M_vote_142 : decode zb_M_vote 142 = .ok (.aload_n 0, 1) := by decide +kernel
theorem zd_M_vote_143 : decode zb_M_vote 143 = .ok (.getfield 10, 3) := by decide +kernel
theorem zd_M_vote_146 : decode zb_M_vote 146 = .ok (.getfield 194, 3) := by decide +kernel
theorem zd_M_vote_149 : decode zb_M_vote 149 = .ok (.iload 5, 2) := by decide +kernel
theorem zd_M_vote_151 : decode zb_M_vote 151 = .ok (.aload_n 0, 1) := by decide +kernel
theorem zd_M_vote_152 : decode zb_M_vote 152 = .ok (.getfield 10, 3) := by decide +kernel
theorem zd_M_vote_155 : decode zb_M_vote 155 = .ok (.getfield 87, 3) := by decide +kernel
theorem zd_M_vote_158 : decode zb_M_vote 158 = .ok (.iconst 1, 1) := by decide +kernel
theorem zd_M_vote_159 : decode zb_M_vote 159 = .ok (.iadd, 1) := by decide +kernel
theorem zd_M_vote_160 : decode zb_M_vote 160 = .ok (.iastore, 1) := by decide +kernel
theorem zd_M_vote_161 : decode zb_M_vote 161 = .ok (.aload_n 0, 1) := by decide +kernel
theorem zd_M_vote_162 : decode zb_M_vote 162 = .ok (.getfield 10, 3) := by decide +kernel
theorem zd_M_vote_165 : decode zb_M_vote 165 = .ok (.getfield 197, 3) := by decide +kernel
theorem zd_M_vote_168 : decode zb_M_vote 168 = .ok (.iload 5, 2) := by decide +kernel
theorem zd_M_vote_170 : decode zb_M_vote 170 = .ok (.iload_n 2, 1) := by decide +kernel
theorem zd_M_vote_171 : decode zb_M_vote 171 = .ok (.iastore, 1) := by decide +kernel
theorem zd_M_vote_172 : decode zb_M_vote 172 = .ok (.aload_n 0, 1) := by decide +kernel
theorem zd_M_vote_173 : decode zb_M_vote 173 = .ok (.getfield 10, 3) := by decide +kernel
theorem zd_M_vote_176 : decode zb_M_vote 176 = .ok (.getfield 200, 3) := by decide +kernel
theorem zd_M_vote_179 : decode zb_M_vote 179 = .ok (.iload 5, 2) := by decide +kernel
theorem zd_M_vote_181 : decode zb_M_vote 181 = .ok (.iload_n 3, 1) := by decide +kernel
theorem zd_M_vote_182 : decode zb_M_vote 182 = .ok (.iastore, 1) := by decide +kernel
theorem zd_M_vote_183 : decode zb_M_vote 183 = .ok (.aload_n 0, 1) := by decide +kernel
theorem zd_M_vote_184 : decode zb_M_vote 184 = .ok (.getfield 10, 3) := by decide +kernel
theorem zd_M_vote_187 : decode zb_M_vote 187 = .ok (.getfield 203, 3) := by decide +kernel
theorem zd_M_vote_190 : decode zb_M_vote 190 = .ok (.iload 5, 2) := by decide +kernel
theorem zd_M_vote_192 : decode zb_M_vote 192 = .ok (.aload_n 0, 1) := by decide +kernel
theorem zd_M_vote_193 : decode zb_M_vote 193 = .ok (.getfield 10, 3) := by decide +kernel
theorem zd_M_vote_196 : decode zb_M_vote 196 = .ok (.iconst 0, 1) := by decide +kernel
theorem zd_M_vote_197 : decode zb_M_vote 197 = .ok (.aload_n 0, 1) := by decide +kernel
theorem zd_M_vote_198 : decode zb_M_vote 198 = .ok (.getfield 10, 3) := by decide +kernel
theorem zd_M_vote_201 : decode zb_M_vote 201 = .ok (.getfield 87, 3) := by decide +kernel
theorem zd_M_vote_204 : decode zb_M_vote 204 = .ok (.invokevirtual 206, 3) := by decide +kernel
theorem zd_M_vote_207 : decode zb_M_vote 207 = .ok (.iastore, 1) := by decide +kernel
theorem zd_M_vote_208 : decode zb_M_vote 208 = .ok (.aload_n 0, 1) := by decide +kernel
theorem zd_M_vote_209 : decode zb_M_vote 209 = .ok (.getfield 10, 3) := by decide +kernel
theorem zd_M_vote_212 : decode zb_M_vote 212 = .ok (.getfield 210, 3) := by decide +kernel
theorem zd_M_vote_215 : decode zb_M_vote 215 = .ok (.iload 5, 2) := by decide +kernel
theorem zd_M_vote_217 : decode zb_M_vote 217 = .ok (.iconst 0, 1) := by decide +kernel
theorem zd_M_vote_218 : decode zb_M_vote 218 = .ok (.iastore, 1) := by decide +kernel
theorem zd_M_vote_219 : decode zb_M_vote 219 = .ok (.aload_n 0, 1) := by decide +kernel
theorem zd_M_vote_220 : decode zb_M_vote 220 = .ok (.getfield 10, 3) := by decide +kernel
theorem zd_M_vote_223 : decode zb_M_vote 223 = .ok (.getfield 213, 3) := by decide +kernel
theorem zd_M_vote_226 : decode zb_M_vote 226 = .ok (.iload 5, 2) := by decide +kernel
theorem zd_M_vote_228 : decode zb_M_vote 228 = .ok (.bipush (-2), 2) := by decide +kernel
theorem zd_M_vote_230 : decode zb_M_vote 230 = .ok (.iastore, 1) := by decide +kernel
theorem zd_M_vote_231 : decode zb_M_vote 231 = .ok (.aload_n 0, 1) := by decide +kernel
theorem zd_M_vote_232 : decode zb_M_vote 232 = .ok (.getfield 10, 3) := by decide +kernel
theorem zd_M_vote_235 : decode zb_M_vote 235 = .ok (.dup, 1) := by decide +kernel
theorem zd_M_vote_236 : decode zb_M_vote 236 = .ok (.getfield 57, 3) := by decide +kernel
theorem zd_M_vote_239 : decode zb_M_vote 239 = .ok (.dup_x1, 1) := by decide +kernel
theorem zd_M_vote_240 : decode zb_M_vote 240 = .ok (.iconst 1, 1) := by decide +kernel
theorem zd_M_vote_241 : decode zb_M_vote 241 = .ok (.iadd, 1) := by decide +kernel
theorem zd_M_vote_242 : decode zb_M_vote 242 = .ok (.putfield 57, 3) := by decide +kernel
theorem zd_M_vote_245 : decode zb_M_vote 245 = .ok (.ireturn, 1) := by decide +kernel

def zf_M_vote (x1 : Int) (x2 : Int) (S : Sg) : Option (Int × Sg) :=
    zlt (zu S 9 0 0 4 0) fun S1 => zbd (zf_W_votersNow (0) S1) fun a2 S3 => zbd (zf_M_isShelf x1 S3) fun a4 S5 => if a4 = 0 then (some (-1, S5)) else (zbd (zf_M_in x2 0 a2 S5) fun a7 S8 => if a7 = 0 then (some (-1, S8)) else (zbd (zf_M_noBytes x1 S8) fun a10 S11 => if a10 = 0 then (zbd (zf_M_faultOf x1 S11) fun a13 S14 => if a13 = (-2) then (if (S14 5 0 0 16) = 12 then (some (-2, S14)) else (if a2 < (zw (2 * x2)) then (zlt (S14 5 0 0 16) fun v18 => zck (0 ≤ x1 ∧ x1 < 8) <| zck (0 ≤ v18 ∧ v18 < 12) <| zck ((0 : Int) ≤ 0 ∧ (0 : Int) ≤ 0 ∧ (0 : Int) ≤ (S14 9 0 3 x1) ∧ (0 + (S14 9 0 3 x1) : Int) ≤ 120 ∧ (0 + (S14 9 0 3 x1) : Int) ≤ 120) <| zlt (zcp S14 10 x1 0 0 6 0 v18 0 (S14 9 0 3 x1)) fun S22 => zlt (zu S22 5 0 14 v18 (S22 9 0 3 x1)) fun S23 => zlt (zu S23 5 0 15 v18 (zw ((S23 5 0 0 0) + 1))) fun S24 => zlt (zu S24 5 0 16 v18 x2) fun S25 => zlt (zu S25 5 0 17 v18 a2) fun S26 => zbd (zf_W_force (0) 0 (S26 5 0 0 0) S26) fun a27 S28 => zlt (zu S28 5 0 18 v18 a27) fun S29 => zlt (zu S29 5 0 19 v18 0) fun S30 => zlt (zu S30 5 0 20 v18 (-2)) fun S31 => zlt (zu S31 5 0 0 16 (zw ((S31 5 0 0 16) + 1))) fun S32 => some (S31 5 0 0 16, S32)) else (some (-3, S14)))) else (some (zw ((-100) - a13), S14))) else (zbd (zf_M_noBytes x1 S11) fun a34 S35 => some (a34, S35))))
set_option maxHeartbeats 4000000 in
set_option maxRecDepth 100000 in
theorem zw_M_vote {p : Program} {l : Launch} {e : Env} {s : State} {m : MethodId} {args : Array Value} {below : List Frame} {meth : Method} {c : Code} {B : zB} (C : CallFix p m c zb_M_vote 6 s args zT "IslandOfficeModel") (hr : meth.sig.returnType = some .int) (hlk : meth.locks = false) (hK : zK B s) (hSt : zSt B s) (hap : zAp B) {res : Int} {S9 : Sg} : ∀ (x1 : Int) (x2 : Int) (S : Sg) (nx1 : zn x1) (nx2 : zn x2), zf_M_vote x1 x2 S = some (res, S9) → ∀ (H : Heap) (locs : List Loc) (ls : Array Slot), zW B S H → va_S B.2.2.2 s.heap H locs → lv_has ls 6 [(0, .ref (B.2.1 9 (0) (0))), (1, .int (zI (x1))), (2, .int (zI (x2)))] → W p l e zm_M_vote s m args below meth c H locs 0 0 (MQ below (zQi B res S9) args s 0 0 B.2.2.2) (F0 m 0 ls []) := by
  intro x1 x2 S nx1 nx2 hf H locs ls hW hS hl
  unfold zf_M_vote at hf
  refine lv_aload_n C.1 C.2.1 zd_M_vote_0 rfl (lv_at hl 0 rfl) ?_
  refine zr_iconst C zd_M_vote_1 ?_
  obtain ⟨S1, eS1, hf⟩ := zlt_some hf
  refine zp_M_thrown (r := 0) C hK hap hW hS (zvd_9 (by decide) (by decide)) zk_1504 (znb rfl) zd_M_vote_2 (fun H locs hW hS => ?_)
  rw [eS1] at hW
  refine lv_aload_n C.1 C.2.1 zd_M_vote_5 rfl (lv_at hl 0 rfl) ?_
  refine zg_M_world (r := 0) C hK hW (zvd_9 (by decide) (by decide)) zk_1500 zd_M_vote_6 ?_
  obtain ⟨a2, S3, ea2, hf⟩ := zbd_some hf
  refine zcVi (As := []) (rest := []) C hK hSt hW hS (zc_W_votersNow hap (0) (by decide) S1 ea2) zq_W_votersNow zk_1696 (zrecv hK hW (zvd_5 (by decide) (by decide)) (ze_5_0 B _ (0)) rfl) ⟨rfl, rfl, by decide, by decide⟩ ⟨Nat.zero_le _, Nat.zero_le _⟩ rfl hl.1 rfl (lv_room (Nat.le_of_ble_eq_true rfl)) zd_M_vote_9 (fun na2 H locs hW hS => ?_)
  refine lv_istore_n (lv' := [(3, .int (zI (a2))), (0, .ref (B.2.1 9 (0) (0))), (1, .int (zI (x1))), (2, .int (zI (x2)))]) C.1 C.2.1 zd_M_vote_12 rfl hl (by decide) rfl (fun ls hl => ?_)
  refine lv_iload_n C.1 C.2.1 zd_M_vote_13 rfl (lv_at hl 2 rfl) ?_
  obtain ⟨a4, S5, ea4, hf⟩ := zbd_some hf
  refine zcSi (As := [.int (zI (x1))]) (rest := []) C hK hSt hW hS (zc_M_isShelf hap x1 S3 nx1 ea4) zq_M_isShelf zk_1645 ⟨rfl, rfl, by decide, by decide⟩ ⟨Nat.zero_le _, Nat.zero_le _⟩ rfl hl.1 rfl (lv_room (Nat.le_of_ble_eq_true rfl)) zd_M_vote_14 (fun na4 H locs hW hS => ?_)
  refine zr_if_eq (tgt := 29) C na4 zd_M_vote_17 (by decide) (fun c6 => ?_) (fun c6 => ?_)
  · rw [if_pos c6] at hf
    refine zr_iconst C zd_M_vote_29 ?_
    cases hf
    exact zre_i C hr hlk hK hW hS (znb rfl) zd_M_vote_30
  · rw [if_neg c6] at hf
    refine lv_iload_n C.1 C.2.1 zd_M_vote_20 rfl (lv_at hl 3 rfl) ?_
    refine zr_iconst C zd_M_vote_21 ?_
    refine lv_iload_n C.1 C.2.1 zd_M_vote_22 rfl (lv_at hl 0 rfl) ?_
    obtain ⟨a7, S8, ea7, hf⟩ := zbd_some hf
    refine zcSi (As := [.int (zI (x2)), .int (zI (0)), .int (zI (a2))]) (rest := []) C hK hSt hW hS (zc_M_in hap x2 0 a2 S5 nx2 (znb rfl) na2 ea7) zq_M_in zk_1558 ⟨rfl, rfl, by decide, by decide⟩ ⟨Nat.zero_le _, Nat.zero_le _⟩ rfl hl.1 rfl (lv_room (Nat.le_of_ble_eq_true rfl)) zd_M_vote_23 (fun na7 H locs hW hS => ?_)
    refine zr_if_ne (tgt := 31) C na7 zd_M_vote_26 (by decide) (fun c9 => ?_) (fun c9 => ?_)
    · rw [if_neg c9] at hf
      refine lv_aload_n C.1 C.2.1 zd_M_vote_31 rfl (lv_at hl 1 rfl) ?_
      refine lv_iload_n C.1 C.2.1 zd_M_vote_32 rfl (lv_at hl 2 rfl) ?_
      obtain ⟨a10, S11, ea10, hf⟩ := zbd_some hf
      refine zcVi (As := [.int (zI (x1))]) (rest := []) C hK hSt hW hS (zc_M_noBytes hap x1 S8 nx1 ea10) zq_M_noBytes zk_1648 (zrecv hK hW (zvd_9 (by decide) (by decide)) (ze_9_0 B _ (0)) rfl) ⟨rfl, rfl, by decide, by decide⟩ ⟨Nat.zero_le _, Nat.zero_le _⟩ rfl hl.1 rfl (lv_room (Nat.le_of_ble_eq_true rfl)) zd_M_vote_33 (fun na10 H locs hW hS => ?_)
      refine zr_if_eq (tgt := 45) C na10 zd_M_vote_36 (by decide) (fun c12 => ?_) (fun c12 => ?_)
      · rw [if_pos c12] at hf
        refine lv_aload_n C.1 C.2.1 zd_M_vote_45 rfl (lv_at hl 1 rfl) ?_
        refine lv_iload_n C.1 C.2.1 zd_M_vote_46 rfl (lv_at hl 2 rfl) ?_
        obtain ⟨a13, S14, ea13, hf⟩ := zbd_some hf
        refine zcVi (As := [.int (zI (x1))]) (rest := []) C hK hSt hW hS (zc_M_faultOf hap x1 S11 nx1 ea13) zq_M_faultOf zk_1652 (zrecv hK hW (zvd_9 (by decide) (by decide)) (ze_9_0 B _ (0)) rfl) ⟨rfl, rfl, by decide, by decide⟩ ⟨Nat.zero_le _, Nat.zero_le _⟩ rfl hl.1 rfl (lv_room (Nat.le_of_ble_eq_true rfl)) zd_M_vote_47 (fun na13 H locs hW hS => ?_)
        refine lv_istore (lv' := [(4, .int (zI (a13))), (3, .int (zI (a2))), (0, .ref (B.2.1 9 (0) (0))), (1, .int (zI (x1))), (2, .int (zI (x2)))]) C.1 C.2.1 zd_M_vote_50 hl (by decide) rfl (fun ls hl => ?_)
        refine lv_iload C.1 C.2.1 zd_M_vote_52 (lv_at hl 0 rfl) ?_
        refine zr_bipush C zd_M_vote_54 (by decide) ?_
        refine zr_icmp_eq (tgt := 65) C na13 (znb rfl) zd_M_vote_56 (by decide) (fun c15 => ?_) (fun c15 => ?_)
        · rw [if_pos c15] at hf
          refine lv_aload_n C.1 C.2.1 zd_M_vote_65 rfl (lv_at hl 2 rfl) ?_
          refine zg_M_world (r := 0) C hK hW (zvd_9 (by decide) (by decide)) zk_1500 zd_M_vote_66 ?_
          refine zg_W_laws (r := 0) C hK hW (zvd_5 (by decide) (by decide)) zk_1308 zd_M_vote_69 ?_
          refine zr_bipush C zd_M_vote_72 (by decide) ?_
          refine zr_icmp_ne (tgt := 80) C (zWn hW _ _ _ _ rfl) (znb rfl) zd_M_vote_74 (by decide) (fun c16 => ?_) (fun c16 => ?_)
          · rw [if_neg c16] at hf
            refine zr_iconst C zd_M_vote_80 ?_
            refine lv_iload_n C.1 C.2.1 zd_M_vote_81 rfl (lv_at hl 4 rfl) ?_
            refine zr_imul C zd_M_vote_82 ?_
            refine lv_iload_n C.1 C.2.1 zd_M_vote_83 rfl (lv_at hl 1 rfl) ?_
            refine zr_icmp_gt (tgt := 90) C (zn_w _) na2 zd_M_vote_84 (by decide) (fun c17 => ?_) (fun c17 => ?_)
            · rw [if_pos c17] at hf
              refine lv_aload_n C.1 C.2.1 zd_M_vote_90 rfl (lv_at hl 2 rfl) ?_
              refine zg_M_world (r := 0) C hK hW (zvd_9 (by decide) (by decide)) zk_1500 zd_M_vote_91 ?_
              refine zg_W_laws (r := 0) C hK hW (zvd_5 (by decide) (by decide)) zk_1308 zd_M_vote_94 ?_
              obtain ⟨v18, ev18, hf⟩ := zlt_some hf
              have nv18 : zn v18 := by rw [← ev18]; exact (zWn hW _ _ _ _ rfl)
              rw [ev18]
              refine lv_istore (lv' := [(5, .int (zI (v18))), (4, .int (zI (a13))), (3, .int (zI (a2))), (0, .ref (B.2.1 9 (0) (0))), (1, .int (zI (x1))), (2, .int (zI (x2)))]) C.1 C.2.1 zd_M_vote_97 hl (by decide) rfl (fun ls hl => ?_)
              refine lv_aload_n C.1 C.2.1 zd_M_vote_99 rfl (lv_at hl 3 rfl) ?_
              refine zg_M_rows (r := 0) C hK hW (zvd_9 (by decide) (by decide)) zk_1508 zd_M_vote_100 ?_
              refine lv_iload_n C.1 C.2.1 zd_M_vote_103 rfl (lv_at hl 4 rfl) ?_
              obtain ⟨h19, hf⟩ := zck_some hf
              refine zaald (t0 := 4) C hK hW (zvd_9 (by decide) (by decide)) (fun f => ze_9_4 B f (0)) rfl rfl (by decide) h19 zd_M_vote_104 (a := B.2.1 10 (x1) (0)) (by rw [Int.toNat_of_nonneg h19.1]) ?_
              refine zr_iconst C zd_M_vote_105 ?_
              refine lv_aload_n C.1 C.2.1 zd_M_vote_106 rfl (lv_at hl 3 rfl) ?_
              refine zg_M_world (r := 0) C hK hW (zvd_9 (by decide) (by decide)) zk_1500 zd_M_vote_107 ?_
              refine zg_W_text (r := 0) C hK hW (zvd_5 (by decide) (by decide)) zk_1310 zd_M_vote_110 ?_
              refine lv_iload C.1 C.2.1 zd_M_vote_113 (lv_at hl 0 rfl) ?_
              obtain ⟨h20, hf⟩ := zck_some hf
              refine zaald (t0 := 4) C hK hW (zvd_5 (by decide) (by decide)) (fun f => ze_5_41 B f (0)) rfl rfl (by decide) h20 zd_M_vote_115 (a := B.2.1 6 (0) (v18)) (by rw [Int.toNat_of_nonneg h20.1]) ?_
              refine zr_iconst C zd_M_vote_116 ?_
              refine lv_aload_n C.1 C.2.1 zd_M_vote_117 rfl (lv_at hl 3 rfl) ?_
              refine zg_M_rowSize (r := 0) C hK hW (zvd_9 (by decide) (by decide)) zk_1507 zd_M_vote_118 ?_
              refine lv_iload_n C.1 C.2.1 zd_M_vote_121 rfl (lv_at hl 4 rfl) ?_
              refine ziald C hK hW (zvd_9 (by decide) (by decide)) (fun f => ze_9_3 B f (0)) (by decide) h19 zd_M_vote_122 ?_
              obtain ⟨h21, hf⟩ := zck_some hf
              obtain ⟨S22, eS22, hf⟩ := zlt_some hf
              refine zcopy C hK hap hW hS hl.1 (zvd_10 h19 (by decide)) (zvd_6 (by decide) h20) (fun f => ze_10_0 B f (x1)) (fun f => ze_6 B f (0) (v18)) (by decide) (by decide) rfl rfl h21 zk_1743 zk_735 zk_734 zk_18 (by decide) (Nat.le_of_ble_eq_true rfl) zd_M_vote_123 (fun H locs hW hS => ?_)
              rw [eS22] at hW
              refine lv_aload_n C.1 C.2.1 zd_M_vote_126 rfl (lv_at hl 3 rfl) ?_
              refine zg_M_world (r := 0) C hK hW (zvd_9 (by decide) (by decide)) zk_1500 zd_M_vote_127 ?_
              refine zg_W_size (r := 0) C hK hW (zvd_5 (by decide) (by decide)) zk_1312 zd_M_vote_130 ?_
              refine lv_iload C.1 C.2.1 zd_M_vote_133 (lv_at hl 0 rfl) ?_
              refine lv_aload_n C.1 C.2.1 zd_M_vote_135 rfl (lv_at hl 3 rfl) ?_
              refine zg_M_rowSize (r := 0) C hK hW (zvd_9 (by decide) (by decide)) zk_1507 zd_M_vote_136 ?_
              refine lv_iload_n C.1 C.2.1 zd_M_vote_139 rfl (lv_at hl 4 rfl) ?_
              refine ziald C hK hW (zvd_9 (by decide) (by decide)) (fun f => ze_9_3 B f (0)) (by decide) h19 zd_M_vote_140 ?_
              obtain ⟨S23, eS23, hf⟩ := zlt_some hf
              refine ziast C hK hap hW hS (zvd_5 (by decide) (by decide)) (fun f => ze_5_14 B f (0)) (by decide) rfl (zWn hW _ _ _ _ rfl) h20 zd_M_vote_141 (fun H locs hW hS => ?_)
              rw [eS23] at hW
              refine lv_aload_n C.1 C.2.1 zd_M_vote_142 rfl (lv_at hl 3 rfl) ?_
              refine zg_M_world (r := 0) C hK hW (zvd_9 (by decide) (by decide)) zk_1500 zd_M_vote_143 ?_
              refine zg_W_from (r := 0) C hK hW (zvd_5 (by decide) (by decide)) zk_1314 zd_M_vote_146 ?_
              refine lv_iload C.1 C.2.1 zd_M_vote_149 (lv_at hl 0 rfl) ?_
              refine lv_aload_n C.1 C.2.1 zd_M_vote_151 rfl (lv_at hl 3 rfl) ?_
              refine zg_M_world (r := 0) C hK hW (zvd_9 (by decide) (by decide)) zk_1500 zd_M_vote_152 ?_
              refine zg_W_week (r := 0) C hK hW (zvd_5 (by decide) (by decide)) zk_1276 zd_M_vote_155 ?_
              refine zr_iconst C zd_M_vote_158 ?_
              refine zr_iadd C zd_M_vote_159 ?_
              obtain ⟨S24, eS24, hf⟩ := zlt_some hf
              refine ziast C hK hap hW hS (zvd_5 (by decide) (by decide)) (fun f => ze_5_15 B f (0)) (by decide) rfl (zn_w _) h20 zd_M_vote_160 (fun H locs hW hS => ?_)
              rw [eS24] at hW
              refine lv_aload_n C.1 C.2.1 zd_M_vote_161 rfl (lv_at hl 3 rfl) ?_
              refine zg_M_world (r := 0) C hK hW (zvd_9 (by decide) (by decide)) zk_1500 zd_M_vote_162 ?_
              refine zg_W_votes (r := 0) C hK hW (zvd_5 (by decide) (by decide)) zk_1316 zd_M_vote_165 ?_
              refine lv_iload C.1 C.2.1 zd_M_vote_168 (lv_at hl 0 rfl) ?_
              refine lv_iload_n C.1 C.2.1 zd_M_vote_170 rfl (lv_at hl 5 rfl) ?_
              obtain ⟨S25, eS25, hf⟩ := zlt_some hf
              refine ziast C hK hap hW hS (zvd_5 (by decide) (by decide)) (fun f => ze_5_16 B f (0)) (by decide) rfl nx2 h20 zd_M_vote_171 (fun H locs hW hS => ?_)
              rw [eS25] at hW
              refine lv_aload_n C.1 C.2.1 zd_M_vote_172 rfl (lv_at hl 3 rfl) ?_
              refine zg_M_world (r := 0) C hK hW (zvd_9 (by decide) (by decide)) zk_1500 zd_M_vote_173 ?_
              refine zg_W_voters (r := 0) C hK hW (zvd_5 (by decide) (by decide)) zk_1318 zd_M_vote_176 ?_
              refine lv_iload C.1 C.2.1 zd_M_vote_179 (lv_at hl 0 rfl) ?_
              refine lv_iload_n C.1 C.2.1 zd_M_vote_181 rfl (lv_at hl 2 rfl) ?_
              obtain ⟨S26, eS26, hf⟩ := zlt_some hf
              refine ziast C hK hap hW hS (zvd_5 (by decide) (by decide)) (fun f => ze_5_17 B f (0)) (by decide) rfl na2 h20 zd_M_vote_182 (fun H locs hW hS => ?_)
              rw [eS26] at hW
              refine lv_aload_n C.1 C.2.1 zd_M_vote_183 rfl (lv_at hl 3 rfl) ?_
              refine zg_M_world (r := 0) C hK hW (zvd_9 (by decide) (by decide)) zk_1500 zd_M_vote_184 ?_
              refine zg_W_under (r := 0) C hK hW (zvd_5 (by decide) (by decide)) zk_1320 zd_M_vote_187 ?_
              refine lv_iload C.1 C.2.1 zd_M_vote_190 (lv_at hl 0 rfl) ?_
              refine lv_aload_n C.1 C.2.1 zd_M_vote_192 rfl (lv_at hl 3 rfl) ?_
              refine zg_M_world (r := 0) C hK hW (zvd_9 (by decide) (by decide)) zk_1500 zd_M_vote_193 ?_
              refine zr_iconst C zd_M_vote_196 ?_
              refine lv_aload_n C.1 C.2.1 zd_M_vote_197 rfl (lv_at hl 3 rfl) ?_
              refine zg_M_world (r := 0) C hK hW (zvd_9 (by decide) (by decide)) zk_1500 zd_M_vote_198 ?_
              refine zg_W_week (r := 0) C hK hW (zvd_5 (by decide) (by decide)) zk_1276 zd_M_vote_201 ?_
              obtain ⟨a27, S28, ea27, hf⟩ := zbd_some hf
              refine zcVi (As := [.int (zI (0)), .int (zI (S26 5 0 0 0))]) (rest := [.int (zI (v18)), .ref (B.2.1 5 (0) (18))]) C hK hSt hW hS (zc_W_force hap (0) (by decide) 0 (S26 5 0 0 0) S26 (znb rfl) (zWn hW _ _ _ _ rfl) ea27) zq_W_force zk_1744 (zrecv hK hW (zvd_5 (by decide) (by decide)) (ze_5_0 B _ (0)) rfl) ⟨rfl, rfl, by decide, by decide⟩ ⟨Nat.zero_le _, Nat.zero_le _⟩ rfl hl.1 rfl (lv_room (Nat.le_of_ble_eq_true rfl)) zd_M_vote_204 (fun na27 H locs hW hS => ?_)
              obtain ⟨S29, eS29, hf⟩ := zlt_some hf
              refine ziast C hK hap hW hS (zvd_5 (by decide) (by decide)) (fun f => ze_5_18 B f (0)) (by decide) rfl na27 h20 zd_M_vote_207 (fun H locs hW hS => ?_)
              rw [eS29] at hW
              refine lv_aload_n C.1 C.2.1 zd_M_vote_208 rfl (lv_at hl 3 rfl) ?_
              refine zg_M_world (r := 0) C hK hW (zvd_9 (by decide) (by decide)) zk_1500 zd_M_vote_209 ?_
              refine zg_W_isVoid (r := 0) C hK hW (zvd_5 (by decide) (by decide)) zk_1322 zd_M_vote_212 ?_
              refine lv_iload C.1 C.2.1 zd_M_vote_215 (lv_at hl 0 rfl) ?_
              refine zr_iconst C zd_M_vote_217 ?_
              obtain ⟨S30, eS30, hf⟩ := zlt_some hf
              refine ziast C hK hap hW hS (zvd_5 (by decide) (by decide)) (fun f => ze_5_19 B f (0)) (by decide) rfl (znb rfl) h20 zd_M_vote_218 (fun H locs hW hS => ?_)
              rw [eS30] at hW
              refine lv_aload_n C.1 C.2.1 zd_M_vote_219 rfl (lv_at hl 3 rfl) ?_
              refine zg_M_world (r := 0) C hK hW (zvd_9 (by decide) (by decide)) zk_1500 zd_M_vote_220 ?_
              refine zg_W_repealed (r := 0) C hK hW (zvd_5 (by decide) (by decide)) zk_1324 zd_M_vote_223 ?_
              refine lv_iload C.1 C.2.1 zd_M_vote_226 (lv_at hl 0 rfl) ?_
              refine zr_bipush C zd_M_vote_228 (by decide) ?_
              obtain ⟨S31, eS31, hf⟩ := zlt_some hf
              refine ziast C hK hap hW hS (zvd_5 (by decide) (by decide)) (fun f => ze_5_20 B f (0)) (by decide) rfl (znb rfl) h20 zd_M_vote_230 (fun H locs hW hS => ?_)
              rw [eS31] at hW
              refine lv_aload_n C.1 C.2.1 zd_M_vote_231 rfl (lv_at hl 3 rfl) ?_
              refine zg_M_world (r := 0) C hK hW (zvd_9 (by decide) (by decide)) zk_1500 zd_M_vote_232 ?_
              refine lv_dup C.1 C.2.1 zd_M_vote_235 rfl ?_
              refine zg_W_laws (r := 0) C hK hW (zvd_5 (by decide) (by decide)) zk_1308 zd_M_vote_236 ?_
              refine lv_dup_x1 C.1 C.2.1 zd_M_vote_239 rfl rfl ?_
              refine zr_iconst C zd_M_vote_240 ?_
              refine zr_iadd C zd_M_vote_241 ?_
              have w33 : zn (S31 5 0 0 16) := (zWn hW _ _ _ _ rfl)
              obtain ⟨S32, eS32, hf⟩ := zlt_some hf
              refine zp_W_laws (r := 0) C hK hap hW hS (zvd_5 (by decide) (by decide)) zk_1308 (zn_w _) zd_M_vote_242 (fun H locs hW hS => ?_)
              rw [eS32] at hW
              cases hf
              exact zre_i C hr hlk hK hW hS w33 zd_M_vote_245
            · rw [if_neg c17] at hf
              refine zr_bipush C zd_M_vote_87 (by decide) ?_
              cases hf
              exact zre_i C hr hlk hK hW hS (znb rfl) zd_M_vote_89
          · rw [if_pos c16] at hf
            refine zr_bipush C zd_M_vote_77 (by decide) ?_
            cases hf
            exact zre_i C hr hlk hK hW hS (znb rfl) zd_M_vote_79
        · rw [if_neg c15] at hf
          refine zr_bipush C zd_M_vote_59 (by decide) ?_
          refine lv_iload C.1 C.2.1 zd_M_vote_61 (lv_at hl 0 rfl) ?_
          refine zr_isub C zd_M_vote_63 ?_
          cases hf
          exact zre_i C hr hlk hK hW hS (zn_w _) zd_M_vote_64
      · rw [if_neg c12] at hf
        refine lv_aload_n C.1 C.2.1 zd_M_vote_39 rfl (lv_at hl 1 rfl) ?_
        refine lv_iload_n C.1 C.2.1 zd_M_vote_40 rfl (lv_at hl 2 rfl) ?_
        obtain ⟨a34, S35, ea34, hf⟩ := zbd_some hf
        refine zcVi (As := [.int (zI (x1))]) (rest := []) C hK hSt hW hS (zc_M_noBytes hap x1 S11 nx1 ea34) zq_M_noBytes zk_1648 (zrecv hK hW (zvd_9 (by decide) (by decide)) (ze_9_0 B _ (0)) rfl) ⟨rfl, rfl, by decide, by decide⟩ ⟨Nat.zero_le _, Nat.zero_le _⟩ rfl hl.1 rfl (lv_room (Nat.le_of_ble_eq_true rfl)) zd_M_vote_41 (fun na34 H locs hW hS => ?_)
        cases hf
        exact zre_i C hr hlk hK hW hS na34 zd_M_vote_44
    · rw [if_pos c9] at hf
      refine zr_iconst C zd_M_vote_29 ?_
      cases hf
      exact zre_i C hr hlk hK hW hS (znb rfl) zd_M_vote_30

theorem zc_M_vote {l : Launch} {B : zB} (hap : zAp B) (x1 : Int) (x2 : Int) (S : Sg) (nx1 : zn x1) (nx2 : zn x2) {res : Int} {S9 : Sg} (hf : zf_M_vote x1 x2 S = some (res, S9)) : Met l zy_M_vote (Cond.code zy_M_vote zb_M_vote 6 (some .int) :: zT) zm_M_vote (zP B S [.ref (B.2.1 9 (0) (0)), .int (zI (x1)), .int (zI (x2))]) (zQi B res S9) 0 0 B.2.2.2 :=
  zmet (by decide) (Nat.le_of_ble_eq_true rfl) (fun p e s m args below meth c C hr hlk hK hSt hW ls hl => zw_M_vote C hr hlk hK hSt hap   x1 x2 S nx1 nx2 hf _ _ _ hW va_S.rf hl)
/-! IslandOfficeModel.isLaw(I)Z -/
abbrev zy_M_isLaw : MethodName := ⟨"IslandOfficeModel", "isLaw", "(I)Z"⟩
abbrev zb_M_isLaw : ByteArray := prog_14_method_6_code
abbrev zm_M_isLaw : Room := { frames := 1, cells := 0, slots := 0, locals := 22 }
theorem zq_M_isLaw : zMy zy_M_isLaw zb_M_isLaw 2 (some .boolean) 1 := ⟨zk_1752, zk_1751, zs_62, zk_14, by decide, by decide, by decide +kernel⟩
theorem zd_M_isLaw_0 : decode zb_M_isLaw 0 = .ok (.iload_n 1, 1) := by decide +kernel
theorem zd_M_isLaw_1 : decode zb_M_isLaw 1 = .ok (.iconst 0, 1) := by decide +kernel
theorem zd_M_isLaw_2 : decode zb_M_isLaw 2 = .ok (.aload_n 0, 1) := by decide +kernel
theorem zd_M_isLaw_3 : decode zb_M_isLaw 3 = .ok (.getfield 10, 3) := by decide +kernel
theorem zd_M_isLaw_6 : decode zb_M_isLaw 6 = .ok (.getfield 57, 3) := by decide +kernel
theorem zd_M_isLaw_9 : decode zb_M_isLaw 9 = .ok (.iconst 1, 1) := by decide +kernel
theorem zd_M_isLaw_10 : decode zb_M_isLaw 10 = .ok (.isub, 1) := by decide +kernel
theorem zd_M_isLaw_11 : decode zb_M_isLaw 11 = .ok (.invokestatic 53, 3) := by decide +kernel
theorem zd_M_isLaw_14 : decode zb_M_isLaw 14 = .ok (.ireturn, 1) := by decide +kernel

def zf_M_isLaw (x1 : Int) (S : Sg) : Option (Int × Sg) :=
    zbd (zf_M_in x1 0 (zw ((S 5 0 0 16) - 1)) S) fun a1 S2 => zck (a1 = 0 ∨ a1 = 1) <| some (a1, S2)
set_option maxHeartbeats 4000000 in
set_option maxRecDepth 100000 in
theorem zw_M_isLaw {p : Program} {l : Launch} {e : Env} {s : State} {m : MethodId} {args : Array Value} {below : List Frame} {meth : Method} {c : Code} {B : zB} (C : CallFix p m c zb_M_isLaw 2 s args zT "IslandOfficeModel") (hr : meth.sig.returnType = some .boolean) (hlk : meth.locks = false) (hK : zK B s) (hSt : zSt B s) (hap : zAp B) {res : Int} {S9 : Sg} : ∀ (x1 : Int) (S : Sg) (nx1 : zn x1), zf_M_isLaw x1 S = some (res, S9) → ∀ (H : Heap) (locs : List Loc) (ls : Array Slot), zW B S H → va_S B.2.2.2 s.heap H locs → lv_has ls 2 [(0, .ref (B.2.1 9 (0) (0))), (1, .int (zI (x1)))] → W p l e zm_M_isLaw s m args below meth c H locs 0 0 (MQ below (zQi B res S9) args s 0 0 B.2.2.2) (F0 m 0 ls []) := by
  intro x1 S nx1 hf H locs ls hW hS hl
  unfold zf_M_isLaw at hf
  refine lv_iload_n C.1 C.2.1 zd_M_isLaw_0 rfl (lv_at hl 1 rfl) ?_
  refine zr_iconst C zd_M_isLaw_1 ?_
  refine lv_aload_n C.1 C.2.1 zd_M_isLaw_2 rfl (lv_at hl 0 rfl) ?_
  refine zg_M_world (r := 0) C hK hW (zvd_9 (by decide) (by decide)) zk_1500 zd_M_isLaw_3 ?_
  refine zg_W_laws (r := 0) C hK hW (zvd_5 (by decide) (by decide)) zk_1308 zd_M_isLaw_6 ?_
  refine zr_iconst C zd_M_isLaw_9 ?_
  refine zr_isub C zd_M_isLaw_10 ?_
  obtain ⟨a1, S2, ea1, hf⟩ := zbd_some hf
  refine zcSi (As := [.int (zI (x1)), .int (zI (0)), .int (zI (zw ((S 5 0 0 16) - 1)))]) (rest := []) C hK hSt hW hS (zc_M_in hap x1 0 (zw ((S 5 0 0 16) - 1)) S nx1 (znb rfl) (zn_w _) ea1) zq_M_in zk_1558 ⟨rfl, rfl, by decide, by decide⟩ ⟨Nat.zero_le _, Nat.zero_le _⟩ rfl hl.1 rfl (lv_room (Nat.le_of_ble_eq_true rfl)) zd_M_isLaw_11 (fun na1 H locs hW hS => ?_)
  obtain ⟨h3, hf⟩ := zck_some hf
  cases hf
  exact zre_z C hr hlk hK hW hS na1 (zb01 h3) zd_M_isLaw_14

theorem zc_M_isLaw {l : Launch} {B : zB} (hap : zAp B) (x1 : Int) (S : Sg) (nx1 : zn x1) {res : Int} {S9 : Sg} (hf : zf_M_isLaw x1 S = some (res, S9)) : Met l zy_M_isLaw (Cond.code zy_M_isLaw zb_M_isLaw 2 (some .boolean) :: zT) zm_M_isLaw (zP B S [.ref (B.2.1 9 (0) (0)), .int (zI (x1))]) (zQi B res S9) 0 0 B.2.2.2 :=
  zmet (by decide) (Nat.le_of_ble_eq_true rfl) (fun p e s m args below meth c C hr hlk hK hSt hW ls hl => zw_M_isLaw C hr hlk hK hSt hap   x1 S nx1 hf _ _ _ hW va_S.rf hl)
/-! IslandOfficeModel.repeal(I)I -/
abbrev zy_M_repeal : MethodName := ⟨"IslandOfficeModel", "repeal", "(I)I"⟩
abbrev zb_M_repeal : ByteArray := prog_14_method_34_code
abbrev zm_M_repeal : Room := { frames := 2, cells := 0, slots := 0, locals := 43 }
theorem zq_M_repeal : zMy zy_M_repeal zb_M_repeal 2 (some .int) 1 := ⟨zk_1748, zk_1746, zk_1747, zk_14, by decide, by decide, by decide +kernel⟩
theorem zd_M_repeal_0 : decode zb_M_repeal 0 = .ok (.aload_n 0, 1) := by decide +kernel
theorem zd_M_repeal_1 : decode zb_M_repeal 1 = .ok (.iconst 0, 1) := by decide +kernel
theorem zd_M_repeal_2 : decode zb_M_repeal 2 = .ok (.putfield 46, 3) := by decide +kernel
theorem zd_M_repeal_5 : decode zb_M_repeal 5 = .ok (.aload_n 0, 1) := by decide +kernel
theorem zd_M_repeal_6 : decode zb_M_repeal 6 = .ok (.iload_n 1, 1) := by decide +kernel
theorem zd_M_repeal_7 : decode zb_M_repeal 7 = .ok (.invokevirtual 216, 3) := by decide +kernel
theorem zd_M_repeal_10 : decode zb_M_repeal 10 = .ok (.ifCond .ne 5, 3) := by decide +kernel
theorem zd_M_repeal_13 : decode zb_M_repeal 13 = .ok (.iconst (-1), 1) := by decide +kernel
theorem zd_M_repeal_14 : decode zb_M_repeal 14 = .ok (.ireturn, 1) := by decide +kernel
theorem zd_M_repeal_15 : decode zb_M_repeal 15 = .ok (.aload_n 0, 1) := by decide +kernel
theorem zd_M_repeal_16 : decode zb_M_repeal 16 = .ok (.getfield 10, 3) := by decide +kernel
theorem zd_M_repeal_19 : decode zb_M_repeal 19 = .ok (.getfield 210, 3) := by decide +kernel
theorem zd_M_repeal_22 : decode zb_M_repeal 22 = .ok (.iload_n 1, 1) := by decide +kernel
theorem zd_M_repeal_23 : decode zb_M_repeal 23 = .ok (.iaload, 1) := by decide +kernel
theorem zd_M_repeal_24 : decode zb_M_repeal 24 = .ok (.iconst 1, 1) := by decide +kernel
theorem zd_M_repeal_25 : decode zb_M_repeal 25 = .ok (.if_icmp .eq 17, 3) := by decide +kernel
theorem zd_M_repeal_28 : decode zb_M_repeal 28 = .ok (.aload_n 0, 1) := by decide +kernel
theorem zd_M_repeal_29 : decode zb_M_repeal 29 = .ok (.getfield 10, 3) := by decide +kernel
theorem zd_M_repeal_32 : decode zb_M_repeal 32 = .ok (.getfield 213, 3) := by decide +kernel
theorem zd_M_repeal_35 : decode zb_M_repeal 35 = .ok (.iload_n 1, 1) := by decide +kernel
theorem zd_M_repeal_36 : decode zb_M_repeal 36 = .ok (.iaload, 1) := by decide +kernel
theorem zd_M_repeal_37 : decode zb_M_repeal 37 = .ok (.bipush (-2), 2) := by decide +kernel
theorem zd_M_repeal_39 : decode zb_M_repeal 39 = .ok (.if_icmp .eq 6, 3) := by decide +kernel
theorem zd_M_repeal_42 : decode zb_M_repeal 42 = .ok (.bipush (-3), 2) := by decide +kernel
theorem zd_M_repeal_44 : decode zb_M_repeal 44 = .ok (.ireturn, 1) := by decide +kernel
theorem zd_M_repeal_45 : decode zb_M_repeal 45 = .ok (.aload_n 0, 1) := by decide +kernel
theorem zd_M_repeal_46 : decode zb_M_repeal 46 = .ok (.getfield 10, 3) := by decide +kernel
theorem zd_M_repeal_49 : decode zb_M_repeal 49 = .ok (.getfield 213, 3) := by decide +kernel
theorem zd_M_repeal_52 : decode zb_M_repeal 52 = .ok (.iload_n 1, 1) := by decide +kernel
theorem zd_M_repeal_53 : decode zb_M_repeal 53 = .ok (.aload_n 0, 1) := by decide +kernel
theorem zd_M_repeal_54 : decode zb_M_repeal 54 = .ok (.getfield 10, 3) := by decide +kernel
theorem zd_M_repeal_57 : decode zb_M_repeal 57 = .ok (.getfield 87, 3) := by decide +kernel
theorem zd_M_repeal_60 : decode zb_M_repeal 60 = .ok (.iconst 1, 1) := by decide +kernel
theorem zd_M_repeal_61 : decode zb_M_repeal 61 = .ok (.iadd, 1) := by decide +kernel
theorem zd_M_repeal_62 : decode zb_M_repeal 62 = .ok (.iastore, 1) := by decide +kernel
theorem zd_M_repeal_63 : decode zb_M_repeal 63 = .ok (.iconst 1, 1) := by decide +kernel
theorem zd_M_repeal_64 : decode zb_M_repeal 64 = .ok (.ireturn, 1) := by decide +kernel

def zf_M_repeal (x1 : Int) (S : Sg) : Option (Int × Sg) :=
    zlt (zu S 9 0 0 4 0) fun S1 => zbd (zf_M_isLaw x1 S1) fun a2 S3 => if a2 = 0 then (some (-1, S3)) else (zck (0 ≤ x1 ∧ x1 < 12) <| if (S3 5 0 19 x1) = 1 then (some (-3, S3)) else (if (S3 5 0 20 x1) = (-2) then (zlt (zu S3 5 0 20 x1 (zw ((S3 5 0 0 0) + 1))) fun S8 => some (1, S8)) else (some (-3, S3))))
set_option maxHeartbeats 4000000 in
set_option maxRecDepth 100000 in
theorem zw_M_repeal {p : Program} {l : Launch} {e : Env} {s : State} {m : MethodId} {args : Array Value} {below : List Frame} {meth : Method} {c : Code} {B : zB} (C : CallFix p m c zb_M_repeal 2 s args zT "IslandOfficeModel") (hr : meth.sig.returnType = some .int) (hlk : meth.locks = false) (hK : zK B s) (hSt : zSt B s) (hap : zAp B) {res : Int} {S9 : Sg} : ∀ (x1 : Int) (S : Sg) (nx1 : zn x1), zf_M_repeal x1 S = some (res, S9) → ∀ (H : Heap) (locs : List Loc) (ls : Array Slot), zW B S H → va_S B.2.2.2 s.heap H locs → lv_has ls 2 [(0, .ref (B.2.1 9 (0) (0))), (1, .int (zI (x1)))] → W p l e zm_M_repeal s m args below meth c H locs 0 0 (MQ below (zQi B res S9) args s 0 0 B.2.2.2) (F0 m 0 ls []) := by
  intro x1 S nx1 hf H locs ls hW hS hl
  unfold zf_M_repeal at hf
  refine lv_aload_n C.1 C.2.1 zd_M_repeal_0 rfl (lv_at hl 0 rfl) ?_
  refine zr_iconst C zd_M_repeal_1 ?_
  obtain ⟨S1, eS1, hf⟩ := zlt_some hf
  refine zp_M_thrown (r := 0) C hK hap hW hS (zvd_9 (by decide) (by decide)) zk_1504 (znb rfl) zd_M_repeal_2 (fun H locs hW hS => ?_)
  rw [eS1] at hW
  refine lv_aload_n C.1 C.2.1 zd_M_repeal_5 rfl (lv_at hl 0 rfl) ?_
  refine lv_iload_n C.1 C.2.1 zd_M_repeal_6 rfl (lv_at hl 1 rfl) ?_
  obtain ⟨a2, S3, ea2, hf⟩ := zbd_some hf
  refine zcVi (As := [.int (zI (x1))]) (rest := []) C hK hSt hW hS (zc_M_isLaw hap x1 S1 nx1 ea2) zq_M_isLaw zk_1749 (zrecv hK hW (zvd_9 (by decide) (by decide)) (ze_9_0 B _ (0)) rfl) ⟨rfl, rfl, by decide, by decide⟩ ⟨Nat.zero_le _, Nat.zero_le _⟩ rfl hl.1 rfl (lv_room (Nat.le_of_ble_eq_true rfl)) zd_M_repeal_7 (fun na2 H locs hW hS => ?_)
  refine zr_if_ne (tgt := 15) C na2 zd_M_repeal_10 (by decide) (fun c4 => ?_) (fun c4 => ?_)
  · rw [if_neg c4] at hf
    refine lv_aload_n C.1 C.2.1 zd_M_repeal_15 rfl (lv_at hl 0 rfl) ?_
    refine zg_M_world (r := 0) C hK hW (zvd_9 (by decide) (by decide)) zk_1500 zd_M_repeal_16 ?_
    refine zg_W_isVoid (r := 0) C hK hW (zvd_5 (by decide) (by decide)) zk_1322 zd_M_repeal_19 ?_
    refine lv_iload_n C.1 C.2.1 zd_M_repeal_22 rfl (lv_at hl 1 rfl) ?_
    obtain ⟨h5, hf⟩ := zck_some hf
    refine ziald C hK hW (zvd_5 (by decide) (by decide)) (fun f => ze_5_19 B f (0)) (by decide) h5 zd_M_repeal_23 ?_
    refine zr_iconst C zd_M_repeal_24 ?_
    refine zr_icmp_eq (tgt := 42) C (zWn hW _ _ _ _ rfl) (znb rfl) zd_M_repeal_25 (by decide) (fun c6 => ?_) (fun c6 => ?_)
    · rw [if_pos c6] at hf
      refine zr_bipush C zd_M_repeal_42 (by decide) ?_
      cases hf
      exact zre_i C hr hlk hK hW hS (znb rfl) zd_M_repeal_44
    · rw [if_neg c6] at hf
      refine lv_aload_n C.1 C.2.1 zd_M_repeal_28 rfl (lv_at hl 0 rfl) ?_
      refine zg_M_world (r := 0) C hK hW (zvd_9 (by decide) (by decide)) zk_1500 zd_M_repeal_29 ?_
      refine zg_W_repealed (r := 0) C hK hW (zvd_5 (by decide) (by decide)) zk_1324 zd_M_repeal_32 ?_
      refine lv_iload_n C.1 C.2.1 zd_M_repeal_35 rfl (lv_at hl 1 rfl) ?_
      refine ziald C hK hW (zvd_5 (by decide) (by decide)) (fun f => ze_5_20 B f (0)) (by decide) h5 zd_M_repeal_36 ?_
      refine zr_bipush C zd_M_repeal_37 (by decide) ?_
      refine zr_icmp_eq (tgt := 45) C (zWn hW _ _ _ _ rfl) (znb rfl) zd_M_repeal_39 (by decide) (fun c7 => ?_) (fun c7 => ?_)
      · rw [if_pos c7] at hf
        refine lv_aload_n C.1 C.2.1 zd_M_repeal_45 rfl (lv_at hl 0 rfl) ?_
        refine zg_M_world (r := 0) C hK hW (zvd_9 (by decide) (by decide)) zk_1500 zd_M_repeal_46 ?_
        refine zg_W_repealed (r := 0) C hK hW (zvd_5 (by decide) (by decide)) zk_1324 zd_M_repeal_49 ?_
        refine lv_iload_n C.1 C.2.1 zd_M_repeal_52 rfl (lv_at hl 1 rfl) ?_
        refine lv_aload_n C.1 C.2.1 zd_M_repeal_53 rfl (lv_at hl 0 rfl) ?_
        refine zg_M_world (r := 0) C hK hW (zvd_9 (by decide) (by decide)) zk_1500 zd_M_repeal_54 ?_
        refine zg_W_week (r := 0) C hK hW (zvd_5 (by decide) (by decide)) zk_1276 zd_M_repeal_57 ?_
        refine zr_iconst C zd_M_repeal_60 ?_
        refine zr_iadd C zd_M_repeal_61 ?_
        obtain ⟨S8, eS8, hf⟩ := zlt_some hf
        refine ziast C hK hap hW hS (zvd_5 (by decide) (by decide)) (fun f => ze_5_20 B f (0)) (by decide) rfl (zn_w _) h5 zd_M_repeal_62 (fun H locs hW hS => ?_)
        rw [eS8] at hW
        refine zr_iconst C zd_M_repeal_63 ?_
        cases hf
        exact zre_i C hr hlk hK hW hS (znb rfl) zd_M_repeal_64
      · rw [if_neg c7] at hf
        refine zr_bipush C zd_M_repeal_42 (by decide) ?_
        cases hf
        exact zre_i C hr hlk hK hW hS (znb rfl) zd_M_repeal_44
  · rw [if_pos c4] at hf
    refine zr_iconst C zd_M_repeal_13 ?_
    cases hf
    exact zre_i C hr hlk hK hW hS (znb rfl) zd_M_repeal_14

theorem zc_M_repeal {l : Launch} {B : zB} (hap : zAp B) (x1 : Int) (S : Sg) (nx1 : zn x1) {res : Int} {S9 : Sg} (hf : zf_M_repeal x1 S = some (res, S9)) : Met l zy_M_repeal (Cond.code zy_M_repeal zb_M_repeal 2 (some .int) :: zT) zm_M_repeal (zP B S [.ref (B.2.1 9 (0) (0)), .int (zI (x1))]) (zQi B res S9) 0 0 B.2.2.2 :=
  zmet (by decide) (Nat.le_of_ble_eq_true rfl) (fun p e s m args below meth c C hr hlk hK hSt hW ls hl => zw_M_repeal C hr hlk hK hSt hap   x1 S nx1 hf _ _ _ hW va_S.rf hl)
abbrev zy_M_voided : MethodName := ⟨"IslandOfficeModel", "voided", "(I)I"⟩
abbrev zb_M_voided : ByteArray := prog_14_method_35_code
abbrev zm_M_voided : Room := { frames := 16, cells := 0, slots := 0, locals := 368 }
theorem zq_M_voided : zMy zy_M_voided zb_M_voided 4 (some .int) 1 := ⟨zk_1760, zk_1759, zs_63, zk_14, by decide, by decide, by decide +kernel⟩
theorem zd_M_voided_0 : decode zb_M_voided 0 = .ok (.aload_n 0, 1) := by decide +kernel
theorem zd_M_voided_1 : decode zb_M_voided 1 = .ok (.getfield 10, 3) := by decide +kernel
theorem zd_M_voided_4 : decode zb_M_voided 4 = .ok (.getfield 210, 3) := by decide +kernel
theorem zd_M_voided_7 : decode zb_M_voided 7 = .ok (.iload_n 1, 1) := by decide +kernel
theorem zd_M_voided_8 : decode zb_M_voided 8 = .ok (.iaload, 1) := by decide +kernel
theorem zd_M_voided_9 : decode zb_M_voided 9 = .ok (.iconst 1, 1) := by decide +kernel
theorem zd_M_voided_10 : decode zb_M_voided 10 = .ok (.if_icmp .ne 5, 3) := by decide +kernel
theorem zd_M_voided_13 : decode zb_M_voided 13 = .ok (.iconst 0, 1) := by decide +kernel
theorem zd_M_voided_14 : decode zb_M_voided 14 = .ok (.ireturn, 1) := by decide +kernel
theorem zd_M_voided_15 : decode zb_M_voided 15 = .ok (.aload_n 0, 1) := by decide +kernel
theorem zd_M_voided_16 : decode zb_M_voided 16 = .ok (.getfield 10, 3) := by decide +kernel
theorem zd_M_voided_19 : decode zb_M_voided 19 = .ok (.getfield 210, 3) := by decide +kernel
theorem zd_M_voided_22 : decode zb_M_voided 22 = .ok (.iload_n 1, 1) := by decide +kernel
theorem zd_M_voided_23 : decode zb_M_voided 23 = .ok (.iconst 1, 1) := by decide +kernel
theorem zd_M_voided_24 : decode zb_M_voided 24 = .ok (.iastore, 1) := by decide +kernel
theorem zd_M_voided_25 : decode zb_M_voided 25 = .ok (.iconst 1, 1) := by decide +kernel
theorem zd_M_voided_26 : decode zb_M_voided 26 = .ok (.istore_n 2, 1) := by decide +kernel
theorem zd_M_voided_27 : decode zb_M_voided 27 = .ok (.iconst 0, 1) := by decide +kernel
theorem zd_M_voided_28 : decode zb_M_voided 28 = .ok (.istore_n 3, 1) := by decide +kernel
theorem zd_M_voided_29 : decode zb_M_voided 29 = .ok (.iload_n 3, 1) := by decide +kernel
theorem zd_M_voided_30 : decode zb_M_voided 30 = .ok (.aload_n 0, 1) := by decide +kernel
theorem zd_M_voided_31 : decode zb_M_voided 31 = .ok (.getfield 10, 3) := by decide +kernel
theorem zd_M_voided_34 : decode zb_M_voided 34 = .ok (.getfield 57, 3) := by decide +kernel
theorem zd_M_voided_37 : decode zb_M_voided 37 = .ok (.if_icmp .ge 34, 3) := by decide +kernel
theorem zd_M_voided_40 : decode zb_M_voided 40 = .ok (.iload_n 2, 1) := by decide +kernel
theorem zd_M_voided_41 : decode zb_M_voided 41 = .ok (.aload_n 0, 1) := by decide +kernel
theorem zd_M_voided_42 : decode zb_M_voided 42 = .ok (.getfield 10, 3) := by decide +kernel
theorem zd_M_voided_45 : decode zb_M_voided 45 = .ok (.getfield 203, 3) := by decide +kernel
theorem zd_M_voided_48 : decode zb_M_voided 48 = .ok (.iload_n 3, 1) := by decide +kernel
theorem zd_M_voided_49 : decode zb_M_voided 49 = .ok (.iaload, 1) := by decide +kernel
theorem zd_M_voided_50 : decode zb_M_voided 50 = .ok (.iload_n 1, 1) := by decide +kernel
theorem zd_M_voided_51 : decode zb_M_voided 51 = .ok (.if_icmp .ne 11, 3) := by decide +kernel
theorem zd_M_voided_54 : decode zb_M_voided 54 = .ok (.aload_n 0, 1) := by decide +kernel
theorem zd_M_voided_55 : decode zb_M_voided 55 = .ok (.iload_n 3, 1) := by decide +kernel
theorem zd_M_voided_56 : decode zb_M_voided 56 = .ok (.invokevirtual 219, 3) := by decide +kernel
theorem zd_M_voided_59 : decode zb_M_voided 59 = .ok (.goto 4, 3) := by decide +kernel
theorem zd_M_voided_62 : decode zb_M_voided 62 = .ok (.iconst 0, 1) := by decide +kernel
theorem zd_M_voided_63 : decode zb_M_voided 63 = .ok (.iadd, 1) := by decide +kernel
theorem zd_M_voided_64 : decode zb_M_voided 64 = .ok (.istore_n 2, 1) := by decide +kernel
theorem zd_M_voided_65 : decode zb_M_voided 65 = .ok (.iinc 3 1, 3) := by decide +kernel
theorem zd_M_voided_68 : decode zb_M_voided 68 = .ok (.goto (-39), 3) := by decide +kernel
theorem zd_M_voided_71 : decode zb_M_voided 71 = .ok (.iload_n 2, 1) := by decide +kernel
theorem zd_M_voided_72 : decode zb_M_voided 72 = .ok (.ireturn, 1) := by decide +kernel

def zhr_M_voided (rm : Room) : Prop := 0 ≤ rm.frames ∧ 0 ≤ rm.locals
def zf_M_voided_63 (F_M_voided : Int → Sg → Option (Int × Sg)) (q29 : Int → Int → Int → Sg → Option (Int × Sg)) (x1 : Int) (x3 : Int) (xt0 : Int) (xt1 : Int) (S : Sg) : Option (Int × Sg) :=
    zlt (zw (xt0 + xt1)) fun v1 => zlt (zw (x3 + 1)) fun v2 => q29 (x1) (v1) (v2) S
set_option maxHeartbeats 4000000 in
set_option maxRecDepth 100000 in
theorem zw_M_voided_63 {p : Program} {l : Launch} {e : Env} {s : State} {m : MethodId} {args : Array Value} {below : List Frame} {meth : Method} {c : Code} {B : zB} (C : CallFix p m c zb_M_voided 4 s args zT "IslandOfficeModel") (hr : meth.sig.returnType = some .int) (hlk : meth.locks = false) (hK : zK B s) (hSt : zSt B s) (hap : zAp B) (F_M_voided : Int → Sg → Option (Int × Sg)) {rm : Room} (hrm : zhr_M_voided rm) {rq_M_voided : Room} (hF_M_voided : ∀ (x1 : Int) (S : Sg) (nx1 : zn x1) {res : Int} {S9 : Sg}, F_M_voided x1 S = some (res, S9) → Met l zy_M_voided (Cond.code zy_M_voided zb_M_voided 4 (some .int) :: zT) rq_M_voided (zP B S [.ref (B.2.1 9 (0) (0)), .int (zI (x1))]) (zQi B res S9) 0 0 B.2.2.2) (hq_M_voided : zRm rm rq_M_voided 4) {res : Int} {S9 : Sg} (q29 : Int → Int → Int → Sg → Option (Int × Sg)) (hq29 : ∀ (x1 : Int) (x2 : Int) (x3 : Int) (S : Sg) (nx1 : zn x1) (nx2 : zn x2) (nx3 : zn x3), q29 x1 x2 x3 S = some (res, S9) → ∀ (H : Heap) (locs : List Loc) (ls : Array Slot), zW B S H → va_S B.2.2.2 s.heap H locs → lv_has ls 4 [(0, .ref (B.2.1 9 (0) (0))), (1, .int (zI (x1))), (2, .int (zI (x2))), (3, .int (zI (x3)))] → W p l e rm s m args below meth c H locs 0 0 (MQ below (zQi B res S9) args s 0 0 B.2.2.2) (F0 m 29 ls [])) : ∀ (x1 : Int) (x3 : Int) (xt0 : Int) (xt1 : Int) (S : Sg) (nx1 : zn x1) (nx3 : zn x3) (nxt0 : zn xt0) (nxt1 : zn xt1), zf_M_voided_63 F_M_voided q29 x1 x3 xt0 xt1 S = some (res, S9) → ∀ (H : Heap) (locs : List Loc) (ls : Array Slot), zW B S H → va_S B.2.2.2 s.heap H locs → lv_has ls 4 [(0, .ref (B.2.1 9 (0) (0))), (1, .int (zI (x1))), (3, .int (zI (x3)))] → W p l e rm s m args below meth c H locs 0 0 (MQ below (zQi B res S9) args s 0 0 B.2.2.2) (F0 m 63 ls [.int (zI (xt1)), .int (zI (xt0))]) := by
  intro x1 x3 xt0 xt1 S nx1 nx3 nxt0 nxt1 hf H locs ls hW hS hl
  unfold zf_M_voided_63 at hf
  refine zr_iadd C zd_M_voided_63 ?_
  obtain ⟨v1, ev1, hf⟩ := zlt_some hf
  have nv1 : zn v1 := by rw [← ev1]; exact (zn_w _)
  rw [ev1]
  refine lv_istore_n (lv' := [(2, .int (zI (v1))), (0, .ref (B.2.1 9 (0) (0))), (1, .int (zI (x1))), (3, .int (zI (x3)))]) C.1 C.2.1 zd_M_voided_64 rfl hl (by decide) rfl (fun ls hl => ?_)
  obtain ⟨v2, ev2, hf⟩ := zlt_some hf
  have nv2 : zn v2 := by rw [← ev2]; exact zn_w _
  refine lv_iinc (v := zI v2) (lv' := [(3, .int (zI (v2))), (2, .int (zI (v1))), (0, .ref (B.2.1 9 (0) (0))), (1, .int (zI (x1)))]) C.1 C.2.1 zd_M_voided_65 hl (k := 3) rfl (by rw [← ev2, ← zI_add]; rfl) (by decide) rfl (fun ls hl => ?_)
  refine lv_goto (tgt := 29) C.1 C.2.1 zd_M_voided_68 (by decide) ?_
  exact hq29 (x1) (v1) (v2) S nx1 nv1 nv2 hf _ _ _ hW hS (lv_sub hl [2, 3, 1, 0] rfl)

def zf_M_voided_29 (F_M_voided : Int → Sg → Option (Int × Sg)) : Nat → Int → Int → Int → Sg → Option (Int × Sg)
  | 0, _, _, _, _ => none
  | n + 1, x1, x2, x3, S =>
    if (S 5 0 0 16) ≤ x3 then (some (x2, S)) else (zck (0 ≤ x3 ∧ x3 < 12) <| if (S 5 0 18 x3) = x1 then (zbd (F_M_voided x3 S) fun a4 S5 => zf_M_voided_63 F_M_voided (zf_M_voided_29 F_M_voided n) (x1) (x3) (x2) (a4) S5) else (zf_M_voided_63 F_M_voided (zf_M_voided_29 F_M_voided n) (x1) (x3) (x2) (0) S))
set_option maxHeartbeats 4000000 in
set_option maxRecDepth 100000 in
theorem zw_M_voided_29 {p : Program} {l : Launch} {e : Env} {s : State} {m : MethodId} {args : Array Value} {below : List Frame} {meth : Method} {c : Code} {B : zB} (C : CallFix p m c zb_M_voided 4 s args zT "IslandOfficeModel") (hr : meth.sig.returnType = some .int) (hlk : meth.locks = false) (hK : zK B s) (hSt : zSt B s) (hap : zAp B) (F_M_voided : Int → Sg → Option (Int × Sg)) {rm : Room} (hrm : zhr_M_voided rm) {rq_M_voided : Room} (hF_M_voided : ∀ (x1 : Int) (S : Sg) (nx1 : zn x1) {res : Int} {S9 : Sg}, F_M_voided x1 S = some (res, S9) → Met l zy_M_voided (Cond.code zy_M_voided zb_M_voided 4 (some .int) :: zT) rq_M_voided (zP B S [.ref (B.2.1 9 (0) (0)), .int (zI (x1))]) (zQi B res S9) 0 0 B.2.2.2) (hq_M_voided : zRm rm rq_M_voided 4) {res : Int} {S9 : Sg} : ∀ n : Nat, ∀ (x1 : Int) (x2 : Int) (x3 : Int) (S : Sg) (nx1 : zn x1) (nx2 : zn x2) (nx3 : zn x3), zf_M_voided_29 F_M_voided n x1 x2 x3 S = some (res, S9) → ∀ (H : Heap) (locs : List Loc) (ls : Array Slot), zW B S H → va_S B.2.2.2 s.heap H locs → lv_has ls 4 [(0, .ref (B.2.1 9 (0) (0))), (1, .int (zI (x1))), (2, .int (zI (x2))), (3, .int (zI (x3)))] → W p l e rm s m args below meth c H locs 0 0 (MQ below (zQi B res S9) args s 0 0 B.2.2.2) (F0 m 29 ls []) := by
  intro n
  induction n with
  | zero =>
    intro x1 x2 x3 S nx1 nx2 nx3 hf H locs ls hW hS hl
    cases hf
  | succ n ih =>
    intro x1 x2 x3 S nx1 nx2 nx3 hf H locs ls hW hS hl
    rw [zf_M_voided_29] at hf
    refine lv_iload_n C.1 C.2.1 zd_M_voided_29 rfl (lv_at hl 3 rfl) ?_
    refine lv_aload_n C.1 C.2.1 zd_M_voided_30 rfl (lv_at hl 0 rfl) ?_
    refine zg_M_world (r := 0) C hK hW (zvd_9 (by decide) (by decide)) zk_1500 zd_M_voided_31 ?_
    refine zg_W_laws (r := 0) C hK hW (zvd_5 (by decide) (by decide)) zk_1308 zd_M_voided_34 ?_
    refine zr_icmp_ge (tgt := 71) C nx3 (zWn hW _ _ _ _ rfl) zd_M_voided_37 (by decide) (fun c1 => ?_) (fun c1 => ?_)
    · rw [if_pos c1] at hf
      refine lv_iload_n C.1 C.2.1 zd_M_voided_71 rfl (lv_at hl 2 rfl) ?_
      cases hf
      exact zre_i C hr hlk hK hW hS nx2 zd_M_voided_72
    · rw [if_neg c1] at hf
      refine lv_iload_n C.1 C.2.1 zd_M_voided_40 rfl (lv_at hl 2 rfl) ?_
      refine lv_aload_n C.1 C.2.1 zd_M_voided_41 rfl (lv_at hl 0 rfl) ?_
      refine zg_M_world (r := 0) C hK hW (zvd_9 (by decide) (by decide)) zk_1500 zd_M_voided_42 ?_
      refine zg_W_under (r := 0) C hK hW (zvd_5 (by decide) (by decide)) zk_1320 zd_M_voided_45 ?_
      refine lv_iload_n C.1 C.2.1 zd_M_voided_48 rfl (lv_at hl 3 rfl) ?_
      obtain ⟨h2, hf⟩ := zck_some hf
      refine ziald C hK hW (zvd_5 (by decide) (by decide)) (fun f => ze_5_18 B f (0)) (by decide) h2 zd_M_voided_49 ?_
      refine lv_iload_n C.1 C.2.1 zd_M_voided_50 rfl (lv_at hl 1 rfl) ?_
      refine zr_icmp_ne (tgt := 62) C (zWn hW _ _ _ _ rfl) nx1 zd_M_voided_51 (by decide) (fun c3 => ?_) (fun c3 => ?_)
      · rw [if_neg c3] at hf
        refine zr_iconst C zd_M_voided_62 ?_
        exact zw_M_voided_63 C hr hlk hK hSt hap F_M_voided  hrm hF_M_voided hq_M_voided (zf_M_voided_29 F_M_voided n) (ih) (x1) (x3) (x2) (0) S nx1 nx3 nx2 (znb rfl) hf _ _ _ hW hS (lv_sub hl [0, 1, 3] rfl)
      · rw [if_pos c3] at hf
        refine lv_aload_n C.1 C.2.1 zd_M_voided_54 rfl (lv_at hl 0 rfl) ?_
        refine lv_iload_n C.1 C.2.1 zd_M_voided_55 rfl (lv_at hl 3 rfl) ?_
        obtain ⟨a4, S5, ea4, hf⟩ := zbd_some hf
        refine zcVi (As := [.int (zI (x3))]) (rest := [.int (zI (x2))]) C hK hSt hW hS (hF_M_voided x3 S nx3 ea4) zq_M_voided zk_1757 (zrecv hK hW (zvd_9 (by decide) (by decide)) (ze_9_0 B _ (0)) rfl) hq_M_voided ⟨Nat.zero_le _, Nat.zero_le _⟩ rfl hl.1 rfl (lv_room (Nat.le_of_ble_eq_true rfl)) zd_M_voided_56 (fun na4 H locs hW hS => ?_)
        refine lv_goto (tgt := 63) C.1 C.2.1 zd_M_voided_59 (by decide) ?_
        exact zw_M_voided_63 C hr hlk hK hSt hap F_M_voided  hrm hF_M_voided hq_M_voided (zf_M_voided_29 F_M_voided n) (ih) (x1) (x3) (x2) (a4) S5 nx1 nx3 nx2 na4 hf _ _ _ hW hS (lv_sub hl [0, 1, 3] rfl)

def zf_M_voided_B (F_M_voided : Int → Sg → Option (Int × Sg)) (x1 : Int) (S : Sg) : Option (Int × Sg) :=
    zck (0 ≤ x1 ∧ x1 < 12) <| if (S 5 0 19 x1) = 1 then (some (0, S)) else (zlt (zu S 5 0 19 x1 1) fun S3 => zf_M_voided_29 F_M_voided 4096 (x1) (1) (0) S3)
set_option maxHeartbeats 4000000 in
set_option maxRecDepth 100000 in
theorem zw_M_voided {p : Program} {l : Launch} {e : Env} {s : State} {m : MethodId} {args : Array Value} {below : List Frame} {meth : Method} {c : Code} {B : zB} (C : CallFix p m c zb_M_voided 4 s args zT "IslandOfficeModel") (hr : meth.sig.returnType = some .int) (hlk : meth.locks = false) (hK : zK B s) (hSt : zSt B s) (hap : zAp B) (F_M_voided : Int → Sg → Option (Int × Sg)) {rm : Room} (hrm : zhr_M_voided rm) {rq_M_voided : Room} (hF_M_voided : ∀ (x1 : Int) (S : Sg) (nx1 : zn x1) {res : Int} {S9 : Sg}, F_M_voided x1 S = some (res, S9) → Met l zy_M_voided (Cond.code zy_M_voided zb_M_voided 4 (some .int) :: zT) rq_M_voided (zP B S [.ref (B.2.1 9 (0) (0)), .int (zI (x1))]) (zQi B res S9) 0 0 B.2.2.2) (hq_M_voided : zRm rm rq_M_voided 4) {res : Int} {S9 : Sg} : ∀ (x1 : Int) (S : Sg) (nx1 : zn x1), zf_M_voided_B F_M_voided x1 S = some (res, S9) → ∀ (H : Heap) (locs : List Loc) (ls : Array Slot), zW B S H → va_S B.2.2.2 s.heap H locs → lv_has ls 4 [(0, .ref (B.2.1 9 (0) (0))), (1, .int (zI (x1)))] → W p l e rm s m args below meth c H locs 0 0 (MQ below (zQi B res S9) args s 0 0 B.2.2.2) (F0 m 0 ls []) := by
  intro x1 S nx1 hf H locs ls hW hS hl
  unfold zf_M_voided_B at hf
  refine lv_aload_n C.1 C.2.1 zd_M_voided_0 rfl (lv_at hl 0 rfl) ?_
  refine zg_M_world (r := 0) C hK hW (zvd_9 (by decide) (by decide)) zk_1500 zd_M_voided_1 ?_
  refine zg_W_isVoid (r := 0) C hK hW (zvd_5 (by decide) (by decide)) zk_1322 zd_M_voided_4 ?_
  refine lv_iload_n C.1 C.2.1 zd_M_voided_7 rfl (lv_at hl 1 rfl) ?_
  obtain ⟨h1, hf⟩ := zck_some hf
  refine ziald C hK hW (zvd_5 (by decide) (by decide)) (fun f => ze_5_19 B f (0)) (by decide) h1 zd_M_voided_8 ?_
  refine zr_iconst C zd_M_voided_9 ?_
  refine zr_icmp_ne (tgt := 15) C (zWn hW _ _ _ _ rfl) (znb rfl) zd_M_voided_10 (by decide) (fun c2 => ?_) (fun c2 => ?_)
  · rw [if_neg c2] at hf
    refine lv_aload_n C.1 C.2.1 zd_M_voided_15 rfl (lv_at hl 0 rfl) ?_
    refine zg_M_world (r := 0) C hK hW (zvd_9 (by decide) (by decide)) zk_1500 zd_M_voided_16 ?_
    refine zg_W_isVoid (r := 0) C hK hW (zvd_5 (by decide) (by decide)) zk_1322 zd_M_voided_19 ?_
    refine lv_iload_n C.1 C.2.1 zd_M_voided_22 rfl (lv_at hl 1 rfl) ?_
    refine zr_iconst C zd_M_voided_23 ?_
    obtain ⟨S3, eS3, hf⟩ := zlt_some hf
    refine ziast C hK hap hW hS (zvd_5 (by decide) (by decide)) (fun f => ze_5_19 B f (0)) (by decide) rfl (znb rfl) h1 zd_M_voided_24 (fun H locs hW hS => ?_)
    rw [eS3] at hW
    refine zr_iconst C zd_M_voided_25 ?_
    refine lv_istore_n (lv' := [(2, .int (zI (1))), (0, .ref (B.2.1 9 (0) (0))), (1, .int (zI (x1)))]) C.1 C.2.1 zd_M_voided_26 rfl hl (by decide) rfl (fun ls hl => ?_)
    refine zr_iconst C zd_M_voided_27 ?_
    refine lv_istore_n (lv' := [(3, .int (zI (0))), (2, .int (zI (1))), (0, .ref (B.2.1 9 (0) (0))), (1, .int (zI (x1)))]) C.1 C.2.1 zd_M_voided_28 rfl hl (by decide) rfl (fun ls hl => ?_)
    exact zw_M_voided_29 C hr hlk hK hSt hap F_M_voided  hrm hF_M_voided hq_M_voided 4096 (x1) (1) (0) S3 nx1 (znb rfl) (znb rfl) hf _ _ _ hW hS (lv_sub hl [2, 3, 1, 0] rfl)
  · rw [if_pos c2] at hf
    refine zr_iconst C zd_M_voided_13 ?_
    cases hf
    exact zre_i C hr hlk hK hW hS (znb rfl) zd_M_voided_14

theorem zcb_M_voided {l : Launch} {B : zB} (hap : zAp B) (F_M_voided : Int → Sg → Option (Int × Sg)) {rm : Room} (hrm : zhr_M_voided rm) {rq_M_voided : Room} (hF_M_voided : ∀ (x1 : Int) (S : Sg) (nx1 : zn x1) {res : Int} {S9 : Sg}, F_M_voided x1 S = some (res, S9) → Met l zy_M_voided (Cond.code zy_M_voided zb_M_voided 4 (some .int) :: zT) rq_M_voided (zP B S [.ref (B.2.1 9 (0) (0)), .int (zI (x1))]) (zQi B res S9) 0 0 B.2.2.2) (hq_M_voided : zRm rm rq_M_voided 4) (x1 : Int) (S : Sg) (nx1 : zn x1) {res : Int} {S9 : Sg} (hf : zf_M_voided_B F_M_voided x1 S = some (res, S9)) : Met l zy_M_voided (Cond.code zy_M_voided zb_M_voided 4 (some .int) :: zT) rm (zP B S [.ref (B.2.1 9 (0) (0)), .int (zI (x1))]) (zQi B res S9) 0 0 B.2.2.2 :=
  zmet (by decide) (Nat.le_of_ble_eq_true rfl) (fun p e s m args below meth c C hr hlk hK hSt hW ls hl => zw_M_voided C hr hlk hK hSt hap F_M_voided  hrm hF_M_voided hq_M_voided x1 S nx1 hf _ _ _ hW va_S.rf hl)
def zf_M_voided_D : Nat → Int → Sg → Option (Int × Sg)
  | 0, _, _ => none
  | n + 1, x1, S => zf_M_voided_B (zf_M_voided_D n) x1 S
def zf_M_voided (x1 : Int) (S : Sg) : Option (Int × Sg) := zf_M_voided_D 16 x1 S
theorem zct_M_voided {l : Launch} {B : zB} (hap : zAp B) : ∀ (d : Nat) (x1 : Int) (S : Sg) (nx1 : zn x1) {res : Int} {S9 : Sg}, zf_M_voided_D d x1 S = some (res, S9) → Met l zy_M_voided (Cond.code zy_M_voided zb_M_voided 4 (some .int) :: zT) ({ frames := 0 + 1 * d + 0, cells := 0, slots := 0, locals := 0 + 23 * d + 0 }) (zP B S [.ref (B.2.1 9 (0) (0)), .int (zI (x1))]) (zQi B res S9) 0 0 B.2.2.2 := by
  intro d
  induction d with
  | zero =>
    intro x1 S nx1 res S9 hf
    cases hf
  | succ d ih =>
    intro x1 S nx1 res S9 hf
    rw [zf_M_voided_D] at hf
    exact zcb_M_voided hap (zf_M_voided_D d) ⟨by dsimp only; omega, by dsimp only; omega⟩ (fun x S h _ _ hf => ih x S h hf) ⟨rfl, rfl, by dsimp only; omega, by dsimp only; omega⟩ x1 S nx1 hf
theorem zc_M_voided {l : Launch} {B : zB} (hap : zAp B) (x1 : Int) (S : Sg) (nx1 : zn x1) {res : Int} {S9 : Sg} (hf : zf_M_voided x1 S = some (res, S9)) : Met l zy_M_voided (Cond.code zy_M_voided zb_M_voided 4 (some .int) :: zT) zm_M_voided (zP B S [.ref (B.2.1 9 (0) (0)), .int (zI (x1))]) (zQi B res S9) 0 0 B.2.2.2 :=
  zct_M_voided hap 16 x1 S nx1 hf
/-! IslandOfficeModel.found(II)I -/
abbrev zy_M_found : MethodName := ⟨"IslandOfficeModel", "found", "(II)I"⟩
abbrev zb_M_found : ByteArray := prog_14_method_36_code
abbrev zm_M_found : Room := { frames := 17, cells := 0, slots := 0, locals := 391 }
theorem zq_M_found : zMy zy_M_found zb_M_found 3 (some .int) 2 := ⟨zk_1756, zk_1754, zk_1755, zk_14, by decide, by decide, by decide +kernel⟩
theorem zd_M_found_0 : decode zb_M_found 0 = .ok (.aload_n 0, 1) := by decide +kernel
theorem zd_M_found_1 : decode zb_M_found 1 = .ok (.iconst 0, 1) := by decide +kernel
theorem zd_M_found_2 : decode zb_M_found 2 = .ok (.putfield 46, 3) := by decide +kernel
theorem zd_M_found_5 : decode zb_M_found 5 = .ok (.aload_n 0, 1) := by decide +kernel
theorem zd_M_found_6 : decode zb_M_found 6 = .ok (.iload_n 1, 1) := by decide +kernel
theorem zd_M_found_7 : decode zb_M_found 7 = .ok (.invokevirtual 216, 3) := by decide +kernel
theorem zd_M_found_10 : decode zb_M_found 10 = .ok (.ifCond .eq 20, 3) := by decide +kernel
theorem zd_M_found_13 : decode zb_M_found 13 = .ok (.iload_n 2, 1) := by decide +kernel
theorem zd_M_found_14 : decode zb_M_found 14 = .ok (.iconst 0, 1) := by decide +kernel
theorem zd_M_found_15 : decode zb_M_found 15 = .ok (.aload_n 0, 1) := by decide +kernel
theorem zd_M_found_16 : decode zb_M_found 16 = .ok (.getfield 10, 3) := by decide +kernel
theorem zd_M_found_19 : decode zb_M_found 19 = .ok (.getfield 200, 3) := by decide +kernel
theorem zd_M_found_22 : decode zb_M_found 22 = .ok (.iload_n 1, 1) := by decide +kernel
theorem zd_M_found_23 : decode zb_M_found 23 = .ok (.iaload, 1) := by decide +kernel
theorem zd_M_found_24 : decode zb_M_found 24 = .ok (.invokestatic 53, 3) := by decide +kernel
theorem zd_M_found_27 : decode zb_M_found 27 = .ok (.ifCond .ne 5, 3) := by decide +kernel
theorem zd_M_found_30 : decode zb_M_found 30 = .ok (.iconst (-1), 1) := by decide +kernel
theorem zd_M_found_31 : decode zb_M_found 31 = .ok (.ireturn, 1) := by decide +kernel
theorem zd_M_found_32 : decode zb_M_found 32 = .ok (.aload_n 0, 1) := by decide +kernel
theorem zd_M_found_33 : decode zb_M_found 33 = .ok (.getfield 10, 3) := by decide +kernel
theorem zd_M_found_36 : decode zb_M_found 36 = .ok (.getfield 210, 3) := by decide +kernel
theorem zd_M_found_39 : decode zb_M_found 39 = .ok (.iload_n 1, 1) := by decide +kernel
theorem zd_M_found_40 : decode zb_M_found 40 = .ok (.iaload, 1) := by decide +kernel
theorem zd_M_found_41 : decode zb_M_found 41 = .ok (.iconst 1, 1) := by decide +kernel
theorem zd_M_found_42 : decode zb_M_found 42 = .ok (.if_icmp .ne 6, 3) := by decide +kernel
theorem zd_M_found_45 : decode zb_M_found 45 = .ok (.bipush (-3), 2) := by decide +kernel
theorem zd_M_found_47 : decode zb_M_found 47 = .ok (.ireturn, 1) := by decide +kernel
theorem zd_M_found_48 : decode zb_M_found 48 = .ok (.aload_n 0, 1) := by decide +kernel
theorem zd_M_found_49 : decode zb_M_found 49 = .ok (.getfield 10, 3) := by decide +kernel
theorem zd_M_found_52 : decode zb_M_found 52 = .ok (.getfield 197, 3) := by decide +kernel
theorem zd_M_found_55 : decode zb_M_found 55 = .ok (.iload_n 1, 1) := by decide +kernel
theorem zd_M_found_56 : decode zb_M_found 56 = .ok (.iload_n 2, 1) := by decide +kernel
theorem zd_M_found_57 : decode zb_M_found 57 = .ok (.iastore, 1) := by decide +kernel
theorem zd_M_found_58 : decode zb_M_found 58 = .ok (.iconst 2, 1) := by decide +kernel
theorem zd_M_found_59 : decode zb_M_found 59 = .ok (.iload_n 2, 1) := by decide +kernel
theorem zd_M_found_60 : decode zb_M_found 60 = .ok (.imul, 1) := by decide +kernel
theorem zd_M_found_61 : decode zb_M_found 61 = .ok (.aload_n 0, 1) := by decide +kernel
theorem zd_M_found_62 : decode zb_M_found 62 = .ok (.getfield 10, 3) := by decide +kernel
theorem zd_M_found_65 : decode zb_M_found 65 = .ok (.getfield 200, 3) := by decide +kernel
theorem zd_M_found_68 : decode zb_M_found 68 = .ok (.iload_n 1, 1) := by decide +kernel
theorem zd_M_found_69 : decode zb_M_found 69 = .ok (.iaload, 1) := by decide +kernel
theorem zd_M_found_70 : decode zb_M_found 70 = .ok (.if_icmp .le 7, 3) := by decide +kernel
theorem zd_M_found_73 : decode zb_M_found 73 = .ok (.iconst 0, 1) := by decide +kernel
theorem zd_M_found_74 : decode zb_M_found 74 = .ok (.goto 8, 3) := by decide +kernel
theorem zd_M_found_77 : decode zb_M_found 77 = .ok (.aload_n 0, 1) := by decide +kernel
theorem zd_M_found_78 : decode zb_M_found 78 = .ok (.iload_n 1, 1) := by decide +kernel
theorem zd_M_found_79 : decode zb_M_found 79 = .ok (.invokevirtual 219, 3) := by decide +kernel
theorem zd_M_found_82 : decode zb_M_found 82 = .ok (.ireturn, 1) := by decide +kernel

def zf_M_found (x1 : Int) (x2 : Int) (S : Sg) : Option (Int × Sg) :=
    zlt (zu S 9 0 0 4 0) fun S1 => zbd (zf_M_isLaw x1 S1) fun a2 S3 => if a2 = 0 then (some (-1, S3)) else (zck (0 ≤ x1 ∧ x1 < 12) <| zbd (zf_M_in x2 0 (S3 5 0 17 x1) S3) fun a6 S7 => if a6 = 0 then (some (-1, S7)) else (if (S7 5 0 19 x1) = 1 then (some (-3, S7)) else (zlt (zu S7 5 0 16 x1 x2) fun S10 => if (zw (2 * x2)) ≤ (S10 5 0 17 x1) then (zbd (zf_M_voided x1 S10) fun a12 S13 => some (a12, S13)) else (some (0, S10)))))
set_option maxHeartbeats 4000000 in
set_option maxRecDepth 100000 in
theorem zw_M_found {p : Program} {l : Launch} {e : Env} {s : State} {m : MethodId} {args : Array Value} {below : List Frame} {meth : Method} {c : Code} {B : zB} (C : CallFix p m c zb_M_found 3 s args zT "IslandOfficeModel") (hr : meth.sig.returnType = some .int) (hlk : meth.locks = false) (hK : zK B s) (hSt : zSt B s) (hap : zAp B) {res : Int} {S9 : Sg} : ∀ (x1 : Int) (x2 : Int) (S : Sg) (nx1 : zn x1) (nx2 : zn x2), zf_M_found x1 x2 S = some (res, S9) → ∀ (H : Heap) (locs : List Loc) (ls : Array Slot), zW B S H → va_S B.2.2.2 s.heap H locs → lv_has ls 3 [(0, .ref (B.2.1 9 (0) (0))), (1, .int (zI (x1))), (2, .int (zI (x2)))] → W p l e zm_M_found s m args below meth c H locs 0 0 (MQ below (zQi B res S9) args s 0 0 B.2.2.2) (F0 m 0 ls []) := by
  intro x1 x2 S nx1 nx2 hf H locs ls hW hS hl
  unfold zf_M_found at hf
  refine lv_aload_n C.1 C.2.1 zd_M_found_0 rfl (lv_at hl 0 rfl) ?_
  refine zr_iconst C zd_M_found_1 ?_
  obtain ⟨S1, eS1, hf⟩ := zlt_some hf
  refine zp_M_thrown (r := 0) C hK hap hW hS (zvd_9 (by decide) (by decide)) zk_1504 (znb rfl) zd_M_found_2 (fun H locs hW hS => ?_)
  rw [eS1] at hW
  refine lv_aload_n C.1 C.2.1 zd_M_found_5 rfl (lv_at hl 0 rfl) ?_
  refine lv_iload_n C.1 C.2.1 zd_M_found_6 rfl (lv_at hl 1 rfl) ?_
  obtain ⟨a2, S3, ea2, hf⟩ := zbd_some hf
  refine zcVi (As := [.int (zI (x1))]) (rest := []) C hK hSt hW hS (zc_M_isLaw hap x1 S1 nx1 ea2) zq_M_isLaw zk_1749 (zrecv hK hW (zvd_9 (by decide) (by decide)) (ze_9_0 B _ (0)) rfl) ⟨rfl, rfl, by decide, by decide⟩ ⟨Nat.zero_le _, Nat.zero_le _⟩ rfl hl.1 rfl (lv_room (Nat.le_of_ble_eq_true rfl)) zd_M_found_7 (fun na2 H locs hW hS => ?_)
  refine zr_if_eq (tgt := 30) C na2 zd_M_found_10 (by decide) (fun c4 => ?_) (fun c4 => ?_)
  · rw [if_pos c4] at hf
    refine zr_iconst C zd_M_found_30 ?_
    cases hf
    exact zre_i C hr hlk hK hW hS (znb rfl) zd_M_found_31
  · rw [if_neg c4] at hf
    refine lv_iload_n C.1 C.2.1 zd_M_found_13 rfl (lv_at hl 2 rfl) ?_
    refine zr_iconst C zd_M_found_14 ?_
    refine lv_aload_n C.1 C.2.1 zd_M_found_15 rfl (lv_at hl 0 rfl) ?_
    refine zg_M_world (r := 0) C hK hW (zvd_9 (by decide) (by decide)) zk_1500 zd_M_found_16 ?_
    refine zg_W_voters (r := 0) C hK hW (zvd_5 (by decide) (by decide)) zk_1318 zd_M_found_19 ?_
    refine lv_iload_n C.1 C.2.1 zd_M_found_22 rfl (lv_at hl 1 rfl) ?_
    obtain ⟨h5, hf⟩ := zck_some hf
    refine ziald C hK hW (zvd_5 (by decide) (by decide)) (fun f => ze_5_17 B f (0)) (by decide) h5 zd_M_found_23 ?_
    obtain ⟨a6, S7, ea6, hf⟩ := zbd_some hf
    refine zcSi (As := [.int (zI (x2)), .int (zI (0)), .int (zI (S3 5 0 17 x1))]) (rest := []) C hK hSt hW hS (zc_M_in hap x2 0 (S3 5 0 17 x1) S3 nx2 (znb rfl) (zWn hW _ _ _ _ rfl) ea6) zq_M_in zk_1558 ⟨rfl, rfl, by decide, by decide⟩ ⟨Nat.zero_le _, Nat.zero_le _⟩ rfl hl.1 rfl (lv_room (Nat.le_of_ble_eq_true rfl)) zd_M_found_24 (fun na6 H locs hW hS => ?_)
    refine zr_if_ne (tgt := 32) C na6 zd_M_found_27 (by decide) (fun c8 => ?_) (fun c8 => ?_)
    · rw [if_neg c8] at hf
      refine lv_aload_n C.1 C.2.1 zd_M_found_32 rfl (lv_at hl 0 rfl) ?_
      refine zg_M_world (r := 0) C hK hW (zvd_9 (by decide) (by decide)) zk_1500 zd_M_found_33 ?_
      refine zg_W_isVoid (r := 0) C hK hW (zvd_5 (by decide) (by decide)) zk_1322 zd_M_found_36 ?_
      refine lv_iload_n C.1 C.2.1 zd_M_found_39 rfl (lv_at hl 1 rfl) ?_
      refine ziald C hK hW (zvd_5 (by decide) (by decide)) (fun f => ze_5_19 B f (0)) (by decide) h5 zd_M_found_40 ?_
      refine zr_iconst C zd_M_found_41 ?_
      refine zr_icmp_ne (tgt := 48) C (zWn hW _ _ _ _ rfl) (znb rfl) zd_M_found_42 (by decide) (fun c9 => ?_) (fun c9 => ?_)
      · rw [if_neg c9] at hf
        refine lv_aload_n C.1 C.2.1 zd_M_found_48 rfl (lv_at hl 0 rfl) ?_
        refine zg_M_world (r := 0) C hK hW (zvd_9 (by decide) (by decide)) zk_1500 zd_M_found_49 ?_
        refine zg_W_votes (r := 0) C hK hW (zvd_5 (by decide) (by decide)) zk_1316 zd_M_found_52 ?_
        refine lv_iload_n C.1 C.2.1 zd_M_found_55 rfl (lv_at hl 1 rfl) ?_
        refine lv_iload_n C.1 C.2.1 zd_M_found_56 rfl (lv_at hl 2 rfl) ?_
        obtain ⟨S10, eS10, hf⟩ := zlt_some hf
        refine ziast C hK hap hW hS (zvd_5 (by decide) (by decide)) (fun f => ze_5_16 B f (0)) (by decide) rfl nx2 h5 zd_M_found_57 (fun H locs hW hS => ?_)
        rw [eS10] at hW
        refine zr_iconst C zd_M_found_58 ?_
        refine lv_iload_n C.1 C.2.1 zd_M_found_59 rfl (lv_at hl 2 rfl) ?_
        refine zr_imul C zd_M_found_60 ?_
        refine lv_aload_n C.1 C.2.1 zd_M_found_61 rfl (lv_at hl 0 rfl) ?_
        refine zg_M_world (r := 0) C hK hW (zvd_9 (by decide) (by decide)) zk_1500 zd_M_found_62 ?_
        refine zg_W_voters (r := 0) C hK hW (zvd_5 (by decide) (by decide)) zk_1318 zd_M_found_65 ?_
        refine lv_iload_n C.1 C.2.1 zd_M_found_68 rfl (lv_at hl 1 rfl) ?_
        refine ziald C hK hW (zvd_5 (by decide) (by decide)) (fun f => ze_5_17 B f (0)) (by decide) h5 zd_M_found_69 ?_
        refine zr_icmp_le (tgt := 77) C (zn_w _) (zWn hW _ _ _ _ rfl) zd_M_found_70 (by decide) (fun c11 => ?_) (fun c11 => ?_)
        · rw [if_pos c11] at hf
          refine lv_aload_n C.1 C.2.1 zd_M_found_77 rfl (lv_at hl 0 rfl) ?_
          refine lv_iload_n C.1 C.2.1 zd_M_found_78 rfl (lv_at hl 1 rfl) ?_
          obtain ⟨a12, S13, ea12, hf⟩ := zbd_some hf
          refine zcVi (As := [.int (zI (x1))]) (rest := []) C hK hSt hW hS (zc_M_voided hap x1 S10 nx1 ea12) zq_M_voided zk_1757 (zrecv hK hW (zvd_9 (by decide) (by decide)) (ze_9_0 B _ (0)) rfl) ⟨rfl, rfl, by decide, by decide⟩ ⟨Nat.zero_le _, Nat.zero_le _⟩ rfl hl.1 rfl (lv_room (Nat.le_of_ble_eq_true rfl)) zd_M_found_79 (fun na12 H locs hW hS => ?_)
          cases hf
          exact zre_i C hr hlk hK hW hS na12 zd_M_found_82
        · rw [if_neg c11] at hf
          refine zr_iconst C zd_M_found_73 ?_
          refine lv_goto (tgt := 82) C.1 C.2.1 zd_M_found_74 (by decide) ?_
          cases hf
          exact zre_i C hr hlk hK hW hS (znb rfl) zd_M_found_82
      · rw [if_pos c9] at hf
        refine zr_bipush C zd_M_found_45 (by decide) ?_
        cases hf
        exact zre_i C hr hlk hK hW hS (znb rfl) zd_M_found_47
    · rw [if_pos c8] at hf
      refine zr_iconst C zd_M_found_30 ?_
      cases hf
      exact zre_i C hr hlk hK hW hS (znb rfl) zd_M_found_31

theorem zc_M_found {l : Launch} {B : zB} (hap : zAp B) (x1 : Int) (x2 : Int) (S : Sg) (nx1 : zn x1) (nx2 : zn x2) {res : Int} {S9 : Sg} (hf : zf_M_found x1 x2 S = some (res, S9)) : Met l zy_M_found (Cond.code zy_M_found zb_M_found 3 (some .int) :: zT) zm_M_found (zP B S [.ref (B.2.1 9 (0) (0)), .int (zI (x1)), .int (zI (x2))]) (zQi B res S9) 0 0 B.2.2.2 :=
  zmet (by decide) (Nat.le_of_ble_eq_true rfl) (fun p e s m args below meth c C hr hlk hK hSt hW ls hl => zw_M_found C hr hlk hK hSt hap   x1 x2 S nx1 nx2 hf _ _ _ hW va_S.rf hl)
/-! IslandOfficeModel.force(II)I -/
abbrev zy_M_force : MethodName := ⟨"IslandOfficeModel", "force", "(II)I"⟩
abbrev zb_M_force : ByteArray := prog_14_method_37_code
abbrev zm_M_force : Room := { frames := 2, cells := 0, slots := 0, locals := 47 }
theorem zq_M_force : zMy zy_M_force zb_M_force 3 (some .int) 2 := ⟨zk_1764, zk_1762, zk_1763, zk_14, by decide, by decide, by decide +kernel⟩
theorem zd_M_force_0 : decode zb_M_force 0 = .ok (.aload_n 0, 1) := by decide +kernel
theorem zd_M_force_1 : decode zb_M_force 1 = .ok (.iconst 0, 1) := by decide +kernel
theorem zd_M_force_2 : decode zb_M_force 2 = .ok (.putfield 46, 3) := by decide +kernel
theorem zd_M_force_5 : decode zb_M_force 5 = .ok (.iload_n 1, 1) := by decide +kernel
theorem zd_M_force_6 : decode zb_M_force 6 = .ok (.iconst 0, 1) := by decide +kernel
theorem zd_M_force_7 : decode zb_M_force 7 = .ok (.iconst 3, 1) := by decide +kernel
theorem zd_M_force_8 : decode zb_M_force 8 = .ok (.invokestatic 53, 3) := by decide +kernel
theorem zd_M_force_11 : decode zb_M_force 11 = .ok (.ifCond .eq 26, 3) := by decide +kernel
theorem zd_M_force_14 : decode zb_M_force 14 = .ok (.iload_n 2, 1) := by decide +kernel
theorem zd_M_force_15 : decode zb_M_force 15 = .ok (.iconst 0, 1) := by decide +kernel
theorem zd_M_force_16 : decode zb_M_force 16 = .ok (.sipush 400, 3) := by decide +kernel
theorem zd_M_force_19 : decode zb_M_force 19 = .ok (.invokestatic 53, 3) := by decide +kernel
theorem zd_M_force_22 : decode zb_M_force 22 = .ok (.ifCond .eq 15, 3) := by decide +kernel
theorem zd_M_force_25 : decode zb_M_force 25 = .ok (.aload_n 0, 1) := by decide +kernel
theorem zd_M_force_26 : decode zb_M_force 26 = .ok (.getfield 10, 3) := by decide +kernel
theorem zd_M_force_29 : decode zb_M_force 29 = .ok (.iload_n 1, 1) := by decide +kernel
theorem zd_M_force_30 : decode zb_M_force 30 = .ok (.iload_n 2, 1) := by decide +kernel
theorem zd_M_force_31 : decode zb_M_force 31 = .ok (.invokevirtual 206, 3) := by decide +kernel
theorem zd_M_force_34 : decode zb_M_force 34 = .ok (.goto 4, 3) := by decide +kernel
theorem zd_M_force_37 : decode zb_M_force 37 = .ok (.iconst (-1), 1) := by decide +kernel
theorem zd_M_force_38 : decode zb_M_force 38 = .ok (.ireturn, 1) := by decide +kernel

def zf_M_force (x1 : Int) (x2 : Int) (S : Sg) : Option (Int × Sg) :=
    zlt (zu S 9 0 0 4 0) fun S1 => zbd (zf_M_in x1 0 3 S1) fun a2 S3 => if a2 = 0 then (some (-1, S3)) else (zbd (zf_M_in x2 0 400 S3) fun a5 S6 => if a5 = 0 then (some (-1, S6)) else (zbd (zf_W_force (0) x1 x2 S6) fun a8 S9 => some (a8, S9)))
set_option maxHeartbeats 4000000 in
set_option maxRecDepth 100000 in
theorem zw_M_force {p : Program} {l : Launch} {e : Env} {s : State} {m : MethodId} {args : Array Value} {below : List Frame} {meth : Method} {c : Code} {B : zB} (C : CallFix p m c zb_M_force 3 s args zT "IslandOfficeModel") (hr : meth.sig.returnType = some .int) (hlk : meth.locks = false) (hK : zK B s) (hSt : zSt B s) (hap : zAp B) {res : Int} {S9 : Sg} : ∀ (x1 : Int) (x2 : Int) (S : Sg) (nx1 : zn x1) (nx2 : zn x2), zf_M_force x1 x2 S = some (res, S9) → ∀ (H : Heap) (locs : List Loc) (ls : Array Slot), zW B S H → va_S B.2.2.2 s.heap H locs → lv_has ls 3 [(0, .ref (B.2.1 9 (0) (0))), (1, .int (zI (x1))), (2, .int (zI (x2)))] → W p l e zm_M_force s m args below meth c H locs 0 0 (MQ below (zQi B res S9) args s 0 0 B.2.2.2) (F0 m 0 ls []) := by
  intro x1 x2 S nx1 nx2 hf H locs ls hW hS hl
  unfold zf_M_force at hf
  refine lv_aload_n C.1 C.2.1 zd_M_force_0 rfl (lv_at hl 0 rfl) ?_
  refine zr_iconst C zd_M_force_1 ?_
  obtain ⟨S1, eS1, hf⟩ := zlt_some hf
  refine zp_M_thrown (r := 0) C hK hap hW hS (zvd_9 (by decide) (by decide)) zk_1504 (znb rfl) zd_M_force_2 (fun H locs hW hS => ?_)
  rw [eS1] at hW
  refine lv_iload_n C.1 C.2.1 zd_M_force_5 rfl (lv_at hl 1 rfl) ?_
  refine zr_iconst C zd_M_force_6 ?_
  refine zr_iconst C zd_M_force_7 ?_
  obtain ⟨a2, S3, ea2, hf⟩ := zbd_some hf
  refine zcSi (As := [.int (zI (x1)), .int (zI (0)), .int (zI (3))]) (rest := []) C hK hSt hW hS (zc_M_in hap x1 0 3 S1 nx1 (znb rfl) (znb rfl) ea2) zq_M_in zk_1558 ⟨rfl, rfl, by decide, by decide⟩ ⟨Nat.zero_le _, Nat.zero_le _⟩ rfl hl.1 rfl (lv_room (Nat.le_of_ble_eq_true rfl)) zd_M_force_8 (fun na2 H locs hW hS => ?_)
  refine zr_if_eq (tgt := 37) C na2 zd_M_force_11 (by decide) (fun c4 => ?_) (fun c4 => ?_)
  · rw [if_pos c4] at hf
    refine zr_iconst C zd_M_force_37 ?_
    cases hf
    exact zre_i C hr hlk hK hW hS (znb rfl) zd_M_force_38
  · rw [if_neg c4] at hf
    refine lv_iload_n C.1 C.2.1 zd_M_force_14 rfl (lv_at hl 2 rfl) ?_
    refine zr_iconst C zd_M_force_15 ?_
    refine zr_sipush C zd_M_force_16 (by decide) ?_
    obtain ⟨a5, S6, ea5, hf⟩ := zbd_some hf
    refine zcSi (As := [.int (zI (x2)), .int (zI (0)), .int (zI (400))]) (rest := []) C hK hSt hW hS (zc_M_in hap x2 0 400 S3 nx2 (znb rfl) (znb rfl) ea5) zq_M_in zk_1558 ⟨rfl, rfl, by decide, by decide⟩ ⟨Nat.zero_le _, Nat.zero_le _⟩ rfl hl.1 rfl (lv_room (Nat.le_of_ble_eq_true rfl)) zd_M_force_19 (fun na5 H locs hW hS => ?_)
    refine zr_if_eq (tgt := 37) C na5 zd_M_force_22 (by decide) (fun c7 => ?_) (fun c7 => ?_)
    · rw [if_pos c7] at hf
      refine zr_iconst C zd_M_force_37 ?_
      cases hf
      exact zre_i C hr hlk hK hW hS (znb rfl) zd_M_force_38
    · rw [if_neg c7] at hf
      refine lv_aload_n C.1 C.2.1 zd_M_force_25 rfl (lv_at hl 0 rfl) ?_
      refine zg_M_world (r := 0) C hK hW (zvd_9 (by decide) (by decide)) zk_1500 zd_M_force_26 ?_
      refine lv_iload_n C.1 C.2.1 zd_M_force_29 rfl (lv_at hl 1 rfl) ?_
      refine lv_iload_n C.1 C.2.1 zd_M_force_30 rfl (lv_at hl 2 rfl) ?_
      obtain ⟨a8, S9, ea8, hf⟩ := zbd_some hf
      refine zcVi (As := [.int (zI (x1)), .int (zI (x2))]) (rest := []) C hK hSt hW hS (zc_W_force hap (0) (by decide) x1 x2 S6 nx1 nx2 ea8) zq_W_force zk_1744 (zrecv hK hW (zvd_5 (by decide) (by decide)) (ze_5_0 B _ (0)) rfl) ⟨rfl, rfl, by decide, by decide⟩ ⟨Nat.zero_le _, Nat.zero_le _⟩ rfl hl.1 rfl (lv_room (Nat.le_of_ble_eq_true rfl)) zd_M_force_31 (fun na8 H locs hW hS => ?_)
      refine lv_goto (tgt := 38) C.1 C.2.1 zd_M_force_34 (by decide) ?_
      cases hf
      exact zre_i C hr hlk hK hW hS na8 zd_M_force_38

theorem zc_M_force {l : Launch} {B : zB} (hap : zAp B) (x1 : Int) (x2 : Int) (S : Sg) (nx1 : zn x1) (nx2 : zn x2) {res : Int} {S9 : Sg} (hf : zf_M_force x1 x2 S = some (res, S9)) : Met l zy_M_force (Cond.code zy_M_force zb_M_force 3 (some .int) :: zT) zm_M_force (zP B S [.ref (B.2.1 9 (0) (0)), .int (zI (x1)), .int (zI (x2))]) (zQi B res S9) 0 0 B.2.2.2 :=
  zmet (by decide) (Nat.le_of_ble_eq_true rfl) (fun p e s m args below meth c C hr hlk hK hSt hW ls hl => zw_M_force C hr hlk hK hSt hap   x1 x2 S nx1 nx2 hf _ _ _ hW va_S.rf hl)
/-! IslandOfficeModel.may(II)I -/
abbrev zy_M_may : MethodName := ⟨"IslandOfficeModel", "may", "(II)I"⟩
abbrev zb_M_may : ByteArray := prog_14_method_38_code
abbrev zm_M_may : Room := { frames := 394, cells := 0, slots := 0, locals := 8539 }
theorem zq_M_may : zMy zy_M_may zb_M_may 3 (some .int) 2 := ⟨zk_1768, zk_1766, zk_1767, zk_14, by decide, by decide, by decide +kernel⟩
theorem zd_M_may_0 : decode zb_M_may 0 = .ok (.aload_n 0, 1) := by decide +kernel
theorem zd_M_may_1 : decode zb_M_may 1 = .ok (.iconst 0, 1) := by decide +kernel
theorem zd_M_may_2 : decode zb_M_may 2 = .ok (.putfield 46, 3) := by decide +kernel
theorem zd_M_may_5 : decode zb_M_may 5 = .ok (.aload_n 0, 1) := by decide +kernel
theorem zd_M_may_6 : decode zb_M_may 6 = .ok (.iload_n 1, 1) := by decide +kernel
theorem zd_M_may_7 : decode zb_M_may 7 = .ok (.invokevirtual 97, 3) := by decide +kernel
theorem zd_M_may_10 : decode zb_M_may 10 = .ok (.ifCond .eq 12, 3) := by decide +kernel
theorem zd_M_may_13 : decode zb_M_may 13 = .ok (.iload_n 2, 1) := by decide +kernel
theorem zd_M_may_14 : decode zb_M_may 14 = .ok (.iconst 0, 1) := by decide +kernel
theorem zd_M_may_15 : decode zb_M_may 15 = .ok (.iconst 3, 1) := by decide +kernel
theorem zd_M_may_16 : decode zb_M_may 16 = .ok (.invokestatic 53, 3) := by decide +kernel
theorem zd_M_may_19 : decode zb_M_may 19 = .ok (.ifCond .ne 5, 3) := by decide +kernel
theorem zd_M_may_22 : decode zb_M_may 22 = .ok (.iconst (-1), 1) := by decide +kernel
theorem zd_M_may_23 : decode zb_M_may 23 = .ok (.ireturn, 1) := by decide +kernel
theorem zd_M_may_24 : decode zb_M_may 24 = .ok (.aload_n 0, 1) := by decide +kernel
theorem zd_M_may_25 : decode zb_M_may 25 = .ok (.getfield 10, 3) := by decide +kernel
theorem zd_M_may_28 : decode zb_M_may 28 = .ok (.iload_n 1, 1) := by decide +kernel
theorem zd_M_may_29 : decode zb_M_may 29 = .ok (.invokevirtual 111, 3) := by decide +kernel
theorem zd_M_may_32 : decode zb_M_may 32 = .ok (.ifCond .ne 8, 3) := by decide +kernel
theorem zd_M_may_35 : decode zb_M_may 35 = .ok (.bipush (-3), 2) := by decide +kernel
theorem zd_M_may_37 : decode zb_M_may 37 = .ok (.goto 20, 3) := by decide +kernel
theorem zd_M_may_40 : decode zb_M_may 40 = .ok (.aload_n 0, 1) := by decide +kernel
theorem zd_M_may_41 : decode zb_M_may 41 = .ok (.getfield 10, 3) := by decide +kernel
theorem zd_M_may_44 : decode zb_M_may 44 = .ok (.iload_n 1, 1) := by decide +kernel
theorem zd_M_may_45 : decode zb_M_may 45 = .ok (.iload_n 2, 1) := by decide +kernel
theorem zd_M_may_46 : decode zb_M_may 46 = .ok (.invokevirtual 222, 3) := by decide +kernel
theorem zd_M_may_49 : decode zb_M_may 49 = .ok (.ifCond .eq 7, 3) := by decide +kernel
theorem zd_M_may_52 : decode zb_M_may 52 = .ok (.iconst 1, 1) := by decide +kernel
theorem zd_M_may_53 : decode zb_M_may 53 = .ok (.goto 4, 3) := by decide +kernel
theorem zd_M_may_56 : decode zb_M_may 56 = .ok (.iconst 0, 1) := by decide +kernel
theorem zd_M_may_57 : decode zb_M_may 57 = .ok (.ireturn, 1) := by decide +kernel

def zf_M_may (x1 : Int) (x2 : Int) (S : Sg) : Option (Int × Sg) :=
    zlt (zu S 9 0 0 4 0) fun S1 => zbd (zf_M_isPerson x1 S1) fun a2 S3 => if a2 = 0 then (some (-1, S3)) else (zbd (zf_M_in x2 0 3 S3) fun a5 S6 => if a5 = 0 then (some (-1, S6)) else (zbd (zf_W_here (0) x1 S6) fun a8 S9 => if a8 = 0 then (some (-3, S9)) else (zbd (zf_W_may (0) x1 x2 S9) fun a11 S12 => if a11 = 0 then (some (0, S12)) else (some (1, S12)))))
set_option maxHeartbeats 4000000 in
set_option maxRecDepth 100000 in
theorem zw_M_may {p : Program} {l : Launch} {e : Env} {s : State} {m : MethodId} {args : Array Value} {below : List Frame} {meth : Method} {c : Code} {B : zB} (C : CallFix p m c zb_M_may 3 s args zT "IslandOfficeModel") (hr : meth.sig.returnType = some .int) (hlk : meth.locks = false) (hK : zK B s) (hSt : zSt B s) (hap : zAp B) {res : Int} {S9 : Sg} : ∀ (x1 : Int) (x2 : Int) (S : Sg) (nx1 : zn x1) (nx2 : zn x2), zf_M_may x1 x2 S = some (res, S9) → ∀ (H : Heap) (locs : List Loc) (ls : Array Slot), zW B S H → va_S B.2.2.2 s.heap H locs → lv_has ls 3 [(0, .ref (B.2.1 9 (0) (0))), (1, .int (zI (x1))), (2, .int (zI (x2)))] → W p l e zm_M_may s m args below meth c H locs 0 0 (MQ below (zQi B res S9) args s 0 0 B.2.2.2) (F0 m 0 ls []) := by
  intro x1 x2 S nx1 nx2 hf H locs ls hW hS hl
  unfold zf_M_may at hf
  refine lv_aload_n C.1 C.2.1 zd_M_may_0 rfl (lv_at hl 0 rfl) ?_
  refine zr_iconst C zd_M_may_1 ?_
  obtain ⟨S1, eS1, hf⟩ := zlt_some hf
  refine zp_M_thrown (r := 0) C hK hap hW hS (zvd_9 (by decide) (by decide)) zk_1504 (znb rfl) zd_M_may_2 (fun H locs hW hS => ?_)
  rw [eS1] at hW
  refine lv_aload_n C.1 C.2.1 zd_M_may_5 rfl (lv_at hl 0 rfl) ?_
  refine lv_iload_n C.1 C.2.1 zd_M_may_6 rfl (lv_at hl 1 rfl) ?_
  obtain ⟨a2, S3, ea2, hf⟩ := zbd_some hf
  refine zcVi (As := [.int (zI (x1))]) (rest := []) C hK hSt hW hS (zc_M_isPerson hap x1 S1 nx1 ea2) zq_M_isPerson zk_1564 (zrecv hK hW (zvd_9 (by decide) (by decide)) (ze_9_0 B _ (0)) rfl) ⟨rfl, rfl, by decide, by decide⟩ ⟨Nat.zero_le _, Nat.zero_le _⟩ rfl hl.1 rfl (lv_room (Nat.le_of_ble_eq_true rfl)) zd_M_may_7 (fun na2 H locs hW hS => ?_)
  refine zr_if_eq (tgt := 22) C na2 zd_M_may_10 (by decide) (fun c4 => ?_) (fun c4 => ?_)
  · rw [if_pos c4] at hf
    refine zr_iconst C zd_M_may_22 ?_
    cases hf
    exact zre_i C hr hlk hK hW hS (znb rfl) zd_M_may_23
  · rw [if_neg c4] at hf
    refine lv_iload_n C.1 C.2.1 zd_M_may_13 rfl (lv_at hl 2 rfl) ?_
    refine zr_iconst C zd_M_may_14 ?_
    refine zr_iconst C zd_M_may_15 ?_
    obtain ⟨a5, S6, ea5, hf⟩ := zbd_some hf
    refine zcSi (As := [.int (zI (x2)), .int (zI (0)), .int (zI (3))]) (rest := []) C hK hSt hW hS (zc_M_in hap x2 0 3 S3 nx2 (znb rfl) (znb rfl) ea5) zq_M_in zk_1558 ⟨rfl, rfl, by decide, by decide⟩ ⟨Nat.zero_le _, Nat.zero_le _⟩ rfl hl.1 rfl (lv_room (Nat.le_of_ble_eq_true rfl)) zd_M_may_16 (fun na5 H locs hW hS => ?_)
    refine zr_if_ne (tgt := 24) C na5 zd_M_may_19 (by decide) (fun c7 => ?_) (fun c7 => ?_)
    · rw [if_neg c7] at hf
      refine lv_aload_n C.1 C.2.1 zd_M_may_24 rfl (lv_at hl 0 rfl) ?_
      refine zg_M_world (r := 0) C hK hW (zvd_9 (by decide) (by decide)) zk_1500 zd_M_may_25 ?_
      refine lv_iload_n C.1 C.2.1 zd_M_may_28 rfl (lv_at hl 1 rfl) ?_
      obtain ⟨a8, S9, ea8, hf⟩ := zbd_some hf
      refine zcVi (As := [.int (zI (x1))]) (rest := []) C hK hSt hW hS (zc_W_here hap (0) (by decide) x1 S6 nx1 ea8) zq_W_here zk_1605 (zrecv hK hW (zvd_5 (by decide) (by decide)) (ze_5_0 B _ (0)) rfl) ⟨rfl, rfl, by decide, by decide⟩ ⟨Nat.zero_le _, Nat.zero_le _⟩ rfl hl.1 rfl (lv_room (Nat.le_of_ble_eq_true rfl)) zd_M_may_29 (fun na8 H locs hW hS => ?_)
      refine zr_if_ne (tgt := 40) C na8 zd_M_may_32 (by decide) (fun c10 => ?_) (fun c10 => ?_)
      · rw [if_neg c10] at hf
        refine lv_aload_n C.1 C.2.1 zd_M_may_40 rfl (lv_at hl 0 rfl) ?_
        refine zg_M_world (r := 0) C hK hW (zvd_9 (by decide) (by decide)) zk_1500 zd_M_may_41 ?_
        refine lv_iload_n C.1 C.2.1 zd_M_may_44 rfl (lv_at hl 1 rfl) ?_
        refine lv_iload_n C.1 C.2.1 zd_M_may_45 rfl (lv_at hl 2 rfl) ?_
        obtain ⟨a11, S12, ea11, hf⟩ := zbd_some hf
        refine zcVi (As := [.int (zI (x1)), .int (zI (x2))]) (rest := []) C hK hSt hW hS (zc_W_may hap (0) (by decide) x1 x2 S9 nx1 nx2 ea11) zq_W_may zk_1769 (zrecv hK hW (zvd_5 (by decide) (by decide)) (ze_5_0 B _ (0)) rfl) ⟨rfl, rfl, by decide, by decide⟩ ⟨Nat.zero_le _, Nat.zero_le _⟩ rfl hl.1 rfl (lv_room (Nat.le_of_ble_eq_true rfl)) zd_M_may_46 (fun na11 H locs hW hS => ?_)
        refine zr_if_eq (tgt := 56) C na11 zd_M_may_49 (by decide) (fun c13 => ?_) (fun c13 => ?_)
        · rw [if_pos c13] at hf
          refine zr_iconst C zd_M_may_56 ?_
          cases hf
          exact zre_i C hr hlk hK hW hS (znb rfl) zd_M_may_57
        · rw [if_neg c13] at hf
          refine zr_iconst C zd_M_may_52 ?_
          refine lv_goto (tgt := 57) C.1 C.2.1 zd_M_may_53 (by decide) ?_
          cases hf
          exact zre_i C hr hlk hK hW hS (znb rfl) zd_M_may_57
      · rw [if_pos c10] at hf
        refine zr_bipush C zd_M_may_35 (by decide) ?_
        refine lv_goto (tgt := 57) C.1 C.2.1 zd_M_may_37 (by decide) ?_
        cases hf
        exact zre_i C hr hlk hK hW hS (znb rfl) zd_M_may_57
    · rw [if_pos c7] at hf
      refine zr_iconst C zd_M_may_22 ?_
      cases hf
      exact zre_i C hr hlk hK hW hS (znb rfl) zd_M_may_23

theorem zc_M_may {l : Launch} {B : zB} (hap : zAp B) (x1 : Int) (x2 : Int) (S : Sg) (nx1 : zn x1) (nx2 : zn x2) {res : Int} {S9 : Sg} (hf : zf_M_may x1 x2 S = some (res, S9)) : Met l zy_M_may (Cond.code zy_M_may zb_M_may 3 (some .int) :: zT) zm_M_may (zP B S [.ref (B.2.1 9 (0) (0)), .int (zI (x1)), .int (zI (x2))]) (zQi B res S9) 0 0 B.2.2.2 :=
  zmet (by decide) (Nat.le_of_ble_eq_true rfl) (fun p e s m args below meth c C hr hlk hK hSt hW ls hl => zw_M_may C hr hlk hK hSt hap   x1 x2 S nx1 nx2 hf _ _ _ hW va_S.rf hl)
/-! IslandOfficeModel.law(II)I -/
abbrev zy_M_law : MethodName := ⟨"IslandOfficeModel", "law", "(II)I"⟩
abbrev zb_M_law : ByteArray := prog_14_method_39_code
abbrev zm_M_law : Room := { frames := 2, cells := 0, slots := 0, locals := 43 }
theorem zq_M_law : zMy zy_M_law zb_M_law 3 (some .int) 2 := ⟨zk_1773, zk_1771, zk_1772, zk_14, by decide, by decide, by decide +kernel⟩
theorem zd_M_law_0 : decode zb_M_law 0 = .ok (.aload_n 0, 1) := by decide +kernel
theorem zd_M_law_1 : decode zb_M_law 1 = .ok (.iconst 0, 1) := by decide +kernel
theorem zd_M_law_2 : decode zb_M_law 2 = .ok (.putfield 46, 3) := by decide +kernel
theorem zd_M_law_5 : decode zb_M_law 5 = .ok (.aload_n 0, 1) := by decide +kernel
theorem zd_M_law_6 : decode zb_M_law 6 = .ok (.iload_n 1, 1) := by decide +kernel
theorem zd_M_law_7 : decode zb_M_law 7 = .ok (.invokevirtual 216, 3) := by decide +kernel
theorem zd_M_law_10 : decode zb_M_law 10 = .ok (.ifCond .ne 5, 3) := by decide +kernel
theorem zd_M_law_13 : decode zb_M_law 13 = .ok (.iconst (-1), 1) := by decide +kernel
theorem zd_M_law_14 : decode zb_M_law 14 = .ok (.ireturn, 1) := by decide +kernel
theorem zd_M_law_15 : decode zb_M_law 15 = .ok (.iload_n 2, 1) := by decide +kernel
theorem zd_M_law_16 : decode zb_M_law 16 = .ok (.tableswitch 99 0 5 #[40, 49, 59, 69, 79, 89], 40) := by decide +kernel
theorem zd_M_law_56 : decode zb_M_law 56 = .ok (.aload_n 0, 1) := by decide +kernel
theorem zd_M_law_57 : decode zb_M_law 57 = .ok (.getfield 10, 3) := by decide +kernel
theorem zd_M_law_60 : decode zb_M_law 60 = .ok (.iload_n 1, 1) := by decide +kernel
theorem zd_M_law_61 : decode zb_M_law 61 = .ok (.invokevirtual 226, 3) := by decide +kernel
theorem zd_M_law_64 : decode zb_M_law 64 = .ok (.ireturn, 1) := by decide +kernel
theorem zd_M_law_65 : decode zb_M_law 65 = .ok (.aload_n 0, 1) := by decide +kernel
theorem zd_M_law_66 : decode zb_M_law 66 = .ok (.getfield 10, 3) := by decide +kernel
theorem zd_M_law_69 : decode zb_M_law 69 = .ok (.getfield 194, 3) := by decide +kernel
theorem zd_M_law_72 : decode zb_M_law 72 = .ok (.iload_n 1, 1) := by decide +kernel
theorem zd_M_law_73 : decode zb_M_law 73 = .ok (.iaload, 1) := by decide +kernel
theorem zd_M_law_74 : decode zb_M_law 74 = .ok (.ireturn, 1) := by decide +kernel
theorem zd_M_law_75 : decode zb_M_law 75 = .ok (.aload_n 0, 1) := by decide +kernel
theorem zd_M_law_76 : decode zb_M_law 76 = .ok (.getfield 10, 3) := by decide +kernel
theorem zd_M_law_79 : decode zb_M_law 79 = .ok (.getfield 197, 3) := by decide +kernel
theorem zd_M_law_82 : decode zb_M_law 82 = .ok (.iload_n 1, 1) := by decide +kernel
theorem zd_M_law_83 : decode zb_M_law 83 = .ok (.iaload, 1) := by decide +kernel
theorem zd_M_law_84 : decode zb_M_law 84 = .ok (.ireturn, 1) := by decide +kernel
theorem zd_M_law_85 : decode zb_M_law 85 = .ok (.aload_n 0, 1) := by decide +kernel
theorem zd_M_law_86 : decode zb_M_law 86 = .ok (.getfield 10, 3) := by decide +kernel
theorem zd_M_law_89 : decode zb_M_law 89 = .ok (.getfield 200, 3) := by decide +kernel
theorem zd_M_law_92 : decode zb_M_law 92 = .ok (.iload_n 1, 1) := by decide +kernel
theorem zd_M_law_93 : decode zb_M_law 93 = .ok (.iaload, 1) := by decide +kernel
theorem zd_M_law_94 : decode zb_M_law 94 = .ok (.ireturn, 1) := by decide +kernel
theorem zd_M_law_95 : decode zb_M_law 95 = .ok (.aload_n 0, 1) := by decide +kernel
theorem zd_M_law_96 : decode zb_M_law 96 = .ok (.getfield 10, 3) := by decide +kernel
theorem zd_M_law_99 : decode zb_M_law 99 = .ok (.getfield 210, 3) := by decide +kernel
theorem zd_M_law_102 : decode zb_M_law 102 = .ok (.iload_n 1, 1) := by decide +kernel
theorem zd_M_law_103 : decode zb_M_law 103 = .ok (.iaload, 1) := by decide +kernel
theorem zd_M_law_104 : decode zb_M_law 104 = .ok (.ireturn, 1) := by decide +kernel
theorem zd_M_law_105 : decode zb_M_law 105 = .ok (.aload_n 0, 1) := by decide +kernel
theorem zd_M_law_106 : decode zb_M_law 106 = .ok (.getfield 10, 3) := by decide +kernel
theorem zd_M_law_109 : decode zb_M_law 109 = .ok (.getfield 213, 3) := by decide +kernel
theorem zd_M_law_112 : decode zb_M_law 112 = .ok (.iload_n 1, 1) := by decide +kernel
theorem zd_M_law_113 : decode zb_M_law 113 = .ok (.iaload, 1) := by decide +kernel
theorem zd_M_law_114 : decode zb_M_law 114 = .ok (.ireturn, 1) := by decide +kernel
theorem zd_M_law_115 : decode zb_M_law 115 = .ok (.iconst (-1), 1) := by decide +kernel
theorem zd_M_law_116 : decode zb_M_law 116 = .ok (.ireturn, 1) := by decide +kernel

def zf_M_law (x1 : Int) (x2 : Int) (S : Sg) : Option (Int × Sg) :=
    zlt (zu S 9 0 0 4 0) fun S1 => zbd (zf_M_isLaw x1 S1) fun a2 S3 => if a2 = 0 then (some (-1, S3)) else (if x2 = 0 then (zbd (zf_W_subject (0) x1 S3) fun a6 S7 => some (a6, S7)) else (if x2 = 1 then (zck (0 ≤ x1 ∧ x1 < 12) <| some (S3 5 0 15 x1, S3)) else (if x2 = 2 then (zck (0 ≤ x1 ∧ x1 < 12) <| some (S3 5 0 16 x1, S3)) else (if x2 = 3 then (zck (0 ≤ x1 ∧ x1 < 12) <| some (S3 5 0 17 x1, S3)) else (if x2 = 4 then (zck (0 ≤ x1 ∧ x1 < 12) <| some (S3 5 0 19 x1, S3)) else (if x2 = 5 then (zck (0 ≤ x1 ∧ x1 < 12) <| some (S3 5 0 20 x1, S3)) else (some (-1, S3))))))))
set_option maxHeartbeats 4000000 in
set_option maxRecDepth 100000 in
theorem zw_M_law {p : Program} {l : Launch} {e : Env} {s : State} {m : MethodId} {args : Array Value} {below : List Frame} {meth : Method} {c : Code} {B : zB} (C : CallFix p m c zb_M_law 3 s args zT "IslandOfficeModel") (hr : meth.sig.returnType = some .int) (hlk : meth.locks = false) (hK : zK B s) (hSt : zSt B s) (hap : zAp B) {res : Int} {S9 : Sg} : ∀ (x1 : Int) (x2 : Int) (S : Sg) (nx1 : zn x1) (nx2 : zn x2), zf_M_law x1 x2 S = some (res, S9) → ∀ (H : Heap) (locs : List Loc) (ls : Array Slot), zW B S H → va_S B.2.2.2 s.heap H locs → lv_has ls 3 [(0, .ref (B.2.1 9 (0) (0))), (1, .int (zI (x1))), (2, .int (zI (x2)))] → W p l e zm_M_law s m args below meth c H locs 0 0 (MQ below (zQi B res S9) args s 0 0 B.2.2.2) (F0 m 0 ls []) := by
  intro x1 x2 S nx1 nx2 hf H locs ls hW hS hl
  unfold zf_M_law at hf
  refine lv_aload_n C.1 C.2.1 zd_M_law_0 rfl (lv_at hl 0 rfl) ?_
  refine zr_iconst C zd_M_law_1 ?_
  obtain ⟨S1, eS1, hf⟩ := zlt_some hf
  refine zp_M_thrown (r := 0) C hK hap hW hS (zvd_9 (by decide) (by decide)) zk_1504 (znb rfl) zd_M_law_2 (fun H locs hW hS => ?_)
  rw [eS1] at hW
  refine lv_aload_n C.1 C.2.1 zd_M_law_5 rfl (lv_at hl 0 rfl) ?_
  refine lv_iload_n C.1 C.2.1 zd_M_law_6 rfl (lv_at hl 1 rfl) ?_
  obtain ⟨a2, S3, ea2, hf⟩ := zbd_some hf
  refine zcVi (As := [.int (zI (x1))]) (rest := []) C hK hSt hW hS (zc_M_isLaw hap x1 S1 nx1 ea2) zq_M_isLaw zk_1749 (zrecv hK hW (zvd_9 (by decide) (by decide)) (ze_9_0 B _ (0)) rfl) ⟨rfl, rfl, by decide, by decide⟩ ⟨Nat.zero_le _, Nat.zero_le _⟩ rfl hl.1 rfl (lv_room (Nat.le_of_ble_eq_true rfl)) zd_M_law_7 (fun na2 H locs hW hS => ?_)
  refine zr_if_ne (tgt := 15) C na2 zd_M_law_10 (by decide) (fun c4 => ?_) (fun c4 => ?_)
  · rw [if_neg c4] at hf
    refine lv_iload_n C.1 C.2.1 zd_M_law_15 rfl (lv_at hl 2 rfl) ?_
    by_cases c5 : x2 = 0
    · rw [if_pos c5] at hf
      refine zr_tab (off := 40) (tgt := 56) C nx2 zd_M_law_16 (by omega) (by omega) (by rw [c5]; rfl) (by decide) ?_
      refine lv_aload_n C.1 C.2.1 zd_M_law_56 rfl (lv_at hl 0 rfl) ?_
      refine zg_M_world (r := 0) C hK hW (zvd_9 (by decide) (by decide)) zk_1500 zd_M_law_57 ?_
      refine lv_iload_n C.1 C.2.1 zd_M_law_60 rfl (lv_at hl 1 rfl) ?_
      obtain ⟨a6, S7, ea6, hf⟩ := zbd_some hf
      refine zcVi (As := [.int (zI (x1))]) (rest := []) C hK hSt hW hS (zc_W_subject hap (0) (by decide) x1 S3 nx1 ea6) zq_W_subject zk_1774 (zrecv hK hW (zvd_5 (by decide) (by decide)) (ze_5_0 B _ (0)) rfl) ⟨rfl, rfl, by decide, by decide⟩ ⟨Nat.zero_le _, Nat.zero_le _⟩ rfl hl.1 rfl (lv_room (Nat.le_of_ble_eq_true rfl)) zd_M_law_61 (fun na6 H locs hW hS => ?_)
      cases hf
      exact zre_i C hr hlk hK hW hS na6 zd_M_law_64
    rw [if_neg c5] at hf
    by_cases c8 : x2 = 1
    · rw [if_pos c8] at hf
      refine zr_tab (off := 49) (tgt := 65) C nx2 zd_M_law_16 (by omega) (by omega) (by rw [c8]; rfl) (by decide) ?_
      refine lv_aload_n C.1 C.2.1 zd_M_law_65 rfl (lv_at hl 0 rfl) ?_
      refine zg_M_world (r := 0) C hK hW (zvd_9 (by decide) (by decide)) zk_1500 zd_M_law_66 ?_
      refine zg_W_from (r := 0) C hK hW (zvd_5 (by decide) (by decide)) zk_1314 zd_M_law_69 ?_
      refine lv_iload_n C.1 C.2.1 zd_M_law_72 rfl (lv_at hl 1 rfl) ?_
      obtain ⟨h9, hf⟩ := zck_some hf
      refine ziald C hK hW (zvd_5 (by decide) (by decide)) (fun f => ze_5_15 B f (0)) (by decide) h9 zd_M_law_73 ?_
      cases hf
      exact zre_i C hr hlk hK hW hS (zWn hW _ _ _ _ rfl) zd_M_law_74
    rw [if_neg c8] at hf
    by_cases c10 : x2 = 2
    · rw [if_pos c10] at hf
      refine zr_tab (off := 59) (tgt := 75) C nx2 zd_M_law_16 (by omega) (by omega) (by rw [c10]; rfl) (by decide) ?_
      refine lv_aload_n C.1 C.2.1 zd_M_law_75 rfl (lv_at hl 0 rfl) ?_
      refine zg_M_world (r := 0) C hK hW (zvd_9 (by decide) (by decide)) zk_1500 zd_M_law_76 ?_
      refine zg_W_votes (r := 0) C hK hW (zvd_5 (by decide) (by decide)) zk_1316 zd_M_law_79 ?_
      refine lv_iload_n C.1 C.2.1 zd_M_law_82 rfl (lv_at hl 1 rfl) ?_
      obtain ⟨h11, hf⟩ := zck_some hf
      refine ziald C hK hW (zvd_5 (by decide) (by decide)) (fun f => ze_5_16 B f (0)) (by decide) h11 zd_M_law_83 ?_
      cases hf
      exact zre_i C hr hlk hK hW hS (zWn hW _ _ _ _ rfl) zd_M_law_84
    rw [if_neg c10] at hf
    by_cases c12 : x2 = 3
    · rw [if_pos c12] at hf
      refine zr_tab (off := 69) (tgt := 85) C nx2 zd_M_law_16 (by omega) (by omega) (by rw [c12]; rfl) (by decide) ?_
      refine lv_aload_n C.1 C.2.1 zd_M_law_85 rfl (lv_at hl 0 rfl) ?_
      refine zg_M_world (r := 0) C hK hW (zvd_9 (by decide) (by decide)) zk_1500 zd_M_law_86 ?_
      refine zg_W_voters (r := 0) C hK hW (zvd_5 (by decide) (by decide)) zk_1318 zd_M_law_89 ?_
      refine lv_iload_n C.1 C.2.1 zd_M_law_92 rfl (lv_at hl 1 rfl) ?_
      obtain ⟨h13, hf⟩ := zck_some hf
      refine ziald C hK hW (zvd_5 (by decide) (by decide)) (fun f => ze_5_17 B f (0)) (by decide) h13 zd_M_law_93 ?_
      cases hf
      exact zre_i C hr hlk hK hW hS (zWn hW _ _ _ _ rfl) zd_M_law_94
    rw [if_neg c12] at hf
    by_cases c14 : x2 = 4
    · rw [if_pos c14] at hf
      refine zr_tab (off := 79) (tgt := 95) C nx2 zd_M_law_16 (by omega) (by omega) (by rw [c14]; rfl) (by decide) ?_
      refine lv_aload_n C.1 C.2.1 zd_M_law_95 rfl (lv_at hl 0 rfl) ?_
      refine zg_M_world (r := 0) C hK hW (zvd_9 (by decide) (by decide)) zk_1500 zd_M_law_96 ?_
      refine zg_W_isVoid (r := 0) C hK hW (zvd_5 (by decide) (by decide)) zk_1322 zd_M_law_99 ?_
      refine lv_iload_n C.1 C.2.1 zd_M_law_102 rfl (lv_at hl 1 rfl) ?_
      obtain ⟨h15, hf⟩ := zck_some hf
      refine ziald C hK hW (zvd_5 (by decide) (by decide)) (fun f => ze_5_19 B f (0)) (by decide) h15 zd_M_law_103 ?_
      cases hf
      exact zre_i C hr hlk hK hW hS (zWn hW _ _ _ _ rfl) zd_M_law_104
    rw [if_neg c14] at hf
    by_cases c16 : x2 = 5
    · rw [if_pos c16] at hf
      refine zr_tab (off := 89) (tgt := 105) C nx2 zd_M_law_16 (by omega) (by omega) (by rw [c16]; rfl) (by decide) ?_
      refine lv_aload_n C.1 C.2.1 zd_M_law_105 rfl (lv_at hl 0 rfl) ?_
      refine zg_M_world (r := 0) C hK hW (zvd_9 (by decide) (by decide)) zk_1500 zd_M_law_106 ?_
      refine zg_W_repealed (r := 0) C hK hW (zvd_5 (by decide) (by decide)) zk_1324 zd_M_law_109 ?_
      refine lv_iload_n C.1 C.2.1 zd_M_law_112 rfl (lv_at hl 1 rfl) ?_
      obtain ⟨h17, hf⟩ := zck_some hf
      refine ziald C hK hW (zvd_5 (by decide) (by decide)) (fun f => ze_5_20 B f (0)) (by decide) h17 zd_M_law_113 ?_
      cases hf
      exact zre_i C hr hlk hK hW hS (zWn hW _ _ _ _ rfl) zd_M_law_114
    rw [if_neg c16] at hf
    refine zr_tabo (tgt := 115) C nx2 zd_M_law_16 (by omega) (by decide) ?_
    refine zr_iconst C zd_M_law_115 ?_
    cases hf
    exact zre_i C hr hlk hK hW hS (znb rfl) zd_M_law_116
  · rw [if_pos c4] at hf
    refine zr_iconst C zd_M_law_13 ?_
    cases hf
    exact zre_i C hr hlk hK hW hS (znb rfl) zd_M_law_14

theorem zc_M_law {l : Launch} {B : zB} (hap : zAp B) (x1 : Int) (x2 : Int) (S : Sg) (nx1 : zn x1) (nx2 : zn x2) {res : Int} {S9 : Sg} (hf : zf_M_law x1 x2 S = some (res, S9)) : Met l zy_M_law (Cond.code zy_M_law zb_M_law 3 (some .int) :: zT) zm_M_law (zP B S [.ref (B.2.1 9 (0) (0)), .int (zI (x1)), .int (zI (x2))]) (zQi B res S9) 0 0 B.2.2.2 :=
  zmet (by decide) (Nat.le_of_ble_eq_true rfl) (fun p e s m args below meth c C hr hlk hK hSt hW ls hl => zw_M_law C hr hlk hK hSt hap   x1 x2 S nx1 nx2 hf _ _ _ hW va_S.rf hl)
/-! IslandOfficeModel.post(III)I -/
abbrev zy_M_post : MethodName := ⟨"IslandOfficeModel", "post", "(III)I"⟩
abbrev zb_M_post : ByteArray := prog_14_method_40_code
abbrev zm_M_post : Room := { frames := 1, cells := 0, slots := 0, locals := 22 }
theorem zq_M_post : zMy zy_M_post zb_M_post 5 (some .int) 3 := ⟨zk_1778, zk_1776, zk_1777, zk_14, by decide, by decide, by decide +kernel⟩
theorem zd_M_post_0 : decode zb_M_post 0 = .ok (.aload_n 0, 1) := by decide +kernel
theorem zd_M_post_1 : decode zb_M_post 1 = .ok (.iconst 0, 1) := by decide +kernel
theorem zd_M_post_2 : decode zb_M_post 2 = .ok (.putfield 46, 3) := by decide +kernel
theorem zd_M_post_5 : decode zb_M_post 5 = .ok (.iload_n 1, 1) := by decide +kernel
theorem zd_M_post_6 : decode zb_M_post 6 = .ok (.iconst 0, 1) := by decide +kernel
theorem zd_M_post_7 : decode zb_M_post 7 = .ok (.bipush 7, 2) := by decide +kernel
theorem zd_M_post_9 : decode zb_M_post 9 = .ok (.invokestatic 53, 3) := by decide +kernel
theorem zd_M_post_12 : decode zb_M_post 12 = .ok (.ifCond .eq 21, 3) := by decide +kernel
theorem zd_M_post_15 : decode zb_M_post 15 = .ok (.iload_n 2, 1) := by decide +kernel
theorem zd_M_post_16 : decode zb_M_post 16 = .ok (.iconst 1, 1) := by decide +kernel
theorem zd_M_post_17 : decode zb_M_post 17 = .ok (.iconst 3, 1) := by decide +kernel
theorem zd_M_post_18 : decode zb_M_post 18 = .ok (.invokestatic 53, 3) := by decide +kernel
theorem zd_M_post_21 : decode zb_M_post 21 = .ok (.ifCond .eq 12, 3) := by decide +kernel
theorem zd_M_post_24 : decode zb_M_post 24 = .ok (.iload_n 3, 1) := by decide +kernel
theorem zd_M_post_25 : decode zb_M_post 25 = .ok (.iconst 0, 1) := by decide +kernel
theorem zd_M_post_26 : decode zb_M_post 26 = .ok (.iconst 3, 1) := by decide +kernel
theorem zd_M_post_27 : decode zb_M_post 27 = .ok (.invokestatic 53, 3) := by decide +kernel
theorem zd_M_post_30 : decode zb_M_post 30 = .ok (.ifCond .ne 5, 3) := by decide +kernel
theorem zd_M_post_33 : decode zb_M_post 33 = .ok (.iconst (-1), 1) := by decide +kernel
theorem zd_M_post_34 : decode zb_M_post 34 = .ok (.ireturn, 1) := by decide +kernel
theorem zd_M_post_35 : decode zb_M_post 35 = .ok (.aload_n 0, 1) := by decide +kernel
theorem zd_M_post_36 : decode zb_M_post 36 = .ok (.getfield 10, 3) := by decide +kernel
theorem zd_M_post_39 : decode zb_M_post 39 = .ok (.getfield 229, 3) := by decide +kernel
theorem zd_M_post_42 : decode zb_M_post 42 = .ok (.bipush 8, 2) := by decide +kernel
theorem zd_M_post_44 : decode zb_M_post 44 = .ok (.if_icmp .ne 6, 3) := by decide +kernel
theorem zd_M_post_47 : decode zb_M_post 47 = .ok (.bipush (-2), 2) := by decide +kernel
theorem zd_M_post_49 : decode zb_M_post 49 = .ok (.ireturn, 1) := by decide +kernel
theorem zd_M_post_50 : decode zb_M_post 50 = .ok (.aload_n 0, 1) := by decide +kernel
theorem zd_M_post_51 : decode zb_M_post 51 = .ok (.getfield 10, 3) := by decide +kernel
theorem zd_M_post_54 : decode zb_M_post 54 = .ok (.dup, 1) := by decide +kernel
theorem zd_M_post_55 : decode zb_M_post 55 = .ok (.getfield 229, 3) := by decide +kernel
theorem zd_M_post_58 : decode zb_M_post 58 = .ok (.dup_x1, 1) := by decide +kernel
theorem zd_M_post_59 : decode zb_M_post 59 = .ok (.iconst 1, 1) := by decide +kernel
theorem zd_M_post_60 : decode zb_M_post 60 = .ok (.iadd, 1) := by decide +kernel
theorem zd_M_post_61 : decode zb_M_post 61 = .ok (.putfield 229, 3) := by decide +kernel
theorem zd_M_post_64 : decode zb_M_post 64 = .ok (.istore 4, 2) := by decide +kernel
theorem zd_M_post_66 : decode zb_M_post 66 = .ok (.aload_n 0, 1) := by decide +kernel
theorem zd_M_post_67 : decode zb_M_post 67 = .ok (.getfield 10, 3) := by decide +kernel
theorem zd_M_post_70 : decode zb_M_post 70 = .ok (.getfield 232, 3) := by decide +kernel
theorem zd_M_post_73 : decode zb_M_post 73 = .ok (.iload 4, 2) := by decide +kernel
theorem zd_M_post_75 : decode zb_M_post 75 = .ok (.iload_n 1, 1) := by decide +kernel
theorem zd_M_post_76 : decode zb_M_post 76 = .ok (.iastore, 1) := by decide +kernel
theorem zd_M_post_77 : decode zb_M_post 77 = .ok (.aload_n 0, 1) := by decide +kernel
theorem zd_M_post_78 : decode zb_M_post 78 = .ok (.getfield 10, 3) := by decide +kernel
theorem zd_M_post_81 : decode zb_M_post 81 = .ok (.getfield 235, 3) := by decide +kernel
theorem zd_M_post_84 : decode zb_M_post 84 = .ok (.iload 4, 2) := by decide +kernel
theorem zd_M_post_86 : decode zb_M_post 86 = .ok (.iload_n 2, 1) := by decide +kernel
theorem zd_M_post_87 : decode zb_M_post 87 = .ok (.iastore, 1) := by decide +kernel
theorem zd_M_post_88 : decode zb_M_post 88 = .ok (.aload_n 0, 1) := by decide +kernel
theorem zd_M_post_89 : decode zb_M_post 89 = .ok (.getfield 10, 3) := by decide +kernel
theorem zd_M_post_92 : decode zb_M_post 92 = .ok (.getfield 238, 3) := by decide +kernel
theorem zd_M_post_95 : decode zb_M_post 95 = .ok (.iload 4, 2) := by decide +kernel
theorem zd_M_post_97 : decode zb_M_post 97 = .ok (.iload_n 3, 1) := by decide +kernel
theorem zd_M_post_98 : decode zb_M_post 98 = .ok (.iastore, 1) := by decide +kernel
theorem zd_M_post_99 : decode zb_M_post 99 = .ok (.aload_n 0, 1) := by decide +kernel
theorem zd_M_post_100 : decode zb_M_post 100 = .ok (.getfield 10, 3) := by decide +kernel
theorem zd_M_post_103 : decode zb_M_post 103 = .ok (.getfield 241, 3) := by decide +kernel
theorem zd_M_post_106 : decode zb_M_post 106 = .ok (.iload 4, 2) := by decide +kernel
theorem zd_M_post_108 : decode zb_M_post 108 = .ok (.iconst 1, 1) := by decide +kernel
theorem zd_M_post_109 : decode zb_M_post 109 = .ok (.iastore, 1) := by decide +kernel
theorem zd_M_post_110 : decode zb_M_post 110 = .ok (.iload 4, 2) := by decide +kernel
theorem zd_M_post_112 : decode zb_M_post 112 = .ok (.ireturn, 1) := by decide +kernel

def zf_M_post (x1 : Int) (x2 : Int) (x3 : Int) (S : Sg) : Option (Int × Sg) :=
    zlt (zu S 9 0 0 4 0) fun S1 => zbd (zf_M_in x1 0 7 S1) fun a2 S3 => if a2 = 0 then (some (-1, S3)) else (zbd (zf_M_in x2 1 3 S3) fun a5 S6 => if a5 = 0 then (some (-1, S6)) else (zbd (zf_M_in x3 0 3 S6) fun a8 S9 => if a8 = 0 then (some (-1, S9)) else (if (S9 5 0 0 25) = 8 then (some (-2, S9)) else (zlt (zu S9 5 0 0 25 (zw ((S9 5 0 0 25) + 1))) fun S12 => zlt (S9 5 0 0 25) fun v14 => zck (0 ≤ v14 ∧ v14 < 8) <| zlt (zu S12 5 0 21 v14 x1) fun S16 => zlt (zu S16 5 0 22 v14 x2) fun S17 => zlt (zu S17 5 0 23 v14 x3) fun S18 => zlt (zu S18 5 0 24 v14 1) fun S19 => some (v14, S19)))))
set_option maxHeartbeats 4000000 in
set_option maxRecDepth 100000 in
theorem zw_M_post {p : Program} {l : Launch} {e : Env} {s : State} {m : MethodId} {args : Array Value} {below : List Frame} {meth : Method} {c : Code} {B : zB} (C : CallFix p m c zb_M_post 5 s args zT "IslandOfficeModel") (hr : meth.sig.returnType = some .int) (hlk : meth.locks = false) (hK : zK B s) (hSt : zSt B s) (hap : zAp B) {res : Int} {S9 : Sg} : ∀ (x1 : Int) (x2 : Int) (x3 : Int) (S : Sg) (nx1 : zn x1) (nx2 : zn x2) (nx3 : zn x3), zf_M_post x1 x2 x3 S = some (res, S9) → ∀ (H : Heap) (locs : List Loc) (ls : Array Slot), zW B S H → va_S B.2.2.2 s.heap H locs → lv_has ls 5 [(0, .ref (B.2.1 9 (0) (0))), (1, .int (zI (x1))), (2, .int (zI (x2))), (3, .int (zI (x3)))] → W p l e zm_M_post s m args below meth c H locs 0 0 (MQ below (zQi B res S9) args s 0 0 B.2.2.2) (F0 m 0 ls []) := by
  intro x1 x2 x3 S nx1 nx2 nx3 hf H locs ls hW hS hl
  unfold zf_M_post at hf
  refine lv_aload_n C.1 C.2.1 zd_M_post_0 rfl (lv_at hl 0 rfl) ?_
  refine zr_iconst C zd_M_post_1 ?_
  obtain ⟨S1, eS1, hf⟩ := zlt_some hf
  refine zp_M_thrown (r := 0) C hK hap hW hS (zvd_9 (by decide) (by decide)) zk_1504 (znb rfl) zd_M_post_2 (fun H locs hW hS => ?_)
  rw [eS1] at hW
  refine lv_iload_n C.1 C.2.1 zd_M_post_5 rfl (lv_at hl 1 rfl) ?_
  refine zr_iconst C zd_M_post_6 ?_
  refine zr_bipush C zd_M_post_7 (by decide) ?_
  obtain ⟨a2, S3, ea2, hf⟩ := zbd_some hf
  refine zcSi (As := [.int (zI (x1)), .int (zI (0)), .int (zI (7))]) (rest := []) C hK hSt hW hS (zc_M_in hap x1 0 7 S1 nx1 (znb rfl) (znb rfl) ea2) zq_M_in zk_1558 ⟨rfl, rfl, by decide, by decide⟩ ⟨Nat.zero_le _, Nat.zero_le _⟩ rfl hl.1 rfl (lv_room (Nat.le_of_ble_eq_true rfl)) zd_M_post_9 (fun na2 H locs hW hS => ?_)
  refine zr_if_eq (tgt := 33) C na2 zd_M_post_12 (by decide) (fun c4 => ?_) (fun c4 => ?_)
  · rw [if_pos c4] at hf
    refine zr_iconst C zd_M_post_33 ?_
    cases hf
    exact zre_i C hr hlk hK hW hS (znb rfl) zd_M_post_34
  · rw [if_neg c4] at hf
    refine lv_iload_n C.1 C.2.1 zd_M_post_15 rfl (lv_at hl 2 rfl) ?_
    refine zr_iconst C zd_M_post_16 ?_
    refine zr_iconst C zd_M_post_17 ?_
    obtain ⟨a5, S6, ea5, hf⟩ := zbd_some hf
    refine zcSi (As := [.int (zI (x2)), .int (zI (1)), .int (zI (3))]) (rest := []) C hK hSt hW hS (zc_M_in hap x2 1 3 S3 nx2 (znb rfl) (znb rfl) ea5) zq_M_in zk_1558 ⟨rfl, rfl, by decide, by decide⟩ ⟨Nat.zero_le _, Nat.zero_le _⟩ rfl hl.1 rfl (lv_room (Nat.le_of_ble_eq_true rfl)) zd_M_post_18 (fun na5 H locs hW hS => ?_)
    refine zr_if_eq (tgt := 33) C na5 zd_M_post_21 (by decide) (fun c7 => ?_) (fun c7 => ?_)
    · rw [if_pos c7] at hf
      refine zr_iconst C zd_M_post_33 ?_
      cases hf
      exact zre_i C hr hlk hK hW hS (znb rfl) zd_M_post_34
    · rw [if_neg c7] at hf
      refine lv_iload_n C.1 C.2.1 zd_M_post_24 rfl (lv_at hl 3 rfl) ?_
      refine zr_iconst C zd_M_post_25 ?_
      refine zr_iconst C zd_M_post_26 ?_
      obtain ⟨a8, S9, ea8, hf⟩ := zbd_some hf
      refine zcSi (As := [.int (zI (x3)), .int (zI (0)), .int (zI (3))]) (rest := []) C hK hSt hW hS (zc_M_in hap x3 0 3 S6 nx3 (znb rfl) (znb rfl) ea8) zq_M_in zk_1558 ⟨rfl, rfl, by decide, by decide⟩ ⟨Nat.zero_le _, Nat.zero_le _⟩ rfl hl.1 rfl (lv_room (Nat.le_of_ble_eq_true rfl)) zd_M_post_27 (fun na8 H locs hW hS => ?_)
      refine zr_if_ne (tgt := 35) C na8 zd_M_post_30 (by decide) (fun c10 => ?_) (fun c10 => ?_)
      · rw [if_neg c10] at hf
        refine lv_aload_n C.1 C.2.1 zd_M_post_35 rfl (lv_at hl 0 rfl) ?_
        refine zg_M_world (r := 0) C hK hW (zvd_9 (by decide) (by decide)) zk_1500 zd_M_post_36 ?_
        refine zg_W_posts (r := 0) C hK hW (zvd_5 (by decide) (by decide)) zk_1326 zd_M_post_39 ?_
        refine zr_bipush C zd_M_post_42 (by decide) ?_
        refine zr_icmp_ne (tgt := 50) C (zWn hW _ _ _ _ rfl) (znb rfl) zd_M_post_44 (by decide) (fun c11 => ?_) (fun c11 => ?_)
        · rw [if_neg c11] at hf
          refine lv_aload_n C.1 C.2.1 zd_M_post_50 rfl (lv_at hl 0 rfl) ?_
          refine zg_M_world (r := 0) C hK hW (zvd_9 (by decide) (by decide)) zk_1500 zd_M_post_51 ?_
          refine lv_dup C.1 C.2.1 zd_M_post_54 rfl ?_
          refine zg_W_posts (r := 0) C hK hW (zvd_5 (by decide) (by decide)) zk_1326 zd_M_post_55 ?_
          refine lv_dup_x1 C.1 C.2.1 zd_M_post_58 rfl rfl ?_
          refine zr_iconst C zd_M_post_59 ?_
          refine zr_iadd C zd_M_post_60 ?_
          have w13 : zn (S9 5 0 0 25) := (zWn hW _ _ _ _ rfl)
          obtain ⟨S12, eS12, hf⟩ := zlt_some hf
          refine zp_W_posts (r := 0) C hK hap hW hS (zvd_5 (by decide) (by decide)) zk_1326 (zn_w _) zd_M_post_61 (fun H locs hW hS => ?_)
          rw [eS12] at hW
          obtain ⟨v14, ev14, hf⟩ := zlt_some hf
          have nv14 : zn v14 := by rw [← ev14]; exact w13
          rw [ev14]
          refine lv_istore (lv' := [(4, .int (zI (v14))), (0, .ref (B.2.1 9 (0) (0))), (1, .int (zI (x1))), (2, .int (zI (x2))), (3, .int (zI (x3)))]) C.1 C.2.1 zd_M_post_64 hl (by decide) rfl (fun ls hl => ?_)
          refine lv_aload_n C.1 C.2.1 zd_M_post_66 rfl (lv_at hl 1 rfl) ?_
          refine zg_M_world (r := 0) C hK hW (zvd_9 (by decide) (by decide)) zk_1500 zd_M_post_67 ?_
          refine zg_W_postSkill (r := 0) C hK hW (zvd_5 (by decide) (by decide)) zk_1328 zd_M_post_70 ?_
          refine lv_iload C.1 C.2.1 zd_M_post_73 (lv_at hl 0 rfl) ?_
          refine lv_iload_n C.1 C.2.1 zd_M_post_75 rfl (lv_at hl 2 rfl) ?_
          obtain ⟨h15, hf⟩ := zck_some hf
          obtain ⟨S16, eS16, hf⟩ := zlt_some hf
          refine ziast C hK hap hW hS (zvd_5 (by decide) (by decide)) (fun f => ze_5_21 B f (0)) (by decide) rfl nx1 h15 zd_M_post_76 (fun H locs hW hS => ?_)
          rw [eS16] at hW
          refine lv_aload_n C.1 C.2.1 zd_M_post_77 rfl (lv_at hl 1 rfl) ?_
          refine zg_M_world (r := 0) C hK hW (zvd_9 (by decide) (by decide)) zk_1500 zd_M_post_78 ?_
          refine zg_W_postHands (r := 0) C hK hW (zvd_5 (by decide) (by decide)) zk_1330 zd_M_post_81 ?_
          refine lv_iload C.1 C.2.1 zd_M_post_84 (lv_at hl 0 rfl) ?_
          refine lv_iload_n C.1 C.2.1 zd_M_post_86 rfl (lv_at hl 3 rfl) ?_
          obtain ⟨S17, eS17, hf⟩ := zlt_some hf
          refine ziast C hK hap hW hS (zvd_5 (by decide) (by decide)) (fun f => ze_5_22 B f (0)) (by decide) rfl nx2 h15 zd_M_post_87 (fun H locs hW hS => ?_)
          rw [eS17] at hW
          refine lv_aload_n C.1 C.2.1 zd_M_post_88 rfl (lv_at hl 1 rfl) ?_
          refine zg_M_world (r := 0) C hK hW (zvd_9 (by decide) (by decide)) zk_1500 zd_M_post_89 ?_
          refine zg_W_postSort (r := 0) C hK hW (zvd_5 (by decide) (by decide)) zk_1332 zd_M_post_92 ?_
          refine lv_iload C.1 C.2.1 zd_M_post_95 (lv_at hl 0 rfl) ?_
          refine lv_iload_n C.1 C.2.1 zd_M_post_97 rfl (lv_at hl 4 rfl) ?_
          obtain ⟨S18, eS18, hf⟩ := zlt_some hf
          refine ziast C hK hap hW hS (zvd_5 (by decide) (by decide)) (fun f => ze_5_23 B f (0)) (by decide) rfl nx3 h15 zd_M_post_98 (fun H locs hW hS => ?_)
          rw [eS18] at hW
          refine lv_aload_n C.1 C.2.1 zd_M_post_99 rfl (lv_at hl 1 rfl) ?_
          refine zg_M_world (r := 0) C hK hW (zvd_9 (by decide) (by decide)) zk_1500 zd_M_post_100 ?_
          refine zg_W_postOpen (r := 0) C hK hW (zvd_5 (by decide) (by decide)) zk_1334 zd_M_post_103 ?_
          refine lv_iload C.1 C.2.1 zd_M_post_106 (lv_at hl 0 rfl) ?_
          refine zr_iconst C zd_M_post_108 ?_
          obtain ⟨S19, eS19, hf⟩ := zlt_some hf
          refine ziast C hK hap hW hS (zvd_5 (by decide) (by decide)) (fun f => ze_5_24 B f (0)) (by decide) rfl (znb rfl) h15 zd_M_post_109 (fun H locs hW hS => ?_)
          rw [eS19] at hW
          refine lv_iload C.1 C.2.1 zd_M_post_110 (lv_at hl 0 rfl) ?_
          cases hf
          exact zre_i C hr hlk hK hW hS nv14 zd_M_post_112
        · rw [if_pos c11] at hf
          refine zr_bipush C zd_M_post_47 (by decide) ?_
          cases hf
          exact zre_i C hr hlk hK hW hS (znb rfl) zd_M_post_49
      · rw [if_pos c10] at hf
        refine zr_iconst C zd_M_post_33 ?_
        cases hf
        exact zre_i C hr hlk hK hW hS (znb rfl) zd_M_post_34

theorem zc_M_post {l : Launch} {B : zB} (hap : zAp B) (x1 : Int) (x2 : Int) (x3 : Int) (S : Sg) (nx1 : zn x1) (nx2 : zn x2) (nx3 : zn x3) {res : Int} {S9 : Sg} (hf : zf_M_post x1 x2 x3 S = some (res, S9)) : Met l zy_M_post (Cond.code zy_M_post zb_M_post 5 (some .int) :: zT) zm_M_post (zP B S [.ref (B.2.1 9 (0) (0)), .int (zI (x1)), .int (zI (x2)), .int (zI (x3))]) (zQi B res S9) 0 0 B.2.2.2 :=
  zmet (by decide) (Nat.le_of_ble_eq_true rfl) (fun p e s m args below meth c C hr hlk hK hSt hW ls hl => zw_M_post C hr hlk hK hSt hap   x1 x2 x3 S nx1 nx2 nx3 hf _ _ _ hW va_S.rf hl)
/-! IslandOfficeModel.isPost(I)Z -/
abbrev zy_M_isPost : MethodName := ⟨"IslandOfficeModel", "isPost", "(I)Z"⟩
abbrev zb_M_isPost : ByteArray := prog_14_method_41_code
abbrev zm_M_isPost : Room := { frames := 1, cells := 0, slots := 0, locals := 22 }
theorem zq_M_isPost : zMy zy_M_isPost zb_M_isPost 2 (some .boolean) 1 := ⟨zk_1786, zk_1785, zs_64, zk_14, by decide, by decide, by decide +kernel⟩
theorem zd_M_isPost_0 : decode zb_M_isPost 0 = .ok (.iload_n 1, 1) := by decide +kernel
theorem zd_M_isPost_1 : decode zb_M_isPost 1 = .ok (.iconst 0, 1) := by decide +kernel
theorem zd_M_isPost_2 : decode zb_M_isPost 2 = .ok (.aload_n 0, 1) := by decide +kernel
theorem zd_M_isPost_3 : decode zb_M_isPost 3 = .ok (.getfield 10, 3) := by decide +kernel
theorem zd_M_isPost_6 : decode zb_M_isPost 6 = .ok (.getfield 229, 3) := by decide +kernel
theorem zd_M_isPost_9 : decode zb_M_isPost 9 = .ok (.iconst 1, 1) := by decide +kernel
theorem zd_M_isPost_10 : decode zb_M_isPost 10 = .ok (.isub, 1) := by decide +kernel
theorem zd_M_isPost_11 : decode zb_M_isPost 11 = .ok (.invokestatic 53, 3) := by decide +kernel
theorem zd_M_isPost_14 : decode zb_M_isPost 14 = .ok (.ireturn, 1) := by decide +kernel

def zf_M_isPost (x1 : Int) (S : Sg) : Option (Int × Sg) :=
    zbd (zf_M_in x1 0 (zw ((S 5 0 0 25) - 1)) S) fun a1 S2 => zck (a1 = 0 ∨ a1 = 1) <| some (a1, S2)
set_option maxHeartbeats 4000000 in
set_option maxRecDepth 100000 in
theorem zw_M_isPost {p : Program} {l : Launch} {e : Env} {s : State} {m : MethodId} {args : Array Value} {below : List Frame} {meth : Method} {c : Code} {B : zB} (C : CallFix p m c zb_M_isPost 2 s args zT "IslandOfficeModel") (hr : meth.sig.returnType = some .boolean) (hlk : meth.locks = false) (hK : zK B s) (hSt : zSt B s) (hap : zAp B) {res : Int} {S9 : Sg} : ∀ (x1 : Int) (S : Sg) (nx1 : zn x1), zf_M_isPost x1 S = some (res, S9) → ∀ (H : Heap) (locs : List Loc) (ls : Array Slot), zW B S H → va_S B.2.2.2 s.heap H locs → lv_has ls 2 [(0, .ref (B.2.1 9 (0) (0))), (1, .int (zI (x1)))] → W p l e zm_M_isPost s m args below meth c H locs 0 0 (MQ below (zQi B res S9) args s 0 0 B.2.2.2) (F0 m 0 ls []) := by
  intro x1 S nx1 hf H locs ls hW hS hl
  unfold zf_M_isPost at hf
  refine lv_iload_n C.1 C.2.1 zd_M_isPost_0 rfl (lv_at hl 1 rfl) ?_
  refine zr_iconst C zd_M_isPost_1 ?_
  refine lv_aload_n C.1 C.2.1 zd_M_isPost_2 rfl (lv_at hl 0 rfl) ?_
  refine zg_M_world (r := 0) C hK hW (zvd_9 (by decide) (by decide)) zk_1500 zd_M_isPost_3 ?_
  refine zg_W_posts (r := 0) C hK hW (zvd_5 (by decide) (by decide)) zk_1326 zd_M_isPost_6 ?_
  refine zr_iconst C zd_M_isPost_9 ?_
  refine zr_isub C zd_M_isPost_10 ?_
  obtain ⟨a1, S2, ea1, hf⟩ := zbd_some hf
  refine zcSi (As := [.int (zI (x1)), .int (zI (0)), .int (zI (zw ((S 5 0 0 25) - 1)))]) (rest := []) C hK hSt hW hS (zc_M_in hap x1 0 (zw ((S 5 0 0 25) - 1)) S nx1 (znb rfl) (zn_w _) ea1) zq_M_in zk_1558 ⟨rfl, rfl, by decide, by decide⟩ ⟨Nat.zero_le _, Nat.zero_le _⟩ rfl hl.1 rfl (lv_room (Nat.le_of_ble_eq_true rfl)) zd_M_isPost_11 (fun na1 H locs hW hS => ?_)
  obtain ⟨h3, hf⟩ := zck_some hf
  cases hf
  exact zre_z C hr hlk hK hW hS na1 (zb01 h3) zd_M_isPost_14

theorem zc_M_isPost {l : Launch} {B : zB} (hap : zAp B) (x1 : Int) (S : Sg) (nx1 : zn x1) {res : Int} {S9 : Sg} (hf : zf_M_isPost x1 S = some (res, S9)) : Met l zy_M_isPost (Cond.code zy_M_isPost zb_M_isPost 2 (some .boolean) :: zT) zm_M_isPost (zP B S [.ref (B.2.1 9 (0) (0)), .int (zI (x1))]) (zQi B res S9) 0 0 B.2.2.2 :=
  zmet (by decide) (Nat.le_of_ble_eq_true rfl) (fun p e s m args below meth c C hr hlk hK hSt hW ls hl => zw_M_isPost C hr hlk hK hSt hap   x1 S nx1 hf _ _ _ hW va_S.rf hl)
/-! IslandOfficeModel.open(IZ)I -/
abbrev zy_M_open : MethodName := ⟨"IslandOfficeModel", "open", "(IZ)I"⟩
abbrev zb_M_open : ByteArray := prog_14_method_42_code
abbrev zm_M_open : Room := { frames := 2, cells := 0, slots := 0, locals := 43 }
theorem zq_M_open : zMy zy_M_open zb_M_open 4 (some .int) 2 := ⟨zk_1782, zk_1780, zk_1781, zk_14, by decide, by decide, by decide +kernel⟩
theorem zd_M_open_0 : decode zb_M_open 0 = .ok (.aload_n 0, 1) := by decide +kernel
theorem zd_M_open_1 : decode zb_M_open 1 = .ok (.iconst 0, 1) := by decide +kernel
theorem zd_M_open_2 : decode zb_M_open 2 = .ok (.putfield 46, 3) := by decide +kernel
theorem zd_M_open_5 : decode zb_M_open 5 = .ok (.aload_n 0, 1) := by decide +kernel
theorem zd_M_open_6 : decode zb_M_open 6 = .ok (.iload_n 1, 1) := by decide +kernel
theorem zd_M_open_7 : decode zb_M_open 7 = .ok (.invokevirtual 244, 3) := by decide +kernel
theorem zd_M_open_10 : decode zb_M_open 10 = .ok (.ifCond .ne 5, 3) := by decide +kernel
theorem zd_M_open_13 : decode zb_M_open 13 = .ok (.iconst (-1), 1) := by decide +kernel
theorem zd_M_open_14 : decode zb_M_open 14 = .ok (.ireturn, 1) := by decide +kernel
theorem zd_M_open_15 : decode zb_M_open 15 = .ok (.aload_n 0, 1) := by decide +kernel
theorem zd_M_open_16 : decode zb_M_open 16 = .ok (.getfield 10, 3) := by decide +kernel
theorem zd_M_open_19 : decode zb_M_open 19 = .ok (.getfield 241, 3) := by decide +kernel
theorem zd_M_open_22 : decode zb_M_open 22 = .ok (.iload_n 1, 1) := by decide +kernel
theorem zd_M_open_23 : decode zb_M_open 23 = .ok (.iaload, 1) := by decide +kernel
theorem zd_M_open_24 : decode zb_M_open 24 = .ok (.iconst 1, 1) := by decide +kernel
theorem zd_M_open_25 : decode zb_M_open 25 = .ok (.if_icmp .ne 7, 3) := by decide +kernel
theorem zd_M_open_28 : decode zb_M_open 28 = .ok (.iconst 1, 1) := by decide +kernel
theorem zd_M_open_29 : decode zb_M_open 29 = .ok (.goto 4, 3) := by decide +kernel
theorem zd_M_open_32 : decode zb_M_open 32 = .ok (.iconst 0, 1) := by decide +kernel
theorem zd_M_open_33 : decode zb_M_open 33 = .ok (.istore_n 3, 1) := by decide +kernel
theorem zd_M_open_34 : decode zb_M_open 34 = .ok (.aload_n 0, 1) := by decide +kernel
theorem zd_M_open_35 : decode zb_M_open 35 = .ok (.getfield 10, 3) := by decide +kernel
theorem zd_M_open_38 : decode zb_M_open 38 = .ok (.getfield 241, 3) := by decide +kernel
theorem zd_M_open_41 : decode zb_M_open 41 = .ok (.iload_n 1, 1) := by decide +kernel
theorem zd_M_open_42 : decode zb_M_open 42 = .ok (.iload_n 2, 1) := by decide +kernel
theorem zd_M_open_43 : decode zb_M_open 43 = .ok (.ifCond .eq 7, 3) := by decide +kernel
theorem zd_M_open_46 : decode zb_M_open 46 = .ok (.iconst 1, 1) := by decide +kernel
theorem zd_M_open_47 : decode zb_M_open 47 = .ok (.goto 4, 3) := by decide +kernel
theorem zd_M_open_50 : decode zb_M_open 50 = .ok (.iconst 0, 1) := by decide +kernel
theorem zd_M_open_51 : decode zb_M_open 51 = .ok (.iastore, 1) := by decide +kernel
theorem zd_M_open_52 : decode zb_M_open 52 = .ok (.iload_n 3, 1) := by decide +kernel
theorem zd_M_open_53 : decode zb_M_open 53 = .ok (.iload_n 2, 1) := by decide +kernel
theorem zd_M_open_54 : decode zb_M_open 54 = .ok (.if_icmp .eq 7, 3) := by decide +kernel
theorem zd_M_open_57 : decode zb_M_open 57 = .ok (.iconst 1, 1) := by decide +kernel
theorem zd_M_open_58 : decode zb_M_open 58 = .ok (.goto 4, 3) := by decide +kernel
theorem zd_M_open_61 : decode zb_M_open 61 = .ok (.iconst 0, 1) := by decide +kernel
theorem zd_M_open_62 : decode zb_M_open 62 = .ok (.ireturn, 1) := by decide +kernel

def zf_M_open_51 (x2 : Int) (x3 : Int) (xt1 : Int) (xt2 : Int) (S : Sg) : Option (Int × Sg) :=
    zck (0 ≤ xt1 ∧ xt1 < 8) <| zlt (zu S 5 0 24 xt1 xt2) fun S2 => if x3 = x2 then (some (0, S2)) else (some (1, S2))
set_option maxHeartbeats 4000000 in
set_option maxRecDepth 100000 in
theorem zw_M_open_51 {p : Program} {l : Launch} {e : Env} {s : State} {m : MethodId} {args : Array Value} {below : List Frame} {meth : Method} {c : Code} {B : zB} (C : CallFix p m c zb_M_open 4 s args zT "IslandOfficeModel") (hr : meth.sig.returnType = some .int) (hlk : meth.locks = false) (hK : zK B s) (hSt : zSt B s) (hap : zAp B) {res : Int} {S9 : Sg} : ∀ (x2 : Int) (x3 : Int) (xt1 : Int) (xt2 : Int) (S : Sg) (nx2 : zn x2) (nx3 : zn x3) (nxt1 : zn xt1) (nxt2 : zn xt2), zf_M_open_51 x2 x3 xt1 xt2 S = some (res, S9) → ∀ (H : Heap) (locs : List Loc) (ls : Array Slot), zW B S H → va_S B.2.2.2 s.heap H locs → lv_has ls 4 [(2, .int (zI (x2))), (3, .int (zI (x3)))] → W p l e zm_M_open s m args below meth c H locs 0 0 (MQ below (zQi B res S9) args s 0 0 B.2.2.2) (F0 m 51 ls [.int (zI (xt2)), .int (zI (xt1)), .ref (B.2.1 5 (0) (24))]) := by
  intro x2 x3 xt1 xt2 S nx2 nx3 nxt1 nxt2 hf H locs ls hW hS hl
  unfold zf_M_open_51 at hf
  obtain ⟨h1, hf⟩ := zck_some hf
  obtain ⟨S2, eS2, hf⟩ := zlt_some hf
  refine ziast C hK hap hW hS (zvd_5 (by decide) (by decide)) (fun f => ze_5_24 B f (0)) (by decide) rfl nxt2 h1 zd_M_open_51 (fun H locs hW hS => ?_)
  rw [eS2] at hW
  refine lv_iload_n C.1 C.2.1 zd_M_open_52 rfl (lv_at hl 1 rfl) ?_
  refine lv_iload_n C.1 C.2.1 zd_M_open_53 rfl (lv_at hl 0 rfl) ?_
  refine zr_icmp_eq (tgt := 61) C nx3 nx2 zd_M_open_54 (by decide) (fun c3 => ?_) (fun c3 => ?_)
  · rw [if_pos c3] at hf
    refine zr_iconst C zd_M_open_61 ?_
    cases hf
    exact zre_i C hr hlk hK hW hS (znb rfl) zd_M_open_62
  · rw [if_neg c3] at hf
    refine zr_iconst C zd_M_open_57 ?_
    refine lv_goto (tgt := 62) C.1 C.2.1 zd_M_open_58 (by decide) ?_
    cases hf
    exact zre_i C hr hlk hK hW hS (znb rfl) zd_M_open_62

def zf_M_open_33 (x1 : Int) (x2 : Int) (xt0 : Int) (S : Sg) : Option (Int × Sg) :=
    if x2 = 0 then (zf_M_open_51 (x2) (xt0) (x1) (0) S) else (zf_M_open_51 (x2) (xt0) (x1) (1) S)
set_option maxHeartbeats 4000000 in
set_option maxRecDepth 100000 in
theorem zw_M_open_33 {p : Program} {l : Launch} {e : Env} {s : State} {m : MethodId} {args : Array Value} {below : List Frame} {meth : Method} {c : Code} {B : zB} (C : CallFix p m c zb_M_open 4 s args zT "IslandOfficeModel") (hr : meth.sig.returnType = some .int) (hlk : meth.locks = false) (hK : zK B s) (hSt : zSt B s) (hap : zAp B) {res : Int} {S9 : Sg} : ∀ (x1 : Int) (x2 : Int) (xt0 : Int) (S : Sg) (nx1 : zn x1) (nx2 : zn x2) (nxt0 : zn xt0), zf_M_open_33 x1 x2 xt0 S = some (res, S9) → ∀ (H : Heap) (locs : List Loc) (ls : Array Slot), zW B S H → va_S B.2.2.2 s.heap H locs → lv_has ls 4 [(0, .ref (B.2.1 9 (0) (0))), (1, .int (zI (x1))), (2, .int (zI (x2)))] → W p l e zm_M_open s m args below meth c H locs 0 0 (MQ below (zQi B res S9) args s 0 0 B.2.2.2) (F0 m 33 ls [.int (zI (xt0))]) := by
  intro x1 x2 xt0 S nx1 nx2 nxt0 hf H locs ls hW hS hl
  unfold zf_M_open_33 at hf
  refine lv_istore_n (lv' := [(3, .int (zI (xt0))), (0, .ref (B.2.1 9 (0) (0))), (1, .int (zI (x1))), (2, .int (zI (x2)))]) C.1 C.2.1 zd_M_open_33 rfl hl (by decide) rfl (fun ls hl => ?_)
  refine lv_aload_n C.1 C.2.1 zd_M_open_34 rfl (lv_at hl 1 rfl) ?_
  refine zg_M_world (r := 0) C hK hW (zvd_9 (by decide) (by decide)) zk_1500 zd_M_open_35 ?_
  refine zg_W_postOpen (r := 0) C hK hW (zvd_5 (by decide) (by decide)) zk_1334 zd_M_open_38 ?_
  refine lv_iload_n C.1 C.2.1 zd_M_open_41 rfl (lv_at hl 2 rfl) ?_
  refine lv_iload_n C.1 C.2.1 zd_M_open_42 rfl (lv_at hl 3 rfl) ?_
  refine zr_if_eq (tgt := 50) C nx2 zd_M_open_43 (by decide) (fun c1 => ?_) (fun c1 => ?_)
  · rw [if_pos c1] at hf
    refine zr_iconst C zd_M_open_50 ?_
    exact zw_M_open_51 C hr hlk hK hSt hap   (x2) (xt0) (x1) (0) S nx2 nxt0 nx1 (znb rfl) hf _ _ _ hW hS (lv_sub hl [3, 0] rfl)
  · rw [if_neg c1] at hf
    refine zr_iconst C zd_M_open_46 ?_
    refine lv_goto (tgt := 51) C.1 C.2.1 zd_M_open_47 (by decide) ?_
    exact zw_M_open_51 C hr hlk hK hSt hap   (x2) (xt0) (x1) (1) S nx2 nxt0 nx1 (znb rfl) hf _ _ _ hW hS (lv_sub hl [3, 0] rfl)

def zf_M_open (x1 : Int) (x2 : Int) (S : Sg) : Option (Int × Sg) :=
    zlt (zu S 9 0 0 4 0) fun S1 => zbd (zf_M_isPost x1 S1) fun a2 S3 => if a2 = 0 then (some (-1, S3)) else (zck (0 ≤ x1 ∧ x1 < 8) <| if (S3 5 0 24 x1) = 1 then (zf_M_open_33 (x1) (x2) (1) S3) else (zf_M_open_33 (x1) (x2) (0) S3))
set_option maxHeartbeats 4000000 in
set_option maxRecDepth 100000 in
theorem zw_M_open {p : Program} {l : Launch} {e : Env} {s : State} {m : MethodId} {args : Array Value} {below : List Frame} {meth : Method} {c : Code} {B : zB} (C : CallFix p m c zb_M_open 4 s args zT "IslandOfficeModel") (hr : meth.sig.returnType = some .int) (hlk : meth.locks = false) (hK : zK B s) (hSt : zSt B s) (hap : zAp B) {res : Int} {S9 : Sg} : ∀ (x1 : Int) (x2 : Int) (S : Sg) (nx1 : zn x1) (nx2 : zn x2), zf_M_open x1 x2 S = some (res, S9) → ∀ (H : Heap) (locs : List Loc) (ls : Array Slot), zW B S H → va_S B.2.2.2 s.heap H locs → lv_has ls 4 [(0, .ref (B.2.1 9 (0) (0))), (1, .int (zI (x1))), (2, .int (zI (x2)))] → W p l e zm_M_open s m args below meth c H locs 0 0 (MQ below (zQi B res S9) args s 0 0 B.2.2.2) (F0 m 0 ls []) := by
  intro x1 x2 S nx1 nx2 hf H locs ls hW hS hl
  unfold zf_M_open at hf
  refine lv_aload_n C.1 C.2.1 zd_M_open_0 rfl (lv_at hl 0 rfl) ?_
  refine zr_iconst C zd_M_open_1 ?_
  obtain ⟨S1, eS1, hf⟩ := zlt_some hf
  refine zp_M_thrown (r := 0) C hK hap hW hS (zvd_9 (by decide) (by decide)) zk_1504 (znb rfl) zd_M_open_2 (fun H locs hW hS => ?_)
  rw [eS1] at hW
  refine lv_aload_n C.1 C.2.1 zd_M_open_5 rfl (lv_at hl 0 rfl) ?_
  refine lv_iload_n C.1 C.2.1 zd_M_open_6 rfl (lv_at hl 1 rfl) ?_
  obtain ⟨a2, S3, ea2, hf⟩ := zbd_some hf
  refine zcVi (As := [.int (zI (x1))]) (rest := []) C hK hSt hW hS (zc_M_isPost hap x1 S1 nx1 ea2) zq_M_isPost zk_1783 (zrecv hK hW (zvd_9 (by decide) (by decide)) (ze_9_0 B _ (0)) rfl) ⟨rfl, rfl, by decide, by decide⟩ ⟨Nat.zero_le _, Nat.zero_le _⟩ rfl hl.1 rfl (lv_room (Nat.le_of_ble_eq_true rfl)) zd_M_open_7 (fun na2 H locs hW hS => ?_)
  refine zr_if_ne (tgt := 15) C na2 zd_M_open_10 (by decide) (fun c4 => ?_) (fun c4 => ?_)
  · rw [if_neg c4] at hf
    refine lv_aload_n C.1 C.2.1 zd_M_open_15 rfl (lv_at hl 0 rfl) ?_
    refine zg_M_world (r := 0) C hK hW (zvd_9 (by decide) (by decide)) zk_1500 zd_M_open_16 ?_
    refine zg_W_postOpen (r := 0) C hK hW (zvd_5 (by decide) (by decide)) zk_1334 zd_M_open_19 ?_
    refine lv_iload_n C.1 C.2.1 zd_M_open_22 rfl (lv_at hl 1 rfl) ?_
    obtain ⟨h5, hf⟩ := zck_some hf
    refine ziald C hK hW (zvd_5 (by decide) (by decide)) (fun f => ze_5_24 B f (0)) (by decide) h5 zd_M_open_23 ?_
    refine zr_iconst C zd_M_open_24 ?_
    refine zr_icmp_ne (tgt := 32) C (zWn hW _ _ _ _ rfl) (znb rfl) zd_M_open_25 (by decide) (fun c6 => ?_) (fun c6 => ?_)
    · rw [if_neg c6] at hf
      refine zr_iconst C zd_M_open_32 ?_
      exact zw_M_open_33 C hr hlk hK hSt hap   (x1) (x2) (0) S3 nx1 nx2 (znb rfl) hf _ _ _ hW hS (lv_sub hl [0, 1, 2] rfl)
    · rw [if_pos c6] at hf
      refine zr_iconst C zd_M_open_28 ?_
      refine lv_goto (tgt := 33) C.1 C.2.1 zd_M_open_29 (by decide) ?_
      exact zw_M_open_33 C hr hlk hK hSt hap   (x1) (x2) (1) S3 nx1 nx2 (znb rfl) hf _ _ _ hW hS (lv_sub hl [0, 1, 2] rfl)
  · rw [if_pos c4] at hf
    refine zr_iconst C zd_M_open_13 ?_
    cases hf
    exact zre_i C hr hlk hK hW hS (znb rfl) zd_M_open_14

theorem zc_M_open {l : Launch} {B : zB} (hap : zAp B) (x1 : Int) (x2 : Int) (S : Sg) (nx1 : zn x1) (nx2 : zn x2) {res : Int} {S9 : Sg} (hf : zf_M_open x1 x2 S = some (res, S9)) : Met l zy_M_open (Cond.code zy_M_open zb_M_open 4 (some .int) :: zT) zm_M_open (zP B S [.ref (B.2.1 9 (0) (0)), .int (zI (x1)), .int (zI (x2))]) (zQi B res S9) 0 0 B.2.2.2 :=
  zmet (by decide) (Nat.le_of_ble_eq_true rfl) (fun p e s m args below meth c C hr hlk hK hSt hW ls hl => zw_M_open C hr hlk hK hSt hap   x1 x2 S nx1 nx2 hf _ _ _ hW va_S.rf hl)
/-! IslandOfficeModel$World.feasible(III)Z -/
abbrev zy_W_feasible : MethodName := ⟨"IslandOfficeModel$World", "feasible", "(III)Z"⟩
abbrev zb_W_feasible : ByteArray := prog_15_method_28_code
abbrev zm_W_feasible : Room := { frames := 1, cells := 0, slots := 0, locals := 20 }
theorem zq_W_feasible : zMy zy_W_feasible zb_W_feasible 9 (some .boolean) 3 := ⟨zk_1826, zk_1825, zs_72, zk_15, by decide, by decide, by decide +kernel⟩
theorem zd_W_feasible_0 : decode zb_W_feasible 0 = .ok (.iload_n 1, 1) := by decide +kernel
theorem zd_W_feasible_1 : decode zb_W_feasible 1 = .ok (.iload_n 2, 1) := by decide +kernel
theorem zd_W_feasible_2 : decode zb_W_feasible 2 = .ok (.ishr, 1) := by decide +kernel
theorem zd_W_feasible_3 : decode zb_W_feasible 3 = .ok (.iload_n 2, 1) := by decide +kernel
theorem zd_W_feasible_4 : decode zb_W_feasible 4 = .ok (.ishl, 1) := by decide +kernel
theorem zd_W_feasible_5 : decode zb_W_feasible 5 = .ok (.istore 4, 2) := by decide +kernel
theorem zd_W_feasible_7 : decode zb_W_feasible 7 = .ok (.iload 4, 2) := by decide +kernel
theorem zd_W_feasible_9 : decode zb_W_feasible 9 = .ok (.istore 5, 2) := by decide +kernel
theorem zd_W_feasible_11 : decode zb_W_feasible 11 = .ok (.iload 5, 2) := by decide +kernel
theorem zd_W_feasible_13 : decode zb_W_feasible 13 = .ok (.ifCond .le 109, 3) := by decide +kernel
theorem zd_W_feasible_16 : decode zb_W_feasible 16 = .ok (.iconst 0, 1) := by decide +kernel
theorem zd_W_feasible_17 : decode zb_W_feasible 17 = .ok (.istore 6, 2) := by decide +kernel
theorem zd_W_feasible_19 : decode zb_W_feasible 19 = .ok (.iconst 0, 1) := by decide +kernel
theorem zd_W_feasible_20 : decode zb_W_feasible 20 = .ok (.istore 7, 2) := by decide +kernel
theorem zd_W_feasible_22 : decode zb_W_feasible 22 = .ok (.iconst 0, 1) := by decide +kernel
theorem zd_W_feasible_23 : decode zb_W_feasible 23 = .ok (.istore 8, 2) := by decide +kernel
theorem zd_W_feasible_25 : decode zb_W_feasible 25 = .ok (.iload 8, 2) := by decide +kernel
theorem zd_W_feasible_27 : decode zb_W_feasible 27 = .ok (.aload_n 0, 1) := by decide +kernel
theorem zd_W_feasible_28 : decode zb_W_feasible 28 = .ok (.getfield 168, 3) := by decide +kernel
theorem zd_W_feasible_31 : decode zb_W_feasible 31 = .ok (.if_icmp .ge 63, 3) := by decide +kernel
theorem zd_W_feasible_34 : decode zb_W_feasible 34 = .ok (.iload 6, 2) := by decide +kernel
theorem zd_W_feasible_36 : decode zb_W_feasible 36 = .ok (.iload 5, 2) := by decide +kernel
theorem zd_W_feasible_38 : decode zb_W_feasible 38 = .ok (.iload 8, 2) := by decide +kernel
theorem zd_W_feasible_40 : decode zb_W_feasible 40 = .ok (.ishr, 1) := by decide +kernel
theorem zd_W_feasible_41 : decode zb_W_feasible 41 = .ok (.iconst 1, 1) := by decide +kernel
theorem zd_W_feasible_42 : decode zb_W_feasible 42 = .ok (.iand, 1) := by decide +kernel
theorem zd_W_feasible_43 : decode zb_W_feasible 43 = .ok (.iconst 1, 1) := by decide +kernel
theorem zd_W_feasible_44 : decode zb_W_feasible 44 = .ok (.if_icmp .ne 13, 3) := by decide +kernel
theorem zd_W_feasible_47 : decode zb_W_feasible 47 = .ok (.aload_n 0, 1) := by decide +kernel
theorem zd_W_feasible_48 : decode zb_W_feasible 48 = .ok (.getfield 84, 3) := by decide +kernel
theorem zd_W_feasible_51 : decode zb_W_feasible 51 = .ok (.iload 8, 2) := by decide +kernel
theorem zd_W_feasible_53 : decode zb_W_feasible 53 = .ok (.iaload, 1) := by decide +kernel
theorem zd_W_feasible_54 : decode zb_W_feasible 54 = .ok (.goto 4, 3) := by decide +kernel
theorem zd_W_feasible_57 : decode zb_W_feasible 57 = .ok (.iconst 0, 1) := by decide +kernel
theorem zd_W_feasible_58 : decode zb_W_feasible 58 = .ok (.iadd, 1) := by decide +kernel
theorem zd_W_feasible_59 : decode zb_W_feasible 59 = .ok (.istore 6, 2) := by decide +kernel
theorem zd_W_feasible_61 : decode zb_W_feasible 61 = .ok (.iload 7, 2) := by decide +kernel
theorem zd_W_feasible_63 : decode zb_W_feasible 63 = .ok (.iload 5, 2) := by decide +kernel
theorem zd_W_feasible_65 : decode zb_W_feasible 65 = .ok (.iload 8, 2) := by decide +kernel
theorem zd_W_feasible_67 : decode zb_W_feasible 67 = .ok (.ishr, 1) := by decide +kernel
theorem zd_W_feasible_68 : decode zb_W_feasible 68 = .ok (.iconst 1, 1) := by decide +kernel
theorem zd_W_feasible_69 : decode zb_W_feasible 69 = .ok (.iand, 1) := by decide +kernel
theorem zd_W_feasible_70 : decode zb_W_feasible 70 = .ok (.iconst 1, 1) := by decide +kernel
theorem zd_W_feasible_71 : decode zb_W_feasible 71 = .ok (.if_icmp .ne 13, 3) := by decide +kernel
theorem zd_W_feasible_74 : decode zb_W_feasible 74 = .ok (.aload_n 0, 1) := by decide +kernel
theorem zd_W_feasible_75 : decode zb_W_feasible 75 = .ok (.getfield 146, 3) := by decide +kernel
theorem zd_W_feasible_78 : decode zb_W_feasible 78 = .ok (.iload 8, 2) := by decide +kernel
theorem zd_W_feasible_80 : decode zb_W_feasible 80 = .ok (.iaload, 1) := by decide +kernel
theorem zd_W_feasible_81 : decode zb_W_feasible 81 = .ok (.goto 4, 3) := by decide +kernel
theorem zd_W_feasible_84 : decode zb_W_feasible 84 = .ok (.iconst 0, 1) := by decide +kernel
theorem zd_W_feasible_85 : decode zb_W_feasible 85 = .ok (.ior, 1) := by decide +kernel
theorem zd_W_feasible_86 : decode zb_W_feasible 86 = .ok (.istore 7, 2) := by decide +kernel
theorem zd_W_feasible_88 : decode zb_W_feasible 88 = .ok (.iinc 8 1, 3) := by decide +kernel
theorem zd_W_feasible_91 : decode zb_W_feasible 91 = .ok (.goto (-66), 3) := by decide +kernel
theorem zd_W_feasible_94 : decode zb_W_feasible 94 = .ok (.iload 7, 2) := by decide +kernel
theorem zd_W_feasible_96 : decode zb_W_feasible 96 = .ok (.iload_n 3, 1) := by decide +kernel
theorem zd_W_feasible_97 : decode zb_W_feasible 97 = .ok (.iconst (-1), 1) := by decide +kernel
theorem zd_W_feasible_98 : decode zb_W_feasible 98 = .ok (.ixor, 1) := by decide +kernel
theorem zd_W_feasible_99 : decode zb_W_feasible 99 = .ok (.iand, 1) := by decide +kernel
theorem zd_W_feasible_100 : decode zb_W_feasible 100 = .ok (.invokestatic 213, 3) := by decide +kernel
theorem zd_W_feasible_103 : decode zb_W_feasible 103 = .ok (.iload 6, 2) := by decide +kernel
theorem zd_W_feasible_105 : decode zb_W_feasible 105 = .ok (.if_icmp .ge 5, 3) := by decide +kernel
theorem zd_W_feasible_108 : decode zb_W_feasible 108 = .ok (.iconst 0, 1) := by decide +kernel
theorem zd_W_feasible_109 : decode zb_W_feasible 109 = .ok (.ireturn, 1) := by decide +kernel
theorem zd_W_feasible_110 : decode zb_W_feasible 110 = .ok (.iload 5, 2) := by decide +kernel
theorem zd_W_feasible_112 : decode zb_W_feasible 112 = .ok (.iconst 1, 1) := by decide +kernel
theorem zd_W_feasible_113 : decode zb_W_feasible 113 = .ok (.isub, 1) := by decide +kernel
theorem zd_W_feasible_114 : decode zb_W_feasible 114 = .ok (.iload 4, 2) := by decide +kernel
theorem zd_W_feasible_116 : decode zb_W_feasible 116 = .ok (.iand, 1) := by decide +kernel
theorem zd_W_feasible_117 : decode zb_W_feasible 117 = .ok (.istore 5, 2) := by decide +kernel
theorem zd_W_feasible_119 : decode zb_W_feasible 119 = .ok (.goto (-108), 3) := by decide +kernel
theorem zd_W_feasible_122 : decode zb_W_feasible 122 = .ok (.iconst 1, 1) := by decide +kernel
theorem zd_W_feasible_123 : decode zb_W_feasible 123 = .ok (.ireturn, 1) := by decide +kernel

def zf_W_feasible_85 (r0 : Int) (q11 : Int → Int → Int → Sg → Option (Int × Sg)) (q25 : Int → Int → Int → Int → Int → Int → Sg → Option (Int × Sg)) (x3 : Int) (x4 : Int) (x5 : Int) (x6 : Int) (x8 : Int) (xt0 : Int) (xt1 : Int) (S : Sg) : Option (Int × Sg) :=
    zlt (zor xt0 xt1) fun v1 => zlt (zw (x8 + 1)) fun v2 => q25 (x3) (x4) (x5) (x6) (v1) (v2) S
set_option maxHeartbeats 4000000 in
set_option maxRecDepth 100000 in
theorem zw_W_feasible_85 {p : Program} {l : Launch} {e : Env} {s : State} {m : MethodId} {args : Array Value} {below : List Frame} {meth : Method} {c : Code} {B : zB} (C : CallFix p m c zb_W_feasible 9 s args zT "IslandOfficeModel$World") (hr : meth.sig.returnType = some .boolean) (hlk : meth.locks = false) (hK : zK B s) (hSt : zSt B s) (hap : zAp B) (r0 : Int) (hr0 : 0 ≤ r0 ∧ r0 < 3) {res : Int} {S9 : Sg} (q11 : Int → Int → Int → Sg → Option (Int × Sg)) (hq11 : ∀ (x3 : Int) (x4 : Int) (x5 : Int) (S : Sg) (nx3 : zn x3) (nx4 : zn x4) (nx5 : zn x5), q11 x3 x4 x5 S = some (res, S9) → ∀ (H : Heap) (locs : List Loc) (ls : Array Slot), zW B S H → va_S B.2.2.2 s.heap H locs → lv_has ls 9 [(0, .ref (B.2.1 5 (r0) (0))), (3, .int (zI (x3))), (4, .int (zI (x4))), (5, .int (zI (x5)))] → W p l e zm_W_feasible s m args below meth c H locs 0 0 (MQ below (zQi B res S9) args s 0 0 B.2.2.2) (F0 m 11 ls [])) (q25 : Int → Int → Int → Int → Int → Int → Sg → Option (Int × Sg)) (hq25 : ∀ (x3 : Int) (x4 : Int) (x5 : Int) (x6 : Int) (x7 : Int) (x8 : Int) (S : Sg) (nx3 : zn x3) (nx4 : zn x4) (nx5 : zn x5) (nx6 : zn x6) (nx7 : zn x7) (nx8 : zn x8), q25 x3 x4 x5 x6 x7 x8 S = some (res, S9) → ∀ (H : Heap) (locs : List Loc) (ls : Array Slot), zW B S H → va_S B.2.2.2 s.heap H locs → lv_has ls 9 [(0, .ref (B.2.1 5 (r0) (0))), (3, .int (zI (x3))), (4, .int (zI (x4))), (5, .int (zI (x5))), (6, .int (zI (x6))), (7, .int (zI (x7))), (8, .int (zI (x8)))] → W p l e zm_W_feasible s m args below meth c H locs 0 0 (MQ below (zQi B res S9) args s 0 0 B.2.2.2) (F0 m 25 ls [])) : ∀ (x3 : Int) (x4 : Int) (x5 : Int) (x6 : Int) (x8 : Int) (xt0 : Int) (xt1 : Int) (S : Sg) (nx3 : zn x3) (nx4 : zn x4) (nx5 : zn x5) (nx6 : zn x6) (nx8 : zn x8) (nxt0 : zn xt0) (nxt1 : zn xt1), zf_W_feasible_85 r0 q11 q25 x3 x4 x5 x6 x8 xt0 xt1 S = some (res, S9) → ∀ (H : Heap) (locs : List Loc) (ls : Array Slot), zW B S H → va_S B.2.2.2 s.heap H locs → lv_has ls 9 [(0, .ref (B.2.1 5 (r0) (0))), (3, .int (zI (x3))), (4, .int (zI (x4))), (5, .int (zI (x5))), (6, .int (zI (x6))), (8, .int (zI (x8)))] → W p l e zm_W_feasible s m args below meth c H locs 0 0 (MQ below (zQi B res S9) args s 0 0 B.2.2.2) (F0 m 85 ls [.int (zI (xt1)), .int (zI (xt0))]) := by
  intro x3 x4 x5 x6 x8 xt0 xt1 S nx3 nx4 nx5 nx6 nx8 nxt0 nxt1 hf H locs ls hW hS hl
  unfold zf_W_feasible_85 at hf
  refine zr_ior C zd_W_feasible_85 ?_
  obtain ⟨v1, ev1, hf⟩ := zlt_some hf
  have nv1 : zn v1 := by rw [← ev1]; exact (zn_or _ _)
  rw [ev1]
  refine lv_istore (lv' := [(7, .int (zI (v1))), (0, .ref (B.2.1 5 (r0) (0))), (3, .int (zI (x3))), (4, .int (zI (x4))), (5, .int (zI (x5))), (6, .int (zI (x6))), (8, .int (zI (x8)))]) C.1 C.2.1 zd_W_feasible_86 hl (by decide) rfl (fun ls hl => ?_)
  obtain ⟨v2, ev2, hf⟩ := zlt_some hf
  have nv2 : zn v2 := by rw [← ev2]; exact zn_w _
  refine lv_iinc (v := zI v2) (lv' := [(8, .int (zI (v2))), (7, .int (zI (v1))), (0, .ref (B.2.1 5 (r0) (0))), (3, .int (zI (x3))), (4, .int (zI (x4))), (5, .int (zI (x5))), (6, .int (zI (x6)))]) C.1 C.2.1 zd_W_feasible_88 hl (k := 6) rfl (by rw [← ev2, ← zI_add]; rfl) (by decide) rfl (fun ls hl => ?_)
  refine lv_goto (tgt := 25) C.1 C.2.1 zd_W_feasible_91 (by decide) ?_
  exact hq25 (x3) (x4) (x5) (x6) (v1) (v2) S nx3 nx4 nx5 nx6 nv1 nv2 hf _ _ _ hW hS (lv_sub hl [2, 3, 4, 5, 6, 1, 0] rfl)

def zf_W_feasible_58 (r0 : Int) (q11 : Int → Int → Int → Sg → Option (Int × Sg)) (q25 : Int → Int → Int → Int → Int → Int → Sg → Option (Int × Sg)) (x3 : Int) (x4 : Int) (x5 : Int) (x7 : Int) (x8 : Int) (xt0 : Int) (xt1 : Int) (S : Sg) : Option (Int × Sg) :=
    zlt (zw (xt0 + xt1)) fun v1 => if (zand (zshr x5 x8) 1) = 1 then (zck (0 ≤ x8 ∧ x8 < 8) <| zf_W_feasible_85 r0 q11 q25 (x3) (x4) (x5) (v1) (x8) (x7) (S 5 r0 38 x8) S) else (zf_W_feasible_85 r0 q11 q25 (x3) (x4) (x5) (v1) (x8) (x7) (0) S)
set_option maxHeartbeats 4000000 in
set_option maxRecDepth 100000 in
theorem zw_W_feasible_58 {p : Program} {l : Launch} {e : Env} {s : State} {m : MethodId} {args : Array Value} {below : List Frame} {meth : Method} {c : Code} {B : zB} (C : CallFix p m c zb_W_feasible 9 s args zT "IslandOfficeModel$World") (hr : meth.sig.returnType = some .boolean) (hlk : meth.locks = false) (hK : zK B s) (hSt : zSt B s) (hap : zAp B) (r0 : Int) (hr0 : 0 ≤ r0 ∧ r0 < 3) {res : Int} {S9 : Sg} (q11 : Int → Int → Int → Sg → Option (Int × Sg)) (hq11 : ∀ (x3 : Int) (x4 : Int) (x5 : Int) (S : Sg) (nx3 : zn x3) (nx4 : zn x4) (nx5 : zn x5), q11 x3 x4 x5 S = some (res, S9) → ∀ (H : Heap) (locs : List Loc) (ls : Array Slot), zW B S H → va_S B.2.2.2 s.heap H locs → lv_has ls 9 [(0, .ref (B.2.1 5 (r0) (0))), (3, .int (zI (x3))), (4, .int (zI (x4))), (5, .int (zI (x5)))] → W p l e zm_W_feasible s m args below meth c H locs 0 0 (MQ below (zQi B res S9) args s 0 0 B.2.2.2) (F0 m 11 ls [])) (q25 : Int → Int → Int → Int → Int → Int → Sg → Option (Int × Sg)) (hq25 : ∀ (x3 : Int) (x4 : Int) (x5 : Int) (x6 : Int) (x7 : Int) (x8 : Int) (S : Sg) (nx3 : zn x3) (nx4 : zn x4) (nx5 : zn x5) (nx6 : zn x6) (nx7 : zn x7) (nx8 : zn x8), q25 x3 x4 x5 x6 x7 x8 S = some (res, S9) → ∀ (H : Heap) (locs : List Loc) (ls : Array Slot), zW B S H → va_S B.2.2.2 s.heap H locs → lv_has ls 9 [(0, .ref (B.2.1 5 (r0) (0))), (3, .int (zI (x3))), (4, .int (zI (x4))), (5, .int (zI (x5))), (6, .int (zI (x6))), (7, .int (zI (x7))), (8, .int (zI (x8)))] → W p l e zm_W_feasible s m args below meth c H locs 0 0 (MQ below (zQi B res S9) args s 0 0 B.2.2.2) (F0 m 25 ls [])) : ∀ (x3 : Int) (x4 : Int) (x5 : Int) (x7 : Int) (x8 : Int) (xt0 : Int) (xt1 : Int) (S : Sg) (nx3 : zn x3) (nx4 : zn x4) (nx5 : zn x5) (nx7 : zn x7) (nx8 : zn x8) (nxt0 : zn xt0) (nxt1 : zn xt1), zf_W_feasible_58 r0 q11 q25 x3 x4 x5 x7 x8 xt0 xt1 S = some (res, S9) → ∀ (H : Heap) (locs : List Loc) (ls : Array Slot), zW B S H → va_S B.2.2.2 s.heap H locs → lv_has ls 9 [(0, .ref (B.2.1 5 (r0) (0))), (3, .int (zI (x3))), (4, .int (zI (x4))), (5, .int (zI (x5))), (7, .int (zI (x7))), (8, .int (zI (x8)))] → W p l e zm_W_feasible s m args below meth c H locs 0 0 (MQ below (zQi B res S9) args s 0 0 B.2.2.2) (F0 m 58 ls [.int (zI (xt1)), .int (zI (xt0))]) := by
  intro x3 x4 x5 x7 x8 xt0 xt1 S nx3 nx4 nx5 nx7 nx8 nxt0 nxt1 hf H locs ls hW hS hl
  unfold zf_W_feasible_58 at hf
  refine zr_iadd C zd_W_feasible_58 ?_
  obtain ⟨v1, ev1, hf⟩ := zlt_some hf
  have nv1 : zn v1 := by rw [← ev1]; exact (zn_w _)
  rw [ev1]
  refine lv_istore (lv' := [(6, .int (zI (v1))), (0, .ref (B.2.1 5 (r0) (0))), (3, .int (zI (x3))), (4, .int (zI (x4))), (5, .int (zI (x5))), (7, .int (zI (x7))), (8, .int (zI (x8)))]) C.1 C.2.1 zd_W_feasible_59 hl (by decide) rfl (fun ls hl => ?_)
  refine lv_iload C.1 C.2.1 zd_W_feasible_61 (lv_at hl 5 rfl) ?_
  refine lv_iload C.1 C.2.1 zd_W_feasible_63 (lv_at hl 4 rfl) ?_
  refine lv_iload C.1 C.2.1 zd_W_feasible_65 (lv_at hl 6 rfl) ?_
  refine zr_ishr C zd_W_feasible_67 ?_
  refine zr_iconst C zd_W_feasible_68 ?_
  refine zr_iand C zd_W_feasible_69 ?_
  refine zr_iconst C zd_W_feasible_70 ?_
  refine zr_icmp_ne (tgt := 84) C (zn_and _ _) (znb rfl) zd_W_feasible_71 (by decide) (fun c2 => ?_) (fun c2 => ?_)
  · rw [if_neg c2] at hf
    refine zr_iconst C zd_W_feasible_84 ?_
    exact zw_W_feasible_85 C hr hlk hK hSt hap r0 hr0 q11 hq11 q25 hq25 (x3) (x4) (x5) (v1) (x8) (x7) (0) S nx3 nx4 nx5 nv1 nx8 nx7 (znb rfl) hf _ _ _ hW hS (lv_sub hl [1, 2, 3, 4, 0, 6] rfl)
  · rw [if_pos c2] at hf
    refine lv_aload_n C.1 C.2.1 zd_W_feasible_74 rfl (lv_at hl 1 rfl) ?_
    refine zg_W_fitBits (r := r0) C hK hW (zvd_5 hr0 (by decide)) zk_1378 zd_W_feasible_75 ?_
    refine lv_iload C.1 C.2.1 zd_W_feasible_78 (lv_at hl 6 rfl) ?_
    obtain ⟨h3, hf⟩ := zck_some hf
    refine ziald C hK hW (zvd_5 hr0 (by decide)) (fun f => ze_5_38 B f (r0)) (by decide) h3 zd_W_feasible_80 ?_
    refine lv_goto (tgt := 85) C.1 C.2.1 zd_W_feasible_81 (by decide) ?_
    exact zw_W_feasible_85 C hr hlk hK hSt hap r0 hr0 q11 hq11 q25 hq25 (x3) (x4) (x5) (v1) (x8) (x7) (S 5 r0 38 x8) S nx3 nx4 nx5 nv1 nx8 nx7 (zWn hW _ _ _ _ rfl) hf _ _ _ hW hS (lv_sub hl [1, 2, 3, 4, 0, 6] rfl)

def zf_W_feasible_25 (r0 : Int) (q11 : Int → Int → Int → Sg → Option (Int × Sg)) : Nat → Int → Int → Int → Int → Int → Int → Sg → Option (Int × Sg)
  | 0, _, _, _, _, _, _, _ => none
  | n + 1, x3, x4, x5, x6, x7, x8, S =>
    if (S 5 r0 0 25) ≤ x8 then (zbd (zf_Ji_bitCount (zand x7 (zxor x3 (-1))) S) fun a2 S3 => if x6 ≤ a2 then (zlt (zand (zw (x5 - 1)) x4) fun v5 => q11 (x3) (x4) (v5) S3) else (some (0, S3))) else (if (zand (zshr x5 x8) 1) = 1 then (zck (0 ≤ x8 ∧ x8 < 8) <| zf_W_feasible_58 r0 q11 (zf_W_feasible_25 r0 q11 n) (x3) (x4) (x5) (x7) (x8) (x6) (S 5 r0 22 x8) S) else (zf_W_feasible_58 r0 q11 (zf_W_feasible_25 r0 q11 n) (x3) (x4) (x5) (x7) (x8) (x6) (0) S))
set_option maxHeartbeats 4000000 in
set_option maxRecDepth 100000 in
theorem zw_W_feasible_25 {p : Program} {l : Launch} {e : Env} {s : State} {m : MethodId} {args : Array Value} {below : List Frame} {meth : Method} {c : Code} {B : zB} (C : CallFix p m c zb_W_feasible 9 s args zT "IslandOfficeModel$World") (hr : meth.sig.returnType = some .boolean) (hlk : meth.locks = false) (hK : zK B s) (hSt : zSt B s) (hap : zAp B) (r0 : Int) (hr0 : 0 ≤ r0 ∧ r0 < 3) {res : Int} {S9 : Sg} (q11 : Int → Int → Int → Sg → Option (Int × Sg)) (hq11 : ∀ (x3 : Int) (x4 : Int) (x5 : Int) (S : Sg) (nx3 : zn x3) (nx4 : zn x4) (nx5 : zn x5), q11 x3 x4 x5 S = some (res, S9) → ∀ (H : Heap) (locs : List Loc) (ls : Array Slot), zW B S H → va_S B.2.2.2 s.heap H locs → lv_has ls 9 [(0, .ref (B.2.1 5 (r0) (0))), (3, .int (zI (x3))), (4, .int (zI (x4))), (5, .int (zI (x5)))] → W p l e zm_W_feasible s m args below meth c H locs 0 0 (MQ below (zQi B res S9) args s 0 0 B.2.2.2) (F0 m 11 ls [])) : ∀ n : Nat, ∀ (x3 : Int) (x4 : Int) (x5 : Int) (x6 : Int) (x7 : Int) (x8 : Int) (S : Sg) (nx3 : zn x3) (nx4 : zn x4) (nx5 : zn x5) (nx6 : zn x6) (nx7 : zn x7) (nx8 : zn x8), zf_W_feasible_25 r0 q11 n x3 x4 x5 x6 x7 x8 S = some (res, S9) → ∀ (H : Heap) (locs : List Loc) (ls : Array Slot), zW B S H → va_S B.2.2.2 s.heap H locs → lv_has ls 9 [(0, .ref (B.2.1 5 (r0) (0))), (3, .int (zI (x3))), (4, .int (zI (x4))), (5, .int (zI (x5))), (6, .int (zI (x6))), (7, .int (zI (x7))), (8, .int (zI (x8)))] → W p l e zm_W_feasible s m args below meth c H locs 0 0 (MQ below (zQi B res S9) args s 0 0 B.2.2.2) (F0 m 25 ls []) := by
  intro n
  induction n with
  | zero =>
    intro x3 x4 x5 x6 x7 x8 S nx3 nx4 nx5 nx6 nx7 nx8 hf H locs ls hW hS hl
    cases hf
  | succ n ih =>
    intro x3 x4 x5 x6 x7 x8 S nx3 nx4 nx5 nx6 nx7 nx8 hf H locs ls hW hS hl
    rw [zf_W_feasible_25] at hf
    refine lv_iload C.1 C.2.1 zd_W_feasible_25 (lv_at hl 6 rfl) ?_
    refine lv_aload_n C.1 C.2.1 zd_W_feasible_27 rfl (lv_at hl 0 rfl) ?_
    refine zg_W_posts (r := r0) C hK hW (zvd_5 hr0 (by decide)) zk_1325 zd_W_feasible_28 ?_
    refine zr_icmp_ge (tgt := 94) C nx8 (zWn hW _ _ _ _ rfl) zd_W_feasible_31 (by decide) (fun c1 => ?_) (fun c1 => ?_)
    · rw [if_pos c1] at hf
      refine lv_iload C.1 C.2.1 zd_W_feasible_94 (lv_at hl 5 rfl) ?_
      refine lv_iload_n C.1 C.2.1 zd_W_feasible_96 rfl (lv_at hl 1 rfl) ?_
      refine zr_iconst C zd_W_feasible_97 ?_
      refine zr_ixor C zd_W_feasible_98 ?_
      refine zr_iand C zd_W_feasible_99 ?_
      obtain ⟨a2, S3, ea2, hf⟩ := zbd_some hf
      refine zcSi (As := [.int (zI (zand x7 (zxor x3 (-1))))]) (rest := []) C hK hSt hW hS (zc_Ji_bitCount hap (zand x7 (zxor x3 (-1))) S (zn_and _ _) ea2) zq_Ji_bitCount zk_1742 ⟨rfl, rfl, by decide, by decide⟩ ⟨Nat.zero_le _, Nat.zero_le _⟩ rfl hl.1 rfl (lv_room (Nat.le_of_ble_eq_true rfl)) zd_W_feasible_100 (fun na2 H locs hW hS => ?_)
      refine lv_iload C.1 C.2.1 zd_W_feasible_103 (lv_at hl 4 rfl) ?_
      refine zr_icmp_ge (tgt := 110) C na2 nx6 zd_W_feasible_105 (by decide) (fun c4 => ?_) (fun c4 => ?_)
      · rw [if_pos c4] at hf
        refine lv_iload C.1 C.2.1 zd_W_feasible_110 (lv_at hl 3 rfl) ?_
        refine zr_iconst C zd_W_feasible_112 ?_
        refine zr_isub C zd_W_feasible_113 ?_
        refine lv_iload C.1 C.2.1 zd_W_feasible_114 (lv_at hl 2 rfl) ?_
        refine zr_iand C zd_W_feasible_116 ?_
        obtain ⟨v5, ev5, hf⟩ := zlt_some hf
        have nv5 : zn v5 := by rw [← ev5]; exact (zn_and _ _)
        rw [ev5]
        refine lv_istore (lv' := [(5, .int (zI (v5))), (0, .ref (B.2.1 5 (r0) (0))), (3, .int (zI (x3))), (4, .int (zI (x4))), (6, .int (zI (x6))), (7, .int (zI (x7))), (8, .int (zI (x8)))]) C.1 C.2.1 zd_W_feasible_117 hl (by decide) rfl (fun ls hl => ?_)
        refine lv_goto (tgt := 11) C.1 C.2.1 zd_W_feasible_119 (by decide) ?_
        exact hq11 (x3) (x4) (v5) S3 nx3 nx4 nv5 hf _ _ _ hW hS (lv_sub hl [1, 2, 3, 0] rfl)
      · rw [if_neg c4] at hf
        refine zr_iconst C zd_W_feasible_108 ?_
        cases hf
        exact zre_z C hr hlk hK hW hS (znb rfl) (zb01 (by decide)) zd_W_feasible_109
    · rw [if_neg c1] at hf
      refine lv_iload C.1 C.2.1 zd_W_feasible_34 (lv_at hl 4 rfl) ?_
      refine lv_iload C.1 C.2.1 zd_W_feasible_36 (lv_at hl 3 rfl) ?_
      refine lv_iload C.1 C.2.1 zd_W_feasible_38 (lv_at hl 6 rfl) ?_
      refine zr_ishr C zd_W_feasible_40 ?_
      refine zr_iconst C zd_W_feasible_41 ?_
      refine zr_iand C zd_W_feasible_42 ?_
      refine zr_iconst C zd_W_feasible_43 ?_
      refine zr_icmp_ne (tgt := 57) C (zn_and _ _) (znb rfl) zd_W_feasible_44 (by decide) (fun c6 => ?_) (fun c6 => ?_)
      · rw [if_neg c6] at hf
        refine zr_iconst C zd_W_feasible_57 ?_
        exact zw_W_feasible_58 C hr hlk hK hSt hap r0 hr0 q11 hq11 (zf_W_feasible_25 r0 q11 n) (ih) (x3) (x4) (x5) (x7) (x8) (x6) (0) S nx3 nx4 nx5 nx7 nx8 nx6 (znb rfl) hf _ _ _ hW hS (lv_sub hl [0, 1, 2, 3, 5, 6] rfl)
      · rw [if_pos c6] at hf
        refine lv_aload_n C.1 C.2.1 zd_W_feasible_47 rfl (lv_at hl 0 rfl) ?_
        refine zg_W_postHands (r := r0) C hK hW (zvd_5 hr0 (by decide)) zk_1329 zd_W_feasible_48 ?_
        refine lv_iload C.1 C.2.1 zd_W_feasible_51 (lv_at hl 6 rfl) ?_
        obtain ⟨h7, hf⟩ := zck_some hf
        refine ziald C hK hW (zvd_5 hr0 (by decide)) (fun f => ze_5_22 B f (r0)) (by decide) h7 zd_W_feasible_53 ?_
        refine lv_goto (tgt := 58) C.1 C.2.1 zd_W_feasible_54 (by decide) ?_
        exact zw_W_feasible_58 C hr hlk hK hSt hap r0 hr0 q11 hq11 (zf_W_feasible_25 r0 q11 n) (ih) (x3) (x4) (x5) (x7) (x8) (x6) (S 5 r0 22 x8) S nx3 nx4 nx5 nx7 nx8 nx6 (zWn hW _ _ _ _ rfl) hf _ _ _ hW hS (lv_sub hl [0, 1, 2, 3, 5, 6] rfl)

def zf_W_feasible_11 (r0 : Int) : Nat → Int → Int → Int → Sg → Option (Int × Sg)
  | 0, _, _, _, _ => none
  | n + 1, x3, x4, x5, S =>
    if x5 ≤ 0 then (some (1, S)) else (zf_W_feasible_25 r0 (zf_W_feasible_11 r0 n) 4096 (x3) (x4) (x5) (0) (0) (0) S)
set_option maxHeartbeats 4000000 in
set_option maxRecDepth 100000 in
theorem zw_W_feasible_11 {p : Program} {l : Launch} {e : Env} {s : State} {m : MethodId} {args : Array Value} {below : List Frame} {meth : Method} {c : Code} {B : zB} (C : CallFix p m c zb_W_feasible 9 s args zT "IslandOfficeModel$World") (hr : meth.sig.returnType = some .boolean) (hlk : meth.locks = false) (hK : zK B s) (hSt : zSt B s) (hap : zAp B) (r0 : Int) (hr0 : 0 ≤ r0 ∧ r0 < 3) {res : Int} {S9 : Sg} : ∀ n : Nat, ∀ (x3 : Int) (x4 : Int) (x5 : Int) (S : Sg) (nx3 : zn x3) (nx4 : zn x4) (nx5 : zn x5), zf_W_feasible_11 r0 n x3 x4 x5 S = some (res, S9) → ∀ (H : Heap) (locs : List Loc) (ls : Array Slot), zW B S H → va_S B.2.2.2 s.heap H locs → lv_has ls 9 [(0, .ref (B.2.1 5 (r0) (0))), (3, .int (zI (x3))), (4, .int (zI (x4))), (5, .int (zI (x5)))] → W p l e zm_W_feasible s m args below meth c H locs 0 0 (MQ below (zQi B res S9) args s 0 0 B.2.2.2) (F0 m 11 ls []) := by
  intro n
  induction n with
  | zero =>
    intro x3 x4 x5 S nx3 nx4 nx5 hf H locs ls hW hS hl
    cases hf
  | succ n ih =>
    intro x3 x4 x5 S nx3 nx4 nx5 hf H locs ls hW hS hl
    rw [zf_W_feasible_11] at hf
    refine lv_iload C.1 C.2.1 zd_W_feasible_11 (lv_at hl 3 rfl) ?_
    refine zr_if_le (tgt := 122) C nx5 zd_W_feasible_13 (by decide) (fun c1 => ?_) (fun c1 => ?_)
    · rw [if_pos c1] at hf
      refine zr_iconst C zd_W_feasible_122 ?_
      cases hf
      exact zre_z C hr hlk hK hW hS (znb rfl) (zb01 (by decide)) zd_W_feasible_123
    · rw [if_neg c1] at hf
      refine zr_iconst C zd_W_feasible_16 ?_
      refine lv_istore (lv' := [(6, .int (zI (0))), (0, .ref (B.2.1 5 (r0) (0))), (3, .int (zI (x3))), (4, .int (zI (x4))), (5, .int (zI (x5)))]) C.1 C.2.1 zd_W_feasible_17 hl (by decide) rfl (fun ls hl => ?_)
      refine zr_iconst C zd_W_feasible_19 ?_
      refine lv_istore (lv' := [(7, .int (zI (0))), (6, .int (zI (0))), (0, .ref (B.2.1 5 (r0) (0))), (3, .int (zI (x3))), (4, .int (zI (x4))), (5, .int (zI (x5)))]) C.1 C.2.1 zd_W_feasible_20 hl (by decide) rfl (fun ls hl => ?_)
      refine zr_iconst C zd_W_feasible_22 ?_
      refine lv_istore (lv' := [(8, .int (zI (0))), (7, .int (zI (0))), (6, .int (zI (0))), (0, .ref (B.2.1 5 (r0) (0))), (3, .int (zI (x3))), (4, .int (zI (x4))), (5, .int (zI (x5)))]) C.1 C.2.1 zd_W_feasible_23 hl (by decide) rfl (fun ls hl => ?_)
      exact zw_W_feasible_25 C hr hlk hK hSt hap r0 hr0 (zf_W_feasible_11 r0 n) (ih) 4096 (x3) (x4) (x5) (0) (0) (0) S nx3 nx4 nx5 (znb rfl) (znb rfl) (znb rfl) hf _ _ _ hW hS (lv_sub hl [3, 4, 5, 6, 2, 1, 0] rfl)

def zf_W_feasible (r0 : Int) (x1 : Int) (x2 : Int) (x3 : Int) (S : Sg) : Option (Int × Sg) :=
    zlt (zshl (zshr x1 x2) x2) fun v1 => zf_W_feasible_11 r0 4096 (x3) (v1) (v1) S
set_option maxHeartbeats 4000000 in
set_option maxRecDepth 100000 in
theorem zw_W_feasible {p : Program} {l : Launch} {e : Env} {s : State} {m : MethodId} {args : Array Value} {below : List Frame} {meth : Method} {c : Code} {B : zB} (C : CallFix p m c zb_W_feasible 9 s args zT "IslandOfficeModel$World") (hr : meth.sig.returnType = some .boolean) (hlk : meth.locks = false) (hK : zK B s) (hSt : zSt B s) (hap : zAp B) (r0 : Int) (hr0 : 0 ≤ r0 ∧ r0 < 3) {res : Int} {S9 : Sg} : ∀ (x1 : Int) (x2 : Int) (x3 : Int) (S : Sg) (nx1 : zn x1) (nx2 : zn x2) (nx3 : zn x3), zf_W_feasible r0 x1 x2 x3 S = some (res, S9) → ∀ (H : Heap) (locs : List Loc) (ls : Array Slot), zW B S H → va_S B.2.2.2 s.heap H locs → lv_has ls 9 [(0, .ref (B.2.1 5 (r0) (0))), (1, .int (zI (x1))), (2, .int (zI (x2))), (3, .int (zI (x3)))] → W p l e zm_W_feasible s m args below meth c H locs 0 0 (MQ below (zQi B res S9) args s 0 0 B.2.2.2) (F0 m 0 ls []) := by
  intro x1 x2 x3 S nx1 nx2 nx3 hf H locs ls hW hS hl
  unfold zf_W_feasible at hf
  refine lv_iload_n C.1 C.2.1 zd_W_feasible_0 rfl (lv_at hl 1 rfl) ?_
  refine lv_iload_n C.1 C.2.1 zd_W_feasible_1 rfl (lv_at hl 2 rfl) ?_
  refine zr_ishr C zd_W_feasible_2 ?_
  refine lv_iload_n C.1 C.2.1 zd_W_feasible_3 rfl (lv_at hl 2 rfl) ?_
  refine zr_ishl C zd_W_feasible_4 ?_
  obtain ⟨v1, ev1, hf⟩ := zlt_some hf
  have nv1 : zn v1 := by rw [← ev1]; exact (zn_shl _ _)
  rw [ev1]
  refine lv_istore (lv' := [(4, .int (zI (v1))), (0, .ref (B.2.1 5 (r0) (0))), (1, .int (zI (x1))), (2, .int (zI (x2))), (3, .int (zI (x3)))]) C.1 C.2.1 zd_W_feasible_5 hl (by decide) rfl (fun ls hl => ?_)
  refine lv_iload C.1 C.2.1 zd_W_feasible_7 (lv_at hl 0 rfl) ?_
  refine lv_istore (lv' := [(5, .int (zI (v1))), (4, .int (zI (v1))), (0, .ref (B.2.1 5 (r0) (0))), (1, .int (zI (x1))), (2, .int (zI (x2))), (3, .int (zI (x3)))]) C.1 C.2.1 zd_W_feasible_9 hl (by decide) rfl (fun ls hl => ?_)
  exact zw_W_feasible_11 C hr hlk hK hSt hap r0 hr0 4096 (x3) (v1) (v1) S nx3 nv1 nv1 hf _ _ _ hW hS (lv_sub hl [2, 5, 1, 0] rfl)

theorem zc_W_feasible {l : Launch} {B : zB} (hap : zAp B) (r0 : Int) (hr0 : 0 ≤ r0 ∧ r0 < 3) (x1 : Int) (x2 : Int) (x3 : Int) (S : Sg) (nx1 : zn x1) (nx2 : zn x2) (nx3 : zn x3) {res : Int} {S9 : Sg} (hf : zf_W_feasible r0 x1 x2 x3 S = some (res, S9)) : Met l zy_W_feasible (Cond.code zy_W_feasible zb_W_feasible 9 (some .boolean) :: zT) zm_W_feasible (zP B S [.ref (B.2.1 5 (r0) (0)), .int (zI (x1)), .int (zI (x2)), .int (zI (x3))]) (zQi B res S9) 0 0 B.2.2.2 :=
  zmet (by decide) (Nat.le_of_ble_eq_true rfl) (fun p e s m args below meth c C hr hlk hK hSt hW ls hl => zw_W_feasible C hr hlk hK hSt hap r0 hr0 x1 x2 x3 S nx1 nx2 nx3 hf _ _ _ hW va_S.rf hl)
