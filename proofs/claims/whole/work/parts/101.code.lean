/-! IslandOffice$Reader.read([II)I -/
abbrev zy_R_read : MethodName := ⟨"IslandOffice$Reader", "read", "([II)I"⟩
abbrev zb_R_read : ByteArray := prog_9_method_2_code
abbrev zm_R_read : Room := { frames := 4, cells := 0, slots := 0, locals := 107 }
theorem zq_R_read : zMy zy_R_read zb_R_read 4 (some .int) 2 := ⟨zk_622, zk_620, zk_621, zk_10, by decide, by decide, by decide +kernel⟩
theorem zd_R_read_0 : decode zb_R_read 0 = .ok (.aload_n 0, 1) := by decide +kernel
theorem zd_R_read_1 : decode zb_R_read 1 = .ok (.iconst 0, 1) := by decide +kernel
theorem zd_R_read_2 : decode zb_R_read 2 = .ok (.putfield 18, 3) := by decide +kernel
theorem zd_R_read_5 : decode zb_R_read 5 = .ok (.aload_n 0, 1) := by decide +kernel
theorem zd_R_read_6 : decode zb_R_read 6 = .ok (.iconst 0, 1) := by decide +kernel
theorem zd_R_read_7 : decode zb_R_read 7 = .ok (.putfield 22, 3) := by decide +kernel
theorem zd_R_read_10 : decode zb_R_read 10 = .ok (.aload_n 0, 1) := by decide +kernel
theorem zd_R_read_11 : decode zb_R_read 11 = .ok (.iconst 0, 1) := by decide +kernel
theorem zd_R_read_12 : decode zb_R_read 12 = .ok (.putfield 25, 3) := by decide +kernel
theorem zd_R_read_15 : decode zb_R_read 15 = .ok (.aload_n 0, 1) := by decide +kernel
theorem zd_R_read_16 : decode zb_R_read 16 = .ok (.iconst 0, 1) := by decide +kernel
theorem zd_R_read_17 : decode zb_R_read 17 = .ok (.putfield 28, 3) := by decide +kernel
theorem zd_R_read_20 : decode zb_R_read 20 = .ok (.aload_n 0, 1) := by decide +kernel
theorem zd_R_read_21 : decode zb_R_read 21 = .ok (.iconst 0, 1) := by decide +kernel
theorem zd_R_read_22 : decode zb_R_read 22 = .ok (.putfield 31, 3) := by decide +kernel
theorem zd_R_read_25 : decode zb_R_read 25 = .ok (.aload_n 0, 1) := by decide +kernel
theorem zd_R_read_26 : decode zb_R_read 26 = .ok (.iconst 0, 1) := by decide +kernel
theorem zd_R_read_27 : decode zb_R_read 27 = .ok (.putfield 34, 3) := by decide +kernel
theorem zd_R_read_30 : decode zb_R_read 30 = .ok (.iconst 0, 1) := by decide +kernel
theorem zd_R_read_31 : decode zb_R_read 31 = .ok (.istore_n 3, 1) := by decide +kernel
theorem zd_R_read_32 : decode zb_R_read 32 = .ok (.iload_n 3, 1) := by decide +kernel
theorem zd_R_read_33 : decode zb_R_read 33 = .ok (.iload_n 2, 1) := by decide +kernel
theorem zd_R_read_34 : decode zb_R_read 34 = .ok (.if_icmp .ge 27, 3) := by decide +kernel
theorem zd_R_read_37 : decode zb_R_read 37 = .ok (.iload_n 3, 1) := by decide +kernel
theorem zd_R_read_38 : decode zb_R_read 38 = .ok (.aload_n 1, 1) := by decide +kernel
theorem zd_R_read_39 : decode zb_R_read 39 = .ok (.arraylength, 1) := by decide +kernel
theorem zd_R_read_40 : decode zb_R_read 40 = .ok (.if_icmp .ge 21, 3) := by decide +kernel
theorem zd_R_read_43 : decode zb_R_read 43 = .ok (.aload_n 0, 1) := by decide +kernel
theorem zd_R_read_44 : decode zb_R_read 44 = .ok (.aload_n 1, 1) := by decide +kernel
theorem zd_R_read_45 : decode zb_R_read 45 = .ok (.iload_n 3, 1) := by decide +kernel
theorem zd_R_read_46 : decode zb_R_read 46 = .ok (.iaload, 1) := by decide +kernel
theorem zd_R_read_47 : decode zb_R_read 47 = .ok (.invokevirtual 37, 3) := by decide +kernel
theorem zd_R_read_50 : decode zb_R_read 50 = .ok (.ifCond .ne 5, 3) := by decide +kernel
theorem zd_R_read_53 : decode zb_R_read 53 = .ok (.iload_n 3, 1) := by decide +kernel
theorem zd_R_read_54 : decode zb_R_read 54 = .ok (.ireturn, 1) := by decide +kernel
theorem zd_R_read_55 : decode zb_R_read 55 = .ok (.iinc 3 1, 3) := by decide +kernel
theorem zd_R_read_58 : decode zb_R_read 58 = .ok (.goto (-26), 3) := by decide +kernel
theorem zd_R_read_61 : decode zb_R_read 61 = .ok (.aload_n 0, 1) := by decide +kernel
theorem zd_R_read_62 : decode zb_R_read 62 = .ok (.getfield 31, 3) := by decide +kernel
theorem zd_R_read_65 : decode zb_R_read 65 = .ok (.ifCond .gt 21, 3) := by decide +kernel
theorem zd_R_read_68 : decode zb_R_read 68 = .ok (.aload_n 0, 1) := by decide +kernel
theorem zd_R_read_69 : decode zb_R_read 69 = .ok (.getfield 28, 3) := by decide +kernel
theorem zd_R_read_72 : decode zb_R_read 72 = .ok (.bipush 6, 2) := by decide +kernel
theorem zd_R_read_74 : decode zb_R_read 74 = .ok (.if_icmp .eq 14, 3) := by decide +kernel
theorem zd_R_read_77 : decode zb_R_read 77 = .ok (.aload_n 0, 1) := by decide +kernel
theorem zd_R_read_78 : decode zb_R_read 78 = .ok (.getfield 28, 3) := by decide +kernel
theorem zd_R_read_81 : decode zb_R_read 81 = .ok (.bipush 7, 2) := by decide +kernel
theorem zd_R_read_83 : decode zb_R_read 83 = .ok (.if_icmp .eq 5, 3) := by decide +kernel
theorem zd_R_read_86 : decode zb_R_read 86 = .ok (.iload_n 2, 1) := by decide +kernel
theorem zd_R_read_87 : decode zb_R_read 87 = .ok (.ireturn, 1) := by decide +kernel
theorem zd_R_read_88 : decode zb_R_read 88 = .ok (.aload_n 0, 1) := by decide +kernel
theorem zd_R_read_89 : decode zb_R_read 89 = .ok (.bipush (-14), 2) := by decide +kernel
theorem zd_R_read_91 : decode zb_R_read 91 = .ok (.invokevirtual 41, 3) := by decide +kernel
theorem zd_R_read_94 : decode zb_R_read 94 = .ok (.bipush (-2), 2) := by decide +kernel
theorem zd_R_read_96 : decode zb_R_read 96 = .ok (.ireturn, 1) := by decide +kernel

def zf_R_read_88 (g1 : Nat) (r1 : Int) (k1 : Int) (n1 : Nat) (S : Sg) : Option (Int × Sg) :=
    zbd (zf_R_unwind (-14) S) fun a1 S2 => some (-2, S2)
set_option maxHeartbeats 4000000 in
set_option maxRecDepth 100000 in
theorem zw_R_read_88 {p : Program} {l : Launch} {e : Env} {s : State} {m : MethodId} {args : Array Value} {below : List Frame} {meth : Method} {c : Code} {B : zB} (C : CallFix p m c zb_R_read 4 s args zT "IslandOffice$Reader") (hr : meth.sig.returnType = some .int) (hlk : meth.locks = false) (hK : zK B s) (hSt : zSt B s) (hap : zAp B) (g1 : Nat) (r1 : Int) (k1 : Int) (n1 : Nat) (hv1 : zvd g1 r1 k1) (he1 : ∀ f, zce B f g1 r1 k1 = .inl (B.2.2.1 0, n1, .inl (fun j : Nat => zI (f (j : Int))))) (hn1 : n1 ≤ 65536) (hg1 : (decide (20 ≤ g1)) = false) {res : Int} {S9 : Sg} : ∀  (S : Sg) , zf_R_read_88 g1 r1 k1 n1  S = some (res, S9) → ∀ (H : Heap) (locs : List Loc) (ls : Array Slot), zW B S H → va_S B.2.2.2 s.heap H locs → lv_has ls 4 [(0, .ref (B.2.1 3 (0) (4)))] → W p l e zm_R_read s m args below meth c H locs 0 0 (MQ below (zQi B res S9) args s 0 0 B.2.2.2) (F0 m 88 ls []) := by
  intro S hf H locs ls hW hS hl
  unfold zf_R_read_88 at hf
  refine lv_aload_n C.1 C.2.1 zd_R_read_88 rfl (lv_at hl 0 rfl) ?_
  refine zr_bipush C zd_R_read_89 (by decide) ?_
  obtain ⟨a1, S2, ea1, hf⟩ := zbd_some hf
  refine zcVv (As := [.int (zI (-14))]) (rest := []) C hK hSt hW hS (zc_R_unwind hap (-14) S (znb rfl) ea1) zq_R_unwind zk_662 (zrecv hK hW (zvd_3 (by decide) (by decide)) (ze_3_4 B _ (0)) rfl) ⟨rfl, rfl, by decide, by decide⟩ ⟨Nat.zero_le _, Nat.zero_le _⟩ rfl hl.1 rfl (lv_room (Nat.le_of_ble_eq_true rfl)) zd_R_read_91 (fun H locs hW hS => ?_)
  refine zr_bipush C zd_R_read_94 (by decide) ?_
  cases hf
  exact zre_i C hr hlk hK hW hS (znb rfl) zd_R_read_96

def zf_R_read_61 (g1 : Nat) (r1 : Int) (k1 : Int) (n1 : Nat) (x2 : Int) (S : Sg) : Option (Int × Sg) :=
    if 0 < (S 3 0 4 6) then (some (x2, S)) else (if (S 3 0 4 5) = 6 then (zf_R_read_88 g1 r1 k1 n1  S) else (if (S 3 0 4 5) = 7 then (zf_R_read_88 g1 r1 k1 n1  S) else (some (x2, S))))
set_option maxHeartbeats 4000000 in
set_option maxRecDepth 100000 in
theorem zw_R_read_61 {p : Program} {l : Launch} {e : Env} {s : State} {m : MethodId} {args : Array Value} {below : List Frame} {meth : Method} {c : Code} {B : zB} (C : CallFix p m c zb_R_read 4 s args zT "IslandOffice$Reader") (hr : meth.sig.returnType = some .int) (hlk : meth.locks = false) (hK : zK B s) (hSt : zSt B s) (hap : zAp B) (g1 : Nat) (r1 : Int) (k1 : Int) (n1 : Nat) (hv1 : zvd g1 r1 k1) (he1 : ∀ f, zce B f g1 r1 k1 = .inl (B.2.2.1 0, n1, .inl (fun j : Nat => zI (f (j : Int))))) (hn1 : n1 ≤ 65536) (hg1 : (decide (20 ≤ g1)) = false) {res : Int} {S9 : Sg} : ∀ (x2 : Int) (S : Sg) (nx2 : zn x2), zf_R_read_61 g1 r1 k1 n1 x2 S = some (res, S9) → ∀ (H : Heap) (locs : List Loc) (ls : Array Slot), zW B S H → va_S B.2.2.2 s.heap H locs → lv_has ls 4 [(0, .ref (B.2.1 3 (0) (4))), (2, .int (zI (x2)))] → W p l e zm_R_read s m args below meth c H locs 0 0 (MQ below (zQi B res S9) args s 0 0 B.2.2.2) (F0 m 61 ls []) := by
  intro x2 S nx2 hf H locs ls hW hS hl
  unfold zf_R_read_61 at hf
  refine lv_aload_n C.1 C.2.1 zd_R_read_61 rfl (lv_at hl 0 rfl) ?_
  refine zg_R_brackets (r := 0) C hK hW (zvd_3 (by decide) (by decide)) zk_387 zd_R_read_62 ?_
  refine zr_if_gt (tgt := 86) C (zWn hW _ _ _ _ rfl) zd_R_read_65 (by decide) (fun c1 => ?_) (fun c1 => ?_)
  · rw [if_pos c1] at hf
    refine lv_iload_n C.1 C.2.1 zd_R_read_86 rfl (lv_at hl 1 rfl) ?_
    cases hf
    exact zre_i C hr hlk hK hW hS nx2 zd_R_read_87
  · rw [if_neg c1] at hf
    refine lv_aload_n C.1 C.2.1 zd_R_read_68 rfl (lv_at hl 0 rfl) ?_
    refine zg_R_state (r := 0) C hK hW (zvd_3 (by decide) (by decide)) zk_386 zd_R_read_69 ?_
    refine zr_bipush C zd_R_read_72 (by decide) ?_
    refine zr_icmp_eq (tgt := 88) C (zWn hW _ _ _ _ rfl) (znb rfl) zd_R_read_74 (by decide) (fun c2 => ?_) (fun c2 => ?_)
    · rw [if_pos c2] at hf
      exact zw_R_read_88 C hr hlk hK hSt hap g1 r1 k1 n1 hv1 he1 hn1 hg1  S  hf _ _ _ hW hS (lv_sub hl [0] rfl)
    · rw [if_neg c2] at hf
      refine lv_aload_n C.1 C.2.1 zd_R_read_77 rfl (lv_at hl 0 rfl) ?_
      refine zg_R_state (r := 0) C hK hW (zvd_3 (by decide) (by decide)) zk_386 zd_R_read_78 ?_
      refine zr_bipush C zd_R_read_81 (by decide) ?_
      refine zr_icmp_eq (tgt := 88) C (zWn hW _ _ _ _ rfl) (znb rfl) zd_R_read_83 (by decide) (fun c3 => ?_) (fun c3 => ?_)
      · rw [if_pos c3] at hf
        exact zw_R_read_88 C hr hlk hK hSt hap g1 r1 k1 n1 hv1 he1 hn1 hg1  S  hf _ _ _ hW hS (lv_sub hl [0] rfl)
      · rw [if_neg c3] at hf
        refine lv_iload_n C.1 C.2.1 zd_R_read_86 rfl (lv_at hl 1 rfl) ?_
        cases hf
        exact zre_i C hr hlk hK hW hS nx2 zd_R_read_87

def zf_R_read_32 (g1 : Nat) (r1 : Int) (k1 : Int) (n1 : Nat) : Nat → Int → Int → Sg → Option (Int × Sg)
  | 0, _, _, _ => none
  | n + 1, x2, x3, S =>
    if x2 ≤ x3 then (zf_R_read_61 g1 r1 k1 n1 (x2) S) else (if ((n1 : Int)) ≤ x3 then (zf_R_read_61 g1 r1 k1 n1 (x2) S) else (zck (0 ≤ x3 ∧ x3 < (n1 : Int)) <| zbd (zf_R_takes (S g1 r1 k1 x3) S) fun a4 S5 => if a4 = 0 then (some (x3, S5)) else (zlt (zw (x3 + 1)) fun v7 => (zf_R_read_32 g1 r1 k1 n1 n) (x2) (v7) S5)))
set_option maxHeartbeats 4000000 in
set_option maxRecDepth 100000 in
theorem zw_R_read_32 {p : Program} {l : Launch} {e : Env} {s : State} {m : MethodId} {args : Array Value} {below : List Frame} {meth : Method} {c : Code} {B : zB} (C : CallFix p m c zb_R_read 4 s args zT "IslandOffice$Reader") (hr : meth.sig.returnType = some .int) (hlk : meth.locks = false) (hK : zK B s) (hSt : zSt B s) (hap : zAp B) (g1 : Nat) (r1 : Int) (k1 : Int) (n1 : Nat) (hv1 : zvd g1 r1 k1) (he1 : ∀ f, zce B f g1 r1 k1 = .inl (B.2.2.1 0, n1, .inl (fun j : Nat => zI (f (j : Int))))) (hn1 : n1 ≤ 65536) (hg1 : (decide (20 ≤ g1)) = false) {res : Int} {S9 : Sg} : ∀ n : Nat, ∀ (x2 : Int) (x3 : Int) (S : Sg) (nx2 : zn x2) (nx3 : zn x3), zf_R_read_32 g1 r1 k1 n1 n x2 x3 S = some (res, S9) → ∀ (H : Heap) (locs : List Loc) (ls : Array Slot), zW B S H → va_S B.2.2.2 s.heap H locs → lv_has ls 4 [(0, .ref (B.2.1 3 (0) (4))), (1, .ref (B.2.1 g1 (r1) (k1))), (2, .int (zI (x2))), (3, .int (zI (x3)))] → W p l e zm_R_read s m args below meth c H locs 0 0 (MQ below (zQi B res S9) args s 0 0 B.2.2.2) (F0 m 32 ls []) := by
  intro n
  induction n with
  | zero =>
    intro x2 x3 S nx2 nx3 hf H locs ls hW hS hl
    cases hf
  | succ n ih =>
    intro x2 x3 S nx2 nx3 hf H locs ls hW hS hl
    rw [zf_R_read_32] at hf
    refine lv_iload_n C.1 C.2.1 zd_R_read_32 rfl (lv_at hl 3 rfl) ?_
    refine lv_iload_n C.1 C.2.1 zd_R_read_33 rfl (lv_at hl 2 rfl) ?_
    refine zr_icmp_ge (tgt := 61) C nx3 nx2 zd_R_read_34 (by decide) (fun c1 => ?_) (fun c1 => ?_)
    · rw [if_pos c1] at hf
      exact zw_R_read_61 C hr hlk hK hSt hap g1 r1 k1 n1 hv1 he1 hn1 hg1 (x2) S nx2 hf _ _ _ hW hS (lv_sub hl [0, 2] rfl)
    · rw [if_neg c1] at hf
      refine lv_iload_n C.1 C.2.1 zd_R_read_37 rfl (lv_at hl 3 rfl) ?_
      refine lv_aload_n C.1 C.2.1 zd_R_read_38 rfl (lv_at hl 1 rfl) ?_
      refine zalen (N := (n1 : Int)) C hK hW hv1 he1 rfl zd_R_read_39 ?_
      refine zr_icmp_ge (tgt := 61) C nx3 (zn_len hn1) zd_R_read_40 (by decide) (fun c2 => ?_) (fun c2 => ?_)
      · rw [if_pos c2] at hf
        exact zw_R_read_61 C hr hlk hK hSt hap g1 r1 k1 n1 hv1 he1 hn1 hg1 (x2) S nx2 hf _ _ _ hW hS (lv_sub hl [0, 2] rfl)
      · rw [if_neg c2] at hf
        refine lv_aload_n C.1 C.2.1 zd_R_read_43 rfl (lv_at hl 0 rfl) ?_
        refine lv_aload_n C.1 C.2.1 zd_R_read_44 rfl (lv_at hl 1 rfl) ?_
        refine lv_iload_n C.1 C.2.1 zd_R_read_45 rfl (lv_at hl 3 rfl) ?_
        obtain ⟨h3, hf⟩ := zck_some hf
        refine ziald C hK hW hv1 he1 hn1 h3 zd_R_read_46 ?_
        obtain ⟨a4, S5, ea4, hf⟩ := zbd_some hf
        refine zcVi (As := [.int (zI (S g1 r1 k1 x3))]) (rest := []) C hK hSt hW hS (zc_R_takes hap (S g1 r1 k1 x3) S (zWn hW _ _ _ _ hg1) ea4) zq_R_takes zk_623 (zrecv hK hW (zvd_3 (by decide) (by decide)) (ze_3_4 B _ (0)) rfl) ⟨rfl, rfl, by decide, by decide⟩ ⟨Nat.zero_le _, Nat.zero_le _⟩ rfl hl.1 rfl (lv_room (Nat.le_of_ble_eq_true rfl)) zd_R_read_47 (fun na4 H locs hW hS => ?_)
        refine zr_if_ne (tgt := 55) C na4 zd_R_read_50 (by decide) (fun c6 => ?_) (fun c6 => ?_)
        · rw [if_neg c6] at hf
          obtain ⟨v7, ev7, hf⟩ := zlt_some hf
          have nv7 : zn v7 := by rw [← ev7]; exact zn_w _
          refine lv_iinc (v := zI v7) (lv' := [(3, .int (zI (v7))), (0, .ref (B.2.1 3 (0) (4))), (1, .ref (B.2.1 g1 (r1) (k1))), (2, .int (zI (x2)))]) C.1 C.2.1 zd_R_read_55 hl (k := 3) rfl (by rw [← ev7, ← zI_add]; rfl) (by decide) rfl (fun ls hl => ?_)
          refine lv_goto (tgt := 32) C.1 C.2.1 zd_R_read_58 (by decide) ?_
          exact ih (x2) (v7) S5 nx2 nv7 hf _ _ _ hW hS (lv_sub hl [1, 2, 3, 0] rfl)
        · rw [if_pos c6] at hf
          refine lv_iload_n C.1 C.2.1 zd_R_read_53 rfl (lv_at hl 3 rfl) ?_
          cases hf
          exact zre_i C hr hlk hK hW hS nx3 zd_R_read_54

def zf_R_read (g1 : Nat) (r1 : Int) (k1 : Int) (n1 : Nat) (x2 : Int) (S : Sg) : Option (Int × Sg) :=
    zlt (zu S 3 0 4 0 0) fun S1 => zlt (zu S1 3 0 4 2 0) fun S2 => zlt (zu S2 3 0 4 4 0) fun S3 => zlt (zu S3 3 0 4 5 0) fun S4 => zlt (zu S4 3 0 4 6 0) fun S5 => zlt (zu S5 3 0 4 7 0) fun S6 => zf_R_read_32 g1 r1 k1 n1 4096 (x2) (0) S6
set_option maxHeartbeats 4000000 in
set_option maxRecDepth 100000 in
theorem zw_R_read {p : Program} {l : Launch} {e : Env} {s : State} {m : MethodId} {args : Array Value} {below : List Frame} {meth : Method} {c : Code} {B : zB} (C : CallFix p m c zb_R_read 4 s args zT "IslandOffice$Reader") (hr : meth.sig.returnType = some .int) (hlk : meth.locks = false) (hK : zK B s) (hSt : zSt B s) (hap : zAp B) (g1 : Nat) (r1 : Int) (k1 : Int) (n1 : Nat) (hv1 : zvd g1 r1 k1) (he1 : ∀ f, zce B f g1 r1 k1 = .inl (B.2.2.1 0, n1, .inl (fun j : Nat => zI (f (j : Int))))) (hn1 : n1 ≤ 65536) (hg1 : (decide (20 ≤ g1)) = false) {res : Int} {S9 : Sg} : ∀ (x2 : Int) (S : Sg) (nx2 : zn x2), zf_R_read g1 r1 k1 n1 x2 S = some (res, S9) → ∀ (H : Heap) (locs : List Loc) (ls : Array Slot), zW B S H → va_S B.2.2.2 s.heap H locs → lv_has ls 4 [(0, .ref (B.2.1 3 (0) (4))), (1, .ref (B.2.1 g1 (r1) (k1))), (2, .int (zI (x2)))] → W p l e zm_R_read s m args below meth c H locs 0 0 (MQ below (zQi B res S9) args s 0 0 B.2.2.2) (F0 m 0 ls []) := by
  intro x2 S nx2 hf H locs ls hW hS hl
  unfold zf_R_read at hf
  refine lv_aload_n C.1 C.2.1 zd_R_read_0 rfl (lv_at hl 0 rfl) ?_
  refine zr_iconst C zd_R_read_1 ?_
  obtain ⟨S1, eS1, hf⟩ := zlt_some hf
  refine zp_R_subject (r := 0) C hK hap hW hS (zvd_3 (by decide) (by decide)) zk_378 (znb rfl) zd_R_read_2 (fun H locs hW hS => ?_)
  rw [eS1] at hW
  refine lv_aload_n C.1 C.2.1 zd_R_read_5 rfl (lv_at hl 0 rfl) ?_
  refine zr_iconst C zd_R_read_6 ?_
  obtain ⟨S2, eS2, hf⟩ := zlt_some hf
  refine zp_R_codeSize (r := 0) C hK hap hW hS (zvd_3 (by decide) (by decide)) zk_382 (znb rfl) zd_R_read_7 (fun H locs hW hS => ?_)
  rw [eS2] at hW
  refine lv_aload_n C.1 C.2.1 zd_R_read_10 rfl (lv_at hl 0 rfl) ?_
  refine zr_iconst C zd_R_read_11 ?_
  obtain ⟨S3, eS3, hf⟩ := zlt_some hf
  refine zp_R_waits (r := 0) C hK hap hW hS (zvd_3 (by decide) (by decide)) zk_385 (znb rfl) zd_R_read_12 (fun H locs hW hS => ?_)
  rw [eS3] at hW
  refine lv_aload_n C.1 C.2.1 zd_R_read_15 rfl (lv_at hl 0 rfl) ?_
  refine zr_iconst C zd_R_read_16 ?_
  obtain ⟨S4, eS4, hf⟩ := zlt_some hf
  refine zp_R_state (r := 0) C hK hap hW hS (zvd_3 (by decide) (by decide)) zk_386 (znb rfl) zd_R_read_17 (fun H locs hW hS => ?_)
  rw [eS4] at hW
  refine lv_aload_n C.1 C.2.1 zd_R_read_20 rfl (lv_at hl 0 rfl) ?_
  refine zr_iconst C zd_R_read_21 ?_
  obtain ⟨S5, eS5, hf⟩ := zlt_some hf
  refine zp_R_brackets (r := 0) C hK hap hW hS (zvd_3 (by decide) (by decide)) zk_387 (znb rfl) zd_R_read_22 (fun H locs hW hS => ?_)
  rw [eS5] at hW
  refine lv_aload_n C.1 C.2.1 zd_R_read_25 rfl (lv_at hl 0 rfl) ?_
  refine zr_iconst C zd_R_read_26 ?_
  obtain ⟨S6, eS6, hf⟩ := zlt_some hf
  refine zp_R_digits (r := 0) C hK hap hW hS (zvd_3 (by decide) (by decide)) zk_388 (znb rfl) zd_R_read_27 (fun H locs hW hS => ?_)
  rw [eS6] at hW
  refine zr_iconst C zd_R_read_30 ?_
  refine lv_istore_n (lv' := [(3, .int (zI (0))), (0, .ref (B.2.1 3 (0) (4))), (1, .ref (B.2.1 g1 (r1) (k1))), (2, .int (zI (x2)))]) C.1 C.2.1 zd_R_read_31 rfl hl (by decide) rfl (fun ls hl => ?_)
  exact zw_R_read_32 C hr hlk hK hSt hap g1 r1 k1 n1 hv1 he1 hn1 hg1 4096 (x2) (0) S6 nx2 (znb rfl) hf _ _ _ hW hS (lv_sub hl [1, 2, 3, 0] rfl)

theorem zc_R_read {l : Launch} {B : zB} (hap : zAp B) (g1 : Nat) (r1 : Int) (k1 : Int) (n1 : Nat) (hv1 : zvd g1 r1 k1) (he1 : ∀ f, zce B f g1 r1 k1 = .inl (B.2.2.1 0, n1, .inl (fun j : Nat => zI (f (j : Int))))) (hn1 : n1 ≤ 65536) (hg1 : (decide (20 ≤ g1)) = false) (x2 : Int) (S : Sg) (nx2 : zn x2) {res : Int} {S9 : Sg} (hf : zf_R_read g1 r1 k1 n1 x2 S = some (res, S9)) : Met l zy_R_read (Cond.code zy_R_read zb_R_read 4 (some .int) :: zT) zm_R_read (zP B S [.ref (B.2.1 3 (0) (4)), .ref (B.2.1 g1 (r1) (k1)), .int (zI (x2))]) (zQi B res S9) 0 0 B.2.2.2 :=
  zmet (by decide) (Nat.le_of_ble_eq_true rfl) (fun p e s m args below meth c C hr hlk hK hSt hW ls hl => zw_R_read C hr hlk hK hSt hap g1 r1 k1 n1 hv1 he1 hn1 hg1 x2 S nx2 hf _ _ _ hW va_S.rf hl)
/-! IslandOffice$Shelf.holdsText()Z -/
abbrev zy_S_holdsText : MethodName := ⟨"IslandOffice$Shelf", "holdsText", "()Z"⟩
abbrev zb_S_holdsText : ByteArray := prog_10_method_5_code
abbrev zm_S_holdsText : Room := { frames := 0, cells := 0, slots := 0, locals := 0 }
theorem zq_S_holdsText : zMy zy_S_holdsText zb_S_holdsText 1 (some .boolean) 0 := ⟨zk_618, zk_616, zk_617, zk_9, by decide, by decide, by decide +kernel⟩
theorem zd_S_holdsText_0 : decode zb_S_holdsText 0 = .ok (.aload_n 0, 1) := by decide +kernel
theorem zd_S_holdsText_1 : decode zb_S_holdsText 1 = .ok (.getfield 11, 3) := by decide +kernel
theorem zd_S_holdsText_4 : decode zb_S_holdsText 4 = .ok (.iconst 3, 1) := by decide +kernel
theorem zd_S_holdsText_5 : decode zb_S_holdsText 5 = .ok (.if_icmp .ne 14, 3) := by decide +kernel
theorem zd_S_holdsText_8 : decode zb_S_holdsText 8 = .ok (.aload_n 0, 1) := by decide +kernel
theorem zd_S_holdsText_9 : decode zb_S_holdsText 9 = .ok (.getfield 24, 3) := by decide +kernel
theorem zd_S_holdsText_12 : decode zb_S_holdsText 12 = .ok (.ifCond .ne 7, 3) := by decide +kernel
theorem zd_S_holdsText_15 : decode zb_S_holdsText 15 = .ok (.iconst 1, 1) := by decide +kernel
theorem zd_S_holdsText_16 : decode zb_S_holdsText 16 = .ok (.goto 4, 3) := by decide +kernel
theorem zd_S_holdsText_19 : decode zb_S_holdsText 19 = .ok (.iconst 0, 1) := by decide +kernel
theorem zd_S_holdsText_20 : decode zb_S_holdsText 20 = .ok (.ireturn, 1) := by decide +kernel

def zf_S_holdsText (r0 : Int) (S : Sg) : Option (Int × Sg) :=
    if (S 2 r0 0 0) = 3 then (if (S 2 r0 0 4) = 0 then (some (1, S)) else (some (0, S))) else (some (0, S))
set_option maxHeartbeats 4000000 in
set_option maxRecDepth 100000 in
theorem zw_S_holdsText {p : Program} {l : Launch} {e : Env} {s : State} {m : MethodId} {args : Array Value} {below : List Frame} {meth : Method} {c : Code} {B : zB} (C : CallFix p m c zb_S_holdsText 1 s args zT "IslandOffice$Shelf") (hr : meth.sig.returnType = some .boolean) (hlk : meth.locks = false) (hK : zK B s) (hSt : zSt B s) (hap : zAp B) (r0 : Int) (hr0 : 0 ≤ r0 ∧ r0 < 8) {res : Int} {S9 : Sg} : ∀  (S : Sg) , zf_S_holdsText r0  S = some (res, S9) → ∀ (H : Heap) (locs : List Loc) (ls : Array Slot), zW B S H → va_S B.2.2.2 s.heap H locs → lv_has ls 1 [(0, .ref (B.2.1 2 (r0) (0)))] → W p l e zm_S_holdsText s m args below meth c H locs 0 0 (MQ below (zQi B res S9) args s 0 0 B.2.2.2) (F0 m 0 ls []) := by
  intro S hf H locs ls hW hS hl
  unfold zf_S_holdsText at hf
  refine lv_aload_n C.1 C.2.1 zd_S_holdsText_0 rfl (lv_at hl 0 rfl) ?_
  refine zg_S_holds (r := r0) C hK hW (zvd_2 hr0 (by decide)) zk_343 zd_S_holdsText_1 ?_
  refine zr_iconst C zd_S_holdsText_4 ?_
  refine zr_icmp_ne (tgt := 19) C (zWn hW _ _ _ _ rfl) (znb rfl) zd_S_holdsText_5 (by decide) (fun c1 => ?_) (fun c1 => ?_)
  · rw [if_neg c1] at hf
    refine zr_iconst C zd_S_holdsText_19 ?_
    cases hf
    exact zre_z C hr hlk hK hW hS (znb rfl) (zb01 (by decide)) zd_S_holdsText_20
  · rw [if_pos c1] at hf
    refine lv_aload_n C.1 C.2.1 zd_S_holdsText_8 rfl (lv_at hl 0 rfl) ?_
    refine zg_S_sort (r := r0) C hK hW (zvd_2 hr0 (by decide)) zk_351 zd_S_holdsText_9 ?_
    refine zr_if_ne (tgt := 19) C (zWn hW _ _ _ _ rfl) zd_S_holdsText_12 (by decide) (fun c2 => ?_) (fun c2 => ?_)
    · rw [if_neg c2] at hf
      refine zr_iconst C zd_S_holdsText_19 ?_
      cases hf
      exact zre_z C hr hlk hK hW hS (znb rfl) (zb01 (by decide)) zd_S_holdsText_20
    · rw [if_pos c2] at hf
      refine zr_iconst C zd_S_holdsText_15 ?_
      refine lv_goto (tgt := 20) C.1 C.2.1 zd_S_holdsText_16 (by decide) ?_
      cases hf
      exact zre_z C hr hlk hK hW hS (znb rfl) (zb01 (by decide)) zd_S_holdsText_20

theorem zc_S_holdsText {l : Launch} {B : zB} (hap : zAp B) (r0 : Int) (hr0 : 0 ≤ r0 ∧ r0 < 8) (S : Sg) {res : Int} {S9 : Sg} (hf : zf_S_holdsText r0 S = some (res, S9)) : Met l zy_S_holdsText (Cond.code zy_S_holdsText zb_S_holdsText 1 (some .boolean) :: zT) zm_S_holdsText (zP B S [.ref (B.2.1 2 (r0) (0))]) (zQi B res S9) 0 0 B.2.2.2 :=
  zmet (by decide) (Nat.le_of_ble_eq_true rfl) (fun p e s m args below meth c C hr hlk hK hSt hW ls hl => zw_S_holdsText C hr hlk hK hSt hap r0 hr0  S  hf _ _ _ hW va_S.rf hl)
/-! IslandOffice.fault(I)I -/
abbrev zy_O_fault : MethodName := ⟨"IslandOffice", "fault", "(I)I"⟩
abbrev zb_O_fault : ByteArray := prog_1_method_12_code
abbrev zm_O_fault : Room := { frames := 5, cells := 0, slots := 0, locals := 130 }
theorem zq_O_fault : zMy zy_O_fault zb_O_fault 3 (some .int) 1 := ⟨zk_611, zk_609, zk_610, zk_1, by decide, by decide, by decide +kernel⟩
theorem zd_O_fault_0 : decode zb_O_fault 0 = .ok (.iload_n 1, 1) := by decide +kernel
theorem zd_O_fault_1 : decode zb_O_fault 1 = .ok (.invokestatic 151, 3) := by decide +kernel
theorem zd_O_fault_4 : decode zb_O_fault 4 = .ok (.ifCond .ne 5, 3) := by decide +kernel
theorem zd_O_fault_7 : decode zb_O_fault 7 = .ok (.iconst (-1), 1) := by decide +kernel
theorem zd_O_fault_8 : decode zb_O_fault 8 = .ok (.ireturn, 1) := by decide +kernel
theorem zd_O_fault_9 : decode zb_O_fault 9 = .ok (.aload_n 0, 1) := by decide +kernel
theorem zd_O_fault_10 : decode zb_O_fault 10 = .ok (.getfield 36, 3) := by decide +kernel
theorem zd_O_fault_13 : decode zb_O_fault 13 = .ok (.iload_n 1, 1) := by decide +kernel
theorem zd_O_fault_14 : decode zb_O_fault 14 = .ok (.aaload, 1) := by decide +kernel
theorem zd_O_fault_15 : decode zb_O_fault 15 = .ok (.astore_n 2, 1) := by decide +kernel
theorem zd_O_fault_16 : decode zb_O_fault 16 = .ok (.aload_n 2, 1) := by decide +kernel
theorem zd_O_fault_17 : decode zb_O_fault 17 = .ok (.getfield 154, 3) := by decide +kernel
theorem zd_O_fault_20 : decode zb_O_fault 20 = .ok (.ifCond .ne 6, 3) := by decide +kernel
theorem zd_O_fault_23 : decode zb_O_fault 23 = .ok (.bipush (-11), 2) := by decide +kernel
theorem zd_O_fault_25 : decode zb_O_fault 25 = .ok (.ireturn, 1) := by decide +kernel
theorem zd_O_fault_26 : decode zb_O_fault 26 = .ok (.aload_n 2, 1) := by decide +kernel
theorem zd_O_fault_27 : decode zb_O_fault 27 = .ok (.invokevirtual 157, 3) := by decide +kernel
theorem zd_O_fault_30 : decode zb_O_fault 30 = .ok (.ifCond .ne 6, 3) := by decide +kernel
theorem zd_O_fault_33 : decode zb_O_fault 33 = .ok (.bipush (-12), 2) := by decide +kernel
theorem zd_O_fault_35 : decode zb_O_fault 35 = .ok (.ireturn, 1) := by decide +kernel
theorem zd_O_fault_36 : decode zb_O_fault 36 = .ok (.aload_n 0, 1) := by decide +kernel
theorem zd_O_fault_37 : decode zb_O_fault 37 = .ok (.getfield 44, 3) := by decide +kernel
theorem zd_O_fault_40 : decode zb_O_fault 40 = .ok (.aload_n 2, 1) := by decide +kernel
theorem zd_O_fault_41 : decode zb_O_fault 41 = .ok (.getfield 161, 3) := by decide +kernel
theorem zd_O_fault_44 : decode zb_O_fault 44 = .ok (.aload_n 2, 1) := by decide +kernel
theorem zd_O_fault_45 : decode zb_O_fault 45 = .ok (.getfield 164, 3) := by decide +kernel
theorem zd_O_fault_48 : decode zb_O_fault 48 = .ok (.invokevirtual 167, 3) := by decide +kernel
theorem zd_O_fault_51 : decode zb_O_fault 51 = .ok (.ireturn, 1) := by decide +kernel

def zf_O_fault (x1 : Int) (S : Sg) : Option (Int × Sg) :=
    zbd (zf_O_isShelf x1 S) fun a1 S2 => if a1 = 0 then (some (-1, S2)) else (zck (0 ≤ x1 ∧ x1 < 8) <| if (S2 2 x1 0 0) = 0 then (some (-11, S2)) else (zbd (zf_S_holdsText (x1) S2) fun a6 S7 => if a6 = 0 then (some (-12, S7)) else (zbd (zf_R_read 2 (x1) (1) 120 (S7 2 x1 0 5) S7) fun a9 S10 => some (a9, S10))))
set_option maxHeartbeats 4000000 in
set_option maxRecDepth 100000 in
theorem zw_O_fault {p : Program} {l : Launch} {e : Env} {s : State} {m : MethodId} {args : Array Value} {below : List Frame} {meth : Method} {c : Code} {B : zB} (C : CallFix p m c zb_O_fault 3 s args zT "IslandOffice") (hr : meth.sig.returnType = some .int) (hlk : meth.locks = false) (hK : zK B s) (hSt : zSt B s) (hap : zAp B) {res : Int} {S9 : Sg} : ∀ (x1 : Int) (S : Sg) (nx1 : zn x1), zf_O_fault x1 S = some (res, S9) → ∀ (H : Heap) (locs : List Loc) (ls : Array Slot), zW B S H → va_S B.2.2.2 s.heap H locs → lv_has ls 3 [(0, .ref (B.2.1 3 (0) (0))), (1, .int (zI (x1)))] → W p l e zm_O_fault s m args below meth c H locs 0 0 (MQ below (zQi B res S9) args s 0 0 B.2.2.2) (F0 m 0 ls []) := by
  intro x1 S nx1 hf H locs ls hW hS hl
  unfold zf_O_fault at hf
  refine lv_iload_n C.1 C.2.1 zd_O_fault_0 rfl (lv_at hl 1 rfl) ?_
  obtain ⟨a1, S2, ea1, hf⟩ := zbd_some hf
  refine zcSi (As := [.int (zI (x1))]) (rest := []) C hK hSt hW hS (zc_O_isShelf hap x1 S nx1 ea1) zq_O_isShelf zk_612 ⟨rfl, rfl, by decide, by decide⟩ ⟨Nat.zero_le _, Nat.zero_le _⟩ rfl hl.1 rfl (lv_room (Nat.le_of_ble_eq_true rfl)) zd_O_fault_1 (fun na1 H locs hW hS => ?_)
  refine zr_if_ne (tgt := 9) C na1 zd_O_fault_4 (by decide) (fun c3 => ?_) (fun c3 => ?_)
  · rw [if_neg c3] at hf
    refine lv_aload_n C.1 C.2.1 zd_O_fault_9 rfl (lv_at hl 0 rfl) ?_
    refine zg_O_shelves (r := 0) C hK hW (zvd_3 (by decide) (by decide)) zk_497 zd_O_fault_10 ?_
    refine lv_iload_n C.1 C.2.1 zd_O_fault_13 rfl (lv_at hl 1 rfl) ?_
    obtain ⟨h4, hf⟩ := zck_some hf
    refine zaald (t0 := 3) C hK hW (zvd_3 (by decide) (by decide)) (fun f => ze_3_3 B f (0)) rfl rfl (by decide) h4 zd_O_fault_14 (a := B.2.1 2 (x1) (0)) (by rw [Int.toNat_of_nonneg h4.1]) ?_
    refine lv_astore_n (lv' := [(2, .ref (B.2.1 2 (x1) (0))), (0, .ref (B.2.1 3 (0) (0))), (1, .int (zI (x1)))]) C.1 C.2.1 zd_O_fault_15 rfl hl (by decide) rfl (fun ls hl => ?_)
    refine lv_aload_n C.1 C.2.1 zd_O_fault_16 rfl (lv_at hl 0 rfl) ?_
    refine zg_S_holds (r := x1) C hK hW (zvd_2 h4 (by decide)) zk_344 zd_O_fault_17 ?_
    refine zr_if_ne (tgt := 26) C (zWn hW _ _ _ _ rfl) zd_O_fault_20 (by decide) (fun c5 => ?_) (fun c5 => ?_)
    · rw [if_neg c5] at hf
      refine lv_aload_n C.1 C.2.1 zd_O_fault_26 rfl (lv_at hl 0 rfl) ?_
      obtain ⟨a6, S7, ea6, hf⟩ := zbd_some hf
      refine zcVi (As := []) (rest := []) C hK hSt hW hS (zc_S_holdsText hap (x1) h4 S2 ea6) zq_S_holdsText zk_615 (zrecv hK hW (zvd_2 h4 (by decide)) (ze_2_0 B _ (x1)) rfl) ⟨rfl, rfl, by decide, by decide⟩ ⟨Nat.zero_le _, Nat.zero_le _⟩ rfl hl.1 rfl (lv_room (Nat.le_of_ble_eq_true rfl)) zd_O_fault_27 (fun na6 H locs hW hS => ?_)
      refine zr_if_ne (tgt := 36) C na6 zd_O_fault_30 (by decide) (fun c8 => ?_) (fun c8 => ?_)
      · rw [if_neg c8] at hf
        refine lv_aload_n C.1 C.2.1 zd_O_fault_36 rfl (lv_at hl 1 rfl) ?_
        refine zg_O_reader (r := 0) C hK hW (zvd_3 (by decide) (by decide)) zk_498 zd_O_fault_37 ?_
        refine lv_aload_n C.1 C.2.1 zd_O_fault_40 rfl (lv_at hl 0 rfl) ?_
        refine zg_S_cell (r := x1) C hK hW (zvd_2 h4 (by decide)) zk_356 zd_O_fault_41 ?_
        refine lv_aload_n C.1 C.2.1 zd_O_fault_44 rfl (lv_at hl 0 rfl) ?_
        refine zg_S_size (r := x1) C hK hW (zvd_2 h4 (by decide)) zk_354 zd_O_fault_45 ?_
        obtain ⟨a9, S10, ea9, hf⟩ := zbd_some hf
        refine zcVi (As := [.ref (B.2.1 2 (x1) (1)), .int (zI (S7 2 x1 0 5))]) (rest := []) C hK hSt hW hS (zc_R_read hap 2 (x1) (1) 120 (zvd_2 h4 (by decide)) (fun f => ze_2_1 B f (x1)) (by decide) rfl (S7 2 x1 0 5) S7 (zWn hW _ _ _ _ rfl) ea9) zq_R_read zk_619 (zrecv hK hW (zvd_3 (by decide) (by decide)) (ze_3_4 B _ (0)) rfl) ⟨rfl, rfl, by decide, by decide⟩ ⟨Nat.zero_le _, Nat.zero_le _⟩ rfl hl.1 rfl (lv_room (Nat.le_of_ble_eq_true rfl)) zd_O_fault_48 (fun na9 H locs hW hS => ?_)
        cases hf
        exact zre_i C hr hlk hK hW hS na9 zd_O_fault_51
      · rw [if_pos c8] at hf
        refine zr_bipush C zd_O_fault_33 (by decide) ?_
        cases hf
        exact zre_i C hr hlk hK hW hS (znb rfl) zd_O_fault_35
    · rw [if_pos c5] at hf
      refine zr_bipush C zd_O_fault_23 (by decide) ?_
      cases hf
      exact zre_i C hr hlk hK hW hS (znb rfl) zd_O_fault_25
  · rw [if_pos c3] at hf
    refine zr_iconst C zd_O_fault_7 ?_
    cases hf
    exact zre_i C hr hlk hK hW hS (znb rfl) zd_O_fault_8

theorem zc_O_fault {l : Launch} {B : zB} (hap : zAp B) (x1 : Int) (S : Sg) (nx1 : zn x1) {res : Int} {S9 : Sg} (hf : zf_O_fault x1 S = some (res, S9)) : Met l zy_O_fault (Cond.code zy_O_fault zb_O_fault 3 (some .int) :: zT) zm_O_fault (zP B S [.ref (B.2.1 3 (0) (0)), .int (zI (x1))]) (zQi B res S9) 0 0 B.2.2.2 :=
  zmet (by decide) (Nat.le_of_ble_eq_true rfl) (fun p e s m args below meth c C hr hlk hK hSt hW ls hl => zw_O_fault C hr hlk hK hSt hap   x1 S nx1 hf _ _ _ hW va_S.rf hl)
/-! IslandOffice$Judge.allowsWithoutLaw(LIslandOffice$Island;II)Z -/
abbrev zy_J_allowsWithoutLaw : MethodName := ⟨"IslandOffice$Judge", "allowsWithoutLaw", "(LIslandOffice$Island;II)Z"⟩
abbrev zb_J_allowsWithoutLaw : ByteArray := prog_5_method_4_code
abbrev zm_J_allowsWithoutLaw : Room := { frames := 1, cells := 0, slots := 0, locals := 22 }
theorem zq_J_allowsWithoutLaw : zMs zy_J_allowsWithoutLaw zb_J_allowsWithoutLaw 3 (some .boolean) 3 := ⟨zk_698, zk_697, zk_11, by decide, by decide, by decide +kernel⟩
theorem zd_J_allowsWithoutLaw_0 : decode zb_J_allowsWithoutLaw 0 = .ok (.iload_n 1, 1) := by decide +kernel
theorem zd_J_allowsWithoutLaw_1 : decode zb_J_allowsWithoutLaw 1 = .ok (.ifCond .ne 26, 3) := by decide +kernel
theorem zd_J_allowsWithoutLaw_4 : decode zb_J_allowsWithoutLaw 4 = .ok (.aload_n 0, 1) := by decide +kernel
theorem zd_J_allowsWithoutLaw_5 : decode zb_J_allowsWithoutLaw 5 = .ok (.getfield 22, 3) := by decide +kernel
theorem zd_J_allowsWithoutLaw_8 : decode zb_J_allowsWithoutLaw 8 = .ok (.iload_n 2, 1) := by decide +kernel
theorem zd_J_allowsWithoutLaw_9 : decode zb_J_allowsWithoutLaw 9 = .ok (.aload_n 0, 1) := by decide +kernel
theorem zd_J_allowsWithoutLaw_10 : decode zb_J_allowsWithoutLaw 10 = .ok (.getfield 47, 3) := by decide +kernel
theorem zd_J_allowsWithoutLaw_13 : decode zb_J_allowsWithoutLaw 13 = .ok (.invokevirtual 74, 3) := by decide +kernel
theorem zd_J_allowsWithoutLaw_16 : decode zb_J_allowsWithoutLaw 16 = .ok (.bipush 18, 2) := by decide +kernel
theorem zd_J_allowsWithoutLaw_18 : decode zb_J_allowsWithoutLaw 18 = .ok (.if_icmp .lt 7, 3) := by decide +kernel
theorem zd_J_allowsWithoutLaw_21 : decode zb_J_allowsWithoutLaw 21 = .ok (.iconst 1, 1) := by decide +kernel
theorem zd_J_allowsWithoutLaw_22 : decode zb_J_allowsWithoutLaw 22 = .ok (.goto 4, 3) := by decide +kernel
theorem zd_J_allowsWithoutLaw_25 : decode zb_J_allowsWithoutLaw 25 = .ok (.iconst 0, 1) := by decide +kernel
theorem zd_J_allowsWithoutLaw_26 : decode zb_J_allowsWithoutLaw 26 = .ok (.ireturn, 1) := by decide +kernel
theorem zd_J_allowsWithoutLaw_27 : decode zb_J_allowsWithoutLaw 27 = .ok (.iload_n 1, 1) := by decide +kernel
theorem zd_J_allowsWithoutLaw_28 : decode zb_J_allowsWithoutLaw 28 = .ok (.iconst 2, 1) := by decide +kernel
theorem zd_J_allowsWithoutLaw_29 : decode zb_J_allowsWithoutLaw 29 = .ok (.if_icmp .eq 7, 3) := by decide +kernel
theorem zd_J_allowsWithoutLaw_32 : decode zb_J_allowsWithoutLaw 32 = .ok (.iconst 1, 1) := by decide +kernel
theorem zd_J_allowsWithoutLaw_33 : decode zb_J_allowsWithoutLaw 33 = .ok (.goto 4, 3) := by decide +kernel
theorem zd_J_allowsWithoutLaw_36 : decode zb_J_allowsWithoutLaw 36 = .ok (.iconst 0, 1) := by decide +kernel
theorem zd_J_allowsWithoutLaw_37 : decode zb_J_allowsWithoutLaw 37 = .ok (.ireturn, 1) := by decide +kernel

def zf_J_allowsWithoutLaw (r0 : Int) (x1 : Int) (x2 : Int) (S : Sg) : Option (Int × Sg) :=
    if x1 = 0 then (zbd (zf_P_age (r0) x2 (S 0 r0 0 0) S) fun a3 S4 => if a3 < 18 then (some (0, S4)) else (some (1, S4))) else (if x1 = 2 then (some (0, S)) else (some (1, S)))
set_option maxHeartbeats 4000000 in
set_option maxRecDepth 100000 in
theorem zw_J_allowsWithoutLaw {p : Program} {l : Launch} {e : Env} {s : State} {m : MethodId} {args : Array Value} {below : List Frame} {meth : Method} {c : Code} {B : zB} (C : CallFix p m c zb_J_allowsWithoutLaw 3 s args zT "IslandOffice$Judge") (hr : meth.sig.returnType = some .boolean) (hlk : meth.locks = false) (hK : zK B s) (hSt : zSt B s) (hap : zAp B) (r0 : Int) (hr0 : 0 ≤ r0 ∧ r0 < 3) {res : Int} {S9 : Sg} : ∀ (x1 : Int) (x2 : Int) (S : Sg) (nx1 : zn x1) (nx2 : zn x2), zf_J_allowsWithoutLaw r0 x1 x2 S = some (res, S9) → ∀ (H : Heap) (locs : List Loc) (ls : Array Slot), zW B S H → va_S B.2.2.2 s.heap H locs → lv_has ls 3 [(0, .ref (B.2.1 0 (r0) (0))), (1, .int (zI (x1))), (2, .int (zI (x2)))] → W p l e zm_J_allowsWithoutLaw s m args below meth c H locs 0 0 (MQ below (zQi B res S9) args s 0 0 B.2.2.2) (F0 m 0 ls []) := by
  intro x1 x2 S nx1 nx2 hf H locs ls hW hS hl
  unfold zf_J_allowsWithoutLaw at hf
  refine lv_iload_n C.1 C.2.1 zd_J_allowsWithoutLaw_0 rfl (lv_at hl 1 rfl) ?_
  refine zr_if_ne (tgt := 27) C nx1 zd_J_allowsWithoutLaw_1 (by decide) (fun c1 => ?_) (fun c1 => ?_)
  · rw [if_neg c1] at hf
    refine lv_iload_n C.1 C.2.1 zd_J_allowsWithoutLaw_27 rfl (lv_at hl 1 rfl) ?_
    refine zr_iconst C zd_J_allowsWithoutLaw_28 ?_
    refine zr_icmp_eq (tgt := 36) C nx1 (znb rfl) zd_J_allowsWithoutLaw_29 (by decide) (fun c2 => ?_) (fun c2 => ?_)
    · rw [if_pos c2] at hf
      refine zr_iconst C zd_J_allowsWithoutLaw_36 ?_
      cases hf
      exact zre_z C hr hlk hK hW hS (znb rfl) (zb01 (by decide)) zd_J_allowsWithoutLaw_37
    · rw [if_neg c2] at hf
      refine zr_iconst C zd_J_allowsWithoutLaw_32 ?_
      refine lv_goto (tgt := 37) C.1 C.2.1 zd_J_allowsWithoutLaw_33 (by decide) ?_
      cases hf
      exact zre_z C hr hlk hK hW hS (znb rfl) (zb01 (by decide)) zd_J_allowsWithoutLaw_37
  · rw [if_pos c1] at hf
    refine lv_aload_n C.1 C.2.1 zd_J_allowsWithoutLaw_4 rfl (lv_at hl 0 rfl) ?_
    refine zg_I_people (r := r0) C hK hW (zvd_0 hr0 (by decide)) zk_279 zd_J_allowsWithoutLaw_5 ?_
    refine lv_iload_n C.1 C.2.1 zd_J_allowsWithoutLaw_8 rfl (lv_at hl 2 rfl) ?_
    refine lv_aload_n C.1 C.2.1 zd_J_allowsWithoutLaw_9 rfl (lv_at hl 0 rfl) ?_
    refine zg_I_week (r := r0) C hK hW (zvd_0 hr0 (by decide)) zk_241 zd_J_allowsWithoutLaw_10 ?_
    obtain ⟨a3, S4, ea3, hf⟩ := zbd_some hf
    refine zcVi (As := [.int (zI (x2)), .int (zI (S 0 r0 0 0))]) (rest := []) C hK hSt hW hS (zc_P_age hap (r0) hr0 x2 (S 0 r0 0 0) S nx2 (zWn hW _ _ _ _ rfl) ea3) zq_P_age zk_699 (zrecv hK hW (zvd_0 hr0 (by decide)) (ze_0_6 B _ (r0)) rfl) ⟨rfl, rfl, by decide, by decide⟩ ⟨Nat.zero_le _, Nat.zero_le _⟩ rfl hl.1 rfl (lv_room (Nat.le_of_ble_eq_true rfl)) zd_J_allowsWithoutLaw_13 (fun na3 H locs hW hS => ?_)
    refine zr_bipush C zd_J_allowsWithoutLaw_16 (by decide) ?_
    refine zr_icmp_lt (tgt := 25) C na3 (znb rfl) zd_J_allowsWithoutLaw_18 (by decide) (fun c5 => ?_) (fun c5 => ?_)
    · rw [if_pos c5] at hf
      refine zr_iconst C zd_J_allowsWithoutLaw_25 ?_
      cases hf
      exact zre_z C hr hlk hK hW hS (znb rfl) (zb01 (by decide)) zd_J_allowsWithoutLaw_26
    · rw [if_neg c5] at hf
      refine zr_iconst C zd_J_allowsWithoutLaw_21 ?_
      refine lv_goto (tgt := 26) C.1 C.2.1 zd_J_allowsWithoutLaw_22 (by decide) ?_
      cases hf
      exact zre_z C hr hlk hK hW hS (znb rfl) (zb01 (by decide)) zd_J_allowsWithoutLaw_26

theorem zc_J_allowsWithoutLaw {l : Launch} {B : zB} (hap : zAp B) (r0 : Int) (hr0 : 0 ≤ r0 ∧ r0 < 3) (x1 : Int) (x2 : Int) (S : Sg) (nx1 : zn x1) (nx2 : zn x2) {res : Int} {S9 : Sg} (hf : zf_J_allowsWithoutLaw r0 x1 x2 S = some (res, S9)) : Met l zy_J_allowsWithoutLaw (Cond.code zy_J_allowsWithoutLaw zb_J_allowsWithoutLaw 3 (some .boolean) :: zT) zm_J_allowsWithoutLaw (zP B S [.ref (B.2.1 0 (r0) (0)), .int (zI (x1)), .int (zI (x2))]) (zQi B res S9) 0 0 B.2.2.2 :=
  zmet (by decide) (Nat.le_of_ble_eq_true rfl) (fun p e s m args below meth c C hr hlk hK hSt hW ls hl => zw_J_allowsWithoutLaw C hr hlk hK hSt hap r0 hr0 x1 x2 S nx1 nx2 hf _ _ _ hW va_S.rf hl)
/-! java/lang/Integer.bitCount(I)I -/
abbrev zy_Ji_bitCount : MethodName := ⟨"java/lang/Integer", "bitCount", "(I)I"⟩
abbrev zb_Ji_bitCount : ByteArray := prog_19_method_49_code
abbrev zm_Ji_bitCount : Room := { frames := 0, cells := 0, slots := 0, locals := 0 }
theorem zq_Ji_bitCount : zMs zy_Ji_bitCount zb_Ji_bitCount 1 (some .int) 1 := ⟨zk_708, zk_707, zk_17, by decide, by decide, by decide +kernel⟩
theorem zd_Ji_bitCount_0 : decode zb_Ji_bitCount 0 = .ok (.iload_n 0, 1) := by decide +kernel
theorem zd_Ji_bitCount_1 : decode zb_Ji_bitCount 1 = .ok (.iload_n 0, 1) := by decide +kernel
theorem zd_Ji_bitCount_2 : decode zb_Ji_bitCount 2 = .ok (.iconst 1, 1) := by decide +kernel
theorem zd_Ji_bitCount_3 : decode zb_Ji_bitCount 3 = .ok (.iushr, 1) := by decide +kernel
theorem zd_Ji_bitCount_4 : decode zb_Ji_bitCount 4 = .ok (.ldc_w 265, 3) := by decide +kernel
theorem zd_Ji_bitCount_7 : decode zb_Ji_bitCount 7 = .ok (.iand, 1) := by decide +kernel
theorem zd_Ji_bitCount_8 : decode zb_Ji_bitCount 8 = .ok (.isub, 1) := by decide +kernel
theorem zd_Ji_bitCount_9 : decode zb_Ji_bitCount 9 = .ok (.istore_n 0, 1) := by decide +kernel
theorem zd_Ji_bitCount_10 : decode zb_Ji_bitCount 10 = .ok (.iload_n 0, 1) := by decide +kernel
theorem zd_Ji_bitCount_11 : decode zb_Ji_bitCount 11 = .ok (.ldc_w 266, 3) := by decide +kernel
theorem zd_Ji_bitCount_14 : decode zb_Ji_bitCount 14 = .ok (.iand, 1) := by decide +kernel
theorem zd_Ji_bitCount_15 : decode zb_Ji_bitCount 15 = .ok (.iload_n 0, 1) := by decide +kernel
theorem zd_Ji_bitCount_16 : decode zb_Ji_bitCount 16 = .ok (.iconst 2, 1) := by decide +kernel
theorem zd_Ji_bitCount_17 : decode zb_Ji_bitCount 17 = .ok (.iushr, 1) := by decide +kernel
theorem zd_Ji_bitCount_18 : decode zb_Ji_bitCount 18 = .ok (.ldc_w 266, 3) := by decide +kernel
theorem zd_Ji_bitCount_21 : decode zb_Ji_bitCount 21 = .ok (.iand, 1) := by decide +kernel
theorem zd_Ji_bitCount_22 : decode zb_Ji_bitCount 22 = .ok (.iadd, 1) := by decide +kernel
theorem zd_Ji_bitCount_23 : decode zb_Ji_bitCount 23 = .ok (.istore_n 0, 1) := by decide +kernel
theorem zd_Ji_bitCount_24 : decode zb_Ji_bitCount 24 = .ok (.iload_n 0, 1) := by decide +kernel
theorem zd_Ji_bitCount_25 : decode zb_Ji_bitCount 25 = .ok (.iload_n 0, 1) := by decide +kernel
theorem zd_Ji_bitCount_26 : decode zb_Ji_bitCount 26 = .ok (.iconst 4, 1) := by decide +kernel
theorem zd_Ji_bitCount_27 : decode zb_Ji_bitCount 27 = .ok (.iushr, 1) := by decide +kernel
theorem zd_Ji_bitCount_28 : decode zb_Ji_bitCount 28 = .ok (.iadd, 1) := by decide +kernel
theorem zd_Ji_bitCount_29 : decode zb_Ji_bitCount 29 = .ok (.ldc_w 267, 3) := by decide +kernel
theorem zd_Ji_bitCount_32 : decode zb_Ji_bitCount 32 = .ok (.iand, 1) := by decide +kernel
theorem zd_Ji_bitCount_33 : decode zb_Ji_bitCount 33 = .ok (.istore_n 0, 1) := by decide +kernel
theorem zd_Ji_bitCount_34 : decode zb_Ji_bitCount 34 = .ok (.iload_n 0, 1) := by decide +kernel
theorem zd_Ji_bitCount_35 : decode zb_Ji_bitCount 35 = .ok (.iload_n 0, 1) := by decide +kernel
theorem zd_Ji_bitCount_36 : decode zb_Ji_bitCount 36 = .ok (.bipush 8, 2) := by decide +kernel
theorem zd_Ji_bitCount_38 : decode zb_Ji_bitCount 38 = .ok (.iushr, 1) := by decide +kernel
theorem zd_Ji_bitCount_39 : decode zb_Ji_bitCount 39 = .ok (.iadd, 1) := by decide +kernel
theorem zd_Ji_bitCount_40 : decode zb_Ji_bitCount 40 = .ok (.istore_n 0, 1) := by decide +kernel
theorem zd_Ji_bitCount_41 : decode zb_Ji_bitCount 41 = .ok (.iload_n 0, 1) := by decide +kernel
theorem zd_Ji_bitCount_42 : decode zb_Ji_bitCount 42 = .ok (.iload_n 0, 1) := by decide +kernel
theorem zd_Ji_bitCount_43 : decode zb_Ji_bitCount 43 = .ok (.bipush 16, 2) := by decide +kernel
theorem zd_Ji_bitCount_45 : decode zb_Ji_bitCount 45 = .ok (.iushr, 1) := by decide +kernel
theorem zd_Ji_bitCount_46 : decode zb_Ji_bitCount 46 = .ok (.iadd, 1) := by decide +kernel
theorem zd_Ji_bitCount_47 : decode zb_Ji_bitCount 47 = .ok (.istore_n 0, 1) := by decide +kernel
theorem zd_Ji_bitCount_48 : decode zb_Ji_bitCount 48 = .ok (.iload_n 0, 1) := by decide +kernel
theorem zd_Ji_bitCount_49 : decode zb_Ji_bitCount 49 = .ok (.bipush 63, 2) := by decide +kernel
theorem zd_Ji_bitCount_51 : decode zb_Ji_bitCount 51 = .ok (.iand, 1) := by decide +kernel
theorem zd_Ji_bitCount_52 : decode zb_Ji_bitCount 52 = .ok (.ireturn, 1) := by decide +kernel

def zf_Ji_bitCount (x0 : Int) (S : Sg) : Option (Int × Sg) :=
    zlt (zw (x0 - (zand (zius x0 1) 1431655765))) fun v1 => zlt (zw ((zand v1 858993459) + (zand (zius v1 2) 858993459))) fun v2 => zlt (zand (zw (v2 + (zius v2 4))) 252645135) fun v3 => zlt (zw (v3 + (zius v3 8))) fun v4 => zlt (zw (v4 + (zius v4 16))) fun v5 => some (zand v5 63, S)
set_option maxHeartbeats 4000000 in
set_option maxRecDepth 100000 in
theorem zw_Ji_bitCount {p : Program} {l : Launch} {e : Env} {s : State} {m : MethodId} {args : Array Value} {below : List Frame} {meth : Method} {c : Code} {B : zB} (C : CallFix p m c zb_Ji_bitCount 1 s args zT "java/lang/Integer") (hr : meth.sig.returnType = some .int) (hlk : meth.locks = false) (hK : zK B s) (hSt : zSt B s) (hap : zAp B) {res : Int} {S9 : Sg} : ∀ (x0 : Int) (S : Sg) (nx0 : zn x0), zf_Ji_bitCount x0 S = some (res, S9) → ∀ (H : Heap) (locs : List Loc) (ls : Array Slot), zW B S H → va_S B.2.2.2 s.heap H locs → lv_has ls 1 [(0, .int (zI (x0)))] → W p l e zm_Ji_bitCount s m args below meth c H locs 0 0 (MQ below (zQi B res S9) args s 0 0 B.2.2.2) (F0 m 0 ls []) := by
  intro x0 S nx0 hf H locs ls hW hS hl
  unfold zf_Ji_bitCount at hf
  refine lv_iload_n C.1 C.2.1 zd_Ji_bitCount_0 rfl (lv_at hl 0 rfl) ?_
  refine lv_iload_n C.1 C.2.1 zd_Ji_bitCount_1 rfl (lv_at hl 0 rfl) ?_
  refine zr_iconst C zd_Ji_bitCount_2 ?_
  refine zr_iushr C zd_Ji_bitCount_3 ?_
  refine zr_ldcw (n := 1431655765) C zk_709 (by decide) zd_Ji_bitCount_4 ?_
  refine zr_iand C zd_Ji_bitCount_7 ?_
  refine zr_isub C zd_Ji_bitCount_8 ?_
  obtain ⟨v1, ev1, hf⟩ := zlt_some hf
  have nv1 : zn v1 := by rw [← ev1]; exact (zn_w _)
  rw [ev1]
  refine lv_istore_n (lv' := [(0, .int (zI (v1)))]) C.1 C.2.1 zd_Ji_bitCount_9 rfl hl (by decide) rfl (fun ls hl => ?_)
  refine lv_iload_n C.1 C.2.1 zd_Ji_bitCount_10 rfl (lv_at hl 0 rfl) ?_
  refine zr_ldcw (n := 858993459) C zk_710 (by decide) zd_Ji_bitCount_11 ?_
  refine zr_iand C zd_Ji_bitCount_14 ?_
  refine lv_iload_n C.1 C.2.1 zd_Ji_bitCount_15 rfl (lv_at hl 0 rfl) ?_
  refine zr_iconst C zd_Ji_bitCount_16 ?_
  refine zr_iushr C zd_Ji_bitCount_17 ?_
  refine zr_ldcw (n := 858993459) C zk_710 (by decide) zd_Ji_bitCount_18 ?_
  refine zr_iand C zd_Ji_bitCount_21 ?_
  refine zr_iadd C zd_Ji_bitCount_22 ?_
  obtain ⟨v2, ev2, hf⟩ := zlt_some hf
  have nv2 : zn v2 := by rw [← ev2]; exact (zn_w _)
  rw [ev2]
  refine lv_istore_n (lv' := [(0, .int (zI (v2)))]) C.1 C.2.1 zd_Ji_bitCount_23 rfl hl (by decide) rfl (fun ls hl => ?_)
  refine lv_iload_n C.1 C.2.1 zd_Ji_bitCount_24 rfl (lv_at hl 0 rfl) ?_
  refine lv_iload_n C.1 C.2.1 zd_Ji_bitCount_25 rfl (lv_at hl 0 rfl) ?_
  refine zr_iconst C zd_Ji_bitCount_26 ?_
  refine zr_iushr C zd_Ji_bitCount_27 ?_
  refine zr_iadd C zd_Ji_bitCount_28 ?_
  refine zr_ldcw (n := 252645135) C zk_711 (by decide) zd_Ji_bitCount_29 ?_
  refine zr_iand C zd_Ji_bitCount_32 ?_
  obtain ⟨v3, ev3, hf⟩ := zlt_some hf
  have nv3 : zn v3 := by rw [← ev3]; exact (zn_and _ _)
  rw [ev3]
  refine lv_istore_n (lv' := [(0, .int (zI (v3)))]) C.1 C.2.1 zd_Ji_bitCount_33 rfl hl (by decide) rfl (fun ls hl => ?_)
  refine lv_iload_n C.1 C.2.1 zd_Ji_bitCount_34 rfl (lv_at hl 0 rfl) ?_
  refine lv_iload_n C.1 C.2.1 zd_Ji_bitCount_35 rfl (lv_at hl 0 rfl) ?_
  refine zr_bipush C zd_Ji_bitCount_36 (by decide) ?_
  refine zr_iushr C zd_Ji_bitCount_38 ?_
  refine zr_iadd C zd_Ji_bitCount_39 ?_
  obtain ⟨v4, ev4, hf⟩ := zlt_some hf
  have nv4 : zn v4 := by rw [← ev4]; exact (zn_w _)
  rw [ev4]
  refine lv_istore_n (lv' := [(0, .int (zI (v4)))]) C.1 C.2.1 zd_Ji_bitCount_40 rfl hl (by decide) rfl (fun ls hl => ?_)
  refine lv_iload_n C.1 C.2.1 zd_Ji_bitCount_41 rfl (lv_at hl 0 rfl) ?_
  refine lv_iload_n C.1 C.2.1 zd_Ji_bitCount_42 rfl (lv_at hl 0 rfl) ?_
  refine zr_bipush C zd_Ji_bitCount_43 (by decide) ?_
  refine zr_iushr C zd_Ji_bitCount_45 ?_
  refine zr_iadd C zd_Ji_bitCount_46 ?_
  obtain ⟨v5, ev5, hf⟩ := zlt_some hf
  have nv5 : zn v5 := by rw [← ev5]; exact (zn_w _)
  rw [ev5]
  refine lv_istore_n (lv' := [(0, .int (zI (v5)))]) C.1 C.2.1 zd_Ji_bitCount_47 rfl hl (by decide) rfl (fun ls hl => ?_)
  refine lv_iload_n C.1 C.2.1 zd_Ji_bitCount_48 rfl (lv_at hl 0 rfl) ?_
  refine zr_bipush C zd_Ji_bitCount_49 (by decide) ?_
  refine zr_iand C zd_Ji_bitCount_51 ?_
  cases hf
  exact zre_i C hr hlk hK hW hS (zn_and _ _) zd_Ji_bitCount_52

theorem zc_Ji_bitCount {l : Launch} {B : zB} (hap : zAp B) (x0 : Int) (S : Sg) (nx0 : zn x0) {res : Int} {S9 : Sg} (hf : zf_Ji_bitCount x0 S = some (res, S9)) : Met l zy_Ji_bitCount (Cond.code zy_Ji_bitCount zb_Ji_bitCount 1 (some .int) :: zT) zm_Ji_bitCount (zP B S [.int (zI (x0))]) (zQi B res S9) 0 0 B.2.2.2 :=
  zmet (by decide) (Nat.le_of_ble_eq_true rfl) (fun p e s m args below meth c C hr hlk hK hSt hW ls hl => zw_Ji_bitCount C hr hlk hK hSt hap   x0 S nx0 hf _ _ _ hW va_S.rf hl)
/-! IslandOffice$Judge.look(LIslandOffice$Island;I)V -/
abbrev zy_J_look : MethodName := ⟨"IslandOffice$Judge", "look", "(LIslandOffice$Island;I)V"⟩
abbrev zb_J_look : ByteArray := prog_5_method_5_code
abbrev zm_J_look : Room := { frames := 1, cells := 0, slots := 0, locals := 23 }
theorem zq_J_look : zMy zy_J_look zb_J_look 4 (none) 2 := ⟨zk_703, zk_702, zs_13, zk_11, by decide, by decide, by decide +kernel⟩
theorem zd_J_look_0 : decode zb_J_look 0 = .ok (.aload_n 1, 1) := by decide +kernel
theorem zd_J_look_1 : decode zb_J_look 1 = .ok (.getfield 22, 3) := by decide +kernel
theorem zd_J_look_4 : decode zb_J_look 4 = .ok (.getfield 77, 3) := by decide +kernel
theorem zd_J_look_7 : decode zb_J_look 7 = .ok (.iload_n 2, 1) := by decide +kernel
theorem zd_J_look_8 : decode zb_J_look 8 = .ok (.iaload, 1) := by decide +kernel
theorem zd_J_look_9 : decode zb_J_look 9 = .ok (.istore_n 3, 1) := by decide +kernel
theorem zd_J_look_10 : decode zb_J_look 10 = .ok (.aload_n 0, 1) := by decide +kernel
theorem zd_J_look_11 : decode zb_J_look 11 = .ok (.getfield 9, 3) := by decide +kernel
theorem zd_J_look_14 : decode zb_J_look 14 = .ok (.iconst 0, 1) := by decide +kernel
theorem zd_J_look_15 : decode zb_J_look 15 = .ok (.aload_n 1, 1) := by decide +kernel
theorem zd_J_look_16 : decode zb_J_look 16 = .ok (.getfield 22, 3) := by decide +kernel
theorem zd_J_look_19 : decode zb_J_look 19 = .ok (.iload_n 2, 1) := by decide +kernel
theorem zd_J_look_20 : decode zb_J_look 20 = .ok (.aload_n 1, 1) := by decide +kernel
theorem zd_J_look_21 : decode zb_J_look 21 = .ok (.getfield 47, 3) := by decide +kernel
theorem zd_J_look_24 : decode zb_J_look 24 = .ok (.invokevirtual 74, 3) := by decide +kernel
theorem zd_J_look_27 : decode zb_J_look 27 = .ok (.iastore, 1) := by decide +kernel
theorem zd_J_look_28 : decode zb_J_look 28 = .ok (.aload_n 0, 1) := by decide +kernel
theorem zd_J_look_29 : decode zb_J_look 29 = .ok (.getfield 9, 3) := by decide +kernel
theorem zd_J_look_32 : decode zb_J_look 32 = .ok (.iconst 1, 1) := by decide +kernel
theorem zd_J_look_33 : decode zb_J_look 33 = .ok (.aload_n 1, 1) := by decide +kernel
theorem zd_J_look_34 : decode zb_J_look 34 = .ok (.getfield 22, 3) := by decide +kernel
theorem zd_J_look_37 : decode zb_J_look 37 = .ok (.iload_n 2, 1) := by decide +kernel
theorem zd_J_look_38 : decode zb_J_look 38 = .ok (.aload_n 1, 1) := by decide +kernel
theorem zd_J_look_39 : decode zb_J_look 39 = .ok (.getfield 47, 3) := by decide +kernel
theorem zd_J_look_42 : decode zb_J_look 42 = .ok (.invokevirtual 80, 3) := by decide +kernel
theorem zd_J_look_45 : decode zb_J_look 45 = .ok (.iastore, 1) := by decide +kernel
theorem zd_J_look_46 : decode zb_J_look 46 = .ok (.aload_n 0, 1) := by decide +kernel
theorem zd_J_look_47 : decode zb_J_look 47 = .ok (.getfield 9, 3) := by decide +kernel
theorem zd_J_look_50 : decode zb_J_look 50 = .ok (.iconst 2, 1) := by decide +kernel
theorem zd_J_look_51 : decode zb_J_look 51 = .ok (.aload_n 1, 1) := by decide +kernel
theorem zd_J_look_52 : decode zb_J_look 52 = .ok (.getfield 22, 3) := by decide +kernel
theorem zd_J_look_55 : decode zb_J_look 55 = .ok (.iload_n 3, 1) := by decide +kernel
theorem zd_J_look_56 : decode zb_J_look 56 = .ok (.invokevirtual 83, 3) := by decide +kernel
theorem zd_J_look_59 : decode zb_J_look 59 = .ok (.iastore, 1) := by decide +kernel
theorem zd_J_look_60 : decode zb_J_look 60 = .ok (.aload_n 0, 1) := by decide +kernel
theorem zd_J_look_61 : decode zb_J_look 61 = .ok (.getfield 9, 3) := by decide +kernel
theorem zd_J_look_64 : decode zb_J_look 64 = .ok (.iconst 3, 1) := by decide +kernel
theorem zd_J_look_65 : decode zb_J_look 65 = .ok (.aload_n 1, 1) := by decide +kernel
theorem zd_J_look_66 : decode zb_J_look 66 = .ok (.getfield 87, 3) := by decide +kernel
theorem zd_J_look_69 : decode zb_J_look 69 = .ok (.iload_n 3, 1) := by decide +kernel
theorem zd_J_look_70 : decode zb_J_look 70 = .ok (.iaload, 1) := by decide +kernel
theorem zd_J_look_71 : decode zb_J_look 71 = .ok (.iastore, 1) := by decide +kernel
theorem zd_J_look_72 : decode zb_J_look 72 = .ok (.aload_n 0, 1) := by decide +kernel
theorem zd_J_look_73 : decode zb_J_look 73 = .ok (.getfield 9, 3) := by decide +kernel
theorem zd_J_look_76 : decode zb_J_look 76 = .ok (.iconst 4, 1) := by decide +kernel
theorem zd_J_look_77 : decode zb_J_look 77 = .ok (.aload_n 1, 1) := by decide +kernel
theorem zd_J_look_78 : decode zb_J_look 78 = .ok (.getfield 22, 3) := by decide +kernel
theorem zd_J_look_81 : decode zb_J_look 81 = .ok (.getfield 90, 3) := by decide +kernel
theorem zd_J_look_84 : decode zb_J_look 84 = .ok (.iload_n 2, 1) := by decide +kernel
theorem zd_J_look_85 : decode zb_J_look 85 = .ok (.iaload, 1) := by decide +kernel
theorem zd_J_look_86 : decode zb_J_look 86 = .ok (.invokestatic 93, 3) := by decide +kernel
theorem zd_J_look_89 : decode zb_J_look 89 = .ok (.iastore, 1) := by decide +kernel
theorem zd_J_look_90 : decode zb_J_look 90 = .ok (.aload_n 0, 1) := by decide +kernel
theorem zd_J_look_91 : decode zb_J_look 91 = .ok (.getfield 9, 3) := by decide +kernel
theorem zd_J_look_94 : decode zb_J_look 94 = .ok (.iconst 5, 1) := by decide +kernel
theorem zd_J_look_95 : decode zb_J_look 95 = .ok (.aload_n 1, 1) := by decide +kernel
theorem zd_J_look_96 : decode zb_J_look 96 = .ok (.getfield 47, 3) := by decide +kernel
theorem zd_J_look_99 : decode zb_J_look 99 = .ok (.bipush 52, 2) := by decide +kernel
theorem zd_J_look_101 : decode zb_J_look 101 = .ok (.irem, 1) := by decide +kernel
theorem zd_J_look_102 : decode zb_J_look 102 = .ok (.iastore, 1) := by decide +kernel
theorem zd_J_look_103 : decode zb_J_look 103 = .ok (.aload_n 0, 1) := by decide +kernel
theorem zd_J_look_104 : decode zb_J_look 104 = .ok (.getfield 9, 3) := by decide +kernel
theorem zd_J_look_107 : decode zb_J_look 107 = .ok (.bipush 6, 2) := by decide +kernel
theorem zd_J_look_109 : decode zb_J_look 109 = .ok (.aload_n 1, 1) := by decide +kernel
theorem zd_J_look_110 : decode zb_J_look 110 = .ok (.getfield 22, 3) := by decide +kernel
theorem zd_J_look_113 : decode zb_J_look 113 = .ok (.getfield 98, 3) := by decide +kernel
theorem zd_J_look_116 : decode zb_J_look 116 = .ok (.iload_n 2, 1) := by decide +kernel
theorem zd_J_look_117 : decode zb_J_look 117 = .ok (.iaload, 1) := by decide +kernel
theorem zd_J_look_118 : decode zb_J_look 118 = .ok (.iastore, 1) := by decide +kernel
theorem zd_J_look_119 : decode zb_J_look 119 = .ok (.return_, 1) := by decide +kernel

def zf_J_look (r1 : Int) (x2 : Int) (S : Sg) : Option (Int × Sg) :=
    zck (0 ≤ x2 ∧ x2 < 40) <| zlt (S 0 r1 8 x2) fun v2 => zbd (zf_P_age (r1) x2 (S 0 r1 0 0) S) fun a3 S4 => zlt (zu S4 3 0 8 0 a3) fun S5 => zbd (zf_P_kind (r1) x2 (S5 0 r1 0 0) S5) fun a6 S7 => zlt (zu S7 3 0 8 1 a6) fun S8 => zbd (zf_P_headsOf (r1) v2 S8) fun a9 S10 => zlt (zu S10 3 0 8 2 a9) fun S11 => zck (0 ≤ v2 ∧ v2 < 12) <| zlt (zu S11 3 0 8 3 (S11 0 r1 2 v2)) fun S13 => zbd (zf_Ji_bitCount (S13 0 r1 10 x2) S13) fun a14 S15 => zlt (zu S15 3 0 8 4 a14) fun S16 => zlt (zu S16 3 0 8 5 (zrem (S16 0 r1 0 0) 52)) fun S17 => zlt (zu S17 3 0 8 6 (S17 0 r1 13 x2)) fun S18 => some (0, S18)
set_option maxHeartbeats 4000000 in
set_option maxRecDepth 100000 in
theorem zw_J_look {p : Program} {l : Launch} {e : Env} {s : State} {m : MethodId} {args : Array Value} {below : List Frame} {meth : Method} {c : Code} {B : zB} (C : CallFix p m c zb_J_look 4 s args zT "IslandOffice$Judge") (hr : meth.sig.returnType = none) (hlk : meth.locks = false) (hK : zK B s) (hSt : zSt B s) (hap : zAp B) (r1 : Int) (hr1 : 0 ≤ r1 ∧ r1 < 3) {res : Int} {S9 : Sg} : ∀ (x2 : Int) (S : Sg) (nx2 : zn x2), zf_J_look r1 x2 S = some (res, S9) → ∀ (H : Heap) (locs : List Loc) (ls : Array Slot), zW B S H → va_S B.2.2.2 s.heap H locs → lv_has ls 4 [(0, .ref (B.2.1 3 (0) (7))), (1, .ref (B.2.1 0 (r1) (0))), (2, .int (zI (x2)))] → W p l e zm_J_look s m args below meth c H locs 0 0 (MQ below (zQv B S9) args s 0 0 B.2.2.2) (F0 m 0 ls []) := by
  intro x2 S nx2 hf H locs ls hW hS hl
  unfold zf_J_look at hf
  refine lv_aload_n C.1 C.2.1 zd_J_look_0 rfl (lv_at hl 1 rfl) ?_
  refine zg_I_people (r := r1) C hK hW (zvd_0 hr1 (by decide)) zk_279 zd_J_look_1 ?_
  refine zg_P_house (r := r1) C hK hW (zvd_0 hr1 (by decide)) zk_61 zd_J_look_4 ?_
  refine lv_iload_n C.1 C.2.1 zd_J_look_7 rfl (lv_at hl 2 rfl) ?_
  obtain ⟨h1, hf⟩ := zck_some hf
  refine ziald C hK hW (zvd_0 hr1 (by decide)) (fun f => ze_0_8 B f (r1)) (by decide) h1 zd_J_look_8 ?_
  obtain ⟨v2, ev2, hf⟩ := zlt_some hf
  have nv2 : zn v2 := by rw [← ev2]; exact (zWn hW _ _ _ _ rfl)
  rw [ev2]
  refine lv_istore_n (lv' := [(3, .int (zI (v2))), (0, .ref (B.2.1 3 (0) (7))), (1, .ref (B.2.1 0 (r1) (0))), (2, .int (zI (x2)))]) C.1 C.2.1 zd_J_look_9 rfl hl (by decide) rfl (fun ls hl => ?_)
  refine lv_aload_n C.1 C.2.1 zd_J_look_10 rfl (lv_at hl 1 rfl) ?_
  refine zg_J_field (r := 0) C hK hW (zvd_3 (by decide) (by decide)) zk_412 zd_J_look_11 ?_
  refine zr_iconst C zd_J_look_14 ?_
  refine lv_aload_n C.1 C.2.1 zd_J_look_15 rfl (lv_at hl 2 rfl) ?_
  refine zg_I_people (r := r1) C hK hW (zvd_0 hr1 (by decide)) zk_279 zd_J_look_16 ?_
  refine lv_iload_n C.1 C.2.1 zd_J_look_19 rfl (lv_at hl 3 rfl) ?_
  refine lv_aload_n C.1 C.2.1 zd_J_look_20 rfl (lv_at hl 2 rfl) ?_
  refine zg_I_week (r := r1) C hK hW (zvd_0 hr1 (by decide)) zk_241 zd_J_look_21 ?_
  obtain ⟨a3, S4, ea3, hf⟩ := zbd_some hf
  refine zcVi (As := [.int (zI (x2)), .int (zI (S 0 r1 0 0))]) (rest := [.int (zI (0)), .ref (B.2.1 3 (0) (8))]) C hK hSt hW hS (zc_P_age hap (r1) hr1 x2 (S 0 r1 0 0) S nx2 (zWn hW _ _ _ _ rfl) ea3) zq_P_age zk_699 (zrecv hK hW (zvd_0 hr1 (by decide)) (ze_0_6 B _ (r1)) rfl) ⟨rfl, rfl, by decide, by decide⟩ ⟨Nat.zero_le _, Nat.zero_le _⟩ rfl hl.1 rfl (lv_room (Nat.le_of_ble_eq_true rfl)) zd_J_look_24 (fun na3 H locs hW hS => ?_)
  obtain ⟨S5, eS5, hf⟩ := zlt_some hf
  refine ziast C hK hap hW hS (zvd_3 (by decide) (by decide)) (fun f => ze_3_8 B f (0)) (by decide) rfl na3 (by decide) zd_J_look_27 (fun H locs hW hS => ?_)
  rw [eS5] at hW
  refine lv_aload_n C.1 C.2.1 zd_J_look_28 rfl (lv_at hl 1 rfl) ?_
  refine zg_J_field (r := 0) C hK hW (zvd_3 (by decide) (by decide)) zk_412 zd_J_look_29 ?_
  refine zr_iconst C zd_J_look_32 ?_
  refine lv_aload_n C.1 C.2.1 zd_J_look_33 rfl (lv_at hl 2 rfl) ?_
  refine zg_I_people (r := r1) C hK hW (zvd_0 hr1 (by decide)) zk_279 zd_J_look_34 ?_
  refine lv_iload_n C.1 C.2.1 zd_J_look_37 rfl (lv_at hl 3 rfl) ?_
  refine lv_aload_n C.1 C.2.1 zd_J_look_38 rfl (lv_at hl 2 rfl) ?_
  refine zg_I_week (r := r1) C hK hW (zvd_0 hr1 (by decide)) zk_241 zd_J_look_39 ?_
  obtain ⟨a6, S7, ea6, hf⟩ := zbd_some hf
  refine zcVi (As := [.int (zI (x2)), .int (zI (S5 0 r1 0 0))]) (rest := [.int (zI (1)), .ref (B.2.1 3 (0) (8))]) C hK hSt hW hS (zc_P_kind hap (r1) hr1 x2 (S5 0 r1 0 0) S5 nx2 (zWn hW _ _ _ _ rfl) ea6) zq_P_kind zk_704 (zrecv hK hW (zvd_0 hr1 (by decide)) (ze_0_6 B _ (r1)) rfl) ⟨rfl, rfl, by decide, by decide⟩ ⟨Nat.zero_le _, Nat.zero_le _⟩ rfl hl.1 rfl (lv_room (Nat.le_of_ble_eq_true rfl)) zd_J_look_42 (fun na6 H locs hW hS => ?_)
  obtain ⟨S8, eS8, hf⟩ := zlt_some hf
  refine ziast C hK hap hW hS (zvd_3 (by decide) (by decide)) (fun f => ze_3_8 B f (0)) (by decide) rfl na6 (by decide) zd_J_look_45 (fun H locs hW hS => ?_)
  rw [eS8] at hW
  refine lv_aload_n C.1 C.2.1 zd_J_look_46 rfl (lv_at hl 1 rfl) ?_
  refine zg_J_field (r := 0) C hK hW (zvd_3 (by decide) (by decide)) zk_412 zd_J_look_47 ?_
  refine zr_iconst C zd_J_look_50 ?_
  refine lv_aload_n C.1 C.2.1 zd_J_look_51 rfl (lv_at hl 2 rfl) ?_
  refine zg_I_people (r := r1) C hK hW (zvd_0 hr1 (by decide)) zk_279 zd_J_look_52 ?_
  refine lv_iload_n C.1 C.2.1 zd_J_look_55 rfl (lv_at hl 0 rfl) ?_
  obtain ⟨a9, S10, ea9, hf⟩ := zbd_some hf
  refine zcVi (As := [.int (zI (v2))]) (rest := [.int (zI (2)), .ref (B.2.1 3 (0) (8))]) C hK hSt hW hS (zc_P_headsOf hap (r1) hr1 v2 S8 nv2 ea9) zq_P_headsOf zk_705 (zrecv hK hW (zvd_0 hr1 (by decide)) (ze_0_6 B _ (r1)) rfl) ⟨rfl, rfl, by decide, by decide⟩ ⟨Nat.zero_le _, Nat.zero_le _⟩ rfl hl.1 rfl (lv_room (Nat.le_of_ble_eq_true rfl)) zd_J_look_56 (fun na9 H locs hW hS => ?_)
  obtain ⟨S11, eS11, hf⟩ := zlt_some hf
  refine ziast C hK hap hW hS (zvd_3 (by decide) (by decide)) (fun f => ze_3_8 B f (0)) (by decide) rfl na9 (by decide) zd_J_look_59 (fun H locs hW hS => ?_)
  rw [eS11] at hW
  refine lv_aload_n C.1 C.2.1 zd_J_look_60 rfl (lv_at hl 1 rfl) ?_
  refine zg_J_field (r := 0) C hK hW (zvd_3 (by decide) (by decide)) zk_412 zd_J_look_61 ?_
  refine zr_iconst C zd_J_look_64 ?_
  refine lv_aload_n C.1 C.2.1 zd_J_look_65 rfl (lv_at hl 2 rfl) ?_
  refine zg_I_cattle (r := r1) C hK hW (zvd_0 hr1 (by decide)) zk_266 zd_J_look_66 ?_
  refine lv_iload_n C.1 C.2.1 zd_J_look_69 rfl (lv_at hl 0 rfl) ?_
  obtain ⟨h12, hf⟩ := zck_some hf
  refine ziald C hK hW (zvd_0 hr1 (by decide)) (fun f => ze_0_2 B f (r1)) (by decide) h12 zd_J_look_70 ?_
  obtain ⟨S13, eS13, hf⟩ := zlt_some hf
  refine ziast C hK hap hW hS (zvd_3 (by decide) (by decide)) (fun f => ze_3_8 B f (0)) (by decide) rfl (zWn hW _ _ _ _ rfl) (by decide) zd_J_look_71 (fun H locs hW hS => ?_)
  rw [eS13] at hW
  refine lv_aload_n C.1 C.2.1 zd_J_look_72 rfl (lv_at hl 1 rfl) ?_
  refine zg_J_field (r := 0) C hK hW (zvd_3 (by decide) (by decide)) zk_412 zd_J_look_73 ?_
  refine zr_iconst C zd_J_look_76 ?_
  refine lv_aload_n C.1 C.2.1 zd_J_look_77 rfl (lv_at hl 2 rfl) ?_
  refine zg_I_people (r := r1) C hK hW (zvd_0 hr1 (by decide)) zk_279 zd_J_look_78 ?_
  refine zg_P_skills (r := r1) C hK hW (zvd_0 hr1 (by decide)) zk_68 zd_J_look_81 ?_
  refine lv_iload_n C.1 C.2.1 zd_J_look_84 rfl (lv_at hl 3 rfl) ?_
  refine ziald C hK hW (zvd_0 hr1 (by decide)) (fun f => ze_0_10 B f (r1)) (by decide) h1 zd_J_look_85 ?_
  obtain ⟨a14, S15, ea14, hf⟩ := zbd_some hf
  refine zcSi (As := [.int (zI (S13 0 r1 10 x2))]) (rest := [.int (zI (4)), .ref (B.2.1 3 (0) (8))]) C hK hSt hW hS (zc_Ji_bitCount hap (S13 0 r1 10 x2) S13 (zWn hW _ _ _ _ rfl) ea14) zq_Ji_bitCount zk_706 ⟨rfl, rfl, by decide, by decide⟩ ⟨Nat.zero_le _, Nat.zero_le _⟩ rfl hl.1 rfl (lv_room (Nat.le_of_ble_eq_true rfl)) zd_J_look_86 (fun na14 H locs hW hS => ?_)
  obtain ⟨S16, eS16, hf⟩ := zlt_some hf
  refine ziast C hK hap hW hS (zvd_3 (by decide) (by decide)) (fun f => ze_3_8 B f (0)) (by decide) rfl na14 (by decide) zd_J_look_89 (fun H locs hW hS => ?_)
  rw [eS16] at hW
  refine lv_aload_n C.1 C.2.1 zd_J_look_90 rfl (lv_at hl 1 rfl) ?_
  refine zg_J_field (r := 0) C hK hW (zvd_3 (by decide) (by decide)) zk_412 zd_J_look_91 ?_
  refine zr_iconst C zd_J_look_94 ?_
  refine lv_aload_n C.1 C.2.1 zd_J_look_95 rfl (lv_at hl 2 rfl) ?_
  refine zg_I_week (r := r1) C hK hW (zvd_0 hr1 (by decide)) zk_241 zd_J_look_96 ?_
  refine zr_bipush C zd_J_look_99 (by decide) ?_
  refine zr_irem C (zWn hW _ _ _ _ rfl) (znb rfl) (by decide) zd_J_look_101 ?_
  obtain ⟨S17, eS17, hf⟩ := zlt_some hf
  refine ziast C hK hap hW hS (zvd_3 (by decide) (by decide)) (fun f => ze_3_8 B f (0)) (by decide) rfl (zn_rem _ _) (by decide) zd_J_look_102 (fun H locs hW hS => ?_)
  rw [eS17] at hW
  refine lv_aload_n C.1 C.2.1 zd_J_look_103 rfl (lv_at hl 1 rfl) ?_
  refine zg_J_field (r := 0) C hK hW (zvd_3 (by decide) (by decide)) zk_412 zd_J_look_104 ?_
  refine zr_bipush C zd_J_look_107 (by decide) ?_
  refine lv_aload_n C.1 C.2.1 zd_J_look_109 rfl (lv_at hl 2 rfl) ?_
  refine zg_I_people (r := r1) C hK hW (zvd_0 hr1 (by decide)) zk_279 zd_J_look_110 ?_
  refine zg_P_discontent (r := r1) C hK hW (zvd_0 hr1 (by decide)) zk_78 zd_J_look_113 ?_
  refine lv_iload_n C.1 C.2.1 zd_J_look_116 rfl (lv_at hl 3 rfl) ?_
  refine ziald C hK hW (zvd_0 hr1 (by decide)) (fun f => ze_0_13 B f (r1)) (by decide) h1 zd_J_look_117 ?_
  obtain ⟨S18, eS18, hf⟩ := zlt_some hf
  refine ziast C hK hap hW hS (zvd_3 (by decide) (by decide)) (fun f => ze_3_8 B f (0)) (by decide) rfl (zWn hW _ _ _ _ rfl) (by decide) zd_J_look_118 (fun H locs hW hS => ?_)
  rw [eS18] at hW
  cases hf
  exact zre_v C hr hlk hK hW hS zd_J_look_119

theorem zc_J_look {l : Launch} {B : zB} (hap : zAp B) (r1 : Int) (hr1 : 0 ≤ r1 ∧ r1 < 3) (x2 : Int) (S : Sg) (nx2 : zn x2) {res : Int} {S9 : Sg} (hf : zf_J_look r1 x2 S = some (res, S9)) : Met l zy_J_look (Cond.code zy_J_look zb_J_look 4 (none) :: zT) zm_J_look (zP B S [.ref (B.2.1 3 (0) (7)), .ref (B.2.1 0 (r1) (0)), .int (zI (x2))]) (zQv B S9) 0 0 B.2.2.2 :=
  zmet (by decide) (Nat.le_of_ble_eq_true rfl) (fun p e s m args below meth c C hr hlk hK hSt hW ls hl => zw_J_look C hr hlk hK hSt hap r1 hr1 x2 S nx2 hf _ _ _ hW va_S.rf hl)
/-! IslandOffice$Judge.joined(III)I -/
abbrev zy_J_joined : MethodName := ⟨"IslandOffice$Judge", "joined", "(III)I"⟩
abbrev zb_J_joined : ByteArray := prog_5_method_7_code
abbrev zm_J_joined : Room := { frames := 0, cells := 0, slots := 0, locals := 0 }
theorem zq_J_joined : zMs zy_J_joined zb_J_joined 3 (some .int) 3 := ⟨zk_726, zk_725, zk_11, by decide, by decide, by decide +kernel⟩
theorem zd_J_joined_0 : decode zb_J_joined 0 = .ok (.iload_n 0, 1) := by decide +kernel
theorem zd_J_joined_1 : decode zb_J_joined 1 = .ok (.tableswitch 84 (-13) (-8) #[80, 69, 58, 47, 43, 39], 39) := by decide +kernel
theorem zd_J_joined_40 : decode zb_J_joined 40 = .ok (.iload_n 1, 1) := by decide +kernel
theorem zd_J_joined_41 : decode zb_J_joined 41 = .ok (.iload_n 2, 1) := by decide +kernel
theorem zd_J_joined_42 : decode zb_J_joined 42 = .ok (.iadd, 1) := by decide +kernel
theorem zd_J_joined_43 : decode zb_J_joined 43 = .ok (.ireturn, 1) := by decide +kernel
theorem zd_J_joined_44 : decode zb_J_joined 44 = .ok (.iload_n 1, 1) := by decide +kernel
theorem zd_J_joined_45 : decode zb_J_joined 45 = .ok (.iload_n 2, 1) := by decide +kernel
theorem zd_J_joined_46 : decode zb_J_joined 46 = .ok (.isub, 1) := by decide +kernel
theorem zd_J_joined_47 : decode zb_J_joined 47 = .ok (.ireturn, 1) := by decide +kernel
theorem zd_J_joined_48 : decode zb_J_joined 48 = .ok (.iload_n 1, 1) := by decide +kernel
theorem zd_J_joined_49 : decode zb_J_joined 49 = .ok (.iload_n 2, 1) := by decide +kernel
theorem zd_J_joined_50 : decode zb_J_joined 50 = .ok (.if_icmp .ge 7, 3) := by decide +kernel
theorem zd_J_joined_53 : decode zb_J_joined 53 = .ok (.iconst 1, 1) := by decide +kernel
theorem zd_J_joined_54 : decode zb_J_joined 54 = .ok (.goto 4, 3) := by decide +kernel
theorem zd_J_joined_57 : decode zb_J_joined 57 = .ok (.iconst 0, 1) := by decide +kernel
theorem zd_J_joined_58 : decode zb_J_joined 58 = .ok (.ireturn, 1) := by decide +kernel
theorem zd_J_joined_59 : decode zb_J_joined 59 = .ok (.iload_n 1, 1) := by decide +kernel
theorem zd_J_joined_60 : decode zb_J_joined 60 = .ok (.iload_n 2, 1) := by decide +kernel
theorem zd_J_joined_61 : decode zb_J_joined 61 = .ok (.if_icmp .le 7, 3) := by decide +kernel
theorem zd_J_joined_64 : decode zb_J_joined 64 = .ok (.iconst 1, 1) := by decide +kernel
theorem zd_J_joined_65 : decode zb_J_joined 65 = .ok (.goto 4, 3) := by decide +kernel
theorem zd_J_joined_68 : decode zb_J_joined 68 = .ok (.iconst 0, 1) := by decide +kernel
theorem zd_J_joined_69 : decode zb_J_joined 69 = .ok (.ireturn, 1) := by decide +kernel
theorem zd_J_joined_70 : decode zb_J_joined 70 = .ok (.iload_n 1, 1) := by decide +kernel
theorem zd_J_joined_71 : decode zb_J_joined 71 = .ok (.iload_n 2, 1) := by decide +kernel
theorem zd_J_joined_72 : decode zb_J_joined 72 = .ok (.if_icmp .ne 7, 3) := by decide +kernel
theorem zd_J_joined_75 : decode zb_J_joined 75 = .ok (.iconst 1, 1) := by decide +kernel
theorem zd_J_joined_76 : decode zb_J_joined 76 = .ok (.goto 4, 3) := by decide +kernel
theorem zd_J_joined_79 : decode zb_J_joined 79 = .ok (.iconst 0, 1) := by decide +kernel
theorem zd_J_joined_80 : decode zb_J_joined 80 = .ok (.ireturn, 1) := by decide +kernel
theorem zd_J_joined_81 : decode zb_J_joined 81 = .ok (.iload_n 1, 1) := by decide +kernel
theorem zd_J_joined_82 : decode zb_J_joined 82 = .ok (.iload_n 2, 1) := by decide +kernel
theorem zd_J_joined_83 : decode zb_J_joined 83 = .ok (.iand, 1) := by decide +kernel
theorem zd_J_joined_84 : decode zb_J_joined 84 = .ok (.ireturn, 1) := by decide +kernel
theorem zd_J_joined_85 : decode zb_J_joined 85 = .ok (.iload_n 1, 1) := by decide +kernel
theorem zd_J_joined_86 : decode zb_J_joined 86 = .ok (.iload_n 2, 1) := by decide +kernel
theorem zd_J_joined_87 : decode zb_J_joined 87 = .ok (.ior, 1) := by decide +kernel
theorem zd_J_joined_88 : decode zb_J_joined 88 = .ok (.ireturn, 1) := by decide +kernel

def zf_J_joined (x0 : Int) (x1 : Int) (x2 : Int) (S : Sg) : Option (Int × Sg) :=
    if x0 = (-13) then (some (zand x1 x2, S)) else (if x0 = (-12) then (if x1 = x2 then (some (1, S)) else (some (0, S))) else (if x0 = (-11) then (if x1 ≤ x2 then (some (0, S)) else (some (1, S))) else (if x0 = (-10) then (if x2 ≤ x1 then (some (0, S)) else (some (1, S))) else (if x0 = (-9) then (some (zw (x1 - x2), S)) else (if x0 = (-8) then (some (zw (x1 + x2), S)) else (some (zor x1 x2, S)))))))
set_option maxHeartbeats 4000000 in
set_option maxRecDepth 100000 in
theorem zw_J_joined {p : Program} {l : Launch} {e : Env} {s : State} {m : MethodId} {args : Array Value} {below : List Frame} {meth : Method} {c : Code} {B : zB} (C : CallFix p m c zb_J_joined 3 s args zT "IslandOffice$Judge") (hr : meth.sig.returnType = some .int) (hlk : meth.locks = false) (hK : zK B s) (hSt : zSt B s) (hap : zAp B) {res : Int} {S9 : Sg} : ∀ (x0 : Int) (x1 : Int) (x2 : Int) (S : Sg) (nx0 : zn x0) (nx1 : zn x1) (nx2 : zn x2), zf_J_joined x0 x1 x2 S = some (res, S9) → ∀ (H : Heap) (locs : List Loc) (ls : Array Slot), zW B S H → va_S B.2.2.2 s.heap H locs → lv_has ls 3 [(0, .int (zI (x0))), (1, .int (zI (x1))), (2, .int (zI (x2)))] → W p l e zm_J_joined s m args below meth c H locs 0 0 (MQ below (zQi B res S9) args s 0 0 B.2.2.2) (F0 m 0 ls []) := by
  intro x0 x1 x2 S nx0 nx1 nx2 hf H locs ls hW hS hl
  unfold zf_J_joined at hf
  refine lv_iload_n C.1 C.2.1 zd_J_joined_0 rfl (lv_at hl 0 rfl) ?_
  by_cases c1 : x0 = (-13)
  · rw [if_pos c1] at hf
    refine zr_tab (off := 80) (tgt := 81) C nx0 zd_J_joined_1 (by omega) (by omega) (by rw [c1]; rfl) (by decide) ?_
    refine lv_iload_n C.1 C.2.1 zd_J_joined_81 rfl (lv_at hl 1 rfl) ?_
    refine lv_iload_n C.1 C.2.1 zd_J_joined_82 rfl (lv_at hl 2 rfl) ?_
    refine zr_iand C zd_J_joined_83 ?_
    cases hf
    exact zre_i C hr hlk hK hW hS (zn_and _ _) zd_J_joined_84
  rw [if_neg c1] at hf
  by_cases c2 : x0 = (-12)
  · rw [if_pos c2] at hf
    refine zr_tab (off := 69) (tgt := 70) C nx0 zd_J_joined_1 (by omega) (by omega) (by rw [c2]; rfl) (by decide) ?_
    refine lv_iload_n C.1 C.2.1 zd_J_joined_70 rfl (lv_at hl 1 rfl) ?_
    refine lv_iload_n C.1 C.2.1 zd_J_joined_71 rfl (lv_at hl 2 rfl) ?_
    refine zr_icmp_ne (tgt := 79) C nx1 nx2 zd_J_joined_72 (by decide) (fun c3 => ?_) (fun c3 => ?_)
    · rw [if_neg c3] at hf
      refine zr_iconst C zd_J_joined_79 ?_
      cases hf
      exact zre_i C hr hlk hK hW hS (znb rfl) zd_J_joined_80
    · rw [if_pos c3] at hf
      refine zr_iconst C zd_J_joined_75 ?_
      refine lv_goto (tgt := 80) C.1 C.2.1 zd_J_joined_76 (by decide) ?_
      cases hf
      exact zre_i C hr hlk hK hW hS (znb rfl) zd_J_joined_80
  rw [if_neg c2] at hf
  by_cases c4 : x0 = (-11)
  · rw [if_pos c4] at hf
    refine zr_tab (off := 58) (tgt := 59) C nx0 zd_J_joined_1 (by omega) (by omega) (by rw [c4]; rfl) (by decide) ?_
    refine lv_iload_n C.1 C.2.1 zd_J_joined_59 rfl (lv_at hl 1 rfl) ?_
    refine lv_iload_n C.1 C.2.1 zd_J_joined_60 rfl (lv_at hl 2 rfl) ?_
    refine zr_icmp_le (tgt := 68) C nx1 nx2 zd_J_joined_61 (by decide) (fun c5 => ?_) (fun c5 => ?_)
    · rw [if_pos c5] at hf
      refine zr_iconst C zd_J_joined_68 ?_
      cases hf
      exact zre_i C hr hlk hK hW hS (znb rfl) zd_J_joined_69
    · rw [if_neg c5] at hf
      refine zr_iconst C zd_J_joined_64 ?_
      refine lv_goto (tgt := 69) C.1 C.2.1 zd_J_joined_65 (by decide) ?_
      cases hf
      exact zre_i C hr hlk hK hW hS (znb rfl) zd_J_joined_69
  rw [if_neg c4] at hf
  by_cases c6 : x0 = (-10)
  · rw [if_pos c6] at hf
    refine zr_tab (off := 47) (tgt := 48) C nx0 zd_J_joined_1 (by omega) (by omega) (by rw [c6]; rfl) (by decide) ?_
    refine lv_iload_n C.1 C.2.1 zd_J_joined_48 rfl (lv_at hl 1 rfl) ?_
    refine lv_iload_n C.1 C.2.1 zd_J_joined_49 rfl (lv_at hl 2 rfl) ?_
    refine zr_icmp_ge (tgt := 57) C nx1 nx2 zd_J_joined_50 (by decide) (fun c7 => ?_) (fun c7 => ?_)
    · rw [if_pos c7] at hf
      refine zr_iconst C zd_J_joined_57 ?_
      cases hf
      exact zre_i C hr hlk hK hW hS (znb rfl) zd_J_joined_58
    · rw [if_neg c7] at hf
      refine zr_iconst C zd_J_joined_53 ?_
      refine lv_goto (tgt := 58) C.1 C.2.1 zd_J_joined_54 (by decide) ?_
      cases hf
      exact zre_i C hr hlk hK hW hS (znb rfl) zd_J_joined_58
  rw [if_neg c6] at hf
  by_cases c8 : x0 = (-9)
  · rw [if_pos c8] at hf
    refine zr_tab (off := 43) (tgt := 44) C nx0 zd_J_joined_1 (by omega) (by omega) (by rw [c8]; rfl) (by decide) ?_
    refine lv_iload_n C.1 C.2.1 zd_J_joined_44 rfl (lv_at hl 1 rfl) ?_
    refine lv_iload_n C.1 C.2.1 zd_J_joined_45 rfl (lv_at hl 2 rfl) ?_
    refine zr_isub C zd_J_joined_46 ?_
    cases hf
    exact zre_i C hr hlk hK hW hS (zn_w _) zd_J_joined_47
  rw [if_neg c8] at hf
  by_cases c9 : x0 = (-8)
  · rw [if_pos c9] at hf
    refine zr_tab (off := 39) (tgt := 40) C nx0 zd_J_joined_1 (by omega) (by omega) (by rw [c9]; rfl) (by decide) ?_
    refine lv_iload_n C.1 C.2.1 zd_J_joined_40 rfl (lv_at hl 1 rfl) ?_
    refine lv_iload_n C.1 C.2.1 zd_J_joined_41 rfl (lv_at hl 2 rfl) ?_
    refine zr_iadd C zd_J_joined_42 ?_
    cases hf
    exact zre_i C hr hlk hK hW hS (zn_w _) zd_J_joined_43
  rw [if_neg c9] at hf
  refine zr_tabo (tgt := 85) C nx0 zd_J_joined_1 (by omega) (by decide) ?_
  refine lv_iload_n C.1 C.2.1 zd_J_joined_85 rfl (lv_at hl 1 rfl) ?_
  refine lv_iload_n C.1 C.2.1 zd_J_joined_86 rfl (lv_at hl 2 rfl) ?_
  refine zr_ior C zd_J_joined_87 ?_
  cases hf
  exact zre_i C hr hlk hK hW hS (zn_or _ _) zd_J_joined_88

theorem zc_J_joined {l : Launch} {B : zB} (hap : zAp B) (x0 : Int) (x1 : Int) (x2 : Int) (S : Sg) (nx0 : zn x0) (nx1 : zn x1) (nx2 : zn x2) {res : Int} {S9 : Sg} (hf : zf_J_joined x0 x1 x2 S = some (res, S9)) : Met l zy_J_joined (Cond.code zy_J_joined zb_J_joined 3 (some .int) :: zT) zm_J_joined (zP B S [.int (zI (x0)), .int (zI (x1)), .int (zI (x2))]) (zQi B res S9) 0 0 B.2.2.2 :=
  zmet (by decide) (Nat.le_of_ble_eq_true rfl) (fun p e s m args below meth c C hr hlk hK hSt hW ls hl => zw_J_joined C hr hlk hK hSt hap   x0 x1 x2 S nx0 nx1 nx2 hf _ _ _ hW va_S.rf hl)
/-! IslandOffice$Judge.pop()I -/
abbrev zy_J_pop : MethodName := ⟨"IslandOffice$Judge", "pop", "()I"⟩
abbrev zb_J_pop : ByteArray := prog_5_method_9_code
abbrev zm_J_pop : Room := { frames := 0, cells := 0, slots := 0, locals := 0 }
theorem zq_J_pop : zMy zy_J_pop zb_J_pop 1 (some .int) 0 := ⟨zk_723, zk_722, zs_16, zk_11, by decide, by decide, by decide +kernel⟩
theorem zd_J_pop_0 : decode zb_J_pop 0 = .ok (.aload_n 0, 1) := by decide +kernel
theorem zd_J_pop_1 : decode zb_J_pop 1 = .ok (.getfield 18, 3) := by decide +kernel
theorem zd_J_pop_4 : decode zb_J_pop 4 = .ok (.iconst 1, 1) := by decide +kernel
theorem zd_J_pop_5 : decode zb_J_pop 5 = .ok (.if_icmp .ge 5, 3) := by decide +kernel
theorem zd_J_pop_8 : decode zb_J_pop 8 = .ok (.iconst 0, 1) := by decide +kernel
theorem zd_J_pop_9 : decode zb_J_pop 9 = .ok (.ireturn, 1) := by decide +kernel
theorem zd_J_pop_10 : decode zb_J_pop 10 = .ok (.aload_n 0, 1) := by decide +kernel
theorem zd_J_pop_11 : decode zb_J_pop 11 = .ok (.dup, 1) := by decide +kernel
theorem zd_J_pop_12 : decode zb_J_pop 12 = .ok (.getfield 18, 3) := by decide +kernel
theorem zd_J_pop_15 : decode zb_J_pop 15 = .ok (.iconst 1, 1) := by decide +kernel
theorem zd_J_pop_16 : decode zb_J_pop 16 = .ok (.isub, 1) := by decide +kernel
theorem zd_J_pop_17 : decode zb_J_pop 17 = .ok (.putfield 18, 3) := by decide +kernel
theorem zd_J_pop_20 : decode zb_J_pop 20 = .ok (.aload_n 0, 1) := by decide +kernel
theorem zd_J_pop_21 : decode zb_J_pop 21 = .ok (.getfield 15, 3) := by decide +kernel
theorem zd_J_pop_24 : decode zb_J_pop 24 = .ok (.aload_n 0, 1) := by decide +kernel
theorem zd_J_pop_25 : decode zb_J_pop 25 = .ok (.getfield 18, 3) := by decide +kernel
theorem zd_J_pop_28 : decode zb_J_pop 28 = .ok (.iaload, 1) := by decide +kernel
theorem zd_J_pop_29 : decode zb_J_pop 29 = .ok (.ireturn, 1) := by decide +kernel

def zf_J_pop (S : Sg) : Option (Int × Sg) :=
    if 1 ≤ (S 3 0 7 2) then (zlt (zu S 3 0 7 2 (zw ((S 3 0 7 2) - 1))) fun S2 => zck (0 ≤ (S2 3 0 7 2) ∧ (S2 3 0 7 2) < 120) <| some (S2 3 0 9 (S2 3 0 7 2), S2)) else (some (0, S))
set_option maxHeartbeats 4000000 in
set_option maxRecDepth 100000 in
theorem zw_J_pop {p : Program} {l : Launch} {e : Env} {s : State} {m : MethodId} {args : Array Value} {below : List Frame} {meth : Method} {c : Code} {B : zB} (C : CallFix p m c zb_J_pop 1 s args zT "IslandOffice$Judge") (hr : meth.sig.returnType = some .int) (hlk : meth.locks = false) (hK : zK B s) (hSt : zSt B s) (hap : zAp B) {res : Int} {S9 : Sg} : ∀  (S : Sg) , zf_J_pop  S = some (res, S9) → ∀ (H : Heap) (locs : List Loc) (ls : Array Slot), zW B S H → va_S B.2.2.2 s.heap H locs → lv_has ls 1 [(0, .ref (B.2.1 3 (0) (7)))] → W p l e zm_J_pop s m args below meth c H locs 0 0 (MQ below (zQi B res S9) args s 0 0 B.2.2.2) (F0 m 0 ls []) := by
  intro S hf H locs ls hW hS hl
  unfold zf_J_pop at hf
  refine lv_aload_n C.1 C.2.1 zd_J_pop_0 rfl (lv_at hl 0 rfl) ?_
  refine zg_J_top (r := 0) C hK hW (zvd_3 (by decide) (by decide)) zk_414 zd_J_pop_1 ?_
  refine zr_iconst C zd_J_pop_4 ?_
  refine zr_icmp_ge (tgt := 10) C (zWn hW _ _ _ _ rfl) (znb rfl) zd_J_pop_5 (by decide) (fun c1 => ?_) (fun c1 => ?_)
  · rw [if_pos c1] at hf
    refine lv_aload_n C.1 C.2.1 zd_J_pop_10 rfl (lv_at hl 0 rfl) ?_
    refine lv_dup C.1 C.2.1 zd_J_pop_11 rfl ?_
    refine zg_J_top (r := 0) C hK hW (zvd_3 (by decide) (by decide)) zk_414 zd_J_pop_12 ?_
    refine zr_iconst C zd_J_pop_15 ?_
    refine zr_isub C zd_J_pop_16 ?_
    obtain ⟨S2, eS2, hf⟩ := zlt_some hf
    refine zp_J_top (r := 0) C hK hap hW hS (zvd_3 (by decide) (by decide)) zk_414 (zn_w _) zd_J_pop_17 (fun H locs hW hS => ?_)
    rw [eS2] at hW
    refine lv_aload_n C.1 C.2.1 zd_J_pop_20 rfl (lv_at hl 0 rfl) ?_
    refine zg_J_stack (r := 0) C hK hW (zvd_3 (by decide) (by decide)) zk_413 zd_J_pop_21 ?_
    refine lv_aload_n C.1 C.2.1 zd_J_pop_24 rfl (lv_at hl 0 rfl) ?_
    refine zg_J_top (r := 0) C hK hW (zvd_3 (by decide) (by decide)) zk_414 zd_J_pop_25 ?_
    obtain ⟨h3, hf⟩ := zck_some hf
    refine ziald C hK hW (zvd_3 (by decide) (by decide)) (fun f => ze_3_9 B f (0)) (by decide) h3 zd_J_pop_28 ?_
    cases hf
    exact zre_i C hr hlk hK hW hS (zWn hW _ _ _ _ rfl) zd_J_pop_29
  · rw [if_neg c1] at hf
    refine zr_iconst C zd_J_pop_8 ?_
    cases hf
    exact zre_i C hr hlk hK hW hS (znb rfl) zd_J_pop_9

theorem zc_J_pop {l : Launch} {B : zB} (hap : zAp B) (S : Sg) {res : Int} {S9 : Sg} (hf : zf_J_pop  S = some (res, S9)) : Met l zy_J_pop (Cond.code zy_J_pop zb_J_pop 1 (some .int) :: zT) zm_J_pop (zP B S [.ref (B.2.1 3 (0) (7))]) (zQi B res S9) 0 0 B.2.2.2 :=
  zmet (by decide) (Nat.le_of_ble_eq_true rfl) (fun p e s m args below meth c C hr hlk hK hSt hW ls hl => zw_J_pop C hr hlk hK hSt hap    S  hf _ _ _ hW va_S.rf hl)
/-! IslandOffice$Judge.push(I)V -/
abbrev zy_J_push : MethodName := ⟨"IslandOffice$Judge", "push", "(I)V"⟩
abbrev zb_J_push : ByteArray := prog_5_method_8_code
abbrev zm_J_push : Room := { frames := 0, cells := 0, slots := 0, locals := 0 }
theorem zq_J_push : zMy zy_J_push zb_J_push 2 (none) 1 := ⟨zk_719, zk_718, zs_15, zk_11, by decide, by decide, by decide +kernel⟩
theorem zd_J_push_0 : decode zb_J_push 0 = .ok (.aload_n 0, 1) := by decide +kernel
theorem zd_J_push_1 : decode zb_J_push 1 = .ok (.getfield 18, 3) := by decide +kernel
theorem zd_J_push_4 : decode zb_J_push 4 = .ok (.aload_n 0, 1) := by decide +kernel
theorem zd_J_push_5 : decode zb_J_push 5 = .ok (.getfield 15, 3) := by decide +kernel
theorem zd_J_push_8 : decode zb_J_push 8 = .ok (.arraylength, 1) := by decide +kernel
theorem zd_J_push_9 : decode zb_J_push 9 = .ok (.if_icmp .ge 23, 3) := by decide +kernel
theorem zd_J_push_12 : decode zb_J_push 12 = .ok (.aload_n 0, 1) := by decide +kernel
theorem zd_J_push_13 : decode zb_J_push 13 = .ok (.getfield 15, 3) := by decide +kernel
theorem zd_J_push_16 : decode zb_J_push 16 = .ok (.aload_n 0, 1) := by decide +kernel
theorem zd_J_push_17 : decode zb_J_push 17 = .ok (.getfield 18, 3) := by decide +kernel
theorem zd_J_push_20 : decode zb_J_push 20 = .ok (.iload_n 1, 1) := by decide +kernel
theorem zd_J_push_21 : decode zb_J_push 21 = .ok (.iastore, 1) := by decide +kernel
theorem zd_J_push_22 : decode zb_J_push 22 = .ok (.aload_n 0, 1) := by decide +kernel
theorem zd_J_push_23 : decode zb_J_push 23 = .ok (.dup, 1) := by decide +kernel
theorem zd_J_push_24 : decode zb_J_push 24 = .ok (.getfield 18, 3) := by decide +kernel
theorem zd_J_push_27 : decode zb_J_push 27 = .ok (.iconst 1, 1) := by decide +kernel
theorem zd_J_push_28 : decode zb_J_push 28 = .ok (.iadd, 1) := by decide +kernel
theorem zd_J_push_29 : decode zb_J_push 29 = .ok (.putfield 18, 3) := by decide +kernel
theorem zd_J_push_32 : decode zb_J_push 32 = .ok (.return_, 1) := by decide +kernel

def zf_J_push (x1 : Int) (S : Sg) : Option (Int × Sg) :=
    if 120 ≤ (S 3 0 7 2) then (some (0, S)) else (zck (0 ≤ (S 3 0 7 2) ∧ (S 3 0 7 2) < 120) <| zlt (zu S 3 0 9 (S 3 0 7 2) x1) fun S3 => zlt (zu S3 3 0 7 2 (zw ((S3 3 0 7 2) + 1))) fun S4 => some (0, S4))
set_option maxHeartbeats 4000000 in
set_option maxRecDepth 100000 in
theorem zw_J_push {p : Program} {l : Launch} {e : Env} {s : State} {m : MethodId} {args : Array Value} {below : List Frame} {meth : Method} {c : Code} {B : zB} (C : CallFix p m c zb_J_push 2 s args zT "IslandOffice$Judge") (hr : meth.sig.returnType = none) (hlk : meth.locks = false) (hK : zK B s) (hSt : zSt B s) (hap : zAp B) {res : Int} {S9 : Sg} : ∀ (x1 : Int) (S : Sg) (nx1 : zn x1), zf_J_push x1 S = some (res, S9) → ∀ (H : Heap) (locs : List Loc) (ls : Array Slot), zW B S H → va_S B.2.2.2 s.heap H locs → lv_has ls 2 [(0, .ref (B.2.1 3 (0) (7))), (1, .int (zI (x1)))] → W p l e zm_J_push s m args below meth c H locs 0 0 (MQ below (zQv B S9) args s 0 0 B.2.2.2) (F0 m 0 ls []) := by
  intro x1 S nx1 hf H locs ls hW hS hl
  unfold zf_J_push at hf
  refine lv_aload_n C.1 C.2.1 zd_J_push_0 rfl (lv_at hl 0 rfl) ?_
  refine zg_J_top (r := 0) C hK hW (zvd_3 (by decide) (by decide)) zk_414 zd_J_push_1 ?_
  refine lv_aload_n C.1 C.2.1 zd_J_push_4 rfl (lv_at hl 0 rfl) ?_
  refine zg_J_stack (r := 0) C hK hW (zvd_3 (by decide) (by decide)) zk_413 zd_J_push_5 ?_
  refine zalen (N := 120) C hK hW (zvd_3 (by decide) (by decide)) (fun f => ze_3_9 B f (0)) rfl zd_J_push_8 ?_
  refine zr_icmp_ge (tgt := 32) C (zWn hW _ _ _ _ rfl) (znb rfl) zd_J_push_9 (by decide) (fun c1 => ?_) (fun c1 => ?_)
  · rw [if_pos c1] at hf
    cases hf
    exact zre_v C hr hlk hK hW hS zd_J_push_32
  · rw [if_neg c1] at hf
    refine lv_aload_n C.1 C.2.1 zd_J_push_12 rfl (lv_at hl 0 rfl) ?_
    refine zg_J_stack (r := 0) C hK hW (zvd_3 (by decide) (by decide)) zk_413 zd_J_push_13 ?_
    refine lv_aload_n C.1 C.2.1 zd_J_push_16 rfl (lv_at hl 0 rfl) ?_
    refine zg_J_top (r := 0) C hK hW (zvd_3 (by decide) (by decide)) zk_414 zd_J_push_17 ?_
    refine lv_iload_n C.1 C.2.1 zd_J_push_20 rfl (lv_at hl 1 rfl) ?_
    obtain ⟨h2, hf⟩ := zck_some hf
    obtain ⟨S3, eS3, hf⟩ := zlt_some hf
    refine ziast C hK hap hW hS (zvd_3 (by decide) (by decide)) (fun f => ze_3_9 B f (0)) (by decide) rfl nx1 h2 zd_J_push_21 (fun H locs hW hS => ?_)
    rw [eS3] at hW
    refine lv_aload_n C.1 C.2.1 zd_J_push_22 rfl (lv_at hl 0 rfl) ?_
    refine lv_dup C.1 C.2.1 zd_J_push_23 rfl ?_
    refine zg_J_top (r := 0) C hK hW (zvd_3 (by decide) (by decide)) zk_414 zd_J_push_24 ?_
    refine zr_iconst C zd_J_push_27 ?_
    refine zr_iadd C zd_J_push_28 ?_
    obtain ⟨S4, eS4, hf⟩ := zlt_some hf
    refine zp_J_top (r := 0) C hK hap hW hS (zvd_3 (by decide) (by decide)) zk_414 (zn_w _) zd_J_push_29 (fun H locs hW hS => ?_)
    rw [eS4] at hW
    cases hf
    exact zre_v C hr hlk hK hW hS zd_J_push_32

theorem zc_J_push {l : Launch} {B : zB} (hap : zAp B) (x1 : Int) (S : Sg) (nx1 : zn x1) {res : Int} {S9 : Sg} (hf : zf_J_push x1 S = some (res, S9)) : Met l zy_J_push (Cond.code zy_J_push zb_J_push 2 (none) :: zT) zm_J_push (zP B S [.ref (B.2.1 3 (0) (7)), .int (zI (x1))]) (zQv B S9) 0 0 B.2.2.2 :=
  zmet (by decide) (Nat.le_of_ble_eq_true rfl) (fun p e s m args below meth c C hr hlk hK hSt hW ls hl => zw_J_push C hr hlk hK hSt hap   x1 S nx1 hf _ _ _ hW va_S.rf hl)
/-! IslandOffice$Judge.runs([II)Z -/
abbrev zy_J_runs : MethodName := ⟨"IslandOffice$Judge", "runs", "([II)Z"⟩
abbrev zb_J_runs : ByteArray := prog_5_method_6_code
abbrev zm_J_runs : Room := { frames := 1, cells := 0, slots := 0, locals := 22 }
theorem zq_J_runs : zMy zy_J_runs zb_J_runs 6 (some .boolean) 2 := ⟨zk_715, zk_714, zs_14, zk_11, by decide, by decide, by decide +kernel⟩
theorem zd_J_runs_0 : decode zb_J_runs 0 = .ok (.aload_n 0, 1) := by decide +kernel
theorem zd_J_runs_1 : decode zb_J_runs 1 = .ok (.iconst 0, 1) := by decide +kernel
theorem zd_J_runs_2 : decode zb_J_runs 2 = .ok (.putfield 18, 3) := by decide +kernel
theorem zd_J_runs_5 : decode zb_J_runs 5 = .ok (.iconst 0, 1) := by decide +kernel
theorem zd_J_runs_6 : decode zb_J_runs 6 = .ok (.istore_n 3, 1) := by decide +kernel
theorem zd_J_runs_7 : decode zb_J_runs 7 = .ok (.iload_n 3, 1) := by decide +kernel
theorem zd_J_runs_8 : decode zb_J_runs 8 = .ok (.iload_n 2, 1) := by decide +kernel
theorem zd_J_runs_9 : decode zb_J_runs 9 = .ok (.if_icmp .ge 98, 3) := by decide +kernel
theorem zd_J_runs_12 : decode zb_J_runs 12 = .ok (.iload_n 3, 1) := by decide +kernel
theorem zd_J_runs_13 : decode zb_J_runs 13 = .ok (.aload_n 1, 1) := by decide +kernel
theorem zd_J_runs_14 : decode zb_J_runs 14 = .ok (.arraylength, 1) := by decide +kernel
theorem zd_J_runs_15 : decode zb_J_runs 15 = .ok (.if_icmp .ge 92, 3) := by decide +kernel
theorem zd_J_runs_18 : decode zb_J_runs 18 = .ok (.aload_n 1, 1) := by decide +kernel
theorem zd_J_runs_19 : decode zb_J_runs 19 = .ok (.iload_n 3, 1) := by decide +kernel
theorem zd_J_runs_20 : decode zb_J_runs 20 = .ok (.iaload, 1) := by decide +kernel
theorem zd_J_runs_21 : decode zb_J_runs 21 = .ok (.istore 4, 2) := by decide +kernel
theorem zd_J_runs_23 : decode zb_J_runs 23 = .ok (.iload 4, 2) := by decide +kernel
theorem zd_J_runs_25 : decode zb_J_runs 25 = .ok (.ifCond .lt 12, 3) := by decide +kernel
theorem zd_J_runs_28 : decode zb_J_runs 28 = .ok (.aload_n 0, 1) := by decide +kernel
theorem zd_J_runs_29 : decode zb_J_runs 29 = .ok (.iload 4, 2) := by decide +kernel
theorem zd_J_runs_31 : decode zb_J_runs 31 = .ok (.invokevirtual 101, 3) := by decide +kernel
theorem zd_J_runs_34 : decode zb_J_runs 34 = .ok (.goto 67, 3) := by decide +kernel
theorem zd_J_runs_37 : decode zb_J_runs 37 = .ok (.iload 4, 2) := by decide +kernel
theorem zd_J_runs_39 : decode zb_J_runs 39 = .ok (.bipush (-7), 2) := by decide +kernel
theorem zd_J_runs_41 : decode zb_J_runs 41 = .ok (.if_icmp .lt 19, 3) := by decide +kernel
theorem zd_J_runs_44 : decode zb_J_runs 44 = .ok (.aload_n 0, 1) := by decide +kernel
theorem zd_J_runs_45 : decode zb_J_runs 45 = .ok (.aload_n 0, 1) := by decide +kernel
theorem zd_J_runs_46 : decode zb_J_runs 46 = .ok (.getfield 9, 3) := by decide +kernel
theorem zd_J_runs_49 : decode zb_J_runs 49 = .ok (.iconst (-1), 1) := by decide +kernel
theorem zd_J_runs_50 : decode zb_J_runs 50 = .ok (.iload 4, 2) := by decide +kernel
theorem zd_J_runs_52 : decode zb_J_runs 52 = .ok (.isub, 1) := by decide +kernel
theorem zd_J_runs_53 : decode zb_J_runs 53 = .ok (.iaload, 1) := by decide +kernel
theorem zd_J_runs_54 : decode zb_J_runs 54 = .ok (.invokevirtual 101, 3) := by decide +kernel
theorem zd_J_runs_57 : decode zb_J_runs 57 = .ok (.goto 44, 3) := by decide +kernel
theorem zd_J_runs_60 : decode zb_J_runs 60 = .ok (.iload 4, 2) := by decide +kernel
theorem zd_J_runs_62 : decode zb_J_runs 62 = .ok (.bipush (-15), 2) := by decide +kernel
theorem zd_J_runs_64 : decode zb_J_runs 64 = .ok (.if_icmp .ne 16, 3) := by decide +kernel
theorem zd_J_runs_67 : decode zb_J_runs 67 = .ok (.aload_n 0, 1) := by decide +kernel
theorem zd_J_runs_68 : decode zb_J_runs 68 = .ok (.iconst 1, 1) := by decide +kernel
theorem zd_J_runs_69 : decode zb_J_runs 69 = .ok (.aload_n 0, 1) := by decide +kernel
theorem zd_J_runs_70 : decode zb_J_runs 70 = .ok (.invokevirtual 105, 3) := by decide +kernel
theorem zd_J_runs_73 : decode zb_J_runs 73 = .ok (.isub, 1) := by decide +kernel
theorem zd_J_runs_74 : decode zb_J_runs 74 = .ok (.invokevirtual 101, 3) := by decide +kernel
theorem zd_J_runs_77 : decode zb_J_runs 77 = .ok (.goto 24, 3) := by decide +kernel
theorem zd_J_runs_80 : decode zb_J_runs 80 = .ok (.aload_n 0, 1) := by decide +kernel
theorem zd_J_runs_81 : decode zb_J_runs 81 = .ok (.invokevirtual 105, 3) := by decide +kernel
theorem zd_J_runs_84 : decode zb_J_runs 84 = .ok (.istore 5, 2) := by decide +kernel
theorem zd_J_runs_86 : decode zb_J_runs 86 = .ok (.aload_n 0, 1) := by decide +kernel
theorem zd_J_runs_87 : decode zb_J_runs 87 = .ok (.iload 4, 2) := by decide +kernel
theorem zd_J_runs_89 : decode zb_J_runs 89 = .ok (.aload_n 0, 1) := by decide +kernel
theorem zd_J_runs_90 : decode zb_J_runs 90 = .ok (.invokevirtual 105, 3) := by decide +kernel
theorem zd_J_runs_93 : decode zb_J_runs 93 = .ok (.iload 5, 2) := by decide +kernel
theorem zd_J_runs_95 : decode zb_J_runs 95 = .ok (.invokestatic 109, 3) := by decide +kernel
theorem zd_J_runs_98 : decode zb_J_runs 98 = .ok (.invokevirtual 101, 3) := by decide +kernel
theorem zd_J_runs_101 : decode zb_J_runs 101 = .ok (.iinc 3 1, 3) := by decide +kernel
theorem zd_J_runs_104 : decode zb_J_runs 104 = .ok (.goto (-97), 3) := by decide +kernel
theorem zd_J_runs_107 : decode zb_J_runs 107 = .ok (.aload_n 0, 1) := by decide +kernel
theorem zd_J_runs_108 : decode zb_J_runs 108 = .ok (.invokevirtual 105, 3) := by decide +kernel
theorem zd_J_runs_111 : decode zb_J_runs 111 = .ok (.ifCond .eq 7, 3) := by decide +kernel
theorem zd_J_runs_114 : decode zb_J_runs 114 = .ok (.iconst 1, 1) := by decide +kernel
theorem zd_J_runs_115 : decode zb_J_runs 115 = .ok (.goto 4, 3) := by decide +kernel
theorem zd_J_runs_118 : decode zb_J_runs 118 = .ok (.iconst 0, 1) := by decide +kernel
theorem zd_J_runs_119 : decode zb_J_runs 119 = .ok (.ireturn, 1) := by decide +kernel

def zf_J_runs_107 (g1 : Nat) (r1 : Int) (k1 : Int) (n1 : Nat) (S : Sg) : Option (Int × Sg) :=
    zbd (zf_J_pop  S) fun a1 S2 => if a1 = 0 then (some (0, S2)) else (some (1, S2))
set_option maxHeartbeats 4000000 in
set_option maxRecDepth 100000 in
theorem zw_J_runs_107 {p : Program} {l : Launch} {e : Env} {s : State} {m : MethodId} {args : Array Value} {below : List Frame} {meth : Method} {c : Code} {B : zB} (C : CallFix p m c zb_J_runs 6 s args zT "IslandOffice$Judge") (hr : meth.sig.returnType = some .boolean) (hlk : meth.locks = false) (hK : zK B s) (hSt : zSt B s) (hap : zAp B) (g1 : Nat) (r1 : Int) (k1 : Int) (n1 : Nat) (hv1 : zvd g1 r1 k1) (he1 : ∀ f, zce B f g1 r1 k1 = .inl (B.2.2.1 0, n1, .inl (fun j : Nat => zI (f (j : Int))))) (hn1 : n1 ≤ 65536) (hg1 : (decide (20 ≤ g1)) = false) {res : Int} {S9 : Sg} : ∀  (S : Sg) , zf_J_runs_107 g1 r1 k1 n1  S = some (res, S9) → ∀ (H : Heap) (locs : List Loc) (ls : Array Slot), zW B S H → va_S B.2.2.2 s.heap H locs → lv_has ls 6 [(0, .ref (B.2.1 3 (0) (7)))] → W p l e zm_J_runs s m args below meth c H locs 0 0 (MQ below (zQi B res S9) args s 0 0 B.2.2.2) (F0 m 107 ls []) := by
  intro S hf H locs ls hW hS hl
  unfold zf_J_runs_107 at hf
  refine lv_aload_n C.1 C.2.1 zd_J_runs_107 rfl (lv_at hl 0 rfl) ?_
  obtain ⟨a1, S2, ea1, hf⟩ := zbd_some hf
  refine zcVi (As := []) (rest := []) C hK hSt hW hS (zc_J_pop hap S ea1) zq_J_pop zk_720 (zrecv hK hW (zvd_3 (by decide) (by decide)) (ze_3_7 B _ (0)) rfl) ⟨rfl, rfl, by decide, by decide⟩ ⟨Nat.zero_le _, Nat.zero_le _⟩ rfl hl.1 rfl (lv_room (Nat.le_of_ble_eq_true rfl)) zd_J_runs_108 (fun na1 H locs hW hS => ?_)
  refine zr_if_eq (tgt := 118) C na1 zd_J_runs_111 (by decide) (fun c3 => ?_) (fun c3 => ?_)
  · rw [if_pos c3] at hf
    refine zr_iconst C zd_J_runs_118 ?_
    cases hf
    exact zre_z C hr hlk hK hW hS (znb rfl) (zb01 (by decide)) zd_J_runs_119
  · rw [if_neg c3] at hf
    refine zr_iconst C zd_J_runs_114 ?_
    refine lv_goto (tgt := 119) C.1 C.2.1 zd_J_runs_115 (by decide) ?_
    cases hf
    exact zre_z C hr hlk hK hW hS (znb rfl) (zb01 (by decide)) zd_J_runs_119

def zf_J_runs_101 (g1 : Nat) (r1 : Int) (k1 : Int) (n1 : Nat) (q7 : Int → Int → Sg → Option (Int × Sg)) (x2 : Int) (x3 : Int) (S : Sg) : Option (Int × Sg) :=
    zlt (zw (x3 + 1)) fun v1 => q7 (x2) (v1) S
set_option maxHeartbeats 4000000 in
set_option maxRecDepth 100000 in
theorem zw_J_runs_101 {p : Program} {l : Launch} {e : Env} {s : State} {m : MethodId} {args : Array Value} {below : List Frame} {meth : Method} {c : Code} {B : zB} (C : CallFix p m c zb_J_runs 6 s args zT "IslandOffice$Judge") (hr : meth.sig.returnType = some .boolean) (hlk : meth.locks = false) (hK : zK B s) (hSt : zSt B s) (hap : zAp B) (g1 : Nat) (r1 : Int) (k1 : Int) (n1 : Nat) (hv1 : zvd g1 r1 k1) (he1 : ∀ f, zce B f g1 r1 k1 = .inl (B.2.2.1 0, n1, .inl (fun j : Nat => zI (f (j : Int))))) (hn1 : n1 ≤ 65536) (hg1 : (decide (20 ≤ g1)) = false) {res : Int} {S9 : Sg} (q7 : Int → Int → Sg → Option (Int × Sg)) (hq7 : ∀ (x2 : Int) (x3 : Int) (S : Sg) (nx2 : zn x2) (nx3 : zn x3), q7 x2 x3 S = some (res, S9) → ∀ (H : Heap) (locs : List Loc) (ls : Array Slot), zW B S H → va_S B.2.2.2 s.heap H locs → lv_has ls 6 [(0, .ref (B.2.1 3 (0) (7))), (1, .ref (B.2.1 g1 (r1) (k1))), (2, .int (zI (x2))), (3, .int (zI (x3)))] → W p l e zm_J_runs s m args below meth c H locs 0 0 (MQ below (zQi B res S9) args s 0 0 B.2.2.2) (F0 m 7 ls [])) : ∀ (x2 : Int) (x3 : Int) (S : Sg) (nx2 : zn x2) (nx3 : zn x3), zf_J_runs_101 g1 r1 k1 n1 q7 x2 x3 S = some (res, S9) → ∀ (H : Heap) (locs : List Loc) (ls : Array Slot), zW B S H → va_S B.2.2.2 s.heap H locs → lv_has ls 6 [(0, .ref (B.2.1 3 (0) (7))), (1, .ref (B.2.1 g1 (r1) (k1))), (2, .int (zI (x2))), (3, .int (zI (x3)))] → W p l e zm_J_runs s m args below meth c H locs 0 0 (MQ below (zQi B res S9) args s 0 0 B.2.2.2) (F0 m 101 ls []) := by
  intro x2 x3 S nx2 nx3 hf H locs ls hW hS hl
  unfold zf_J_runs_101 at hf
  obtain ⟨v1, ev1, hf⟩ := zlt_some hf
  have nv1 : zn v1 := by rw [← ev1]; exact zn_w _
  refine lv_iinc (v := zI v1) (lv' := [(3, .int (zI (v1))), (0, .ref (B.2.1 3 (0) (7))), (1, .ref (B.2.1 g1 (r1) (k1))), (2, .int (zI (x2)))]) C.1 C.2.1 zd_J_runs_101 hl (k := 3) rfl (by rw [← ev1, ← zI_add]; rfl) (by decide) rfl (fun ls hl => ?_)
  refine lv_goto (tgt := 7) C.1 C.2.1 zd_J_runs_104 (by decide) ?_
  exact hq7 (x2) (v1) S nx2 nv1 hf _ _ _ hW hS (lv_sub hl [1, 2, 3, 0] rfl)

def zf_J_runs_7 (g1 : Nat) (r1 : Int) (k1 : Int) (n1 : Nat) : Nat → Int → Int → Sg → Option (Int × Sg)
  | 0, _, _, _ => none
  | n + 1, x2, x3, S =>
    if x2 ≤ x3 then (zf_J_runs_107 g1 r1 k1 n1  S) else (if ((n1 : Int)) ≤ x3 then (zf_J_runs_107 g1 r1 k1 n1  S) else (zck (0 ≤ x3 ∧ x3 < (n1 : Int)) <| zlt (S g1 r1 k1 x3) fun v4 => if v4 < 0 then (if v4 < (-7) then (if v4 = (-15) then (zbd (zf_J_pop  S) fun a16 S17 => zbd (zf_J_push (zw (1 - a16)) S17) fun a18 S19 => zf_J_runs_101 g1 r1 k1 n1 (zf_J_runs_7 g1 r1 k1 n1 n) (x2) (x3) S19) else (zbd (zf_J_pop  S) fun a8 S9 => zbd (zf_J_pop  S9) fun a10 S11 => zbd (zf_J_joined v4 a10 a8 S11) fun a12 S13 => zbd (zf_J_push a12 S13) fun a14 S15 => zf_J_runs_101 g1 r1 k1 n1 (zf_J_runs_7 g1 r1 k1 n1 n) (x2) (x3) S15)) else (zck (0 ≤ (zw ((-1) - v4)) ∧ (zw ((-1) - v4)) < 7) <| zbd (zf_J_push (S 3 0 8 (zw ((-1) - v4))) S) fun a21 S22 => zf_J_runs_101 g1 r1 k1 n1 (zf_J_runs_7 g1 r1 k1 n1 n) (x2) (x3) S22)) else (zbd (zf_J_push v4 S) fun a23 S24 => zf_J_runs_101 g1 r1 k1 n1 (zf_J_runs_7 g1 r1 k1 n1 n) (x2) (x3) S24)))
set_option maxHeartbeats 4000000 in
set_option maxRecDepth 100000 in
theorem zw_J_runs_7 {p : Program} {l : Launch} {e : Env} {s : State} {m : MethodId} {args : Array Value} {below : List Frame} {meth : Method} {c : Code} {B : zB} (C : CallFix p m c zb_J_runs 6 s args zT "IslandOffice$Judge") (hr : meth.sig.returnType = some .boolean) (hlk : meth.locks = false) (hK : zK B s) (hSt : zSt B s) (hap : zAp B) (g1 : Nat) (r1 : Int) (k1 : Int) (n1 : Nat) (hv1 : zvd g1 r1 k1) (he1 : ∀ f, zce B f g1 r1 k1 = .inl (B.2.2.1 0, n1, .inl (fun j : Nat => zI (f (j : Int))))) (hn1 : n1 ≤ 65536) (hg1 : (decide (20 ≤ g1)) = false) {res : Int} {S9 : Sg} : ∀ n : Nat, ∀ (x2 : Int) (x3 : Int) (S : Sg) (nx2 : zn x2) (nx3 : zn x3), zf_J_runs_7 g1 r1 k1 n1 n x2 x3 S = some (res, S9) → ∀ (H : Heap) (locs : List Loc) (ls : Array Slot), zW B S H → va_S B.2.2.2 s.heap H locs → lv_has ls 6 [(0, .ref (B.2.1 3 (0) (7))), (1, .ref (B.2.1 g1 (r1) (k1))), (2, .int (zI (x2))), (3, .int (zI (x3)))] → W p l e zm_J_runs s m args below meth c H locs 0 0 (MQ below (zQi B res S9) args s 0 0 B.2.2.2) (F0 m 7 ls []) := by
  intro n
  induction n with
  | zero =>
    intro x2 x3 S nx2 nx3 hf H locs ls hW hS hl
    cases hf
  | succ n ih =>
    intro x2 x3 S nx2 nx3 hf H locs ls hW hS hl
    rw [zf_J_runs_7] at hf
    refine lv_iload_n C.1 C.2.1 zd_J_runs_7 rfl (lv_at hl 3 rfl) ?_
    refine lv_iload_n C.1 C.2.1 zd_J_runs_8 rfl (lv_at hl 2 rfl) ?_
    refine zr_icmp_ge (tgt := 107) C nx3 nx2 zd_J_runs_9 (by decide) (fun c1 => ?_) (fun c1 => ?_)
    · rw [if_pos c1] at hf
      exact zw_J_runs_107 C hr hlk hK hSt hap g1 r1 k1 n1 hv1 he1 hn1 hg1  S  hf _ _ _ hW hS (lv_sub hl [0] rfl)
    · rw [if_neg c1] at hf
      refine lv_iload_n C.1 C.2.1 zd_J_runs_12 rfl (lv_at hl 3 rfl) ?_
      refine lv_aload_n C.1 C.2.1 zd_J_runs_13 rfl (lv_at hl 1 rfl) ?_
      refine zalen (N := (n1 : Int)) C hK hW hv1 he1 rfl zd_J_runs_14 ?_
      refine zr_icmp_ge (tgt := 107) C nx3 (zn_len hn1) zd_J_runs_15 (by decide) (fun c2 => ?_) (fun c2 => ?_)
      · rw [if_pos c2] at hf
        exact zw_J_runs_107 C hr hlk hK hSt hap g1 r1 k1 n1 hv1 he1 hn1 hg1  S  hf _ _ _ hW hS (lv_sub hl [0] rfl)
      · rw [if_neg c2] at hf
        refine lv_aload_n C.1 C.2.1 zd_J_runs_18 rfl (lv_at hl 1 rfl) ?_
        refine lv_iload_n C.1 C.2.1 zd_J_runs_19 rfl (lv_at hl 3 rfl) ?_
        obtain ⟨h3, hf⟩ := zck_some hf
        refine ziald C hK hW hv1 he1 hn1 h3 zd_J_runs_20 ?_
        obtain ⟨v4, ev4, hf⟩ := zlt_some hf
        have nv4 : zn v4 := by rw [← ev4]; exact (zWn hW _ _ _ _ hg1)
        rw [ev4]
        refine lv_istore (lv' := [(4, .int (zI (v4))), (0, .ref (B.2.1 3 (0) (7))), (1, .ref (B.2.1 g1 (r1) (k1))), (2, .int (zI (x2))), (3, .int (zI (x3)))]) C.1 C.2.1 zd_J_runs_21 hl (by decide) rfl (fun ls hl => ?_)
        refine lv_iload C.1 C.2.1 zd_J_runs_23 (lv_at hl 0 rfl) ?_
        refine zr_if_lt (tgt := 37) C nv4 zd_J_runs_25 (by decide) (fun c5 => ?_) (fun c5 => ?_)
        · rw [if_pos c5] at hf
          refine lv_iload C.1 C.2.1 zd_J_runs_37 (lv_at hl 0 rfl) ?_
          refine zr_bipush C zd_J_runs_39 (by decide) ?_
          refine zr_icmp_lt (tgt := 60) C nv4 (znb rfl) zd_J_runs_41 (by decide) (fun c6 => ?_) (fun c6 => ?_)
          · rw [if_pos c6] at hf
            refine lv_iload C.1 C.2.1 zd_J_runs_60 (lv_at hl 0 rfl) ?_
            refine zr_bipush C zd_J_runs_62 (by decide) ?_
            refine zr_icmp_ne (tgt := 80) C nv4 (znb rfl) zd_J_runs_64 (by decide) (fun c7 => ?_) (fun c7 => ?_)
            · rw [if_neg c7] at hf
              refine lv_aload_n C.1 C.2.1 zd_J_runs_80 rfl (lv_at hl 1 rfl) ?_
              obtain ⟨a8, S9, ea8, hf⟩ := zbd_some hf
              refine zcVi (As := []) (rest := []) C hK hSt hW hS (zc_J_pop hap S ea8) zq_J_pop zk_720 (zrecv hK hW (zvd_3 (by decide) (by decide)) (ze_3_7 B _ (0)) rfl) ⟨rfl, rfl, by decide, by decide⟩ ⟨Nat.zero_le _, Nat.zero_le _⟩ rfl hl.1 rfl (lv_room (Nat.le_of_ble_eq_true rfl)) zd_J_runs_81 (fun na8 H locs hW hS => ?_)
              refine lv_istore (lv' := [(5, .int (zI (a8))), (4, .int (zI (v4))), (0, .ref (B.2.1 3 (0) (7))), (1, .ref (B.2.1 g1 (r1) (k1))), (2, .int (zI (x2))), (3, .int (zI (x3)))]) C.1 C.2.1 zd_J_runs_84 hl (by decide) rfl (fun ls hl => ?_)
              refine lv_aload_n C.1 C.2.1 zd_J_runs_86 rfl (lv_at hl 2 rfl) ?_
              refine lv_iload C.1 C.2.1 zd_J_runs_87 (lv_at hl 1 rfl) ?_
              refine lv_aload_n C.1 C.2.1 zd_J_runs_89 rfl (lv_at hl 2 rfl) ?_
              obtain ⟨a10, S11, ea10, hf⟩ := zbd_some hf
              refine zcVi (As := []) (rest := [.int (zI (v4)), .ref (B.2.1 3 (0) (7))]) C hK hSt hW hS (zc_J_pop hap S9 ea10) zq_J_pop zk_720 (zrecv hK hW (zvd_3 (by decide) (by decide)) (ze_3_7 B _ (0)) rfl) ⟨rfl, rfl, by decide, by decide⟩ ⟨Nat.zero_le _, Nat.zero_le _⟩ rfl hl.1 rfl (lv_room (Nat.le_of_ble_eq_true rfl)) zd_J_runs_90 (fun na10 H locs hW hS => ?_)
              refine lv_iload C.1 C.2.1 zd_J_runs_93 (lv_at hl 0 rfl) ?_
              obtain ⟨a12, S13, ea12, hf⟩ := zbd_some hf
              refine zcSi (As := [.int (zI (v4)), .int (zI (a10)), .int (zI (a8))]) (rest := [.ref (B.2.1 3 (0) (7))]) C hK hSt hW hS (zc_J_joined hap v4 a10 a8 S11 nv4 na10 na8 ea12) zq_J_joined zk_724 ⟨rfl, rfl, by decide, by decide⟩ ⟨Nat.zero_le _, Nat.zero_le _⟩ rfl hl.1 rfl (lv_room (Nat.le_of_ble_eq_true rfl)) zd_J_runs_95 (fun na12 H locs hW hS => ?_)
              obtain ⟨a14, S15, ea14, hf⟩ := zbd_some hf
              refine zcVv (As := [.int (zI (a12))]) (rest := []) C hK hSt hW hS (zc_J_push hap a12 S13 na12 ea14) zq_J_push zk_716 (zrecv hK hW (zvd_3 (by decide) (by decide)) (ze_3_7 B _ (0)) rfl) ⟨rfl, rfl, by decide, by decide⟩ ⟨Nat.zero_le _, Nat.zero_le _⟩ rfl hl.1 rfl (lv_room (Nat.le_of_ble_eq_true rfl)) zd_J_runs_98 (fun H locs hW hS => ?_)
              exact zw_J_runs_101 C hr hlk hK hSt hap g1 r1 k1 n1 hv1 he1 hn1 hg1 (zf_J_runs_7 g1 r1 k1 n1 n) (ih) (x2) (x3) S15 nx2 nx3 hf _ _ _ hW hS (lv_sub hl [2, 3, 4, 5] rfl)
            · rw [if_pos c7] at hf
              refine lv_aload_n C.1 C.2.1 zd_J_runs_67 rfl (lv_at hl 1 rfl) ?_
              refine zr_iconst C zd_J_runs_68 ?_
              refine lv_aload_n C.1 C.2.1 zd_J_runs_69 rfl (lv_at hl 1 rfl) ?_
              obtain ⟨a16, S17, ea16, hf⟩ := zbd_some hf
              refine zcVi (As := []) (rest := [.int (zI (1)), .ref (B.2.1 3 (0) (7))]) C hK hSt hW hS (zc_J_pop hap S ea16) zq_J_pop zk_720 (zrecv hK hW (zvd_3 (by decide) (by decide)) (ze_3_7 B _ (0)) rfl) ⟨rfl, rfl, by decide, by decide⟩ ⟨Nat.zero_le _, Nat.zero_le _⟩ rfl hl.1 rfl (lv_room (Nat.le_of_ble_eq_true rfl)) zd_J_runs_70 (fun na16 H locs hW hS => ?_)
              refine zr_isub C zd_J_runs_73 ?_
              obtain ⟨a18, S19, ea18, hf⟩ := zbd_some hf
              refine zcVv (As := [.int (zI (zw (1 - a16)))]) (rest := []) C hK hSt hW hS (zc_J_push hap (zw (1 - a16)) S17 (zn_w _) ea18) zq_J_push zk_716 (zrecv hK hW (zvd_3 (by decide) (by decide)) (ze_3_7 B _ (0)) rfl) ⟨rfl, rfl, by decide, by decide⟩ ⟨Nat.zero_le _, Nat.zero_le _⟩ rfl hl.1 rfl (lv_room (Nat.le_of_ble_eq_true rfl)) zd_J_runs_74 (fun H locs hW hS => ?_)
              refine lv_goto (tgt := 101) C.1 C.2.1 zd_J_runs_77 (by decide) ?_
              exact zw_J_runs_101 C hr hlk hK hSt hap g1 r1 k1 n1 hv1 he1 hn1 hg1 (zf_J_runs_7 g1 r1 k1 n1 n) (ih) (x2) (x3) S19 nx2 nx3 hf _ _ _ hW hS (lv_sub hl [1, 2, 3, 4] rfl)
          · rw [if_neg c6] at hf
            refine lv_aload_n C.1 C.2.1 zd_J_runs_44 rfl (lv_at hl 1 rfl) ?_
            refine lv_aload_n C.1 C.2.1 zd_J_runs_45 rfl (lv_at hl 1 rfl) ?_
            refine zg_J_field (r := 0) C hK hW (zvd_3 (by decide) (by decide)) zk_412 zd_J_runs_46 ?_
            refine zr_iconst C zd_J_runs_49 ?_
            refine lv_iload C.1 C.2.1 zd_J_runs_50 (lv_at hl 0 rfl) ?_
            refine zr_isub C zd_J_runs_52 ?_
            obtain ⟨h20, hf⟩ := zck_some hf
            refine ziald C hK hW (zvd_3 (by decide) (by decide)) (fun f => ze_3_8 B f (0)) (by decide) h20 zd_J_runs_53 ?_
            obtain ⟨a21, S22, ea21, hf⟩ := zbd_some hf
            refine zcVv (As := [.int (zI (S 3 0 8 (zw ((-1) - v4))))]) (rest := []) C hK hSt hW hS (zc_J_push hap (S 3 0 8 (zw ((-1) - v4))) S (zWn hW _ _ _ _ rfl) ea21) zq_J_push zk_716 (zrecv hK hW (zvd_3 (by decide) (by decide)) (ze_3_7 B _ (0)) rfl) ⟨rfl, rfl, by decide, by decide⟩ ⟨Nat.zero_le _, Nat.zero_le _⟩ rfl hl.1 rfl (lv_room (Nat.le_of_ble_eq_true rfl)) zd_J_runs_54 (fun H locs hW hS => ?_)
            refine lv_goto (tgt := 101) C.1 C.2.1 zd_J_runs_57 (by decide) ?_
            exact zw_J_runs_101 C hr hlk hK hSt hap g1 r1 k1 n1 hv1 he1 hn1 hg1 (zf_J_runs_7 g1 r1 k1 n1 n) (ih) (x2) (x3) S22 nx2 nx3 hf _ _ _ hW hS (lv_sub hl [1, 2, 3, 4] rfl)
        · rw [if_neg c5] at hf
          refine lv_aload_n C.1 C.2.1 zd_J_runs_28 rfl (lv_at hl 1 rfl) ?_
          refine lv_iload C.1 C.2.1 zd_J_runs_29 (lv_at hl 0 rfl) ?_
          obtain ⟨a23, S24, ea23, hf⟩ := zbd_some hf
          refine zcVv (As := [.int (zI (v4))]) (rest := []) C hK hSt hW hS (zc_J_push hap v4 S nv4 ea23) zq_J_push zk_716 (zrecv hK hW (zvd_3 (by decide) (by decide)) (ze_3_7 B _ (0)) rfl) ⟨rfl, rfl, by decide, by decide⟩ ⟨Nat.zero_le _, Nat.zero_le _⟩ rfl hl.1 rfl (lv_room (Nat.le_of_ble_eq_true rfl)) zd_J_runs_31 (fun H locs hW hS => ?_)
          refine lv_goto (tgt := 101) C.1 C.2.1 zd_J_runs_34 (by decide) ?_
          exact zw_J_runs_101 C hr hlk hK hSt hap g1 r1 k1 n1 hv1 he1 hn1 hg1 (zf_J_runs_7 g1 r1 k1 n1 n) (ih) (x2) (x3) S24 nx2 nx3 hf _ _ _ hW hS (lv_sub hl [1, 2, 3, 4] rfl)

def zf_J_runs (g1 : Nat) (r1 : Int) (k1 : Int) (n1 : Nat) (x2 : Int) (S : Sg) : Option (Int × Sg) :=
    zlt (zu S 3 0 7 2 0) fun S1 => zf_J_runs_7 g1 r1 k1 n1 4096 (x2) (0) S1
set_option maxHeartbeats 4000000 in
set_option maxRecDepth 100000 in
theorem zw_J_runs {p : Program} {l : Launch} {e : Env} {s : State} {m : MethodId} {args : Array Value} {below : List Frame} {meth : Method} {c : Code} {B : zB} (C : CallFix p m c zb_J_runs 6 s args zT "IslandOffice$Judge") (hr : meth.sig.returnType = some .boolean) (hlk : meth.locks = false) (hK : zK B s) (hSt : zSt B s) (hap : zAp B) (g1 : Nat) (r1 : Int) (k1 : Int) (n1 : Nat) (hv1 : zvd g1 r1 k1) (he1 : ∀ f, zce B f g1 r1 k1 = .inl (B.2.2.1 0, n1, .inl (fun j : Nat => zI (f (j : Int))))) (hn1 : n1 ≤ 65536) (hg1 : (decide (20 ≤ g1)) = false) {res : Int} {S9 : Sg} : ∀ (x2 : Int) (S : Sg) (nx2 : zn x2), zf_J_runs g1 r1 k1 n1 x2 S = some (res, S9) → ∀ (H : Heap) (locs : List Loc) (ls : Array Slot), zW B S H → va_S B.2.2.2 s.heap H locs → lv_has ls 6 [(0, .ref (B.2.1 3 (0) (7))), (1, .ref (B.2.1 g1 (r1) (k1))), (2, .int (zI (x2)))] → W p l e zm_J_runs s m args below meth c H locs 0 0 (MQ below (zQi B res S9) args s 0 0 B.2.2.2) (F0 m 0 ls []) := by
  intro x2 S nx2 hf H locs ls hW hS hl
  unfold zf_J_runs at hf
  refine lv_aload_n C.1 C.2.1 zd_J_runs_0 rfl (lv_at hl 0 rfl) ?_
  refine zr_iconst C zd_J_runs_1 ?_
  obtain ⟨S1, eS1, hf⟩ := zlt_some hf
  refine zp_J_top (r := 0) C hK hap hW hS (zvd_3 (by decide) (by decide)) zk_414 (znb rfl) zd_J_runs_2 (fun H locs hW hS => ?_)
  rw [eS1] at hW
  refine zr_iconst C zd_J_runs_5 ?_
  refine lv_istore_n (lv' := [(3, .int (zI (0))), (0, .ref (B.2.1 3 (0) (7))), (1, .ref (B.2.1 g1 (r1) (k1))), (2, .int (zI (x2)))]) C.1 C.2.1 zd_J_runs_6 rfl hl (by decide) rfl (fun ls hl => ?_)
  exact zw_J_runs_7 C hr hlk hK hSt hap g1 r1 k1 n1 hv1 he1 hn1 hg1 4096 (x2) (0) S1 nx2 (znb rfl) hf _ _ _ hW hS (lv_sub hl [1, 2, 3, 0] rfl)

theorem zc_J_runs {l : Launch} {B : zB} (hap : zAp B) (g1 : Nat) (r1 : Int) (k1 : Int) (n1 : Nat) (hv1 : zvd g1 r1 k1) (he1 : ∀ f, zce B f g1 r1 k1 = .inl (B.2.2.1 0, n1, .inl (fun j : Nat => zI (f (j : Int))))) (hn1 : n1 ≤ 65536) (hg1 : (decide (20 ≤ g1)) = false) (x2 : Int) (S : Sg) (nx2 : zn x2) {res : Int} {S9 : Sg} (hf : zf_J_runs g1 r1 k1 n1 x2 S = some (res, S9)) : Met l zy_J_runs (Cond.code zy_J_runs zb_J_runs 6 (some .boolean) :: zT) zm_J_runs (zP B S [.ref (B.2.1 3 (0) (7)), .ref (B.2.1 g1 (r1) (k1)), .int (zI (x2))]) (zQi B res S9) 0 0 B.2.2.2 :=
  zmet (by decide) (Nat.le_of_ble_eq_true rfl) (fun p e s m args below meth c C hr hlk hK hSt hW ls hl => zw_J_runs C hr hlk hK hSt hap g1 r1 k1 n1 hv1 he1 hn1 hg1 x2 S nx2 hf _ _ _ hW va_S.rf hl)
/-! IslandOffice$Laws.inForce(II)I -/
abbrev zy_L_inForce : MethodName := ⟨"IslandOffice$Laws", "inForce", "(II)I"⟩
abbrev zb_L_inForce : ByteArray := prog_6_method_5_code
abbrev zm_L_inForce : Room := { frames := 0, cells := 0, slots := 0, locals := 0 }
theorem zq_L_inForce : zMy zy_L_inForce zb_L_inForce 6 (some .int) 2 := ⟨zk_695, zk_693, zk_694, zk_5, by decide, by decide, by decide +kernel⟩
theorem zd_L_inForce_0 : decode zb_L_inForce 0 = .ok (.iconst (-1), 1) := by decide +kernel
theorem zd_L_inForce_1 : decode zb_L_inForce 1 = .ok (.istore_n 3, 1) := by decide +kernel
theorem zd_L_inForce_2 : decode zb_L_inForce 2 = .ok (.iconst 0, 1) := by decide +kernel
theorem zd_L_inForce_3 : decode zb_L_inForce 3 = .ok (.istore 4, 2) := by decide +kernel
theorem zd_L_inForce_5 : decode zb_L_inForce 5 = .ok (.iload 4, 2) := by decide +kernel
theorem zd_L_inForce_7 : decode zb_L_inForce 7 = .ok (.aload_n 0, 1) := by decide +kernel
theorem zd_L_inForce_8 : decode zb_L_inForce 8 = .ok (.getfield 9, 3) := by decide +kernel
theorem zd_L_inForce_11 : decode zb_L_inForce 11 = .ok (.if_icmp .ge 97, 3) := by decide +kernel
theorem zd_L_inForce_14 : decode zb_L_inForce 14 = .ok (.aload_n 0, 1) := by decide +kernel
theorem zd_L_inForce_15 : decode zb_L_inForce 15 = .ok (.getfield 31, 3) := by decide +kernel
theorem zd_L_inForce_18 : decode zb_L_inForce 18 = .ok (.iload 4, 2) := by decide +kernel
theorem zd_L_inForce_20 : decode zb_L_inForce 20 = .ok (.iaload, 1) := by decide +kernel
theorem zd_L_inForce_21 : decode zb_L_inForce 21 = .ok (.ifCond .lt 18, 3) := by decide +kernel
theorem zd_L_inForce_24 : decode zb_L_inForce 24 = .ok (.aload_n 0, 1) := by decide +kernel
theorem zd_L_inForce_25 : decode zb_L_inForce 25 = .ok (.getfield 31, 3) := by decide +kernel
theorem zd_L_inForce_28 : decode zb_L_inForce 28 = .ok (.iload 4, 2) := by decide +kernel
theorem zd_L_inForce_30 : decode zb_L_inForce 30 = .ok (.iaload, 1) := by decide +kernel
theorem zd_L_inForce_31 : decode zb_L_inForce 31 = .ok (.iload_n 2, 1) := by decide +kernel
theorem zd_L_inForce_32 : decode zb_L_inForce 32 = .ok (.if_icmp .gt 7, 3) := by decide +kernel
theorem zd_L_inForce_35 : decode zb_L_inForce 35 = .ok (.iconst 1, 1) := by decide +kernel
theorem zd_L_inForce_36 : decode zb_L_inForce 36 = .ok (.goto 4, 3) := by decide +kernel
theorem zd_L_inForce_39 : decode zb_L_inForce 39 = .ok (.iconst 0, 1) := by decide +kernel
theorem zd_L_inForce_40 : decode zb_L_inForce 40 = .ok (.istore 5, 2) := by decide +kernel
theorem zd_L_inForce_42 : decode zb_L_inForce 42 = .ok (.aload_n 0, 1) := by decide +kernel
theorem zd_L_inForce_43 : decode zb_L_inForce 43 = .ok (.getfield 15, 3) := by decide +kernel
theorem zd_L_inForce_46 : decode zb_L_inForce 46 = .ok (.iload 4, 2) := by decide +kernel
theorem zd_L_inForce_48 : decode zb_L_inForce 48 = .ok (.iaload, 1) := by decide +kernel
theorem zd_L_inForce_49 : decode zb_L_inForce 49 = .ok (.iload_n 1, 1) := by decide +kernel
theorem zd_L_inForce_50 : decode zb_L_inForce 50 = .ok (.if_icmp .ne 52, 3) := by decide +kernel
theorem zd_L_inForce_53 : decode zb_L_inForce 53 = .ok (.aload_n 0, 1) := by decide +kernel
theorem zd_L_inForce_54 : decode zb_L_inForce 54 = .ok (.getfield 28, 3) := by decide +kernel
theorem zd_L_inForce_57 : decode zb_L_inForce 57 = .ok (.iload 4, 2) := by decide +kernel
theorem zd_L_inForce_59 : decode zb_L_inForce 59 = .ok (.iaload, 1) := by decide +kernel
theorem zd_L_inForce_60 : decode zb_L_inForce 60 = .ok (.ifCond .ne 42, 3) := by decide +kernel
theorem zd_L_inForce_63 : decode zb_L_inForce 63 = .ok (.aload_n 0, 1) := by decide +kernel
theorem zd_L_inForce_64 : decode zb_L_inForce 64 = .ok (.getfield 19, 3) := by decide +kernel
theorem zd_L_inForce_67 : decode zb_L_inForce 67 = .ok (.iload 4, 2) := by decide +kernel
theorem zd_L_inForce_69 : decode zb_L_inForce 69 = .ok (.iaload, 1) := by decide +kernel
theorem zd_L_inForce_70 : decode zb_L_inForce 70 = .ok (.iload_n 2, 1) := by decide +kernel
theorem zd_L_inForce_71 : decode zb_L_inForce 71 = .ok (.if_icmp .gt 31, 3) := by decide +kernel
theorem zd_L_inForce_74 : decode zb_L_inForce 74 = .ok (.iload 5, 2) := by decide +kernel
theorem zd_L_inForce_76 : decode zb_L_inForce 76 = .ok (.ifCond .ne 26, 3) := by decide +kernel
theorem zd_L_inForce_79 : decode zb_L_inForce 79 = .ok (.iload_n 3, 1) := by decide +kernel
theorem zd_L_inForce_80 : decode zb_L_inForce 80 = .ok (.ifCond .lt 19, 3) := by decide +kernel
theorem zd_L_inForce_83 : decode zb_L_inForce 83 = .ok (.aload_n 0, 1) := by decide +kernel
theorem zd_L_inForce_84 : decode zb_L_inForce 84 = .ok (.getfield 19, 3) := by decide +kernel
theorem zd_L_inForce_87 : decode zb_L_inForce 87 = .ok (.iload 4, 2) := by decide +kernel
theorem zd_L_inForce_89 : decode zb_L_inForce 89 = .ok (.iaload, 1) := by decide +kernel
theorem zd_L_inForce_90 : decode zb_L_inForce 90 = .ok (.aload_n 0, 1) := by decide +kernel
theorem zd_L_inForce_91 : decode zb_L_inForce 91 = .ok (.getfield 19, 3) := by decide +kernel
theorem zd_L_inForce_94 : decode zb_L_inForce 94 = .ok (.iload_n 3, 1) := by decide +kernel
theorem zd_L_inForce_95 : decode zb_L_inForce 95 = .ok (.iaload, 1) := by decide +kernel
theorem zd_L_inForce_96 : decode zb_L_inForce 96 = .ok (.if_icmp .lt 6, 3) := by decide +kernel
theorem zd_L_inForce_99 : decode zb_L_inForce 99 = .ok (.iload 4, 2) := by decide +kernel
theorem zd_L_inForce_101 : decode zb_L_inForce 101 = .ok (.istore_n 3, 1) := by decide +kernel
theorem zd_L_inForce_102 : decode zb_L_inForce 102 = .ok (.iinc 4 1, 3) := by decide +kernel
theorem zd_L_inForce_105 : decode zb_L_inForce 105 = .ok (.goto (-100), 3) := by decide +kernel
theorem zd_L_inForce_108 : decode zb_L_inForce 108 = .ok (.iload_n 3, 1) := by decide +kernel
theorem zd_L_inForce_109 : decode zb_L_inForce 109 = .ok (.ireturn, 1) := by decide +kernel

def zf_L_inForce_102 (r0 : Int) (q5 : Int → Int → Int → Int → Sg → Option (Int × Sg)) (x1 : Int) (x2 : Int) (x3 : Int) (x4 : Int) (S : Sg) : Option (Int × Sg) :=
    zlt (zw (x4 + 1)) fun v1 => q5 (x1) (x2) (x3) (v1) S
set_option maxHeartbeats 4000000 in
set_option maxRecDepth 100000 in
theorem zw_L_inForce_102 {p : Program} {l : Launch} {e : Env} {s : State} {m : MethodId} {args : Array Value} {below : List Frame} {meth : Method} {c : Code} {B : zB} (C : CallFix p m c zb_L_inForce 6 s args zT "IslandOffice$Laws") (hr : meth.sig.returnType = some .int) (hlk : meth.locks = false) (hK : zK B s) (hSt : zSt B s) (hap : zAp B) (r0 : Int) (hr0 : 0 ≤ r0 ∧ r0 < 3) {res : Int} {S9 : Sg} (q5 : Int → Int → Int → Int → Sg → Option (Int × Sg)) (hq5 : ∀ (x1 : Int) (x2 : Int) (x3 : Int) (x4 : Int) (S : Sg) (nx1 : zn x1) (nx2 : zn x2) (nx3 : zn x3) (nx4 : zn x4), q5 x1 x2 x3 x4 S = some (res, S9) → ∀ (H : Heap) (locs : List Loc) (ls : Array Slot), zW B S H → va_S B.2.2.2 s.heap H locs → lv_has ls 6 [(0, .ref (B.2.1 0 (r0) (16))), (1, .int (zI (x1))), (2, .int (zI (x2))), (3, .int (zI (x3))), (4, .int (zI (x4)))] → W p l e zm_L_inForce s m args below meth c H locs 0 0 (MQ below (zQi B res S9) args s 0 0 B.2.2.2) (F0 m 5 ls [])) : ∀ (x1 : Int) (x2 : Int) (x3 : Int) (x4 : Int) (S : Sg) (nx1 : zn x1) (nx2 : zn x2) (nx3 : zn x3) (nx4 : zn x4), zf_L_inForce_102 r0 q5 x1 x2 x3 x4 S = some (res, S9) → ∀ (H : Heap) (locs : List Loc) (ls : Array Slot), zW B S H → va_S B.2.2.2 s.heap H locs → lv_has ls 6 [(0, .ref (B.2.1 0 (r0) (16))), (1, .int (zI (x1))), (2, .int (zI (x2))), (3, .int (zI (x3))), (4, .int (zI (x4)))] → W p l e zm_L_inForce s m args below meth c H locs 0 0 (MQ below (zQi B res S9) args s 0 0 B.2.2.2) (F0 m 102 ls []) := by
  intro x1 x2 x3 x4 S nx1 nx2 nx3 nx4 hf H locs ls hW hS hl
  unfold zf_L_inForce_102 at hf
  obtain ⟨v1, ev1, hf⟩ := zlt_some hf
  have nv1 : zn v1 := by rw [← ev1]; exact zn_w _
  refine lv_iinc (v := zI v1) (lv' := [(4, .int (zI (v1))), (0, .ref (B.2.1 0 (r0) (16))), (1, .int (zI (x1))), (2, .int (zI (x2))), (3, .int (zI (x3)))]) C.1 C.2.1 zd_L_inForce_102 hl (k := 4) rfl (by rw [← ev1, ← zI_add]; rfl) (by decide) rfl (fun ls hl => ?_)
  refine lv_goto (tgt := 5) C.1 C.2.1 zd_L_inForce_105 (by decide) ?_
  exact hq5 (x1) (x2) (x3) (v1) S nx1 nx2 nx3 nv1 hf _ _ _ hW hS (lv_sub hl [1, 2, 3, 4, 0] rfl)

def zf_L_inForce_99 (r0 : Int) (q5 : Int → Int → Int → Int → Sg → Option (Int × Sg)) (x1 : Int) (x2 : Int) (x4 : Int) (S : Sg) : Option (Int × Sg) :=
    zf_L_inForce_102 r0 q5 (x1) (x2) (x4) (x4) S
set_option maxHeartbeats 4000000 in
set_option maxRecDepth 100000 in
theorem zw_L_inForce_99 {p : Program} {l : Launch} {e : Env} {s : State} {m : MethodId} {args : Array Value} {below : List Frame} {meth : Method} {c : Code} {B : zB} (C : CallFix p m c zb_L_inForce 6 s args zT "IslandOffice$Laws") (hr : meth.sig.returnType = some .int) (hlk : meth.locks = false) (hK : zK B s) (hSt : zSt B s) (hap : zAp B) (r0 : Int) (hr0 : 0 ≤ r0 ∧ r0 < 3) {res : Int} {S9 : Sg} (q5 : Int → Int → Int → Int → Sg → Option (Int × Sg)) (hq5 : ∀ (x1 : Int) (x2 : Int) (x3 : Int) (x4 : Int) (S : Sg) (nx1 : zn x1) (nx2 : zn x2) (nx3 : zn x3) (nx4 : zn x4), q5 x1 x2 x3 x4 S = some (res, S9) → ∀ (H : Heap) (locs : List Loc) (ls : Array Slot), zW B S H → va_S B.2.2.2 s.heap H locs → lv_has ls 6 [(0, .ref (B.2.1 0 (r0) (16))), (1, .int (zI (x1))), (2, .int (zI (x2))), (3, .int (zI (x3))), (4, .int (zI (x4)))] → W p l e zm_L_inForce s m args below meth c H locs 0 0 (MQ below (zQi B res S9) args s 0 0 B.2.2.2) (F0 m 5 ls [])) : ∀ (x1 : Int) (x2 : Int) (x4 : Int) (S : Sg) (nx1 : zn x1) (nx2 : zn x2) (nx4 : zn x4), zf_L_inForce_99 r0 q5 x1 x2 x4 S = some (res, S9) → ∀ (H : Heap) (locs : List Loc) (ls : Array Slot), zW B S H → va_S B.2.2.2 s.heap H locs → lv_has ls 6 [(0, .ref (B.2.1 0 (r0) (16))), (1, .int (zI (x1))), (2, .int (zI (x2))), (4, .int (zI (x4)))] → W p l e zm_L_inForce s m args below meth c H locs 0 0 (MQ below (zQi B res S9) args s 0 0 B.2.2.2) (F0 m 99 ls []) := by
  intro x1 x2 x4 S nx1 nx2 nx4 hf H locs ls hW hS hl
  unfold zf_L_inForce_99 at hf
  refine lv_iload C.1 C.2.1 zd_L_inForce_99 (lv_at hl 3 rfl) ?_
  refine lv_istore_n (lv' := [(3, .int (zI (x4))), (0, .ref (B.2.1 0 (r0) (16))), (1, .int (zI (x1))), (2, .int (zI (x2))), (4, .int (zI (x4)))]) C.1 C.2.1 zd_L_inForce_101 rfl hl (by decide) rfl (fun ls hl => ?_)
  exact zw_L_inForce_102 C hr hlk hK hSt hap r0 hr0 q5 hq5 (x1) (x2) (x4) (x4) S nx1 nx2 nx4 nx4 hf _ _ _ hW hS (lv_sub hl [1, 2, 3, 0, 4] rfl)

def zf_L_inForce_40 (r0 : Int) (q5 : Int → Int → Int → Int → Sg → Option (Int × Sg)) (x1 : Int) (x2 : Int) (x3 : Int) (x4 : Int) (xt0 : Int) (S : Sg) : Option (Int × Sg) :=
    zck (0 ≤ x4 ∧ x4 < 12) <| if (S 0 r0 17 x4) = x1 then (if (S 0 r0 21 x4) = 0 then (if x2 < (S 0 r0 18 x4) then (zf_L_inForce_102 r0 q5 (x1) (x2) (x3) (x4) S) else (if xt0 = 0 then (if x3 < 0 then (zf_L_inForce_99 r0 q5 (x1) (x2) (x4) S) else (zck (0 ≤ x3 ∧ x3 < 12) <| if (S 0 r0 18 x4) < (S 0 r0 18 x3) then (zf_L_inForce_102 r0 q5 (x1) (x2) (x3) (x4) S) else (zf_L_inForce_99 r0 q5 (x1) (x2) (x4) S))) else (zf_L_inForce_102 r0 q5 (x1) (x2) (x3) (x4) S))) else (zf_L_inForce_102 r0 q5 (x1) (x2) (x3) (x4) S)) else (zf_L_inForce_102 r0 q5 (x1) (x2) (x3) (x4) S)
set_option maxHeartbeats 4000000 in
set_option maxRecDepth 100000 in
theorem zw_L_inForce_40 {p : Program} {l : Launch} {e : Env} {s : State} {m : MethodId} {args : Array Value} {below : List Frame} {meth : Method} {c : Code} {B : zB} (C : CallFix p m c zb_L_inForce 6 s args zT "IslandOffice$Laws") (hr : meth.sig.returnType = some .int) (hlk : meth.locks = false) (hK : zK B s) (hSt : zSt B s) (hap : zAp B) (r0 : Int) (hr0 : 0 ≤ r0 ∧ r0 < 3) {res : Int} {S9 : Sg} (q5 : Int → Int → Int → Int → Sg → Option (Int × Sg)) (hq5 : ∀ (x1 : Int) (x2 : Int) (x3 : Int) (x4 : Int) (S : Sg) (nx1 : zn x1) (nx2 : zn x2) (nx3 : zn x3) (nx4 : zn x4), q5 x1 x2 x3 x4 S = some (res, S9) → ∀ (H : Heap) (locs : List Loc) (ls : Array Slot), zW B S H → va_S B.2.2.2 s.heap H locs → lv_has ls 6 [(0, .ref (B.2.1 0 (r0) (16))), (1, .int (zI (x1))), (2, .int (zI (x2))), (3, .int (zI (x3))), (4, .int (zI (x4)))] → W p l e zm_L_inForce s m args below meth c H locs 0 0 (MQ below (zQi B res S9) args s 0 0 B.2.2.2) (F0 m 5 ls [])) : ∀ (x1 : Int) (x2 : Int) (x3 : Int) (x4 : Int) (xt0 : Int) (S : Sg) (nx1 : zn x1) (nx2 : zn x2) (nx3 : zn x3) (nx4 : zn x4) (nxt0 : zn xt0), zf_L_inForce_40 r0 q5 x1 x2 x3 x4 xt0 S = some (res, S9) → ∀ (H : Heap) (locs : List Loc) (ls : Array Slot), zW B S H → va_S B.2.2.2 s.heap H locs → lv_has ls 6 [(0, .ref (B.2.1 0 (r0) (16))), (1, .int (zI (x1))), (2, .int (zI (x2))), (3, .int (zI (x3))), (4, .int (zI (x4)))] → W p l e zm_L_inForce s m args below meth c H locs 0 0 (MQ below (zQi B res S9) args s 0 0 B.2.2.2) (F0 m 40 ls [.int (zI (xt0))]) := by
  intro x1 x2 x3 x4 xt0 S nx1 nx2 nx3 nx4 nxt0 hf H locs ls hW hS hl
  unfold zf_L_inForce_40 at hf
  refine lv_istore (lv' := [(5, .int (zI (xt0))), (0, .ref (B.2.1 0 (r0) (16))), (1, .int (zI (x1))), (2, .int (zI (x2))), (3, .int (zI (x3))), (4, .int (zI (x4)))]) C.1 C.2.1 zd_L_inForce_40 hl (by decide) rfl (fun ls hl => ?_)
  refine lv_aload_n C.1 C.2.1 zd_L_inForce_42 rfl (lv_at hl 1 rfl) ?_
  refine zg_L_subject (r := r0) C hK hW (zvd_0 hr0 (by decide)) zk_117 zd_L_inForce_43 ?_
  refine lv_iload C.1 C.2.1 zd_L_inForce_46 (lv_at hl 5 rfl) ?_
  obtain ⟨h1, hf⟩ := zck_some hf
  refine ziald C hK hW (zvd_0 hr0 (by decide)) (fun f => ze_0_17 B f (r0)) (by decide) h1 zd_L_inForce_48 ?_
  refine lv_iload_n C.1 C.2.1 zd_L_inForce_49 rfl (lv_at hl 2 rfl) ?_
  refine zr_icmp_ne (tgt := 102) C (zWn hW _ _ _ _ rfl) nx1 zd_L_inForce_50 (by decide) (fun c2 => ?_) (fun c2 => ?_)
  · rw [if_neg c2] at hf
    exact zw_L_inForce_102 C hr hlk hK hSt hap r0 hr0 q5 hq5 (x1) (x2) (x3) (x4) S nx1 nx2 nx3 nx4 hf _ _ _ hW hS (lv_sub hl [1, 2, 3, 4, 5] rfl)
  · rw [if_pos c2] at hf
    refine lv_aload_n C.1 C.2.1 zd_L_inForce_53 rfl (lv_at hl 1 rfl) ?_
    refine zg_L_isVoid (r := r0) C hK hW (zvd_0 hr0 (by decide)) zk_127 zd_L_inForce_54 ?_
    refine lv_iload C.1 C.2.1 zd_L_inForce_57 (lv_at hl 5 rfl) ?_
    refine ziald C hK hW (zvd_0 hr0 (by decide)) (fun f => ze_0_21 B f (r0)) (by decide) h1 zd_L_inForce_59 ?_
    refine zr_if_ne (tgt := 102) C (zWn hW _ _ _ _ rfl) zd_L_inForce_60 (by decide) (fun c3 => ?_) (fun c3 => ?_)
    · rw [if_neg c3] at hf
      exact zw_L_inForce_102 C hr hlk hK hSt hap r0 hr0 q5 hq5 (x1) (x2) (x3) (x4) S nx1 nx2 nx3 nx4 hf _ _ _ hW hS (lv_sub hl [1, 2, 3, 4, 5] rfl)
    · rw [if_pos c3] at hf
      refine lv_aload_n C.1 C.2.1 zd_L_inForce_63 rfl (lv_at hl 1 rfl) ?_
      refine zg_L_begin (r := r0) C hK hW (zvd_0 hr0 (by decide)) zk_120 zd_L_inForce_64 ?_
      refine lv_iload C.1 C.2.1 zd_L_inForce_67 (lv_at hl 5 rfl) ?_
      refine ziald C hK hW (zvd_0 hr0 (by decide)) (fun f => ze_0_18 B f (r0)) (by decide) h1 zd_L_inForce_69 ?_
      refine lv_iload_n C.1 C.2.1 zd_L_inForce_70 rfl (lv_at hl 3 rfl) ?_
      refine zr_icmp_gt (tgt := 102) C (zWn hW _ _ _ _ rfl) nx2 zd_L_inForce_71 (by decide) (fun c4 => ?_) (fun c4 => ?_)
      · rw [if_pos c4] at hf
        exact zw_L_inForce_102 C hr hlk hK hSt hap r0 hr0 q5 hq5 (x1) (x2) (x3) (x4) S nx1 nx2 nx3 nx4 hf _ _ _ hW hS (lv_sub hl [1, 2, 3, 4, 5] rfl)
      · rw [if_neg c4] at hf
        refine lv_iload C.1 C.2.1 zd_L_inForce_74 (lv_at hl 0 rfl) ?_
        refine zr_if_ne (tgt := 102) C nxt0 zd_L_inForce_76 (by decide) (fun c5 => ?_) (fun c5 => ?_)
        · rw [if_neg c5] at hf
          exact zw_L_inForce_102 C hr hlk hK hSt hap r0 hr0 q5 hq5 (x1) (x2) (x3) (x4) S nx1 nx2 nx3 nx4 hf _ _ _ hW hS (lv_sub hl [1, 2, 3, 4, 5] rfl)
        · rw [if_pos c5] at hf
          refine lv_iload_n C.1 C.2.1 zd_L_inForce_79 rfl (lv_at hl 4 rfl) ?_
          refine zr_if_lt (tgt := 99) C nx3 zd_L_inForce_80 (by decide) (fun c6 => ?_) (fun c6 => ?_)
          · rw [if_pos c6] at hf
            exact zw_L_inForce_99 C hr hlk hK hSt hap r0 hr0 q5 hq5 (x1) (x2) (x4) S nx1 nx2 nx4 hf _ _ _ hW hS (lv_sub hl [1, 2, 3, 5] rfl)
          · rw [if_neg c6] at hf
            refine lv_aload_n C.1 C.2.1 zd_L_inForce_83 rfl (lv_at hl 1 rfl) ?_
            refine zg_L_begin (r := r0) C hK hW (zvd_0 hr0 (by decide)) zk_120 zd_L_inForce_84 ?_
            refine lv_iload C.1 C.2.1 zd_L_inForce_87 (lv_at hl 5 rfl) ?_
            refine ziald C hK hW (zvd_0 hr0 (by decide)) (fun f => ze_0_18 B f (r0)) (by decide) h1 zd_L_inForce_89 ?_
            refine lv_aload_n C.1 C.2.1 zd_L_inForce_90 rfl (lv_at hl 1 rfl) ?_
            refine zg_L_begin (r := r0) C hK hW (zvd_0 hr0 (by decide)) zk_120 zd_L_inForce_91 ?_
            refine lv_iload_n C.1 C.2.1 zd_L_inForce_94 rfl (lv_at hl 4 rfl) ?_
            obtain ⟨h7, hf⟩ := zck_some hf
            refine ziald C hK hW (zvd_0 hr0 (by decide)) (fun f => ze_0_18 B f (r0)) (by decide) h7 zd_L_inForce_95 ?_
            refine zr_icmp_lt (tgt := 102) C (zWn hW _ _ _ _ rfl) (zWn hW _ _ _ _ rfl) zd_L_inForce_96 (by decide) (fun c8 => ?_) (fun c8 => ?_)
            · rw [if_pos c8] at hf
              exact zw_L_inForce_102 C hr hlk hK hSt hap r0 hr0 q5 hq5 (x1) (x2) (x3) (x4) S nx1 nx2 nx3 nx4 hf _ _ _ hW hS (lv_sub hl [1, 2, 3, 4, 5] rfl)
            · rw [if_neg c8] at hf
              exact zw_L_inForce_99 C hr hlk hK hSt hap r0 hr0 q5 hq5 (x1) (x2) (x4) S nx1 nx2 nx4 hf _ _ _ hW hS (lv_sub hl [1, 2, 3, 5] rfl)

def zf_L_inForce_39 (r0 : Int) (q5 : Int → Int → Int → Int → Sg → Option (Int × Sg)) (x1 : Int) (x2 : Int) (x3 : Int) (x4 : Int) (S : Sg) : Option (Int × Sg) :=
    zf_L_inForce_40 r0 q5 (x1) (x2) (x3) (x4) (0) S
set_option maxHeartbeats 4000000 in
set_option maxRecDepth 100000 in
theorem zw_L_inForce_39 {p : Program} {l : Launch} {e : Env} {s : State} {m : MethodId} {args : Array Value} {below : List Frame} {meth : Method} {c : Code} {B : zB} (C : CallFix p m c zb_L_inForce 6 s args zT "IslandOffice$Laws") (hr : meth.sig.returnType = some .int) (hlk : meth.locks = false) (hK : zK B s) (hSt : zSt B s) (hap : zAp B) (r0 : Int) (hr0 : 0 ≤ r0 ∧ r0 < 3) {res : Int} {S9 : Sg} (q5 : Int → Int → Int → Int → Sg → Option (Int × Sg)) (hq5 : ∀ (x1 : Int) (x2 : Int) (x3 : Int) (x4 : Int) (S : Sg) (nx1 : zn x1) (nx2 : zn x2) (nx3 : zn x3) (nx4 : zn x4), q5 x1 x2 x3 x4 S = some (res, S9) → ∀ (H : Heap) (locs : List Loc) (ls : Array Slot), zW B S H → va_S B.2.2.2 s.heap H locs → lv_has ls 6 [(0, .ref (B.2.1 0 (r0) (16))), (1, .int (zI (x1))), (2, .int (zI (x2))), (3, .int (zI (x3))), (4, .int (zI (x4)))] → W p l e zm_L_inForce s m args below meth c H locs 0 0 (MQ below (zQi B res S9) args s 0 0 B.2.2.2) (F0 m 5 ls [])) : ∀ (x1 : Int) (x2 : Int) (x3 : Int) (x4 : Int) (S : Sg) (nx1 : zn x1) (nx2 : zn x2) (nx3 : zn x3) (nx4 : zn x4), zf_L_inForce_39 r0 q5 x1 x2 x3 x4 S = some (res, S9) → ∀ (H : Heap) (locs : List Loc) (ls : Array Slot), zW B S H → va_S B.2.2.2 s.heap H locs → lv_has ls 6 [(0, .ref (B.2.1 0 (r0) (16))), (1, .int (zI (x1))), (2, .int (zI (x2))), (3, .int (zI (x3))), (4, .int (zI (x4)))] → W p l e zm_L_inForce s m args below meth c H locs 0 0 (MQ below (zQi B res S9) args s 0 0 B.2.2.2) (F0 m 39 ls []) := by
  intro x1 x2 x3 x4 S nx1 nx2 nx3 nx4 hf H locs ls hW hS hl
  unfold zf_L_inForce_39 at hf
  refine zr_iconst C zd_L_inForce_39 ?_
  exact zw_L_inForce_40 C hr hlk hK hSt hap r0 hr0 q5 hq5 (x1) (x2) (x3) (x4) (0) S nx1 nx2 nx3 nx4 (znb rfl) hf _ _ _ hW hS (lv_sub hl [0, 1, 2, 3, 4] rfl)

def zf_L_inForce_5 (r0 : Int) : Nat → Int → Int → Int → Int → Sg → Option (Int × Sg)
  | 0, _, _, _, _, _ => none
  | n + 1, x1, x2, x3, x4, S =>
    if (S 0 r0 16 0) ≤ x4 then (some (x3, S)) else (zck (0 ≤ x4 ∧ x4 < 12) <| if (S 0 r0 22 x4) < 0 then (zf_L_inForce_39 r0 (zf_L_inForce_5 r0 n) (x1) (x2) (x3) (x4) S) else (if x2 < (S 0 r0 22 x4) then (zf_L_inForce_39 r0 (zf_L_inForce_5 r0 n) (x1) (x2) (x3) (x4) S) else (zf_L_inForce_40 r0 (zf_L_inForce_5 r0 n) (x1) (x2) (x3) (x4) (1) S)))
set_option maxHeartbeats 4000000 in
set_option maxRecDepth 100000 in
theorem zw_L_inForce_5 {p : Program} {l : Launch} {e : Env} {s : State} {m : MethodId} {args : Array Value} {below : List Frame} {meth : Method} {c : Code} {B : zB} (C : CallFix p m c zb_L_inForce 6 s args zT "IslandOffice$Laws") (hr : meth.sig.returnType = some .int) (hlk : meth.locks = false) (hK : zK B s) (hSt : zSt B s) (hap : zAp B) (r0 : Int) (hr0 : 0 ≤ r0 ∧ r0 < 3) {res : Int} {S9 : Sg} : ∀ n : Nat, ∀ (x1 : Int) (x2 : Int) (x3 : Int) (x4 : Int) (S : Sg) (nx1 : zn x1) (nx2 : zn x2) (nx3 : zn x3) (nx4 : zn x4), zf_L_inForce_5 r0 n x1 x2 x3 x4 S = some (res, S9) → ∀ (H : Heap) (locs : List Loc) (ls : Array Slot), zW B S H → va_S B.2.2.2 s.heap H locs → lv_has ls 6 [(0, .ref (B.2.1 0 (r0) (16))), (1, .int (zI (x1))), (2, .int (zI (x2))), (3, .int (zI (x3))), (4, .int (zI (x4)))] → W p l e zm_L_inForce s m args below meth c H locs 0 0 (MQ below (zQi B res S9) args s 0 0 B.2.2.2) (F0 m 5 ls []) := by
  intro n
  induction n with
  | zero =>
    intro x1 x2 x3 x4 S nx1 nx2 nx3 nx4 hf H locs ls hW hS hl
    cases hf
  | succ n ih =>
    intro x1 x2 x3 x4 S nx1 nx2 nx3 nx4 hf H locs ls hW hS hl
    rw [zf_L_inForce_5] at hf
    refine lv_iload C.1 C.2.1 zd_L_inForce_5 (lv_at hl 4 rfl) ?_
    refine lv_aload_n C.1 C.2.1 zd_L_inForce_7 rfl (lv_at hl 0 rfl) ?_
    refine zg_L_n (r := r0) C hK hW (zvd_0 hr0 (by decide)) zk_115 zd_L_inForce_8 ?_
    refine zr_icmp_ge (tgt := 108) C nx4 (zWn hW _ _ _ _ rfl) zd_L_inForce_11 (by decide) (fun c1 => ?_) (fun c1 => ?_)
    · rw [if_pos c1] at hf
      refine lv_iload_n C.1 C.2.1 zd_L_inForce_108 rfl (lv_at hl 3 rfl) ?_
      cases hf
      exact zre_i C hr hlk hK hW hS nx3 zd_L_inForce_109
    · rw [if_neg c1] at hf
      refine lv_aload_n C.1 C.2.1 zd_L_inForce_14 rfl (lv_at hl 0 rfl) ?_
      refine zg_L_repealed (r := r0) C hK hW (zvd_0 hr0 (by decide)) zk_129 zd_L_inForce_15 ?_
      refine lv_iload C.1 C.2.1 zd_L_inForce_18 (lv_at hl 4 rfl) ?_
      obtain ⟨h2, hf⟩ := zck_some hf
      refine ziald C hK hW (zvd_0 hr0 (by decide)) (fun f => ze_0_22 B f (r0)) (by decide) h2 zd_L_inForce_20 ?_
      refine zr_if_lt (tgt := 39) C (zWn hW _ _ _ _ rfl) zd_L_inForce_21 (by decide) (fun c3 => ?_) (fun c3 => ?_)
      · rw [if_pos c3] at hf
        exact zw_L_inForce_39 C hr hlk hK hSt hap r0 hr0 (zf_L_inForce_5 r0 n) (ih) (x1) (x2) (x3) (x4) S nx1 nx2 nx3 nx4 hf _ _ _ hW hS (lv_sub hl [0, 1, 2, 3, 4] rfl)
      · rw [if_neg c3] at hf
        refine lv_aload_n C.1 C.2.1 zd_L_inForce_24 rfl (lv_at hl 0 rfl) ?_
        refine zg_L_repealed (r := r0) C hK hW (zvd_0 hr0 (by decide)) zk_129 zd_L_inForce_25 ?_
        refine lv_iload C.1 C.2.1 zd_L_inForce_28 (lv_at hl 4 rfl) ?_
        refine ziald C hK hW (zvd_0 hr0 (by decide)) (fun f => ze_0_22 B f (r0)) (by decide) h2 zd_L_inForce_30 ?_
        refine lv_iload_n C.1 C.2.1 zd_L_inForce_31 rfl (lv_at hl 2 rfl) ?_
        refine zr_icmp_gt (tgt := 39) C (zWn hW _ _ _ _ rfl) nx2 zd_L_inForce_32 (by decide) (fun c4 => ?_) (fun c4 => ?_)
        · rw [if_pos c4] at hf
          exact zw_L_inForce_39 C hr hlk hK hSt hap r0 hr0 (zf_L_inForce_5 r0 n) (ih) (x1) (x2) (x3) (x4) S nx1 nx2 nx3 nx4 hf _ _ _ hW hS (lv_sub hl [0, 1, 2, 3, 4] rfl)
        · rw [if_neg c4] at hf
          refine zr_iconst C zd_L_inForce_35 ?_
          refine lv_goto (tgt := 40) C.1 C.2.1 zd_L_inForce_36 (by decide) ?_
          exact zw_L_inForce_40 C hr hlk hK hSt hap r0 hr0 (zf_L_inForce_5 r0 n) (ih) (x1) (x2) (x3) (x4) (1) S nx1 nx2 nx3 nx4 (znb rfl) hf _ _ _ hW hS (lv_sub hl [0, 1, 2, 3, 4] rfl)

def zf_L_inForce (r0 : Int) (x1 : Int) (x2 : Int) (S : Sg) : Option (Int × Sg) :=
    zf_L_inForce_5 r0 4096 (x1) (x2) (-1) (0) S
set_option maxHeartbeats 4000000 in
set_option maxRecDepth 100000 in
theorem zw_L_inForce {p : Program} {l : Launch} {e : Env} {s : State} {m : MethodId} {args : Array Value} {below : List Frame} {meth : Method} {c : Code} {B : zB} (C : CallFix p m c zb_L_inForce 6 s args zT "IslandOffice$Laws") (hr : meth.sig.returnType = some .int) (hlk : meth.locks = false) (hK : zK B s) (hSt : zSt B s) (hap : zAp B) (r0 : Int) (hr0 : 0 ≤ r0 ∧ r0 < 3) {res : Int} {S9 : Sg} : ∀ (x1 : Int) (x2 : Int) (S : Sg) (nx1 : zn x1) (nx2 : zn x2), zf_L_inForce r0 x1 x2 S = some (res, S9) → ∀ (H : Heap) (locs : List Loc) (ls : Array Slot), zW B S H → va_S B.2.2.2 s.heap H locs → lv_has ls 6 [(0, .ref (B.2.1 0 (r0) (16))), (1, .int (zI (x1))), (2, .int (zI (x2)))] → W p l e zm_L_inForce s m args below meth c H locs 0 0 (MQ below (zQi B res S9) args s 0 0 B.2.2.2) (F0 m 0 ls []) := by
  intro x1 x2 S nx1 nx2 hf H locs ls hW hS hl
  unfold zf_L_inForce at hf
  refine zr_iconst C zd_L_inForce_0 ?_
  refine lv_istore_n (lv' := [(3, .int (zI (-1))), (0, .ref (B.2.1 0 (r0) (16))), (1, .int (zI (x1))), (2, .int (zI (x2)))]) C.1 C.2.1 zd_L_inForce_1 rfl hl (by decide) rfl (fun ls hl => ?_)
  refine zr_iconst C zd_L_inForce_2 ?_
  refine lv_istore (lv' := [(4, .int (zI (0))), (3, .int (zI (-1))), (0, .ref (B.2.1 0 (r0) (16))), (1, .int (zI (x1))), (2, .int (zI (x2)))]) C.1 C.2.1 zd_L_inForce_3 hl (by decide) rfl (fun ls hl => ?_)
  exact zw_L_inForce_5 C hr hlk hK hSt hap r0 hr0 4096 (x1) (x2) (-1) (0) S nx1 nx2 (znb rfl) (znb rfl) hf _ _ _ hW hS (lv_sub hl [2, 3, 4, 1, 0] rfl)

theorem zc_L_inForce {l : Launch} {B : zB} (hap : zAp B) (r0 : Int) (hr0 : 0 ≤ r0 ∧ r0 < 3) (x1 : Int) (x2 : Int) (S : Sg) (nx1 : zn x1) (nx2 : zn x2) {res : Int} {S9 : Sg} (hf : zf_L_inForce r0 x1 x2 S = some (res, S9)) : Met l zy_L_inForce (Cond.code zy_L_inForce zb_L_inForce 6 (some .int) :: zT) zm_L_inForce (zP B S [.ref (B.2.1 0 (r0) (16)), .int (zI (x1)), .int (zI (x2))]) (zQi B res S9) 0 0 B.2.2.2 :=
  zmet (by decide) (Nat.le_of_ble_eq_true rfl) (fun p e s m args below meth c C hr hlk hK hSt hW ls hl => zw_L_inForce C hr hlk hK hSt hap r0 hr0 x1 x2 S nx1 nx2 hf _ _ _ hW va_S.rf hl)
/-! IslandOffice$Judge.allows(LIslandOffice$Island;II)Z -/
abbrev zy_J_allows : MethodName := ⟨"IslandOffice$Judge", "allows", "(LIslandOffice$Island;II)Z"⟩
abbrev zb_J_allows : ByteArray := prog_5_method_3_code
abbrev zm_J_allows : Room := { frames := 2, cells := 0, slots := 0, locals := 47 }
theorem zq_J_allows : zMy zy_J_allows zb_J_allows 5 (some .boolean) 3 := ⟨zk_691, zk_689, zk_690, zk_11, by decide, by decide, by decide +kernel⟩
theorem zd_J_allows_0 : decode zb_J_allows 0 = .ok (.aload_n 1, 1) := by decide +kernel
theorem zd_J_allows_1 : decode zb_J_allows 1 = .ok (.getfield 43, 3) := by decide +kernel
theorem zd_J_allows_4 : decode zb_J_allows 4 = .ok (.iload_n 2, 1) := by decide +kernel
theorem zd_J_allows_5 : decode zb_J_allows 5 = .ok (.aload_n 1, 1) := by decide +kernel
theorem zd_J_allows_6 : decode zb_J_allows 6 = .ok (.getfield 47, 3) := by decide +kernel
theorem zd_J_allows_9 : decode zb_J_allows 9 = .ok (.invokevirtual 50, 3) := by decide +kernel
theorem zd_J_allows_12 : decode zb_J_allows 12 = .ok (.istore 4, 2) := by decide +kernel
theorem zd_J_allows_14 : decode zb_J_allows 14 = .ok (.iload 4, 2) := by decide +kernel
theorem zd_J_allows_16 : decode zb_J_allows 16 = .ok (.ifCond .ge 10, 3) := by decide +kernel
theorem zd_J_allows_19 : decode zb_J_allows 19 = .ok (.aload_n 1, 1) := by decide +kernel
theorem zd_J_allows_20 : decode zb_J_allows 20 = .ok (.iload_n 2, 1) := by decide +kernel
theorem zd_J_allows_21 : decode zb_J_allows 21 = .ok (.iload_n 3, 1) := by decide +kernel
theorem zd_J_allows_22 : decode zb_J_allows 22 = .ok (.invokestatic 56, 3) := by decide +kernel
theorem zd_J_allows_25 : decode zb_J_allows 25 = .ok (.ireturn, 1) := by decide +kernel
theorem zd_J_allows_26 : decode zb_J_allows 26 = .ok (.aload_n 0, 1) := by decide +kernel
theorem zd_J_allows_27 : decode zb_J_allows 27 = .ok (.aload_n 1, 1) := by decide +kernel
theorem zd_J_allows_28 : decode zb_J_allows 28 = .ok (.iload_n 3, 1) := by decide +kernel
theorem zd_J_allows_29 : decode zb_J_allows 29 = .ok (.invokevirtual 59, 3) := by decide +kernel
theorem zd_J_allows_32 : decode zb_J_allows 32 = .ok (.aload_n 0, 1) := by decide +kernel
theorem zd_J_allows_33 : decode zb_J_allows 33 = .ok (.aload_n 1, 1) := by decide +kernel
theorem zd_J_allows_34 : decode zb_J_allows 34 = .ok (.getfield 43, 3) := by decide +kernel
theorem zd_J_allows_37 : decode zb_J_allows 37 = .ok (.getfield 63, 3) := by decide +kernel
theorem zd_J_allows_40 : decode zb_J_allows 40 = .ok (.iload 4, 2) := by decide +kernel
theorem zd_J_allows_42 : decode zb_J_allows 42 = .ok (.aaload, 1) := by decide +kernel
theorem zd_J_allows_43 : decode zb_J_allows 43 = .ok (.aload_n 1, 1) := by decide +kernel
theorem zd_J_allows_44 : decode zb_J_allows 44 = .ok (.getfield 43, 3) := by decide +kernel
theorem zd_J_allows_47 : decode zb_J_allows 47 = .ok (.getfield 67, 3) := by decide +kernel
theorem zd_J_allows_50 : decode zb_J_allows 50 = .ok (.iload 4, 2) := by decide +kernel
theorem zd_J_allows_52 : decode zb_J_allows 52 = .ok (.iaload, 1) := by decide +kernel
theorem zd_J_allows_53 : decode zb_J_allows 53 = .ok (.invokevirtual 70, 3) := by decide +kernel
theorem zd_J_allows_56 : decode zb_J_allows 56 = .ok (.ireturn, 1) := by decide +kernel

def zf_J_allows (r1 : Int) (x2 : Int) (x3 : Int) (S : Sg) : Option (Int × Sg) :=
    zbd (zf_L_inForce (r1) x2 (S 0 r1 0 0) S) fun a1 S2 => if 0 ≤ a1 then (zbd (zf_J_look (r1) x3 S2) fun a4 S5 => zck (0 ≤ a1 ∧ a1 < 12) <| zbd (zf_J_runs 1 (a1) (0) 120 (S5 0 r1 25 a1) S5) fun a7 S8 => zck (a7 = 0 ∨ a7 = 1) <| some (a7, S8)) else (zbd (zf_J_allowsWithoutLaw (r1) x2 x3 S2) fun a10 S11 => zck (a10 = 0 ∨ a10 = 1) <| some (a10, S11))
set_option maxHeartbeats 4000000 in
set_option maxRecDepth 100000 in
theorem zw_J_allows {p : Program} {l : Launch} {e : Env} {s : State} {m : MethodId} {args : Array Value} {below : List Frame} {meth : Method} {c : Code} {B : zB} (C : CallFix p m c zb_J_allows 5 s args zT "IslandOffice$Judge") (hr : meth.sig.returnType = some .boolean) (hlk : meth.locks = false) (hK : zK B s) (hSt : zSt B s) (hap : zAp B) (r1 : Int) (hr1 : 0 ≤ r1 ∧ r1 < 3) {res : Int} {S9 : Sg} : ∀ (x2 : Int) (x3 : Int) (S : Sg) (nx2 : zn x2) (nx3 : zn x3), zf_J_allows r1 x2 x3 S = some (res, S9) → ∀ (H : Heap) (locs : List Loc) (ls : Array Slot), zW B S H → va_S B.2.2.2 s.heap H locs → lv_has ls 5 [(0, .ref (B.2.1 3 (0) (7))), (1, .ref (B.2.1 0 (r1) (0))), (2, .int (zI (x2))), (3, .int (zI (x3)))] → W p l e zm_J_allows s m args below meth c H locs 0 0 (MQ below (zQi B res S9) args s 0 0 B.2.2.2) (F0 m 0 ls []) := by
  intro x2 x3 S nx2 nx3 hf H locs ls hW hS hl
  unfold zf_J_allows at hf
  refine lv_aload_n C.1 C.2.1 zd_J_allows_0 rfl (lv_at hl 1 rfl) ?_
  refine zg_I_laws (r := r1) C hK hW (zvd_0 hr1 (by decide)) zk_284 zd_J_allows_1 ?_
  refine lv_iload_n C.1 C.2.1 zd_J_allows_4 rfl (lv_at hl 2 rfl) ?_
  refine lv_aload_n C.1 C.2.1 zd_J_allows_5 rfl (lv_at hl 1 rfl) ?_
  refine zg_I_week (r := r1) C hK hW (zvd_0 hr1 (by decide)) zk_241 zd_J_allows_6 ?_
  obtain ⟨a1, S2, ea1, hf⟩ := zbd_some hf
  refine zcVi (As := [.int (zI (x2)), .int (zI (S 0 r1 0 0))]) (rest := []) C hK hSt hW hS (zc_L_inForce hap (r1) hr1 x2 (S 0 r1 0 0) S nx2 (zWn hW _ _ _ _ rfl) ea1) zq_L_inForce zk_692 (zrecv hK hW (zvd_0 hr1 (by decide)) (ze_0_16 B _ (r1)) rfl) ⟨rfl, rfl, by decide, by decide⟩ ⟨Nat.zero_le _, Nat.zero_le _⟩ rfl hl.1 rfl (lv_room (Nat.le_of_ble_eq_true rfl)) zd_J_allows_9 (fun na1 H locs hW hS => ?_)
  refine lv_istore (lv' := [(4, .int (zI (a1))), (0, .ref (B.2.1 3 (0) (7))), (1, .ref (B.2.1 0 (r1) (0))), (2, .int (zI (x2))), (3, .int (zI (x3)))]) C.1 C.2.1 zd_J_allows_12 hl (by decide) rfl (fun ls hl => ?_)
  refine lv_iload C.1 C.2.1 zd_J_allows_14 (lv_at hl 0 rfl) ?_
  refine zr_if_ge (tgt := 26) C na1 zd_J_allows_16 (by decide) (fun c3 => ?_) (fun c3 => ?_)
  · rw [if_pos c3] at hf
    refine lv_aload_n C.1 C.2.1 zd_J_allows_26 rfl (lv_at hl 1 rfl) ?_
    refine lv_aload_n C.1 C.2.1 zd_J_allows_27 rfl (lv_at hl 2 rfl) ?_
    refine lv_iload_n C.1 C.2.1 zd_J_allows_28 rfl (lv_at hl 4 rfl) ?_
    obtain ⟨a4, S5, ea4, hf⟩ := zbd_some hf
    refine zcVv (As := [.ref (B.2.1 0 (r1) (0)), .int (zI (x3))]) (rest := []) C hK hSt hW hS (zc_J_look hap (r1) hr1 x3 S2 nx3 ea4) zq_J_look zk_700 (zrecv hK hW (zvd_3 (by decide) (by decide)) (ze_3_7 B _ (0)) rfl) ⟨rfl, rfl, by decide, by decide⟩ ⟨Nat.zero_le _, Nat.zero_le _⟩ rfl hl.1 rfl (lv_room (Nat.le_of_ble_eq_true rfl)) zd_J_allows_29 (fun H locs hW hS => ?_)
    refine lv_aload_n C.1 C.2.1 zd_J_allows_32 rfl (lv_at hl 1 rfl) ?_
    refine lv_aload_n C.1 C.2.1 zd_J_allows_33 rfl (lv_at hl 2 rfl) ?_
    refine zg_I_laws (r := r1) C hK hW (zvd_0 hr1 (by decide)) zk_284 zd_J_allows_34 ?_
    refine zg_L_code (r := r1) C hK hW (zvd_0 hr1 (by decide)) zk_137 zd_J_allows_37 ?_
    refine lv_iload C.1 C.2.1 zd_J_allows_40 (lv_at hl 0 rfl) ?_
    obtain ⟨h6, hf⟩ := zck_some hf
    refine zaald (t0 := 4) C hK hW (zvd_3 (by decide) (by decide)) (fun f => ze_3_2 B f (0)) rfl rfl (by decide) h6 zd_J_allows_42 (a := B.2.1 1 (a1) (0)) (by rw [Int.toNat_of_nonneg h6.1]) ?_
    refine lv_aload_n C.1 C.2.1 zd_J_allows_43 rfl (lv_at hl 2 rfl) ?_
    refine zg_I_laws (r := r1) C hK hW (zvd_0 hr1 (by decide)) zk_284 zd_J_allows_44 ?_
    refine zg_L_codeSize (r := r1) C hK hW (zvd_0 hr1 (by decide)) zk_135 zd_J_allows_47 ?_
    refine lv_iload C.1 C.2.1 zd_J_allows_50 (lv_at hl 0 rfl) ?_
    refine ziald C hK hW (zvd_0 hr1 (by decide)) (fun f => ze_0_25 B f (r1)) (by decide) h6 zd_J_allows_52 ?_
    obtain ⟨a7, S8, ea7, hf⟩ := zbd_some hf
    refine zcVi (As := [.ref (B.2.1 1 (a1) (0)), .int (zI (S5 0 r1 25 a1))]) (rest := []) C hK hSt hW hS (zc_J_runs hap 1 (a1) (0) 120 (zvd_1 h6 (by decide)) (fun f => ze_1_0 B f (a1)) (by decide) rfl (S5 0 r1 25 a1) S5 (zWn hW _ _ _ _ rfl) ea7) zq_J_runs zk_712 (zrecv hK hW (zvd_3 (by decide) (by decide)) (ze_3_7 B _ (0)) rfl) ⟨rfl, rfl, by decide, by decide⟩ ⟨Nat.zero_le _, Nat.zero_le _⟩ rfl hl.1 rfl (lv_room (Nat.le_of_ble_eq_true rfl)) zd_J_allows_53 (fun na7 H locs hW hS => ?_)
    obtain ⟨h9, hf⟩ := zck_some hf
    cases hf
    exact zre_z C hr hlk hK hW hS na7 (zb01 h9) zd_J_allows_56
  · rw [if_neg c3] at hf
    refine lv_aload_n C.1 C.2.1 zd_J_allows_19 rfl (lv_at hl 2 rfl) ?_
    refine lv_iload_n C.1 C.2.1 zd_J_allows_20 rfl (lv_at hl 3 rfl) ?_
    refine lv_iload_n C.1 C.2.1 zd_J_allows_21 rfl (lv_at hl 4 rfl) ?_
    obtain ⟨a10, S11, ea10, hf⟩ := zbd_some hf
    refine zcSi (As := [.ref (B.2.1 0 (r1) (0)), .int (zI (x2)), .int (zI (x3))]) (rest := []) C hK hSt hW hS (zc_J_allowsWithoutLaw hap (r1) hr1 x2 x3 S2 nx2 nx3 ea10) zq_J_allowsWithoutLaw zk_696 ⟨rfl, rfl, by decide, by decide⟩ ⟨Nat.zero_le _, Nat.zero_le _⟩ rfl hl.1 rfl (lv_room (Nat.le_of_ble_eq_true rfl)) zd_J_allows_22 (fun na10 H locs hW hS => ?_)
    obtain ⟨h12, hf⟩ := zck_some hf
    cases hf
    exact zre_z C hr hlk hK hW hS na10 (zb01 h12) zd_J_allows_25

theorem zc_J_allows {l : Launch} {B : zB} (hap : zAp B) (r1 : Int) (hr1 : 0 ≤ r1 ∧ r1 < 3) (x2 : Int) (x3 : Int) (S : Sg) (nx2 : zn x2) (nx3 : zn x3) {res : Int} {S9 : Sg} (hf : zf_J_allows r1 x2 x3 S = some (res, S9)) : Met l zy_J_allows (Cond.code zy_J_allows zb_J_allows 5 (some .boolean) :: zT) zm_J_allows (zP B S [.ref (B.2.1 3 (0) (7)), .ref (B.2.1 0 (r1) (0)), .int (zI (x2)), .int (zI (x3))]) (zQi B res S9) 0 0 B.2.2.2 :=
  zmet (by decide) (Nat.le_of_ble_eq_true rfl) (fun p e s m args below meth c C hr hlk hK hSt hW ls hl => zw_J_allows C hr hlk hK hSt hap r1 hr1 x2 x3 S nx2 nx3 hf _ _ _ hW va_S.rf hl)
/-! IslandOffice$Judge.countVoters(LIslandOffice$Island;)I -/
abbrev zy_J_countVoters : MethodName := ⟨"IslandOffice$Judge", "countVoters", "(LIslandOffice$Island;)I"⟩
abbrev zb_J_countVoters : ByteArray := prog_5_method_2_code
abbrev zm_J_countVoters : Room := { frames := 3, cells := 0, slots := 0, locals := 71 }
theorem zq_J_countVoters : zMy zy_J_countVoters zb_J_countVoters 4 (some .int) 1 := ⟨zk_687, zk_685, zk_686, zk_11, by decide, by decide, by decide +kernel⟩
theorem zd_J_countVoters_0 : decode zb_J_countVoters 0 = .ok (.iconst 0, 1) := by decide +kernel
theorem zd_J_countVoters_1 : decode zb_J_countVoters 1 = .ok (.istore_n 2, 1) := by decide +kernel
theorem zd_J_countVoters_2 : decode zb_J_countVoters 2 = .ok (.iconst 0, 1) := by decide +kernel
theorem zd_J_countVoters_3 : decode zb_J_countVoters 3 = .ok (.istore_n 3, 1) := by decide +kernel
theorem zd_J_countVoters_4 : decode zb_J_countVoters 4 = .ok (.iload_n 3, 1) := by decide +kernel
theorem zd_J_countVoters_5 : decode zb_J_countVoters 5 = .ok (.aload_n 1, 1) := by decide +kernel
theorem zd_J_countVoters_6 : decode zb_J_countVoters 6 = .ok (.getfield 22, 3) := by decide +kernel
theorem zd_J_countVoters_9 : decode zb_J_countVoters 9 = .ok (.getfield 28, 3) := by decide +kernel
theorem zd_J_countVoters_12 : decode zb_J_countVoters 12 = .ok (.if_icmp .ge 46, 3) := by decide +kernel
theorem zd_J_countVoters_15 : decode zb_J_countVoters 15 = .ok (.aload_n 1, 1) := by decide +kernel
theorem zd_J_countVoters_16 : decode zb_J_countVoters 16 = .ok (.getfield 22, 3) := by decide +kernel
theorem zd_J_countVoters_19 : decode zb_J_countVoters 19 = .ok (.getfield 33, 3) := by decide +kernel
theorem zd_J_countVoters_22 : decode zb_J_countVoters 22 = .ok (.iload_n 3, 1) := by decide +kernel
theorem zd_J_countVoters_23 : decode zb_J_countVoters 23 = .ok (.iaload, 1) := by decide +kernel
theorem zd_J_countVoters_24 : decode zb_J_countVoters 24 = .ok (.ifCond .ne 28, 3) := by decide +kernel
theorem zd_J_countVoters_27 : decode zb_J_countVoters 27 = .ok (.aload_n 1, 1) := by decide +kernel
theorem zd_J_countVoters_28 : decode zb_J_countVoters 28 = .ok (.getfield 22, 3) := by decide +kernel
theorem zd_J_countVoters_31 : decode zb_J_countVoters 31 = .ok (.getfield 36, 3) := by decide +kernel
theorem zd_J_countVoters_34 : decode zb_J_countVoters 34 = .ok (.iload_n 3, 1) := by decide +kernel
theorem zd_J_countVoters_35 : decode zb_J_countVoters 35 = .ok (.iaload, 1) := by decide +kernel
theorem zd_J_countVoters_36 : decode zb_J_countVoters 36 = .ok (.ifCond .ge 16, 3) := by decide +kernel
theorem zd_J_countVoters_39 : decode zb_J_countVoters 39 = .ok (.aload_n 0, 1) := by decide +kernel
theorem zd_J_countVoters_40 : decode zb_J_countVoters 40 = .ok (.aload_n 1, 1) := by decide +kernel
theorem zd_J_countVoters_41 : decode zb_J_countVoters 41 = .ok (.iconst 0, 1) := by decide +kernel
theorem zd_J_countVoters_42 : decode zb_J_countVoters 42 = .ok (.iload_n 3, 1) := by decide +kernel
theorem zd_J_countVoters_43 : decode zb_J_countVoters 43 = .ok (.invokevirtual 39, 3) := by decide +kernel
theorem zd_J_countVoters_46 : decode zb_J_countVoters 46 = .ok (.ifCond .eq 6, 3) := by decide +kernel
theorem zd_J_countVoters_49 : decode zb_J_countVoters 49 = .ok (.iinc 2 1, 3) := by decide +kernel
theorem zd_J_countVoters_52 : decode zb_J_countVoters 52 = .ok (.iinc 3 1, 3) := by decide +kernel
theorem zd_J_countVoters_55 : decode zb_J_countVoters 55 = .ok (.goto (-51), 3) := by decide +kernel
theorem zd_J_countVoters_58 : decode zb_J_countVoters 58 = .ok (.iload_n 2, 1) := by decide +kernel
theorem zd_J_countVoters_59 : decode zb_J_countVoters 59 = .ok (.ireturn, 1) := by decide +kernel

def zf_J_countVoters_52 (r1 : Int) (q4 : Int → Int → Sg → Option (Int × Sg)) (x2 : Int) (x3 : Int) (S : Sg) : Option (Int × Sg) :=
    zlt (zw (x3 + 1)) fun v1 => q4 (x2) (v1) S
set_option maxHeartbeats 4000000 in
set_option maxRecDepth 100000 in
theorem zw_J_countVoters_52 {p : Program} {l : Launch} {e : Env} {s : State} {m : MethodId} {args : Array Value} {below : List Frame} {meth : Method} {c : Code} {B : zB} (C : CallFix p m c zb_J_countVoters 4 s args zT "IslandOffice$Judge") (hr : meth.sig.returnType = some .int) (hlk : meth.locks = false) (hK : zK B s) (hSt : zSt B s) (hap : zAp B) (r1 : Int) (hr1 : 0 ≤ r1 ∧ r1 < 3) {res : Int} {S9 : Sg} (q4 : Int → Int → Sg → Option (Int × Sg)) (hq4 : ∀ (x2 : Int) (x3 : Int) (S : Sg) (nx2 : zn x2) (nx3 : zn x3), q4 x2 x3 S = some (res, S9) → ∀ (H : Heap) (locs : List Loc) (ls : Array Slot), zW B S H → va_S B.2.2.2 s.heap H locs → lv_has ls 4 [(0, .ref (B.2.1 3 (0) (7))), (1, .ref (B.2.1 0 (r1) (0))), (2, .int (zI (x2))), (3, .int (zI (x3)))] → W p l e zm_J_countVoters s m args below meth c H locs 0 0 (MQ below (zQi B res S9) args s 0 0 B.2.2.2) (F0 m 4 ls [])) : ∀ (x2 : Int) (x3 : Int) (S : Sg) (nx2 : zn x2) (nx3 : zn x3), zf_J_countVoters_52 r1 q4 x2 x3 S = some (res, S9) → ∀ (H : Heap) (locs : List Loc) (ls : Array Slot), zW B S H → va_S B.2.2.2 s.heap H locs → lv_has ls 4 [(0, .ref (B.2.1 3 (0) (7))), (1, .ref (B.2.1 0 (r1) (0))), (2, .int (zI (x2))), (3, .int (zI (x3)))] → W p l e zm_J_countVoters s m args below meth c H locs 0 0 (MQ below (zQi B res S9) args s 0 0 B.2.2.2) (F0 m 52 ls []) := by
  intro x2 x3 S nx2 nx3 hf H locs ls hW hS hl
  unfold zf_J_countVoters_52 at hf
  obtain ⟨v1, ev1, hf⟩ := zlt_some hf
  have nv1 : zn v1 := by rw [← ev1]; exact zn_w _
  refine lv_iinc (v := zI v1) (lv' := [(3, .int (zI (v1))), (0, .ref (B.2.1 3 (0) (7))), (1, .ref (B.2.1 0 (r1) (0))), (2, .int (zI (x2)))]) C.1 C.2.1 zd_J_countVoters_52 hl (k := 3) rfl (by rw [← ev1, ← zI_add]; rfl) (by decide) rfl (fun ls hl => ?_)
  refine lv_goto (tgt := 4) C.1 C.2.1 zd_J_countVoters_55 (by decide) ?_
  exact hq4 (x2) (v1) S nx2 nv1 hf _ _ _ hW hS (lv_sub hl [1, 2, 3, 0] rfl)

def zf_J_countVoters_4 (r1 : Int) : Nat → Int → Int → Sg → Option (Int × Sg)
  | 0, _, _, _ => none
  | n + 1, x2, x3, S =>
    if (S 0 r1 6 0) ≤ x3 then (some (x2, S)) else (zck (0 ≤ x3 ∧ x3 < 40) <| if (S 0 r1 11 x3) = 0 then (if 0 ≤ (S 0 r1 12 x3) then (zf_J_countVoters_52 r1 (zf_J_countVoters_4 r1 n) (x2) (x3) S) else (zbd (zf_J_allows (r1) 0 x3 S) fun a5 S6 => if a5 = 0 then (zf_J_countVoters_52 r1 (zf_J_countVoters_4 r1 n) (x2) (x3) S6) else (zlt (zw (x2 + 1)) fun v8 => zf_J_countVoters_52 r1 (zf_J_countVoters_4 r1 n) (v8) (x3) S6))) else (zf_J_countVoters_52 r1 (zf_J_countVoters_4 r1 n) (x2) (x3) S))
set_option maxHeartbeats 4000000 in
set_option maxRecDepth 100000 in
theorem zw_J_countVoters_4 {p : Program} {l : Launch} {e : Env} {s : State} {m : MethodId} {args : Array Value} {below : List Frame} {meth : Method} {c : Code} {B : zB} (C : CallFix p m c zb_J_countVoters 4 s args zT "IslandOffice$Judge") (hr : meth.sig.returnType = some .int) (hlk : meth.locks = false) (hK : zK B s) (hSt : zSt B s) (hap : zAp B) (r1 : Int) (hr1 : 0 ≤ r1 ∧ r1 < 3) {res : Int} {S9 : Sg} : ∀ n : Nat, ∀ (x2 : Int) (x3 : Int) (S : Sg) (nx2 : zn x2) (nx3 : zn x3), zf_J_countVoters_4 r1 n x2 x3 S = some (res, S9) → ∀ (H : Heap) (locs : List Loc) (ls : Array Slot), zW B S H → va_S B.2.2.2 s.heap H locs → lv_has ls 4 [(0, .ref (B.2.1 3 (0) (7))), (1, .ref (B.2.1 0 (r1) (0))), (2, .int (zI (x2))), (3, .int (zI (x3)))] → W p l e zm_J_countVoters s m args below meth c H locs 0 0 (MQ below (zQi B res S9) args s 0 0 B.2.2.2) (F0 m 4 ls []) := by
  intro n
  induction n with
  | zero =>
    intro x2 x3 S nx2 nx3 hf H locs ls hW hS hl
    cases hf
  | succ n ih =>
    intro x2 x3 S nx2 nx3 hf H locs ls hW hS hl
    rw [zf_J_countVoters_4] at hf
    refine lv_iload_n C.1 C.2.1 zd_J_countVoters_4 rfl (lv_at hl 3 rfl) ?_
    refine lv_aload_n C.1 C.2.1 zd_J_countVoters_5 rfl (lv_at hl 1 rfl) ?_
    refine zg_I_people (r := r1) C hK hW (zvd_0 hr1 (by decide)) zk_279 zd_J_countVoters_6 ?_
    refine zg_P_n (r := r1) C hK hW (zvd_0 hr1 (by decide)) zk_53 zd_J_countVoters_9 ?_
    refine zr_icmp_ge (tgt := 58) C nx3 (zWn hW _ _ _ _ rfl) zd_J_countVoters_12 (by decide) (fun c1 => ?_) (fun c1 => ?_)
    · rw [if_pos c1] at hf
      refine lv_iload_n C.1 C.2.1 zd_J_countVoters_58 rfl (lv_at hl 2 rfl) ?_
      cases hf
      exact zre_i C hr hlk hK hW hS nx2 zd_J_countVoters_59
    · rw [if_neg c1] at hf
      refine lv_aload_n C.1 C.2.1 zd_J_countVoters_15 rfl (lv_at hl 1 rfl) ?_
      refine zg_I_people (r := r1) C hK hW (zvd_0 hr1 (by decide)) zk_279 zd_J_countVoters_16 ?_
      refine zg_P_state (r := r1) C hK hW (zvd_0 hr1 (by decide)) zk_71 zd_J_countVoters_19 ?_
      refine lv_iload_n C.1 C.2.1 zd_J_countVoters_22 rfl (lv_at hl 3 rfl) ?_
      obtain ⟨h2, hf⟩ := zck_some hf
      refine ziald C hK hW (zvd_0 hr1 (by decide)) (fun f => ze_0_11 B f (r1)) (by decide) h2 zd_J_countVoters_23 ?_
      refine zr_if_ne (tgt := 52) C (zWn hW _ _ _ _ rfl) zd_J_countVoters_24 (by decide) (fun c3 => ?_) (fun c3 => ?_)
      · rw [if_neg c3] at hf
        exact zw_J_countVoters_52 C hr hlk hK hSt hap r1 hr1 (zf_J_countVoters_4 r1 n) (ih) (x2) (x3) S nx2 nx3 hf _ _ _ hW hS (lv_sub hl [0, 1, 2, 3] rfl)
      · rw [if_pos c3] at hf
        refine lv_aload_n C.1 C.2.1 zd_J_countVoters_27 rfl (lv_at hl 1 rfl) ?_
        refine zg_I_people (r := r1) C hK hW (zvd_0 hr1 (by decide)) zk_279 zd_J_countVoters_28 ?_
        refine zg_P_end (r := r1) C hK hW (zvd_0 hr1 (by decide)) zk_75 zd_J_countVoters_31 ?_
        refine lv_iload_n C.1 C.2.1 zd_J_countVoters_34 rfl (lv_at hl 3 rfl) ?_
        refine ziald C hK hW (zvd_0 hr1 (by decide)) (fun f => ze_0_12 B f (r1)) (by decide) h2 zd_J_countVoters_35 ?_
        refine zr_if_ge (tgt := 52) C (zWn hW _ _ _ _ rfl) zd_J_countVoters_36 (by decide) (fun c4 => ?_) (fun c4 => ?_)
        · rw [if_pos c4] at hf
          exact zw_J_countVoters_52 C hr hlk hK hSt hap r1 hr1 (zf_J_countVoters_4 r1 n) (ih) (x2) (x3) S nx2 nx3 hf _ _ _ hW hS (lv_sub hl [0, 1, 2, 3] rfl)
        · rw [if_neg c4] at hf
          refine lv_aload_n C.1 C.2.1 zd_J_countVoters_39 rfl (lv_at hl 0 rfl) ?_
          refine lv_aload_n C.1 C.2.1 zd_J_countVoters_40 rfl (lv_at hl 1 rfl) ?_
          refine zr_iconst C zd_J_countVoters_41 ?_
          refine lv_iload_n C.1 C.2.1 zd_J_countVoters_42 rfl (lv_at hl 3 rfl) ?_
          obtain ⟨a5, S6, ea5, hf⟩ := zbd_some hf
          refine zcVi (As := [.ref (B.2.1 0 (r1) (0)), .int (zI (0)), .int (zI (x3))]) (rest := []) C hK hSt hW hS (zc_J_allows hap (r1) hr1 0 x3 S (znb rfl) nx3 ea5) zq_J_allows zk_688 (zrecv hK hW (zvd_3 (by decide) (by decide)) (ze_3_7 B _ (0)) rfl) ⟨rfl, rfl, by decide, by decide⟩ ⟨Nat.zero_le _, Nat.zero_le _⟩ rfl hl.1 rfl (lv_room (Nat.le_of_ble_eq_true rfl)) zd_J_countVoters_43 (fun na5 H locs hW hS => ?_)
          refine zr_if_eq (tgt := 52) C na5 zd_J_countVoters_46 (by decide) (fun c7 => ?_) (fun c7 => ?_)
          · rw [if_pos c7] at hf
            exact zw_J_countVoters_52 C hr hlk hK hSt hap r1 hr1 (zf_J_countVoters_4 r1 n) (ih) (x2) (x3) S6 nx2 nx3 hf _ _ _ hW hS (lv_sub hl [0, 1, 2, 3] rfl)
          · rw [if_neg c7] at hf
            obtain ⟨v8, ev8, hf⟩ := zlt_some hf
            have nv8 : zn v8 := by rw [← ev8]; exact zn_w _
            refine lv_iinc (v := zI v8) (lv' := [(2, .int (zI (v8))), (0, .ref (B.2.1 3 (0) (7))), (1, .ref (B.2.1 0 (r1) (0))), (3, .int (zI (x3)))]) C.1 C.2.1 zd_J_countVoters_49 hl (k := 2) rfl (by rw [← ev8, ← zI_add]; rfl) (by decide) rfl (fun ls hl => ?_)
            exact zw_J_countVoters_52 C hr hlk hK hSt hap r1 hr1 (zf_J_countVoters_4 r1 n) (ih) (v8) (x3) S6 nv8 nx3 hf _ _ _ hW hS (lv_sub hl [1, 2, 0, 3] rfl)

def zf_J_countVoters (r1 : Int) (S : Sg) : Option (Int × Sg) :=
    zf_J_countVoters_4 r1 4096 (0) (0) S
set_option maxHeartbeats 4000000 in
set_option maxRecDepth 100000 in
theorem zw_J_countVoters {p : Program} {l : Launch} {e : Env} {s : State} {m : MethodId} {args : Array Value} {below : List Frame} {meth : Method} {c : Code} {B : zB} (C : CallFix p m c zb_J_countVoters 4 s args zT "IslandOffice$Judge") (hr : meth.sig.returnType = some .int) (hlk : meth.locks = false) (hK : zK B s) (hSt : zSt B s) (hap : zAp B) (r1 : Int) (hr1 : 0 ≤ r1 ∧ r1 < 3) {res : Int} {S9 : Sg} : ∀  (S : Sg) , zf_J_countVoters r1  S = some (res, S9) → ∀ (H : Heap) (locs : List Loc) (ls : Array Slot), zW B S H → va_S B.2.2.2 s.heap H locs → lv_has ls 4 [(0, .ref (B.2.1 3 (0) (7))), (1, .ref (B.2.1 0 (r1) (0)))] → W p l e zm_J_countVoters s m args below meth c H locs 0 0 (MQ below (zQi B res S9) args s 0 0 B.2.2.2) (F0 m 0 ls []) := by
  intro S hf H locs ls hW hS hl
  unfold zf_J_countVoters at hf
  refine zr_iconst C zd_J_countVoters_0 ?_
  refine lv_istore_n (lv' := [(2, .int (zI (0))), (0, .ref (B.2.1 3 (0) (7))), (1, .ref (B.2.1 0 (r1) (0)))]) C.1 C.2.1 zd_J_countVoters_1 rfl hl (by decide) rfl (fun ls hl => ?_)
  refine zr_iconst C zd_J_countVoters_2 ?_
  refine lv_istore_n (lv' := [(3, .int (zI (0))), (2, .int (zI (0))), (0, .ref (B.2.1 3 (0) (7))), (1, .ref (B.2.1 0 (r1) (0)))]) C.1 C.2.1 zd_J_countVoters_3 rfl hl (by decide) rfl (fun ls hl => ?_)
  exact zw_J_countVoters_4 C hr hlk hK hSt hap r1 hr1 4096 (0) (0) S (znb rfl) (znb rfl) hf _ _ _ hW hS (lv_sub hl [2, 3, 1, 0] rfl)

theorem zc_J_countVoters {l : Launch} {B : zB} (hap : zAp B) (r1 : Int) (hr1 : 0 ≤ r1 ∧ r1 < 3) (S : Sg) {res : Int} {S9 : Sg} (hf : zf_J_countVoters r1 S = some (res, S9)) : Met l zy_J_countVoters (Cond.code zy_J_countVoters zb_J_countVoters 4 (some .int) :: zT) zm_J_countVoters (zP B S [.ref (B.2.1 3 (0) (7)), .ref (B.2.1 0 (r1) (0))]) (zQi B res S9) 0 0 B.2.2.2 :=
  zmet (by decide) (Nat.le_of_ble_eq_true rfl) (fun p e s m args below meth c C hr hlk hK hSt hW ls hl => zw_J_countVoters C hr hlk hK hSt hap r1 hr1  S  hf _ _ _ hW va_S.rf hl)
/-! IslandOffice$Laws.add(LIslandOffice$Reader;IIII)I -/
abbrev zy_L_add : MethodName := ⟨"IslandOffice$Laws", "add", "(LIslandOffice$Reader;IIII)I"⟩
abbrev zb_L_add : ByteArray := prog_6_method_4_code
abbrev zm_L_add : Room := { frames := 1, cells := 0, slots := 0, locals := 64 }
theorem zq_L_add : zMy zy_L_add zb_L_add 7 (some .int) 5 := ⟨zk_731, zk_729, zk_730, zk_5, by decide, by decide, by decide +kernel⟩
theorem zd_L_add_0 : decode zb_L_add 0 = .ok (.aload_n 0, 1) := by decide +kernel
theorem zd_L_add_1 : decode zb_L_add 1 = .ok (.getfield 9, 3) := by decide +kernel
theorem zd_L_add_4 : decode zb_L_add 4 = .ok (.bipush 12, 2) := by decide +kernel
theorem zd_L_add_6 : decode zb_L_add 6 = .ok (.if_icmp .lt 6, 3) := by decide +kernel
theorem zd_L_add_9 : decode zb_L_add 9 = .ok (.bipush (-2), 2) := by decide +kernel
theorem zd_L_add_11 : decode zb_L_add 11 = .ok (.ireturn, 1) := by decide +kernel
theorem zd_L_add_12 : decode zb_L_add 12 = .ok (.aload_n 0, 1) := by decide +kernel
theorem zd_L_add_13 : decode zb_L_add 13 = .ok (.getfield 9, 3) := by decide +kernel
theorem zd_L_add_16 : decode zb_L_add 16 = .ok (.istore 6, 2) := by decide +kernel
theorem zd_L_add_18 : decode zb_L_add 18 = .ok (.aload_n 0, 1) := by decide +kernel
theorem zd_L_add_19 : decode zb_L_add 19 = .ok (.getfield 15, 3) := by decide +kernel
theorem zd_L_add_22 : decode zb_L_add 22 = .ok (.iload 6, 2) := by decide +kernel
theorem zd_L_add_24 : decode zb_L_add 24 = .ok (.aload_n 1, 1) := by decide +kernel
theorem zd_L_add_25 : decode zb_L_add 25 = .ok (.getfield 53, 3) := by decide +kernel
theorem zd_L_add_28 : decode zb_L_add 28 = .ok (.iastore, 1) := by decide +kernel
theorem zd_L_add_29 : decode zb_L_add 29 = .ok (.aload_n 0, 1) := by decide +kernel
theorem zd_L_add_30 : decode zb_L_add 30 = .ok (.getfield 19, 3) := by decide +kernel
theorem zd_L_add_33 : decode zb_L_add 33 = .ok (.iload 6, 2) := by decide +kernel
theorem zd_L_add_35 : decode zb_L_add 35 = .ok (.iload_n 3, 1) := by decide +kernel
theorem zd_L_add_36 : decode zb_L_add 36 = .ok (.iconst 1, 1) := by decide +kernel
theorem zd_L_add_37 : decode zb_L_add 37 = .ok (.iadd, 1) := by decide +kernel
theorem zd_L_add_38 : decode zb_L_add 38 = .ok (.iastore, 1) := by decide +kernel
theorem zd_L_add_39 : decode zb_L_add 39 = .ok (.aload_n 0, 1) := by decide +kernel
theorem zd_L_add_40 : decode zb_L_add 40 = .ok (.getfield 22, 3) := by decide +kernel
theorem zd_L_add_43 : decode zb_L_add 43 = .ok (.iload 6, 2) := by decide +kernel
theorem zd_L_add_45 : decode zb_L_add 45 = .ok (.iload 4, 2) := by decide +kernel
theorem zd_L_add_47 : decode zb_L_add 47 = .ok (.iastore, 1) := by decide +kernel
theorem zd_L_add_48 : decode zb_L_add 48 = .ok (.aload_n 0, 1) := by decide +kernel
theorem zd_L_add_49 : decode zb_L_add 49 = .ok (.getfield 25, 3) := by decide +kernel
theorem zd_L_add_52 : decode zb_L_add 52 = .ok (.iload 6, 2) := by decide +kernel
theorem zd_L_add_54 : decode zb_L_add 54 = .ok (.iload 5, 2) := by decide +kernel
theorem zd_L_add_56 : decode zb_L_add 56 = .ok (.iastore, 1) := by decide +kernel
theorem zd_L_add_57 : decode zb_L_add 57 = .ok (.aload_n 0, 1) := by decide +kernel
theorem zd_L_add_58 : decode zb_L_add 58 = .ok (.getfield 28, 3) := by decide +kernel
theorem zd_L_add_61 : decode zb_L_add 61 = .ok (.iload 6, 2) := by decide +kernel
theorem zd_L_add_63 : decode zb_L_add 63 = .ok (.iconst 0, 1) := by decide +kernel
theorem zd_L_add_64 : decode zb_L_add 64 = .ok (.iastore, 1) := by decide +kernel
theorem zd_L_add_65 : decode zb_L_add 65 = .ok (.aload_n 0, 1) := by decide +kernel
theorem zd_L_add_66 : decode zb_L_add 66 = .ok (.getfield 31, 3) := by decide +kernel
theorem zd_L_add_69 : decode zb_L_add 69 = .ok (.iload 6, 2) := by decide +kernel
theorem zd_L_add_71 : decode zb_L_add 71 = .ok (.iconst (-1), 1) := by decide +kernel
theorem zd_L_add_72 : decode zb_L_add 72 = .ok (.iastore, 1) := by decide +kernel
theorem zd_L_add_73 : decode zb_L_add 73 = .ok (.aload_n 0, 1) := by decide +kernel
theorem zd_L_add_74 : decode zb_L_add 74 = .ok (.getfield 34, 3) := by decide +kernel
theorem zd_L_add_77 : decode zb_L_add 77 = .ok (.iload 6, 2) := by decide +kernel
theorem zd_L_add_79 : decode zb_L_add 79 = .ok (.aload_n 0, 1) := by decide +kernel
theorem zd_L_add_80 : decode zb_L_add 80 = .ok (.iconst 0, 1) := by decide +kernel
theorem zd_L_add_81 : decode zb_L_add 81 = .ok (.iload_n 3, 1) := by decide +kernel
theorem zd_L_add_82 : decode zb_L_add 82 = .ok (.invokevirtual 57, 3) := by decide +kernel
theorem zd_L_add_85 : decode zb_L_add 85 = .ok (.iastore, 1) := by decide +kernel
theorem zd_L_add_86 : decode zb_L_add 86 = .ok (.aload_n 0, 1) := by decide +kernel
theorem zd_L_add_87 : decode zb_L_add 87 = .ok (.getfield 37, 3) := by decide +kernel
theorem zd_L_add_90 : decode zb_L_add 90 = .ok (.iload 6, 2) := by decide +kernel
theorem zd_L_add_92 : decode zb_L_add 92 = .ok (.iload_n 2, 1) := by decide +kernel
theorem zd_L_add_93 : decode zb_L_add 93 = .ok (.iastore, 1) := by decide +kernel
theorem zd_L_add_94 : decode zb_L_add 94 = .ok (.aload_n 0, 1) := by decide +kernel
theorem zd_L_add_95 : decode zb_L_add 95 = .ok (.getfield 40, 3) := by decide +kernel
theorem zd_L_add_98 : decode zb_L_add 98 = .ok (.iload 6, 2) := by decide +kernel
theorem zd_L_add_100 : decode zb_L_add 100 = .ok (.aload_n 1, 1) := by decide +kernel
theorem zd_L_add_101 : decode zb_L_add 101 = .ok (.getfield 61, 3) := by decide +kernel
theorem zd_L_add_104 : decode zb_L_add 104 = .ok (.iastore, 1) := by decide +kernel
theorem zd_L_add_105 : decode zb_L_add 105 = .ok (.aload_n 1, 1) := by decide +kernel
theorem zd_L_add_106 : decode zb_L_add 106 = .ok (.getfield 63, 3) := by decide +kernel
theorem zd_L_add_109 : decode zb_L_add 109 = .ok (.iconst 0, 1) := by decide +kernel
theorem zd_L_add_110 : decode zb_L_add 110 = .ok (.aload_n 0, 1) := by decide +kernel
theorem zd_L_add_111 : decode zb_L_add 111 = .ok (.getfield 43, 3) := by decide +kernel
theorem zd_L_add_114 : decode zb_L_add 114 = .ok (.iload 6, 2) := by decide +kernel
theorem zd_L_add_116 : decode zb_L_add 116 = .ok (.aaload, 1) := by decide +kernel
theorem zd_L_add_117 : decode zb_L_add 117 = .ok (.iconst 0, 1) := by decide +kernel
theorem zd_L_add_118 : decode zb_L_add 118 = .ok (.bipush 120, 2) := by decide +kernel
theorem zd_L_add_120 : decode zb_L_add 120 = .ok (.invokestatic 47, 3) := by decide +kernel
theorem zd_L_add_123 : decode zb_L_add 123 = .ok (.aload_n 0, 1) := by decide +kernel
theorem zd_L_add_124 : decode zb_L_add 124 = .ok (.iload 6, 2) := by decide +kernel
theorem zd_L_add_126 : decode zb_L_add 126 = .ok (.iconst 1, 1) := by decide +kernel
theorem zd_L_add_127 : decode zb_L_add 127 = .ok (.iadd, 1) := by decide +kernel
theorem zd_L_add_128 : decode zb_L_add 128 = .ok (.putfield 9, 3) := by decide +kernel
theorem zd_L_add_131 : decode zb_L_add 131 = .ok (.iload 6, 2) := by decide +kernel
theorem zd_L_add_133 : decode zb_L_add 133 = .ok (.ireturn, 1) := by decide +kernel

def zf_L_add (r0 : Int) (x2 : Int) (x3 : Int) (x4 : Int) (x5 : Int) (S : Sg) : Option (Int × Sg) :=
    if (S 0 r0 16 0) < 12 then (zlt (S 0 r0 16 0) fun v2 => zck (0 ≤ v2 ∧ v2 < 12) <| zlt (zu S 0 r0 17 v2 (S 3 0 4 0)) fun S4 => zlt (zu S4 0 r0 18 v2 (zw (x3 + 1))) fun S5 => zlt (zu S5 0 r0 19 v2 x4) fun S6 => zlt (zu S6 0 r0 20 v2 x5) fun S7 => zlt (zu S7 0 r0 21 v2 0) fun S8 => zlt (zu S8 0 r0 22 v2 (-1)) fun S9 => zbd (zf_L_inForce (r0) 0 x3 S9) fun a10 S11 => zlt (zu S11 0 r0 23 v2 a10) fun S12 => zlt (zu S12 0 r0 24 v2 x2) fun S13 => zlt (zu S13 0 r0 25 v2 (S13 3 0 4 2)) fun S14 => zlt (zcp S14 3 0 5 0 1 v2 0 0 120) fun S15 => zlt (zu S15 0 r0 16 0 (zw (v2 + 1))) fun S16 => some (v2, S16)) else (some (-2, S))
set_option maxHeartbeats 4000000 in
set_option maxRecDepth 100000 in
theorem zw_L_add {p : Program} {l : Launch} {e : Env} {s : State} {m : MethodId} {args : Array Value} {below : List Frame} {meth : Method} {c : Code} {B : zB} (C : CallFix p m c zb_L_add 7 s args zT "IslandOffice$Laws") (hr : meth.sig.returnType = some .int) (hlk : meth.locks = false) (hK : zK B s) (hSt : zSt B s) (hap : zAp B) (r0 : Int) (hr0 : 0 ≤ r0 ∧ r0 < 3) {res : Int} {S9 : Sg} : ∀ (x2 : Int) (x3 : Int) (x4 : Int) (x5 : Int) (S : Sg) (nx2 : zn x2) (nx3 : zn x3) (nx4 : zn x4) (nx5 : zn x5), zf_L_add r0 x2 x3 x4 x5 S = some (res, S9) → ∀ (H : Heap) (locs : List Loc) (ls : Array Slot), zW B S H → va_S B.2.2.2 s.heap H locs → lv_has ls 7 [(0, .ref (B.2.1 0 (r0) (16))), (1, .ref (B.2.1 3 (0) (4))), (2, .int (zI (x2))), (3, .int (zI (x3))), (4, .int (zI (x4))), (5, .int (zI (x5)))] → W p l e zm_L_add s m args below meth c H locs 0 0 (MQ below (zQi B res S9) args s 0 0 B.2.2.2) (F0 m 0 ls []) := by
  intro x2 x3 x4 x5 S nx2 nx3 nx4 nx5 hf H locs ls hW hS hl
  unfold zf_L_add at hf
  refine lv_aload_n C.1 C.2.1 zd_L_add_0 rfl (lv_at hl 0 rfl) ?_
  refine zg_L_n (r := r0) C hK hW (zvd_0 hr0 (by decide)) zk_115 zd_L_add_1 ?_
  refine zr_bipush C zd_L_add_4 (by decide) ?_
  refine zr_icmp_lt (tgt := 12) C (zWn hW _ _ _ _ rfl) (znb rfl) zd_L_add_6 (by decide) (fun c1 => ?_) (fun c1 => ?_)
  · rw [if_pos c1] at hf
    refine lv_aload_n C.1 C.2.1 zd_L_add_12 rfl (lv_at hl 0 rfl) ?_
    refine zg_L_n (r := r0) C hK hW (zvd_0 hr0 (by decide)) zk_115 zd_L_add_13 ?_
    obtain ⟨v2, ev2, hf⟩ := zlt_some hf
    have nv2 : zn v2 := by rw [← ev2]; exact (zWn hW _ _ _ _ rfl)
    rw [ev2]
    refine lv_istore (lv' := [(6, .int (zI (v2))), (0, .ref (B.2.1 0 (r0) (16))), (1, .ref (B.2.1 3 (0) (4))), (2, .int (zI (x2))), (3, .int (zI (x3))), (4, .int (zI (x4))), (5, .int (zI (x5)))]) C.1 C.2.1 zd_L_add_16 hl (by decide) rfl (fun ls hl => ?_)
    refine lv_aload_n C.1 C.2.1 zd_L_add_18 rfl (lv_at hl 1 rfl) ?_
    refine zg_L_subject (r := r0) C hK hW (zvd_0 hr0 (by decide)) zk_117 zd_L_add_19 ?_
    refine lv_iload C.1 C.2.1 zd_L_add_22 (lv_at hl 0 rfl) ?_
    refine lv_aload_n C.1 C.2.1 zd_L_add_24 rfl (lv_at hl 2 rfl) ?_
    refine zg_R_subject (r := 0) C hK hW (zvd_3 (by decide) (by decide)) zk_379 zd_L_add_25 ?_
    obtain ⟨h3, hf⟩ := zck_some hf
    obtain ⟨S4, eS4, hf⟩ := zlt_some hf
    refine ziast C hK hap hW hS (zvd_0 hr0 (by decide)) (fun f => ze_0_17 B f (r0)) (by decide) rfl (zWn hW _ _ _ _ rfl) h3 zd_L_add_28 (fun H locs hW hS => ?_)
    rw [eS4] at hW
    refine lv_aload_n C.1 C.2.1 zd_L_add_29 rfl (lv_at hl 1 rfl) ?_
    refine zg_L_begin (r := r0) C hK hW (zvd_0 hr0 (by decide)) zk_120 zd_L_add_30 ?_
    refine lv_iload C.1 C.2.1 zd_L_add_33 (lv_at hl 0 rfl) ?_
    refine lv_iload_n C.1 C.2.1 zd_L_add_35 rfl (lv_at hl 4 rfl) ?_
    refine zr_iconst C zd_L_add_36 ?_
    refine zr_iadd C zd_L_add_37 ?_
    obtain ⟨S5, eS5, hf⟩ := zlt_some hf
    refine ziast C hK hap hW hS (zvd_0 hr0 (by decide)) (fun f => ze_0_18 B f (r0)) (by decide) rfl (zn_w _) h3 zd_L_add_38 (fun H locs hW hS => ?_)
    rw [eS5] at hW
    refine lv_aload_n C.1 C.2.1 zd_L_add_39 rfl (lv_at hl 1 rfl) ?_
    refine zg_L_votes (r := r0) C hK hW (zvd_0 hr0 (by decide)) zk_122 zd_L_add_40 ?_
    refine lv_iload C.1 C.2.1 zd_L_add_43 (lv_at hl 0 rfl) ?_
    refine lv_iload C.1 C.2.1 zd_L_add_45 (lv_at hl 5 rfl) ?_
    obtain ⟨S6, eS6, hf⟩ := zlt_some hf
    refine ziast C hK hap hW hS (zvd_0 hr0 (by decide)) (fun f => ze_0_19 B f (r0)) (by decide) rfl nx4 h3 zd_L_add_47 (fun H locs hW hS => ?_)
    rw [eS6] at hW
    refine lv_aload_n C.1 C.2.1 zd_L_add_48 rfl (lv_at hl 1 rfl) ?_
    refine zg_L_voters (r := r0) C hK hW (zvd_0 hr0 (by decide)) zk_124 zd_L_add_49 ?_
    refine lv_iload C.1 C.2.1 zd_L_add_52 (lv_at hl 0 rfl) ?_
    refine lv_iload C.1 C.2.1 zd_L_add_54 (lv_at hl 6 rfl) ?_
    obtain ⟨S7, eS7, hf⟩ := zlt_some hf
    refine ziast C hK hap hW hS (zvd_0 hr0 (by decide)) (fun f => ze_0_20 B f (r0)) (by decide) rfl nx5 h3 zd_L_add_56 (fun H locs hW hS => ?_)
    rw [eS7] at hW
    refine lv_aload_n C.1 C.2.1 zd_L_add_57 rfl (lv_at hl 1 rfl) ?_
    refine zg_L_isVoid (r := r0) C hK hW (zvd_0 hr0 (by decide)) zk_127 zd_L_add_58 ?_
    refine lv_iload C.1 C.2.1 zd_L_add_61 (lv_at hl 0 rfl) ?_
    refine zr_iconst C zd_L_add_63 ?_
    obtain ⟨S8, eS8, hf⟩ := zlt_some hf
    refine ziast C hK hap hW hS (zvd_0 hr0 (by decide)) (fun f => ze_0_21 B f (r0)) (by decide) rfl (znb rfl) h3 zd_L_add_64 (fun H locs hW hS => ?_)
    rw [eS8] at hW
    refine lv_aload_n C.1 C.2.1 zd_L_add_65 rfl (lv_at hl 1 rfl) ?_
    refine zg_L_repealed (r := r0) C hK hW (zvd_0 hr0 (by decide)) zk_129 zd_L_add_66 ?_
    refine lv_iload C.1 C.2.1 zd_L_add_69 (lv_at hl 0 rfl) ?_
    refine zr_iconst C zd_L_add_71 ?_
    obtain ⟨S9, eS9, hf⟩ := zlt_some hf
    refine ziast C hK hap hW hS (zvd_0 hr0 (by decide)) (fun f => ze_0_22 B f (r0)) (by decide) rfl (znb rfl) h3 zd_L_add_72 (fun H locs hW hS => ?_)
    rw [eS9] at hW
    refine lv_aload_n C.1 C.2.1 zd_L_add_73 rfl (lv_at hl 1 rfl) ?_
    refine zg_L_under (r := r0) C hK hW (zvd_0 hr0 (by decide)) zk_131 zd_L_add_74 ?_
    refine lv_iload C.1 C.2.1 zd_L_add_77 (lv_at hl 0 rfl) ?_
    refine lv_aload_n C.1 C.2.1 zd_L_add_79 rfl (lv_at hl 1 rfl) ?_
    refine zr_iconst C zd_L_add_80 ?_
    refine lv_iload_n C.1 C.2.1 zd_L_add_81 rfl (lv_at hl 4 rfl) ?_
    obtain ⟨a10, S11, ea10, hf⟩ := zbd_some hf
    refine zcVi (As := [.int (zI (0)), .int (zI (x3))]) (rest := [.int (zI (v2)), .ref (B.2.1 0 (r0) (23))]) C hK hSt hW hS (zc_L_inForce hap (r0) hr0 0 x3 S9 (znb rfl) nx3 ea10) zq_L_inForce zk_732 (zrecv hK hW (zvd_0 hr0 (by decide)) (ze_0_16 B _ (r0)) rfl) ⟨rfl, rfl, by decide, by decide⟩ ⟨Nat.zero_le _, Nat.zero_le _⟩ rfl hl.1 rfl (lv_room (Nat.le_of_ble_eq_true rfl)) zd_L_add_82 (fun na10 H locs hW hS => ?_)
    obtain ⟨S12, eS12, hf⟩ := zlt_some hf
    refine ziast C hK hap hW hS (zvd_0 hr0 (by decide)) (fun f => ze_0_23 B f (r0)) (by decide) rfl na10 h3 zd_L_add_85 (fun H locs hW hS => ?_)
    rw [eS12] at hW
    refine lv_aload_n C.1 C.2.1 zd_L_add_86 rfl (lv_at hl 1 rfl) ?_
    refine zg_L_textSize (r := r0) C hK hW (zvd_0 hr0 (by decide)) zk_132 zd_L_add_87 ?_
    refine lv_iload C.1 C.2.1 zd_L_add_90 (lv_at hl 0 rfl) ?_
    refine lv_iload_n C.1 C.2.1 zd_L_add_92 rfl (lv_at hl 3 rfl) ?_
    obtain ⟨S13, eS13, hf⟩ := zlt_some hf
    refine ziast C hK hap hW hS (zvd_0 hr0 (by decide)) (fun f => ze_0_24 B f (r0)) (by decide) rfl nx2 h3 zd_L_add_93 (fun H locs hW hS => ?_)
    rw [eS13] at hW
    refine lv_aload_n C.1 C.2.1 zd_L_add_94 rfl (lv_at hl 1 rfl) ?_
    refine zg_L_codeSize (r := r0) C hK hW (zvd_0 hr0 (by decide)) zk_134 zd_L_add_95 ?_
    refine lv_iload C.1 C.2.1 zd_L_add_98 (lv_at hl 0 rfl) ?_
    refine lv_aload_n C.1 C.2.1 zd_L_add_100 rfl (lv_at hl 2 rfl) ?_
    refine zg_R_codeSize (r := 0) C hK hW (zvd_3 (by decide) (by decide)) zk_383 zd_L_add_101 ?_
    obtain ⟨S14, eS14, hf⟩ := zlt_some hf
    refine ziast C hK hap hW hS (zvd_0 hr0 (by decide)) (fun f => ze_0_25 B f (r0)) (by decide) rfl (zWn hW _ _ _ _ rfl) h3 zd_L_add_104 (fun H locs hW hS => ?_)
    rw [eS14] at hW
    refine lv_aload_n C.1 C.2.1 zd_L_add_105 rfl (lv_at hl 2 rfl) ?_
    refine zg_R_code (r := 0) C hK hW (zvd_3 (by decide) (by decide)) zk_381 zd_L_add_106 ?_
    refine zr_iconst C zd_L_add_109 ?_
    refine lv_aload_n C.1 C.2.1 zd_L_add_110 rfl (lv_at hl 1 rfl) ?_
    refine zg_L_code (r := r0) C hK hW (zvd_0 hr0 (by decide)) zk_136 zd_L_add_111 ?_
    refine lv_iload C.1 C.2.1 zd_L_add_114 (lv_at hl 0 rfl) ?_
    refine zaald (t0 := 4) C hK hW (zvd_3 (by decide) (by decide)) (fun f => ze_3_2 B f (0)) rfl rfl (by decide) h3 zd_L_add_116 (a := B.2.1 1 (v2) (0)) (by rw [Int.toNat_of_nonneg h3.1]) ?_
    refine zr_iconst C zd_L_add_117 ?_
    refine zr_bipush C zd_L_add_118 (by decide) ?_
    obtain ⟨S15, eS15, hf⟩ := zlt_some hf
    refine zcopy C hK hap hW hS hl.1 (zvd_3 (by decide) (by decide)) (zvd_1 h3 (by decide)) (fun f => ze_3_5 B f (0)) (fun f => ze_1_0 B f (v2)) (by decide) (by decide) rfl rfl (by decide) zk_733 zk_735 zk_734 zk_18 (by decide) (Nat.le_of_ble_eq_true rfl) zd_L_add_120 (fun H locs hW hS => ?_)
    rw [eS15] at hW
    refine lv_aload_n C.1 C.2.1 zd_L_add_123 rfl (lv_at hl 1 rfl) ?_
    refine lv_iload C.1 C.2.1 zd_L_add_124 (lv_at hl 0 rfl) ?_
    refine zr_iconst C zd_L_add_126 ?_
    refine zr_iadd C zd_L_add_127 ?_
    obtain ⟨S16, eS16, hf⟩ := zlt_some hf
    refine zp_L_n (r := r0) C hK hap hW hS (zvd_0 hr0 (by decide)) zk_115 (zn_w _) zd_L_add_128 (fun H locs hW hS => ?_)
    rw [eS16] at hW
    refine lv_iload C.1 C.2.1 zd_L_add_131 (lv_at hl 0 rfl) ?_
    cases hf
    exact zre_i C hr hlk hK hW hS nv2 zd_L_add_133
  · rw [if_neg c1] at hf
    refine zr_bipush C zd_L_add_9 (by decide) ?_
    cases hf
    exact zre_i C hr hlk hK hW hS (znb rfl) zd_L_add_11

theorem zc_L_add {l : Launch} {B : zB} (hap : zAp B) (r0 : Int) (hr0 : 0 ≤ r0 ∧ r0 < 3) (x2 : Int) (x3 : Int) (x4 : Int) (x5 : Int) (S : Sg) (nx2 : zn x2) (nx3 : zn x3) (nx4 : zn x4) (nx5 : zn x5) {res : Int} {S9 : Sg} (hf : zf_L_add r0 x2 x3 x4 x5 S = some (res, S9)) : Met l zy_L_add (Cond.code zy_L_add zb_L_add 7 (some .int) :: zT) zm_L_add (zP B S [.ref (B.2.1 0 (r0) (16)), .ref (B.2.1 3 (0) (4)), .int (zI (x2)), .int (zI (x3)), .int (zI (x4)), .int (zI (x5))]) (zQi B res S9) 0 0 B.2.2.2 :=
  zmet (by decide) (Nat.le_of_ble_eq_true rfl) (fun p e s m args below meth c C hr hlk hK hSt hW ls hl => zw_L_add C hr hlk hK hSt hap r0 hr0 x2 x3 x4 x5 S nx2 nx3 nx4 nx5 hf _ _ _ hW va_S.rf hl)
/-! IslandOffice.vote(II)I -/
abbrev zy_O_vote : MethodName := ⟨"IslandOffice", "vote", "(II)I"⟩
abbrev zb_O_vote : ByteArray := prog_1_method_13_code
abbrev zm_O_vote : Room := { frames := 6, cells := 0, slots := 0, locals := 152 }
theorem zq_O_vote : zMy zy_O_vote zb_O_vote 5 (some .int) 2 := ⟨zk_683, zk_681, zk_682, zk_1, by decide, by decide, by decide +kernel⟩
theorem zd_O_vote_0 : decode zb_O_vote 0 = .ok (.aload_n 0, 1) := by decide +kernel
theorem zd_O_vote_1 : decode zb_O_vote 1 = .ok (.getfield 51, 3) := by decide +kernel
theorem zd_O_vote_4 : decode zb_O_vote 4 = .ok (.aload_n 0, 1) := by decide +kernel
theorem zd_O_vote_5 : decode zb_O_vote 5 = .ok (.getfield 16, 3) := by decide +kernel
theorem zd_O_vote_8 : decode zb_O_vote 8 = .ok (.invokevirtual 171, 3) := by decide +kernel
theorem zd_O_vote_11 : decode zb_O_vote 11 = .ok (.istore_n 3, 1) := by decide +kernel
theorem zd_O_vote_12 : decode zb_O_vote 12 = .ok (.iload_n 1, 1) := by decide +kernel
theorem zd_O_vote_13 : decode zb_O_vote 13 = .ok (.invokestatic 151, 3) := by decide +kernel
theorem zd_O_vote_16 : decode zb_O_vote 16 = .ok (.ifCond .eq 12, 3) := by decide +kernel
theorem zd_O_vote_19 : decode zb_O_vote 19 = .ok (.iload_n 2, 1) := by decide +kernel
theorem zd_O_vote_20 : decode zb_O_vote 20 = .ok (.ifCond .lt 8, 3) := by decide +kernel
theorem zd_O_vote_23 : decode zb_O_vote 23 = .ok (.iload_n 2, 1) := by decide +kernel
theorem zd_O_vote_24 : decode zb_O_vote 24 = .ok (.iload_n 3, 1) := by decide +kernel
theorem zd_O_vote_25 : decode zb_O_vote 25 = .ok (.if_icmp .le 5, 3) := by decide +kernel
theorem zd_O_vote_28 : decode zb_O_vote 28 = .ok (.iconst (-1), 1) := by decide +kernel
theorem zd_O_vote_29 : decode zb_O_vote 29 = .ok (.ireturn, 1) := by decide +kernel
theorem zd_O_vote_30 : decode zb_O_vote 30 = .ok (.aload_n 0, 1) := by decide +kernel
theorem zd_O_vote_31 : decode zb_O_vote 31 = .ok (.iload_n 1, 1) := by decide +kernel
theorem zd_O_vote_32 : decode zb_O_vote 32 = .ok (.invokevirtual 175, 3) := by decide +kernel
theorem zd_O_vote_35 : decode zb_O_vote 35 = .ok (.istore 4, 2) := by decide +kernel
theorem zd_O_vote_37 : decode zb_O_vote 37 = .ok (.iload 4, 2) := by decide +kernel
theorem zd_O_vote_39 : decode zb_O_vote 39 = .ok (.bipush (-11), 2) := by decide +kernel
theorem zd_O_vote_41 : decode zb_O_vote 41 = .ok (.if_icmp .eq 10, 3) := by decide +kernel
theorem zd_O_vote_44 : decode zb_O_vote 44 = .ok (.iload 4, 2) := by decide +kernel
theorem zd_O_vote_46 : decode zb_O_vote 46 = .ok (.bipush (-12), 2) := by decide +kernel
theorem zd_O_vote_48 : decode zb_O_vote 48 = .ok (.if_icmp .ne 6, 3) := by decide +kernel
theorem zd_O_vote_51 : decode zb_O_vote 51 = .ok (.iload 4, 2) := by decide +kernel
theorem zd_O_vote_53 : decode zb_O_vote 53 = .ok (.ireturn, 1) := by decide +kernel
theorem zd_O_vote_54 : decode zb_O_vote 54 = .ok (.iload 4, 2) := by decide +kernel
theorem zd_O_vote_56 : decode zb_O_vote 56 = .ok (.bipush (-2), 2) := by decide +kernel
theorem zd_O_vote_58 : decode zb_O_vote 58 = .ok (.if_icmp .eq 9, 3) := by decide +kernel
theorem zd_O_vote_61 : decode zb_O_vote 61 = .ok (.bipush (-100), 2) := by decide +kernel
theorem zd_O_vote_63 : decode zb_O_vote 63 = .ok (.iload 4, 2) := by decide +kernel
theorem zd_O_vote_65 : decode zb_O_vote 65 = .ok (.isub, 1) := by decide +kernel
theorem zd_O_vote_66 : decode zb_O_vote 66 = .ok (.ireturn, 1) := by decide +kernel
theorem zd_O_vote_67 : decode zb_O_vote 67 = .ok (.aload_n 0, 1) := by decide +kernel
theorem zd_O_vote_68 : decode zb_O_vote 68 = .ok (.getfield 16, 3) := by decide +kernel
theorem zd_O_vote_71 : decode zb_O_vote 71 = .ok (.getfield 178, 3) := by decide +kernel
theorem zd_O_vote_74 : decode zb_O_vote 74 = .ok (.getfield 182, 3) := by decide +kernel
theorem zd_O_vote_77 : decode zb_O_vote 77 = .ok (.bipush 12, 2) := by decide +kernel
theorem zd_O_vote_79 : decode zb_O_vote 79 = .ok (.if_icmp .lt 6, 3) := by decide +kernel
theorem zd_O_vote_82 : decode zb_O_vote 82 = .ok (.bipush (-2), 2) := by decide +kernel
theorem zd_O_vote_84 : decode zb_O_vote 84 = .ok (.ireturn, 1) := by decide +kernel
theorem zd_O_vote_85 : decode zb_O_vote 85 = .ok (.iconst 2, 1) := by decide +kernel
theorem zd_O_vote_86 : decode zb_O_vote 86 = .ok (.iload_n 2, 1) := by decide +kernel
theorem zd_O_vote_87 : decode zb_O_vote 87 = .ok (.imul, 1) := by decide +kernel
theorem zd_O_vote_88 : decode zb_O_vote 88 = .ok (.iload_n 3, 1) := by decide +kernel
theorem zd_O_vote_89 : decode zb_O_vote 89 = .ok (.if_icmp .gt 6, 3) := by decide +kernel
theorem zd_O_vote_92 : decode zb_O_vote 92 = .ok (.bipush (-3), 2) := by decide +kernel
theorem zd_O_vote_94 : decode zb_O_vote 94 = .ok (.ireturn, 1) := by decide +kernel
theorem zd_O_vote_95 : decode zb_O_vote 95 = .ok (.aload_n 0, 1) := by decide +kernel
theorem zd_O_vote_96 : decode zb_O_vote 96 = .ok (.getfield 16, 3) := by decide +kernel
theorem zd_O_vote_99 : decode zb_O_vote 99 = .ok (.getfield 178, 3) := by decide +kernel
theorem zd_O_vote_102 : decode zb_O_vote 102 = .ok (.aload_n 0, 1) := by decide +kernel
theorem zd_O_vote_103 : decode zb_O_vote 103 = .ok (.getfield 44, 3) := by decide +kernel
theorem zd_O_vote_106 : decode zb_O_vote 106 = .ok (.aload_n 0, 1) := by decide +kernel
theorem zd_O_vote_107 : decode zb_O_vote 107 = .ok (.getfield 36, 3) := by decide +kernel
theorem zd_O_vote_110 : decode zb_O_vote 110 = .ok (.iload_n 1, 1) := by decide +kernel
theorem zd_O_vote_111 : decode zb_O_vote 111 = .ok (.aaload, 1) := by decide +kernel
theorem zd_O_vote_112 : decode zb_O_vote 112 = .ok (.getfield 164, 3) := by decide +kernel
theorem zd_O_vote_115 : decode zb_O_vote 115 = .ok (.aload_n 0, 1) := by decide +kernel
theorem zd_O_vote_116 : decode zb_O_vote 116 = .ok (.getfield 16, 3) := by decide +kernel
theorem zd_O_vote_119 : decode zb_O_vote 119 = .ok (.getfield 94, 3) := by decide +kernel
theorem zd_O_vote_122 : decode zb_O_vote 122 = .ok (.iload_n 2, 1) := by decide +kernel
theorem zd_O_vote_123 : decode zb_O_vote 123 = .ok (.iload_n 3, 1) := by decide +kernel
theorem zd_O_vote_124 : decode zb_O_vote 124 = .ok (.invokevirtual 185, 3) := by decide +kernel
theorem zd_O_vote_127 : decode zb_O_vote 127 = .ok (.ireturn, 1) := by decide +kernel

def zf_O_vote (x1 : Int) (x2 : Int) (S : Sg) : Option (Int × Sg) :=
    zbd (zf_J_countVoters (0) S) fun a1 S2 => zbd (zf_O_isShelf x1 S2) fun a3 S4 => if a3 = 0 then (some (-1, S4)) else (if x2 < 0 then (some (-1, S4)) else (if x2 ≤ a1 then (zbd (zf_O_fault x1 S4) fun a8 S9 => if a8 = (-11) then (some (a8, S9)) else (if a8 = (-12) then (some (a8, S9)) else (if a8 = (-2) then (if (S9 0 0 16 0) < 12 then (if a1 < (zw (2 * x2)) then (zck (0 ≤ x1 ∧ x1 < 8) <| zbd (zf_L_add (0) (S9 2 x1 0 5) (S9 0 0 0 0) x2 a1 S9) fun a16 S17 => some (a16, S17)) else (some (-3, S9))) else (some (-2, S9))) else (some (zw ((-100) - a8), S9))))) else (some (-1, S4))))
set_option maxHeartbeats 4000000 in
set_option maxRecDepth 100000 in
theorem zw_O_vote {p : Program} {l : Launch} {e : Env} {s : State} {m : MethodId} {args : Array Value} {below : List Frame} {meth : Method} {c : Code} {B : zB} (C : CallFix p m c zb_O_vote 5 s args zT "IslandOffice") (hr : meth.sig.returnType = some .int) (hlk : meth.locks = false) (hK : zK B s) (hSt : zSt B s) (hap : zAp B) {res : Int} {S9 : Sg} : ∀ (x1 : Int) (x2 : Int) (S : Sg) (nx1 : zn x1) (nx2 : zn x2), zf_O_vote x1 x2 S = some (res, S9) → ∀ (H : Heap) (locs : List Loc) (ls : Array Slot), zW B S H → va_S B.2.2.2 s.heap H locs → lv_has ls 5 [(0, .ref (B.2.1 3 (0) (0))), (1, .int (zI (x1))), (2, .int (zI (x2)))] → W p l e zm_O_vote s m args below meth c H locs 0 0 (MQ below (zQi B res S9) args s 0 0 B.2.2.2) (F0 m 0 ls []) := by
  intro x1 x2 S nx1 nx2 hf H locs ls hW hS hl
  unfold zf_O_vote at hf
  refine lv_aload_n C.1 C.2.1 zd_O_vote_0 rfl (lv_at hl 0 rfl) ?_
  refine zg_O_judge (r := 0) C hK hW (zvd_3 (by decide) (by decide)) zk_499 zd_O_vote_1 ?_
  refine lv_aload_n C.1 C.2.1 zd_O_vote_4 rfl (lv_at hl 0 rfl) ?_
  refine zg_O_now (r := 0) C hK hW (zvd_3 (by decide) (by decide)) zk_492 zd_O_vote_5 ?_
  obtain ⟨a1, S2, ea1, hf⟩ := zbd_some hf
  refine zcVi (As := [.ref (B.2.1 0 (0) (0))]) (rest := []) C hK hSt hW hS (zc_J_countVoters hap (0) (by decide) S ea1) zq_J_countVoters zk_684 (zrecv hK hW (zvd_3 (by decide) (by decide)) (ze_3_7 B _ (0)) rfl) ⟨rfl, rfl, by decide, by decide⟩ ⟨Nat.zero_le _, Nat.zero_le _⟩ rfl hl.1 rfl (lv_room (Nat.le_of_ble_eq_true rfl)) zd_O_vote_8 (fun na1 H locs hW hS => ?_)
  refine lv_istore_n (lv' := [(3, .int (zI (a1))), (0, .ref (B.2.1 3 (0) (0))), (1, .int (zI (x1))), (2, .int (zI (x2)))]) C.1 C.2.1 zd_O_vote_11 rfl hl (by decide) rfl (fun ls hl => ?_)
  refine lv_iload_n C.1 C.2.1 zd_O_vote_12 rfl (lv_at hl 2 rfl) ?_
  obtain ⟨a3, S4, ea3, hf⟩ := zbd_some hf
  refine zcSi (As := [.int (zI (x1))]) (rest := []) C hK hSt hW hS (zc_O_isShelf hap x1 S2 nx1 ea3) zq_O_isShelf zk_612 ⟨rfl, rfl, by decide, by decide⟩ ⟨Nat.zero_le _, Nat.zero_le _⟩ rfl hl.1 rfl (lv_room (Nat.le_of_ble_eq_true rfl)) zd_O_vote_13 (fun na3 H locs hW hS => ?_)
  refine zr_if_eq (tgt := 28) C na3 zd_O_vote_16 (by decide) (fun c5 => ?_) (fun c5 => ?_)
  · rw [if_pos c5] at hf
    refine zr_iconst C zd_O_vote_28 ?_
    cases hf
    exact zre_i C hr hlk hK hW hS (znb rfl) zd_O_vote_29
  · rw [if_neg c5] at hf
    refine lv_iload_n C.1 C.2.1 zd_O_vote_19 rfl (lv_at hl 3 rfl) ?_
    refine zr_if_lt (tgt := 28) C nx2 zd_O_vote_20 (by decide) (fun c6 => ?_) (fun c6 => ?_)
    · rw [if_pos c6] at hf
      refine zr_iconst C zd_O_vote_28 ?_
      cases hf
      exact zre_i C hr hlk hK hW hS (znb rfl) zd_O_vote_29
    · rw [if_neg c6] at hf
      refine lv_iload_n C.1 C.2.1 zd_O_vote_23 rfl (lv_at hl 3 rfl) ?_
      refine lv_iload_n C.1 C.2.1 zd_O_vote_24 rfl (lv_at hl 0 rfl) ?_
      refine zr_icmp_le (tgt := 30) C nx2 na1 zd_O_vote_25 (by decide) (fun c7 => ?_) (fun c7 => ?_)
      · rw [if_pos c7] at hf
        refine lv_aload_n C.1 C.2.1 zd_O_vote_30 rfl (lv_at hl 1 rfl) ?_
        refine lv_iload_n C.1 C.2.1 zd_O_vote_31 rfl (lv_at hl 2 rfl) ?_
        obtain ⟨a8, S9, ea8, hf⟩ := zbd_some hf
        refine zcVi (As := [.int (zI (x1))]) (rest := []) C hK hSt hW hS (zc_O_fault hap x1 S4 nx1 ea8) zq_O_fault zk_727 (zrecv hK hW (zvd_3 (by decide) (by decide)) (ze_3_0 B _ (0)) rfl) ⟨rfl, rfl, by decide, by decide⟩ ⟨Nat.zero_le _, Nat.zero_le _⟩ rfl hl.1 rfl (lv_room (Nat.le_of_ble_eq_true rfl)) zd_O_vote_32 (fun na8 H locs hW hS => ?_)
        refine lv_istore (lv' := [(4, .int (zI (a8))), (3, .int (zI (a1))), (0, .ref (B.2.1 3 (0) (0))), (1, .int (zI (x1))), (2, .int (zI (x2)))]) C.1 C.2.1 zd_O_vote_35 hl (by decide) rfl (fun ls hl => ?_)
        refine lv_iload C.1 C.2.1 zd_O_vote_37 (lv_at hl 0 rfl) ?_
        refine zr_bipush C zd_O_vote_39 (by decide) ?_
        refine zr_icmp_eq (tgt := 51) C na8 (znb rfl) zd_O_vote_41 (by decide) (fun c10 => ?_) (fun c10 => ?_)
        · rw [if_pos c10] at hf
          refine lv_iload C.1 C.2.1 zd_O_vote_51 (lv_at hl 0 rfl) ?_
          cases hf
          exact zre_i C hr hlk hK hW hS na8 zd_O_vote_53
        · rw [if_neg c10] at hf
          refine lv_iload C.1 C.2.1 zd_O_vote_44 (lv_at hl 0 rfl) ?_
          refine zr_bipush C zd_O_vote_46 (by decide) ?_
          refine zr_icmp_ne (tgt := 54) C na8 (znb rfl) zd_O_vote_48 (by decide) (fun c11 => ?_) (fun c11 => ?_)
          · rw [if_neg c11] at hf
            refine lv_iload C.1 C.2.1 zd_O_vote_54 (lv_at hl 0 rfl) ?_
            refine zr_bipush C zd_O_vote_56 (by decide) ?_
            refine zr_icmp_eq (tgt := 67) C na8 (znb rfl) zd_O_vote_58 (by decide) (fun c12 => ?_) (fun c12 => ?_)
            · rw [if_pos c12] at hf
              refine lv_aload_n C.1 C.2.1 zd_O_vote_67 rfl (lv_at hl 2 rfl) ?_
              refine zg_O_now (r := 0) C hK hW (zvd_3 (by decide) (by decide)) zk_492 zd_O_vote_68 ?_
              refine zg_I_laws (r := 0) C hK hW (zvd_0 (by decide) (by decide)) zk_285 zd_O_vote_71 ?_
              refine zg_L_n (r := 0) C hK hW (zvd_0 (by decide) (by decide)) zk_116 zd_O_vote_74 ?_
              refine zr_bipush C zd_O_vote_77 (by decide) ?_
              refine zr_icmp_lt (tgt := 85) C (zWn hW _ _ _ _ rfl) (znb rfl) zd_O_vote_79 (by decide) (fun c13 => ?_) (fun c13 => ?_)
              · rw [if_pos c13] at hf
                refine zr_iconst C zd_O_vote_85 ?_
                refine lv_iload_n C.1 C.2.1 zd_O_vote_86 rfl (lv_at hl 4 rfl) ?_
                refine zr_imul C zd_O_vote_87 ?_
                refine lv_iload_n C.1 C.2.1 zd_O_vote_88 rfl (lv_at hl 1 rfl) ?_
                refine zr_icmp_gt (tgt := 95) C (zn_w _) na1 zd_O_vote_89 (by decide) (fun c14 => ?_) (fun c14 => ?_)
                · rw [if_pos c14] at hf
                  refine lv_aload_n C.1 C.2.1 zd_O_vote_95 rfl (lv_at hl 2 rfl) ?_
                  refine zg_O_now (r := 0) C hK hW (zvd_3 (by decide) (by decide)) zk_492 zd_O_vote_96 ?_
                  refine zg_I_laws (r := 0) C hK hW (zvd_0 (by decide) (by decide)) zk_285 zd_O_vote_99 ?_
                  refine lv_aload_n C.1 C.2.1 zd_O_vote_102 rfl (lv_at hl 2 rfl) ?_
                  refine zg_O_reader (r := 0) C hK hW (zvd_3 (by decide) (by decide)) zk_498 zd_O_vote_103 ?_
                  refine lv_aload_n C.1 C.2.1 zd_O_vote_106 rfl (lv_at hl 2 rfl) ?_
                  refine zg_O_shelves (r := 0) C hK hW (zvd_3 (by decide) (by decide)) zk_497 zd_O_vote_107 ?_
                  refine lv_iload_n C.1 C.2.1 zd_O_vote_110 rfl (lv_at hl 3 rfl) ?_
                  obtain ⟨h15, hf⟩ := zck_some hf
                  refine zaald (t0 := 3) C hK hW (zvd_3 (by decide) (by decide)) (fun f => ze_3_3 B f (0)) rfl rfl (by decide) h15 zd_O_vote_111 (a := B.2.1 2 (x1) (0)) (by rw [Int.toNat_of_nonneg h15.1]) ?_
                  refine zg_S_size (r := x1) C hK hW (zvd_2 h15 (by decide)) zk_354 zd_O_vote_112 ?_
                  refine lv_aload_n C.1 C.2.1 zd_O_vote_115 rfl (lv_at hl 2 rfl) ?_
                  refine zg_O_now (r := 0) C hK hW (zvd_3 (by decide) (by decide)) zk_492 zd_O_vote_116 ?_
                  refine zg_I_week (r := 0) C hK hW (zvd_0 (by decide) (by decide)) zk_242 zd_O_vote_119 ?_
                  refine lv_iload_n C.1 C.2.1 zd_O_vote_122 rfl (lv_at hl 4 rfl) ?_
                  refine lv_iload_n C.1 C.2.1 zd_O_vote_123 rfl (lv_at hl 1 rfl) ?_
                  obtain ⟨a16, S17, ea16, hf⟩ := zbd_some hf
                  refine zcVi (As := [.ref (B.2.1 3 (0) (4)), .int (zI (S9 2 x1 0 5)), .int (zI (S9 0 0 0 0)), .int (zI (x2)), .int (zI (a1))]) (rest := []) C hK hSt hW hS (zc_L_add hap (0) (by decide) (S9 2 x1 0 5) (S9 0 0 0 0) x2 a1 S9 (zWn hW _ _ _ _ rfl) (zWn hW _ _ _ _ rfl) nx2 na1 ea16) zq_L_add zk_728 (zrecv hK hW (zvd_0 (by decide) (by decide)) (ze_0_16 B _ (0)) rfl) ⟨rfl, rfl, by decide, by decide⟩ ⟨Nat.zero_le _, Nat.zero_le _⟩ rfl hl.1 rfl (lv_room (Nat.le_of_ble_eq_true rfl)) zd_O_vote_124 (fun na16 H locs hW hS => ?_)
                  cases hf
                  exact zre_i C hr hlk hK hW hS na16 zd_O_vote_127
                · rw [if_neg c14] at hf
                  refine zr_bipush C zd_O_vote_92 (by decide) ?_
                  cases hf
                  exact zre_i C hr hlk hK hW hS (znb rfl) zd_O_vote_94
              · rw [if_neg c13] at hf
                refine zr_bipush C zd_O_vote_82 (by decide) ?_
                cases hf
                exact zre_i C hr hlk hK hW hS (znb rfl) zd_O_vote_84
            · rw [if_neg c12] at hf
              refine zr_bipush C zd_O_vote_61 (by decide) ?_
              refine lv_iload C.1 C.2.1 zd_O_vote_63 (lv_at hl 0 rfl) ?_
              refine zr_isub C zd_O_vote_65 ?_
              cases hf
              exact zre_i C hr hlk hK hW hS (zn_w _) zd_O_vote_66
          · rw [if_pos c11] at hf
            refine lv_iload C.1 C.2.1 zd_O_vote_51 (lv_at hl 0 rfl) ?_
            cases hf
            exact zre_i C hr hlk hK hW hS na8 zd_O_vote_53
      · rw [if_neg c7] at hf
        refine zr_iconst C zd_O_vote_28 ?_
        cases hf
        exact zre_i C hr hlk hK hW hS (znb rfl) zd_O_vote_29

theorem zc_O_vote {l : Launch} {B : zB} (hap : zAp B) (x1 : Int) (x2 : Int) (S : Sg) (nx1 : zn x1) (nx2 : zn x2) {res : Int} {S9 : Sg} (hf : zf_O_vote x1 x2 S = some (res, S9)) : Met l zy_O_vote (Cond.code zy_O_vote zb_O_vote 5 (some .int) :: zT) zm_O_vote (zP B S [.ref (B.2.1 3 (0) (0)), .int (zI (x1)), .int (zI (x2))]) (zQi B res S9) 0 0 B.2.2.2 :=
  zmet (by decide) (Nat.le_of_ble_eq_true rfl) (fun p e s m args below meth c C hr hlk hK hSt hW ls hl => zw_O_vote C hr hlk hK hSt hap   x1 x2 S nx1 nx2 hf _ _ _ hW va_S.rf hl)
/-! IslandOffice$Laws.has(I)Z -/
abbrev zy_L_has : MethodName := ⟨"IslandOffice$Laws", "has", "(I)Z"⟩
abbrev zb_L_has : ByteArray := prog_6_method_3_code
abbrev zm_L_has : Room := { frames := 0, cells := 0, slots := 0, locals := 0 }
theorem zq_L_has : zMy zy_L_has zb_L_has 2 (some .boolean) 1 := ⟨zk_743, zk_741, zk_742, zk_5, by decide, by decide, by decide +kernel⟩
theorem zd_L_has_0 : decode zb_L_has 0 = .ok (.iload_n 1, 1) := by decide +kernel
theorem zd_L_has_1 : decode zb_L_has 1 = .ok (.ifCond .lt 15, 3) := by decide +kernel
theorem zd_L_has_4 : decode zb_L_has 4 = .ok (.iload_n 1, 1) := by decide +kernel
theorem zd_L_has_5 : decode zb_L_has 5 = .ok (.aload_n 0, 1) := by decide +kernel
theorem zd_L_has_6 : decode zb_L_has 6 = .ok (.getfield 9, 3) := by decide +kernel
theorem zd_L_has_9 : decode zb_L_has 9 = .ok (.if_icmp .ge 7, 3) := by decide +kernel
theorem zd_L_has_12 : decode zb_L_has 12 = .ok (.iconst 1, 1) := by decide +kernel
theorem zd_L_has_13 : decode zb_L_has 13 = .ok (.goto 4, 3) := by decide +kernel
theorem zd_L_has_16 : decode zb_L_has 16 = .ok (.iconst 0, 1) := by decide +kernel
theorem zd_L_has_17 : decode zb_L_has 17 = .ok (.ireturn, 1) := by decide +kernel

def zf_L_has (r0 : Int) (x1 : Int) (S : Sg) : Option (Int × Sg) :=
    if x1 < 0 then (some (0, S)) else (if (S 0 r0 16 0) ≤ x1 then (some (0, S)) else (some (1, S)))
set_option maxHeartbeats 4000000 in
set_option maxRecDepth 100000 in
theorem zw_L_has {p : Program} {l : Launch} {e : Env} {s : State} {m : MethodId} {args : Array Value} {below : List Frame} {meth : Method} {c : Code} {B : zB} (C : CallFix p m c zb_L_has 2 s args zT "IslandOffice$Laws") (hr : meth.sig.returnType = some .boolean) (hlk : meth.locks = false) (hK : zK B s) (hSt : zSt B s) (hap : zAp B) (r0 : Int) (hr0 : 0 ≤ r0 ∧ r0 < 3) {res : Int} {S9 : Sg} : ∀ (x1 : Int) (S : Sg) (nx1 : zn x1), zf_L_has r0 x1 S = some (res, S9) → ∀ (H : Heap) (locs : List Loc) (ls : Array Slot), zW B S H → va_S B.2.2.2 s.heap H locs → lv_has ls 2 [(0, .ref (B.2.1 0 (r0) (16))), (1, .int (zI (x1)))] → W p l e zm_L_has s m args below meth c H locs 0 0 (MQ below (zQi B res S9) args s 0 0 B.2.2.2) (F0 m 0 ls []) := by
  intro x1 S nx1 hf H locs ls hW hS hl
  unfold zf_L_has at hf
  refine lv_iload_n C.1 C.2.1 zd_L_has_0 rfl (lv_at hl 1 rfl) ?_
  refine zr_if_lt (tgt := 16) C nx1 zd_L_has_1 (by decide) (fun c1 => ?_) (fun c1 => ?_)
  · rw [if_pos c1] at hf
    refine zr_iconst C zd_L_has_16 ?_
    cases hf
    exact zre_z C hr hlk hK hW hS (znb rfl) (zb01 (by decide)) zd_L_has_17
  · rw [if_neg c1] at hf
    refine lv_iload_n C.1 C.2.1 zd_L_has_4 rfl (lv_at hl 1 rfl) ?_
    refine lv_aload_n C.1 C.2.1 zd_L_has_5 rfl (lv_at hl 0 rfl) ?_
    refine zg_L_n (r := r0) C hK hW (zvd_0 hr0 (by decide)) zk_115 zd_L_has_6 ?_
    refine zr_icmp_ge (tgt := 16) C nx1 (zWn hW _ _ _ _ rfl) zd_L_has_9 (by decide) (fun c2 => ?_) (fun c2 => ?_)
    · rw [if_pos c2] at hf
      refine zr_iconst C zd_L_has_16 ?_
      cases hf
      exact zre_z C hr hlk hK hW hS (znb rfl) (zb01 (by decide)) zd_L_has_17
    · rw [if_neg c2] at hf
      refine zr_iconst C zd_L_has_12 ?_
      refine lv_goto (tgt := 17) C.1 C.2.1 zd_L_has_13 (by decide) ?_
      cases hf
      exact zre_z C hr hlk hK hW hS (znb rfl) (zb01 (by decide)) zd_L_has_17

theorem zc_L_has {l : Launch} {B : zB} (hap : zAp B) (r0 : Int) (hr0 : 0 ≤ r0 ∧ r0 < 3) (x1 : Int) (S : Sg) (nx1 : zn x1) {res : Int} {S9 : Sg} (hf : zf_L_has r0 x1 S = some (res, S9)) : Met l zy_L_has (Cond.code zy_L_has zb_L_has 2 (some .boolean) :: zT) zm_L_has (zP B S [.ref (B.2.1 0 (r0) (16)), .int (zI (x1))]) (zQi B res S9) 0 0 B.2.2.2 :=
  zmet (by decide) (Nat.le_of_ble_eq_true rfl) (fun p e s m args below meth c C hr hlk hK hSt hW ls hl => zw_L_has C hr hlk hK hSt hap r0 hr0 x1 S nx1 hf _ _ _ hW va_S.rf hl)
/-! IslandOffice.repeal(I)I -/
abbrev zy_O_repeal : MethodName := ⟨"IslandOffice", "repeal", "(I)I"⟩
abbrev zb_O_repeal : ByteArray := prog_1_method_14_code
abbrev zm_O_repeal : Room := { frames := 1, cells := 0, slots := 0, locals := 21 }
theorem zq_O_repeal : zMy zy_O_repeal zb_O_repeal 2 (some .int) 1 := ⟨zk_739, zk_737, zk_738, zk_1, by decide, by decide, by decide +kernel⟩
theorem zd_O_repeal_0 : decode zb_O_repeal 0 = .ok (.aload_n 0, 1) := by decide +kernel
theorem zd_O_repeal_1 : decode zb_O_repeal 1 = .ok (.getfield 16, 3) := by decide +kernel
theorem zd_O_repeal_4 : decode zb_O_repeal 4 = .ok (.getfield 178, 3) := by decide +kernel
theorem zd_O_repeal_7 : decode zb_O_repeal 7 = .ok (.iload_n 1, 1) := by decide +kernel
theorem zd_O_repeal_8 : decode zb_O_repeal 8 = .ok (.invokevirtual 188, 3) := by decide +kernel
theorem zd_O_repeal_11 : decode zb_O_repeal 11 = .ok (.ifCond .ne 5, 3) := by decide +kernel
theorem zd_O_repeal_14 : decode zb_O_repeal 14 = .ok (.iconst (-1), 1) := by decide +kernel
theorem zd_O_repeal_15 : decode zb_O_repeal 15 = .ok (.ireturn, 1) := by decide +kernel
theorem zd_O_repeal_16 : decode zb_O_repeal 16 = .ok (.aload_n 0, 1) := by decide +kernel
theorem zd_O_repeal_17 : decode zb_O_repeal 17 = .ok (.getfield 16, 3) := by decide +kernel
theorem zd_O_repeal_20 : decode zb_O_repeal 20 = .ok (.getfield 178, 3) := by decide +kernel
theorem zd_O_repeal_23 : decode zb_O_repeal 23 = .ok (.getfield 189, 3) := by decide +kernel
theorem zd_O_repeal_26 : decode zb_O_repeal 26 = .ok (.iload_n 1, 1) := by decide +kernel
theorem zd_O_repeal_27 : decode zb_O_repeal 27 = .ok (.iaload, 1) := by decide +kernel
theorem zd_O_repeal_28 : decode zb_O_repeal 28 = .ok (.iconst 1, 1) := by decide +kernel
theorem zd_O_repeal_29 : decode zb_O_repeal 29 = .ok (.if_icmp .eq 18, 3) := by decide +kernel
theorem zd_O_repeal_32 : decode zb_O_repeal 32 = .ok (.aload_n 0, 1) := by decide +kernel
theorem zd_O_repeal_33 : decode zb_O_repeal 33 = .ok (.getfield 16, 3) := by decide +kernel
theorem zd_O_repeal_36 : decode zb_O_repeal 36 = .ok (.getfield 178, 3) := by decide +kernel
theorem zd_O_repeal_39 : decode zb_O_repeal 39 = .ok (.getfield 192, 3) := by decide +kernel
theorem zd_O_repeal_42 : decode zb_O_repeal 42 = .ok (.iload_n 1, 1) := by decide +kernel
theorem zd_O_repeal_43 : decode zb_O_repeal 43 = .ok (.iaload, 1) := by decide +kernel
theorem zd_O_repeal_44 : decode zb_O_repeal 44 = .ok (.ifCond .lt 6, 3) := by decide +kernel
theorem zd_O_repeal_47 : decode zb_O_repeal 47 = .ok (.bipush (-3), 2) := by decide +kernel
theorem zd_O_repeal_49 : decode zb_O_repeal 49 = .ok (.ireturn, 1) := by decide +kernel
theorem zd_O_repeal_50 : decode zb_O_repeal 50 = .ok (.aload_n 0, 1) := by decide +kernel
theorem zd_O_repeal_51 : decode zb_O_repeal 51 = .ok (.getfield 16, 3) := by decide +kernel
theorem zd_O_repeal_54 : decode zb_O_repeal 54 = .ok (.getfield 178, 3) := by decide +kernel
theorem zd_O_repeal_57 : decode zb_O_repeal 57 = .ok (.getfield 192, 3) := by decide +kernel
theorem zd_O_repeal_60 : decode zb_O_repeal 60 = .ok (.iload_n 1, 1) := by decide +kernel
theorem zd_O_repeal_61 : decode zb_O_repeal 61 = .ok (.aload_n 0, 1) := by decide +kernel
theorem zd_O_repeal_62 : decode zb_O_repeal 62 = .ok (.getfield 16, 3) := by decide +kernel
theorem zd_O_repeal_65 : decode zb_O_repeal 65 = .ok (.getfield 94, 3) := by decide +kernel
theorem zd_O_repeal_68 : decode zb_O_repeal 68 = .ok (.iconst 1, 1) := by decide +kernel
theorem zd_O_repeal_69 : decode zb_O_repeal 69 = .ok (.iadd, 1) := by decide +kernel
theorem zd_O_repeal_70 : decode zb_O_repeal 70 = .ok (.iastore, 1) := by decide +kernel
theorem zd_O_repeal_71 : decode zb_O_repeal 71 = .ok (.iconst 1, 1) := by decide +kernel
theorem zd_O_repeal_72 : decode zb_O_repeal 72 = .ok (.ireturn, 1) := by decide +kernel

def zf_O_repeal (x1 : Int) (S : Sg) : Option (Int × Sg) :=
    zbd (zf_L_has (0) x1 S) fun a1 S2 => if a1 = 0 then (some (-1, S2)) else (zck (0 ≤ x1 ∧ x1 < 12) <| if (S2 0 0 21 x1) = 1 then (some (-3, S2)) else (if (S2 0 0 22 x1) < 0 then (zlt (zu S2 0 0 22 x1 (zw ((S2 0 0 0 0) + 1))) fun S7 => some (1, S7)) else (some (-3, S2))))
set_option maxHeartbeats 4000000 in
set_option maxRecDepth 100000 in
theorem zw_O_repeal {p : Program} {l : Launch} {e : Env} {s : State} {m : MethodId} {args : Array Value} {below : List Frame} {meth : Method} {c : Code} {B : zB} (C : CallFix p m c zb_O_repeal 2 s args zT "IslandOffice") (hr : meth.sig.returnType = some .int) (hlk : meth.locks = false) (hK : zK B s) (hSt : zSt B s) (hap : zAp B) {res : Int} {S9 : Sg} : ∀ (x1 : Int) (S : Sg) (nx1 : zn x1), zf_O_repeal x1 S = some (res, S9) → ∀ (H : Heap) (locs : List Loc) (ls : Array Slot), zW B S H → va_S B.2.2.2 s.heap H locs → lv_has ls 2 [(0, .ref (B.2.1 3 (0) (0))), (1, .int (zI (x1)))] → W p l e zm_O_repeal s m args below meth c H locs 0 0 (MQ below (zQi B res S9) args s 0 0 B.2.2.2) (F0 m 0 ls []) := by
  intro x1 S nx1 hf H locs ls hW hS hl
  unfold zf_O_repeal at hf
  refine lv_aload_n C.1 C.2.1 zd_O_repeal_0 rfl (lv_at hl 0 rfl) ?_
  refine zg_O_now (r := 0) C hK hW (zvd_3 (by decide) (by decide)) zk_492 zd_O_repeal_1 ?_
  refine zg_I_laws (r := 0) C hK hW (zvd_0 (by decide) (by decide)) zk_285 zd_O_repeal_4 ?_
  refine lv_iload_n C.1 C.2.1 zd_O_repeal_7 rfl (lv_at hl 1 rfl) ?_
  obtain ⟨a1, S2, ea1, hf⟩ := zbd_some hf
  refine zcVi (As := [.int (zI (x1))]) (rest := []) C hK hSt hW hS (zc_L_has hap (0) (by decide) x1 S nx1 ea1) zq_L_has zk_740 (zrecv hK hW (zvd_0 (by decide) (by decide)) (ze_0_16 B _ (0)) rfl) ⟨rfl, rfl, by decide, by decide⟩ ⟨Nat.zero_le _, Nat.zero_le _⟩ rfl hl.1 rfl (lv_room (Nat.le_of_ble_eq_true rfl)) zd_O_repeal_8 (fun na1 H locs hW hS => ?_)
  refine zr_if_ne (tgt := 16) C na1 zd_O_repeal_11 (by decide) (fun c3 => ?_) (fun c3 => ?_)
  · rw [if_neg c3] at hf
    refine lv_aload_n C.1 C.2.1 zd_O_repeal_16 rfl (lv_at hl 0 rfl) ?_
    refine zg_O_now (r := 0) C hK hW (zvd_3 (by decide) (by decide)) zk_492 zd_O_repeal_17 ?_
    refine zg_I_laws (r := 0) C hK hW (zvd_0 (by decide) (by decide)) zk_285 zd_O_repeal_20 ?_
    refine zg_L_isVoid (r := 0) C hK hW (zvd_0 (by decide) (by decide)) zk_128 zd_O_repeal_23 ?_
    refine lv_iload_n C.1 C.2.1 zd_O_repeal_26 rfl (lv_at hl 1 rfl) ?_
    obtain ⟨h4, hf⟩ := zck_some hf
    refine ziald C hK hW (zvd_0 (by decide) (by decide)) (fun f => ze_0_21 B f (0)) (by decide) h4 zd_O_repeal_27 ?_
    refine zr_iconst C zd_O_repeal_28 ?_
    refine zr_icmp_eq (tgt := 47) C (zWn hW _ _ _ _ rfl) (znb rfl) zd_O_repeal_29 (by decide) (fun c5 => ?_) (fun c5 => ?_)
    · rw [if_pos c5] at hf
      refine zr_bipush C zd_O_repeal_47 (by decide) ?_
      cases hf
      exact zre_i C hr hlk hK hW hS (znb rfl) zd_O_repeal_49
    · rw [if_neg c5] at hf
      refine lv_aload_n C.1 C.2.1 zd_O_repeal_32 rfl (lv_at hl 0 rfl) ?_
      refine zg_O_now (r := 0) C hK hW (zvd_3 (by decide) (by decide)) zk_492 zd_O_repeal_33 ?_
      refine zg_I_laws (r := 0) C hK hW (zvd_0 (by decide) (by decide)) zk_285 zd_O_repeal_36 ?_
      refine zg_L_repealed (r := 0) C hK hW (zvd_0 (by decide) (by decide)) zk_130 zd_O_repeal_39 ?_
      refine lv_iload_n C.1 C.2.1 zd_O_repeal_42 rfl (lv_at hl 1 rfl) ?_
      refine ziald C hK hW (zvd_0 (by decide) (by decide)) (fun f => ze_0_22 B f (0)) (by decide) h4 zd_O_repeal_43 ?_
      refine zr_if_lt (tgt := 50) C (zWn hW _ _ _ _ rfl) zd_O_repeal_44 (by decide) (fun c6 => ?_) (fun c6 => ?_)
      · rw [if_pos c6] at hf
        refine lv_aload_n C.1 C.2.1 zd_O_repeal_50 rfl (lv_at hl 0 rfl) ?_
        refine zg_O_now (r := 0) C hK hW (zvd_3 (by decide) (by decide)) zk_492 zd_O_repeal_51 ?_
        refine zg_I_laws (r := 0) C hK hW (zvd_0 (by decide) (by decide)) zk_285 zd_O_repeal_54 ?_
        refine zg_L_repealed (r := 0) C hK hW (zvd_0 (by decide) (by decide)) zk_130 zd_O_repeal_57 ?_
        refine lv_iload_n C.1 C.2.1 zd_O_repeal_60 rfl (lv_at hl 1 rfl) ?_
        refine lv_aload_n C.1 C.2.1 zd_O_repeal_61 rfl (lv_at hl 0 rfl) ?_
        refine zg_O_now (r := 0) C hK hW (zvd_3 (by decide) (by decide)) zk_492 zd_O_repeal_62 ?_
        refine zg_I_week (r := 0) C hK hW (zvd_0 (by decide) (by decide)) zk_242 zd_O_repeal_65 ?_
        refine zr_iconst C zd_O_repeal_68 ?_
        refine zr_iadd C zd_O_repeal_69 ?_
        obtain ⟨S7, eS7, hf⟩ := zlt_some hf
        refine ziast C hK hap hW hS (zvd_0 (by decide) (by decide)) (fun f => ze_0_22 B f (0)) (by decide) rfl (zn_w _) h4 zd_O_repeal_70 (fun H locs hW hS => ?_)
        rw [eS7] at hW
        refine zr_iconst C zd_O_repeal_71 ?_
        cases hf
        exact zre_i C hr hlk hK hW hS (znb rfl) zd_O_repeal_72
      · rw [if_neg c6] at hf
        refine zr_bipush C zd_O_repeal_47 (by decide) ?_
        cases hf
        exact zre_i C hr hlk hK hW hS (znb rfl) zd_O_repeal_49
  · rw [if_pos c3] at hf
    refine zr_iconst C zd_O_repeal_14 ?_
    cases hf
    exact zre_i C hr hlk hK hW hS (znb rfl) zd_O_repeal_15

theorem zc_O_repeal {l : Launch} {B : zB} (hap : zAp B) (x1 : Int) (S : Sg) (nx1 : zn x1) {res : Int} {S9 : Sg} (hf : zf_O_repeal x1 S = some (res, S9)) : Met l zy_O_repeal (Cond.code zy_O_repeal zb_O_repeal 2 (some .int) :: zT) zm_O_repeal (zP B S [.ref (B.2.1 3 (0) (0)), .int (zI (x1))]) (zQi B res S9) 0 0 B.2.2.2 :=
  zmet (by decide) (Nat.le_of_ble_eq_true rfl) (fun p e s m args below meth c C hr hlk hK hSt hW ls hl => zw_O_repeal C hr hlk hK hSt hap   x1 S nx1 hf _ _ _ hW va_S.rf hl)
/-! IslandOffice$Laws.takeBack(I)I -/
abbrev zy_L_takeBack : MethodName := ⟨"IslandOffice$Laws", "takeBack", "(I)I"⟩
abbrev zb_L_takeBack : ByteArray := prog_6_method_6_code
abbrev zm_L_takeBack : Room := { frames := 0, cells := 0, slots := 0, locals := 0 }
theorem zq_L_takeBack : zMy zy_L_takeBack zb_L_takeBack 5 (some .int) 1 := ⟨zk_751, zk_749, zk_750, zk_5, by decide, by decide, by decide +kernel⟩
theorem zd_L_takeBack_0 : decode zb_L_takeBack 0 = .ok (.aload_n 0, 1) := by decide +kernel
theorem zd_L_takeBack_1 : decode zb_L_takeBack 1 = .ok (.getfield 28, 3) := by decide +kernel
theorem zd_L_takeBack_4 : decode zb_L_takeBack 4 = .ok (.iload_n 1, 1) := by decide +kernel
theorem zd_L_takeBack_5 : decode zb_L_takeBack 5 = .ok (.iconst 1, 1) := by decide +kernel
theorem zd_L_takeBack_6 : decode zb_L_takeBack 6 = .ok (.iastore, 1) := by decide +kernel
theorem zd_L_takeBack_7 : decode zb_L_takeBack 7 = .ok (.iconst 1, 1) := by decide +kernel
theorem zd_L_takeBack_8 : decode zb_L_takeBack 8 = .ok (.istore_n 2, 1) := by decide +kernel
theorem zd_L_takeBack_9 : decode zb_L_takeBack 9 = .ok (.iload_n 1, 1) := by decide +kernel
theorem zd_L_takeBack_10 : decode zb_L_takeBack 10 = .ok (.iconst 1, 1) := by decide +kernel
theorem zd_L_takeBack_11 : decode zb_L_takeBack 11 = .ok (.iadd, 1) := by decide +kernel
theorem zd_L_takeBack_12 : decode zb_L_takeBack 12 = .ok (.istore_n 3, 1) := by decide +kernel
theorem zd_L_takeBack_13 : decode zb_L_takeBack 13 = .ok (.iload_n 3, 1) := by decide +kernel
theorem zd_L_takeBack_14 : decode zb_L_takeBack 14 = .ok (.aload_n 0, 1) := by decide +kernel
theorem zd_L_takeBack_15 : decode zb_L_takeBack 15 = .ok (.getfield 9, 3) := by decide +kernel
theorem zd_L_takeBack_18 : decode zb_L_takeBack 18 = .ok (.if_icmp .ge 61, 3) := by decide +kernel
theorem zd_L_takeBack_21 : decode zb_L_takeBack 21 = .ok (.aload_n 0, 1) := by decide +kernel
theorem zd_L_takeBack_22 : decode zb_L_takeBack 22 = .ok (.getfield 34, 3) := by decide +kernel
theorem zd_L_takeBack_25 : decode zb_L_takeBack 25 = .ok (.iload_n 3, 1) := by decide +kernel
theorem zd_L_takeBack_26 : decode zb_L_takeBack 26 = .ok (.iaload, 1) := by decide +kernel
theorem zd_L_takeBack_27 : decode zb_L_takeBack 27 = .ok (.istore 4, 2) := by decide +kernel
theorem zd_L_takeBack_29 : decode zb_L_takeBack 29 = .ok (.aload_n 0, 1) := by decide +kernel
theorem zd_L_takeBack_30 : decode zb_L_takeBack 30 = .ok (.getfield 28, 3) := by decide +kernel
theorem zd_L_takeBack_33 : decode zb_L_takeBack 33 = .ok (.iload_n 3, 1) := by decide +kernel
theorem zd_L_takeBack_34 : decode zb_L_takeBack 34 = .ok (.iaload, 1) := by decide +kernel
theorem zd_L_takeBack_35 : decode zb_L_takeBack 35 = .ok (.ifCond .ne 38, 3) := by decide +kernel
theorem zd_L_takeBack_38 : decode zb_L_takeBack 38 = .ok (.iload 4, 2) := by decide +kernel
theorem zd_L_takeBack_40 : decode zb_L_takeBack 40 = .ok (.ifCond .lt 33, 3) := by decide +kernel
theorem zd_L_takeBack_43 : decode zb_L_takeBack 43 = .ok (.iload 4, 2) := by decide +kernel
theorem zd_L_takeBack_45 : decode zb_L_takeBack 45 = .ok (.aload_n 0, 1) := by decide +kernel
theorem zd_L_takeBack_46 : decode zb_L_takeBack 46 = .ok (.getfield 9, 3) := by decide +kernel
theorem zd_L_takeBack_49 : decode zb_L_takeBack 49 = .ok (.if_icmp .ge 24, 3) := by decide +kernel
theorem zd_L_takeBack_52 : decode zb_L_takeBack 52 = .ok (.aload_n 0, 1) := by decide +kernel
theorem zd_L_takeBack_53 : decode zb_L_takeBack 53 = .ok (.getfield 28, 3) := by decide +kernel
theorem zd_L_takeBack_56 : decode zb_L_takeBack 56 = .ok (.iload 4, 2) := by decide +kernel
theorem zd_L_takeBack_58 : decode zb_L_takeBack 58 = .ok (.iaload, 1) := by decide +kernel
theorem zd_L_takeBack_59 : decode zb_L_takeBack 59 = .ok (.iconst 1, 1) := by decide +kernel
theorem zd_L_takeBack_60 : decode zb_L_takeBack 60 = .ok (.if_icmp .ne 13, 3) := by decide +kernel
theorem zd_L_takeBack_63 : decode zb_L_takeBack 63 = .ok (.aload_n 0, 1) := by decide +kernel
theorem zd_L_takeBack_64 : decode zb_L_takeBack 64 = .ok (.getfield 28, 3) := by decide +kernel
theorem zd_L_takeBack_67 : decode zb_L_takeBack 67 = .ok (.iload_n 3, 1) := by decide +kernel
theorem zd_L_takeBack_68 : decode zb_L_takeBack 68 = .ok (.iconst 1, 1) := by decide +kernel
theorem zd_L_takeBack_69 : decode zb_L_takeBack 69 = .ok (.iastore, 1) := by decide +kernel
theorem zd_L_takeBack_70 : decode zb_L_takeBack 70 = .ok (.iinc 2 1, 3) := by decide +kernel
theorem zd_L_takeBack_73 : decode zb_L_takeBack 73 = .ok (.iinc 3 1, 3) := by decide +kernel
theorem zd_L_takeBack_76 : decode zb_L_takeBack 76 = .ok (.goto (-63), 3) := by decide +kernel
theorem zd_L_takeBack_79 : decode zb_L_takeBack 79 = .ok (.iload_n 2, 1) := by decide +kernel
theorem zd_L_takeBack_80 : decode zb_L_takeBack 80 = .ok (.ireturn, 1) := by decide +kernel

def zf_L_takeBack_73 (r0 : Int) (q13 : Int → Int → Sg → Option (Int × Sg)) (x2 : Int) (x3 : Int) (S : Sg) : Option (Int × Sg) :=
    zlt (zw (x3 + 1)) fun v1 => q13 (x2) (v1) S
set_option maxHeartbeats 4000000 in
set_option maxRecDepth 100000 in
theorem zw_L_takeBack_73 {p : Program} {l : Launch} {e : Env} {s : State} {m : MethodId} {args : Array Value} {below : List Frame} {meth : Method} {c : Code} {B : zB} (C : CallFix p m c zb_L_takeBack 5 s args zT "IslandOffice$Laws") (hr : meth.sig.returnType = some .int) (hlk : meth.locks = false) (hK : zK B s) (hSt : zSt B s) (hap : zAp B) (r0 : Int) (hr0 : 0 ≤ r0 ∧ r0 < 3) {res : Int} {S9 : Sg} (q13 : Int → Int → Sg → Option (Int × Sg)) (hq13 : ∀ (x2 : Int) (x3 : Int) (S : Sg) (nx2 : zn x2) (nx3 : zn x3), q13 x2 x3 S = some (res, S9) → ∀ (H : Heap) (locs : List Loc) (ls : Array Slot), zW B S H → va_S B.2.2.2 s.heap H locs → lv_has ls 5 [(0, .ref (B.2.1 0 (r0) (16))), (2, .int (zI (x2))), (3, .int (zI (x3)))] → W p l e zm_L_takeBack s m args below meth c H locs 0 0 (MQ below (zQi B res S9) args s 0 0 B.2.2.2) (F0 m 13 ls [])) : ∀ (x2 : Int) (x3 : Int) (S : Sg) (nx2 : zn x2) (nx3 : zn x3), zf_L_takeBack_73 r0 q13 x2 x3 S = some (res, S9) → ∀ (H : Heap) (locs : List Loc) (ls : Array Slot), zW B S H → va_S B.2.2.2 s.heap H locs → lv_has ls 5 [(0, .ref (B.2.1 0 (r0) (16))), (2, .int (zI (x2))), (3, .int (zI (x3)))] → W p l e zm_L_takeBack s m args below meth c H locs 0 0 (MQ below (zQi B res S9) args s 0 0 B.2.2.2) (F0 m 73 ls []) := by
  intro x2 x3 S nx2 nx3 hf H locs ls hW hS hl
  unfold zf_L_takeBack_73 at hf
  obtain ⟨v1, ev1, hf⟩ := zlt_some hf
  have nv1 : zn v1 := by rw [← ev1]; exact zn_w _
  refine lv_iinc (v := zI v1) (lv' := [(3, .int (zI (v1))), (0, .ref (B.2.1 0 (r0) (16))), (2, .int (zI (x2)))]) C.1 C.2.1 zd_L_takeBack_73 hl (k := 2) rfl (by rw [← ev1, ← zI_add]; rfl) (by decide) rfl (fun ls hl => ?_)
  refine lv_goto (tgt := 13) C.1 C.2.1 zd_L_takeBack_76 (by decide) ?_
  exact hq13 (x2) (v1) S nx2 nv1 hf _ _ _ hW hS (lv_sub hl [1, 2, 0] rfl)

def zf_L_takeBack_13 (r0 : Int) : Nat → Int → Int → Sg → Option (Int × Sg)
  | 0, _, _, _ => none
  | n + 1, x2, x3, S =>
    if (S 0 r0 16 0) ≤ x3 then (some (x2, S)) else (zck (0 ≤ x3 ∧ x3 < 12) <| zlt (S 0 r0 23 x3) fun v3 => if (S 0 r0 21 x3) = 0 then (if v3 < 0 then (zf_L_takeBack_73 r0 (zf_L_takeBack_13 r0 n) (x2) (x3) S) else (if (S 0 r0 16 0) ≤ v3 then (zf_L_takeBack_73 r0 (zf_L_takeBack_13 r0 n) (x2) (x3) S) else (zck (0 ≤ v3 ∧ v3 < 12) <| if (S 0 r0 21 v3) = 1 then (zlt (zu S 0 r0 21 x3 1) fun S9 => zlt (zw (x2 + 1)) fun v10 => zf_L_takeBack_73 r0 (zf_L_takeBack_13 r0 n) (v10) (x3) S9) else (zf_L_takeBack_73 r0 (zf_L_takeBack_13 r0 n) (x2) (x3) S)))) else (zf_L_takeBack_73 r0 (zf_L_takeBack_13 r0 n) (x2) (x3) S))
set_option maxHeartbeats 4000000 in
set_option maxRecDepth 100000 in
theorem zw_L_takeBack_13 {p : Program} {l : Launch} {e : Env} {s : State} {m : MethodId} {args : Array Value} {below : List Frame} {meth : Method} {c : Code} {B : zB} (C : CallFix p m c zb_L_takeBack 5 s args zT "IslandOffice$Laws") (hr : meth.sig.returnType = some .int) (hlk : meth.locks = false) (hK : zK B s) (hSt : zSt B s) (hap : zAp B) (r0 : Int) (hr0 : 0 ≤ r0 ∧ r0 < 3) {res : Int} {S9 : Sg} : ∀ n : Nat, ∀ (x2 : Int) (x3 : Int) (S : Sg) (nx2 : zn x2) (nx3 : zn x3), zf_L_takeBack_13 r0 n x2 x3 S = some (res, S9) → ∀ (H : Heap) (locs : List Loc) (ls : Array Slot), zW B S H → va_S B.2.2.2 s.heap H locs → lv_has ls 5 [(0, .ref (B.2.1 0 (r0) (16))), (2, .int (zI (x2))), (3, .int (zI (x3)))] → W p l e zm_L_takeBack s m args below meth c H locs 0 0 (MQ below (zQi B res S9) args s 0 0 B.2.2.2) (F0 m 13 ls []) := by
  intro n
  induction n with
  | zero =>
    intro x2 x3 S nx2 nx3 hf H locs ls hW hS hl
    cases hf
  | succ n ih =>
    intro x2 x3 S nx2 nx3 hf H locs ls hW hS hl
    rw [zf_L_takeBack_13] at hf
    refine lv_iload_n C.1 C.2.1 zd_L_takeBack_13 rfl (lv_at hl 2 rfl) ?_
    refine lv_aload_n C.1 C.2.1 zd_L_takeBack_14 rfl (lv_at hl 0 rfl) ?_
    refine zg_L_n (r := r0) C hK hW (zvd_0 hr0 (by decide)) zk_115 zd_L_takeBack_15 ?_
    refine zr_icmp_ge (tgt := 79) C nx3 (zWn hW _ _ _ _ rfl) zd_L_takeBack_18 (by decide) (fun c1 => ?_) (fun c1 => ?_)
    · rw [if_pos c1] at hf
      refine lv_iload_n C.1 C.2.1 zd_L_takeBack_79 rfl (lv_at hl 1 rfl) ?_
      cases hf
      exact zre_i C hr hlk hK hW hS nx2 zd_L_takeBack_80
    · rw [if_neg c1] at hf
      refine lv_aload_n C.1 C.2.1 zd_L_takeBack_21 rfl (lv_at hl 0 rfl) ?_
      refine zg_L_under (r := r0) C hK hW (zvd_0 hr0 (by decide)) zk_131 zd_L_takeBack_22 ?_
      refine lv_iload_n C.1 C.2.1 zd_L_takeBack_25 rfl (lv_at hl 2 rfl) ?_
      obtain ⟨h2, hf⟩ := zck_some hf
      refine ziald C hK hW (zvd_0 hr0 (by decide)) (fun f => ze_0_23 B f (r0)) (by decide) h2 zd_L_takeBack_26 ?_
      obtain ⟨v3, ev3, hf⟩ := zlt_some hf
      have nv3 : zn v3 := by rw [← ev3]; exact (zWn hW _ _ _ _ rfl)
      rw [ev3]
      refine lv_istore (lv' := [(4, .int (zI (v3))), (0, .ref (B.2.1 0 (r0) (16))), (2, .int (zI (x2))), (3, .int (zI (x3)))]) C.1 C.2.1 zd_L_takeBack_27 hl (by decide) rfl (fun ls hl => ?_)
      refine lv_aload_n C.1 C.2.1 zd_L_takeBack_29 rfl (lv_at hl 1 rfl) ?_
      refine zg_L_isVoid (r := r0) C hK hW (zvd_0 hr0 (by decide)) zk_127 zd_L_takeBack_30 ?_
      refine lv_iload_n C.1 C.2.1 zd_L_takeBack_33 rfl (lv_at hl 3 rfl) ?_
      refine ziald C hK hW (zvd_0 hr0 (by decide)) (fun f => ze_0_21 B f (r0)) (by decide) h2 zd_L_takeBack_34 ?_
      refine zr_if_ne (tgt := 73) C (zWn hW _ _ _ _ rfl) zd_L_takeBack_35 (by decide) (fun c4 => ?_) (fun c4 => ?_)
      · rw [if_neg c4] at hf
        exact zw_L_takeBack_73 C hr hlk hK hSt hap r0 hr0 (zf_L_takeBack_13 r0 n) (ih) (x2) (x3) S nx2 nx3 hf _ _ _ hW hS (lv_sub hl [1, 2, 3] rfl)
      · rw [if_pos c4] at hf
        refine lv_iload C.1 C.2.1 zd_L_takeBack_38 (lv_at hl 0 rfl) ?_
        refine zr_if_lt (tgt := 73) C nv3 zd_L_takeBack_40 (by decide) (fun c5 => ?_) (fun c5 => ?_)
        · rw [if_pos c5] at hf
          exact zw_L_takeBack_73 C hr hlk hK hSt hap r0 hr0 (zf_L_takeBack_13 r0 n) (ih) (x2) (x3) S nx2 nx3 hf _ _ _ hW hS (lv_sub hl [1, 2, 3] rfl)
        · rw [if_neg c5] at hf
          refine lv_iload C.1 C.2.1 zd_L_takeBack_43 (lv_at hl 0 rfl) ?_
          refine lv_aload_n C.1 C.2.1 zd_L_takeBack_45 rfl (lv_at hl 1 rfl) ?_
          refine zg_L_n (r := r0) C hK hW (zvd_0 hr0 (by decide)) zk_115 zd_L_takeBack_46 ?_
          refine zr_icmp_ge (tgt := 73) C nv3 (zWn hW _ _ _ _ rfl) zd_L_takeBack_49 (by decide) (fun c6 => ?_) (fun c6 => ?_)
          · rw [if_pos c6] at hf
            exact zw_L_takeBack_73 C hr hlk hK hSt hap r0 hr0 (zf_L_takeBack_13 r0 n) (ih) (x2) (x3) S nx2 nx3 hf _ _ _ hW hS (lv_sub hl [1, 2, 3] rfl)
          · rw [if_neg c6] at hf
            refine lv_aload_n C.1 C.2.1 zd_L_takeBack_52 rfl (lv_at hl 1 rfl) ?_
            refine zg_L_isVoid (r := r0) C hK hW (zvd_0 hr0 (by decide)) zk_127 zd_L_takeBack_53 ?_
            refine lv_iload C.1 C.2.1 zd_L_takeBack_56 (lv_at hl 0 rfl) ?_
            obtain ⟨h7, hf⟩ := zck_some hf
            refine ziald C hK hW (zvd_0 hr0 (by decide)) (fun f => ze_0_21 B f (r0)) (by decide) h7 zd_L_takeBack_58 ?_
            refine zr_iconst C zd_L_takeBack_59 ?_
            refine zr_icmp_ne (tgt := 73) C (zWn hW _ _ _ _ rfl) (znb rfl) zd_L_takeBack_60 (by decide) (fun c8 => ?_) (fun c8 => ?_)
            · rw [if_neg c8] at hf
              exact zw_L_takeBack_73 C hr hlk hK hSt hap r0 hr0 (zf_L_takeBack_13 r0 n) (ih) (x2) (x3) S nx2 nx3 hf _ _ _ hW hS (lv_sub hl [1, 2, 3] rfl)
            · rw [if_pos c8] at hf
              refine lv_aload_n C.1 C.2.1 zd_L_takeBack_63 rfl (lv_at hl 1 rfl) ?_
              refine zg_L_isVoid (r := r0) C hK hW (zvd_0 hr0 (by decide)) zk_127 zd_L_takeBack_64 ?_
              refine lv_iload_n C.1 C.2.1 zd_L_takeBack_67 rfl (lv_at hl 3 rfl) ?_
              refine zr_iconst C zd_L_takeBack_68 ?_
              obtain ⟨S9, eS9, hf⟩ := zlt_some hf
              refine ziast C hK hap hW hS (zvd_0 hr0 (by decide)) (fun f => ze_0_21 B f (r0)) (by decide) rfl (znb rfl) h2 zd_L_takeBack_69 (fun H locs hW hS => ?_)
              rw [eS9] at hW
              obtain ⟨v10, ev10, hf⟩ := zlt_some hf
              have nv10 : zn v10 := by rw [← ev10]; exact zn_w _
              refine lv_iinc (v := zI v10) (lv' := [(2, .int (zI (v10))), (4, .int (zI (v3))), (0, .ref (B.2.1 0 (r0) (16))), (3, .int (zI (x3)))]) C.1 C.2.1 zd_L_takeBack_70 hl (k := 2) rfl (by rw [← ev10, ← zI_add]; rfl) (by decide) rfl (fun ls hl => ?_)
              exact zw_L_takeBack_73 C hr hlk hK hSt hap r0 hr0 (zf_L_takeBack_13 r0 n) (ih) (v10) (x3) S9 nv10 nx3 hf _ _ _ hW hS (lv_sub hl [2, 0, 3] rfl)

def zf_L_takeBack (r0 : Int) (x1 : Int) (S : Sg) : Option (Int × Sg) :=
    zck (0 ≤ x1 ∧ x1 < 12) <| zlt (zu S 0 r0 21 x1 1) fun S2 => zlt (zw (x1 + 1)) fun v3 => zf_L_takeBack_13 r0 4096 (1) (v3) S2
set_option maxHeartbeats 4000000 in
set_option maxRecDepth 100000 in
theorem zw_L_takeBack {p : Program} {l : Launch} {e : Env} {s : State} {m : MethodId} {args : Array Value} {below : List Frame} {meth : Method} {c : Code} {B : zB} (C : CallFix p m c zb_L_takeBack 5 s args zT "IslandOffice$Laws") (hr : meth.sig.returnType = some .int) (hlk : meth.locks = false) (hK : zK B s) (hSt : zSt B s) (hap : zAp B) (r0 : Int) (hr0 : 0 ≤ r0 ∧ r0 < 3) {res : Int} {S9 : Sg} : ∀ (x1 : Int) (S : Sg) (nx1 : zn x1), zf_L_takeBack r0 x1 S = some (res, S9) → ∀ (H : Heap) (locs : List Loc) (ls : Array Slot), zW B S H → va_S B.2.2.2 s.heap H locs → lv_has ls 5 [(0, .ref (B.2.1 0 (r0) (16))), (1, .int (zI (x1)))] → W p l e zm_L_takeBack s m args below meth c H locs 0 0 (MQ below (zQi B res S9) args s 0 0 B.2.2.2) (F0 m 0 ls []) := by
  intro x1 S nx1 hf H locs ls hW hS hl
  unfold zf_L_takeBack at hf
  refine lv_aload_n C.1 C.2.1 zd_L_takeBack_0 rfl (lv_at hl 0 rfl) ?_
  refine zg_L_isVoid (r := r0) C hK hW (zvd_0 hr0 (by decide)) zk_127 zd_L_takeBack_1 ?_
  refine lv_iload_n C.1 C.2.1 zd_L_takeBack_4 rfl (lv_at hl 1 rfl) ?_
  refine zr_iconst C zd_L_takeBack_5 ?_
  obtain ⟨h1, hf⟩ := zck_some hf
  obtain ⟨S2, eS2, hf⟩ := zlt_some hf
  refine ziast C hK hap hW hS (zvd_0 hr0 (by decide)) (fun f => ze_0_21 B f (r0)) (by decide) rfl (znb rfl) h1 zd_L_takeBack_6 (fun H locs hW hS => ?_)
  rw [eS2] at hW
  refine zr_iconst C zd_L_takeBack_7 ?_
  refine lv_istore_n (lv' := [(2, .int (zI (1))), (0, .ref (B.2.1 0 (r0) (16))), (1, .int (zI (x1)))]) C.1 C.2.1 zd_L_takeBack_8 rfl hl (by decide) rfl (fun ls hl => ?_)
  refine lv_iload_n C.1 C.2.1 zd_L_takeBack_9 rfl (lv_at hl 2 rfl) ?_
  refine zr_iconst C zd_L_takeBack_10 ?_
  refine zr_iadd C zd_L_takeBack_11 ?_
  obtain ⟨v3, ev3, hf⟩ := zlt_some hf
  have nv3 : zn v3 := by rw [← ev3]; exact (zn_w _)
  rw [ev3]
  refine lv_istore_n (lv' := [(3, .int (zI (v3))), (2, .int (zI (1))), (0, .ref (B.2.1 0 (r0) (16))), (1, .int (zI (x1)))]) C.1 C.2.1 zd_L_takeBack_12 rfl hl (by decide) rfl (fun ls hl => ?_)
  exact zw_L_takeBack_13 C hr hlk hK hSt hap r0 hr0 4096 (1) (v3) S2 (znb rfl) nv3 hf _ _ _ hW hS (lv_sub hl [2, 1, 0] rfl)

theorem zc_L_takeBack {l : Launch} {B : zB} (hap : zAp B) (r0 : Int) (hr0 : 0 ≤ r0 ∧ r0 < 3) (x1 : Int) (S : Sg) (nx1 : zn x1) {res : Int} {S9 : Sg} (hf : zf_L_takeBack r0 x1 S = some (res, S9)) : Met l zy_L_takeBack (Cond.code zy_L_takeBack zb_L_takeBack 5 (some .int) :: zT) zm_L_takeBack (zP B S [.ref (B.2.1 0 (r0) (16)), .int (zI (x1))]) (zQi B res S9) 0 0 B.2.2.2 :=
  zmet (by decide) (Nat.le_of_ble_eq_true rfl) (fun p e s m args below meth c C hr hlk hK hSt hW ls hl => zw_L_takeBack C hr hlk hK hSt hap r0 hr0 x1 S nx1 hf _ _ _ hW va_S.rf hl)
/-! IslandOffice.found(II)I -/
abbrev zy_O_found : MethodName := ⟨"IslandOffice", "found", "(II)I"⟩
abbrev zb_O_found : ByteArray := prog_1_method_15_code
abbrev zm_O_found : Room := { frames := 1, cells := 0, slots := 0, locals := 24 }
theorem zq_O_found : zMy zy_O_found zb_O_found 3 (some .int) 2 := ⟨zk_747, zk_745, zk_746, zk_1, by decide, by decide, by decide +kernel⟩
theorem zd_O_found_0 : decode zb_O_found 0 = .ok (.aload_n 0, 1) := by decide +kernel
theorem zd_O_found_1 : decode zb_O_found 1 = .ok (.getfield 16, 3) := by decide +kernel
theorem zd_O_found_4 : decode zb_O_found 4 = .ok (.getfield 178, 3) := by decide +kernel
theorem zd_O_found_7 : decode zb_O_found 7 = .ok (.iload_n 1, 1) := by decide +kernel
theorem zd_O_found_8 : decode zb_O_found 8 = .ok (.invokevirtual 188, 3) := by decide +kernel
theorem zd_O_found_11 : decode zb_O_found 11 = .ok (.ifCond .eq 23, 3) := by decide +kernel
theorem zd_O_found_14 : decode zb_O_found 14 = .ok (.iload_n 2, 1) := by decide +kernel
theorem zd_O_found_15 : decode zb_O_found 15 = .ok (.ifCond .lt 19, 3) := by decide +kernel
theorem zd_O_found_18 : decode zb_O_found 18 = .ok (.iload_n 2, 1) := by decide +kernel
theorem zd_O_found_19 : decode zb_O_found 19 = .ok (.aload_n 0, 1) := by decide +kernel
theorem zd_O_found_20 : decode zb_O_found 20 = .ok (.getfield 16, 3) := by decide +kernel
theorem zd_O_found_23 : decode zb_O_found 23 = .ok (.getfield 178, 3) := by decide +kernel
theorem zd_O_found_26 : decode zb_O_found 26 = .ok (.getfield 195, 3) := by decide +kernel
theorem zd_O_found_29 : decode zb_O_found 29 = .ok (.iload_n 1, 1) := by decide +kernel
theorem zd_O_found_30 : decode zb_O_found 30 = .ok (.iaload, 1) := by decide +kernel
theorem zd_O_found_31 : decode zb_O_found 31 = .ok (.if_icmp .le 5, 3) := by decide +kernel
theorem zd_O_found_34 : decode zb_O_found 34 = .ok (.iconst (-1), 1) := by decide +kernel
theorem zd_O_found_35 : decode zb_O_found 35 = .ok (.ireturn, 1) := by decide +kernel
theorem zd_O_found_36 : decode zb_O_found 36 = .ok (.aload_n 0, 1) := by decide +kernel
theorem zd_O_found_37 : decode zb_O_found 37 = .ok (.getfield 16, 3) := by decide +kernel
theorem zd_O_found_40 : decode zb_O_found 40 = .ok (.getfield 178, 3) := by decide +kernel
theorem zd_O_found_43 : decode zb_O_found 43 = .ok (.getfield 189, 3) := by decide +kernel
theorem zd_O_found_46 : decode zb_O_found 46 = .ok (.iload_n 1, 1) := by decide +kernel
theorem zd_O_found_47 : decode zb_O_found 47 = .ok (.iaload, 1) := by decide +kernel
theorem zd_O_found_48 : decode zb_O_found 48 = .ok (.iconst 1, 1) := by decide +kernel
theorem zd_O_found_49 : decode zb_O_found 49 = .ok (.if_icmp .ne 6, 3) := by decide +kernel
theorem zd_O_found_52 : decode zb_O_found 52 = .ok (.bipush (-3), 2) := by decide +kernel
theorem zd_O_found_54 : decode zb_O_found 54 = .ok (.ireturn, 1) := by decide +kernel
theorem zd_O_found_55 : decode zb_O_found 55 = .ok (.aload_n 0, 1) := by decide +kernel
theorem zd_O_found_56 : decode zb_O_found 56 = .ok (.getfield 16, 3) := by decide +kernel
theorem zd_O_found_59 : decode zb_O_found 59 = .ok (.getfield 178, 3) := by decide +kernel
theorem zd_O_found_62 : decode zb_O_found 62 = .ok (.getfield 198, 3) := by decide +kernel
theorem zd_O_found_65 : decode zb_O_found 65 = .ok (.iload_n 1, 1) := by decide +kernel
theorem zd_O_found_66 : decode zb_O_found 66 = .ok (.iload_n 2, 1) := by decide +kernel
theorem zd_O_found_67 : decode zb_O_found 67 = .ok (.iastore, 1) := by decide +kernel
theorem zd_O_found_68 : decode zb_O_found 68 = .ok (.iconst 2, 1) := by decide +kernel
theorem zd_O_found_69 : decode zb_O_found 69 = .ok (.iload_n 2, 1) := by decide +kernel
theorem zd_O_found_70 : decode zb_O_found 70 = .ok (.imul, 1) := by decide +kernel
theorem zd_O_found_71 : decode zb_O_found 71 = .ok (.aload_n 0, 1) := by decide +kernel
theorem zd_O_found_72 : decode zb_O_found 72 = .ok (.getfield 16, 3) := by decide +kernel
theorem zd_O_found_75 : decode zb_O_found 75 = .ok (.getfield 178, 3) := by decide +kernel
theorem zd_O_found_78 : decode zb_O_found 78 = .ok (.getfield 195, 3) := by decide +kernel
theorem zd_O_found_81 : decode zb_O_found 81 = .ok (.iload_n 1, 1) := by decide +kernel
theorem zd_O_found_82 : decode zb_O_found 82 = .ok (.iaload, 1) := by decide +kernel
theorem zd_O_found_83 : decode zb_O_found 83 = .ok (.if_icmp .le 7, 3) := by decide +kernel
theorem zd_O_found_86 : decode zb_O_found 86 = .ok (.iconst 0, 1) := by decide +kernel
theorem zd_O_found_87 : decode zb_O_found 87 = .ok (.goto 14, 3) := by decide +kernel
theorem zd_O_found_90 : decode zb_O_found 90 = .ok (.aload_n 0, 1) := by decide +kernel
theorem zd_O_found_91 : decode zb_O_found 91 = .ok (.getfield 16, 3) := by decide +kernel
theorem zd_O_found_94 : decode zb_O_found 94 = .ok (.getfield 178, 3) := by decide +kernel
theorem zd_O_found_97 : decode zb_O_found 97 = .ok (.iload_n 1, 1) := by decide +kernel
theorem zd_O_found_98 : decode zb_O_found 98 = .ok (.invokevirtual 201, 3) := by decide +kernel
theorem zd_O_found_101 : decode zb_O_found 101 = .ok (.ireturn, 1) := by decide +kernel

def zf_O_found (x1 : Int) (x2 : Int) (S : Sg) : Option (Int × Sg) :=
    zbd (zf_L_has (0) x1 S) fun a1 S2 => if a1 = 0 then (some (-1, S2)) else (if x2 < 0 then (some (-1, S2)) else (zck (0 ≤ x1 ∧ x1 < 12) <| if x2 ≤ (S2 0 0 20 x1) then (if (S2 0 0 21 x1) = 1 then (some (-3, S2)) else (zlt (zu S2 0 0 19 x1 x2) fun S8 => if (zw (2 * x2)) ≤ (S8 0 0 20 x1) then (zbd (zf_L_takeBack (0) x1 S8) fun a10 S11 => some (a10, S11)) else (some (0, S8)))) else (some (-1, S2))))
set_option maxHeartbeats 4000000 in
set_option maxRecDepth 100000 in
theorem zw_O_found {p : Program} {l : Launch} {e : Env} {s : State} {m : MethodId} {args : Array Value} {below : List Frame} {meth : Method} {c : Code} {B : zB} (C : CallFix p m c zb_O_found 3 s args zT "IslandOffice") (hr : meth.sig.returnType = some .int) (hlk : meth.locks = false) (hK : zK B s) (hSt : zSt B s) (hap : zAp B) {res : Int} {S9 : Sg} : ∀ (x1 : Int) (x2 : Int) (S : Sg) (nx1 : zn x1) (nx2 : zn x2), zf_O_found x1 x2 S = some (res, S9) → ∀ (H : Heap) (locs : List Loc) (ls : Array Slot), zW B S H → va_S B.2.2.2 s.heap H locs → lv_has ls 3 [(0, .ref (B.2.1 3 (0) (0))), (1, .int (zI (x1))), (2, .int (zI (x2)))] → W p l e zm_O_found s m args below meth c H locs 0 0 (MQ below (zQi B res S9) args s 0 0 B.2.2.2) (F0 m 0 ls []) := by
  intro x1 x2 S nx1 nx2 hf H locs ls hW hS hl
  unfold zf_O_found at hf
  refine lv_aload_n C.1 C.2.1 zd_O_found_0 rfl (lv_at hl 0 rfl) ?_
  refine zg_O_now (r := 0) C hK hW (zvd_3 (by decide) (by decide)) zk_492 zd_O_found_1 ?_
  refine zg_I_laws (r := 0) C hK hW (zvd_0 (by decide) (by decide)) zk_285 zd_O_found_4 ?_
  refine lv_iload_n C.1 C.2.1 zd_O_found_7 rfl (lv_at hl 1 rfl) ?_
  obtain ⟨a1, S2, ea1, hf⟩ := zbd_some hf
  refine zcVi (As := [.int (zI (x1))]) (rest := []) C hK hSt hW hS (zc_L_has hap (0) (by decide) x1 S nx1 ea1) zq_L_has zk_740 (zrecv hK hW (zvd_0 (by decide) (by decide)) (ze_0_16 B _ (0)) rfl) ⟨rfl, rfl, by decide, by decide⟩ ⟨Nat.zero_le _, Nat.zero_le _⟩ rfl hl.1 rfl (lv_room (Nat.le_of_ble_eq_true rfl)) zd_O_found_8 (fun na1 H locs hW hS => ?_)
  refine zr_if_eq (tgt := 34) C na1 zd_O_found_11 (by decide) (fun c3 => ?_) (fun c3 => ?_)
  · rw [if_pos c3] at hf
    refine zr_iconst C zd_O_found_34 ?_
    cases hf
    exact zre_i C hr hlk hK hW hS (znb rfl) zd_O_found_35
  · rw [if_neg c3] at hf
    refine lv_iload_n C.1 C.2.1 zd_O_found_14 rfl (lv_at hl 2 rfl) ?_
    refine zr_if_lt (tgt := 34) C nx2 zd_O_found_15 (by decide) (fun c4 => ?_) (fun c4 => ?_)
    · rw [if_pos c4] at hf
      refine zr_iconst C zd_O_found_34 ?_
      cases hf
      exact zre_i C hr hlk hK hW hS (znb rfl) zd_O_found_35
    · rw [if_neg c4] at hf
      refine lv_iload_n C.1 C.2.1 zd_O_found_18 rfl (lv_at hl 2 rfl) ?_
      refine lv_aload_n C.1 C.2.1 zd_O_found_19 rfl (lv_at hl 0 rfl) ?_
      refine zg_O_now (r := 0) C hK hW (zvd_3 (by decide) (by decide)) zk_492 zd_O_found_20 ?_
      refine zg_I_laws (r := 0) C hK hW (zvd_0 (by decide) (by decide)) zk_285 zd_O_found_23 ?_
      refine zg_L_voters (r := 0) C hK hW (zvd_0 (by decide) (by decide)) zk_126 zd_O_found_26 ?_
      refine lv_iload_n C.1 C.2.1 zd_O_found_29 rfl (lv_at hl 1 rfl) ?_
      obtain ⟨h5, hf⟩ := zck_some hf
      refine ziald C hK hW (zvd_0 (by decide) (by decide)) (fun f => ze_0_20 B f (0)) (by decide) h5 zd_O_found_30 ?_
      refine zr_icmp_le (tgt := 36) C nx2 (zWn hW _ _ _ _ rfl) zd_O_found_31 (by decide) (fun c6 => ?_) (fun c6 => ?_)
      · rw [if_pos c6] at hf
        refine lv_aload_n C.1 C.2.1 zd_O_found_36 rfl (lv_at hl 0 rfl) ?_
        refine zg_O_now (r := 0) C hK hW (zvd_3 (by decide) (by decide)) zk_492 zd_O_found_37 ?_
        refine zg_I_laws (r := 0) C hK hW (zvd_0 (by decide) (by decide)) zk_285 zd_O_found_40 ?_
        refine zg_L_isVoid (r := 0) C hK hW (zvd_0 (by decide) (by decide)) zk_128 zd_O_found_43 ?_
        refine lv_iload_n C.1 C.2.1 zd_O_found_46 rfl (lv_at hl 1 rfl) ?_
        refine ziald C hK hW (zvd_0 (by decide) (by decide)) (fun f => ze_0_21 B f (0)) (by decide) h5 zd_O_found_47 ?_
        refine zr_iconst C zd_O_found_48 ?_
        refine zr_icmp_ne (tgt := 55) C (zWn hW _ _ _ _ rfl) (znb rfl) zd_O_found_49 (by decide) (fun c7 => ?_) (fun c7 => ?_)
        · rw [if_neg c7] at hf
          refine lv_aload_n C.1 C.2.1 zd_O_found_55 rfl (lv_at hl 0 rfl) ?_
          refine zg_O_now (r := 0) C hK hW (zvd_3 (by decide) (by decide)) zk_492 zd_O_found_56 ?_
          refine zg_I_laws (r := 0) C hK hW (zvd_0 (by decide) (by decide)) zk_285 zd_O_found_59 ?_
          refine zg_L_votes (r := 0) C hK hW (zvd_0 (by decide) (by decide)) zk_123 zd_O_found_62 ?_
          refine lv_iload_n C.1 C.2.1 zd_O_found_65 rfl (lv_at hl 1 rfl) ?_
          refine lv_iload_n C.1 C.2.1 zd_O_found_66 rfl (lv_at hl 2 rfl) ?_
          obtain ⟨S8, eS8, hf⟩ := zlt_some hf
          refine ziast C hK hap hW hS (zvd_0 (by decide) (by decide)) (fun f => ze_0_19 B f (0)) (by decide) rfl nx2 h5 zd_O_found_67 (fun H locs hW hS => ?_)
          rw [eS8] at hW
          refine zr_iconst C zd_O_found_68 ?_
          refine lv_iload_n C.1 C.2.1 zd_O_found_69 rfl (lv_at hl 2 rfl) ?_
          refine zr_imul C zd_O_found_70 ?_
          refine lv_aload_n C.1 C.2.1 zd_O_found_71 rfl (lv_at hl 0 rfl) ?_
          refine zg_O_now (r := 0) C hK hW (zvd_3 (by decide) (by decide)) zk_492 zd_O_found_72 ?_
          refine zg_I_laws (r := 0) C hK hW (zvd_0 (by decide) (by decide)) zk_285 zd_O_found_75 ?_
          refine zg_L_voters (r := 0) C hK hW (zvd_0 (by decide) (by decide)) zk_126 zd_O_found_78 ?_
          refine lv_iload_n C.1 C.2.1 zd_O_found_81 rfl (lv_at hl 1 rfl) ?_
          refine ziald C hK hW (zvd_0 (by decide) (by decide)) (fun f => ze_0_20 B f (0)) (by decide) h5 zd_O_found_82 ?_
          refine zr_icmp_le (tgt := 90) C (zn_w _) (zWn hW _ _ _ _ rfl) zd_O_found_83 (by decide) (fun c9 => ?_) (fun c9 => ?_)
          · rw [if_pos c9] at hf
            refine lv_aload_n C.1 C.2.1 zd_O_found_90 rfl (lv_at hl 0 rfl) ?_
            refine zg_O_now (r := 0) C hK hW (zvd_3 (by decide) (by decide)) zk_492 zd_O_found_91 ?_
            refine zg_I_laws (r := 0) C hK hW (zvd_0 (by decide) (by decide)) zk_285 zd_O_found_94 ?_
            refine lv_iload_n C.1 C.2.1 zd_O_found_97 rfl (lv_at hl 1 rfl) ?_
            obtain ⟨a10, S11, ea10, hf⟩ := zbd_some hf
            refine zcVi (As := [.int (zI (x1))]) (rest := []) C hK hSt hW hS (zc_L_takeBack hap (0) (by decide) x1 S8 nx1 ea10) zq_L_takeBack zk_748 (zrecv hK hW (zvd_0 (by decide) (by decide)) (ze_0_16 B _ (0)) rfl) ⟨rfl, rfl, by decide, by decide⟩ ⟨Nat.zero_le _, Nat.zero_le _⟩ rfl hl.1 rfl (lv_room (Nat.le_of_ble_eq_true rfl)) zd_O_found_98 (fun na10 H locs hW hS => ?_)
            cases hf
            exact zre_i C hr hlk hK hW hS na10 zd_O_found_101
          · rw [if_neg c9] at hf
            refine zr_iconst C zd_O_found_86 ?_
            refine lv_goto (tgt := 101) C.1 C.2.1 zd_O_found_87 (by decide) ?_
            cases hf
            exact zre_i C hr hlk hK hW hS (znb rfl) zd_O_found_101
        · rw [if_pos c7] at hf
          refine zr_bipush C zd_O_found_52 (by decide) ?_
          cases hf
          exact zre_i C hr hlk hK hW hS (znb rfl) zd_O_found_54
      · rw [if_neg c6] at hf
        refine zr_iconst C zd_O_found_34 ?_
        cases hf
        exact zre_i C hr hlk hK hW hS (znb rfl) zd_O_found_35

theorem zc_O_found {l : Launch} {B : zB} (hap : zAp B) (x1 : Int) (x2 : Int) (S : Sg) (nx1 : zn x1) (nx2 : zn x2) {res : Int} {S9 : Sg} (hf : zf_O_found x1 x2 S = some (res, S9)) : Met l zy_O_found (Cond.code zy_O_found zb_O_found 3 (some .int) :: zT) zm_O_found (zP B S [.ref (B.2.1 3 (0) (0)), .int (zI (x1)), .int (zI (x2))]) (zQi B res S9) 0 0 B.2.2.2 :=
  zmet (by decide) (Nat.le_of_ble_eq_true rfl) (fun p e s m args below meth c C hr hlk hK hSt hW ls hl => zw_O_found C hr hlk hK hSt hap   x1 x2 S nx1 nx2 hf _ _ _ hW va_S.rf hl)
/-! IslandOffice.isSubject(I)Z -/
abbrev zy_O_isSubject : MethodName := ⟨"IslandOffice", "isSubject", "(I)Z"⟩
abbrev zb_O_isSubject : ByteArray := prog_1_method_51_code
abbrev zm_O_isSubject : Room := { frames := 0, cells := 0, slots := 0, locals := 0 }
theorem zq_O_isSubject : zMs zy_O_isSubject zb_O_isSubject 1 (some .boolean) 1 := ⟨zk_758, zk_757, zk_1, by decide, by decide, by decide +kernel⟩
theorem zd_O_isSubject_0 : decode zb_O_isSubject 0 = .ok (.iload_n 0, 1) := by decide +kernel
theorem zd_O_isSubject_1 : decode zb_O_isSubject 1 = .ok (.ifCond .lt 12, 3) := by decide +kernel
theorem zd_O_isSubject_4 : decode zb_O_isSubject 4 = .ok (.iload_n 0, 1) := by decide +kernel
theorem zd_O_isSubject_5 : decode zb_O_isSubject 5 = .ok (.iconst 4, 1) := by decide +kernel
theorem zd_O_isSubject_6 : decode zb_O_isSubject 6 = .ok (.if_icmp .ge 7, 3) := by decide +kernel
theorem zd_O_isSubject_9 : decode zb_O_isSubject 9 = .ok (.iconst 1, 1) := by decide +kernel
theorem zd_O_isSubject_10 : decode zb_O_isSubject 10 = .ok (.goto 4, 3) := by decide +kernel
theorem zd_O_isSubject_13 : decode zb_O_isSubject 13 = .ok (.iconst 0, 1) := by decide +kernel
theorem zd_O_isSubject_14 : decode zb_O_isSubject 14 = .ok (.ireturn, 1) := by decide +kernel

def zf_O_isSubject (x0 : Int) (S : Sg) : Option (Int × Sg) :=
    if x0 < 0 then (some (0, S)) else (if 4 ≤ x0 then (some (0, S)) else (some (1, S)))
set_option maxHeartbeats 4000000 in
set_option maxRecDepth 100000 in
theorem zw_O_isSubject {p : Program} {l : Launch} {e : Env} {s : State} {m : MethodId} {args : Array Value} {below : List Frame} {meth : Method} {c : Code} {B : zB} (C : CallFix p m c zb_O_isSubject 1 s args zT "IslandOffice") (hr : meth.sig.returnType = some .boolean) (hlk : meth.locks = false) (hK : zK B s) (hSt : zSt B s) (hap : zAp B) {res : Int} {S9 : Sg} : ∀ (x0 : Int) (S : Sg) (nx0 : zn x0), zf_O_isSubject x0 S = some (res, S9) → ∀ (H : Heap) (locs : List Loc) (ls : Array Slot), zW B S H → va_S B.2.2.2 s.heap H locs → lv_has ls 1 [(0, .int (zI (x0)))] → W p l e zm_O_isSubject s m args below meth c H locs 0 0 (MQ below (zQi B res S9) args s 0 0 B.2.2.2) (F0 m 0 ls []) := by
  intro x0 S nx0 hf H locs ls hW hS hl
  unfold zf_O_isSubject at hf
  refine lv_iload_n C.1 C.2.1 zd_O_isSubject_0 rfl (lv_at hl 0 rfl) ?_
  refine zr_if_lt (tgt := 13) C nx0 zd_O_isSubject_1 (by decide) (fun c1 => ?_) (fun c1 => ?_)
  · rw [if_pos c1] at hf
    refine zr_iconst C zd_O_isSubject_13 ?_
    cases hf
    exact zre_z C hr hlk hK hW hS (znb rfl) (zb01 (by decide)) zd_O_isSubject_14
  · rw [if_neg c1] at hf
    refine lv_iload_n C.1 C.2.1 zd_O_isSubject_4 rfl (lv_at hl 0 rfl) ?_
    refine zr_iconst C zd_O_isSubject_5 ?_
    refine zr_icmp_ge (tgt := 13) C nx0 (znb rfl) zd_O_isSubject_6 (by decide) (fun c2 => ?_) (fun c2 => ?_)
    · rw [if_pos c2] at hf
      refine zr_iconst C zd_O_isSubject_13 ?_
      cases hf
      exact zre_z C hr hlk hK hW hS (znb rfl) (zb01 (by decide)) zd_O_isSubject_14
    · rw [if_neg c2] at hf
      refine zr_iconst C zd_O_isSubject_9 ?_
      refine lv_goto (tgt := 14) C.1 C.2.1 zd_O_isSubject_10 (by decide) ?_
      cases hf
      exact zre_z C hr hlk hK hW hS (znb rfl) (zb01 (by decide)) zd_O_isSubject_14

theorem zc_O_isSubject {l : Launch} {B : zB} (hap : zAp B) (x0 : Int) (S : Sg) (nx0 : zn x0) {res : Int} {S9 : Sg} (hf : zf_O_isSubject x0 S = some (res, S9)) : Met l zy_O_isSubject (Cond.code zy_O_isSubject zb_O_isSubject 1 (some .boolean) :: zT) zm_O_isSubject (zP B S [.int (zI (x0))]) (zQi B res S9) 0 0 B.2.2.2 :=
  zmet (by decide) (Nat.le_of_ble_eq_true rfl) (fun p e s m args below meth c C hr hlk hK hSt hW ls hl => zw_O_isSubject C hr hlk hK hSt hap   x0 S nx0 hf _ _ _ hW va_S.rf hl)
/-! IslandOffice.isWeek(I)Z -/
abbrev zy_O_isWeek : MethodName := ⟨"IslandOffice", "isWeek", "(I)Z"⟩
abbrev zb_O_isWeek : ByteArray := prog_1_method_50_code
abbrev zm_O_isWeek : Room := { frames := 0, cells := 0, slots := 0, locals := 0 }
theorem zq_O_isWeek : zMs zy_O_isWeek zb_O_isWeek 1 (some .boolean) 1 := ⟨zk_761, zk_760, zk_1, by decide, by decide, by decide +kernel⟩
theorem zd_O_isWeek_0 : decode zb_O_isWeek 0 = .ok (.iload_n 0, 1) := by decide +kernel
theorem zd_O_isWeek_1 : decode zb_O_isWeek 1 = .ok (.ifCond .lt 14, 3) := by decide +kernel
theorem zd_O_isWeek_4 : decode zb_O_isWeek 4 = .ok (.iload_n 0, 1) := by decide +kernel
theorem zd_O_isWeek_5 : decode zb_O_isWeek 5 = .ok (.sipush 400, 3) := by decide +kernel
theorem zd_O_isWeek_8 : decode zb_O_isWeek 8 = .ok (.if_icmp .gt 7, 3) := by decide +kernel
theorem zd_O_isWeek_11 : decode zb_O_isWeek 11 = .ok (.iconst 1, 1) := by decide +kernel
theorem zd_O_isWeek_12 : decode zb_O_isWeek 12 = .ok (.goto 4, 3) := by decide +kernel
theorem zd_O_isWeek_15 : decode zb_O_isWeek 15 = .ok (.iconst 0, 1) := by decide +kernel
theorem zd_O_isWeek_16 : decode zb_O_isWeek 16 = .ok (.ireturn, 1) := by decide +kernel

def zf_O_isWeek (x0 : Int) (S : Sg) : Option (Int × Sg) :=
    if x0 < 0 then (some (0, S)) else (if 400 < x0 then (some (0, S)) else (some (1, S)))
set_option maxHeartbeats 4000000 in
set_option maxRecDepth 100000 in
theorem zw_O_isWeek {p : Program} {l : Launch} {e : Env} {s : State} {m : MethodId} {args : Array Value} {below : List Frame} {meth : Method} {c : Code} {B : zB} (C : CallFix p m c zb_O_isWeek 1 s args zT "IslandOffice") (hr : meth.sig.returnType = some .boolean) (hlk : meth.locks = false) (hK : zK B s) (hSt : zSt B s) (hap : zAp B) {res : Int} {S9 : Sg} : ∀ (x0 : Int) (S : Sg) (nx0 : zn x0), zf_O_isWeek x0 S = some (res, S9) → ∀ (H : Heap) (locs : List Loc) (ls : Array Slot), zW B S H → va_S B.2.2.2 s.heap H locs → lv_has ls 1 [(0, .int (zI (x0)))] → W p l e zm_O_isWeek s m args below meth c H locs 0 0 (MQ below (zQi B res S9) args s 0 0 B.2.2.2) (F0 m 0 ls []) := by
  intro x0 S nx0 hf H locs ls hW hS hl
  unfold zf_O_isWeek at hf
  refine lv_iload_n C.1 C.2.1 zd_O_isWeek_0 rfl (lv_at hl 0 rfl) ?_
  refine zr_if_lt (tgt := 15) C nx0 zd_O_isWeek_1 (by decide) (fun c1 => ?_) (fun c1 => ?_)
  · rw [if_pos c1] at hf
    refine zr_iconst C zd_O_isWeek_15 ?_
    cases hf
    exact zre_z C hr hlk hK hW hS (znb rfl) (zb01 (by decide)) zd_O_isWeek_16
  · rw [if_neg c1] at hf
    refine lv_iload_n C.1 C.2.1 zd_O_isWeek_4 rfl (lv_at hl 0 rfl) ?_
    refine zr_sipush C zd_O_isWeek_5 (by decide) ?_
    refine zr_icmp_gt (tgt := 15) C nx0 (znb rfl) zd_O_isWeek_8 (by decide) (fun c2 => ?_) (fun c2 => ?_)
    · rw [if_pos c2] at hf
      refine zr_iconst C zd_O_isWeek_15 ?_
      cases hf
      exact zre_z C hr hlk hK hW hS (znb rfl) (zb01 (by decide)) zd_O_isWeek_16
    · rw [if_neg c2] at hf
      refine zr_iconst C zd_O_isWeek_11 ?_
      refine lv_goto (tgt := 16) C.1 C.2.1 zd_O_isWeek_12 (by decide) ?_
      cases hf
      exact zre_z C hr hlk hK hW hS (znb rfl) (zb01 (by decide)) zd_O_isWeek_16

theorem zc_O_isWeek {l : Launch} {B : zB} (hap : zAp B) (x0 : Int) (S : Sg) (nx0 : zn x0) {res : Int} {S9 : Sg} (hf : zf_O_isWeek x0 S = some (res, S9)) : Met l zy_O_isWeek (Cond.code zy_O_isWeek zb_O_isWeek 1 (some .boolean) :: zT) zm_O_isWeek (zP B S [.int (zI (x0))]) (zQi B res S9) 0 0 B.2.2.2 :=
  zmet (by decide) (Nat.le_of_ble_eq_true rfl) (fun p e s m args below meth c C hr hlk hK hSt hW ls hl => zw_O_isWeek C hr hlk hK hSt hap   x0 S nx0 hf _ _ _ hW va_S.rf hl)
/-! IslandOffice.force(II)I -/
abbrev zy_O_force : MethodName := ⟨"IslandOffice", "force", "(II)I"⟩
abbrev zb_O_force : ByteArray := prog_1_method_16_code
abbrev zm_O_force : Room := { frames := 1, cells := 0, slots := 0, locals := 25 }
theorem zq_O_force : zMy zy_O_force zb_O_force 4 (some .int) 2 := ⟨zk_755, zk_753, zk_754, zk_1, by decide, by decide, by decide +kernel⟩
theorem zd_O_force_0 : decode zb_O_force 0 = .ok (.iload_n 1, 1) := by decide +kernel
theorem zd_O_force_1 : decode zb_O_force 1 = .ok (.invokestatic 204, 3) := by decide +kernel
theorem zd_O_force_4 : decode zb_O_force 4 = .ok (.ifCond .eq 10, 3) := by decide +kernel
theorem zd_O_force_7 : decode zb_O_force 7 = .ok (.iload_n 2, 1) := by decide +kernel
theorem zd_O_force_8 : decode zb_O_force 8 = .ok (.invokestatic 207, 3) := by decide +kernel
theorem zd_O_force_11 : decode zb_O_force 11 = .ok (.ifCond .ne 5, 3) := by decide +kernel
theorem zd_O_force_14 : decode zb_O_force 14 = .ok (.iconst (-1), 1) := by decide +kernel
theorem zd_O_force_15 : decode zb_O_force 15 = .ok (.ireturn, 1) := by decide +kernel
theorem zd_O_force_16 : decode zb_O_force 16 = .ok (.aload_n 0, 1) := by decide +kernel
theorem zd_O_force_17 : decode zb_O_force 17 = .ok (.getfield 16, 3) := by decide +kernel
theorem zd_O_force_20 : decode zb_O_force 20 = .ok (.getfield 178, 3) := by decide +kernel
theorem zd_O_force_23 : decode zb_O_force 23 = .ok (.iload_n 1, 1) := by decide +kernel
theorem zd_O_force_24 : decode zb_O_force 24 = .ok (.iload_n 2, 1) := by decide +kernel
theorem zd_O_force_25 : decode zb_O_force 25 = .ok (.invokevirtual 210, 3) := by decide +kernel
theorem zd_O_force_28 : decode zb_O_force 28 = .ok (.istore_n 3, 1) := by decide +kernel
theorem zd_O_force_29 : decode zb_O_force 29 = .ok (.iload_n 3, 1) := by decide +kernel
theorem zd_O_force_30 : decode zb_O_force 30 = .ok (.ifCond .ge 8, 3) := by decide +kernel
theorem zd_O_force_33 : decode zb_O_force 33 = .ok (.bipush (-2), 2) := by decide +kernel
theorem zd_O_force_35 : decode zb_O_force 35 = .ok (.goto 4, 3) := by decide +kernel
theorem zd_O_force_38 : decode zb_O_force 38 = .ok (.iload_n 3, 1) := by decide +kernel
theorem zd_O_force_39 : decode zb_O_force 39 = .ok (.ireturn, 1) := by decide +kernel

def zf_O_force (x1 : Int) (x2 : Int) (S : Sg) : Option (Int × Sg) :=
    zbd (zf_O_isSubject x1 S) fun a1 S2 => if a1 = 0 then (some (-1, S2)) else (zbd (zf_O_isWeek x2 S2) fun a4 S5 => if a4 = 0 then (some (-1, S5)) else (zbd (zf_L_inForce (0) x1 x2 S5) fun a7 S8 => if 0 ≤ a7 then (some (a7, S8)) else (some (-2, S8))))
set_option maxHeartbeats 4000000 in
set_option maxRecDepth 100000 in
theorem zw_O_force {p : Program} {l : Launch} {e : Env} {s : State} {m : MethodId} {args : Array Value} {below : List Frame} {meth : Method} {c : Code} {B : zB} (C : CallFix p m c zb_O_force 4 s args zT "IslandOffice") (hr : meth.sig.returnType = some .int) (hlk : meth.locks = false) (hK : zK B s) (hSt : zSt B s) (hap : zAp B) {res : Int} {S9 : Sg} : ∀ (x1 : Int) (x2 : Int) (S : Sg) (nx1 : zn x1) (nx2 : zn x2), zf_O_force x1 x2 S = some (res, S9) → ∀ (H : Heap) (locs : List Loc) (ls : Array Slot), zW B S H → va_S B.2.2.2 s.heap H locs → lv_has ls 4 [(0, .ref (B.2.1 3 (0) (0))), (1, .int (zI (x1))), (2, .int (zI (x2)))] → W p l e zm_O_force s m args below meth c H locs 0 0 (MQ below (zQi B res S9) args s 0 0 B.2.2.2) (F0 m 0 ls []) := by
  intro x1 x2 S nx1 nx2 hf H locs ls hW hS hl
  unfold zf_O_force at hf
  refine lv_iload_n C.1 C.2.1 zd_O_force_0 rfl (lv_at hl 1 rfl) ?_
  obtain ⟨a1, S2, ea1, hf⟩ := zbd_some hf
  refine zcSi (As := [.int (zI (x1))]) (rest := []) C hK hSt hW hS (zc_O_isSubject hap x1 S nx1 ea1) zq_O_isSubject zk_756 ⟨rfl, rfl, by decide, by decide⟩ ⟨Nat.zero_le _, Nat.zero_le _⟩ rfl hl.1 rfl (lv_room (Nat.le_of_ble_eq_true rfl)) zd_O_force_1 (fun na1 H locs hW hS => ?_)
  refine zr_if_eq (tgt := 14) C na1 zd_O_force_4 (by decide) (fun c3 => ?_) (fun c3 => ?_)
  · rw [if_pos c3] at hf
    refine zr_iconst C zd_O_force_14 ?_
    cases hf
    exact zre_i C hr hlk hK hW hS (znb rfl) zd_O_force_15
  · rw [if_neg c3] at hf
    refine lv_iload_n C.1 C.2.1 zd_O_force_7 rfl (lv_at hl 2 rfl) ?_
    obtain ⟨a4, S5, ea4, hf⟩ := zbd_some hf
    refine zcSi (As := [.int (zI (x2))]) (rest := []) C hK hSt hW hS (zc_O_isWeek hap x2 S2 nx2 ea4) zq_O_isWeek zk_759 ⟨rfl, rfl, by decide, by decide⟩ ⟨Nat.zero_le _, Nat.zero_le _⟩ rfl hl.1 rfl (lv_room (Nat.le_of_ble_eq_true rfl)) zd_O_force_8 (fun na4 H locs hW hS => ?_)
    refine zr_if_ne (tgt := 16) C na4 zd_O_force_11 (by decide) (fun c6 => ?_) (fun c6 => ?_)
    · rw [if_neg c6] at hf
      refine lv_aload_n C.1 C.2.1 zd_O_force_16 rfl (lv_at hl 0 rfl) ?_
      refine zg_O_now (r := 0) C hK hW (zvd_3 (by decide) (by decide)) zk_492 zd_O_force_17 ?_
      refine zg_I_laws (r := 0) C hK hW (zvd_0 (by decide) (by decide)) zk_285 zd_O_force_20 ?_
      refine lv_iload_n C.1 C.2.1 zd_O_force_23 rfl (lv_at hl 1 rfl) ?_
      refine lv_iload_n C.1 C.2.1 zd_O_force_24 rfl (lv_at hl 2 rfl) ?_
      obtain ⟨a7, S8, ea7, hf⟩ := zbd_some hf
      refine zcVi (As := [.int (zI (x1)), .int (zI (x2))]) (rest := []) C hK hSt hW hS (zc_L_inForce hap (0) (by decide) x1 x2 S5 nx1 nx2 ea7) zq_L_inForce zk_762 (zrecv hK hW (zvd_0 (by decide) (by decide)) (ze_0_16 B _ (0)) rfl) ⟨rfl, rfl, by decide, by decide⟩ ⟨Nat.zero_le _, Nat.zero_le _⟩ rfl hl.1 rfl (lv_room (Nat.le_of_ble_eq_true rfl)) zd_O_force_25 (fun na7 H locs hW hS => ?_)
      refine lv_istore_n (lv' := [(3, .int (zI (a7))), (0, .ref (B.2.1 3 (0) (0))), (1, .int (zI (x1))), (2, .int (zI (x2)))]) C.1 C.2.1 zd_O_force_28 rfl hl (by decide) rfl (fun ls hl => ?_)
      refine lv_iload_n C.1 C.2.1 zd_O_force_29 rfl (lv_at hl 0 rfl) ?_
      refine zr_if_ge (tgt := 38) C na7 zd_O_force_30 (by decide) (fun c9 => ?_) (fun c9 => ?_)
      · rw [if_pos c9] at hf
        refine lv_iload_n C.1 C.2.1 zd_O_force_38 rfl (lv_at hl 0 rfl) ?_
        cases hf
        exact zre_i C hr hlk hK hW hS na7 zd_O_force_39
      · rw [if_neg c9] at hf
        refine zr_bipush C zd_O_force_33 (by decide) ?_
        refine lv_goto (tgt := 39) C.1 C.2.1 zd_O_force_35 (by decide) ?_
        cases hf
        exact zre_i C hr hlk hK hW hS (znb rfl) zd_O_force_39
    · rw [if_pos c6] at hf
      refine zr_iconst C zd_O_force_14 ?_
      cases hf
      exact zre_i C hr hlk hK hW hS (znb rfl) zd_O_force_15

theorem zc_O_force {l : Launch} {B : zB} (hap : zAp B) (x1 : Int) (x2 : Int) (S : Sg) (nx1 : zn x1) (nx2 : zn x2) {res : Int} {S9 : Sg} (hf : zf_O_force x1 x2 S = some (res, S9)) : Met l zy_O_force (Cond.code zy_O_force zb_O_force 4 (some .int) :: zT) zm_O_force (zP B S [.ref (B.2.1 3 (0) (0)), .int (zI (x1)), .int (zI (x2))]) (zQi B res S9) 0 0 B.2.2.2 :=
  zmet (by decide) (Nat.le_of_ble_eq_true rfl) (fun p e s m args below meth c C hr hlk hK hSt hW ls hl => zw_O_force C hr hlk hK hSt hap   x1 x2 S nx1 nx2 hf _ _ _ hW va_S.rf hl)
/-! IslandOffice.may(II)I -/
abbrev zy_O_may : MethodName := ⟨"IslandOffice", "may", "(II)I"⟩
abbrev zb_O_may : ByteArray := prog_1_method_17_code
abbrev zm_O_may : Room := { frames := 3, cells := 0, slots := 0, locals := 71 }
theorem zq_O_may : zMy zy_O_may zb_O_may 3 (some .int) 2 := ⟨zk_766, zk_764, zk_765, zk_1, by decide, by decide, by decide +kernel⟩
theorem zd_O_may_0 : decode zb_O_may 0 = .ok (.aload_n 0, 1) := by decide +kernel
theorem zd_O_may_1 : decode zb_O_may 1 = .ok (.getfield 16, 3) := by decide +kernel
theorem zd_O_may_4 : decode zb_O_may 4 = .ok (.getfield 81, 3) := by decide +kernel
theorem zd_O_may_7 : decode zb_O_may 7 = .ok (.iload_n 1, 1) := by decide +kernel
theorem zd_O_may_8 : decode zb_O_may 8 = .ok (.invokevirtual 85, 3) := by decide +kernel
theorem zd_O_may_11 : decode zb_O_may 11 = .ok (.ifCond .eq 10, 3) := by decide +kernel
theorem zd_O_may_14 : decode zb_O_may 14 = .ok (.iload_n 2, 1) := by decide +kernel
theorem zd_O_may_15 : decode zb_O_may 15 = .ok (.invokestatic 204, 3) := by decide +kernel
theorem zd_O_may_18 : decode zb_O_may 18 = .ok (.ifCond .ne 5, 3) := by decide +kernel
theorem zd_O_may_21 : decode zb_O_may 21 = .ok (.iconst (-1), 1) := by decide +kernel
theorem zd_O_may_22 : decode zb_O_may 22 = .ok (.ireturn, 1) := by decide +kernel
theorem zd_O_may_23 : decode zb_O_may 23 = .ok (.aload_n 0, 1) := by decide +kernel
theorem zd_O_may_24 : decode zb_O_may 24 = .ok (.getfield 16, 3) := by decide +kernel
theorem zd_O_may_27 : decode zb_O_may 27 = .ok (.getfield 81, 3) := by decide +kernel
theorem zd_O_may_30 : decode zb_O_may 30 = .ok (.getfield 108, 3) := by decide +kernel
theorem zd_O_may_33 : decode zb_O_may 33 = .ok (.iload_n 1, 1) := by decide +kernel
theorem zd_O_may_34 : decode zb_O_may 34 = .ok (.iaload, 1) := by decide +kernel
theorem zd_O_may_35 : decode zb_O_may 35 = .ok (.ifCond .eq 6, 3) := by decide +kernel
theorem zd_O_may_38 : decode zb_O_may 38 = .ok (.bipush (-3), 2) := by decide +kernel
theorem zd_O_may_40 : decode zb_O_may 40 = .ok (.ireturn, 1) := by decide +kernel
theorem zd_O_may_41 : decode zb_O_may 41 = .ok (.aload_n 0, 1) := by decide +kernel
theorem zd_O_may_42 : decode zb_O_may 42 = .ok (.getfield 51, 3) := by decide +kernel
theorem zd_O_may_45 : decode zb_O_may 45 = .ok (.aload_n 0, 1) := by decide +kernel
theorem zd_O_may_46 : decode zb_O_may 46 = .ok (.getfield 16, 3) := by decide +kernel
theorem zd_O_may_49 : decode zb_O_may 49 = .ok (.iload_n 2, 1) := by decide +kernel
theorem zd_O_may_50 : decode zb_O_may 50 = .ok (.iload_n 1, 1) := by decide +kernel
theorem zd_O_may_51 : decode zb_O_may 51 = .ok (.invokevirtual 213, 3) := by decide +kernel
theorem zd_O_may_54 : decode zb_O_may 54 = .ok (.ifCond .eq 7, 3) := by decide +kernel
theorem zd_O_may_57 : decode zb_O_may 57 = .ok (.iconst 1, 1) := by decide +kernel
theorem zd_O_may_58 : decode zb_O_may 58 = .ok (.goto 4, 3) := by decide +kernel
theorem zd_O_may_61 : decode zb_O_may 61 = .ok (.iconst 0, 1) := by decide +kernel
theorem zd_O_may_62 : decode zb_O_may 62 = .ok (.ireturn, 1) := by decide +kernel

def zf_O_may (x1 : Int) (x2 : Int) (S : Sg) : Option (Int × Sg) :=
    zbd (zf_P_has (0) x1 S) fun a1 S2 => if a1 = 0 then (some (-1, S2)) else (zbd (zf_O_isSubject x2 S2) fun a4 S5 => if a4 = 0 then (some (-1, S5)) else (zck (0 ≤ x1 ∧ x1 < 40) <| if (S5 0 0 11 x1) = 0 then (zbd (zf_J_allows (0) x2 x1 S5) fun a9 S10 => if a9 = 0 then (some (0, S10)) else (some (1, S10))) else (some (-3, S5))))
set_option maxHeartbeats 4000000 in
set_option maxRecDepth 100000 in
theorem zw_O_may {p : Program} {l : Launch} {e : Env} {s : State} {m : MethodId} {args : Array Value} {below : List Frame} {meth : Method} {c : Code} {B : zB} (C : CallFix p m c zb_O_may 3 s args zT "IslandOffice") (hr : meth.sig.returnType = some .int) (hlk : meth.locks = false) (hK : zK B s) (hSt : zSt B s) (hap : zAp B) {res : Int} {S9 : Sg} : ∀ (x1 : Int) (x2 : Int) (S : Sg) (nx1 : zn x1) (nx2 : zn x2), zf_O_may x1 x2 S = some (res, S9) → ∀ (H : Heap) (locs : List Loc) (ls : Array Slot), zW B S H → va_S B.2.2.2 s.heap H locs → lv_has ls 3 [(0, .ref (B.2.1 3 (0) (0))), (1, .int (zI (x1))), (2, .int (zI (x2)))] → W p l e zm_O_may s m args below meth c H locs 0 0 (MQ below (zQi B res S9) args s 0 0 B.2.2.2) (F0 m 0 ls []) := by
  intro x1 x2 S nx1 nx2 hf H locs ls hW hS hl
  unfold zf_O_may at hf
  refine lv_aload_n C.1 C.2.1 zd_O_may_0 rfl (lv_at hl 0 rfl) ?_
  refine zg_O_now (r := 0) C hK hW (zvd_3 (by decide) (by decide)) zk_492 zd_O_may_1 ?_
  refine zg_I_people (r := 0) C hK hW (zvd_0 (by decide) (by decide)) zk_280 zd_O_may_4 ?_
  refine lv_iload_n C.1 C.2.1 zd_O_may_7 rfl (lv_at hl 1 rfl) ?_
  obtain ⟨a1, S2, ea1, hf⟩ := zbd_some hf
  refine zcVi (As := [.int (zI (x1))]) (rest := []) C hK hSt hW hS (zc_P_has hap (0) (by decide) x1 S nx1 ea1) zq_P_has zk_537 (zrecv hK hW (zvd_0 (by decide) (by decide)) (ze_0_6 B _ (0)) rfl) ⟨rfl, rfl, by decide, by decide⟩ ⟨Nat.zero_le _, Nat.zero_le _⟩ rfl hl.1 rfl (lv_room (Nat.le_of_ble_eq_true rfl)) zd_O_may_8 (fun na1 H locs hW hS => ?_)
  refine zr_if_eq (tgt := 21) C na1 zd_O_may_11 (by decide) (fun c3 => ?_) (fun c3 => ?_)
  · rw [if_pos c3] at hf
    refine zr_iconst C zd_O_may_21 ?_
    cases hf
    exact zre_i C hr hlk hK hW hS (znb rfl) zd_O_may_22
  · rw [if_neg c3] at hf
    refine lv_iload_n C.1 C.2.1 zd_O_may_14 rfl (lv_at hl 2 rfl) ?_
    obtain ⟨a4, S5, ea4, hf⟩ := zbd_some hf
    refine zcSi (As := [.int (zI (x2))]) (rest := []) C hK hSt hW hS (zc_O_isSubject hap x2 S2 nx2 ea4) zq_O_isSubject zk_756 ⟨rfl, rfl, by decide, by decide⟩ ⟨Nat.zero_le _, Nat.zero_le _⟩ rfl hl.1 rfl (lv_room (Nat.le_of_ble_eq_true rfl)) zd_O_may_15 (fun na4 H locs hW hS => ?_)
    refine zr_if_ne (tgt := 23) C na4 zd_O_may_18 (by decide) (fun c6 => ?_) (fun c6 => ?_)
    · rw [if_neg c6] at hf
      refine lv_aload_n C.1 C.2.1 zd_O_may_23 rfl (lv_at hl 0 rfl) ?_
      refine zg_O_now (r := 0) C hK hW (zvd_3 (by decide) (by decide)) zk_492 zd_O_may_24 ?_
      refine zg_I_people (r := 0) C hK hW (zvd_0 (by decide) (by decide)) zk_280 zd_O_may_27 ?_
      refine zg_P_state (r := 0) C hK hW (zvd_0 (by decide) (by decide)) zk_73 zd_O_may_30 ?_
      refine lv_iload_n C.1 C.2.1 zd_O_may_33 rfl (lv_at hl 1 rfl) ?_
      obtain ⟨h7, hf⟩ := zck_some hf
      refine ziald C hK hW (zvd_0 (by decide) (by decide)) (fun f => ze_0_11 B f (0)) (by decide) h7 zd_O_may_34 ?_
      refine zr_if_eq (tgt := 41) C (zWn hW _ _ _ _ rfl) zd_O_may_35 (by decide) (fun c8 => ?_) (fun c8 => ?_)
      · rw [if_pos c8] at hf
        refine lv_aload_n C.1 C.2.1 zd_O_may_41 rfl (lv_at hl 0 rfl) ?_
        refine zg_O_judge (r := 0) C hK hW (zvd_3 (by decide) (by decide)) zk_499 zd_O_may_42 ?_
        refine lv_aload_n C.1 C.2.1 zd_O_may_45 rfl (lv_at hl 0 rfl) ?_
        refine zg_O_now (r := 0) C hK hW (zvd_3 (by decide) (by decide)) zk_492 zd_O_may_46 ?_
        refine lv_iload_n C.1 C.2.1 zd_O_may_49 rfl (lv_at hl 2 rfl) ?_
        refine lv_iload_n C.1 C.2.1 zd_O_may_50 rfl (lv_at hl 1 rfl) ?_
        obtain ⟨a9, S10, ea9, hf⟩ := zbd_some hf
        refine zcVi (As := [.ref (B.2.1 0 (0) (0)), .int (zI (x2)), .int (zI (x1))]) (rest := []) C hK hSt hW hS (zc_J_allows hap (0) (by decide) x2 x1 S5 nx2 nx1 ea9) zq_J_allows zk_767 (zrecv hK hW (zvd_3 (by decide) (by decide)) (ze_3_7 B _ (0)) rfl) ⟨rfl, rfl, by decide, by decide⟩ ⟨Nat.zero_le _, Nat.zero_le _⟩ rfl hl.1 rfl (lv_room (Nat.le_of_ble_eq_true rfl)) zd_O_may_51 (fun na9 H locs hW hS => ?_)
        refine zr_if_eq (tgt := 61) C na9 zd_O_may_54 (by decide) (fun c11 => ?_) (fun c11 => ?_)
        · rw [if_pos c11] at hf
          refine zr_iconst C zd_O_may_61 ?_
          cases hf
          exact zre_i C hr hlk hK hW hS (znb rfl) zd_O_may_62
        · rw [if_neg c11] at hf
          refine zr_iconst C zd_O_may_57 ?_
          refine lv_goto (tgt := 62) C.1 C.2.1 zd_O_may_58 (by decide) ?_
          cases hf
          exact zre_i C hr hlk hK hW hS (znb rfl) zd_O_may_62
      · rw [if_neg c8] at hf
        refine zr_bipush C zd_O_may_38 (by decide) ?_
        cases hf
        exact zre_i C hr hlk hK hW hS (znb rfl) zd_O_may_40
    · rw [if_pos c6] at hf
      refine zr_iconst C zd_O_may_21 ?_
      cases hf
      exact zre_i C hr hlk hK hW hS (znb rfl) zd_O_may_22

theorem zc_O_may {l : Launch} {B : zB} (hap : zAp B) (x1 : Int) (x2 : Int) (S : Sg) (nx1 : zn x1) (nx2 : zn x2) {res : Int} {S9 : Sg} (hf : zf_O_may x1 x2 S = some (res, S9)) : Met l zy_O_may (Cond.code zy_O_may zb_O_may 3 (some .int) :: zT) zm_O_may (zP B S [.ref (B.2.1 3 (0) (0)), .int (zI (x1)), .int (zI (x2))]) (zQi B res S9) 0 0 B.2.2.2 :=
  zmet (by decide) (Nat.le_of_ble_eq_true rfl) (fun p e s m args below meth c C hr hlk hK hSt hW ls hl => zw_O_may C hr hlk hK hSt hap   x1 x2 S nx1 nx2 hf _ _ _ hW va_S.rf hl)
/-! IslandOffice.law(II)I -/
abbrev zy_O_law : MethodName := ⟨"IslandOffice", "law", "(II)I"⟩
abbrev zb_O_law : ByteArray := prog_1_method_18_code
abbrev zm_O_law : Room := { frames := 1, cells := 0, slots := 0, locals := 21 }
theorem zq_O_law : zMy zy_O_law zb_O_law 4 (some .int) 2 := ⟨zk_771, zk_769, zk_770, zk_1, by decide, by decide, by decide +kernel⟩
theorem zd_O_law_0 : decode zb_O_law 0 = .ok (.aload_n 0, 1) := by decide +kernel
theorem zd_O_law_1 : decode zb_O_law 1 = .ok (.getfield 16, 3) := by decide +kernel
theorem zd_O_law_4 : decode zb_O_law 4 = .ok (.getfield 178, 3) := by decide +kernel
theorem zd_O_law_7 : decode zb_O_law 7 = .ok (.astore_n 3, 1) := by decide +kernel
theorem zd_O_law_8 : decode zb_O_law 8 = .ok (.aload_n 3, 1) := by decide +kernel
theorem zd_O_law_9 : decode zb_O_law 9 = .ok (.iload_n 1, 1) := by decide +kernel
theorem zd_O_law_10 : decode zb_O_law 10 = .ok (.invokevirtual 188, 3) := by decide +kernel
theorem zd_O_law_13 : decode zb_O_law 13 = .ok (.ifCond .ne 5, 3) := by decide +kernel
theorem zd_O_law_16 : decode zb_O_law 16 = .ok (.iconst (-1), 1) := by decide +kernel
theorem zd_O_law_17 : decode zb_O_law 17 = .ok (.ireturn, 1) := by decide +kernel
theorem zd_O_law_18 : decode zb_O_law 18 = .ok (.iload_n 2, 1) := by decide +kernel
theorem zd_O_law_19 : decode zb_O_law 19 = .ok (.tableswitch 93 0 5 #[37, 44, 51, 58, 65, 72], 37) := by decide +kernel
theorem zd_O_law_56 : decode zb_O_law 56 = .ok (.aload_n 3, 1) := by decide +kernel
theorem zd_O_law_57 : decode zb_O_law 57 = .ok (.getfield 217, 3) := by decide +kernel
theorem zd_O_law_60 : decode zb_O_law 60 = .ok (.iload_n 1, 1) := by decide +kernel
theorem zd_O_law_61 : decode zb_O_law 61 = .ok (.iaload, 1) := by decide +kernel
theorem zd_O_law_62 : decode zb_O_law 62 = .ok (.ireturn, 1) := by decide +kernel
theorem zd_O_law_63 : decode zb_O_law 63 = .ok (.aload_n 3, 1) := by decide +kernel
theorem zd_O_law_64 : decode zb_O_law 64 = .ok (.getfield 220, 3) := by decide +kernel
theorem zd_O_law_67 : decode zb_O_law 67 = .ok (.iload_n 1, 1) := by decide +kernel
theorem zd_O_law_68 : decode zb_O_law 68 = .ok (.iaload, 1) := by decide +kernel
theorem zd_O_law_69 : decode zb_O_law 69 = .ok (.ireturn, 1) := by decide +kernel
theorem zd_O_law_70 : decode zb_O_law 70 = .ok (.aload_n 3, 1) := by decide +kernel
theorem zd_O_law_71 : decode zb_O_law 71 = .ok (.getfield 198, 3) := by decide +kernel
theorem zd_O_law_74 : decode zb_O_law 74 = .ok (.iload_n 1, 1) := by decide +kernel
theorem zd_O_law_75 : decode zb_O_law 75 = .ok (.iaload, 1) := by decide +kernel
theorem zd_O_law_76 : decode zb_O_law 76 = .ok (.ireturn, 1) := by decide +kernel
theorem zd_O_law_77 : decode zb_O_law 77 = .ok (.aload_n 3, 1) := by decide +kernel
theorem zd_O_law_78 : decode zb_O_law 78 = .ok (.getfield 195, 3) := by decide +kernel
theorem zd_O_law_81 : decode zb_O_law 81 = .ok (.iload_n 1, 1) := by decide +kernel
theorem zd_O_law_82 : decode zb_O_law 82 = .ok (.iaload, 1) := by decide +kernel
theorem zd_O_law_83 : decode zb_O_law 83 = .ok (.ireturn, 1) := by decide +kernel
theorem zd_O_law_84 : decode zb_O_law 84 = .ok (.aload_n 3, 1) := by decide +kernel
theorem zd_O_law_85 : decode zb_O_law 85 = .ok (.getfield 189, 3) := by decide +kernel
theorem zd_O_law_88 : decode zb_O_law 88 = .ok (.iload_n 1, 1) := by decide +kernel
theorem zd_O_law_89 : decode zb_O_law 89 = .ok (.iaload, 1) := by decide +kernel
theorem zd_O_law_90 : decode zb_O_law 90 = .ok (.ireturn, 1) := by decide +kernel
theorem zd_O_law_91 : decode zb_O_law 91 = .ok (.aload_n 3, 1) := by decide +kernel
theorem zd_O_law_92 : decode zb_O_law 92 = .ok (.getfield 192, 3) := by decide +kernel
theorem zd_O_law_95 : decode zb_O_law 95 = .ok (.iload_n 1, 1) := by decide +kernel
theorem zd_O_law_96 : decode zb_O_law 96 = .ok (.iaload, 1) := by decide +kernel
theorem zd_O_law_97 : decode zb_O_law 97 = .ok (.ifCond .ge 8, 3) := by decide +kernel
theorem zd_O_law_100 : decode zb_O_law 100 = .ok (.bipush (-2), 2) := by decide +kernel
theorem zd_O_law_102 : decode zb_O_law 102 = .ok (.goto 9, 3) := by decide +kernel
theorem zd_O_law_105 : decode zb_O_law 105 = .ok (.aload_n 3, 1) := by decide +kernel
theorem zd_O_law_106 : decode zb_O_law 106 = .ok (.getfield 192, 3) := by decide +kernel
theorem zd_O_law_109 : decode zb_O_law 109 = .ok (.iload_n 1, 1) := by decide +kernel
theorem zd_O_law_110 : decode zb_O_law 110 = .ok (.iaload, 1) := by decide +kernel
theorem zd_O_law_111 : decode zb_O_law 111 = .ok (.ireturn, 1) := by decide +kernel
theorem zd_O_law_112 : decode zb_O_law 112 = .ok (.iconst (-1), 1) := by decide +kernel
theorem zd_O_law_113 : decode zb_O_law 113 = .ok (.ireturn, 1) := by decide +kernel

def zf_O_law (x1 : Int) (x2 : Int) (S : Sg) : Option (Int × Sg) :=
    zbd (zf_L_has (0) x1 S) fun a1 S2 => if a1 = 0 then (some (-1, S2)) else (if x2 = 0 then (zck (0 ≤ x1 ∧ x1 < 12) <| some (S2 0 0 17 x1, S2)) else (if x2 = 1 then (zck (0 ≤ x1 ∧ x1 < 12) <| some (S2 0 0 18 x1, S2)) else (if x2 = 2 then (zck (0 ≤ x1 ∧ x1 < 12) <| some (S2 0 0 19 x1, S2)) else (if x2 = 3 then (zck (0 ≤ x1 ∧ x1 < 12) <| some (S2 0 0 20 x1, S2)) else (if x2 = 4 then (zck (0 ≤ x1 ∧ x1 < 12) <| some (S2 0 0 21 x1, S2)) else (if x2 = 5 then (zck (0 ≤ x1 ∧ x1 < 12) <| if 0 ≤ (S2 0 0 22 x1) then (some (S2 0 0 22 x1, S2)) else (some (-2, S2))) else (some (-1, S2))))))))
set_option maxHeartbeats 4000000 in
set_option maxRecDepth 100000 in
theorem zw_O_law {p : Program} {l : Launch} {e : Env} {s : State} {m : MethodId} {args : Array Value} {below : List Frame} {meth : Method} {c : Code} {B : zB} (C : CallFix p m c zb_O_law 4 s args zT "IslandOffice") (hr : meth.sig.returnType = some .int) (hlk : meth.locks = false) (hK : zK B s) (hSt : zSt B s) (hap : zAp B) {res : Int} {S9 : Sg} : ∀ (x1 : Int) (x2 : Int) (S : Sg) (nx1 : zn x1) (nx2 : zn x2), zf_O_law x1 x2 S = some (res, S9) → ∀ (H : Heap) (locs : List Loc) (ls : Array Slot), zW B S H → va_S B.2.2.2 s.heap H locs → lv_has ls 4 [(0, .ref (B.2.1 3 (0) (0))), (1, .int (zI (x1))), (2, .int (zI (x2)))] → W p l e zm_O_law s m args below meth c H locs 0 0 (MQ below (zQi B res S9) args s 0 0 B.2.2.2) (F0 m 0 ls []) := by
  intro x1 x2 S nx1 nx2 hf H locs ls hW hS hl
  unfold zf_O_law at hf
  refine lv_aload_n C.1 C.2.1 zd_O_law_0 rfl (lv_at hl 0 rfl) ?_
  refine zg_O_now (r := 0) C hK hW (zvd_3 (by decide) (by decide)) zk_492 zd_O_law_1 ?_
  refine zg_I_laws (r := 0) C hK hW (zvd_0 (by decide) (by decide)) zk_285 zd_O_law_4 ?_
  refine lv_astore_n (lv' := [(3, .ref (B.2.1 0 (0) (16))), (0, .ref (B.2.1 3 (0) (0))), (1, .int (zI (x1))), (2, .int (zI (x2)))]) C.1 C.2.1 zd_O_law_7 rfl hl (by decide) rfl (fun ls hl => ?_)
  refine lv_aload_n C.1 C.2.1 zd_O_law_8 rfl (lv_at hl 0 rfl) ?_
  refine lv_iload_n C.1 C.2.1 zd_O_law_9 rfl (lv_at hl 2 rfl) ?_
  obtain ⟨a1, S2, ea1, hf⟩ := zbd_some hf
  refine zcVi (As := [.int (zI (x1))]) (rest := []) C hK hSt hW hS (zc_L_has hap (0) (by decide) x1 S nx1 ea1) zq_L_has zk_740 (zrecv hK hW (zvd_0 (by decide) (by decide)) (ze_0_16 B _ (0)) rfl) ⟨rfl, rfl, by decide, by decide⟩ ⟨Nat.zero_le _, Nat.zero_le _⟩ rfl hl.1 rfl (lv_room (Nat.le_of_ble_eq_true rfl)) zd_O_law_10 (fun na1 H locs hW hS => ?_)
  refine zr_if_ne (tgt := 18) C na1 zd_O_law_13 (by decide) (fun c3 => ?_) (fun c3 => ?_)
  · rw [if_neg c3] at hf
    refine lv_iload_n C.1 C.2.1 zd_O_law_18 rfl (lv_at hl 3 rfl) ?_
    by_cases c4 : x2 = 0
    · rw [if_pos c4] at hf
      refine zr_tab (off := 37) (tgt := 56) C nx2 zd_O_law_19 (by omega) (by omega) (by rw [c4]; rfl) (by decide) ?_
      refine lv_aload_n C.1 C.2.1 zd_O_law_56 rfl (lv_at hl 0 rfl) ?_
      refine zg_L_subject (r := 0) C hK hW (zvd_0 (by decide) (by decide)) zk_119 zd_O_law_57 ?_
      refine lv_iload_n C.1 C.2.1 zd_O_law_60 rfl (lv_at hl 2 rfl) ?_
      obtain ⟨h5, hf⟩ := zck_some hf
      refine ziald C hK hW (zvd_0 (by decide) (by decide)) (fun f => ze_0_17 B f (0)) (by decide) h5 zd_O_law_61 ?_
      cases hf
      exact zre_i C hr hlk hK hW hS (zWn hW _ _ _ _ rfl) zd_O_law_62
    rw [if_neg c4] at hf
    by_cases c6 : x2 = 1
    · rw [if_pos c6] at hf
      refine zr_tab (off := 44) (tgt := 63) C nx2 zd_O_law_19 (by omega) (by omega) (by rw [c6]; rfl) (by decide) ?_
      refine lv_aload_n C.1 C.2.1 zd_O_law_63 rfl (lv_at hl 0 rfl) ?_
      refine zg_L_begin (r := 0) C hK hW (zvd_0 (by decide) (by decide)) zk_121 zd_O_law_64 ?_
      refine lv_iload_n C.1 C.2.1 zd_O_law_67 rfl (lv_at hl 2 rfl) ?_
      obtain ⟨h7, hf⟩ := zck_some hf
      refine ziald C hK hW (zvd_0 (by decide) (by decide)) (fun f => ze_0_18 B f (0)) (by decide) h7 zd_O_law_68 ?_
      cases hf
      exact zre_i C hr hlk hK hW hS (zWn hW _ _ _ _ rfl) zd_O_law_69
    rw [if_neg c6] at hf
    by_cases c8 : x2 = 2
    · rw [if_pos c8] at hf
      refine zr_tab (off := 51) (tgt := 70) C nx2 zd_O_law_19 (by omega) (by omega) (by rw [c8]; rfl) (by decide) ?_
      refine lv_aload_n C.1 C.2.1 zd_O_law_70 rfl (lv_at hl 0 rfl) ?_
      refine zg_L_votes (r := 0) C hK hW (zvd_0 (by decide) (by decide)) zk_123 zd_O_law_71 ?_
      refine lv_iload_n C.1 C.2.1 zd_O_law_74 rfl (lv_at hl 2 rfl) ?_
      obtain ⟨h9, hf⟩ := zck_some hf
      refine ziald C hK hW (zvd_0 (by decide) (by decide)) (fun f => ze_0_19 B f (0)) (by decide) h9 zd_O_law_75 ?_
      cases hf
      exact zre_i C hr hlk hK hW hS (zWn hW _ _ _ _ rfl) zd_O_law_76
    rw [if_neg c8] at hf
    by_cases c10 : x2 = 3
    · rw [if_pos c10] at hf
      refine zr_tab (off := 58) (tgt := 77) C nx2 zd_O_law_19 (by omega) (by omega) (by rw [c10]; rfl) (by decide) ?_
      refine lv_aload_n C.1 C.2.1 zd_O_law_77 rfl (lv_at hl 0 rfl) ?_
      refine zg_L_voters (r := 0) C hK hW (zvd_0 (by decide) (by decide)) zk_126 zd_O_law_78 ?_
      refine lv_iload_n C.1 C.2.1 zd_O_law_81 rfl (lv_at hl 2 rfl) ?_
      obtain ⟨h11, hf⟩ := zck_some hf
      refine ziald C hK hW (zvd_0 (by decide) (by decide)) (fun f => ze_0_20 B f (0)) (by decide) h11 zd_O_law_82 ?_
      cases hf
      exact zre_i C hr hlk hK hW hS (zWn hW _ _ _ _ rfl) zd_O_law_83
    rw [if_neg c10] at hf
    by_cases c12 : x2 = 4
    · rw [if_pos c12] at hf
      refine zr_tab (off := 65) (tgt := 84) C nx2 zd_O_law_19 (by omega) (by omega) (by rw [c12]; rfl) (by decide) ?_
      refine lv_aload_n C.1 C.2.1 zd_O_law_84 rfl (lv_at hl 0 rfl) ?_
      refine zg_L_isVoid (r := 0) C hK hW (zvd_0 (by decide) (by decide)) zk_128 zd_O_law_85 ?_
      refine lv_iload_n C.1 C.2.1 zd_O_law_88 rfl (lv_at hl 2 rfl) ?_
      obtain ⟨h13, hf⟩ := zck_some hf
      refine ziald C hK hW (zvd_0 (by decide) (by decide)) (fun f => ze_0_21 B f (0)) (by decide) h13 zd_O_law_89 ?_
      cases hf
      exact zre_i C hr hlk hK hW hS (zWn hW _ _ _ _ rfl) zd_O_law_90
    rw [if_neg c12] at hf
    by_cases c14 : x2 = 5
    · rw [if_pos c14] at hf
      refine zr_tab (off := 72) (tgt := 91) C nx2 zd_O_law_19 (by omega) (by omega) (by rw [c14]; rfl) (by decide) ?_
      refine lv_aload_n C.1 C.2.1 zd_O_law_91 rfl (lv_at hl 0 rfl) ?_
      refine zg_L_repealed (r := 0) C hK hW (zvd_0 (by decide) (by decide)) zk_130 zd_O_law_92 ?_
      refine lv_iload_n C.1 C.2.1 zd_O_law_95 rfl (lv_at hl 2 rfl) ?_
      obtain ⟨h15, hf⟩ := zck_some hf
      refine ziald C hK hW (zvd_0 (by decide) (by decide)) (fun f => ze_0_22 B f (0)) (by decide) h15 zd_O_law_96 ?_
      refine zr_if_ge (tgt := 105) C (zWn hW _ _ _ _ rfl) zd_O_law_97 (by decide) (fun c16 => ?_) (fun c16 => ?_)
      · rw [if_pos c16] at hf
        refine lv_aload_n C.1 C.2.1 zd_O_law_105 rfl (lv_at hl 0 rfl) ?_
        refine zg_L_repealed (r := 0) C hK hW (zvd_0 (by decide) (by decide)) zk_130 zd_O_law_106 ?_
        refine lv_iload_n C.1 C.2.1 zd_O_law_109 rfl (lv_at hl 2 rfl) ?_
        refine ziald C hK hW (zvd_0 (by decide) (by decide)) (fun f => ze_0_22 B f (0)) (by decide) h15 zd_O_law_110 ?_
        cases hf
        exact zre_i C hr hlk hK hW hS (zWn hW _ _ _ _ rfl) zd_O_law_111
      · rw [if_neg c16] at hf
        refine zr_bipush C zd_O_law_100 (by decide) ?_
        refine lv_goto (tgt := 111) C.1 C.2.1 zd_O_law_102 (by decide) ?_
        cases hf
        exact zre_i C hr hlk hK hW hS (znb rfl) zd_O_law_111
    rw [if_neg c14] at hf
    refine zr_tabo (tgt := 112) C nx2 zd_O_law_19 (by omega) (by decide) ?_
    refine zr_iconst C zd_O_law_112 ?_
    cases hf
    exact zre_i C hr hlk hK hW hS (znb rfl) zd_O_law_113
  · rw [if_pos c3] at hf
    refine zr_iconst C zd_O_law_16 ?_
    cases hf
    exact zre_i C hr hlk hK hW hS (znb rfl) zd_O_law_17

theorem zc_O_law {l : Launch} {B : zB} (hap : zAp B) (x1 : Int) (x2 : Int) (S : Sg) (nx1 : zn x1) (nx2 : zn x2) {res : Int} {S9 : Sg} (hf : zf_O_law x1 x2 S = some (res, S9)) : Met l zy_O_law (Cond.code zy_O_law zb_O_law 4 (some .int) :: zT) zm_O_law (zP B S [.ref (B.2.1 3 (0) (0)), .int (zI (x1)), .int (zI (x2))]) (zQi B res S9) 0 0 B.2.2.2 :=
  zmet (by decide) (Nat.le_of_ble_eq_true rfl) (fun p e s m args below meth c C hr hlk hK hSt hW ls hl => zw_O_law C hr hlk hK hSt hap   x1 x2 S nx1 nx2 hf _ _ _ hW va_S.rf hl)
/-! IslandOffice$Posts.add(III)I -/
abbrev zy_Q_add : MethodName := ⟨"IslandOffice$Posts", "add", "(III)I"⟩
abbrev zb_Q_add : ByteArray := prog_8_method_3_code
abbrev zm_Q_add : Room := { frames := 0, cells := 0, slots := 0, locals := 0 }
theorem zq_Q_add : zMy zy_Q_add zb_Q_add 5 (some .int) 3 := ⟨zk_779, zk_777, zk_778, zk_6, by decide, by decide, by decide +kernel⟩
theorem zd_Q_add_0 : decode zb_Q_add 0 = .ok (.aload_n 0, 1) := by decide +kernel
theorem zd_Q_add_1 : decode zb_Q_add 1 = .ok (.getfield 9, 3) := by decide +kernel
theorem zd_Q_add_4 : decode zb_Q_add 4 = .ok (.bipush 8, 2) := by decide +kernel
theorem zd_Q_add_6 : decode zb_Q_add 6 = .ok (.if_icmp .lt 6, 3) := by decide +kernel
theorem zd_Q_add_9 : decode zb_Q_add 9 = .ok (.bipush (-2), 2) := by decide +kernel
theorem zd_Q_add_11 : decode zb_Q_add 11 = .ok (.ireturn, 1) := by decide +kernel
theorem zd_Q_add_12 : decode zb_Q_add 12 = .ok (.aload_n 0, 1) := by decide +kernel
theorem zd_Q_add_13 : decode zb_Q_add 13 = .ok (.getfield 9, 3) := by decide +kernel
theorem zd_Q_add_16 : decode zb_Q_add 16 = .ok (.istore 4, 2) := by decide +kernel
theorem zd_Q_add_18 : decode zb_Q_add 18 = .ok (.aload_n 0, 1) := by decide +kernel
theorem zd_Q_add_19 : decode zb_Q_add 19 = .ok (.getfield 15, 3) := by decide +kernel
theorem zd_Q_add_22 : decode zb_Q_add 22 = .ok (.iload 4, 2) := by decide +kernel
theorem zd_Q_add_24 : decode zb_Q_add 24 = .ok (.iload_n 1, 1) := by decide +kernel
theorem zd_Q_add_25 : decode zb_Q_add 25 = .ok (.iastore, 1) := by decide +kernel
theorem zd_Q_add_26 : decode zb_Q_add 26 = .ok (.aload_n 0, 1) := by decide +kernel
theorem zd_Q_add_27 : decode zb_Q_add 27 = .ok (.getfield 19, 3) := by decide +kernel
theorem zd_Q_add_30 : decode zb_Q_add 30 = .ok (.iload 4, 2) := by decide +kernel
theorem zd_Q_add_32 : decode zb_Q_add 32 = .ok (.iload_n 2, 1) := by decide +kernel
theorem zd_Q_add_33 : decode zb_Q_add 33 = .ok (.iastore, 1) := by decide +kernel
theorem zd_Q_add_34 : decode zb_Q_add 34 = .ok (.aload_n 0, 1) := by decide +kernel
theorem zd_Q_add_35 : decode zb_Q_add 35 = .ok (.getfield 22, 3) := by decide +kernel
theorem zd_Q_add_38 : decode zb_Q_add 38 = .ok (.iload 4, 2) := by decide +kernel
theorem zd_Q_add_40 : decode zb_Q_add 40 = .ok (.iload_n 3, 1) := by decide +kernel
theorem zd_Q_add_41 : decode zb_Q_add 41 = .ok (.iastore, 1) := by decide +kernel
theorem zd_Q_add_42 : decode zb_Q_add 42 = .ok (.aload_n 0, 1) := by decide +kernel
theorem zd_Q_add_43 : decode zb_Q_add 43 = .ok (.getfield 25, 3) := by decide +kernel
theorem zd_Q_add_46 : decode zb_Q_add 46 = .ok (.iload 4, 2) := by decide +kernel
theorem zd_Q_add_48 : decode zb_Q_add 48 = .ok (.iconst 1, 1) := by decide +kernel
theorem zd_Q_add_49 : decode zb_Q_add 49 = .ok (.iastore, 1) := by decide +kernel
theorem zd_Q_add_50 : decode zb_Q_add 50 = .ok (.aload_n 0, 1) := by decide +kernel
theorem zd_Q_add_51 : decode zb_Q_add 51 = .ok (.iload 4, 2) := by decide +kernel
theorem zd_Q_add_53 : decode zb_Q_add 53 = .ok (.iconst 1, 1) := by decide +kernel
theorem zd_Q_add_54 : decode zb_Q_add 54 = .ok (.iadd, 1) := by decide +kernel
theorem zd_Q_add_55 : decode zb_Q_add 55 = .ok (.putfield 9, 3) := by decide +kernel
theorem zd_Q_add_58 : decode zb_Q_add 58 = .ok (.iload 4, 2) := by decide +kernel
theorem zd_Q_add_60 : decode zb_Q_add 60 = .ok (.ireturn, 1) := by decide +kernel

def zf_Q_add (r0 : Int) (x1 : Int) (x2 : Int) (x3 : Int) (S : Sg) : Option (Int × Sg) :=
    if (S 0 r0 26 0) < 8 then (zlt (S 0 r0 26 0) fun v2 => zck (0 ≤ v2 ∧ v2 < 8) <| zlt (zu S 0 r0 27 v2 x1) fun S4 => zlt (zu S4 0 r0 28 v2 x2) fun S5 => zlt (zu S5 0 r0 29 v2 x3) fun S6 => zlt (zu S6 0 r0 30 v2 1) fun S7 => zlt (zu S7 0 r0 26 0 (zw (v2 + 1))) fun S8 => some (v2, S8)) else (some (-2, S))
set_option maxHeartbeats 4000000 in
set_option maxRecDepth 100000 in
theorem zw_Q_add {p : Program} {l : Launch} {e : Env} {s : State} {m : MethodId} {args : Array Value} {below : List Frame} {meth : Method} {c : Code} {B : zB} (C : CallFix p m c zb_Q_add 5 s args zT "IslandOffice$Posts") (hr : meth.sig.returnType = some .int) (hlk : meth.locks = false) (hK : zK B s) (hSt : zSt B s) (hap : zAp B) (r0 : Int) (hr0 : 0 ≤ r0 ∧ r0 < 3) {res : Int} {S9 : Sg} : ∀ (x1 : Int) (x2 : Int) (x3 : Int) (S : Sg) (nx1 : zn x1) (nx2 : zn x2) (nx3 : zn x3), zf_Q_add r0 x1 x2 x3 S = some (res, S9) → ∀ (H : Heap) (locs : List Loc) (ls : Array Slot), zW B S H → va_S B.2.2.2 s.heap H locs → lv_has ls 5 [(0, .ref (B.2.1 0 (r0) (26))), (1, .int (zI (x1))), (2, .int (zI (x2))), (3, .int (zI (x3)))] → W p l e zm_Q_add s m args below meth c H locs 0 0 (MQ below (zQi B res S9) args s 0 0 B.2.2.2) (F0 m 0 ls []) := by
  intro x1 x2 x3 S nx1 nx2 nx3 hf H locs ls hW hS hl
  unfold zf_Q_add at hf
  refine lv_aload_n C.1 C.2.1 zd_Q_add_0 rfl (lv_at hl 0 rfl) ?_
  refine zg_Q_n (r := r0) C hK hW (zvd_0 hr0 (by decide)) zk_167 zd_Q_add_1 ?_
  refine zr_bipush C zd_Q_add_4 (by decide) ?_
  refine zr_icmp_lt (tgt := 12) C (zWn hW _ _ _ _ rfl) (znb rfl) zd_Q_add_6 (by decide) (fun c1 => ?_) (fun c1 => ?_)
  · rw [if_pos c1] at hf
    refine lv_aload_n C.1 C.2.1 zd_Q_add_12 rfl (lv_at hl 0 rfl) ?_
    refine zg_Q_n (r := r0) C hK hW (zvd_0 hr0 (by decide)) zk_167 zd_Q_add_13 ?_
    obtain ⟨v2, ev2, hf⟩ := zlt_some hf
    have nv2 : zn v2 := by rw [← ev2]; exact (zWn hW _ _ _ _ rfl)
    rw [ev2]
    refine lv_istore (lv' := [(4, .int (zI (v2))), (0, .ref (B.2.1 0 (r0) (26))), (1, .int (zI (x1))), (2, .int (zI (x2))), (3, .int (zI (x3)))]) C.1 C.2.1 zd_Q_add_16 hl (by decide) rfl (fun ls hl => ?_)
    refine lv_aload_n C.1 C.2.1 zd_Q_add_18 rfl (lv_at hl 1 rfl) ?_
    refine zg_Q_skill (r := r0) C hK hW (zvd_0 hr0 (by decide)) zk_171 zd_Q_add_19 ?_
    refine lv_iload C.1 C.2.1 zd_Q_add_22 (lv_at hl 0 rfl) ?_
    refine lv_iload_n C.1 C.2.1 zd_Q_add_24 rfl (lv_at hl 2 rfl) ?_
    obtain ⟨h3, hf⟩ := zck_some hf
    obtain ⟨S4, eS4, hf⟩ := zlt_some hf
    refine ziast C hK hap hW hS (zvd_0 hr0 (by decide)) (fun f => ze_0_27 B f (r0)) (by decide) rfl nx1 h3 zd_Q_add_25 (fun H locs hW hS => ?_)
    rw [eS4] at hW
    refine lv_aload_n C.1 C.2.1 zd_Q_add_26 rfl (lv_at hl 1 rfl) ?_
    refine zg_Q_hands (r := r0) C hK hW (zvd_0 hr0 (by decide)) zk_173 zd_Q_add_27 ?_
    refine lv_iload C.1 C.2.1 zd_Q_add_30 (lv_at hl 0 rfl) ?_
    refine lv_iload_n C.1 C.2.1 zd_Q_add_32 rfl (lv_at hl 3 rfl) ?_
    obtain ⟨S5, eS5, hf⟩ := zlt_some hf
    refine ziast C hK hap hW hS (zvd_0 hr0 (by decide)) (fun f => ze_0_28 B f (r0)) (by decide) rfl nx2 h3 zd_Q_add_33 (fun H locs hW hS => ?_)
    rw [eS5] at hW
    refine lv_aload_n C.1 C.2.1 zd_Q_add_34 rfl (lv_at hl 1 rfl) ?_
    refine zg_Q_sort (r := r0) C hK hW (zvd_0 hr0 (by decide)) zk_175 zd_Q_add_35 ?_
    refine lv_iload C.1 C.2.1 zd_Q_add_38 (lv_at hl 0 rfl) ?_
    refine lv_iload_n C.1 C.2.1 zd_Q_add_40 rfl (lv_at hl 4 rfl) ?_
    obtain ⟨S6, eS6, hf⟩ := zlt_some hf
    refine ziast C hK hap hW hS (zvd_0 hr0 (by decide)) (fun f => ze_0_29 B f (r0)) (by decide) rfl nx3 h3 zd_Q_add_41 (fun H locs hW hS => ?_)
    rw [eS6] at hW
    refine lv_aload_n C.1 C.2.1 zd_Q_add_42 rfl (lv_at hl 1 rfl) ?_
    refine zg_Q_open (r := r0) C hK hW (zvd_0 hr0 (by decide)) zk_177 zd_Q_add_43 ?_
    refine lv_iload C.1 C.2.1 zd_Q_add_46 (lv_at hl 0 rfl) ?_
    refine zr_iconst C zd_Q_add_48 ?_
    obtain ⟨S7, eS7, hf⟩ := zlt_some hf
    refine ziast C hK hap hW hS (zvd_0 hr0 (by decide)) (fun f => ze_0_30 B f (r0)) (by decide) rfl (znb rfl) h3 zd_Q_add_49 (fun H locs hW hS => ?_)
    rw [eS7] at hW
    refine lv_aload_n C.1 C.2.1 zd_Q_add_50 rfl (lv_at hl 1 rfl) ?_
    refine lv_iload C.1 C.2.1 zd_Q_add_51 (lv_at hl 0 rfl) ?_
    refine zr_iconst C zd_Q_add_53 ?_
    refine zr_iadd C zd_Q_add_54 ?_
    obtain ⟨S8, eS8, hf⟩ := zlt_some hf
    refine zp_Q_n (r := r0) C hK hap hW hS (zvd_0 hr0 (by decide)) zk_167 (zn_w _) zd_Q_add_55 (fun H locs hW hS => ?_)
    rw [eS8] at hW
    refine lv_iload C.1 C.2.1 zd_Q_add_58 (lv_at hl 0 rfl) ?_
    cases hf
    exact zre_i C hr hlk hK hW hS nv2 zd_Q_add_60
  · rw [if_neg c1] at hf
    refine zr_bipush C zd_Q_add_9 (by decide) ?_
    cases hf
    exact zre_i C hr hlk hK hW hS (znb rfl) zd_Q_add_11

theorem zc_Q_add {l : Launch} {B : zB} (hap : zAp B) (r0 : Int) (hr0 : 0 ≤ r0 ∧ r0 < 3) (x1 : Int) (x2 : Int) (x3 : Int) (S : Sg) (nx1 : zn x1) (nx2 : zn x2) (nx3 : zn x3) {res : Int} {S9 : Sg} (hf : zf_Q_add r0 x1 x2 x3 S = some (res, S9)) : Met l zy_Q_add (Cond.code zy_Q_add zb_Q_add 5 (some .int) :: zT) zm_Q_add (zP B S [.ref (B.2.1 0 (r0) (26)), .int (zI (x1)), .int (zI (x2)), .int (zI (x3))]) (zQi B res S9) 0 0 B.2.2.2 :=
  zmet (by decide) (Nat.le_of_ble_eq_true rfl) (fun p e s m args below meth c C hr hlk hK hSt hW ls hl => zw_Q_add C hr hlk hK hSt hap r0 hr0 x1 x2 x3 S nx1 nx2 nx3 hf _ _ _ hW va_S.rf hl)
/-! IslandOffice.post(III)I -/
abbrev zy_O_post : MethodName := ⟨"IslandOffice", "post", "(III)I"⟩
abbrev zb_O_post : ByteArray := prog_1_method_19_code
abbrev zm_O_post : Room := { frames := 1, cells := 0, slots := 0, locals := 24 }
theorem zq_O_post : zMy zy_O_post zb_O_post 4 (some .int) 3 := ⟨zk_775, zk_773, zk_774, zk_1, by decide, by decide, by decide +kernel⟩
theorem zd_O_post_0 : decode zb_O_post 0 = .ok (.iload_n 1, 1) := by decide +kernel
theorem zd_O_post_1 : decode zb_O_post 1 = .ok (.ifCond .lt 28, 3) := by decide +kernel
theorem zd_O_post_4 : decode zb_O_post 4 = .ok (.iload_n 1, 1) := by decide +kernel
theorem zd_O_post_5 : decode zb_O_post 5 = .ok (.bipush 8, 2) := by decide +kernel
theorem zd_O_post_7 : decode zb_O_post 7 = .ok (.if_icmp .ge 22, 3) := by decide +kernel
theorem zd_O_post_10 : decode zb_O_post 10 = .ok (.iload_n 2, 1) := by decide +kernel
theorem zd_O_post_11 : decode zb_O_post 11 = .ok (.iconst 1, 1) := by decide +kernel
theorem zd_O_post_12 : decode zb_O_post 12 = .ok (.if_icmp .lt 17, 3) := by decide +kernel
theorem zd_O_post_15 : decode zb_O_post 15 = .ok (.iload_n 2, 1) := by decide +kernel
theorem zd_O_post_16 : decode zb_O_post 16 = .ok (.iconst 3, 1) := by decide +kernel
theorem zd_O_post_17 : decode zb_O_post 17 = .ok (.if_icmp .gt 12, 3) := by decide +kernel
theorem zd_O_post_20 : decode zb_O_post 20 = .ok (.iload_n 3, 1) := by decide +kernel
theorem zd_O_post_21 : decode zb_O_post 21 = .ok (.ifCond .lt 8, 3) := by decide +kernel
theorem zd_O_post_24 : decode zb_O_post 24 = .ok (.iload_n 3, 1) := by decide +kernel
theorem zd_O_post_25 : decode zb_O_post 25 = .ok (.iconst 4, 1) := by decide +kernel
theorem zd_O_post_26 : decode zb_O_post 26 = .ok (.if_icmp .lt 5, 3) := by decide +kernel
theorem zd_O_post_29 : decode zb_O_post 29 = .ok (.iconst (-1), 1) := by decide +kernel
theorem zd_O_post_30 : decode zb_O_post 30 = .ok (.ireturn, 1) := by decide +kernel
theorem zd_O_post_31 : decode zb_O_post 31 = .ok (.aload_n 0, 1) := by decide +kernel
theorem zd_O_post_32 : decode zb_O_post 32 = .ok (.getfield 16, 3) := by decide +kernel
theorem zd_O_post_35 : decode zb_O_post 35 = .ok (.getfield 223, 3) := by decide +kernel
theorem zd_O_post_38 : decode zb_O_post 38 = .ok (.iload_n 1, 1) := by decide +kernel
theorem zd_O_post_39 : decode zb_O_post 39 = .ok (.iload_n 2, 1) := by decide +kernel
theorem zd_O_post_40 : decode zb_O_post 40 = .ok (.iload_n 3, 1) := by decide +kernel
theorem zd_O_post_41 : decode zb_O_post 41 = .ok (.invokevirtual 227, 3) := by decide +kernel
theorem zd_O_post_44 : decode zb_O_post 44 = .ok (.ireturn, 1) := by decide +kernel

def zf_O_post (x1 : Int) (x2 : Int) (x3 : Int) (S : Sg) : Option (Int × Sg) :=
    if x1 < 0 then (some (-1, S)) else (if 8 ≤ x1 then (some (-1, S)) else (if x2 < 1 then (some (-1, S)) else (if 3 < x2 then (some (-1, S)) else (if x3 < 0 then (some (-1, S)) else (if x3 < 4 then (zbd (zf_Q_add (0) x1 x2 x3 S) fun a7 S8 => some (a7, S8)) else (some (-1, S)))))))
set_option maxHeartbeats 4000000 in
set_option maxRecDepth 100000 in
theorem zw_O_post {p : Program} {l : Launch} {e : Env} {s : State} {m : MethodId} {args : Array Value} {below : List Frame} {meth : Method} {c : Code} {B : zB} (C : CallFix p m c zb_O_post 4 s args zT "IslandOffice") (hr : meth.sig.returnType = some .int) (hlk : meth.locks = false) (hK : zK B s) (hSt : zSt B s) (hap : zAp B) {res : Int} {S9 : Sg} : ∀ (x1 : Int) (x2 : Int) (x3 : Int) (S : Sg) (nx1 : zn x1) (nx2 : zn x2) (nx3 : zn x3), zf_O_post x1 x2 x3 S = some (res, S9) → ∀ (H : Heap) (locs : List Loc) (ls : Array Slot), zW B S H → va_S B.2.2.2 s.heap H locs → lv_has ls 4 [(0, .ref (B.2.1 3 (0) (0))), (1, .int (zI (x1))), (2, .int (zI (x2))), (3, .int (zI (x3)))] → W p l e zm_O_post s m args below meth c H locs 0 0 (MQ below (zQi B res S9) args s 0 0 B.2.2.2) (F0 m 0 ls []) := by
  intro x1 x2 x3 S nx1 nx2 nx3 hf H locs ls hW hS hl
  unfold zf_O_post at hf
  refine lv_iload_n C.1 C.2.1 zd_O_post_0 rfl (lv_at hl 1 rfl) ?_
  refine zr_if_lt (tgt := 29) C nx1 zd_O_post_1 (by decide) (fun c1 => ?_) (fun c1 => ?_)
  · rw [if_pos c1] at hf
    refine zr_iconst C zd_O_post_29 ?_
    cases hf
    exact zre_i C hr hlk hK hW hS (znb rfl) zd_O_post_30
  · rw [if_neg c1] at hf
    refine lv_iload_n C.1 C.2.1 zd_O_post_4 rfl (lv_at hl 1 rfl) ?_
    refine zr_bipush C zd_O_post_5 (by decide) ?_
    refine zr_icmp_ge (tgt := 29) C nx1 (znb rfl) zd_O_post_7 (by decide) (fun c2 => ?_) (fun c2 => ?_)
    · rw [if_pos c2] at hf
      refine zr_iconst C zd_O_post_29 ?_
      cases hf
      exact zre_i C hr hlk hK hW hS (znb rfl) zd_O_post_30
    · rw [if_neg c2] at hf
      refine lv_iload_n C.1 C.2.1 zd_O_post_10 rfl (lv_at hl 2 rfl) ?_
      refine zr_iconst C zd_O_post_11 ?_
      refine zr_icmp_lt (tgt := 29) C nx2 (znb rfl) zd_O_post_12 (by decide) (fun c3 => ?_) (fun c3 => ?_)
      · rw [if_pos c3] at hf
        refine zr_iconst C zd_O_post_29 ?_
        cases hf
        exact zre_i C hr hlk hK hW hS (znb rfl) zd_O_post_30
      · rw [if_neg c3] at hf
        refine lv_iload_n C.1 C.2.1 zd_O_post_15 rfl (lv_at hl 2 rfl) ?_
        refine zr_iconst C zd_O_post_16 ?_
        refine zr_icmp_gt (tgt := 29) C nx2 (znb rfl) zd_O_post_17 (by decide) (fun c4 => ?_) (fun c4 => ?_)
        · rw [if_pos c4] at hf
          refine zr_iconst C zd_O_post_29 ?_
          cases hf
          exact zre_i C hr hlk hK hW hS (znb rfl) zd_O_post_30
        · rw [if_neg c4] at hf
          refine lv_iload_n C.1 C.2.1 zd_O_post_20 rfl (lv_at hl 3 rfl) ?_
          refine zr_if_lt (tgt := 29) C nx3 zd_O_post_21 (by decide) (fun c5 => ?_) (fun c5 => ?_)
          · rw [if_pos c5] at hf
            refine zr_iconst C zd_O_post_29 ?_
            cases hf
            exact zre_i C hr hlk hK hW hS (znb rfl) zd_O_post_30
          · rw [if_neg c5] at hf
            refine lv_iload_n C.1 C.2.1 zd_O_post_24 rfl (lv_at hl 3 rfl) ?_
            refine zr_iconst C zd_O_post_25 ?_
            refine zr_icmp_lt (tgt := 31) C nx3 (znb rfl) zd_O_post_26 (by decide) (fun c6 => ?_) (fun c6 => ?_)
            · rw [if_pos c6] at hf
              refine lv_aload_n C.1 C.2.1 zd_O_post_31 rfl (lv_at hl 0 rfl) ?_
              refine zg_O_now (r := 0) C hK hW (zvd_3 (by decide) (by decide)) zk_492 zd_O_post_32 ?_
              refine zg_I_posts (r := 0) C hK hW (zvd_0 (by decide) (by decide)) zk_289 zd_O_post_35 ?_
              refine lv_iload_n C.1 C.2.1 zd_O_post_38 rfl (lv_at hl 1 rfl) ?_
              refine lv_iload_n C.1 C.2.1 zd_O_post_39 rfl (lv_at hl 2 rfl) ?_
              refine lv_iload_n C.1 C.2.1 zd_O_post_40 rfl (lv_at hl 3 rfl) ?_
              obtain ⟨a7, S8, ea7, hf⟩ := zbd_some hf
              refine zcVi (As := [.int (zI (x1)), .int (zI (x2)), .int (zI (x3))]) (rest := []) C hK hSt hW hS (zc_Q_add hap (0) (by decide) x1 x2 x3 S nx1 nx2 nx3 ea7) zq_Q_add zk_776 (zrecv hK hW (zvd_0 (by decide) (by decide)) (ze_0_26 B _ (0)) rfl) ⟨rfl, rfl, by decide, by decide⟩ ⟨Nat.zero_le _, Nat.zero_le _⟩ rfl hl.1 rfl (lv_room (Nat.le_of_ble_eq_true rfl)) zd_O_post_41 (fun na7 H locs hW hS => ?_)
              cases hf
              exact zre_i C hr hlk hK hW hS na7 zd_O_post_44
            · rw [if_neg c6] at hf
              refine zr_iconst C zd_O_post_29 ?_
              cases hf
              exact zre_i C hr hlk hK hW hS (znb rfl) zd_O_post_30

theorem zc_O_post {l : Launch} {B : zB} (hap : zAp B) (x1 : Int) (x2 : Int) (x3 : Int) (S : Sg) (nx1 : zn x1) (nx2 : zn x2) (nx3 : zn x3) {res : Int} {S9 : Sg} (hf : zf_O_post x1 x2 x3 S = some (res, S9)) : Met l zy_O_post (Cond.code zy_O_post zb_O_post 4 (some .int) :: zT) zm_O_post (zP B S [.ref (B.2.1 3 (0) (0)), .int (zI (x1)), .int (zI (x2)), .int (zI (x3))]) (zQi B res S9) 0 0 B.2.2.2 :=
  zmet (by decide) (Nat.le_of_ble_eq_true rfl) (fun p e s m args below meth c C hr hlk hK hSt hW ls hl => zw_O_post C hr hlk hK hSt hap   x1 x2 x3 S nx1 nx2 nx3 hf _ _ _ hW va_S.rf hl)
/-! IslandOffice$Posts.has(I)Z -/
abbrev zy_Q_has : MethodName := ⟨"IslandOffice$Posts", "has", "(I)Z"⟩
abbrev zb_Q_has : ByteArray := prog_8_method_4_code
abbrev zm_Q_has : Room := { frames := 0, cells := 0, slots := 0, locals := 0 }
theorem zq_Q_has : zMy zy_Q_has zb_Q_has 2 (some .boolean) 1 := ⟨zk_787, zk_785, zk_786, zk_6, by decide, by decide, by decide +kernel⟩
theorem zd_Q_has_0 : decode zb_Q_has 0 = .ok (.iload_n 1, 1) := by decide +kernel
theorem zd_Q_has_1 : decode zb_Q_has 1 = .ok (.ifCond .lt 15, 3) := by decide +kernel
theorem zd_Q_has_4 : decode zb_Q_has 4 = .ok (.iload_n 1, 1) := by decide +kernel
theorem zd_Q_has_5 : decode zb_Q_has 5 = .ok (.aload_n 0, 1) := by decide +kernel
theorem zd_Q_has_6 : decode zb_Q_has 6 = .ok (.getfield 9, 3) := by decide +kernel
theorem zd_Q_has_9 : decode zb_Q_has 9 = .ok (.if_icmp .ge 7, 3) := by decide +kernel
theorem zd_Q_has_12 : decode zb_Q_has 12 = .ok (.iconst 1, 1) := by decide +kernel
theorem zd_Q_has_13 : decode zb_Q_has 13 = .ok (.goto 4, 3) := by decide +kernel
theorem zd_Q_has_16 : decode zb_Q_has 16 = .ok (.iconst 0, 1) := by decide +kernel
theorem zd_Q_has_17 : decode zb_Q_has 17 = .ok (.ireturn, 1) := by decide +kernel

def zf_Q_has (r0 : Int) (x1 : Int) (S : Sg) : Option (Int × Sg) :=
    if x1 < 0 then (some (0, S)) else (if (S 0 r0 26 0) ≤ x1 then (some (0, S)) else (some (1, S)))
set_option maxHeartbeats 4000000 in
set_option maxRecDepth 100000 in
theorem zw_Q_has {p : Program} {l : Launch} {e : Env} {s : State} {m : MethodId} {args : Array Value} {below : List Frame} {meth : Method} {c : Code} {B : zB} (C : CallFix p m c zb_Q_has 2 s args zT "IslandOffice$Posts") (hr : meth.sig.returnType = some .boolean) (hlk : meth.locks = false) (hK : zK B s) (hSt : zSt B s) (hap : zAp B) (r0 : Int) (hr0 : 0 ≤ r0 ∧ r0 < 3) {res : Int} {S9 : Sg} : ∀ (x1 : Int) (S : Sg) (nx1 : zn x1), zf_Q_has r0 x1 S = some (res, S9) → ∀ (H : Heap) (locs : List Loc) (ls : Array Slot), zW B S H → va_S B.2.2.2 s.heap H locs → lv_has ls 2 [(0, .ref (B.2.1 0 (r0) (26))), (1, .int (zI (x1)))] → W p l e zm_Q_has s m args below meth c H locs 0 0 (MQ below (zQi B res S9) args s 0 0 B.2.2.2) (F0 m 0 ls []) := by
  intro x1 S nx1 hf H locs ls hW hS hl
  unfold zf_Q_has at hf
  refine lv_iload_n C.1 C.2.1 zd_Q_has_0 rfl (lv_at hl 1 rfl) ?_
  refine zr_if_lt (tgt := 16) C nx1 zd_Q_has_1 (by decide) (fun c1 => ?_) (fun c1 => ?_)
  · rw [if_pos c1] at hf
    refine zr_iconst C zd_Q_has_16 ?_
    cases hf
    exact zre_z C hr hlk hK hW hS (znb rfl) (zb01 (by decide)) zd_Q_has_17
  · rw [if_neg c1] at hf
    refine lv_iload_n C.1 C.2.1 zd_Q_has_4 rfl (lv_at hl 1 rfl) ?_
    refine lv_aload_n C.1 C.2.1 zd_Q_has_5 rfl (lv_at hl 0 rfl) ?_
    refine zg_Q_n (r := r0) C hK hW (zvd_0 hr0 (by decide)) zk_167 zd_Q_has_6 ?_
    refine zr_icmp_ge (tgt := 16) C nx1 (zWn hW _ _ _ _ rfl) zd_Q_has_9 (by decide) (fun c2 => ?_) (fun c2 => ?_)
    · rw [if_pos c2] at hf
      refine zr_iconst C zd_Q_has_16 ?_
      cases hf
      exact zre_z C hr hlk hK hW hS (znb rfl) (zb01 (by decide)) zd_Q_has_17
    · rw [if_neg c2] at hf
      refine zr_iconst C zd_Q_has_12 ?_
      refine lv_goto (tgt := 17) C.1 C.2.1 zd_Q_has_13 (by decide) ?_
      cases hf
      exact zre_z C hr hlk hK hW hS (znb rfl) (zb01 (by decide)) zd_Q_has_17

theorem zc_Q_has {l : Launch} {B : zB} (hap : zAp B) (r0 : Int) (hr0 : 0 ≤ r0 ∧ r0 < 3) (x1 : Int) (S : Sg) (nx1 : zn x1) {res : Int} {S9 : Sg} (hf : zf_Q_has r0 x1 S = some (res, S9)) : Met l zy_Q_has (Cond.code zy_Q_has zb_Q_has 2 (some .boolean) :: zT) zm_Q_has (zP B S [.ref (B.2.1 0 (r0) (26)), .int (zI (x1))]) (zQi B res S9) 0 0 B.2.2.2 :=
  zmet (by decide) (Nat.le_of_ble_eq_true rfl) (fun p e s m args below meth c C hr hlk hK hSt hW ls hl => zw_Q_has C hr hlk hK hSt hap r0 hr0 x1 S nx1 hf _ _ _ hW va_S.rf hl)
/-! IslandOffice.open(IZ)I -/
abbrev zy_O_open : MethodName := ⟨"IslandOffice", "open", "(IZ)I"⟩
abbrev zb_O_open : ByteArray := prog_1_method_20_code
abbrev zm_O_open : Room := { frames := 1, cells := 0, slots := 0, locals := 21 }
theorem zq_O_open : zMy zy_O_open zb_O_open 4 (some .int) 2 := ⟨zk_783, zk_781, zk_782, zk_1, by decide, by decide, by decide +kernel⟩
theorem zd_O_open_0 : decode zb_O_open 0 = .ok (.aload_n 0, 1) := by decide +kernel
theorem zd_O_open_1 : decode zb_O_open 1 = .ok (.getfield 16, 3) := by decide +kernel
theorem zd_O_open_4 : decode zb_O_open 4 = .ok (.getfield 223, 3) := by decide +kernel
theorem zd_O_open_7 : decode zb_O_open 7 = .ok (.iload_n 1, 1) := by decide +kernel
theorem zd_O_open_8 : decode zb_O_open 8 = .ok (.invokevirtual 232, 3) := by decide +kernel
theorem zd_O_open_11 : decode zb_O_open 11 = .ok (.ifCond .ne 5, 3) := by decide +kernel
theorem zd_O_open_14 : decode zb_O_open 14 = .ok (.iconst (-1), 1) := by decide +kernel
theorem zd_O_open_15 : decode zb_O_open 15 = .ok (.ireturn, 1) := by decide +kernel
theorem zd_O_open_16 : decode zb_O_open 16 = .ok (.aload_n 0, 1) := by decide +kernel
theorem zd_O_open_17 : decode zb_O_open 17 = .ok (.getfield 16, 3) := by decide +kernel
theorem zd_O_open_20 : decode zb_O_open 20 = .ok (.getfield 223, 3) := by decide +kernel
theorem zd_O_open_23 : decode zb_O_open 23 = .ok (.getfield 233, 3) := by decide +kernel
theorem zd_O_open_26 : decode zb_O_open 26 = .ok (.iload_n 1, 1) := by decide +kernel
theorem zd_O_open_27 : decode zb_O_open 27 = .ok (.iaload, 1) := by decide +kernel
theorem zd_O_open_28 : decode zb_O_open 28 = .ok (.istore_n 3, 1) := by decide +kernel
theorem zd_O_open_29 : decode zb_O_open 29 = .ok (.aload_n 0, 1) := by decide +kernel
theorem zd_O_open_30 : decode zb_O_open 30 = .ok (.getfield 16, 3) := by decide +kernel
theorem zd_O_open_33 : decode zb_O_open 33 = .ok (.getfield 223, 3) := by decide +kernel
theorem zd_O_open_36 : decode zb_O_open 36 = .ok (.getfield 233, 3) := by decide +kernel
theorem zd_O_open_39 : decode zb_O_open 39 = .ok (.iload_n 1, 1) := by decide +kernel
theorem zd_O_open_40 : decode zb_O_open 40 = .ok (.iload_n 2, 1) := by decide +kernel
theorem zd_O_open_41 : decode zb_O_open 41 = .ok (.ifCond .eq 7, 3) := by decide +kernel
theorem zd_O_open_44 : decode zb_O_open 44 = .ok (.iconst 1, 1) := by decide +kernel
theorem zd_O_open_45 : decode zb_O_open 45 = .ok (.goto 4, 3) := by decide +kernel
theorem zd_O_open_48 : decode zb_O_open 48 = .ok (.iconst 0, 1) := by decide +kernel
theorem zd_O_open_49 : decode zb_O_open 49 = .ok (.iastore, 1) := by decide +kernel
theorem zd_O_open_50 : decode zb_O_open 50 = .ok (.iload_n 3, 1) := by decide +kernel
theorem zd_O_open_51 : decode zb_O_open 51 = .ok (.aload_n 0, 1) := by decide +kernel
theorem zd_O_open_52 : decode zb_O_open 52 = .ok (.getfield 16, 3) := by decide +kernel
theorem zd_O_open_55 : decode zb_O_open 55 = .ok (.getfield 223, 3) := by decide +kernel
theorem zd_O_open_58 : decode zb_O_open 58 = .ok (.getfield 233, 3) := by decide +kernel
theorem zd_O_open_61 : decode zb_O_open 61 = .ok (.iload_n 1, 1) := by decide +kernel
theorem zd_O_open_62 : decode zb_O_open 62 = .ok (.iaload, 1) := by decide +kernel
theorem zd_O_open_63 : decode zb_O_open 63 = .ok (.if_icmp .ne 7, 3) := by decide +kernel
theorem zd_O_open_66 : decode zb_O_open 66 = .ok (.iconst 0, 1) := by decide +kernel
theorem zd_O_open_67 : decode zb_O_open 67 = .ok (.goto 4, 3) := by decide +kernel
theorem zd_O_open_70 : decode zb_O_open 70 = .ok (.iconst 1, 1) := by decide +kernel
theorem zd_O_open_71 : decode zb_O_open 71 = .ok (.ireturn, 1) := by decide +kernel

def zf_O_open_49 (x1 : Int) (x3 : Int) (xt1 : Int) (xt2 : Int) (S : Sg) : Option (Int × Sg) :=
    zck (0 ≤ xt1 ∧ xt1 < 8) <| zlt (zu S 0 0 30 xt1 xt2) fun S2 => zck (0 ≤ x1 ∧ x1 < 8) <| if x3 = (S2 0 0 30 x1) then (some (0, S2)) else (some (1, S2))
set_option maxHeartbeats 4000000 in
set_option maxRecDepth 100000 in
theorem zw_O_open_49 {p : Program} {l : Launch} {e : Env} {s : State} {m : MethodId} {args : Array Value} {below : List Frame} {meth : Method} {c : Code} {B : zB} (C : CallFix p m c zb_O_open 4 s args zT "IslandOffice") (hr : meth.sig.returnType = some .int) (hlk : meth.locks = false) (hK : zK B s) (hSt : zSt B s) (hap : zAp B) {res : Int} {S9 : Sg} : ∀ (x1 : Int) (x3 : Int) (xt1 : Int) (xt2 : Int) (S : Sg) (nx1 : zn x1) (nx3 : zn x3) (nxt1 : zn xt1) (nxt2 : zn xt2), zf_O_open_49 x1 x3 xt1 xt2 S = some (res, S9) → ∀ (H : Heap) (locs : List Loc) (ls : Array Slot), zW B S H → va_S B.2.2.2 s.heap H locs → lv_has ls 4 [(0, .ref (B.2.1 3 (0) (0))), (1, .int (zI (x1))), (3, .int (zI (x3)))] → W p l e zm_O_open s m args below meth c H locs 0 0 (MQ below (zQi B res S9) args s 0 0 B.2.2.2) (F0 m 49 ls [.int (zI (xt2)), .int (zI (xt1)), .ref (B.2.1 0 (0) (30))]) := by
  intro x1 x3 xt1 xt2 S nx1 nx3 nxt1 nxt2 hf H locs ls hW hS hl
  unfold zf_O_open_49 at hf
  obtain ⟨h1, hf⟩ := zck_some hf
  obtain ⟨S2, eS2, hf⟩ := zlt_some hf
  refine ziast C hK hap hW hS (zvd_0 (by decide) (by decide)) (fun f => ze_0_30 B f (0)) (by decide) rfl nxt2 h1 zd_O_open_49 (fun H locs hW hS => ?_)
  rw [eS2] at hW
  refine lv_iload_n C.1 C.2.1 zd_O_open_50 rfl (lv_at hl 2 rfl) ?_
  refine lv_aload_n C.1 C.2.1 zd_O_open_51 rfl (lv_at hl 0 rfl) ?_
  refine zg_O_now (r := 0) C hK hW (zvd_3 (by decide) (by decide)) zk_492 zd_O_open_52 ?_
  refine zg_I_posts (r := 0) C hK hW (zvd_0 (by decide) (by decide)) zk_289 zd_O_open_55 ?_
  refine zg_Q_open (r := 0) C hK hW (zvd_0 (by decide) (by decide)) zk_179 zd_O_open_58 ?_
  refine lv_iload_n C.1 C.2.1 zd_O_open_61 rfl (lv_at hl 1 rfl) ?_
  obtain ⟨h3, hf⟩ := zck_some hf
  refine ziald C hK hW (zvd_0 (by decide) (by decide)) (fun f => ze_0_30 B f (0)) (by decide) h3 zd_O_open_62 ?_
  refine zr_icmp_ne (tgt := 70) C nx3 (zWn hW _ _ _ _ rfl) zd_O_open_63 (by decide) (fun c4 => ?_) (fun c4 => ?_)
  · rw [if_neg c4] at hf
    refine zr_iconst C zd_O_open_70 ?_
    cases hf
    exact zre_i C hr hlk hK hW hS (znb rfl) zd_O_open_71
  · rw [if_pos c4] at hf
    refine zr_iconst C zd_O_open_66 ?_
    refine lv_goto (tgt := 71) C.1 C.2.1 zd_O_open_67 (by decide) ?_
    cases hf
    exact zre_i C hr hlk hK hW hS (znb rfl) zd_O_open_71

def zf_O_open (x1 : Int) (x2 : Int) (S : Sg) : Option (Int × Sg) :=
    zbd (zf_Q_has (0) x1 S) fun a1 S2 => if a1 = 0 then (some (-1, S2)) else (zck (0 ≤ x1 ∧ x1 < 8) <| zlt (S2 0 0 30 x1) fun v5 => if x2 = 0 then (zf_O_open_49 (x1) (v5) (x1) (0) S2) else (zf_O_open_49 (x1) (v5) (x1) (1) S2))
set_option maxHeartbeats 4000000 in
set_option maxRecDepth 100000 in
theorem zw_O_open {p : Program} {l : Launch} {e : Env} {s : State} {m : MethodId} {args : Array Value} {below : List Frame} {meth : Method} {c : Code} {B : zB} (C : CallFix p m c zb_O_open 4 s args zT "IslandOffice") (hr : meth.sig.returnType = some .int) (hlk : meth.locks = false) (hK : zK B s) (hSt : zSt B s) (hap : zAp B) {res : Int} {S9 : Sg} : ∀ (x1 : Int) (x2 : Int) (S : Sg) (nx1 : zn x1) (nx2 : zn x2), zf_O_open x1 x2 S = some (res, S9) → ∀ (H : Heap) (locs : List Loc) (ls : Array Slot), zW B S H → va_S B.2.2.2 s.heap H locs → lv_has ls 4 [(0, .ref (B.2.1 3 (0) (0))), (1, .int (zI (x1))), (2, .int (zI (x2)))] → W p l e zm_O_open s m args below meth c H locs 0 0 (MQ below (zQi B res S9) args s 0 0 B.2.2.2) (F0 m 0 ls []) := by
  intro x1 x2 S nx1 nx2 hf H locs ls hW hS hl
  unfold zf_O_open at hf
  refine lv_aload_n C.1 C.2.1 zd_O_open_0 rfl (lv_at hl 0 rfl) ?_
  refine zg_O_now (r := 0) C hK hW (zvd_3 (by decide) (by decide)) zk_492 zd_O_open_1 ?_
  refine zg_I_posts (r := 0) C hK hW (zvd_0 (by decide) (by decide)) zk_289 zd_O_open_4 ?_
  refine lv_iload_n C.1 C.2.1 zd_O_open_7 rfl (lv_at hl 1 rfl) ?_
  obtain ⟨a1, S2, ea1, hf⟩ := zbd_some hf
  refine zcVi (As := [.int (zI (x1))]) (rest := []) C hK hSt hW hS (zc_Q_has hap (0) (by decide) x1 S nx1 ea1) zq_Q_has zk_784 (zrecv hK hW (zvd_0 (by decide) (by decide)) (ze_0_26 B _ (0)) rfl) ⟨rfl, rfl, by decide, by decide⟩ ⟨Nat.zero_le _, Nat.zero_le _⟩ rfl hl.1 rfl (lv_room (Nat.le_of_ble_eq_true rfl)) zd_O_open_8 (fun na1 H locs hW hS => ?_)
  refine zr_if_ne (tgt := 16) C na1 zd_O_open_11 (by decide) (fun c3 => ?_) (fun c3 => ?_)
  · rw [if_neg c3] at hf
    refine lv_aload_n C.1 C.2.1 zd_O_open_16 rfl (lv_at hl 0 rfl) ?_
    refine zg_O_now (r := 0) C hK hW (zvd_3 (by decide) (by decide)) zk_492 zd_O_open_17 ?_
    refine zg_I_posts (r := 0) C hK hW (zvd_0 (by decide) (by decide)) zk_289 zd_O_open_20 ?_
    refine zg_Q_open (r := 0) C hK hW (zvd_0 (by decide) (by decide)) zk_179 zd_O_open_23 ?_
    refine lv_iload_n C.1 C.2.1 zd_O_open_26 rfl (lv_at hl 1 rfl) ?_
    obtain ⟨h4, hf⟩ := zck_some hf
    refine ziald C hK hW (zvd_0 (by decide) (by decide)) (fun f => ze_0_30 B f (0)) (by decide) h4 zd_O_open_27 ?_
    obtain ⟨v5, ev5, hf⟩ := zlt_some hf
    have nv5 : zn v5 := by rw [← ev5]; exact (zWn hW _ _ _ _ rfl)
    rw [ev5]
    refine lv_istore_n (lv' := [(3, .int (zI (v5))), (0, .ref (B.2.1 3 (0) (0))), (1, .int (zI (x1))), (2, .int (zI (x2)))]) C.1 C.2.1 zd_O_open_28 rfl hl (by decide) rfl (fun ls hl => ?_)
    refine lv_aload_n C.1 C.2.1 zd_O_open_29 rfl (lv_at hl 1 rfl) ?_
    refine zg_O_now (r := 0) C hK hW (zvd_3 (by decide) (by decide)) zk_492 zd_O_open_30 ?_
    refine zg_I_posts (r := 0) C hK hW (zvd_0 (by decide) (by decide)) zk_289 zd_O_open_33 ?_
    refine zg_Q_open (r := 0) C hK hW (zvd_0 (by decide) (by decide)) zk_179 zd_O_open_36 ?_
    refine lv_iload_n C.1 C.2.1 zd_O_open_39 rfl (lv_at hl 2 rfl) ?_
    refine lv_iload_n C.1 C.2.1 zd_O_open_40 rfl (lv_at hl 3 rfl) ?_
    refine zr_if_eq (tgt := 48) C nx2 zd_O_open_41 (by decide) (fun c6 => ?_) (fun c6 => ?_)
    · rw [if_pos c6] at hf
      refine zr_iconst C zd_O_open_48 ?_
      exact zw_O_open_49 C hr hlk hK hSt hap   (x1) (v5) (x1) (0) S2 nx1 nv5 nx1 (znb rfl) hf _ _ _ hW hS (lv_sub hl [1, 2, 0] rfl)
    · rw [if_neg c6] at hf
      refine zr_iconst C zd_O_open_44 ?_
      refine lv_goto (tgt := 49) C.1 C.2.1 zd_O_open_45 (by decide) ?_
      exact zw_O_open_49 C hr hlk hK hSt hap   (x1) (v5) (x1) (1) S2 nx1 nv5 nx1 (znb rfl) hf _ _ _ hW hS (lv_sub hl [1, 2, 0] rfl)
  · rw [if_pos c3] at hf
    refine zr_iconst C zd_O_open_14 ?_
    cases hf
    exact zre_i C hr hlk hK hW hS (znb rfl) zd_O_open_15

theorem zc_O_open {l : Launch} {B : zB} (hap : zAp B) (x1 : Int) (x2 : Int) (S : Sg) (nx1 : zn x1) (nx2 : zn x2) {res : Int} {S9 : Sg} (hf : zf_O_open x1 x2 S = some (res, S9)) : Met l zy_O_open (Cond.code zy_O_open zb_O_open 4 (some .int) :: zT) zm_O_open (zP B S [.ref (B.2.1 3 (0) (0)), .int (zI (x1)), .int (zI (x2))]) (zQi B res S9) 0 0 B.2.2.2 :=
  zmet (by decide) (Nat.le_of_ble_eq_true rfl) (fun p e s m args below meth c C hr hlk hK hSt hW ls hl => zw_O_open C hr hlk hK hSt hap   x1 x2 S nx1 nx2 hf _ _ _ hW va_S.rf hl)
/-! IslandOffice$Crews.asBefore()Z -/
abbrev zy_C_asBefore : MethodName := ⟨"IslandOffice$Crews", "asBefore", "()Z"⟩
abbrev zb_C_asBefore : ByteArray := prog_3_method_4_code
abbrev zm_C_asBefore : Room := { frames := 0, cells := 0, slots := 0, locals := 0 }
theorem zq_C_asBefore : zMy zy_C_asBefore zb_C_asBefore 2 (some .boolean) 0 := ⟨zk_809, zk_808, zs_18, zk_12, by decide, by decide, by decide +kernel⟩
theorem zd_C_asBefore_0 : decode zb_C_asBefore 0 = .ok (.iconst 0, 1) := by decide +kernel
theorem zd_C_asBefore_1 : decode zb_C_asBefore 1 = .ok (.istore_n 1, 1) := by decide +kernel
theorem zd_C_asBefore_2 : decode zb_C_asBefore 2 = .ok (.iload_n 1, 1) := by decide +kernel
theorem zd_C_asBefore_3 : decode zb_C_asBefore 3 = .ok (.bipush 8, 2) := by decide +kernel
theorem zd_C_asBefore_5 : decode zb_C_asBefore 5 = .ok (.if_icmp .ge 42, 3) := by decide +kernel
theorem zd_C_asBefore_8 : decode zb_C_asBefore 8 = .ok (.aload_n 0, 1) := by decide +kernel
theorem zd_C_asBefore_9 : decode zb_C_asBefore 9 = .ok (.getfield 15, 3) := by decide +kernel
theorem zd_C_asBefore_12 : decode zb_C_asBefore 12 = .ok (.iload_n 1, 1) := by decide +kernel
theorem zd_C_asBefore_13 : decode zb_C_asBefore 13 = .ok (.laload, 1) := by decide +kernel
theorem zd_C_asBefore_14 : decode zb_C_asBefore 14 = .ok (.aload_n 0, 1) := by decide +kernel
theorem zd_C_asBefore_15 : decode zb_C_asBefore 15 = .ok (.getfield 22, 3) := by decide +kernel
theorem zd_C_asBefore_18 : decode zb_C_asBefore 18 = .ok (.iload_n 1, 1) := by decide +kernel
theorem zd_C_asBefore_19 : decode zb_C_asBefore 19 = .ok (.laload, 1) := by decide +kernel
theorem zd_C_asBefore_20 : decode zb_C_asBefore 20 = .ok (.lcmp, 1) := by decide +kernel
theorem zd_C_asBefore_21 : decode zb_C_asBefore 21 = .ok (.ifCond .ne 18, 3) := by decide +kernel
theorem zd_C_asBefore_24 : decode zb_C_asBefore 24 = .ok (.aload_n 0, 1) := by decide +kernel
theorem zd_C_asBefore_25 : decode zb_C_asBefore 25 = .ok (.getfield 18, 3) := by decide +kernel
theorem zd_C_asBefore_28 : decode zb_C_asBefore 28 = .ok (.iload_n 1, 1) := by decide +kernel
theorem zd_C_asBefore_29 : decode zb_C_asBefore 29 = .ok (.iaload, 1) := by decide +kernel
theorem zd_C_asBefore_30 : decode zb_C_asBefore 30 = .ok (.aload_n 0, 1) := by decide +kernel
theorem zd_C_asBefore_31 : decode zb_C_asBefore 31 = .ok (.getfield 25, 3) := by decide +kernel
theorem zd_C_asBefore_34 : decode zb_C_asBefore 34 = .ok (.iload_n 1, 1) := by decide +kernel
theorem zd_C_asBefore_35 : decode zb_C_asBefore 35 = .ok (.iaload, 1) := by decide +kernel
theorem zd_C_asBefore_36 : decode zb_C_asBefore 36 = .ok (.if_icmp .eq 5, 3) := by decide +kernel
theorem zd_C_asBefore_39 : decode zb_C_asBefore 39 = .ok (.iconst 0, 1) := by decide +kernel
theorem zd_C_asBefore_40 : decode zb_C_asBefore 40 = .ok (.ireturn, 1) := by decide +kernel
theorem zd_C_asBefore_41 : decode zb_C_asBefore 41 = .ok (.iinc 1 1, 3) := by decide +kernel
theorem zd_C_asBefore_44 : decode zb_C_asBefore 44 = .ok (.goto (-42), 3) := by decide +kernel
theorem zd_C_asBefore_47 : decode zb_C_asBefore 47 = .ok (.iconst 1, 1) := by decide +kernel
theorem zd_C_asBefore_48 : decode zb_C_asBefore 48 = .ok (.ireturn, 1) := by decide +kernel

def zf_C_asBefore_2 : Nat → Int → Sg → Option (Int × Sg)
  | 0, _, _ => none
  | n + 1, x1, S =>
    if 8 ≤ x1 then (some (1, S)) else (zck (0 ≤ x1 ∧ x1 < 8) <| if (zcmp (S 20 0 1 x1) (S 20 0 2 x1)) = 0 then (if (S 3 0 11 x1) = (S 3 0 12 x1) then (zlt (zw (x1 + 1)) fun v5 => (zf_C_asBefore_2 n) (v5) S) else (some (0, S))) else (some (0, S)))
set_option maxHeartbeats 4000000 in
set_option maxRecDepth 100000 in
theorem zw_C_asBefore_2 {p : Program} {l : Launch} {e : Env} {s : State} {m : MethodId} {args : Array Value} {below : List Frame} {meth : Method} {c : Code} {B : zB} (C : CallFix p m c zb_C_asBefore 2 s args zT "IslandOffice$Crews") (hr : meth.sig.returnType = some .boolean) (hlk : meth.locks = false) (hK : zK B s) (hSt : zSt B s) (hap : zAp B) {res : Int} {S9 : Sg} : ∀ n : Nat, ∀ (x1 : Int) (S : Sg) (nx1 : zn x1), zf_C_asBefore_2 n x1 S = some (res, S9) → ∀ (H : Heap) (locs : List Loc) (ls : Array Slot), zW B S H → va_S B.2.2.2 s.heap H locs → lv_has ls 2 [(0, .ref (B.2.1 3 (0) (10))), (1, .int (zI (x1)))] → W p l e zm_C_asBefore s m args below meth c H locs 0 0 (MQ below (zQi B res S9) args s 0 0 B.2.2.2) (F0 m 2 ls []) := by
  intro n
  induction n with
  | zero =>
    intro x1 S nx1 hf H locs ls hW hS hl
    cases hf
  | succ n ih =>
    intro x1 S nx1 hf H locs ls hW hS hl
    rw [zf_C_asBefore_2] at hf
    refine lv_iload_n C.1 C.2.1 zd_C_asBefore_2 rfl (lv_at hl 1 rfl) ?_
    refine zr_bipush C zd_C_asBefore_3 (by decide) ?_
    refine zr_icmp_ge (tgt := 47) C nx1 (znb rfl) zd_C_asBefore_5 (by decide) (fun c1 => ?_) (fun c1 => ?_)
    · rw [if_pos c1] at hf
      refine zr_iconst C zd_C_asBefore_47 ?_
      cases hf
      exact zre_z C hr hlk hK hW hS (znb rfl) (zb01 (by decide)) zd_C_asBefore_48
    · rw [if_neg c1] at hf
      refine lv_aload_n C.1 C.2.1 zd_C_asBefore_8 rfl (lv_at hl 0 rfl) ?_
      refine zg_C_can (r := 0) C hK hW (zvd_3 (by decide) (by decide)) zk_432 zd_C_asBefore_9 ?_
      refine lv_iload_n C.1 C.2.1 zd_C_asBefore_12 rfl (lv_at hl 1 rfl) ?_
      obtain ⟨h2, hf⟩ := zck_some hf
      refine zlald C hK hW (zvd_20 (by decide) (by decide)) (fun f => ze_20_1 B f (0)) (by decide) h2 zd_C_asBefore_13 ?_
      refine lv_aload_n C.1 C.2.1 zd_C_asBefore_14 rfl (lv_at hl 0 rfl) ?_
      refine zg_C_canBefore (r := 0) C hK hW (zvd_3 (by decide) (by decide)) zk_434 zd_C_asBefore_15 ?_
      refine lv_iload_n C.1 C.2.1 zd_C_asBefore_18 rfl (lv_at hl 1 rfl) ?_
      refine zlald C hK hW (zvd_20 (by decide) (by decide)) (fun f => ze_20_2 B f (0)) (by decide) h2 zd_C_asBefore_19 ?_
      refine zr_lcmp C (zWm hW _ _ _ _ rfl) (zWm hW _ _ _ _ rfl) zd_C_asBefore_20 ?_
      refine zr_if_ne (tgt := 39) C (zn_cmp _ _) zd_C_asBefore_21 (by decide) (fun c3 => ?_) (fun c3 => ?_)
      · rw [if_neg c3] at hf
        refine zr_iconst C zd_C_asBefore_39 ?_
        cases hf
        exact zre_z C hr hlk hK hW hS (znb rfl) (zb01 (by decide)) zd_C_asBefore_40
      · rw [if_pos c3] at hf
        refine lv_aload_n C.1 C.2.1 zd_C_asBefore_24 rfl (lv_at hl 0 rfl) ?_
        refine zg_C_hands (r := 0) C hK hW (zvd_3 (by decide) (by decide)) zk_433 zd_C_asBefore_25 ?_
        refine lv_iload_n C.1 C.2.1 zd_C_asBefore_28 rfl (lv_at hl 1 rfl) ?_
        refine ziald C hK hW (zvd_3 (by decide) (by decide)) (fun f => ze_3_11 B f (0)) (by decide) h2 zd_C_asBefore_29 ?_
        refine lv_aload_n C.1 C.2.1 zd_C_asBefore_30 rfl (lv_at hl 0 rfl) ?_
        refine zg_C_handsBefore (r := 0) C hK hW (zvd_3 (by decide) (by decide)) zk_435 zd_C_asBefore_31 ?_
        refine lv_iload_n C.1 C.2.1 zd_C_asBefore_34 rfl (lv_at hl 1 rfl) ?_
        refine ziald C hK hW (zvd_3 (by decide) (by decide)) (fun f => ze_3_12 B f (0)) (by decide) h2 zd_C_asBefore_35 ?_
        refine zr_icmp_eq (tgt := 41) C (zWn hW _ _ _ _ rfl) (zWn hW _ _ _ _ rfl) zd_C_asBefore_36 (by decide) (fun c4 => ?_) (fun c4 => ?_)
        · rw [if_pos c4] at hf
          obtain ⟨v5, ev5, hf⟩ := zlt_some hf
          have nv5 : zn v5 := by rw [← ev5]; exact zn_w _
          refine lv_iinc (v := zI v5) (lv' := [(1, .int (zI (v5))), (0, .ref (B.2.1 3 (0) (10)))]) C.1 C.2.1 zd_C_asBefore_41 hl (k := 1) rfl (by rw [← ev5, ← zI_add]; rfl) (by decide) rfl (fun ls hl => ?_)
          refine lv_goto (tgt := 2) C.1 C.2.1 zd_C_asBefore_44 (by decide) ?_
          exact ih (v5) S nv5 hf _ _ _ hW hS (lv_sub hl [1, 0] rfl)
        · rw [if_neg c4] at hf
          refine zr_iconst C zd_C_asBefore_39 ?_
          cases hf
          exact zre_z C hr hlk hK hW hS (znb rfl) (zb01 (by decide)) zd_C_asBefore_40

def zf_C_asBefore (S : Sg) : Option (Int × Sg) :=
    zf_C_asBefore_2 4096 (0) S
set_option maxHeartbeats 4000000 in
set_option maxRecDepth 100000 in
theorem zw_C_asBefore {p : Program} {l : Launch} {e : Env} {s : State} {m : MethodId} {args : Array Value} {below : List Frame} {meth : Method} {c : Code} {B : zB} (C : CallFix p m c zb_C_asBefore 2 s args zT "IslandOffice$Crews") (hr : meth.sig.returnType = some .boolean) (hlk : meth.locks = false) (hK : zK B s) (hSt : zSt B s) (hap : zAp B) {res : Int} {S9 : Sg} : ∀  (S : Sg) , zf_C_asBefore  S = some (res, S9) → ∀ (H : Heap) (locs : List Loc) (ls : Array Slot), zW B S H → va_S B.2.2.2 s.heap H locs → lv_has ls 2 [(0, .ref (B.2.1 3 (0) (10)))] → W p l e zm_C_asBefore s m args below meth c H locs 0 0 (MQ below (zQi B res S9) args s 0 0 B.2.2.2) (F0 m 0 ls []) := by
  intro S hf H locs ls hW hS hl
  unfold zf_C_asBefore at hf
  refine zr_iconst C zd_C_asBefore_0 ?_
  refine lv_istore_n (lv' := [(1, .int (zI (0))), (0, .ref (B.2.1 3 (0) (10)))]) C.1 C.2.1 zd_C_asBefore_1 rfl hl (by decide) rfl (fun ls hl => ?_)
  exact zw_C_asBefore_2 C hr hlk hK hSt hap   4096 (0) S (znb rfl) hf _ _ _ hW hS (lv_sub hl [1, 0] rfl)

theorem zc_C_asBefore {l : Launch} {B : zB} (hap : zAp B) (S : Sg) {res : Int} {S9 : Sg} (hf : zf_C_asBefore  S = some (res, S9)) : Met l zy_C_asBefore (Cond.code zy_C_asBefore zb_C_asBefore 2 (some .boolean) :: zT) zm_C_asBefore (zP B S [.ref (B.2.1 3 (0) (10))]) (zQi B res S9) 0 0 B.2.2.2 :=
  zmet (by decide) (Nat.le_of_ble_eq_true rfl) (fun p e s m args below meth c C hr hlk hK hSt hW ls hl => zw_C_asBefore C hr hlk hK hSt hap    S  hf _ _ _ hW va_S.rf hl)
/-! IslandOffice$Posts.wantedSkills()I -/
abbrev zy_Q_wantedSkills : MethodName := ⟨"IslandOffice$Posts", "wantedSkills", "()I"⟩
abbrev zb_Q_wantedSkills : ByteArray := prog_8_method_5_code
abbrev zm_Q_wantedSkills : Room := { frames := 0, cells := 0, slots := 0, locals := 0 }
theorem zq_Q_wantedSkills : zMy zy_Q_wantedSkills zb_Q_wantedSkills 3 (some .int) 0 := ⟨zk_803, zk_801, zk_802, zk_6, by decide, by decide, by decide +kernel⟩
theorem zd_Q_wantedSkills_0 : decode zb_Q_wantedSkills 0 = .ok (.iconst 0, 1) := by decide +kernel
theorem zd_Q_wantedSkills_1 : decode zb_Q_wantedSkills 1 = .ok (.istore_n 1, 1) := by decide +kernel
theorem zd_Q_wantedSkills_2 : decode zb_Q_wantedSkills 2 = .ok (.iconst 0, 1) := by decide +kernel
theorem zd_Q_wantedSkills_3 : decode zb_Q_wantedSkills 3 = .ok (.istore_n 2, 1) := by decide +kernel
theorem zd_Q_wantedSkills_4 : decode zb_Q_wantedSkills 4 = .ok (.iload_n 2, 1) := by decide +kernel
theorem zd_Q_wantedSkills_5 : decode zb_Q_wantedSkills 5 = .ok (.aload_n 0, 1) := by decide +kernel
theorem zd_Q_wantedSkills_6 : decode zb_Q_wantedSkills 6 = .ok (.getfield 9, 3) := by decide +kernel
theorem zd_Q_wantedSkills_9 : decode zb_Q_wantedSkills 9 = .ok (.if_icmp .ge 30, 3) := by decide +kernel
theorem zd_Q_wantedSkills_12 : decode zb_Q_wantedSkills 12 = .ok (.aload_n 0, 1) := by decide +kernel
theorem zd_Q_wantedSkills_13 : decode zb_Q_wantedSkills 13 = .ok (.getfield 25, 3) := by decide +kernel
theorem zd_Q_wantedSkills_16 : decode zb_Q_wantedSkills 16 = .ok (.iload_n 2, 1) := by decide +kernel
theorem zd_Q_wantedSkills_17 : decode zb_Q_wantedSkills 17 = .ok (.iaload, 1) := by decide +kernel
theorem zd_Q_wantedSkills_18 : decode zb_Q_wantedSkills 18 = .ok (.iconst 1, 1) := by decide +kernel
theorem zd_Q_wantedSkills_19 : decode zb_Q_wantedSkills 19 = .ok (.if_icmp .ne 14, 3) := by decide +kernel
theorem zd_Q_wantedSkills_22 : decode zb_Q_wantedSkills 22 = .ok (.iload_n 1, 1) := by decide +kernel
theorem zd_Q_wantedSkills_23 : decode zb_Q_wantedSkills 23 = .ok (.iconst 1, 1) := by decide +kernel
theorem zd_Q_wantedSkills_24 : decode zb_Q_wantedSkills 24 = .ok (.aload_n 0, 1) := by decide +kernel
theorem zd_Q_wantedSkills_25 : decode zb_Q_wantedSkills 25 = .ok (.getfield 15, 3) := by decide +kernel
theorem zd_Q_wantedSkills_28 : decode zb_Q_wantedSkills 28 = .ok (.iload_n 2, 1) := by decide +kernel
theorem zd_Q_wantedSkills_29 : decode zb_Q_wantedSkills 29 = .ok (.iaload, 1) := by decide +kernel
theorem zd_Q_wantedSkills_30 : decode zb_Q_wantedSkills 30 = .ok (.ishl, 1) := by decide +kernel
theorem zd_Q_wantedSkills_31 : decode zb_Q_wantedSkills 31 = .ok (.ior, 1) := by decide +kernel
theorem zd_Q_wantedSkills_32 : decode zb_Q_wantedSkills 32 = .ok (.istore_n 1, 1) := by decide +kernel
theorem zd_Q_wantedSkills_33 : decode zb_Q_wantedSkills 33 = .ok (.iinc 2 1, 3) := by decide +kernel
theorem zd_Q_wantedSkills_36 : decode zb_Q_wantedSkills 36 = .ok (.goto (-32), 3) := by decide +kernel
theorem zd_Q_wantedSkills_39 : decode zb_Q_wantedSkills 39 = .ok (.iload_n 1, 1) := by decide +kernel
theorem zd_Q_wantedSkills_40 : decode zb_Q_wantedSkills 40 = .ok (.ireturn, 1) := by decide +kernel

def zf_Q_wantedSkills_33 (r0 : Int) (q4 : Int → Int → Sg → Option (Int × Sg)) (x1 : Int) (x2 : Int) (S : Sg) : Option (Int × Sg) :=
    zlt (zw (x2 + 1)) fun v1 => q4 (x1) (v1) S
set_option maxHeartbeats 4000000 in
set_option maxRecDepth 100000 in
theorem zw_Q_wantedSkills_33 {p : Program} {l : Launch} {e : Env} {s : State} {m : MethodId} {args : Array Value} {below : List Frame} {meth : Method} {c : Code} {B : zB} (C : CallFix p m c zb_Q_wantedSkills 3 s args zT "IslandOffice$Posts") (hr : meth.sig.returnType = some .int) (hlk : meth.locks = false) (hK : zK B s) (hSt : zSt B s) (hap : zAp B) (r0 : Int) (hr0 : 0 ≤ r0 ∧ r0 < 3) {res : Int} {S9 : Sg} (q4 : Int → Int → Sg → Option (Int × Sg)) (hq4 : ∀ (x1 : Int) (x2 : Int) (S : Sg) (nx1 : zn x1) (nx2 : zn x2), q4 x1 x2 S = some (res, S9) → ∀ (H : Heap) (locs : List Loc) (ls : Array Slot), zW B S H → va_S B.2.2.2 s.heap H locs → lv_has ls 3 [(0, .ref (B.2.1 0 (r0) (26))), (1, .int (zI (x1))), (2, .int (zI (x2)))] → W p l e zm_Q_wantedSkills s m args below meth c H locs 0 0 (MQ below (zQi B res S9) args s 0 0 B.2.2.2) (F0 m 4 ls [])) : ∀ (x1 : Int) (x2 : Int) (S : Sg) (nx1 : zn x1) (nx2 : zn x2), zf_Q_wantedSkills_33 r0 q4 x1 x2 S = some (res, S9) → ∀ (H : Heap) (locs : List Loc) (ls : Array Slot), zW B S H → va_S B.2.2.2 s.heap H locs → lv_has ls 3 [(0, .ref (B.2.1 0 (r0) (26))), (1, .int (zI (x1))), (2, .int (zI (x2)))] → W p l e zm_Q_wantedSkills s m args below meth c H locs 0 0 (MQ below (zQi B res S9) args s 0 0 B.2.2.2) (F0 m 33 ls []) := by
  intro x1 x2 S nx1 nx2 hf H locs ls hW hS hl
  unfold zf_Q_wantedSkills_33 at hf
  obtain ⟨v1, ev1, hf⟩ := zlt_some hf
  have nv1 : zn v1 := by rw [← ev1]; exact zn_w _
  refine lv_iinc (v := zI v1) (lv' := [(2, .int (zI (v1))), (0, .ref (B.2.1 0 (r0) (26))), (1, .int (zI (x1)))]) C.1 C.2.1 zd_Q_wantedSkills_33 hl (k := 2) rfl (by rw [← ev1, ← zI_add]; rfl) (by decide) rfl (fun ls hl => ?_)
  refine lv_goto (tgt := 4) C.1 C.2.1 zd_Q_wantedSkills_36 (by decide) ?_
  exact hq4 (x1) (v1) S nx1 nv1 hf _ _ _ hW hS (lv_sub hl [1, 2, 0] rfl)

def zf_Q_wantedSkills_4 (r0 : Int) : Nat → Int → Int → Sg → Option (Int × Sg)
  | 0, _, _, _ => none
  | n + 1, x1, x2, S =>
    if (S 0 r0 26 0) ≤ x2 then (some (x1, S)) else (zck (0 ≤ x2 ∧ x2 < 8) <| if (S 0 r0 30 x2) = 1 then (zlt (zor x1 (zshl 1 (S 0 r0 27 x2))) fun v4 => zf_Q_wantedSkills_33 r0 (zf_Q_wantedSkills_4 r0 n) (v4) (x2) S) else (zf_Q_wantedSkills_33 r0 (zf_Q_wantedSkills_4 r0 n) (x1) (x2) S))
set_option maxHeartbeats 4000000 in
set_option maxRecDepth 100000 in
theorem zw_Q_wantedSkills_4 {p : Program} {l : Launch} {e : Env} {s : State} {m : MethodId} {args : Array Value} {below : List Frame} {meth : Method} {c : Code} {B : zB} (C : CallFix p m c zb_Q_wantedSkills 3 s args zT "IslandOffice$Posts") (hr : meth.sig.returnType = some .int) (hlk : meth.locks = false) (hK : zK B s) (hSt : zSt B s) (hap : zAp B) (r0 : Int) (hr0 : 0 ≤ r0 ∧ r0 < 3) {res : Int} {S9 : Sg} : ∀ n : Nat, ∀ (x1 : Int) (x2 : Int) (S : Sg) (nx1 : zn x1) (nx2 : zn x2), zf_Q_wantedSkills_4 r0 n x1 x2 S = some (res, S9) → ∀ (H : Heap) (locs : List Loc) (ls : Array Slot), zW B S H → va_S B.2.2.2 s.heap H locs → lv_has ls 3 [(0, .ref (B.2.1 0 (r0) (26))), (1, .int (zI (x1))), (2, .int (zI (x2)))] → W p l e zm_Q_wantedSkills s m args below meth c H locs 0 0 (MQ below (zQi B res S9) args s 0 0 B.2.2.2) (F0 m 4 ls []) := by
  intro n
  induction n with
  | zero =>
    intro x1 x2 S nx1 nx2 hf H locs ls hW hS hl
    cases hf
  | succ n ih =>
    intro x1 x2 S nx1 nx2 hf H locs ls hW hS hl
    rw [zf_Q_wantedSkills_4] at hf
    refine lv_iload_n C.1 C.2.1 zd_Q_wantedSkills_4 rfl (lv_at hl 2 rfl) ?_
    refine lv_aload_n C.1 C.2.1 zd_Q_wantedSkills_5 rfl (lv_at hl 0 rfl) ?_
    refine zg_Q_n (r := r0) C hK hW (zvd_0 hr0 (by decide)) zk_167 zd_Q_wantedSkills_6 ?_
    refine zr_icmp_ge (tgt := 39) C nx2 (zWn hW _ _ _ _ rfl) zd_Q_wantedSkills_9 (by decide) (fun c1 => ?_) (fun c1 => ?_)
    · rw [if_pos c1] at hf
      refine lv_iload_n C.1 C.2.1 zd_Q_wantedSkills_39 rfl (lv_at hl 1 rfl) ?_
      cases hf
      exact zre_i C hr hlk hK hW hS nx1 zd_Q_wantedSkills_40
    · rw [if_neg c1] at hf
      refine lv_aload_n C.1 C.2.1 zd_Q_wantedSkills_12 rfl (lv_at hl 0 rfl) ?_
      refine zg_Q_open (r := r0) C hK hW (zvd_0 hr0 (by decide)) zk_177 zd_Q_wantedSkills_13 ?_
      refine lv_iload_n C.1 C.2.1 zd_Q_wantedSkills_16 rfl (lv_at hl 2 rfl) ?_
      obtain ⟨h2, hf⟩ := zck_some hf
      refine ziald C hK hW (zvd_0 hr0 (by decide)) (fun f => ze_0_30 B f (r0)) (by decide) h2 zd_Q_wantedSkills_17 ?_
      refine zr_iconst C zd_Q_wantedSkills_18 ?_
      refine zr_icmp_ne (tgt := 33) C (zWn hW _ _ _ _ rfl) (znb rfl) zd_Q_wantedSkills_19 (by decide) (fun c3 => ?_) (fun c3 => ?_)
      · rw [if_neg c3] at hf
        exact zw_Q_wantedSkills_33 C hr hlk hK hSt hap r0 hr0 (zf_Q_wantedSkills_4 r0 n) (ih) (x1) (x2) S nx1 nx2 hf _ _ _ hW hS (lv_sub hl [0, 1, 2] rfl)
      · rw [if_pos c3] at hf
        refine lv_iload_n C.1 C.2.1 zd_Q_wantedSkills_22 rfl (lv_at hl 1 rfl) ?_
        refine zr_iconst C zd_Q_wantedSkills_23 ?_
        refine lv_aload_n C.1 C.2.1 zd_Q_wantedSkills_24 rfl (lv_at hl 0 rfl) ?_
        refine zg_Q_skill (r := r0) C hK hW (zvd_0 hr0 (by decide)) zk_171 zd_Q_wantedSkills_25 ?_
        refine lv_iload_n C.1 C.2.1 zd_Q_wantedSkills_28 rfl (lv_at hl 2 rfl) ?_
        refine ziald C hK hW (zvd_0 hr0 (by decide)) (fun f => ze_0_27 B f (r0)) (by decide) h2 zd_Q_wantedSkills_29 ?_
        refine zr_ishl C zd_Q_wantedSkills_30 ?_
        refine zr_ior C zd_Q_wantedSkills_31 ?_
        obtain ⟨v4, ev4, hf⟩ := zlt_some hf
        have nv4 : zn v4 := by rw [← ev4]; exact (zn_or _ _)
        rw [ev4]
        refine lv_istore_n (lv' := [(1, .int (zI (v4))), (0, .ref (B.2.1 0 (r0) (26))), (2, .int (zI (x2)))]) C.1 C.2.1 zd_Q_wantedSkills_32 rfl hl (by decide) rfl (fun ls hl => ?_)
        exact zw_Q_wantedSkills_33 C hr hlk hK hSt hap r0 hr0 (zf_Q_wantedSkills_4 r0 n) (ih) (v4) (x2) S nv4 nx2 hf _ _ _ hW hS (lv_sub hl [1, 0, 2] rfl)

def zf_Q_wantedSkills (r0 : Int) (S : Sg) : Option (Int × Sg) :=
    zf_Q_wantedSkills_4 r0 4096 (0) (0) S
set_option maxHeartbeats 4000000 in
set_option maxRecDepth 100000 in
theorem zw_Q_wantedSkills {p : Program} {l : Launch} {e : Env} {s : State} {m : MethodId} {args : Array Value} {below : List Frame} {meth : Method} {c : Code} {B : zB} (C : CallFix p m c zb_Q_wantedSkills 3 s args zT "IslandOffice$Posts") (hr : meth.sig.returnType = some .int) (hlk : meth.locks = false) (hK : zK B s) (hSt : zSt B s) (hap : zAp B) (r0 : Int) (hr0 : 0 ≤ r0 ∧ r0 < 3) {res : Int} {S9 : Sg} : ∀  (S : Sg) , zf_Q_wantedSkills r0  S = some (res, S9) → ∀ (H : Heap) (locs : List Loc) (ls : Array Slot), zW B S H → va_S B.2.2.2 s.heap H locs → lv_has ls 3 [(0, .ref (B.2.1 0 (r0) (26)))] → W p l e zm_Q_wantedSkills s m args below meth c H locs 0 0 (MQ below (zQi B res S9) args s 0 0 B.2.2.2) (F0 m 0 ls []) := by
  intro S hf H locs ls hW hS hl
  unfold zf_Q_wantedSkills at hf
  refine zr_iconst C zd_Q_wantedSkills_0 ?_
  refine lv_istore_n (lv' := [(1, .int (zI (0))), (0, .ref (B.2.1 0 (r0) (26)))]) C.1 C.2.1 zd_Q_wantedSkills_1 rfl hl (by decide) rfl (fun ls hl => ?_)
  refine zr_iconst C zd_Q_wantedSkills_2 ?_
  refine lv_istore_n (lv' := [(2, .int (zI (0))), (1, .int (zI (0))), (0, .ref (B.2.1 0 (r0) (26)))]) C.1 C.2.1 zd_Q_wantedSkills_3 rfl hl (by decide) rfl (fun ls hl => ?_)
  exact zw_Q_wantedSkills_4 C hr hlk hK hSt hap r0 hr0 4096 (0) (0) S (znb rfl) (znb rfl) hf _ _ _ hW hS (lv_sub hl [2, 1, 0] rfl)

theorem zc_Q_wantedSkills {l : Launch} {B : zB} (hap : zAp B) (r0 : Int) (hr0 : 0 ≤ r0 ∧ r0 < 3) (S : Sg) {res : Int} {S9 : Sg} (hf : zf_Q_wantedSkills r0 S = some (res, S9)) : Met l zy_Q_wantedSkills (Cond.code zy_Q_wantedSkills zb_Q_wantedSkills 3 (some .int) :: zT) zm_Q_wantedSkills (zP B S [.ref (B.2.1 0 (r0) (26))]) (zQi B res S9) 0 0 B.2.2.2 :=
  zmet (by decide) (Nat.le_of_ble_eq_true rfl) (fun p e s m args below meth c C hr hlk hK hSt hW ls hl => zw_Q_wantedSkills C hr hlk hK hSt hap r0 hr0  S  hf _ _ _ hW va_S.rf hl)
/-! IslandOffice$Crews.ask(LIslandOffice$Island;LIslandOffice$Judge;)J -/
abbrev zy_C_ask : MethodName := ⟨"IslandOffice$Crews", "ask", "(LIslandOffice$Island;LIslandOffice$Judge;)J"⟩
abbrev zb_C_ask : ByteArray := prog_3_method_3_code
abbrev zm_C_ask : Room := { frames := 3, cells := 0, slots := 0, locals := 71 }
theorem zq_C_ask : zMy zy_C_ask zb_C_ask 11 (some .long) 2 := ⟨zk_799, zk_798, zs_17, zk_12, by decide, by decide, by decide +kernel⟩
theorem zd_C_ask_0 : decode zb_C_ask 0 = .ok (.aload_n 1, 1) := by decide +kernel
theorem zd_C_ask_1 : decode zb_C_ask 1 = .ok (.getfield 64, 3) := by decide +kernel
theorem zd_C_ask_4 : decode zb_C_ask 4 = .ok (.astore_n 3, 1) := by decide +kernel
theorem zd_C_ask_5 : decode zb_C_ask 5 = .ok (.iconst 0, 1) := by decide +kernel
theorem zd_C_ask_6 : decode zb_C_ask 6 = .ok (.istore 4, 2) := by decide +kernel
theorem zd_C_ask_8 : decode zb_C_ask 8 = .ok (.iload 4, 2) := by decide +kernel
theorem zd_C_ask_10 : decode zb_C_ask 10 = .ok (.bipush 8, 2) := by decide +kernel
theorem zd_C_ask_12 : decode zb_C_ask 12 = .ok (.if_icmp .ge 44, 3) := by decide +kernel
theorem zd_C_ask_15 : decode zb_C_ask 15 = .ok (.aload_n 0, 1) := by decide +kernel
theorem zd_C_ask_16 : decode zb_C_ask 16 = .ok (.getfield 15, 3) := by decide +kernel
theorem zd_C_ask_19 : decode zb_C_ask 19 = .ok (.iload 4, 2) := by decide +kernel
theorem zd_C_ask_21 : decode zb_C_ask 21 = .ok (.lconst 0, 1) := by decide +kernel
theorem zd_C_ask_22 : decode zb_C_ask 22 = .ok (.lastore, 1) := by decide +kernel
theorem zd_C_ask_23 : decode zb_C_ask 23 = .ok (.aload_n 0, 1) := by decide +kernel
theorem zd_C_ask_24 : decode zb_C_ask 24 = .ok (.getfield 18, 3) := by decide +kernel
theorem zd_C_ask_27 : decode zb_C_ask 27 = .ok (.iload 4, 2) := by decide +kernel
theorem zd_C_ask_29 : decode zb_C_ask 29 = .ok (.iload 4, 2) := by decide +kernel
theorem zd_C_ask_31 : decode zb_C_ask 31 = .ok (.aload_n 3, 1) := by decide +kernel
theorem zd_C_ask_32 : decode zb_C_ask 32 = .ok (.getfield 70, 3) := by decide +kernel
theorem zd_C_ask_35 : decode zb_C_ask 35 = .ok (.if_icmp .ge 13, 3) := by decide +kernel
theorem zd_C_ask_38 : decode zb_C_ask 38 = .ok (.aload_n 3, 1) := by decide +kernel
theorem zd_C_ask_39 : decode zb_C_ask 39 = .ok (.getfield 75, 3) := by decide +kernel
theorem zd_C_ask_42 : decode zb_C_ask 42 = .ok (.iload 4, 2) := by decide +kernel
theorem zd_C_ask_44 : decode zb_C_ask 44 = .ok (.iaload, 1) := by decide +kernel
theorem zd_C_ask_45 : decode zb_C_ask 45 = .ok (.goto 4, 3) := by decide +kernel
theorem zd_C_ask_48 : decode zb_C_ask 48 = .ok (.iconst 0, 1) := by decide +kernel
theorem zd_C_ask_49 : decode zb_C_ask 49 = .ok (.iastore, 1) := by decide +kernel
theorem zd_C_ask_50 : decode zb_C_ask 50 = .ok (.iinc 4 1, 3) := by decide +kernel
theorem zd_C_ask_53 : decode zb_C_ask 53 = .ok (.goto (-45), 3) := by decide +kernel
theorem zd_C_ask_56 : decode zb_C_ask 56 = .ok (.aload_n 3, 1) := by decide +kernel
theorem zd_C_ask_57 : decode zb_C_ask 57 = .ok (.invokevirtual 76, 3) := by decide +kernel
theorem zd_C_ask_60 : decode zb_C_ask 60 = .ok (.istore 4, 2) := by decide +kernel
theorem zd_C_ask_62 : decode zb_C_ask 62 = .ok (.lconst 0, 1) := by decide +kernel
theorem zd_C_ask_63 : decode zb_C_ask 63 = .ok (.lstore 5, 2) := by decide +kernel
theorem zd_C_ask_65 : decode zb_C_ask 65 = .ok (.iconst 0, 1) := by decide +kernel
theorem zd_C_ask_66 : decode zb_C_ask 66 = .ok (.istore 7, 2) := by decide +kernel
theorem zd_C_ask_68 : decode zb_C_ask 68 = .ok (.iload 7, 2) := by decide +kernel
theorem zd_C_ask_70 : decode zb_C_ask 70 = .ok (.aload_n 1, 1) := by decide +kernel
theorem zd_C_ask_71 : decode zb_C_ask 71 = .ok (.getfield 80, 3) := by decide +kernel
theorem zd_C_ask_74 : decode zb_C_ask 74 = .ok (.getfield 84, 3) := by decide +kernel
theorem zd_C_ask_77 : decode zb_C_ask 77 = .ok (.if_icmp .ge 138, 3) := by decide +kernel
theorem zd_C_ask_80 : decode zb_C_ask 80 = .ok (.aload_n 1, 1) := by decide +kernel
theorem zd_C_ask_81 : decode zb_C_ask 81 = .ok (.getfield 80, 3) := by decide +kernel
theorem zd_C_ask_84 : decode zb_C_ask 84 = .ok (.getfield 87, 3) := by decide +kernel
theorem zd_C_ask_87 : decode zb_C_ask 87 = .ok (.iload 7, 2) := by decide +kernel
theorem zd_C_ask_89 : decode zb_C_ask 89 = .ok (.iaload, 1) := by decide +kernel
theorem zd_C_ask_90 : decode zb_C_ask 90 = .ok (.iload 4, 2) := by decide +kernel
theorem zd_C_ask_92 : decode zb_C_ask 92 = .ok (.iand, 1) := by decide +kernel
theorem zd_C_ask_93 : decode zb_C_ask 93 = .ok (.istore 8, 2) := by decide +kernel
theorem zd_C_ask_95 : decode zb_C_ask 95 = .ok (.aload_n 1, 1) := by decide +kernel
theorem zd_C_ask_96 : decode zb_C_ask 96 = .ok (.getfield 80, 3) := by decide +kernel
theorem zd_C_ask_99 : decode zb_C_ask 99 = .ok (.iload 7, 2) := by decide +kernel
theorem zd_C_ask_101 : decode zb_C_ask 101 = .ok (.aload_n 1, 1) := by decide +kernel
theorem zd_C_ask_102 : decode zb_C_ask 102 = .ok (.getfield 90, 3) := by decide +kernel
theorem zd_C_ask_105 : decode zb_C_ask 105 = .ok (.invokevirtual 93, 3) := by decide +kernel
theorem zd_C_ask_108 : decode zb_C_ask 108 = .ok (.istore 9, 2) := by decide +kernel
theorem zd_C_ask_110 : decode zb_C_ask 110 = .ok (.iload 8, 2) := by decide +kernel
theorem zd_C_ask_112 : decode zb_C_ask 112 = .ok (.ifCond .eq 97, 3) := by decide +kernel
theorem zd_C_ask_115 : decode zb_C_ask 115 = .ok (.iload 9, 2) := by decide +kernel
theorem zd_C_ask_117 : decode zb_C_ask 117 = .ok (.iconst 2, 1) := by decide +kernel
theorem zd_C_ask_118 : decode zb_C_ask 118 = .ok (.if_icmp .eq 9, 3) := by decide +kernel
theorem zd_C_ask_121 : decode zb_C_ask 121 = .ok (.iload 9, 2) := by decide +kernel
theorem zd_C_ask_123 : decode zb_C_ask 123 = .ok (.iconst 5, 1) := by decide +kernel
theorem zd_C_ask_124 : decode zb_C_ask 124 = .ok (.if_icmp .ne 85, 3) := by decide +kernel
theorem zd_C_ask_127 : decode zb_C_ask 127 = .ok (.aload_n 2, 1) := by decide +kernel
theorem zd_C_ask_128 : decode zb_C_ask 128 = .ok (.aload_n 1, 1) := by decide +kernel
theorem zd_C_ask_129 : decode zb_C_ask 129 = .ok (.iconst 1, 1) := by decide +kernel
theorem zd_C_ask_130 : decode zb_C_ask 130 = .ok (.iload 7, 2) := by decide +kernel
theorem zd_C_ask_132 : decode zb_C_ask 132 = .ok (.invokevirtual 97, 3) := by decide +kernel
theorem zd_C_ask_135 : decode zb_C_ask 135 = .ok (.ifCond .ne 6, 3) := by decide +kernel
theorem zd_C_ask_138 : decode zb_C_ask 138 = .ok (.goto 71, 3) := by decide +kernel
theorem zd_C_ask_141 : decode zb_C_ask 141 = .ok (.lload 5, 2) := by decide +kernel
theorem zd_C_ask_143 : decode zb_C_ask 143 = .ok (.lconst 1, 1) := by decide +kernel
theorem zd_C_ask_144 : decode zb_C_ask 144 = .ok (.iload 7, 2) := by decide +kernel
theorem zd_C_ask_146 : decode zb_C_ask 146 = .ok (.lshl, 1) := by decide +kernel
theorem zd_C_ask_147 : decode zb_C_ask 147 = .ok (.lor, 1) := by decide +kernel
theorem zd_C_ask_148 : decode zb_C_ask 148 = .ok (.lstore 5, 2) := by decide +kernel
theorem zd_C_ask_150 : decode zb_C_ask 150 = .ok (.iconst 0, 1) := by decide +kernel
theorem zd_C_ask_151 : decode zb_C_ask 151 = .ok (.istore 10, 2) := by decide +kernel
theorem zd_C_ask_153 : decode zb_C_ask 153 = .ok (.iload 10, 2) := by decide +kernel
theorem zd_C_ask_155 : decode zb_C_ask 155 = .ok (.aload_n 3, 1) := by decide +kernel
theorem zd_C_ask_156 : decode zb_C_ask 156 = .ok (.getfield 70, 3) := by decide +kernel
theorem zd_C_ask_159 : decode zb_C_ask 159 = .ok (.if_icmp .ge 50, 3) := by decide +kernel
theorem zd_C_ask_162 : decode zb_C_ask 162 = .ok (.aload_n 3, 1) := by decide +kernel
theorem zd_C_ask_163 : decode zb_C_ask 163 = .ok (.getfield 103, 3) := by decide +kernel
theorem zd_C_ask_166 : decode zb_C_ask 166 = .ok (.iload 10, 2) := by decide +kernel
theorem zd_C_ask_168 : decode zb_C_ask 168 = .ok (.iaload, 1) := by decide +kernel
theorem zd_C_ask_169 : decode zb_C_ask 169 = .ok (.iconst 1, 1) := by decide +kernel
theorem zd_C_ask_170 : decode zb_C_ask 170 = .ok (.if_icmp .ne 33, 3) := by decide +kernel
theorem zd_C_ask_173 : decode zb_C_ask 173 = .ok (.iload 8, 2) := by decide +kernel
theorem zd_C_ask_175 : decode zb_C_ask 175 = .ok (.aload_n 3, 1) := by decide +kernel
theorem zd_C_ask_176 : decode zb_C_ask 176 = .ok (.getfield 106, 3) := by decide +kernel
theorem zd_C_ask_179 : decode zb_C_ask 179 = .ok (.iload 10, 2) := by decide +kernel
theorem zd_C_ask_181 : decode zb_C_ask 181 = .ok (.iaload, 1) := by decide +kernel
theorem zd_C_ask_182 : decode zb_C_ask 182 = .ok (.ishr, 1) := by decide +kernel
theorem zd_C_ask_183 : decode zb_C_ask 183 = .ok (.iconst 1, 1) := by decide +kernel
theorem zd_C_ask_184 : decode zb_C_ask 184 = .ok (.iand, 1) := by decide +kernel
theorem zd_C_ask_185 : decode zb_C_ask 185 = .ok (.iconst 1, 1) := by decide +kernel
theorem zd_C_ask_186 : decode zb_C_ask 186 = .ok (.if_icmp .ne 17, 3) := by decide +kernel
theorem zd_C_ask_189 : decode zb_C_ask 189 = .ok (.aload_n 0, 1) := by decide +kernel
theorem zd_C_ask_190 : decode zb_C_ask 190 = .ok (.getfield 15, 3) := by decide +kernel
theorem zd_C_ask_193 : decode zb_C_ask 193 = .ok (.iload 10, 2) := by decide +kernel
theorem zd_C_ask_195 : decode zb_C_ask 195 = .ok (.dup2, 1) := by decide +kernel
theorem zd_C_ask_196 : decode zb_C_ask 196 = .ok (.laload, 1) := by decide +kernel
theorem zd_C_ask_197 : decode zb_C_ask 197 = .ok (.lconst 1, 1) := by decide +kernel
theorem zd_C_ask_198 : decode zb_C_ask 198 = .ok (.iload 7, 2) := by decide +kernel
theorem zd_C_ask_200 : decode zb_C_ask 200 = .ok (.lshl, 1) := by decide +kernel
theorem zd_C_ask_201 : decode zb_C_ask 201 = .ok (.lor, 1) := by decide +kernel
theorem zd_C_ask_202 : decode zb_C_ask 202 = .ok (.lastore, 1) := by decide +kernel
theorem zd_C_ask_203 : decode zb_C_ask 203 = .ok (.iinc 10 1, 3) := by decide +kernel
theorem zd_C_ask_206 : decode zb_C_ask 206 = .ok (.goto (-53), 3) := by decide +kernel
theorem zd_C_ask_209 : decode zb_C_ask 209 = .ok (.iinc 7 1, 3) := by decide +kernel
theorem zd_C_ask_212 : decode zb_C_ask 212 = .ok (.goto (-144), 3) := by decide +kernel
theorem zd_C_ask_215 : decode zb_C_ask 215 = .ok (.lload 5, 2) := by decide +kernel
theorem zd_C_ask_217 : decode zb_C_ask 217 = .ok (.lreturn, 1) := by decide +kernel

def zf_C_ask_209 (r1 : Int) (q68 : Int → Int → Int → Sg → Option (Int × Sg)) (x4 : Int) (x5 : Int) (x7 : Int) (S : Sg) : Option (Int × Sg) :=
    zlt (zw (x7 + 1)) fun v1 => q68 (x4) (x5) (v1) S
set_option maxHeartbeats 4000000 in
set_option maxRecDepth 100000 in
theorem zw_C_ask_209 {p : Program} {l : Launch} {e : Env} {s : State} {m : MethodId} {args : Array Value} {below : List Frame} {meth : Method} {c : Code} {B : zB} (C : CallFix p m c zb_C_ask 11 s args zT "IslandOffice$Crews") (hr : meth.sig.returnType = some .long) (hlk : meth.locks = false) (hK : zK B s) (hSt : zSt B s) (hap : zAp B) (r1 : Int) (hr1 : 0 ≤ r1 ∧ r1 < 3) {res : Int} {S9 : Sg} (q68 : Int → Int → Int → Sg → Option (Int × Sg)) (hq68 : ∀ (x4 : Int) (x5 : Int) (x7 : Int) (S : Sg) (nx4 : zn x4) (nx5 : zm x5) (nx7 : zn x7), q68 x4 x5 x7 S = some (res, S9) → ∀ (H : Heap) (locs : List Loc) (ls : Array Slot), zW B S H → va_S B.2.2.2 s.heap H locs → lv_has ls 11 [(0, .ref (B.2.1 3 (0) (10))), (1, .ref (B.2.1 0 (r1) (0))), (2, .ref (B.2.1 3 (0) (7))), (3, .ref (B.2.1 0 (r1) (26))), (4, .int (zI (x4))), (5, .long (zL (x5))), (7, .int (zI (x7)))] → W p l e zm_C_ask s m args below meth c H locs 0 0 (MQ below (zQl B res S9) args s 0 0 B.2.2.2) (F0 m 68 ls [])) : ∀ (x4 : Int) (x5 : Int) (x7 : Int) (S : Sg) (nx4 : zn x4) (nx5 : zm x5) (nx7 : zn x7), zf_C_ask_209 r1 q68 x4 x5 x7 S = some (res, S9) → ∀ (H : Heap) (locs : List Loc) (ls : Array Slot), zW B S H → va_S B.2.2.2 s.heap H locs → lv_has ls 11 [(0, .ref (B.2.1 3 (0) (10))), (1, .ref (B.2.1 0 (r1) (0))), (2, .ref (B.2.1 3 (0) (7))), (3, .ref (B.2.1 0 (r1) (26))), (4, .int (zI (x4))), (5, .long (zL (x5))), (7, .int (zI (x7)))] → W p l e zm_C_ask s m args below meth c H locs 0 0 (MQ below (zQl B res S9) args s 0 0 B.2.2.2) (F0 m 209 ls []) := by
  intro x4 x5 x7 S nx4 nx5 nx7 hf H locs ls hW hS hl
  unfold zf_C_ask_209 at hf
  obtain ⟨v1, ev1, hf⟩ := zlt_some hf
  have nv1 : zn v1 := by rw [← ev1]; exact zn_w _
  refine lv_iinc (v := zI v1) (lv' := [(7, .int (zI (v1))), (0, .ref (B.2.1 3 (0) (10))), (1, .ref (B.2.1 0 (r1) (0))), (2, .ref (B.2.1 3 (0) (7))), (3, .ref (B.2.1 0 (r1) (26))), (4, .int (zI (x4))), (5, .long (zL (x5)))]) C.1 C.2.1 zd_C_ask_209 hl (k := 6) rfl (by rw [← ev1, ← zI_add]; rfl) (by decide) rfl (fun ls hl => ?_)
  refine lv_goto (tgt := 68) C.1 C.2.1 zd_C_ask_212 (by decide) ?_
  exact hq68 (x4) (x5) (v1) S nx4 nx5 nv1 hf _ _ _ hW hS (lv_sub hl [1, 2, 3, 4, 5, 6, 0] rfl)

def zf_C_ask_203 (r1 : Int) (q68 : Int → Int → Int → Sg → Option (Int × Sg)) (q153 : Int → Int → Int → Int → Int → Sg → Option (Int × Sg)) (x4 : Int) (x5 : Int) (x7 : Int) (x8 : Int) (x10 : Int) (S : Sg) : Option (Int × Sg) :=
    zlt (zw (x10 + 1)) fun v1 => q153 (x4) (x5) (x7) (x8) (v1) S
set_option maxHeartbeats 4000000 in
set_option maxRecDepth 100000 in
theorem zw_C_ask_203 {p : Program} {l : Launch} {e : Env} {s : State} {m : MethodId} {args : Array Value} {below : List Frame} {meth : Method} {c : Code} {B : zB} (C : CallFix p m c zb_C_ask 11 s args zT "IslandOffice$Crews") (hr : meth.sig.returnType = some .long) (hlk : meth.locks = false) (hK : zK B s) (hSt : zSt B s) (hap : zAp B) (r1 : Int) (hr1 : 0 ≤ r1 ∧ r1 < 3) {res : Int} {S9 : Sg} (q68 : Int → Int → Int → Sg → Option (Int × Sg)) (hq68 : ∀ (x4 : Int) (x5 : Int) (x7 : Int) (S : Sg) (nx4 : zn x4) (nx5 : zm x5) (nx7 : zn x7), q68 x4 x5 x7 S = some (res, S9) → ∀ (H : Heap) (locs : List Loc) (ls : Array Slot), zW B S H → va_S B.2.2.2 s.heap H locs → lv_has ls 11 [(0, .ref (B.2.1 3 (0) (10))), (1, .ref (B.2.1 0 (r1) (0))), (2, .ref (B.2.1 3 (0) (7))), (3, .ref (B.2.1 0 (r1) (26))), (4, .int (zI (x4))), (5, .long (zL (x5))), (7, .int (zI (x7)))] → W p l e zm_C_ask s m args below meth c H locs 0 0 (MQ below (zQl B res S9) args s 0 0 B.2.2.2) (F0 m 68 ls [])) (q153 : Int → Int → Int → Int → Int → Sg → Option (Int × Sg)) (hq153 : ∀ (x4 : Int) (x5 : Int) (x7 : Int) (x8 : Int) (x10 : Int) (S : Sg) (nx4 : zn x4) (nx5 : zm x5) (nx7 : zn x7) (nx8 : zn x8) (nx10 : zn x10), q153 x4 x5 x7 x8 x10 S = some (res, S9) → ∀ (H : Heap) (locs : List Loc) (ls : Array Slot), zW B S H → va_S B.2.2.2 s.heap H locs → lv_has ls 11 [(0, .ref (B.2.1 3 (0) (10))), (1, .ref (B.2.1 0 (r1) (0))), (2, .ref (B.2.1 3 (0) (7))), (3, .ref (B.2.1 0 (r1) (26))), (4, .int (zI (x4))), (5, .long (zL (x5))), (7, .int (zI (x7))), (8, .int (zI (x8))), (10, .int (zI (x10)))] → W p l e zm_C_ask s m args below meth c H locs 0 0 (MQ below (zQl B res S9) args s 0 0 B.2.2.2) (F0 m 153 ls [])) : ∀ (x4 : Int) (x5 : Int) (x7 : Int) (x8 : Int) (x10 : Int) (S : Sg) (nx4 : zn x4) (nx5 : zm x5) (nx7 : zn x7) (nx8 : zn x8) (nx10 : zn x10), zf_C_ask_203 r1 q68 q153 x4 x5 x7 x8 x10 S = some (res, S9) → ∀ (H : Heap) (locs : List Loc) (ls : Array Slot), zW B S H → va_S B.2.2.2 s.heap H locs → lv_has ls 11 [(0, .ref (B.2.1 3 (0) (10))), (1, .ref (B.2.1 0 (r1) (0))), (2, .ref (B.2.1 3 (0) (7))), (3, .ref (B.2.1 0 (r1) (26))), (4, .int (zI (x4))), (5, .long (zL (x5))), (7, .int (zI (x7))), (8, .int (zI (x8))), (10, .int (zI (x10)))] → W p l e zm_C_ask s m args below meth c H locs 0 0 (MQ below (zQl B res S9) args s 0 0 B.2.2.2) (F0 m 203 ls []) := by
  intro x4 x5 x7 x8 x10 S nx4 nx5 nx7 nx8 nx10 hf H locs ls hW hS hl
  unfold zf_C_ask_203 at hf
  obtain ⟨v1, ev1, hf⟩ := zlt_some hf
  have nv1 : zn v1 := by rw [← ev1]; exact zn_w _
  refine lv_iinc (v := zI v1) (lv' := [(10, .int (zI (v1))), (0, .ref (B.2.1 3 (0) (10))), (1, .ref (B.2.1 0 (r1) (0))), (2, .ref (B.2.1 3 (0) (7))), (3, .ref (B.2.1 0 (r1) (26))), (4, .int (zI (x4))), (5, .long (zL (x5))), (7, .int (zI (x7))), (8, .int (zI (x8)))]) C.1 C.2.1 zd_C_ask_203 hl (k := 8) rfl (by rw [← ev1, ← zI_add]; rfl) (by decide) rfl (fun ls hl => ?_)
  refine lv_goto (tgt := 153) C.1 C.2.1 zd_C_ask_206 (by decide) ?_
  exact hq153 (x4) (x5) (x7) (x8) (v1) S nx4 nx5 nx7 nx8 nv1 hf _ _ _ hW hS (lv_sub hl [1, 2, 3, 4, 5, 6, 7, 8, 0] rfl)

def zf_C_ask_153 (r1 : Int) (q68 : Int → Int → Int → Sg → Option (Int × Sg)) : Nat → Int → Int → Int → Int → Int → Sg → Option (Int × Sg)
  | 0, _, _, _, _, _, _ => none
  | n + 1, x4, x5, x7, x8, x10, S =>
    if (S 0 r1 26 0) ≤ x10 then (zf_C_ask_209 r1 q68 (x4) (x5) (x7) S) else (zck (0 ≤ x10 ∧ x10 < 8) <| if (S 0 r1 30 x10) = 1 then (if (zand (zshr x8 (S 0 r1 27 x10)) 1) = 1 then (zlt (zu S 20 0 1 x10 (zlor (S 20 0 1 x10) (zlsl 1 x7))) fun S5 => zf_C_ask_203 r1 q68 (zf_C_ask_153 r1 q68 n) (x4) (x5) (x7) (x8) (x10) S5) else (zf_C_ask_203 r1 q68 (zf_C_ask_153 r1 q68 n) (x4) (x5) (x7) (x8) (x10) S)) else (zf_C_ask_203 r1 q68 (zf_C_ask_153 r1 q68 n) (x4) (x5) (x7) (x8) (x10) S))
set_option maxHeartbeats 4000000 in
set_option maxRecDepth 100000 in
theorem zw_C_ask_153 {p : Program} {l : Launch} {e : Env} {s : State} {m : MethodId} {args : Array Value} {below : List Frame} {meth : Method} {c : Code} {B : zB} (C : CallFix p m c zb_C_ask 11 s args zT "IslandOffice$Crews") (hr : meth.sig.returnType = some .long) (hlk : meth.locks = false) (hK : zK B s) (hSt : zSt B s) (hap : zAp B) (r1 : Int) (hr1 : 0 ≤ r1 ∧ r1 < 3) {res : Int} {S9 : Sg} (q68 : Int → Int → Int → Sg → Option (Int × Sg)) (hq68 : ∀ (x4 : Int) (x5 : Int) (x7 : Int) (S : Sg) (nx4 : zn x4) (nx5 : zm x5) (nx7 : zn x7), q68 x4 x5 x7 S = some (res, S9) → ∀ (H : Heap) (locs : List Loc) (ls : Array Slot), zW B S H → va_S B.2.2.2 s.heap H locs → lv_has ls 11 [(0, .ref (B.2.1 3 (0) (10))), (1, .ref (B.2.1 0 (r1) (0))), (2, .ref (B.2.1 3 (0) (7))), (3, .ref (B.2.1 0 (r1) (26))), (4, .int (zI (x4))), (5, .long (zL (x5))), (7, .int (zI (x7)))] → W p l e zm_C_ask s m args below meth c H locs 0 0 (MQ below (zQl B res S9) args s 0 0 B.2.2.2) (F0 m 68 ls [])) : ∀ n : Nat, ∀ (x4 : Int) (x5 : Int) (x7 : Int) (x8 : Int) (x10 : Int) (S : Sg) (nx4 : zn x4) (nx5 : zm x5) (nx7 : zn x7) (nx8 : zn x8) (nx10 : zn x10), zf_C_ask_153 r1 q68 n x4 x5 x7 x8 x10 S = some (res, S9) → ∀ (H : Heap) (locs : List Loc) (ls : Array Slot), zW B S H → va_S B.2.2.2 s.heap H locs → lv_has ls 11 [(0, .ref (B.2.1 3 (0) (10))), (1, .ref (B.2.1 0 (r1) (0))), (2, .ref (B.2.1 3 (0) (7))), (3, .ref (B.2.1 0 (r1) (26))), (4, .int (zI (x4))), (5, .long (zL (x5))), (7, .int (zI (x7))), (8, .int (zI (x8))), (10, .int (zI (x10)))] → W p l e zm_C_ask s m args below meth c H locs 0 0 (MQ below (zQl B res S9) args s 0 0 B.2.2.2) (F0 m 153 ls []) := by
  intro n
  induction n with
  | zero =>
    intro x4 x5 x7 x8 x10 S nx4 nx5 nx7 nx8 nx10 hf H locs ls hW hS hl
    cases hf
  | succ n ih =>
    intro x4 x5 x7 x8 x10 S nx4 nx5 nx7 nx8 nx10 hf H locs ls hW hS hl
    rw [zf_C_ask_153] at hf
    refine lv_iload C.1 C.2.1 zd_C_ask_153 (lv_at hl 8 rfl) ?_
    refine lv_aload_n C.1 C.2.1 zd_C_ask_155 rfl (lv_at hl 3 rfl) ?_
    refine zg_Q_n (r := r1) C hK hW (zvd_0 hr1 (by decide)) zk_168 zd_C_ask_156 ?_
    refine zr_icmp_ge (tgt := 209) C nx10 (zWn hW _ _ _ _ rfl) zd_C_ask_159 (by decide) (fun c1 => ?_) (fun c1 => ?_)
    · rw [if_pos c1] at hf
      exact zw_C_ask_209 C hr hlk hK hSt hap r1 hr1 q68 hq68 (x4) (x5) (x7) S nx4 nx5 nx7 hf _ _ _ hW hS (lv_sub hl [0, 1, 2, 3, 4, 5, 6] rfl)
    · rw [if_neg c1] at hf
      refine lv_aload_n C.1 C.2.1 zd_C_ask_162 rfl (lv_at hl 3 rfl) ?_
      refine zg_Q_open (r := r1) C hK hW (zvd_0 hr1 (by decide)) zk_178 zd_C_ask_163 ?_
      refine lv_iload C.1 C.2.1 zd_C_ask_166 (lv_at hl 8 rfl) ?_
      obtain ⟨h2, hf⟩ := zck_some hf
      refine ziald C hK hW (zvd_0 hr1 (by decide)) (fun f => ze_0_30 B f (r1)) (by decide) h2 zd_C_ask_168 ?_
      refine zr_iconst C zd_C_ask_169 ?_
      refine zr_icmp_ne (tgt := 203) C (zWn hW _ _ _ _ rfl) (znb rfl) zd_C_ask_170 (by decide) (fun c3 => ?_) (fun c3 => ?_)
      · rw [if_neg c3] at hf
        exact zw_C_ask_203 C hr hlk hK hSt hap r1 hr1 q68 hq68 (zf_C_ask_153 r1 q68 n) (ih) (x4) (x5) (x7) (x8) (x10) S nx4 nx5 nx7 nx8 nx10 hf _ _ _ hW hS (lv_sub hl [0, 1, 2, 3, 4, 5, 6, 7, 8] rfl)
      · rw [if_pos c3] at hf
        refine lv_iload C.1 C.2.1 zd_C_ask_173 (lv_at hl 7 rfl) ?_
        refine lv_aload_n C.1 C.2.1 zd_C_ask_175 rfl (lv_at hl 3 rfl) ?_
        refine zg_Q_skill (r := r1) C hK hW (zvd_0 hr1 (by decide)) zk_172 zd_C_ask_176 ?_
        refine lv_iload C.1 C.2.1 zd_C_ask_179 (lv_at hl 8 rfl) ?_
        refine ziald C hK hW (zvd_0 hr1 (by decide)) (fun f => ze_0_27 B f (r1)) (by decide) h2 zd_C_ask_181 ?_
        refine zr_ishr C zd_C_ask_182 ?_
        refine zr_iconst C zd_C_ask_183 ?_
        refine zr_iand C zd_C_ask_184 ?_
        refine zr_iconst C zd_C_ask_185 ?_
        refine zr_icmp_ne (tgt := 203) C (zn_and _ _) (znb rfl) zd_C_ask_186 (by decide) (fun c4 => ?_) (fun c4 => ?_)
        · rw [if_neg c4] at hf
          exact zw_C_ask_203 C hr hlk hK hSt hap r1 hr1 q68 hq68 (zf_C_ask_153 r1 q68 n) (ih) (x4) (x5) (x7) (x8) (x10) S nx4 nx5 nx7 nx8 nx10 hf _ _ _ hW hS (lv_sub hl [0, 1, 2, 3, 4, 5, 6, 7, 8] rfl)
        · rw [if_pos c4] at hf
          refine lv_aload_n C.1 C.2.1 zd_C_ask_189 rfl (lv_at hl 0 rfl) ?_
          refine zg_C_can (r := 0) C hK hW (zvd_3 (by decide) (by decide)) zk_432 zd_C_ask_190 ?_
          refine lv_iload C.1 C.2.1 zd_C_ask_193 (lv_at hl 8 rfl) ?_
          refine lv_dup2_11 C.1 C.2.1 zd_C_ask_195 rfl rfl ?_
          refine zlald C hK hW (zvd_20 (by decide) (by decide)) (fun f => ze_20_1 B f (0)) (by decide) h2 zd_C_ask_196 ?_
          refine zr_lconst (k := 1) C zd_C_ask_197 rfl ?_
          refine lv_iload C.1 C.2.1 zd_C_ask_198 (lv_at hl 6 rfl) ?_
          refine zr_lshl C zd_C_ask_200 ?_
          refine zr_lor C zd_C_ask_201 ?_
          obtain ⟨S5, eS5, hf⟩ := zlt_some hf
          refine zlast C hK hap hW hS (zvd_20 (by decide) (by decide)) (fun f => ze_20_1 B f (0)) (by decide) rfl (zm_lor _ _) h2 zd_C_ask_202 (fun H locs hW hS => ?_)
          rw [eS5] at hW
          exact zw_C_ask_203 C hr hlk hK hSt hap r1 hr1 q68 hq68 (zf_C_ask_153 r1 q68 n) (ih) (x4) (x5) (x7) (x8) (x10) S5 nx4 nx5 nx7 nx8 nx10 hf _ _ _ hW hS (lv_sub hl [0, 1, 2, 3, 4, 5, 6, 7, 8] rfl)

def zf_C_ask_127 (r1 : Int) (q68 : Int → Int → Int → Sg → Option (Int × Sg)) (x4 : Int) (x5 : Int) (x7 : Int) (x8 : Int) (S : Sg) : Option (Int × Sg) :=
    zbd (zf_J_allows (r1) 1 x7 S) fun a1 S2 => if a1 = 0 then (zf_C_ask_209 r1 q68 (x4) (x5) (x7) S2) else (zlt (zlor x5 (zlsl 1 x7)) fun v4 => zf_C_ask_153 r1 q68 4096 (x4) (v4) (x7) (x8) (0) S2)
set_option maxHeartbeats 4000000 in
set_option maxRecDepth 100000 in
theorem zw_C_ask_127 {p : Program} {l : Launch} {e : Env} {s : State} {m : MethodId} {args : Array Value} {below : List Frame} {meth : Method} {c : Code} {B : zB} (C : CallFix p m c zb_C_ask 11 s args zT "IslandOffice$Crews") (hr : meth.sig.returnType = some .long) (hlk : meth.locks = false) (hK : zK B s) (hSt : zSt B s) (hap : zAp B) (r1 : Int) (hr1 : 0 ≤ r1 ∧ r1 < 3) {res : Int} {S9 : Sg} (q68 : Int → Int → Int → Sg → Option (Int × Sg)) (hq68 : ∀ (x4 : Int) (x5 : Int) (x7 : Int) (S : Sg) (nx4 : zn x4) (nx5 : zm x5) (nx7 : zn x7), q68 x4 x5 x7 S = some (res, S9) → ∀ (H : Heap) (locs : List Loc) (ls : Array Slot), zW B S H → va_S B.2.2.2 s.heap H locs → lv_has ls 11 [(0, .ref (B.2.1 3 (0) (10))), (1, .ref (B.2.1 0 (r1) (0))), (2, .ref (B.2.1 3 (0) (7))), (3, .ref (B.2.1 0 (r1) (26))), (4, .int (zI (x4))), (5, .long (zL (x5))), (7, .int (zI (x7)))] → W p l e zm_C_ask s m args below meth c H locs 0 0 (MQ below (zQl B res S9) args s 0 0 B.2.2.2) (F0 m 68 ls [])) : ∀ (x4 : Int) (x5 : Int) (x7 : Int) (x8 : Int) (S : Sg) (nx4 : zn x4) (nx5 : zm x5) (nx7 : zn x7) (nx8 : zn x8), zf_C_ask_127 r1 q68 x4 x5 x7 x8 S = some (res, S9) → ∀ (H : Heap) (locs : List Loc) (ls : Array Slot), zW B S H → va_S B.2.2.2 s.heap H locs → lv_has ls 11 [(0, .ref (B.2.1 3 (0) (10))), (1, .ref (B.2.1 0 (r1) (0))), (2, .ref (B.2.1 3 (0) (7))), (3, .ref (B.2.1 0 (r1) (26))), (4, .int (zI (x4))), (5, .long (zL (x5))), (7, .int (zI (x7))), (8, .int (zI (x8)))] → W p l e zm_C_ask s m args below meth c H locs 0 0 (MQ below (zQl B res S9) args s 0 0 B.2.2.2) (F0 m 127 ls []) := by
  intro x4 x5 x7 x8 S nx4 nx5 nx7 nx8 hf H locs ls hW hS hl
  unfold zf_C_ask_127 at hf
  refine lv_aload_n C.1 C.2.1 zd_C_ask_127 rfl (lv_at hl 2 rfl) ?_
  refine lv_aload_n C.1 C.2.1 zd_C_ask_128 rfl (lv_at hl 1 rfl) ?_
  refine zr_iconst C zd_C_ask_129 ?_
  refine lv_iload C.1 C.2.1 zd_C_ask_130 (lv_at hl 6 rfl) ?_
  obtain ⟨a1, S2, ea1, hf⟩ := zbd_some hf
  refine zcVi (As := [.ref (B.2.1 0 (r1) (0)), .int (zI (1)), .int (zI (x7))]) (rest := []) C hK hSt hW hS (zc_J_allows hap (r1) hr1 1 x7 S (znb rfl) nx7 ea1) zq_J_allows zk_805 (zrecv hK hW (zvd_3 (by decide) (by decide)) (ze_3_7 B _ (0)) rfl) ⟨rfl, rfl, by decide, by decide⟩ ⟨Nat.zero_le _, Nat.zero_le _⟩ rfl hl.1 rfl (lv_room (Nat.le_of_ble_eq_true rfl)) zd_C_ask_132 (fun na1 H locs hW hS => ?_)
  refine zr_if_ne (tgt := 141) C na1 zd_C_ask_135 (by decide) (fun c3 => ?_) (fun c3 => ?_)
  · rw [if_neg c3] at hf
    refine lv_lload C.1 C.2.1 zd_C_ask_141 (lv_at hl 5 rfl) ?_
    refine zr_lconst (k := 1) C zd_C_ask_143 rfl ?_
    refine lv_iload C.1 C.2.1 zd_C_ask_144 (lv_at hl 6 rfl) ?_
    refine zr_lshl C zd_C_ask_146 ?_
    refine zr_lor C zd_C_ask_147 ?_
    obtain ⟨v4, ev4, hf⟩ := zlt_some hf
    have nv4 : zm v4 := by rw [← ev4]; exact (zm_lor _ _)
    rw [ev4]
    refine lv_lstore (lv' := [(5, .long (zL (v4))), (0, .ref (B.2.1 3 (0) (10))), (1, .ref (B.2.1 0 (r1) (0))), (2, .ref (B.2.1 3 (0) (7))), (3, .ref (B.2.1 0 (r1) (26))), (4, .int (zI (x4))), (7, .int (zI (x7))), (8, .int (zI (x8)))]) C.1 C.2.1 zd_C_ask_148 hl (by decide) rfl (fun ls hl => ?_)
    refine zr_iconst C zd_C_ask_150 ?_
    refine lv_istore (lv' := [(10, .int (zI (0))), (5, .long (zL (v4))), (0, .ref (B.2.1 3 (0) (10))), (1, .ref (B.2.1 0 (r1) (0))), (2, .ref (B.2.1 3 (0) (7))), (3, .ref (B.2.1 0 (r1) (26))), (4, .int (zI (x4))), (7, .int (zI (x7))), (8, .int (zI (x8)))]) C.1 C.2.1 zd_C_ask_151 hl (by decide) rfl (fun ls hl => ?_)
    exact zw_C_ask_153 C hr hlk hK hSt hap r1 hr1 q68 hq68 4096 (x4) (v4) (x7) (x8) (0) S2 nx4 nv4 nx7 nx8 (znb rfl) hf _ _ _ hW hS (lv_sub hl [2, 3, 4, 5, 6, 1, 7, 8, 0] rfl)
  · rw [if_pos c3] at hf
    refine lv_goto (tgt := 209) C.1 C.2.1 zd_C_ask_138 (by decide) ?_
    exact zw_C_ask_209 C hr hlk hK hSt hap r1 hr1 q68 hq68 (x4) (x5) (x7) S2 nx4 nx5 nx7 hf _ _ _ hW hS (lv_sub hl [0, 1, 2, 3, 4, 5, 6] rfl)

def zf_C_ask_68 (r1 : Int) : Nat → Int → Int → Int → Sg → Option (Int × Sg)
  | 0, _, _, _, _ => none
  | n + 1, x4, x5, x7, S =>
    if (S 0 r1 6 0) ≤ x7 then (some (x5, S)) else (zck (0 ≤ x7 ∧ x7 < 40) <| zlt (zand (S 0 r1 10 x7) x4) fun v3 => zbd (zf_P_kind (r1) x7 (S 0 r1 0 0) S) fun a4 S5 => if v3 = 0 then (zf_C_ask_209 r1 (zf_C_ask_68 r1 n) (x4) (x5) (x7) S5) else (if a4 = 2 then (zf_C_ask_127 r1 (zf_C_ask_68 r1 n) (x4) (x5) (x7) (v3) S5) else (if a4 = 5 then (zf_C_ask_127 r1 (zf_C_ask_68 r1 n) (x4) (x5) (x7) (v3) S5) else (zf_C_ask_209 r1 (zf_C_ask_68 r1 n) (x4) (x5) (x7) S5))))
set_option maxHeartbeats 4000000 in
set_option maxRecDepth 100000 in
theorem zw_C_ask_68 {p : Program} {l : Launch} {e : Env} {s : State} {m : MethodId} {args : Array Value} {below : List Frame} {meth : Method} {c : Code} {B : zB} (C : CallFix p m c zb_C_ask 11 s args zT "IslandOffice$Crews") (hr : meth.sig.returnType = some .long) (hlk : meth.locks = false) (hK : zK B s) (hSt : zSt B s) (hap : zAp B) (r1 : Int) (hr1 : 0 ≤ r1 ∧ r1 < 3) {res : Int} {S9 : Sg} : ∀ n : Nat, ∀ (x4 : Int) (x5 : Int) (x7 : Int) (S : Sg) (nx4 : zn x4) (nx5 : zm x5) (nx7 : zn x7), zf_C_ask_68 r1 n x4 x5 x7 S = some (res, S9) → ∀ (H : Heap) (locs : List Loc) (ls : Array Slot), zW B S H → va_S B.2.2.2 s.heap H locs → lv_has ls 11 [(0, .ref (B.2.1 3 (0) (10))), (1, .ref (B.2.1 0 (r1) (0))), (2, .ref (B.2.1 3 (0) (7))), (3, .ref (B.2.1 0 (r1) (26))), (4, .int (zI (x4))), (5, .long (zL (x5))), (7, .int (zI (x7)))] → W p l e zm_C_ask s m args below meth c H locs 0 0 (MQ below (zQl B res S9) args s 0 0 B.2.2.2) (F0 m 68 ls []) := by
  intro n
  induction n with
  | zero =>
    intro x4 x5 x7 S nx4 nx5 nx7 hf H locs ls hW hS hl
    cases hf
  | succ n ih =>
    intro x4 x5 x7 S nx4 nx5 nx7 hf H locs ls hW hS hl
    rw [zf_C_ask_68] at hf
    refine lv_iload C.1 C.2.1 zd_C_ask_68 (lv_at hl 6 rfl) ?_
    refine lv_aload_n C.1 C.2.1 zd_C_ask_70 rfl (lv_at hl 1 rfl) ?_
    refine zg_I_people (r := r1) C hK hW (zvd_0 hr1 (by decide)) zk_282 zd_C_ask_71 ?_
    refine zg_P_n (r := r1) C hK hW (zvd_0 hr1 (by decide)) zk_55 zd_C_ask_74 ?_
    refine zr_icmp_ge (tgt := 215) C nx7 (zWn hW _ _ _ _ rfl) zd_C_ask_77 (by decide) (fun c1 => ?_) (fun c1 => ?_)
    · rw [if_pos c1] at hf
      refine lv_lload C.1 C.2.1 zd_C_ask_215 (lv_at hl 5 rfl) ?_
      cases hf
      exact zre_l C hr hlk hK hW hS nx5 zd_C_ask_217
    · rw [if_neg c1] at hf
      refine lv_aload_n C.1 C.2.1 zd_C_ask_80 rfl (lv_at hl 1 rfl) ?_
      refine zg_I_people (r := r1) C hK hW (zvd_0 hr1 (by decide)) zk_282 zd_C_ask_81 ?_
      refine zg_P_skills (r := r1) C hK hW (zvd_0 hr1 (by decide)) zk_67 zd_C_ask_84 ?_
      refine lv_iload C.1 C.2.1 zd_C_ask_87 (lv_at hl 6 rfl) ?_
      obtain ⟨h2, hf⟩ := zck_some hf
      refine ziald C hK hW (zvd_0 hr1 (by decide)) (fun f => ze_0_10 B f (r1)) (by decide) h2 zd_C_ask_89 ?_
      refine lv_iload C.1 C.2.1 zd_C_ask_90 (lv_at hl 4 rfl) ?_
      refine zr_iand C zd_C_ask_92 ?_
      obtain ⟨v3, ev3, hf⟩ := zlt_some hf
      have nv3 : zn v3 := by rw [← ev3]; exact (zn_and _ _)
      rw [ev3]
      refine lv_istore (lv' := [(8, .int (zI (v3))), (0, .ref (B.2.1 3 (0) (10))), (1, .ref (B.2.1 0 (r1) (0))), (2, .ref (B.2.1 3 (0) (7))), (3, .ref (B.2.1 0 (r1) (26))), (4, .int (zI (x4))), (5, .long (zL (x5))), (7, .int (zI (x7)))]) C.1 C.2.1 zd_C_ask_93 hl (by decide) rfl (fun ls hl => ?_)
      refine lv_aload_n C.1 C.2.1 zd_C_ask_95 rfl (lv_at hl 2 rfl) ?_
      refine zg_I_people (r := r1) C hK hW (zvd_0 hr1 (by decide)) zk_282 zd_C_ask_96 ?_
      refine lv_iload C.1 C.2.1 zd_C_ask_99 (lv_at hl 7 rfl) ?_
      refine lv_aload_n C.1 C.2.1 zd_C_ask_101 rfl (lv_at hl 2 rfl) ?_
      refine zg_I_week (r := r1) C hK hW (zvd_0 hr1 (by decide)) zk_243 zd_C_ask_102 ?_
      obtain ⟨a4, S5, ea4, hf⟩ := zbd_some hf
      refine zcVi (As := [.int (zI (x7)), .int (zI (S 0 r1 0 0))]) (rest := []) C hK hSt hW hS (zc_P_kind hap (r1) hr1 x7 (S 0 r1 0 0) S nx7 (zWn hW _ _ _ _ rfl) ea4) zq_P_kind zk_804 (zrecv hK hW (zvd_0 hr1 (by decide)) (ze_0_6 B _ (r1)) rfl) ⟨rfl, rfl, by decide, by decide⟩ ⟨Nat.zero_le _, Nat.zero_le _⟩ rfl hl.1 rfl (lv_room (Nat.le_of_ble_eq_true rfl)) zd_C_ask_105 (fun na4 H locs hW hS => ?_)
      refine lv_istore (lv' := [(9, .int (zI (a4))), (8, .int (zI (v3))), (0, .ref (B.2.1 3 (0) (10))), (1, .ref (B.2.1 0 (r1) (0))), (2, .ref (B.2.1 3 (0) (7))), (3, .ref (B.2.1 0 (r1) (26))), (4, .int (zI (x4))), (5, .long (zL (x5))), (7, .int (zI (x7)))]) C.1 C.2.1 zd_C_ask_108 hl (by decide) rfl (fun ls hl => ?_)
      refine lv_iload C.1 C.2.1 zd_C_ask_110 (lv_at hl 1 rfl) ?_
      refine zr_if_eq (tgt := 209) C nv3 zd_C_ask_112 (by decide) (fun c6 => ?_) (fun c6 => ?_)
      · rw [if_pos c6] at hf
        exact zw_C_ask_209 C hr hlk hK hSt hap r1 hr1 (zf_C_ask_68 r1 n) (ih) (x4) (x5) (x7) S5 nx4 nx5 nx7 hf _ _ _ hW hS (lv_sub hl [2, 3, 4, 5, 6, 7, 8] rfl)
      · rw [if_neg c6] at hf
        refine lv_iload C.1 C.2.1 zd_C_ask_115 (lv_at hl 0 rfl) ?_
        refine zr_iconst C zd_C_ask_117 ?_
        refine zr_icmp_eq (tgt := 127) C na4 (znb rfl) zd_C_ask_118 (by decide) (fun c7 => ?_) (fun c7 => ?_)
        · rw [if_pos c7] at hf
          exact zw_C_ask_127 C hr hlk hK hSt hap r1 hr1 (zf_C_ask_68 r1 n) (ih) (x4) (x5) (x7) (v3) S5 nx4 nx5 nx7 nv3 hf _ _ _ hW hS (lv_sub hl [2, 3, 4, 5, 6, 7, 8, 1] rfl)
        · rw [if_neg c7] at hf
          refine lv_iload C.1 C.2.1 zd_C_ask_121 (lv_at hl 0 rfl) ?_
          refine zr_iconst C zd_C_ask_123 ?_
          refine zr_icmp_ne (tgt := 209) C na4 (znb rfl) zd_C_ask_124 (by decide) (fun c8 => ?_) (fun c8 => ?_)
          · rw [if_neg c8] at hf
            exact zw_C_ask_209 C hr hlk hK hSt hap r1 hr1 (zf_C_ask_68 r1 n) (ih) (x4) (x5) (x7) S5 nx4 nx5 nx7 hf _ _ _ hW hS (lv_sub hl [2, 3, 4, 5, 6, 7, 8] rfl)
          · rw [if_pos c8] at hf
            exact zw_C_ask_127 C hr hlk hK hSt hap r1 hr1 (zf_C_ask_68 r1 n) (ih) (x4) (x5) (x7) (v3) S5 nx4 nx5 nx7 nv3 hf _ _ _ hW hS (lv_sub hl [2, 3, 4, 5, 6, 7, 8, 1] rfl)

def zf_C_ask_49 (r1 : Int) (q8 : Int → Sg → Option (Int × Sg)) (x4 : Int) (xt1 : Int) (xt2 : Int) (S : Sg) : Option (Int × Sg) :=
    zck (0 ≤ xt1 ∧ xt1 < 8) <| zlt (zu S 3 0 11 xt1 xt2) fun S2 => zlt (zw (x4 + 1)) fun v3 => q8 (v3) S2
set_option maxHeartbeats 4000000 in
set_option maxRecDepth 100000 in
theorem zw_C_ask_49 {p : Program} {l : Launch} {e : Env} {s : State} {m : MethodId} {args : Array Value} {below : List Frame} {meth : Method} {c : Code} {B : zB} (C : CallFix p m c zb_C_ask 11 s args zT "IslandOffice$Crews") (hr : meth.sig.returnType = some .long) (hlk : meth.locks = false) (hK : zK B s) (hSt : zSt B s) (hap : zAp B) (r1 : Int) (hr1 : 0 ≤ r1 ∧ r1 < 3) {res : Int} {S9 : Sg} (q8 : Int → Sg → Option (Int × Sg)) (hq8 : ∀ (x4 : Int) (S : Sg) (nx4 : zn x4), q8 x4 S = some (res, S9) → ∀ (H : Heap) (locs : List Loc) (ls : Array Slot), zW B S H → va_S B.2.2.2 s.heap H locs → lv_has ls 11 [(0, .ref (B.2.1 3 (0) (10))), (1, .ref (B.2.1 0 (r1) (0))), (2, .ref (B.2.1 3 (0) (7))), (3, .ref (B.2.1 0 (r1) (26))), (4, .int (zI (x4)))] → W p l e zm_C_ask s m args below meth c H locs 0 0 (MQ below (zQl B res S9) args s 0 0 B.2.2.2) (F0 m 8 ls [])) : ∀ (x4 : Int) (xt1 : Int) (xt2 : Int) (S : Sg) (nx4 : zn x4) (nxt1 : zn xt1) (nxt2 : zn xt2), zf_C_ask_49 r1 q8 x4 xt1 xt2 S = some (res, S9) → ∀ (H : Heap) (locs : List Loc) (ls : Array Slot), zW B S H → va_S B.2.2.2 s.heap H locs → lv_has ls 11 [(0, .ref (B.2.1 3 (0) (10))), (1, .ref (B.2.1 0 (r1) (0))), (2, .ref (B.2.1 3 (0) (7))), (3, .ref (B.2.1 0 (r1) (26))), (4, .int (zI (x4)))] → W p l e zm_C_ask s m args below meth c H locs 0 0 (MQ below (zQl B res S9) args s 0 0 B.2.2.2) (F0 m 49 ls [.int (zI (xt2)), .int (zI (xt1)), .ref (B.2.1 3 (0) (11))]) := by
  intro x4 xt1 xt2 S nx4 nxt1 nxt2 hf H locs ls hW hS hl
  unfold zf_C_ask_49 at hf
  obtain ⟨h1, hf⟩ := zck_some hf
  obtain ⟨S2, eS2, hf⟩ := zlt_some hf
  refine ziast C hK hap hW hS (zvd_3 (by decide) (by decide)) (fun f => ze_3_11 B f (0)) (by decide) rfl nxt2 h1 zd_C_ask_49 (fun H locs hW hS => ?_)
  rw [eS2] at hW
  obtain ⟨v3, ev3, hf⟩ := zlt_some hf
  have nv3 : zn v3 := by rw [← ev3]; exact zn_w _
  refine lv_iinc (v := zI v3) (lv' := [(4, .int (zI (v3))), (0, .ref (B.2.1 3 (0) (10))), (1, .ref (B.2.1 0 (r1) (0))), (2, .ref (B.2.1 3 (0) (7))), (3, .ref (B.2.1 0 (r1) (26)))]) C.1 C.2.1 zd_C_ask_50 hl (k := 4) rfl (by rw [← ev3, ← zI_add]; rfl) (by decide) rfl (fun ls hl => ?_)
  refine lv_goto (tgt := 8) C.1 C.2.1 zd_C_ask_53 (by decide) ?_
  exact hq8 (v3) S2 nv3 hf _ _ _ hW hS (lv_sub hl [1, 2, 3, 4, 0] rfl)

def zf_C_ask_8 (r1 : Int) : Nat → Int → Sg → Option (Int × Sg)
  | 0, _, _ => none
  | n + 1, x4, S =>
    if 8 ≤ x4 then (zbd (zf_Q_wantedSkills (r1) S) fun a2 S3 => zf_C_ask_68 r1 4096 (a2) (0) (0) S3) else (zck (0 ≤ x4 ∧ x4 < 8) <| zlt (zu S 20 0 1 x4 0) fun S5 => if (S5 0 r1 26 0) ≤ x4 then (zf_C_ask_49 r1 (zf_C_ask_8 r1 n) (x4) (x4) (0) S5) else (zf_C_ask_49 r1 (zf_C_ask_8 r1 n) (x4) (x4) (S5 0 r1 28 x4) S5))
set_option maxHeartbeats 4000000 in
set_option maxRecDepth 100000 in
theorem zw_C_ask_8 {p : Program} {l : Launch} {e : Env} {s : State} {m : MethodId} {args : Array Value} {below : List Frame} {meth : Method} {c : Code} {B : zB} (C : CallFix p m c zb_C_ask 11 s args zT "IslandOffice$Crews") (hr : meth.sig.returnType = some .long) (hlk : meth.locks = false) (hK : zK B s) (hSt : zSt B s) (hap : zAp B) (r1 : Int) (hr1 : 0 ≤ r1 ∧ r1 < 3) {res : Int} {S9 : Sg} : ∀ n : Nat, ∀ (x4 : Int) (S : Sg) (nx4 : zn x4), zf_C_ask_8 r1 n x4 S = some (res, S9) → ∀ (H : Heap) (locs : List Loc) (ls : Array Slot), zW B S H → va_S B.2.2.2 s.heap H locs → lv_has ls 11 [(0, .ref (B.2.1 3 (0) (10))), (1, .ref (B.2.1 0 (r1) (0))), (2, .ref (B.2.1 3 (0) (7))), (3, .ref (B.2.1 0 (r1) (26))), (4, .int (zI (x4)))] → W p l e zm_C_ask s m args below meth c H locs 0 0 (MQ below (zQl B res S9) args s 0 0 B.2.2.2) (F0 m 8 ls []) := by
  intro n
  induction n with
  | zero =>
    intro x4 S nx4 hf H locs ls hW hS hl
    cases hf
  | succ n ih =>
    intro x4 S nx4 hf H locs ls hW hS hl
    rw [zf_C_ask_8] at hf
    refine lv_iload C.1 C.2.1 zd_C_ask_8 (lv_at hl 4 rfl) ?_
    refine zr_bipush C zd_C_ask_10 (by decide) ?_
    refine zr_icmp_ge (tgt := 56) C nx4 (znb rfl) zd_C_ask_12 (by decide) (fun c1 => ?_) (fun c1 => ?_)
    · rw [if_pos c1] at hf
      refine lv_aload_n C.1 C.2.1 zd_C_ask_56 rfl (lv_at hl 3 rfl) ?_
      obtain ⟨a2, S3, ea2, hf⟩ := zbd_some hf
      refine zcVi (As := []) (rest := []) C hK hSt hW hS (zc_Q_wantedSkills hap (r1) hr1 S ea2) zq_Q_wantedSkills zk_800 (zrecv hK hW (zvd_0 hr1 (by decide)) (ze_0_26 B _ (r1)) rfl) ⟨rfl, rfl, by decide, by decide⟩ ⟨Nat.zero_le _, Nat.zero_le _⟩ rfl hl.1 rfl (lv_room (Nat.le_of_ble_eq_true rfl)) zd_C_ask_57 (fun na2 H locs hW hS => ?_)
      refine lv_istore (lv' := [(4, .int (zI (a2))), (0, .ref (B.2.1 3 (0) (10))), (1, .ref (B.2.1 0 (r1) (0))), (2, .ref (B.2.1 3 (0) (7))), (3, .ref (B.2.1 0 (r1) (26)))]) C.1 C.2.1 zd_C_ask_60 hl (by decide) rfl (fun ls hl => ?_)
      refine zr_lconst (k := 0) C zd_C_ask_62 rfl ?_
      refine lv_lstore (lv' := [(5, .long (zL (0))), (4, .int (zI (a2))), (0, .ref (B.2.1 3 (0) (10))), (1, .ref (B.2.1 0 (r1) (0))), (2, .ref (B.2.1 3 (0) (7))), (3, .ref (B.2.1 0 (r1) (26)))]) C.1 C.2.1 zd_C_ask_63 hl (by decide) rfl (fun ls hl => ?_)
      refine zr_iconst C zd_C_ask_65 ?_
      refine lv_istore (lv' := [(7, .int (zI (0))), (5, .long (zL (0))), (4, .int (zI (a2))), (0, .ref (B.2.1 3 (0) (10))), (1, .ref (B.2.1 0 (r1) (0))), (2, .ref (B.2.1 3 (0) (7))), (3, .ref (B.2.1 0 (r1) (26)))]) C.1 C.2.1 zd_C_ask_66 hl (by decide) rfl (fun ls hl => ?_)
      exact zw_C_ask_68 C hr hlk hK hSt hap r1 hr1 4096 (a2) (0) (0) S3 na2 (zmb rfl) (znb rfl) hf _ _ _ hW hS (lv_sub hl [3, 4, 5, 6, 2, 1, 0] rfl)
    · rw [if_neg c1] at hf
      refine lv_aload_n C.1 C.2.1 zd_C_ask_15 rfl (lv_at hl 0 rfl) ?_
      refine zg_C_can (r := 0) C hK hW (zvd_3 (by decide) (by decide)) zk_432 zd_C_ask_16 ?_
      refine lv_iload C.1 C.2.1 zd_C_ask_19 (lv_at hl 4 rfl) ?_
      refine zr_lconst (k := 0) C zd_C_ask_21 rfl ?_
      obtain ⟨h4, hf⟩ := zck_some hf
      obtain ⟨S5, eS5, hf⟩ := zlt_some hf
      refine zlast C hK hap hW hS (zvd_20 (by decide) (by decide)) (fun f => ze_20_1 B f (0)) (by decide) rfl (zmb rfl) h4 zd_C_ask_22 (fun H locs hW hS => ?_)
      rw [eS5] at hW
      refine lv_aload_n C.1 C.2.1 zd_C_ask_23 rfl (lv_at hl 0 rfl) ?_
      refine zg_C_hands (r := 0) C hK hW (zvd_3 (by decide) (by decide)) zk_433 zd_C_ask_24 ?_
      refine lv_iload C.1 C.2.1 zd_C_ask_27 (lv_at hl 4 rfl) ?_
      refine lv_iload C.1 C.2.1 zd_C_ask_29 (lv_at hl 4 rfl) ?_
      refine lv_aload_n C.1 C.2.1 zd_C_ask_31 rfl (lv_at hl 3 rfl) ?_
      refine zg_Q_n (r := r1) C hK hW (zvd_0 hr1 (by decide)) zk_168 zd_C_ask_32 ?_
      refine zr_icmp_ge (tgt := 48) C nx4 (zWn hW _ _ _ _ rfl) zd_C_ask_35 (by decide) (fun c6 => ?_) (fun c6 => ?_)
      · rw [if_pos c6] at hf
        refine zr_iconst C zd_C_ask_48 ?_
        exact zw_C_ask_49 C hr hlk hK hSt hap r1 hr1 (zf_C_ask_8 r1 n) (ih) (x4) (x4) (0) S5 nx4 nx4 (znb rfl) hf _ _ _ hW hS (lv_sub hl [0, 1, 2, 3, 4] rfl)
      · rw [if_neg c6] at hf
        refine lv_aload_n C.1 C.2.1 zd_C_ask_38 rfl (lv_at hl 3 rfl) ?_
        refine zg_Q_hands (r := r1) C hK hW (zvd_0 hr1 (by decide)) zk_174 zd_C_ask_39 ?_
        refine lv_iload C.1 C.2.1 zd_C_ask_42 (lv_at hl 4 rfl) ?_
        refine ziald C hK hW (zvd_0 hr1 (by decide)) (fun f => ze_0_28 B f (r1)) (by decide) h4 zd_C_ask_44 ?_
        refine lv_goto (tgt := 49) C.1 C.2.1 zd_C_ask_45 (by decide) ?_
        exact zw_C_ask_49 C hr hlk hK hSt hap r1 hr1 (zf_C_ask_8 r1 n) (ih) (x4) (x4) (S5 0 r1 28 x4) S5 nx4 nx4 (zWn hW _ _ _ _ rfl) hf _ _ _ hW hS (lv_sub hl [0, 1, 2, 3, 4] rfl)

def zf_C_ask (r1 : Int) (S : Sg) : Option (Int × Sg) :=
    zf_C_ask_8 r1 4096 (0) S
set_option maxHeartbeats 4000000 in
set_option maxRecDepth 100000 in
theorem zw_C_ask {p : Program} {l : Launch} {e : Env} {s : State} {m : MethodId} {args : Array Value} {below : List Frame} {meth : Method} {c : Code} {B : zB} (C : CallFix p m c zb_C_ask 11 s args zT "IslandOffice$Crews") (hr : meth.sig.returnType = some .long) (hlk : meth.locks = false) (hK : zK B s) (hSt : zSt B s) (hap : zAp B) (r1 : Int) (hr1 : 0 ≤ r1 ∧ r1 < 3) {res : Int} {S9 : Sg} : ∀  (S : Sg) , zf_C_ask r1  S = some (res, S9) → ∀ (H : Heap) (locs : List Loc) (ls : Array Slot), zW B S H → va_S B.2.2.2 s.heap H locs → lv_has ls 11 [(0, .ref (B.2.1 3 (0) (10))), (1, .ref (B.2.1 0 (r1) (0))), (2, .ref (B.2.1 3 (0) (7)))] → W p l e zm_C_ask s m args below meth c H locs 0 0 (MQ below (zQl B res S9) args s 0 0 B.2.2.2) (F0 m 0 ls []) := by
  intro S hf H locs ls hW hS hl
  unfold zf_C_ask at hf
  refine lv_aload_n C.1 C.2.1 zd_C_ask_0 rfl (lv_at hl 1 rfl) ?_
  refine zg_I_posts (r := r1) C hK hW (zvd_0 hr1 (by decide)) zk_287 zd_C_ask_1 ?_
  refine lv_astore_n (lv' := [(3, .ref (B.2.1 0 (r1) (26))), (0, .ref (B.2.1 3 (0) (10))), (1, .ref (B.2.1 0 (r1) (0))), (2, .ref (B.2.1 3 (0) (7)))]) C.1 C.2.1 zd_C_ask_4 rfl hl (by decide) rfl (fun ls hl => ?_)
  refine zr_iconst C zd_C_ask_5 ?_
  refine lv_istore (lv' := [(4, .int (zI (0))), (3, .ref (B.2.1 0 (r1) (26))), (0, .ref (B.2.1 3 (0) (10))), (1, .ref (B.2.1 0 (r1) (0))), (2, .ref (B.2.1 3 (0) (7)))]) C.1 C.2.1 zd_C_ask_6 hl (by decide) rfl (fun ls hl => ?_)
  exact zw_C_ask_8 C hr hlk hK hSt hap r1 hr1 4096 (0) S (znb rfl) hf _ _ _ hW hS (lv_sub hl [2, 3, 4, 1, 0] rfl)

theorem zc_C_ask {l : Launch} {B : zB} (hap : zAp B) (r1 : Int) (hr1 : 0 ≤ r1 ∧ r1 < 3) (S : Sg) {res : Int} {S9 : Sg} (hf : zf_C_ask r1 S = some (res, S9)) : Met l zy_C_ask (Cond.code zy_C_ask zb_C_ask 11 (some .long) :: zT) zm_C_ask (zP B S [.ref (B.2.1 3 (0) (10)), .ref (B.2.1 0 (r1) (0)), .ref (B.2.1 3 (0) (7))]) (zQl B res S9) 0 0 B.2.2.2 :=
  zmet (by decide) (Nat.le_of_ble_eq_true rfl) (fun p e s m args below meth c C hr hlk hK hSt hW ls hl => zw_C_ask C hr hlk hK hSt hap r1 hr1  S  hf _ _ _ hW va_S.rf hl)
