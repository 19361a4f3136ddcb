/-! java/util/Arrays.fill([II)V -/
abbrev zy_Ja_fill : MethodName := ⟨"java/util/Arrays", "fill", "([II)V"⟩
abbrev zb_Ja_fill : ByteArray := prog_26_method_103_code
abbrev zm_Ja_fill : Room := { frames := 0, cells := 0, slots := 0, locals := 0 }
theorem zq_Ja_fill : zMs zy_Ja_fill zb_Ja_fill 4 (none) 2 := ⟨zk_45, zk_44, zk_3, by decide, by decide, by decide +kernel⟩
theorem zd_Ja_fill_0 : decode zb_Ja_fill 0 = .ok (.iconst 0, 1) := by decide +kernel
theorem zd_Ja_fill_1 : decode zb_Ja_fill 1 = .ok (.istore_n 2, 1) := by decide +kernel
theorem zd_Ja_fill_2 : decode zb_Ja_fill 2 = .ok (.aload_n 0, 1) := by decide +kernel
theorem zd_Ja_fill_3 : decode zb_Ja_fill 3 = .ok (.arraylength, 1) := by decide +kernel
theorem zd_Ja_fill_4 : decode zb_Ja_fill 4 = .ok (.istore_n 3, 1) := by decide +kernel
theorem zd_Ja_fill_5 : decode zb_Ja_fill 5 = .ok (.iload_n 2, 1) := by decide +kernel
theorem zd_Ja_fill_6 : decode zb_Ja_fill 6 = .ok (.iload_n 3, 1) := by decide +kernel
theorem zd_Ja_fill_7 : decode zb_Ja_fill 7 = .ok (.if_icmp .ge 13, 3) := by decide +kernel
theorem zd_Ja_fill_10 : decode zb_Ja_fill 10 = .ok (.aload_n 0, 1) := by decide +kernel
theorem zd_Ja_fill_11 : decode zb_Ja_fill 11 = .ok (.iload_n 2, 1) := by decide +kernel
theorem zd_Ja_fill_12 : decode zb_Ja_fill 12 = .ok (.iload_n 1, 1) := by decide +kernel
theorem zd_Ja_fill_13 : decode zb_Ja_fill 13 = .ok (.iastore, 1) := by decide +kernel
theorem zd_Ja_fill_14 : decode zb_Ja_fill 14 = .ok (.iinc 2 1, 3) := by decide +kernel
theorem zd_Ja_fill_17 : decode zb_Ja_fill 17 = .ok (.goto (-12), 3) := by decide +kernel
theorem zd_Ja_fill_20 : decode zb_Ja_fill 20 = .ok (.return_, 1) := by decide +kernel

def zf_Ja_fill_5 (g0 : Nat) (r0 : Int) (k0 : Int) (n0 : Nat) : Nat → Int → Int → Int → Sg → Option (Int × Sg)
  | 0, _, _, _, _ => none
  | n + 1, x1, x2, x3, S =>
    if x3 ≤ x2 then (some (0, S)) else (zck (0 ≤ x2 ∧ x2 < (n0 : Int)) <| zlt (zu S g0 r0 k0 x2 x1) fun S3 => zlt (zw (x2 + 1)) fun v4 => (zf_Ja_fill_5 g0 r0 k0 n0 n) (x1) (v4) (x3) S3)
set_option maxHeartbeats 4000000 in
set_option maxRecDepth 100000 in
theorem zw_Ja_fill_5 {p : Program} {l : Launch} {e : Env} {s : State} {m : MethodId} {args : Array Value} {below : List Frame} {meth : Method} {c : Code} {B : zB} (C : CallFix p m c zb_Ja_fill 4 s args zT "java/util/Arrays") (hr : meth.sig.returnType = none) (hlk : meth.locks = false) (hK : zK B s) (hSt : zSt B s) (hap : zAp B) (g0 : Nat) (r0 : Int) (k0 : Int) (n0 : Nat) (hv0 : zvd g0 r0 k0) (he0 : ∀ f, zce B f g0 r0 k0 = .inl (B.2.2.1 0, n0, .inl (fun j : Nat => zI (f (j : Int))))) (hn0 : n0 ≤ 65536) (hg0 : (decide (20 ≤ g0)) = false) {res : Int} {S9 : Sg} : ∀ n : Nat, ∀ (x1 : Int) (x2 : Int) (x3 : Int) (S : Sg) (nx1 : zn x1) (nx2 : zn x2) (nx3 : zn x3), zf_Ja_fill_5 g0 r0 k0 n0 n x1 x2 x3 S = some (res, S9) → ∀ (H : Heap) (locs : List Loc) (ls : Array Slot), zW B S H → va_S B.2.2.2 s.heap H locs → lv_has ls 4 [(0, .ref (B.2.1 g0 (r0) (k0))), (1, .int (zI (x1))), (2, .int (zI (x2))), (3, .int (zI (x3)))] → W p l e zm_Ja_fill s m args below meth c H locs 0 0 (MQ below (zQv B S9) args s 0 0 B.2.2.2) (F0 m 5 ls []) := by
  intro n
  induction n with
  | zero =>
    intro x1 x2 x3 S nx1 nx2 nx3 hf H locs ls hW hS hl
    cases hf
  | succ n ih =>
    intro x1 x2 x3 S nx1 nx2 nx3 hf H locs ls hW hS hl
    rw [zf_Ja_fill_5] at hf
    refine lv_iload_n C.1 C.2.1 zd_Ja_fill_5 rfl (lv_at hl 2 rfl) ?_
    refine lv_iload_n C.1 C.2.1 zd_Ja_fill_6 rfl (lv_at hl 3 rfl) ?_
    refine zr_icmp_ge (tgt := 20) C nx2 nx3 zd_Ja_fill_7 (by decide) (fun c1 => ?_) (fun c1 => ?_)
    · rw [if_pos c1] at hf
      cases hf
      exact zre_v C hr hlk hK hW hS zd_Ja_fill_20
    · rw [if_neg c1] at hf
      refine lv_aload_n C.1 C.2.1 zd_Ja_fill_10 rfl (lv_at hl 0 rfl) ?_
      refine lv_iload_n C.1 C.2.1 zd_Ja_fill_11 rfl (lv_at hl 2 rfl) ?_
      refine lv_iload_n C.1 C.2.1 zd_Ja_fill_12 rfl (lv_at hl 1 rfl) ?_
      obtain ⟨h2, hf⟩ := zck_some hf
      obtain ⟨S3, eS3, hf⟩ := zlt_some hf
      refine ziast C hK hap hW hS hv0 he0 hn0 hg0 nx1 h2 zd_Ja_fill_13 (fun H locs hW hS => ?_)
      rw [eS3] at hW
      obtain ⟨v4, ev4, hf⟩ := zlt_some hf
      have nv4 : zn v4 := by rw [← ev4]; exact zn_w _
      refine lv_iinc (v := zI v4) (lv' := [(2, .int (zI (v4))), (0, .ref (B.2.1 g0 (r0) (k0))), (1, .int (zI (x1))), (3, .int (zI (x3)))]) C.1 C.2.1 zd_Ja_fill_14 hl (k := 2) rfl (by rw [← ev4, ← zI_add]; rfl) (by decide) rfl (fun ls hl => ?_)
      refine lv_goto (tgt := 5) C.1 C.2.1 zd_Ja_fill_17 (by decide) ?_
      exact ih (x1) (v4) (x3) S3 nx1 nv4 nx3 hf _ _ _ hW hS (lv_sub hl [1, 2, 0, 3] rfl)

def zf_Ja_fill (g0 : Nat) (r0 : Int) (k0 : Int) (n0 : Nat) (x1 : Int) (S : Sg) : Option (Int × Sg) :=
    zlt ((n0 : Int)) fun v1 => zf_Ja_fill_5 g0 r0 k0 n0 4096 (x1) (0) (v1) S
set_option maxHeartbeats 4000000 in
set_option maxRecDepth 100000 in
theorem zw_Ja_fill {p : Program} {l : Launch} {e : Env} {s : State} {m : MethodId} {args : Array Value} {below : List Frame} {meth : Method} {c : Code} {B : zB} (C : CallFix p m c zb_Ja_fill 4 s args zT "java/util/Arrays") (hr : meth.sig.returnType = none) (hlk : meth.locks = false) (hK : zK B s) (hSt : zSt B s) (hap : zAp B) (g0 : Nat) (r0 : Int) (k0 : Int) (n0 : Nat) (hv0 : zvd g0 r0 k0) (he0 : ∀ f, zce B f g0 r0 k0 = .inl (B.2.2.1 0, n0, .inl (fun j : Nat => zI (f (j : Int))))) (hn0 : n0 ≤ 65536) (hg0 : (decide (20 ≤ g0)) = false) {res : Int} {S9 : Sg} : ∀ (x1 : Int) (S : Sg) (nx1 : zn x1), zf_Ja_fill g0 r0 k0 n0 x1 S = some (res, S9) → ∀ (H : Heap) (locs : List Loc) (ls : Array Slot), zW B S H → va_S B.2.2.2 s.heap H locs → lv_has ls 4 [(0, .ref (B.2.1 g0 (r0) (k0))), (1, .int (zI (x1)))] → W p l e zm_Ja_fill s m args below meth c H locs 0 0 (MQ below (zQv B S9) args s 0 0 B.2.2.2) (F0 m 0 ls []) := by
  intro x1 S nx1 hf H locs ls hW hS hl
  unfold zf_Ja_fill at hf
  refine zr_iconst C zd_Ja_fill_0 ?_
  refine lv_istore_n (lv' := [(2, .int (zI (0))), (0, .ref (B.2.1 g0 (r0) (k0))), (1, .int (zI (x1)))]) C.1 C.2.1 zd_Ja_fill_1 rfl hl (by decide) rfl (fun ls hl => ?_)
  refine lv_aload_n C.1 C.2.1 zd_Ja_fill_2 rfl (lv_at hl 1 rfl) ?_
  refine zalen (N := (n0 : Int)) C hK hW hv0 he0 rfl zd_Ja_fill_3 ?_
  obtain ⟨v1, ev1, hf⟩ := zlt_some hf
  have nv1 : zn v1 := by rw [← ev1]; exact (zn_len hn0)
  rw [ev1]
  refine lv_istore_n (lv' := [(3, .int (zI (v1))), (2, .int (zI (0))), (0, .ref (B.2.1 g0 (r0) (k0))), (1, .int (zI (x1)))]) C.1 C.2.1 zd_Ja_fill_4 rfl hl (by decide) rfl (fun ls hl => ?_)
  exact zw_Ja_fill_5 C hr hlk hK hSt hap g0 r0 k0 n0 hv0 he0 hn0 hg0 4096 (x1) (0) (v1) S nx1 (znb rfl) nv1 hf _ _ _ hW hS (lv_sub hl [2, 3, 1, 0] rfl)

theorem zc_Ja_fill {l : Launch} {B : zB} (hap : zAp B) (g0 : Nat) (r0 : Int) (k0 : Int) (n0 : Nat) (hv0 : zvd g0 r0 k0) (he0 : ∀ f, zce B f g0 r0 k0 = .inl (B.2.2.1 0, n0, .inl (fun j : Nat => zI (f (j : Int))))) (hn0 : n0 ≤ 65536) (hg0 : (decide (20 ≤ g0)) = false) (x1 : Int) (S : Sg) (nx1 : zn x1) {res : Int} {S9 : Sg} (hf : zf_Ja_fill g0 r0 k0 n0 x1 S = some (res, S9)) : Met l zy_Ja_fill (Cond.code zy_Ja_fill zb_Ja_fill 4 (none) :: zT) zm_Ja_fill (zP B S [.ref (B.2.1 g0 (r0) (k0)), .int (zI (x1))]) (zQv B S9) 0 0 B.2.2.2 :=
  zmet (by decide) (Nat.le_of_ble_eq_true rfl) (fun p e s m args below meth c C hr hlk hK hSt hW ls hl => zw_Ja_fill C hr hlk hK hSt hap g0 r0 k0 n0 hv0 he0 hn0 hg0 x1 S nx1 hf _ _ _ hW va_S.rf hl)
/-! IslandOffice.areSkills(I)Z -/
abbrev zy_O_areSkills : MethodName := ⟨"IslandOffice", "areSkills", "(I)Z"⟩
abbrev zb_O_areSkills : ByteArray := prog_1_method_49_code
abbrev zm_O_areSkills : Room := { frames := 0, cells := 0, slots := 0, locals := 0 }
theorem zq_O_areSkills : zMs zy_O_areSkills zb_O_areSkills 1 (some .boolean) 1 := ⟨zk_536, zk_535, zk_1, by decide, by decide, by decide +kernel⟩
theorem zd_O_areSkills_0 : decode zb_O_areSkills 0 = .ok (.iload_n 0, 1) := by decide +kernel
theorem zd_O_areSkills_1 : decode zb_O_areSkills 1 = .ok (.ifCond .lt 14, 3) := by decide +kernel
theorem zd_O_areSkills_4 : decode zb_O_areSkills 4 = .ok (.iload_n 0, 1) := by decide +kernel
theorem zd_O_areSkills_5 : decode zb_O_areSkills 5 = .ok (.sipush 256, 3) := by decide +kernel
theorem zd_O_areSkills_8 : decode zb_O_areSkills 8 = .ok (.if_icmp .ge 7, 3) := by decide +kernel
theorem zd_O_areSkills_11 : decode zb_O_areSkills 11 = .ok (.iconst 1, 1) := by decide +kernel
theorem zd_O_areSkills_12 : decode zb_O_areSkills 12 = .ok (.goto 4, 3) := by decide +kernel
theorem zd_O_areSkills_15 : decode zb_O_areSkills 15 = .ok (.iconst 0, 1) := by decide +kernel
theorem zd_O_areSkills_16 : decode zb_O_areSkills 16 = .ok (.ireturn, 1) := by decide +kernel

def zf_O_areSkills (x0 : Int) (S : Sg) : Option (Int × Sg) :=
    if x0 < 0 then (some (0, S)) else (if 256 ≤ x0 then (some (0, S)) else (some (1, S)))
set_option maxHeartbeats 4000000 in
set_option maxRecDepth 100000 in
theorem zw_O_areSkills {p : Program} {l : Launch} {e : Env} {s : State} {m : MethodId} {args : Array Value} {below : List Frame} {meth : Method} {c : Code} {B : zB} (C : CallFix p m c zb_O_areSkills 1 s args zT "IslandOffice") (hr : meth.sig.returnType = some .boolean) (hlk : meth.locks = false) (hK : zK B s) (hSt : zSt B s) (hap : zAp B) {res : Int} {S9 : Sg} : ∀ (x0 : Int) (S : Sg) (nx0 : zn x0), zf_O_areSkills x0 S = some (res, S9) → ∀ (H : Heap) (locs : List Loc) (ls : Array Slot), zW B S H → va_S B.2.2.2 s.heap H locs → lv_has ls 1 [(0, .int (zI (x0)))] → W p l e zm_O_areSkills s m args below meth c H locs 0 0 (MQ below (zQi B res S9) args s 0 0 B.2.2.2) (F0 m 0 ls []) := by
  intro x0 S nx0 hf H locs ls hW hS hl
  unfold zf_O_areSkills at hf
  refine lv_iload_n C.1 C.2.1 zd_O_areSkills_0 rfl (lv_at hl 0 rfl) ?_
  refine zr_if_lt (tgt := 15) C nx0 zd_O_areSkills_1 (by decide) (fun c1 => ?_) (fun c1 => ?_)
  · rw [if_pos c1] at hf
    refine zr_iconst C zd_O_areSkills_15 ?_
    cases hf
    exact zre_z C hr hlk hK hW hS (znb rfl) (zb01 (by decide)) zd_O_areSkills_16
  · rw [if_neg c1] at hf
    refine lv_iload_n C.1 C.2.1 zd_O_areSkills_4 rfl (lv_at hl 0 rfl) ?_
    refine zr_sipush C zd_O_areSkills_5 (by decide) ?_
    refine zr_icmp_ge (tgt := 15) C nx0 (znb rfl) zd_O_areSkills_8 (by decide) (fun c2 => ?_) (fun c2 => ?_)
    · rw [if_pos c2] at hf
      refine zr_iconst C zd_O_areSkills_15 ?_
      cases hf
      exact zre_z C hr hlk hK hW hS (znb rfl) (zb01 (by decide)) zd_O_areSkills_16
    · rw [if_neg c2] at hf
      refine zr_iconst C zd_O_areSkills_11 ?_
      refine lv_goto (tgt := 16) C.1 C.2.1 zd_O_areSkills_12 (by decide) ?_
      cases hf
      exact zre_z C hr hlk hK hW hS (znb rfl) (zb01 (by decide)) zd_O_areSkills_16

theorem zc_O_areSkills {l : Launch} {B : zB} (hap : zAp B) (x0 : Int) (S : Sg) (nx0 : zn x0) {res : Int} {S9 : Sg} (hf : zf_O_areSkills x0 S = some (res, S9)) : Met l zy_O_areSkills (Cond.code zy_O_areSkills zb_O_areSkills 1 (some .boolean) :: zT) zm_O_areSkills (zP B S [.int (zI (x0))]) (zQi B res S9) 0 0 B.2.2.2 :=
  zmet (by decide) (Nat.le_of_ble_eq_true rfl) (fun p e s m args below meth c C hr hlk hK hSt hW ls hl => zw_O_areSkills C hr hlk hK hSt hap   x0 S nx0 hf _ _ _ hW va_S.rf hl)
/-! IslandOffice.isHouse(I)Z -/
abbrev zy_O_isHouse : MethodName := ⟨"IslandOffice", "isHouse", "(I)Z"⟩
abbrev zb_O_isHouse : ByteArray := prog_1_method_48_code
abbrev zm_O_isHouse : Room := { frames := 0, cells := 0, slots := 0, locals := 0 }
theorem zq_O_isHouse : zMs zy_O_isHouse zb_O_isHouse 1 (some .boolean) 1 := ⟨zk_533, zk_532, zk_1, by decide, by decide, by decide +kernel⟩
theorem zd_O_isHouse_0 : decode zb_O_isHouse 0 = .ok (.iload_n 0, 1) := by decide +kernel
theorem zd_O_isHouse_1 : decode zb_O_isHouse 1 = .ok (.ifCond .lt 13, 3) := by decide +kernel
theorem zd_O_isHouse_4 : decode zb_O_isHouse 4 = .ok (.iload_n 0, 1) := by decide +kernel
theorem zd_O_isHouse_5 : decode zb_O_isHouse 5 = .ok (.bipush 12, 2) := by decide +kernel
theorem zd_O_isHouse_7 : decode zb_O_isHouse 7 = .ok (.if_icmp .ge 7, 3) := by decide +kernel
theorem zd_O_isHouse_10 : decode zb_O_isHouse 10 = .ok (.iconst 1, 1) := by decide +kernel
theorem zd_O_isHouse_11 : decode zb_O_isHouse 11 = .ok (.goto 4, 3) := by decide +kernel
theorem zd_O_isHouse_14 : decode zb_O_isHouse 14 = .ok (.iconst 0, 1) := by decide +kernel
theorem zd_O_isHouse_15 : decode zb_O_isHouse 15 = .ok (.ireturn, 1) := by decide +kernel

def zf_O_isHouse (x0 : Int) (S : Sg) : Option (Int × Sg) :=
    if x0 < 0 then (some (0, S)) else (if 12 ≤ x0 then (some (0, S)) else (some (1, S)))
set_option maxHeartbeats 4000000 in
set_option maxRecDepth 100000 in
theorem zw_O_isHouse {p : Program} {l : Launch} {e : Env} {s : State} {m : MethodId} {args : Array Value} {below : List Frame} {meth : Method} {c : Code} {B : zB} (C : CallFix p m c zb_O_isHouse 1 s args zT "IslandOffice") (hr : meth.sig.returnType = some .boolean) (hlk : meth.locks = false) (hK : zK B s) (hSt : zSt B s) (hap : zAp B) {res : Int} {S9 : Sg} : ∀ (x0 : Int) (S : Sg) (nx0 : zn x0), zf_O_isHouse x0 S = some (res, S9) → ∀ (H : Heap) (locs : List Loc) (ls : Array Slot), zW B S H → va_S B.2.2.2 s.heap H locs → lv_has ls 1 [(0, .int (zI (x0)))] → W p l e zm_O_isHouse s m args below meth c H locs 0 0 (MQ below (zQi B res S9) args s 0 0 B.2.2.2) (F0 m 0 ls []) := by
  intro x0 S nx0 hf H locs ls hW hS hl
  unfold zf_O_isHouse at hf
  refine lv_iload_n C.1 C.2.1 zd_O_isHouse_0 rfl (lv_at hl 0 rfl) ?_
  refine zr_if_lt (tgt := 14) C nx0 zd_O_isHouse_1 (by decide) (fun c1 => ?_) (fun c1 => ?_)
  · rw [if_pos c1] at hf
    refine zr_iconst C zd_O_isHouse_14 ?_
    cases hf
    exact zre_z C hr hlk hK hW hS (znb rfl) (zb01 (by decide)) zd_O_isHouse_15
  · rw [if_neg c1] at hf
    refine lv_iload_n C.1 C.2.1 zd_O_isHouse_4 rfl (lv_at hl 0 rfl) ?_
    refine zr_bipush C zd_O_isHouse_5 (by decide) ?_
    refine zr_icmp_ge (tgt := 14) C nx0 (znb rfl) zd_O_isHouse_7 (by decide) (fun c2 => ?_) (fun c2 => ?_)
    · rw [if_pos c2] at hf
      refine zr_iconst C zd_O_isHouse_14 ?_
      cases hf
      exact zre_z C hr hlk hK hW hS (znb rfl) (zb01 (by decide)) zd_O_isHouse_15
    · rw [if_neg c2] at hf
      refine zr_iconst C zd_O_isHouse_10 ?_
      refine lv_goto (tgt := 15) C.1 C.2.1 zd_O_isHouse_11 (by decide) ?_
      cases hf
      exact zre_z C hr hlk hK hW hS (znb rfl) (zb01 (by decide)) zd_O_isHouse_15

theorem zc_O_isHouse {l : Launch} {B : zB} (hap : zAp B) (x0 : Int) (S : Sg) (nx0 : zn x0) {res : Int} {S9 : Sg} (hf : zf_O_isHouse x0 S = some (res, S9)) : Met l zy_O_isHouse (Cond.code zy_O_isHouse zb_O_isHouse 1 (some .boolean) :: zT) zm_O_isHouse (zP B S [.int (zI (x0))]) (zQi B res S9) 0 0 B.2.2.2 :=
  zmet (by decide) (Nat.le_of_ble_eq_true rfl) (fun p e s m args below meth c C hr hlk hK hSt hW ls hl => zw_O_isHouse C hr hlk hK hSt hap   x0 S nx0 hf _ _ _ hW va_S.rf hl)
/-! IslandOffice.mayBeBorn(I)Z -/
abbrev zy_O_mayBeBorn : MethodName := ⟨"IslandOffice", "mayBeBorn", "(I)Z"⟩
abbrev zb_O_mayBeBorn : ByteArray := prog_1_method_47_code
abbrev zm_O_mayBeBorn : Room := { frames := 0, cells := 0, slots := 0, locals := 0 }
theorem zq_O_mayBeBorn : zMy zy_O_mayBeBorn zb_O_mayBeBorn 2 (some .boolean) 1 := ⟨zk_530, zk_529, zs_0, zk_1, by decide, by decide, by decide +kernel⟩
theorem zd_O_mayBeBorn_0 : decode zb_O_mayBeBorn 0 = .ok (.iload_n 1, 1) := by decide +kernel
theorem zd_O_mayBeBorn_1 : decode zb_O_mayBeBorn 1 = .ok (.sipush (-5000), 3) := by decide +kernel
theorem zd_O_mayBeBorn_4 : decode zb_O_mayBeBorn 4 = .ok (.if_icmp .lt 18, 3) := by decide +kernel
theorem zd_O_mayBeBorn_7 : decode zb_O_mayBeBorn 7 = .ok (.iload_n 1, 1) := by decide +kernel
theorem zd_O_mayBeBorn_8 : decode zb_O_mayBeBorn 8 = .ok (.aload_n 0, 1) := by decide +kernel
theorem zd_O_mayBeBorn_9 : decode zb_O_mayBeBorn 9 = .ok (.getfield 16, 3) := by decide +kernel
theorem zd_O_mayBeBorn_12 : decode zb_O_mayBeBorn 12 = .ok (.getfield 94, 3) := by decide +kernel
theorem zd_O_mayBeBorn_15 : decode zb_O_mayBeBorn 15 = .ok (.if_icmp .gt 7, 3) := by decide +kernel
theorem zd_O_mayBeBorn_18 : decode zb_O_mayBeBorn 18 = .ok (.iconst 1, 1) := by decide +kernel
theorem zd_O_mayBeBorn_19 : decode zb_O_mayBeBorn 19 = .ok (.goto 4, 3) := by decide +kernel
theorem zd_O_mayBeBorn_22 : decode zb_O_mayBeBorn 22 = .ok (.iconst 0, 1) := by decide +kernel
theorem zd_O_mayBeBorn_23 : decode zb_O_mayBeBorn 23 = .ok (.ireturn, 1) := by decide +kernel

def zf_O_mayBeBorn (x1 : Int) (S : Sg) : Option (Int × Sg) :=
    if x1 < (-5000) then (some (0, S)) else (if (S 0 0 0 0) < x1 then (some (0, S)) else (some (1, S)))
set_option maxHeartbeats 4000000 in
set_option maxRecDepth 100000 in
theorem zw_O_mayBeBorn {p : Program} {l : Launch} {e : Env} {s : State} {m : MethodId} {args : Array Value} {below : List Frame} {meth : Method} {c : Code} {B : zB} (C : CallFix p m c zb_O_mayBeBorn 2 s args zT "IslandOffice") (hr : meth.sig.returnType = some .boolean) (hlk : meth.locks = false) (hK : zK B s) (hSt : zSt B s) (hap : zAp B) {res : Int} {S9 : Sg} : ∀ (x1 : Int) (S : Sg) (nx1 : zn x1), zf_O_mayBeBorn x1 S = some (res, S9) → ∀ (H : Heap) (locs : List Loc) (ls : Array Slot), zW B S H → va_S B.2.2.2 s.heap H locs → lv_has ls 2 [(0, .ref (B.2.1 3 (0) (0))), (1, .int (zI (x1)))] → W p l e zm_O_mayBeBorn s m args below meth c H locs 0 0 (MQ below (zQi B res S9) args s 0 0 B.2.2.2) (F0 m 0 ls []) := by
  intro x1 S nx1 hf H locs ls hW hS hl
  unfold zf_O_mayBeBorn at hf
  refine lv_iload_n C.1 C.2.1 zd_O_mayBeBorn_0 rfl (lv_at hl 1 rfl) ?_
  refine zr_sipush C zd_O_mayBeBorn_1 (by decide) ?_
  refine zr_icmp_lt (tgt := 22) C nx1 (znb rfl) zd_O_mayBeBorn_4 (by decide) (fun c1 => ?_) (fun c1 => ?_)
  · rw [if_pos c1] at hf
    refine zr_iconst C zd_O_mayBeBorn_22 ?_
    cases hf
    exact zre_z C hr hlk hK hW hS (znb rfl) (zb01 (by decide)) zd_O_mayBeBorn_23
  · rw [if_neg c1] at hf
    refine lv_iload_n C.1 C.2.1 zd_O_mayBeBorn_7 rfl (lv_at hl 1 rfl) ?_
    refine lv_aload_n C.1 C.2.1 zd_O_mayBeBorn_8 rfl (lv_at hl 0 rfl) ?_
    refine zg_O_now (r := 0) C hK hW (zvd_3 (by decide) (by decide)) zk_492 zd_O_mayBeBorn_9 ?_
    refine zg_I_week (r := 0) C hK hW (zvd_0 (by decide) (by decide)) zk_242 zd_O_mayBeBorn_12 ?_
    refine zr_icmp_gt (tgt := 22) C nx1 (zWn hW _ _ _ _ rfl) zd_O_mayBeBorn_15 (by decide) (fun c2 => ?_) (fun c2 => ?_)
    · rw [if_pos c2] at hf
      refine zr_iconst C zd_O_mayBeBorn_22 ?_
      cases hf
      exact zre_z C hr hlk hK hW hS (znb rfl) (zb01 (by decide)) zd_O_mayBeBorn_23
    · rw [if_neg c2] at hf
      refine zr_iconst C zd_O_mayBeBorn_18 ?_
      refine lv_goto (tgt := 23) C.1 C.2.1 zd_O_mayBeBorn_19 (by decide) ?_
      cases hf
      exact zre_z C hr hlk hK hW hS (znb rfl) (zb01 (by decide)) zd_O_mayBeBorn_23

theorem zc_O_mayBeBorn {l : Launch} {B : zB} (hap : zAp B) (x1 : Int) (S : Sg) (nx1 : zn x1) {res : Int} {S9 : Sg} (hf : zf_O_mayBeBorn x1 S = some (res, S9)) : Met l zy_O_mayBeBorn (Cond.code zy_O_mayBeBorn zb_O_mayBeBorn 2 (some .boolean) :: zT) zm_O_mayBeBorn (zP B S [.ref (B.2.1 3 (0) (0)), .int (zI (x1))]) (zQi B res S9) 0 0 B.2.2.2 :=
  zmet (by decide) (Nat.le_of_ble_eq_true rfl) (fun p e s m args below meth c C hr hlk hK hSt hW ls hl => zw_O_mayBeBorn C hr hlk hK hSt hap   x1 S nx1 hf _ _ _ hW va_S.rf hl)
/-! IslandOffice$People.add(IIIII)I -/
abbrev zy_P_add : MethodName := ⟨"IslandOffice$People", "add", "(IIIII)I"⟩
abbrev zb_P_add : ByteArray := prog_7_method_3_code
abbrev zm_P_add : Room := { frames := 0, cells := 0, slots := 0, locals := 0 }
theorem zq_P_add : zMy zy_P_add zb_P_add 7 (some .int) 5 := ⟨zk_544, zk_542, zk_543, zk_4, by decide, by decide, by decide +kernel⟩
theorem zd_P_add_0 : decode zb_P_add 0 = .ok (.aload_n 0, 1) := by decide +kernel
theorem zd_P_add_1 : decode zb_P_add 1 = .ok (.getfield 9, 3) := by decide +kernel
theorem zd_P_add_4 : decode zb_P_add 4 = .ok (.bipush 40, 2) := by decide +kernel
theorem zd_P_add_6 : decode zb_P_add 6 = .ok (.if_icmp .lt 6, 3) := by decide +kernel
theorem zd_P_add_9 : decode zb_P_add 9 = .ok (.bipush (-2), 2) := by decide +kernel
theorem zd_P_add_11 : decode zb_P_add 11 = .ok (.ireturn, 1) := by decide +kernel
theorem zd_P_add_12 : decode zb_P_add 12 = .ok (.aload_n 0, 1) := by decide +kernel
theorem zd_P_add_13 : decode zb_P_add 13 = .ok (.getfield 9, 3) := by decide +kernel
theorem zd_P_add_16 : decode zb_P_add 16 = .ok (.istore 6, 2) := by decide +kernel
theorem zd_P_add_18 : decode zb_P_add 18 = .ok (.aload_n 0, 1) := by decide +kernel
theorem zd_P_add_19 : decode zb_P_add 19 = .ok (.getfield 15, 3) := by decide +kernel
theorem zd_P_add_22 : decode zb_P_add 22 = .ok (.iload 6, 2) := by decide +kernel
theorem zd_P_add_24 : decode zb_P_add 24 = .ok (.iload_n 1, 1) := by decide +kernel
theorem zd_P_add_25 : decode zb_P_add 25 = .ok (.iastore, 1) := by decide +kernel
theorem zd_P_add_26 : decode zb_P_add 26 = .ok (.aload_n 0, 1) := by decide +kernel
theorem zd_P_add_27 : decode zb_P_add 27 = .ok (.getfield 19, 3) := by decide +kernel
theorem zd_P_add_30 : decode zb_P_add 30 = .ok (.iload 6, 2) := by decide +kernel
theorem zd_P_add_32 : decode zb_P_add 32 = .ok (.iload_n 2, 1) := by decide +kernel
theorem zd_P_add_33 : decode zb_P_add 33 = .ok (.iastore, 1) := by decide +kernel
theorem zd_P_add_34 : decode zb_P_add 34 = .ok (.aload_n 0, 1) := by decide +kernel
theorem zd_P_add_35 : decode zb_P_add 35 = .ok (.getfield 22, 3) := by decide +kernel
theorem zd_P_add_38 : decode zb_P_add 38 = .ok (.iload 6, 2) := by decide +kernel
theorem zd_P_add_40 : decode zb_P_add 40 = .ok (.iload_n 3, 1) := by decide +kernel
theorem zd_P_add_41 : decode zb_P_add 41 = .ok (.iastore, 1) := by decide +kernel
theorem zd_P_add_42 : decode zb_P_add 42 = .ok (.aload_n 0, 1) := by decide +kernel
theorem zd_P_add_43 : decode zb_P_add 43 = .ok (.getfield 25, 3) := by decide +kernel
theorem zd_P_add_46 : decode zb_P_add 46 = .ok (.iload 6, 2) := by decide +kernel
theorem zd_P_add_48 : decode zb_P_add 48 = .ok (.iload 4, 2) := by decide +kernel
theorem zd_P_add_50 : decode zb_P_add 50 = .ok (.iastore, 1) := by decide +kernel
theorem zd_P_add_51 : decode zb_P_add 51 = .ok (.aload_n 0, 1) := by decide +kernel
theorem zd_P_add_52 : decode zb_P_add 52 = .ok (.getfield 28, 3) := by decide +kernel
theorem zd_P_add_55 : decode zb_P_add 55 = .ok (.iload 6, 2) := by decide +kernel
theorem zd_P_add_57 : decode zb_P_add 57 = .ok (.iconst 0, 1) := by decide +kernel
theorem zd_P_add_58 : decode zb_P_add 58 = .ok (.iastore, 1) := by decide +kernel
theorem zd_P_add_59 : decode zb_P_add 59 = .ok (.aload_n 0, 1) := by decide +kernel
theorem zd_P_add_60 : decode zb_P_add 60 = .ok (.getfield 31, 3) := by decide +kernel
theorem zd_P_add_63 : decode zb_P_add 63 = .ok (.iload 6, 2) := by decide +kernel
theorem zd_P_add_65 : decode zb_P_add 65 = .ok (.iload 5, 2) := by decide +kernel
theorem zd_P_add_67 : decode zb_P_add 67 = .ok (.iastore, 1) := by decide +kernel
theorem zd_P_add_68 : decode zb_P_add 68 = .ok (.aload_n 0, 1) := by decide +kernel
theorem zd_P_add_69 : decode zb_P_add 69 = .ok (.getfield 34, 3) := by decide +kernel
theorem zd_P_add_72 : decode zb_P_add 72 = .ok (.iload 6, 2) := by decide +kernel
theorem zd_P_add_74 : decode zb_P_add 74 = .ok (.iconst 0, 1) := by decide +kernel
theorem zd_P_add_75 : decode zb_P_add 75 = .ok (.iastore, 1) := by decide +kernel
theorem zd_P_add_76 : decode zb_P_add 76 = .ok (.aload_n 0, 1) := by decide +kernel
theorem zd_P_add_77 : decode zb_P_add 77 = .ok (.getfield 37, 3) := by decide +kernel
theorem zd_P_add_80 : decode zb_P_add 80 = .ok (.iload 6, 2) := by decide +kernel
theorem zd_P_add_82 : decode zb_P_add 82 = .ok (.iconst (-1), 1) := by decide +kernel
theorem zd_P_add_83 : decode zb_P_add 83 = .ok (.iastore, 1) := by decide +kernel
theorem zd_P_add_84 : decode zb_P_add 84 = .ok (.aload_n 0, 1) := by decide +kernel
theorem zd_P_add_85 : decode zb_P_add 85 = .ok (.getfield 40, 3) := by decide +kernel
theorem zd_P_add_88 : decode zb_P_add 88 = .ok (.iload 6, 2) := by decide +kernel
theorem zd_P_add_90 : decode zb_P_add 90 = .ok (.iconst 0, 1) := by decide +kernel
theorem zd_P_add_91 : decode zb_P_add 91 = .ok (.iastore, 1) := by decide +kernel
theorem zd_P_add_92 : decode zb_P_add 92 = .ok (.aload_n 0, 1) := by decide +kernel
theorem zd_P_add_93 : decode zb_P_add 93 = .ok (.iload 6, 2) := by decide +kernel
theorem zd_P_add_95 : decode zb_P_add 95 = .ok (.iconst 1, 1) := by decide +kernel
theorem zd_P_add_96 : decode zb_P_add 96 = .ok (.iadd, 1) := by decide +kernel
theorem zd_P_add_97 : decode zb_P_add 97 = .ok (.putfield 9, 3) := by decide +kernel
theorem zd_P_add_100 : decode zb_P_add 100 = .ok (.iload 6, 2) := by decide +kernel
theorem zd_P_add_102 : decode zb_P_add 102 = .ok (.ireturn, 1) := by decide +kernel

def zf_P_add (r0 : Int) (x1 : Int) (x2 : Int) (x3 : Int) (x4 : Int) (x5 : Int) (S : Sg) : Option (Int × Sg) :=
    if (S 0 r0 6 0) < 40 then (zlt (S 0 r0 6 0) fun v2 => zck (0 ≤ v2 ∧ v2 < 40) <| zlt (zu S 0 r0 7 v2 x1) fun S4 => zlt (zu S4 0 r0 8 v2 x2) fun S5 => zlt (zu S5 0 r0 9 v2 x3) fun S6 => zlt (zu S6 0 r0 10 v2 x4) fun S7 => zlt (zu S7 0 r0 11 v2 0) fun S8 => zlt (zu S8 0 r0 12 v2 x5) fun S9 => zlt (zu S9 0 r0 13 v2 0) fun S10 => zlt (zu S10 0 r0 14 v2 (-1)) fun S11 => zlt (zu S11 0 r0 15 v2 0) fun S12 => zlt (zu S12 0 r0 6 0 (zw (v2 + 1))) fun S13 => some (v2, S13)) else (some (-2, S))
set_option maxHeartbeats 4000000 in
set_option maxRecDepth 100000 in
theorem zw_P_add {p : Program} {l : Launch} {e : Env} {s : State} {m : MethodId} {args : Array Value} {below : List Frame} {meth : Method} {c : Code} {B : zB} (C : CallFix p m c zb_P_add 7 s args zT "IslandOffice$People") (hr : meth.sig.returnType = some .int) (hlk : meth.locks = false) (hK : zK B s) (hSt : zSt B s) (hap : zAp B) (r0 : Int) (hr0 : 0 ≤ r0 ∧ r0 < 3) {res : Int} {S9 : Sg} : ∀ (x1 : Int) (x2 : Int) (x3 : Int) (x4 : Int) (x5 : Int) (S : Sg) (nx1 : zn x1) (nx2 : zn x2) (nx3 : zn x3) (nx4 : zn x4) (nx5 : zn x5), zf_P_add r0 x1 x2 x3 x4 x5 S = some (res, S9) → ∀ (H : Heap) (locs : List Loc) (ls : Array Slot), zW B S H → va_S B.2.2.2 s.heap H locs → lv_has ls 7 [(0, .ref (B.2.1 0 (r0) (6))), (1, .int (zI (x1))), (2, .int (zI (x2))), (3, .int (zI (x3))), (4, .int (zI (x4))), (5, .int (zI (x5)))] → W p l e zm_P_add s m args below meth c H locs 0 0 (MQ below (zQi B res S9) args s 0 0 B.2.2.2) (F0 m 0 ls []) := by
  intro x1 x2 x3 x4 x5 S nx1 nx2 nx3 nx4 nx5 hf H locs ls hW hS hl
  unfold zf_P_add at hf
  refine lv_aload_n C.1 C.2.1 zd_P_add_0 rfl (lv_at hl 0 rfl) ?_
  refine zg_P_n (r := r0) C hK hW (zvd_0 hr0 (by decide)) zk_52 zd_P_add_1 ?_
  refine zr_bipush C zd_P_add_4 (by decide) ?_
  refine zr_icmp_lt (tgt := 12) C (zWn hW _ _ _ _ rfl) (znb rfl) zd_P_add_6 (by decide) (fun c1 => ?_) (fun c1 => ?_)
  · rw [if_pos c1] at hf
    refine lv_aload_n C.1 C.2.1 zd_P_add_12 rfl (lv_at hl 0 rfl) ?_
    refine zg_P_n (r := r0) C hK hW (zvd_0 hr0 (by decide)) zk_52 zd_P_add_13 ?_
    obtain ⟨v2, ev2, hf⟩ := zlt_some hf
    have nv2 : zn v2 := by rw [← ev2]; exact (zWn hW _ _ _ _ rfl)
    rw [ev2]
    refine lv_istore (lv' := [(6, .int (zI (v2))), (0, .ref (B.2.1 0 (r0) (6))), (1, .int (zI (x1))), (2, .int (zI (x2))), (3, .int (zI (x3))), (4, .int (zI (x4))), (5, .int (zI (x5)))]) C.1 C.2.1 zd_P_add_16 hl (by decide) rfl (fun ls hl => ?_)
    refine lv_aload_n C.1 C.2.1 zd_P_add_18 rfl (lv_at hl 1 rfl) ?_
    refine zg_P_birth (r := r0) C hK hW (zvd_0 hr0 (by decide)) zk_57 zd_P_add_19 ?_
    refine lv_iload C.1 C.2.1 zd_P_add_22 (lv_at hl 0 rfl) ?_
    refine lv_iload_n C.1 C.2.1 zd_P_add_24 rfl (lv_at hl 2 rfl) ?_
    obtain ⟨h3, hf⟩ := zck_some hf
    obtain ⟨S4, eS4, hf⟩ := zlt_some hf
    refine ziast C hK hap hW hS (zvd_0 hr0 (by decide)) (fun f => ze_0_7 B f (r0)) (by decide) rfl nx1 h3 zd_P_add_25 (fun H locs hW hS => ?_)
    rw [eS4] at hW
    refine lv_aload_n C.1 C.2.1 zd_P_add_26 rfl (lv_at hl 1 rfl) ?_
    refine zg_P_house (r := r0) C hK hW (zvd_0 hr0 (by decide)) zk_58 zd_P_add_27 ?_
    refine lv_iload C.1 C.2.1 zd_P_add_30 (lv_at hl 0 rfl) ?_
    refine lv_iload_n C.1 C.2.1 zd_P_add_32 rfl (lv_at hl 3 rfl) ?_
    obtain ⟨S5, eS5, hf⟩ := zlt_some hf
    refine ziast C hK hap hW hS (zvd_0 hr0 (by decide)) (fun f => ze_0_8 B f (r0)) (by decide) rfl nx2 h3 zd_P_add_33 (fun H locs hW hS => ?_)
    rw [eS5] at hW
    refine lv_aload_n C.1 C.2.1 zd_P_add_34 rfl (lv_at hl 1 rfl) ?_
    refine zg_P_mother (r := r0) C hK hW (zvd_0 hr0 (by decide)) zk_63 zd_P_add_35 ?_
    refine lv_iload C.1 C.2.1 zd_P_add_38 (lv_at hl 0 rfl) ?_
    refine lv_iload_n C.1 C.2.1 zd_P_add_40 rfl (lv_at hl 4 rfl) ?_
    obtain ⟨S6, eS6, hf⟩ := zlt_some hf
    refine ziast C hK hap hW hS (zvd_0 hr0 (by decide)) (fun f => ze_0_9 B f (r0)) (by decide) rfl nx3 h3 zd_P_add_41 (fun H locs hW hS => ?_)
    rw [eS6] at hW
    refine lv_aload_n C.1 C.2.1 zd_P_add_42 rfl (lv_at hl 1 rfl) ?_
    refine zg_P_skills (r := r0) C hK hW (zvd_0 hr0 (by decide)) zk_66 zd_P_add_43 ?_
    refine lv_iload C.1 C.2.1 zd_P_add_46 (lv_at hl 0 rfl) ?_
    refine lv_iload C.1 C.2.1 zd_P_add_48 (lv_at hl 5 rfl) ?_
    obtain ⟨S7, eS7, hf⟩ := zlt_some hf
    refine ziast C hK hap hW hS (zvd_0 hr0 (by decide)) (fun f => ze_0_10 B f (r0)) (by decide) rfl nx4 h3 zd_P_add_50 (fun H locs hW hS => ?_)
    rw [eS7] at hW
    refine lv_aload_n C.1 C.2.1 zd_P_add_51 rfl (lv_at hl 1 rfl) ?_
    refine zg_P_state (r := r0) C hK hW (zvd_0 hr0 (by decide)) zk_70 zd_P_add_52 ?_
    refine lv_iload C.1 C.2.1 zd_P_add_55 (lv_at hl 0 rfl) ?_
    refine zr_iconst C zd_P_add_57 ?_
    obtain ⟨S8, eS8, hf⟩ := zlt_some hf
    refine ziast C hK hap hW hS (zvd_0 hr0 (by decide)) (fun f => ze_0_11 B f (r0)) (by decide) rfl (znb rfl) h3 zd_P_add_58 (fun H locs hW hS => ?_)
    rw [eS8] at hW
    refine lv_aload_n C.1 C.2.1 zd_P_add_59 rfl (lv_at hl 1 rfl) ?_
    refine zg_P_end (r := r0) C hK hW (zvd_0 hr0 (by decide)) zk_74 zd_P_add_60 ?_
    refine lv_iload C.1 C.2.1 zd_P_add_63 (lv_at hl 0 rfl) ?_
    refine lv_iload C.1 C.2.1 zd_P_add_65 (lv_at hl 6 rfl) ?_
    obtain ⟨S9, eS9, hf⟩ := zlt_some hf
    refine ziast C hK hap hW hS (zvd_0 hr0 (by decide)) (fun f => ze_0_12 B f (r0)) (by decide) rfl nx5 h3 zd_P_add_67 (fun H locs hW hS => ?_)
    rw [eS9] at hW
    refine lv_aload_n C.1 C.2.1 zd_P_add_68 rfl (lv_at hl 1 rfl) ?_
    refine zg_P_discontent (r := r0) C hK hW (zvd_0 hr0 (by decide)) zk_77 zd_P_add_69 ?_
    refine lv_iload C.1 C.2.1 zd_P_add_72 (lv_at hl 0 rfl) ?_
    refine zr_iconst C zd_P_add_74 ?_
    obtain ⟨S10, eS10, hf⟩ := zlt_some hf
    refine ziast C hK hap hW hS (zvd_0 hr0 (by decide)) (fun f => ze_0_13 B f (r0)) (by decide) rfl (znb rfl) h3 zd_P_add_75 (fun H locs hW hS => ?_)
    rw [eS10] at hW
    refine lv_aload_n C.1 C.2.1 zd_P_add_76 rfl (lv_at hl 1 rfl) ?_
    refine zg_P_post (r := r0) C hK hW (zvd_0 hr0 (by decide)) zk_81 zd_P_add_77 ?_
    refine lv_iload C.1 C.2.1 zd_P_add_80 (lv_at hl 0 rfl) ?_
    refine zr_iconst C zd_P_add_82 ?_
    obtain ⟨S11, eS11, hf⟩ := zlt_some hf
    refine ziast C hK hap hW hS (zvd_0 hr0 (by decide)) (fun f => ze_0_14 B f (r0)) (by decide) rfl (znb rfl) h3 zd_P_add_83 (fun H locs hW hS => ?_)
    rw [eS11] at hW
    refine lv_aload_n C.1 C.2.1 zd_P_add_84 rfl (lv_at hl 1 rfl) ?_
    refine zg_P_hungry (r := r0) C hK hW (zvd_0 hr0 (by decide)) zk_84 zd_P_add_85 ?_
    refine lv_iload C.1 C.2.1 zd_P_add_88 (lv_at hl 0 rfl) ?_
    refine zr_iconst C zd_P_add_90 ?_
    obtain ⟨S12, eS12, hf⟩ := zlt_some hf
    refine ziast C hK hap hW hS (zvd_0 hr0 (by decide)) (fun f => ze_0_15 B f (r0)) (by decide) rfl (znb rfl) h3 zd_P_add_91 (fun H locs hW hS => ?_)
    rw [eS12] at hW
    refine lv_aload_n C.1 C.2.1 zd_P_add_92 rfl (lv_at hl 1 rfl) ?_
    refine lv_iload C.1 C.2.1 zd_P_add_93 (lv_at hl 0 rfl) ?_
    refine zr_iconst C zd_P_add_95 ?_
    refine zr_iadd C zd_P_add_96 ?_
    obtain ⟨S13, eS13, hf⟩ := zlt_some hf
    refine zp_P_n (r := r0) C hK hap hW hS (zvd_0 hr0 (by decide)) zk_52 (zn_w _) zd_P_add_97 (fun H locs hW hS => ?_)
    rw [eS13] at hW
    refine lv_iload C.1 C.2.1 zd_P_add_100 (lv_at hl 0 rfl) ?_
    cases hf
    exact zre_i C hr hlk hK hW hS nv2 zd_P_add_102
  · rw [if_neg c1] at hf
    refine zr_bipush C zd_P_add_9 (by decide) ?_
    cases hf
    exact zre_i C hr hlk hK hW hS (znb rfl) zd_P_add_11

theorem zc_P_add {l : Launch} {B : zB} (hap : zAp B) (r0 : Int) (hr0 : 0 ≤ r0 ∧ r0 < 3) (x1 : Int) (x2 : Int) (x3 : Int) (x4 : Int) (x5 : Int) (S : Sg) (nx1 : zn x1) (nx2 : zn x2) (nx3 : zn x3) (nx4 : zn x4) (nx5 : zn x5) {res : Int} {S9 : Sg} (hf : zf_P_add r0 x1 x2 x3 x4 x5 S = some (res, S9)) : Met l zy_P_add (Cond.code zy_P_add zb_P_add 7 (some .int) :: zT) zm_P_add (zP B S [.ref (B.2.1 0 (r0) (6)), .int (zI (x1)), .int (zI (x2)), .int (zI (x3)), .int (zI (x4)), .int (zI (x5))]) (zQi B res S9) 0 0 B.2.2.2 :=
  zmet (by decide) (Nat.le_of_ble_eq_true rfl) (fun p e s m args below meth c C hr hlk hK hSt hW ls hl => zw_P_add C hr hlk hK hSt hap r0 hr0 x1 x2 x3 x4 x5 S nx1 nx2 nx3 nx4 nx5 hf _ _ _ hW va_S.rf hl)
/-! IslandOffice$People.has(I)Z -/
abbrev zy_P_has : MethodName := ⟨"IslandOffice$People", "has", "(I)Z"⟩
abbrev zb_P_has : ByteArray := prog_7_method_4_code
abbrev zm_P_has : Room := { frames := 0, cells := 0, slots := 0, locals := 0 }
theorem zq_P_has : zMy zy_P_has zb_P_has 2 (some .boolean) 1 := ⟨zk_540, zk_538, zk_539, zk_4, by decide, by decide, by decide +kernel⟩
theorem zd_P_has_0 : decode zb_P_has 0 = .ok (.iload_n 1, 1) := by decide +kernel
theorem zd_P_has_1 : decode zb_P_has 1 = .ok (.ifCond .lt 15, 3) := by decide +kernel
theorem zd_P_has_4 : decode zb_P_has 4 = .ok (.iload_n 1, 1) := by decide +kernel
theorem zd_P_has_5 : decode zb_P_has 5 = .ok (.aload_n 0, 1) := by decide +kernel
theorem zd_P_has_6 : decode zb_P_has 6 = .ok (.getfield 9, 3) := by decide +kernel
theorem zd_P_has_9 : decode zb_P_has 9 = .ok (.if_icmp .ge 7, 3) := by decide +kernel
theorem zd_P_has_12 : decode zb_P_has 12 = .ok (.iconst 1, 1) := by decide +kernel
theorem zd_P_has_13 : decode zb_P_has 13 = .ok (.goto 4, 3) := by decide +kernel
theorem zd_P_has_16 : decode zb_P_has 16 = .ok (.iconst 0, 1) := by decide +kernel
theorem zd_P_has_17 : decode zb_P_has 17 = .ok (.ireturn, 1) := by decide +kernel

def zf_P_has (r0 : Int) (x1 : Int) (S : Sg) : Option (Int × Sg) :=
    if x1 < 0 then (some (0, S)) else (if (S 0 r0 6 0) ≤ x1 then (some (0, S)) else (some (1, S)))
set_option maxHeartbeats 4000000 in
set_option maxRecDepth 100000 in
theorem zw_P_has {p : Program} {l : Launch} {e : Env} {s : State} {m : MethodId} {args : Array Value} {below : List Frame} {meth : Method} {c : Code} {B : zB} (C : CallFix p m c zb_P_has 2 s args zT "IslandOffice$People") (hr : meth.sig.returnType = some .boolean) (hlk : meth.locks = false) (hK : zK B s) (hSt : zSt B s) (hap : zAp B) (r0 : Int) (hr0 : 0 ≤ r0 ∧ r0 < 3) {res : Int} {S9 : Sg} : ∀ (x1 : Int) (S : Sg) (nx1 : zn x1), zf_P_has r0 x1 S = some (res, S9) → ∀ (H : Heap) (locs : List Loc) (ls : Array Slot), zW B S H → va_S B.2.2.2 s.heap H locs → lv_has ls 2 [(0, .ref (B.2.1 0 (r0) (6))), (1, .int (zI (x1)))] → W p l e zm_P_has s m args below meth c H locs 0 0 (MQ below (zQi B res S9) args s 0 0 B.2.2.2) (F0 m 0 ls []) := by
  intro x1 S nx1 hf H locs ls hW hS hl
  unfold zf_P_has at hf
  refine lv_iload_n C.1 C.2.1 zd_P_has_0 rfl (lv_at hl 1 rfl) ?_
  refine zr_if_lt (tgt := 16) C nx1 zd_P_has_1 (by decide) (fun c1 => ?_) (fun c1 => ?_)
  · rw [if_pos c1] at hf
    refine zr_iconst C zd_P_has_16 ?_
    cases hf
    exact zre_z C hr hlk hK hW hS (znb rfl) (zb01 (by decide)) zd_P_has_17
  · rw [if_neg c1] at hf
    refine lv_iload_n C.1 C.2.1 zd_P_has_4 rfl (lv_at hl 1 rfl) ?_
    refine lv_aload_n C.1 C.2.1 zd_P_has_5 rfl (lv_at hl 0 rfl) ?_
    refine zg_P_n (r := r0) C hK hW (zvd_0 hr0 (by decide)) zk_52 zd_P_has_6 ?_
    refine zr_icmp_ge (tgt := 16) C nx1 (zWn hW _ _ _ _ rfl) zd_P_has_9 (by decide) (fun c2 => ?_) (fun c2 => ?_)
    · rw [if_pos c2] at hf
      refine zr_iconst C zd_P_has_16 ?_
      cases hf
      exact zre_z C hr hlk hK hW hS (znb rfl) (zb01 (by decide)) zd_P_has_17
    · rw [if_neg c2] at hf
      refine zr_iconst C zd_P_has_12 ?_
      refine lv_goto (tgt := 17) C.1 C.2.1 zd_P_has_13 (by decide) ?_
      cases hf
      exact zre_z C hr hlk hK hW hS (znb rfl) (zb01 (by decide)) zd_P_has_17

theorem zc_P_has {l : Launch} {B : zB} (hap : zAp B) (r0 : Int) (hr0 : 0 ≤ r0 ∧ r0 < 3) (x1 : Int) (S : Sg) (nx1 : zn x1) {res : Int} {S9 : Sg} (hf : zf_P_has r0 x1 S = some (res, S9)) : Met l zy_P_has (Cond.code zy_P_has zb_P_has 2 (some .boolean) :: zT) zm_P_has (zP B S [.ref (B.2.1 0 (r0) (6)), .int (zI (x1))]) (zQi B res S9) 0 0 B.2.2.2 :=
  zmet (by decide) (Nat.le_of_ble_eq_true rfl) (fun p e s m args below meth c C hr hlk hK hSt hW ls hl => zw_P_has C hr hlk hK hSt hap r0 hr0 x1 S nx1 hf _ _ _ hW va_S.rf hl)
/-! IslandOffice.person(IIII)I -/
abbrev zy_O_person : MethodName := ⟨"IslandOffice", "person", "(IIII)I"⟩
abbrev zb_O_person : ByteArray := prog_1_method_2_code
abbrev zm_O_person : Room := { frames := 1, cells := 0, slots := 0, locals := 26 }
theorem zq_O_person : zMy zy_O_person zb_O_person 5 (some .int) 4 := ⟨zk_526, zk_524, zk_525, zk_1, by decide, by decide, by decide +kernel⟩
theorem zd_O_person_0 : decode zb_O_person 0 = .ok (.aload_n 0, 1) := by decide +kernel
theorem zd_O_person_1 : decode zb_O_person 1 = .ok (.iload_n 1, 1) := by decide +kernel
theorem zd_O_person_2 : decode zb_O_person 2 = .ok (.invokevirtual 71, 3) := by decide +kernel
theorem zd_O_person_5 : decode zb_O_person 5 = .ok (.ifCond .eq 18, 3) := by decide +kernel
theorem zd_O_person_8 : decode zb_O_person 8 = .ok (.iload_n 2, 1) := by decide +kernel
theorem zd_O_person_9 : decode zb_O_person 9 = .ok (.invokestatic 75, 3) := by decide +kernel
theorem zd_O_person_12 : decode zb_O_person 12 = .ok (.ifCond .eq 11, 3) := by decide +kernel
theorem zd_O_person_15 : decode zb_O_person 15 = .ok (.iload 4, 2) := by decide +kernel
theorem zd_O_person_17 : decode zb_O_person 17 = .ok (.invokestatic 78, 3) := by decide +kernel
theorem zd_O_person_20 : decode zb_O_person 20 = .ok (.ifCond .ne 5, 3) := by decide +kernel
theorem zd_O_person_23 : decode zb_O_person 23 = .ok (.iconst (-1), 1) := by decide +kernel
theorem zd_O_person_24 : decode zb_O_person 24 = .ok (.ireturn, 1) := by decide +kernel
theorem zd_O_person_25 : decode zb_O_person 25 = .ok (.iload_n 3, 1) := by decide +kernel
theorem zd_O_person_26 : decode zb_O_person 26 = .ok (.iconst (-1), 1) := by decide +kernel
theorem zd_O_person_27 : decode zb_O_person 27 = .ok (.if_icmp .eq 19, 3) := by decide +kernel
theorem zd_O_person_30 : decode zb_O_person 30 = .ok (.aload_n 0, 1) := by decide +kernel
theorem zd_O_person_31 : decode zb_O_person 31 = .ok (.getfield 16, 3) := by decide +kernel
theorem zd_O_person_34 : decode zb_O_person 34 = .ok (.getfield 81, 3) := by decide +kernel
theorem zd_O_person_37 : decode zb_O_person 37 = .ok (.iload_n 3, 1) := by decide +kernel
theorem zd_O_person_38 : decode zb_O_person 38 = .ok (.invokevirtual 85, 3) := by decide +kernel
theorem zd_O_person_41 : decode zb_O_person 41 = .ok (.ifCond .ne 5, 3) := by decide +kernel
theorem zd_O_person_44 : decode zb_O_person 44 = .ok (.iconst (-1), 1) := by decide +kernel
theorem zd_O_person_45 : decode zb_O_person 45 = .ok (.ireturn, 1) := by decide +kernel
theorem zd_O_person_46 : decode zb_O_person 46 = .ok (.aload_n 0, 1) := by decide +kernel
theorem zd_O_person_47 : decode zb_O_person 47 = .ok (.getfield 16, 3) := by decide +kernel
theorem zd_O_person_50 : decode zb_O_person 50 = .ok (.getfield 81, 3) := by decide +kernel
theorem zd_O_person_53 : decode zb_O_person 53 = .ok (.iload_n 1, 1) := by decide +kernel
theorem zd_O_person_54 : decode zb_O_person 54 = .ok (.iload_n 2, 1) := by decide +kernel
theorem zd_O_person_55 : decode zb_O_person 55 = .ok (.iload_n 3, 1) := by decide +kernel
theorem zd_O_person_56 : decode zb_O_person 56 = .ok (.iload 4, 2) := by decide +kernel
theorem zd_O_person_58 : decode zb_O_person 58 = .ok (.iconst (-1), 1) := by decide +kernel
theorem zd_O_person_59 : decode zb_O_person 59 = .ok (.invokevirtual 90, 3) := by decide +kernel
theorem zd_O_person_62 : decode zb_O_person 62 = .ok (.ireturn, 1) := by decide +kernel

def zf_O_person_46 (x1 : Int) (x2 : Int) (x3 : Int) (x4 : Int) (S : Sg) : Option (Int × Sg) :=
    zbd (zf_P_add (0) x1 x2 x3 x4 (-1) S) fun a1 S2 => some (a1, S2)
set_option maxHeartbeats 4000000 in
set_option maxRecDepth 100000 in
theorem zw_O_person_46 {p : Program} {l : Launch} {e : Env} {s : State} {m : MethodId} {args : Array Value} {below : List Frame} {meth : Method} {c : Code} {B : zB} (C : CallFix p m c zb_O_person 5 s args zT "IslandOffice") (hr : meth.sig.returnType = some .int) (hlk : meth.locks = false) (hK : zK B s) (hSt : zSt B s) (hap : zAp B) {res : Int} {S9 : Sg} : ∀ (x1 : Int) (x2 : Int) (x3 : Int) (x4 : Int) (S : Sg) (nx1 : zn x1) (nx2 : zn x2) (nx3 : zn x3) (nx4 : zn x4), zf_O_person_46 x1 x2 x3 x4 S = some (res, S9) → ∀ (H : Heap) (locs : List Loc) (ls : Array Slot), zW B S H → va_S B.2.2.2 s.heap H locs → lv_has ls 5 [(0, .ref (B.2.1 3 (0) (0))), (1, .int (zI (x1))), (2, .int (zI (x2))), (3, .int (zI (x3))), (4, .int (zI (x4)))] → W p l e zm_O_person s m args below meth c H locs 0 0 (MQ below (zQi B res S9) args s 0 0 B.2.2.2) (F0 m 46 ls []) := by
  intro x1 x2 x3 x4 S nx1 nx2 nx3 nx4 hf H locs ls hW hS hl
  unfold zf_O_person_46 at hf
  refine lv_aload_n C.1 C.2.1 zd_O_person_46 rfl (lv_at hl 0 rfl) ?_
  refine zg_O_now (r := 0) C hK hW (zvd_3 (by decide) (by decide)) zk_492 zd_O_person_47 ?_
  refine zg_I_people (r := 0) C hK hW (zvd_0 (by decide) (by decide)) zk_280 zd_O_person_50 ?_
  refine lv_iload_n C.1 C.2.1 zd_O_person_53 rfl (lv_at hl 1 rfl) ?_
  refine lv_iload_n C.1 C.2.1 zd_O_person_54 rfl (lv_at hl 2 rfl) ?_
  refine lv_iload_n C.1 C.2.1 zd_O_person_55 rfl (lv_at hl 3 rfl) ?_
  refine lv_iload C.1 C.2.1 zd_O_person_56 (lv_at hl 4 rfl) ?_
  refine zr_iconst C zd_O_person_58 ?_
  obtain ⟨a1, S2, ea1, hf⟩ := zbd_some hf
  refine zcVi (As := [.int (zI (x1)), .int (zI (x2)), .int (zI (x3)), .int (zI (x4)), .int (zI (-1))]) (rest := []) C hK hSt hW hS (zc_P_add hap (0) (by decide) x1 x2 x3 x4 (-1) S nx1 nx2 nx3 nx4 (znb rfl) ea1) zq_P_add zk_541 (zrecv hK hW (zvd_0 (by decide) (by decide)) (ze_0_6 B _ (0)) rfl) ⟨rfl, rfl, by decide, by decide⟩ ⟨Nat.zero_le _, Nat.zero_le _⟩ rfl hl.1 rfl (lv_room (Nat.le_of_ble_eq_true rfl)) zd_O_person_59 (fun na1 H locs hW hS => ?_)
  cases hf
  exact zre_i C hr hlk hK hW hS na1 zd_O_person_62

def zf_O_person (x1 : Int) (x2 : Int) (x3 : Int) (x4 : Int) (S : Sg) : Option (Int × Sg) :=
    zbd (zf_O_mayBeBorn x1 S) fun a1 S2 => if a1 = 0 then (some (-1, S2)) else (zbd (zf_O_isHouse x2 S2) fun a4 S5 => if a4 = 0 then (some (-1, S5)) else (zbd (zf_O_areSkills x4 S5) fun a7 S8 => if a7 = 0 then (some (-1, S8)) else (if x3 = (-1) then (zf_O_person_46 (x1) (x2) (x3) (x4) S8) else (zbd (zf_P_has (0) x3 S8) fun a11 S12 => if a11 = 0 then (some (-1, S12)) else (zf_O_person_46 (x1) (x2) (x3) (x4) S12)))))
set_option maxHeartbeats 4000000 in
set_option maxRecDepth 100000 in
theorem zw_O_person {p : Program} {l : Launch} {e : Env} {s : State} {m : MethodId} {args : Array Value} {below : List Frame} {meth : Method} {c : Code} {B : zB} (C : CallFix p m c zb_O_person 5 s args zT "IslandOffice") (hr : meth.sig.returnType = some .int) (hlk : meth.locks = false) (hK : zK B s) (hSt : zSt B s) (hap : zAp B) {res : Int} {S9 : Sg} : ∀ (x1 : Int) (x2 : Int) (x3 : Int) (x4 : Int) (S : Sg) (nx1 : zn x1) (nx2 : zn x2) (nx3 : zn x3) (nx4 : zn x4), zf_O_person x1 x2 x3 x4 S = some (res, S9) → ∀ (H : Heap) (locs : List Loc) (ls : Array Slot), zW B S H → va_S B.2.2.2 s.heap H locs → lv_has ls 5 [(0, .ref (B.2.1 3 (0) (0))), (1, .int (zI (x1))), (2, .int (zI (x2))), (3, .int (zI (x3))), (4, .int (zI (x4)))] → W p l e zm_O_person s m args below meth c H locs 0 0 (MQ below (zQi B res S9) args s 0 0 B.2.2.2) (F0 m 0 ls []) := by
  intro x1 x2 x3 x4 S nx1 nx2 nx3 nx4 hf H locs ls hW hS hl
  unfold zf_O_person at hf
  refine lv_aload_n C.1 C.2.1 zd_O_person_0 rfl (lv_at hl 0 rfl) ?_
  refine lv_iload_n C.1 C.2.1 zd_O_person_1 rfl (lv_at hl 1 rfl) ?_
  obtain ⟨a1, S2, ea1, hf⟩ := zbd_some hf
  refine zcVi (As := [.int (zI (x1))]) (rest := []) C hK hSt hW hS (zc_O_mayBeBorn hap x1 S nx1 ea1) zq_O_mayBeBorn zk_527 (zrecv hK hW (zvd_3 (by decide) (by decide)) (ze_3_0 B _ (0)) rfl) ⟨rfl, rfl, by decide, by decide⟩ ⟨Nat.zero_le _, Nat.zero_le _⟩ rfl hl.1 rfl (lv_room (Nat.le_of_ble_eq_true rfl)) zd_O_person_2 (fun na1 H locs hW hS => ?_)
  refine zr_if_eq (tgt := 23) C na1 zd_O_person_5 (by decide) (fun c3 => ?_) (fun c3 => ?_)
  · rw [if_pos c3] at hf
    refine zr_iconst C zd_O_person_23 ?_
    cases hf
    exact zre_i C hr hlk hK hW hS (znb rfl) zd_O_person_24
  · rw [if_neg c3] at hf
    refine lv_iload_n C.1 C.2.1 zd_O_person_8 rfl (lv_at hl 2 rfl) ?_
    obtain ⟨a4, S5, ea4, hf⟩ := zbd_some hf
    refine zcSi (As := [.int (zI (x2))]) (rest := []) C hK hSt hW hS (zc_O_isHouse hap x2 S2 nx2 ea4) zq_O_isHouse zk_531 ⟨rfl, rfl, by decide, by decide⟩ ⟨Nat.zero_le _, Nat.zero_le _⟩ rfl hl.1 rfl (lv_room (Nat.le_of_ble_eq_true rfl)) zd_O_person_9 (fun na4 H locs hW hS => ?_)
    refine zr_if_eq (tgt := 23) C na4 zd_O_person_12 (by decide) (fun c6 => ?_) (fun c6 => ?_)
    · rw [if_pos c6] at hf
      refine zr_iconst C zd_O_person_23 ?_
      cases hf
      exact zre_i C hr hlk hK hW hS (znb rfl) zd_O_person_24
    · rw [if_neg c6] at hf
      refine lv_iload C.1 C.2.1 zd_O_person_15 (lv_at hl 4 rfl) ?_
      obtain ⟨a7, S8, ea7, hf⟩ := zbd_some hf
      refine zcSi (As := [.int (zI (x4))]) (rest := []) C hK hSt hW hS (zc_O_areSkills hap x4 S5 nx4 ea7) zq_O_areSkills zk_534 ⟨rfl, rfl, by decide, by decide⟩ ⟨Nat.zero_le _, Nat.zero_le _⟩ rfl hl.1 rfl (lv_room (Nat.le_of_ble_eq_true rfl)) zd_O_person_17 (fun na7 H locs hW hS => ?_)
      refine zr_if_ne (tgt := 25) C na7 zd_O_person_20 (by decide) (fun c9 => ?_) (fun c9 => ?_)
      · rw [if_neg c9] at hf
        refine lv_iload_n C.1 C.2.1 zd_O_person_25 rfl (lv_at hl 3 rfl) ?_
        refine zr_iconst C zd_O_person_26 ?_
        refine zr_icmp_eq (tgt := 46) C nx3 (znb rfl) zd_O_person_27 (by decide) (fun c10 => ?_) (fun c10 => ?_)
        · rw [if_pos c10] at hf
          exact zw_O_person_46 C hr hlk hK hSt hap   (x1) (x2) (x3) (x4) S8 nx1 nx2 nx3 nx4 hf _ _ _ hW hS (lv_sub hl [0, 1, 2, 3, 4] rfl)
        · rw [if_neg c10] at hf
          refine lv_aload_n C.1 C.2.1 zd_O_person_30 rfl (lv_at hl 0 rfl) ?_
          refine zg_O_now (r := 0) C hK hW (zvd_3 (by decide) (by decide)) zk_492 zd_O_person_31 ?_
          refine zg_I_people (r := 0) C hK hW (zvd_0 (by decide) (by decide)) zk_280 zd_O_person_34 ?_
          refine lv_iload_n C.1 C.2.1 zd_O_person_37 rfl (lv_at hl 3 rfl) ?_
          obtain ⟨a11, S12, ea11, hf⟩ := zbd_some hf
          refine zcVi (As := [.int (zI (x3))]) (rest := []) C hK hSt hW hS (zc_P_has hap (0) (by decide) x3 S8 nx3 ea11) zq_P_has zk_537 (zrecv hK hW (zvd_0 (by decide) (by decide)) (ze_0_6 B _ (0)) rfl) ⟨rfl, rfl, by decide, by decide⟩ ⟨Nat.zero_le _, Nat.zero_le _⟩ rfl hl.1 rfl (lv_room (Nat.le_of_ble_eq_true rfl)) zd_O_person_38 (fun na11 H locs hW hS => ?_)
          refine zr_if_ne (tgt := 46) C na11 zd_O_person_41 (by decide) (fun c13 => ?_) (fun c13 => ?_)
          · rw [if_neg c13] at hf
            exact zw_O_person_46 C hr hlk hK hSt hap   (x1) (x2) (x3) (x4) S12 nx1 nx2 nx3 nx4 hf _ _ _ hW hS (lv_sub hl [0, 1, 2, 3, 4] rfl)
          · rw [if_pos c13] at hf
            refine zr_iconst C zd_O_person_44 ?_
            cases hf
            exact zre_i C hr hlk hK hW hS (znb rfl) zd_O_person_45
      · rw [if_pos c9] at hf
        refine zr_iconst C zd_O_person_23 ?_
        cases hf
        exact zre_i C hr hlk hK hW hS (znb rfl) zd_O_person_24

theorem zc_O_person {l : Launch} {B : zB} (hap : zAp B) (x1 : Int) (x2 : Int) (x3 : Int) (x4 : Int) (S : Sg) (nx1 : zn x1) (nx2 : zn x2) (nx3 : zn x3) (nx4 : zn x4) {res : Int} {S9 : Sg} (hf : zf_O_person x1 x2 x3 x4 S = some (res, S9)) : Met l zy_O_person (Cond.code zy_O_person zb_O_person 5 (some .int) :: zT) zm_O_person (zP B S [.ref (B.2.1 3 (0) (0)), .int (zI (x1)), .int (zI (x2)), .int (zI (x3)), .int (zI (x4))]) (zQi B res S9) 0 0 B.2.2.2 :=
  zmet (by decide) (Nat.le_of_ble_eq_true rfl) (fun p e s m args below meth c C hr hlk hK hSt hW ls hl => zw_O_person C hr hlk hK hSt hap   x1 x2 x3 x4 S nx1 nx2 nx3 nx4 hf _ _ _ hW va_S.rf hl)
/-! IslandOffice.guest(IIII)I -/
abbrev zy_O_guest : MethodName := ⟨"IslandOffice", "guest", "(IIII)I"⟩
abbrev zb_O_guest : ByteArray := prog_1_method_3_code
abbrev zm_O_guest : Room := { frames := 1, cells := 0, slots := 0, locals := 26 }
theorem zq_O_guest : zMy zy_O_guest zb_O_guest 5 (some .int) 4 := ⟨zk_548, zk_546, zk_547, zk_1, by decide, by decide, by decide +kernel⟩
theorem zd_O_guest_0 : decode zb_O_guest 0 = .ok (.aload_n 0, 1) := by decide +kernel
theorem zd_O_guest_1 : decode zb_O_guest 1 = .ok (.iload_n 1, 1) := by decide +kernel
theorem zd_O_guest_2 : decode zb_O_guest 2 = .ok (.invokevirtual 71, 3) := by decide +kernel
theorem zd_O_guest_5 : decode zb_O_guest 5 = .ok (.ifCond .eq 17, 3) := by decide +kernel
theorem zd_O_guest_8 : decode zb_O_guest 8 = .ok (.iload_n 2, 1) := by decide +kernel
theorem zd_O_guest_9 : decode zb_O_guest 9 = .ok (.invokestatic 75, 3) := by decide +kernel
theorem zd_O_guest_12 : decode zb_O_guest 12 = .ok (.ifCond .eq 10, 3) := by decide +kernel
theorem zd_O_guest_15 : decode zb_O_guest 15 = .ok (.iload_n 3, 1) := by decide +kernel
theorem zd_O_guest_16 : decode zb_O_guest 16 = .ok (.invokestatic 78, 3) := by decide +kernel
theorem zd_O_guest_19 : decode zb_O_guest 19 = .ok (.ifCond .ne 5, 3) := by decide +kernel
theorem zd_O_guest_22 : decode zb_O_guest 22 = .ok (.iconst (-1), 1) := by decide +kernel
theorem zd_O_guest_23 : decode zb_O_guest 23 = .ok (.ireturn, 1) := by decide +kernel
theorem zd_O_guest_24 : decode zb_O_guest 24 = .ok (.iload 4, 2) := by decide +kernel
theorem zd_O_guest_26 : decode zb_O_guest 26 = .ok (.aload_n 0, 1) := by decide +kernel
theorem zd_O_guest_27 : decode zb_O_guest 27 = .ok (.getfield 16, 3) := by decide +kernel
theorem zd_O_guest_30 : decode zb_O_guest 30 = .ok (.getfield 94, 3) := by decide +kernel
theorem zd_O_guest_33 : decode zb_O_guest 33 = .ok (.if_icmp .lt 11, 3) := by decide +kernel
theorem zd_O_guest_36 : decode zb_O_guest 36 = .ok (.iload 4, 2) := by decide +kernel
theorem zd_O_guest_38 : decode zb_O_guest 38 = .ok (.sipush 400, 3) := by decide +kernel
theorem zd_O_guest_41 : decode zb_O_guest 41 = .ok (.if_icmp .le 5, 3) := by decide +kernel
theorem zd_O_guest_44 : decode zb_O_guest 44 = .ok (.iconst (-1), 1) := by decide +kernel
theorem zd_O_guest_45 : decode zb_O_guest 45 = .ok (.ireturn, 1) := by decide +kernel
theorem zd_O_guest_46 : decode zb_O_guest 46 = .ok (.aload_n 0, 1) := by decide +kernel
theorem zd_O_guest_47 : decode zb_O_guest 47 = .ok (.getfield 16, 3) := by decide +kernel
theorem zd_O_guest_50 : decode zb_O_guest 50 = .ok (.getfield 81, 3) := by decide +kernel
theorem zd_O_guest_53 : decode zb_O_guest 53 = .ok (.iload_n 1, 1) := by decide +kernel
theorem zd_O_guest_54 : decode zb_O_guest 54 = .ok (.iload_n 2, 1) := by decide +kernel
theorem zd_O_guest_55 : decode zb_O_guest 55 = .ok (.iconst (-1), 1) := by decide +kernel
theorem zd_O_guest_56 : decode zb_O_guest 56 = .ok (.iload_n 3, 1) := by decide +kernel
theorem zd_O_guest_57 : decode zb_O_guest 57 = .ok (.iload 4, 2) := by decide +kernel
theorem zd_O_guest_59 : decode zb_O_guest 59 = .ok (.invokevirtual 90, 3) := by decide +kernel
theorem zd_O_guest_62 : decode zb_O_guest 62 = .ok (.ireturn, 1) := by decide +kernel

def zf_O_guest (x1 : Int) (x2 : Int) (x3 : Int) (x4 : Int) (S : Sg) : Option (Int × Sg) :=
    zbd (zf_O_mayBeBorn x1 S) fun a1 S2 => if a1 = 0 then (some (-1, S2)) else (zbd (zf_O_isHouse x2 S2) fun a4 S5 => if a4 = 0 then (some (-1, S5)) else (zbd (zf_O_areSkills x3 S5) fun a7 S8 => if a7 = 0 then (some (-1, S8)) else (if x4 < (S8 0 0 0 0) then (some (-1, S8)) else (if x4 ≤ 400 then (zbd (zf_P_add (0) x1 x2 (-1) x3 x4 S8) fun a12 S13 => some (a12, S13)) else (some (-1, S8))))))
set_option maxHeartbeats 4000000 in
set_option maxRecDepth 100000 in
theorem zw_O_guest {p : Program} {l : Launch} {e : Env} {s : State} {m : MethodId} {args : Array Value} {below : List Frame} {meth : Method} {c : Code} {B : zB} (C : CallFix p m c zb_O_guest 5 s args zT "IslandOffice") (hr : meth.sig.returnType = some .int) (hlk : meth.locks = false) (hK : zK B s) (hSt : zSt B s) (hap : zAp B) {res : Int} {S9 : Sg} : ∀ (x1 : Int) (x2 : Int) (x3 : Int) (x4 : Int) (S : Sg) (nx1 : zn x1) (nx2 : zn x2) (nx3 : zn x3) (nx4 : zn x4), zf_O_guest x1 x2 x3 x4 S = some (res, S9) → ∀ (H : Heap) (locs : List Loc) (ls : Array Slot), zW B S H → va_S B.2.2.2 s.heap H locs → lv_has ls 5 [(0, .ref (B.2.1 3 (0) (0))), (1, .int (zI (x1))), (2, .int (zI (x2))), (3, .int (zI (x3))), (4, .int (zI (x4)))] → W p l e zm_O_guest s m args below meth c H locs 0 0 (MQ below (zQi B res S9) args s 0 0 B.2.2.2) (F0 m 0 ls []) := by
  intro x1 x2 x3 x4 S nx1 nx2 nx3 nx4 hf H locs ls hW hS hl
  unfold zf_O_guest at hf
  refine lv_aload_n C.1 C.2.1 zd_O_guest_0 rfl (lv_at hl 0 rfl) ?_
  refine lv_iload_n C.1 C.2.1 zd_O_guest_1 rfl (lv_at hl 1 rfl) ?_
  obtain ⟨a1, S2, ea1, hf⟩ := zbd_some hf
  refine zcVi (As := [.int (zI (x1))]) (rest := []) C hK hSt hW hS (zc_O_mayBeBorn hap x1 S nx1 ea1) zq_O_mayBeBorn zk_527 (zrecv hK hW (zvd_3 (by decide) (by decide)) (ze_3_0 B _ (0)) rfl) ⟨rfl, rfl, by decide, by decide⟩ ⟨Nat.zero_le _, Nat.zero_le _⟩ rfl hl.1 rfl (lv_room (Nat.le_of_ble_eq_true rfl)) zd_O_guest_2 (fun na1 H locs hW hS => ?_)
  refine zr_if_eq (tgt := 22) C na1 zd_O_guest_5 (by decide) (fun c3 => ?_) (fun c3 => ?_)
  · rw [if_pos c3] at hf
    refine zr_iconst C zd_O_guest_22 ?_
    cases hf
    exact zre_i C hr hlk hK hW hS (znb rfl) zd_O_guest_23
  · rw [if_neg c3] at hf
    refine lv_iload_n C.1 C.2.1 zd_O_guest_8 rfl (lv_at hl 2 rfl) ?_
    obtain ⟨a4, S5, ea4, hf⟩ := zbd_some hf
    refine zcSi (As := [.int (zI (x2))]) (rest := []) C hK hSt hW hS (zc_O_isHouse hap x2 S2 nx2 ea4) zq_O_isHouse zk_531 ⟨rfl, rfl, by decide, by decide⟩ ⟨Nat.zero_le _, Nat.zero_le _⟩ rfl hl.1 rfl (lv_room (Nat.le_of_ble_eq_true rfl)) zd_O_guest_9 (fun na4 H locs hW hS => ?_)
    refine zr_if_eq (tgt := 22) C na4 zd_O_guest_12 (by decide) (fun c6 => ?_) (fun c6 => ?_)
    · rw [if_pos c6] at hf
      refine zr_iconst C zd_O_guest_22 ?_
      cases hf
      exact zre_i C hr hlk hK hW hS (znb rfl) zd_O_guest_23
    · rw [if_neg c6] at hf
      refine lv_iload_n C.1 C.2.1 zd_O_guest_15 rfl (lv_at hl 3 rfl) ?_
      obtain ⟨a7, S8, ea7, hf⟩ := zbd_some hf
      refine zcSi (As := [.int (zI (x3))]) (rest := []) C hK hSt hW hS (zc_O_areSkills hap x3 S5 nx3 ea7) zq_O_areSkills zk_534 ⟨rfl, rfl, by decide, by decide⟩ ⟨Nat.zero_le _, Nat.zero_le _⟩ rfl hl.1 rfl (lv_room (Nat.le_of_ble_eq_true rfl)) zd_O_guest_16 (fun na7 H locs hW hS => ?_)
      refine zr_if_ne (tgt := 24) C na7 zd_O_guest_19 (by decide) (fun c9 => ?_) (fun c9 => ?_)
      · rw [if_neg c9] at hf
        refine lv_iload C.1 C.2.1 zd_O_guest_24 (lv_at hl 4 rfl) ?_
        refine lv_aload_n C.1 C.2.1 zd_O_guest_26 rfl (lv_at hl 0 rfl) ?_
        refine zg_O_now (r := 0) C hK hW (zvd_3 (by decide) (by decide)) zk_492 zd_O_guest_27 ?_
        refine zg_I_week (r := 0) C hK hW (zvd_0 (by decide) (by decide)) zk_242 zd_O_guest_30 ?_
        refine zr_icmp_lt (tgt := 44) C nx4 (zWn hW _ _ _ _ rfl) zd_O_guest_33 (by decide) (fun c10 => ?_) (fun c10 => ?_)
        · rw [if_pos c10] at hf
          refine zr_iconst C zd_O_guest_44 ?_
          cases hf
          exact zre_i C hr hlk hK hW hS (znb rfl) zd_O_guest_45
        · rw [if_neg c10] at hf
          refine lv_iload C.1 C.2.1 zd_O_guest_36 (lv_at hl 4 rfl) ?_
          refine zr_sipush C zd_O_guest_38 (by decide) ?_
          refine zr_icmp_le (tgt := 46) C nx4 (znb rfl) zd_O_guest_41 (by decide) (fun c11 => ?_) (fun c11 => ?_)
          · rw [if_pos c11] at hf
            refine lv_aload_n C.1 C.2.1 zd_O_guest_46 rfl (lv_at hl 0 rfl) ?_
            refine zg_O_now (r := 0) C hK hW (zvd_3 (by decide) (by decide)) zk_492 zd_O_guest_47 ?_
            refine zg_I_people (r := 0) C hK hW (zvd_0 (by decide) (by decide)) zk_280 zd_O_guest_50 ?_
            refine lv_iload_n C.1 C.2.1 zd_O_guest_53 rfl (lv_at hl 1 rfl) ?_
            refine lv_iload_n C.1 C.2.1 zd_O_guest_54 rfl (lv_at hl 2 rfl) ?_
            refine zr_iconst C zd_O_guest_55 ?_
            refine lv_iload_n C.1 C.2.1 zd_O_guest_56 rfl (lv_at hl 3 rfl) ?_
            refine lv_iload C.1 C.2.1 zd_O_guest_57 (lv_at hl 4 rfl) ?_
            obtain ⟨a12, S13, ea12, hf⟩ := zbd_some hf
            refine zcVi (As := [.int (zI (x1)), .int (zI (x2)), .int (zI (-1)), .int (zI (x3)), .int (zI (x4))]) (rest := []) C hK hSt hW hS (zc_P_add hap (0) (by decide) x1 x2 (-1) x3 x4 S8 nx1 nx2 (znb rfl) nx3 nx4 ea12) zq_P_add zk_541 (zrecv hK hW (zvd_0 (by decide) (by decide)) (ze_0_6 B _ (0)) rfl) ⟨rfl, rfl, by decide, by decide⟩ ⟨Nat.zero_le _, Nat.zero_le _⟩ rfl hl.1 rfl (lv_room (Nat.le_of_ble_eq_true rfl)) zd_O_guest_59 (fun na12 H locs hW hS => ?_)
            cases hf
            exact zre_i C hr hlk hK hW hS na12 zd_O_guest_62
          · rw [if_neg c11] at hf
            refine zr_iconst C zd_O_guest_44 ?_
            cases hf
            exact zre_i C hr hlk hK hW hS (znb rfl) zd_O_guest_45
      · rw [if_pos c9] at hf
        refine zr_iconst C zd_O_guest_22 ?_
        cases hf
        exact zre_i C hr hlk hK hW hS (znb rfl) zd_O_guest_23

theorem zc_O_guest {l : Launch} {B : zB} (hap : zAp B) (x1 : Int) (x2 : Int) (x3 : Int) (x4 : Int) (S : Sg) (nx1 : zn x1) (nx2 : zn x2) (nx3 : zn x3) (nx4 : zn x4) {res : Int} {S9 : Sg} (hf : zf_O_guest x1 x2 x3 x4 S = some (res, S9)) : Met l zy_O_guest (Cond.code zy_O_guest zb_O_guest 5 (some .int) :: zT) zm_O_guest (zP B S [.ref (B.2.1 3 (0) (0)), .int (zI (x1)), .int (zI (x2)), .int (zI (x3)), .int (zI (x4))]) (zQi B res S9) 0 0 B.2.2.2 :=
  zmet (by decide) (Nat.le_of_ble_eq_true rfl) (fun p e s m args below meth c C hr hlk hK hSt hW ls hl => zw_O_guest C hr hlk hK hSt hap   x1 x2 x3 x4 S nx1 nx2 nx3 nx4 hf _ _ _ hW va_S.rf hl)
/-! IslandOffice$People.kind(II)I -/
abbrev zy_P_kind : MethodName := ⟨"IslandOffice$People", "kind", "(II)I"⟩
abbrev zb_P_kind : ByteArray := prog_7_method_6_code
abbrev zm_P_kind : Room := { frames := 0, cells := 0, slots := 0, locals := 0 }
theorem zq_P_kind : zMy zy_P_kind zb_P_kind 4 (some .int) 2 := ⟨zk_556, zk_554, zk_555, zk_4, by decide, by decide, by decide +kernel⟩
theorem zd_P_kind_0 : decode zb_P_kind 0 = .ok (.aload_n 0, 1) := by decide +kernel
theorem zd_P_kind_1 : decode zb_P_kind 1 = .ok (.getfield 28, 3) := by decide +kernel
theorem zd_P_kind_4 : decode zb_P_kind 4 = .ok (.iload_n 1, 1) := by decide +kernel
theorem zd_P_kind_5 : decode zb_P_kind 5 = .ok (.iaload, 1) := by decide +kernel
theorem zd_P_kind_6 : decode zb_P_kind 6 = .ok (.iconst 2, 1) := by decide +kernel
theorem zd_P_kind_7 : decode zb_P_kind 7 = .ok (.if_icmp .ne 6, 3) := by decide +kernel
theorem zd_P_kind_10 : decode zb_P_kind 10 = .ok (.bipush (-2), 2) := by decide +kernel
theorem zd_P_kind_12 : decode zb_P_kind 12 = .ok (.ireturn, 1) := by decide +kernel
theorem zd_P_kind_13 : decode zb_P_kind 13 = .ok (.aload_n 0, 1) := by decide +kernel
theorem zd_P_kind_14 : decode zb_P_kind 14 = .ok (.getfield 28, 3) := by decide +kernel
theorem zd_P_kind_17 : decode zb_P_kind 17 = .ok (.iload_n 1, 1) := by decide +kernel
theorem zd_P_kind_18 : decode zb_P_kind 18 = .ok (.iaload, 1) := by decide +kernel
theorem zd_P_kind_19 : decode zb_P_kind 19 = .ok (.iconst 1, 1) := by decide +kernel
theorem zd_P_kind_20 : decode zb_P_kind 20 = .ok (.if_icmp .ne 5, 3) := by decide +kernel
theorem zd_P_kind_23 : decode zb_P_kind 23 = .ok (.iconst 3, 1) := by decide +kernel
theorem zd_P_kind_24 : decode zb_P_kind 24 = .ok (.ireturn, 1) := by decide +kernel
theorem zd_P_kind_25 : decode zb_P_kind 25 = .ok (.aload_n 0, 1) := by decide +kernel
theorem zd_P_kind_26 : decode zb_P_kind 26 = .ok (.getfield 31, 3) := by decide +kernel
theorem zd_P_kind_29 : decode zb_P_kind 29 = .ok (.iload_n 1, 1) := by decide +kernel
theorem zd_P_kind_30 : decode zb_P_kind 30 = .ok (.iaload, 1) := by decide +kernel
theorem zd_P_kind_31 : decode zb_P_kind 31 = .ok (.ifCond .lt 5, 3) := by decide +kernel
theorem zd_P_kind_34 : decode zb_P_kind 34 = .ok (.iconst 5, 1) := by decide +kernel
theorem zd_P_kind_35 : decode zb_P_kind 35 = .ok (.ireturn, 1) := by decide +kernel
theorem zd_P_kind_36 : decode zb_P_kind 36 = .ok (.iload_n 2, 1) := by decide +kernel
theorem zd_P_kind_37 : decode zb_P_kind 37 = .ok (.aload_n 0, 1) := by decide +kernel
theorem zd_P_kind_38 : decode zb_P_kind 38 = .ok (.getfield 15, 3) := by decide +kernel
theorem zd_P_kind_41 : decode zb_P_kind 41 = .ok (.iload_n 1, 1) := by decide +kernel
theorem zd_P_kind_42 : decode zb_P_kind 42 = .ok (.iaload, 1) := by decide +kernel
theorem zd_P_kind_43 : decode zb_P_kind 43 = .ok (.isub, 1) := by decide +kernel
theorem zd_P_kind_44 : decode zb_P_kind 44 = .ok (.bipush 52, 2) := by decide +kernel
theorem zd_P_kind_46 : decode zb_P_kind 46 = .ok (.idiv, 1) := by decide +kernel
theorem zd_P_kind_47 : decode zb_P_kind 47 = .ok (.istore_n 3, 1) := by decide +kernel
theorem zd_P_kind_48 : decode zb_P_kind 48 = .ok (.iload_n 3, 1) := by decide +kernel
theorem zd_P_kind_49 : decode zb_P_kind 49 = .ok (.bipush 16, 2) := by decide +kernel
theorem zd_P_kind_51 : decode zb_P_kind 51 = .ok (.if_icmp .ge 5, 3) := by decide +kernel
theorem zd_P_kind_54 : decode zb_P_kind 54 = .ok (.iconst 1, 1) := by decide +kernel
theorem zd_P_kind_55 : decode zb_P_kind 55 = .ok (.ireturn, 1) := by decide +kernel
theorem zd_P_kind_56 : decode zb_P_kind 56 = .ok (.iload_n 3, 1) := by decide +kernel
theorem zd_P_kind_57 : decode zb_P_kind 57 = .ok (.bipush 65, 2) := by decide +kernel
theorem zd_P_kind_59 : decode zb_P_kind 59 = .ok (.if_icmp .lt 5, 3) := by decide +kernel
theorem zd_P_kind_62 : decode zb_P_kind 62 = .ok (.iconst 4, 1) := by decide +kernel
theorem zd_P_kind_63 : decode zb_P_kind 63 = .ok (.ireturn, 1) := by decide +kernel
theorem zd_P_kind_64 : decode zb_P_kind 64 = .ok (.aload_n 0, 1) := by decide +kernel
theorem zd_P_kind_65 : decode zb_P_kind 65 = .ok (.getfield 25, 3) := by decide +kernel
theorem zd_P_kind_68 : decode zb_P_kind 68 = .ok (.iload_n 1, 1) := by decide +kernel
theorem zd_P_kind_69 : decode zb_P_kind 69 = .ok (.iaload, 1) := by decide +kernel
theorem zd_P_kind_70 : decode zb_P_kind 70 = .ok (.ifCond .eq 7, 3) := by decide +kernel
theorem zd_P_kind_73 : decode zb_P_kind 73 = .ok (.iconst 2, 1) := by decide +kernel
theorem zd_P_kind_74 : decode zb_P_kind 74 = .ok (.goto 4, 3) := by decide +kernel
theorem zd_P_kind_77 : decode zb_P_kind 77 = .ok (.iconst 0, 1) := by decide +kernel
theorem zd_P_kind_78 : decode zb_P_kind 78 = .ok (.ireturn, 1) := by decide +kernel

def zf_P_kind (r0 : Int) (x1 : Int) (x2 : Int) (S : Sg) : Option (Int × Sg) :=
    zck (0 ≤ x1 ∧ x1 < 40) <| if (S 0 r0 11 x1) = 2 then (some (-2, S)) else (if (S 0 r0 11 x1) = 1 then (some (3, S)) else (if (S 0 r0 12 x1) < 0 then (zlt (zdiv (zw (x2 - (S 0 r0 7 x1))) 52) fun v5 => if 16 ≤ v5 then (if v5 < 65 then (if (S 0 r0 10 x1) = 0 then (some (0, S)) else (some (2, S))) else (some (4, S))) else (some (1, S))) else (some (5, S))))
set_option maxHeartbeats 4000000 in
set_option maxRecDepth 100000 in
theorem zw_P_kind {p : Program} {l : Launch} {e : Env} {s : State} {m : MethodId} {args : Array Value} {below : List Frame} {meth : Method} {c : Code} {B : zB} (C : CallFix p m c zb_P_kind 4 s args zT "IslandOffice$People") (hr : meth.sig.returnType = some .int) (hlk : meth.locks = false) (hK : zK B s) (hSt : zSt B s) (hap : zAp B) (r0 : Int) (hr0 : 0 ≤ r0 ∧ r0 < 3) {res : Int} {S9 : Sg} : ∀ (x1 : Int) (x2 : Int) (S : Sg) (nx1 : zn x1) (nx2 : zn x2), zf_P_kind r0 x1 x2 S = some (res, S9) → ∀ (H : Heap) (locs : List Loc) (ls : Array Slot), zW B S H → va_S B.2.2.2 s.heap H locs → lv_has ls 4 [(0, .ref (B.2.1 0 (r0) (6))), (1, .int (zI (x1))), (2, .int (zI (x2)))] → W p l e zm_P_kind s m args below meth c H locs 0 0 (MQ below (zQi B res S9) args s 0 0 B.2.2.2) (F0 m 0 ls []) := by
  intro x1 x2 S nx1 nx2 hf H locs ls hW hS hl
  unfold zf_P_kind at hf
  refine lv_aload_n C.1 C.2.1 zd_P_kind_0 rfl (lv_at hl 0 rfl) ?_
  refine zg_P_state (r := r0) C hK hW (zvd_0 hr0 (by decide)) zk_70 zd_P_kind_1 ?_
  refine lv_iload_n C.1 C.2.1 zd_P_kind_4 rfl (lv_at hl 1 rfl) ?_
  obtain ⟨h1, hf⟩ := zck_some hf
  refine ziald C hK hW (zvd_0 hr0 (by decide)) (fun f => ze_0_11 B f (r0)) (by decide) h1 zd_P_kind_5 ?_
  refine zr_iconst C zd_P_kind_6 ?_
  refine zr_icmp_ne (tgt := 13) C (zWn hW _ _ _ _ rfl) (znb rfl) zd_P_kind_7 (by decide) (fun c2 => ?_) (fun c2 => ?_)
  · rw [if_neg c2] at hf
    refine lv_aload_n C.1 C.2.1 zd_P_kind_13 rfl (lv_at hl 0 rfl) ?_
    refine zg_P_state (r := r0) C hK hW (zvd_0 hr0 (by decide)) zk_70 zd_P_kind_14 ?_
    refine lv_iload_n C.1 C.2.1 zd_P_kind_17 rfl (lv_at hl 1 rfl) ?_
    refine ziald C hK hW (zvd_0 hr0 (by decide)) (fun f => ze_0_11 B f (r0)) (by decide) h1 zd_P_kind_18 ?_
    refine zr_iconst C zd_P_kind_19 ?_
    refine zr_icmp_ne (tgt := 25) C (zWn hW _ _ _ _ rfl) (znb rfl) zd_P_kind_20 (by decide) (fun c3 => ?_) (fun c3 => ?_)
    · rw [if_neg c3] at hf
      refine lv_aload_n C.1 C.2.1 zd_P_kind_25 rfl (lv_at hl 0 rfl) ?_
      refine zg_P_end (r := r0) C hK hW (zvd_0 hr0 (by decide)) zk_74 zd_P_kind_26 ?_
      refine lv_iload_n C.1 C.2.1 zd_P_kind_29 rfl (lv_at hl 1 rfl) ?_
      refine ziald C hK hW (zvd_0 hr0 (by decide)) (fun f => ze_0_12 B f (r0)) (by decide) h1 zd_P_kind_30 ?_
      refine zr_if_lt (tgt := 36) C (zWn hW _ _ _ _ rfl) zd_P_kind_31 (by decide) (fun c4 => ?_) (fun c4 => ?_)
      · rw [if_pos c4] at hf
        refine lv_iload_n C.1 C.2.1 zd_P_kind_36 rfl (lv_at hl 2 rfl) ?_
        refine lv_aload_n C.1 C.2.1 zd_P_kind_37 rfl (lv_at hl 0 rfl) ?_
        refine zg_P_birth (r := r0) C hK hW (zvd_0 hr0 (by decide)) zk_57 zd_P_kind_38 ?_
        refine lv_iload_n C.1 C.2.1 zd_P_kind_41 rfl (lv_at hl 1 rfl) ?_
        refine ziald C hK hW (zvd_0 hr0 (by decide)) (fun f => ze_0_7 B f (r0)) (by decide) h1 zd_P_kind_42 ?_
        refine zr_isub C zd_P_kind_43 ?_
        refine zr_bipush C zd_P_kind_44 (by decide) ?_
        refine zr_idiv C (zn_w _) (znb rfl) (by decide) zd_P_kind_46 ?_
        obtain ⟨v5, ev5, hf⟩ := zlt_some hf
        have nv5 : zn v5 := by rw [← ev5]; exact (zn_div _ _)
        rw [ev5]
        refine lv_istore_n (lv' := [(3, .int (zI (v5))), (0, .ref (B.2.1 0 (r0) (6))), (1, .int (zI (x1))), (2, .int (zI (x2)))]) C.1 C.2.1 zd_P_kind_47 rfl hl (by decide) rfl (fun ls hl => ?_)
        refine lv_iload_n C.1 C.2.1 zd_P_kind_48 rfl (lv_at hl 0 rfl) ?_
        refine zr_bipush C zd_P_kind_49 (by decide) ?_
        refine zr_icmp_ge (tgt := 56) C nv5 (znb rfl) zd_P_kind_51 (by decide) (fun c6 => ?_) (fun c6 => ?_)
        · rw [if_pos c6] at hf
          refine lv_iload_n C.1 C.2.1 zd_P_kind_56 rfl (lv_at hl 0 rfl) ?_
          refine zr_bipush C zd_P_kind_57 (by decide) ?_
          refine zr_icmp_lt (tgt := 64) C nv5 (znb rfl) zd_P_kind_59 (by decide) (fun c7 => ?_) (fun c7 => ?_)
          · rw [if_pos c7] at hf
            refine lv_aload_n C.1 C.2.1 zd_P_kind_64 rfl (lv_at hl 1 rfl) ?_
            refine zg_P_skills (r := r0) C hK hW (zvd_0 hr0 (by decide)) zk_66 zd_P_kind_65 ?_
            refine lv_iload_n C.1 C.2.1 zd_P_kind_68 rfl (lv_at hl 2 rfl) ?_
            refine ziald C hK hW (zvd_0 hr0 (by decide)) (fun f => ze_0_10 B f (r0)) (by decide) h1 zd_P_kind_69 ?_
            refine zr_if_eq (tgt := 77) C (zWn hW _ _ _ _ rfl) zd_P_kind_70 (by decide) (fun c8 => ?_) (fun c8 => ?_)
            · rw [if_pos c8] at hf
              refine zr_iconst C zd_P_kind_77 ?_
              cases hf
              exact zre_i C hr hlk hK hW hS (znb rfl) zd_P_kind_78
            · rw [if_neg c8] at hf
              refine zr_iconst C zd_P_kind_73 ?_
              refine lv_goto (tgt := 78) C.1 C.2.1 zd_P_kind_74 (by decide) ?_
              cases hf
              exact zre_i C hr hlk hK hW hS (znb rfl) zd_P_kind_78
          · rw [if_neg c7] at hf
            refine zr_iconst C zd_P_kind_62 ?_
            cases hf
            exact zre_i C hr hlk hK hW hS (znb rfl) zd_P_kind_63
        · rw [if_neg c6] at hf
          refine zr_iconst C zd_P_kind_54 ?_
          cases hf
          exact zre_i C hr hlk hK hW hS (znb rfl) zd_P_kind_55
      · rw [if_neg c4] at hf
        refine zr_iconst C zd_P_kind_34 ?_
        cases hf
        exact zre_i C hr hlk hK hW hS (znb rfl) zd_P_kind_35
    · rw [if_pos c3] at hf
      refine zr_iconst C zd_P_kind_23 ?_
      cases hf
      exact zre_i C hr hlk hK hW hS (znb rfl) zd_P_kind_24
  · rw [if_pos c2] at hf
    refine zr_bipush C zd_P_kind_10 (by decide) ?_
    cases hf
    exact zre_i C hr hlk hK hW hS (znb rfl) zd_P_kind_12

theorem zc_P_kind {l : Launch} {B : zB} (hap : zAp B) (r0 : Int) (hr0 : 0 ≤ r0 ∧ r0 < 3) (x1 : Int) (x2 : Int) (S : Sg) (nx1 : zn x1) (nx2 : zn x2) {res : Int} {S9 : Sg} (hf : zf_P_kind r0 x1 x2 S = some (res, S9)) : Met l zy_P_kind (Cond.code zy_P_kind zb_P_kind 4 (some .int) :: zT) zm_P_kind (zP B S [.ref (B.2.1 0 (r0) (6)), .int (zI (x1)), .int (zI (x2))]) (zQi B res S9) 0 0 B.2.2.2 :=
  zmet (by decide) (Nat.le_of_ble_eq_true rfl) (fun p e s m args below meth c C hr hlk hK hSt hW ls hl => zw_P_kind C hr hlk hK hSt hap r0 hr0 x1 x2 S nx1 nx2 hf _ _ _ hW va_S.rf hl)
/-! IslandOffice.birth(I)I -/
abbrev zy_O_birth : MethodName := ⟨"IslandOffice", "birth", "(I)I"⟩
abbrev zb_O_birth : ByteArray := prog_1_method_4_code
abbrev zm_O_birth : Room := { frames := 1, cells := 0, slots := 0, locals := 26 }
theorem zq_O_birth : zMy zy_O_birth zb_O_birth 3 (some .int) 1 := ⟨zk_552, zk_550, zk_551, zk_1, by decide, by decide, by decide +kernel⟩
theorem zd_O_birth_0 : decode zb_O_birth 0 = .ok (.aload_n 0, 1) := by decide +kernel
theorem zd_O_birth_1 : decode zb_O_birth 1 = .ok (.getfield 16, 3) := by decide +kernel
theorem zd_O_birth_4 : decode zb_O_birth 4 = .ok (.getfield 81, 3) := by decide +kernel
theorem zd_O_birth_7 : decode zb_O_birth 7 = .ok (.iload_n 1, 1) := by decide +kernel
theorem zd_O_birth_8 : decode zb_O_birth 8 = .ok (.invokevirtual 85, 3) := by decide +kernel
theorem zd_O_birth_11 : decode zb_O_birth 11 = .ok (.ifCond .ne 5, 3) := by decide +kernel
theorem zd_O_birth_14 : decode zb_O_birth 14 = .ok (.iconst (-1), 1) := by decide +kernel
theorem zd_O_birth_15 : decode zb_O_birth 15 = .ok (.ireturn, 1) := by decide +kernel
theorem zd_O_birth_16 : decode zb_O_birth 16 = .ok (.aload_n 0, 1) := by decide +kernel
theorem zd_O_birth_17 : decode zb_O_birth 17 = .ok (.getfield 16, 3) := by decide +kernel
theorem zd_O_birth_20 : decode zb_O_birth 20 = .ok (.getfield 81, 3) := by decide +kernel
theorem zd_O_birth_23 : decode zb_O_birth 23 = .ok (.getfield 98, 3) := by decide +kernel
theorem zd_O_birth_26 : decode zb_O_birth 26 = .ok (.bipush 40, 2) := by decide +kernel
theorem zd_O_birth_28 : decode zb_O_birth 28 = .ok (.if_icmp .lt 6, 3) := by decide +kernel
theorem zd_O_birth_31 : decode zb_O_birth 31 = .ok (.bipush (-2), 2) := by decide +kernel
theorem zd_O_birth_33 : decode zb_O_birth 33 = .ok (.ireturn, 1) := by decide +kernel
theorem zd_O_birth_34 : decode zb_O_birth 34 = .ok (.aload_n 0, 1) := by decide +kernel
theorem zd_O_birth_35 : decode zb_O_birth 35 = .ok (.getfield 16, 3) := by decide +kernel
theorem zd_O_birth_38 : decode zb_O_birth 38 = .ok (.getfield 81, 3) := by decide +kernel
theorem zd_O_birth_41 : decode zb_O_birth 41 = .ok (.iload_n 1, 1) := by decide +kernel
theorem zd_O_birth_42 : decode zb_O_birth 42 = .ok (.aload_n 0, 1) := by decide +kernel
theorem zd_O_birth_43 : decode zb_O_birth 43 = .ok (.getfield 16, 3) := by decide +kernel
theorem zd_O_birth_46 : decode zb_O_birth 46 = .ok (.getfield 94, 3) := by decide +kernel
theorem zd_O_birth_49 : decode zb_O_birth 49 = .ok (.invokevirtual 101, 3) := by decide +kernel
theorem zd_O_birth_52 : decode zb_O_birth 52 = .ok (.istore_n 2, 1) := by decide +kernel
theorem zd_O_birth_53 : decode zb_O_birth 53 = .ok (.iload_n 2, 1) := by decide +kernel
theorem zd_O_birth_54 : decode zb_O_birth 54 = .ok (.ifCond .eq 11, 3) := by decide +kernel
theorem zd_O_birth_57 : decode zb_O_birth 57 = .ok (.iload_n 2, 1) := by decide +kernel
theorem zd_O_birth_58 : decode zb_O_birth 58 = .ok (.iconst 2, 1) := by decide +kernel
theorem zd_O_birth_59 : decode zb_O_birth 59 = .ok (.if_icmp .eq 6, 3) := by decide +kernel
theorem zd_O_birth_62 : decode zb_O_birth 62 = .ok (.bipush (-3), 2) := by decide +kernel
theorem zd_O_birth_64 : decode zb_O_birth 64 = .ok (.ireturn, 1) := by decide +kernel
theorem zd_O_birth_65 : decode zb_O_birth 65 = .ok (.aload_n 0, 1) := by decide +kernel
theorem zd_O_birth_66 : decode zb_O_birth 66 = .ok (.getfield 16, 3) := by decide +kernel
theorem zd_O_birth_69 : decode zb_O_birth 69 = .ok (.getfield 81, 3) := by decide +kernel
theorem zd_O_birth_72 : decode zb_O_birth 72 = .ok (.aload_n 0, 1) := by decide +kernel
theorem zd_O_birth_73 : decode zb_O_birth 73 = .ok (.getfield 16, 3) := by decide +kernel
theorem zd_O_birth_76 : decode zb_O_birth 76 = .ok (.getfield 94, 3) := by decide +kernel
theorem zd_O_birth_79 : decode zb_O_birth 79 = .ok (.aload_n 0, 1) := by decide +kernel
theorem zd_O_birth_80 : decode zb_O_birth 80 = .ok (.getfield 16, 3) := by decide +kernel
theorem zd_O_birth_83 : decode zb_O_birth 83 = .ok (.getfield 81, 3) := by decide +kernel
theorem zd_O_birth_86 : decode zb_O_birth 86 = .ok (.getfield 105, 3) := by decide +kernel
theorem zd_O_birth_89 : decode zb_O_birth 89 = .ok (.iload_n 1, 1) := by decide +kernel
theorem zd_O_birth_90 : decode zb_O_birth 90 = .ok (.iaload, 1) := by decide +kernel
theorem zd_O_birth_91 : decode zb_O_birth 91 = .ok (.iload_n 1, 1) := by decide +kernel
theorem zd_O_birth_92 : decode zb_O_birth 92 = .ok (.iconst 0, 1) := by decide +kernel
theorem zd_O_birth_93 : decode zb_O_birth 93 = .ok (.iconst (-1), 1) := by decide +kernel
theorem zd_O_birth_94 : decode zb_O_birth 94 = .ok (.invokevirtual 90, 3) := by decide +kernel
theorem zd_O_birth_97 : decode zb_O_birth 97 = .ok (.ireturn, 1) := by decide +kernel

def zf_O_birth_65 (x1 : Int) (S : Sg) : Option (Int × Sg) :=
    zck (0 ≤ x1 ∧ x1 < 40) <| zbd (zf_P_add (0) (S 0 0 0 0) (S 0 0 8 x1) x1 0 (-1) S) fun a2 S3 => some (a2, S3)
set_option maxHeartbeats 4000000 in
set_option maxRecDepth 100000 in
theorem zw_O_birth_65 {p : Program} {l : Launch} {e : Env} {s : State} {m : MethodId} {args : Array Value} {below : List Frame} {meth : Method} {c : Code} {B : zB} (C : CallFix p m c zb_O_birth 3 s args zT "IslandOffice") (hr : meth.sig.returnType = some .int) (hlk : meth.locks = false) (hK : zK B s) (hSt : zSt B s) (hap : zAp B) {res : Int} {S9 : Sg} : ∀ (x1 : Int) (S : Sg) (nx1 : zn x1), zf_O_birth_65 x1 S = some (res, S9) → ∀ (H : Heap) (locs : List Loc) (ls : Array Slot), zW B S H → va_S B.2.2.2 s.heap H locs → lv_has ls 3 [(0, .ref (B.2.1 3 (0) (0))), (1, .int (zI (x1)))] → W p l e zm_O_birth s m args below meth c H locs 0 0 (MQ below (zQi B res S9) args s 0 0 B.2.2.2) (F0 m 65 ls []) := by
  intro x1 S nx1 hf H locs ls hW hS hl
  unfold zf_O_birth_65 at hf
  refine lv_aload_n C.1 C.2.1 zd_O_birth_65 rfl (lv_at hl 0 rfl) ?_
  refine zg_O_now (r := 0) C hK hW (zvd_3 (by decide) (by decide)) zk_492 zd_O_birth_66 ?_
  refine zg_I_people (r := 0) C hK hW (zvd_0 (by decide) (by decide)) zk_280 zd_O_birth_69 ?_
  refine lv_aload_n C.1 C.2.1 zd_O_birth_72 rfl (lv_at hl 0 rfl) ?_
  refine zg_O_now (r := 0) C hK hW (zvd_3 (by decide) (by decide)) zk_492 zd_O_birth_73 ?_
  refine zg_I_week (r := 0) C hK hW (zvd_0 (by decide) (by decide)) zk_242 zd_O_birth_76 ?_
  refine lv_aload_n C.1 C.2.1 zd_O_birth_79 rfl (lv_at hl 0 rfl) ?_
  refine zg_O_now (r := 0) C hK hW (zvd_3 (by decide) (by decide)) zk_492 zd_O_birth_80 ?_
  refine zg_I_people (r := 0) C hK hW (zvd_0 (by decide) (by decide)) zk_280 zd_O_birth_83 ?_
  refine zg_P_house (r := 0) C hK hW (zvd_0 (by decide) (by decide)) zk_60 zd_O_birth_86 ?_
  refine lv_iload_n C.1 C.2.1 zd_O_birth_89 rfl (lv_at hl 1 rfl) ?_
  obtain ⟨h1, hf⟩ := zck_some hf
  refine ziald C hK hW (zvd_0 (by decide) (by decide)) (fun f => ze_0_8 B f (0)) (by decide) h1 zd_O_birth_90 ?_
  refine lv_iload_n C.1 C.2.1 zd_O_birth_91 rfl (lv_at hl 1 rfl) ?_
  refine zr_iconst C zd_O_birth_92 ?_
  refine zr_iconst C zd_O_birth_93 ?_
  obtain ⟨a2, S3, ea2, hf⟩ := zbd_some hf
  refine zcVi (As := [.int (zI (S 0 0 0 0)), .int (zI (S 0 0 8 x1)), .int (zI (x1)), .int (zI (0)), .int (zI (-1))]) (rest := []) C hK hSt hW hS (zc_P_add hap (0) (by decide) (S 0 0 0 0) (S 0 0 8 x1) x1 0 (-1) S (zWn hW _ _ _ _ rfl) (zWn hW _ _ _ _ rfl) nx1 (znb rfl) (znb rfl) ea2) zq_P_add zk_541 (zrecv hK hW (zvd_0 (by decide) (by decide)) (ze_0_6 B _ (0)) rfl) ⟨rfl, rfl, by decide, by decide⟩ ⟨Nat.zero_le _, Nat.zero_le _⟩ rfl hl.1 rfl (lv_room (Nat.le_of_ble_eq_true rfl)) zd_O_birth_94 (fun na2 H locs hW hS => ?_)
  cases hf
  exact zre_i C hr hlk hK hW hS na2 zd_O_birth_97

def zf_O_birth (x1 : Int) (S : Sg) : Option (Int × Sg) :=
    zbd (zf_P_has (0) x1 S) fun a1 S2 => if a1 = 0 then (some (-1, S2)) else (if (S2 0 0 6 0) < 40 then (zbd (zf_P_kind (0) x1 (S2 0 0 0 0) S2) fun a5 S6 => if a5 = 0 then (zf_O_birth_65 (x1) S6) else (if a5 = 2 then (zf_O_birth_65 (x1) S6) else (some (-3, S6)))) else (some (-2, S2)))
set_option maxHeartbeats 4000000 in
set_option maxRecDepth 100000 in
theorem zw_O_birth {p : Program} {l : Launch} {e : Env} {s : State} {m : MethodId} {args : Array Value} {below : List Frame} {meth : Method} {c : Code} {B : zB} (C : CallFix p m c zb_O_birth 3 s args zT "IslandOffice") (hr : meth.sig.returnType = some .int) (hlk : meth.locks = false) (hK : zK B s) (hSt : zSt B s) (hap : zAp B) {res : Int} {S9 : Sg} : ∀ (x1 : Int) (S : Sg) (nx1 : zn x1), zf_O_birth x1 S = some (res, S9) → ∀ (H : Heap) (locs : List Loc) (ls : Array Slot), zW B S H → va_S B.2.2.2 s.heap H locs → lv_has ls 3 [(0, .ref (B.2.1 3 (0) (0))), (1, .int (zI (x1)))] → W p l e zm_O_birth s m args below meth c H locs 0 0 (MQ below (zQi B res S9) args s 0 0 B.2.2.2) (F0 m 0 ls []) := by
  intro x1 S nx1 hf H locs ls hW hS hl
  unfold zf_O_birth at hf
  refine lv_aload_n C.1 C.2.1 zd_O_birth_0 rfl (lv_at hl 0 rfl) ?_
  refine zg_O_now (r := 0) C hK hW (zvd_3 (by decide) (by decide)) zk_492 zd_O_birth_1 ?_
  refine zg_I_people (r := 0) C hK hW (zvd_0 (by decide) (by decide)) zk_280 zd_O_birth_4 ?_
  refine lv_iload_n C.1 C.2.1 zd_O_birth_7 rfl (lv_at hl 1 rfl) ?_
  obtain ⟨a1, S2, ea1, hf⟩ := zbd_some hf
  refine zcVi (As := [.int (zI (x1))]) (rest := []) C hK hSt hW hS (zc_P_has hap (0) (by decide) x1 S nx1 ea1) zq_P_has zk_537 (zrecv hK hW (zvd_0 (by decide) (by decide)) (ze_0_6 B _ (0)) rfl) ⟨rfl, rfl, by decide, by decide⟩ ⟨Nat.zero_le _, Nat.zero_le _⟩ rfl hl.1 rfl (lv_room (Nat.le_of_ble_eq_true rfl)) zd_O_birth_8 (fun na1 H locs hW hS => ?_)
  refine zr_if_ne (tgt := 16) C na1 zd_O_birth_11 (by decide) (fun c3 => ?_) (fun c3 => ?_)
  · rw [if_neg c3] at hf
    refine lv_aload_n C.1 C.2.1 zd_O_birth_16 rfl (lv_at hl 0 rfl) ?_
    refine zg_O_now (r := 0) C hK hW (zvd_3 (by decide) (by decide)) zk_492 zd_O_birth_17 ?_
    refine zg_I_people (r := 0) C hK hW (zvd_0 (by decide) (by decide)) zk_280 zd_O_birth_20 ?_
    refine zg_P_n (r := 0) C hK hW (zvd_0 (by decide) (by decide)) zk_56 zd_O_birth_23 ?_
    refine zr_bipush C zd_O_birth_26 (by decide) ?_
    refine zr_icmp_lt (tgt := 34) C (zWn hW _ _ _ _ rfl) (znb rfl) zd_O_birth_28 (by decide) (fun c4 => ?_) (fun c4 => ?_)
    · rw [if_pos c4] at hf
      refine lv_aload_n C.1 C.2.1 zd_O_birth_34 rfl (lv_at hl 0 rfl) ?_
      refine zg_O_now (r := 0) C hK hW (zvd_3 (by decide) (by decide)) zk_492 zd_O_birth_35 ?_
      refine zg_I_people (r := 0) C hK hW (zvd_0 (by decide) (by decide)) zk_280 zd_O_birth_38 ?_
      refine lv_iload_n C.1 C.2.1 zd_O_birth_41 rfl (lv_at hl 1 rfl) ?_
      refine lv_aload_n C.1 C.2.1 zd_O_birth_42 rfl (lv_at hl 0 rfl) ?_
      refine zg_O_now (r := 0) C hK hW (zvd_3 (by decide) (by decide)) zk_492 zd_O_birth_43 ?_
      refine zg_I_week (r := 0) C hK hW (zvd_0 (by decide) (by decide)) zk_242 zd_O_birth_46 ?_
      obtain ⟨a5, S6, ea5, hf⟩ := zbd_some hf
      refine zcVi (As := [.int (zI (x1)), .int (zI (S2 0 0 0 0))]) (rest := []) C hK hSt hW hS (zc_P_kind hap (0) (by decide) x1 (S2 0 0 0 0) S2 nx1 (zWn hW _ _ _ _ rfl) ea5) zq_P_kind zk_553 (zrecv hK hW (zvd_0 (by decide) (by decide)) (ze_0_6 B _ (0)) rfl) ⟨rfl, rfl, by decide, by decide⟩ ⟨Nat.zero_le _, Nat.zero_le _⟩ rfl hl.1 rfl (lv_room (Nat.le_of_ble_eq_true rfl)) zd_O_birth_49 (fun na5 H locs hW hS => ?_)
      refine lv_istore_n (lv' := [(2, .int (zI (a5))), (0, .ref (B.2.1 3 (0) (0))), (1, .int (zI (x1)))]) C.1 C.2.1 zd_O_birth_52 rfl hl (by decide) rfl (fun ls hl => ?_)
      refine lv_iload_n C.1 C.2.1 zd_O_birth_53 rfl (lv_at hl 0 rfl) ?_
      refine zr_if_eq (tgt := 65) C na5 zd_O_birth_54 (by decide) (fun c7 => ?_) (fun c7 => ?_)
      · rw [if_pos c7] at hf
        exact zw_O_birth_65 C hr hlk hK hSt hap   (x1) S6 nx1 hf _ _ _ hW hS (lv_sub hl [1, 2] rfl)
      · rw [if_neg c7] at hf
        refine lv_iload_n C.1 C.2.1 zd_O_birth_57 rfl (lv_at hl 0 rfl) ?_
        refine zr_iconst C zd_O_birth_58 ?_
        refine zr_icmp_eq (tgt := 65) C na5 (znb rfl) zd_O_birth_59 (by decide) (fun c8 => ?_) (fun c8 => ?_)
        · rw [if_pos c8] at hf
          exact zw_O_birth_65 C hr hlk hK hSt hap   (x1) S6 nx1 hf _ _ _ hW hS (lv_sub hl [1, 2] rfl)
        · rw [if_neg c8] at hf
          refine zr_bipush C zd_O_birth_62 (by decide) ?_
          cases hf
          exact zre_i C hr hlk hK hW hS (znb rfl) zd_O_birth_64
    · rw [if_neg c4] at hf
      refine zr_bipush C zd_O_birth_31 (by decide) ?_
      cases hf
      exact zre_i C hr hlk hK hW hS (znb rfl) zd_O_birth_33
  · rw [if_pos c3] at hf
    refine zr_iconst C zd_O_birth_14 ?_
    cases hf
    exact zre_i C hr hlk hK hW hS (znb rfl) zd_O_birth_15

theorem zc_O_birth {l : Launch} {B : zB} (hap : zAp B) (x1 : Int) (S : Sg) (nx1 : zn x1) {res : Int} {S9 : Sg} (hf : zf_O_birth x1 S = some (res, S9)) : Met l zy_O_birth (Cond.code zy_O_birth zb_O_birth 3 (some .int) :: zT) zm_O_birth (zP B S [.ref (B.2.1 3 (0) (0)), .int (zI (x1))]) (zQi B res S9) 0 0 B.2.2.2 :=
  zmet (by decide) (Nat.le_of_ble_eq_true rfl) (fun p e s m args below meth c C hr hlk hK hSt hW ls hl => zw_O_birth C hr hlk hK hSt hap   x1 S nx1 hf _ _ _ hW va_S.rf hl)
/-! IslandOffice$People.age(II)I -/
abbrev zy_P_age : MethodName := ⟨"IslandOffice$People", "age", "(II)I"⟩
abbrev zb_P_age : ByteArray := prog_7_method_5_code
abbrev zm_P_age : Room := { frames := 0, cells := 0, slots := 0, locals := 0 }
theorem zq_P_age : zMy zy_P_age zb_P_age 3 (some .int) 2 := ⟨zk_564, zk_562, zk_563, zk_4, by decide, by decide, by decide +kernel⟩
theorem zd_P_age_0 : decode zb_P_age 0 = .ok (.iload_n 2, 1) := by decide +kernel
theorem zd_P_age_1 : decode zb_P_age 1 = .ok (.aload_n 0, 1) := by decide +kernel
theorem zd_P_age_2 : decode zb_P_age 2 = .ok (.getfield 15, 3) := by decide +kernel
theorem zd_P_age_5 : decode zb_P_age 5 = .ok (.iload_n 1, 1) := by decide +kernel
theorem zd_P_age_6 : decode zb_P_age 6 = .ok (.iaload, 1) := by decide +kernel
theorem zd_P_age_7 : decode zb_P_age 7 = .ok (.isub, 1) := by decide +kernel
theorem zd_P_age_8 : decode zb_P_age 8 = .ok (.bipush 52, 2) := by decide +kernel
theorem zd_P_age_10 : decode zb_P_age 10 = .ok (.idiv, 1) := by decide +kernel
theorem zd_P_age_11 : decode zb_P_age 11 = .ok (.ireturn, 1) := by decide +kernel

def zf_P_age (r0 : Int) (x1 : Int) (x2 : Int) (S : Sg) : Option (Int × Sg) :=
    zck (0 ≤ x1 ∧ x1 < 40) <| some (zdiv (zw (x2 - (S 0 r0 7 x1))) 52, S)
set_option maxHeartbeats 4000000 in
set_option maxRecDepth 100000 in
theorem zw_P_age {p : Program} {l : Launch} {e : Env} {s : State} {m : MethodId} {args : Array Value} {below : List Frame} {meth : Method} {c : Code} {B : zB} (C : CallFix p m c zb_P_age 3 s args zT "IslandOffice$People") (hr : meth.sig.returnType = some .int) (hlk : meth.locks = false) (hK : zK B s) (hSt : zSt B s) (hap : zAp B) (r0 : Int) (hr0 : 0 ≤ r0 ∧ r0 < 3) {res : Int} {S9 : Sg} : ∀ (x1 : Int) (x2 : Int) (S : Sg) (nx1 : zn x1) (nx2 : zn x2), zf_P_age r0 x1 x2 S = some (res, S9) → ∀ (H : Heap) (locs : List Loc) (ls : Array Slot), zW B S H → va_S B.2.2.2 s.heap H locs → lv_has ls 3 [(0, .ref (B.2.1 0 (r0) (6))), (1, .int (zI (x1))), (2, .int (zI (x2)))] → W p l e zm_P_age s m args below meth c H locs 0 0 (MQ below (zQi B res S9) args s 0 0 B.2.2.2) (F0 m 0 ls []) := by
  intro x1 x2 S nx1 nx2 hf H locs ls hW hS hl
  unfold zf_P_age at hf
  refine lv_iload_n C.1 C.2.1 zd_P_age_0 rfl (lv_at hl 2 rfl) ?_
  refine lv_aload_n C.1 C.2.1 zd_P_age_1 rfl (lv_at hl 0 rfl) ?_
  refine zg_P_birth (r := r0) C hK hW (zvd_0 hr0 (by decide)) zk_57 zd_P_age_2 ?_
  refine lv_iload_n C.1 C.2.1 zd_P_age_5 rfl (lv_at hl 1 rfl) ?_
  obtain ⟨h1, hf⟩ := zck_some hf
  refine ziald C hK hW (zvd_0 hr0 (by decide)) (fun f => ze_0_7 B f (r0)) (by decide) h1 zd_P_age_6 ?_
  refine zr_isub C zd_P_age_7 ?_
  refine zr_bipush C zd_P_age_8 (by decide) ?_
  refine zr_idiv C (zn_w _) (znb rfl) (by decide) zd_P_age_10 ?_
  cases hf
  exact zre_i C hr hlk hK hW hS (zn_div _ _) zd_P_age_11

theorem zc_P_age {l : Launch} {B : zB} (hap : zAp B) (r0 : Int) (hr0 : 0 ≤ r0 ∧ r0 < 3) (x1 : Int) (x2 : Int) (S : Sg) (nx1 : zn x1) (nx2 : zn x2) {res : Int} {S9 : Sg} (hf : zf_P_age r0 x1 x2 S = some (res, S9)) : Met l zy_P_age (Cond.code zy_P_age zb_P_age 3 (some .int) :: zT) zm_P_age (zP B S [.ref (B.2.1 0 (r0) (6)), .int (zI (x1)), .int (zI (x2))]) (zQi B res S9) 0 0 B.2.2.2 :=
  zmet (by decide) (Nat.le_of_ble_eq_true rfl) (fun p e s m args below meth c C hr hlk hK hSt hW ls hl => zw_P_age C hr hlk hK hSt hap r0 hr0 x1 x2 S nx1 nx2 hf _ _ _ hW va_S.rf hl)
/-! IslandOffice.death(I)I -/
abbrev zy_O_death : MethodName := ⟨"IslandOffice", "death", "(I)I"⟩
abbrev zb_O_death : ByteArray := prog_1_method_5_code
abbrev zm_O_death : Room := { frames := 1, cells := 0, slots := 0, locals := 22 }
theorem zq_O_death : zMy zy_O_death zb_O_death 2 (some .int) 1 := ⟨zk_560, zk_558, zk_559, zk_1, by decide, by decide, by decide +kernel⟩
theorem zd_O_death_0 : decode zb_O_death 0 = .ok (.aload_n 0, 1) := by decide +kernel
theorem zd_O_death_1 : decode zb_O_death 1 = .ok (.getfield 16, 3) := by decide +kernel
theorem zd_O_death_4 : decode zb_O_death 4 = .ok (.getfield 81, 3) := by decide +kernel
theorem zd_O_death_7 : decode zb_O_death 7 = .ok (.iload_n 1, 1) := by decide +kernel
theorem zd_O_death_8 : decode zb_O_death 8 = .ok (.invokevirtual 85, 3) := by decide +kernel
theorem zd_O_death_11 : decode zb_O_death 11 = .ok (.ifCond .ne 5, 3) := by decide +kernel
theorem zd_O_death_14 : decode zb_O_death 14 = .ok (.iconst (-1), 1) := by decide +kernel
theorem zd_O_death_15 : decode zb_O_death 15 = .ok (.ireturn, 1) := by decide +kernel
theorem zd_O_death_16 : decode zb_O_death 16 = .ok (.aload_n 0, 1) := by decide +kernel
theorem zd_O_death_17 : decode zb_O_death 17 = .ok (.getfield 16, 3) := by decide +kernel
theorem zd_O_death_20 : decode zb_O_death 20 = .ok (.getfield 81, 3) := by decide +kernel
theorem zd_O_death_23 : decode zb_O_death 23 = .ok (.getfield 108, 3) := by decide +kernel
theorem zd_O_death_26 : decode zb_O_death 26 = .ok (.iload_n 1, 1) := by decide +kernel
theorem zd_O_death_27 : decode zb_O_death 27 = .ok (.iaload, 1) := by decide +kernel
theorem zd_O_death_28 : decode zb_O_death 28 = .ok (.iconst 2, 1) := by decide +kernel
theorem zd_O_death_29 : decode zb_O_death 29 = .ok (.if_icmp .ne 6, 3) := by decide +kernel
theorem zd_O_death_32 : decode zb_O_death 32 = .ok (.bipush (-3), 2) := by decide +kernel
theorem zd_O_death_34 : decode zb_O_death 34 = .ok (.ireturn, 1) := by decide +kernel
theorem zd_O_death_35 : decode zb_O_death 35 = .ok (.aload_n 0, 1) := by decide +kernel
theorem zd_O_death_36 : decode zb_O_death 36 = .ok (.getfield 16, 3) := by decide +kernel
theorem zd_O_death_39 : decode zb_O_death 39 = .ok (.getfield 81, 3) := by decide +kernel
theorem zd_O_death_42 : decode zb_O_death 42 = .ok (.getfield 108, 3) := by decide +kernel
theorem zd_O_death_45 : decode zb_O_death 45 = .ok (.iload_n 1, 1) := by decide +kernel
theorem zd_O_death_46 : decode zb_O_death 46 = .ok (.iconst 2, 1) := by decide +kernel
theorem zd_O_death_47 : decode zb_O_death 47 = .ok (.iastore, 1) := by decide +kernel
theorem zd_O_death_48 : decode zb_O_death 48 = .ok (.aload_n 0, 1) := by decide +kernel
theorem zd_O_death_49 : decode zb_O_death 49 = .ok (.getfield 16, 3) := by decide +kernel
theorem zd_O_death_52 : decode zb_O_death 52 = .ok (.getfield 81, 3) := by decide +kernel
theorem zd_O_death_55 : decode zb_O_death 55 = .ok (.iload_n 1, 1) := by decide +kernel
theorem zd_O_death_56 : decode zb_O_death 56 = .ok (.aload_n 0, 1) := by decide +kernel
theorem zd_O_death_57 : decode zb_O_death 57 = .ok (.getfield 16, 3) := by decide +kernel
theorem zd_O_death_60 : decode zb_O_death 60 = .ok (.getfield 94, 3) := by decide +kernel
theorem zd_O_death_63 : decode zb_O_death 63 = .ok (.invokevirtual 111, 3) := by decide +kernel
theorem zd_O_death_66 : decode zb_O_death 66 = .ok (.ireturn, 1) := by decide +kernel

def zf_O_death (x1 : Int) (S : Sg) : Option (Int × Sg) :=
    zbd (zf_P_has (0) x1 S) fun a1 S2 => if a1 = 0 then (some (-1, S2)) else (zck (0 ≤ x1 ∧ x1 < 40) <| if (S2 0 0 11 x1) = 2 then (some (-3, S2)) else (zlt (zu S2 0 0 11 x1 2) fun S6 => zbd (zf_P_age (0) x1 (S6 0 0 0 0) S6) fun a7 S8 => some (a7, S8)))
set_option maxHeartbeats 4000000 in
set_option maxRecDepth 100000 in
theorem zw_O_death {p : Program} {l : Launch} {e : Env} {s : State} {m : MethodId} {args : Array Value} {below : List Frame} {meth : Method} {c : Code} {B : zB} (C : CallFix p m c zb_O_death 2 s args zT "IslandOffice") (hr : meth.sig.returnType = some .int) (hlk : meth.locks = false) (hK : zK B s) (hSt : zSt B s) (hap : zAp B) {res : Int} {S9 : Sg} : ∀ (x1 : Int) (S : Sg) (nx1 : zn x1), zf_O_death x1 S = some (res, S9) → ∀ (H : Heap) (locs : List Loc) (ls : Array Slot), zW B S H → va_S B.2.2.2 s.heap H locs → lv_has ls 2 [(0, .ref (B.2.1 3 (0) (0))), (1, .int (zI (x1)))] → W p l e zm_O_death s m args below meth c H locs 0 0 (MQ below (zQi B res S9) args s 0 0 B.2.2.2) (F0 m 0 ls []) := by
  intro x1 S nx1 hf H locs ls hW hS hl
  unfold zf_O_death at hf
  refine lv_aload_n C.1 C.2.1 zd_O_death_0 rfl (lv_at hl 0 rfl) ?_
  refine zg_O_now (r := 0) C hK hW (zvd_3 (by decide) (by decide)) zk_492 zd_O_death_1 ?_
  refine zg_I_people (r := 0) C hK hW (zvd_0 (by decide) (by decide)) zk_280 zd_O_death_4 ?_
  refine lv_iload_n C.1 C.2.1 zd_O_death_7 rfl (lv_at hl 1 rfl) ?_
  obtain ⟨a1, S2, ea1, hf⟩ := zbd_some hf
  refine zcVi (As := [.int (zI (x1))]) (rest := []) C hK hSt hW hS (zc_P_has hap (0) (by decide) x1 S nx1 ea1) zq_P_has zk_537 (zrecv hK hW (zvd_0 (by decide) (by decide)) (ze_0_6 B _ (0)) rfl) ⟨rfl, rfl, by decide, by decide⟩ ⟨Nat.zero_le _, Nat.zero_le _⟩ rfl hl.1 rfl (lv_room (Nat.le_of_ble_eq_true rfl)) zd_O_death_8 (fun na1 H locs hW hS => ?_)
  refine zr_if_ne (tgt := 16) C na1 zd_O_death_11 (by decide) (fun c3 => ?_) (fun c3 => ?_)
  · rw [if_neg c3] at hf
    refine lv_aload_n C.1 C.2.1 zd_O_death_16 rfl (lv_at hl 0 rfl) ?_
    refine zg_O_now (r := 0) C hK hW (zvd_3 (by decide) (by decide)) zk_492 zd_O_death_17 ?_
    refine zg_I_people (r := 0) C hK hW (zvd_0 (by decide) (by decide)) zk_280 zd_O_death_20 ?_
    refine zg_P_state (r := 0) C hK hW (zvd_0 (by decide) (by decide)) zk_73 zd_O_death_23 ?_
    refine lv_iload_n C.1 C.2.1 zd_O_death_26 rfl (lv_at hl 1 rfl) ?_
    obtain ⟨h4, hf⟩ := zck_some hf
    refine ziald C hK hW (zvd_0 (by decide) (by decide)) (fun f => ze_0_11 B f (0)) (by decide) h4 zd_O_death_27 ?_
    refine zr_iconst C zd_O_death_28 ?_
    refine zr_icmp_ne (tgt := 35) C (zWn hW _ _ _ _ rfl) (znb rfl) zd_O_death_29 (by decide) (fun c5 => ?_) (fun c5 => ?_)
    · rw [if_neg c5] at hf
      refine lv_aload_n C.1 C.2.1 zd_O_death_35 rfl (lv_at hl 0 rfl) ?_
      refine zg_O_now (r := 0) C hK hW (zvd_3 (by decide) (by decide)) zk_492 zd_O_death_36 ?_
      refine zg_I_people (r := 0) C hK hW (zvd_0 (by decide) (by decide)) zk_280 zd_O_death_39 ?_
      refine zg_P_state (r := 0) C hK hW (zvd_0 (by decide) (by decide)) zk_73 zd_O_death_42 ?_
      refine lv_iload_n C.1 C.2.1 zd_O_death_45 rfl (lv_at hl 1 rfl) ?_
      refine zr_iconst C zd_O_death_46 ?_
      obtain ⟨S6, eS6, hf⟩ := zlt_some hf
      refine ziast C hK hap hW hS (zvd_0 (by decide) (by decide)) (fun f => ze_0_11 B f (0)) (by decide) rfl (znb rfl) h4 zd_O_death_47 (fun H locs hW hS => ?_)
      rw [eS6] at hW
      refine lv_aload_n C.1 C.2.1 zd_O_death_48 rfl (lv_at hl 0 rfl) ?_
      refine zg_O_now (r := 0) C hK hW (zvd_3 (by decide) (by decide)) zk_492 zd_O_death_49 ?_
      refine zg_I_people (r := 0) C hK hW (zvd_0 (by decide) (by decide)) zk_280 zd_O_death_52 ?_
      refine lv_iload_n C.1 C.2.1 zd_O_death_55 rfl (lv_at hl 1 rfl) ?_
      refine lv_aload_n C.1 C.2.1 zd_O_death_56 rfl (lv_at hl 0 rfl) ?_
      refine zg_O_now (r := 0) C hK hW (zvd_3 (by decide) (by decide)) zk_492 zd_O_death_57 ?_
      refine zg_I_week (r := 0) C hK hW (zvd_0 (by decide) (by decide)) zk_242 zd_O_death_60 ?_
      obtain ⟨a7, S8, ea7, hf⟩ := zbd_some hf
      refine zcVi (As := [.int (zI (x1)), .int (zI (S6 0 0 0 0))]) (rest := []) C hK hSt hW hS (zc_P_age hap (0) (by decide) x1 (S6 0 0 0 0) S6 nx1 (zWn hW _ _ _ _ rfl) ea7) zq_P_age zk_561 (zrecv hK hW (zvd_0 (by decide) (by decide)) (ze_0_6 B _ (0)) rfl) ⟨rfl, rfl, by decide, by decide⟩ ⟨Nat.zero_le _, Nat.zero_le _⟩ rfl hl.1 rfl (lv_room (Nat.le_of_ble_eq_true rfl)) zd_O_death_63 (fun na7 H locs hW hS => ?_)
      cases hf
      exact zre_i C hr hlk hK hW hS na7 zd_O_death_66
    · rw [if_pos c5] at hf
      refine zr_bipush C zd_O_death_32 (by decide) ?_
      cases hf
      exact zre_i C hr hlk hK hW hS (znb rfl) zd_O_death_34
  · rw [if_pos c3] at hf
    refine zr_iconst C zd_O_death_14 ?_
    cases hf
    exact zre_i C hr hlk hK hW hS (znb rfl) zd_O_death_15

theorem zc_O_death {l : Launch} {B : zB} (hap : zAp B) (x1 : Int) (S : Sg) (nx1 : zn x1) {res : Int} {S9 : Sg} (hf : zf_O_death x1 S = some (res, S9)) : Met l zy_O_death (Cond.code zy_O_death zb_O_death 2 (some .int) :: zT) zm_O_death (zP B S [.ref (B.2.1 3 (0) (0)), .int (zI (x1))]) (zQi B res S9) 0 0 B.2.2.2 :=
  zmet (by decide) (Nat.le_of_ble_eq_true rfl) (fun p e s m args below meth c C hr hlk hK hSt hW ls hl => zw_O_death C hr hlk hK hSt hap   x1 S nx1 hf _ _ _ hW va_S.rf hl)
/-! IslandOffice.back(I)I -/
abbrev zy_O_back : MethodName := ⟨"IslandOffice", "back", "(I)I"⟩
abbrev zb_O_back : ByteArray := prog_1_method_6_code
abbrev zm_O_back : Room := { frames := 1, cells := 0, slots := 0, locals := 22 }
theorem zq_O_back : zMy zy_O_back zb_O_back 2 (some .int) 1 := ⟨zk_568, zk_566, zk_567, zk_1, by decide, by decide, by decide +kernel⟩
theorem zd_O_back_0 : decode zb_O_back 0 = .ok (.aload_n 0, 1) := by decide +kernel
theorem zd_O_back_1 : decode zb_O_back 1 = .ok (.getfield 16, 3) := by decide +kernel
theorem zd_O_back_4 : decode zb_O_back 4 = .ok (.getfield 81, 3) := by decide +kernel
theorem zd_O_back_7 : decode zb_O_back 7 = .ok (.iload_n 1, 1) := by decide +kernel
theorem zd_O_back_8 : decode zb_O_back 8 = .ok (.invokevirtual 85, 3) := by decide +kernel
theorem zd_O_back_11 : decode zb_O_back 11 = .ok (.ifCond .ne 5, 3) := by decide +kernel
theorem zd_O_back_14 : decode zb_O_back 14 = .ok (.iconst (-1), 1) := by decide +kernel
theorem zd_O_back_15 : decode zb_O_back 15 = .ok (.ireturn, 1) := by decide +kernel
theorem zd_O_back_16 : decode zb_O_back 16 = .ok (.aload_n 0, 1) := by decide +kernel
theorem zd_O_back_17 : decode zb_O_back 17 = .ok (.getfield 16, 3) := by decide +kernel
theorem zd_O_back_20 : decode zb_O_back 20 = .ok (.getfield 81, 3) := by decide +kernel
theorem zd_O_back_23 : decode zb_O_back 23 = .ok (.getfield 108, 3) := by decide +kernel
theorem zd_O_back_26 : decode zb_O_back 26 = .ok (.iload_n 1, 1) := by decide +kernel
theorem zd_O_back_27 : decode zb_O_back 27 = .ok (.iaload, 1) := by decide +kernel
theorem zd_O_back_28 : decode zb_O_back 28 = .ok (.iconst 1, 1) := by decide +kernel
theorem zd_O_back_29 : decode zb_O_back 29 = .ok (.if_icmp .eq 6, 3) := by decide +kernel
theorem zd_O_back_32 : decode zb_O_back 32 = .ok (.bipush (-3), 2) := by decide +kernel
theorem zd_O_back_34 : decode zb_O_back 34 = .ok (.ireturn, 1) := by decide +kernel
theorem zd_O_back_35 : decode zb_O_back 35 = .ok (.aload_n 0, 1) := by decide +kernel
theorem zd_O_back_36 : decode zb_O_back 36 = .ok (.getfield 16, 3) := by decide +kernel
theorem zd_O_back_39 : decode zb_O_back 39 = .ok (.getfield 81, 3) := by decide +kernel
theorem zd_O_back_42 : decode zb_O_back 42 = .ok (.getfield 108, 3) := by decide +kernel
theorem zd_O_back_45 : decode zb_O_back 45 = .ok (.iload_n 1, 1) := by decide +kernel
theorem zd_O_back_46 : decode zb_O_back 46 = .ok (.iconst 0, 1) := by decide +kernel
theorem zd_O_back_47 : decode zb_O_back 47 = .ok (.iastore, 1) := by decide +kernel
theorem zd_O_back_48 : decode zb_O_back 48 = .ok (.aload_n 0, 1) := by decide +kernel
theorem zd_O_back_49 : decode zb_O_back 49 = .ok (.getfield 16, 3) := by decide +kernel
theorem zd_O_back_52 : decode zb_O_back 52 = .ok (.getfield 81, 3) := by decide +kernel
theorem zd_O_back_55 : decode zb_O_back 55 = .ok (.getfield 114, 3) := by decide +kernel
theorem zd_O_back_58 : decode zb_O_back 58 = .ok (.iload_n 1, 1) := by decide +kernel
theorem zd_O_back_59 : decode zb_O_back 59 = .ok (.iconst 0, 1) := by decide +kernel
theorem zd_O_back_60 : decode zb_O_back 60 = .ok (.iastore, 1) := by decide +kernel
theorem zd_O_back_61 : decode zb_O_back 61 = .ok (.aload_n 0, 1) := by decide +kernel
theorem zd_O_back_62 : decode zb_O_back 62 = .ok (.getfield 16, 3) := by decide +kernel
theorem zd_O_back_65 : decode zb_O_back 65 = .ok (.getfield 81, 3) := by decide +kernel
theorem zd_O_back_68 : decode zb_O_back 68 = .ok (.iload_n 1, 1) := by decide +kernel
theorem zd_O_back_69 : decode zb_O_back 69 = .ok (.aload_n 0, 1) := by decide +kernel
theorem zd_O_back_70 : decode zb_O_back 70 = .ok (.getfield 16, 3) := by decide +kernel
theorem zd_O_back_73 : decode zb_O_back 73 = .ok (.getfield 94, 3) := by decide +kernel
theorem zd_O_back_76 : decode zb_O_back 76 = .ok (.invokevirtual 111, 3) := by decide +kernel
theorem zd_O_back_79 : decode zb_O_back 79 = .ok (.ireturn, 1) := by decide +kernel

def zf_O_back (x1 : Int) (S : Sg) : Option (Int × Sg) :=
    zbd (zf_P_has (0) x1 S) fun a1 S2 => if a1 = 0 then (some (-1, S2)) else (zck (0 ≤ x1 ∧ x1 < 40) <| if (S2 0 0 11 x1) = 1 then (zlt (zu S2 0 0 11 x1 0) fun S6 => zlt (zu S6 0 0 13 x1 0) fun S7 => zbd (zf_P_age (0) x1 (S7 0 0 0 0) S7) fun a8 S9 => some (a8, S9)) else (some (-3, S2)))
set_option maxHeartbeats 4000000 in
set_option maxRecDepth 100000 in
theorem zw_O_back {p : Program} {l : Launch} {e : Env} {s : State} {m : MethodId} {args : Array Value} {below : List Frame} {meth : Method} {c : Code} {B : zB} (C : CallFix p m c zb_O_back 2 s args zT "IslandOffice") (hr : meth.sig.returnType = some .int) (hlk : meth.locks = false) (hK : zK B s) (hSt : zSt B s) (hap : zAp B) {res : Int} {S9 : Sg} : ∀ (x1 : Int) (S : Sg) (nx1 : zn x1), zf_O_back x1 S = some (res, S9) → ∀ (H : Heap) (locs : List Loc) (ls : Array Slot), zW B S H → va_S B.2.2.2 s.heap H locs → lv_has ls 2 [(0, .ref (B.2.1 3 (0) (0))), (1, .int (zI (x1)))] → W p l e zm_O_back s m args below meth c H locs 0 0 (MQ below (zQi B res S9) args s 0 0 B.2.2.2) (F0 m 0 ls []) := by
  intro x1 S nx1 hf H locs ls hW hS hl
  unfold zf_O_back at hf
  refine lv_aload_n C.1 C.2.1 zd_O_back_0 rfl (lv_at hl 0 rfl) ?_
  refine zg_O_now (r := 0) C hK hW (zvd_3 (by decide) (by decide)) zk_492 zd_O_back_1 ?_
  refine zg_I_people (r := 0) C hK hW (zvd_0 (by decide) (by decide)) zk_280 zd_O_back_4 ?_
  refine lv_iload_n C.1 C.2.1 zd_O_back_7 rfl (lv_at hl 1 rfl) ?_
  obtain ⟨a1, S2, ea1, hf⟩ := zbd_some hf
  refine zcVi (As := [.int (zI (x1))]) (rest := []) C hK hSt hW hS (zc_P_has hap (0) (by decide) x1 S nx1 ea1) zq_P_has zk_537 (zrecv hK hW (zvd_0 (by decide) (by decide)) (ze_0_6 B _ (0)) rfl) ⟨rfl, rfl, by decide, by decide⟩ ⟨Nat.zero_le _, Nat.zero_le _⟩ rfl hl.1 rfl (lv_room (Nat.le_of_ble_eq_true rfl)) zd_O_back_8 (fun na1 H locs hW hS => ?_)
  refine zr_if_ne (tgt := 16) C na1 zd_O_back_11 (by decide) (fun c3 => ?_) (fun c3 => ?_)
  · rw [if_neg c3] at hf
    refine lv_aload_n C.1 C.2.1 zd_O_back_16 rfl (lv_at hl 0 rfl) ?_
    refine zg_O_now (r := 0) C hK hW (zvd_3 (by decide) (by decide)) zk_492 zd_O_back_17 ?_
    refine zg_I_people (r := 0) C hK hW (zvd_0 (by decide) (by decide)) zk_280 zd_O_back_20 ?_
    refine zg_P_state (r := 0) C hK hW (zvd_0 (by decide) (by decide)) zk_73 zd_O_back_23 ?_
    refine lv_iload_n C.1 C.2.1 zd_O_back_26 rfl (lv_at hl 1 rfl) ?_
    obtain ⟨h4, hf⟩ := zck_some hf
    refine ziald C hK hW (zvd_0 (by decide) (by decide)) (fun f => ze_0_11 B f (0)) (by decide) h4 zd_O_back_27 ?_
    refine zr_iconst C zd_O_back_28 ?_
    refine zr_icmp_eq (tgt := 35) C (zWn hW _ _ _ _ rfl) (znb rfl) zd_O_back_29 (by decide) (fun c5 => ?_) (fun c5 => ?_)
    · rw [if_pos c5] at hf
      refine lv_aload_n C.1 C.2.1 zd_O_back_35 rfl (lv_at hl 0 rfl) ?_
      refine zg_O_now (r := 0) C hK hW (zvd_3 (by decide) (by decide)) zk_492 zd_O_back_36 ?_
      refine zg_I_people (r := 0) C hK hW (zvd_0 (by decide) (by decide)) zk_280 zd_O_back_39 ?_
      refine zg_P_state (r := 0) C hK hW (zvd_0 (by decide) (by decide)) zk_73 zd_O_back_42 ?_
      refine lv_iload_n C.1 C.2.1 zd_O_back_45 rfl (lv_at hl 1 rfl) ?_
      refine zr_iconst C zd_O_back_46 ?_
      obtain ⟨S6, eS6, hf⟩ := zlt_some hf
      refine ziast C hK hap hW hS (zvd_0 (by decide) (by decide)) (fun f => ze_0_11 B f (0)) (by decide) rfl (znb rfl) h4 zd_O_back_47 (fun H locs hW hS => ?_)
      rw [eS6] at hW
      refine lv_aload_n C.1 C.2.1 zd_O_back_48 rfl (lv_at hl 0 rfl) ?_
      refine zg_O_now (r := 0) C hK hW (zvd_3 (by decide) (by decide)) zk_492 zd_O_back_49 ?_
      refine zg_I_people (r := 0) C hK hW (zvd_0 (by decide) (by decide)) zk_280 zd_O_back_52 ?_
      refine zg_P_discontent (r := 0) C hK hW (zvd_0 (by decide) (by decide)) zk_79 zd_O_back_55 ?_
      refine lv_iload_n C.1 C.2.1 zd_O_back_58 rfl (lv_at hl 1 rfl) ?_
      refine zr_iconst C zd_O_back_59 ?_
      obtain ⟨S7, eS7, hf⟩ := zlt_some hf
      refine ziast C hK hap hW hS (zvd_0 (by decide) (by decide)) (fun f => ze_0_13 B f (0)) (by decide) rfl (znb rfl) h4 zd_O_back_60 (fun H locs hW hS => ?_)
      rw [eS7] at hW
      refine lv_aload_n C.1 C.2.1 zd_O_back_61 rfl (lv_at hl 0 rfl) ?_
      refine zg_O_now (r := 0) C hK hW (zvd_3 (by decide) (by decide)) zk_492 zd_O_back_62 ?_
      refine zg_I_people (r := 0) C hK hW (zvd_0 (by decide) (by decide)) zk_280 zd_O_back_65 ?_
      refine lv_iload_n C.1 C.2.1 zd_O_back_68 rfl (lv_at hl 1 rfl) ?_
      refine lv_aload_n C.1 C.2.1 zd_O_back_69 rfl (lv_at hl 0 rfl) ?_
      refine zg_O_now (r := 0) C hK hW (zvd_3 (by decide) (by decide)) zk_492 zd_O_back_70 ?_
      refine zg_I_week (r := 0) C hK hW (zvd_0 (by decide) (by decide)) zk_242 zd_O_back_73 ?_
      obtain ⟨a8, S9, ea8, hf⟩ := zbd_some hf
      refine zcVi (As := [.int (zI (x1)), .int (zI (S7 0 0 0 0))]) (rest := []) C hK hSt hW hS (zc_P_age hap (0) (by decide) x1 (S7 0 0 0 0) S7 nx1 (zWn hW _ _ _ _ rfl) ea8) zq_P_age zk_561 (zrecv hK hW (zvd_0 (by decide) (by decide)) (ze_0_6 B _ (0)) rfl) ⟨rfl, rfl, by decide, by decide⟩ ⟨Nat.zero_le _, Nat.zero_le _⟩ rfl hl.1 rfl (lv_room (Nat.le_of_ble_eq_true rfl)) zd_O_back_76 (fun na8 H locs hW hS => ?_)
      cases hf
      exact zre_i C hr hlk hK hW hS na8 zd_O_back_79
    · rw [if_neg c5] at hf
      refine zr_bipush C zd_O_back_32 (by decide) ?_
      cases hf
      exact zre_i C hr hlk hK hW hS (znb rfl) zd_O_back_34
  · rw [if_pos c3] at hf
    refine zr_iconst C zd_O_back_14 ?_
    cases hf
    exact zre_i C hr hlk hK hW hS (znb rfl) zd_O_back_15

theorem zc_O_back {l : Launch} {B : zB} (hap : zAp B) (x1 : Int) (S : Sg) (nx1 : zn x1) {res : Int} {S9 : Sg} (hf : zf_O_back x1 S = some (res, S9)) : Met l zy_O_back (Cond.code zy_O_back zb_O_back 2 (some .int) :: zT) zm_O_back (zP B S [.ref (B.2.1 3 (0) (0)), .int (zI (x1))]) (zQi B res S9) 0 0 B.2.2.2 :=
  zmet (by decide) (Nat.le_of_ble_eq_true rfl) (fun p e s m args below meth c C hr hlk hK hSt hW ls hl => zw_O_back C hr hlk hK hSt hap   x1 S nx1 hf _ _ _ hW va_S.rf hl)
/-! IslandOffice.skill(IIZ)I -/
abbrev zy_O_skill : MethodName := ⟨"IslandOffice", "skill", "(IIZ)I"⟩
abbrev zb_O_skill : ByteArray := prog_1_method_7_code
abbrev zm_O_skill : Room := { frames := 1, cells := 0, slots := 0, locals := 21 }
theorem zq_O_skill : zMy zy_O_skill zb_O_skill 7 (some .int) 3 := ⟨zk_572, zk_570, zk_571, zk_1, by decide, by decide, by decide +kernel⟩
theorem zd_O_skill_0 : decode zb_O_skill 0 = .ok (.aload_n 0, 1) := by decide +kernel
theorem zd_O_skill_1 : decode zb_O_skill 1 = .ok (.getfield 16, 3) := by decide +kernel
theorem zd_O_skill_4 : decode zb_O_skill 4 = .ok (.getfield 81, 3) := by decide +kernel
theorem zd_O_skill_7 : decode zb_O_skill 7 = .ok (.iload_n 1, 1) := by decide +kernel
theorem zd_O_skill_8 : decode zb_O_skill 8 = .ok (.invokevirtual 85, 3) := by decide +kernel
theorem zd_O_skill_11 : decode zb_O_skill 11 = .ok (.ifCond .eq 13, 3) := by decide +kernel
theorem zd_O_skill_14 : decode zb_O_skill 14 = .ok (.iload_n 2, 1) := by decide +kernel
theorem zd_O_skill_15 : decode zb_O_skill 15 = .ok (.ifCond .lt 9, 3) := by decide +kernel
theorem zd_O_skill_18 : decode zb_O_skill 18 = .ok (.iload_n 2, 1) := by decide +kernel
theorem zd_O_skill_19 : decode zb_O_skill 19 = .ok (.bipush 8, 2) := by decide +kernel
theorem zd_O_skill_21 : decode zb_O_skill 21 = .ok (.if_icmp .lt 5, 3) := by decide +kernel
theorem zd_O_skill_24 : decode zb_O_skill 24 = .ok (.iconst (-1), 1) := by decide +kernel
theorem zd_O_skill_25 : decode zb_O_skill 25 = .ok (.ireturn, 1) := by decide +kernel
theorem zd_O_skill_26 : decode zb_O_skill 26 = .ok (.aload_n 0, 1) := by decide +kernel
theorem zd_O_skill_27 : decode zb_O_skill 27 = .ok (.getfield 16, 3) := by decide +kernel
theorem zd_O_skill_30 : decode zb_O_skill 30 = .ok (.getfield 81, 3) := by decide +kernel
theorem zd_O_skill_33 : decode zb_O_skill 33 = .ok (.getfield 108, 3) := by decide +kernel
theorem zd_O_skill_36 : decode zb_O_skill 36 = .ok (.iload_n 1, 1) := by decide +kernel
theorem zd_O_skill_37 : decode zb_O_skill 37 = .ok (.iaload, 1) := by decide +kernel
theorem zd_O_skill_38 : decode zb_O_skill 38 = .ok (.iconst 2, 1) := by decide +kernel
theorem zd_O_skill_39 : decode zb_O_skill 39 = .ok (.if_icmp .ne 6, 3) := by decide +kernel
theorem zd_O_skill_42 : decode zb_O_skill 42 = .ok (.bipush (-3), 2) := by decide +kernel
theorem zd_O_skill_44 : decode zb_O_skill 44 = .ok (.ireturn, 1) := by decide +kernel
theorem zd_O_skill_45 : decode zb_O_skill 45 = .ok (.aload_n 0, 1) := by decide +kernel
theorem zd_O_skill_46 : decode zb_O_skill 46 = .ok (.getfield 16, 3) := by decide +kernel
theorem zd_O_skill_49 : decode zb_O_skill 49 = .ok (.getfield 81, 3) := by decide +kernel
theorem zd_O_skill_52 : decode zb_O_skill 52 = .ok (.getfield 117, 3) := by decide +kernel
theorem zd_O_skill_55 : decode zb_O_skill 55 = .ok (.iload_n 1, 1) := by decide +kernel
theorem zd_O_skill_56 : decode zb_O_skill 56 = .ok (.iaload, 1) := by decide +kernel
theorem zd_O_skill_57 : decode zb_O_skill 57 = .ok (.istore 4, 2) := by decide +kernel
theorem zd_O_skill_59 : decode zb_O_skill 59 = .ok (.iconst 1, 1) := by decide +kernel
theorem zd_O_skill_60 : decode zb_O_skill 60 = .ok (.iload_n 2, 1) := by decide +kernel
theorem zd_O_skill_61 : decode zb_O_skill 61 = .ok (.ishl, 1) := by decide +kernel
theorem zd_O_skill_62 : decode zb_O_skill 62 = .ok (.istore 5, 2) := by decide +kernel
theorem zd_O_skill_64 : decode zb_O_skill 64 = .ok (.iload_n 3, 1) := by decide +kernel
theorem zd_O_skill_65 : decode zb_O_skill 65 = .ok (.ifCond .eq 11, 3) := by decide +kernel
theorem zd_O_skill_68 : decode zb_O_skill 68 = .ok (.iload 4, 2) := by decide +kernel
theorem zd_O_skill_70 : decode zb_O_skill 70 = .ok (.iload 5, 2) := by decide +kernel
theorem zd_O_skill_72 : decode zb_O_skill 72 = .ok (.ior, 1) := by decide +kernel
theorem zd_O_skill_73 : decode zb_O_skill 73 = .ok (.goto 10, 3) := by decide +kernel
theorem zd_O_skill_76 : decode zb_O_skill 76 = .ok (.iload 4, 2) := by decide +kernel
theorem zd_O_skill_78 : decode zb_O_skill 78 = .ok (.iload 5, 2) := by decide +kernel
theorem zd_O_skill_80 : decode zb_O_skill 80 = .ok (.iconst (-1), 1) := by decide +kernel
theorem zd_O_skill_81 : decode zb_O_skill 81 = .ok (.ixor, 1) := by decide +kernel
theorem zd_O_skill_82 : decode zb_O_skill 82 = .ok (.iand, 1) := by decide +kernel
theorem zd_O_skill_83 : decode zb_O_skill 83 = .ok (.istore 6, 2) := by decide +kernel
theorem zd_O_skill_85 : decode zb_O_skill 85 = .ok (.aload_n 0, 1) := by decide +kernel
theorem zd_O_skill_86 : decode zb_O_skill 86 = .ok (.getfield 16, 3) := by decide +kernel
theorem zd_O_skill_89 : decode zb_O_skill 89 = .ok (.getfield 81, 3) := by decide +kernel
theorem zd_O_skill_92 : decode zb_O_skill 92 = .ok (.getfield 117, 3) := by decide +kernel
theorem zd_O_skill_95 : decode zb_O_skill 95 = .ok (.iload_n 1, 1) := by decide +kernel
theorem zd_O_skill_96 : decode zb_O_skill 96 = .ok (.iload 6, 2) := by decide +kernel
theorem zd_O_skill_98 : decode zb_O_skill 98 = .ok (.iastore, 1) := by decide +kernel
theorem zd_O_skill_99 : decode zb_O_skill 99 = .ok (.iload 4, 2) := by decide +kernel
theorem zd_O_skill_101 : decode zb_O_skill 101 = .ok (.iload 6, 2) := by decide +kernel
theorem zd_O_skill_103 : decode zb_O_skill 103 = .ok (.if_icmp .ne 7, 3) := by decide +kernel
theorem zd_O_skill_106 : decode zb_O_skill 106 = .ok (.iconst 0, 1) := by decide +kernel
theorem zd_O_skill_107 : decode zb_O_skill 107 = .ok (.goto 4, 3) := by decide +kernel
theorem zd_O_skill_110 : decode zb_O_skill 110 = .ok (.iconst 1, 1) := by decide +kernel
theorem zd_O_skill_111 : decode zb_O_skill 111 = .ok (.ireturn, 1) := by decide +kernel

def zf_O_skill_83 (x1 : Int) (x4 : Int) (xt0 : Int) (S : Sg) : Option (Int × Sg) :=
    zck (0 ≤ x1 ∧ x1 < 40) <| zlt (zu S 0 0 10 x1 xt0) fun S2 => if x4 = xt0 then (some (0, S2)) else (some (1, S2))
set_option maxHeartbeats 4000000 in
set_option maxRecDepth 100000 in
theorem zw_O_skill_83 {p : Program} {l : Launch} {e : Env} {s : State} {m : MethodId} {args : Array Value} {below : List Frame} {meth : Method} {c : Code} {B : zB} (C : CallFix p m c zb_O_skill 7 s args zT "IslandOffice") (hr : meth.sig.returnType = some .int) (hlk : meth.locks = false) (hK : zK B s) (hSt : zSt B s) (hap : zAp B) {res : Int} {S9 : Sg} : ∀ (x1 : Int) (x4 : Int) (xt0 : Int) (S : Sg) (nx1 : zn x1) (nx4 : zn x4) (nxt0 : zn xt0), zf_O_skill_83 x1 x4 xt0 S = some (res, S9) → ∀ (H : Heap) (locs : List Loc) (ls : Array Slot), zW B S H → va_S B.2.2.2 s.heap H locs → lv_has ls 7 [(0, .ref (B.2.1 3 (0) (0))), (1, .int (zI (x1))), (4, .int (zI (x4)))] → W p l e zm_O_skill s m args below meth c H locs 0 0 (MQ below (zQi B res S9) args s 0 0 B.2.2.2) (F0 m 83 ls [.int (zI (xt0))]) := by
  intro x1 x4 xt0 S nx1 nx4 nxt0 hf H locs ls hW hS hl
  unfold zf_O_skill_83 at hf
  refine lv_istore (lv' := [(6, .int (zI (xt0))), (0, .ref (B.2.1 3 (0) (0))), (1, .int (zI (x1))), (4, .int (zI (x4)))]) C.1 C.2.1 zd_O_skill_83 hl (by decide) rfl (fun ls hl => ?_)
  refine lv_aload_n C.1 C.2.1 zd_O_skill_85 rfl (lv_at hl 1 rfl) ?_
  refine zg_O_now (r := 0) C hK hW (zvd_3 (by decide) (by decide)) zk_492 zd_O_skill_86 ?_
  refine zg_I_people (r := 0) C hK hW (zvd_0 (by decide) (by decide)) zk_280 zd_O_skill_89 ?_
  refine zg_P_skills (r := 0) C hK hW (zvd_0 (by decide) (by decide)) zk_69 zd_O_skill_92 ?_
  refine lv_iload_n C.1 C.2.1 zd_O_skill_95 rfl (lv_at hl 2 rfl) ?_
  refine lv_iload C.1 C.2.1 zd_O_skill_96 (lv_at hl 0 rfl) ?_
  obtain ⟨h1, hf⟩ := zck_some hf
  obtain ⟨S2, eS2, hf⟩ := zlt_some hf
  refine ziast C hK hap hW hS (zvd_0 (by decide) (by decide)) (fun f => ze_0_10 B f (0)) (by decide) rfl nxt0 h1 zd_O_skill_98 (fun H locs hW hS => ?_)
  rw [eS2] at hW
  refine lv_iload C.1 C.2.1 zd_O_skill_99 (lv_at hl 3 rfl) ?_
  refine lv_iload C.1 C.2.1 zd_O_skill_101 (lv_at hl 0 rfl) ?_
  refine zr_icmp_ne (tgt := 110) C nx4 nxt0 zd_O_skill_103 (by decide) (fun c3 => ?_) (fun c3 => ?_)
  · rw [if_neg c3] at hf
    refine zr_iconst C zd_O_skill_110 ?_
    cases hf
    exact zre_i C hr hlk hK hW hS (znb rfl) zd_O_skill_111
  · rw [if_pos c3] at hf
    refine zr_iconst C zd_O_skill_106 ?_
    refine lv_goto (tgt := 111) C.1 C.2.1 zd_O_skill_107 (by decide) ?_
    cases hf
    exact zre_i C hr hlk hK hW hS (znb rfl) zd_O_skill_111

def zf_O_skill (x1 : Int) (x2 : Int) (x3 : Int) (S : Sg) : Option (Int × Sg) :=
    zbd (zf_P_has (0) x1 S) fun a1 S2 => if a1 = 0 then (some (-1, S2)) else (if x2 < 0 then (some (-1, S2)) else (if x2 < 8 then (zck (0 ≤ x1 ∧ x1 < 40) <| if (S2 0 0 11 x1) = 2 then (some (-3, S2)) else (zlt (S2 0 0 10 x1) fun v8 => zlt (zshl 1 x2) fun v9 => if x3 = 0 then (zf_O_skill_83 (x1) (v8) (zand v8 (zxor v9 (-1))) S2) else (zf_O_skill_83 (x1) (v8) (zor v8 v9) S2))) else (some (-1, S2))))
set_option maxHeartbeats 4000000 in
set_option maxRecDepth 100000 in
theorem zw_O_skill {p : Program} {l : Launch} {e : Env} {s : State} {m : MethodId} {args : Array Value} {below : List Frame} {meth : Method} {c : Code} {B : zB} (C : CallFix p m c zb_O_skill 7 s args zT "IslandOffice") (hr : meth.sig.returnType = some .int) (hlk : meth.locks = false) (hK : zK B s) (hSt : zSt B s) (hap : zAp B) {res : Int} {S9 : Sg} : ∀ (x1 : Int) (x2 : Int) (x3 : Int) (S : Sg) (nx1 : zn x1) (nx2 : zn x2) (nx3 : zn x3), zf_O_skill x1 x2 x3 S = some (res, S9) → ∀ (H : Heap) (locs : List Loc) (ls : Array Slot), zW B S H → va_S B.2.2.2 s.heap H locs → lv_has ls 7 [(0, .ref (B.2.1 3 (0) (0))), (1, .int (zI (x1))), (2, .int (zI (x2))), (3, .int (zI (x3)))] → W p l e zm_O_skill s m args below meth c H locs 0 0 (MQ below (zQi B res S9) args s 0 0 B.2.2.2) (F0 m 0 ls []) := by
  intro x1 x2 x3 S nx1 nx2 nx3 hf H locs ls hW hS hl
  unfold zf_O_skill at hf
  refine lv_aload_n C.1 C.2.1 zd_O_skill_0 rfl (lv_at hl 0 rfl) ?_
  refine zg_O_now (r := 0) C hK hW (zvd_3 (by decide) (by decide)) zk_492 zd_O_skill_1 ?_
  refine zg_I_people (r := 0) C hK hW (zvd_0 (by decide) (by decide)) zk_280 zd_O_skill_4 ?_
  refine lv_iload_n C.1 C.2.1 zd_O_skill_7 rfl (lv_at hl 1 rfl) ?_
  obtain ⟨a1, S2, ea1, hf⟩ := zbd_some hf
  refine zcVi (As := [.int (zI (x1))]) (rest := []) C hK hSt hW hS (zc_P_has hap (0) (by decide) x1 S nx1 ea1) zq_P_has zk_537 (zrecv hK hW (zvd_0 (by decide) (by decide)) (ze_0_6 B _ (0)) rfl) ⟨rfl, rfl, by decide, by decide⟩ ⟨Nat.zero_le _, Nat.zero_le _⟩ rfl hl.1 rfl (lv_room (Nat.le_of_ble_eq_true rfl)) zd_O_skill_8 (fun na1 H locs hW hS => ?_)
  refine zr_if_eq (tgt := 24) C na1 zd_O_skill_11 (by decide) (fun c3 => ?_) (fun c3 => ?_)
  · rw [if_pos c3] at hf
    refine zr_iconst C zd_O_skill_24 ?_
    cases hf
    exact zre_i C hr hlk hK hW hS (znb rfl) zd_O_skill_25
  · rw [if_neg c3] at hf
    refine lv_iload_n C.1 C.2.1 zd_O_skill_14 rfl (lv_at hl 2 rfl) ?_
    refine zr_if_lt (tgt := 24) C nx2 zd_O_skill_15 (by decide) (fun c4 => ?_) (fun c4 => ?_)
    · rw [if_pos c4] at hf
      refine zr_iconst C zd_O_skill_24 ?_
      cases hf
      exact zre_i C hr hlk hK hW hS (znb rfl) zd_O_skill_25
    · rw [if_neg c4] at hf
      refine lv_iload_n C.1 C.2.1 zd_O_skill_18 rfl (lv_at hl 2 rfl) ?_
      refine zr_bipush C zd_O_skill_19 (by decide) ?_
      refine zr_icmp_lt (tgt := 26) C nx2 (znb rfl) zd_O_skill_21 (by decide) (fun c5 => ?_) (fun c5 => ?_)
      · rw [if_pos c5] at hf
        refine lv_aload_n C.1 C.2.1 zd_O_skill_26 rfl (lv_at hl 0 rfl) ?_
        refine zg_O_now (r := 0) C hK hW (zvd_3 (by decide) (by decide)) zk_492 zd_O_skill_27 ?_
        refine zg_I_people (r := 0) C hK hW (zvd_0 (by decide) (by decide)) zk_280 zd_O_skill_30 ?_
        refine zg_P_state (r := 0) C hK hW (zvd_0 (by decide) (by decide)) zk_73 zd_O_skill_33 ?_
        refine lv_iload_n C.1 C.2.1 zd_O_skill_36 rfl (lv_at hl 1 rfl) ?_
        obtain ⟨h6, hf⟩ := zck_some hf
        refine ziald C hK hW (zvd_0 (by decide) (by decide)) (fun f => ze_0_11 B f (0)) (by decide) h6 zd_O_skill_37 ?_
        refine zr_iconst C zd_O_skill_38 ?_
        refine zr_icmp_ne (tgt := 45) C (zWn hW _ _ _ _ rfl) (znb rfl) zd_O_skill_39 (by decide) (fun c7 => ?_) (fun c7 => ?_)
        · rw [if_neg c7] at hf
          refine lv_aload_n C.1 C.2.1 zd_O_skill_45 rfl (lv_at hl 0 rfl) ?_
          refine zg_O_now (r := 0) C hK hW (zvd_3 (by decide) (by decide)) zk_492 zd_O_skill_46 ?_
          refine zg_I_people (r := 0) C hK hW (zvd_0 (by decide) (by decide)) zk_280 zd_O_skill_49 ?_
          refine zg_P_skills (r := 0) C hK hW (zvd_0 (by decide) (by decide)) zk_69 zd_O_skill_52 ?_
          refine lv_iload_n C.1 C.2.1 zd_O_skill_55 rfl (lv_at hl 1 rfl) ?_
          refine ziald C hK hW (zvd_0 (by decide) (by decide)) (fun f => ze_0_10 B f (0)) (by decide) h6 zd_O_skill_56 ?_
          obtain ⟨v8, ev8, hf⟩ := zlt_some hf
          have nv8 : zn v8 := by rw [← ev8]; exact (zWn hW _ _ _ _ rfl)
          rw [ev8]
          refine lv_istore (lv' := [(4, .int (zI (v8))), (0, .ref (B.2.1 3 (0) (0))), (1, .int (zI (x1))), (2, .int (zI (x2))), (3, .int (zI (x3)))]) C.1 C.2.1 zd_O_skill_57 hl (by decide) rfl (fun ls hl => ?_)
          refine zr_iconst C zd_O_skill_59 ?_
          refine lv_iload_n C.1 C.2.1 zd_O_skill_60 rfl (lv_at hl 3 rfl) ?_
          refine zr_ishl C zd_O_skill_61 ?_
          obtain ⟨v9, ev9, hf⟩ := zlt_some hf
          have nv9 : zn v9 := by rw [← ev9]; exact (zn_shl _ _)
          rw [ev9]
          refine lv_istore (lv' := [(5, .int (zI (v9))), (4, .int (zI (v8))), (0, .ref (B.2.1 3 (0) (0))), (1, .int (zI (x1))), (2, .int (zI (x2))), (3, .int (zI (x3)))]) C.1 C.2.1 zd_O_skill_62 hl (by decide) rfl (fun ls hl => ?_)
          refine lv_iload_n C.1 C.2.1 zd_O_skill_64 rfl (lv_at hl 5 rfl) ?_
          refine zr_if_eq (tgt := 76) C nx3 zd_O_skill_65 (by decide) (fun c10 => ?_) (fun c10 => ?_)
          · rw [if_pos c10] at hf
            refine lv_iload C.1 C.2.1 zd_O_skill_76 (lv_at hl 1 rfl) ?_
            refine lv_iload C.1 C.2.1 zd_O_skill_78 (lv_at hl 0 rfl) ?_
            refine zr_iconst C zd_O_skill_80 ?_
            refine zr_ixor C zd_O_skill_81 ?_
            refine zr_iand C zd_O_skill_82 ?_
            exact zw_O_skill_83 C hr hlk hK hSt hap   (x1) (v8) (zand v8 (zxor v9 (-1))) S2 nx1 nv8 (zn_and _ _) hf _ _ _ hW hS (lv_sub hl [2, 3, 1] rfl)
          · rw [if_neg c10] at hf
            refine lv_iload C.1 C.2.1 zd_O_skill_68 (lv_at hl 1 rfl) ?_
            refine lv_iload C.1 C.2.1 zd_O_skill_70 (lv_at hl 0 rfl) ?_
            refine zr_ior C zd_O_skill_72 ?_
            refine lv_goto (tgt := 83) C.1 C.2.1 zd_O_skill_73 (by decide) ?_
            exact zw_O_skill_83 C hr hlk hK hSt hap   (x1) (v8) (zor v8 v9) S2 nx1 nv8 (zn_or _ _) hf _ _ _ hW hS (lv_sub hl [2, 3, 1] rfl)
        · rw [if_pos c7] at hf
          refine zr_bipush C zd_O_skill_42 (by decide) ?_
          cases hf
          exact zre_i C hr hlk hK hW hS (znb rfl) zd_O_skill_44
      · rw [if_neg c5] at hf
        refine zr_iconst C zd_O_skill_24 ?_
        cases hf
        exact zre_i C hr hlk hK hW hS (znb rfl) zd_O_skill_25

theorem zc_O_skill {l : Launch} {B : zB} (hap : zAp B) (x1 : Int) (x2 : Int) (x3 : Int) (S : Sg) (nx1 : zn x1) (nx2 : zn x2) (nx3 : zn x3) {res : Int} {S9 : Sg} (hf : zf_O_skill x1 x2 x3 S = some (res, S9)) : Met l zy_O_skill (Cond.code zy_O_skill zb_O_skill 7 (some .int) :: zT) zm_O_skill (zP B S [.ref (B.2.1 3 (0) (0)), .int (zI (x1)), .int (zI (x2)), .int (zI (x3))]) (zQi B res S9) 0 0 B.2.2.2 :=
  zmet (by decide) (Nat.le_of_ble_eq_true rfl) (fun p e s m args below meth c C hr hlk hK hSt hW ls hl => zw_O_skill C hr hlk hK hSt hap   x1 x2 x3 S nx1 nx2 nx3 hf _ _ _ hW va_S.rf hl)
/-! IslandOffice.move(II)I -/
abbrev zy_O_move : MethodName := ⟨"IslandOffice", "move", "(II)I"⟩
abbrev zb_O_move : ByteArray := prog_1_method_8_code
abbrev zm_O_move : Room := { frames := 1, cells := 0, slots := 0, locals := 21 }
theorem zq_O_move : zMy zy_O_move zb_O_move 4 (some .int) 2 := ⟨zk_576, zk_574, zk_575, zk_1, by decide, by decide, by decide +kernel⟩
theorem zd_O_move_0 : decode zb_O_move 0 = .ok (.aload_n 0, 1) := by decide +kernel
theorem zd_O_move_1 : decode zb_O_move 1 = .ok (.getfield 16, 3) := by decide +kernel
theorem zd_O_move_4 : decode zb_O_move 4 = .ok (.getfield 81, 3) := by decide +kernel
theorem zd_O_move_7 : decode zb_O_move 7 = .ok (.iload_n 1, 1) := by decide +kernel
theorem zd_O_move_8 : decode zb_O_move 8 = .ok (.invokevirtual 85, 3) := by decide +kernel
theorem zd_O_move_11 : decode zb_O_move 11 = .ok (.ifCond .eq 10, 3) := by decide +kernel
theorem zd_O_move_14 : decode zb_O_move 14 = .ok (.iload_n 2, 1) := by decide +kernel
theorem zd_O_move_15 : decode zb_O_move 15 = .ok (.invokestatic 75, 3) := by decide +kernel
theorem zd_O_move_18 : decode zb_O_move 18 = .ok (.ifCond .ne 5, 3) := by decide +kernel
theorem zd_O_move_21 : decode zb_O_move 21 = .ok (.iconst (-1), 1) := by decide +kernel
theorem zd_O_move_22 : decode zb_O_move 22 = .ok (.ireturn, 1) := by decide +kernel
theorem zd_O_move_23 : decode zb_O_move 23 = .ok (.aload_n 0, 1) := by decide +kernel
theorem zd_O_move_24 : decode zb_O_move 24 = .ok (.getfield 16, 3) := by decide +kernel
theorem zd_O_move_27 : decode zb_O_move 27 = .ok (.getfield 81, 3) := by decide +kernel
theorem zd_O_move_30 : decode zb_O_move 30 = .ok (.getfield 108, 3) := by decide +kernel
theorem zd_O_move_33 : decode zb_O_move 33 = .ok (.iload_n 1, 1) := by decide +kernel
theorem zd_O_move_34 : decode zb_O_move 34 = .ok (.iaload, 1) := by decide +kernel
theorem zd_O_move_35 : decode zb_O_move 35 = .ok (.ifCond .eq 6, 3) := by decide +kernel
theorem zd_O_move_38 : decode zb_O_move 38 = .ok (.bipush (-3), 2) := by decide +kernel
theorem zd_O_move_40 : decode zb_O_move 40 = .ok (.ireturn, 1) := by decide +kernel
theorem zd_O_move_41 : decode zb_O_move 41 = .ok (.aload_n 0, 1) := by decide +kernel
theorem zd_O_move_42 : decode zb_O_move 42 = .ok (.getfield 16, 3) := by decide +kernel
theorem zd_O_move_45 : decode zb_O_move 45 = .ok (.getfield 81, 3) := by decide +kernel
theorem zd_O_move_48 : decode zb_O_move 48 = .ok (.getfield 105, 3) := by decide +kernel
theorem zd_O_move_51 : decode zb_O_move 51 = .ok (.iload_n 1, 1) := by decide +kernel
theorem zd_O_move_52 : decode zb_O_move 52 = .ok (.iaload, 1) := by decide +kernel
theorem zd_O_move_53 : decode zb_O_move 53 = .ok (.istore_n 3, 1) := by decide +kernel
theorem zd_O_move_54 : decode zb_O_move 54 = .ok (.aload_n 0, 1) := by decide +kernel
theorem zd_O_move_55 : decode zb_O_move 55 = .ok (.getfield 16, 3) := by decide +kernel
theorem zd_O_move_58 : decode zb_O_move 58 = .ok (.getfield 81, 3) := by decide +kernel
theorem zd_O_move_61 : decode zb_O_move 61 = .ok (.getfield 105, 3) := by decide +kernel
theorem zd_O_move_64 : decode zb_O_move 64 = .ok (.iload_n 1, 1) := by decide +kernel
theorem zd_O_move_65 : decode zb_O_move 65 = .ok (.iload_n 2, 1) := by decide +kernel
theorem zd_O_move_66 : decode zb_O_move 66 = .ok (.iastore, 1) := by decide +kernel
theorem zd_O_move_67 : decode zb_O_move 67 = .ok (.iload_n 3, 1) := by decide +kernel
theorem zd_O_move_68 : decode zb_O_move 68 = .ok (.ireturn, 1) := by decide +kernel

def zf_O_move (x1 : Int) (x2 : Int) (S : Sg) : Option (Int × Sg) :=
    zbd (zf_P_has (0) x1 S) fun a1 S2 => if a1 = 0 then (some (-1, S2)) else (zbd (zf_O_isHouse x2 S2) fun a4 S5 => if a4 = 0 then (some (-1, S5)) else (zck (0 ≤ x1 ∧ x1 < 40) <| if (S5 0 0 11 x1) = 0 then (zlt (S5 0 0 8 x1) fun v9 => zlt (zu S5 0 0 8 x1 x2) fun S10 => some (v9, S10)) else (some (-3, S5))))
set_option maxHeartbeats 4000000 in
set_option maxRecDepth 100000 in
theorem zw_O_move {p : Program} {l : Launch} {e : Env} {s : State} {m : MethodId} {args : Array Value} {below : List Frame} {meth : Method} {c : Code} {B : zB} (C : CallFix p m c zb_O_move 4 s args zT "IslandOffice") (hr : meth.sig.returnType = some .int) (hlk : meth.locks = false) (hK : zK B s) (hSt : zSt B s) (hap : zAp B) {res : Int} {S9 : Sg} : ∀ (x1 : Int) (x2 : Int) (S : Sg) (nx1 : zn x1) (nx2 : zn x2), zf_O_move x1 x2 S = some (res, S9) → ∀ (H : Heap) (locs : List Loc) (ls : Array Slot), zW B S H → va_S B.2.2.2 s.heap H locs → lv_has ls 4 [(0, .ref (B.2.1 3 (0) (0))), (1, .int (zI (x1))), (2, .int (zI (x2)))] → W p l e zm_O_move s m args below meth c H locs 0 0 (MQ below (zQi B res S9) args s 0 0 B.2.2.2) (F0 m 0 ls []) := by
  intro x1 x2 S nx1 nx2 hf H locs ls hW hS hl
  unfold zf_O_move at hf
  refine lv_aload_n C.1 C.2.1 zd_O_move_0 rfl (lv_at hl 0 rfl) ?_
  refine zg_O_now (r := 0) C hK hW (zvd_3 (by decide) (by decide)) zk_492 zd_O_move_1 ?_
  refine zg_I_people (r := 0) C hK hW (zvd_0 (by decide) (by decide)) zk_280 zd_O_move_4 ?_
  refine lv_iload_n C.1 C.2.1 zd_O_move_7 rfl (lv_at hl 1 rfl) ?_
  obtain ⟨a1, S2, ea1, hf⟩ := zbd_some hf
  refine zcVi (As := [.int (zI (x1))]) (rest := []) C hK hSt hW hS (zc_P_has hap (0) (by decide) x1 S nx1 ea1) zq_P_has zk_537 (zrecv hK hW (zvd_0 (by decide) (by decide)) (ze_0_6 B _ (0)) rfl) ⟨rfl, rfl, by decide, by decide⟩ ⟨Nat.zero_le _, Nat.zero_le _⟩ rfl hl.1 rfl (lv_room (Nat.le_of_ble_eq_true rfl)) zd_O_move_8 (fun na1 H locs hW hS => ?_)
  refine zr_if_eq (tgt := 21) C na1 zd_O_move_11 (by decide) (fun c3 => ?_) (fun c3 => ?_)
  · rw [if_pos c3] at hf
    refine zr_iconst C zd_O_move_21 ?_
    cases hf
    exact zre_i C hr hlk hK hW hS (znb rfl) zd_O_move_22
  · rw [if_neg c3] at hf
    refine lv_iload_n C.1 C.2.1 zd_O_move_14 rfl (lv_at hl 2 rfl) ?_
    obtain ⟨a4, S5, ea4, hf⟩ := zbd_some hf
    refine zcSi (As := [.int (zI (x2))]) (rest := []) C hK hSt hW hS (zc_O_isHouse hap x2 S2 nx2 ea4) zq_O_isHouse zk_531 ⟨rfl, rfl, by decide, by decide⟩ ⟨Nat.zero_le _, Nat.zero_le _⟩ rfl hl.1 rfl (lv_room (Nat.le_of_ble_eq_true rfl)) zd_O_move_15 (fun na4 H locs hW hS => ?_)
    refine zr_if_ne (tgt := 23) C na4 zd_O_move_18 (by decide) (fun c6 => ?_) (fun c6 => ?_)
    · rw [if_neg c6] at hf
      refine lv_aload_n C.1 C.2.1 zd_O_move_23 rfl (lv_at hl 0 rfl) ?_
      refine zg_O_now (r := 0) C hK hW (zvd_3 (by decide) (by decide)) zk_492 zd_O_move_24 ?_
      refine zg_I_people (r := 0) C hK hW (zvd_0 (by decide) (by decide)) zk_280 zd_O_move_27 ?_
      refine zg_P_state (r := 0) C hK hW (zvd_0 (by decide) (by decide)) zk_73 zd_O_move_30 ?_
      refine lv_iload_n C.1 C.2.1 zd_O_move_33 rfl (lv_at hl 1 rfl) ?_
      obtain ⟨h7, hf⟩ := zck_some hf
      refine ziald C hK hW (zvd_0 (by decide) (by decide)) (fun f => ze_0_11 B f (0)) (by decide) h7 zd_O_move_34 ?_
      refine zr_if_eq (tgt := 41) C (zWn hW _ _ _ _ rfl) zd_O_move_35 (by decide) (fun c8 => ?_) (fun c8 => ?_)
      · rw [if_pos c8] at hf
        refine lv_aload_n C.1 C.2.1 zd_O_move_41 rfl (lv_at hl 0 rfl) ?_
        refine zg_O_now (r := 0) C hK hW (zvd_3 (by decide) (by decide)) zk_492 zd_O_move_42 ?_
        refine zg_I_people (r := 0) C hK hW (zvd_0 (by decide) (by decide)) zk_280 zd_O_move_45 ?_
        refine zg_P_house (r := 0) C hK hW (zvd_0 (by decide) (by decide)) zk_60 zd_O_move_48 ?_
        refine lv_iload_n C.1 C.2.1 zd_O_move_51 rfl (lv_at hl 1 rfl) ?_
        refine ziald C hK hW (zvd_0 (by decide) (by decide)) (fun f => ze_0_8 B f (0)) (by decide) h7 zd_O_move_52 ?_
        obtain ⟨v9, ev9, hf⟩ := zlt_some hf
        have nv9 : zn v9 := by rw [← ev9]; exact (zWn hW _ _ _ _ rfl)
        rw [ev9]
        refine lv_istore_n (lv' := [(3, .int (zI (v9))), (0, .ref (B.2.1 3 (0) (0))), (1, .int (zI (x1))), (2, .int (zI (x2)))]) C.1 C.2.1 zd_O_move_53 rfl hl (by decide) rfl (fun ls hl => ?_)
        refine lv_aload_n C.1 C.2.1 zd_O_move_54 rfl (lv_at hl 1 rfl) ?_
        refine zg_O_now (r := 0) C hK hW (zvd_3 (by decide) (by decide)) zk_492 zd_O_move_55 ?_
        refine zg_I_people (r := 0) C hK hW (zvd_0 (by decide) (by decide)) zk_280 zd_O_move_58 ?_
        refine zg_P_house (r := 0) C hK hW (zvd_0 (by decide) (by decide)) zk_60 zd_O_move_61 ?_
        refine lv_iload_n C.1 C.2.1 zd_O_move_64 rfl (lv_at hl 2 rfl) ?_
        refine lv_iload_n C.1 C.2.1 zd_O_move_65 rfl (lv_at hl 3 rfl) ?_
        obtain ⟨S10, eS10, hf⟩ := zlt_some hf
        refine ziast C hK hap hW hS (zvd_0 (by decide) (by decide)) (fun f => ze_0_8 B f (0)) (by decide) rfl nx2 h7 zd_O_move_66 (fun H locs hW hS => ?_)
        rw [eS10] at hW
        refine lv_iload_n C.1 C.2.1 zd_O_move_67 rfl (lv_at hl 0 rfl) ?_
        cases hf
        exact zre_i C hr hlk hK hW hS nv9 zd_O_move_68
      · rw [if_neg c8] at hf
        refine zr_bipush C zd_O_move_38 (by decide) ?_
        cases hf
        exact zre_i C hr hlk hK hW hS (znb rfl) zd_O_move_40
    · rw [if_pos c6] at hf
      refine zr_iconst C zd_O_move_21 ?_
      cases hf
      exact zre_i C hr hlk hK hW hS (znb rfl) zd_O_move_22

theorem zc_O_move {l : Launch} {B : zB} (hap : zAp B) (x1 : Int) (x2 : Int) (S : Sg) (nx1 : zn x1) (nx2 : zn x2) {res : Int} {S9 : Sg} (hf : zf_O_move x1 x2 S = some (res, S9)) : Met l zy_O_move (Cond.code zy_O_move zb_O_move 4 (some .int) :: zT) zm_O_move (zP B S [.ref (B.2.1 3 (0) (0)), .int (zI (x1)), .int (zI (x2))]) (zQi B res S9) 0 0 B.2.2.2 :=
  zmet (by decide) (Nat.le_of_ble_eq_true rfl) (fun p e s m args below meth c C hr hlk hK hSt hW ls hl => zw_O_move C hr hlk hK hSt hap   x1 x2 S nx1 nx2 hf _ _ _ hW va_S.rf hl)
/-! IslandOffice.house(III)I -/
abbrev zy_O_house : MethodName := ⟨"IslandOffice", "house", "(III)I"⟩
abbrev zb_O_house : ByteArray := prog_1_method_9_code
abbrev zm_O_house : Room := { frames := 1, cells := 0, slots := 0, locals := 20 }
theorem zq_O_house : zMy zy_O_house zb_O_house 5 (some .int) 3 := ⟨zk_580, zk_578, zk_579, zk_1, by decide, by decide, by decide +kernel⟩
theorem zd_O_house_0 : decode zb_O_house 0 = .ok (.iload_n 1, 1) := by decide +kernel
theorem zd_O_house_1 : decode zb_O_house 1 = .ok (.invokestatic 75, 3) := by decide +kernel
theorem zd_O_house_4 : decode zb_O_house 4 = .ok (.ifCond .eq 24, 3) := by decide +kernel
theorem zd_O_house_7 : decode zb_O_house 7 = .ok (.iload_n 2, 1) := by decide +kernel
theorem zd_O_house_8 : decode zb_O_house 8 = .ok (.ifCond .lt 20, 3) := by decide +kernel
theorem zd_O_house_11 : decode zb_O_house 11 = .ok (.iload_n 2, 1) := by decide +kernel
theorem zd_O_house_12 : decode zb_O_house 12 = .ok (.bipush 20, 2) := by decide +kernel
theorem zd_O_house_14 : decode zb_O_house 14 = .ok (.if_icmp .gt 14, 3) := by decide +kernel
theorem zd_O_house_17 : decode zb_O_house 17 = .ok (.iload_n 3, 1) := by decide +kernel
theorem zd_O_house_18 : decode zb_O_house 18 = .ok (.iconst 1, 1) := by decide +kernel
theorem zd_O_house_19 : decode zb_O_house 19 = .ok (.if_icmp .lt 9, 3) := by decide +kernel
theorem zd_O_house_22 : decode zb_O_house 22 = .ok (.iload_n 3, 1) := by decide +kernel
theorem zd_O_house_23 : decode zb_O_house 23 = .ok (.bipush 9, 2) := by decide +kernel
theorem zd_O_house_25 : decode zb_O_house 25 = .ok (.if_icmp .le 5, 3) := by decide +kernel
theorem zd_O_house_28 : decode zb_O_house 28 = .ok (.iconst (-1), 1) := by decide +kernel
theorem zd_O_house_29 : decode zb_O_house 29 = .ok (.ireturn, 1) := by decide +kernel
theorem zd_O_house_30 : decode zb_O_house 30 = .ok (.aload_n 0, 1) := by decide +kernel
theorem zd_O_house_31 : decode zb_O_house 31 = .ok (.getfield 16, 3) := by decide +kernel
theorem zd_O_house_34 : decode zb_O_house 34 = .ok (.getfield 120, 3) := by decide +kernel
theorem zd_O_house_37 : decode zb_O_house 37 = .ok (.iload_n 1, 1) := by decide +kernel
theorem zd_O_house_38 : decode zb_O_house 38 = .ok (.iaload, 1) := by decide +kernel
theorem zd_O_house_39 : decode zb_O_house 39 = .ok (.iload_n 2, 1) := by decide +kernel
theorem zd_O_house_40 : decode zb_O_house 40 = .ok (.if_icmp .ne 16, 3) := by decide +kernel
theorem zd_O_house_43 : decode zb_O_house 43 = .ok (.aload_n 0, 1) := by decide +kernel
theorem zd_O_house_44 : decode zb_O_house 44 = .ok (.getfield 16, 3) := by decide +kernel
theorem zd_O_house_47 : decode zb_O_house 47 = .ok (.getfield 123, 3) := by decide +kernel
theorem zd_O_house_50 : decode zb_O_house 50 = .ok (.iload_n 1, 1) := by decide +kernel
theorem zd_O_house_51 : decode zb_O_house 51 = .ok (.iaload, 1) := by decide +kernel
theorem zd_O_house_52 : decode zb_O_house 52 = .ok (.iload_n 3, 1) := by decide +kernel
theorem zd_O_house_53 : decode zb_O_house 53 = .ok (.if_icmp .eq 7, 3) := by decide +kernel
theorem zd_O_house_56 : decode zb_O_house 56 = .ok (.iconst 1, 1) := by decide +kernel
theorem zd_O_house_57 : decode zb_O_house 57 = .ok (.goto 4, 3) := by decide +kernel
theorem zd_O_house_60 : decode zb_O_house 60 = .ok (.iconst 0, 1) := by decide +kernel
theorem zd_O_house_61 : decode zb_O_house 61 = .ok (.istore 4, 2) := by decide +kernel
theorem zd_O_house_63 : decode zb_O_house 63 = .ok (.aload_n 0, 1) := by decide +kernel
theorem zd_O_house_64 : decode zb_O_house 64 = .ok (.getfield 16, 3) := by decide +kernel
theorem zd_O_house_67 : decode zb_O_house 67 = .ok (.getfield 120, 3) := by decide +kernel
theorem zd_O_house_70 : decode zb_O_house 70 = .ok (.iload_n 1, 1) := by decide +kernel
theorem zd_O_house_71 : decode zb_O_house 71 = .ok (.iload_n 2, 1) := by decide +kernel
theorem zd_O_house_72 : decode zb_O_house 72 = .ok (.iastore, 1) := by decide +kernel
theorem zd_O_house_73 : decode zb_O_house 73 = .ok (.aload_n 0, 1) := by decide +kernel
theorem zd_O_house_74 : decode zb_O_house 74 = .ok (.getfield 16, 3) := by decide +kernel
theorem zd_O_house_77 : decode zb_O_house 77 = .ok (.getfield 123, 3) := by decide +kernel
theorem zd_O_house_80 : decode zb_O_house 80 = .ok (.iload_n 1, 1) := by decide +kernel
theorem zd_O_house_81 : decode zb_O_house 81 = .ok (.iload_n 3, 1) := by decide +kernel
theorem zd_O_house_82 : decode zb_O_house 82 = .ok (.iastore, 1) := by decide +kernel
theorem zd_O_house_83 : decode zb_O_house 83 = .ok (.iload 4, 2) := by decide +kernel
theorem zd_O_house_85 : decode zb_O_house 85 = .ok (.ifCond .eq 7, 3) := by decide +kernel
theorem zd_O_house_88 : decode zb_O_house 88 = .ok (.iconst 1, 1) := by decide +kernel
theorem zd_O_house_89 : decode zb_O_house 89 = .ok (.goto 4, 3) := by decide +kernel
theorem zd_O_house_92 : decode zb_O_house 92 = .ok (.iconst 0, 1) := by decide +kernel
theorem zd_O_house_93 : decode zb_O_house 93 = .ok (.ireturn, 1) := by decide +kernel

def zf_O_house_61 (x1 : Int) (x2 : Int) (x3 : Int) (xt0 : Int) (S : Sg) : Option (Int × Sg) :=
    zck (0 ≤ x1 ∧ x1 < 12) <| zlt (zu S 0 0 2 x1 x2) fun S2 => zlt (zu S2 0 0 4 x1 x3) fun S3 => if xt0 = 0 then (some (0, S3)) else (some (1, S3))
set_option maxHeartbeats 4000000 in
set_option maxRecDepth 100000 in
theorem zw_O_house_61 {p : Program} {l : Launch} {e : Env} {s : State} {m : MethodId} {args : Array Value} {below : List Frame} {meth : Method} {c : Code} {B : zB} (C : CallFix p m c zb_O_house 5 s args zT "IslandOffice") (hr : meth.sig.returnType = some .int) (hlk : meth.locks = false) (hK : zK B s) (hSt : zSt B s) (hap : zAp B) {res : Int} {S9 : Sg} : ∀ (x1 : Int) (x2 : Int) (x3 : Int) (xt0 : Int) (S : Sg) (nx1 : zn x1) (nx2 : zn x2) (nx3 : zn x3) (nxt0 : zn xt0), zf_O_house_61 x1 x2 x3 xt0 S = some (res, S9) → ∀ (H : Heap) (locs : List Loc) (ls : Array Slot), zW B S H → va_S B.2.2.2 s.heap H locs → lv_has ls 5 [(0, .ref (B.2.1 3 (0) (0))), (1, .int (zI (x1))), (2, .int (zI (x2))), (3, .int (zI (x3)))] → W p l e zm_O_house s m args below meth c H locs 0 0 (MQ below (zQi B res S9) args s 0 0 B.2.2.2) (F0 m 61 ls [.int (zI (xt0))]) := by
  intro x1 x2 x3 xt0 S nx1 nx2 nx3 nxt0 hf H locs ls hW hS hl
  unfold zf_O_house_61 at hf
  refine lv_istore (lv' := [(4, .int (zI (xt0))), (0, .ref (B.2.1 3 (0) (0))), (1, .int (zI (x1))), (2, .int (zI (x2))), (3, .int (zI (x3)))]) C.1 C.2.1 zd_O_house_61 hl (by decide) rfl (fun ls hl => ?_)
  refine lv_aload_n C.1 C.2.1 zd_O_house_63 rfl (lv_at hl 1 rfl) ?_
  refine zg_O_now (r := 0) C hK hW (zvd_3 (by decide) (by decide)) zk_492 zd_O_house_64 ?_
  refine zg_I_cattle (r := 0) C hK hW (zvd_0 (by decide) (by decide)) zk_268 zd_O_house_67 ?_
  refine lv_iload_n C.1 C.2.1 zd_O_house_70 rfl (lv_at hl 2 rfl) ?_
  refine lv_iload_n C.1 C.2.1 zd_O_house_71 rfl (lv_at hl 3 rfl) ?_
  obtain ⟨h1, hf⟩ := zck_some hf
  obtain ⟨S2, eS2, hf⟩ := zlt_some hf
  refine ziast C hK hap hW hS (zvd_0 (by decide) (by decide)) (fun f => ze_0_2 B f (0)) (by decide) rfl nx2 h1 zd_O_house_72 (fun H locs hW hS => ?_)
  rw [eS2] at hW
  refine lv_aload_n C.1 C.2.1 zd_O_house_73 rfl (lv_at hl 1 rfl) ?_
  refine zg_O_now (r := 0) C hK hW (zvd_3 (by decide) (by decide)) zk_492 zd_O_house_74 ?_
  refine zg_I_roof (r := 0) C hK hW (zvd_0 (by decide) (by decide)) zk_274 zd_O_house_77 ?_
  refine lv_iload_n C.1 C.2.1 zd_O_house_80 rfl (lv_at hl 2 rfl) ?_
  refine lv_iload_n C.1 C.2.1 zd_O_house_81 rfl (lv_at hl 4 rfl) ?_
  obtain ⟨S3, eS3, hf⟩ := zlt_some hf
  refine ziast C hK hap hW hS (zvd_0 (by decide) (by decide)) (fun f => ze_0_4 B f (0)) (by decide) rfl nx3 h1 zd_O_house_82 (fun H locs hW hS => ?_)
  rw [eS3] at hW
  refine lv_iload C.1 C.2.1 zd_O_house_83 (lv_at hl 0 rfl) ?_
  refine zr_if_eq (tgt := 92) C nxt0 zd_O_house_85 (by decide) (fun c4 => ?_) (fun c4 => ?_)
  · rw [if_pos c4] at hf
    refine zr_iconst C zd_O_house_92 ?_
    cases hf
    exact zre_i C hr hlk hK hW hS (znb rfl) zd_O_house_93
  · rw [if_neg c4] at hf
    refine zr_iconst C zd_O_house_88 ?_
    refine lv_goto (tgt := 93) C.1 C.2.1 zd_O_house_89 (by decide) ?_
    cases hf
    exact zre_i C hr hlk hK hW hS (znb rfl) zd_O_house_93

def zf_O_house_56 (x1 : Int) (x2 : Int) (x3 : Int) (S : Sg) : Option (Int × Sg) :=
    zf_O_house_61 (x1) (x2) (x3) (1) S
set_option maxHeartbeats 4000000 in
set_option maxRecDepth 100000 in
theorem zw_O_house_56 {p : Program} {l : Launch} {e : Env} {s : State} {m : MethodId} {args : Array Value} {below : List Frame} {meth : Method} {c : Code} {B : zB} (C : CallFix p m c zb_O_house 5 s args zT "IslandOffice") (hr : meth.sig.returnType = some .int) (hlk : meth.locks = false) (hK : zK B s) (hSt : zSt B s) (hap : zAp B) {res : Int} {S9 : Sg} : ∀ (x1 : Int) (x2 : Int) (x3 : Int) (S : Sg) (nx1 : zn x1) (nx2 : zn x2) (nx3 : zn x3), zf_O_house_56 x1 x2 x3 S = some (res, S9) → ∀ (H : Heap) (locs : List Loc) (ls : Array Slot), zW B S H → va_S B.2.2.2 s.heap H locs → lv_has ls 5 [(0, .ref (B.2.1 3 (0) (0))), (1, .int (zI (x1))), (2, .int (zI (x2))), (3, .int (zI (x3)))] → W p l e zm_O_house s m args below meth c H locs 0 0 (MQ below (zQi B res S9) args s 0 0 B.2.2.2) (F0 m 56 ls []) := by
  intro x1 x2 x3 S nx1 nx2 nx3 hf H locs ls hW hS hl
  unfold zf_O_house_56 at hf
  refine zr_iconst C zd_O_house_56 ?_
  refine lv_goto (tgt := 61) C.1 C.2.1 zd_O_house_57 (by decide) ?_
  exact zw_O_house_61 C hr hlk hK hSt hap   (x1) (x2) (x3) (1) S nx1 nx2 nx3 (znb rfl) hf _ _ _ hW hS (lv_sub hl [0, 1, 2, 3] rfl)

def zf_O_house (x1 : Int) (x2 : Int) (x3 : Int) (S : Sg) : Option (Int × Sg) :=
    zbd (zf_O_isHouse x1 S) fun a1 S2 => if a1 = 0 then (some (-1, S2)) else (if x2 < 0 then (some (-1, S2)) else (if 20 < x2 then (some (-1, S2)) else (if x3 < 1 then (some (-1, S2)) else (if x3 ≤ 9 then (zck (0 ≤ x1 ∧ x1 < 12) <| if (S2 0 0 2 x1) = x2 then (if (S2 0 0 4 x1) = x3 then (zf_O_house_61 (x1) (x2) (x3) (0) S2) else (zf_O_house_56 (x1) (x2) (x3) S2)) else (zf_O_house_56 (x1) (x2) (x3) S2)) else (some (-1, S2))))))
set_option maxHeartbeats 4000000 in
set_option maxRecDepth 100000 in
theorem zw_O_house {p : Program} {l : Launch} {e : Env} {s : State} {m : MethodId} {args : Array Value} {below : List Frame} {meth : Method} {c : Code} {B : zB} (C : CallFix p m c zb_O_house 5 s args zT "IslandOffice") (hr : meth.sig.returnType = some .int) (hlk : meth.locks = false) (hK : zK B s) (hSt : zSt B s) (hap : zAp B) {res : Int} {S9 : Sg} : ∀ (x1 : Int) (x2 : Int) (x3 : Int) (S : Sg) (nx1 : zn x1) (nx2 : zn x2) (nx3 : zn x3), zf_O_house x1 x2 x3 S = some (res, S9) → ∀ (H : Heap) (locs : List Loc) (ls : Array Slot), zW B S H → va_S B.2.2.2 s.heap H locs → lv_has ls 5 [(0, .ref (B.2.1 3 (0) (0))), (1, .int (zI (x1))), (2, .int (zI (x2))), (3, .int (zI (x3)))] → W p l e zm_O_house s m args below meth c H locs 0 0 (MQ below (zQi B res S9) args s 0 0 B.2.2.2) (F0 m 0 ls []) := by
  intro x1 x2 x3 S nx1 nx2 nx3 hf H locs ls hW hS hl
  unfold zf_O_house at hf
  refine lv_iload_n C.1 C.2.1 zd_O_house_0 rfl (lv_at hl 1 rfl) ?_
  obtain ⟨a1, S2, ea1, hf⟩ := zbd_some hf
  refine zcSi (As := [.int (zI (x1))]) (rest := []) C hK hSt hW hS (zc_O_isHouse hap x1 S nx1 ea1) zq_O_isHouse zk_531 ⟨rfl, rfl, by decide, by decide⟩ ⟨Nat.zero_le _, Nat.zero_le _⟩ rfl hl.1 rfl (lv_room (Nat.le_of_ble_eq_true rfl)) zd_O_house_1 (fun na1 H locs hW hS => ?_)
  refine zr_if_eq (tgt := 28) C na1 zd_O_house_4 (by decide) (fun c3 => ?_) (fun c3 => ?_)
  · rw [if_pos c3] at hf
    refine zr_iconst C zd_O_house_28 ?_
    cases hf
    exact zre_i C hr hlk hK hW hS (znb rfl) zd_O_house_29
  · rw [if_neg c3] at hf
    refine lv_iload_n C.1 C.2.1 zd_O_house_7 rfl (lv_at hl 2 rfl) ?_
    refine zr_if_lt (tgt := 28) C nx2 zd_O_house_8 (by decide) (fun c4 => ?_) (fun c4 => ?_)
    · rw [if_pos c4] at hf
      refine zr_iconst C zd_O_house_28 ?_
      cases hf
      exact zre_i C hr hlk hK hW hS (znb rfl) zd_O_house_29
    · rw [if_neg c4] at hf
      refine lv_iload_n C.1 C.2.1 zd_O_house_11 rfl (lv_at hl 2 rfl) ?_
      refine zr_bipush C zd_O_house_12 (by decide) ?_
      refine zr_icmp_gt (tgt := 28) C nx2 (znb rfl) zd_O_house_14 (by decide) (fun c5 => ?_) (fun c5 => ?_)
      · rw [if_pos c5] at hf
        refine zr_iconst C zd_O_house_28 ?_
        cases hf
        exact zre_i C hr hlk hK hW hS (znb rfl) zd_O_house_29
      · rw [if_neg c5] at hf
        refine lv_iload_n C.1 C.2.1 zd_O_house_17 rfl (lv_at hl 3 rfl) ?_
        refine zr_iconst C zd_O_house_18 ?_
        refine zr_icmp_lt (tgt := 28) C nx3 (znb rfl) zd_O_house_19 (by decide) (fun c6 => ?_) (fun c6 => ?_)
        · rw [if_pos c6] at hf
          refine zr_iconst C zd_O_house_28 ?_
          cases hf
          exact zre_i C hr hlk hK hW hS (znb rfl) zd_O_house_29
        · rw [if_neg c6] at hf
          refine lv_iload_n C.1 C.2.1 zd_O_house_22 rfl (lv_at hl 3 rfl) ?_
          refine zr_bipush C zd_O_house_23 (by decide) ?_
          refine zr_icmp_le (tgt := 30) C nx3 (znb rfl) zd_O_house_25 (by decide) (fun c7 => ?_) (fun c7 => ?_)
          · rw [if_pos c7] at hf
            refine lv_aload_n C.1 C.2.1 zd_O_house_30 rfl (lv_at hl 0 rfl) ?_
            refine zg_O_now (r := 0) C hK hW (zvd_3 (by decide) (by decide)) zk_492 zd_O_house_31 ?_
            refine zg_I_cattle (r := 0) C hK hW (zvd_0 (by decide) (by decide)) zk_268 zd_O_house_34 ?_
            refine lv_iload_n C.1 C.2.1 zd_O_house_37 rfl (lv_at hl 1 rfl) ?_
            obtain ⟨h8, hf⟩ := zck_some hf
            refine ziald C hK hW (zvd_0 (by decide) (by decide)) (fun f => ze_0_2 B f (0)) (by decide) h8 zd_O_house_38 ?_
            refine lv_iload_n C.1 C.2.1 zd_O_house_39 rfl (lv_at hl 2 rfl) ?_
            refine zr_icmp_ne (tgt := 56) C (zWn hW _ _ _ _ rfl) nx2 zd_O_house_40 (by decide) (fun c9 => ?_) (fun c9 => ?_)
            · rw [if_neg c9] at hf
              exact zw_O_house_56 C hr hlk hK hSt hap   (x1) (x2) (x3) S2 nx1 nx2 nx3 hf _ _ _ hW hS (lv_sub hl [0, 1, 2, 3] rfl)
            · rw [if_pos c9] at hf
              refine lv_aload_n C.1 C.2.1 zd_O_house_43 rfl (lv_at hl 0 rfl) ?_
              refine zg_O_now (r := 0) C hK hW (zvd_3 (by decide) (by decide)) zk_492 zd_O_house_44 ?_
              refine zg_I_roof (r := 0) C hK hW (zvd_0 (by decide) (by decide)) zk_274 zd_O_house_47 ?_
              refine lv_iload_n C.1 C.2.1 zd_O_house_50 rfl (lv_at hl 1 rfl) ?_
              refine ziald C hK hW (zvd_0 (by decide) (by decide)) (fun f => ze_0_4 B f (0)) (by decide) h8 zd_O_house_51 ?_
              refine lv_iload_n C.1 C.2.1 zd_O_house_52 rfl (lv_at hl 3 rfl) ?_
              refine zr_icmp_eq (tgt := 60) C (zWn hW _ _ _ _ rfl) nx3 zd_O_house_53 (by decide) (fun c10 => ?_) (fun c10 => ?_)
              · rw [if_pos c10] at hf
                refine zr_iconst C zd_O_house_60 ?_
                exact zw_O_house_61 C hr hlk hK hSt hap   (x1) (x2) (x3) (0) S2 nx1 nx2 nx3 (znb rfl) hf _ _ _ hW hS (lv_sub hl [0, 1, 2, 3] rfl)
              · rw [if_neg c10] at hf
                exact zw_O_house_56 C hr hlk hK hSt hap   (x1) (x2) (x3) S2 nx1 nx2 nx3 hf _ _ _ hW hS (lv_sub hl [0, 1, 2, 3] rfl)
          · rw [if_neg c7] at hf
            refine zr_iconst C zd_O_house_28 ?_
            cases hf
            exact zre_i C hr hlk hK hW hS (znb rfl) zd_O_house_29

theorem zc_O_house {l : Launch} {B : zB} (hap : zAp B) (x1 : Int) (x2 : Int) (x3 : Int) (S : Sg) (nx1 : zn x1) (nx2 : zn x2) (nx3 : zn x3) {res : Int} {S9 : Sg} (hf : zf_O_house x1 x2 x3 S = some (res, S9)) : Met l zy_O_house (Cond.code zy_O_house zb_O_house 5 (some .int) :: zT) zm_O_house (zP B S [.ref (B.2.1 3 (0) (0)), .int (zI (x1)), .int (zI (x2)), .int (zI (x3))]) (zQi B res S9) 0 0 B.2.2.2 :=
  zmet (by decide) (Nat.le_of_ble_eq_true rfl) (fun p e s m args below meth c C hr hlk hK hSt hW ls hl => zw_O_house C hr hlk hK hSt hap   x1 x2 x3 S nx1 nx2 nx3 hf _ _ _ hW va_S.rf hl)
/-! IslandOffice$People.needOf(IZ)I -/
abbrev zy_P_needOf : MethodName := ⟨"IslandOffice$People", "needOf", "(IZ)I"⟩
abbrev zb_P_needOf : ByteArray := prog_7_method_9_code
abbrev zm_P_needOf : Room := { frames := 0, cells := 0, slots := 0, locals := 0 }
theorem zq_P_needOf : zMs zy_P_needOf zb_P_needOf 2 (some .int) 2 := ⟨zk_592, zk_591, zk_4, by decide, by decide, by decide +kernel⟩
theorem zd_P_needOf_0 : decode zb_P_needOf 0 = .ok (.iload_n 0, 1) := by decide +kernel
theorem zd_P_needOf_1 : decode zb_P_needOf 1 = .ok (.tableswitch 65 0 5 #[39, 41, 45, 65, 43, 55], 39) := by decide +kernel
theorem zd_P_needOf_40 : decode zb_P_needOf 40 = .ok (.iconst 3, 1) := by decide +kernel
theorem zd_P_needOf_41 : decode zb_P_needOf 41 = .ok (.ireturn, 1) := by decide +kernel
theorem zd_P_needOf_42 : decode zb_P_needOf 42 = .ok (.iconst 2, 1) := by decide +kernel
theorem zd_P_needOf_43 : decode zb_P_needOf 43 = .ok (.ireturn, 1) := by decide +kernel
theorem zd_P_needOf_44 : decode zb_P_needOf 44 = .ok (.iconst 2, 1) := by decide +kernel
theorem zd_P_needOf_45 : decode zb_P_needOf 45 = .ok (.ireturn, 1) := by decide +kernel
theorem zd_P_needOf_46 : decode zb_P_needOf 46 = .ok (.iload_n 1, 1) := by decide +kernel
theorem zd_P_needOf_47 : decode zb_P_needOf 47 = .ok (.ifCond .eq 7, 3) := by decide +kernel
theorem zd_P_needOf_50 : decode zb_P_needOf 50 = .ok (.iconst 4, 1) := by decide +kernel
theorem zd_P_needOf_51 : decode zb_P_needOf 51 = .ok (.goto 4, 3) := by decide +kernel
theorem zd_P_needOf_54 : decode zb_P_needOf 54 = .ok (.iconst 3, 1) := by decide +kernel
theorem zd_P_needOf_55 : decode zb_P_needOf 55 = .ok (.ireturn, 1) := by decide +kernel
theorem zd_P_needOf_56 : decode zb_P_needOf 56 = .ok (.iload_n 1, 1) := by decide +kernel
theorem zd_P_needOf_57 : decode zb_P_needOf 57 = .ok (.ifCond .eq 7, 3) := by decide +kernel
theorem zd_P_needOf_60 : decode zb_P_needOf 60 = .ok (.iconst 5, 1) := by decide +kernel
theorem zd_P_needOf_61 : decode zb_P_needOf 61 = .ok (.goto 4, 3) := by decide +kernel
theorem zd_P_needOf_64 : decode zb_P_needOf 64 = .ok (.iconst 4, 1) := by decide +kernel
theorem zd_P_needOf_65 : decode zb_P_needOf 65 = .ok (.ireturn, 1) := by decide +kernel
theorem zd_P_needOf_66 : decode zb_P_needOf 66 = .ok (.iconst 0, 1) := by decide +kernel
theorem zd_P_needOf_67 : decode zb_P_needOf 67 = .ok (.ireturn, 1) := by decide +kernel

def zf_P_needOf (x0 : Int) (x1 : Int) (S : Sg) : Option (Int × Sg) :=
    if x0 = 0 then (some (3, S)) else (if x0 = 1 then (some (2, S)) else (if x0 = 2 then (if x1 = 0 then (some (3, S)) else (some (4, S))) else (if x0 = 3 then (some (0, S)) else (if x0 = 4 then (some (2, S)) else (if x0 = 5 then (if x1 = 0 then (some (4, S)) else (some (5, S))) else (some (0, S)))))))
set_option maxHeartbeats 4000000 in
set_option maxRecDepth 100000 in
theorem zw_P_needOf {p : Program} {l : Launch} {e : Env} {s : State} {m : MethodId} {args : Array Value} {below : List Frame} {meth : Method} {c : Code} {B : zB} (C : CallFix p m c zb_P_needOf 2 s args zT "IslandOffice$People") (hr : meth.sig.returnType = some .int) (hlk : meth.locks = false) (hK : zK B s) (hSt : zSt B s) (hap : zAp B) {res : Int} {S9 : Sg} : ∀ (x0 : Int) (x1 : Int) (S : Sg) (nx0 : zn x0) (nx1 : zn x1), zf_P_needOf x0 x1 S = some (res, S9) → ∀ (H : Heap) (locs : List Loc) (ls : Array Slot), zW B S H → va_S B.2.2.2 s.heap H locs → lv_has ls 2 [(0, .int (zI (x0))), (1, .int (zI (x1)))] → W p l e zm_P_needOf s m args below meth c H locs 0 0 (MQ below (zQi B res S9) args s 0 0 B.2.2.2) (F0 m 0 ls []) := by
  intro x0 x1 S nx0 nx1 hf H locs ls hW hS hl
  unfold zf_P_needOf at hf
  refine lv_iload_n C.1 C.2.1 zd_P_needOf_0 rfl (lv_at hl 0 rfl) ?_
  by_cases c1 : x0 = 0
  · rw [if_pos c1] at hf
    refine zr_tab (off := 39) (tgt := 40) C nx0 zd_P_needOf_1 (by omega) (by omega) (by rw [c1]; rfl) (by decide) ?_
    refine zr_iconst C zd_P_needOf_40 ?_
    cases hf
    exact zre_i C hr hlk hK hW hS (znb rfl) zd_P_needOf_41
  rw [if_neg c1] at hf
  by_cases c2 : x0 = 1
  · rw [if_pos c2] at hf
    refine zr_tab (off := 41) (tgt := 42) C nx0 zd_P_needOf_1 (by omega) (by omega) (by rw [c2]; rfl) (by decide) ?_
    refine zr_iconst C zd_P_needOf_42 ?_
    cases hf
    exact zre_i C hr hlk hK hW hS (znb rfl) zd_P_needOf_43
  rw [if_neg c2] at hf
  by_cases c3 : x0 = 2
  · rw [if_pos c3] at hf
    refine zr_tab (off := 45) (tgt := 46) C nx0 zd_P_needOf_1 (by omega) (by omega) (by rw [c3]; rfl) (by decide) ?_
    refine lv_iload_n C.1 C.2.1 zd_P_needOf_46 rfl (lv_at hl 1 rfl) ?_
    refine zr_if_eq (tgt := 54) C nx1 zd_P_needOf_47 (by decide) (fun c4 => ?_) (fun c4 => ?_)
    · rw [if_pos c4] at hf
      refine zr_iconst C zd_P_needOf_54 ?_
      cases hf
      exact zre_i C hr hlk hK hW hS (znb rfl) zd_P_needOf_55
    · rw [if_neg c4] at hf
      refine zr_iconst C zd_P_needOf_50 ?_
      refine lv_goto (tgt := 55) C.1 C.2.1 zd_P_needOf_51 (by decide) ?_
      cases hf
      exact zre_i C hr hlk hK hW hS (znb rfl) zd_P_needOf_55
  rw [if_neg c3] at hf
  by_cases c5 : x0 = 3
  · rw [if_pos c5] at hf
    refine zr_tab (off := 65) (tgt := 66) C nx0 zd_P_needOf_1 (by omega) (by omega) (by rw [c5]; rfl) (by decide) ?_
    refine zr_iconst C zd_P_needOf_66 ?_
    cases hf
    exact zre_i C hr hlk hK hW hS (znb rfl) zd_P_needOf_67
  rw [if_neg c5] at hf
  by_cases c6 : x0 = 4
  · rw [if_pos c6] at hf
    refine zr_tab (off := 43) (tgt := 44) C nx0 zd_P_needOf_1 (by omega) (by omega) (by rw [c6]; rfl) (by decide) ?_
    refine zr_iconst C zd_P_needOf_44 ?_
    cases hf
    exact zre_i C hr hlk hK hW hS (znb rfl) zd_P_needOf_45
  rw [if_neg c6] at hf
  by_cases c7 : x0 = 5
  · rw [if_pos c7] at hf
    refine zr_tab (off := 55) (tgt := 56) C nx0 zd_P_needOf_1 (by omega) (by omega) (by rw [c7]; rfl) (by decide) ?_
    refine lv_iload_n C.1 C.2.1 zd_P_needOf_56 rfl (lv_at hl 1 rfl) ?_
    refine zr_if_eq (tgt := 64) C nx1 zd_P_needOf_57 (by decide) (fun c8 => ?_) (fun c8 => ?_)
    · rw [if_pos c8] at hf
      refine zr_iconst C zd_P_needOf_64 ?_
      cases hf
      exact zre_i C hr hlk hK hW hS (znb rfl) zd_P_needOf_65
    · rw [if_neg c8] at hf
      refine zr_iconst C zd_P_needOf_60 ?_
      refine lv_goto (tgt := 65) C.1 C.2.1 zd_P_needOf_61 (by decide) ?_
      cases hf
      exact zre_i C hr hlk hK hW hS (znb rfl) zd_P_needOf_65
  rw [if_neg c7] at hf
  refine zr_tabo (tgt := 66) C nx0 zd_P_needOf_1 (by omega) (by decide) ?_
  refine zr_iconst C zd_P_needOf_66 ?_
  cases hf
  exact zre_i C hr hlk hK hW hS (znb rfl) zd_P_needOf_67

theorem zc_P_needOf {l : Launch} {B : zB} (hap : zAp B) (x0 : Int) (x1 : Int) (S : Sg) (nx0 : zn x0) (nx1 : zn x1) {res : Int} {S9 : Sg} (hf : zf_P_needOf x0 x1 S = some (res, S9)) : Met l zy_P_needOf (Cond.code zy_P_needOf zb_P_needOf 2 (some .int) :: zT) zm_P_needOf (zP B S [.int (zI (x0)), .int (zI (x1))]) (zQi B res S9) 0 0 B.2.2.2 :=
  zmet (by decide) (Nat.le_of_ble_eq_true rfl) (fun p e s m args below meth c C hr hlk hK hSt hW ls hl => zw_P_needOf C hr hlk hK hSt hap   x0 x1 S nx0 nx1 hf _ _ _ hW va_S.rf hl)
/-! IslandOffice$People.need(II)I -/
abbrev zy_P_need : MethodName := ⟨"IslandOffice$People", "need", "(II)I"⟩
abbrev zb_P_need : ByteArray := prog_7_method_7_code
abbrev zm_P_need : Room := { frames := 1, cells := 0, slots := 0, locals := 23 }
theorem zq_P_need : zMy zy_P_need zb_P_need 3 (some .int) 2 := ⟨zk_588, zk_586, zk_587, zk_4, by decide, by decide, by decide +kernel⟩
theorem zd_P_need_0 : decode zb_P_need 0 = .ok (.aload_n 0, 1) := by decide +kernel
theorem zd_P_need_1 : decode zb_P_need 1 = .ok (.iload_n 1, 1) := by decide +kernel
theorem zd_P_need_2 : decode zb_P_need 2 = .ok (.iload_n 2, 1) := by decide +kernel
theorem zd_P_need_3 : decode zb_P_need 3 = .ok (.invokevirtual 49, 3) := by decide +kernel
theorem zd_P_need_6 : decode zb_P_need 6 = .ok (.aload_n 0, 1) := by decide +kernel
theorem zd_P_need_7 : decode zb_P_need 7 = .ok (.getfield 37, 3) := by decide +kernel
theorem zd_P_need_10 : decode zb_P_need 10 = .ok (.iload_n 1, 1) := by decide +kernel
theorem zd_P_need_11 : decode zb_P_need 11 = .ok (.iaload, 1) := by decide +kernel
theorem zd_P_need_12 : decode zb_P_need 12 = .ok (.ifCond .lt 7, 3) := by decide +kernel
theorem zd_P_need_15 : decode zb_P_need 15 = .ok (.iconst 1, 1) := by decide +kernel
theorem zd_P_need_16 : decode zb_P_need 16 = .ok (.goto 4, 3) := by decide +kernel
theorem zd_P_need_19 : decode zb_P_need 19 = .ok (.iconst 0, 1) := by decide +kernel
theorem zd_P_need_20 : decode zb_P_need 20 = .ok (.invokestatic 53, 3) := by decide +kernel
theorem zd_P_need_23 : decode zb_P_need 23 = .ok (.ireturn, 1) := by decide +kernel

def zf_P_need_20 (r0 : Int) (xt0 : Int) (xt1 : Int) (S : Sg) : Option (Int × Sg) :=
    zbd (zf_P_needOf xt0 xt1 S) fun a1 S2 => some (a1, S2)
set_option maxHeartbeats 4000000 in
set_option maxRecDepth 100000 in
theorem zw_P_need_20 {p : Program} {l : Launch} {e : Env} {s : State} {m : MethodId} {args : Array Value} {below : List Frame} {meth : Method} {c : Code} {B : zB} (C : CallFix p m c zb_P_need 3 s args zT "IslandOffice$People") (hr : meth.sig.returnType = some .int) (hlk : meth.locks = false) (hK : zK B s) (hSt : zSt B s) (hap : zAp B) (r0 : Int) (hr0 : 0 ≤ r0 ∧ r0 < 3) {res : Int} {S9 : Sg} : ∀ (xt0 : Int) (xt1 : Int) (S : Sg) (nxt0 : zn xt0) (nxt1 : zn xt1), zf_P_need_20 r0 xt0 xt1 S = some (res, S9) → ∀ (H : Heap) (locs : List Loc) (ls : Array Slot), zW B S H → va_S B.2.2.2 s.heap H locs → lv_has ls 3 [] → W p l e zm_P_need s m args below meth c H locs 0 0 (MQ below (zQi B res S9) args s 0 0 B.2.2.2) (F0 m 20 ls [.int (zI (xt1)), .int (zI (xt0))]) := by
  intro xt0 xt1 S nxt0 nxt1 hf H locs ls hW hS hl
  unfold zf_P_need_20 at hf
  obtain ⟨a1, S2, ea1, hf⟩ := zbd_some hf
  refine zcSi (As := [.int (zI (xt0)), .int (zI (xt1))]) (rest := []) C hK hSt hW hS (zc_P_needOf hap xt0 xt1 S nxt0 nxt1 ea1) zq_P_needOf zk_590 ⟨rfl, rfl, by decide, by decide⟩ ⟨Nat.zero_le _, Nat.zero_le _⟩ rfl hl.1 rfl (lv_room (Nat.le_of_ble_eq_true rfl)) zd_P_need_20 (fun na1 H locs hW hS => ?_)
  cases hf
  exact zre_i C hr hlk hK hW hS na1 zd_P_need_23

def zf_P_need (r0 : Int) (x1 : Int) (x2 : Int) (S : Sg) : Option (Int × Sg) :=
    zbd (zf_P_kind (r0) x1 x2 S) fun a1 S2 => zck (0 ≤ x1 ∧ x1 < 40) <| if (S2 0 r0 14 x1) < 0 then (zf_P_need_20 r0 (a1) (0) S2) else (zf_P_need_20 r0 (a1) (1) S2)
set_option maxHeartbeats 4000000 in
set_option maxRecDepth 100000 in
theorem zw_P_need {p : Program} {l : Launch} {e : Env} {s : State} {m : MethodId} {args : Array Value} {below : List Frame} {meth : Method} {c : Code} {B : zB} (C : CallFix p m c zb_P_need 3 s args zT "IslandOffice$People") (hr : meth.sig.returnType = some .int) (hlk : meth.locks = false) (hK : zK B s) (hSt : zSt B s) (hap : zAp B) (r0 : Int) (hr0 : 0 ≤ r0 ∧ r0 < 3) {res : Int} {S9 : Sg} : ∀ (x1 : Int) (x2 : Int) (S : Sg) (nx1 : zn x1) (nx2 : zn x2), zf_P_need r0 x1 x2 S = some (res, S9) → ∀ (H : Heap) (locs : List Loc) (ls : Array Slot), zW B S H → va_S B.2.2.2 s.heap H locs → lv_has ls 3 [(0, .ref (B.2.1 0 (r0) (6))), (1, .int (zI (x1))), (2, .int (zI (x2)))] → W p l e zm_P_need s m args below meth c H locs 0 0 (MQ below (zQi B res S9) args s 0 0 B.2.2.2) (F0 m 0 ls []) := by
  intro x1 x2 S nx1 nx2 hf H locs ls hW hS hl
  unfold zf_P_need at hf
  refine lv_aload_n C.1 C.2.1 zd_P_need_0 rfl (lv_at hl 0 rfl) ?_
  refine lv_iload_n C.1 C.2.1 zd_P_need_1 rfl (lv_at hl 1 rfl) ?_
  refine lv_iload_n C.1 C.2.1 zd_P_need_2 rfl (lv_at hl 2 rfl) ?_
  obtain ⟨a1, S2, ea1, hf⟩ := zbd_some hf
  refine zcVi (As := [.int (zI (x1)), .int (zI (x2))]) (rest := []) C hK hSt hW hS (zc_P_kind hap (r0) hr0 x1 x2 S nx1 nx2 ea1) zq_P_kind zk_589 (zrecv hK hW (zvd_0 hr0 (by decide)) (ze_0_6 B _ (r0)) rfl) ⟨rfl, rfl, by decide, by decide⟩ ⟨Nat.zero_le _, Nat.zero_le _⟩ rfl hl.1 rfl (lv_room (Nat.le_of_ble_eq_true rfl)) zd_P_need_3 (fun na1 H locs hW hS => ?_)
  refine lv_aload_n C.1 C.2.1 zd_P_need_6 rfl (lv_at hl 0 rfl) ?_
  refine zg_P_post (r := r0) C hK hW (zvd_0 hr0 (by decide)) zk_81 zd_P_need_7 ?_
  refine lv_iload_n C.1 C.2.1 zd_P_need_10 rfl (lv_at hl 1 rfl) ?_
  obtain ⟨h3, hf⟩ := zck_some hf
  refine ziald C hK hW (zvd_0 hr0 (by decide)) (fun f => ze_0_14 B f (r0)) (by decide) h3 zd_P_need_11 ?_
  refine zr_if_lt (tgt := 19) C (zWn hW _ _ _ _ rfl) zd_P_need_12 (by decide) (fun c4 => ?_) (fun c4 => ?_)
  · rw [if_pos c4] at hf
    refine zr_iconst C zd_P_need_19 ?_
    exact zw_P_need_20 C hr hlk hK hSt hap r0 hr0 (a1) (0) S2 na1 (znb rfl) hf _ _ _ hW hS (lv_sub hl [] rfl)
  · rw [if_neg c4] at hf
    refine zr_iconst C zd_P_need_15 ?_
    refine lv_goto (tgt := 20) C.1 C.2.1 zd_P_need_16 (by decide) ?_
    exact zw_P_need_20 C hr hlk hK hSt hap r0 hr0 (a1) (1) S2 na1 (znb rfl) hf _ _ _ hW hS (lv_sub hl [] rfl)

theorem zc_P_need {l : Launch} {B : zB} (hap : zAp B) (r0 : Int) (hr0 : 0 ≤ r0 ∧ r0 < 3) (x1 : Int) (x2 : Int) (S : Sg) (nx1 : zn x1) (nx2 : zn x2) {res : Int} {S9 : Sg} (hf : zf_P_need r0 x1 x2 S = some (res, S9)) : Met l zy_P_need (Cond.code zy_P_need zb_P_need 3 (some .int) :: zT) zm_P_need (zP B S [.ref (B.2.1 0 (r0) (6)), .int (zI (x1)), .int (zI (x2))]) (zQi B res S9) 0 0 B.2.2.2 :=
  zmet (by decide) (Nat.le_of_ble_eq_true rfl) (fun p e s m args below meth c C hr hlk hK hSt hW ls hl => zw_P_need C hr hlk hK hSt hap r0 hr0 x1 x2 S nx1 nx2 hf _ _ _ hW va_S.rf hl)
/-! IslandOffice$People.wageOf(IZ)I -/
abbrev zy_P_wageOf : MethodName := ⟨"IslandOffice$People", "wageOf", "(IZ)I"⟩
abbrev zb_P_wageOf : ByteArray := prog_7_method_10_code
abbrev zm_P_wageOf : Room := { frames := 0, cells := 0, slots := 0, locals := 0 }
theorem zq_P_wageOf : zMs zy_P_wageOf zb_P_wageOf 2 (some .int) 2 := ⟨zk_599, zk_598, zk_4, by decide, by decide, by decide +kernel⟩
theorem zd_P_wageOf_0 : decode zb_P_wageOf 0 = .ok (.iload_n 0, 1) := by decide +kernel
theorem zd_P_wageOf_1 : decode zb_P_wageOf 1 = .ok (.tableswitch 54 2 5 #[33, 54, 31, 43], 31) := by decide +kernel
theorem zd_P_wageOf_32 : decode zb_P_wageOf 32 = .ok (.iconst 2, 1) := by decide +kernel
theorem zd_P_wageOf_33 : decode zb_P_wageOf 33 = .ok (.ireturn, 1) := by decide +kernel
theorem zd_P_wageOf_34 : decode zb_P_wageOf 34 = .ok (.iload_n 1, 1) := by decide +kernel
theorem zd_P_wageOf_35 : decode zb_P_wageOf 35 = .ok (.ifCond .eq 7, 3) := by decide +kernel
theorem zd_P_wageOf_38 : decode zb_P_wageOf 38 = .ok (.iconst 3, 1) := by decide +kernel
theorem zd_P_wageOf_39 : decode zb_P_wageOf 39 = .ok (.goto 4, 3) := by decide +kernel
theorem zd_P_wageOf_42 : decode zb_P_wageOf 42 = .ok (.iconst 0, 1) := by decide +kernel
theorem zd_P_wageOf_43 : decode zb_P_wageOf 43 = .ok (.ireturn, 1) := by decide +kernel
theorem zd_P_wageOf_44 : decode zb_P_wageOf 44 = .ok (.iload_n 1, 1) := by decide +kernel
theorem zd_P_wageOf_45 : decode zb_P_wageOf 45 = .ok (.ifCond .eq 8, 3) := by decide +kernel
theorem zd_P_wageOf_48 : decode zb_P_wageOf 48 = .ok (.bipush 6, 2) := by decide +kernel
theorem zd_P_wageOf_50 : decode zb_P_wageOf 50 = .ok (.goto 4, 3) := by decide +kernel
theorem zd_P_wageOf_53 : decode zb_P_wageOf 53 = .ok (.iconst 0, 1) := by decide +kernel
theorem zd_P_wageOf_54 : decode zb_P_wageOf 54 = .ok (.ireturn, 1) := by decide +kernel
theorem zd_P_wageOf_55 : decode zb_P_wageOf 55 = .ok (.iconst 0, 1) := by decide +kernel
theorem zd_P_wageOf_56 : decode zb_P_wageOf 56 = .ok (.ireturn, 1) := by decide +kernel

def zf_P_wageOf (x0 : Int) (x1 : Int) (S : Sg) : Option (Int × Sg) :=
    if x0 = 2 then (if x1 = 0 then (some (0, S)) else (some (3, S))) else (if x0 = 3 then (some (0, S)) else (if x0 = 4 then (some (2, S)) else (if x0 = 5 then (if x1 = 0 then (some (0, S)) else (some (6, S))) else (some (0, S)))))
set_option maxHeartbeats 4000000 in
set_option maxRecDepth 100000 in
theorem zw_P_wageOf {p : Program} {l : Launch} {e : Env} {s : State} {m : MethodId} {args : Array Value} {below : List Frame} {meth : Method} {c : Code} {B : zB} (C : CallFix p m c zb_P_wageOf 2 s args zT "IslandOffice$People") (hr : meth.sig.returnType = some .int) (hlk : meth.locks = false) (hK : zK B s) (hSt : zSt B s) (hap : zAp B) {res : Int} {S9 : Sg} : ∀ (x0 : Int) (x1 : Int) (S : Sg) (nx0 : zn x0) (nx1 : zn x1), zf_P_wageOf x0 x1 S = some (res, S9) → ∀ (H : Heap) (locs : List Loc) (ls : Array Slot), zW B S H → va_S B.2.2.2 s.heap H locs → lv_has ls 2 [(0, .int (zI (x0))), (1, .int (zI (x1)))] → W p l e zm_P_wageOf s m args below meth c H locs 0 0 (MQ below (zQi B res S9) args s 0 0 B.2.2.2) (F0 m 0 ls []) := by
  intro x0 x1 S nx0 nx1 hf H locs ls hW hS hl
  unfold zf_P_wageOf at hf
  refine lv_iload_n C.1 C.2.1 zd_P_wageOf_0 rfl (lv_at hl 0 rfl) ?_
  by_cases c1 : x0 = 2
  · rw [if_pos c1] at hf
    refine zr_tab (off := 33) (tgt := 34) C nx0 zd_P_wageOf_1 (by omega) (by omega) (by rw [c1]; rfl) (by decide) ?_
    refine lv_iload_n C.1 C.2.1 zd_P_wageOf_34 rfl (lv_at hl 1 rfl) ?_
    refine zr_if_eq (tgt := 42) C nx1 zd_P_wageOf_35 (by decide) (fun c2 => ?_) (fun c2 => ?_)
    · rw [if_pos c2] at hf
      refine zr_iconst C zd_P_wageOf_42 ?_
      cases hf
      exact zre_i C hr hlk hK hW hS (znb rfl) zd_P_wageOf_43
    · rw [if_neg c2] at hf
      refine zr_iconst C zd_P_wageOf_38 ?_
      refine lv_goto (tgt := 43) C.1 C.2.1 zd_P_wageOf_39 (by decide) ?_
      cases hf
      exact zre_i C hr hlk hK hW hS (znb rfl) zd_P_wageOf_43
  rw [if_neg c1] at hf
  by_cases c3 : x0 = 3
  · rw [if_pos c3] at hf
    refine zr_tab (off := 54) (tgt := 55) C nx0 zd_P_wageOf_1 (by omega) (by omega) (by rw [c3]; rfl) (by decide) ?_
    refine zr_iconst C zd_P_wageOf_55 ?_
    cases hf
    exact zre_i C hr hlk hK hW hS (znb rfl) zd_P_wageOf_56
  rw [if_neg c3] at hf
  by_cases c4 : x0 = 4
  · rw [if_pos c4] at hf
    refine zr_tab (off := 31) (tgt := 32) C nx0 zd_P_wageOf_1 (by omega) (by omega) (by rw [c4]; rfl) (by decide) ?_
    refine zr_iconst C zd_P_wageOf_32 ?_
    cases hf
    exact zre_i C hr hlk hK hW hS (znb rfl) zd_P_wageOf_33
  rw [if_neg c4] at hf
  by_cases c5 : x0 = 5
  · rw [if_pos c5] at hf
    refine zr_tab (off := 43) (tgt := 44) C nx0 zd_P_wageOf_1 (by omega) (by omega) (by rw [c5]; rfl) (by decide) ?_
    refine lv_iload_n C.1 C.2.1 zd_P_wageOf_44 rfl (lv_at hl 1 rfl) ?_
    refine zr_if_eq (tgt := 53) C nx1 zd_P_wageOf_45 (by decide) (fun c6 => ?_) (fun c6 => ?_)
    · rw [if_pos c6] at hf
      refine zr_iconst C zd_P_wageOf_53 ?_
      cases hf
      exact zre_i C hr hlk hK hW hS (znb rfl) zd_P_wageOf_54
    · rw [if_neg c6] at hf
      refine zr_bipush C zd_P_wageOf_48 (by decide) ?_
      refine lv_goto (tgt := 54) C.1 C.2.1 zd_P_wageOf_50 (by decide) ?_
      cases hf
      exact zre_i C hr hlk hK hW hS (znb rfl) zd_P_wageOf_54
  rw [if_neg c5] at hf
  refine zr_tabo (tgt := 55) C nx0 zd_P_wageOf_1 (by omega) (by decide) ?_
  refine zr_iconst C zd_P_wageOf_55 ?_
  cases hf
  exact zre_i C hr hlk hK hW hS (znb rfl) zd_P_wageOf_56

theorem zc_P_wageOf {l : Launch} {B : zB} (hap : zAp B) (x0 : Int) (x1 : Int) (S : Sg) (nx0 : zn x0) (nx1 : zn x1) {res : Int} {S9 : Sg} (hf : zf_P_wageOf x0 x1 S = some (res, S9)) : Met l zy_P_wageOf (Cond.code zy_P_wageOf zb_P_wageOf 2 (some .int) :: zT) zm_P_wageOf (zP B S [.int (zI (x0)), .int (zI (x1))]) (zQi B res S9) 0 0 B.2.2.2 :=
  zmet (by decide) (Nat.le_of_ble_eq_true rfl) (fun p e s m args below meth c C hr hlk hK hSt hW ls hl => zw_P_wageOf C hr hlk hK hSt hap   x0 x1 S nx0 nx1 hf _ _ _ hW va_S.rf hl)
/-! IslandOffice$People.wage(II)I -/
abbrev zy_P_wage : MethodName := ⟨"IslandOffice$People", "wage", "(II)I"⟩
abbrev zb_P_wage : ByteArray := prog_7_method_8_code
abbrev zm_P_wage : Room := { frames := 1, cells := 0, slots := 0, locals := 23 }
theorem zq_P_wage : zMy zy_P_wage zb_P_wage 3 (some .int) 2 := ⟨zk_596, zk_594, zk_595, zk_4, by decide, by decide, by decide +kernel⟩
theorem zd_P_wage_0 : decode zb_P_wage 0 = .ok (.aload_n 0, 1) := by decide +kernel
theorem zd_P_wage_1 : decode zb_P_wage 1 = .ok (.iload_n 1, 1) := by decide +kernel
theorem zd_P_wage_2 : decode zb_P_wage 2 = .ok (.iload_n 2, 1) := by decide +kernel
theorem zd_P_wage_3 : decode zb_P_wage 3 = .ok (.invokevirtual 49, 3) := by decide +kernel
theorem zd_P_wage_6 : decode zb_P_wage 6 = .ok (.aload_n 0, 1) := by decide +kernel
theorem zd_P_wage_7 : decode zb_P_wage 7 = .ok (.getfield 37, 3) := by decide +kernel
theorem zd_P_wage_10 : decode zb_P_wage 10 = .ok (.iload_n 1, 1) := by decide +kernel
theorem zd_P_wage_11 : decode zb_P_wage 11 = .ok (.iaload, 1) := by decide +kernel
theorem zd_P_wage_12 : decode zb_P_wage 12 = .ok (.ifCond .lt 7, 3) := by decide +kernel
theorem zd_P_wage_15 : decode zb_P_wage 15 = .ok (.iconst 1, 1) := by decide +kernel
theorem zd_P_wage_16 : decode zb_P_wage 16 = .ok (.goto 4, 3) := by decide +kernel
theorem zd_P_wage_19 : decode zb_P_wage 19 = .ok (.iconst 0, 1) := by decide +kernel
theorem zd_P_wage_20 : decode zb_P_wage 20 = .ok (.invokestatic 57, 3) := by decide +kernel
theorem zd_P_wage_23 : decode zb_P_wage 23 = .ok (.ireturn, 1) := by decide +kernel

def zf_P_wage_20 (r0 : Int) (xt0 : Int) (xt1 : Int) (S : Sg) : Option (Int × Sg) :=
    zbd (zf_P_wageOf xt0 xt1 S) fun a1 S2 => some (a1, S2)
set_option maxHeartbeats 4000000 in
set_option maxRecDepth 100000 in
theorem zw_P_wage_20 {p : Program} {l : Launch} {e : Env} {s : State} {m : MethodId} {args : Array Value} {below : List Frame} {meth : Method} {c : Code} {B : zB} (C : CallFix p m c zb_P_wage 3 s args zT "IslandOffice$People") (hr : meth.sig.returnType = some .int) (hlk : meth.locks = false) (hK : zK B s) (hSt : zSt B s) (hap : zAp B) (r0 : Int) (hr0 : 0 ≤ r0 ∧ r0 < 3) {res : Int} {S9 : Sg} : ∀ (xt0 : Int) (xt1 : Int) (S : Sg) (nxt0 : zn xt0) (nxt1 : zn xt1), zf_P_wage_20 r0 xt0 xt1 S = some (res, S9) → ∀ (H : Heap) (locs : List Loc) (ls : Array Slot), zW B S H → va_S B.2.2.2 s.heap H locs → lv_has ls 3 [] → W p l e zm_P_wage s m args below meth c H locs 0 0 (MQ below (zQi B res S9) args s 0 0 B.2.2.2) (F0 m 20 ls [.int (zI (xt1)), .int (zI (xt0))]) := by
  intro xt0 xt1 S nxt0 nxt1 hf H locs ls hW hS hl
  unfold zf_P_wage_20 at hf
  obtain ⟨a1, S2, ea1, hf⟩ := zbd_some hf
  refine zcSi (As := [.int (zI (xt0)), .int (zI (xt1))]) (rest := []) C hK hSt hW hS (zc_P_wageOf hap xt0 xt1 S nxt0 nxt1 ea1) zq_P_wageOf zk_597 ⟨rfl, rfl, by decide, by decide⟩ ⟨Nat.zero_le _, Nat.zero_le _⟩ rfl hl.1 rfl (lv_room (Nat.le_of_ble_eq_true rfl)) zd_P_wage_20 (fun na1 H locs hW hS => ?_)
  cases hf
  exact zre_i C hr hlk hK hW hS na1 zd_P_wage_23

def zf_P_wage (r0 : Int) (x1 : Int) (x2 : Int) (S : Sg) : Option (Int × Sg) :=
    zbd (zf_P_kind (r0) x1 x2 S) fun a1 S2 => zck (0 ≤ x1 ∧ x1 < 40) <| if (S2 0 r0 14 x1) < 0 then (zf_P_wage_20 r0 (a1) (0) S2) else (zf_P_wage_20 r0 (a1) (1) S2)
set_option maxHeartbeats 4000000 in
set_option maxRecDepth 100000 in
theorem zw_P_wage {p : Program} {l : Launch} {e : Env} {s : State} {m : MethodId} {args : Array Value} {below : List Frame} {meth : Method} {c : Code} {B : zB} (C : CallFix p m c zb_P_wage 3 s args zT "IslandOffice$People") (hr : meth.sig.returnType = some .int) (hlk : meth.locks = false) (hK : zK B s) (hSt : zSt B s) (hap : zAp B) (r0 : Int) (hr0 : 0 ≤ r0 ∧ r0 < 3) {res : Int} {S9 : Sg} : ∀ (x1 : Int) (x2 : Int) (S : Sg) (nx1 : zn x1) (nx2 : zn x2), zf_P_wage r0 x1 x2 S = some (res, S9) → ∀ (H : Heap) (locs : List Loc) (ls : Array Slot), zW B S H → va_S B.2.2.2 s.heap H locs → lv_has ls 3 [(0, .ref (B.2.1 0 (r0) (6))), (1, .int (zI (x1))), (2, .int (zI (x2)))] → W p l e zm_P_wage s m args below meth c H locs 0 0 (MQ below (zQi B res S9) args s 0 0 B.2.2.2) (F0 m 0 ls []) := by
  intro x1 x2 S nx1 nx2 hf H locs ls hW hS hl
  unfold zf_P_wage at hf
  refine lv_aload_n C.1 C.2.1 zd_P_wage_0 rfl (lv_at hl 0 rfl) ?_
  refine lv_iload_n C.1 C.2.1 zd_P_wage_1 rfl (lv_at hl 1 rfl) ?_
  refine lv_iload_n C.1 C.2.1 zd_P_wage_2 rfl (lv_at hl 2 rfl) ?_
  obtain ⟨a1, S2, ea1, hf⟩ := zbd_some hf
  refine zcVi (As := [.int (zI (x1)), .int (zI (x2))]) (rest := []) C hK hSt hW hS (zc_P_kind hap (r0) hr0 x1 x2 S nx1 nx2 ea1) zq_P_kind zk_589 (zrecv hK hW (zvd_0 hr0 (by decide)) (ze_0_6 B _ (r0)) rfl) ⟨rfl, rfl, by decide, by decide⟩ ⟨Nat.zero_le _, Nat.zero_le _⟩ rfl hl.1 rfl (lv_room (Nat.le_of_ble_eq_true rfl)) zd_P_wage_3 (fun na1 H locs hW hS => ?_)
  refine lv_aload_n C.1 C.2.1 zd_P_wage_6 rfl (lv_at hl 0 rfl) ?_
  refine zg_P_post (r := r0) C hK hW (zvd_0 hr0 (by decide)) zk_81 zd_P_wage_7 ?_
  refine lv_iload_n C.1 C.2.1 zd_P_wage_10 rfl (lv_at hl 1 rfl) ?_
  obtain ⟨h3, hf⟩ := zck_some hf
  refine ziald C hK hW (zvd_0 hr0 (by decide)) (fun f => ze_0_14 B f (r0)) (by decide) h3 zd_P_wage_11 ?_
  refine zr_if_lt (tgt := 19) C (zWn hW _ _ _ _ rfl) zd_P_wage_12 (by decide) (fun c4 => ?_) (fun c4 => ?_)
  · rw [if_pos c4] at hf
    refine zr_iconst C zd_P_wage_19 ?_
    exact zw_P_wage_20 C hr hlk hK hSt hap r0 hr0 (a1) (0) S2 na1 (znb rfl) hf _ _ _ hW hS (lv_sub hl [] rfl)
  · rw [if_neg c4] at hf
    refine zr_iconst C zd_P_wage_15 ?_
    refine lv_goto (tgt := 20) C.1 C.2.1 zd_P_wage_16 (by decide) ?_
    exact zw_P_wage_20 C hr hlk hK hSt hap r0 hr0 (a1) (1) S2 na1 (znb rfl) hf _ _ _ hW hS (lv_sub hl [] rfl)

theorem zc_P_wage {l : Launch} {B : zB} (hap : zAp B) (r0 : Int) (hr0 : 0 ≤ r0 ∧ r0 < 3) (x1 : Int) (x2 : Int) (S : Sg) (nx1 : zn x1) (nx2 : zn x2) {res : Int} {S9 : Sg} (hf : zf_P_wage r0 x1 x2 S = some (res, S9)) : Met l zy_P_wage (Cond.code zy_P_wage zb_P_wage 3 (some .int) :: zT) zm_P_wage (zP B S [.ref (B.2.1 0 (r0) (6)), .int (zI (x1)), .int (zI (x2))]) (zQi B res S9) 0 0 B.2.2.2 :=
  zmet (by decide) (Nat.le_of_ble_eq_true rfl) (fun p e s m args below meth c C hr hlk hK hSt hW ls hl => zw_P_wage C hr hlk hK hSt hap r0 hr0 x1 x2 S nx1 nx2 hf _ _ _ hW va_S.rf hl)
/-! IslandOffice.about(II)I -/
abbrev zy_O_about : MethodName := ⟨"IslandOffice", "about", "(II)I"⟩
abbrev zb_O_about : ByteArray := prog_1_method_10_code
abbrev zm_O_about : Room := { frames := 2, cells := 0, slots := 0, locals := 45 }
theorem zq_O_about : zMy zy_O_about zb_O_about 4 (some .int) 2 := ⟨zk_584, zk_582, zk_583, zk_1, by decide, by decide, by decide +kernel⟩
theorem zd_O_about_0 : decode zb_O_about 0 = .ok (.aload_n 0, 1) := by decide +kernel
theorem zd_O_about_1 : decode zb_O_about 1 = .ok (.getfield 16, 3) := by decide +kernel
theorem zd_O_about_4 : decode zb_O_about 4 = .ok (.getfield 81, 3) := by decide +kernel
theorem zd_O_about_7 : decode zb_O_about 7 = .ok (.astore_n 3, 1) := by decide +kernel
theorem zd_O_about_8 : decode zb_O_about 8 = .ok (.aload_n 3, 1) := by decide +kernel
theorem zd_O_about_9 : decode zb_O_about 9 = .ok (.iload_n 1, 1) := by decide +kernel
theorem zd_O_about_10 : decode zb_O_about 10 = .ok (.invokevirtual 85, 3) := by decide +kernel
theorem zd_O_about_13 : decode zb_O_about 13 = .ok (.ifCond .ne 5, 3) := by decide +kernel
theorem zd_O_about_16 : decode zb_O_about 16 = .ok (.iconst (-1), 1) := by decide +kernel
theorem zd_O_about_17 : decode zb_O_about 17 = .ok (.ireturn, 1) := by decide +kernel
theorem zd_O_about_18 : decode zb_O_about 18 = .ok (.iload_n 2, 1) := by decide +kernel
theorem zd_O_about_19 : decode zb_O_about 19 = .ok (.tableswitch 186 0 10 #[57, 70, 83, 90, 111, 118, 125, 132, 153, 166, 179], 57) := by decide +kernel
theorem zd_O_about_76 : decode zb_O_about 76 = .ok (.aload_n 3, 1) := by decide +kernel
theorem zd_O_about_77 : decode zb_O_about 77 = .ok (.iload_n 1, 1) := by decide +kernel
theorem zd_O_about_78 : decode zb_O_about 78 = .ok (.aload_n 0, 1) := by decide +kernel
theorem zd_O_about_79 : decode zb_O_about 79 = .ok (.getfield 16, 3) := by decide +kernel
theorem zd_O_about_82 : decode zb_O_about 82 = .ok (.getfield 94, 3) := by decide +kernel
theorem zd_O_about_85 : decode zb_O_about 85 = .ok (.invokevirtual 101, 3) := by decide +kernel
theorem zd_O_about_88 : decode zb_O_about 88 = .ok (.ireturn, 1) := by decide +kernel
theorem zd_O_about_89 : decode zb_O_about 89 = .ok (.aload_n 3, 1) := by decide +kernel
theorem zd_O_about_90 : decode zb_O_about 90 = .ok (.iload_n 1, 1) := by decide +kernel
theorem zd_O_about_91 : decode zb_O_about 91 = .ok (.aload_n 0, 1) := by decide +kernel
theorem zd_O_about_92 : decode zb_O_about 92 = .ok (.getfield 16, 3) := by decide +kernel
theorem zd_O_about_95 : decode zb_O_about 95 = .ok (.getfield 94, 3) := by decide +kernel
theorem zd_O_about_98 : decode zb_O_about 98 = .ok (.invokevirtual 111, 3) := by decide +kernel
theorem zd_O_about_101 : decode zb_O_about 101 = .ok (.ireturn, 1) := by decide +kernel
theorem zd_O_about_102 : decode zb_O_about 102 = .ok (.aload_n 3, 1) := by decide +kernel
theorem zd_O_about_103 : decode zb_O_about 103 = .ok (.getfield 105, 3) := by decide +kernel
theorem zd_O_about_106 : decode zb_O_about 106 = .ok (.iload_n 1, 1) := by decide +kernel
theorem zd_O_about_107 : decode zb_O_about 107 = .ok (.iaload, 1) := by decide +kernel
theorem zd_O_about_108 : decode zb_O_about 108 = .ok (.ireturn, 1) := by decide +kernel
theorem zd_O_about_109 : decode zb_O_about 109 = .ok (.aload_n 3, 1) := by decide +kernel
theorem zd_O_about_110 : decode zb_O_about 110 = .ok (.getfield 126, 3) := by decide +kernel
theorem zd_O_about_113 : decode zb_O_about 113 = .ok (.iload_n 1, 1) := by decide +kernel
theorem zd_O_about_114 : decode zb_O_about 114 = .ok (.iaload, 1) := by decide +kernel
theorem zd_O_about_115 : decode zb_O_about 115 = .ok (.ifCond .ge 8, 3) := by decide +kernel
theorem zd_O_about_118 : decode zb_O_about 118 = .ok (.bipush (-2), 2) := by decide +kernel
theorem zd_O_about_120 : decode zb_O_about 120 = .ok (.goto 9, 3) := by decide +kernel
theorem zd_O_about_123 : decode zb_O_about 123 = .ok (.aload_n 3, 1) := by decide +kernel
theorem zd_O_about_124 : decode zb_O_about 124 = .ok (.getfield 126, 3) := by decide +kernel
theorem zd_O_about_127 : decode zb_O_about 127 = .ok (.iload_n 1, 1) := by decide +kernel
theorem zd_O_about_128 : decode zb_O_about 128 = .ok (.iaload, 1) := by decide +kernel
theorem zd_O_about_129 : decode zb_O_about 129 = .ok (.ireturn, 1) := by decide +kernel
theorem zd_O_about_130 : decode zb_O_about 130 = .ok (.aload_n 3, 1) := by decide +kernel
theorem zd_O_about_131 : decode zb_O_about 131 = .ok (.getfield 117, 3) := by decide +kernel
theorem zd_O_about_134 : decode zb_O_about 134 = .ok (.iload_n 1, 1) := by decide +kernel
theorem zd_O_about_135 : decode zb_O_about 135 = .ok (.iaload, 1) := by decide +kernel
theorem zd_O_about_136 : decode zb_O_about 136 = .ok (.ireturn, 1) := by decide +kernel
theorem zd_O_about_137 : decode zb_O_about 137 = .ok (.aload_n 3, 1) := by decide +kernel
theorem zd_O_about_138 : decode zb_O_about 138 = .ok (.getfield 108, 3) := by decide +kernel
theorem zd_O_about_141 : decode zb_O_about 141 = .ok (.iload_n 1, 1) := by decide +kernel
theorem zd_O_about_142 : decode zb_O_about 142 = .ok (.iaload, 1) := by decide +kernel
theorem zd_O_about_143 : decode zb_O_about 143 = .ok (.ireturn, 1) := by decide +kernel
theorem zd_O_about_144 : decode zb_O_about 144 = .ok (.aload_n 3, 1) := by decide +kernel
theorem zd_O_about_145 : decode zb_O_about 145 = .ok (.getfield 114, 3) := by decide +kernel
theorem zd_O_about_148 : decode zb_O_about 148 = .ok (.iload_n 1, 1) := by decide +kernel
theorem zd_O_about_149 : decode zb_O_about 149 = .ok (.iaload, 1) := by decide +kernel
theorem zd_O_about_150 : decode zb_O_about 150 = .ok (.ireturn, 1) := by decide +kernel
theorem zd_O_about_151 : decode zb_O_about 151 = .ok (.aload_n 3, 1) := by decide +kernel
theorem zd_O_about_152 : decode zb_O_about 152 = .ok (.getfield 129, 3) := by decide +kernel
theorem zd_O_about_155 : decode zb_O_about 155 = .ok (.iload_n 1, 1) := by decide +kernel
theorem zd_O_about_156 : decode zb_O_about 156 = .ok (.iaload, 1) := by decide +kernel
theorem zd_O_about_157 : decode zb_O_about 157 = .ok (.ifCond .ge 8, 3) := by decide +kernel
theorem zd_O_about_160 : decode zb_O_about 160 = .ok (.bipush (-2), 2) := by decide +kernel
theorem zd_O_about_162 : decode zb_O_about 162 = .ok (.goto 9, 3) := by decide +kernel
theorem zd_O_about_165 : decode zb_O_about 165 = .ok (.aload_n 3, 1) := by decide +kernel
theorem zd_O_about_166 : decode zb_O_about 166 = .ok (.getfield 129, 3) := by decide +kernel
theorem zd_O_about_169 : decode zb_O_about 169 = .ok (.iload_n 1, 1) := by decide +kernel
theorem zd_O_about_170 : decode zb_O_about 170 = .ok (.iaload, 1) := by decide +kernel
theorem zd_O_about_171 : decode zb_O_about 171 = .ok (.ireturn, 1) := by decide +kernel
theorem zd_O_about_172 : decode zb_O_about 172 = .ok (.aload_n 3, 1) := by decide +kernel
theorem zd_O_about_173 : decode zb_O_about 173 = .ok (.iload_n 1, 1) := by decide +kernel
theorem zd_O_about_174 : decode zb_O_about 174 = .ok (.aload_n 0, 1) := by decide +kernel
theorem zd_O_about_175 : decode zb_O_about 175 = .ok (.getfield 16, 3) := by decide +kernel
theorem zd_O_about_178 : decode zb_O_about 178 = .ok (.getfield 94, 3) := by decide +kernel
theorem zd_O_about_181 : decode zb_O_about 181 = .ok (.invokevirtual 132, 3) := by decide +kernel
theorem zd_O_about_184 : decode zb_O_about 184 = .ok (.ireturn, 1) := by decide +kernel
theorem zd_O_about_185 : decode zb_O_about 185 = .ok (.aload_n 3, 1) := by decide +kernel
theorem zd_O_about_186 : decode zb_O_about 186 = .ok (.iload_n 1, 1) := by decide +kernel
theorem zd_O_about_187 : decode zb_O_about 187 = .ok (.aload_n 0, 1) := by decide +kernel
theorem zd_O_about_188 : decode zb_O_about 188 = .ok (.getfield 16, 3) := by decide +kernel
theorem zd_O_about_191 : decode zb_O_about 191 = .ok (.getfield 94, 3) := by decide +kernel
theorem zd_O_about_194 : decode zb_O_about 194 = .ok (.invokevirtual 135, 3) := by decide +kernel
theorem zd_O_about_197 : decode zb_O_about 197 = .ok (.ireturn, 1) := by decide +kernel
theorem zd_O_about_198 : decode zb_O_about 198 = .ok (.aload_n 3, 1) := by decide +kernel
theorem zd_O_about_199 : decode zb_O_about 199 = .ok (.getfield 138, 3) := by decide +kernel
theorem zd_O_about_202 : decode zb_O_about 202 = .ok (.iload_n 1, 1) := by decide +kernel
theorem zd_O_about_203 : decode zb_O_about 203 = .ok (.iaload, 1) := by decide +kernel
theorem zd_O_about_204 : decode zb_O_about 204 = .ok (.ireturn, 1) := by decide +kernel
theorem zd_O_about_205 : decode zb_O_about 205 = .ok (.iconst (-1), 1) := by decide +kernel
theorem zd_O_about_206 : decode zb_O_about 206 = .ok (.ireturn, 1) := by decide +kernel

def zf_O_about (x1 : Int) (x2 : Int) (S : Sg) : Option (Int × Sg) :=
    zbd (zf_P_has (0) x1 S) fun a1 S2 => if a1 = 0 then (some (-1, S2)) else (if x2 = 0 then (zbd (zf_P_kind (0) x1 (S2 0 0 0 0) S2) fun a5 S6 => some (a5, S6)) else (if x2 = 1 then (zbd (zf_P_age (0) x1 (S2 0 0 0 0) S2) fun a8 S9 => some (a8, S9)) else (if x2 = 2 then (zck (0 ≤ x1 ∧ x1 < 40) <| some (S2 0 0 8 x1, S2)) else (if x2 = 3 then (zck (0 ≤ x1 ∧ x1 < 40) <| if 0 ≤ (S2 0 0 9 x1) then (some (S2 0 0 9 x1, S2)) else (some (-2, S2))) else (if x2 = 4 then (zck (0 ≤ x1 ∧ x1 < 40) <| some (S2 0 0 10 x1, S2)) else (if x2 = 5 then (zck (0 ≤ x1 ∧ x1 < 40) <| some (S2 0 0 11 x1, S2)) else (if x2 = 6 then (zck (0 ≤ x1 ∧ x1 < 40) <| some (S2 0 0 13 x1, S2)) else (if x2 = 7 then (zck (0 ≤ x1 ∧ x1 < 40) <| if 0 ≤ (S2 0 0 14 x1) then (some (S2 0 0 14 x1, S2)) else (some (-2, S2))) else (if x2 = 8 then (zbd (zf_P_need (0) x1 (S2 0 0 0 0) S2) fun a25 S26 => some (a25, S26)) else (if x2 = 9 then (zbd (zf_P_wage (0) x1 (S2 0 0 0 0) S2) fun a28 S29 => some (a28, S29)) else (if x2 = 10 then (zck (0 ≤ x1 ∧ x1 < 40) <| some (S2 0 0 15 x1, S2)) else (some (-1, S2)))))))))))))
set_option maxHeartbeats 4000000 in
set_option maxRecDepth 100000 in
theorem zw_O_about {p : Program} {l : Launch} {e : Env} {s : State} {m : MethodId} {args : Array Value} {below : List Frame} {meth : Method} {c : Code} {B : zB} (C : CallFix p m c zb_O_about 4 s args zT "IslandOffice") (hr : meth.sig.returnType = some .int) (hlk : meth.locks = false) (hK : zK B s) (hSt : zSt B s) (hap : zAp B) {res : Int} {S9 : Sg} : ∀ (x1 : Int) (x2 : Int) (S : Sg) (nx1 : zn x1) (nx2 : zn x2), zf_O_about x1 x2 S = some (res, S9) → ∀ (H : Heap) (locs : List Loc) (ls : Array Slot), zW B S H → va_S B.2.2.2 s.heap H locs → lv_has ls 4 [(0, .ref (B.2.1 3 (0) (0))), (1, .int (zI (x1))), (2, .int (zI (x2)))] → W p l e zm_O_about s m args below meth c H locs 0 0 (MQ below (zQi B res S9) args s 0 0 B.2.2.2) (F0 m 0 ls []) := by
  intro x1 x2 S nx1 nx2 hf H locs ls hW hS hl
  unfold zf_O_about at hf
  refine lv_aload_n C.1 C.2.1 zd_O_about_0 rfl (lv_at hl 0 rfl) ?_
  refine zg_O_now (r := 0) C hK hW (zvd_3 (by decide) (by decide)) zk_492 zd_O_about_1 ?_
  refine zg_I_people (r := 0) C hK hW (zvd_0 (by decide) (by decide)) zk_280 zd_O_about_4 ?_
  refine lv_astore_n (lv' := [(3, .ref (B.2.1 0 (0) (6))), (0, .ref (B.2.1 3 (0) (0))), (1, .int (zI (x1))), (2, .int (zI (x2)))]) C.1 C.2.1 zd_O_about_7 rfl hl (by decide) rfl (fun ls hl => ?_)
  refine lv_aload_n C.1 C.2.1 zd_O_about_8 rfl (lv_at hl 0 rfl) ?_
  refine lv_iload_n C.1 C.2.1 zd_O_about_9 rfl (lv_at hl 2 rfl) ?_
  obtain ⟨a1, S2, ea1, hf⟩ := zbd_some hf
  refine zcVi (As := [.int (zI (x1))]) (rest := []) C hK hSt hW hS (zc_P_has hap (0) (by decide) x1 S nx1 ea1) zq_P_has zk_537 (zrecv hK hW (zvd_0 (by decide) (by decide)) (ze_0_6 B _ (0)) rfl) ⟨rfl, rfl, by decide, by decide⟩ ⟨Nat.zero_le _, Nat.zero_le _⟩ rfl hl.1 rfl (lv_room (Nat.le_of_ble_eq_true rfl)) zd_O_about_10 (fun na1 H locs hW hS => ?_)
  refine zr_if_ne (tgt := 18) C na1 zd_O_about_13 (by decide) (fun c3 => ?_) (fun c3 => ?_)
  · rw [if_neg c3] at hf
    refine lv_iload_n C.1 C.2.1 zd_O_about_18 rfl (lv_at hl 3 rfl) ?_
    by_cases c4 : x2 = 0
    · rw [if_pos c4] at hf
      refine zr_tab (off := 57) (tgt := 76) C nx2 zd_O_about_19 (by omega) (by omega) (by rw [c4]; rfl) (by decide) ?_
      refine lv_aload_n C.1 C.2.1 zd_O_about_76 rfl (lv_at hl 0 rfl) ?_
      refine lv_iload_n C.1 C.2.1 zd_O_about_77 rfl (lv_at hl 2 rfl) ?_
      refine lv_aload_n C.1 C.2.1 zd_O_about_78 rfl (lv_at hl 1 rfl) ?_
      refine zg_O_now (r := 0) C hK hW (zvd_3 (by decide) (by decide)) zk_492 zd_O_about_79 ?_
      refine zg_I_week (r := 0) C hK hW (zvd_0 (by decide) (by decide)) zk_242 zd_O_about_82 ?_
      obtain ⟨a5, S6, ea5, hf⟩ := zbd_some hf
      refine zcVi (As := [.int (zI (x1)), .int (zI (S2 0 0 0 0))]) (rest := []) C hK hSt hW hS (zc_P_kind hap (0) (by decide) x1 (S2 0 0 0 0) S2 nx1 (zWn hW _ _ _ _ rfl) ea5) zq_P_kind zk_553 (zrecv hK hW (zvd_0 (by decide) (by decide)) (ze_0_6 B _ (0)) rfl) ⟨rfl, rfl, by decide, by decide⟩ ⟨Nat.zero_le _, Nat.zero_le _⟩ rfl hl.1 rfl (lv_room (Nat.le_of_ble_eq_true rfl)) zd_O_about_85 (fun na5 H locs hW hS => ?_)
      cases hf
      exact zre_i C hr hlk hK hW hS na5 zd_O_about_88
    rw [if_neg c4] at hf
    by_cases c7 : x2 = 1
    · rw [if_pos c7] at hf
      refine zr_tab (off := 70) (tgt := 89) C nx2 zd_O_about_19 (by omega) (by omega) (by rw [c7]; rfl) (by decide) ?_
      refine lv_aload_n C.1 C.2.1 zd_O_about_89 rfl (lv_at hl 0 rfl) ?_
      refine lv_iload_n C.1 C.2.1 zd_O_about_90 rfl (lv_at hl 2 rfl) ?_
      refine lv_aload_n C.1 C.2.1 zd_O_about_91 rfl (lv_at hl 1 rfl) ?_
      refine zg_O_now (r := 0) C hK hW (zvd_3 (by decide) (by decide)) zk_492 zd_O_about_92 ?_
      refine zg_I_week (r := 0) C hK hW (zvd_0 (by decide) (by decide)) zk_242 zd_O_about_95 ?_
      obtain ⟨a8, S9, ea8, hf⟩ := zbd_some hf
      refine zcVi (As := [.int (zI (x1)), .int (zI (S2 0 0 0 0))]) (rest := []) C hK hSt hW hS (zc_P_age hap (0) (by decide) x1 (S2 0 0 0 0) S2 nx1 (zWn hW _ _ _ _ rfl) ea8) zq_P_age zk_561 (zrecv hK hW (zvd_0 (by decide) (by decide)) (ze_0_6 B _ (0)) rfl) ⟨rfl, rfl, by decide, by decide⟩ ⟨Nat.zero_le _, Nat.zero_le _⟩ rfl hl.1 rfl (lv_room (Nat.le_of_ble_eq_true rfl)) zd_O_about_98 (fun na8 H locs hW hS => ?_)
      cases hf
      exact zre_i C hr hlk hK hW hS na8 zd_O_about_101
    rw [if_neg c7] at hf
    by_cases c10 : x2 = 2
    · rw [if_pos c10] at hf
      refine zr_tab (off := 83) (tgt := 102) C nx2 zd_O_about_19 (by omega) (by omega) (by rw [c10]; rfl) (by decide) ?_
      refine lv_aload_n C.1 C.2.1 zd_O_about_102 rfl (lv_at hl 0 rfl) ?_
      refine zg_P_house (r := 0) C hK hW (zvd_0 (by decide) (by decide)) zk_60 zd_O_about_103 ?_
      refine lv_iload_n C.1 C.2.1 zd_O_about_106 rfl (lv_at hl 2 rfl) ?_
      obtain ⟨h11, hf⟩ := zck_some hf
      refine ziald C hK hW (zvd_0 (by decide) (by decide)) (fun f => ze_0_8 B f (0)) (by decide) h11 zd_O_about_107 ?_
      cases hf
      exact zre_i C hr hlk hK hW hS (zWn hW _ _ _ _ rfl) zd_O_about_108
    rw [if_neg c10] at hf
    by_cases c12 : x2 = 3
    · rw [if_pos c12] at hf
      refine zr_tab (off := 90) (tgt := 109) C nx2 zd_O_about_19 (by omega) (by omega) (by rw [c12]; rfl) (by decide) ?_
      refine lv_aload_n C.1 C.2.1 zd_O_about_109 rfl (lv_at hl 0 rfl) ?_
      refine zg_P_mother (r := 0) C hK hW (zvd_0 (by decide) (by decide)) zk_64 zd_O_about_110 ?_
      refine lv_iload_n C.1 C.2.1 zd_O_about_113 rfl (lv_at hl 2 rfl) ?_
      obtain ⟨h13, hf⟩ := zck_some hf
      refine ziald C hK hW (zvd_0 (by decide) (by decide)) (fun f => ze_0_9 B f (0)) (by decide) h13 zd_O_about_114 ?_
      refine zr_if_ge (tgt := 123) C (zWn hW _ _ _ _ rfl) zd_O_about_115 (by decide) (fun c14 => ?_) (fun c14 => ?_)
      · rw [if_pos c14] at hf
        refine lv_aload_n C.1 C.2.1 zd_O_about_123 rfl (lv_at hl 0 rfl) ?_
        refine zg_P_mother (r := 0) C hK hW (zvd_0 (by decide) (by decide)) zk_64 zd_O_about_124 ?_
        refine lv_iload_n C.1 C.2.1 zd_O_about_127 rfl (lv_at hl 2 rfl) ?_
        refine ziald C hK hW (zvd_0 (by decide) (by decide)) (fun f => ze_0_9 B f (0)) (by decide) h13 zd_O_about_128 ?_
        cases hf
        exact zre_i C hr hlk hK hW hS (zWn hW _ _ _ _ rfl) zd_O_about_129
      · rw [if_neg c14] at hf
        refine zr_bipush C zd_O_about_118 (by decide) ?_
        refine lv_goto (tgt := 129) C.1 C.2.1 zd_O_about_120 (by decide) ?_
        cases hf
        exact zre_i C hr hlk hK hW hS (znb rfl) zd_O_about_129
    rw [if_neg c12] at hf
    by_cases c15 : x2 = 4
    · rw [if_pos c15] at hf
      refine zr_tab (off := 111) (tgt := 130) C nx2 zd_O_about_19 (by omega) (by omega) (by rw [c15]; rfl) (by decide) ?_
      refine lv_aload_n C.1 C.2.1 zd_O_about_130 rfl (lv_at hl 0 rfl) ?_
      refine zg_P_skills (r := 0) C hK hW (zvd_0 (by decide) (by decide)) zk_69 zd_O_about_131 ?_
      refine lv_iload_n C.1 C.2.1 zd_O_about_134 rfl (lv_at hl 2 rfl) ?_
      obtain ⟨h16, hf⟩ := zck_some hf
      refine ziald C hK hW (zvd_0 (by decide) (by decide)) (fun f => ze_0_10 B f (0)) (by decide) h16 zd_O_about_135 ?_
      cases hf
      exact zre_i C hr hlk hK hW hS (zWn hW _ _ _ _ rfl) zd_O_about_136
    rw [if_neg c15] at hf
    by_cases c17 : x2 = 5
    · rw [if_pos c17] at hf
      refine zr_tab (off := 118) (tgt := 137) C nx2 zd_O_about_19 (by omega) (by omega) (by rw [c17]; rfl) (by decide) ?_
      refine lv_aload_n C.1 C.2.1 zd_O_about_137 rfl (lv_at hl 0 rfl) ?_
      refine zg_P_state (r := 0) C hK hW (zvd_0 (by decide) (by decide)) zk_73 zd_O_about_138 ?_
      refine lv_iload_n C.1 C.2.1 zd_O_about_141 rfl (lv_at hl 2 rfl) ?_
      obtain ⟨h18, hf⟩ := zck_some hf
      refine ziald C hK hW (zvd_0 (by decide) (by decide)) (fun f => ze_0_11 B f (0)) (by decide) h18 zd_O_about_142 ?_
      cases hf
      exact zre_i C hr hlk hK hW hS (zWn hW _ _ _ _ rfl) zd_O_about_143
    rw [if_neg c17] at hf
    by_cases c19 : x2 = 6
    · rw [if_pos c19] at hf
      refine zr_tab (off := 125) (tgt := 144) C nx2 zd_O_about_19 (by omega) (by omega) (by rw [c19]; rfl) (by decide) ?_
      refine lv_aload_n C.1 C.2.1 zd_O_about_144 rfl (lv_at hl 0 rfl) ?_
      refine zg_P_discontent (r := 0) C hK hW (zvd_0 (by decide) (by decide)) zk_79 zd_O_about_145 ?_
      refine lv_iload_n C.1 C.2.1 zd_O_about_148 rfl (lv_at hl 2 rfl) ?_
      obtain ⟨h20, hf⟩ := zck_some hf
      refine ziald C hK hW (zvd_0 (by decide) (by decide)) (fun f => ze_0_13 B f (0)) (by decide) h20 zd_O_about_149 ?_
      cases hf
      exact zre_i C hr hlk hK hW hS (zWn hW _ _ _ _ rfl) zd_O_about_150
    rw [if_neg c19] at hf
    by_cases c21 : x2 = 7
    · rw [if_pos c21] at hf
      refine zr_tab (off := 132) (tgt := 151) C nx2 zd_O_about_19 (by omega) (by omega) (by rw [c21]; rfl) (by decide) ?_
      refine lv_aload_n C.1 C.2.1 zd_O_about_151 rfl (lv_at hl 0 rfl) ?_
      refine zg_P_post (r := 0) C hK hW (zvd_0 (by decide) (by decide)) zk_83 zd_O_about_152 ?_
      refine lv_iload_n C.1 C.2.1 zd_O_about_155 rfl (lv_at hl 2 rfl) ?_
      obtain ⟨h22, hf⟩ := zck_some hf
      refine ziald C hK hW (zvd_0 (by decide) (by decide)) (fun f => ze_0_14 B f (0)) (by decide) h22 zd_O_about_156 ?_
      refine zr_if_ge (tgt := 165) C (zWn hW _ _ _ _ rfl) zd_O_about_157 (by decide) (fun c23 => ?_) (fun c23 => ?_)
      · rw [if_pos c23] at hf
        refine lv_aload_n C.1 C.2.1 zd_O_about_165 rfl (lv_at hl 0 rfl) ?_
        refine zg_P_post (r := 0) C hK hW (zvd_0 (by decide) (by decide)) zk_83 zd_O_about_166 ?_
        refine lv_iload_n C.1 C.2.1 zd_O_about_169 rfl (lv_at hl 2 rfl) ?_
        refine ziald C hK hW (zvd_0 (by decide) (by decide)) (fun f => ze_0_14 B f (0)) (by decide) h22 zd_O_about_170 ?_
        cases hf
        exact zre_i C hr hlk hK hW hS (zWn hW _ _ _ _ rfl) zd_O_about_171
      · rw [if_neg c23] at hf
        refine zr_bipush C zd_O_about_160 (by decide) ?_
        refine lv_goto (tgt := 171) C.1 C.2.1 zd_O_about_162 (by decide) ?_
        cases hf
        exact zre_i C hr hlk hK hW hS (znb rfl) zd_O_about_171
    rw [if_neg c21] at hf
    by_cases c24 : x2 = 8
    · rw [if_pos c24] at hf
      refine zr_tab (off := 153) (tgt := 172) C nx2 zd_O_about_19 (by omega) (by omega) (by rw [c24]; rfl) (by decide) ?_
      refine lv_aload_n C.1 C.2.1 zd_O_about_172 rfl (lv_at hl 0 rfl) ?_
      refine lv_iload_n C.1 C.2.1 zd_O_about_173 rfl (lv_at hl 2 rfl) ?_
      refine lv_aload_n C.1 C.2.1 zd_O_about_174 rfl (lv_at hl 1 rfl) ?_
      refine zg_O_now (r := 0) C hK hW (zvd_3 (by decide) (by decide)) zk_492 zd_O_about_175 ?_
      refine zg_I_week (r := 0) C hK hW (zvd_0 (by decide) (by decide)) zk_242 zd_O_about_178 ?_
      obtain ⟨a25, S26, ea25, hf⟩ := zbd_some hf
      refine zcVi (As := [.int (zI (x1)), .int (zI (S2 0 0 0 0))]) (rest := []) C hK hSt hW hS (zc_P_need hap (0) (by decide) x1 (S2 0 0 0 0) S2 nx1 (zWn hW _ _ _ _ rfl) ea25) zq_P_need zk_585 (zrecv hK hW (zvd_0 (by decide) (by decide)) (ze_0_6 B _ (0)) rfl) ⟨rfl, rfl, by decide, by decide⟩ ⟨Nat.zero_le _, Nat.zero_le _⟩ rfl hl.1 rfl (lv_room (Nat.le_of_ble_eq_true rfl)) zd_O_about_181 (fun na25 H locs hW hS => ?_)
      cases hf
      exact zre_i C hr hlk hK hW hS na25 zd_O_about_184
    rw [if_neg c24] at hf
    by_cases c27 : x2 = 9
    · rw [if_pos c27] at hf
      refine zr_tab (off := 166) (tgt := 185) C nx2 zd_O_about_19 (by omega) (by omega) (by rw [c27]; rfl) (by decide) ?_
      refine lv_aload_n C.1 C.2.1 zd_O_about_185 rfl (lv_at hl 0 rfl) ?_
      refine lv_iload_n C.1 C.2.1 zd_O_about_186 rfl (lv_at hl 2 rfl) ?_
      refine lv_aload_n C.1 C.2.1 zd_O_about_187 rfl (lv_at hl 1 rfl) ?_
      refine zg_O_now (r := 0) C hK hW (zvd_3 (by decide) (by decide)) zk_492 zd_O_about_188 ?_
      refine zg_I_week (r := 0) C hK hW (zvd_0 (by decide) (by decide)) zk_242 zd_O_about_191 ?_
      obtain ⟨a28, S29, ea28, hf⟩ := zbd_some hf
      refine zcVi (As := [.int (zI (x1)), .int (zI (S2 0 0 0 0))]) (rest := []) C hK hSt hW hS (zc_P_wage hap (0) (by decide) x1 (S2 0 0 0 0) S2 nx1 (zWn hW _ _ _ _ rfl) ea28) zq_P_wage zk_593 (zrecv hK hW (zvd_0 (by decide) (by decide)) (ze_0_6 B _ (0)) rfl) ⟨rfl, rfl, by decide, by decide⟩ ⟨Nat.zero_le _, Nat.zero_le _⟩ rfl hl.1 rfl (lv_room (Nat.le_of_ble_eq_true rfl)) zd_O_about_194 (fun na28 H locs hW hS => ?_)
      cases hf
      exact zre_i C hr hlk hK hW hS na28 zd_O_about_197
    rw [if_neg c27] at hf
    by_cases c30 : x2 = 10
    · rw [if_pos c30] at hf
      refine zr_tab (off := 179) (tgt := 198) C nx2 zd_O_about_19 (by omega) (by omega) (by rw [c30]; rfl) (by decide) ?_
      refine lv_aload_n C.1 C.2.1 zd_O_about_198 rfl (lv_at hl 0 rfl) ?_
      refine zg_P_hungry (r := 0) C hK hW (zvd_0 (by decide) (by decide)) zk_86 zd_O_about_199 ?_
      refine lv_iload_n C.1 C.2.1 zd_O_about_202 rfl (lv_at hl 2 rfl) ?_
      obtain ⟨h31, hf⟩ := zck_some hf
      refine ziald C hK hW (zvd_0 (by decide) (by decide)) (fun f => ze_0_15 B f (0)) (by decide) h31 zd_O_about_203 ?_
      cases hf
      exact zre_i C hr hlk hK hW hS (zWn hW _ _ _ _ rfl) zd_O_about_204
    rw [if_neg c30] at hf
    refine zr_tabo (tgt := 205) C nx2 zd_O_about_19 (by omega) (by decide) ?_
    refine zr_iconst C zd_O_about_205 ?_
    cases hf
    exact zre_i C hr hlk hK hW hS (znb rfl) zd_O_about_206
  · rw [if_pos c3] at hf
    refine zr_iconst C zd_O_about_16 ?_
    cases hf
    exact zre_i C hr hlk hK hW hS (znb rfl) zd_O_about_17

theorem zc_O_about {l : Launch} {B : zB} (hap : zAp B) (x1 : Int) (x2 : Int) (S : Sg) (nx1 : zn x1) (nx2 : zn x2) {res : Int} {S9 : Sg} (hf : zf_O_about x1 x2 S = some (res, S9)) : Met l zy_O_about (Cond.code zy_O_about zb_O_about 4 (some .int) :: zT) zm_O_about (zP B S [.ref (B.2.1 3 (0) (0)), .int (zI (x1)), .int (zI (x2))]) (zQi B res S9) 0 0 B.2.2.2 :=
  zmet (by decide) (Nat.le_of_ble_eq_true rfl) (fun p e s m args below meth c C hr hlk hK hSt hW ls hl => zw_O_about C hr hlk hK hSt hap   x1 x2 S nx1 nx2 hf _ _ _ hW va_S.rf hl)
/-! IslandOffice$People.headsOf(I)I -/
abbrev zy_P_headsOf : MethodName := ⟨"IslandOffice$People", "headsOf", "(I)I"⟩
abbrev zb_P_headsOf : ByteArray := prog_7_method_12_code
abbrev zm_P_headsOf : Room := { frames := 0, cells := 0, slots := 0, locals := 0 }
theorem zq_P_headsOf : zMy zy_P_headsOf zb_P_headsOf 4 (some .int) 1 := ⟨zk_607, zk_605, zk_606, zk_4, by decide, by decide, by decide +kernel⟩
theorem zd_P_headsOf_0 : decode zb_P_headsOf 0 = .ok (.iconst 0, 1) := by decide +kernel
theorem zd_P_headsOf_1 : decode zb_P_headsOf 1 = .ok (.istore_n 2, 1) := by decide +kernel
theorem zd_P_headsOf_2 : decode zb_P_headsOf 2 = .ok (.iconst 0, 1) := by decide +kernel
theorem zd_P_headsOf_3 : decode zb_P_headsOf 3 = .ok (.istore_n 3, 1) := by decide +kernel
theorem zd_P_headsOf_4 : decode zb_P_headsOf 4 = .ok (.iload_n 3, 1) := by decide +kernel
theorem zd_P_headsOf_5 : decode zb_P_headsOf 5 = .ok (.aload_n 0, 1) := by decide +kernel
theorem zd_P_headsOf_6 : decode zb_P_headsOf 6 = .ok (.getfield 9, 3) := by decide +kernel
theorem zd_P_headsOf_9 : decode zb_P_headsOf 9 = .ok (.if_icmp .ge 31, 3) := by decide +kernel
theorem zd_P_headsOf_12 : decode zb_P_headsOf 12 = .ok (.aload_n 0, 1) := by decide +kernel
theorem zd_P_headsOf_13 : decode zb_P_headsOf 13 = .ok (.getfield 28, 3) := by decide +kernel
theorem zd_P_headsOf_16 : decode zb_P_headsOf 16 = .ok (.iload_n 3, 1) := by decide +kernel
theorem zd_P_headsOf_17 : decode zb_P_headsOf 17 = .ok (.iaload, 1) := by decide +kernel
theorem zd_P_headsOf_18 : decode zb_P_headsOf 18 = .ok (.ifCond .ne 16, 3) := by decide +kernel
theorem zd_P_headsOf_21 : decode zb_P_headsOf 21 = .ok (.aload_n 0, 1) := by decide +kernel
theorem zd_P_headsOf_22 : decode zb_P_headsOf 22 = .ok (.getfield 19, 3) := by decide +kernel
theorem zd_P_headsOf_25 : decode zb_P_headsOf 25 = .ok (.iload_n 3, 1) := by decide +kernel
theorem zd_P_headsOf_26 : decode zb_P_headsOf 26 = .ok (.iaload, 1) := by decide +kernel
theorem zd_P_headsOf_27 : decode zb_P_headsOf 27 = .ok (.iload_n 1, 1) := by decide +kernel
theorem zd_P_headsOf_28 : decode zb_P_headsOf 28 = .ok (.if_icmp .ne 6, 3) := by decide +kernel
theorem zd_P_headsOf_31 : decode zb_P_headsOf 31 = .ok (.iinc 2 1, 3) := by decide +kernel
theorem zd_P_headsOf_34 : decode zb_P_headsOf 34 = .ok (.iinc 3 1, 3) := by decide +kernel
theorem zd_P_headsOf_37 : decode zb_P_headsOf 37 = .ok (.goto (-33), 3) := by decide +kernel
theorem zd_P_headsOf_40 : decode zb_P_headsOf 40 = .ok (.iload_n 2, 1) := by decide +kernel
theorem zd_P_headsOf_41 : decode zb_P_headsOf 41 = .ok (.ireturn, 1) := by decide +kernel

def zf_P_headsOf_34 (r0 : Int) (q4 : Int → Int → Int → Sg → Option (Int × Sg)) (x1 : Int) (x2 : Int) (x3 : Int) (S : Sg) : Option (Int × Sg) :=
    zlt (zw (x3 + 1)) fun v1 => q4 (x1) (x2) (v1) S
set_option maxHeartbeats 4000000 in
set_option maxRecDepth 100000 in
theorem zw_P_headsOf_34 {p : Program} {l : Launch} {e : Env} {s : State} {m : MethodId} {args : Array Value} {below : List Frame} {meth : Method} {c : Code} {B : zB} (C : CallFix p m c zb_P_headsOf 4 s args zT "IslandOffice$People") (hr : meth.sig.returnType = some .int) (hlk : meth.locks = false) (hK : zK B s) (hSt : zSt B s) (hap : zAp B) (r0 : Int) (hr0 : 0 ≤ r0 ∧ r0 < 3) {res : Int} {S9 : Sg} (q4 : Int → Int → Int → Sg → Option (Int × Sg)) (hq4 : ∀ (x1 : Int) (x2 : Int) (x3 : Int) (S : Sg) (nx1 : zn x1) (nx2 : zn x2) (nx3 : zn x3), q4 x1 x2 x3 S = some (res, S9) → ∀ (H : Heap) (locs : List Loc) (ls : Array Slot), zW B S H → va_S B.2.2.2 s.heap H locs → lv_has ls 4 [(0, .ref (B.2.1 0 (r0) (6))), (1, .int (zI (x1))), (2, .int (zI (x2))), (3, .int (zI (x3)))] → W p l e zm_P_headsOf s m args below meth c H locs 0 0 (MQ below (zQi B res S9) args s 0 0 B.2.2.2) (F0 m 4 ls [])) : ∀ (x1 : Int) (x2 : Int) (x3 : Int) (S : Sg) (nx1 : zn x1) (nx2 : zn x2) (nx3 : zn x3), zf_P_headsOf_34 r0 q4 x1 x2 x3 S = some (res, S9) → ∀ (H : Heap) (locs : List Loc) (ls : Array Slot), zW B S H → va_S B.2.2.2 s.heap H locs → lv_has ls 4 [(0, .ref (B.2.1 0 (r0) (6))), (1, .int (zI (x1))), (2, .int (zI (x2))), (3, .int (zI (x3)))] → W p l e zm_P_headsOf s m args below meth c H locs 0 0 (MQ below (zQi B res S9) args s 0 0 B.2.2.2) (F0 m 34 ls []) := by
  intro x1 x2 x3 S nx1 nx2 nx3 hf H locs ls hW hS hl
  unfold zf_P_headsOf_34 at hf
  obtain ⟨v1, ev1, hf⟩ := zlt_some hf
  have nv1 : zn v1 := by rw [← ev1]; exact zn_w _
  refine lv_iinc (v := zI v1) (lv' := [(3, .int (zI (v1))), (0, .ref (B.2.1 0 (r0) (6))), (1, .int (zI (x1))), (2, .int (zI (x2)))]) C.1 C.2.1 zd_P_headsOf_34 hl (k := 3) rfl (by rw [← ev1, ← zI_add]; rfl) (by decide) rfl (fun ls hl => ?_)
  refine lv_goto (tgt := 4) C.1 C.2.1 zd_P_headsOf_37 (by decide) ?_
  exact hq4 (x1) (x2) (v1) S nx1 nx2 nv1 hf _ _ _ hW hS (lv_sub hl [1, 2, 3, 0] rfl)

def zf_P_headsOf_4 (r0 : Int) : Nat → Int → Int → Int → Sg → Option (Int × Sg)
  | 0, _, _, _, _ => none
  | n + 1, x1, x2, x3, S =>
    if (S 0 r0 6 0) ≤ x3 then (some (x2, S)) else (zck (0 ≤ x3 ∧ x3 < 40) <| if (S 0 r0 11 x3) = 0 then (if (S 0 r0 8 x3) = x1 then (zlt (zw (x2 + 1)) fun v5 => zf_P_headsOf_34 r0 (zf_P_headsOf_4 r0 n) (x1) (v5) (x3) S) else (zf_P_headsOf_34 r0 (zf_P_headsOf_4 r0 n) (x1) (x2) (x3) S)) else (zf_P_headsOf_34 r0 (zf_P_headsOf_4 r0 n) (x1) (x2) (x3) S))
set_option maxHeartbeats 4000000 in
set_option maxRecDepth 100000 in
theorem zw_P_headsOf_4 {p : Program} {l : Launch} {e : Env} {s : State} {m : MethodId} {args : Array Value} {below : List Frame} {meth : Method} {c : Code} {B : zB} (C : CallFix p m c zb_P_headsOf 4 s args zT "IslandOffice$People") (hr : meth.sig.returnType = some .int) (hlk : meth.locks = false) (hK : zK B s) (hSt : zSt B s) (hap : zAp B) (r0 : Int) (hr0 : 0 ≤ r0 ∧ r0 < 3) {res : Int} {S9 : Sg} : ∀ n : Nat, ∀ (x1 : Int) (x2 : Int) (x3 : Int) (S : Sg) (nx1 : zn x1) (nx2 : zn x2) (nx3 : zn x3), zf_P_headsOf_4 r0 n x1 x2 x3 S = some (res, S9) → ∀ (H : Heap) (locs : List Loc) (ls : Array Slot), zW B S H → va_S B.2.2.2 s.heap H locs → lv_has ls 4 [(0, .ref (B.2.1 0 (r0) (6))), (1, .int (zI (x1))), (2, .int (zI (x2))), (3, .int (zI (x3)))] → W p l e zm_P_headsOf s m args below meth c H locs 0 0 (MQ below (zQi B res S9) args s 0 0 B.2.2.2) (F0 m 4 ls []) := by
  intro n
  induction n with
  | zero =>
    intro x1 x2 x3 S nx1 nx2 nx3 hf H locs ls hW hS hl
    cases hf
  | succ n ih =>
    intro x1 x2 x3 S nx1 nx2 nx3 hf H locs ls hW hS hl
    rw [zf_P_headsOf_4] at hf
    refine lv_iload_n C.1 C.2.1 zd_P_headsOf_4 rfl (lv_at hl 3 rfl) ?_
    refine lv_aload_n C.1 C.2.1 zd_P_headsOf_5 rfl (lv_at hl 0 rfl) ?_
    refine zg_P_n (r := r0) C hK hW (zvd_0 hr0 (by decide)) zk_52 zd_P_headsOf_6 ?_
    refine zr_icmp_ge (tgt := 40) C nx3 (zWn hW _ _ _ _ rfl) zd_P_headsOf_9 (by decide) (fun c1 => ?_) (fun c1 => ?_)
    · rw [if_pos c1] at hf
      refine lv_iload_n C.1 C.2.1 zd_P_headsOf_40 rfl (lv_at hl 2 rfl) ?_
      cases hf
      exact zre_i C hr hlk hK hW hS nx2 zd_P_headsOf_41
    · rw [if_neg c1] at hf
      refine lv_aload_n C.1 C.2.1 zd_P_headsOf_12 rfl (lv_at hl 0 rfl) ?_
      refine zg_P_state (r := r0) C hK hW (zvd_0 hr0 (by decide)) zk_70 zd_P_headsOf_13 ?_
      refine lv_iload_n C.1 C.2.1 zd_P_headsOf_16 rfl (lv_at hl 3 rfl) ?_
      obtain ⟨h2, hf⟩ := zck_some hf
      refine ziald C hK hW (zvd_0 hr0 (by decide)) (fun f => ze_0_11 B f (r0)) (by decide) h2 zd_P_headsOf_17 ?_
      refine zr_if_ne (tgt := 34) C (zWn hW _ _ _ _ rfl) zd_P_headsOf_18 (by decide) (fun c3 => ?_) (fun c3 => ?_)
      · rw [if_neg c3] at hf
        exact zw_P_headsOf_34 C hr hlk hK hSt hap r0 hr0 (zf_P_headsOf_4 r0 n) (ih) (x1) (x2) (x3) S nx1 nx2 nx3 hf _ _ _ hW hS (lv_sub hl [0, 1, 2, 3] rfl)
      · rw [if_pos c3] at hf
        refine lv_aload_n C.1 C.2.1 zd_P_headsOf_21 rfl (lv_at hl 0 rfl) ?_
        refine zg_P_house (r := r0) C hK hW (zvd_0 hr0 (by decide)) zk_58 zd_P_headsOf_22 ?_
        refine lv_iload_n C.1 C.2.1 zd_P_headsOf_25 rfl (lv_at hl 3 rfl) ?_
        refine ziald C hK hW (zvd_0 hr0 (by decide)) (fun f => ze_0_8 B f (r0)) (by decide) h2 zd_P_headsOf_26 ?_
        refine lv_iload_n C.1 C.2.1 zd_P_headsOf_27 rfl (lv_at hl 1 rfl) ?_
        refine zr_icmp_ne (tgt := 34) C (zWn hW _ _ _ _ rfl) nx1 zd_P_headsOf_28 (by decide) (fun c4 => ?_) (fun c4 => ?_)
        · rw [if_neg c4] at hf
          exact zw_P_headsOf_34 C hr hlk hK hSt hap r0 hr0 (zf_P_headsOf_4 r0 n) (ih) (x1) (x2) (x3) S nx1 nx2 nx3 hf _ _ _ hW hS (lv_sub hl [0, 1, 2, 3] rfl)
        · rw [if_pos c4] at hf
          obtain ⟨v5, ev5, hf⟩ := zlt_some hf
          have nv5 : zn v5 := by rw [← ev5]; exact zn_w _
          refine lv_iinc (v := zI v5) (lv' := [(2, .int (zI (v5))), (0, .ref (B.2.1 0 (r0) (6))), (1, .int (zI (x1))), (3, .int (zI (x3)))]) C.1 C.2.1 zd_P_headsOf_31 hl (k := 2) rfl (by rw [← ev5, ← zI_add]; rfl) (by decide) rfl (fun ls hl => ?_)
          exact zw_P_headsOf_34 C hr hlk hK hSt hap r0 hr0 (zf_P_headsOf_4 r0 n) (ih) (x1) (v5) (x3) S nx1 nv5 nx3 hf _ _ _ hW hS (lv_sub hl [1, 2, 0, 3] rfl)

def zf_P_headsOf (r0 : Int) (x1 : Int) (S : Sg) : Option (Int × Sg) :=
    zf_P_headsOf_4 r0 4096 (x1) (0) (0) S
set_option maxHeartbeats 4000000 in
set_option maxRecDepth 100000 in
theorem zw_P_headsOf {p : Program} {l : Launch} {e : Env} {s : State} {m : MethodId} {args : Array Value} {below : List Frame} {meth : Method} {c : Code} {B : zB} (C : CallFix p m c zb_P_headsOf 4 s args zT "IslandOffice$People") (hr : meth.sig.returnType = some .int) (hlk : meth.locks = false) (hK : zK B s) (hSt : zSt B s) (hap : zAp B) (r0 : Int) (hr0 : 0 ≤ r0 ∧ r0 < 3) {res : Int} {S9 : Sg} : ∀ (x1 : Int) (S : Sg) (nx1 : zn x1), zf_P_headsOf r0 x1 S = some (res, S9) → ∀ (H : Heap) (locs : List Loc) (ls : Array Slot), zW B S H → va_S B.2.2.2 s.heap H locs → lv_has ls 4 [(0, .ref (B.2.1 0 (r0) (6))), (1, .int (zI (x1)))] → W p l e zm_P_headsOf s m args below meth c H locs 0 0 (MQ below (zQi B res S9) args s 0 0 B.2.2.2) (F0 m 0 ls []) := by
  intro x1 S nx1 hf H locs ls hW hS hl
  unfold zf_P_headsOf at hf
  refine zr_iconst C zd_P_headsOf_0 ?_
  refine lv_istore_n (lv' := [(2, .int (zI (0))), (0, .ref (B.2.1 0 (r0) (6))), (1, .int (zI (x1)))]) C.1 C.2.1 zd_P_headsOf_1 rfl hl (by decide) rfl (fun ls hl => ?_)
  refine zr_iconst C zd_P_headsOf_2 ?_
  refine lv_istore_n (lv' := [(3, .int (zI (0))), (2, .int (zI (0))), (0, .ref (B.2.1 0 (r0) (6))), (1, .int (zI (x1)))]) C.1 C.2.1 zd_P_headsOf_3 rfl hl (by decide) rfl (fun ls hl => ?_)
  exact zw_P_headsOf_4 C hr hlk hK hSt hap r0 hr0 4096 (x1) (0) (0) S nx1 (znb rfl) (znb rfl) hf _ _ _ hW hS (lv_sub hl [2, 3, 1, 0] rfl)

theorem zc_P_headsOf {l : Launch} {B : zB} (hap : zAp B) (r0 : Int) (hr0 : 0 ≤ r0 ∧ r0 < 3) (x1 : Int) (S : Sg) (nx1 : zn x1) {res : Int} {S9 : Sg} (hf : zf_P_headsOf r0 x1 S = some (res, S9)) : Met l zy_P_headsOf (Cond.code zy_P_headsOf zb_P_headsOf 4 (some .int) :: zT) zm_P_headsOf (zP B S [.ref (B.2.1 0 (r0) (6)), .int (zI (x1))]) (zQi B res S9) 0 0 B.2.2.2 :=
  zmet (by decide) (Nat.le_of_ble_eq_true rfl) (fun p e s m args below meth c C hr hlk hK hSt hW ls hl => zw_P_headsOf C hr hlk hK hSt hap r0 hr0 x1 S nx1 hf _ _ _ hW va_S.rf hl)
/-! IslandOffice.home(II)I -/
abbrev zy_O_home : MethodName := ⟨"IslandOffice", "home", "(II)I"⟩
abbrev zb_O_home : ByteArray := prog_1_method_11_code
abbrev zm_O_home : Room := { frames := 1, cells := 0, slots := 0, locals := 23 }
theorem zq_O_home : zMy zy_O_home zb_O_home 3 (some .int) 2 := ⟨zk_603, zk_601, zk_602, zk_1, by decide, by decide, by decide +kernel⟩
theorem zd_O_home_0 : decode zb_O_home 0 = .ok (.iload_n 1, 1) := by decide +kernel
theorem zd_O_home_1 : decode zb_O_home 1 = .ok (.invokestatic 75, 3) := by decide +kernel
theorem zd_O_home_4 : decode zb_O_home 4 = .ok (.ifCond .ne 5, 3) := by decide +kernel
theorem zd_O_home_7 : decode zb_O_home 7 = .ok (.iconst (-1), 1) := by decide +kernel
theorem zd_O_home_8 : decode zb_O_home 8 = .ok (.ireturn, 1) := by decide +kernel
theorem zd_O_home_9 : decode zb_O_home 9 = .ok (.iload_n 2, 1) := by decide +kernel
theorem zd_O_home_10 : decode zb_O_home 10 = .ok (.tableswitch 86 0 4 #[34, 46, 56, 66, 76], 34) := by decide +kernel
theorem zd_O_home_44 : decode zb_O_home 44 = .ok (.aload_n 0, 1) := by decide +kernel
theorem zd_O_home_45 : decode zb_O_home 45 = .ok (.getfield 16, 3) := by decide +kernel
theorem zd_O_home_48 : decode zb_O_home 48 = .ok (.getfield 81, 3) := by decide +kernel
theorem zd_O_home_51 : decode zb_O_home 51 = .ok (.iload_n 1, 1) := by decide +kernel
theorem zd_O_home_52 : decode zb_O_home 52 = .ok (.invokevirtual 141, 3) := by decide +kernel
theorem zd_O_home_55 : decode zb_O_home 55 = .ok (.ireturn, 1) := by decide +kernel
theorem zd_O_home_56 : decode zb_O_home 56 = .ok (.aload_n 0, 1) := by decide +kernel
theorem zd_O_home_57 : decode zb_O_home 57 = .ok (.getfield 16, 3) := by decide +kernel
theorem zd_O_home_60 : decode zb_O_home 60 = .ok (.getfield 120, 3) := by decide +kernel
theorem zd_O_home_63 : decode zb_O_home 63 = .ok (.iload_n 1, 1) := by decide +kernel
theorem zd_O_home_64 : decode zb_O_home 64 = .ok (.iaload, 1) := by decide +kernel
theorem zd_O_home_65 : decode zb_O_home 65 = .ok (.ireturn, 1) := by decide +kernel
theorem zd_O_home_66 : decode zb_O_home 66 = .ok (.aload_n 0, 1) := by decide +kernel
theorem zd_O_home_67 : decode zb_O_home 67 = .ok (.getfield 16, 3) := by decide +kernel
theorem zd_O_home_70 : decode zb_O_home 70 = .ok (.getfield 145, 3) := by decide +kernel
theorem zd_O_home_73 : decode zb_O_home 73 = .ok (.iload_n 1, 1) := by decide +kernel
theorem zd_O_home_74 : decode zb_O_home 74 = .ok (.iaload, 1) := by decide +kernel
theorem zd_O_home_75 : decode zb_O_home 75 = .ok (.ireturn, 1) := by decide +kernel
theorem zd_O_home_76 : decode zb_O_home 76 = .ok (.aload_n 0, 1) := by decide +kernel
theorem zd_O_home_77 : decode zb_O_home 77 = .ok (.getfield 16, 3) := by decide +kernel
theorem zd_O_home_80 : decode zb_O_home 80 = .ok (.getfield 123, 3) := by decide +kernel
theorem zd_O_home_83 : decode zb_O_home 83 = .ok (.iload_n 1, 1) := by decide +kernel
theorem zd_O_home_84 : decode zb_O_home 84 = .ok (.iaload, 1) := by decide +kernel
theorem zd_O_home_85 : decode zb_O_home 85 = .ok (.ireturn, 1) := by decide +kernel
theorem zd_O_home_86 : decode zb_O_home 86 = .ok (.aload_n 0, 1) := by decide +kernel
theorem zd_O_home_87 : decode zb_O_home 87 = .ok (.getfield 16, 3) := by decide +kernel
theorem zd_O_home_90 : decode zb_O_home 90 = .ok (.getfield 148, 3) := by decide +kernel
theorem zd_O_home_93 : decode zb_O_home 93 = .ok (.iload_n 1, 1) := by decide +kernel
theorem zd_O_home_94 : decode zb_O_home 94 = .ok (.iaload, 1) := by decide +kernel
theorem zd_O_home_95 : decode zb_O_home 95 = .ok (.ireturn, 1) := by decide +kernel
theorem zd_O_home_96 : decode zb_O_home 96 = .ok (.iconst (-1), 1) := by decide +kernel
theorem zd_O_home_97 : decode zb_O_home 97 = .ok (.ireturn, 1) := by decide +kernel

def zf_O_home (x1 : Int) (x2 : Int) (S : Sg) : Option (Int × Sg) :=
    zbd (zf_O_isHouse x1 S) fun a1 S2 => if a1 = 0 then (some (-1, S2)) else (if x2 = 0 then (zbd (zf_P_headsOf (0) x1 S2) fun a5 S6 => some (a5, S6)) else (if x2 = 1 then (zck (0 ≤ x1 ∧ x1 < 12) <| some (S2 0 0 2 x1, S2)) else (if x2 = 2 then (zck (0 ≤ x1 ∧ x1 < 12) <| some (S2 0 0 3 x1, S2)) else (if x2 = 3 then (zck (0 ≤ x1 ∧ x1 < 12) <| some (S2 0 0 4 x1, S2)) else (if x2 = 4 then (zck (0 ≤ x1 ∧ x1 < 12) <| some (S2 0 0 5 x1, S2)) else (some (-1, S2)))))))
set_option maxHeartbeats 4000000 in
set_option maxRecDepth 100000 in
theorem zw_O_home {p : Program} {l : Launch} {e : Env} {s : State} {m : MethodId} {args : Array Value} {below : List Frame} {meth : Method} {c : Code} {B : zB} (C : CallFix p m c zb_O_home 3 s args zT "IslandOffice") (hr : meth.sig.returnType = some .int) (hlk : meth.locks = false) (hK : zK B s) (hSt : zSt B s) (hap : zAp B) {res : Int} {S9 : Sg} : ∀ (x1 : Int) (x2 : Int) (S : Sg) (nx1 : zn x1) (nx2 : zn x2), zf_O_home x1 x2 S = some (res, S9) → ∀ (H : Heap) (locs : List Loc) (ls : Array Slot), zW B S H → va_S B.2.2.2 s.heap H locs → lv_has ls 3 [(0, .ref (B.2.1 3 (0) (0))), (1, .int (zI (x1))), (2, .int (zI (x2)))] → W p l e zm_O_home s m args below meth c H locs 0 0 (MQ below (zQi B res S9) args s 0 0 B.2.2.2) (F0 m 0 ls []) := by
  intro x1 x2 S nx1 nx2 hf H locs ls hW hS hl
  unfold zf_O_home at hf
  refine lv_iload_n C.1 C.2.1 zd_O_home_0 rfl (lv_at hl 1 rfl) ?_
  obtain ⟨a1, S2, ea1, hf⟩ := zbd_some hf
  refine zcSi (As := [.int (zI (x1))]) (rest := []) C hK hSt hW hS (zc_O_isHouse hap x1 S nx1 ea1) zq_O_isHouse zk_531 ⟨rfl, rfl, by decide, by decide⟩ ⟨Nat.zero_le _, Nat.zero_le _⟩ rfl hl.1 rfl (lv_room (Nat.le_of_ble_eq_true rfl)) zd_O_home_1 (fun na1 H locs hW hS => ?_)
  refine zr_if_ne (tgt := 9) C na1 zd_O_home_4 (by decide) (fun c3 => ?_) (fun c3 => ?_)
  · rw [if_neg c3] at hf
    refine lv_iload_n C.1 C.2.1 zd_O_home_9 rfl (lv_at hl 2 rfl) ?_
    by_cases c4 : x2 = 0
    · rw [if_pos c4] at hf
      refine zr_tab (off := 34) (tgt := 44) C nx2 zd_O_home_10 (by omega) (by omega) (by rw [c4]; rfl) (by decide) ?_
      refine lv_aload_n C.1 C.2.1 zd_O_home_44 rfl (lv_at hl 0 rfl) ?_
      refine zg_O_now (r := 0) C hK hW (zvd_3 (by decide) (by decide)) zk_492 zd_O_home_45 ?_
      refine zg_I_people (r := 0) C hK hW (zvd_0 (by decide) (by decide)) zk_280 zd_O_home_48 ?_
      refine lv_iload_n C.1 C.2.1 zd_O_home_51 rfl (lv_at hl 1 rfl) ?_
      obtain ⟨a5, S6, ea5, hf⟩ := zbd_some hf
      refine zcVi (As := [.int (zI (x1))]) (rest := []) C hK hSt hW hS (zc_P_headsOf hap (0) (by decide) x1 S2 nx1 ea5) zq_P_headsOf zk_604 (zrecv hK hW (zvd_0 (by decide) (by decide)) (ze_0_6 B _ (0)) rfl) ⟨rfl, rfl, by decide, by decide⟩ ⟨Nat.zero_le _, Nat.zero_le _⟩ rfl hl.1 rfl (lv_room (Nat.le_of_ble_eq_true rfl)) zd_O_home_52 (fun na5 H locs hW hS => ?_)
      cases hf
      exact zre_i C hr hlk hK hW hS na5 zd_O_home_55
    rw [if_neg c4] at hf
    by_cases c7 : x2 = 1
    · rw [if_pos c7] at hf
      refine zr_tab (off := 46) (tgt := 56) C nx2 zd_O_home_10 (by omega) (by omega) (by rw [c7]; rfl) (by decide) ?_
      refine lv_aload_n C.1 C.2.1 zd_O_home_56 rfl (lv_at hl 0 rfl) ?_
      refine zg_O_now (r := 0) C hK hW (zvd_3 (by decide) (by decide)) zk_492 zd_O_home_57 ?_
      refine zg_I_cattle (r := 0) C hK hW (zvd_0 (by decide) (by decide)) zk_268 zd_O_home_60 ?_
      refine lv_iload_n C.1 C.2.1 zd_O_home_63 rfl (lv_at hl 1 rfl) ?_
      obtain ⟨h8, hf⟩ := zck_some hf
      refine ziald C hK hW (zvd_0 (by decide) (by decide)) (fun f => ze_0_2 B f (0)) (by decide) h8 zd_O_home_64 ?_
      cases hf
      exact zre_i C hr hlk hK hW hS (zWn hW _ _ _ _ rfl) zd_O_home_65
    rw [if_neg c7] at hf
    by_cases c9 : x2 = 2
    · rw [if_pos c9] at hf
      refine zr_tab (off := 56) (tgt := 66) C nx2 zd_O_home_10 (by omega) (by omega) (by rw [c9]; rfl) (by decide) ?_
      refine lv_aload_n C.1 C.2.1 zd_O_home_66 rfl (lv_at hl 0 rfl) ?_
      refine zg_O_now (r := 0) C hK hW (zvd_3 (by decide) (by decide)) zk_492 zd_O_home_67 ?_
      refine zg_I_tank (r := 0) C hK hW (zvd_0 (by decide) (by decide)) zk_271 zd_O_home_70 ?_
      refine lv_iload_n C.1 C.2.1 zd_O_home_73 rfl (lv_at hl 1 rfl) ?_
      obtain ⟨h10, hf⟩ := zck_some hf
      refine ziald C hK hW (zvd_0 (by decide) (by decide)) (fun f => ze_0_3 B f (0)) (by decide) h10 zd_O_home_74 ?_
      cases hf
      exact zre_i C hr hlk hK hW hS (zWn hW _ _ _ _ rfl) zd_O_home_75
    rw [if_neg c9] at hf
    by_cases c11 : x2 = 3
    · rw [if_pos c11] at hf
      refine zr_tab (off := 66) (tgt := 76) C nx2 zd_O_home_10 (by omega) (by omega) (by rw [c11]; rfl) (by decide) ?_
      refine lv_aload_n C.1 C.2.1 zd_O_home_76 rfl (lv_at hl 0 rfl) ?_
      refine zg_O_now (r := 0) C hK hW (zvd_3 (by decide) (by decide)) zk_492 zd_O_home_77 ?_
      refine zg_I_roof (r := 0) C hK hW (zvd_0 (by decide) (by decide)) zk_274 zd_O_home_80 ?_
      refine lv_iload_n C.1 C.2.1 zd_O_home_83 rfl (lv_at hl 1 rfl) ?_
      obtain ⟨h12, hf⟩ := zck_some hf
      refine ziald C hK hW (zvd_0 (by decide) (by decide)) (fun f => ze_0_4 B f (0)) (by decide) h12 zd_O_home_84 ?_
      cases hf
      exact zre_i C hr hlk hK hW hS (zWn hW _ _ _ _ rfl) zd_O_home_85
    rw [if_neg c11] at hf
    by_cases c13 : x2 = 4
    · rw [if_pos c13] at hf
      refine zr_tab (off := 76) (tgt := 86) C nx2 zd_O_home_10 (by omega) (by omega) (by rw [c13]; rfl) (by decide) ?_
      refine lv_aload_n C.1 C.2.1 zd_O_home_86 rfl (lv_at hl 0 rfl) ?_
      refine zg_O_now (r := 0) C hK hW (zvd_3 (by decide) (by decide)) zk_492 zd_O_home_87 ?_
      refine zg_I_dry (r := 0) C hK hW (zvd_0 (by decide) (by decide)) zk_277 zd_O_home_90 ?_
      refine lv_iload_n C.1 C.2.1 zd_O_home_93 rfl (lv_at hl 1 rfl) ?_
      obtain ⟨h14, hf⟩ := zck_some hf
      refine ziald C hK hW (zvd_0 (by decide) (by decide)) (fun f => ze_0_5 B f (0)) (by decide) h14 zd_O_home_94 ?_
      cases hf
      exact zre_i C hr hlk hK hW hS (zWn hW _ _ _ _ rfl) zd_O_home_95
    rw [if_neg c13] at hf
    refine zr_tabo (tgt := 96) C nx2 zd_O_home_10 (by omega) (by decide) ?_
    refine zr_iconst C zd_O_home_96 ?_
    cases hf
    exact zre_i C hr hlk hK hW hS (znb rfl) zd_O_home_97
  · rw [if_pos c3] at hf
    refine zr_iconst C zd_O_home_7 ?_
    cases hf
    exact zre_i C hr hlk hK hW hS (znb rfl) zd_O_home_8

theorem zc_O_home {l : Launch} {B : zB} (hap : zAp B) (x1 : Int) (x2 : Int) (S : Sg) (nx1 : zn x1) (nx2 : zn x2) {res : Int} {S9 : Sg} (hf : zf_O_home x1 x2 S = some (res, S9)) : Met l zy_O_home (Cond.code zy_O_home zb_O_home 3 (some .int) :: zT) zm_O_home (zP B S [.ref (B.2.1 3 (0) (0)), .int (zI (x1)), .int (zI (x2))]) (zQi B res S9) 0 0 B.2.2.2 :=
  zmet (by decide) (Nat.le_of_ble_eq_true rfl) (fun p e s m args below meth c C hr hlk hK hSt hW ls hl => zw_O_home C hr hlk hK hSt hap   x1 x2 S nx1 nx2 hf _ _ _ hW va_S.rf hl)
/-! IslandOffice.isShelf(I)Z -/
abbrev zy_O_isShelf : MethodName := ⟨"IslandOffice", "isShelf", "(I)Z"⟩
abbrev zb_O_isShelf : ByteArray := prog_1_method_53_code
abbrev zm_O_isShelf : Room := { frames := 0, cells := 0, slots := 0, locals := 0 }
theorem zq_O_isShelf : zMs zy_O_isShelf zb_O_isShelf 1 (some .boolean) 1 := ⟨zk_614, zk_613, zk_1, by decide, by decide, by decide +kernel⟩
theorem zd_O_isShelf_0 : decode zb_O_isShelf 0 = .ok (.iload_n 0, 1) := by decide +kernel
theorem zd_O_isShelf_1 : decode zb_O_isShelf 1 = .ok (.ifCond .lt 13, 3) := by decide +kernel
theorem zd_O_isShelf_4 : decode zb_O_isShelf 4 = .ok (.iload_n 0, 1) := by decide +kernel
theorem zd_O_isShelf_5 : decode zb_O_isShelf 5 = .ok (.bipush 8, 2) := by decide +kernel
theorem zd_O_isShelf_7 : decode zb_O_isShelf 7 = .ok (.if_icmp .ge 7, 3) := by decide +kernel
theorem zd_O_isShelf_10 : decode zb_O_isShelf 10 = .ok (.iconst 1, 1) := by decide +kernel
theorem zd_O_isShelf_11 : decode zb_O_isShelf 11 = .ok (.goto 4, 3) := by decide +kernel
theorem zd_O_isShelf_14 : decode zb_O_isShelf 14 = .ok (.iconst 0, 1) := by decide +kernel
theorem zd_O_isShelf_15 : decode zb_O_isShelf 15 = .ok (.ireturn, 1) := by decide +kernel

def zf_O_isShelf (x0 : Int) (S : Sg) : Option (Int × Sg) :=
    if x0 < 0 then (some (0, S)) else (if 8 ≤ x0 then (some (0, S)) else (some (1, S)))
set_option maxHeartbeats 4000000 in
set_option maxRecDepth 100000 in
theorem zw_O_isShelf {p : Program} {l : Launch} {e : Env} {s : State} {m : MethodId} {args : Array Value} {below : List Frame} {meth : Method} {c : Code} {B : zB} (C : CallFix p m c zb_O_isShelf 1 s args zT "IslandOffice") (hr : meth.sig.returnType = some .boolean) (hlk : meth.locks = false) (hK : zK B s) (hSt : zSt B s) (hap : zAp B) {res : Int} {S9 : Sg} : ∀ (x0 : Int) (S : Sg) (nx0 : zn x0), zf_O_isShelf x0 S = some (res, S9) → ∀ (H : Heap) (locs : List Loc) (ls : Array Slot), zW B S H → va_S B.2.2.2 s.heap H locs → lv_has ls 1 [(0, .int (zI (x0)))] → W p l e zm_O_isShelf s m args below meth c H locs 0 0 (MQ below (zQi B res S9) args s 0 0 B.2.2.2) (F0 m 0 ls []) := by
  intro x0 S nx0 hf H locs ls hW hS hl
  unfold zf_O_isShelf at hf
  refine lv_iload_n C.1 C.2.1 zd_O_isShelf_0 rfl (lv_at hl 0 rfl) ?_
  refine zr_if_lt (tgt := 14) C nx0 zd_O_isShelf_1 (by decide) (fun c1 => ?_) (fun c1 => ?_)
  · rw [if_pos c1] at hf
    refine zr_iconst C zd_O_isShelf_14 ?_
    cases hf
    exact zre_z C hr hlk hK hW hS (znb rfl) (zb01 (by decide)) zd_O_isShelf_15
  · rw [if_neg c1] at hf
    refine lv_iload_n C.1 C.2.1 zd_O_isShelf_4 rfl (lv_at hl 0 rfl) ?_
    refine zr_bipush C zd_O_isShelf_5 (by decide) ?_
    refine zr_icmp_ge (tgt := 14) C nx0 (znb rfl) zd_O_isShelf_7 (by decide) (fun c2 => ?_) (fun c2 => ?_)
    · rw [if_pos c2] at hf
      refine zr_iconst C zd_O_isShelf_14 ?_
      cases hf
      exact zre_z C hr hlk hK hW hS (znb rfl) (zb01 (by decide)) zd_O_isShelf_15
    · rw [if_neg c2] at hf
      refine zr_iconst C zd_O_isShelf_10 ?_
      refine lv_goto (tgt := 15) C.1 C.2.1 zd_O_isShelf_11 (by decide) ?_
      cases hf
      exact zre_z C hr hlk hK hW hS (znb rfl) (zb01 (by decide)) zd_O_isShelf_15

theorem zc_O_isShelf {l : Launch} {B : zB} (hap : zAp B) (x0 : Int) (S : Sg) (nx0 : zn x0) {res : Int} {S9 : Sg} (hf : zf_O_isShelf x0 S = some (res, S9)) : Met l zy_O_isShelf (Cond.code zy_O_isShelf zb_O_isShelf 1 (some .boolean) :: zT) zm_O_isShelf (zP B S [.int (zI (x0))]) (zQi B res S9) 0 0 B.2.2.2 :=
  zmet (by decide) (Nat.le_of_ble_eq_true rfl) (fun p e s m args below meth c C hr hlk hK hSt hW ls hl => zw_O_isShelf C hr hlk hK hSt hap   x0 S nx0 hf _ _ _ hW va_S.rf hl)
/-! IslandOffice$Reader.fieldStep(I)I -/
abbrev zy_R_fieldStep : MethodName := ⟨"IslandOffice$Reader", "fieldStep", "(I)I"⟩
abbrev zb_R_fieldStep : ByteArray := prog_9_method_12_code
abbrev zm_R_fieldStep : Room := { frames := 0, cells := 0, slots := 0, locals := 0 }
theorem zq_R_fieldStep : zMs zy_R_fieldStep zb_R_fieldStep 1 (some .int) 1 := ⟨zk_649, zk_648, zk_10, by decide, by decide, by decide +kernel⟩
theorem zd_R_fieldStep_0 : decode zb_R_fieldStep 0 = .ok (.iload_n 0, 1) := by decide +kernel
theorem zd_R_fieldStep_1 : decode zb_R_fieldStep 1 = .ok (.tableswitch 127 97 119 #[107, 127, 115, 124, 127, 127, 127, 112, 127, 127, 109, 127, 127, 127, 127, 127, 127, 127, 118, 127, 127, 127, 121], 107) := by decide +kernel
theorem zd_R_fieldStep_108 : decode zb_R_fieldStep 108 = .ok (.iconst (-1), 1) := by decide +kernel
theorem zd_R_fieldStep_109 : decode zb_R_fieldStep 109 = .ok (.ireturn, 1) := by decide +kernel
theorem zd_R_fieldStep_110 : decode zb_R_fieldStep 110 = .ok (.bipush (-2), 2) := by decide +kernel
theorem zd_R_fieldStep_112 : decode zb_R_fieldStep 112 = .ok (.ireturn, 1) := by decide +kernel
theorem zd_R_fieldStep_113 : decode zb_R_fieldStep 113 = .ok (.bipush (-3), 2) := by decide +kernel
theorem zd_R_fieldStep_115 : decode zb_R_fieldStep 115 = .ok (.ireturn, 1) := by decide +kernel
theorem zd_R_fieldStep_116 : decode zb_R_fieldStep 116 = .ok (.bipush (-4), 2) := by decide +kernel
theorem zd_R_fieldStep_118 : decode zb_R_fieldStep 118 = .ok (.ireturn, 1) := by decide +kernel
theorem zd_R_fieldStep_119 : decode zb_R_fieldStep 119 = .ok (.bipush (-5), 2) := by decide +kernel
theorem zd_R_fieldStep_121 : decode zb_R_fieldStep 121 = .ok (.ireturn, 1) := by decide +kernel
theorem zd_R_fieldStep_122 : decode zb_R_fieldStep 122 = .ok (.bipush (-6), 2) := by decide +kernel
theorem zd_R_fieldStep_124 : decode zb_R_fieldStep 124 = .ok (.ireturn, 1) := by decide +kernel
theorem zd_R_fieldStep_125 : decode zb_R_fieldStep 125 = .ok (.bipush (-7), 2) := by decide +kernel
theorem zd_R_fieldStep_127 : decode zb_R_fieldStep 127 = .ok (.ireturn, 1) := by decide +kernel
theorem zd_R_fieldStep_128 : decode zb_R_fieldStep 128 = .ok (.iconst 0, 1) := by decide +kernel
theorem zd_R_fieldStep_129 : decode zb_R_fieldStep 129 = .ok (.ireturn, 1) := by decide +kernel

def zf_R_fieldStep (x0 : Int) (S : Sg) : Option (Int × Sg) :=
    if x0 = 97 then (some (-1, S)) else (if x0 = 98 then (some (0, S)) else (if x0 = 99 then (some (-4, S)) else (if x0 = 100 then (some (-7, S)) else (if x0 = 101 then (some (0, S)) else (if x0 = 102 then (some (0, S)) else (if x0 = 103 then (some (0, S)) else (if x0 = 104 then (some (-3, S)) else (if x0 = 105 then (some (0, S)) else (if x0 = 106 then (some (0, S)) else (if x0 = 107 then (some (-2, S)) else (if x0 = 108 then (some (0, S)) else (if x0 = 109 then (some (0, S)) else (if x0 = 110 then (some (0, S)) else (if x0 = 111 then (some (0, S)) else (if x0 = 112 then (some (0, S)) else (if x0 = 113 then (some (0, S)) else (if x0 = 114 then (some (0, S)) else (if x0 = 115 then (some (-5, S)) else (if x0 = 116 then (some (0, S)) else (if x0 = 117 then (some (0, S)) else (if x0 = 118 then (some (0, S)) else (if x0 = 119 then (some (-6, S)) else (some (0, S))))))))))))))))))))))))
set_option maxHeartbeats 4000000 in
set_option maxRecDepth 100000 in
theorem zw_R_fieldStep {p : Program} {l : Launch} {e : Env} {s : State} {m : MethodId} {args : Array Value} {below : List Frame} {meth : Method} {c : Code} {B : zB} (C : CallFix p m c zb_R_fieldStep 1 s args zT "IslandOffice$Reader") (hr : meth.sig.returnType = some .int) (hlk : meth.locks = false) (hK : zK B s) (hSt : zSt B s) (hap : zAp B) {res : Int} {S9 : Sg} : ∀ (x0 : Int) (S : Sg) (nx0 : zn x0), zf_R_fieldStep x0 S = some (res, S9) → ∀ (H : Heap) (locs : List Loc) (ls : Array Slot), zW B S H → va_S B.2.2.2 s.heap H locs → lv_has ls 1 [(0, .int (zI (x0)))] → W p l e zm_R_fieldStep s m args below meth c H locs 0 0 (MQ below (zQi B res S9) args s 0 0 B.2.2.2) (F0 m 0 ls []) := by
  intro x0 S nx0 hf H locs ls hW hS hl
  unfold zf_R_fieldStep at hf
  refine lv_iload_n C.1 C.2.1 zd_R_fieldStep_0 rfl (lv_at hl 0 rfl) ?_
  by_cases c1 : x0 = 97
  · rw [if_pos c1] at hf
    refine zr_tab (off := 107) (tgt := 108) C nx0 zd_R_fieldStep_1 (by omega) (by omega) (by rw [c1]; rfl) (by decide) ?_
    refine zr_iconst C zd_R_fieldStep_108 ?_
    cases hf
    exact zre_i C hr hlk hK hW hS (znb rfl) zd_R_fieldStep_109
  rw [if_neg c1] at hf
  by_cases c2 : x0 = 98
  · rw [if_pos c2] at hf
    refine zr_tab (off := 127) (tgt := 128) C nx0 zd_R_fieldStep_1 (by omega) (by omega) (by rw [c2]; rfl) (by decide) ?_
    refine zr_iconst C zd_R_fieldStep_128 ?_
    cases hf
    exact zre_i C hr hlk hK hW hS (znb rfl) zd_R_fieldStep_129
  rw [if_neg c2] at hf
  by_cases c3 : x0 = 99
  · rw [if_pos c3] at hf
    refine zr_tab (off := 115) (tgt := 116) C nx0 zd_R_fieldStep_1 (by omega) (by omega) (by rw [c3]; rfl) (by decide) ?_
    refine zr_bipush C zd_R_fieldStep_116 (by decide) ?_
    cases hf
    exact zre_i C hr hlk hK hW hS (znb rfl) zd_R_fieldStep_118
  rw [if_neg c3] at hf
  by_cases c4 : x0 = 100
  · rw [if_pos c4] at hf
    refine zr_tab (off := 124) (tgt := 125) C nx0 zd_R_fieldStep_1 (by omega) (by omega) (by rw [c4]; rfl) (by decide) ?_
    refine zr_bipush C zd_R_fieldStep_125 (by decide) ?_
    cases hf
    exact zre_i C hr hlk hK hW hS (znb rfl) zd_R_fieldStep_127
  rw [if_neg c4] at hf
  by_cases c5 : x0 = 101
  · rw [if_pos c5] at hf
    refine zr_tab (off := 127) (tgt := 128) C nx0 zd_R_fieldStep_1 (by omega) (by omega) (by rw [c5]; rfl) (by decide) ?_
    refine zr_iconst C zd_R_fieldStep_128 ?_
    cases hf
    exact zre_i C hr hlk hK hW hS (znb rfl) zd_R_fieldStep_129
  rw [if_neg c5] at hf
  by_cases c6 : x0 = 102
  · rw [if_pos c6] at hf
    refine zr_tab (off := 127) (tgt := 128) C nx0 zd_R_fieldStep_1 (by omega) (by omega) (by rw [c6]; rfl) (by decide) ?_
    refine zr_iconst C zd_R_fieldStep_128 ?_
    cases hf
    exact zre_i C hr hlk hK hW hS (znb rfl) zd_R_fieldStep_129
  rw [if_neg c6] at hf
  by_cases c7 : x0 = 103
  · rw [if_pos c7] at hf
    refine zr_tab (off := 127) (tgt := 128) C nx0 zd_R_fieldStep_1 (by omega) (by omega) (by rw [c7]; rfl) (by decide) ?_
    refine zr_iconst C zd_R_fieldStep_128 ?_
    cases hf
    exact zre_i C hr hlk hK hW hS (znb rfl) zd_R_fieldStep_129
  rw [if_neg c7] at hf
  by_cases c8 : x0 = 104
  · rw [if_pos c8] at hf
    refine zr_tab (off := 112) (tgt := 113) C nx0 zd_R_fieldStep_1 (by omega) (by omega) (by rw [c8]; rfl) (by decide) ?_
    refine zr_bipush C zd_R_fieldStep_113 (by decide) ?_
    cases hf
    exact zre_i C hr hlk hK hW hS (znb rfl) zd_R_fieldStep_115
  rw [if_neg c8] at hf
  by_cases c9 : x0 = 105
  · rw [if_pos c9] at hf
    refine zr_tab (off := 127) (tgt := 128) C nx0 zd_R_fieldStep_1 (by omega) (by omega) (by rw [c9]; rfl) (by decide) ?_
    refine zr_iconst C zd_R_fieldStep_128 ?_
    cases hf
    exact zre_i C hr hlk hK hW hS (znb rfl) zd_R_fieldStep_129
  rw [if_neg c9] at hf
  by_cases c10 : x0 = 106
  · rw [if_pos c10] at hf
    refine zr_tab (off := 127) (tgt := 128) C nx0 zd_R_fieldStep_1 (by omega) (by omega) (by rw [c10]; rfl) (by decide) ?_
    refine zr_iconst C zd_R_fieldStep_128 ?_
    cases hf
    exact zre_i C hr hlk hK hW hS (znb rfl) zd_R_fieldStep_129
  rw [if_neg c10] at hf
  by_cases c11 : x0 = 107
  · rw [if_pos c11] at hf
    refine zr_tab (off := 109) (tgt := 110) C nx0 zd_R_fieldStep_1 (by omega) (by omega) (by rw [c11]; rfl) (by decide) ?_
    refine zr_bipush C zd_R_fieldStep_110 (by decide) ?_
    cases hf
    exact zre_i C hr hlk hK hW hS (znb rfl) zd_R_fieldStep_112
  rw [if_neg c11] at hf
  by_cases c12 : x0 = 108
  · rw [if_pos c12] at hf
    refine zr_tab (off := 127) (tgt := 128) C nx0 zd_R_fieldStep_1 (by omega) (by omega) (by rw [c12]; rfl) (by decide) ?_
    refine zr_iconst C zd_R_fieldStep_128 ?_
    cases hf
    exact zre_i C hr hlk hK hW hS (znb rfl) zd_R_fieldStep_129
  rw [if_neg c12] at hf
  by_cases c13 : x0 = 109
  · rw [if_pos c13] at hf
    refine zr_tab (off := 127) (tgt := 128) C nx0 zd_R_fieldStep_1 (by omega) (by omega) (by rw [c13]; rfl) (by decide) ?_
    refine zr_iconst C zd_R_fieldStep_128 ?_
    cases hf
    exact zre_i C hr hlk hK hW hS (znb rfl) zd_R_fieldStep_129
  rw [if_neg c13] at hf
  by_cases c14 : x0 = 110
  · rw [if_pos c14] at hf
    refine zr_tab (off := 127) (tgt := 128) C nx0 zd_R_fieldStep_1 (by omega) (by omega) (by rw [c14]; rfl) (by decide) ?_
    refine zr_iconst C zd_R_fieldStep_128 ?_
    cases hf
    exact zre_i C hr hlk hK hW hS (znb rfl) zd_R_fieldStep_129
  rw [if_neg c14] at hf
  by_cases c15 : x0 = 111
  · rw [if_pos c15] at hf
    refine zr_tab (off := 127) (tgt := 128) C nx0 zd_R_fieldStep_1 (by omega) (by omega) (by rw [c15]; rfl) (by decide) ?_
    refine zr_iconst C zd_R_fieldStep_128 ?_
    cases hf
    exact zre_i C hr hlk hK hW hS (znb rfl) zd_R_fieldStep_129
  rw [if_neg c15] at hf
  by_cases c16 : x0 = 112
  · rw [if_pos c16] at hf
    refine zr_tab (off := 127) (tgt := 128) C nx0 zd_R_fieldStep_1 (by omega) (by omega) (by rw [c16]; rfl) (by decide) ?_
    refine zr_iconst C zd_R_fieldStep_128 ?_
    cases hf
    exact zre_i C hr hlk hK hW hS (znb rfl) zd_R_fieldStep_129
  rw [if_neg c16] at hf
  by_cases c17 : x0 = 113
  · rw [if_pos c17] at hf
    refine zr_tab (off := 127) (tgt := 128) C nx0 zd_R_fieldStep_1 (by omega) (by omega) (by rw [c17]; rfl) (by decide) ?_
    refine zr_iconst C zd_R_fieldStep_128 ?_
    cases hf
    exact zre_i C hr hlk hK hW hS (znb rfl) zd_R_fieldStep_129
  rw [if_neg c17] at hf
  by_cases c18 : x0 = 114
  · rw [if_pos c18] at hf
    refine zr_tab (off := 127) (tgt := 128) C nx0 zd_R_fieldStep_1 (by omega) (by omega) (by rw [c18]; rfl) (by decide) ?_
    refine zr_iconst C zd_R_fieldStep_128 ?_
    cases hf
    exact zre_i C hr hlk hK hW hS (znb rfl) zd_R_fieldStep_129
  rw [if_neg c18] at hf
  by_cases c19 : x0 = 115
  · rw [if_pos c19] at hf
    refine zr_tab (off := 118) (tgt := 119) C nx0 zd_R_fieldStep_1 (by omega) (by omega) (by rw [c19]; rfl) (by decide) ?_
    refine zr_bipush C zd_R_fieldStep_119 (by decide) ?_
    cases hf
    exact zre_i C hr hlk hK hW hS (znb rfl) zd_R_fieldStep_121
  rw [if_neg c19] at hf
  by_cases c20 : x0 = 116
  · rw [if_pos c20] at hf
    refine zr_tab (off := 127) (tgt := 128) C nx0 zd_R_fieldStep_1 (by omega) (by omega) (by rw [c20]; rfl) (by decide) ?_
    refine zr_iconst C zd_R_fieldStep_128 ?_
    cases hf
    exact zre_i C hr hlk hK hW hS (znb rfl) zd_R_fieldStep_129
  rw [if_neg c20] at hf
  by_cases c21 : x0 = 117
  · rw [if_pos c21] at hf
    refine zr_tab (off := 127) (tgt := 128) C nx0 zd_R_fieldStep_1 (by omega) (by omega) (by rw [c21]; rfl) (by decide) ?_
    refine zr_iconst C zd_R_fieldStep_128 ?_
    cases hf
    exact zre_i C hr hlk hK hW hS (znb rfl) zd_R_fieldStep_129
  rw [if_neg c21] at hf
  by_cases c22 : x0 = 118
  · rw [if_pos c22] at hf
    refine zr_tab (off := 127) (tgt := 128) C nx0 zd_R_fieldStep_1 (by omega) (by omega) (by rw [c22]; rfl) (by decide) ?_
    refine zr_iconst C zd_R_fieldStep_128 ?_
    cases hf
    exact zre_i C hr hlk hK hW hS (znb rfl) zd_R_fieldStep_129
  rw [if_neg c22] at hf
  by_cases c23 : x0 = 119
  · rw [if_pos c23] at hf
    refine zr_tab (off := 121) (tgt := 122) C nx0 zd_R_fieldStep_1 (by omega) (by omega) (by rw [c23]; rfl) (by decide) ?_
    refine zr_bipush C zd_R_fieldStep_122 (by decide) ?_
    cases hf
    exact zre_i C hr hlk hK hW hS (znb rfl) zd_R_fieldStep_124
  rw [if_neg c23] at hf
  refine zr_tabo (tgt := 128) C nx0 zd_R_fieldStep_1 (by omega) (by decide) ?_
  refine zr_iconst C zd_R_fieldStep_128 ?_
  cases hf
  exact zre_i C hr hlk hK hW hS (znb rfl) zd_R_fieldStep_129

theorem zc_R_fieldStep {l : Launch} {B : zB} (hap : zAp B) (x0 : Int) (S : Sg) (nx0 : zn x0) {res : Int} {S9 : Sg} (hf : zf_R_fieldStep x0 S = some (res, S9)) : Met l zy_R_fieldStep (Cond.code zy_R_fieldStep zb_R_fieldStep 1 (some .int) :: zT) zm_R_fieldStep (zP B S [.int (zI (x0))]) (zQi B res S9) 0 0 B.2.2.2 :=
  zmet (by decide) (Nat.le_of_ble_eq_true rfl) (fun p e s m args below meth c C hr hlk hK hSt hW ls hl => zw_R_fieldStep C hr hlk hK hSt hap   x0 S nx0 hf _ _ _ hW va_S.rf hl)
/-! IslandOffice$Reader.write(I)V -/
abbrev zy_R_write : MethodName := ⟨"IslandOffice$Reader", "write", "(I)V"⟩
abbrev zb_R_write : ByteArray := prog_9_method_16_code
abbrev zm_R_write : Room := { frames := 0, cells := 0, slots := 0, locals := 0 }
theorem zq_R_write : zMy zy_R_write zb_R_write 2 (none) 1 := ⟨zk_653, zk_652, zs_7, zk_10, by decide, by decide, by decide +kernel⟩
theorem zd_R_write_0 : decode zb_R_write 0 = .ok (.aload_n 0, 1) := by decide +kernel
theorem zd_R_write_1 : decode zb_R_write 1 = .ok (.getfield 22, 3) := by decide +kernel
theorem zd_R_write_4 : decode zb_R_write 4 = .ok (.aload_n 0, 1) := by decide +kernel
theorem zd_R_write_5 : decode zb_R_write 5 = .ok (.getfield 9, 3) := by decide +kernel
theorem zd_R_write_8 : decode zb_R_write 8 = .ok (.arraylength, 1) := by decide +kernel
theorem zd_R_write_9 : decode zb_R_write 9 = .ok (.if_icmp .ge 23, 3) := by decide +kernel
theorem zd_R_write_12 : decode zb_R_write 12 = .ok (.aload_n 0, 1) := by decide +kernel
theorem zd_R_write_13 : decode zb_R_write 13 = .ok (.getfield 9, 3) := by decide +kernel
theorem zd_R_write_16 : decode zb_R_write 16 = .ok (.aload_n 0, 1) := by decide +kernel
theorem zd_R_write_17 : decode zb_R_write 17 = .ok (.getfield 22, 3) := by decide +kernel
theorem zd_R_write_20 : decode zb_R_write 20 = .ok (.iload_n 1, 1) := by decide +kernel
theorem zd_R_write_21 : decode zb_R_write 21 = .ok (.iastore, 1) := by decide +kernel
theorem zd_R_write_22 : decode zb_R_write 22 = .ok (.aload_n 0, 1) := by decide +kernel
theorem zd_R_write_23 : decode zb_R_write 23 = .ok (.dup, 1) := by decide +kernel
theorem zd_R_write_24 : decode zb_R_write 24 = .ok (.getfield 22, 3) := by decide +kernel
theorem zd_R_write_27 : decode zb_R_write 27 = .ok (.iconst 1, 1) := by decide +kernel
theorem zd_R_write_28 : decode zb_R_write 28 = .ok (.iadd, 1) := by decide +kernel
theorem zd_R_write_29 : decode zb_R_write 29 = .ok (.putfield 22, 3) := by decide +kernel
theorem zd_R_write_32 : decode zb_R_write 32 = .ok (.return_, 1) := by decide +kernel

def zf_R_write (x1 : Int) (S : Sg) : Option (Int × Sg) :=
    if 120 ≤ (S 3 0 4 2) then (some (0, S)) else (zck (0 ≤ (S 3 0 4 2) ∧ (S 3 0 4 2) < 120) <| zlt (zu S 3 0 5 (S 3 0 4 2) x1) fun S3 => zlt (zu S3 3 0 4 2 (zw ((S3 3 0 4 2) + 1))) fun S4 => some (0, S4))
set_option maxHeartbeats 4000000 in
set_option maxRecDepth 100000 in
theorem zw_R_write {p : Program} {l : Launch} {e : Env} {s : State} {m : MethodId} {args : Array Value} {below : List Frame} {meth : Method} {c : Code} {B : zB} (C : CallFix p m c zb_R_write 2 s args zT "IslandOffice$Reader") (hr : meth.sig.returnType = none) (hlk : meth.locks = false) (hK : zK B s) (hSt : zSt B s) (hap : zAp B) {res : Int} {S9 : Sg} : ∀ (x1 : Int) (S : Sg) (nx1 : zn x1), zf_R_write x1 S = some (res, S9) → ∀ (H : Heap) (locs : List Loc) (ls : Array Slot), zW B S H → va_S B.2.2.2 s.heap H locs → lv_has ls 2 [(0, .ref (B.2.1 3 (0) (4))), (1, .int (zI (x1)))] → W p l e zm_R_write s m args below meth c H locs 0 0 (MQ below (zQv B S9) args s 0 0 B.2.2.2) (F0 m 0 ls []) := by
  intro x1 S nx1 hf H locs ls hW hS hl
  unfold zf_R_write at hf
  refine lv_aload_n C.1 C.2.1 zd_R_write_0 rfl (lv_at hl 0 rfl) ?_
  refine zg_R_codeSize (r := 0) C hK hW (zvd_3 (by decide) (by decide)) zk_382 zd_R_write_1 ?_
  refine lv_aload_n C.1 C.2.1 zd_R_write_4 rfl (lv_at hl 0 rfl) ?_
  refine zg_R_code (r := 0) C hK hW (zvd_3 (by decide) (by decide)) zk_380 zd_R_write_5 ?_
  refine zalen (N := 120) C hK hW (zvd_3 (by decide) (by decide)) (fun f => ze_3_5 B f (0)) rfl zd_R_write_8 ?_
  refine zr_icmp_ge (tgt := 32) C (zWn hW _ _ _ _ rfl) (znb rfl) zd_R_write_9 (by decide) (fun c1 => ?_) (fun c1 => ?_)
  · rw [if_pos c1] at hf
    cases hf
    exact zre_v C hr hlk hK hW hS zd_R_write_32
  · rw [if_neg c1] at hf
    refine lv_aload_n C.1 C.2.1 zd_R_write_12 rfl (lv_at hl 0 rfl) ?_
    refine zg_R_code (r := 0) C hK hW (zvd_3 (by decide) (by decide)) zk_380 zd_R_write_13 ?_
    refine lv_aload_n C.1 C.2.1 zd_R_write_16 rfl (lv_at hl 0 rfl) ?_
    refine zg_R_codeSize (r := 0) C hK hW (zvd_3 (by decide) (by decide)) zk_382 zd_R_write_17 ?_
    refine lv_iload_n C.1 C.2.1 zd_R_write_20 rfl (lv_at hl 1 rfl) ?_
    obtain ⟨h2, hf⟩ := zck_some hf
    obtain ⟨S3, eS3, hf⟩ := zlt_some hf
    refine ziast C hK hap hW hS (zvd_3 (by decide) (by decide)) (fun f => ze_3_5 B f (0)) (by decide) rfl nx1 h2 zd_R_write_21 (fun H locs hW hS => ?_)
    rw [eS3] at hW
    refine lv_aload_n C.1 C.2.1 zd_R_write_22 rfl (lv_at hl 0 rfl) ?_
    refine lv_dup C.1 C.2.1 zd_R_write_23 rfl ?_
    refine zg_R_codeSize (r := 0) C hK hW (zvd_3 (by decide) (by decide)) zk_382 zd_R_write_24 ?_
    refine zr_iconst C zd_R_write_27 ?_
    refine zr_iadd C zd_R_write_28 ?_
    obtain ⟨S4, eS4, hf⟩ := zlt_some hf
    refine zp_R_codeSize (r := 0) C hK hap hW hS (zvd_3 (by decide) (by decide)) zk_382 (zn_w _) zd_R_write_29 (fun H locs hW hS => ?_)
    rw [eS4] at hW
    cases hf
    exact zre_v C hr hlk hK hW hS zd_R_write_32

theorem zc_R_write {l : Launch} {B : zB} (hap : zAp B) (x1 : Int) (S : Sg) (nx1 : zn x1) {res : Int} {S9 : Sg} (hf : zf_R_write x1 S = some (res, S9)) : Met l zy_R_write (Cond.code zy_R_write zb_R_write 2 (none) :: zT) zm_R_write (zP B S [.ref (B.2.1 3 (0) (4)), .int (zI (x1))]) (zQv B S9) 0 0 B.2.2.2 :=
  zmet (by decide) (Nat.le_of_ble_eq_true rfl) (fun p e s m args below meth c C hr hlk hK hSt hW ls hl => zw_R_write C hr hlk hK hSt hap   x1 S nx1 hf _ _ _ hW va_S.rf hl)
/-! IslandOffice$Reader.takesAtom(II)Z -/
abbrev zy_R_takesAtom : MethodName := ⟨"IslandOffice$Reader", "takesAtom", "(II)Z"⟩
abbrev zb_R_takesAtom : ByteArray := prog_9_method_7_code
abbrev zm_R_takesAtom : Room := { frames := 1, cells := 0, slots := 0, locals := 21 }
theorem zq_R_takesAtom : zMy zy_R_takesAtom zb_R_takesAtom 5 (some .boolean) 2 := ⟨zk_646, zk_645, zs_6, zk_10, by decide, by decide, by decide +kernel⟩
theorem zd_R_takesAtom_0 : decode zb_R_takesAtom 0 = .ok (.iload_n 1, 1) := by decide +kernel
theorem zd_R_takesAtom_1 : decode zb_R_takesAtom 1 = .ok (.bipush 48, 2) := by decide +kernel
theorem zd_R_takesAtom_3 : decode zb_R_takesAtom 3 = .ok (.if_icmp .lt 13, 3) := by decide +kernel
theorem zd_R_takesAtom_6 : decode zb_R_takesAtom 6 = .ok (.iload_n 1, 1) := by decide +kernel
theorem zd_R_takesAtom_7 : decode zb_R_takesAtom 7 = .ok (.bipush 57, 2) := by decide +kernel
theorem zd_R_takesAtom_9 : decode zb_R_takesAtom 9 = .ok (.if_icmp .gt 7, 3) := by decide +kernel
theorem zd_R_takesAtom_12 : decode zb_R_takesAtom 12 = .ok (.iconst 1, 1) := by decide +kernel
theorem zd_R_takesAtom_13 : decode zb_R_takesAtom 13 = .ok (.goto 4, 3) := by decide +kernel
theorem zd_R_takesAtom_16 : decode zb_R_takesAtom 16 = .ok (.iconst 0, 1) := by decide +kernel
theorem zd_R_takesAtom_17 : decode zb_R_takesAtom 17 = .ok (.istore_n 3, 1) := by decide +kernel
theorem zd_R_takesAtom_18 : decode zb_R_takesAtom 18 = .ok (.iload_n 3, 1) := by decide +kernel
theorem zd_R_takesAtom_19 : decode zb_R_takesAtom 19 = .ok (.ifCond .eq 10, 3) := by decide +kernel
theorem zd_R_takesAtom_22 : decode zb_R_takesAtom 22 = .ok (.iload_n 1, 1) := by decide +kernel
theorem zd_R_takesAtom_23 : decode zb_R_takesAtom 23 = .ok (.bipush 48, 2) := by decide +kernel
theorem zd_R_takesAtom_25 : decode zb_R_takesAtom 25 = .ok (.isub, 1) := by decide +kernel
theorem zd_R_takesAtom_26 : decode zb_R_takesAtom 26 = .ok (.goto 7, 3) := by decide +kernel
theorem zd_R_takesAtom_29 : decode zb_R_takesAtom 29 = .ok (.iload_n 1, 1) := by decide +kernel
theorem zd_R_takesAtom_30 : decode zb_R_takesAtom 30 = .ok (.invokestatic 73, 3) := by decide +kernel
theorem zd_R_takesAtom_33 : decode zb_R_takesAtom 33 = .ok (.istore 4, 2) := by decide +kernel
theorem zd_R_takesAtom_35 : decode zb_R_takesAtom 35 = .ok (.iload_n 3, 1) := by decide +kernel
theorem zd_R_takesAtom_36 : decode zb_R_takesAtom 36 = .ok (.ifCond .ne 10, 3) := by decide +kernel
theorem zd_R_takesAtom_39 : decode zb_R_takesAtom 39 = .ok (.iload 4, 2) := by decide +kernel
theorem zd_R_takesAtom_41 : decode zb_R_takesAtom 41 = .ok (.ifCond .lt 5, 3) := by decide +kernel
theorem zd_R_takesAtom_44 : decode zb_R_takesAtom 44 = .ok (.iconst 0, 1) := by decide +kernel
theorem zd_R_takesAtom_45 : decode zb_R_takesAtom 45 = .ok (.ireturn, 1) := by decide +kernel
theorem zd_R_takesAtom_46 : decode zb_R_takesAtom 46 = .ok (.aload_n 0, 1) := by decide +kernel
theorem zd_R_takesAtom_47 : decode zb_R_takesAtom 47 = .ok (.iload 4, 2) := by decide +kernel
theorem zd_R_takesAtom_49 : decode zb_R_takesAtom 49 = .ok (.invokevirtual 77, 3) := by decide +kernel
theorem zd_R_takesAtom_52 : decode zb_R_takesAtom 52 = .ok (.aload_n 0, 1) := by decide +kernel
theorem zd_R_takesAtom_53 : decode zb_R_takesAtom 53 = .ok (.iload_n 3, 1) := by decide +kernel
theorem zd_R_takesAtom_54 : decode zb_R_takesAtom 54 = .ok (.ifCond .eq 7, 3) := by decide +kernel
theorem zd_R_takesAtom_57 : decode zb_R_takesAtom 57 = .ok (.iconst 1, 1) := by decide +kernel
theorem zd_R_takesAtom_58 : decode zb_R_takesAtom 58 = .ok (.goto 4, 3) := by decide +kernel
theorem zd_R_takesAtom_61 : decode zb_R_takesAtom 61 = .ok (.iconst 0, 1) := by decide +kernel
theorem zd_R_takesAtom_62 : decode zb_R_takesAtom 62 = .ok (.putfield 34, 3) := by decide +kernel
theorem zd_R_takesAtom_65 : decode zb_R_takesAtom 65 = .ok (.aload_n 0, 1) := by decide +kernel
theorem zd_R_takesAtom_66 : decode zb_R_takesAtom 66 = .ok (.iload_n 2, 1) := by decide +kernel
theorem zd_R_takesAtom_67 : decode zb_R_takesAtom 67 = .ok (.putfield 28, 3) := by decide +kernel
theorem zd_R_takesAtom_70 : decode zb_R_takesAtom 70 = .ok (.iconst 1, 1) := by decide +kernel
theorem zd_R_takesAtom_71 : decode zb_R_takesAtom 71 = .ok (.ireturn, 1) := by decide +kernel

def zf_R_takesAtom_62 (x2 : Int) (xt1 : Int) (S : Sg) : Option (Int × Sg) :=
    zlt (zu S 3 0 4 7 xt1) fun S1 => zlt (zu S1 3 0 4 5 x2) fun S2 => some (1, S2)
set_option maxHeartbeats 4000000 in
set_option maxRecDepth 100000 in
theorem zw_R_takesAtom_62 {p : Program} {l : Launch} {e : Env} {s : State} {m : MethodId} {args : Array Value} {below : List Frame} {meth : Method} {c : Code} {B : zB} (C : CallFix p m c zb_R_takesAtom 5 s args zT "IslandOffice$Reader") (hr : meth.sig.returnType = some .boolean) (hlk : meth.locks = false) (hK : zK B s) (hSt : zSt B s) (hap : zAp B) {res : Int} {S9 : Sg} : ∀ (x2 : Int) (xt1 : Int) (S : Sg) (nx2 : zn x2) (nxt1 : zn xt1), zf_R_takesAtom_62 x2 xt1 S = some (res, S9) → ∀ (H : Heap) (locs : List Loc) (ls : Array Slot), zW B S H → va_S B.2.2.2 s.heap H locs → lv_has ls 5 [(0, .ref (B.2.1 3 (0) (4))), (2, .int (zI (x2)))] → W p l e zm_R_takesAtom s m args below meth c H locs 0 0 (MQ below (zQi B res S9) args s 0 0 B.2.2.2) (F0 m 62 ls [.int (zI (xt1)), .ref (B.2.1 3 (0) (4))]) := by
  intro x2 xt1 S nx2 nxt1 hf H locs ls hW hS hl
  unfold zf_R_takesAtom_62 at hf
  obtain ⟨S1, eS1, hf⟩ := zlt_some hf
  refine zp_R_digits (r := 0) C hK hap hW hS (zvd_3 (by decide) (by decide)) zk_388 nxt1 zd_R_takesAtom_62 (fun H locs hW hS => ?_)
  rw [eS1] at hW
  refine lv_aload_n C.1 C.2.1 zd_R_takesAtom_65 rfl (lv_at hl 0 rfl) ?_
  refine lv_iload_n C.1 C.2.1 zd_R_takesAtom_66 rfl (lv_at hl 1 rfl) ?_
  obtain ⟨S2, eS2, hf⟩ := zlt_some hf
  refine zp_R_state (r := 0) C hK hap hW hS (zvd_3 (by decide) (by decide)) zk_386 nx2 zd_R_takesAtom_67 (fun H locs hW hS => ?_)
  rw [eS2] at hW
  refine zr_iconst C zd_R_takesAtom_70 ?_
  cases hf
  exact zre_z C hr hlk hK hW hS (znb rfl) (zb01 (by decide)) zd_R_takesAtom_71

def zf_R_takesAtom_46 (x2 : Int) (x3 : Int) (x4 : Int) (S : Sg) : Option (Int × Sg) :=
    zbd (zf_R_write x4 S) fun a1 S2 => if x3 = 0 then (zf_R_takesAtom_62 (x2) (0) S2) else (zf_R_takesAtom_62 (x2) (1) S2)
set_option maxHeartbeats 4000000 in
set_option maxRecDepth 100000 in
theorem zw_R_takesAtom_46 {p : Program} {l : Launch} {e : Env} {s : State} {m : MethodId} {args : Array Value} {below : List Frame} {meth : Method} {c : Code} {B : zB} (C : CallFix p m c zb_R_takesAtom 5 s args zT "IslandOffice$Reader") (hr : meth.sig.returnType = some .boolean) (hlk : meth.locks = false) (hK : zK B s) (hSt : zSt B s) (hap : zAp B) {res : Int} {S9 : Sg} : ∀ (x2 : Int) (x3 : Int) (x4 : Int) (S : Sg) (nx2 : zn x2) (nx3 : zn x3) (nx4 : zn x4), zf_R_takesAtom_46 x2 x3 x4 S = some (res, S9) → ∀ (H : Heap) (locs : List Loc) (ls : Array Slot), zW B S H → va_S B.2.2.2 s.heap H locs → lv_has ls 5 [(0, .ref (B.2.1 3 (0) (4))), (2, .int (zI (x2))), (3, .int (zI (x3))), (4, .int (zI (x4)))] → W p l e zm_R_takesAtom s m args below meth c H locs 0 0 (MQ below (zQi B res S9) args s 0 0 B.2.2.2) (F0 m 46 ls []) := by
  intro x2 x3 x4 S nx2 nx3 nx4 hf H locs ls hW hS hl
  unfold zf_R_takesAtom_46 at hf
  refine lv_aload_n C.1 C.2.1 zd_R_takesAtom_46 rfl (lv_at hl 0 rfl) ?_
  refine lv_iload C.1 C.2.1 zd_R_takesAtom_47 (lv_at hl 3 rfl) ?_
  obtain ⟨a1, S2, ea1, hf⟩ := zbd_some hf
  refine zcVv (As := [.int (zI (x4))]) (rest := []) C hK hSt hW hS (zc_R_write hap x4 S nx4 ea1) zq_R_write zk_650 (zrecv hK hW (zvd_3 (by decide) (by decide)) (ze_3_4 B _ (0)) rfl) ⟨rfl, rfl, by decide, by decide⟩ ⟨Nat.zero_le _, Nat.zero_le _⟩ rfl hl.1 rfl (lv_room (Nat.le_of_ble_eq_true rfl)) zd_R_takesAtom_49 (fun H locs hW hS => ?_)
  refine lv_aload_n C.1 C.2.1 zd_R_takesAtom_52 rfl (lv_at hl 0 rfl) ?_
  refine lv_iload_n C.1 C.2.1 zd_R_takesAtom_53 rfl (lv_at hl 2 rfl) ?_
  refine zr_if_eq (tgt := 61) C nx3 zd_R_takesAtom_54 (by decide) (fun c3 => ?_) (fun c3 => ?_)
  · rw [if_pos c3] at hf
    refine zr_iconst C zd_R_takesAtom_61 ?_
    exact zw_R_takesAtom_62 C hr hlk hK hSt hap   (x2) (0) S2 nx2 (znb rfl) hf _ _ _ hW hS (lv_sub hl [0, 1] rfl)
  · rw [if_neg c3] at hf
    refine zr_iconst C zd_R_takesAtom_57 ?_
    refine lv_goto (tgt := 62) C.1 C.2.1 zd_R_takesAtom_58 (by decide) ?_
    exact zw_R_takesAtom_62 C hr hlk hK hSt hap   (x2) (1) S2 nx2 (znb rfl) hf _ _ _ hW hS (lv_sub hl [0, 1] rfl)

def zf_R_takesAtom_33 (x2 : Int) (x3 : Int) (xt0 : Int) (S : Sg) : Option (Int × Sg) :=
    if x3 = 0 then (if xt0 < 0 then (zf_R_takesAtom_46 (x2) (x3) (xt0) S) else (some (0, S))) else (zf_R_takesAtom_46 (x2) (x3) (xt0) S)
set_option maxHeartbeats 4000000 in
set_option maxRecDepth 100000 in
theorem zw_R_takesAtom_33 {p : Program} {l : Launch} {e : Env} {s : State} {m : MethodId} {args : Array Value} {below : List Frame} {meth : Method} {c : Code} {B : zB} (C : CallFix p m c zb_R_takesAtom 5 s args zT "IslandOffice$Reader") (hr : meth.sig.returnType = some .boolean) (hlk : meth.locks = false) (hK : zK B s) (hSt : zSt B s) (hap : zAp B) {res : Int} {S9 : Sg} : ∀ (x2 : Int) (x3 : Int) (xt0 : Int) (S : Sg) (nx2 : zn x2) (nx3 : zn x3) (nxt0 : zn xt0), zf_R_takesAtom_33 x2 x3 xt0 S = some (res, S9) → ∀ (H : Heap) (locs : List Loc) (ls : Array Slot), zW B S H → va_S B.2.2.2 s.heap H locs → lv_has ls 5 [(0, .ref (B.2.1 3 (0) (4))), (2, .int (zI (x2))), (3, .int (zI (x3)))] → W p l e zm_R_takesAtom s m args below meth c H locs 0 0 (MQ below (zQi B res S9) args s 0 0 B.2.2.2) (F0 m 33 ls [.int (zI (xt0))]) := by
  intro x2 x3 xt0 S nx2 nx3 nxt0 hf H locs ls hW hS hl
  unfold zf_R_takesAtom_33 at hf
  refine lv_istore (lv' := [(4, .int (zI (xt0))), (0, .ref (B.2.1 3 (0) (4))), (2, .int (zI (x2))), (3, .int (zI (x3)))]) C.1 C.2.1 zd_R_takesAtom_33 hl (by decide) rfl (fun ls hl => ?_)
  refine lv_iload_n C.1 C.2.1 zd_R_takesAtom_35 rfl (lv_at hl 3 rfl) ?_
  refine zr_if_ne (tgt := 46) C nx3 zd_R_takesAtom_36 (by decide) (fun c1 => ?_) (fun c1 => ?_)
  · rw [if_neg c1] at hf
    exact zw_R_takesAtom_46 C hr hlk hK hSt hap   (x2) (x3) (xt0) S nx2 nx3 nxt0 hf _ _ _ hW hS (lv_sub hl [1, 2, 3, 0] rfl)
  · rw [if_pos c1] at hf
    refine lv_iload C.1 C.2.1 zd_R_takesAtom_39 (lv_at hl 0 rfl) ?_
    refine zr_if_lt (tgt := 46) C nxt0 zd_R_takesAtom_41 (by decide) (fun c2 => ?_) (fun c2 => ?_)
    · rw [if_pos c2] at hf
      exact zw_R_takesAtom_46 C hr hlk hK hSt hap   (x2) (x3) (xt0) S nx2 nx3 nxt0 hf _ _ _ hW hS (lv_sub hl [1, 2, 3, 0] rfl)
    · rw [if_neg c2] at hf
      refine zr_iconst C zd_R_takesAtom_44 ?_
      cases hf
      exact zre_z C hr hlk hK hW hS (znb rfl) (zb01 (by decide)) zd_R_takesAtom_45

def zf_R_takesAtom_17 (x1 : Int) (x2 : Int) (xt0 : Int) (S : Sg) : Option (Int × Sg) :=
    if xt0 = 0 then (zbd (zf_R_fieldStep x1 S) fun a2 S3 => zf_R_takesAtom_33 (x2) (xt0) (a2) S3) else (zf_R_takesAtom_33 (x2) (xt0) (zw (x1 - 48)) S)
set_option maxHeartbeats 4000000 in
set_option maxRecDepth 100000 in
theorem zw_R_takesAtom_17 {p : Program} {l : Launch} {e : Env} {s : State} {m : MethodId} {args : Array Value} {below : List Frame} {meth : Method} {c : Code} {B : zB} (C : CallFix p m c zb_R_takesAtom 5 s args zT "IslandOffice$Reader") (hr : meth.sig.returnType = some .boolean) (hlk : meth.locks = false) (hK : zK B s) (hSt : zSt B s) (hap : zAp B) {res : Int} {S9 : Sg} : ∀ (x1 : Int) (x2 : Int) (xt0 : Int) (S : Sg) (nx1 : zn x1) (nx2 : zn x2) (nxt0 : zn xt0), zf_R_takesAtom_17 x1 x2 xt0 S = some (res, S9) → ∀ (H : Heap) (locs : List Loc) (ls : Array Slot), zW B S H → va_S B.2.2.2 s.heap H locs → lv_has ls 5 [(0, .ref (B.2.1 3 (0) (4))), (1, .int (zI (x1))), (2, .int (zI (x2)))] → W p l e zm_R_takesAtom s m args below meth c H locs 0 0 (MQ below (zQi B res S9) args s 0 0 B.2.2.2) (F0 m 17 ls [.int (zI (xt0))]) := by
  intro x1 x2 xt0 S nx1 nx2 nxt0 hf H locs ls hW hS hl
  unfold zf_R_takesAtom_17 at hf
  refine lv_istore_n (lv' := [(3, .int (zI (xt0))), (0, .ref (B.2.1 3 (0) (4))), (1, .int (zI (x1))), (2, .int (zI (x2)))]) C.1 C.2.1 zd_R_takesAtom_17 rfl hl (by decide) rfl (fun ls hl => ?_)
  refine lv_iload_n C.1 C.2.1 zd_R_takesAtom_18 rfl (lv_at hl 0 rfl) ?_
  refine zr_if_eq (tgt := 29) C nxt0 zd_R_takesAtom_19 (by decide) (fun c1 => ?_) (fun c1 => ?_)
  · rw [if_pos c1] at hf
    refine lv_iload_n C.1 C.2.1 zd_R_takesAtom_29 rfl (lv_at hl 2 rfl) ?_
    obtain ⟨a2, S3, ea2, hf⟩ := zbd_some hf
    refine zcSi (As := [.int (zI (x1))]) (rest := []) C hK hSt hW hS (zc_R_fieldStep hap x1 S nx1 ea2) zq_R_fieldStep zk_647 ⟨rfl, rfl, by decide, by decide⟩ ⟨Nat.zero_le _, Nat.zero_le _⟩ rfl hl.1 rfl (lv_room (Nat.le_of_ble_eq_true rfl)) zd_R_takesAtom_30 (fun na2 H locs hW hS => ?_)
    exact zw_R_takesAtom_33 C hr hlk hK hSt hap   (x2) (xt0) (a2) S3 nx2 nxt0 na2 hf _ _ _ hW hS (lv_sub hl [1, 3, 0] rfl)
  · rw [if_neg c1] at hf
    refine lv_iload_n C.1 C.2.1 zd_R_takesAtom_22 rfl (lv_at hl 2 rfl) ?_
    refine zr_bipush C zd_R_takesAtom_23 (by decide) ?_
    refine zr_isub C zd_R_takesAtom_25 ?_
    refine lv_goto (tgt := 33) C.1 C.2.1 zd_R_takesAtom_26 (by decide) ?_
    exact zw_R_takesAtom_33 C hr hlk hK hSt hap   (x2) (xt0) (zw (x1 - 48)) S nx2 nxt0 (zn_w _) hf _ _ _ hW hS (lv_sub hl [1, 3, 0] rfl)

def zf_R_takesAtom_16 (x1 : Int) (x2 : Int) (S : Sg) : Option (Int × Sg) :=
    zf_R_takesAtom_17 (x1) (x2) (0) S
set_option maxHeartbeats 4000000 in
set_option maxRecDepth 100000 in
theorem zw_R_takesAtom_16 {p : Program} {l : Launch} {e : Env} {s : State} {m : MethodId} {args : Array Value} {below : List Frame} {meth : Method} {c : Code} {B : zB} (C : CallFix p m c zb_R_takesAtom 5 s args zT "IslandOffice$Reader") (hr : meth.sig.returnType = some .boolean) (hlk : meth.locks = false) (hK : zK B s) (hSt : zSt B s) (hap : zAp B) {res : Int} {S9 : Sg} : ∀ (x1 : Int) (x2 : Int) (S : Sg) (nx1 : zn x1) (nx2 : zn x2), zf_R_takesAtom_16 x1 x2 S = some (res, S9) → ∀ (H : Heap) (locs : List Loc) (ls : Array Slot), zW B S H → va_S B.2.2.2 s.heap H locs → lv_has ls 5 [(0, .ref (B.2.1 3 (0) (4))), (1, .int (zI (x1))), (2, .int (zI (x2)))] → W p l e zm_R_takesAtom s m args below meth c H locs 0 0 (MQ below (zQi B res S9) args s 0 0 B.2.2.2) (F0 m 16 ls []) := by
  intro x1 x2 S nx1 nx2 hf H locs ls hW hS hl
  unfold zf_R_takesAtom_16 at hf
  refine zr_iconst C zd_R_takesAtom_16 ?_
  exact zw_R_takesAtom_17 C hr hlk hK hSt hap   (x1) (x2) (0) S nx1 nx2 (znb rfl) hf _ _ _ hW hS (lv_sub hl [0, 1, 2] rfl)

def zf_R_takesAtom (x1 : Int) (x2 : Int) (S : Sg) : Option (Int × Sg) :=
    if x1 < 48 then (zf_R_takesAtom_16 (x1) (x2) S) else (if 57 < x1 then (zf_R_takesAtom_16 (x1) (x2) S) else (zf_R_takesAtom_17 (x1) (x2) (1) S))
set_option maxHeartbeats 4000000 in
set_option maxRecDepth 100000 in
theorem zw_R_takesAtom {p : Program} {l : Launch} {e : Env} {s : State} {m : MethodId} {args : Array Value} {below : List Frame} {meth : Method} {c : Code} {B : zB} (C : CallFix p m c zb_R_takesAtom 5 s args zT "IslandOffice$Reader") (hr : meth.sig.returnType = some .boolean) (hlk : meth.locks = false) (hK : zK B s) (hSt : zSt B s) (hap : zAp B) {res : Int} {S9 : Sg} : ∀ (x1 : Int) (x2 : Int) (S : Sg) (nx1 : zn x1) (nx2 : zn x2), zf_R_takesAtom x1 x2 S = some (res, S9) → ∀ (H : Heap) (locs : List Loc) (ls : Array Slot), zW B S H → va_S B.2.2.2 s.heap H locs → lv_has ls 5 [(0, .ref (B.2.1 3 (0) (4))), (1, .int (zI (x1))), (2, .int (zI (x2)))] → W p l e zm_R_takesAtom s m args below meth c H locs 0 0 (MQ below (zQi B res S9) args s 0 0 B.2.2.2) (F0 m 0 ls []) := by
  intro x1 x2 S nx1 nx2 hf H locs ls hW hS hl
  unfold zf_R_takesAtom at hf
  refine lv_iload_n C.1 C.2.1 zd_R_takesAtom_0 rfl (lv_at hl 1 rfl) ?_
  refine zr_bipush C zd_R_takesAtom_1 (by decide) ?_
  refine zr_icmp_lt (tgt := 16) C nx1 (znb rfl) zd_R_takesAtom_3 (by decide) (fun c1 => ?_) (fun c1 => ?_)
  · rw [if_pos c1] at hf
    exact zw_R_takesAtom_16 C hr hlk hK hSt hap   (x1) (x2) S nx1 nx2 hf _ _ _ hW hS (lv_sub hl [0, 1, 2] rfl)
  · rw [if_neg c1] at hf
    refine lv_iload_n C.1 C.2.1 zd_R_takesAtom_6 rfl (lv_at hl 1 rfl) ?_
    refine zr_bipush C zd_R_takesAtom_7 (by decide) ?_
    refine zr_icmp_gt (tgt := 16) C nx1 (znb rfl) zd_R_takesAtom_9 (by decide) (fun c2 => ?_) (fun c2 => ?_)
    · rw [if_pos c2] at hf
      exact zw_R_takesAtom_16 C hr hlk hK hSt hap   (x1) (x2) S nx1 nx2 hf _ _ _ hW hS (lv_sub hl [0, 1, 2] rfl)
    · rw [if_neg c2] at hf
      refine zr_iconst C zd_R_takesAtom_12 ?_
      refine lv_goto (tgt := 17) C.1 C.2.1 zd_R_takesAtom_13 (by decide) ?_
      exact zw_R_takesAtom_17 C hr hlk hK hSt hap   (x1) (x2) (1) S nx1 nx2 (znb rfl) hf _ _ _ hW hS (lv_sub hl [0, 1, 2] rfl)

theorem zc_R_takesAtom {l : Launch} {B : zB} (hap : zAp B) (x1 : Int) (x2 : Int) (S : Sg) (nx1 : zn x1) (nx2 : zn x2) {res : Int} {S9 : Sg} (hf : zf_R_takesAtom x1 x2 S = some (res, S9)) : Met l zy_R_takesAtom (Cond.code zy_R_takesAtom zb_R_takesAtom 5 (some .boolean) :: zT) zm_R_takesAtom (zP B S [.ref (B.2.1 3 (0) (4)), .int (zI (x1)), .int (zI (x2))]) (zQi B res S9) 0 0 B.2.2.2 :=
  zmet (by decide) (Nat.le_of_ble_eq_true rfl) (fun p e s m args below meth c C hr hlk hK hSt hW ls hl => zw_R_takesAtom C hr hlk hK hSt hap   x1 x2 S nx1 nx2 hf _ _ _ hW va_S.rf hl)
/-! IslandOffice$Reader.hold(I)V -/
abbrev zy_R_hold : MethodName := ⟨"IslandOffice$Reader", "hold", "(I)V"⟩
abbrev zb_R_hold : ByteArray := prog_9_method_15_code
abbrev zm_R_hold : Room := { frames := 0, cells := 0, slots := 0, locals := 0 }
theorem zq_R_hold : zMy zy_R_hold zb_R_hold 2 (none) 1 := ⟨zk_638, zk_637, zs_4, zk_10, by decide, by decide, by decide +kernel⟩
theorem zd_R_hold_0 : decode zb_R_hold 0 = .ok (.aload_n 0, 1) := by decide +kernel
theorem zd_R_hold_1 : decode zb_R_hold 1 = .ok (.getfield 25, 3) := by decide +kernel
theorem zd_R_hold_4 : decode zb_R_hold 4 = .ok (.aload_n 0, 1) := by decide +kernel
theorem zd_R_hold_5 : decode zb_R_hold 5 = .ok (.getfield 15, 3) := by decide +kernel
theorem zd_R_hold_8 : decode zb_R_hold 8 = .ok (.arraylength, 1) := by decide +kernel
theorem zd_R_hold_9 : decode zb_R_hold 9 = .ok (.if_icmp .ge 23, 3) := by decide +kernel
theorem zd_R_hold_12 : decode zb_R_hold 12 = .ok (.aload_n 0, 1) := by decide +kernel
theorem zd_R_hold_13 : decode zb_R_hold 13 = .ok (.getfield 15, 3) := by decide +kernel
theorem zd_R_hold_16 : decode zb_R_hold 16 = .ok (.aload_n 0, 1) := by decide +kernel
theorem zd_R_hold_17 : decode zb_R_hold 17 = .ok (.getfield 25, 3) := by decide +kernel
theorem zd_R_hold_20 : decode zb_R_hold 20 = .ok (.iload_n 1, 1) := by decide +kernel
theorem zd_R_hold_21 : decode zb_R_hold 21 = .ok (.iastore, 1) := by decide +kernel
theorem zd_R_hold_22 : decode zb_R_hold 22 = .ok (.aload_n 0, 1) := by decide +kernel
theorem zd_R_hold_23 : decode zb_R_hold 23 = .ok (.dup, 1) := by decide +kernel
theorem zd_R_hold_24 : decode zb_R_hold 24 = .ok (.getfield 25, 3) := by decide +kernel
theorem zd_R_hold_27 : decode zb_R_hold 27 = .ok (.iconst 1, 1) := by decide +kernel
theorem zd_R_hold_28 : decode zb_R_hold 28 = .ok (.iadd, 1) := by decide +kernel
theorem zd_R_hold_29 : decode zb_R_hold 29 = .ok (.putfield 25, 3) := by decide +kernel
theorem zd_R_hold_32 : decode zb_R_hold 32 = .ok (.return_, 1) := by decide +kernel

def zf_R_hold (x1 : Int) (S : Sg) : Option (Int × Sg) :=
    if 120 ≤ (S 3 0 4 4) then (some (0, S)) else (zck (0 ≤ (S 3 0 4 4) ∧ (S 3 0 4 4) < 120) <| zlt (zu S 3 0 6 (S 3 0 4 4) x1) fun S3 => zlt (zu S3 3 0 4 4 (zw ((S3 3 0 4 4) + 1))) fun S4 => some (0, S4))
set_option maxHeartbeats 4000000 in
set_option maxRecDepth 100000 in
theorem zw_R_hold {p : Program} {l : Launch} {e : Env} {s : State} {m : MethodId} {args : Array Value} {below : List Frame} {meth : Method} {c : Code} {B : zB} (C : CallFix p m c zb_R_hold 2 s args zT "IslandOffice$Reader") (hr : meth.sig.returnType = none) (hlk : meth.locks = false) (hK : zK B s) (hSt : zSt B s) (hap : zAp B) {res : Int} {S9 : Sg} : ∀ (x1 : Int) (S : Sg) (nx1 : zn x1), zf_R_hold x1 S = some (res, S9) → ∀ (H : Heap) (locs : List Loc) (ls : Array Slot), zW B S H → va_S B.2.2.2 s.heap H locs → lv_has ls 2 [(0, .ref (B.2.1 3 (0) (4))), (1, .int (zI (x1)))] → W p l e zm_R_hold s m args below meth c H locs 0 0 (MQ below (zQv B S9) args s 0 0 B.2.2.2) (F0 m 0 ls []) := by
  intro x1 S nx1 hf H locs ls hW hS hl
  unfold zf_R_hold at hf
  refine lv_aload_n C.1 C.2.1 zd_R_hold_0 rfl (lv_at hl 0 rfl) ?_
  refine zg_R_waits (r := 0) C hK hW (zvd_3 (by decide) (by decide)) zk_385 zd_R_hold_1 ?_
  refine lv_aload_n C.1 C.2.1 zd_R_hold_4 rfl (lv_at hl 0 rfl) ?_
  refine zg_R_waiting (r := 0) C hK hW (zvd_3 (by decide) (by decide)) zk_384 zd_R_hold_5 ?_
  refine zalen (N := 120) C hK hW (zvd_3 (by decide) (by decide)) (fun f => ze_3_6 B f (0)) rfl zd_R_hold_8 ?_
  refine zr_icmp_ge (tgt := 32) C (zWn hW _ _ _ _ rfl) (znb rfl) zd_R_hold_9 (by decide) (fun c1 => ?_) (fun c1 => ?_)
  · rw [if_pos c1] at hf
    cases hf
    exact zre_v C hr hlk hK hW hS zd_R_hold_32
  · rw [if_neg c1] at hf
    refine lv_aload_n C.1 C.2.1 zd_R_hold_12 rfl (lv_at hl 0 rfl) ?_
    refine zg_R_waiting (r := 0) C hK hW (zvd_3 (by decide) (by decide)) zk_384 zd_R_hold_13 ?_
    refine lv_aload_n C.1 C.2.1 zd_R_hold_16 rfl (lv_at hl 0 rfl) ?_
    refine zg_R_waits (r := 0) C hK hW (zvd_3 (by decide) (by decide)) zk_385 zd_R_hold_17 ?_
    refine lv_iload_n C.1 C.2.1 zd_R_hold_20 rfl (lv_at hl 1 rfl) ?_
    obtain ⟨h2, hf⟩ := zck_some hf
    obtain ⟨S3, eS3, hf⟩ := zlt_some hf
    refine ziast C hK hap hW hS (zvd_3 (by decide) (by decide)) (fun f => ze_3_6 B f (0)) (by decide) rfl nx1 h2 zd_R_hold_21 (fun H locs hW hS => ?_)
    rw [eS3] at hW
    refine lv_aload_n C.1 C.2.1 zd_R_hold_22 rfl (lv_at hl 0 rfl) ?_
    refine lv_dup C.1 C.2.1 zd_R_hold_23 rfl ?_
    refine zg_R_waits (r := 0) C hK hW (zvd_3 (by decide) (by decide)) zk_385 zd_R_hold_24 ?_
    refine zr_iconst C zd_R_hold_27 ?_
    refine zr_iadd C zd_R_hold_28 ?_
    obtain ⟨S4, eS4, hf⟩ := zlt_some hf
    refine zp_R_waits (r := 0) C hK hap hW hS (zvd_3 (by decide) (by decide)) zk_385 (zn_w _) zd_R_hold_29 (fun H locs hW hS => ?_)
    rw [eS4] at hW
    cases hf
    exact zre_v C hr hlk hK hW hS zd_R_hold_32

theorem zc_R_hold {l : Launch} {B : zB} (hap : zAp B) (x1 : Int) (S : Sg) (nx1 : zn x1) {res : Int} {S9 : Sg} (hf : zf_R_hold x1 S = some (res, S9)) : Met l zy_R_hold (Cond.code zy_R_hold zb_R_hold 2 (none) :: zT) zm_R_hold (zP B S [.ref (B.2.1 3 (0) (4)), .int (zI (x1))]) (zQv B S9) 0 0 B.2.2.2 :=
  zmet (by decide) (Nat.le_of_ble_eq_true rfl) (fun p e s m args below meth c C hr hlk hK hSt hW ls hl => zw_R_hold C hr hlk hK hSt hap   x1 S nx1 hf _ _ _ hW va_S.rf hl)
/-! IslandOffice$Reader.takesBracket(I)Z -/
abbrev zy_R_takesBracket : MethodName := ⟨"IslandOffice$Reader", "takesBracket", "(I)Z"⟩
abbrev zb_R_takesBracket : ByteArray := prog_9_method_6_code
abbrev zm_R_takesBracket : Room := { frames := 1, cells := 0, slots := 0, locals := 21 }
theorem zq_R_takesBracket : zMy zy_R_takesBracket zb_R_takesBracket 2 (some .boolean) 1 := ⟨zk_642, zk_641, zs_5, zk_10, by decide, by decide, by decide +kernel⟩
theorem zd_R_takesBracket_0 : decode zb_R_takesBracket 0 = .ok (.iload_n 1, 1) := by decide +kernel
theorem zd_R_takesBracket_1 : decode zb_R_takesBracket 1 = .ok (.bipush 40, 2) := by decide +kernel
theorem zd_R_takesBracket_3 : decode zb_R_takesBracket 3 = .ok (.if_icmp .ne 12, 3) := by decide +kernel
theorem zd_R_takesBracket_6 : decode zb_R_takesBracket 6 = .ok (.aload_n 0, 1) := by decide +kernel
theorem zd_R_takesBracket_7 : decode zb_R_takesBracket 7 = .ok (.getfield 31, 3) := by decide +kernel
theorem zd_R_takesBracket_10 : decode zb_R_takesBracket 10 = .ok (.bipush 8, 2) := by decide +kernel
theorem zd_R_takesBracket_12 : decode zb_R_takesBracket 12 = .ok (.if_icmp .lt 5, 3) := by decide +kernel
theorem zd_R_takesBracket_15 : decode zb_R_takesBracket 15 = .ok (.iconst 0, 1) := by decide +kernel
theorem zd_R_takesBracket_16 : decode zb_R_takesBracket 16 = .ok (.ireturn, 1) := by decide +kernel
theorem zd_R_takesBracket_17 : decode zb_R_takesBracket 17 = .ok (.aload_n 0, 1) := by decide +kernel
theorem zd_R_takesBracket_18 : decode zb_R_takesBracket 18 = .ok (.dup, 1) := by decide +kernel
theorem zd_R_takesBracket_19 : decode zb_R_takesBracket 19 = .ok (.getfield 31, 3) := by decide +kernel
theorem zd_R_takesBracket_22 : decode zb_R_takesBracket 22 = .ok (.iconst 1, 1) := by decide +kernel
theorem zd_R_takesBracket_23 : decode zb_R_takesBracket 23 = .ok (.iadd, 1) := by decide +kernel
theorem zd_R_takesBracket_24 : decode zb_R_takesBracket 24 = .ok (.putfield 31, 3) := by decide +kernel
theorem zd_R_takesBracket_27 : decode zb_R_takesBracket 27 = .ok (.aload_n 0, 1) := by decide +kernel
theorem zd_R_takesBracket_28 : decode zb_R_takesBracket 28 = .ok (.bipush (-16), 2) := by decide +kernel
theorem zd_R_takesBracket_30 : decode zb_R_takesBracket 30 = .ok (.invokevirtual 70, 3) := by decide +kernel
theorem zd_R_takesBracket_33 : decode zb_R_takesBracket 33 = .ok (.iconst 1, 1) := by decide +kernel
theorem zd_R_takesBracket_34 : decode zb_R_takesBracket 34 = .ok (.ireturn, 1) := by decide +kernel

def zf_R_takesBracket (x1 : Int) (S : Sg) : Option (Int × Sg) :=
    if x1 = 40 then (if (S 3 0 4 6) < 8 then (zlt (zu S 3 0 4 6 (zw ((S 3 0 4 6) + 1))) fun S3 => zbd (zf_R_hold (-16) S3) fun a4 S5 => some (1, S5)) else (some (0, S))) else (some (0, S))
set_option maxHeartbeats 4000000 in
set_option maxRecDepth 100000 in
theorem zw_R_takesBracket {p : Program} {l : Launch} {e : Env} {s : State} {m : MethodId} {args : Array Value} {below : List Frame} {meth : Method} {c : Code} {B : zB} (C : CallFix p m c zb_R_takesBracket 2 s args zT "IslandOffice$Reader") (hr : meth.sig.returnType = some .boolean) (hlk : meth.locks = false) (hK : zK B s) (hSt : zSt B s) (hap : zAp B) {res : Int} {S9 : Sg} : ∀ (x1 : Int) (S : Sg) (nx1 : zn x1), zf_R_takesBracket x1 S = some (res, S9) → ∀ (H : Heap) (locs : List Loc) (ls : Array Slot), zW B S H → va_S B.2.2.2 s.heap H locs → lv_has ls 2 [(0, .ref (B.2.1 3 (0) (4))), (1, .int (zI (x1)))] → W p l e zm_R_takesBracket s m args below meth c H locs 0 0 (MQ below (zQi B res S9) args s 0 0 B.2.2.2) (F0 m 0 ls []) := by
  intro x1 S nx1 hf H locs ls hW hS hl
  unfold zf_R_takesBracket at hf
  refine lv_iload_n C.1 C.2.1 zd_R_takesBracket_0 rfl (lv_at hl 1 rfl) ?_
  refine zr_bipush C zd_R_takesBracket_1 (by decide) ?_
  refine zr_icmp_ne (tgt := 15) C nx1 (znb rfl) zd_R_takesBracket_3 (by decide) (fun c1 => ?_) (fun c1 => ?_)
  · rw [if_neg c1] at hf
    refine zr_iconst C zd_R_takesBracket_15 ?_
    cases hf
    exact zre_z C hr hlk hK hW hS (znb rfl) (zb01 (by decide)) zd_R_takesBracket_16
  · rw [if_pos c1] at hf
    refine lv_aload_n C.1 C.2.1 zd_R_takesBracket_6 rfl (lv_at hl 0 rfl) ?_
    refine zg_R_brackets (r := 0) C hK hW (zvd_3 (by decide) (by decide)) zk_387 zd_R_takesBracket_7 ?_
    refine zr_bipush C zd_R_takesBracket_10 (by decide) ?_
    refine zr_icmp_lt (tgt := 17) C (zWn hW _ _ _ _ rfl) (znb rfl) zd_R_takesBracket_12 (by decide) (fun c2 => ?_) (fun c2 => ?_)
    · rw [if_pos c2] at hf
      refine lv_aload_n C.1 C.2.1 zd_R_takesBracket_17 rfl (lv_at hl 0 rfl) ?_
      refine lv_dup C.1 C.2.1 zd_R_takesBracket_18 rfl ?_
      refine zg_R_brackets (r := 0) C hK hW (zvd_3 (by decide) (by decide)) zk_387 zd_R_takesBracket_19 ?_
      refine zr_iconst C zd_R_takesBracket_22 ?_
      refine zr_iadd C zd_R_takesBracket_23 ?_
      obtain ⟨S3, eS3, hf⟩ := zlt_some hf
      refine zp_R_brackets (r := 0) C hK hap hW hS (zvd_3 (by decide) (by decide)) zk_387 (zn_w _) zd_R_takesBracket_24 (fun H locs hW hS => ?_)
      rw [eS3] at hW
      refine lv_aload_n C.1 C.2.1 zd_R_takesBracket_27 rfl (lv_at hl 0 rfl) ?_
      refine zr_bipush C zd_R_takesBracket_28 (by decide) ?_
      obtain ⟨a4, S5, ea4, hf⟩ := zbd_some hf
      refine zcVv (As := [.int (zI (-16))]) (rest := []) C hK hSt hW hS (zc_R_hold hap (-16) S3 (znb rfl) ea4) zq_R_hold zk_635 (zrecv hK hW (zvd_3 (by decide) (by decide)) (ze_3_4 B _ (0)) rfl) ⟨rfl, rfl, by decide, by decide⟩ ⟨Nat.zero_le _, Nat.zero_le _⟩ rfl hl.1 rfl (lv_room (Nat.le_of_ble_eq_true rfl)) zd_R_takesBracket_30 (fun H locs hW hS => ?_)
      refine zr_iconst C zd_R_takesBracket_33 ?_
      cases hf
      exact zre_z C hr hlk hK hW hS (znb rfl) (zb01 (by decide)) zd_R_takesBracket_34
    · rw [if_neg c2] at hf
      refine zr_iconst C zd_R_takesBracket_15 ?_
      cases hf
      exact zre_z C hr hlk hK hW hS (znb rfl) (zb01 (by decide)) zd_R_takesBracket_16

theorem zc_R_takesBracket {l : Launch} {B : zB} (hap : zAp B) (x1 : Int) (S : Sg) (nx1 : zn x1) {res : Int} {S9 : Sg} (hf : zf_R_takesBracket x1 S = some (res, S9)) : Met l zy_R_takesBracket (Cond.code zy_R_takesBracket zb_R_takesBracket 2 (some .boolean) :: zT) zm_R_takesBracket (zP B S [.ref (B.2.1 3 (0) (4)), .int (zI (x1))]) (zQi B res S9) 0 0 B.2.2.2 :=
  zmet (by decide) (Nat.le_of_ble_eq_true rfl) (fun p e s m args below meth c C hr hlk hK hSt hW ls hl => zw_R_takesBracket C hr hlk hK hSt hap   x1 S nx1 hf _ _ _ hW va_S.rf hl)
/-! IslandOffice$Reader.takesDigit(I)Z -/
abbrev zy_R_takesDigit : MethodName := ⟨"IslandOffice$Reader", "takesDigit", "(I)Z"⟩
abbrev zb_R_takesDigit : ByteArray := prog_9_method_8_code
abbrev zm_R_takesDigit : Room := { frames := 0, cells := 0, slots := 0, locals := 0 }
theorem zq_R_takesDigit : zMy zy_R_takesDigit zb_R_takesDigit 3 (some .boolean) 1 := ⟨zk_657, zk_656, zs_8, zk_10, by decide, by decide, by decide +kernel⟩
theorem zd_R_takesDigit_0 : decode zb_R_takesDigit 0 = .ok (.iload_n 1, 1) := by decide +kernel
theorem zd_R_takesDigit_1 : decode zb_R_takesDigit 1 = .ok (.bipush 48, 2) := by decide +kernel
theorem zd_R_takesDigit_3 : decode zb_R_takesDigit 3 = .ok (.if_icmp .lt 33, 3) := by decide +kernel
theorem zd_R_takesDigit_6 : decode zb_R_takesDigit 6 = .ok (.iload_n 1, 1) := by decide +kernel
theorem zd_R_takesDigit_7 : decode zb_R_takesDigit 7 = .ok (.bipush 57, 2) := by decide +kernel
theorem zd_R_takesDigit_9 : decode zb_R_takesDigit 9 = .ok (.if_icmp .gt 27, 3) := by decide +kernel
theorem zd_R_takesDigit_12 : decode zb_R_takesDigit 12 = .ok (.aload_n 0, 1) := by decide +kernel
theorem zd_R_takesDigit_13 : decode zb_R_takesDigit 13 = .ok (.getfield 34, 3) := by decide +kernel
theorem zd_R_takesDigit_16 : decode zb_R_takesDigit 16 = .ok (.iconst 1, 1) := by decide +kernel
theorem zd_R_takesDigit_17 : decode zb_R_takesDigit 17 = .ok (.if_icmp .lt 19, 3) := by decide +kernel
theorem zd_R_takesDigit_20 : decode zb_R_takesDigit 20 = .ok (.aload_n 0, 1) := by decide +kernel
theorem zd_R_takesDigit_21 : decode zb_R_takesDigit 21 = .ok (.getfield 34, 3) := by decide +kernel
theorem zd_R_takesDigit_24 : decode zb_R_takesDigit 24 = .ok (.iconst 4, 1) := by decide +kernel
theorem zd_R_takesDigit_25 : decode zb_R_takesDigit 25 = .ok (.if_icmp .ge 11, 3) := by decide +kernel
theorem zd_R_takesDigit_28 : decode zb_R_takesDigit 28 = .ok (.aload_n 0, 1) := by decide +kernel
theorem zd_R_takesDigit_29 : decode zb_R_takesDigit 29 = .ok (.getfield 22, 3) := by decide +kernel
theorem zd_R_takesDigit_32 : decode zb_R_takesDigit 32 = .ok (.iconst 1, 1) := by decide +kernel
theorem zd_R_takesDigit_33 : decode zb_R_takesDigit 33 = .ok (.if_icmp .ge 5, 3) := by decide +kernel
theorem zd_R_takesDigit_36 : decode zb_R_takesDigit 36 = .ok (.iconst 0, 1) := by decide +kernel
theorem zd_R_takesDigit_37 : decode zb_R_takesDigit 37 = .ok (.ireturn, 1) := by decide +kernel
theorem zd_R_takesDigit_38 : decode zb_R_takesDigit 38 = .ok (.aload_n 0, 1) := by decide +kernel
theorem zd_R_takesDigit_39 : decode zb_R_takesDigit 39 = .ok (.getfield 9, 3) := by decide +kernel
theorem zd_R_takesDigit_42 : decode zb_R_takesDigit 42 = .ok (.aload_n 0, 1) := by decide +kernel
theorem zd_R_takesDigit_43 : decode zb_R_takesDigit 43 = .ok (.getfield 22, 3) := by decide +kernel
theorem zd_R_takesDigit_46 : decode zb_R_takesDigit 46 = .ok (.iconst 1, 1) := by decide +kernel
theorem zd_R_takesDigit_47 : decode zb_R_takesDigit 47 = .ok (.isub, 1) := by decide +kernel
theorem zd_R_takesDigit_48 : decode zb_R_takesDigit 48 = .ok (.iaload, 1) := by decide +kernel
theorem zd_R_takesDigit_49 : decode zb_R_takesDigit 49 = .ok (.istore_n 2, 1) := by decide +kernel
theorem zd_R_takesDigit_50 : decode zb_R_takesDigit 50 = .ok (.iload_n 2, 1) := by decide +kernel
theorem zd_R_takesDigit_51 : decode zb_R_takesDigit 51 = .ok (.ifCond .ne 5, 3) := by decide +kernel
theorem zd_R_takesDigit_54 : decode zb_R_takesDigit 54 = .ok (.iconst 0, 1) := by decide +kernel
theorem zd_R_takesDigit_55 : decode zb_R_takesDigit 55 = .ok (.ireturn, 1) := by decide +kernel
theorem zd_R_takesDigit_56 : decode zb_R_takesDigit 56 = .ok (.aload_n 0, 1) := by decide +kernel
theorem zd_R_takesDigit_57 : decode zb_R_takesDigit 57 = .ok (.getfield 9, 3) := by decide +kernel
theorem zd_R_takesDigit_60 : decode zb_R_takesDigit 60 = .ok (.aload_n 0, 1) := by decide +kernel
theorem zd_R_takesDigit_61 : decode zb_R_takesDigit 61 = .ok (.getfield 22, 3) := by decide +kernel
theorem zd_R_takesDigit_64 : decode zb_R_takesDigit 64 = .ok (.iconst 1, 1) := by decide +kernel
theorem zd_R_takesDigit_65 : decode zb_R_takesDigit 65 = .ok (.isub, 1) := by decide +kernel
theorem zd_R_takesDigit_66 : decode zb_R_takesDigit 66 = .ok (.bipush 10, 2) := by decide +kernel
theorem zd_R_takesDigit_68 : decode zb_R_takesDigit 68 = .ok (.iload_n 2, 1) := by decide +kernel
theorem zd_R_takesDigit_69 : decode zb_R_takesDigit 69 = .ok (.imul, 1) := by decide +kernel
theorem zd_R_takesDigit_70 : decode zb_R_takesDigit 70 = .ok (.iload_n 1, 1) := by decide +kernel
theorem zd_R_takesDigit_71 : decode zb_R_takesDigit 71 = .ok (.iadd, 1) := by decide +kernel
theorem zd_R_takesDigit_72 : decode zb_R_takesDigit 72 = .ok (.bipush 48, 2) := by decide +kernel
theorem zd_R_takesDigit_74 : decode zb_R_takesDigit 74 = .ok (.isub, 1) := by decide +kernel
theorem zd_R_takesDigit_75 : decode zb_R_takesDigit 75 = .ok (.iastore, 1) := by decide +kernel
theorem zd_R_takesDigit_76 : decode zb_R_takesDigit 76 = .ok (.aload_n 0, 1) := by decide +kernel
theorem zd_R_takesDigit_77 : decode zb_R_takesDigit 77 = .ok (.dup, 1) := by decide +kernel
theorem zd_R_takesDigit_78 : decode zb_R_takesDigit 78 = .ok (.getfield 34, 3) := by decide +kernel
theorem zd_R_takesDigit_81 : decode zb_R_takesDigit 81 = .ok (.iconst 1, 1) := by decide +kernel
theorem zd_R_takesDigit_82 : decode zb_R_takesDigit 82 = .ok (.iadd, 1) := by decide +kernel
theorem zd_R_takesDigit_83 : decode zb_R_takesDigit 83 = .ok (.putfield 34, 3) := by decide +kernel
theorem zd_R_takesDigit_86 : decode zb_R_takesDigit 86 = .ok (.iconst 1, 1) := by decide +kernel
theorem zd_R_takesDigit_87 : decode zb_R_takesDigit 87 = .ok (.ireturn, 1) := by decide +kernel

def zf_R_takesDigit (x1 : Int) (S : Sg) : Option (Int × Sg) :=
    if x1 < 48 then (some (0, S)) else (if 57 < x1 then (some (0, S)) else (if (S 3 0 4 7) < 1 then (some (0, S)) else (if 4 ≤ (S 3 0 4 7) then (some (0, S)) else (if 1 ≤ (S 3 0 4 2) then (zck (0 ≤ (zw ((S 3 0 4 2) - 1)) ∧ (zw ((S 3 0 4 2) - 1)) < 120) <| zlt (S 3 0 5 (zw ((S 3 0 4 2) - 1))) fun v7 => if v7 = 0 then (some (0, S)) else (zlt (zu S 3 0 5 (zw ((S 3 0 4 2) - 1)) (zw ((zw ((zw (10 * v7)) + x1)) - 48))) fun S9 => zlt (zu S9 3 0 4 7 (zw ((S9 3 0 4 7) + 1))) fun S10 => some (1, S10))) else (some (0, S))))))
set_option maxHeartbeats 4000000 in
set_option maxRecDepth 100000 in
theorem zw_R_takesDigit {p : Program} {l : Launch} {e : Env} {s : State} {m : MethodId} {args : Array Value} {below : List Frame} {meth : Method} {c : Code} {B : zB} (C : CallFix p m c zb_R_takesDigit 3 s args zT "IslandOffice$Reader") (hr : meth.sig.returnType = some .boolean) (hlk : meth.locks = false) (hK : zK B s) (hSt : zSt B s) (hap : zAp B) {res : Int} {S9 : Sg} : ∀ (x1 : Int) (S : Sg) (nx1 : zn x1), zf_R_takesDigit x1 S = some (res, S9) → ∀ (H : Heap) (locs : List Loc) (ls : Array Slot), zW B S H → va_S B.2.2.2 s.heap H locs → lv_has ls 3 [(0, .ref (B.2.1 3 (0) (4))), (1, .int (zI (x1)))] → W p l e zm_R_takesDigit s m args below meth c H locs 0 0 (MQ below (zQi B res S9) args s 0 0 B.2.2.2) (F0 m 0 ls []) := by
  intro x1 S nx1 hf H locs ls hW hS hl
  unfold zf_R_takesDigit at hf
  refine lv_iload_n C.1 C.2.1 zd_R_takesDigit_0 rfl (lv_at hl 1 rfl) ?_
  refine zr_bipush C zd_R_takesDigit_1 (by decide) ?_
  refine zr_icmp_lt (tgt := 36) C nx1 (znb rfl) zd_R_takesDigit_3 (by decide) (fun c1 => ?_) (fun c1 => ?_)
  · rw [if_pos c1] at hf
    refine zr_iconst C zd_R_takesDigit_36 ?_
    cases hf
    exact zre_z C hr hlk hK hW hS (znb rfl) (zb01 (by decide)) zd_R_takesDigit_37
  · rw [if_neg c1] at hf
    refine lv_iload_n C.1 C.2.1 zd_R_takesDigit_6 rfl (lv_at hl 1 rfl) ?_
    refine zr_bipush C zd_R_takesDigit_7 (by decide) ?_
    refine zr_icmp_gt (tgt := 36) C nx1 (znb rfl) zd_R_takesDigit_9 (by decide) (fun c2 => ?_) (fun c2 => ?_)
    · rw [if_pos c2] at hf
      refine zr_iconst C zd_R_takesDigit_36 ?_
      cases hf
      exact zre_z C hr hlk hK hW hS (znb rfl) (zb01 (by decide)) zd_R_takesDigit_37
    · rw [if_neg c2] at hf
      refine lv_aload_n C.1 C.2.1 zd_R_takesDigit_12 rfl (lv_at hl 0 rfl) ?_
      refine zg_R_digits (r := 0) C hK hW (zvd_3 (by decide) (by decide)) zk_388 zd_R_takesDigit_13 ?_
      refine zr_iconst C zd_R_takesDigit_16 ?_
      refine zr_icmp_lt (tgt := 36) C (zWn hW _ _ _ _ rfl) (znb rfl) zd_R_takesDigit_17 (by decide) (fun c3 => ?_) (fun c3 => ?_)
      · rw [if_pos c3] at hf
        refine zr_iconst C zd_R_takesDigit_36 ?_
        cases hf
        exact zre_z C hr hlk hK hW hS (znb rfl) (zb01 (by decide)) zd_R_takesDigit_37
      · rw [if_neg c3] at hf
        refine lv_aload_n C.1 C.2.1 zd_R_takesDigit_20 rfl (lv_at hl 0 rfl) ?_
        refine zg_R_digits (r := 0) C hK hW (zvd_3 (by decide) (by decide)) zk_388 zd_R_takesDigit_21 ?_
        refine zr_iconst C zd_R_takesDigit_24 ?_
        refine zr_icmp_ge (tgt := 36) C (zWn hW _ _ _ _ rfl) (znb rfl) zd_R_takesDigit_25 (by decide) (fun c4 => ?_) (fun c4 => ?_)
        · rw [if_pos c4] at hf
          refine zr_iconst C zd_R_takesDigit_36 ?_
          cases hf
          exact zre_z C hr hlk hK hW hS (znb rfl) (zb01 (by decide)) zd_R_takesDigit_37
        · rw [if_neg c4] at hf
          refine lv_aload_n C.1 C.2.1 zd_R_takesDigit_28 rfl (lv_at hl 0 rfl) ?_
          refine zg_R_codeSize (r := 0) C hK hW (zvd_3 (by decide) (by decide)) zk_382 zd_R_takesDigit_29 ?_
          refine zr_iconst C zd_R_takesDigit_32 ?_
          refine zr_icmp_ge (tgt := 38) C (zWn hW _ _ _ _ rfl) (znb rfl) zd_R_takesDigit_33 (by decide) (fun c5 => ?_) (fun c5 => ?_)
          · rw [if_pos c5] at hf
            refine lv_aload_n C.1 C.2.1 zd_R_takesDigit_38 rfl (lv_at hl 0 rfl) ?_
            refine zg_R_code (r := 0) C hK hW (zvd_3 (by decide) (by decide)) zk_380 zd_R_takesDigit_39 ?_
            refine lv_aload_n C.1 C.2.1 zd_R_takesDigit_42 rfl (lv_at hl 0 rfl) ?_
            refine zg_R_codeSize (r := 0) C hK hW (zvd_3 (by decide) (by decide)) zk_382 zd_R_takesDigit_43 ?_
            refine zr_iconst C zd_R_takesDigit_46 ?_
            refine zr_isub C zd_R_takesDigit_47 ?_
            obtain ⟨h6, hf⟩ := zck_some hf
            refine ziald C hK hW (zvd_3 (by decide) (by decide)) (fun f => ze_3_5 B f (0)) (by decide) h6 zd_R_takesDigit_48 ?_
            obtain ⟨v7, ev7, hf⟩ := zlt_some hf
            have nv7 : zn v7 := by rw [← ev7]; exact (zWn hW _ _ _ _ rfl)
            rw [ev7]
            refine lv_istore_n (lv' := [(2, .int (zI (v7))), (0, .ref (B.2.1 3 (0) (4))), (1, .int (zI (x1)))]) C.1 C.2.1 zd_R_takesDigit_49 rfl hl (by decide) rfl (fun ls hl => ?_)
            refine lv_iload_n C.1 C.2.1 zd_R_takesDigit_50 rfl (lv_at hl 0 rfl) ?_
            refine zr_if_ne (tgt := 56) C nv7 zd_R_takesDigit_51 (by decide) (fun c8 => ?_) (fun c8 => ?_)
            · rw [if_neg c8] at hf
              refine lv_aload_n C.1 C.2.1 zd_R_takesDigit_56 rfl (lv_at hl 1 rfl) ?_
              refine zg_R_code (r := 0) C hK hW (zvd_3 (by decide) (by decide)) zk_380 zd_R_takesDigit_57 ?_
              refine lv_aload_n C.1 C.2.1 zd_R_takesDigit_60 rfl (lv_at hl 1 rfl) ?_
              refine zg_R_codeSize (r := 0) C hK hW (zvd_3 (by decide) (by decide)) zk_382 zd_R_takesDigit_61 ?_
              refine zr_iconst C zd_R_takesDigit_64 ?_
              refine zr_isub C zd_R_takesDigit_65 ?_
              refine zr_bipush C zd_R_takesDigit_66 (by decide) ?_
              refine lv_iload_n C.1 C.2.1 zd_R_takesDigit_68 rfl (lv_at hl 0 rfl) ?_
              refine zr_imul C zd_R_takesDigit_69 ?_
              refine lv_iload_n C.1 C.2.1 zd_R_takesDigit_70 rfl (lv_at hl 2 rfl) ?_
              refine zr_iadd C zd_R_takesDigit_71 ?_
              refine zr_bipush C zd_R_takesDigit_72 (by decide) ?_
              refine zr_isub C zd_R_takesDigit_74 ?_
              obtain ⟨S9, eS9, hf⟩ := zlt_some hf
              refine ziast C hK hap hW hS (zvd_3 (by decide) (by decide)) (fun f => ze_3_5 B f (0)) (by decide) rfl (zn_w _) h6 zd_R_takesDigit_75 (fun H locs hW hS => ?_)
              rw [eS9] at hW
              refine lv_aload_n C.1 C.2.1 zd_R_takesDigit_76 rfl (lv_at hl 1 rfl) ?_
              refine lv_dup C.1 C.2.1 zd_R_takesDigit_77 rfl ?_
              refine zg_R_digits (r := 0) C hK hW (zvd_3 (by decide) (by decide)) zk_388 zd_R_takesDigit_78 ?_
              refine zr_iconst C zd_R_takesDigit_81 ?_
              refine zr_iadd C zd_R_takesDigit_82 ?_
              obtain ⟨S10, eS10, hf⟩ := zlt_some hf
              refine zp_R_digits (r := 0) C hK hap hW hS (zvd_3 (by decide) (by decide)) zk_388 (zn_w _) zd_R_takesDigit_83 (fun H locs hW hS => ?_)
              rw [eS10] at hW
              refine zr_iconst C zd_R_takesDigit_86 ?_
              cases hf
              exact zre_z C hr hlk hK hW hS (znb rfl) (zb01 (by decide)) zd_R_takesDigit_87
            · rw [if_pos c8] at hf
              refine zr_iconst C zd_R_takesDigit_54 ?_
              cases hf
              exact zre_z C hr hlk hK hW hS (znb rfl) (zb01 (by decide)) zd_R_takesDigit_55
          · rw [if_neg c5] at hf
            refine zr_iconst C zd_R_takesDigit_36 ?_
            cases hf
            exact zre_z C hr hlk hK hW hS (znb rfl) (zb01 (by decide)) zd_R_takesDigit_37

theorem zc_R_takesDigit {l : Launch} {B : zB} (hap : zAp B) (x1 : Int) (S : Sg) (nx1 : zn x1) {res : Int} {S9 : Sg} (hf : zf_R_takesDigit x1 S = some (res, S9)) : Met l zy_R_takesDigit (Cond.code zy_R_takesDigit zb_R_takesDigit 3 (some .boolean) :: zT) zm_R_takesDigit (zP B S [.ref (B.2.1 3 (0) (4)), .int (zI (x1))]) (zQi B res S9) 0 0 B.2.2.2 :=
  zmet (by decide) (Nat.le_of_ble_eq_true rfl) (fun p e s m args below meth c C hr hlk hK hSt hW ls hl => zw_R_takesDigit C hr hlk hK hSt hap   x1 S nx1 hf _ _ _ hW va_S.rf hl)
/-! IslandOffice$Reader.strength(I)I -/
abbrev zy_R_strength : MethodName := ⟨"IslandOffice$Reader", "strength", "(I)I"⟩
abbrev zb_R_strength : ByteArray := prog_9_method_13_code
abbrev zm_R_strength : Room := { frames := 0, cells := 0, slots := 0, locals := 0 }
theorem zq_R_strength : zMs zy_R_strength zb_R_strength 1 (some .int) 1 := ⟨zk_668, zk_667, zk_10, by decide, by decide, by decide +kernel⟩
theorem zd_R_strength_0 : decode zb_R_strength 0 = .ok (.iload_n 0, 1) := by decide +kernel
theorem zd_R_strength_1 : decode zb_R_strength 1 = .ok (.tableswitch 63 (-15) (-8) #[57, 61, 59, 55, 53, 51, 49, 47], 47) := by decide +kernel
theorem zd_R_strength_48 : decode zb_R_strength 48 = .ok (.iconst 5, 1) := by decide +kernel
theorem zd_R_strength_49 : decode zb_R_strength 49 = .ok (.ireturn, 1) := by decide +kernel
theorem zd_R_strength_50 : decode zb_R_strength 50 = .ok (.iconst 5, 1) := by decide +kernel
theorem zd_R_strength_51 : decode zb_R_strength 51 = .ok (.ireturn, 1) := by decide +kernel
theorem zd_R_strength_52 : decode zb_R_strength 52 = .ok (.iconst 4, 1) := by decide +kernel
theorem zd_R_strength_53 : decode zb_R_strength 53 = .ok (.ireturn, 1) := by decide +kernel
theorem zd_R_strength_54 : decode zb_R_strength 54 = .ok (.iconst 4, 1) := by decide +kernel
theorem zd_R_strength_55 : decode zb_R_strength 55 = .ok (.ireturn, 1) := by decide +kernel
theorem zd_R_strength_56 : decode zb_R_strength 56 = .ok (.iconst 4, 1) := by decide +kernel
theorem zd_R_strength_57 : decode zb_R_strength 57 = .ok (.ireturn, 1) := by decide +kernel
theorem zd_R_strength_58 : decode zb_R_strength 58 = .ok (.iconst 3, 1) := by decide +kernel
theorem zd_R_strength_59 : decode zb_R_strength 59 = .ok (.ireturn, 1) := by decide +kernel
theorem zd_R_strength_60 : decode zb_R_strength 60 = .ok (.iconst 2, 1) := by decide +kernel
theorem zd_R_strength_61 : decode zb_R_strength 61 = .ok (.ireturn, 1) := by decide +kernel
theorem zd_R_strength_62 : decode zb_R_strength 62 = .ok (.iconst 1, 1) := by decide +kernel
theorem zd_R_strength_63 : decode zb_R_strength 63 = .ok (.ireturn, 1) := by decide +kernel
theorem zd_R_strength_64 : decode zb_R_strength 64 = .ok (.iconst 0, 1) := by decide +kernel
theorem zd_R_strength_65 : decode zb_R_strength 65 = .ok (.ireturn, 1) := by decide +kernel

def zf_R_strength (x0 : Int) (S : Sg) : Option (Int × Sg) :=
    if x0 = (-15) then (some (3, S)) else (if x0 = (-14) then (some (1, S)) else (if x0 = (-13) then (some (2, S)) else (if x0 = (-12) then (some (4, S)) else (if x0 = (-11) then (some (4, S)) else (if x0 = (-10) then (some (4, S)) else (if x0 = (-9) then (some (5, S)) else (if x0 = (-8) then (some (5, S)) else (some (0, S)))))))))
set_option maxHeartbeats 4000000 in
set_option maxRecDepth 100000 in
theorem zw_R_strength {p : Program} {l : Launch} {e : Env} {s : State} {m : MethodId} {args : Array Value} {below : List Frame} {meth : Method} {c : Code} {B : zB} (C : CallFix p m c zb_R_strength 1 s args zT "IslandOffice$Reader") (hr : meth.sig.returnType = some .int) (hlk : meth.locks = false) (hK : zK B s) (hSt : zSt B s) (hap : zAp B) {res : Int} {S9 : Sg} : ∀ (x0 : Int) (S : Sg) (nx0 : zn x0), zf_R_strength x0 S = some (res, S9) → ∀ (H : Heap) (locs : List Loc) (ls : Array Slot), zW B S H → va_S B.2.2.2 s.heap H locs → lv_has ls 1 [(0, .int (zI (x0)))] → W p l e zm_R_strength s m args below meth c H locs 0 0 (MQ below (zQi B res S9) args s 0 0 B.2.2.2) (F0 m 0 ls []) := by
  intro x0 S nx0 hf H locs ls hW hS hl
  unfold zf_R_strength at hf
  refine lv_iload_n C.1 C.2.1 zd_R_strength_0 rfl (lv_at hl 0 rfl) ?_
  by_cases c1 : x0 = (-15)
  · rw [if_pos c1] at hf
    refine zr_tab (off := 57) (tgt := 58) C nx0 zd_R_strength_1 (by omega) (by omega) (by rw [c1]; rfl) (by decide) ?_
    refine zr_iconst C zd_R_strength_58 ?_
    cases hf
    exact zre_i C hr hlk hK hW hS (znb rfl) zd_R_strength_59
  rw [if_neg c1] at hf
  by_cases c2 : x0 = (-14)
  · rw [if_pos c2] at hf
    refine zr_tab (off := 61) (tgt := 62) C nx0 zd_R_strength_1 (by omega) (by omega) (by rw [c2]; rfl) (by decide) ?_
    refine zr_iconst C zd_R_strength_62 ?_
    cases hf
    exact zre_i C hr hlk hK hW hS (znb rfl) zd_R_strength_63
  rw [if_neg c2] at hf
  by_cases c3 : x0 = (-13)
  · rw [if_pos c3] at hf
    refine zr_tab (off := 59) (tgt := 60) C nx0 zd_R_strength_1 (by omega) (by omega) (by rw [c3]; rfl) (by decide) ?_
    refine zr_iconst C zd_R_strength_60 ?_
    cases hf
    exact zre_i C hr hlk hK hW hS (znb rfl) zd_R_strength_61
  rw [if_neg c3] at hf
  by_cases c4 : x0 = (-12)
  · rw [if_pos c4] at hf
    refine zr_tab (off := 55) (tgt := 56) C nx0 zd_R_strength_1 (by omega) (by omega) (by rw [c4]; rfl) (by decide) ?_
    refine zr_iconst C zd_R_strength_56 ?_
    cases hf
    exact zre_i C hr hlk hK hW hS (znb rfl) zd_R_strength_57
  rw [if_neg c4] at hf
  by_cases c5 : x0 = (-11)
  · rw [if_pos c5] at hf
    refine zr_tab (off := 53) (tgt := 54) C nx0 zd_R_strength_1 (by omega) (by omega) (by rw [c5]; rfl) (by decide) ?_
    refine zr_iconst C zd_R_strength_54 ?_
    cases hf
    exact zre_i C hr hlk hK hW hS (znb rfl) zd_R_strength_55
  rw [if_neg c5] at hf
  by_cases c6 : x0 = (-10)
  · rw [if_pos c6] at hf
    refine zr_tab (off := 51) (tgt := 52) C nx0 zd_R_strength_1 (by omega) (by omega) (by rw [c6]; rfl) (by decide) ?_
    refine zr_iconst C zd_R_strength_52 ?_
    cases hf
    exact zre_i C hr hlk hK hW hS (znb rfl) zd_R_strength_53
  rw [if_neg c6] at hf
  by_cases c7 : x0 = (-9)
  · rw [if_pos c7] at hf
    refine zr_tab (off := 49) (tgt := 50) C nx0 zd_R_strength_1 (by omega) (by omega) (by rw [c7]; rfl) (by decide) ?_
    refine zr_iconst C zd_R_strength_50 ?_
    cases hf
    exact zre_i C hr hlk hK hW hS (znb rfl) zd_R_strength_51
  rw [if_neg c7] at hf
  by_cases c8 : x0 = (-8)
  · rw [if_pos c8] at hf
    refine zr_tab (off := 47) (tgt := 48) C nx0 zd_R_strength_1 (by omega) (by omega) (by rw [c8]; rfl) (by decide) ?_
    refine zr_iconst C zd_R_strength_48 ?_
    cases hf
    exact zre_i C hr hlk hK hW hS (znb rfl) zd_R_strength_49
  rw [if_neg c8] at hf
  refine zr_tabo (tgt := 64) C nx0 zd_R_strength_1 (by omega) (by decide) ?_
  refine zr_iconst C zd_R_strength_64 ?_
  cases hf
  exact zre_i C hr hlk hK hW hS (znb rfl) zd_R_strength_65

theorem zc_R_strength {l : Launch} {B : zB} (hap : zAp B) (x0 : Int) (S : Sg) (nx0 : zn x0) {res : Int} {S9 : Sg} (hf : zf_R_strength x0 S = some (res, S9)) : Met l zy_R_strength (Cond.code zy_R_strength zb_R_strength 1 (some .int) :: zT) zm_R_strength (zP B S [.int (zI (x0))]) (zQi B res S9) 0 0 B.2.2.2 :=
  zmet (by decide) (Nat.le_of_ble_eq_true rfl) (fun p e s m args below meth c C hr hlk hK hSt hW ls hl => zw_R_strength C hr hlk hK hSt hap   x0 S nx0 hf _ _ _ hW va_S.rf hl)
/-! IslandOffice$Reader.unwind(I)V -/
abbrev zy_R_unwind : MethodName := ⟨"IslandOffice$Reader", "unwind", "(I)V"⟩
abbrev zb_R_unwind : ByteArray := prog_9_method_14_code
abbrev zm_R_unwind : Room := { frames := 1, cells := 0, slots := 0, locals := 21 }
theorem zq_R_unwind : zMy zy_R_unwind zb_R_unwind 3 (none) 1 := ⟨zk_665, zk_664, zs_10, zk_10, by decide, by decide, by decide +kernel⟩
theorem zd_R_unwind_0 : decode zb_R_unwind 0 = .ok (.iload_n 1, 1) := by decide +kernel
theorem zd_R_unwind_1 : decode zb_R_unwind 1 = .ok (.invokestatic 86, 3) := by decide +kernel
theorem zd_R_unwind_4 : decode zb_R_unwind 4 = .ok (.istore_n 2, 1) := by decide +kernel
theorem zd_R_unwind_5 : decode zb_R_unwind 5 = .ok (.aload_n 0, 1) := by decide +kernel
theorem zd_R_unwind_6 : decode zb_R_unwind 6 = .ok (.getfield 25, 3) := by decide +kernel
theorem zd_R_unwind_9 : decode zb_R_unwind 9 = .ok (.ifCond .le 47, 3) := by decide +kernel
theorem zd_R_unwind_12 : decode zb_R_unwind 12 = .ok (.aload_n 0, 1) := by decide +kernel
theorem zd_R_unwind_13 : decode zb_R_unwind 13 = .ok (.getfield 15, 3) := by decide +kernel
theorem zd_R_unwind_16 : decode zb_R_unwind 16 = .ok (.aload_n 0, 1) := by decide +kernel
theorem zd_R_unwind_17 : decode zb_R_unwind 17 = .ok (.getfield 25, 3) := by decide +kernel
theorem zd_R_unwind_20 : decode zb_R_unwind 20 = .ok (.iconst 1, 1) := by decide +kernel
theorem zd_R_unwind_21 : decode zb_R_unwind 21 = .ok (.isub, 1) := by decide +kernel
theorem zd_R_unwind_22 : decode zb_R_unwind 22 = .ok (.iaload, 1) := by decide +kernel
theorem zd_R_unwind_23 : decode zb_R_unwind 23 = .ok (.invokestatic 86, 3) := by decide +kernel
theorem zd_R_unwind_26 : decode zb_R_unwind 26 = .ok (.iload_n 2, 1) := by decide +kernel
theorem zd_R_unwind_27 : decode zb_R_unwind 27 = .ok (.if_icmp .lt 29, 3) := by decide +kernel
theorem zd_R_unwind_30 : decode zb_R_unwind 30 = .ok (.aload_n 0, 1) := by decide +kernel
theorem zd_R_unwind_31 : decode zb_R_unwind 31 = .ok (.dup, 1) := by decide +kernel
theorem zd_R_unwind_32 : decode zb_R_unwind 32 = .ok (.getfield 25, 3) := by decide +kernel
theorem zd_R_unwind_35 : decode zb_R_unwind 35 = .ok (.iconst 1, 1) := by decide +kernel
theorem zd_R_unwind_36 : decode zb_R_unwind 36 = .ok (.isub, 1) := by decide +kernel
theorem zd_R_unwind_37 : decode zb_R_unwind 37 = .ok (.putfield 25, 3) := by decide +kernel
theorem zd_R_unwind_40 : decode zb_R_unwind 40 = .ok (.aload_n 0, 1) := by decide +kernel
theorem zd_R_unwind_41 : decode zb_R_unwind 41 = .ok (.aload_n 0, 1) := by decide +kernel
theorem zd_R_unwind_42 : decode zb_R_unwind 42 = .ok (.getfield 15, 3) := by decide +kernel
theorem zd_R_unwind_45 : decode zb_R_unwind 45 = .ok (.aload_n 0, 1) := by decide +kernel
theorem zd_R_unwind_46 : decode zb_R_unwind 46 = .ok (.getfield 25, 3) := by decide +kernel
theorem zd_R_unwind_49 : decode zb_R_unwind 49 = .ok (.iaload, 1) := by decide +kernel
theorem zd_R_unwind_50 : decode zb_R_unwind 50 = .ok (.invokevirtual 77, 3) := by decide +kernel
theorem zd_R_unwind_53 : decode zb_R_unwind 53 = .ok (.goto (-48), 3) := by decide +kernel
theorem zd_R_unwind_56 : decode zb_R_unwind 56 = .ok (.return_, 1) := by decide +kernel

def zf_R_unwind_5 : Nat → Int → Sg → Option (Int × Sg)
  | 0, _, _ => none
  | n + 1, x2, S =>
    if (S 3 0 4 4) ≤ 0 then (some (0, S)) else (zck (0 ≤ (zw ((S 3 0 4 4) - 1)) ∧ (zw ((S 3 0 4 4) - 1)) < 120) <| zbd (zf_R_strength (S 3 0 6 (zw ((S 3 0 4 4) - 1))) S) fun a3 S4 => if a3 < x2 then (some (0, S4)) else (zlt (zu S4 3 0 4 4 (zw ((S4 3 0 4 4) - 1))) fun S6 => zck (0 ≤ (S6 3 0 4 4) ∧ (S6 3 0 4 4) < 120) <| zbd (zf_R_write (S6 3 0 6 (S6 3 0 4 4)) S6) fun a8 S9 => (zf_R_unwind_5 n) (x2) S9))
set_option maxHeartbeats 4000000 in
set_option maxRecDepth 100000 in
theorem zw_R_unwind_5 {p : Program} {l : Launch} {e : Env} {s : State} {m : MethodId} {args : Array Value} {below : List Frame} {meth : Method} {c : Code} {B : zB} (C : CallFix p m c zb_R_unwind 3 s args zT "IslandOffice$Reader") (hr : meth.sig.returnType = none) (hlk : meth.locks = false) (hK : zK B s) (hSt : zSt B s) (hap : zAp B) {res : Int} {S9 : Sg} : ∀ n : Nat, ∀ (x2 : Int) (S : Sg) (nx2 : zn x2), zf_R_unwind_5 n x2 S = some (res, S9) → ∀ (H : Heap) (locs : List Loc) (ls : Array Slot), zW B S H → va_S B.2.2.2 s.heap H locs → lv_has ls 3 [(0, .ref (B.2.1 3 (0) (4))), (2, .int (zI (x2)))] → W p l e zm_R_unwind s m args below meth c H locs 0 0 (MQ below (zQv B S9) args s 0 0 B.2.2.2) (F0 m 5 ls []) := by
  intro n
  induction n with
  | zero =>
    intro x2 S nx2 hf H locs ls hW hS hl
    cases hf
  | succ n ih =>
    intro x2 S nx2 hf H locs ls hW hS hl
    rw [zf_R_unwind_5] at hf
    refine lv_aload_n C.1 C.2.1 zd_R_unwind_5 rfl (lv_at hl 0 rfl) ?_
    refine zg_R_waits (r := 0) C hK hW (zvd_3 (by decide) (by decide)) zk_385 zd_R_unwind_6 ?_
    refine zr_if_le (tgt := 56) C (zWn hW _ _ _ _ rfl) zd_R_unwind_9 (by decide) (fun c1 => ?_) (fun c1 => ?_)
    · rw [if_pos c1] at hf
      cases hf
      exact zre_v C hr hlk hK hW hS zd_R_unwind_56
    · rw [if_neg c1] at hf
      refine lv_aload_n C.1 C.2.1 zd_R_unwind_12 rfl (lv_at hl 0 rfl) ?_
      refine zg_R_waiting (r := 0) C hK hW (zvd_3 (by decide) (by decide)) zk_384 zd_R_unwind_13 ?_
      refine lv_aload_n C.1 C.2.1 zd_R_unwind_16 rfl (lv_at hl 0 rfl) ?_
      refine zg_R_waits (r := 0) C hK hW (zvd_3 (by decide) (by decide)) zk_385 zd_R_unwind_17 ?_
      refine zr_iconst C zd_R_unwind_20 ?_
      refine zr_isub C zd_R_unwind_21 ?_
      obtain ⟨h2, hf⟩ := zck_some hf
      refine ziald C hK hW (zvd_3 (by decide) (by decide)) (fun f => ze_3_6 B f (0)) (by decide) h2 zd_R_unwind_22 ?_
      obtain ⟨a3, S4, ea3, hf⟩ := zbd_some hf
      refine zcSi (As := [.int (zI (S 3 0 6 (zw ((S 3 0 4 4) - 1))))]) (rest := []) C hK hSt hW hS (zc_R_strength hap (S 3 0 6 (zw ((S 3 0 4 4) - 1))) S (zWn hW _ _ _ _ rfl) ea3) zq_R_strength zk_666 ⟨rfl, rfl, by decide, by decide⟩ ⟨Nat.zero_le _, Nat.zero_le _⟩ rfl hl.1 rfl (lv_room (Nat.le_of_ble_eq_true rfl)) zd_R_unwind_23 (fun na3 H locs hW hS => ?_)
      refine lv_iload_n C.1 C.2.1 zd_R_unwind_26 rfl (lv_at hl 1 rfl) ?_
      refine zr_icmp_lt (tgt := 56) C na3 nx2 zd_R_unwind_27 (by decide) (fun c5 => ?_) (fun c5 => ?_)
      · rw [if_pos c5] at hf
        cases hf
        exact zre_v C hr hlk hK hW hS zd_R_unwind_56
      · rw [if_neg c5] at hf
        refine lv_aload_n C.1 C.2.1 zd_R_unwind_30 rfl (lv_at hl 0 rfl) ?_
        refine lv_dup C.1 C.2.1 zd_R_unwind_31 rfl ?_
        refine zg_R_waits (r := 0) C hK hW (zvd_3 (by decide) (by decide)) zk_385 zd_R_unwind_32 ?_
        refine zr_iconst C zd_R_unwind_35 ?_
        refine zr_isub C zd_R_unwind_36 ?_
        obtain ⟨S6, eS6, hf⟩ := zlt_some hf
        refine zp_R_waits (r := 0) C hK hap hW hS (zvd_3 (by decide) (by decide)) zk_385 (zn_w _) zd_R_unwind_37 (fun H locs hW hS => ?_)
        rw [eS6] at hW
        refine lv_aload_n C.1 C.2.1 zd_R_unwind_40 rfl (lv_at hl 0 rfl) ?_
        refine lv_aload_n C.1 C.2.1 zd_R_unwind_41 rfl (lv_at hl 0 rfl) ?_
        refine zg_R_waiting (r := 0) C hK hW (zvd_3 (by decide) (by decide)) zk_384 zd_R_unwind_42 ?_
        refine lv_aload_n C.1 C.2.1 zd_R_unwind_45 rfl (lv_at hl 0 rfl) ?_
        refine zg_R_waits (r := 0) C hK hW (zvd_3 (by decide) (by decide)) zk_385 zd_R_unwind_46 ?_
        obtain ⟨h7, hf⟩ := zck_some hf
        refine ziald C hK hW (zvd_3 (by decide) (by decide)) (fun f => ze_3_6 B f (0)) (by decide) h7 zd_R_unwind_49 ?_
        obtain ⟨a8, S9, ea8, hf⟩ := zbd_some hf
        refine zcVv (As := [.int (zI (S6 3 0 6 (S6 3 0 4 4)))]) (rest := []) C hK hSt hW hS (zc_R_write hap (S6 3 0 6 (S6 3 0 4 4)) S6 (zWn hW _ _ _ _ rfl) ea8) zq_R_write zk_650 (zrecv hK hW (zvd_3 (by decide) (by decide)) (ze_3_4 B _ (0)) rfl) ⟨rfl, rfl, by decide, by decide⟩ ⟨Nat.zero_le _, Nat.zero_le _⟩ rfl hl.1 rfl (lv_room (Nat.le_of_ble_eq_true rfl)) zd_R_unwind_50 (fun H locs hW hS => ?_)
        refine lv_goto (tgt := 5) C.1 C.2.1 zd_R_unwind_53 (by decide) ?_
        exact ih (x2) S9 nx2 hf _ _ _ hW hS (lv_sub hl [0, 1] rfl)

def zf_R_unwind (x1 : Int) (S : Sg) : Option (Int × Sg) :=
    zbd (zf_R_strength x1 S) fun a1 S2 => zf_R_unwind_5 4096 (a1) S2
set_option maxHeartbeats 4000000 in
set_option maxRecDepth 100000 in
theorem zw_R_unwind {p : Program} {l : Launch} {e : Env} {s : State} {m : MethodId} {args : Array Value} {below : List Frame} {meth : Method} {c : Code} {B : zB} (C : CallFix p m c zb_R_unwind 3 s args zT "IslandOffice$Reader") (hr : meth.sig.returnType = none) (hlk : meth.locks = false) (hK : zK B s) (hSt : zSt B s) (hap : zAp B) {res : Int} {S9 : Sg} : ∀ (x1 : Int) (S : Sg) (nx1 : zn x1), zf_R_unwind x1 S = some (res, S9) → ∀ (H : Heap) (locs : List Loc) (ls : Array Slot), zW B S H → va_S B.2.2.2 s.heap H locs → lv_has ls 3 [(0, .ref (B.2.1 3 (0) (4))), (1, .int (zI (x1)))] → W p l e zm_R_unwind s m args below meth c H locs 0 0 (MQ below (zQv B S9) args s 0 0 B.2.2.2) (F0 m 0 ls []) := by
  intro x1 S nx1 hf H locs ls hW hS hl
  unfold zf_R_unwind at hf
  refine lv_iload_n C.1 C.2.1 zd_R_unwind_0 rfl (lv_at hl 1 rfl) ?_
  obtain ⟨a1, S2, ea1, hf⟩ := zbd_some hf
  refine zcSi (As := [.int (zI (x1))]) (rest := []) C hK hSt hW hS (zc_R_strength hap x1 S nx1 ea1) zq_R_strength zk_666 ⟨rfl, rfl, by decide, by decide⟩ ⟨Nat.zero_le _, Nat.zero_le _⟩ rfl hl.1 rfl (lv_room (Nat.le_of_ble_eq_true rfl)) zd_R_unwind_1 (fun na1 H locs hW hS => ?_)
  refine lv_istore_n (lv' := [(2, .int (zI (a1))), (0, .ref (B.2.1 3 (0) (4))), (1, .int (zI (x1)))]) C.1 C.2.1 zd_R_unwind_4 rfl hl (by decide) rfl (fun ls hl => ?_)
  exact zw_R_unwind_5 C hr hlk hK hSt hap   4096 (a1) S2 na1 hf _ _ _ hW hS (lv_sub hl [1, 0] rfl)

theorem zc_R_unwind {l : Launch} {B : zB} (hap : zAp B) (x1 : Int) (S : Sg) (nx1 : zn x1) {res : Int} {S9 : Sg} (hf : zf_R_unwind x1 S = some (res, S9)) : Met l zy_R_unwind (Cond.code zy_R_unwind zb_R_unwind 3 (none) :: zT) zm_R_unwind (zP B S [.ref (B.2.1 3 (0) (4)), .int (zI (x1))]) (zQv B S9) 0 0 B.2.2.2 :=
  zmet (by decide) (Nat.le_of_ble_eq_true rfl) (fun p e s m args below meth c C hr hlk hK hSt hW ls hl => zw_R_unwind C hr hlk hK hSt hap   x1 S nx1 hf _ _ _ hW va_S.rf hl)
/-! IslandOffice$Reader.takesJoint(I)Z -/
abbrev zy_R_takesJoint : MethodName := ⟨"IslandOffice$Reader", "takesJoint", "(I)Z"⟩
abbrev zb_R_takesJoint : ByteArray := prog_9_method_11_code
abbrev zm_R_takesJoint : Room := { frames := 2, cells := 0, slots := 0, locals := 64 }
theorem zq_R_takesJoint : zMy zy_R_takesJoint zb_R_takesJoint 3 (some .boolean) 1 := ⟨zk_676, zk_675, zs_12, zk_10, by decide, by decide, by decide +kernel⟩
theorem zd_R_takesJoint_0 : decode zb_R_takesJoint 0 = .ok (.iload_n 1, 1) := by decide +kernel
theorem zd_R_takesJoint_1 : decode zb_R_takesJoint 1 = .ok (.bipush 41, 2) := by decide +kernel
theorem zd_R_takesJoint_3 : decode zb_R_takesJoint 3 = .ok (.if_icmp .ne 48, 3) := by decide +kernel
theorem zd_R_takesJoint_6 : decode zb_R_takesJoint 6 = .ok (.aload_n 0, 1) := by decide +kernel
theorem zd_R_takesJoint_7 : decode zb_R_takesJoint 7 = .ok (.getfield 31, 3) := by decide +kernel
theorem zd_R_takesJoint_10 : decode zb_R_takesJoint 10 = .ok (.ifCond .le 41, 3) := by decide +kernel
theorem zd_R_takesJoint_13 : decode zb_R_takesJoint 13 = .ok (.aload_n 0, 1) := by decide +kernel
theorem zd_R_takesJoint_14 : decode zb_R_takesJoint 14 = .ok (.bipush (-14), 2) := by decide +kernel
theorem zd_R_takesJoint_16 : decode zb_R_takesJoint 16 = .ok (.invokevirtual 41, 3) := by decide +kernel
theorem zd_R_takesJoint_19 : decode zb_R_takesJoint 19 = .ok (.aload_n 0, 1) := by decide +kernel
theorem zd_R_takesJoint_20 : decode zb_R_takesJoint 20 = .ok (.iconst 0, 1) := by decide +kernel
theorem zd_R_takesJoint_21 : decode zb_R_takesJoint 21 = .ok (.aload_n 0, 1) := by decide +kernel
theorem zd_R_takesJoint_22 : decode zb_R_takesJoint 22 = .ok (.getfield 25, 3) := by decide +kernel
theorem zd_R_takesJoint_25 : decode zb_R_takesJoint 25 = .ok (.iconst 1, 1) := by decide +kernel
theorem zd_R_takesJoint_26 : decode zb_R_takesJoint 26 = .ok (.isub, 1) := by decide +kernel
theorem zd_R_takesJoint_27 : decode zb_R_takesJoint 27 = .ok (.invokestatic 80, 3) := by decide +kernel
theorem zd_R_takesJoint_30 : decode zb_R_takesJoint 30 = .ok (.putfield 25, 3) := by decide +kernel
theorem zd_R_takesJoint_33 : decode zb_R_takesJoint 33 = .ok (.aload_n 0, 1) := by decide +kernel
theorem zd_R_takesJoint_34 : decode zb_R_takesJoint 34 = .ok (.dup, 1) := by decide +kernel
theorem zd_R_takesJoint_35 : decode zb_R_takesJoint 35 = .ok (.getfield 31, 3) := by decide +kernel
theorem zd_R_takesJoint_38 : decode zb_R_takesJoint 38 = .ok (.iconst 1, 1) := by decide +kernel
theorem zd_R_takesJoint_39 : decode zb_R_takesJoint 39 = .ok (.isub, 1) := by decide +kernel
theorem zd_R_takesJoint_40 : decode zb_R_takesJoint 40 = .ok (.putfield 31, 3) := by decide +kernel
theorem zd_R_takesJoint_43 : decode zb_R_takesJoint 43 = .ok (.aload_n 0, 1) := by decide +kernel
theorem zd_R_takesJoint_44 : decode zb_R_takesJoint 44 = .ok (.bipush 7, 2) := by decide +kernel
theorem zd_R_takesJoint_46 : decode zb_R_takesJoint 46 = .ok (.putfield 28, 3) := by decide +kernel
theorem zd_R_takesJoint_49 : decode zb_R_takesJoint 49 = .ok (.iconst 1, 1) := by decide +kernel
theorem zd_R_takesJoint_50 : decode zb_R_takesJoint 50 = .ok (.ireturn, 1) := by decide +kernel
theorem zd_R_takesJoint_51 : decode zb_R_takesJoint 51 = .ok (.iload_n 1, 1) := by decide +kernel
theorem zd_R_takesJoint_52 : decode zb_R_takesJoint 52 = .ok (.bipush 38, 2) := by decide +kernel
theorem zd_R_takesJoint_54 : decode zb_R_takesJoint 54 = .ok (.if_icmp .eq 11, 3) := by decide +kernel
theorem zd_R_takesJoint_57 : decode zb_R_takesJoint 57 = .ok (.iload_n 1, 1) := by decide +kernel
theorem zd_R_takesJoint_58 : decode zb_R_takesJoint 58 = .ok (.bipush 124, 2) := by decide +kernel
theorem zd_R_takesJoint_60 : decode zb_R_takesJoint 60 = .ok (.if_icmp .eq 5, 3) := by decide +kernel
theorem zd_R_takesJoint_63 : decode zb_R_takesJoint 63 = .ok (.iconst 0, 1) := by decide +kernel
theorem zd_R_takesJoint_64 : decode zb_R_takesJoint 64 = .ok (.ireturn, 1) := by decide +kernel
theorem zd_R_takesJoint_65 : decode zb_R_takesJoint 65 = .ok (.iload_n 1, 1) := by decide +kernel
theorem zd_R_takesJoint_66 : decode zb_R_takesJoint 66 = .ok (.bipush 38, 2) := by decide +kernel
theorem zd_R_takesJoint_68 : decode zb_R_takesJoint 68 = .ok (.if_icmp .ne 8, 3) := by decide +kernel
theorem zd_R_takesJoint_71 : decode zb_R_takesJoint 71 = .ok (.bipush (-13), 2) := by decide +kernel
theorem zd_R_takesJoint_73 : decode zb_R_takesJoint 73 = .ok (.goto 5, 3) := by decide +kernel
theorem zd_R_takesJoint_76 : decode zb_R_takesJoint 76 = .ok (.bipush (-14), 2) := by decide +kernel
theorem zd_R_takesJoint_78 : decode zb_R_takesJoint 78 = .ok (.istore_n 2, 1) := by decide +kernel
theorem zd_R_takesJoint_79 : decode zb_R_takesJoint 79 = .ok (.aload_n 0, 1) := by decide +kernel
theorem zd_R_takesJoint_80 : decode zb_R_takesJoint 80 = .ok (.iload_n 2, 1) := by decide +kernel
theorem zd_R_takesJoint_81 : decode zb_R_takesJoint 81 = .ok (.invokevirtual 41, 3) := by decide +kernel
theorem zd_R_takesJoint_84 : decode zb_R_takesJoint 84 = .ok (.aload_n 0, 1) := by decide +kernel
theorem zd_R_takesJoint_85 : decode zb_R_takesJoint 85 = .ok (.iload_n 2, 1) := by decide +kernel
theorem zd_R_takesJoint_86 : decode zb_R_takesJoint 86 = .ok (.invokevirtual 70, 3) := by decide +kernel
theorem zd_R_takesJoint_89 : decode zb_R_takesJoint 89 = .ok (.aload_n 0, 1) := by decide +kernel
theorem zd_R_takesJoint_90 : decode zb_R_takesJoint 90 = .ok (.iconst 2, 1) := by decide +kernel
theorem zd_R_takesJoint_91 : decode zb_R_takesJoint 91 = .ok (.putfield 28, 3) := by decide +kernel
theorem zd_R_takesJoint_94 : decode zb_R_takesJoint 94 = .ok (.iconst 1, 1) := by decide +kernel
theorem zd_R_takesJoint_95 : decode zb_R_takesJoint 95 = .ok (.ireturn, 1) := by decide +kernel

def zf_R_takesJoint_78 (xt0 : Int) (S : Sg) : Option (Int × Sg) :=
    zbd (zf_R_unwind xt0 S) fun a1 S2 => zbd (zf_R_hold xt0 S2) fun a3 S4 => zlt (zu S4 3 0 4 5 2) fun S5 => some (1, S5)
set_option maxHeartbeats 4000000 in
set_option maxRecDepth 100000 in
theorem zw_R_takesJoint_78 {p : Program} {l : Launch} {e : Env} {s : State} {m : MethodId} {args : Array Value} {below : List Frame} {meth : Method} {c : Code} {B : zB} (C : CallFix p m c zb_R_takesJoint 3 s args zT "IslandOffice$Reader") (hr : meth.sig.returnType = some .boolean) (hlk : meth.locks = false) (hK : zK B s) (hSt : zSt B s) (hap : zAp B) {res : Int} {S9 : Sg} : ∀ (xt0 : Int) (S : Sg) (nxt0 : zn xt0), zf_R_takesJoint_78 xt0 S = some (res, S9) → ∀ (H : Heap) (locs : List Loc) (ls : Array Slot), zW B S H → va_S B.2.2.2 s.heap H locs → lv_has ls 3 [(0, .ref (B.2.1 3 (0) (4)))] → W p l e zm_R_takesJoint s m args below meth c H locs 0 0 (MQ below (zQi B res S9) args s 0 0 B.2.2.2) (F0 m 78 ls [.int (zI (xt0))]) := by
  intro xt0 S nxt0 hf H locs ls hW hS hl
  unfold zf_R_takesJoint_78 at hf
  refine lv_istore_n (lv' := [(2, .int (zI (xt0))), (0, .ref (B.2.1 3 (0) (4)))]) C.1 C.2.1 zd_R_takesJoint_78 rfl hl (by decide) rfl (fun ls hl => ?_)
  refine lv_aload_n C.1 C.2.1 zd_R_takesJoint_79 rfl (lv_at hl 1 rfl) ?_
  refine lv_iload_n C.1 C.2.1 zd_R_takesJoint_80 rfl (lv_at hl 0 rfl) ?_
  obtain ⟨a1, S2, ea1, hf⟩ := zbd_some hf
  refine zcVv (As := [.int (zI (xt0))]) (rest := []) C hK hSt hW hS (zc_R_unwind hap xt0 S nxt0 ea1) zq_R_unwind zk_662 (zrecv hK hW (zvd_3 (by decide) (by decide)) (ze_3_4 B _ (0)) rfl) ⟨rfl, rfl, by decide, by decide⟩ ⟨Nat.zero_le _, Nat.zero_le _⟩ rfl hl.1 rfl (lv_room (Nat.le_of_ble_eq_true rfl)) zd_R_takesJoint_81 (fun H locs hW hS => ?_)
  refine lv_aload_n C.1 C.2.1 zd_R_takesJoint_84 rfl (lv_at hl 1 rfl) ?_
  refine lv_iload_n C.1 C.2.1 zd_R_takesJoint_85 rfl (lv_at hl 0 rfl) ?_
  obtain ⟨a3, S4, ea3, hf⟩ := zbd_some hf
  refine zcVv (As := [.int (zI (xt0))]) (rest := []) C hK hSt hW hS (zc_R_hold hap xt0 S2 nxt0 ea3) zq_R_hold zk_635 (zrecv hK hW (zvd_3 (by decide) (by decide)) (ze_3_4 B _ (0)) rfl) ⟨rfl, rfl, by decide, by decide⟩ ⟨Nat.zero_le _, Nat.zero_le _⟩ rfl hl.1 rfl (lv_room (Nat.le_of_ble_eq_true rfl)) zd_R_takesJoint_86 (fun H locs hW hS => ?_)
  refine lv_aload_n C.1 C.2.1 zd_R_takesJoint_89 rfl (lv_at hl 1 rfl) ?_
  refine zr_iconst C zd_R_takesJoint_90 ?_
  obtain ⟨S5, eS5, hf⟩ := zlt_some hf
  refine zp_R_state (r := 0) C hK hap hW hS (zvd_3 (by decide) (by decide)) zk_386 (znb rfl) zd_R_takesJoint_91 (fun H locs hW hS => ?_)
  rw [eS5] at hW
  refine zr_iconst C zd_R_takesJoint_94 ?_
  cases hf
  exact zre_z C hr hlk hK hW hS (znb rfl) (zb01 (by decide)) zd_R_takesJoint_95

def zf_R_takesJoint_65 (x1 : Int) (S : Sg) : Option (Int × Sg) :=
    if x1 = 38 then (zf_R_takesJoint_78 (-13) S) else (zf_R_takesJoint_78 (-14) S)
set_option maxHeartbeats 4000000 in
set_option maxRecDepth 100000 in
theorem zw_R_takesJoint_65 {p : Program} {l : Launch} {e : Env} {s : State} {m : MethodId} {args : Array Value} {below : List Frame} {meth : Method} {c : Code} {B : zB} (C : CallFix p m c zb_R_takesJoint 3 s args zT "IslandOffice$Reader") (hr : meth.sig.returnType = some .boolean) (hlk : meth.locks = false) (hK : zK B s) (hSt : zSt B s) (hap : zAp B) {res : Int} {S9 : Sg} : ∀ (x1 : Int) (S : Sg) (nx1 : zn x1), zf_R_takesJoint_65 x1 S = some (res, S9) → ∀ (H : Heap) (locs : List Loc) (ls : Array Slot), zW B S H → va_S B.2.2.2 s.heap H locs → lv_has ls 3 [(0, .ref (B.2.1 3 (0) (4))), (1, .int (zI (x1)))] → W p l e zm_R_takesJoint s m args below meth c H locs 0 0 (MQ below (zQi B res S9) args s 0 0 B.2.2.2) (F0 m 65 ls []) := by
  intro x1 S nx1 hf H locs ls hW hS hl
  unfold zf_R_takesJoint_65 at hf
  refine lv_iload_n C.1 C.2.1 zd_R_takesJoint_65 rfl (lv_at hl 1 rfl) ?_
  refine zr_bipush C zd_R_takesJoint_66 (by decide) ?_
  refine zr_icmp_ne (tgt := 76) C nx1 (znb rfl) zd_R_takesJoint_68 (by decide) (fun c1 => ?_) (fun c1 => ?_)
  · rw [if_neg c1] at hf
    refine zr_bipush C zd_R_takesJoint_76 (by decide) ?_
    exact zw_R_takesJoint_78 C hr hlk hK hSt hap   (-14) S (znb rfl) hf _ _ _ hW hS (lv_sub hl [0] rfl)
  · rw [if_pos c1] at hf
    refine zr_bipush C zd_R_takesJoint_71 (by decide) ?_
    refine lv_goto (tgt := 78) C.1 C.2.1 zd_R_takesJoint_73 (by decide) ?_
    exact zw_R_takesJoint_78 C hr hlk hK hSt hap   (-13) S (znb rfl) hf _ _ _ hW hS (lv_sub hl [0] rfl)

def zf_R_takesJoint_51 (x1 : Int) (S : Sg) : Option (Int × Sg) :=
    if x1 = 38 then (zf_R_takesJoint_65 (x1) S) else (if x1 = 124 then (zf_R_takesJoint_65 (x1) S) else (some (0, S)))
set_option maxHeartbeats 4000000 in
set_option maxRecDepth 100000 in
theorem zw_R_takesJoint_51 {p : Program} {l : Launch} {e : Env} {s : State} {m : MethodId} {args : Array Value} {below : List Frame} {meth : Method} {c : Code} {B : zB} (C : CallFix p m c zb_R_takesJoint 3 s args zT "IslandOffice$Reader") (hr : meth.sig.returnType = some .boolean) (hlk : meth.locks = false) (hK : zK B s) (hSt : zSt B s) (hap : zAp B) {res : Int} {S9 : Sg} : ∀ (x1 : Int) (S : Sg) (nx1 : zn x1), zf_R_takesJoint_51 x1 S = some (res, S9) → ∀ (H : Heap) (locs : List Loc) (ls : Array Slot), zW B S H → va_S B.2.2.2 s.heap H locs → lv_has ls 3 [(0, .ref (B.2.1 3 (0) (4))), (1, .int (zI (x1)))] → W p l e zm_R_takesJoint s m args below meth c H locs 0 0 (MQ below (zQi B res S9) args s 0 0 B.2.2.2) (F0 m 51 ls []) := by
  intro x1 S nx1 hf H locs ls hW hS hl
  unfold zf_R_takesJoint_51 at hf
  refine lv_iload_n C.1 C.2.1 zd_R_takesJoint_51 rfl (lv_at hl 1 rfl) ?_
  refine zr_bipush C zd_R_takesJoint_52 (by decide) ?_
  refine zr_icmp_eq (tgt := 65) C nx1 (znb rfl) zd_R_takesJoint_54 (by decide) (fun c1 => ?_) (fun c1 => ?_)
  · rw [if_pos c1] at hf
    exact zw_R_takesJoint_65 C hr hlk hK hSt hap   (x1) S nx1 hf _ _ _ hW hS (lv_sub hl [0, 1] rfl)
  · rw [if_neg c1] at hf
    refine lv_iload_n C.1 C.2.1 zd_R_takesJoint_57 rfl (lv_at hl 1 rfl) ?_
    refine zr_bipush C zd_R_takesJoint_58 (by decide) ?_
    refine zr_icmp_eq (tgt := 65) C nx1 (znb rfl) zd_R_takesJoint_60 (by decide) (fun c2 => ?_) (fun c2 => ?_)
    · rw [if_pos c2] at hf
      exact zw_R_takesJoint_65 C hr hlk hK hSt hap   (x1) S nx1 hf _ _ _ hW hS (lv_sub hl [0, 1] rfl)
    · rw [if_neg c2] at hf
      refine zr_iconst C zd_R_takesJoint_63 ?_
      cases hf
      exact zre_z C hr hlk hK hW hS (znb rfl) (zb01 (by decide)) zd_R_takesJoint_64

def zf_R_takesJoint (x1 : Int) (S : Sg) : Option (Int × Sg) :=
    if x1 = 41 then (if (S 3 0 4 6) ≤ 0 then (zf_R_takesJoint_51 (x1) S) else (zbd (zf_R_unwind (-14) S) fun a3 S4 => zlt (zu S4 3 0 4 4 (max 0 (zw ((S4 3 0 4 4) - 1)))) fun S5 => zlt (zu S5 3 0 4 6 (zw ((S5 3 0 4 6) - 1))) fun S6 => zlt (zu S6 3 0 4 5 7) fun S7 => some (1, S7))) else (zf_R_takesJoint_51 (x1) S)
set_option maxHeartbeats 4000000 in
set_option maxRecDepth 100000 in
theorem zw_R_takesJoint {p : Program} {l : Launch} {e : Env} {s : State} {m : MethodId} {args : Array Value} {below : List Frame} {meth : Method} {c : Code} {B : zB} (C : CallFix p m c zb_R_takesJoint 3 s args zT "IslandOffice$Reader") (hr : meth.sig.returnType = some .boolean) (hlk : meth.locks = false) (hK : zK B s) (hSt : zSt B s) (hap : zAp B) {res : Int} {S9 : Sg} : ∀ (x1 : Int) (S : Sg) (nx1 : zn x1), zf_R_takesJoint x1 S = some (res, S9) → ∀ (H : Heap) (locs : List Loc) (ls : Array Slot), zW B S H → va_S B.2.2.2 s.heap H locs → lv_has ls 3 [(0, .ref (B.2.1 3 (0) (4))), (1, .int (zI (x1)))] → W p l e zm_R_takesJoint s m args below meth c H locs 0 0 (MQ below (zQi B res S9) args s 0 0 B.2.2.2) (F0 m 0 ls []) := by
  intro x1 S nx1 hf H locs ls hW hS hl
  unfold zf_R_takesJoint at hf
  refine lv_iload_n C.1 C.2.1 zd_R_takesJoint_0 rfl (lv_at hl 1 rfl) ?_
  refine zr_bipush C zd_R_takesJoint_1 (by decide) ?_
  refine zr_icmp_ne (tgt := 51) C nx1 (znb rfl) zd_R_takesJoint_3 (by decide) (fun c1 => ?_) (fun c1 => ?_)
  · rw [if_neg c1] at hf
    exact zw_R_takesJoint_51 C hr hlk hK hSt hap   (x1) S nx1 hf _ _ _ hW hS (lv_sub hl [0, 1] rfl)
  · rw [if_pos c1] at hf
    refine lv_aload_n C.1 C.2.1 zd_R_takesJoint_6 rfl (lv_at hl 0 rfl) ?_
    refine zg_R_brackets (r := 0) C hK hW (zvd_3 (by decide) (by decide)) zk_387 zd_R_takesJoint_7 ?_
    refine zr_if_le (tgt := 51) C (zWn hW _ _ _ _ rfl) zd_R_takesJoint_10 (by decide) (fun c2 => ?_) (fun c2 => ?_)
    · rw [if_pos c2] at hf
      exact zw_R_takesJoint_51 C hr hlk hK hSt hap   (x1) S nx1 hf _ _ _ hW hS (lv_sub hl [0, 1] rfl)
    · rw [if_neg c2] at hf
      refine lv_aload_n C.1 C.2.1 zd_R_takesJoint_13 rfl (lv_at hl 0 rfl) ?_
      refine zr_bipush C zd_R_takesJoint_14 (by decide) ?_
      obtain ⟨a3, S4, ea3, hf⟩ := zbd_some hf
      refine zcVv (As := [.int (zI (-14))]) (rest := []) C hK hSt hW hS (zc_R_unwind hap (-14) S (znb rfl) ea3) zq_R_unwind zk_662 (zrecv hK hW (zvd_3 (by decide) (by decide)) (ze_3_4 B _ (0)) rfl) ⟨rfl, rfl, by decide, by decide⟩ ⟨Nat.zero_le _, Nat.zero_le _⟩ rfl hl.1 rfl (lv_room (Nat.le_of_ble_eq_true rfl)) zd_R_takesJoint_16 (fun H locs hW hS => ?_)
      refine lv_aload_n C.1 C.2.1 zd_R_takesJoint_19 rfl (lv_at hl 0 rfl) ?_
      refine zr_iconst C zd_R_takesJoint_20 ?_
      refine lv_aload_n C.1 C.2.1 zd_R_takesJoint_21 rfl (lv_at hl 0 rfl) ?_
      refine zg_R_waits (r := 0) C hK hW (zvd_3 (by decide) (by decide)) zk_385 zd_R_takesJoint_22 ?_
      refine zr_iconst C zd_R_takesJoint_25 ?_
      refine zr_isub C zd_R_takesJoint_26 ?_
      refine zr_max C hl.1 (znb rfl) (zn_w _) zk_677 zk_678 zk_16 zk_679 (by decide) (Nat.le_of_ble_eq_true rfl) ⟨by decide, by decide⟩ zd_R_takesJoint_27 ?_
      obtain ⟨S5, eS5, hf⟩ := zlt_some hf
      refine zp_R_waits (r := 0) C hK hap hW hS (zvd_3 (by decide) (by decide)) zk_385 (zn_max (znb rfl) (zn_w _)) zd_R_takesJoint_30 (fun H locs hW hS => ?_)
      rw [eS5] at hW
      refine lv_aload_n C.1 C.2.1 zd_R_takesJoint_33 rfl (lv_at hl 0 rfl) ?_
      refine lv_dup C.1 C.2.1 zd_R_takesJoint_34 rfl ?_
      refine zg_R_brackets (r := 0) C hK hW (zvd_3 (by decide) (by decide)) zk_387 zd_R_takesJoint_35 ?_
      refine zr_iconst C zd_R_takesJoint_38 ?_
      refine zr_isub C zd_R_takesJoint_39 ?_
      obtain ⟨S6, eS6, hf⟩ := zlt_some hf
      refine zp_R_brackets (r := 0) C hK hap hW hS (zvd_3 (by decide) (by decide)) zk_387 (zn_w _) zd_R_takesJoint_40 (fun H locs hW hS => ?_)
      rw [eS6] at hW
      refine lv_aload_n C.1 C.2.1 zd_R_takesJoint_43 rfl (lv_at hl 0 rfl) ?_
      refine zr_bipush C zd_R_takesJoint_44 (by decide) ?_
      obtain ⟨S7, eS7, hf⟩ := zlt_some hf
      refine zp_R_state (r := 0) C hK hap hW hS (zvd_3 (by decide) (by decide)) zk_386 (znb rfl) zd_R_takesJoint_46 (fun H locs hW hS => ?_)
      rw [eS7] at hW
      refine zr_iconst C zd_R_takesJoint_49 ?_
      cases hf
      exact zre_z C hr hlk hK hW hS (znb rfl) (zb01 (by decide)) zd_R_takesJoint_50

theorem zc_R_takesJoint {l : Launch} {B : zB} (hap : zAp B) (x1 : Int) (S : Sg) (nx1 : zn x1) {res : Int} {S9 : Sg} (hf : zf_R_takesJoint x1 S = some (res, S9)) : Met l zy_R_takesJoint (Cond.code zy_R_takesJoint zb_R_takesJoint 3 (some .boolean) :: zT) zm_R_takesJoint (zP B S [.ref (B.2.1 3 (0) (4)), .int (zI (x1))]) (zQi B res S9) 0 0 B.2.2.2 :=
  zmet (by decide) (Nat.le_of_ble_eq_true rfl) (fun p e s m args below meth c C hr hlk hK hSt hW ls hl => zw_R_takesJoint C hr hlk hK hSt hap   x1 S nx1 hf _ _ _ hW va_S.rf hl)
/-! IslandOffice$Reader.takesNot(I)Z -/
abbrev zy_R_takesNot : MethodName := ⟨"IslandOffice$Reader", "takesNot", "(I)Z"⟩
abbrev zb_R_takesNot : ByteArray := prog_9_method_5_code
abbrev zm_R_takesNot : Room := { frames := 1, cells := 0, slots := 0, locals := 21 }
theorem zq_R_takesNot : zMy zy_R_takesNot zb_R_takesNot 2 (some .boolean) 1 := ⟨zk_634, zk_633, zs_3, zk_10, by decide, by decide, by decide +kernel⟩
theorem zd_R_takesNot_0 : decode zb_R_takesNot 0 = .ok (.iload_n 1, 1) := by decide +kernel
theorem zd_R_takesNot_1 : decode zb_R_takesNot 1 = .ok (.bipush 33, 2) := by decide +kernel
theorem zd_R_takesNot_3 : decode zb_R_takesNot 3 = .ok (.if_icmp .eq 5, 3) := by decide +kernel
theorem zd_R_takesNot_6 : decode zb_R_takesNot 6 = .ok (.iconst 0, 1) := by decide +kernel
theorem zd_R_takesNot_7 : decode zb_R_takesNot 7 = .ok (.ireturn, 1) := by decide +kernel
theorem zd_R_takesNot_8 : decode zb_R_takesNot 8 = .ok (.aload_n 0, 1) := by decide +kernel
theorem zd_R_takesNot_9 : decode zb_R_takesNot 9 = .ok (.bipush (-15), 2) := by decide +kernel
theorem zd_R_takesNot_11 : decode zb_R_takesNot 11 = .ok (.invokevirtual 70, 3) := by decide +kernel
theorem zd_R_takesNot_14 : decode zb_R_takesNot 14 = .ok (.iconst 1, 1) := by decide +kernel
theorem zd_R_takesNot_15 : decode zb_R_takesNot 15 = .ok (.ireturn, 1) := by decide +kernel

def zf_R_takesNot (x1 : Int) (S : Sg) : Option (Int × Sg) :=
    if x1 = 33 then (zbd (zf_R_hold (-15) S) fun a2 S3 => some (1, S3)) else (some (0, S))
set_option maxHeartbeats 4000000 in
set_option maxRecDepth 100000 in
theorem zw_R_takesNot {p : Program} {l : Launch} {e : Env} {s : State} {m : MethodId} {args : Array Value} {below : List Frame} {meth : Method} {c : Code} {B : zB} (C : CallFix p m c zb_R_takesNot 2 s args zT "IslandOffice$Reader") (hr : meth.sig.returnType = some .boolean) (hlk : meth.locks = false) (hK : zK B s) (hSt : zSt B s) (hap : zAp B) {res : Int} {S9 : Sg} : ∀ (x1 : Int) (S : Sg) (nx1 : zn x1), zf_R_takesNot x1 S = some (res, S9) → ∀ (H : Heap) (locs : List Loc) (ls : Array Slot), zW B S H → va_S B.2.2.2 s.heap H locs → lv_has ls 2 [(0, .ref (B.2.1 3 (0) (4))), (1, .int (zI (x1)))] → W p l e zm_R_takesNot s m args below meth c H locs 0 0 (MQ below (zQi B res S9) args s 0 0 B.2.2.2) (F0 m 0 ls []) := by
  intro x1 S nx1 hf H locs ls hW hS hl
  unfold zf_R_takesNot at hf
  refine lv_iload_n C.1 C.2.1 zd_R_takesNot_0 rfl (lv_at hl 1 rfl) ?_
  refine zr_bipush C zd_R_takesNot_1 (by decide) ?_
  refine zr_icmp_eq (tgt := 8) C nx1 (znb rfl) zd_R_takesNot_3 (by decide) (fun c1 => ?_) (fun c1 => ?_)
  · rw [if_pos c1] at hf
    refine lv_aload_n C.1 C.2.1 zd_R_takesNot_8 rfl (lv_at hl 0 rfl) ?_
    refine zr_bipush C zd_R_takesNot_9 (by decide) ?_
    obtain ⟨a2, S3, ea2, hf⟩ := zbd_some hf
    refine zcVv (As := [.int (zI (-15))]) (rest := []) C hK hSt hW hS (zc_R_hold hap (-15) S (znb rfl) ea2) zq_R_hold zk_635 (zrecv hK hW (zvd_3 (by decide) (by decide)) (ze_3_4 B _ (0)) rfl) ⟨rfl, rfl, by decide, by decide⟩ ⟨Nat.zero_le _, Nat.zero_le _⟩ rfl hl.1 rfl (lv_room (Nat.le_of_ble_eq_true rfl)) zd_R_takesNot_11 (fun H locs hW hS => ?_)
    refine zr_iconst C zd_R_takesNot_14 ?_
    cases hf
    exact zre_z C hr hlk hK hW hS (znb rfl) (zb01 (by decide)) zd_R_takesNot_15
  · rw [if_neg c1] at hf
    refine zr_iconst C zd_R_takesNot_6 ?_
    cases hf
    exact zre_z C hr hlk hK hW hS (znb rfl) (zb01 (by decide)) zd_R_takesNot_7

theorem zc_R_takesNot {l : Launch} {B : zB} (hap : zAp B) (x1 : Int) (S : Sg) (nx1 : zn x1) {res : Int} {S9 : Sg} (hf : zf_R_takesNot x1 S = some (res, S9)) : Met l zy_R_takesNot (Cond.code zy_R_takesNot zb_R_takesNot 2 (some .boolean) :: zT) zm_R_takesNot (zP B S [.ref (B.2.1 3 (0) (4)), .int (zI (x1))]) (zQi B res S9) 0 0 B.2.2.2 :=
  zmet (by decide) (Nat.le_of_ble_eq_true rfl) (fun p e s m args below meth c C hr hlk hK hSt hW ls hl => zw_R_takesNot C hr hlk hK hSt hap   x1 S nx1 hf _ _ _ hW va_S.rf hl)
/-! IslandOffice$Reader.takesSign(II)Z -/
abbrev zy_R_takesSign : MethodName := ⟨"IslandOffice$Reader", "takesSign", "(II)Z"⟩
abbrev zb_R_takesSign : ByteArray := prog_9_method_9_code
abbrev zm_R_takesSign : Room := { frames := 2, cells := 0, slots := 0, locals := 43 }
theorem zq_R_takesSign : zMy zy_R_takesSign zb_R_takesSign 3 (some .boolean) 2 := ⟨zk_661, zk_660, zs_9, zk_10, by decide, by decide, by decide +kernel⟩
theorem zd_R_takesSign_0 : decode zb_R_takesSign 0 = .ok (.iload_n 1, 1) := by decide +kernel
theorem zd_R_takesSign_1 : decode zb_R_takesSign 1 = .ok (.bipush 43, 2) := by decide +kernel
theorem zd_R_takesSign_3 : decode zb_R_takesSign 3 = .ok (.if_icmp .eq 11, 3) := by decide +kernel
theorem zd_R_takesSign_6 : decode zb_R_takesSign 6 = .ok (.iload_n 1, 1) := by decide +kernel
theorem zd_R_takesSign_7 : decode zb_R_takesSign 7 = .ok (.bipush 45, 2) := by decide +kernel
theorem zd_R_takesSign_9 : decode zb_R_takesSign 9 = .ok (.if_icmp .eq 5, 3) := by decide +kernel
theorem zd_R_takesSign_12 : decode zb_R_takesSign 12 = .ok (.iconst 0, 1) := by decide +kernel
theorem zd_R_takesSign_13 : decode zb_R_takesSign 13 = .ok (.ireturn, 1) := by decide +kernel
theorem zd_R_takesSign_14 : decode zb_R_takesSign 14 = .ok (.aload_n 0, 1) := by decide +kernel
theorem zd_R_takesSign_15 : decode zb_R_takesSign 15 = .ok (.bipush (-8), 2) := by decide +kernel
theorem zd_R_takesSign_17 : decode zb_R_takesSign 17 = .ok (.invokevirtual 41, 3) := by decide +kernel
theorem zd_R_takesSign_20 : decode zb_R_takesSign 20 = .ok (.aload_n 0, 1) := by decide +kernel
theorem zd_R_takesSign_21 : decode zb_R_takesSign 21 = .ok (.iload_n 1, 1) := by decide +kernel
theorem zd_R_takesSign_22 : decode zb_R_takesSign 22 = .ok (.bipush 43, 2) := by decide +kernel
theorem zd_R_takesSign_24 : decode zb_R_takesSign 24 = .ok (.if_icmp .ne 8, 3) := by decide +kernel
theorem zd_R_takesSign_27 : decode zb_R_takesSign 27 = .ok (.bipush (-8), 2) := by decide +kernel
theorem zd_R_takesSign_29 : decode zb_R_takesSign 29 = .ok (.goto 5, 3) := by decide +kernel
theorem zd_R_takesSign_32 : decode zb_R_takesSign 32 = .ok (.bipush (-9), 2) := by decide +kernel
theorem zd_R_takesSign_34 : decode zb_R_takesSign 34 = .ok (.invokevirtual 70, 3) := by decide +kernel
theorem zd_R_takesSign_37 : decode zb_R_takesSign 37 = .ok (.aload_n 0, 1) := by decide +kernel
theorem zd_R_takesSign_38 : decode zb_R_takesSign 38 = .ok (.iload_n 2, 1) := by decide +kernel
theorem zd_R_takesSign_39 : decode zb_R_takesSign 39 = .ok (.putfield 28, 3) := by decide +kernel
theorem zd_R_takesSign_42 : decode zb_R_takesSign 42 = .ok (.iconst 1, 1) := by decide +kernel
theorem zd_R_takesSign_43 : decode zb_R_takesSign 43 = .ok (.ireturn, 1) := by decide +kernel

def zf_R_takesSign_34 (x2 : Int) (xt1 : Int) (S : Sg) : Option (Int × Sg) :=
    zbd (zf_R_hold xt1 S) fun a1 S2 => zlt (zu S2 3 0 4 5 x2) fun S3 => some (1, S3)
set_option maxHeartbeats 4000000 in
set_option maxRecDepth 100000 in
theorem zw_R_takesSign_34 {p : Program} {l : Launch} {e : Env} {s : State} {m : MethodId} {args : Array Value} {below : List Frame} {meth : Method} {c : Code} {B : zB} (C : CallFix p m c zb_R_takesSign 3 s args zT "IslandOffice$Reader") (hr : meth.sig.returnType = some .boolean) (hlk : meth.locks = false) (hK : zK B s) (hSt : zSt B s) (hap : zAp B) {res : Int} {S9 : Sg} : ∀ (x2 : Int) (xt1 : Int) (S : Sg) (nx2 : zn x2) (nxt1 : zn xt1), zf_R_takesSign_34 x2 xt1 S = some (res, S9) → ∀ (H : Heap) (locs : List Loc) (ls : Array Slot), zW B S H → va_S B.2.2.2 s.heap H locs → lv_has ls 3 [(0, .ref (B.2.1 3 (0) (4))), (2, .int (zI (x2)))] → W p l e zm_R_takesSign s m args below meth c H locs 0 0 (MQ below (zQi B res S9) args s 0 0 B.2.2.2) (F0 m 34 ls [.int (zI (xt1)), .ref (B.2.1 3 (0) (4))]) := by
  intro x2 xt1 S nx2 nxt1 hf H locs ls hW hS hl
  unfold zf_R_takesSign_34 at hf
  obtain ⟨a1, S2, ea1, hf⟩ := zbd_some hf
  refine zcVv (As := [.int (zI (xt1))]) (rest := []) C hK hSt hW hS (zc_R_hold hap xt1 S nxt1 ea1) zq_R_hold zk_635 (zrecv hK hW (zvd_3 (by decide) (by decide)) (ze_3_4 B _ (0)) rfl) ⟨rfl, rfl, by decide, by decide⟩ ⟨Nat.zero_le _, Nat.zero_le _⟩ rfl hl.1 rfl (lv_room (Nat.le_of_ble_eq_true rfl)) zd_R_takesSign_34 (fun H locs hW hS => ?_)
  refine lv_aload_n C.1 C.2.1 zd_R_takesSign_37 rfl (lv_at hl 0 rfl) ?_
  refine lv_iload_n C.1 C.2.1 zd_R_takesSign_38 rfl (lv_at hl 1 rfl) ?_
  obtain ⟨S3, eS3, hf⟩ := zlt_some hf
  refine zp_R_state (r := 0) C hK hap hW hS (zvd_3 (by decide) (by decide)) zk_386 nx2 zd_R_takesSign_39 (fun H locs hW hS => ?_)
  rw [eS3] at hW
  refine zr_iconst C zd_R_takesSign_42 ?_
  cases hf
  exact zre_z C hr hlk hK hW hS (znb rfl) (zb01 (by decide)) zd_R_takesSign_43

def zf_R_takesSign_14 (x1 : Int) (x2 : Int) (S : Sg) : Option (Int × Sg) :=
    zbd (zf_R_unwind (-8) S) fun a1 S2 => if x1 = 43 then (zf_R_takesSign_34 (x2) (-8) S2) else (zf_R_takesSign_34 (x2) (-9) S2)
set_option maxHeartbeats 4000000 in
set_option maxRecDepth 100000 in
theorem zw_R_takesSign_14 {p : Program} {l : Launch} {e : Env} {s : State} {m : MethodId} {args : Array Value} {below : List Frame} {meth : Method} {c : Code} {B : zB} (C : CallFix p m c zb_R_takesSign 3 s args zT "IslandOffice$Reader") (hr : meth.sig.returnType = some .boolean) (hlk : meth.locks = false) (hK : zK B s) (hSt : zSt B s) (hap : zAp B) {res : Int} {S9 : Sg} : ∀ (x1 : Int) (x2 : Int) (S : Sg) (nx1 : zn x1) (nx2 : zn x2), zf_R_takesSign_14 x1 x2 S = some (res, S9) → ∀ (H : Heap) (locs : List Loc) (ls : Array Slot), zW B S H → va_S B.2.2.2 s.heap H locs → lv_has ls 3 [(0, .ref (B.2.1 3 (0) (4))), (1, .int (zI (x1))), (2, .int (zI (x2)))] → W p l e zm_R_takesSign s m args below meth c H locs 0 0 (MQ below (zQi B res S9) args s 0 0 B.2.2.2) (F0 m 14 ls []) := by
  intro x1 x2 S nx1 nx2 hf H locs ls hW hS hl
  unfold zf_R_takesSign_14 at hf
  refine lv_aload_n C.1 C.2.1 zd_R_takesSign_14 rfl (lv_at hl 0 rfl) ?_
  refine zr_bipush C zd_R_takesSign_15 (by decide) ?_
  obtain ⟨a1, S2, ea1, hf⟩ := zbd_some hf
  refine zcVv (As := [.int (zI (-8))]) (rest := []) C hK hSt hW hS (zc_R_unwind hap (-8) S (znb rfl) ea1) zq_R_unwind zk_662 (zrecv hK hW (zvd_3 (by decide) (by decide)) (ze_3_4 B _ (0)) rfl) ⟨rfl, rfl, by decide, by decide⟩ ⟨Nat.zero_le _, Nat.zero_le _⟩ rfl hl.1 rfl (lv_room (Nat.le_of_ble_eq_true rfl)) zd_R_takesSign_17 (fun H locs hW hS => ?_)
  refine lv_aload_n C.1 C.2.1 zd_R_takesSign_20 rfl (lv_at hl 0 rfl) ?_
  refine lv_iload_n C.1 C.2.1 zd_R_takesSign_21 rfl (lv_at hl 1 rfl) ?_
  refine zr_bipush C zd_R_takesSign_22 (by decide) ?_
  refine zr_icmp_ne (tgt := 32) C nx1 (znb rfl) zd_R_takesSign_24 (by decide) (fun c3 => ?_) (fun c3 => ?_)
  · rw [if_neg c3] at hf
    refine zr_bipush C zd_R_takesSign_32 (by decide) ?_
    exact zw_R_takesSign_34 C hr hlk hK hSt hap   (x2) (-9) S2 nx2 (znb rfl) hf _ _ _ hW hS (lv_sub hl [0, 2] rfl)
  · rw [if_pos c3] at hf
    refine zr_bipush C zd_R_takesSign_27 (by decide) ?_
    refine lv_goto (tgt := 34) C.1 C.2.1 zd_R_takesSign_29 (by decide) ?_
    exact zw_R_takesSign_34 C hr hlk hK hSt hap   (x2) (-8) S2 nx2 (znb rfl) hf _ _ _ hW hS (lv_sub hl [0, 2] rfl)

def zf_R_takesSign (x1 : Int) (x2 : Int) (S : Sg) : Option (Int × Sg) :=
    if x1 = 43 then (zf_R_takesSign_14 (x1) (x2) S) else (if x1 = 45 then (zf_R_takesSign_14 (x1) (x2) S) else (some (0, S)))
set_option maxHeartbeats 4000000 in
set_option maxRecDepth 100000 in
theorem zw_R_takesSign {p : Program} {l : Launch} {e : Env} {s : State} {m : MethodId} {args : Array Value} {below : List Frame} {meth : Method} {c : Code} {B : zB} (C : CallFix p m c zb_R_takesSign 3 s args zT "IslandOffice$Reader") (hr : meth.sig.returnType = some .boolean) (hlk : meth.locks = false) (hK : zK B s) (hSt : zSt B s) (hap : zAp B) {res : Int} {S9 : Sg} : ∀ (x1 : Int) (x2 : Int) (S : Sg) (nx1 : zn x1) (nx2 : zn x2), zf_R_takesSign x1 x2 S = some (res, S9) → ∀ (H : Heap) (locs : List Loc) (ls : Array Slot), zW B S H → va_S B.2.2.2 s.heap H locs → lv_has ls 3 [(0, .ref (B.2.1 3 (0) (4))), (1, .int (zI (x1))), (2, .int (zI (x2)))] → W p l e zm_R_takesSign s m args below meth c H locs 0 0 (MQ below (zQi B res S9) args s 0 0 B.2.2.2) (F0 m 0 ls []) := by
  intro x1 x2 S nx1 nx2 hf H locs ls hW hS hl
  unfold zf_R_takesSign at hf
  refine lv_iload_n C.1 C.2.1 zd_R_takesSign_0 rfl (lv_at hl 1 rfl) ?_
  refine zr_bipush C zd_R_takesSign_1 (by decide) ?_
  refine zr_icmp_eq (tgt := 14) C nx1 (znb rfl) zd_R_takesSign_3 (by decide) (fun c1 => ?_) (fun c1 => ?_)
  · rw [if_pos c1] at hf
    exact zw_R_takesSign_14 C hr hlk hK hSt hap   (x1) (x2) S nx1 nx2 hf _ _ _ hW hS (lv_sub hl [0, 1, 2] rfl)
  · rw [if_neg c1] at hf
    refine lv_iload_n C.1 C.2.1 zd_R_takesSign_6 rfl (lv_at hl 1 rfl) ?_
    refine zr_bipush C zd_R_takesSign_7 (by decide) ?_
    refine zr_icmp_eq (tgt := 14) C nx1 (znb rfl) zd_R_takesSign_9 (by decide) (fun c2 => ?_) (fun c2 => ?_)
    · rw [if_pos c2] at hf
      exact zw_R_takesSign_14 C hr hlk hK hSt hap   (x1) (x2) S nx1 nx2 hf _ _ _ hW hS (lv_sub hl [0, 1, 2] rfl)
    · rw [if_neg c2] at hf
      refine zr_iconst C zd_R_takesSign_12 ?_
      cases hf
      exact zre_z C hr hlk hK hW hS (znb rfl) (zb01 (by decide)) zd_R_takesSign_13

theorem zc_R_takesSign {l : Launch} {B : zB} (hap : zAp B) (x1 : Int) (x2 : Int) (S : Sg) (nx1 : zn x1) (nx2 : zn x2) {res : Int} {S9 : Sg} (hf : zf_R_takesSign x1 x2 S = some (res, S9)) : Met l zy_R_takesSign (Cond.code zy_R_takesSign zb_R_takesSign 3 (some .boolean) :: zT) zm_R_takesSign (zP B S [.ref (B.2.1 3 (0) (4)), .int (zI (x1)), .int (zI (x2))]) (zQi B res S9) 0 0 B.2.2.2 :=
  zmet (by decide) (Nat.le_of_ble_eq_true rfl) (fun p e s m args below meth c C hr hlk hK hSt hW ls hl => zw_R_takesSign C hr hlk hK hSt hap   x1 x2 S nx1 nx2 hf _ _ _ hW va_S.rf hl)
/-! IslandOffice$Reader.takesSubject(I)Z -/
abbrev zy_R_takesSubject : MethodName := ⟨"IslandOffice$Reader", "takesSubject", "(I)Z"⟩
abbrev zb_R_takesSubject : ByteArray := prog_9_method_4_code
abbrev zm_R_takesSubject : Room := { frames := 0, cells := 0, slots := 0, locals := 0 }
theorem zq_R_takesSubject : zMy zy_R_takesSubject zb_R_takesSubject 2 (some .boolean) 1 := ⟨zk_630, zk_629, zs_2, zk_10, by decide, by decide, by decide +kernel⟩
theorem zd_R_takesSubject_0 : decode zb_R_takesSubject 0 = .ok (.aload_n 0, 1) := by decide +kernel
theorem zd_R_takesSubject_1 : decode zb_R_takesSubject 1 = .ok (.iconst 1, 1) := by decide +kernel
theorem zd_R_takesSubject_2 : decode zb_R_takesSubject 2 = .ok (.putfield 28, 3) := by decide +kernel
theorem zd_R_takesSubject_5 : decode zb_R_takesSubject 5 = .ok (.iload_n 1, 1) := by decide +kernel
theorem zd_R_takesSubject_6 : decode zb_R_takesSubject 6 = .ok (.lookupswitch 70 #[(101, 56), (108, 63), (112, 49), (118, 42)], 42) := by decide +kernel
theorem zd_R_takesSubject_48 : decode zb_R_takesSubject 48 = .ok (.aload_n 0, 1) := by decide +kernel
theorem zd_R_takesSubject_49 : decode zb_R_takesSubject 49 = .ok (.iconst 0, 1) := by decide +kernel
theorem zd_R_takesSubject_50 : decode zb_R_takesSubject 50 = .ok (.putfield 18, 3) := by decide +kernel
theorem zd_R_takesSubject_53 : decode zb_R_takesSubject 53 = .ok (.iconst 1, 1) := by decide +kernel
theorem zd_R_takesSubject_54 : decode zb_R_takesSubject 54 = .ok (.ireturn, 1) := by decide +kernel
theorem zd_R_takesSubject_55 : decode zb_R_takesSubject 55 = .ok (.aload_n 0, 1) := by decide +kernel
theorem zd_R_takesSubject_56 : decode zb_R_takesSubject 56 = .ok (.iconst 1, 1) := by decide +kernel
theorem zd_R_takesSubject_57 : decode zb_R_takesSubject 57 = .ok (.putfield 18, 3) := by decide +kernel
theorem zd_R_takesSubject_60 : decode zb_R_takesSubject 60 = .ok (.iconst 1, 1) := by decide +kernel
theorem zd_R_takesSubject_61 : decode zb_R_takesSubject 61 = .ok (.ireturn, 1) := by decide +kernel
theorem zd_R_takesSubject_62 : decode zb_R_takesSubject 62 = .ok (.aload_n 0, 1) := by decide +kernel
theorem zd_R_takesSubject_63 : decode zb_R_takesSubject 63 = .ok (.iconst 2, 1) := by decide +kernel
theorem zd_R_takesSubject_64 : decode zb_R_takesSubject 64 = .ok (.putfield 18, 3) := by decide +kernel
theorem zd_R_takesSubject_67 : decode zb_R_takesSubject 67 = .ok (.iconst 1, 1) := by decide +kernel
theorem zd_R_takesSubject_68 : decode zb_R_takesSubject 68 = .ok (.ireturn, 1) := by decide +kernel
theorem zd_R_takesSubject_69 : decode zb_R_takesSubject 69 = .ok (.aload_n 0, 1) := by decide +kernel
theorem zd_R_takesSubject_70 : decode zb_R_takesSubject 70 = .ok (.iconst 3, 1) := by decide +kernel
theorem zd_R_takesSubject_71 : decode zb_R_takesSubject 71 = .ok (.putfield 18, 3) := by decide +kernel
theorem zd_R_takesSubject_74 : decode zb_R_takesSubject 74 = .ok (.iconst 1, 1) := by decide +kernel
theorem zd_R_takesSubject_75 : decode zb_R_takesSubject 75 = .ok (.ireturn, 1) := by decide +kernel
theorem zd_R_takesSubject_76 : decode zb_R_takesSubject 76 = .ok (.iconst 0, 1) := by decide +kernel
theorem zd_R_takesSubject_77 : decode zb_R_takesSubject 77 = .ok (.ireturn, 1) := by decide +kernel

def zf_R_takesSubject (x1 : Int) (S : Sg) : Option (Int × Sg) :=
    zlt (zu S 3 0 4 5 1) fun S1 => if x1 = 101 then (zlt (zu S1 3 0 4 0 2) fun S3 => some (1, S3)) else (if x1 = 108 then (zlt (zu S1 3 0 4 0 3) fun S5 => some (1, S5)) else (if x1 = 112 then (zlt (zu S1 3 0 4 0 1) fun S7 => some (1, S7)) else (if x1 = 118 then (zlt (zu S1 3 0 4 0 0) fun S9 => some (1, S9)) else (some (0, S1)))))
set_option maxHeartbeats 4000000 in
set_option maxRecDepth 100000 in
theorem zw_R_takesSubject {p : Program} {l : Launch} {e : Env} {s : State} {m : MethodId} {args : Array Value} {below : List Frame} {meth : Method} {c : Code} {B : zB} (C : CallFix p m c zb_R_takesSubject 2 s args zT "IslandOffice$Reader") (hr : meth.sig.returnType = some .boolean) (hlk : meth.locks = false) (hK : zK B s) (hSt : zSt B s) (hap : zAp B) {res : Int} {S9 : Sg} : ∀ (x1 : Int) (S : Sg) (nx1 : zn x1), zf_R_takesSubject x1 S = some (res, S9) → ∀ (H : Heap) (locs : List Loc) (ls : Array Slot), zW B S H → va_S B.2.2.2 s.heap H locs → lv_has ls 2 [(0, .ref (B.2.1 3 (0) (4))), (1, .int (zI (x1)))] → W p l e zm_R_takesSubject s m args below meth c H locs 0 0 (MQ below (zQi B res S9) args s 0 0 B.2.2.2) (F0 m 0 ls []) := by
  intro x1 S nx1 hf H locs ls hW hS hl
  unfold zf_R_takesSubject at hf
  refine lv_aload_n C.1 C.2.1 zd_R_takesSubject_0 rfl (lv_at hl 0 rfl) ?_
  refine zr_iconst C zd_R_takesSubject_1 ?_
  obtain ⟨S1, eS1, hf⟩ := zlt_some hf
  refine zp_R_state (r := 0) C hK hap hW hS (zvd_3 (by decide) (by decide)) zk_386 (znb rfl) zd_R_takesSubject_2 (fun H locs hW hS => ?_)
  rw [eS1] at hW
  refine lv_iload_n C.1 C.2.1 zd_R_takesSubject_5 rfl (lv_at hl 1 rfl) ?_
  by_cases c2 : x1 = 101
  · rw [if_pos c2] at hf
    refine zr_look (off := 56) (tgt := 62) C nx1 zd_R_takesSubject_6 (by decide) (by rw [c2]; rfl) (by decide) ?_
    refine lv_aload_n C.1 C.2.1 zd_R_takesSubject_62 rfl (lv_at hl 0 rfl) ?_
    refine zr_iconst C zd_R_takesSubject_63 ?_
    obtain ⟨S3, eS3, hf⟩ := zlt_some hf
    refine zp_R_subject (r := 0) C hK hap hW hS (zvd_3 (by decide) (by decide)) zk_378 (znb rfl) zd_R_takesSubject_64 (fun H locs hW hS => ?_)
    rw [eS3] at hW
    refine zr_iconst C zd_R_takesSubject_67 ?_
    cases hf
    exact zre_z C hr hlk hK hW hS (znb rfl) (zb01 (by decide)) zd_R_takesSubject_68
  rw [if_neg c2] at hf
  by_cases c4 : x1 = 108
  · rw [if_pos c4] at hf
    refine zr_look (off := 63) (tgt := 69) C nx1 zd_R_takesSubject_6 (by decide) (by rw [c4]; rfl) (by decide) ?_
    refine lv_aload_n C.1 C.2.1 zd_R_takesSubject_69 rfl (lv_at hl 0 rfl) ?_
    refine zr_iconst C zd_R_takesSubject_70 ?_
    obtain ⟨S5, eS5, hf⟩ := zlt_some hf
    refine zp_R_subject (r := 0) C hK hap hW hS (zvd_3 (by decide) (by decide)) zk_378 (znb rfl) zd_R_takesSubject_71 (fun H locs hW hS => ?_)
    rw [eS5] at hW
    refine zr_iconst C zd_R_takesSubject_74 ?_
    cases hf
    exact zre_z C hr hlk hK hW hS (znb rfl) (zb01 (by decide)) zd_R_takesSubject_75
  rw [if_neg c4] at hf
  by_cases c6 : x1 = 112
  · rw [if_pos c6] at hf
    refine zr_look (off := 49) (tgt := 55) C nx1 zd_R_takesSubject_6 (by decide) (by rw [c6]; rfl) (by decide) ?_
    refine lv_aload_n C.1 C.2.1 zd_R_takesSubject_55 rfl (lv_at hl 0 rfl) ?_
    refine zr_iconst C zd_R_takesSubject_56 ?_
    obtain ⟨S7, eS7, hf⟩ := zlt_some hf
    refine zp_R_subject (r := 0) C hK hap hW hS (zvd_3 (by decide) (by decide)) zk_378 (znb rfl) zd_R_takesSubject_57 (fun H locs hW hS => ?_)
    rw [eS7] at hW
    refine zr_iconst C zd_R_takesSubject_60 ?_
    cases hf
    exact zre_z C hr hlk hK hW hS (znb rfl) (zb01 (by decide)) zd_R_takesSubject_61
  rw [if_neg c6] at hf
  by_cases c8 : x1 = 118
  · rw [if_pos c8] at hf
    refine zr_look (off := 42) (tgt := 48) C nx1 zd_R_takesSubject_6 (by decide) (by rw [c8]; rfl) (by decide) ?_
    refine lv_aload_n C.1 C.2.1 zd_R_takesSubject_48 rfl (lv_at hl 0 rfl) ?_
    refine zr_iconst C zd_R_takesSubject_49 ?_
    obtain ⟨S9, eS9, hf⟩ := zlt_some hf
    refine zp_R_subject (r := 0) C hK hap hW hS (zvd_3 (by decide) (by decide)) zk_378 (znb rfl) zd_R_takesSubject_50 (fun H locs hW hS => ?_)
    rw [eS9] at hW
    refine zr_iconst C zd_R_takesSubject_53 ?_
    cases hf
    exact zre_z C hr hlk hK hW hS (znb rfl) (zb01 (by decide)) zd_R_takesSubject_54
  rw [if_neg c8] at hf
  refine zr_look (off := 70) (tgt := 76) C nx1 zd_R_takesSubject_6 (by decide) (by simp [Op.lookupswitch.offset, show ¬ (x1 = 101) from c2, show ¬ ((101 : Int) = x1) from Ne.symm c2, show ¬ (x1 = 108) from c4, show ¬ ((108 : Int) = x1) from Ne.symm c4, show ¬ (x1 = 112) from c6, show ¬ ((112 : Int) = x1) from Ne.symm c6, show ¬ (x1 = 118) from c8, show ¬ ((118 : Int) = x1) from Ne.symm c8]) (by decide) ?_
  refine zr_iconst C zd_R_takesSubject_76 ?_
  cases hf
  exact zre_z C hr hlk hK hW hS (znb rfl) (zb01 (by decide)) zd_R_takesSubject_77

theorem zc_R_takesSubject {l : Launch} {B : zB} (hap : zAp B) (x1 : Int) (S : Sg) (nx1 : zn x1) {res : Int} {S9 : Sg} (hf : zf_R_takesSubject x1 S = some (res, S9)) : Met l zy_R_takesSubject (Cond.code zy_R_takesSubject zb_R_takesSubject 2 (some .boolean) :: zT) zm_R_takesSubject (zP B S [.ref (B.2.1 3 (0) (4)), .int (zI (x1))]) (zQi B res S9) 0 0 B.2.2.2 :=
  zmet (by decide) (Nat.le_of_ble_eq_true rfl) (fun p e s m args below meth c C hr hlk hK hSt hW ls hl => zw_R_takesSubject C hr hlk hK hSt hap   x1 S nx1 hf _ _ _ hW va_S.rf hl)
/-! IslandOffice$Reader.takesTest(I)Z -/
abbrev zy_R_takesTest : MethodName := ⟨"IslandOffice$Reader", "takesTest", "(I)Z"⟩
abbrev zb_R_takesTest : ByteArray := prog_9_method_10_code
abbrev zm_R_takesTest : Room := { frames := 2, cells := 0, slots := 0, locals := 43 }
theorem zq_R_takesTest : zMy zy_R_takesTest zb_R_takesTest 2 (some .boolean) 1 := ⟨zk_672, zk_671, zs_11, zk_10, by decide, by decide, by decide +kernel⟩
theorem zd_R_takesTest_0 : decode zb_R_takesTest 0 = .ok (.iload_n 1, 1) := by decide +kernel
theorem zd_R_takesTest_1 : decode zb_R_takesTest 1 = .ok (.bipush 60, 2) := by decide +kernel
theorem zd_R_takesTest_3 : decode zb_R_takesTest 3 = .ok (.if_icmp .eq 17, 3) := by decide +kernel
theorem zd_R_takesTest_6 : decode zb_R_takesTest 6 = .ok (.iload_n 1, 1) := by decide +kernel
theorem zd_R_takesTest_7 : decode zb_R_takesTest 7 = .ok (.bipush 62, 2) := by decide +kernel
theorem zd_R_takesTest_9 : decode zb_R_takesTest 9 = .ok (.if_icmp .eq 11, 3) := by decide +kernel
theorem zd_R_takesTest_12 : decode zb_R_takesTest 12 = .ok (.iload_n 1, 1) := by decide +kernel
theorem zd_R_takesTest_13 : decode zb_R_takesTest 13 = .ok (.bipush 61, 2) := by decide +kernel
theorem zd_R_takesTest_15 : decode zb_R_takesTest 15 = .ok (.if_icmp .eq 5, 3) := by decide +kernel
theorem zd_R_takesTest_18 : decode zb_R_takesTest 18 = .ok (.iconst 0, 1) := by decide +kernel
theorem zd_R_takesTest_19 : decode zb_R_takesTest 19 = .ok (.ireturn, 1) := by decide +kernel
theorem zd_R_takesTest_20 : decode zb_R_takesTest 20 = .ok (.aload_n 0, 1) := by decide +kernel
theorem zd_R_takesTest_21 : decode zb_R_takesTest 21 = .ok (.bipush (-12), 2) := by decide +kernel
theorem zd_R_takesTest_23 : decode zb_R_takesTest 23 = .ok (.invokevirtual 41, 3) := by decide +kernel
theorem zd_R_takesTest_26 : decode zb_R_takesTest 26 = .ok (.aload_n 0, 1) := by decide +kernel
theorem zd_R_takesTest_27 : decode zb_R_takesTest 27 = .ok (.iload_n 1, 1) := by decide +kernel
theorem zd_R_takesTest_28 : decode zb_R_takesTest 28 = .ok (.bipush 60, 2) := by decide +kernel
theorem zd_R_takesTest_30 : decode zb_R_takesTest 30 = .ok (.if_icmp .ne 8, 3) := by decide +kernel
theorem zd_R_takesTest_33 : decode zb_R_takesTest 33 = .ok (.bipush (-10), 2) := by decide +kernel
theorem zd_R_takesTest_35 : decode zb_R_takesTest 35 = .ok (.goto 16, 3) := by decide +kernel
theorem zd_R_takesTest_38 : decode zb_R_takesTest 38 = .ok (.iload_n 1, 1) := by decide +kernel
theorem zd_R_takesTest_39 : decode zb_R_takesTest 39 = .ok (.bipush 62, 2) := by decide +kernel
theorem zd_R_takesTest_41 : decode zb_R_takesTest 41 = .ok (.if_icmp .ne 8, 3) := by decide +kernel
theorem zd_R_takesTest_44 : decode zb_R_takesTest 44 = .ok (.bipush (-11), 2) := by decide +kernel
theorem zd_R_takesTest_46 : decode zb_R_takesTest 46 = .ok (.goto 5, 3) := by decide +kernel
theorem zd_R_takesTest_49 : decode zb_R_takesTest 49 = .ok (.bipush (-12), 2) := by decide +kernel
theorem zd_R_takesTest_51 : decode zb_R_takesTest 51 = .ok (.invokevirtual 70, 3) := by decide +kernel
theorem zd_R_takesTest_54 : decode zb_R_takesTest 54 = .ok (.aload_n 0, 1) := by decide +kernel
theorem zd_R_takesTest_55 : decode zb_R_takesTest 55 = .ok (.iconst 5, 1) := by decide +kernel
theorem zd_R_takesTest_56 : decode zb_R_takesTest 56 = .ok (.putfield 28, 3) := by decide +kernel
theorem zd_R_takesTest_59 : decode zb_R_takesTest 59 = .ok (.iconst 1, 1) := by decide +kernel
theorem zd_R_takesTest_60 : decode zb_R_takesTest 60 = .ok (.ireturn, 1) := by decide +kernel

def zf_R_takesTest_51 (xt1 : Int) (S : Sg) : Option (Int × Sg) :=
    zbd (zf_R_hold xt1 S) fun a1 S2 => zlt (zu S2 3 0 4 5 5) fun S3 => some (1, S3)
set_option maxHeartbeats 4000000 in
set_option maxRecDepth 100000 in
theorem zw_R_takesTest_51 {p : Program} {l : Launch} {e : Env} {s : State} {m : MethodId} {args : Array Value} {below : List Frame} {meth : Method} {c : Code} {B : zB} (C : CallFix p m c zb_R_takesTest 2 s args zT "IslandOffice$Reader") (hr : meth.sig.returnType = some .boolean) (hlk : meth.locks = false) (hK : zK B s) (hSt : zSt B s) (hap : zAp B) {res : Int} {S9 : Sg} : ∀ (xt1 : Int) (S : Sg) (nxt1 : zn xt1), zf_R_takesTest_51 xt1 S = some (res, S9) → ∀ (H : Heap) (locs : List Loc) (ls : Array Slot), zW B S H → va_S B.2.2.2 s.heap H locs → lv_has ls 2 [(0, .ref (B.2.1 3 (0) (4)))] → W p l e zm_R_takesTest s m args below meth c H locs 0 0 (MQ below (zQi B res S9) args s 0 0 B.2.2.2) (F0 m 51 ls [.int (zI (xt1)), .ref (B.2.1 3 (0) (4))]) := by
  intro xt1 S nxt1 hf H locs ls hW hS hl
  unfold zf_R_takesTest_51 at hf
  obtain ⟨a1, S2, ea1, hf⟩ := zbd_some hf
  refine zcVv (As := [.int (zI (xt1))]) (rest := []) C hK hSt hW hS (zc_R_hold hap xt1 S nxt1 ea1) zq_R_hold zk_635 (zrecv hK hW (zvd_3 (by decide) (by decide)) (ze_3_4 B _ (0)) rfl) ⟨rfl, rfl, by decide, by decide⟩ ⟨Nat.zero_le _, Nat.zero_le _⟩ rfl hl.1 rfl (lv_room (Nat.le_of_ble_eq_true rfl)) zd_R_takesTest_51 (fun H locs hW hS => ?_)
  refine lv_aload_n C.1 C.2.1 zd_R_takesTest_54 rfl (lv_at hl 0 rfl) ?_
  refine zr_iconst C zd_R_takesTest_55 ?_
  obtain ⟨S3, eS3, hf⟩ := zlt_some hf
  refine zp_R_state (r := 0) C hK hap hW hS (zvd_3 (by decide) (by decide)) zk_386 (znb rfl) zd_R_takesTest_56 (fun H locs hW hS => ?_)
  rw [eS3] at hW
  refine zr_iconst C zd_R_takesTest_59 ?_
  cases hf
  exact zre_z C hr hlk hK hW hS (znb rfl) (zb01 (by decide)) zd_R_takesTest_60

def zf_R_takesTest_20 (x1 : Int) (S : Sg) : Option (Int × Sg) :=
    zbd (zf_R_unwind (-12) S) fun a1 S2 => if x1 = 60 then (zf_R_takesTest_51 (-10) S2) else (if x1 = 62 then (zf_R_takesTest_51 (-11) S2) else (zf_R_takesTest_51 (-12) S2))
set_option maxHeartbeats 4000000 in
set_option maxRecDepth 100000 in
theorem zw_R_takesTest_20 {p : Program} {l : Launch} {e : Env} {s : State} {m : MethodId} {args : Array Value} {below : List Frame} {meth : Method} {c : Code} {B : zB} (C : CallFix p m c zb_R_takesTest 2 s args zT "IslandOffice$Reader") (hr : meth.sig.returnType = some .boolean) (hlk : meth.locks = false) (hK : zK B s) (hSt : zSt B s) (hap : zAp B) {res : Int} {S9 : Sg} : ∀ (x1 : Int) (S : Sg) (nx1 : zn x1), zf_R_takesTest_20 x1 S = some (res, S9) → ∀ (H : Heap) (locs : List Loc) (ls : Array Slot), zW B S H → va_S B.2.2.2 s.heap H locs → lv_has ls 2 [(0, .ref (B.2.1 3 (0) (4))), (1, .int (zI (x1)))] → W p l e zm_R_takesTest s m args below meth c H locs 0 0 (MQ below (zQi B res S9) args s 0 0 B.2.2.2) (F0 m 20 ls []) := by
  intro x1 S nx1 hf H locs ls hW hS hl
  unfold zf_R_takesTest_20 at hf
  refine lv_aload_n C.1 C.2.1 zd_R_takesTest_20 rfl (lv_at hl 0 rfl) ?_
  refine zr_bipush C zd_R_takesTest_21 (by decide) ?_
  obtain ⟨a1, S2, ea1, hf⟩ := zbd_some hf
  refine zcVv (As := [.int (zI (-12))]) (rest := []) C hK hSt hW hS (zc_R_unwind hap (-12) S (znb rfl) ea1) zq_R_unwind zk_662 (zrecv hK hW (zvd_3 (by decide) (by decide)) (ze_3_4 B _ (0)) rfl) ⟨rfl, rfl, by decide, by decide⟩ ⟨Nat.zero_le _, Nat.zero_le _⟩ rfl hl.1 rfl (lv_room (Nat.le_of_ble_eq_true rfl)) zd_R_takesTest_23 (fun H locs hW hS => ?_)
  refine lv_aload_n C.1 C.2.1 zd_R_takesTest_26 rfl (lv_at hl 0 rfl) ?_
  refine lv_iload_n C.1 C.2.1 zd_R_takesTest_27 rfl (lv_at hl 1 rfl) ?_
  refine zr_bipush C zd_R_takesTest_28 (by decide) ?_
  refine zr_icmp_ne (tgt := 38) C nx1 (znb rfl) zd_R_takesTest_30 (by decide) (fun c3 => ?_) (fun c3 => ?_)
  · rw [if_neg c3] at hf
    refine lv_iload_n C.1 C.2.1 zd_R_takesTest_38 rfl (lv_at hl 1 rfl) ?_
    refine zr_bipush C zd_R_takesTest_39 (by decide) ?_
    refine zr_icmp_ne (tgt := 49) C nx1 (znb rfl) zd_R_takesTest_41 (by decide) (fun c4 => ?_) (fun c4 => ?_)
    · rw [if_neg c4] at hf
      refine zr_bipush C zd_R_takesTest_49 (by decide) ?_
      exact zw_R_takesTest_51 C hr hlk hK hSt hap   (-12) S2 (znb rfl) hf _ _ _ hW hS (lv_sub hl [0] rfl)
    · rw [if_pos c4] at hf
      refine zr_bipush C zd_R_takesTest_44 (by decide) ?_
      refine lv_goto (tgt := 51) C.1 C.2.1 zd_R_takesTest_46 (by decide) ?_
      exact zw_R_takesTest_51 C hr hlk hK hSt hap   (-11) S2 (znb rfl) hf _ _ _ hW hS (lv_sub hl [0] rfl)
  · rw [if_pos c3] at hf
    refine zr_bipush C zd_R_takesTest_33 (by decide) ?_
    refine lv_goto (tgt := 51) C.1 C.2.1 zd_R_takesTest_35 (by decide) ?_
    exact zw_R_takesTest_51 C hr hlk hK hSt hap   (-10) S2 (znb rfl) hf _ _ _ hW hS (lv_sub hl [0] rfl)

def zf_R_takesTest (x1 : Int) (S : Sg) : Option (Int × Sg) :=
    if x1 = 60 then (zf_R_takesTest_20 (x1) S) else (if x1 = 62 then (zf_R_takesTest_20 (x1) S) else (if x1 = 61 then (zf_R_takesTest_20 (x1) S) else (some (0, S))))
set_option maxHeartbeats 4000000 in
set_option maxRecDepth 100000 in
theorem zw_R_takesTest {p : Program} {l : Launch} {e : Env} {s : State} {m : MethodId} {args : Array Value} {below : List Frame} {meth : Method} {c : Code} {B : zB} (C : CallFix p m c zb_R_takesTest 2 s args zT "IslandOffice$Reader") (hr : meth.sig.returnType = some .boolean) (hlk : meth.locks = false) (hK : zK B s) (hSt : zSt B s) (hap : zAp B) {res : Int} {S9 : Sg} : ∀ (x1 : Int) (S : Sg) (nx1 : zn x1), zf_R_takesTest x1 S = some (res, S9) → ∀ (H : Heap) (locs : List Loc) (ls : Array Slot), zW B S H → va_S B.2.2.2 s.heap H locs → lv_has ls 2 [(0, .ref (B.2.1 3 (0) (4))), (1, .int (zI (x1)))] → W p l e zm_R_takesTest s m args below meth c H locs 0 0 (MQ below (zQi B res S9) args s 0 0 B.2.2.2) (F0 m 0 ls []) := by
  intro x1 S nx1 hf H locs ls hW hS hl
  unfold zf_R_takesTest at hf
  refine lv_iload_n C.1 C.2.1 zd_R_takesTest_0 rfl (lv_at hl 1 rfl) ?_
  refine zr_bipush C zd_R_takesTest_1 (by decide) ?_
  refine zr_icmp_eq (tgt := 20) C nx1 (znb rfl) zd_R_takesTest_3 (by decide) (fun c1 => ?_) (fun c1 => ?_)
  · rw [if_pos c1] at hf
    exact zw_R_takesTest_20 C hr hlk hK hSt hap   (x1) S nx1 hf _ _ _ hW hS (lv_sub hl [0, 1] rfl)
  · rw [if_neg c1] at hf
    refine lv_iload_n C.1 C.2.1 zd_R_takesTest_6 rfl (lv_at hl 1 rfl) ?_
    refine zr_bipush C zd_R_takesTest_7 (by decide) ?_
    refine zr_icmp_eq (tgt := 20) C nx1 (znb rfl) zd_R_takesTest_9 (by decide) (fun c2 => ?_) (fun c2 => ?_)
    · rw [if_pos c2] at hf
      exact zw_R_takesTest_20 C hr hlk hK hSt hap   (x1) S nx1 hf _ _ _ hW hS (lv_sub hl [0, 1] rfl)
    · rw [if_neg c2] at hf
      refine lv_iload_n C.1 C.2.1 zd_R_takesTest_12 rfl (lv_at hl 1 rfl) ?_
      refine zr_bipush C zd_R_takesTest_13 (by decide) ?_
      refine zr_icmp_eq (tgt := 20) C nx1 (znb rfl) zd_R_takesTest_15 (by decide) (fun c3 => ?_) (fun c3 => ?_)
      · rw [if_pos c3] at hf
        exact zw_R_takesTest_20 C hr hlk hK hSt hap   (x1) S nx1 hf _ _ _ hW hS (lv_sub hl [0, 1] rfl)
      · rw [if_neg c3] at hf
        refine zr_iconst C zd_R_takesTest_18 ?_
        cases hf
        exact zre_z C hr hlk hK hW hS (znb rfl) (zb01 (by decide)) zd_R_takesTest_19

theorem zc_R_takesTest {l : Launch} {B : zB} (hap : zAp B) (x1 : Int) (S : Sg) (nx1 : zn x1) {res : Int} {S9 : Sg} (hf : zf_R_takesTest x1 S = some (res, S9)) : Met l zy_R_takesTest (Cond.code zy_R_takesTest zb_R_takesTest 2 (some .boolean) :: zT) zm_R_takesTest (zP B S [.ref (B.2.1 3 (0) (4)), .int (zI (x1))]) (zQi B res S9) 0 0 B.2.2.2 :=
  zmet (by decide) (Nat.le_of_ble_eq_true rfl) (fun p e s m args below meth c C hr hlk hK hSt hW ls hl => zw_R_takesTest C hr hlk hK hSt hap   x1 S nx1 hf _ _ _ hW va_S.rf hl)
/-! IslandOffice$Reader.takes(I)Z -/
abbrev zy_R_takes : MethodName := ⟨"IslandOffice$Reader", "takes", "(I)Z"⟩
abbrev zb_R_takes : ByteArray := prog_9_method_3_code
abbrev zm_R_takes : Room := { frames := 3, cells := 0, slots := 0, locals := 86 }
theorem zq_R_takes : zMy zy_R_takes zb_R_takes 2 (some .boolean) 1 := ⟨zk_626, zk_625, zs_1, zk_10, by decide, by decide, by decide +kernel⟩
theorem zd_R_takes_0 : decode zb_R_takes 0 = .ok (.aload_n 0, 1) := by decide +kernel
theorem zd_R_takes_1 : decode zb_R_takes 1 = .ok (.getfield 28, 3) := by decide +kernel
theorem zd_R_takes_4 : decode zb_R_takes 4 = .ok (.tableswitch 175 0 6 #[44, 50, 67, 98, 113, 105, 144], 44) := by decide +kernel
theorem zd_R_takes_48 : decode zb_R_takes 48 = .ok (.aload_n 0, 1) := by decide +kernel
theorem zd_R_takes_49 : decode zb_R_takes 49 = .ok (.iload_n 1, 1) := by decide +kernel
theorem zd_R_takes_50 : decode zb_R_takes 50 = .ok (.invokevirtual 45, 3) := by decide +kernel
theorem zd_R_takes_53 : decode zb_R_takes 53 = .ok (.ireturn, 1) := by decide +kernel
theorem zd_R_takes_54 : decode zb_R_takes 54 = .ok (.aload_n 0, 1) := by decide +kernel
theorem zd_R_takes_55 : decode zb_R_takes 55 = .ok (.iconst 2, 1) := by decide +kernel
theorem zd_R_takes_56 : decode zb_R_takes 56 = .ok (.putfield 28, 3) := by decide +kernel
theorem zd_R_takes_59 : decode zb_R_takes 59 = .ok (.iload_n 1, 1) := by decide +kernel
theorem zd_R_takes_60 : decode zb_R_takes 60 = .ok (.bipush 58, 2) := by decide +kernel
theorem zd_R_takes_62 : decode zb_R_takes 62 = .ok (.if_icmp .ne 7, 3) := by decide +kernel
theorem zd_R_takes_65 : decode zb_R_takes 65 = .ok (.iconst 1, 1) := by decide +kernel
theorem zd_R_takes_66 : decode zb_R_takes 66 = .ok (.goto 4, 3) := by decide +kernel
theorem zd_R_takes_69 : decode zb_R_takes 69 = .ok (.iconst 0, 1) := by decide +kernel
theorem zd_R_takes_70 : decode zb_R_takes 70 = .ok (.ireturn, 1) := by decide +kernel
theorem zd_R_takes_71 : decode zb_R_takes 71 = .ok (.aload_n 0, 1) := by decide +kernel
theorem zd_R_takes_72 : decode zb_R_takes 72 = .ok (.iload_n 1, 1) := by decide +kernel
theorem zd_R_takes_73 : decode zb_R_takes 73 = .ok (.invokevirtual 48, 3) := by decide +kernel
theorem zd_R_takes_76 : decode zb_R_takes 76 = .ok (.ifCond .ne 20, 3) := by decide +kernel
theorem zd_R_takes_79 : decode zb_R_takes 79 = .ok (.aload_n 0, 1) := by decide +kernel
theorem zd_R_takes_80 : decode zb_R_takes 80 = .ok (.iload_n 1, 1) := by decide +kernel
theorem zd_R_takes_81 : decode zb_R_takes 81 = .ok (.invokevirtual 51, 3) := by decide +kernel
theorem zd_R_takes_84 : decode zb_R_takes 84 = .ok (.ifCond .ne 12, 3) := by decide +kernel
theorem zd_R_takes_87 : decode zb_R_takes 87 = .ok (.aload_n 0, 1) := by decide +kernel
theorem zd_R_takes_88 : decode zb_R_takes 88 = .ok (.iload_n 1, 1) := by decide +kernel
theorem zd_R_takes_89 : decode zb_R_takes 89 = .ok (.iconst 4, 1) := by decide +kernel
theorem zd_R_takes_90 : decode zb_R_takes 90 = .ok (.invokevirtual 54, 3) := by decide +kernel
theorem zd_R_takes_93 : decode zb_R_takes 93 = .ok (.ifCond .eq 7, 3) := by decide +kernel
theorem zd_R_takes_96 : decode zb_R_takes 96 = .ok (.iconst 1, 1) := by decide +kernel
theorem zd_R_takes_97 : decode zb_R_takes 97 = .ok (.goto 4, 3) := by decide +kernel
theorem zd_R_takes_100 : decode zb_R_takes 100 = .ok (.iconst 0, 1) := by decide +kernel
theorem zd_R_takes_101 : decode zb_R_takes 101 = .ok (.ireturn, 1) := by decide +kernel
theorem zd_R_takes_102 : decode zb_R_takes 102 = .ok (.aload_n 0, 1) := by decide +kernel
theorem zd_R_takes_103 : decode zb_R_takes 103 = .ok (.iload_n 1, 1) := by decide +kernel
theorem zd_R_takes_104 : decode zb_R_takes 104 = .ok (.iconst 4, 1) := by decide +kernel
theorem zd_R_takes_105 : decode zb_R_takes 105 = .ok (.invokevirtual 54, 3) := by decide +kernel
theorem zd_R_takes_108 : decode zb_R_takes 108 = .ok (.ireturn, 1) := by decide +kernel
theorem zd_R_takes_109 : decode zb_R_takes 109 = .ok (.aload_n 0, 1) := by decide +kernel
theorem zd_R_takes_110 : decode zb_R_takes 110 = .ok (.iload_n 1, 1) := by decide +kernel
theorem zd_R_takes_111 : decode zb_R_takes 111 = .ok (.bipush 6, 2) := by decide +kernel
theorem zd_R_takes_113 : decode zb_R_takes 113 = .ok (.invokevirtual 54, 3) := by decide +kernel
theorem zd_R_takes_116 : decode zb_R_takes 116 = .ok (.ireturn, 1) := by decide +kernel
theorem zd_R_takes_117 : decode zb_R_takes 117 = .ok (.aload_n 0, 1) := by decide +kernel
theorem zd_R_takes_118 : decode zb_R_takes 118 = .ok (.iload_n 1, 1) := by decide +kernel
theorem zd_R_takes_119 : decode zb_R_takes 119 = .ok (.invokevirtual 58, 3) := by decide +kernel
theorem zd_R_takes_122 : decode zb_R_takes 122 = .ok (.ifCond .ne 20, 3) := by decide +kernel
theorem zd_R_takes_125 : decode zb_R_takes 125 = .ok (.aload_n 0, 1) := by decide +kernel
theorem zd_R_takes_126 : decode zb_R_takes 126 = .ok (.iload_n 1, 1) := by decide +kernel
theorem zd_R_takes_127 : decode zb_R_takes 127 = .ok (.iconst 3, 1) := by decide +kernel
theorem zd_R_takes_128 : decode zb_R_takes 128 = .ok (.invokevirtual 61, 3) := by decide +kernel
theorem zd_R_takes_131 : decode zb_R_takes 131 = .ok (.ifCond .ne 11, 3) := by decide +kernel
theorem zd_R_takes_134 : decode zb_R_takes 134 = .ok (.aload_n 0, 1) := by decide +kernel
theorem zd_R_takes_135 : decode zb_R_takes 135 = .ok (.iload_n 1, 1) := by decide +kernel
theorem zd_R_takes_136 : decode zb_R_takes 136 = .ok (.invokevirtual 64, 3) := by decide +kernel
theorem zd_R_takes_139 : decode zb_R_takes 139 = .ok (.ifCond .eq 7, 3) := by decide +kernel
theorem zd_R_takes_142 : decode zb_R_takes 142 = .ok (.iconst 1, 1) := by decide +kernel
theorem zd_R_takes_143 : decode zb_R_takes 143 = .ok (.goto 4, 3) := by decide +kernel
theorem zd_R_takes_146 : decode zb_R_takes 146 = .ok (.iconst 0, 1) := by decide +kernel
theorem zd_R_takes_147 : decode zb_R_takes 147 = .ok (.ireturn, 1) := by decide +kernel
theorem zd_R_takes_148 : decode zb_R_takes 148 = .ok (.aload_n 0, 1) := by decide +kernel
theorem zd_R_takes_149 : decode zb_R_takes 149 = .ok (.iload_n 1, 1) := by decide +kernel
theorem zd_R_takes_150 : decode zb_R_takes 150 = .ok (.invokevirtual 58, 3) := by decide +kernel
theorem zd_R_takes_153 : decode zb_R_takes 153 = .ok (.ifCond .ne 20, 3) := by decide +kernel
theorem zd_R_takes_156 : decode zb_R_takes 156 = .ok (.aload_n 0, 1) := by decide +kernel
theorem zd_R_takes_157 : decode zb_R_takes 157 = .ok (.iload_n 1, 1) := by decide +kernel
theorem zd_R_takes_158 : decode zb_R_takes 158 = .ok (.iconst 5, 1) := by decide +kernel
theorem zd_R_takes_159 : decode zb_R_takes 159 = .ok (.invokevirtual 61, 3) := by decide +kernel
theorem zd_R_takes_162 : decode zb_R_takes 162 = .ok (.ifCond .ne 11, 3) := by decide +kernel
theorem zd_R_takes_165 : decode zb_R_takes 165 = .ok (.aload_n 0, 1) := by decide +kernel
theorem zd_R_takes_166 : decode zb_R_takes 166 = .ok (.iload_n 1, 1) := by decide +kernel
theorem zd_R_takes_167 : decode zb_R_takes 167 = .ok (.invokevirtual 67, 3) := by decide +kernel
theorem zd_R_takes_170 : decode zb_R_takes 170 = .ok (.ifCond .eq 7, 3) := by decide +kernel
theorem zd_R_takes_173 : decode zb_R_takes 173 = .ok (.iconst 1, 1) := by decide +kernel
theorem zd_R_takes_174 : decode zb_R_takes 174 = .ok (.goto 4, 3) := by decide +kernel
theorem zd_R_takes_177 : decode zb_R_takes 177 = .ok (.iconst 0, 1) := by decide +kernel
theorem zd_R_takes_178 : decode zb_R_takes 178 = .ok (.ireturn, 1) := by decide +kernel
theorem zd_R_takes_179 : decode zb_R_takes 179 = .ok (.aload_n 0, 1) := by decide +kernel
theorem zd_R_takes_180 : decode zb_R_takes 180 = .ok (.iload_n 1, 1) := by decide +kernel
theorem zd_R_takes_181 : decode zb_R_takes 181 = .ok (.invokevirtual 67, 3) := by decide +kernel
theorem zd_R_takes_184 : decode zb_R_takes 184 = .ok (.ireturn, 1) := by decide +kernel

def zf_R_takes_96 (S : Sg) : Option (Int × Sg) :=
    some (1, S)
set_option maxHeartbeats 4000000 in
set_option maxRecDepth 100000 in
theorem zw_R_takes_96 {p : Program} {l : Launch} {e : Env} {s : State} {m : MethodId} {args : Array Value} {below : List Frame} {meth : Method} {c : Code} {B : zB} (C : CallFix p m c zb_R_takes 2 s args zT "IslandOffice$Reader") (hr : meth.sig.returnType = some .boolean) (hlk : meth.locks = false) (hK : zK B s) (hSt : zSt B s) (hap : zAp B) {res : Int} {S9 : Sg} : ∀  (S : Sg) , zf_R_takes_96  S = some (res, S9) → ∀ (H : Heap) (locs : List Loc) (ls : Array Slot), zW B S H → va_S B.2.2.2 s.heap H locs → lv_has ls 2 [] → W p l e zm_R_takes s m args below meth c H locs 0 0 (MQ below (zQi B res S9) args s 0 0 B.2.2.2) (F0 m 96 ls []) := by
  intro S hf H locs ls hW hS hl
  unfold zf_R_takes_96 at hf
  refine zr_iconst C zd_R_takes_96 ?_
  refine lv_goto (tgt := 101) C.1 C.2.1 zd_R_takes_97 (by decide) ?_
  cases hf
  exact zre_z C hr hlk hK hW hS (znb rfl) (zb01 (by decide)) zd_R_takes_101

def zf_R_takes_142 (S : Sg) : Option (Int × Sg) :=
    some (1, S)
set_option maxHeartbeats 4000000 in
set_option maxRecDepth 100000 in
theorem zw_R_takes_142 {p : Program} {l : Launch} {e : Env} {s : State} {m : MethodId} {args : Array Value} {below : List Frame} {meth : Method} {c : Code} {B : zB} (C : CallFix p m c zb_R_takes 2 s args zT "IslandOffice$Reader") (hr : meth.sig.returnType = some .boolean) (hlk : meth.locks = false) (hK : zK B s) (hSt : zSt B s) (hap : zAp B) {res : Int} {S9 : Sg} : ∀  (S : Sg) , zf_R_takes_142  S = some (res, S9) → ∀ (H : Heap) (locs : List Loc) (ls : Array Slot), zW B S H → va_S B.2.2.2 s.heap H locs → lv_has ls 2 [] → W p l e zm_R_takes s m args below meth c H locs 0 0 (MQ below (zQi B res S9) args s 0 0 B.2.2.2) (F0 m 142 ls []) := by
  intro S hf H locs ls hW hS hl
  unfold zf_R_takes_142 at hf
  refine zr_iconst C zd_R_takes_142 ?_
  refine lv_goto (tgt := 147) C.1 C.2.1 zd_R_takes_143 (by decide) ?_
  cases hf
  exact zre_z C hr hlk hK hW hS (znb rfl) (zb01 (by decide)) zd_R_takes_147

def zf_R_takes_173 (S : Sg) : Option (Int × Sg) :=
    some (1, S)
set_option maxHeartbeats 4000000 in
set_option maxRecDepth 100000 in
theorem zw_R_takes_173 {p : Program} {l : Launch} {e : Env} {s : State} {m : MethodId} {args : Array Value} {below : List Frame} {meth : Method} {c : Code} {B : zB} (C : CallFix p m c zb_R_takes 2 s args zT "IslandOffice$Reader") (hr : meth.sig.returnType = some .boolean) (hlk : meth.locks = false) (hK : zK B s) (hSt : zSt B s) (hap : zAp B) {res : Int} {S9 : Sg} : ∀  (S : Sg) , zf_R_takes_173  S = some (res, S9) → ∀ (H : Heap) (locs : List Loc) (ls : Array Slot), zW B S H → va_S B.2.2.2 s.heap H locs → lv_has ls 2 [] → W p l e zm_R_takes s m args below meth c H locs 0 0 (MQ below (zQi B res S9) args s 0 0 B.2.2.2) (F0 m 173 ls []) := by
  intro S hf H locs ls hW hS hl
  unfold zf_R_takes_173 at hf
  refine zr_iconst C zd_R_takes_173 ?_
  refine lv_goto (tgt := 178) C.1 C.2.1 zd_R_takes_174 (by decide) ?_
  cases hf
  exact zre_z C hr hlk hK hW hS (znb rfl) (zb01 (by decide)) zd_R_takes_178

def zf_R_takes (x1 : Int) (S : Sg) : Option (Int × Sg) :=
    zlt (S 3 0 4 5) fun v1 => if v1 = 0 then (zbd (zf_R_takesSubject x1 S) fun a3 S4 => zck (a3 = 0 ∨ a3 = 1) <| some (a3, S4)) else (if v1 = 1 then (zlt (zu S 3 0 4 5 2) fun S7 => if x1 = 58 then (some (1, S7)) else (some (0, S7))) else (if v1 = 2 then (zbd (zf_R_takesNot x1 S) fun a10 S11 => if a10 = 0 then (zbd (zf_R_takesBracket x1 S11) fun a13 S14 => if a13 = 0 then (zbd (zf_R_takesAtom x1 4 S14) fun a16 S17 => if a16 = 0 then (some (0, S17)) else (zf_R_takes_96  S17)) else (zf_R_takes_96  S14)) else (zf_R_takes_96  S11)) else (if v1 = 3 then (zbd (zf_R_takesAtom x1 4 S) fun a20 S21 => zck (a20 = 0 ∨ a20 = 1) <| some (a20, S21)) else (if v1 = 4 then (zbd (zf_R_takesDigit x1 S) fun a24 S25 => if a24 = 0 then (zbd (zf_R_takesSign x1 3 S25) fun a27 S28 => if a27 = 0 then (zbd (zf_R_takesTest x1 S28) fun a30 S31 => if a30 = 0 then (some (0, S31)) else (zf_R_takes_142  S31)) else (zf_R_takes_142  S28)) else (zf_R_takes_142  S25)) else (if v1 = 5 then (zbd (zf_R_takesAtom x1 6 S) fun a34 S35 => zck (a34 = 0 ∨ a34 = 1) <| some (a34, S35)) else (if v1 = 6 then (zbd (zf_R_takesDigit x1 S) fun a38 S39 => if a38 = 0 then (zbd (zf_R_takesSign x1 5 S39) fun a41 S42 => if a41 = 0 then (zbd (zf_R_takesJoint x1 S42) fun a44 S45 => if a44 = 0 then (some (0, S45)) else (zf_R_takes_173  S45)) else (zf_R_takes_173  S42)) else (zf_R_takes_173  S39)) else (zbd (zf_R_takesJoint x1 S) fun a47 S48 => zck (a47 = 0 ∨ a47 = 1) <| some (a47, S48))))))))
set_option maxHeartbeats 4000000 in
set_option maxRecDepth 100000 in
theorem zw_R_takes {p : Program} {l : Launch} {e : Env} {s : State} {m : MethodId} {args : Array Value} {below : List Frame} {meth : Method} {c : Code} {B : zB} (C : CallFix p m c zb_R_takes 2 s args zT "IslandOffice$Reader") (hr : meth.sig.returnType = some .boolean) (hlk : meth.locks = false) (hK : zK B s) (hSt : zSt B s) (hap : zAp B) {res : Int} {S9 : Sg} : ∀ (x1 : Int) (S : Sg) (nx1 : zn x1), zf_R_takes x1 S = some (res, S9) → ∀ (H : Heap) (locs : List Loc) (ls : Array Slot), zW B S H → va_S B.2.2.2 s.heap H locs → lv_has ls 2 [(0, .ref (B.2.1 3 (0) (4))), (1, .int (zI (x1)))] → W p l e zm_R_takes s m args below meth c H locs 0 0 (MQ below (zQi B res S9) args s 0 0 B.2.2.2) (F0 m 0 ls []) := by
  intro x1 S nx1 hf H locs ls hW hS hl
  unfold zf_R_takes at hf
  refine lv_aload_n C.1 C.2.1 zd_R_takes_0 rfl (lv_at hl 0 rfl) ?_
  refine zg_R_state (r := 0) C hK hW (zvd_3 (by decide) (by decide)) zk_386 zd_R_takes_1 ?_
  obtain ⟨v1, ev1, hf⟩ := zlt_some hf
  have nv1 : zn v1 := by rw [← ev1]; exact (zWn hW _ _ _ _ rfl)
  rw [ev1]
  by_cases c2 : v1 = 0
  · rw [if_pos c2] at hf
    refine zr_tab (off := 44) (tgt := 48) C nv1 zd_R_takes_4 (by omega) (by omega) (by rw [c2]; rfl) (by decide) ?_
    refine lv_aload_n C.1 C.2.1 zd_R_takes_48 rfl (lv_at hl 0 rfl) ?_
    refine lv_iload_n C.1 C.2.1 zd_R_takes_49 rfl (lv_at hl 1 rfl) ?_
    obtain ⟨a3, S4, ea3, hf⟩ := zbd_some hf
    refine zcVi (As := [.int (zI (x1))]) (rest := []) C hK hSt hW hS (zc_R_takesSubject hap x1 S nx1 ea3) zq_R_takesSubject zk_627 (zrecv hK hW (zvd_3 (by decide) (by decide)) (ze_3_4 B _ (0)) rfl) ⟨rfl, rfl, by decide, by decide⟩ ⟨Nat.zero_le _, Nat.zero_le _⟩ rfl hl.1 rfl (lv_room (Nat.le_of_ble_eq_true rfl)) zd_R_takes_50 (fun na3 H locs hW hS => ?_)
    obtain ⟨h5, hf⟩ := zck_some hf
    cases hf
    exact zre_z C hr hlk hK hW hS na3 (zb01 h5) zd_R_takes_53
  rw [if_neg c2] at hf
  by_cases c6 : v1 = 1
  · rw [if_pos c6] at hf
    refine zr_tab (off := 50) (tgt := 54) C nv1 zd_R_takes_4 (by omega) (by omega) (by rw [c6]; rfl) (by decide) ?_
    refine lv_aload_n C.1 C.2.1 zd_R_takes_54 rfl (lv_at hl 0 rfl) ?_
    refine zr_iconst C zd_R_takes_55 ?_
    obtain ⟨S7, eS7, hf⟩ := zlt_some hf
    refine zp_R_state (r := 0) C hK hap hW hS (zvd_3 (by decide) (by decide)) zk_386 (znb rfl) zd_R_takes_56 (fun H locs hW hS => ?_)
    rw [eS7] at hW
    refine lv_iload_n C.1 C.2.1 zd_R_takes_59 rfl (lv_at hl 1 rfl) ?_
    refine zr_bipush C zd_R_takes_60 (by decide) ?_
    refine zr_icmp_ne (tgt := 69) C nx1 (znb rfl) zd_R_takes_62 (by decide) (fun c8 => ?_) (fun c8 => ?_)
    · rw [if_neg c8] at hf
      refine zr_iconst C zd_R_takes_69 ?_
      cases hf
      exact zre_z C hr hlk hK hW hS (znb rfl) (zb01 (by decide)) zd_R_takes_70
    · rw [if_pos c8] at hf
      refine zr_iconst C zd_R_takes_65 ?_
      refine lv_goto (tgt := 70) C.1 C.2.1 zd_R_takes_66 (by decide) ?_
      cases hf
      exact zre_z C hr hlk hK hW hS (znb rfl) (zb01 (by decide)) zd_R_takes_70
  rw [if_neg c6] at hf
  by_cases c9 : v1 = 2
  · rw [if_pos c9] at hf
    refine zr_tab (off := 67) (tgt := 71) C nv1 zd_R_takes_4 (by omega) (by omega) (by rw [c9]; rfl) (by decide) ?_
    refine lv_aload_n C.1 C.2.1 zd_R_takes_71 rfl (lv_at hl 0 rfl) ?_
    refine lv_iload_n C.1 C.2.1 zd_R_takes_72 rfl (lv_at hl 1 rfl) ?_
    obtain ⟨a10, S11, ea10, hf⟩ := zbd_some hf
    refine zcVi (As := [.int (zI (x1))]) (rest := []) C hK hSt hW hS (zc_R_takesNot hap x1 S nx1 ea10) zq_R_takesNot zk_631 (zrecv hK hW (zvd_3 (by decide) (by decide)) (ze_3_4 B _ (0)) rfl) ⟨rfl, rfl, by decide, by decide⟩ ⟨Nat.zero_le _, Nat.zero_le _⟩ rfl hl.1 rfl (lv_room (Nat.le_of_ble_eq_true rfl)) zd_R_takes_73 (fun na10 H locs hW hS => ?_)
    refine zr_if_ne (tgt := 96) C na10 zd_R_takes_76 (by decide) (fun c12 => ?_) (fun c12 => ?_)
    · rw [if_neg c12] at hf
      exact zw_R_takes_96 C hr hlk hK hSt hap    S11  hf _ _ _ hW hS (lv_sub hl [] rfl)
    · rw [if_pos c12] at hf
      refine lv_aload_n C.1 C.2.1 zd_R_takes_79 rfl (lv_at hl 0 rfl) ?_
      refine lv_iload_n C.1 C.2.1 zd_R_takes_80 rfl (lv_at hl 1 rfl) ?_
      obtain ⟨a13, S14, ea13, hf⟩ := zbd_some hf
      refine zcVi (As := [.int (zI (x1))]) (rest := []) C hK hSt hW hS (zc_R_takesBracket hap x1 S11 nx1 ea13) zq_R_takesBracket zk_639 (zrecv hK hW (zvd_3 (by decide) (by decide)) (ze_3_4 B _ (0)) rfl) ⟨rfl, rfl, by decide, by decide⟩ ⟨Nat.zero_le _, Nat.zero_le _⟩ rfl hl.1 rfl (lv_room (Nat.le_of_ble_eq_true rfl)) zd_R_takes_81 (fun na13 H locs hW hS => ?_)
      refine zr_if_ne (tgt := 96) C na13 zd_R_takes_84 (by decide) (fun c15 => ?_) (fun c15 => ?_)
      · rw [if_neg c15] at hf
        exact zw_R_takes_96 C hr hlk hK hSt hap    S14  hf _ _ _ hW hS (lv_sub hl [] rfl)
      · rw [if_pos c15] at hf
        refine lv_aload_n C.1 C.2.1 zd_R_takes_87 rfl (lv_at hl 0 rfl) ?_
        refine lv_iload_n C.1 C.2.1 zd_R_takes_88 rfl (lv_at hl 1 rfl) ?_
        refine zr_iconst C zd_R_takes_89 ?_
        obtain ⟨a16, S17, ea16, hf⟩ := zbd_some hf
        refine zcVi (As := [.int (zI (x1)), .int (zI (4))]) (rest := []) C hK hSt hW hS (zc_R_takesAtom hap x1 4 S14 nx1 (znb rfl) ea16) zq_R_takesAtom zk_643 (zrecv hK hW (zvd_3 (by decide) (by decide)) (ze_3_4 B _ (0)) rfl) ⟨rfl, rfl, by decide, by decide⟩ ⟨Nat.zero_le _, Nat.zero_le _⟩ rfl hl.1 rfl (lv_room (Nat.le_of_ble_eq_true rfl)) zd_R_takes_90 (fun na16 H locs hW hS => ?_)
        refine zr_if_eq (tgt := 100) C na16 zd_R_takes_93 (by decide) (fun c18 => ?_) (fun c18 => ?_)
        · rw [if_pos c18] at hf
          refine zr_iconst C zd_R_takes_100 ?_
          cases hf
          exact zre_z C hr hlk hK hW hS (znb rfl) (zb01 (by decide)) zd_R_takes_101
        · rw [if_neg c18] at hf
          exact zw_R_takes_96 C hr hlk hK hSt hap    S17  hf _ _ _ hW hS (lv_sub hl [] rfl)
  rw [if_neg c9] at hf
  by_cases c19 : v1 = 3
  · rw [if_pos c19] at hf
    refine zr_tab (off := 98) (tgt := 102) C nv1 zd_R_takes_4 (by omega) (by omega) (by rw [c19]; rfl) (by decide) ?_
    refine lv_aload_n C.1 C.2.1 zd_R_takes_102 rfl (lv_at hl 0 rfl) ?_
    refine lv_iload_n C.1 C.2.1 zd_R_takes_103 rfl (lv_at hl 1 rfl) ?_
    refine zr_iconst C zd_R_takes_104 ?_
    obtain ⟨a20, S21, ea20, hf⟩ := zbd_some hf
    refine zcVi (As := [.int (zI (x1)), .int (zI (4))]) (rest := []) C hK hSt hW hS (zc_R_takesAtom hap x1 4 S nx1 (znb rfl) ea20) zq_R_takesAtom zk_643 (zrecv hK hW (zvd_3 (by decide) (by decide)) (ze_3_4 B _ (0)) rfl) ⟨rfl, rfl, by decide, by decide⟩ ⟨Nat.zero_le _, Nat.zero_le _⟩ rfl hl.1 rfl (lv_room (Nat.le_of_ble_eq_true rfl)) zd_R_takes_105 (fun na20 H locs hW hS => ?_)
    obtain ⟨h22, hf⟩ := zck_some hf
    cases hf
    exact zre_z C hr hlk hK hW hS na20 (zb01 h22) zd_R_takes_108
  rw [if_neg c19] at hf
  by_cases c23 : v1 = 4
  · rw [if_pos c23] at hf
    refine zr_tab (off := 113) (tgt := 117) C nv1 zd_R_takes_4 (by omega) (by omega) (by rw [c23]; rfl) (by decide) ?_
    refine lv_aload_n C.1 C.2.1 zd_R_takes_117 rfl (lv_at hl 0 rfl) ?_
    refine lv_iload_n C.1 C.2.1 zd_R_takes_118 rfl (lv_at hl 1 rfl) ?_
    obtain ⟨a24, S25, ea24, hf⟩ := zbd_some hf
    refine zcVi (As := [.int (zI (x1))]) (rest := []) C hK hSt hW hS (zc_R_takesDigit hap x1 S nx1 ea24) zq_R_takesDigit zk_654 (zrecv hK hW (zvd_3 (by decide) (by decide)) (ze_3_4 B _ (0)) rfl) ⟨rfl, rfl, by decide, by decide⟩ ⟨Nat.zero_le _, Nat.zero_le _⟩ rfl hl.1 rfl (lv_room (Nat.le_of_ble_eq_true rfl)) zd_R_takes_119 (fun na24 H locs hW hS => ?_)
    refine zr_if_ne (tgt := 142) C na24 zd_R_takes_122 (by decide) (fun c26 => ?_) (fun c26 => ?_)
    · rw [if_neg c26] at hf
      exact zw_R_takes_142 C hr hlk hK hSt hap    S25  hf _ _ _ hW hS (lv_sub hl [] rfl)
    · rw [if_pos c26] at hf
      refine lv_aload_n C.1 C.2.1 zd_R_takes_125 rfl (lv_at hl 0 rfl) ?_
      refine lv_iload_n C.1 C.2.1 zd_R_takes_126 rfl (lv_at hl 1 rfl) ?_
      refine zr_iconst C zd_R_takes_127 ?_
      obtain ⟨a27, S28, ea27, hf⟩ := zbd_some hf
      refine zcVi (As := [.int (zI (x1)), .int (zI (3))]) (rest := []) C hK hSt hW hS (zc_R_takesSign hap x1 3 S25 nx1 (znb rfl) ea27) zq_R_takesSign zk_658 (zrecv hK hW (zvd_3 (by decide) (by decide)) (ze_3_4 B _ (0)) rfl) ⟨rfl, rfl, by decide, by decide⟩ ⟨Nat.zero_le _, Nat.zero_le _⟩ rfl hl.1 rfl (lv_room (Nat.le_of_ble_eq_true rfl)) zd_R_takes_128 (fun na27 H locs hW hS => ?_)
      refine zr_if_ne (tgt := 142) C na27 zd_R_takes_131 (by decide) (fun c29 => ?_) (fun c29 => ?_)
      · rw [if_neg c29] at hf
        exact zw_R_takes_142 C hr hlk hK hSt hap    S28  hf _ _ _ hW hS (lv_sub hl [] rfl)
      · rw [if_pos c29] at hf
        refine lv_aload_n C.1 C.2.1 zd_R_takes_134 rfl (lv_at hl 0 rfl) ?_
        refine lv_iload_n C.1 C.2.1 zd_R_takes_135 rfl (lv_at hl 1 rfl) ?_
        obtain ⟨a30, S31, ea30, hf⟩ := zbd_some hf
        refine zcVi (As := [.int (zI (x1))]) (rest := []) C hK hSt hW hS (zc_R_takesTest hap x1 S28 nx1 ea30) zq_R_takesTest zk_669 (zrecv hK hW (zvd_3 (by decide) (by decide)) (ze_3_4 B _ (0)) rfl) ⟨rfl, rfl, by decide, by decide⟩ ⟨Nat.zero_le _, Nat.zero_le _⟩ rfl hl.1 rfl (lv_room (Nat.le_of_ble_eq_true rfl)) zd_R_takes_136 (fun na30 H locs hW hS => ?_)
        refine zr_if_eq (tgt := 146) C na30 zd_R_takes_139 (by decide) (fun c32 => ?_) (fun c32 => ?_)
        · rw [if_pos c32] at hf
          refine zr_iconst C zd_R_takes_146 ?_
          cases hf
          exact zre_z C hr hlk hK hW hS (znb rfl) (zb01 (by decide)) zd_R_takes_147
        · rw [if_neg c32] at hf
          exact zw_R_takes_142 C hr hlk hK hSt hap    S31  hf _ _ _ hW hS (lv_sub hl [] rfl)
  rw [if_neg c23] at hf
  by_cases c33 : v1 = 5
  · rw [if_pos c33] at hf
    refine zr_tab (off := 105) (tgt := 109) C nv1 zd_R_takes_4 (by omega) (by omega) (by rw [c33]; rfl) (by decide) ?_
    refine lv_aload_n C.1 C.2.1 zd_R_takes_109 rfl (lv_at hl 0 rfl) ?_
    refine lv_iload_n C.1 C.2.1 zd_R_takes_110 rfl (lv_at hl 1 rfl) ?_
    refine zr_bipush C zd_R_takes_111 (by decide) ?_
    obtain ⟨a34, S35, ea34, hf⟩ := zbd_some hf
    refine zcVi (As := [.int (zI (x1)), .int (zI (6))]) (rest := []) C hK hSt hW hS (zc_R_takesAtom hap x1 6 S nx1 (znb rfl) ea34) zq_R_takesAtom zk_643 (zrecv hK hW (zvd_3 (by decide) (by decide)) (ze_3_4 B _ (0)) rfl) ⟨rfl, rfl, by decide, by decide⟩ ⟨Nat.zero_le _, Nat.zero_le _⟩ rfl hl.1 rfl (lv_room (Nat.le_of_ble_eq_true rfl)) zd_R_takes_113 (fun na34 H locs hW hS => ?_)
    obtain ⟨h36, hf⟩ := zck_some hf
    cases hf
    exact zre_z C hr hlk hK hW hS na34 (zb01 h36) zd_R_takes_116
  rw [if_neg c33] at hf
  by_cases c37 : v1 = 6
  · rw [if_pos c37] at hf
    refine zr_tab (off := 144) (tgt := 148) C nv1 zd_R_takes_4 (by omega) (by omega) (by rw [c37]; rfl) (by decide) ?_
    refine lv_aload_n C.1 C.2.1 zd_R_takes_148 rfl (lv_at hl 0 rfl) ?_
    refine lv_iload_n C.1 C.2.1 zd_R_takes_149 rfl (lv_at hl 1 rfl) ?_
    obtain ⟨a38, S39, ea38, hf⟩ := zbd_some hf
    refine zcVi (As := [.int (zI (x1))]) (rest := []) C hK hSt hW hS (zc_R_takesDigit hap x1 S nx1 ea38) zq_R_takesDigit zk_654 (zrecv hK hW (zvd_3 (by decide) (by decide)) (ze_3_4 B _ (0)) rfl) ⟨rfl, rfl, by decide, by decide⟩ ⟨Nat.zero_le _, Nat.zero_le _⟩ rfl hl.1 rfl (lv_room (Nat.le_of_ble_eq_true rfl)) zd_R_takes_150 (fun na38 H locs hW hS => ?_)
    refine zr_if_ne (tgt := 173) C na38 zd_R_takes_153 (by decide) (fun c40 => ?_) (fun c40 => ?_)
    · rw [if_neg c40] at hf
      exact zw_R_takes_173 C hr hlk hK hSt hap    S39  hf _ _ _ hW hS (lv_sub hl [] rfl)
    · rw [if_pos c40] at hf
      refine lv_aload_n C.1 C.2.1 zd_R_takes_156 rfl (lv_at hl 0 rfl) ?_
      refine lv_iload_n C.1 C.2.1 zd_R_takes_157 rfl (lv_at hl 1 rfl) ?_
      refine zr_iconst C zd_R_takes_158 ?_
      obtain ⟨a41, S42, ea41, hf⟩ := zbd_some hf
      refine zcVi (As := [.int (zI (x1)), .int (zI (5))]) (rest := []) C hK hSt hW hS (zc_R_takesSign hap x1 5 S39 nx1 (znb rfl) ea41) zq_R_takesSign zk_658 (zrecv hK hW (zvd_3 (by decide) (by decide)) (ze_3_4 B _ (0)) rfl) ⟨rfl, rfl, by decide, by decide⟩ ⟨Nat.zero_le _, Nat.zero_le _⟩ rfl hl.1 rfl (lv_room (Nat.le_of_ble_eq_true rfl)) zd_R_takes_159 (fun na41 H locs hW hS => ?_)
      refine zr_if_ne (tgt := 173) C na41 zd_R_takes_162 (by decide) (fun c43 => ?_) (fun c43 => ?_)
      · rw [if_neg c43] at hf
        exact zw_R_takes_173 C hr hlk hK hSt hap    S42  hf _ _ _ hW hS (lv_sub hl [] rfl)
      · rw [if_pos c43] at hf
        refine lv_aload_n C.1 C.2.1 zd_R_takes_165 rfl (lv_at hl 0 rfl) ?_
        refine lv_iload_n C.1 C.2.1 zd_R_takes_166 rfl (lv_at hl 1 rfl) ?_
        obtain ⟨a44, S45, ea44, hf⟩ := zbd_some hf
        refine zcVi (As := [.int (zI (x1))]) (rest := []) C hK hSt hW hS (zc_R_takesJoint hap x1 S42 nx1 ea44) zq_R_takesJoint zk_673 (zrecv hK hW (zvd_3 (by decide) (by decide)) (ze_3_4 B _ (0)) rfl) ⟨rfl, rfl, by decide, by decide⟩ ⟨Nat.zero_le _, Nat.zero_le _⟩ rfl hl.1 rfl (lv_room (Nat.le_of_ble_eq_true rfl)) zd_R_takes_167 (fun na44 H locs hW hS => ?_)
        refine zr_if_eq (tgt := 177) C na44 zd_R_takes_170 (by decide) (fun c46 => ?_) (fun c46 => ?_)
        · rw [if_pos c46] at hf
          refine zr_iconst C zd_R_takes_177 ?_
          cases hf
          exact zre_z C hr hlk hK hW hS (znb rfl) (zb01 (by decide)) zd_R_takes_178
        · rw [if_neg c46] at hf
          exact zw_R_takes_173 C hr hlk hK hSt hap    S45  hf _ _ _ hW hS (lv_sub hl [] rfl)
  rw [if_neg c37] at hf
  refine zr_tabo (tgt := 179) C nv1 zd_R_takes_4 (by omega) (by decide) ?_
  refine lv_aload_n C.1 C.2.1 zd_R_takes_179 rfl (lv_at hl 0 rfl) ?_
  refine lv_iload_n C.1 C.2.1 zd_R_takes_180 rfl (lv_at hl 1 rfl) ?_
  obtain ⟨a47, S48, ea47, hf⟩ := zbd_some hf
  refine zcVi (As := [.int (zI (x1))]) (rest := []) C hK hSt hW hS (zc_R_takesJoint hap x1 S nx1 ea47) zq_R_takesJoint zk_673 (zrecv hK hW (zvd_3 (by decide) (by decide)) (ze_3_4 B _ (0)) rfl) ⟨rfl, rfl, by decide, by decide⟩ ⟨Nat.zero_le _, Nat.zero_le _⟩ rfl hl.1 rfl (lv_room (Nat.le_of_ble_eq_true rfl)) zd_R_takes_181 (fun na47 H locs hW hS => ?_)
  obtain ⟨h49, hf⟩ := zck_some hf
  cases hf
  exact zre_z C hr hlk hK hW hS na47 (zb01 h49) zd_R_takes_184

theorem zc_R_takes {l : Launch} {B : zB} (hap : zAp B) (x1 : Int) (S : Sg) (nx1 : zn x1) {res : Int} {S9 : Sg} (hf : zf_R_takes x1 S = some (res, S9)) : Met l zy_R_takes (Cond.code zy_R_takes zb_R_takes 2 (some .boolean) :: zT) zm_R_takes (zP B S [.ref (B.2.1 3 (0) (4)), .int (zI (x1))]) (zQi B res S9) 0 0 B.2.2.2 :=
  zmet (by decide) (Nat.le_of_ble_eq_true rfl) (fun p e s m args below meth c C hr hlk hK hSt hW ls hl => zw_R_takes C hr hlk hK hSt hap   x1 S nx1 hf _ _ _ hW va_S.rf hl)
