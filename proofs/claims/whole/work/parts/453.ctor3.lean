/-! ===== constructors of the class ===== -/
abbrev zy_I_init : MethodName := ⟨"IslandOffice$Island", "<init>", "([[I)V"⟩
abbrev zb_I_init : ByteArray := prog_4_method_1_code
theorem zd_I_init_0 : decode zb_I_init 0 = .ok (.aload_n 0, 1) := by decide +kernel
theorem zd_I_init_1 : decode zb_I_init 1 = .ok (.invokespecial 3, 3) := by decide +kernel
theorem zd_I_init_4 : decode zb_I_init 4 = .ok (.aload_n 0, 1) := by decide +kernel
theorem zd_I_init_5 : decode zb_I_init 5 = .ok (.iconst 0, 1) := by decide +kernel
theorem zd_I_init_6 : decode zb_I_init 6 = .ok (.putfield 9, 3) := by decide +kernel
theorem zd_I_init_9 : decode zb_I_init 9 = .ok (.aload_n 0, 1) := by decide +kernel
theorem zd_I_init_10 : decode zb_I_init 10 = .ok (.iconst 0, 1) := by decide +kernel
theorem zd_I_init_11 : decode zb_I_init 11 = .ok (.putfield 15, 3) := by decide +kernel
theorem zd_I_init_14 : decode zb_I_init 14 = .ok (.aload_n 0, 1) := by decide +kernel
theorem zd_I_init_15 : decode zb_I_init 15 = .ok (.iconst 0, 1) := by decide +kernel
theorem zd_I_init_16 : decode zb_I_init 16 = .ok (.putfield 18, 3) := by decide +kernel
theorem zd_I_init_19 : decode zb_I_init 19 = .ok (.aload_n 0, 1) := by decide +kernel
theorem zd_I_init_20 : decode zb_I_init 20 = .ok (.iconst 0, 1) := by decide +kernel
theorem zd_I_init_21 : decode zb_I_init 21 = .ok (.putfield 21, 3) := by decide +kernel
theorem zd_I_init_24 : decode zb_I_init 24 = .ok (.aload_n 0, 1) := by decide +kernel
theorem zd_I_init_25 : decode zb_I_init 25 = .ok (.bipush 100, 2) := by decide +kernel
theorem zd_I_init_27 : decode zb_I_init 27 = .ok (.putfield 24, 3) := by decide +kernel
theorem zd_I_init_30 : decode zb_I_init 30 = .ok (.aload_n 0, 1) := by decide +kernel
theorem zd_I_init_31 : decode zb_I_init 31 = .ok (.bipush 21, 2) := by decide +kernel
theorem zd_I_init_33 : decode zb_I_init 33 = .ok (.putfield 27, 3) := by decide +kernel
theorem zd_I_init_36 : decode zb_I_init 36 = .ok (.aload_n 0, 1) := by decide +kernel
theorem zd_I_init_37 : decode zb_I_init 37 = .ok (.iconst (-1), 1) := by decide +kernel
theorem zd_I_init_38 : decode zb_I_init 38 = .ok (.putfield 30, 3) := by decide +kernel
theorem zd_I_init_41 : decode zb_I_init 41 = .ok (.aload_n 0, 1) := by decide +kernel
theorem zd_I_init_42 : decode zb_I_init 42 = .ok (.iconst 4, 1) := by decide +kernel
theorem zd_I_init_43 : decode zb_I_init 43 = .ok (.newarray .int, 2) := by decide +kernel
theorem zd_I_init_45 : decode zb_I_init 45 = .ok (.putfield 33, 3) := by decide +kernel
theorem zd_I_init_48 : decode zb_I_init 48 = .ok (.iconst 0, 1) := by decide +kernel
theorem zd_I_init_49 : decode zb_I_init 49 = .ok (.istore_n 2, 1) := by decide +kernel
theorem zd_I_init_50 : decode zb_I_init 50 = .ok (.iload_n 2, 1) := by decide +kernel
theorem zd_I_init_51 : decode zb_I_init 51 = .ok (.iconst 4, 1) := by decide +kernel
theorem zd_I_init_52 : decode zb_I_init 52 = .ok (.if_icmp .ge 20, 3) := by decide +kernel
theorem zd_I_init_55 : decode zb_I_init 55 = .ok (.aload_n 0, 1) := by decide +kernel
theorem zd_I_init_56 : decode zb_I_init 56 = .ok (.getfield 33, 3) := by decide +kernel
theorem zd_I_init_59 : decode zb_I_init 59 = .ok (.iload_n 2, 1) := by decide +kernel
theorem zd_I_init_60 : decode zb_I_init 60 = .ok (.getstatic 37, 3) := by decide +kernel
theorem zd_I_init_63 : decode zb_I_init 63 = .ok (.iload_n 2, 1) := by decide +kernel
theorem zd_I_init_64 : decode zb_I_init 64 = .ok (.iaload, 1) := by decide +kernel
theorem zd_I_init_65 : decode zb_I_init 65 = .ok (.iastore, 1) := by decide +kernel
theorem zd_I_init_66 : decode zb_I_init 66 = .ok (.iinc 2 1, 3) := by decide +kernel
theorem zd_I_init_69 : decode zb_I_init 69 = .ok (.goto (-19), 3) := by decide +kernel
theorem zd_I_init_72 : decode zb_I_init 72 = .ok (.aload_n 0, 1) := by decide +kernel
theorem zd_I_init_73 : decode zb_I_init 73 = .ok (.bipush 12, 2) := by decide +kernel
theorem zd_I_init_75 : decode zb_I_init 75 = .ok (.newarray .int, 2) := by decide +kernel
theorem zd_I_init_77 : decode zb_I_init 77 = .ok (.putfield 40, 3) := by decide +kernel
theorem zd_I_init_80 : decode zb_I_init 80 = .ok (.aload_n 0, 1) := by decide +kernel
theorem zd_I_init_81 : decode zb_I_init 81 = .ok (.bipush 12, 2) := by decide +kernel
theorem zd_I_init_83 : decode zb_I_init 83 = .ok (.newarray .int, 2) := by decide +kernel
theorem zd_I_init_85 : decode zb_I_init 85 = .ok (.putfield 43, 3) := by decide +kernel
theorem zd_I_init_88 : decode zb_I_init 88 = .ok (.aload_n 0, 1) := by decide +kernel
theorem zd_I_init_89 : decode zb_I_init 89 = .ok (.bipush 12, 2) := by decide +kernel
theorem zd_I_init_91 : decode zb_I_init 91 = .ok (.newarray .int, 2) := by decide +kernel
theorem zd_I_init_93 : decode zb_I_init 93 = .ok (.putfield 46, 3) := by decide +kernel
theorem zd_I_init_96 : decode zb_I_init 96 = .ok (.aload_n 0, 1) := by decide +kernel
theorem zd_I_init_97 : decode zb_I_init 97 = .ok (.bipush 12, 2) := by decide +kernel
theorem zd_I_init_99 : decode zb_I_init 99 = .ok (.newarray .int, 2) := by decide +kernel
theorem zd_I_init_101 : decode zb_I_init 101 = .ok (.putfield 49, 3) := by decide +kernel
theorem zd_I_init_104 : decode zb_I_init 104 = .ok (.aload_n 0, 1) := by decide +kernel
theorem zd_I_init_105 : decode zb_I_init 105 = .ok (.getfield 43, 3) := by decide +kernel
theorem zd_I_init_108 : decode zb_I_init 108 = .ok (.bipush 20, 2) := by decide +kernel
theorem zd_I_init_110 : decode zb_I_init 110 = .ok (.invokestatic 52, 3) := by decide +kernel
theorem zd_I_init_113 : decode zb_I_init 113 = .ok (.aload_n 0, 1) := by decide +kernel
theorem zd_I_init_114 : decode zb_I_init 114 = .ok (.getfield 46, 3) := by decide +kernel
theorem zd_I_init_117 : decode zb_I_init 117 = .ok (.iconst 3, 1) := by decide +kernel
theorem zd_I_init_118 : decode zb_I_init 118 = .ok (.invokestatic 52, 3) := by decide +kernel
theorem zd_I_init_121 : decode zb_I_init 121 = .ok (.aload_n 0, 1) := by decide +kernel
theorem zd_I_init_122 : decode zb_I_init 122 = .ok (.new 58, 3) := by decide +kernel
theorem zd_I_init_125 : decode zb_I_init 125 = .ok (.dup, 1) := by decide +kernel
theorem zd_I_init_126 : decode zb_I_init 126 = .ok (.invokespecial 60, 3) := by decide +kernel
theorem zd_I_init_129 : decode zb_I_init 129 = .ok (.putfield 61, 3) := by decide +kernel
theorem zd_I_init_132 : decode zb_I_init 132 = .ok (.aload_n 0, 1) := by decide +kernel
theorem zd_I_init_133 : decode zb_I_init 133 = .ok (.new 65, 3) := by decide +kernel
theorem zd_I_init_136 : decode zb_I_init 136 = .ok (.dup, 1) := by decide +kernel
theorem zd_I_init_137 : decode zb_I_init 137 = .ok (.aload_n 1, 1) := by decide +kernel
theorem zd_I_init_138 : decode zb_I_init 138 = .ok (.invokespecial 67, 3) := by decide +kernel
theorem zd_I_init_141 : decode zb_I_init 141 = .ok (.putfield 70, 3) := by decide +kernel
theorem zd_I_init_144 : decode zb_I_init 144 = .ok (.aload_n 0, 1) := by decide +kernel
theorem zd_I_init_145 : decode zb_I_init 145 = .ok (.new 74, 3) := by decide +kernel
theorem zd_I_init_148 : decode zb_I_init 148 = .ok (.dup, 1) := by decide +kernel
theorem zd_I_init_149 : decode zb_I_init 149 = .ok (.invokespecial 76, 3) := by decide +kernel
theorem zd_I_init_152 : decode zb_I_init 152 = .ok (.putfield 77, 3) := by decide +kernel
theorem zd_I_init_155 : decode zb_I_init 155 = .ok (.aload_n 0, 1) := by decide +kernel
theorem zd_I_init_156 : decode zb_I_init 156 = .ok (.new 81, 3) := by decide +kernel
theorem zd_I_init_159 : decode zb_I_init 159 = .ok (.dup, 1) := by decide +kernel
theorem zd_I_init_160 : decode zb_I_init 160 = .ok (.invokespecial 83, 3) := by decide +kernel
theorem zd_I_init_163 : decode zb_I_init 163 = .ok (.putfield 84, 3) := by decide +kernel
theorem zd_I_init_166 : decode zb_I_init 166 = .ok (.aload_n 0, 1) := by decide +kernel
theorem zd_I_init_167 : decode zb_I_init 167 = .ok (.new 88, 3) := by decide +kernel
theorem zd_I_init_170 : decode zb_I_init 170 = .ok (.dup, 1) := by decide +kernel
theorem zd_I_init_171 : decode zb_I_init 171 = .ok (.invokespecial 90, 3) := by decide +kernel
theorem zd_I_init_174 : decode zb_I_init 174 = .ok (.putfield 91, 3) := by decide +kernel
theorem zd_I_init_177 : decode zb_I_init 177 = .ok (.aload_n 0, 1) := by decide +kernel
theorem zd_I_init_178 : decode zb_I_init 178 = .ok (.new 88, 3) := by decide +kernel
theorem zd_I_init_181 : decode zb_I_init 181 = .ok (.dup, 1) := by decide +kernel
theorem zd_I_init_182 : decode zb_I_init 182 = .ok (.invokespecial 90, 3) := by decide +kernel
theorem zd_I_init_185 : decode zb_I_init 185 = .ok (.putfield 95, 3) := by decide +kernel
theorem zd_I_init_188 : decode zb_I_init 188 = .ok (.return_, 1) := by decide +kernel
theorem zdv_I : ∀ j, j < 18 → defaultValue (zt_I j) = vp_V [.int 0, .int 0, .int 0, .int 0, .int 0, .int 0, .int 0, .null, .null, .null, .null, .null, .null, .null, .null, .null, .null, .null] j := by
  intro j hj
  rcases (show j = 0 ∨ j = 1 ∨ j = 2 ∨ j = 3 ∨ j = 4 ∨ j = 5 ∨ j = 6 ∨ j = 7 ∨ j = 8 ∨ j = 9 ∨ j = 10 ∨ j = 11 ∨ j = 12 ∨ j = 13 ∨ j = 14 ∨ j = 15 ∨ j = 16 ∨ j = 17 by omega) with rfl | rfl | rfl | rfl | rfl | rfl | rfl | rfl | rfl | rfl | rfl | rfl | rfl | rfl | rfl | rfl | rfl | rfl <;> rfl
abbrev zm_iI : Room := { frames := 2, cells := 40, slots := 902, locals := 87 }
def ww_I (B : zB) (h0 : Nat) (p1 : Nat) (q : (Nat → Nat) × (Nat → Nat) × (Nat → Nat) × (Nat → Nat) × (Nat → Nat) × (Nat → Nat) × (Nat → Nat)) : va_W := (h0, .inr (3, [.int (zI (0)), .int (zI (0)), .int (zI (0)), .int (zI (0)), .int (zI (100)), .int (zI (21)), .int (zI (-1)), .ref (q.1 0), .ref (q.1 1), .ref (q.1 2), .ref (q.1 3), .ref (q.1 4), .ref (q.1 5), .ref (q.1 6), .ref (q.1 7), .ref (q.1 8), .ref (q.1 9), .ref (q.1 10)])) :: ((ww_Y B (q.1 10) q.2.2.2.2.2.2) ++ ((ww_Y B (q.1 9) q.2.2.2.2.2.1) ++ ((ww_T B (q.1 8) q.2.2.2.2.1) ++ ((ww_Q B (q.1 7) q.2.2.2.1) ++ ((ww_L B (q.1 6) p1 q.2.2.1) ++ ((ww_P B (q.1 5) q.2.1) ++ (((q.1 4), e0 B 12) :: (((q.1 3), ei B 12 (fun _ => zI (3))) :: (((q.1 2), ei B 12 (fun _ => zI (20))) :: (((q.1 1), e0 B 12) :: (((q.1 0), ei B 4 (upd (upd (upd (upd (fun _ => 0) 0 (zI (60))) 1 (zI (50))) 2 (zI (10))) 3 (zI (12)))) :: ([]))))))))))))
set_option maxHeartbeats 4000000 in
set_option maxRecDepth 100000 in
theorem zin_I {l : Launch} {B : zB} (h0 : Nat) (p1 : Nat) (sz : Nat) (hB : ∀ q, va_A [(h0, .inr (3, [.int 0, .int 0, .int 0, .int 0, .int 0, .int 0, .int 0, .null, .null, .null, .null, .null, .null, .null, .null, .null, .null, .null]))] sz q → B.2.2.2 q) : Met l zy_I_init (Cond.code zy_I_init zb_I_init 3 none :: zT) zm_iI (va_Pc [.ref h0, .ref p1] (zPi B [(h0, .inr (3, [.int 0, .int 0, .int 0, .int 0, .int 0, .int 0, .int 0, .null, .null, .null, .null, .null, .null, .null, .null, .null, .null, .null]))] sz)) (zQc B [(h0, .inr (3, [.int 0, .int 0, .int 0, .int 0, .int 0, .int 0, .int 0, .null, .null, .null, .null, .null, .null, .null, .null, .null, .null, .null]))] sz (ww_I B h0 p1)) 40 902 (va_A [(h0, .inr (3, [.int 0, .int 0, .int 0, .int 0, .int 0, .int 0, .int 0, .null, .null, .null, .null, .null, .null, .null, .null, .null, .null, .null]))] sz) := by
  refine zmeti (by decide) (Nat.le_of_ble_eq_true rfl) (fun p e s m args below meth c C hr hlk hnm hsz hP hD hS hK hX hst hA ls hl => ?_)
  have hAB := hB
  subst hsz
  generalize hAe : va_A [(h0, .inr (3, [.int 0, .int 0, .int 0, .int 0, .int 0, .int 0, .int 0, .null, .null, .null, .null, .null, .null, .null, .null, .null, .null, .null]))] s.heap.size = A at *
  have hl : lv_has ls 3 [(0, .ref h0), (1, .ref p1)] := hl
  have hP : va_P B.1 zcl ([(h0, .inr (3, [.int 0, .int 0, .int 0, .int 0, .int 0, .int 0, .int 0, .null, .null, .null, .null, .null, .null, .null, .null, .null, .null, .null]))] ++ []) s.heap := hP
  have hD : va_D A ([(h0, .inr (3, [.int 0, .int 0, .int 0, .int 0, .int 0, .int 0, .int 0, .null, .null, .null, .null, .null, .null, .null, .null, .null, .null, .null]))] ++ []) := hD
  refine lv_aload_n C.1 C.2.1 zd_I_init_0 rfl (lv_at hl 0 rfl) ?_
  refine zo_obj C zk_40 zk_31 zk_32 hl.1 zd_I_init_1 (Nat.le_of_ble_eq_true rfl) (Nat.le_of_ble_eq_true rfl) ?_
  refine lv_aload_n C.1 C.2.1 zd_I_init_4 rfl (lv_at hl 0 rfl) ?_
  refine zr_iconst C zd_I_init_5 ?_
  refine va_put (ci := 3) (v := .int (zI (0))) (ty := zt_I 0) (C := zR_I) (T := zF_I) (N := 18) C.1 C.2.1 C.2.2.2.2 zh_I zt_I zt_I_ok zn_I C.2.2.2.1 hK hP hD hS 0 rfl rfl 0 (by decide) (C.2.2.2.2 _ zk_239) (fun _ h9 => h9) rfl (zt_I_ok 0 (by decide)) rfl rfl (Nat.le_of_ble_eq_true rfl) zd_I_init_6 (fun H locs hP hD hS => ?_)
  replace hP := zset_P (P2 := [(h0, .inr (3, [.int (zI (0)), .int 0, .int 0, .int 0, .int 0, .int 0, .int 0, .null, .null, .null, .null, .null, .null, .null, .null, .null, .null, .null]))]) (fun _ => rfl) hP
  replace hD := zset_D (P2 := [(h0, .inr (3, [.int (zI (0)), .int 0, .int 0, .int 0, .int 0, .int 0, .int 0, .null, .null, .null, .null, .null, .null, .null, .null, .null, .null, .null]))]) (fun _ => rfl) hD
  refine lv_aload_n C.1 C.2.1 zd_I_init_9 rfl (lv_at hl 0 rfl) ?_
  refine zr_iconst C zd_I_init_10 ?_
  refine va_put (ci := 3) (v := .int (zI (0))) (ty := zt_I 1) (C := zR_I) (T := zF_I) (N := 18) C.1 C.2.1 C.2.2.2.2 zh_I zt_I zt_I_ok zn_I C.2.2.2.1 hK hP hD hS 0 rfl rfl 1 (by decide) (C.2.2.2.2 _ zk_244) (fun _ h9 => h9) rfl (zt_I_ok 1 (by decide)) rfl rfl (Nat.le_of_ble_eq_true rfl) zd_I_init_11 (fun H locs hP hD hS => ?_)
  replace hP := zset_P (P2 := [(h0, .inr (3, [.int (zI (0)), .int (zI (0)), .int 0, .int 0, .int 0, .int 0, .int 0, .null, .null, .null, .null, .null, .null, .null, .null, .null, .null, .null]))]) (fun _ => rfl) hP
  replace hD := zset_D (P2 := [(h0, .inr (3, [.int (zI (0)), .int (zI (0)), .int 0, .int 0, .int 0, .int 0, .int 0, .null, .null, .null, .null, .null, .null, .null, .null, .null, .null, .null]))]) (fun _ => rfl) hD
  refine lv_aload_n C.1 C.2.1 zd_I_init_14 rfl (lv_at hl 0 rfl) ?_
  refine zr_iconst C zd_I_init_15 ?_
  refine va_put (ci := 3) (v := .int (zI (0))) (ty := zt_I 2) (C := zR_I) (T := zF_I) (N := 18) C.1 C.2.1 C.2.2.2.2 zh_I zt_I zt_I_ok zn_I C.2.2.2.1 hK hP hD hS 0 rfl rfl 2 (by decide) (C.2.2.2.2 _ zk_247) (fun _ h9 => h9) rfl (zt_I_ok 2 (by decide)) rfl rfl (Nat.le_of_ble_eq_true rfl) zd_I_init_16 (fun H locs hP hD hS => ?_)
  replace hP := zset_P (P2 := [(h0, .inr (3, [.int (zI (0)), .int (zI (0)), .int (zI (0)), .int 0, .int 0, .int 0, .int 0, .null, .null, .null, .null, .null, .null, .null, .null, .null, .null, .null]))]) (fun _ => rfl) hP
  replace hD := zset_D (P2 := [(h0, .inr (3, [.int (zI (0)), .int (zI (0)), .int (zI (0)), .int 0, .int 0, .int 0, .int 0, .null, .null, .null, .null, .null, .null, .null, .null, .null, .null, .null]))]) (fun _ => rfl) hD
  refine lv_aload_n C.1 C.2.1 zd_I_init_19 rfl (lv_at hl 0 rfl) ?_
  refine zr_iconst C zd_I_init_20 ?_
  refine va_put (ci := 3) (v := .int (zI (0))) (ty := zt_I 3) (C := zR_I) (T := zF_I) (N := 18) C.1 C.2.1 C.2.2.2.2 zh_I zt_I zt_I_ok zn_I C.2.2.2.1 hK hP hD hS 0 rfl rfl 3 (by decide) (C.2.2.2.2 _ zk_250) (fun _ h9 => h9) rfl (zt_I_ok 3 (by decide)) rfl rfl (Nat.le_of_ble_eq_true rfl) zd_I_init_21 (fun H locs hP hD hS => ?_)
  replace hP := zset_P (P2 := [(h0, .inr (3, [.int (zI (0)), .int (zI (0)), .int (zI (0)), .int (zI (0)), .int 0, .int 0, .int 0, .null, .null, .null, .null, .null, .null, .null, .null, .null, .null, .null]))]) (fun _ => rfl) hP
  replace hD := zset_D (P2 := [(h0, .inr (3, [.int (zI (0)), .int (zI (0)), .int (zI (0)), .int (zI (0)), .int 0, .int 0, .int 0, .null, .null, .null, .null, .null, .null, .null, .null, .null, .null, .null]))]) (fun _ => rfl) hD
  refine lv_aload_n C.1 C.2.1 zd_I_init_24 rfl (lv_at hl 0 rfl) ?_
  refine zr_bipush C zd_I_init_25 (by decide) ?_
  refine va_put (ci := 3) (v := .int (zI (100))) (ty := zt_I 4) (C := zR_I) (T := zF_I) (N := 18) C.1 C.2.1 C.2.2.2.2 zh_I zt_I zt_I_ok zn_I C.2.2.2.1 hK hP hD hS 0 rfl rfl 4 (by decide) (C.2.2.2.2 _ zk_253) (fun _ h9 => h9) rfl (zt_I_ok 4 (by decide)) rfl rfl (Nat.le_of_ble_eq_true rfl) zd_I_init_27 (fun H locs hP hD hS => ?_)
  replace hP := zset_P (P2 := [(h0, .inr (3, [.int (zI (0)), .int (zI (0)), .int (zI (0)), .int (zI (0)), .int (zI (100)), .int 0, .int 0, .null, .null, .null, .null, .null, .null, .null, .null, .null, .null, .null]))]) (fun _ => rfl) hP
  replace hD := zset_D (P2 := [(h0, .inr (3, [.int (zI (0)), .int (zI (0)), .int (zI (0)), .int (zI (0)), .int (zI (100)), .int 0, .int 0, .null, .null, .null, .null, .null, .null, .null, .null, .null, .null, .null]))]) (fun _ => rfl) hD
  refine lv_aload_n C.1 C.2.1 zd_I_init_30 rfl (lv_at hl 0 rfl) ?_
  refine zr_bipush C zd_I_init_31 (by decide) ?_
  refine va_put (ci := 3) (v := .int (zI (21))) (ty := zt_I 5) (C := zR_I) (T := zF_I) (N := 18) C.1 C.2.1 C.2.2.2.2 zh_I zt_I zt_I_ok zn_I C.2.2.2.1 hK hP hD hS 0 rfl rfl 5 (by decide) (C.2.2.2.2 _ zk_256) (fun _ h9 => h9) rfl (zt_I_ok 5 (by decide)) rfl rfl (Nat.le_of_ble_eq_true rfl) zd_I_init_33 (fun H locs hP hD hS => ?_)
  replace hP := zset_P (P2 := [(h0, .inr (3, [.int (zI (0)), .int (zI (0)), .int (zI (0)), .int (zI (0)), .int (zI (100)), .int (zI (21)), .int 0, .null, .null, .null, .null, .null, .null, .null, .null, .null, .null, .null]))]) (fun _ => rfl) hP
  replace hD := zset_D (P2 := [(h0, .inr (3, [.int (zI (0)), .int (zI (0)), .int (zI (0)), .int (zI (0)), .int (zI (100)), .int (zI (21)), .int 0, .null, .null, .null, .null, .null, .null, .null, .null, .null, .null, .null]))]) (fun _ => rfl) hD
  refine lv_aload_n C.1 C.2.1 zd_I_init_36 rfl (lv_at hl 0 rfl) ?_
  refine zr_iconst C zd_I_init_37 ?_
  refine va_put (ci := 3) (v := .int (zI (-1))) (ty := zt_I 6) (C := zR_I) (T := zF_I) (N := 18) C.1 C.2.1 C.2.2.2.2 zh_I zt_I zt_I_ok zn_I C.2.2.2.1 hK hP hD hS 0 rfl rfl 6 (by decide) (C.2.2.2.2 _ zk_259) (fun _ h9 => h9) rfl (zt_I_ok 6 (by decide)) rfl rfl (Nat.le_of_ble_eq_true rfl) zd_I_init_38 (fun H locs hP hD hS => ?_)
  replace hP := zset_P (P2 := [(h0, .inr (3, [.int (zI (0)), .int (zI (0)), .int (zI (0)), .int (zI (0)), .int (zI (100)), .int (zI (21)), .int (zI (-1)), .null, .null, .null, .null, .null, .null, .null, .null, .null, .null, .null]))]) (fun _ => rfl) hP
  replace hD := zset_D (P2 := [(h0, .inr (3, [.int (zI (0)), .int (zI (0)), .int (zI (0)), .int (zI (0)), .int (zI (100)), .int (zI (21)), .int (zI (-1)), .null, .null, .null, .null, .null, .null, .null, .null, .null, .null, .null]))]) (fun _ => rfl) hD
  refine lv_aload_n C.1 C.2.1 zd_I_init_41 rfl (lv_at hl 0 rfl) ?_
  refine zr_iconst C zd_I_init_42 ?_
  refine zi_newi (N := 4) C hK hP hD hS hA rfl (by decide) (Nat.le_of_ble_eq_true rfl) (Nat.le_of_ble_eq_true rfl) zk_108 zd_I_init_43 (fun q43_0 H hP hD hS => ?_)
  refine W.widen (k := 1) (n := 4) (Nat.le_of_ble_eq_true rfl) (Nat.le_of_ble_eq_true rfl) ?_
  refine va_putF (ci := 3) (v := .ref q43_0) (ty := zt_I 7) (C := zR_I) (T := zF_I) (N := 18) C.1 C.2.1 C.2.2.2.2 zh_I zt_I zt_I_ok zn_I C.2.2.2.1 hK hP hD hS 0 rfl rfl 7 (by decide) (C.2.2.2.2 _ zk_262) (fun _ h9 => h9) rfl hnm rfl (zt_I_ok 7 (by decide)) rfl rfl (Nat.le_of_ble_eq_true rfl) zd_I_init_45 (fun H locs hP hD hS => ?_)
  replace hP := zset_P (P2 := [(h0, .inr (3, [.int (zI (0)), .int (zI (0)), .int (zI (0)), .int (zI (0)), .int (zI (100)), .int (zI (21)), .int (zI (-1)), .ref q43_0, .null, .null, .null, .null, .null, .null, .null, .null, .null, .null]))]) (fun _ => rfl) hP
  replace hD := zset_D (P2 := [(h0, .inr (3, [.int (zI (0)), .int (zI (0)), .int (zI (0)), .int (zI (0)), .int (zI (100)), .int (zI (21)), .int (zI (-1)), .ref q43_0, .null, .null, .null, .null, .null, .null, .null, .null, .null, .null]))]) (fun _ => rfl) hD
  refine zr_iconst C zd_I_init_48 ?_
  refine lv_istore_n (lv' := [(2, .int (zI (0))), (0, .ref h0), (1, .ref p1)]) C.1 C.2.1 zd_I_init_49 rfl hl (by decide) rfl (fun ls hl => ?_)
  refine lv_iload_n C.1 C.2.1 zd_I_init_50 rfl (lv_at hl 0 rfl) ?_
  refine zr_iconst C zd_I_init_51 ?_
  refine zr_icmp_ge (tgt := 72) C (znb rfl) (znb rfl) zd_I_init_52 (by decide) (fun h => absurd h (by decide)) (fun _ => ?_)
  refine lv_aload_n C.1 C.2.1 zd_I_init_55 rfl (lv_at hl 1 rfl) ?_
  refine va_get (ci := 3) (v := .ref q43_0) (C := zR_I) (T := zF_I) (N := 18) C.1 C.2.1 C.2.2.2.2 zh_I C.2.2.2.1 hK hP 0 rfl rfl 7 (by decide) (C.2.2.2.2 _ zk_262) (fun _ h9 => h9) rfl zd_I_init_56 ?_
  refine lv_iload_n C.1 C.2.1 zd_I_init_59 rfl (lv_at hl 0 rfl) ?_
  refine zi_stat C hX hst hS hAB rfl zd_I_init_60 (fun t60_52 ht => ?_)
  refine lv_iload_n C.1 C.2.1 zd_I_init_63 rfl (lv_at hl 0 rfl) ?_
  refine va_ti (v := .int (zI (60))) C.1 C.2.1 ht hS (zvp (n := 4) ⟨by decide, by decide⟩ (znb rfl)) rfl zd_I_init_64 ?_
  have hP : va_P B.1 zcl ([(h0, .inr (3, [.int (zI (0)), .int (zI (0)), .int (zI (0)), .int (zI (0)), .int (zI (100)), .int (zI (21)), .int (zI (-1)), .ref q43_0, .null, .null, .null, .null, .null, .null, .null, .null, .null, .null])), (q43_0, e0 B 4)] ++ _) H := hP
  have hD : va_D A ([(h0, .inr (3, [.int (zI (0)), .int (zI (0)), .int (zI (0)), .int (zI (0)), .int (zI (100)), .int (zI (21)), .int (zI (-1)), .ref q43_0, .null, .null, .null, .null, .null, .null, .null, .null, .null, .null])), (q43_0, e0 B 4)] ++ _) := hD
  refine va_iast C.1 C.2.1 hK hP hD hS 1 0 rfl rfl (i := zI (0)) (x := zI (60)) (zvp (n := 4) ⟨by decide, by decide⟩ (znb rfl)) zd_I_init_65 (fun H locs hP hD hS => ?_)
  replace hP := zset_P (P2 := [(h0, .inr (3, [.int (zI (0)), .int (zI (0)), .int (zI (0)), .int (zI (0)), .int (zI (100)), .int (zI (21)), .int (zI (-1)), .ref q43_0, .null, .null, .null, .null, .null, .null, .null, .null, .null, .null])), (q43_0, ei B 4 (upd (fun _ => 0) 0 (zI (60))))]) (fun _ => rfl) hP
  replace hD := zset_D (P2 := [(h0, .inr (3, [.int (zI (0)), .int (zI (0)), .int (zI (0)), .int (zI (0)), .int (zI (100)), .int (zI (21)), .int (zI (-1)), .ref q43_0, .null, .null, .null, .null, .null, .null, .null, .null, .null, .null])), (q43_0, ei B 4 (upd (fun _ => 0) 0 (zI (60))))]) (fun _ => rfl) hD
  have hP : va_P B.1 zcl ([(h0, .inr (3, [.int (zI (0)), .int (zI (0)), .int (zI (0)), .int (zI (0)), .int (zI (100)), .int (zI (21)), .int (zI (-1)), .ref q43_0, .null, .null, .null, .null, .null, .null, .null, .null, .null, .null]))] ++ _) H := hP
  have hD : va_D A ([(h0, .inr (3, [.int (zI (0)), .int (zI (0)), .int (zI (0)), .int (zI (0)), .int (zI (100)), .int (zI (21)), .int (zI (-1)), .ref q43_0, .null, .null, .null, .null, .null, .null, .null, .null, .null, .null]))] ++ _) := hD
  refine lv_iinc (v := zI (1)) (lv' := [(2, .int (zI (1))), (0, .ref h0), (1, .ref p1)]) C.1 C.2.1 zd_I_init_66 hl (k := 0) rfl (by decide +kernel) (by decide) rfl (fun ls hl => ?_)
  refine lv_goto (tgt := 50) C.1 C.2.1 zd_I_init_69 (by decide) ?_
  refine lv_iload_n C.1 C.2.1 zd_I_init_50 rfl (lv_at hl 0 rfl) ?_
  refine zr_iconst C zd_I_init_51 ?_
  refine zr_icmp_ge (tgt := 72) C (znb rfl) (znb rfl) zd_I_init_52 (by decide) (fun h => absurd h (by decide)) (fun _ => ?_)
  refine lv_aload_n C.1 C.2.1 zd_I_init_55 rfl (lv_at hl 1 rfl) ?_
  refine va_get (ci := 3) (v := .ref q43_0) (C := zR_I) (T := zF_I) (N := 18) C.1 C.2.1 C.2.2.2.2 zh_I C.2.2.2.1 hK hP 0 rfl rfl 7 (by decide) (C.2.2.2.2 _ zk_262) (fun _ h9 => h9) rfl zd_I_init_56 ?_
  refine lv_iload_n C.1 C.2.1 zd_I_init_59 rfl (lv_at hl 0 rfl) ?_
  refine zi_stat C hX hst hS hAB rfl zd_I_init_60 (fun t60_70 ht => ?_)
  refine lv_iload_n C.1 C.2.1 zd_I_init_63 rfl (lv_at hl 0 rfl) ?_
  refine va_ti (v := .int (zI (50))) C.1 C.2.1 ht hS (zvp (n := 4) ⟨by decide, by decide⟩ (znb rfl)) rfl zd_I_init_64 ?_
  have hP : va_P B.1 zcl ([(h0, .inr (3, [.int (zI (0)), .int (zI (0)), .int (zI (0)), .int (zI (0)), .int (zI (100)), .int (zI (21)), .int (zI (-1)), .ref q43_0, .null, .null, .null, .null, .null, .null, .null, .null, .null, .null])), (q43_0, ei B 4 (upd (fun _ => 0) 0 (zI (60))))] ++ _) H := hP
  have hD : va_D A ([(h0, .inr (3, [.int (zI (0)), .int (zI (0)), .int (zI (0)), .int (zI (0)), .int (zI (100)), .int (zI (21)), .int (zI (-1)), .ref q43_0, .null, .null, .null, .null, .null, .null, .null, .null, .null, .null])), (q43_0, ei B 4 (upd (fun _ => 0) 0 (zI (60))))] ++ _) := hD
  refine va_iast C.1 C.2.1 hK hP hD hS 1 0 rfl rfl (i := zI (1)) (x := zI (50)) (zvp (n := 4) ⟨by decide, by decide⟩ (znb rfl)) zd_I_init_65 (fun H locs hP hD hS => ?_)
  replace hP := zset_P (P2 := [(h0, .inr (3, [.int (zI (0)), .int (zI (0)), .int (zI (0)), .int (zI (0)), .int (zI (100)), .int (zI (21)), .int (zI (-1)), .ref q43_0, .null, .null, .null, .null, .null, .null, .null, .null, .null, .null])), (q43_0, ei B 4 (upd (upd (fun _ => 0) 0 (zI (60))) 1 (zI (50))))]) (fun _ => rfl) hP
  replace hD := zset_D (P2 := [(h0, .inr (3, [.int (zI (0)), .int (zI (0)), .int (zI (0)), .int (zI (0)), .int (zI (100)), .int (zI (21)), .int (zI (-1)), .ref q43_0, .null, .null, .null, .null, .null, .null, .null, .null, .null, .null])), (q43_0, ei B 4 (upd (upd (fun _ => 0) 0 (zI (60))) 1 (zI (50))))]) (fun _ => rfl) hD
  have hP : va_P B.1 zcl ([(h0, .inr (3, [.int (zI (0)), .int (zI (0)), .int (zI (0)), .int (zI (0)), .int (zI (100)), .int (zI (21)), .int (zI (-1)), .ref q43_0, .null, .null, .null, .null, .null, .null, .null, .null, .null, .null]))] ++ _) H := hP
  have hD : va_D A ([(h0, .inr (3, [.int (zI (0)), .int (zI (0)), .int (zI (0)), .int (zI (0)), .int (zI (100)), .int (zI (21)), .int (zI (-1)), .ref q43_0, .null, .null, .null, .null, .null, .null, .null, .null, .null, .null]))] ++ _) := hD
  refine lv_iinc (v := zI (2)) (lv' := [(2, .int (zI (2))), (0, .ref h0), (1, .ref p1)]) C.1 C.2.1 zd_I_init_66 hl (k := 0) rfl (by decide +kernel) (by decide) rfl (fun ls hl => ?_)
  refine lv_goto (tgt := 50) C.1 C.2.1 zd_I_init_69 (by decide) ?_
  refine lv_iload_n C.1 C.2.1 zd_I_init_50 rfl (lv_at hl 0 rfl) ?_
  refine zr_iconst C zd_I_init_51 ?_
  refine zr_icmp_ge (tgt := 72) C (znb rfl) (znb rfl) zd_I_init_52 (by decide) (fun h => absurd h (by decide)) (fun _ => ?_)
  refine lv_aload_n C.1 C.2.1 zd_I_init_55 rfl (lv_at hl 1 rfl) ?_
  refine va_get (ci := 3) (v := .ref q43_0) (C := zR_I) (T := zF_I) (N := 18) C.1 C.2.1 C.2.2.2.2 zh_I C.2.2.2.1 hK hP 0 rfl rfl 7 (by decide) (C.2.2.2.2 _ zk_262) (fun _ h9 => h9) rfl zd_I_init_56 ?_
  refine lv_iload_n C.1 C.2.1 zd_I_init_59 rfl (lv_at hl 0 rfl) ?_
  refine zi_stat C hX hst hS hAB rfl zd_I_init_60 (fun t60_88 ht => ?_)
  refine lv_iload_n C.1 C.2.1 zd_I_init_63 rfl (lv_at hl 0 rfl) ?_
  refine va_ti (v := .int (zI (10))) C.1 C.2.1 ht hS (zvp (n := 4) ⟨by decide, by decide⟩ (znb rfl)) rfl zd_I_init_64 ?_
  have hP : va_P B.1 zcl ([(h0, .inr (3, [.int (zI (0)), .int (zI (0)), .int (zI (0)), .int (zI (0)), .int (zI (100)), .int (zI (21)), .int (zI (-1)), .ref q43_0, .null, .null, .null, .null, .null, .null, .null, .null, .null, .null])), (q43_0, ei B 4 (upd (upd (fun _ => 0) 0 (zI (60))) 1 (zI (50))))] ++ _) H := hP
  have hD : va_D A ([(h0, .inr (3, [.int (zI (0)), .int (zI (0)), .int (zI (0)), .int (zI (0)), .int (zI (100)), .int (zI (21)), .int (zI (-1)), .ref q43_0, .null, .null, .null, .null, .null, .null, .null, .null, .null, .null])), (q43_0, ei B 4 (upd (upd (fun _ => 0) 0 (zI (60))) 1 (zI (50))))] ++ _) := hD
  refine va_iast C.1 C.2.1 hK hP hD hS 1 0 rfl rfl (i := zI (2)) (x := zI (10)) (zvp (n := 4) ⟨by decide, by decide⟩ (znb rfl)) zd_I_init_65 (fun H locs hP hD hS => ?_)
  replace hP := zset_P (P2 := [(h0, .inr (3, [.int (zI (0)), .int (zI (0)), .int (zI (0)), .int (zI (0)), .int (zI (100)), .int (zI (21)), .int (zI (-1)), .ref q43_0, .null, .null, .null, .null, .null, .null, .null, .null, .null, .null])), (q43_0, ei B 4 (upd (upd (upd (fun _ => 0) 0 (zI (60))) 1 (zI (50))) 2 (zI (10))))]) (fun _ => rfl) hP
  replace hD := zset_D (P2 := [(h0, .inr (3, [.int (zI (0)), .int (zI (0)), .int (zI (0)), .int (zI (0)), .int (zI (100)), .int (zI (21)), .int (zI (-1)), .ref q43_0, .null, .null, .null, .null, .null, .null, .null, .null, .null, .null])), (q43_0, ei B 4 (upd (upd (upd (fun _ => 0) 0 (zI (60))) 1 (zI (50))) 2 (zI (10))))]) (fun _ => rfl) hD
  have hP : va_P B.1 zcl ([(h0, .inr (3, [.int (zI (0)), .int (zI (0)), .int (zI (0)), .int (zI (0)), .int (zI (100)), .int (zI (21)), .int (zI (-1)), .ref q43_0, .null, .null, .null, .null, .null, .null, .null, .null, .null, .null]))] ++ _) H := hP
  have hD : va_D A ([(h0, .inr (3, [.int (zI (0)), .int (zI (0)), .int (zI (0)), .int (zI (0)), .int (zI (100)), .int (zI (21)), .int (zI (-1)), .ref q43_0, .null, .null, .null, .null, .null, .null, .null, .null, .null, .null]))] ++ _) := hD
  refine lv_iinc (v := zI (3)) (lv' := [(2, .int (zI (3))), (0, .ref h0), (1, .ref p1)]) C.1 C.2.1 zd_I_init_66 hl (k := 0) rfl (by decide +kernel) (by decide) rfl (fun ls hl => ?_)
  refine lv_goto (tgt := 50) C.1 C.2.1 zd_I_init_69 (by decide) ?_
  refine lv_iload_n C.1 C.2.1 zd_I_init_50 rfl (lv_at hl 0 rfl) ?_
  refine zr_iconst C zd_I_init_51 ?_
  refine zr_icmp_ge (tgt := 72) C (znb rfl) (znb rfl) zd_I_init_52 (by decide) (fun h => absurd h (by decide)) (fun _ => ?_)
  refine lv_aload_n C.1 C.2.1 zd_I_init_55 rfl (lv_at hl 1 rfl) ?_
  refine va_get (ci := 3) (v := .ref q43_0) (C := zR_I) (T := zF_I) (N := 18) C.1 C.2.1 C.2.2.2.2 zh_I C.2.2.2.1 hK hP 0 rfl rfl 7 (by decide) (C.2.2.2.2 _ zk_262) (fun _ h9 => h9) rfl zd_I_init_56 ?_
  refine lv_iload_n C.1 C.2.1 zd_I_init_59 rfl (lv_at hl 0 rfl) ?_
  refine zi_stat C hX hst hS hAB rfl zd_I_init_60 (fun t60_106 ht => ?_)
  refine lv_iload_n C.1 C.2.1 zd_I_init_63 rfl (lv_at hl 0 rfl) ?_
  refine va_ti (v := .int (zI (12))) C.1 C.2.1 ht hS (zvp (n := 4) ⟨by decide, by decide⟩ (znb rfl)) rfl zd_I_init_64 ?_
  have hP : va_P B.1 zcl ([(h0, .inr (3, [.int (zI (0)), .int (zI (0)), .int (zI (0)), .int (zI (0)), .int (zI (100)), .int (zI (21)), .int (zI (-1)), .ref q43_0, .null, .null, .null, .null, .null, .null, .null, .null, .null, .null])), (q43_0, ei B 4 (upd (upd (upd (fun _ => 0) 0 (zI (60))) 1 (zI (50))) 2 (zI (10))))] ++ _) H := hP
  have hD : va_D A ([(h0, .inr (3, [.int (zI (0)), .int (zI (0)), .int (zI (0)), .int (zI (0)), .int (zI (100)), .int (zI (21)), .int (zI (-1)), .ref q43_0, .null, .null, .null, .null, .null, .null, .null, .null, .null, .null])), (q43_0, ei B 4 (upd (upd (upd (fun _ => 0) 0 (zI (60))) 1 (zI (50))) 2 (zI (10))))] ++ _) := hD
  refine va_iast C.1 C.2.1 hK hP hD hS 1 0 rfl rfl (i := zI (3)) (x := zI (12)) (zvp (n := 4) ⟨by decide, by decide⟩ (znb rfl)) zd_I_init_65 (fun H locs hP hD hS => ?_)
  replace hP := zset_P (P2 := [(h0, .inr (3, [.int (zI (0)), .int (zI (0)), .int (zI (0)), .int (zI (0)), .int (zI (100)), .int (zI (21)), .int (zI (-1)), .ref q43_0, .null, .null, .null, .null, .null, .null, .null, .null, .null, .null])), (q43_0, ei B 4 (upd (upd (upd (upd (fun _ => 0) 0 (zI (60))) 1 (zI (50))) 2 (zI (10))) 3 (zI (12))))]) (fun _ => rfl) hP
  replace hD := zset_D (P2 := [(h0, .inr (3, [.int (zI (0)), .int (zI (0)), .int (zI (0)), .int (zI (0)), .int (zI (100)), .int (zI (21)), .int (zI (-1)), .ref q43_0, .null, .null, .null, .null, .null, .null, .null, .null, .null, .null])), (q43_0, ei B 4 (upd (upd (upd (upd (fun _ => 0) 0 (zI (60))) 1 (zI (50))) 2 (zI (10))) 3 (zI (12))))]) (fun _ => rfl) hD
  have hP : va_P B.1 zcl ([(h0, .inr (3, [.int (zI (0)), .int (zI (0)), .int (zI (0)), .int (zI (0)), .int (zI (100)), .int (zI (21)), .int (zI (-1)), .ref q43_0, .null, .null, .null, .null, .null, .null, .null, .null, .null, .null]))] ++ _) H := hP
  have hD : va_D A ([(h0, .inr (3, [.int (zI (0)), .int (zI (0)), .int (zI (0)), .int (zI (0)), .int (zI (100)), .int (zI (21)), .int (zI (-1)), .ref q43_0, .null, .null, .null, .null, .null, .null, .null, .null, .null, .null]))] ++ _) := hD
  refine lv_iinc (v := zI (4)) (lv' := [(2, .int (zI (4))), (0, .ref h0), (1, .ref p1)]) C.1 C.2.1 zd_I_init_66 hl (k := 0) rfl (by decide +kernel) (by decide) rfl (fun ls hl => ?_)
  refine lv_goto (tgt := 50) C.1 C.2.1 zd_I_init_69 (by decide) ?_
  refine lv_iload_n C.1 C.2.1 zd_I_init_50 rfl (lv_at hl 0 rfl) ?_
  refine zr_iconst C zd_I_init_51 ?_
  refine zr_icmp_ge (tgt := 72) C (znb rfl) (znb rfl) zd_I_init_52 (by decide) (fun _ => ?_) (fun h => absurd (by decide) h)
  refine lv_aload_n C.1 C.2.1 zd_I_init_72 rfl (lv_at hl 1 rfl) ?_
  refine zr_bipush C zd_I_init_73 (by decide) ?_
  refine zi_newi (N := 12) C hK hP hD hS hA rfl (by decide) (Nat.le_of_ble_eq_true rfl) (Nat.le_of_ble_eq_true rfl) zk_108 zd_I_init_75 (fun q75_1 H hP hD hS => ?_)
  refine W.widen (k := 2) (n := 16) (Nat.le_of_ble_eq_true rfl) (Nat.le_of_ble_eq_true rfl) ?_
  refine va_putF (ci := 3) (v := .ref q75_1) (ty := zt_I 8) (C := zR_I) (T := zF_I) (N := 18) C.1 C.2.1 C.2.2.2.2 zh_I zt_I zt_I_ok zn_I C.2.2.2.1 hK hP hD hS 0 rfl rfl 8 (by decide) (C.2.2.2.2 _ zk_265) (fun _ h9 => h9) rfl hnm rfl (zt_I_ok 8 (by decide)) rfl rfl (Nat.le_of_ble_eq_true rfl) zd_I_init_77 (fun H locs hP hD hS => ?_)
  replace hP := zset_P (P2 := [(h0, .inr (3, [.int (zI (0)), .int (zI (0)), .int (zI (0)), .int (zI (0)), .int (zI (100)), .int (zI (21)), .int (zI (-1)), .ref q43_0, .ref q75_1, .null, .null, .null, .null, .null, .null, .null, .null, .null]))]) (fun _ => rfl) hP
  replace hD := zset_D (P2 := [(h0, .inr (3, [.int (zI (0)), .int (zI (0)), .int (zI (0)), .int (zI (0)), .int (zI (100)), .int (zI (21)), .int (zI (-1)), .ref q43_0, .ref q75_1, .null, .null, .null, .null, .null, .null, .null, .null, .null]))]) (fun _ => rfl) hD
  refine lv_aload_n C.1 C.2.1 zd_I_init_80 rfl (lv_at hl 1 rfl) ?_
  refine zr_bipush C zd_I_init_81 (by decide) ?_
  refine zi_newi (N := 12) C hK hP hD hS hA rfl (by decide) (Nat.le_of_ble_eq_true rfl) (Nat.le_of_ble_eq_true rfl) zk_108 zd_I_init_83 (fun q83_2 H hP hD hS => ?_)
  refine W.widen (k := 3) (n := 28) (Nat.le_of_ble_eq_true rfl) (Nat.le_of_ble_eq_true rfl) ?_
  refine va_putF (ci := 3) (v := .ref q83_2) (ty := zt_I 9) (C := zR_I) (T := zF_I) (N := 18) C.1 C.2.1 C.2.2.2.2 zh_I zt_I zt_I_ok zn_I C.2.2.2.1 hK hP hD hS 0 rfl rfl 9 (by decide) (C.2.2.2.2 _ zk_269) (fun _ h9 => h9) rfl hnm rfl (zt_I_ok 9 (by decide)) rfl rfl (Nat.le_of_ble_eq_true rfl) zd_I_init_85 (fun H locs hP hD hS => ?_)
  replace hP := zset_P (P2 := [(h0, .inr (3, [.int (zI (0)), .int (zI (0)), .int (zI (0)), .int (zI (0)), .int (zI (100)), .int (zI (21)), .int (zI (-1)), .ref q43_0, .ref q75_1, .ref q83_2, .null, .null, .null, .null, .null, .null, .null, .null]))]) (fun _ => rfl) hP
  replace hD := zset_D (P2 := [(h0, .inr (3, [.int (zI (0)), .int (zI (0)), .int (zI (0)), .int (zI (0)), .int (zI (100)), .int (zI (21)), .int (zI (-1)), .ref q43_0, .ref q75_1, .ref q83_2, .null, .null, .null, .null, .null, .null, .null, .null]))]) (fun _ => rfl) hD
  refine lv_aload_n C.1 C.2.1 zd_I_init_88 rfl (lv_at hl 1 rfl) ?_
  refine zr_bipush C zd_I_init_89 (by decide) ?_
  refine zi_newi (N := 12) C hK hP hD hS hA rfl (by decide) (Nat.le_of_ble_eq_true rfl) (Nat.le_of_ble_eq_true rfl) zk_108 zd_I_init_91 (fun q91_3 H hP hD hS => ?_)
  refine W.widen (k := 4) (n := 40) (Nat.le_of_ble_eq_true rfl) (Nat.le_of_ble_eq_true rfl) ?_
  refine va_putF (ci := 3) (v := .ref q91_3) (ty := zt_I 10) (C := zR_I) (T := zF_I) (N := 18) C.1 C.2.1 C.2.2.2.2 zh_I zt_I zt_I_ok zn_I C.2.2.2.1 hK hP hD hS 0 rfl rfl 10 (by decide) (C.2.2.2.2 _ zk_272) (fun _ h9 => h9) rfl hnm rfl (zt_I_ok 10 (by decide)) rfl rfl (Nat.le_of_ble_eq_true rfl) zd_I_init_93 (fun H locs hP hD hS => ?_)
  replace hP := zset_P (P2 := [(h0, .inr (3, [.int (zI (0)), .int (zI (0)), .int (zI (0)), .int (zI (0)), .int (zI (100)), .int (zI (21)), .int (zI (-1)), .ref q43_0, .ref q75_1, .ref q83_2, .ref q91_3, .null, .null, .null, .null, .null, .null, .null]))]) (fun _ => rfl) hP
  replace hD := zset_D (P2 := [(h0, .inr (3, [.int (zI (0)), .int (zI (0)), .int (zI (0)), .int (zI (0)), .int (zI (100)), .int (zI (21)), .int (zI (-1)), .ref q43_0, .ref q75_1, .ref q83_2, .ref q91_3, .null, .null, .null, .null, .null, .null, .null]))]) (fun _ => rfl) hD
  refine lv_aload_n C.1 C.2.1 zd_I_init_96 rfl (lv_at hl 1 rfl) ?_
  refine zr_bipush C zd_I_init_97 (by decide) ?_
  refine zi_newi (N := 12) C hK hP hD hS hA rfl (by decide) (Nat.le_of_ble_eq_true rfl) (Nat.le_of_ble_eq_true rfl) zk_108 zd_I_init_99 (fun q99_4 H hP hD hS => ?_)
  refine W.widen (k := 5) (n := 52) (Nat.le_of_ble_eq_true rfl) (Nat.le_of_ble_eq_true rfl) ?_
  refine va_putF (ci := 3) (v := .ref q99_4) (ty := zt_I 11) (C := zR_I) (T := zF_I) (N := 18) C.1 C.2.1 C.2.2.2.2 zh_I zt_I zt_I_ok zn_I C.2.2.2.1 hK hP hD hS 0 rfl rfl 11 (by decide) (C.2.2.2.2 _ zk_275) (fun _ h9 => h9) rfl hnm rfl (zt_I_ok 11 (by decide)) rfl rfl (Nat.le_of_ble_eq_true rfl) zd_I_init_101 (fun H locs hP hD hS => ?_)
  replace hP := zset_P (P2 := [(h0, .inr (3, [.int (zI (0)), .int (zI (0)), .int (zI (0)), .int (zI (0)), .int (zI (100)), .int (zI (21)), .int (zI (-1)), .ref q43_0, .ref q75_1, .ref q83_2, .ref q91_3, .ref q99_4, .null, .null, .null, .null, .null, .null]))]) (fun _ => rfl) hP
  replace hD := zset_D (P2 := [(h0, .inr (3, [.int (zI (0)), .int (zI (0)), .int (zI (0)), .int (zI (0)), .int (zI (100)), .int (zI (21)), .int (zI (-1)), .ref q43_0, .ref q75_1, .ref q83_2, .ref q91_3, .ref q99_4, .null, .null, .null, .null, .null, .null]))]) (fun _ => rfl) hD
  refine lv_aload_n C.1 C.2.1 zd_I_init_104 rfl (lv_at hl 1 rfl) ?_
  refine va_get (ci := 3) (v := .ref q83_2) (C := zR_I) (T := zF_I) (N := 18) C.1 C.2.1 C.2.2.2.2 zh_I C.2.2.2.1 hK hP 0 rfl rfl 9 (by decide) (C.2.2.2.2 _ zk_269) (fun _ h9 => h9) rfl zd_I_init_105 ?_
  refine zr_bipush C zd_I_init_108 (by decide) ?_
  have hP : va_P B.1 zcl ([(h0, .inr (3, [.int (zI (0)), .int (zI (0)), .int (zI (0)), .int (zI (0)), .int (zI (100)), .int (zI (21)), .int (zI (-1)), .ref q43_0, .ref q75_1, .ref q83_2, .ref q91_3, .ref q99_4, .null, .null, .null, .null, .null, .null])), (q99_4, e0 B 12), (q91_3, e0 B 12)] ++ _) H := hP
  have hD : va_D A ([(h0, .inr (3, [.int (zI (0)), .int (zI (0)), .int (zI (0)), .int (zI (0)), .int (zI (100)), .int (zI (21)), .int (zI (-1)), .ref q43_0, .ref q75_1, .ref q83_2, .ref q91_3, .ref q99_4, .null, .null, .null, .null, .null, .null])), (q99_4, e0 B 12), (q91_3, e0 B 12)] ++ _) := hD
  refine zi_fill (n := 1) (As := [.int (zI (20))]) (rest := []) C hK hX hst hP hD hS hA hAB (zin_JaF q83_2 (fun _ => 0) (zI (20)) H.size) zk_45 zk_3 zk_43 zk_44 ⟨by decide, by decide, by decide +kernel⟩ ⟨rfl, rfl, Nat.le_of_ble_eq_true rfl, Nat.le_of_ble_eq_true rfl⟩ ⟨Nat.le_of_ble_eq_true rfl, Nat.le_of_ble_eq_true rfl⟩ rfl hl.1 rfl (lv_room (Nat.le_of_ble_eq_true rfl)) zd_I_init_110 (fun u110_0 H locs hP hD hS => ?_)
  have hP : va_P B.1 zcl ([(h0, .inr (3, [.int (zI (0)), .int (zI (0)), .int (zI (0)), .int (zI (0)), .int (zI (100)), .int (zI (21)), .int (zI (-1)), .ref q43_0, .ref q75_1, .ref q83_2, .ref q91_3, .ref q99_4, .null, .null, .null, .null, .null, .null])), (q99_4, e0 B 12), (q91_3, e0 B 12), (q83_2, ei B 12 (fun _ => zI (20)))] ++ _) H := hP
  have hD : va_D A ([(h0, .inr (3, [.int (zI (0)), .int (zI (0)), .int (zI (0)), .int (zI (0)), .int (zI (100)), .int (zI (21)), .int (zI (-1)), .ref q43_0, .ref q75_1, .ref q83_2, .ref q91_3, .ref q99_4, .null, .null, .null, .null, .null, .null])), (q99_4, e0 B 12), (q91_3, e0 B 12), (q83_2, ei B 12 (fun _ => zI (20)))] ++ _) := hD
  have hP : va_P B.1 zcl ([(h0, .inr (3, [.int (zI (0)), .int (zI (0)), .int (zI (0)), .int (zI (0)), .int (zI (100)), .int (zI (21)), .int (zI (-1)), .ref q43_0, .ref q75_1, .ref q83_2, .ref q91_3, .ref q99_4, .null, .null, .null, .null, .null, .null]))] ++ _) H := hP
  have hD : va_D A ([(h0, .inr (3, [.int (zI (0)), .int (zI (0)), .int (zI (0)), .int (zI (0)), .int (zI (100)), .int (zI (21)), .int (zI (-1)), .ref q43_0, .ref q75_1, .ref q83_2, .ref q91_3, .ref q99_4, .null, .null, .null, .null, .null, .null]))] ++ _) := hD
  refine lv_aload_n C.1 C.2.1 zd_I_init_113 rfl (lv_at hl 1 rfl) ?_
  refine va_get (ci := 3) (v := .ref q91_3) (C := zR_I) (T := zF_I) (N := 18) C.1 C.2.1 C.2.2.2.2 zh_I C.2.2.2.1 hK hP 0 rfl rfl 10 (by decide) (C.2.2.2.2 _ zk_272) (fun _ h9 => h9) rfl zd_I_init_114 ?_
  refine zr_iconst C zd_I_init_117 ?_
  have hP : va_P B.1 zcl ([(h0, .inr (3, [.int (zI (0)), .int (zI (0)), .int (zI (0)), .int (zI (0)), .int (zI (100)), .int (zI (21)), .int (zI (-1)), .ref q43_0, .ref q75_1, .ref q83_2, .ref q91_3, .ref q99_4, .null, .null, .null, .null, .null, .null])), (q99_4, e0 B 12)] ++ _) H := hP
  have hD : va_D A ([(h0, .inr (3, [.int (zI (0)), .int (zI (0)), .int (zI (0)), .int (zI (0)), .int (zI (100)), .int (zI (21)), .int (zI (-1)), .ref q43_0, .ref q75_1, .ref q83_2, .ref q91_3, .ref q99_4, .null, .null, .null, .null, .null, .null])), (q99_4, e0 B 12)] ++ _) := hD
  refine zi_fill (n := 1) (As := [.int (zI (3))]) (rest := []) C hK hX hst hP hD hS hA hAB (zin_JaF q91_3 (fun _ => 0) (zI (3)) H.size) zk_45 zk_3 zk_43 zk_44 ⟨by decide, by decide, by decide +kernel⟩ ⟨rfl, rfl, Nat.le_of_ble_eq_true rfl, Nat.le_of_ble_eq_true rfl⟩ ⟨Nat.le_of_ble_eq_true rfl, Nat.le_of_ble_eq_true rfl⟩ rfl hl.1 rfl (lv_room (Nat.le_of_ble_eq_true rfl)) zd_I_init_118 (fun u118_1 H locs hP hD hS => ?_)
  have hP : va_P B.1 zcl ([(h0, .inr (3, [.int (zI (0)), .int (zI (0)), .int (zI (0)), .int (zI (0)), .int (zI (100)), .int (zI (21)), .int (zI (-1)), .ref q43_0, .ref q75_1, .ref q83_2, .ref q91_3, .ref q99_4, .null, .null, .null, .null, .null, .null])), (q99_4, e0 B 12), (q91_3, ei B 12 (fun _ => zI (3)))] ++ _) H := hP
  have hD : va_D A ([(h0, .inr (3, [.int (zI (0)), .int (zI (0)), .int (zI (0)), .int (zI (0)), .int (zI (100)), .int (zI (21)), .int (zI (-1)), .ref q43_0, .ref q75_1, .ref q83_2, .ref q91_3, .ref q99_4, .null, .null, .null, .null, .null, .null])), (q99_4, e0 B 12), (q91_3, ei B 12 (fun _ => zI (3)))] ++ _) := hD
  have hP : va_P B.1 zcl ([(h0, .inr (3, [.int (zI (0)), .int (zI (0)), .int (zI (0)), .int (zI (0)), .int (zI (100)), .int (zI (21)), .int (zI (-1)), .ref q43_0, .ref q75_1, .ref q83_2, .ref q91_3, .ref q99_4, .null, .null, .null, .null, .null, .null]))] ++ _) H := hP
  have hD : va_D A ([(h0, .inr (3, [.int (zI (0)), .int (zI (0)), .int (zI (0)), .int (zI (0)), .int (zI (100)), .int (zI (21)), .int (zI (-1)), .ref q43_0, .ref q75_1, .ref q83_2, .ref q91_3, .ref q99_4, .null, .null, .null, .null, .null, .null]))] ++ _) := hD
  refine lv_aload_n C.1 C.2.1 zd_I_init_121 rfl (lv_at hl 1 rfl) ?_
  refine zi_new (ci := 6) (fs := [.int 0, .null, .null, .null, .null, .null, .null, .null, .null, .null]) C hK hP hD hS hA zh_P zt_P zt_P_ok zk_46 zk_47 zk_4 rfl zdv_P (Nat.le_of_ble_eq_true rfl) (Nat.le_of_ble_eq_true rfl) zd_I_init_122 (fun q122_5 H hP hD hS => ?_)
  refine W.widen (k := 6) (n := 62) (Nat.le_of_ble_eq_true rfl) (Nat.le_of_ble_eq_true rfl) ?_
  refine lv_dup C.1 C.2.1 zd_I_init_125 rfl ?_
  refine zi_call (n := 0) (As := []) (rest := [.ref q122_5, .ref h0]) C hK hX hst hP hD hS hA hAB (fun hB => zin_P q122_5 H.size hB) zk_50 zk_4 zk_48 zk_49 rfl ⟨by decide, by decide, by decide +kernel⟩ ⟨rfl, rfl, Nat.le_of_ble_eq_true rfl, Nat.le_of_ble_eq_true rfl⟩ ⟨Nat.le_of_ble_eq_true rfl, Nat.le_of_ble_eq_true rfl⟩ rfl hl.1 rfl (lv_room (Nat.le_of_ble_eq_true rfl)) zd_I_init_126 (fun u126_2 H locs hP hD hS => ?_)
  refine W.widen (k := 15) (n := 422) (Nat.le_of_ble_eq_true rfl) (Nat.le_of_ble_eq_true rfl) ?_
  refine va_putF (ci := 3) (v := .ref q122_5) (ty := zt_I 12) (C := zR_I) (T := zF_I) (N := 18) C.1 C.2.1 C.2.2.2.2 zh_I zt_I zt_I_ok zn_I C.2.2.2.1 hK hP hD hS 0 rfl rfl 12 (by decide) (C.2.2.2.2 _ zk_278) (fun _ h9 => h9) rfl hnm rfl (zt_I_ok 12 (by decide)) rfl rfl (Nat.le_of_ble_eq_true rfl) zd_I_init_129 (fun H locs hP hD hS => ?_)
  replace hP := zset_P (P2 := [(h0, .inr (3, [.int (zI (0)), .int (zI (0)), .int (zI (0)), .int (zI (0)), .int (zI (100)), .int (zI (21)), .int (zI (-1)), .ref q43_0, .ref q75_1, .ref q83_2, .ref q91_3, .ref q99_4, .ref q122_5, .null, .null, .null, .null, .null]))]) (fun _ => rfl) hP
  replace hD := zset_D (P2 := [(h0, .inr (3, [.int (zI (0)), .int (zI (0)), .int (zI (0)), .int (zI (0)), .int (zI (100)), .int (zI (21)), .int (zI (-1)), .ref q43_0, .ref q75_1, .ref q83_2, .ref q91_3, .ref q99_4, .ref q122_5, .null, .null, .null, .null, .null]))]) (fun _ => rfl) hD
  refine lv_aload_n C.1 C.2.1 zd_I_init_132 rfl (lv_at hl 1 rfl) ?_
  refine zi_new (ci := 5) (fs := [.int 0, .null, .null, .null, .null, .null, .null, .null, .null, .null, .null]) C hK hP hD hS hA zh_L zt_L zt_L_ok zk_109 zk_110 zk_5 rfl zdv_L (Nat.le_of_ble_eq_true rfl) (Nat.le_of_ble_eq_true rfl) zd_I_init_133 (fun q133_6 H hP hD hS => ?_)
  refine W.widen (k := 16) (n := 433) (Nat.le_of_ble_eq_true rfl) (Nat.le_of_ble_eq_true rfl) ?_
  refine lv_dup C.1 C.2.1 zd_I_init_136 rfl ?_
  refine lv_aload_n C.1 C.2.1 zd_I_init_137 rfl (lv_at hl 2 rfl) ?_
  refine zi_call (n := 1) (As := [.ref p1]) (rest := [.ref q133_6, .ref h0]) C hK hX hst hP hD hS hA hAB (fun hB => zin_L q133_6 p1 H.size hB) zk_113 zk_5 zk_111 zk_112 rfl ⟨by decide, by decide, by decide +kernel⟩ ⟨rfl, rfl, Nat.le_of_ble_eq_true rfl, Nat.le_of_ble_eq_true rfl⟩ ⟨Nat.le_of_ble_eq_true rfl, Nat.le_of_ble_eq_true rfl⟩ rfl hl.1 rfl (lv_room (Nat.le_of_ble_eq_true rfl)) zd_I_init_138 (fun u138_3 H locs hP hD hS => ?_)
  refine W.widen (k := 25) (n := 541) (Nat.le_of_ble_eq_true rfl) (Nat.le_of_ble_eq_true rfl) ?_
  refine va_putF (ci := 3) (v := .ref q133_6) (ty := zt_I 13) (C := zR_I) (T := zF_I) (N := 18) C.1 C.2.1 C.2.2.2.2 zh_I zt_I zt_I_ok zn_I C.2.2.2.1 hK hP hD hS 0 rfl rfl 13 (by decide) (C.2.2.2.2 _ zk_283) (fun _ h9 => h9) rfl hnm rfl (zt_I_ok 13 (by decide)) rfl rfl (Nat.le_of_ble_eq_true rfl) zd_I_init_141 (fun H locs hP hD hS => ?_)
  replace hP := zset_P (P2 := [(h0, .inr (3, [.int (zI (0)), .int (zI (0)), .int (zI (0)), .int (zI (0)), .int (zI (100)), .int (zI (21)), .int (zI (-1)), .ref q43_0, .ref q75_1, .ref q83_2, .ref q91_3, .ref q99_4, .ref q122_5, .ref q133_6, .null, .null, .null, .null]))]) (fun _ => rfl) hP
  replace hD := zset_D (P2 := [(h0, .inr (3, [.int (zI (0)), .int (zI (0)), .int (zI (0)), .int (zI (0)), .int (zI (100)), .int (zI (21)), .int (zI (-1)), .ref q43_0, .ref q75_1, .ref q83_2, .ref q91_3, .ref q99_4, .ref q122_5, .ref q133_6, .null, .null, .null, .null]))]) (fun _ => rfl) hD
  refine lv_aload_n C.1 C.2.1 zd_I_init_144 rfl (lv_at hl 1 rfl) ?_
  refine zi_new (ci := 7) (fs := [.int 0, .null, .null, .null, .null]) C hK hP hD hS hA zh_Q zt_Q zt_Q_ok zk_161 zk_162 zk_6 rfl zdv_Q (Nat.le_of_ble_eq_true rfl) (Nat.le_of_ble_eq_true rfl) zd_I_init_145 (fun q145_7 H hP hD hS => ?_)
  refine W.widen (k := 26) (n := 546) (Nat.le_of_ble_eq_true rfl) (Nat.le_of_ble_eq_true rfl) ?_
  refine lv_dup C.1 C.2.1 zd_I_init_148 rfl ?_
  refine zi_call (n := 0) (As := []) (rest := [.ref q145_7, .ref h0]) C hK hX hst hP hD hS hA hAB (fun hB => zin_Q q145_7 H.size hB) zk_165 zk_6 zk_163 zk_164 rfl ⟨by decide, by decide, by decide +kernel⟩ ⟨rfl, rfl, Nat.le_of_ble_eq_true rfl, Nat.le_of_ble_eq_true rfl⟩ ⟨Nat.le_of_ble_eq_true rfl, Nat.le_of_ble_eq_true rfl⟩ rfl hl.1 rfl (lv_room (Nat.le_of_ble_eq_true rfl)) zd_I_init_149 (fun u149_4 H locs hP hD hS => ?_)
  refine W.widen (k := 30) (n := 578) (Nat.le_of_ble_eq_true rfl) (Nat.le_of_ble_eq_true rfl) ?_
  refine va_putF (ci := 3) (v := .ref q145_7) (ty := zt_I 14) (C := zR_I) (T := zF_I) (N := 18) C.1 C.2.1 C.2.2.2.2 zh_I zt_I zt_I_ok zn_I C.2.2.2.1 hK hP hD hS 0 rfl rfl 14 (by decide) (C.2.2.2.2 _ zk_286) (fun _ h9 => h9) rfl hnm rfl (zt_I_ok 14 (by decide)) rfl rfl (Nat.le_of_ble_eq_true rfl) zd_I_init_152 (fun H locs hP hD hS => ?_)
  replace hP := zset_P (P2 := [(h0, .inr (3, [.int (zI (0)), .int (zI (0)), .int (zI (0)), .int (zI (0)), .int (zI (100)), .int (zI (21)), .int (zI (-1)), .ref q43_0, .ref q75_1, .ref q83_2, .ref q91_3, .ref q99_4, .ref q122_5, .ref q133_6, .ref q145_7, .null, .null, .null]))]) (fun _ => rfl) hP
  replace hD := zset_D (P2 := [(h0, .inr (3, [.int (zI (0)), .int (zI (0)), .int (zI (0)), .int (zI (0)), .int (zI (100)), .int (zI (21)), .int (zI (-1)), .ref q43_0, .ref q75_1, .ref q83_2, .ref q91_3, .ref q99_4, .ref q122_5, .ref q133_6, .ref q145_7, .null, .null, .null]))]) (fun _ => rfl) hD
  refine lv_aload_n C.1 C.2.1 zd_I_init_155 rfl (lv_at hl 1 rfl) ?_
  refine zi_new (ci := 11) (fs := [.null, .null, .null, .int 0, .null, .null]) C hK hP hD hS hA zh_T zt_T zt_T_ok zk_191 zk_192 zk_7 rfl zdv_T (Nat.le_of_ble_eq_true rfl) (Nat.le_of_ble_eq_true rfl) zd_I_init_156 (fun q156_8 H hP hD hS => ?_)
  refine W.widen (k := 31) (n := 584) (Nat.le_of_ble_eq_true rfl) (Nat.le_of_ble_eq_true rfl) ?_
  refine lv_dup C.1 C.2.1 zd_I_init_159 rfl ?_
  refine zi_call (n := 0) (As := []) (rest := [.ref q156_8, .ref h0]) C hK hX hst hP hD hS hA hAB (fun hB => zin_T q156_8 H.size hB) zk_195 zk_7 zk_193 zk_194 rfl ⟨by decide, by decide, by decide +kernel⟩ ⟨rfl, rfl, Nat.le_of_ble_eq_true rfl, Nat.le_of_ble_eq_true rfl⟩ ⟨Nat.le_of_ble_eq_true rfl, Nat.le_of_ble_eq_true rfl⟩ rfl hl.1 rfl (lv_room (Nat.le_of_ble_eq_true rfl)) zd_I_init_160 (fun u160_5 H locs hP hD hS => ?_)
  refine W.widen (k := 36) (n := 656) (Nat.le_of_ble_eq_true rfl) (Nat.le_of_ble_eq_true rfl) ?_
  refine va_putF (ci := 3) (v := .ref q156_8) (ty := zt_I 15) (C := zR_I) (T := zF_I) (N := 18) C.1 C.2.1 C.2.2.2.2 zh_I zt_I zt_I_ok zn_I C.2.2.2.1 hK hP hD hS 0 rfl rfl 15 (by decide) (C.2.2.2.2 _ zk_290) (fun _ h9 => h9) rfl hnm rfl (zt_I_ok 15 (by decide)) rfl rfl (Nat.le_of_ble_eq_true rfl) zd_I_init_163 (fun H locs hP hD hS => ?_)
  replace hP := zset_P (P2 := [(h0, .inr (3, [.int (zI (0)), .int (zI (0)), .int (zI (0)), .int (zI (0)), .int (zI (100)), .int (zI (21)), .int (zI (-1)), .ref q43_0, .ref q75_1, .ref q83_2, .ref q91_3, .ref q99_4, .ref q122_5, .ref q133_6, .ref q145_7, .ref q156_8, .null, .null]))]) (fun _ => rfl) hP
  replace hD := zset_D (P2 := [(h0, .inr (3, [.int (zI (0)), .int (zI (0)), .int (zI (0)), .int (zI (0)), .int (zI (100)), .int (zI (21)), .int (zI (-1)), .ref q43_0, .ref q75_1, .ref q83_2, .ref q91_3, .ref q99_4, .ref q122_5, .ref q133_6, .ref q145_7, .ref q156_8, .null, .null]))]) (fun _ => rfl) hD
  refine lv_aload_n C.1 C.2.1 zd_I_init_166 rfl (lv_at hl 1 rfl) ?_
  refine zi_new (ci := 10) (fs := [.int 0, .int 0, .null]) C hK hP hD hS hA zh_Y zt_Y zt_Y_ok zk_223 zk_224 zk_8 rfl zdv_Y (Nat.le_of_ble_eq_true rfl) (Nat.le_of_ble_eq_true rfl) zd_I_init_167 (fun q167_9 H hP hD hS => ?_)
  refine W.widen (k := 37) (n := 659) (Nat.le_of_ble_eq_true rfl) (Nat.le_of_ble_eq_true rfl) ?_
  refine lv_dup C.1 C.2.1 zd_I_init_170 rfl ?_
  refine zi_call (n := 0) (As := []) (rest := [.ref q167_9, .ref h0]) C hK hX hst hP hD hS hA hAB (fun hB => zin_Y q167_9 H.size hB) zk_227 zk_8 zk_225 zk_226 rfl ⟨by decide, by decide, by decide +kernel⟩ ⟨rfl, rfl, Nat.le_of_ble_eq_true rfl, Nat.le_of_ble_eq_true rfl⟩ ⟨Nat.le_of_ble_eq_true rfl, Nat.le_of_ble_eq_true rfl⟩ rfl hl.1 rfl (lv_room (Nat.le_of_ble_eq_true rfl)) zd_I_init_171 (fun u171_6 H locs hP hD hS => ?_)
  refine W.widen (k := 38) (n := 779) (Nat.le_of_ble_eq_true rfl) (Nat.le_of_ble_eq_true rfl) ?_
  refine va_putF (ci := 3) (v := .ref q167_9) (ty := zt_I 16) (C := zR_I) (T := zF_I) (N := 18) C.1 C.2.1 C.2.2.2.2 zh_I zt_I zt_I_ok zn_I C.2.2.2.1 hK hP hD hS 0 rfl rfl 16 (by decide) (C.2.2.2.2 _ zk_293) (fun _ h9 => h9) rfl hnm rfl (zt_I_ok 16 (by decide)) rfl rfl (Nat.le_of_ble_eq_true rfl) zd_I_init_174 (fun H locs hP hD hS => ?_)
  replace hP := zset_P (P2 := [(h0, .inr (3, [.int (zI (0)), .int (zI (0)), .int (zI (0)), .int (zI (0)), .int (zI (100)), .int (zI (21)), .int (zI (-1)), .ref q43_0, .ref q75_1, .ref q83_2, .ref q91_3, .ref q99_4, .ref q122_5, .ref q133_6, .ref q145_7, .ref q156_8, .ref q167_9, .null]))]) (fun _ => rfl) hP
  replace hD := zset_D (P2 := [(h0, .inr (3, [.int (zI (0)), .int (zI (0)), .int (zI (0)), .int (zI (0)), .int (zI (100)), .int (zI (21)), .int (zI (-1)), .ref q43_0, .ref q75_1, .ref q83_2, .ref q91_3, .ref q99_4, .ref q122_5, .ref q133_6, .ref q145_7, .ref q156_8, .ref q167_9, .null]))]) (fun _ => rfl) hD
  refine lv_aload_n C.1 C.2.1 zd_I_init_177 rfl (lv_at hl 1 rfl) ?_
  refine zi_new (ci := 10) (fs := [.int 0, .int 0, .null]) C hK hP hD hS hA zh_Y zt_Y zt_Y_ok zk_223 zk_224 zk_8 rfl zdv_Y (Nat.le_of_ble_eq_true rfl) (Nat.le_of_ble_eq_true rfl) zd_I_init_178 (fun q178_10 H hP hD hS => ?_)
  refine W.widen (k := 39) (n := 782) (Nat.le_of_ble_eq_true rfl) (Nat.le_of_ble_eq_true rfl) ?_
  refine lv_dup C.1 C.2.1 zd_I_init_181 rfl ?_
  refine zi_call (n := 0) (As := []) (rest := [.ref q178_10, .ref h0]) C hK hX hst hP hD hS hA hAB (fun hB => zin_Y q178_10 H.size hB) zk_227 zk_8 zk_225 zk_226 rfl ⟨by decide, by decide, by decide +kernel⟩ ⟨rfl, rfl, Nat.le_of_ble_eq_true rfl, Nat.le_of_ble_eq_true rfl⟩ ⟨Nat.le_of_ble_eq_true rfl, Nat.le_of_ble_eq_true rfl⟩ rfl hl.1 rfl (lv_room (Nat.le_of_ble_eq_true rfl)) zd_I_init_182 (fun u182_7 H locs hP hD hS => ?_)
  refine W.widen (k := 40) (n := 902) (Nat.le_of_ble_eq_true rfl) (Nat.le_of_ble_eq_true rfl) ?_
  refine va_putF (ci := 3) (v := .ref q178_10) (ty := zt_I 17) (C := zR_I) (T := zF_I) (N := 18) C.1 C.2.1 C.2.2.2.2 zh_I zt_I zt_I_ok zn_I C.2.2.2.1 hK hP hD hS 0 rfl rfl 17 (by decide) (C.2.2.2.2 _ zk_296) (fun _ h9 => h9) rfl hnm rfl (zt_I_ok 17 (by decide)) rfl rfl (Nat.le_of_ble_eq_true rfl) zd_I_init_185 (fun H locs hP hD hS => ?_)
  replace hP := zset_P (P2 := [(h0, .inr (3, [.int (zI (0)), .int (zI (0)), .int (zI (0)), .int (zI (0)), .int (zI (100)), .int (zI (21)), .int (zI (-1)), .ref q43_0, .ref q75_1, .ref q83_2, .ref q91_3, .ref q99_4, .ref q122_5, .ref q133_6, .ref q145_7, .ref q156_8, .ref q167_9, .ref q178_10]))]) (fun _ => rfl) hP
  replace hD := zset_D (P2 := [(h0, .inr (3, [.int (zI (0)), .int (zI (0)), .int (zI (0)), .int (zI (0)), .int (zI (100)), .int (zI (21)), .int (zI (-1)), .ref q43_0, .ref q75_1, .ref q83_2, .ref q91_3, .ref q99_4, .ref q122_5, .ref q133_6, .ref q145_7, .ref q156_8, .ref q167_9, .ref q178_10]))]) (fun _ => rfl) hD
  have hP : va_P B.1 zcl (ww_I B h0 p1 ((fun i => [q43_0, q75_1, q83_2, q91_3, q99_4, q122_5, q133_6, q145_7, q156_8, q167_9, q178_10].getD i 0), u126_2, u138_3, u149_4, u160_5, u171_6, u182_7)) H := hP
  have hD : va_D A (ww_I B h0 p1 ((fun i => [q43_0, q75_1, q83_2, q91_3, q99_4, q122_5, q133_6, q145_7, q156_8, q167_9, q178_10].getD i 0), u126_2, u138_3, u149_4, u160_5, u171_6, u182_7)) := hD
  exact zi_end2 (w := ww_I B h0 p1) (u := ((fun i => [q43_0, q75_1, q83_2, q91_3, q99_4, q122_5, q133_6, q145_7, q156_8, q167_9, q178_10].getD i 0), u126_2, u138_3, u149_4, u160_5, u171_6, u182_7)) (cells := 40) (slots := 902) C hr hlk hAe hP hD hS zd_I_init_188
abbrev zy_O_init : MethodName := ⟨"IslandOffice", "<init>", "()V"⟩
abbrev zb_O_init : ByteArray := prog_1_method_1_code
theorem zd_O_init_0 : decode zb_O_init 0 = .ok (.aload_n 0, 1) := by decide +kernel
theorem zd_O_init_1 : decode zb_O_init 1 = .ok (.invokespecial 1, 3) := by decide +kernel
theorem zd_O_init_4 : decode zb_O_init 4 = .ok (.bipush 12, 2) := by decide +kernel
theorem zd_O_init_6 : decode zb_O_init 6 = .ok (.bipush 120, 2) := by decide +kernel
theorem zd_O_init_8 : decode zb_O_init 8 = .ok (.multianewarray 9 2, 4) := by decide +kernel
theorem zd_O_init_12 : decode zb_O_init 12 = .ok (.astore_n 1, 1) := by decide +kernel
theorem zd_O_init_13 : decode zb_O_init 13 = .ok (.aload_n 0, 1) := by decide +kernel
theorem zd_O_init_14 : decode zb_O_init 14 = .ok (.new 11, 3) := by decide +kernel
theorem zd_O_init_17 : decode zb_O_init 17 = .ok (.dup, 1) := by decide +kernel
theorem zd_O_init_18 : decode zb_O_init 18 = .ok (.aload_n 1, 1) := by decide +kernel
theorem zd_O_init_19 : decode zb_O_init 19 = .ok (.invokespecial 13, 3) := by decide +kernel
theorem zd_O_init_22 : decode zb_O_init 22 = .ok (.putfield 16, 3) := by decide +kernel
theorem zd_O_init_25 : decode zb_O_init 25 = .ok (.aload_n 0, 1) := by decide +kernel
theorem zd_O_init_26 : decode zb_O_init 26 = .ok (.new 11, 3) := by decide +kernel
theorem zd_O_init_29 : decode zb_O_init 29 = .ok (.dup, 1) := by decide +kernel
theorem zd_O_init_30 : decode zb_O_init 30 = .ok (.aload_n 1, 1) := by decide +kernel
theorem zd_O_init_31 : decode zb_O_init 31 = .ok (.invokespecial 13, 3) := by decide +kernel
theorem zd_O_init_34 : decode zb_O_init 34 = .ok (.putfield 20, 3) := by decide +kernel
theorem zd_O_init_37 : decode zb_O_init 37 = .ok (.aload_n 0, 1) := by decide +kernel
theorem zd_O_init_38 : decode zb_O_init 38 = .ok (.new 11, 3) := by decide +kernel
theorem zd_O_init_41 : decode zb_O_init 41 = .ok (.dup, 1) := by decide +kernel
theorem zd_O_init_42 : decode zb_O_init 42 = .ok (.aload_n 1, 1) := by decide +kernel
theorem zd_O_init_43 : decode zb_O_init 43 = .ok (.invokespecial 13, 3) := by decide +kernel
theorem zd_O_init_46 : decode zb_O_init 46 = .ok (.putfield 23, 3) := by decide +kernel
theorem zd_O_init_49 : decode zb_O_init 49 = .ok (.aload_n 0, 1) := by decide +kernel
theorem zd_O_init_50 : decode zb_O_init 50 = .ok (.iconst 0, 1) := by decide +kernel
theorem zd_O_init_51 : decode zb_O_init 51 = .ok (.putfield 26, 3) := by decide +kernel
theorem zd_O_init_54 : decode zb_O_init 54 = .ok (.aload_n 0, 1) := by decide +kernel
theorem zd_O_init_55 : decode zb_O_init 55 = .ok (.sipush 2000, 3) := by decide +kernel
theorem zd_O_init_58 : decode zb_O_init 58 = .ok (.newarray .int, 2) := by decide +kernel
theorem zd_O_init_60 : decode zb_O_init 60 = .ok (.putfield 30, 3) := by decide +kernel
theorem zd_O_init_63 : decode zb_O_init 63 = .ok (.aload_n 0, 1) := by decide +kernel
theorem zd_O_init_64 : decode zb_O_init 64 = .ok (.bipush 8, 2) := by decide +kernel
theorem zd_O_init_66 : decode zb_O_init 66 = .ok (.anewarray 34, 3) := by decide +kernel
theorem zd_O_init_69 : decode zb_O_init 69 = .ok (.putfield 36, 3) := by decide +kernel
theorem zd_O_init_72 : decode zb_O_init 72 = .ok (.iconst 0, 1) := by decide +kernel
theorem zd_O_init_73 : decode zb_O_init 73 = .ok (.istore_n 2, 1) := by decide +kernel
theorem zd_O_init_74 : decode zb_O_init 74 = .ok (.iload_n 2, 1) := by decide +kernel
theorem zd_O_init_75 : decode zb_O_init 75 = .ok (.bipush 8, 2) := by decide +kernel
theorem zd_O_init_77 : decode zb_O_init 77 = .ok (.if_icmp .ge 22, 3) := by decide +kernel
theorem zd_O_init_80 : decode zb_O_init 80 = .ok (.aload_n 0, 1) := by decide +kernel
theorem zd_O_init_81 : decode zb_O_init 81 = .ok (.getfield 36, 3) := by decide +kernel
theorem zd_O_init_84 : decode zb_O_init 84 = .ok (.iload_n 2, 1) := by decide +kernel
theorem zd_O_init_85 : decode zb_O_init 85 = .ok (.new 34, 3) := by decide +kernel
theorem zd_O_init_88 : decode zb_O_init 88 = .ok (.dup, 1) := by decide +kernel
theorem zd_O_init_89 : decode zb_O_init 89 = .ok (.invokespecial 40, 3) := by decide +kernel
theorem zd_O_init_92 : decode zb_O_init 92 = .ok (.aastore, 1) := by decide +kernel
theorem zd_O_init_93 : decode zb_O_init 93 = .ok (.iinc 2 1, 3) := by decide +kernel
theorem zd_O_init_96 : decode zb_O_init 96 = .ok (.goto (-22), 3) := by decide +kernel
theorem zd_O_init_99 : decode zb_O_init 99 = .ok (.aload_n 0, 1) := by decide +kernel
theorem zd_O_init_100 : decode zb_O_init 100 = .ok (.new 41, 3) := by decide +kernel
theorem zd_O_init_103 : decode zb_O_init 103 = .ok (.dup, 1) := by decide +kernel
theorem zd_O_init_104 : decode zb_O_init 104 = .ok (.invokespecial 43, 3) := by decide +kernel
theorem zd_O_init_107 : decode zb_O_init 107 = .ok (.putfield 44, 3) := by decide +kernel
theorem zd_O_init_110 : decode zb_O_init 110 = .ok (.aload_n 0, 1) := by decide +kernel
theorem zd_O_init_111 : decode zb_O_init 111 = .ok (.new 48, 3) := by decide +kernel
theorem zd_O_init_114 : decode zb_O_init 114 = .ok (.dup, 1) := by decide +kernel
theorem zd_O_init_115 : decode zb_O_init 115 = .ok (.invokespecial 50, 3) := by decide +kernel
theorem zd_O_init_118 : decode zb_O_init 118 = .ok (.putfield 51, 3) := by decide +kernel
theorem zd_O_init_121 : decode zb_O_init 121 = .ok (.aload_n 0, 1) := by decide +kernel
theorem zd_O_init_122 : decode zb_O_init 122 = .ok (.new 55, 3) := by decide +kernel
theorem zd_O_init_125 : decode zb_O_init 125 = .ok (.dup, 1) := by decide +kernel
theorem zd_O_init_126 : decode zb_O_init 126 = .ok (.invokespecial 57, 3) := by decide +kernel
theorem zd_O_init_129 : decode zb_O_init 129 = .ok (.putfield 58, 3) := by decide +kernel
theorem zd_O_init_132 : decode zb_O_init 132 = .ok (.aload_n 0, 1) := by decide +kernel
theorem zd_O_init_133 : decode zb_O_init 133 = .ok (.new 62, 3) := by decide +kernel
theorem zd_O_init_136 : decode zb_O_init 136 = .ok (.dup, 1) := by decide +kernel
theorem zd_O_init_137 : decode zb_O_init 137 = .ok (.aload_n 0, 1) := by decide +kernel
theorem zd_O_init_138 : decode zb_O_init 138 = .ok (.getfield 51, 3) := by decide +kernel
theorem zd_O_init_141 : decode zb_O_init 141 = .ok (.aload_n 0, 1) := by decide +kernel
theorem zd_O_init_142 : decode zb_O_init 142 = .ok (.getfield 58, 3) := by decide +kernel
theorem zd_O_init_145 : decode zb_O_init 145 = .ok (.invokespecial 64, 3) := by decide +kernel
theorem zd_O_init_148 : decode zb_O_init 148 = .ok (.putfield 67, 3) := by decide +kernel
theorem zd_O_init_151 : decode zb_O_init 151 = .ok (.return_, 1) := by decide +kernel
theorem zdv_O : ∀ j, j < 10 → defaultValue (zt_O j) = vp_V [.null, .null, .null, .int 0, .null, .null, .null, .null, .null, .null] j := by
  intro j hj
  rcases (show j = 0 ∨ j = 1 ∨ j = 2 ∨ j = 3 ∨ j = 4 ∨ j = 5 ∨ j = 6 ∨ j = 7 ∨ j = 8 ∨ j = 9 by omega) with rfl | rfl | rfl | rfl | rfl | rfl | rfl | rfl | rfl | rfl <;> rfl
abbrev zm_iO : Room := { frames := 3, cells := 184, slots := 12449, locals := 109 }
def ww_O (B : zB) (h0 : Nat) (q : (Nat → Nat) × ((Nat → Nat) × (Nat → Nat) × (Nat → Nat) × (Nat → Nat) × (Nat → Nat) × (Nat → Nat) × (Nat → Nat)) × ((Nat → Nat) × (Nat → Nat) × (Nat → Nat) × (Nat → Nat) × (Nat → Nat) × (Nat → Nat) × (Nat → Nat)) × ((Nat → Nat) × (Nat → Nat) × (Nat → Nat) × (Nat → Nat) × (Nat → Nat) × (Nat → Nat) × (Nat → Nat)) × (Nat → Nat) × (Nat → Nat) × (Nat → Nat) × (Nat → Nat) × (Nat → Nat) × (Nat → Nat) × (Nat → Nat) × (Nat → Nat) × (Nat → Nat) × (Nat → Nat) × (Nat → Nat) × (Nat → Nat)) : va_W := (h0, .inr (0, [.ref (q.1 1), .ref (q.1 2), .ref (q.1 3), .int (zI (0)), .ref (q.1 4), .ref (q.1 5), .ref (q.1 14), .ref (q.1 15), .ref (q.1 16), .ref (q.1 17)])) :: (((q.1 5), eq B 3 8 (va_up (va_up (va_up (va_up (va_up (va_up (va_up (va_up (fun _ => none) 0 (some (q.1 6))) 1 (some (q.1 7))) 2 (some (q.1 8))) 3 (some (q.1 9))) 4 (some (q.1 10))) 5 (some (q.1 11))) 6 (some (q.1 12))) 7 (some (q.1 13)))) :: ((ww_A B (q.1 17) (q.1 15) (q.1 16) q.2.2.2.2.2.2.2.2.2.2.2.2.2.2.2) ++ ((ww_C B (q.1 16) q.2.2.2.2.2.2.2.2.2.2.2.2.2.2.1) ++ ((ww_J B (q.1 15) q.2.2.2.2.2.2.2.2.2.2.2.2.2.1) ++ ((ww_R B (q.1 14) q.2.2.2.2.2.2.2.2.2.2.2.2.1) ++ ((ww_S B (q.1 13) q.2.2.2.2.2.2.2.2.2.2.2.1) ++ ((ww_S B (q.1 12) q.2.2.2.2.2.2.2.2.2.2.1) ++ ((ww_S B (q.1 11) q.2.2.2.2.2.2.2.2.2.1) ++ ((ww_S B (q.1 10) q.2.2.2.2.2.2.2.2.1) ++ ((ww_S B (q.1 9) q.2.2.2.2.2.2.2.1) ++ ((ww_S B (q.1 8) q.2.2.2.2.2.2.1) ++ ((ww_S B (q.1 7) q.2.2.2.2.2.1) ++ ((ww_S B (q.1 6) q.2.2.2.2.1) ++ (((q.1 4), e0 B 2000) :: ((ww_I B (q.1 3) (q.1 0) q.2.2.2.1) ++ ((ww_I B (q.1 2) (q.1 0) q.2.2.1) ++ ((ww_I B (q.1 1) (q.1 0) q.2.1) ++ (gr B 12 120 (q.1 0) ++ ([])))))))))))))))))))
set_option maxHeartbeats 4000000 in
set_option maxRecDepth 100000 in
theorem zin_O {l : Launch} {B : zB} (h0 : Nat) (sz : Nat) (hB : ∀ q, va_A [(h0, .inr (0, [.null, .null, .null, .int 0, .null, .null, .null, .null, .null, .null]))] sz q → B.2.2.2 q) : Met l zy_O_init (Cond.code zy_O_init zb_O_init 3 none :: zT) zm_iO (va_Pc [.ref h0] (zPi B [(h0, .inr (0, [.null, .null, .null, .int 0, .null, .null, .null, .null, .null, .null]))] sz)) (zQc B [(h0, .inr (0, [.null, .null, .null, .int 0, .null, .null, .null, .null, .null, .null]))] sz (ww_O B h0)) 184 12449 (va_A [(h0, .inr (0, [.null, .null, .null, .int 0, .null, .null, .null, .null, .null, .null]))] sz) := by
  refine zmeti (by decide) (Nat.le_of_ble_eq_true rfl) (fun p e s m args below meth c C hr hlk hnm hsz hP hD hS hK hX hst hA ls hl => ?_)
  have hAB := hB
  subst hsz
  generalize hAe : va_A [(h0, .inr (0, [.null, .null, .null, .int 0, .null, .null, .null, .null, .null, .null]))] s.heap.size = A at *
  have hl : lv_has ls 3 [(0, .ref h0)] := hl
  have hP : va_P B.1 zcl ([(h0, .inr (0, [.null, .null, .null, .int 0, .null, .null, .null, .null, .null, .null]))] ++ []) s.heap := hP
  have hD : va_D A ([(h0, .inr (0, [.null, .null, .null, .int 0, .null, .null, .null, .null, .null, .null]))] ++ []) := hD
  refine lv_aload_n C.1 C.2.1 zd_O_init_0 rfl (lv_at hl 0 rfl) ?_
  refine zo_obj C zk_30 zk_31 zk_32 hl.1 zd_O_init_1 (Nat.le_of_ble_eq_true rfl) (Nat.le_of_ble_eq_true rfl) ?_
  refine zr_bipush C zd_O_init_4 (by decide) ?_
  refine zr_bipush C zd_O_init_6 (by decide) ?_
  refine zi_mna (N := 12) (K := 120) C hK hX hP hD hS hA rfl rfl (by decide) (by decide) (Nat.le_of_ble_eq_true rfl) (Nat.le_of_ble_eq_true rfl) zk_33 zk_108 zd_O_init_8 (fun q8_0 H hP hD hS => ?_)
  refine W.widen (k := 13) (n := 1452) (Nat.le_of_ble_eq_true rfl) (Nat.le_of_ble_eq_true rfl) ?_
  refine lv_astore_n (lv' := [(1, .ref q8_0), (0, .ref h0)]) C.1 C.2.1 zd_O_init_12 rfl hl (by decide) rfl (fun ls hl => ?_)
  refine lv_aload_n C.1 C.2.1 zd_O_init_13 rfl (lv_at hl 1 rfl) ?_
  refine zi_new (ci := 3) (fs := [.int 0, .int 0, .int 0, .int 0, .int 0, .int 0, .int 0, .null, .null, .null, .null, .null, .null, .null, .null, .null, .null, .null]) C hK hP hD hS hA zh_I zt_I zt_I_ok zk_35 zk_36 zk_2 rfl zdv_I (Nat.le_of_ble_eq_true rfl) (Nat.le_of_ble_eq_true rfl) zd_O_init_14 (fun q14_1 H hP hD hS => ?_)
  refine W.widen (k := 14) (n := 1470) (Nat.le_of_ble_eq_true rfl) (Nat.le_of_ble_eq_true rfl) ?_
  refine lv_dup C.1 C.2.1 zd_O_init_17 rfl ?_
  refine lv_aload_n C.1 C.2.1 zd_O_init_18 rfl (lv_at hl 0 rfl) ?_
  refine zi_call (n := 1) (As := [.ref q8_0]) (rest := [.ref q14_1, .ref h0]) C hK hX hst hP hD hS hA hAB (fun hB => zin_I q14_1 q8_0 H.size hB) zk_39 zk_2 zk_37 zk_38 rfl ⟨by decide, by decide, by decide +kernel⟩ ⟨rfl, rfl, Nat.le_of_ble_eq_true rfl, Nat.le_of_ble_eq_true rfl⟩ ⟨Nat.le_of_ble_eq_true rfl, Nat.le_of_ble_eq_true rfl⟩ rfl hl.1 rfl (lv_room (Nat.le_of_ble_eq_true rfl)) zd_O_init_19 (fun u19_0 H locs hP hD hS => ?_)
  refine W.widen (k := 54) (n := 2372) (Nat.le_of_ble_eq_true rfl) (Nat.le_of_ble_eq_true rfl) ?_
  refine va_putF (ci := 0) (v := .ref q14_1) (ty := zt_O 0) (C := zR_O) (T := zF_O) (N := 10) C.1 C.2.1 C.2.2.2.2 zh_O zt_O zt_O_ok zn_O C.2.2.2.1 hK hP hD hS 0 rfl rfl 0 (by decide) (C.2.2.2.2 _ zk_492) (fun _ h9 => h9) rfl hnm rfl (zt_O_ok 0 (by decide)) rfl rfl (Nat.le_of_ble_eq_true rfl) zd_O_init_22 (fun H locs hP hD hS => ?_)
  replace hP := zset_P (P2 := [(h0, .inr (0, [.ref q14_1, .null, .null, .int 0, .null, .null, .null, .null, .null, .null]))]) (fun _ => rfl) hP
  replace hD := zset_D (P2 := [(h0, .inr (0, [.ref q14_1, .null, .null, .int 0, .null, .null, .null, .null, .null, .null]))]) (fun _ => rfl) hD
  refine lv_aload_n C.1 C.2.1 zd_O_init_25 rfl (lv_at hl 1 rfl) ?_
  refine zi_new (ci := 3) (fs := [.int 0, .int 0, .int 0, .int 0, .int 0, .int 0, .int 0, .null, .null, .null, .null, .null, .null, .null, .null, .null, .null, .null]) C hK hP hD hS hA zh_I zt_I zt_I_ok zk_35 zk_36 zk_2 rfl zdv_I (Nat.le_of_ble_eq_true rfl) (Nat.le_of_ble_eq_true rfl) zd_O_init_26 (fun q26_2 H hP hD hS => ?_)
  refine W.widen (k := 55) (n := 2390) (Nat.le_of_ble_eq_true rfl) (Nat.le_of_ble_eq_true rfl) ?_
  refine lv_dup C.1 C.2.1 zd_O_init_29 rfl ?_
  refine lv_aload_n C.1 C.2.1 zd_O_init_30 rfl (lv_at hl 0 rfl) ?_
  refine zi_call (n := 1) (As := [.ref q8_0]) (rest := [.ref q26_2, .ref h0]) C hK hX hst hP hD hS hA hAB (fun hB => zin_I q26_2 q8_0 H.size hB) zk_39 zk_2 zk_37 zk_38 rfl ⟨by decide, by decide, by decide +kernel⟩ ⟨rfl, rfl, Nat.le_of_ble_eq_true rfl, Nat.le_of_ble_eq_true rfl⟩ ⟨Nat.le_of_ble_eq_true rfl, Nat.le_of_ble_eq_true rfl⟩ rfl hl.1 rfl (lv_room (Nat.le_of_ble_eq_true rfl)) zd_O_init_31 (fun u31_1 H locs hP hD hS => ?_)
  refine W.widen (k := 95) (n := 3292) (Nat.le_of_ble_eq_true rfl) (Nat.le_of_ble_eq_true rfl) ?_
  refine va_putF (ci := 0) (v := .ref q26_2) (ty := zt_O 1) (C := zR_O) (T := zF_O) (N := 10) C.1 C.2.1 C.2.2.2.2 zh_O zt_O zt_O_ok zn_O C.2.2.2.1 hK hP hD hS 0 rfl rfl 1 (by decide) (C.2.2.2.2 _ zk_493) (fun _ h9 => h9) rfl hnm rfl (zt_O_ok 1 (by decide)) rfl rfl (Nat.le_of_ble_eq_true rfl) zd_O_init_34 (fun H locs hP hD hS => ?_)
  replace hP := zset_P (P2 := [(h0, .inr (0, [.ref q14_1, .ref q26_2, .null, .int 0, .null, .null, .null, .null, .null, .null]))]) (fun _ => rfl) hP
  replace hD := zset_D (P2 := [(h0, .inr (0, [.ref q14_1, .ref q26_2, .null, .int 0, .null, .null, .null, .null, .null, .null]))]) (fun _ => rfl) hD
  refine lv_aload_n C.1 C.2.1 zd_O_init_37 rfl (lv_at hl 1 rfl) ?_
  refine zi_new (ci := 3) (fs := [.int 0, .int 0, .int 0, .int 0, .int 0, .int 0, .int 0, .null, .null, .null, .null, .null, .null, .null, .null, .null, .null, .null]) C hK hP hD hS hA zh_I zt_I zt_I_ok zk_35 zk_36 zk_2 rfl zdv_I (Nat.le_of_ble_eq_true rfl) (Nat.le_of_ble_eq_true rfl) zd_O_init_38 (fun q38_3 H hP hD hS => ?_)
  refine W.widen (k := 96) (n := 3310) (Nat.le_of_ble_eq_true rfl) (Nat.le_of_ble_eq_true rfl) ?_
  refine lv_dup C.1 C.2.1 zd_O_init_41 rfl ?_
  refine lv_aload_n C.1 C.2.1 zd_O_init_42 rfl (lv_at hl 0 rfl) ?_
  refine zi_call (n := 1) (As := [.ref q8_0]) (rest := [.ref q38_3, .ref h0]) C hK hX hst hP hD hS hA hAB (fun hB => zin_I q38_3 q8_0 H.size hB) zk_39 zk_2 zk_37 zk_38 rfl ⟨by decide, by decide, by decide +kernel⟩ ⟨rfl, rfl, Nat.le_of_ble_eq_true rfl, Nat.le_of_ble_eq_true rfl⟩ ⟨Nat.le_of_ble_eq_true rfl, Nat.le_of_ble_eq_true rfl⟩ rfl hl.1 rfl (lv_room (Nat.le_of_ble_eq_true rfl)) zd_O_init_43 (fun u43_2 H locs hP hD hS => ?_)
  refine W.widen (k := 136) (n := 4212) (Nat.le_of_ble_eq_true rfl) (Nat.le_of_ble_eq_true rfl) ?_
  refine va_putF (ci := 0) (v := .ref q38_3) (ty := zt_O 2) (C := zR_O) (T := zF_O) (N := 10) C.1 C.2.1 C.2.2.2.2 zh_O zt_O zt_O_ok zn_O C.2.2.2.1 hK hP hD hS 0 rfl rfl 2 (by decide) (C.2.2.2.2 _ zk_494) (fun _ h9 => h9) rfl hnm rfl (zt_O_ok 2 (by decide)) rfl rfl (Nat.le_of_ble_eq_true rfl) zd_O_init_46 (fun H locs hP hD hS => ?_)
  replace hP := zset_P (P2 := [(h0, .inr (0, [.ref q14_1, .ref q26_2, .ref q38_3, .int 0, .null, .null, .null, .null, .null, .null]))]) (fun _ => rfl) hP
  replace hD := zset_D (P2 := [(h0, .inr (0, [.ref q14_1, .ref q26_2, .ref q38_3, .int 0, .null, .null, .null, .null, .null, .null]))]) (fun _ => rfl) hD
  refine lv_aload_n C.1 C.2.1 zd_O_init_49 rfl (lv_at hl 1 rfl) ?_
  refine zr_iconst C zd_O_init_50 ?_
  refine va_put (ci := 0) (v := .int (zI (0))) (ty := zt_O 3) (C := zR_O) (T := zF_O) (N := 10) C.1 C.2.1 C.2.2.2.2 zh_O zt_O zt_O_ok zn_O C.2.2.2.1 hK hP hD hS 0 rfl rfl 3 (by decide) (C.2.2.2.2 _ zk_495) (fun _ h9 => h9) rfl (zt_O_ok 3 (by decide)) rfl rfl (Nat.le_of_ble_eq_true rfl) zd_O_init_51 (fun H locs hP hD hS => ?_)
  replace hP := zset_P (P2 := [(h0, .inr (0, [.ref q14_1, .ref q26_2, .ref q38_3, .int (zI (0)), .null, .null, .null, .null, .null, .null]))]) (fun _ => rfl) hP
  replace hD := zset_D (P2 := [(h0, .inr (0, [.ref q14_1, .ref q26_2, .ref q38_3, .int (zI (0)), .null, .null, .null, .null, .null, .null]))]) (fun _ => rfl) hD
  refine lv_aload_n C.1 C.2.1 zd_O_init_54 rfl (lv_at hl 1 rfl) ?_
  refine zr_sipush C zd_O_init_55 (by decide) ?_
  refine zi_newi (N := 2000) C hK hP hD hS hA rfl (by decide) (Nat.le_of_ble_eq_true rfl) (Nat.le_of_ble_eq_true rfl) zk_108 zd_O_init_58 (fun q58_4 H hP hD hS => ?_)
  refine W.widen (k := 137) (n := 6212) (Nat.le_of_ble_eq_true rfl) (Nat.le_of_ble_eq_true rfl) ?_
  refine va_putF (ci := 0) (v := .ref q58_4) (ty := zt_O 4) (C := zR_O) (T := zF_O) (N := 10) C.1 C.2.1 C.2.2.2.2 zh_O zt_O zt_O_ok zn_O C.2.2.2.1 hK hP hD hS 0 rfl rfl 4 (by decide) (C.2.2.2.2 _ zk_496) (fun _ h9 => h9) rfl hnm rfl (zt_O_ok 4 (by decide)) rfl rfl (Nat.le_of_ble_eq_true rfl) zd_O_init_60 (fun H locs hP hD hS => ?_)
  replace hP := zset_P (P2 := [(h0, .inr (0, [.ref q14_1, .ref q26_2, .ref q38_3, .int (zI (0)), .ref q58_4, .null, .null, .null, .null, .null]))]) (fun _ => rfl) hP
  replace hD := zset_D (P2 := [(h0, .inr (0, [.ref q14_1, .ref q26_2, .ref q38_3, .int (zI (0)), .ref q58_4, .null, .null, .null, .null, .null]))]) (fun _ => rfl) hD
  refine lv_aload_n C.1 C.2.1 zd_O_init_63 rfl (lv_at hl 1 rfl) ?_
  refine zr_bipush C zd_O_init_64 (by decide) ?_
  refine zi_newq (N := 8) C hK hX hP hD hS hA rfl (by decide) (Nat.le_of_ble_eq_true rfl) (Nat.le_of_ble_eq_true rfl) zk_336 zd_O_init_66 (fun q66_5 H hP hD hS => ?_)
  refine W.widen (k := 138) (n := 6220) (Nat.le_of_ble_eq_true rfl) (Nat.le_of_ble_eq_true rfl) ?_
  have hP : va_P B.1 zcl ([(h0, .inr (0, [.ref q14_1, .ref q26_2, .ref q38_3, .int (zI (0)), .ref q58_4, .null, .null, .null, .null, .null])), (q66_5, eq B 3 8 (fun _ => none))] ++ _) H := hP
  have hD : va_D A ([(h0, .inr (0, [.ref q14_1, .ref q26_2, .ref q38_3, .int (zI (0)), .ref q58_4, .null, .null, .null, .null, .null])), (q66_5, eq B 3 8 (fun _ => none))] ++ _) := hD
  refine va_putF (ci := 0) (v := .ref q66_5) (ty := zt_O 5) (C := zR_O) (T := zF_O) (N := 10) C.1 C.2.1 C.2.2.2.2 zh_O zt_O zt_O_ok zn_O C.2.2.2.1 hK hP hD hS 0 rfl rfl 5 (by decide) (C.2.2.2.2 _ zk_497) (fun _ h9 => h9) rfl hnm rfl (zt_O_ok 5 (by decide)) rfl rfl (Nat.le_of_ble_eq_true rfl) zd_O_init_69 (fun H locs hP hD hS => ?_)
  replace hP := zset_P (P2 := [(h0, .inr (0, [.ref q14_1, .ref q26_2, .ref q38_3, .int (zI (0)), .ref q58_4, .ref q66_5, .null, .null, .null, .null])), (q66_5, eq B 3 8 (fun _ => none))]) (fun _ => rfl) hP
  replace hD := zset_D (P2 := [(h0, .inr (0, [.ref q14_1, .ref q26_2, .ref q38_3, .int (zI (0)), .ref q58_4, .ref q66_5, .null, .null, .null, .null])), (q66_5, eq B 3 8 (fun _ => none))]) (fun _ => rfl) hD
  refine zr_iconst C zd_O_init_72 ?_
  refine lv_istore_n (lv' := [(2, .int (zI (0))), (1, .ref q8_0), (0, .ref h0)]) C.1 C.2.1 zd_O_init_73 rfl hl (by decide) rfl (fun ls hl => ?_)
  refine lv_iload_n C.1 C.2.1 zd_O_init_74 rfl (lv_at hl 0 rfl) ?_
  refine zr_bipush C zd_O_init_75 (by decide) ?_
  refine zr_icmp_ge (tgt := 99) C (znb rfl) (znb rfl) zd_O_init_77 (by decide) (fun h => absurd h (by decide)) (fun _ => ?_)
  refine lv_aload_n C.1 C.2.1 zd_O_init_80 rfl (lv_at hl 2 rfl) ?_
  refine va_get (ci := 0) (v := .ref q66_5) (C := zR_O) (T := zF_O) (N := 10) C.1 C.2.1 C.2.2.2.2 zh_O C.2.2.2.1 hK hP 0 rfl rfl 5 (by decide) (C.2.2.2.2 _ zk_497) (fun _ h9 => h9) rfl zd_O_init_81 ?_
  refine lv_iload_n C.1 C.2.1 zd_O_init_84 rfl (lv_at hl 0 rfl) ?_
  refine zi_new (ci := 9) (fs := [.int 0, .int 0, .int 0, .int 0, .int 0, .int 0, .null]) C hK hP hD hS hA zh_S zt_S zt_S_ok zk_336 zk_338 zk_9 rfl zdv_S (Nat.le_of_ble_eq_true rfl) (Nat.le_of_ble_eq_true rfl) zd_O_init_85 (fun q85_6 H hP hD hS => ?_)
  refine W.widen (k := 139) (n := 6227) (Nat.le_of_ble_eq_true rfl) (Nat.le_of_ble_eq_true rfl) ?_
  refine lv_dup C.1 C.2.1 zd_O_init_88 rfl ?_
  refine zi_call (n := 0) (As := []) (rest := [.ref q85_6, .int (zI (0)), .ref q66_5]) C hK hX hst hP hD hS hA hAB (fun hB => zin_S q85_6 H.size hB) zk_341 zk_9 zk_339 zk_340 rfl ⟨by decide, by decide, by decide +kernel⟩ ⟨rfl, rfl, Nat.le_of_ble_eq_true rfl, Nat.le_of_ble_eq_true rfl⟩ ⟨Nat.le_of_ble_eq_true rfl, Nat.le_of_ble_eq_true rfl⟩ rfl hl.1 rfl (lv_room (Nat.le_of_ble_eq_true rfl)) zd_O_init_89 (fun u89_3 H locs hP hD hS => ?_)
  refine W.widen (k := 140) (n := 6347) (Nat.le_of_ble_eq_true rfl) (Nat.le_of_ble_eq_true rfl) ?_
  refine va_astq (r := (zR_S, zF_S, 7)) C.1 C.2.1 hK hP hD hS 1 3 2 9 rfl rfl rfl rfl (i := zI (0)) (zvp (n := 8) ⟨by decide, by decide⟩ (znb rfl)) zd_O_init_92 (fun H locs hP hD hS => ?_)
  replace hP := zset_P (P2 := [(h0, .inr (0, [.ref q14_1, .ref q26_2, .ref q38_3, .int (zI (0)), .ref q58_4, .ref q66_5, .null, .null, .null, .null])), (q66_5, eq B 3 8 (va_up (fun _ => none) 0 (some q85_6)))]) (fun _ => rfl) hP
  replace hD := zset_D (P2 := [(h0, .inr (0, [.ref q14_1, .ref q26_2, .ref q38_3, .int (zI (0)), .ref q58_4, .ref q66_5, .null, .null, .null, .null])), (q66_5, eq B 3 8 (va_up (fun _ => none) 0 (some q85_6)))]) (fun _ => rfl) hD
  refine lv_iinc (v := zI (1)) (lv' := [(2, .int (zI (1))), (1, .ref q8_0), (0, .ref h0)]) C.1 C.2.1 zd_O_init_93 hl (k := 0) rfl (by decide +kernel) (by decide) rfl (fun ls hl => ?_)
  refine lv_goto (tgt := 74) C.1 C.2.1 zd_O_init_96 (by decide) ?_
  refine lv_iload_n C.1 C.2.1 zd_O_init_74 rfl (lv_at hl 0 rfl) ?_
  refine zr_bipush C zd_O_init_75 (by decide) ?_
  refine zr_icmp_ge (tgt := 99) C (znb rfl) (znb rfl) zd_O_init_77 (by decide) (fun h => absurd h (by decide)) (fun _ => ?_)
  refine lv_aload_n C.1 C.2.1 zd_O_init_80 rfl (lv_at hl 2 rfl) ?_
  refine va_get (ci := 0) (v := .ref q66_5) (C := zR_O) (T := zF_O) (N := 10) C.1 C.2.1 C.2.2.2.2 zh_O C.2.2.2.1 hK hP 0 rfl rfl 5 (by decide) (C.2.2.2.2 _ zk_497) (fun _ h9 => h9) rfl zd_O_init_81 ?_
  refine lv_iload_n C.1 C.2.1 zd_O_init_84 rfl (lv_at hl 0 rfl) ?_
  refine zi_new (ci := 9) (fs := [.int 0, .int 0, .int 0, .int 0, .int 0, .int 0, .null]) C hK hP hD hS hA zh_S zt_S zt_S_ok zk_336 zk_338 zk_9 rfl zdv_S (Nat.le_of_ble_eq_true rfl) (Nat.le_of_ble_eq_true rfl) zd_O_init_85 (fun q85_7 H hP hD hS => ?_)
  refine W.widen (k := 141) (n := 6354) (Nat.le_of_ble_eq_true rfl) (Nat.le_of_ble_eq_true rfl) ?_
  refine lv_dup C.1 C.2.1 zd_O_init_88 rfl ?_
  refine zi_call (n := 0) (As := []) (rest := [.ref q85_7, .int (zI (1)), .ref q66_5]) C hK hX hst hP hD hS hA hAB (fun hB => zin_S q85_7 H.size hB) zk_341 zk_9 zk_339 zk_340 rfl ⟨by decide, by decide, by decide +kernel⟩ ⟨rfl, rfl, Nat.le_of_ble_eq_true rfl, Nat.le_of_ble_eq_true rfl⟩ ⟨Nat.le_of_ble_eq_true rfl, Nat.le_of_ble_eq_true rfl⟩ rfl hl.1 rfl (lv_room (Nat.le_of_ble_eq_true rfl)) zd_O_init_89 (fun u89_4 H locs hP hD hS => ?_)
  refine W.widen (k := 142) (n := 6474) (Nat.le_of_ble_eq_true rfl) (Nat.le_of_ble_eq_true rfl) ?_
  refine va_astq (r := (zR_S, zF_S, 7)) C.1 C.2.1 hK hP hD hS 1 3 2 9 rfl rfl rfl rfl (i := zI (1)) (zvp (n := 8) ⟨by decide, by decide⟩ (znb rfl)) zd_O_init_92 (fun H locs hP hD hS => ?_)
  replace hP := zset_P (P2 := [(h0, .inr (0, [.ref q14_1, .ref q26_2, .ref q38_3, .int (zI (0)), .ref q58_4, .ref q66_5, .null, .null, .null, .null])), (q66_5, eq B 3 8 (va_up (va_up (fun _ => none) 0 (some q85_6)) 1 (some q85_7)))]) (fun _ => rfl) hP
  replace hD := zset_D (P2 := [(h0, .inr (0, [.ref q14_1, .ref q26_2, .ref q38_3, .int (zI (0)), .ref q58_4, .ref q66_5, .null, .null, .null, .null])), (q66_5, eq B 3 8 (va_up (va_up (fun _ => none) 0 (some q85_6)) 1 (some q85_7)))]) (fun _ => rfl) hD
  refine lv_iinc (v := zI (2)) (lv' := [(2, .int (zI (2))), (1, .ref q8_0), (0, .ref h0)]) C.1 C.2.1 zd_O_init_93 hl (k := 0) rfl (by decide +kernel) (by decide) rfl (fun ls hl => ?_)
  refine lv_goto (tgt := 74) C.1 C.2.1 zd_O_init_96 (by decide) ?_
  refine lv_iload_n C.1 C.2.1 zd_O_init_74 rfl (lv_at hl 0 rfl) ?_
  refine zr_bipush C zd_O_init_75 (by decide) ?_
  refine zr_icmp_ge (tgt := 99) C (znb rfl) (znb rfl) zd_O_init_77 (by decide) (fun h => absurd h (by decide)) (fun _ => ?_)
  refine lv_aload_n C.1 C.2.1 zd_O_init_80 rfl (lv_at hl 2 rfl) ?_
  refine va_get (ci := 0) (v := .ref q66_5) (C := zR_O) (T := zF_O) (N := 10) C.1 C.2.1 C.2.2.2.2 zh_O C.2.2.2.1 hK hP 0 rfl rfl 5 (by decide) (C.2.2.2.2 _ zk_497) (fun _ h9 => h9) rfl zd_O_init_81 ?_
  refine lv_iload_n C.1 C.2.1 zd_O_init_84 rfl (lv_at hl 0 rfl) ?_
  refine zi_new (ci := 9) (fs := [.int 0, .int 0, .int 0, .int 0, .int 0, .int 0, .null]) C hK hP hD hS hA zh_S zt_S zt_S_ok zk_336 zk_338 zk_9 rfl zdv_S (Nat.le_of_ble_eq_true rfl) (Nat.le_of_ble_eq_true rfl) zd_O_init_85 (fun q85_8 H hP hD hS => ?_)
  refine W.widen (k := 143) (n := 6481) (Nat.le_of_ble_eq_true rfl) (Nat.le_of_ble_eq_true rfl) ?_
  refine lv_dup C.1 C.2.1 zd_O_init_88 rfl ?_
  refine zi_call (n := 0) (As := []) (rest := [.ref q85_8, .int (zI (2)), .ref q66_5]) C hK hX hst hP hD hS hA hAB (fun hB => zin_S q85_8 H.size hB) zk_341 zk_9 zk_339 zk_340 rfl ⟨by decide, by decide, by decide +kernel⟩ ⟨rfl, rfl, Nat.le_of_ble_eq_true rfl, Nat.le_of_ble_eq_true rfl⟩ ⟨Nat.le_of_ble_eq_true rfl, Nat.le_of_ble_eq_true rfl⟩ rfl hl.1 rfl (lv_room (Nat.le_of_ble_eq_true rfl)) zd_O_init_89 (fun u89_5 H locs hP hD hS => ?_)
  refine W.widen (k := 144) (n := 6601) (Nat.le_of_ble_eq_true rfl) (Nat.le_of_ble_eq_true rfl) ?_
  refine va_astq (r := (zR_S, zF_S, 7)) C.1 C.2.1 hK hP hD hS 1 3 2 9 rfl rfl rfl rfl (i := zI (2)) (zvp (n := 8) ⟨by decide, by decide⟩ (znb rfl)) zd_O_init_92 (fun H locs hP hD hS => ?_)
  replace hP := zset_P (P2 := [(h0, .inr (0, [.ref q14_1, .ref q26_2, .ref q38_3, .int (zI (0)), .ref q58_4, .ref q66_5, .null, .null, .null, .null])), (q66_5, eq B 3 8 (va_up (va_up (va_up (fun _ => none) 0 (some q85_6)) 1 (some q85_7)) 2 (some q85_8)))]) (fun _ => rfl) hP
  replace hD := zset_D (P2 := [(h0, .inr (0, [.ref q14_1, .ref q26_2, .ref q38_3, .int (zI (0)), .ref q58_4, .ref q66_5, .null, .null, .null, .null])), (q66_5, eq B 3 8 (va_up (va_up (va_up (fun _ => none) 0 (some q85_6)) 1 (some q85_7)) 2 (some q85_8)))]) (fun _ => rfl) hD
  refine lv_iinc (v := zI (3)) (lv' := [(2, .int (zI (3))), (1, .ref q8_0), (0, .ref h0)]) C.1 C.2.1 zd_O_init_93 hl (k := 0) rfl (by decide +kernel) (by decide) rfl (fun ls hl => ?_)
  refine lv_goto (tgt := 74) C.1 C.2.1 zd_O_init_96 (by decide) ?_
  refine lv_iload_n C.1 C.2.1 zd_O_init_74 rfl (lv_at hl 0 rfl) ?_
  refine zr_bipush C zd_O_init_75 (by decide) ?_
  refine zr_icmp_ge (tgt := 99) C (znb rfl) (znb rfl) zd_O_init_77 (by decide) (fun h => absurd h (by decide)) (fun _ => ?_)
  refine lv_aload_n C.1 C.2.1 zd_O_init_80 rfl (lv_at hl 2 rfl) ?_
  refine va_get (ci := 0) (v := .ref q66_5) (C := zR_O) (T := zF_O) (N := 10) C.1 C.2.1 C.2.2.2.2 zh_O C.2.2.2.1 hK hP 0 rfl rfl 5 (by decide) (C.2.2.2.2 _ zk_497) (fun _ h9 => h9) rfl zd_O_init_81 ?_
  refine lv_iload_n C.1 C.2.1 zd_O_init_84 rfl (lv_at hl 0 rfl) ?_
  refine zi_new (ci := 9) (fs := [.int 0, .int 0, .int 0, .int 0, .int 0, .int 0, .null]) C hK hP hD hS hA zh_S zt_S zt_S_ok zk_336 zk_338 zk_9 rfl zdv_S (Nat.le_of_ble_eq_true rfl) (Nat.le_of_ble_eq_true rfl) zd_O_init_85 (fun q85_9 H hP hD hS => ?_)
  refine W.widen (k := 145) (n := 6608) (Nat.le_of_ble_eq_true rfl) (Nat.le_of_ble_eq_true rfl) ?_
  refine lv_dup C.1 C.2.1 zd_O_init_88 rfl ?_
  refine zi_call (n := 0) (As := []) (rest := [.ref q85_9, .int (zI (3)), .ref q66_5]) C hK hX hst hP hD hS hA hAB (fun hB => zin_S q85_9 H.size hB) zk_341 zk_9 zk_339 zk_340 rfl ⟨by decide, by decide, by decide +kernel⟩ ⟨rfl, rfl, Nat.le_of_ble_eq_true rfl, Nat.le_of_ble_eq_true rfl⟩ ⟨Nat.le_of_ble_eq_true rfl, Nat.le_of_ble_eq_true rfl⟩ rfl hl.1 rfl (lv_room (Nat.le_of_ble_eq_true rfl)) zd_O_init_89 (fun u89_6 H locs hP hD hS => ?_)
  refine W.widen (k := 146) (n := 6728) (Nat.le_of_ble_eq_true rfl) (Nat.le_of_ble_eq_true rfl) ?_
  refine va_astq (r := (zR_S, zF_S, 7)) C.1 C.2.1 hK hP hD hS 1 3 2 9 rfl rfl rfl rfl (i := zI (3)) (zvp (n := 8) ⟨by decide, by decide⟩ (znb rfl)) zd_O_init_92 (fun H locs hP hD hS => ?_)
  replace hP := zset_P (P2 := [(h0, .inr (0, [.ref q14_1, .ref q26_2, .ref q38_3, .int (zI (0)), .ref q58_4, .ref q66_5, .null, .null, .null, .null])), (q66_5, eq B 3 8 (va_up (va_up (va_up (va_up (fun _ => none) 0 (some q85_6)) 1 (some q85_7)) 2 (some q85_8)) 3 (some q85_9)))]) (fun _ => rfl) hP
  replace hD := zset_D (P2 := [(h0, .inr (0, [.ref q14_1, .ref q26_2, .ref q38_3, .int (zI (0)), .ref q58_4, .ref q66_5, .null, .null, .null, .null])), (q66_5, eq B 3 8 (va_up (va_up (va_up (va_up (fun _ => none) 0 (some q85_6)) 1 (some q85_7)) 2 (some q85_8)) 3 (some q85_9)))]) (fun _ => rfl) hD
  refine lv_iinc (v := zI (4)) (lv' := [(2, .int (zI (4))), (1, .ref q8_0), (0, .ref h0)]) C.1 C.2.1 zd_O_init_93 hl (k := 0) rfl (by decide +kernel) (by decide) rfl (fun ls hl => ?_)
  refine lv_goto (tgt := 74) C.1 C.2.1 zd_O_init_96 (by decide) ?_
  refine lv_iload_n C.1 C.2.1 zd_O_init_74 rfl (lv_at hl 0 rfl) ?_
  refine zr_bipush C zd_O_init_75 (by decide) ?_
  refine zr_icmp_ge (tgt := 99) C (znb rfl) (znb rfl) zd_O_init_77 (by decide) (fun h => absurd h (by decide)) (fun _ => ?_)
  refine lv_aload_n C.1 C.2.1 zd_O_init_80 rfl (lv_at hl 2 rfl) ?_
  refine va_get (ci := 0) (v := .ref q66_5) (C := zR_O) (T := zF_O) (N := 10) C.1 C.2.1 C.2.2.2.2 zh_O C.2.2.2.1 hK hP 0 rfl rfl 5 (by decide) (C.2.2.2.2 _ zk_497) (fun _ h9 => h9) rfl zd_O_init_81 ?_
  refine lv_iload_n C.1 C.2.1 zd_O_init_84 rfl (lv_at hl 0 rfl) ?_
  refine zi_new (ci := 9) (fs := [.int 0, .int 0, .int 0, .int 0, .int 0, .int 0, .null]) C hK hP hD hS hA zh_S zt_S zt_S_ok zk_336 zk_338 zk_9 rfl zdv_S (Nat.le_of_ble_eq_true rfl) (Nat.le_of_ble_eq_true rfl) zd_O_init_85 (fun q85_10 H hP hD hS => ?_)
  refine W.widen (k := 147) (n := 6735) (Nat.le_of_ble_eq_true rfl) (Nat.le_of_ble_eq_true rfl) ?_
  refine lv_dup C.1 C.2.1 zd_O_init_88 rfl ?_
  refine zi_call (n := 0) (As := []) (rest := [.ref q85_10, .int (zI (4)), .ref q66_5]) C hK hX hst hP hD hS hA hAB (fun hB => zin_S q85_10 H.size hB) zk_341 zk_9 zk_339 zk_340 rfl ⟨by decide, by decide, by decide +kernel⟩ ⟨rfl, rfl, Nat.le_of_ble_eq_true rfl, Nat.le_of_ble_eq_true rfl⟩ ⟨Nat.le_of_ble_eq_true rfl, Nat.le_of_ble_eq_true rfl⟩ rfl hl.1 rfl (lv_room (Nat.le_of_ble_eq_true rfl)) zd_O_init_89 (fun u89_7 H locs hP hD hS => ?_)
  refine W.widen (k := 148) (n := 6855) (Nat.le_of_ble_eq_true rfl) (Nat.le_of_ble_eq_true rfl) ?_
  refine va_astq (r := (zR_S, zF_S, 7)) C.1 C.2.1 hK hP hD hS 1 3 2 9 rfl rfl rfl rfl (i := zI (4)) (zvp (n := 8) ⟨by decide, by decide⟩ (znb rfl)) zd_O_init_92 (fun H locs hP hD hS => ?_)
  replace hP := zset_P (P2 := [(h0, .inr (0, [.ref q14_1, .ref q26_2, .ref q38_3, .int (zI (0)), .ref q58_4, .ref q66_5, .null, .null, .null, .null])), (q66_5, eq B 3 8 (va_up (va_up (va_up (va_up (va_up (fun _ => none) 0 (some q85_6)) 1 (some q85_7)) 2 (some q85_8)) 3 (some q85_9)) 4 (some q85_10)))]) (fun _ => rfl) hP
  replace hD := zset_D (P2 := [(h0, .inr (0, [.ref q14_1, .ref q26_2, .ref q38_3, .int (zI (0)), .ref q58_4, .ref q66_5, .null, .null, .null, .null])), (q66_5, eq B 3 8 (va_up (va_up (va_up (va_up (va_up (fun _ => none) 0 (some q85_6)) 1 (some q85_7)) 2 (some q85_8)) 3 (some q85_9)) 4 (some q85_10)))]) (fun _ => rfl) hD
  refine lv_iinc (v := zI (5)) (lv' := [(2, .int (zI (5))), (1, .ref q8_0), (0, .ref h0)]) C.1 C.2.1 zd_O_init_93 hl (k := 0) rfl (by decide +kernel) (by decide) rfl (fun ls hl => ?_)
  refine lv_goto (tgt := 74) C.1 C.2.1 zd_O_init_96 (by decide) ?_
  refine lv_iload_n C.1 C.2.1 zd_O_init_74 rfl (lv_at hl 0 rfl) ?_
  refine zr_bipush C zd_O_init_75 (by decide) ?_
  refine zr_icmp_ge (tgt := 99) C (znb rfl) (znb rfl) zd_O_init_77 (by decide) (fun h => absurd h (by decide)) (fun _ => ?_)
  refine lv_aload_n C.1 C.2.1 zd_O_init_80 rfl (lv_at hl 2 rfl) ?_
  refine va_get (ci := 0) (v := .ref q66_5) (C := zR_O) (T := zF_O) (N := 10) C.1 C.2.1 C.2.2.2.2 zh_O C.2.2.2.1 hK hP 0 rfl rfl 5 (by decide) (C.2.2.2.2 _ zk_497) (fun _ h9 => h9) rfl zd_O_init_81 ?_
  refine lv_iload_n C.1 C.2.1 zd_O_init_84 rfl (lv_at hl 0 rfl) ?_
  refine zi_new (ci := 9) (fs := [.int 0, .int 0, .int 0, .int 0, .int 0, .int 0, .null]) C hK hP hD hS hA zh_S zt_S zt_S_ok zk_336 zk_338 zk_9 rfl zdv_S (Nat.le_of_ble_eq_true rfl) (Nat.le_of_ble_eq_true rfl) zd_O_init_85 (fun q85_11 H hP hD hS => ?_)
  refine W.widen (k := 149) (n := 6862) (Nat.le_of_ble_eq_true rfl) (Nat.le_of_ble_eq_true rfl) ?_
  refine lv_dup C.1 C.2.1 zd_O_init_88 rfl ?_
  refine zi_call (n := 0) (As := []) (rest := [.ref q85_11, .int (zI (5)), .ref q66_5]) C hK hX hst hP hD hS hA hAB (fun hB => zin_S q85_11 H.size hB) zk_341 zk_9 zk_339 zk_340 rfl ⟨by decide, by decide, by decide +kernel⟩ ⟨rfl, rfl, Nat.le_of_ble_eq_true rfl, Nat.le_of_ble_eq_true rfl⟩ ⟨Nat.le_of_ble_eq_true rfl, Nat.le_of_ble_eq_true rfl⟩ rfl hl.1 rfl (lv_room (Nat.le_of_ble_eq_true rfl)) zd_O_init_89 (fun u89_8 H locs hP hD hS => ?_)
  refine W.widen (k := 150) (n := 6982) (Nat.le_of_ble_eq_true rfl) (Nat.le_of_ble_eq_true rfl) ?_
  refine va_astq (r := (zR_S, zF_S, 7)) C.1 C.2.1 hK hP hD hS 1 3 2 9 rfl rfl rfl rfl (i := zI (5)) (zvp (n := 8) ⟨by decide, by decide⟩ (znb rfl)) zd_O_init_92 (fun H locs hP hD hS => ?_)
  replace hP := zset_P (P2 := [(h0, .inr (0, [.ref q14_1, .ref q26_2, .ref q38_3, .int (zI (0)), .ref q58_4, .ref q66_5, .null, .null, .null, .null])), (q66_5, eq B 3 8 (va_up (va_up (va_up (va_up (va_up (va_up (fun _ => none) 0 (some q85_6)) 1 (some q85_7)) 2 (some q85_8)) 3 (some q85_9)) 4 (some q85_10)) 5 (some q85_11)))]) (fun _ => rfl) hP
  replace hD := zset_D (P2 := [(h0, .inr (0, [.ref q14_1, .ref q26_2, .ref q38_3, .int (zI (0)), .ref q58_4, .ref q66_5, .null, .null, .null, .null])), (q66_5, eq B 3 8 (va_up (va_up (va_up (va_up (va_up (va_up (fun _ => none) 0 (some q85_6)) 1 (some q85_7)) 2 (some q85_8)) 3 (some q85_9)) 4 (some q85_10)) 5 (some q85_11)))]) (fun _ => rfl) hD
  refine lv_iinc (v := zI (6)) (lv' := [(2, .int (zI (6))), (1, .ref q8_0), (0, .ref h0)]) C.1 C.2.1 zd_O_init_93 hl (k := 0) rfl (by decide +kernel) (by decide) rfl (fun ls hl => ?_)
  refine lv_goto (tgt := 74) C.1 C.2.1 zd_O_init_96 (by decide) ?_
  refine lv_iload_n C.1 C.2.1 zd_O_init_74 rfl (lv_at hl 0 rfl) ?_
  refine zr_bipush C zd_O_init_75 (by decide) ?_
  refine zr_icmp_ge (tgt := 99) C (znb rfl) (znb rfl) zd_O_init_77 (by decide) (fun h => absurd h (by decide)) (fun _ => ?_)
  refine lv_aload_n C.1 C.2.1 zd_O_init_80 rfl (lv_at hl 2 rfl) ?_
  refine va_get (ci := 0) (v := .ref q66_5) (C := zR_O) (T := zF_O) (N := 10) C.1 C.2.1 C.2.2.2.2 zh_O C.2.2.2.1 hK hP 0 rfl rfl 5 (by decide) (C.2.2.2.2 _ zk_497) (fun _ h9 => h9) rfl zd_O_init_81 ?_
  refine lv_iload_n C.1 C.2.1 zd_O_init_84 rfl (lv_at hl 0 rfl) ?_
  refine zi_new (ci := 9) (fs := [.int 0, .int 0, .int 0, .int 0, .int 0, .int 0, .null]) C hK hP hD hS hA zh_S zt_S zt_S_ok zk_336 zk_338 zk_9 rfl zdv_S (Nat.le_of_ble_eq_true rfl) (Nat.le_of_ble_eq_true rfl) zd_O_init_85 (fun q85_12 H hP hD hS => ?_)
  refine W.widen (k := 151) (n := 6989) (Nat.le_of_ble_eq_true rfl) (Nat.le_of_ble_eq_true rfl) ?_
  refine lv_dup C.1 C.2.1 zd_O_init_88 rfl ?_
  refine zi_call (n := 0) (As := []) (rest := [.ref q85_12, .int (zI (6)), .ref q66_5]) C hK hX hst hP hD hS hA hAB (fun hB => zin_S q85_12 H.size hB) zk_341 zk_9 zk_339 zk_340 rfl ⟨by decide, by decide, by decide +kernel⟩ ⟨rfl, rfl, Nat.le_of_ble_eq_true rfl, Nat.le_of_ble_eq_true rfl⟩ ⟨Nat.le_of_ble_eq_true rfl, Nat.le_of_ble_eq_true rfl⟩ rfl hl.1 rfl (lv_room (Nat.le_of_ble_eq_true rfl)) zd_O_init_89 (fun u89_9 H locs hP hD hS => ?_)
  refine W.widen (k := 152) (n := 7109) (Nat.le_of_ble_eq_true rfl) (Nat.le_of_ble_eq_true rfl) ?_
  refine va_astq (r := (zR_S, zF_S, 7)) C.1 C.2.1 hK hP hD hS 1 3 2 9 rfl rfl rfl rfl (i := zI (6)) (zvp (n := 8) ⟨by decide, by decide⟩ (znb rfl)) zd_O_init_92 (fun H locs hP hD hS => ?_)
  replace hP := zset_P (P2 := [(h0, .inr (0, [.ref q14_1, .ref q26_2, .ref q38_3, .int (zI (0)), .ref q58_4, .ref q66_5, .null, .null, .null, .null])), (q66_5, eq B 3 8 (va_up (va_up (va_up (va_up (va_up (va_up (va_up (fun _ => none) 0 (some q85_6)) 1 (some q85_7)) 2 (some q85_8)) 3 (some q85_9)) 4 (some q85_10)) 5 (some q85_11)) 6 (some q85_12)))]) (fun _ => rfl) hP
  replace hD := zset_D (P2 := [(h0, .inr (0, [.ref q14_1, .ref q26_2, .ref q38_3, .int (zI (0)), .ref q58_4, .ref q66_5, .null, .null, .null, .null])), (q66_5, eq B 3 8 (va_up (va_up (va_up (va_up (va_up (va_up (va_up (fun _ => none) 0 (some q85_6)) 1 (some q85_7)) 2 (some q85_8)) 3 (some q85_9)) 4 (some q85_10)) 5 (some q85_11)) 6 (some q85_12)))]) (fun _ => rfl) hD
  refine lv_iinc (v := zI (7)) (lv' := [(2, .int (zI (7))), (1, .ref q8_0), (0, .ref h0)]) C.1 C.2.1 zd_O_init_93 hl (k := 0) rfl (by decide +kernel) (by decide) rfl (fun ls hl => ?_)
  refine lv_goto (tgt := 74) C.1 C.2.1 zd_O_init_96 (by decide) ?_
  refine lv_iload_n C.1 C.2.1 zd_O_init_74 rfl (lv_at hl 0 rfl) ?_
  refine zr_bipush C zd_O_init_75 (by decide) ?_
  refine zr_icmp_ge (tgt := 99) C (znb rfl) (znb rfl) zd_O_init_77 (by decide) (fun h => absurd h (by decide)) (fun _ => ?_)
  refine lv_aload_n C.1 C.2.1 zd_O_init_80 rfl (lv_at hl 2 rfl) ?_
  refine va_get (ci := 0) (v := .ref q66_5) (C := zR_O) (T := zF_O) (N := 10) C.1 C.2.1 C.2.2.2.2 zh_O C.2.2.2.1 hK hP 0 rfl rfl 5 (by decide) (C.2.2.2.2 _ zk_497) (fun _ h9 => h9) rfl zd_O_init_81 ?_
  refine lv_iload_n C.1 C.2.1 zd_O_init_84 rfl (lv_at hl 0 rfl) ?_
  refine zi_new (ci := 9) (fs := [.int 0, .int 0, .int 0, .int 0, .int 0, .int 0, .null]) C hK hP hD hS hA zh_S zt_S zt_S_ok zk_336 zk_338 zk_9 rfl zdv_S (Nat.le_of_ble_eq_true rfl) (Nat.le_of_ble_eq_true rfl) zd_O_init_85 (fun q85_13 H hP hD hS => ?_)
  refine W.widen (k := 153) (n := 7116) (Nat.le_of_ble_eq_true rfl) (Nat.le_of_ble_eq_true rfl) ?_
  refine lv_dup C.1 C.2.1 zd_O_init_88 rfl ?_
  refine zi_call (n := 0) (As := []) (rest := [.ref q85_13, .int (zI (7)), .ref q66_5]) C hK hX hst hP hD hS hA hAB (fun hB => zin_S q85_13 H.size hB) zk_341 zk_9 zk_339 zk_340 rfl ⟨by decide, by decide, by decide +kernel⟩ ⟨rfl, rfl, Nat.le_of_ble_eq_true rfl, Nat.le_of_ble_eq_true rfl⟩ ⟨Nat.le_of_ble_eq_true rfl, Nat.le_of_ble_eq_true rfl⟩ rfl hl.1 rfl (lv_room (Nat.le_of_ble_eq_true rfl)) zd_O_init_89 (fun u89_10 H locs hP hD hS => ?_)
  refine W.widen (k := 154) (n := 7236) (Nat.le_of_ble_eq_true rfl) (Nat.le_of_ble_eq_true rfl) ?_
  refine va_astq (r := (zR_S, zF_S, 7)) C.1 C.2.1 hK hP hD hS 1 3 2 9 rfl rfl rfl rfl (i := zI (7)) (zvp (n := 8) ⟨by decide, by decide⟩ (znb rfl)) zd_O_init_92 (fun H locs hP hD hS => ?_)
  replace hP := zset_P (P2 := [(h0, .inr (0, [.ref q14_1, .ref q26_2, .ref q38_3, .int (zI (0)), .ref q58_4, .ref q66_5, .null, .null, .null, .null])), (q66_5, eq B 3 8 (va_up (va_up (va_up (va_up (va_up (va_up (va_up (va_up (fun _ => none) 0 (some q85_6)) 1 (some q85_7)) 2 (some q85_8)) 3 (some q85_9)) 4 (some q85_10)) 5 (some q85_11)) 6 (some q85_12)) 7 (some q85_13)))]) (fun _ => rfl) hP
  replace hD := zset_D (P2 := [(h0, .inr (0, [.ref q14_1, .ref q26_2, .ref q38_3, .int (zI (0)), .ref q58_4, .ref q66_5, .null, .null, .null, .null])), (q66_5, eq B 3 8 (va_up (va_up (va_up (va_up (va_up (va_up (va_up (va_up (fun _ => none) 0 (some q85_6)) 1 (some q85_7)) 2 (some q85_8)) 3 (some q85_9)) 4 (some q85_10)) 5 (some q85_11)) 6 (some q85_12)) 7 (some q85_13)))]) (fun _ => rfl) hD
  refine lv_iinc (v := zI (8)) (lv' := [(2, .int (zI (8))), (1, .ref q8_0), (0, .ref h0)]) C.1 C.2.1 zd_O_init_93 hl (k := 0) rfl (by decide +kernel) (by decide) rfl (fun ls hl => ?_)
  refine lv_goto (tgt := 74) C.1 C.2.1 zd_O_init_96 (by decide) ?_
  refine lv_iload_n C.1 C.2.1 zd_O_init_74 rfl (lv_at hl 0 rfl) ?_
  refine zr_bipush C zd_O_init_75 (by decide) ?_
  refine zr_icmp_ge (tgt := 99) C (znb rfl) (znb rfl) zd_O_init_77 (by decide) (fun _ => ?_) (fun h => absurd (by decide) h)
  refine lv_aload_n C.1 C.2.1 zd_O_init_99 rfl (lv_at hl 2 rfl) ?_
  refine zi_new (ci := 8) (fs := [.int 0, .null, .int 0, .null, .int 0, .int 0, .int 0, .int 0]) C hK hP hD hS hA zh_R zt_R zt_R_ok zk_372 zk_373 zk_10 rfl zdv_R (Nat.le_of_ble_eq_true rfl) (Nat.le_of_ble_eq_true rfl) zd_O_init_100 (fun q100_14 H hP hD hS => ?_)
  refine W.widen (k := 155) (n := 7244) (Nat.le_of_ble_eq_true rfl) (Nat.le_of_ble_eq_true rfl) ?_
  refine lv_dup C.1 C.2.1 zd_O_init_103 rfl ?_
  refine zi_call (n := 0) (As := []) (rest := [.ref q100_14, .ref h0]) C hK hX hst hP hD hS hA hAB (fun hB => zin_R q100_14 H.size hB) zk_376 zk_10 zk_374 zk_375 rfl ⟨by decide, by decide, by decide +kernel⟩ ⟨rfl, rfl, Nat.le_of_ble_eq_true rfl, Nat.le_of_ble_eq_true rfl⟩ ⟨Nat.le_of_ble_eq_true rfl, Nat.le_of_ble_eq_true rfl⟩ rfl hl.1 rfl (lv_room (Nat.le_of_ble_eq_true rfl)) zd_O_init_104 (fun u104_11 H locs hP hD hS => ?_)
  refine W.widen (k := 157) (n := 7484) (Nat.le_of_ble_eq_true rfl) (Nat.le_of_ble_eq_true rfl) ?_
  refine va_putF (ci := 0) (v := .ref q100_14) (ty := zt_O 6) (C := zR_O) (T := zF_O) (N := 10) C.1 C.2.1 C.2.2.2.2 zh_O zt_O zt_O_ok zn_O C.2.2.2.1 hK hP hD hS 0 rfl rfl 6 (by decide) (C.2.2.2.2 _ zk_498) (fun _ h9 => h9) rfl hnm rfl (zt_O_ok 6 (by decide)) rfl rfl (Nat.le_of_ble_eq_true rfl) zd_O_init_107 (fun H locs hP hD hS => ?_)
  replace hP := zset_P (P2 := [(h0, .inr (0, [.ref q14_1, .ref q26_2, .ref q38_3, .int (zI (0)), .ref q58_4, .ref q66_5, .ref q100_14, .null, .null, .null])), (q66_5, eq B 3 8 (va_up (va_up (va_up (va_up (va_up (va_up (va_up (va_up (fun _ => none) 0 (some q85_6)) 1 (some q85_7)) 2 (some q85_8)) 3 (some q85_9)) 4 (some q85_10)) 5 (some q85_11)) 6 (some q85_12)) 7 (some q85_13)))]) (fun _ => rfl) hP
  replace hD := zset_D (P2 := [(h0, .inr (0, [.ref q14_1, .ref q26_2, .ref q38_3, .int (zI (0)), .ref q58_4, .ref q66_5, .ref q100_14, .null, .null, .null])), (q66_5, eq B 3 8 (va_up (va_up (va_up (va_up (va_up (va_up (va_up (va_up (fun _ => none) 0 (some q85_6)) 1 (some q85_7)) 2 (some q85_8)) 3 (some q85_9)) 4 (some q85_10)) 5 (some q85_11)) 6 (some q85_12)) 7 (some q85_13)))]) (fun _ => rfl) hD
  refine lv_aload_n C.1 C.2.1 zd_O_init_110 rfl (lv_at hl 2 rfl) ?_
  refine zi_new (ci := 4) (fs := [.null, .null, .int 0]) C hK hP hD hS hA zh_J zt_J zt_J_ok zk_406 zk_407 zk_11 rfl zdv_J (Nat.le_of_ble_eq_true rfl) (Nat.le_of_ble_eq_true rfl) zd_O_init_111 (fun q111_15 H hP hD hS => ?_)
  refine W.widen (k := 158) (n := 7487) (Nat.le_of_ble_eq_true rfl) (Nat.le_of_ble_eq_true rfl) ?_
  refine lv_dup C.1 C.2.1 zd_O_init_114 rfl ?_
  refine zi_call (n := 0) (As := []) (rest := [.ref q111_15, .ref h0]) C hK hX hst hP hD hS hA hAB (fun hB => zin_J q111_15 H.size hB) zk_410 zk_11 zk_408 zk_409 rfl ⟨by decide, by decide, by decide +kernel⟩ ⟨rfl, rfl, Nat.le_of_ble_eq_true rfl, Nat.le_of_ble_eq_true rfl⟩ ⟨Nat.le_of_ble_eq_true rfl, Nat.le_of_ble_eq_true rfl⟩ rfl hl.1 rfl (lv_room (Nat.le_of_ble_eq_true rfl)) zd_O_init_115 (fun u115_12 H locs hP hD hS => ?_)
  refine W.widen (k := 160) (n := 7614) (Nat.le_of_ble_eq_true rfl) (Nat.le_of_ble_eq_true rfl) ?_
  refine va_putF (ci := 0) (v := .ref q111_15) (ty := zt_O 7) (C := zR_O) (T := zF_O) (N := 10) C.1 C.2.1 C.2.2.2.2 zh_O zt_O zt_O_ok zn_O C.2.2.2.1 hK hP hD hS 0 rfl rfl 7 (by decide) (C.2.2.2.2 _ zk_499) (fun _ h9 => h9) rfl hnm rfl (zt_O_ok 7 (by decide)) rfl rfl (Nat.le_of_ble_eq_true rfl) zd_O_init_118 (fun H locs hP hD hS => ?_)
  replace hP := zset_P (P2 := [(h0, .inr (0, [.ref q14_1, .ref q26_2, .ref q38_3, .int (zI (0)), .ref q58_4, .ref q66_5, .ref q100_14, .ref q111_15, .null, .null])), (q66_5, eq B 3 8 (va_up (va_up (va_up (va_up (va_up (va_up (va_up (va_up (fun _ => none) 0 (some q85_6)) 1 (some q85_7)) 2 (some q85_8)) 3 (some q85_9)) 4 (some q85_10)) 5 (some q85_11)) 6 (some q85_12)) 7 (some q85_13)))]) (fun _ => rfl) hP
  replace hD := zset_D (P2 := [(h0, .inr (0, [.ref q14_1, .ref q26_2, .ref q38_3, .int (zI (0)), .ref q58_4, .ref q66_5, .ref q100_14, .ref q111_15, .null, .null])), (q66_5, eq B 3 8 (va_up (va_up (va_up (va_up (va_up (va_up (va_up (va_up (fun _ => none) 0 (some q85_6)) 1 (some q85_7)) 2 (some q85_8)) 3 (some q85_9)) 4 (some q85_10)) 5 (some q85_11)) 6 (some q85_12)) 7 (some q85_13)))]) (fun _ => rfl) hD
  refine lv_aload_n C.1 C.2.1 zd_O_init_121 rfl (lv_at hl 2 rfl) ?_
  refine zi_new (ci := 2) (fs := [.null, .null, .null, .null, .null, .int 0, .null, .null, .null]) C hK hP hD hS hA zh_C zt_C zt_C_ok zk_422 zk_423 zk_12 rfl zdv_C (Nat.le_of_ble_eq_true rfl) (Nat.le_of_ble_eq_true rfl) zd_O_init_122 (fun q122_16 H hP hD hS => ?_)
  refine W.widen (k := 161) (n := 7623) (Nat.le_of_ble_eq_true rfl) (Nat.le_of_ble_eq_true rfl) ?_
  refine lv_dup C.1 C.2.1 zd_O_init_125 rfl ?_
  refine zi_call (n := 0) (As := []) (rest := [.ref q122_16, .ref h0]) C hK hX hst hP hD hS hA hAB (fun hB => zin_C q122_16 H.size hB) zk_426 zk_12 zk_424 zk_425 rfl ⟨by decide, by decide, by decide +kernel⟩ ⟨rfl, rfl, Nat.le_of_ble_eq_true rfl, Nat.le_of_ble_eq_true rfl⟩ ⟨Nat.le_of_ble_eq_true rfl, Nat.le_of_ble_eq_true rfl⟩ rfl hl.1 rfl (lv_room (Nat.le_of_ble_eq_true rfl)) zd_O_init_126 (fun u126_13 H locs hP hD hS => ?_)
  refine W.widen (k := 178) (n := 12297) (Nat.le_of_ble_eq_true rfl) (Nat.le_of_ble_eq_true rfl) ?_
  refine va_putF (ci := 0) (v := .ref q122_16) (ty := zt_O 8) (C := zR_O) (T := zF_O) (N := 10) C.1 C.2.1 C.2.2.2.2 zh_O zt_O zt_O_ok zn_O C.2.2.2.1 hK hP hD hS 0 rfl rfl 8 (by decide) (C.2.2.2.2 _ zk_500) (fun _ h9 => h9) rfl hnm rfl (zt_O_ok 8 (by decide)) rfl rfl (Nat.le_of_ble_eq_true rfl) zd_O_init_129 (fun H locs hP hD hS => ?_)
  replace hP := zset_P (P2 := [(h0, .inr (0, [.ref q14_1, .ref q26_2, .ref q38_3, .int (zI (0)), .ref q58_4, .ref q66_5, .ref q100_14, .ref q111_15, .ref q122_16, .null])), (q66_5, eq B 3 8 (va_up (va_up (va_up (va_up (va_up (va_up (va_up (va_up (fun _ => none) 0 (some q85_6)) 1 (some q85_7)) 2 (some q85_8)) 3 (some q85_9)) 4 (some q85_10)) 5 (some q85_11)) 6 (some q85_12)) 7 (some q85_13)))]) (fun _ => rfl) hP
  replace hD := zset_D (P2 := [(h0, .inr (0, [.ref q14_1, .ref q26_2, .ref q38_3, .int (zI (0)), .ref q58_4, .ref q66_5, .ref q100_14, .ref q111_15, .ref q122_16, .null])), (q66_5, eq B 3 8 (va_up (va_up (va_up (va_up (va_up (va_up (va_up (va_up (fun _ => none) 0 (some q85_6)) 1 (some q85_7)) 2 (some q85_8)) 3 (some q85_9)) 4 (some q85_10)) 5 (some q85_11)) 6 (some q85_12)) 7 (some q85_13)))]) (fun _ => rfl) hD
  refine lv_aload_n C.1 C.2.1 zd_O_init_132 rfl (lv_at hl 2 rfl) ?_
  refine zi_new (ci := 1) (fs := [.null, .null, .null, .null, .null, .null, .null, .int 0]) C hK hP hD hS hA zh_A zt_A zt_A_ok zk_460 zk_461 zk_13 rfl zdv_A (Nat.le_of_ble_eq_true rfl) (Nat.le_of_ble_eq_true rfl) zd_O_init_133 (fun q133_17 H hP hD hS => ?_)
  refine W.widen (k := 179) (n := 12305) (Nat.le_of_ble_eq_true rfl) (Nat.le_of_ble_eq_true rfl) ?_
  refine lv_dup C.1 C.2.1 zd_O_init_136 rfl ?_
  refine lv_aload_n C.1 C.2.1 zd_O_init_137 rfl (lv_at hl 2 rfl) ?_
  refine va_get (ci := 0) (v := .ref q111_15) (C := zR_O) (T := zF_O) (N := 10) C.1 C.2.1 C.2.2.2.2 zh_O C.2.2.2.1 hK hP 0 rfl rfl 7 (by decide) (C.2.2.2.2 _ zk_499) (fun _ h9 => h9) rfl zd_O_init_138 ?_
  refine lv_aload_n C.1 C.2.1 zd_O_init_141 rfl (lv_at hl 2 rfl) ?_
  refine va_get (ci := 0) (v := .ref q122_16) (C := zR_O) (T := zF_O) (N := 10) C.1 C.2.1 C.2.2.2.2 zh_O C.2.2.2.1 hK hP 0 rfl rfl 8 (by decide) (C.2.2.2.2 _ zk_500) (fun _ h9 => h9) rfl zd_O_init_142 ?_
  refine zi_call (n := 2) (As := [.ref q111_15, .ref q122_16]) (rest := [.ref q133_17, .ref h0]) C hK hX hst hP hD hS hA hAB (fun hB => zin_A q133_17 q111_15 q122_16 H.size hB) zk_464 zk_13 zk_462 zk_463 rfl ⟨by decide, by decide, by decide +kernel⟩ ⟨rfl, rfl, Nat.le_of_ble_eq_true rfl, Nat.le_of_ble_eq_true rfl⟩ ⟨Nat.le_of_ble_eq_true rfl, Nat.le_of_ble_eq_true rfl⟩ rfl hl.1 rfl (lv_room (Nat.le_of_ble_eq_true rfl)) zd_O_init_145 (fun u145_14 H locs hP hD hS => ?_)
  refine W.widen (k := 184) (n := 12449) (Nat.le_of_ble_eq_true rfl) (Nat.le_of_ble_eq_true rfl) ?_
  refine va_putF (ci := 0) (v := .ref q133_17) (ty := zt_O 9) (C := zR_O) (T := zF_O) (N := 10) C.1 C.2.1 C.2.2.2.2 zh_O zt_O zt_O_ok zn_O C.2.2.2.1 hK hP hD hS 0 rfl rfl 9 (by decide) (C.2.2.2.2 _ zk_501) (fun _ h9 => h9) rfl hnm rfl (zt_O_ok 9 (by decide)) rfl rfl (Nat.le_of_ble_eq_true rfl) zd_O_init_148 (fun H locs hP hD hS => ?_)
  replace hP := zset_P (P2 := [(h0, .inr (0, [.ref q14_1, .ref q26_2, .ref q38_3, .int (zI (0)), .ref q58_4, .ref q66_5, .ref q100_14, .ref q111_15, .ref q122_16, .ref q133_17])), (q66_5, eq B 3 8 (va_up (va_up (va_up (va_up (va_up (va_up (va_up (va_up (fun _ => none) 0 (some q85_6)) 1 (some q85_7)) 2 (some q85_8)) 3 (some q85_9)) 4 (some q85_10)) 5 (some q85_11)) 6 (some q85_12)) 7 (some q85_13)))]) (fun _ => rfl) hP
  replace hD := zset_D (P2 := [(h0, .inr (0, [.ref q14_1, .ref q26_2, .ref q38_3, .int (zI (0)), .ref q58_4, .ref q66_5, .ref q100_14, .ref q111_15, .ref q122_16, .ref q133_17])), (q66_5, eq B 3 8 (va_up (va_up (va_up (va_up (va_up (va_up (va_up (va_up (fun _ => none) 0 (some q85_6)) 1 (some q85_7)) 2 (some q85_8)) 3 (some q85_9)) 4 (some q85_10)) 5 (some q85_11)) 6 (some q85_12)) 7 (some q85_13)))]) (fun _ => rfl) hD
  have hP : va_P B.1 zcl (ww_O B h0 ((fun i => [q8_0, q14_1, q26_2, q38_3, q58_4, q66_5, q85_6, q85_7, q85_8, q85_9, q85_10, q85_11, q85_12, q85_13, q100_14, q111_15, q122_16, q133_17].getD i 0), u19_0, u31_1, u43_2, u89_3, u89_4, u89_5, u89_6, u89_7, u89_8, u89_9, u89_10, u104_11, u115_12, u126_13, u145_14)) H := hP
  have hD : va_D A (ww_O B h0 ((fun i => [q8_0, q14_1, q26_2, q38_3, q58_4, q66_5, q85_6, q85_7, q85_8, q85_9, q85_10, q85_11, q85_12, q85_13, q100_14, q111_15, q122_16, q133_17].getD i 0), u19_0, u31_1, u43_2, u89_3, u89_4, u89_5, u89_6, u89_7, u89_8, u89_9, u89_10, u104_11, u115_12, u126_13, u145_14)) := hD
  exact zi_end2 (w := ww_O B h0) (u := ((fun i => [q8_0, q14_1, q26_2, q38_3, q58_4, q66_5, q85_6, q85_7, q85_8, q85_9, q85_10, q85_11, q85_12, q85_13, q100_14, q111_15, q122_16, q133_17].getD i 0), u19_0, u31_1, u43_2, u89_3, u89_4, u89_5, u89_6, u89_7, u89_8, u89_9, u89_10, u104_11, u115_12, u126_13, u145_14)) (cells := 184) (slots := 12449) C hr hlk hAe hP hD hS zd_O_init_151
