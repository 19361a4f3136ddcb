/-! IslandOfficeModel$World.step()V -/
abbrev zy_W_step : MethodName := ⟨"IslandOfficeModel$World", "step", "()V"⟩
abbrev zb_W_step : ByteArray := prog_15_method_53_code
abbrev zm_W_step : Room := { frames := 397, cells := 0, slots := 0, locals := 8606 }
theorem zq_W_step : zMy zy_W_step zb_W_step 3 (none) 0 := ⟨zk_1906, zk_1904, zk_1905, zk_15, by decide, by decide, by decide +kernel⟩
theorem zd_W_step_0 : decode zb_W_step 0 = .ok (.iconst 0, 1) := by decide +kernel
theorem zd_W_step_1 : decode zb_W_step 1 = .ok (.istore_n 1, 1) := by decide +kernel
theorem zd_W_step_2 : decode zb_W_step 2 = .ok (.iload_n 1, 1) := by decide +kernel
theorem zd_W_step_3 : decode zb_W_step 3 = .ok (.aload_n 0, 1) := by decide +kernel
theorem zd_W_step_4 : decode zb_W_step 4 = .ok (.getfield 158, 3) := by decide +kernel
theorem zd_W_step_7 : decode zb_W_step 7 = .ok (.if_icmp .ge 38, 3) := by decide +kernel
theorem zd_W_step_10 : decode zb_W_step 10 = .ok (.aload_n 0, 1) := by decide +kernel
theorem zd_W_step_11 : decode zb_W_step 11 = .ok (.iload_n 1, 1) := by decide +kernel
theorem zd_W_step_12 : decode zb_W_step 12 = .ok (.invokevirtual 193, 3) := by decide +kernel
theorem zd_W_step_15 : decode zb_W_step 15 = .ok (.iconst 5, 1) := by decide +kernel
theorem zd_W_step_16 : decode zb_W_step 16 = .ok (.if_icmp .ne 23, 3) := by decide +kernel
theorem zd_W_step_19 : decode zb_W_step 19 = .ok (.aload_n 0, 1) := by decide +kernel
theorem zd_W_step_20 : decode zb_W_step 20 = .ok (.getfield 27, 3) := by decide +kernel
theorem zd_W_step_23 : decode zb_W_step 23 = .ok (.iload_n 1, 1) := by decide +kernel
theorem zd_W_step_24 : decode zb_W_step 24 = .ok (.iaload, 1) := by decide +kernel
theorem zd_W_step_25 : decode zb_W_step 25 = .ok (.aload_n 0, 1) := by decide +kernel
theorem zd_W_step_26 : decode zb_W_step 26 = .ok (.getfield 155, 3) := by decide +kernel
theorem zd_W_step_29 : decode zb_W_step 29 = .ok (.if_icmp .gt 10, 3) := by decide +kernel
theorem zd_W_step_32 : decode zb_W_step 32 = .ok (.aload_n 0, 1) := by decide +kernel
theorem zd_W_step_33 : decode zb_W_step 33 = .ok (.getfield 24, 3) := by decide +kernel
theorem zd_W_step_36 : decode zb_W_step 36 = .ok (.iload_n 1, 1) := by decide +kernel
theorem zd_W_step_37 : decode zb_W_step 37 = .ok (.iconst 2, 1) := by decide +kernel
theorem zd_W_step_38 : decode zb_W_step 38 = .ok (.iastore, 1) := by decide +kernel
theorem zd_W_step_39 : decode zb_W_step 39 = .ok (.iinc 1 1, 3) := by decide +kernel
theorem zd_W_step_42 : decode zb_W_step 42 = .ok (.goto (-40), 3) := by decide +kernel
theorem zd_W_step_45 : decode zb_W_step 45 = .ok (.aload_n 0, 1) := by decide +kernel
theorem zd_W_step_46 : decode zb_W_step 46 = .ok (.invokevirtual 360, 3) := by decide +kernel
theorem zd_W_step_49 : decode zb_W_step 49 = .ok (.aload_n 0, 1) := by decide +kernel
theorem zd_W_step_50 : decode zb_W_step 50 = .ok (.invokevirtual 363, 3) := by decide +kernel
theorem zd_W_step_53 : decode zb_W_step 53 = .ok (.aload_n 0, 1) := by decide +kernel
theorem zd_W_step_54 : decode zb_W_step 54 = .ok (.invokevirtual 366, 3) := by decide +kernel
theorem zd_W_step_57 : decode zb_W_step 57 = .ok (.istore_n 1, 1) := by decide +kernel
theorem zd_W_step_58 : decode zb_W_step 58 = .ok (.aload_n 0, 1) := by decide +kernel
theorem zd_W_step_59 : decode zb_W_step 59 = .ok (.invokevirtual 369, 3) := by decide +kernel
theorem zd_W_step_62 : decode zb_W_step 62 = .ok (.istore_n 2, 1) := by decide +kernel
theorem zd_W_step_63 : decode zb_W_step 63 = .ok (.aload_n 0, 1) := by decide +kernel
theorem zd_W_step_64 : decode zb_W_step 64 = .ok (.invokevirtual 372, 3) := by decide +kernel
theorem zd_W_step_67 : decode zb_W_step 67 = .ok (.aload_n 0, 1) := by decide +kernel
theorem zd_W_step_68 : decode zb_W_step 68 = .ok (.invokevirtual 375, 3) := by decide +kernel
theorem zd_W_step_71 : decode zb_W_step 71 = .ok (.aload_n 0, 1) := by decide +kernel
theorem zd_W_step_72 : decode zb_W_step 72 = .ok (.invokevirtual 378, 3) := by decide +kernel
theorem zd_W_step_75 : decode zb_W_step 75 = .ok (.aload_n 0, 1) := by decide +kernel
theorem zd_W_step_76 : decode zb_W_step 76 = .ok (.getfield 155, 3) := by decide +kernel
theorem zd_W_step_79 : decode zb_W_step 79 = .ok (.iconst 4, 1) := by decide +kernel
theorem zd_W_step_80 : decode zb_W_step 80 = .ok (.irem, 1) := by decide +kernel
theorem zd_W_step_81 : decode zb_W_step 81 = .ok (.iconst 3, 1) := by decide +kernel
theorem zd_W_step_82 : decode zb_W_step 82 = .ok (.if_icmp .ne 7, 3) := by decide +kernel
theorem zd_W_step_85 : decode zb_W_step 85 = .ok (.aload_n 0, 1) := by decide +kernel
theorem zd_W_step_86 : decode zb_W_step 86 = .ok (.invokevirtual 381, 3) := by decide +kernel
theorem zd_W_step_89 : decode zb_W_step 89 = .ok (.iload_n 2, 1) := by decide +kernel
theorem zd_W_step_90 : decode zb_W_step 90 = .ok (.ifCond .eq 7, 3) := by decide +kernel
theorem zd_W_step_93 : decode zb_W_step 93 = .ok (.aload_n 0, 1) := by decide +kernel
theorem zd_W_step_94 : decode zb_W_step 94 = .ok (.invokevirtual 384, 3) := by decide +kernel
theorem zd_W_step_97 : decode zb_W_step 97 = .ok (.aload_n 0, 1) := by decide +kernel
theorem zd_W_step_98 : decode zb_W_step 98 = .ok (.getfield 126, 3) := by decide +kernel
theorem zd_W_step_101 : decode zb_W_step 101 = .ok (.iconst 0, 1) := by decide +kernel
theorem zd_W_step_102 : decode zb_W_step 102 = .ok (.aaload, 1) := by decide +kernel
theorem zd_W_step_103 : decode zb_W_step 103 = .ok (.aload_n 0, 1) := by decide +kernel
theorem zd_W_step_104 : decode zb_W_step 104 = .ok (.getfield 155, 3) := by decide +kernel
theorem zd_W_step_107 : decode zb_W_step 107 = .ok (.aload_n 0, 1) := by decide +kernel
theorem zd_W_step_108 : decode zb_W_step 108 = .ok (.iconst 0, 1) := by decide +kernel
theorem zd_W_step_109 : decode zb_W_step 109 = .ok (.invokevirtual 347, 3) := by decide +kernel
theorem zd_W_step_112 : decode zb_W_step 112 = .ok (.iastore, 1) := by decide +kernel
theorem zd_W_step_113 : decode zb_W_step 113 = .ok (.aload_n 0, 1) := by decide +kernel
theorem zd_W_step_114 : decode zb_W_step 114 = .ok (.getfield 126, 3) := by decide +kernel
theorem zd_W_step_117 : decode zb_W_step 117 = .ok (.iconst 1, 1) := by decide +kernel
theorem zd_W_step_118 : decode zb_W_step 118 = .ok (.aaload, 1) := by decide +kernel
theorem zd_W_step_119 : decode zb_W_step 119 = .ok (.aload_n 0, 1) := by decide +kernel
theorem zd_W_step_120 : decode zb_W_step 120 = .ok (.getfield 155, 3) := by decide +kernel
theorem zd_W_step_123 : decode zb_W_step 123 = .ok (.aload_n 0, 1) := by decide +kernel
theorem zd_W_step_124 : decode zb_W_step 124 = .ok (.iconst 1, 1) := by decide +kernel
theorem zd_W_step_125 : decode zb_W_step 125 = .ok (.invokevirtual 347, 3) := by decide +kernel
theorem zd_W_step_128 : decode zb_W_step 128 = .ok (.iastore, 1) := by decide +kernel
theorem zd_W_step_129 : decode zb_W_step 129 = .ok (.aload_n 0, 1) := by decide +kernel
theorem zd_W_step_130 : decode zb_W_step 130 = .ok (.getfield 126, 3) := by decide +kernel
theorem zd_W_step_133 : decode zb_W_step 133 = .ok (.iconst 2, 1) := by decide +kernel
theorem zd_W_step_134 : decode zb_W_step 134 = .ok (.aaload, 1) := by decide +kernel
theorem zd_W_step_135 : decode zb_W_step 135 = .ok (.aload_n 0, 1) := by decide +kernel
theorem zd_W_step_136 : decode zb_W_step 136 = .ok (.getfield 155, 3) := by decide +kernel
theorem zd_W_step_139 : decode zb_W_step 139 = .ok (.aload_n 0, 1) := by decide +kernel
theorem zd_W_step_140 : decode zb_W_step 140 = .ok (.getfield 93, 3) := by decide +kernel
theorem zd_W_step_143 : decode zb_W_step 143 = .ok (.iconst 0, 1) := by decide +kernel
theorem zd_W_step_144 : decode zb_W_step 144 = .ok (.iaload, 1) := by decide +kernel
theorem zd_W_step_145 : decode zb_W_step 145 = .ok (.iastore, 1) := by decide +kernel
theorem zd_W_step_146 : decode zb_W_step 146 = .ok (.aload_n 0, 1) := by decide +kernel
theorem zd_W_step_147 : decode zb_W_step 147 = .ok (.getfield 126, 3) := by decide +kernel
theorem zd_W_step_150 : decode zb_W_step 150 = .ok (.iconst 3, 1) := by decide +kernel
theorem zd_W_step_151 : decode zb_W_step 151 = .ok (.aaload, 1) := by decide +kernel
theorem zd_W_step_152 : decode zb_W_step 152 = .ok (.aload_n 0, 1) := by decide +kernel
theorem zd_W_step_153 : decode zb_W_step 153 = .ok (.getfield 155, 3) := by decide +kernel
theorem zd_W_step_156 : decode zb_W_step 156 = .ok (.aload_n 0, 1) := by decide +kernel
theorem zd_W_step_157 : decode zb_W_step 157 = .ok (.getfield 174, 3) := by decide +kernel
theorem zd_W_step_160 : decode zb_W_step 160 = .ok (.iastore, 1) := by decide +kernel
theorem zd_W_step_161 : decode zb_W_step 161 = .ok (.aload_n 0, 1) := by decide +kernel
theorem zd_W_step_162 : decode zb_W_step 162 = .ok (.getfield 126, 3) := by decide +kernel
theorem zd_W_step_165 : decode zb_W_step 165 = .ok (.iconst 4, 1) := by decide +kernel
theorem zd_W_step_166 : decode zb_W_step 166 = .ok (.aaload, 1) := by decide +kernel
theorem zd_W_step_167 : decode zb_W_step 167 = .ok (.aload_n 0, 1) := by decide +kernel
theorem zd_W_step_168 : decode zb_W_step 168 = .ok (.getfield 155, 3) := by decide +kernel
theorem zd_W_step_171 : decode zb_W_step 171 = .ok (.iload_n 1, 1) := by decide +kernel
theorem zd_W_step_172 : decode zb_W_step 172 = .ok (.iastore, 1) := by decide +kernel
theorem zd_W_step_173 : decode zb_W_step 173 = .ok (.aload_n 0, 1) := by decide +kernel
theorem zd_W_step_174 : decode zb_W_step 174 = .ok (.dup, 1) := by decide +kernel
theorem zd_W_step_175 : decode zb_W_step 175 = .ok (.getfield 155, 3) := by decide +kernel
theorem zd_W_step_178 : decode zb_W_step 178 = .ok (.iconst 1, 1) := by decide +kernel
theorem zd_W_step_179 : decode zb_W_step 179 = .ok (.iadd, 1) := by decide +kernel
theorem zd_W_step_180 : decode zb_W_step 180 = .ok (.putfield 155, 3) := by decide +kernel
theorem zd_W_step_183 : decode zb_W_step 183 = .ok (.return_, 1) := by decide +kernel

def zf_W_step_97 (r0 : Int) (x1 : Int) (S : Sg) : Option (Int × Sg) :=
    zbd (zf_W_inState (r0) 0 S) fun a1 S2 => zck (0 ≤ (S 5 r0 0 0) ∧ (S 5 r0 0 0) < 401) <| zlt (zu S2 8 r0 0 (S 5 r0 0 0) a1) fun S5 => zbd (zf_W_inState (r0) 1 S5) fun a6 S7 => zck (0 ≤ (S5 5 r0 0 0) ∧ (S5 5 r0 0 0) < 401) <| zlt (zu S7 8 r0 1 (S5 5 r0 0 0) a6) fun S10 => zck (0 ≤ (S10 5 r0 0 0) ∧ (S10 5 r0 0 0) < 401) <| zlt (zu S10 8 r0 2 (S10 5 r0 0 0) (S10 5 r0 25 0)) fun S12 => zck (0 ≤ (S12 5 r0 0 0) ∧ (S12 5 r0 0 0) < 401) <| zlt (zu S12 8 r0 3 (S12 5 r0 0 0) (S12 5 r0 0 38)) fun S14 => zck (0 ≤ (S14 5 r0 0 0) ∧ (S14 5 r0 0 0) < 401) <| zlt (zu S14 8 r0 4 (S14 5 r0 0 0) x1) fun S16 => zlt (zu S16 5 r0 0 0 (zw ((S16 5 r0 0 0) + 1))) fun S17 => some (0, S17)
set_option maxHeartbeats 4000000 in
set_option maxRecDepth 100000 in
theorem zw_W_step_97 {p : Program} {l : Launch} {e : Env} {s : State} {m : MethodId} {args : Array Value} {below : List Frame} {meth : Method} {c : Code} {B : zB} (C : CallFix p m c zb_W_step 3 s args zT "IslandOfficeModel$World") (hr : meth.sig.returnType = none) (hlk : meth.locks = false) (hK : zK B s) (hSt : zSt B s) (hap : zAp B) (r0 : Int) (hr0 : 0 ≤ r0 ∧ r0 < 3) {res : Int} {S9 : Sg} : ∀ (x1 : Int) (S : Sg) (nx1 : zn x1), zf_W_step_97 r0 x1 S = some (res, S9) → ∀ (H : Heap) (locs : List Loc) (ls : Array Slot), zW B S H → va_S B.2.2.2 s.heap H locs → lv_has ls 3 [(0, .ref (B.2.1 5 (r0) (0))), (1, .int (zI (x1)))] → W p l e zm_W_step s m args below meth c H locs 0 0 (MQ below (zQv B S9) args s 0 0 B.2.2.2) (F0 m 97 ls []) := by
  intro x1 S nx1 hf H locs ls hW hS hl
  unfold zf_W_step_97 at hf
  refine lv_aload_n C.1 C.2.1 zd_W_step_97 rfl (lv_at hl 0 rfl) ?_
  refine zg_W_record (r := r0) C hK hW (zvd_5 hr0 (by decide)) zk_1365 zd_W_step_98 ?_
  refine zr_iconst C zd_W_step_101 ?_
  refine zaald (t0 := 4) C hK hW (zvd_5 hr0 (by decide)) (fun f => ze_5_43 B f (r0)) rfl rfl (by decide) (by decide) zd_W_step_102 (a := B.2.1 8 (r0) (0)) rfl ?_
  refine lv_aload_n C.1 C.2.1 zd_W_step_103 rfl (lv_at hl 0 rfl) ?_
  refine zg_W_week (r := r0) C hK hW (zvd_5 hr0 (by decide)) zk_1275 zd_W_step_104 ?_
  refine lv_aload_n C.1 C.2.1 zd_W_step_107 rfl (lv_at hl 0 rfl) ?_
  refine zr_iconst C zd_W_step_108 ?_
  have w3 : zn (S 5 r0 0 0) := (zWn hW _ _ _ _ rfl)
  obtain ⟨a1, S2, ea1, hf⟩ := zbd_some hf
  refine zcVi (As := [.int (zI (0))]) (rest := [.int (zI (S 5 r0 0 0)), .ref (B.2.1 8 (r0) (0))]) C hK hSt hW hS (zc_W_inState hap (r0) hr0 0 S (znb rfl) ea1) zq_W_inState zk_1963 (zrecv hK hW (zvd_5 hr0 (by decide)) (ze_5_0 B _ (r0)) rfl) ⟨rfl, rfl, by decide, by decide⟩ ⟨Nat.zero_le _, Nat.zero_le _⟩ rfl hl.1 rfl (lv_room (Nat.le_of_ble_eq_true rfl)) zd_W_step_109 (fun na1 H locs hW hS => ?_)
  obtain ⟨h4, hf⟩ := zck_some hf
  obtain ⟨S5, eS5, hf⟩ := zlt_some hf
  refine ziast C hK hap hW hS (zvd_8 hr0 (by decide)) (fun f => ze_8 B f (r0) (0)) (by decide) rfl na1 h4 zd_W_step_112 (fun H locs hW hS => ?_)
  rw [eS5] at hW
  refine lv_aload_n C.1 C.2.1 zd_W_step_113 rfl (lv_at hl 0 rfl) ?_
  refine zg_W_record (r := r0) C hK hW (zvd_5 hr0 (by decide)) zk_1365 zd_W_step_114 ?_
  refine zr_iconst C zd_W_step_117 ?_
  refine zaald (t0 := 4) C hK hW (zvd_5 hr0 (by decide)) (fun f => ze_5_43 B f (r0)) rfl rfl (by decide) (by decide) zd_W_step_118 (a := B.2.1 8 (r0) (1)) rfl ?_
  refine lv_aload_n C.1 C.2.1 zd_W_step_119 rfl (lv_at hl 0 rfl) ?_
  refine zg_W_week (r := r0) C hK hW (zvd_5 hr0 (by decide)) zk_1275 zd_W_step_120 ?_
  refine lv_aload_n C.1 C.2.1 zd_W_step_123 rfl (lv_at hl 0 rfl) ?_
  refine zr_iconst C zd_W_step_124 ?_
  have w8 : zn (S5 5 r0 0 0) := (zWn hW _ _ _ _ rfl)
  obtain ⟨a6, S7, ea6, hf⟩ := zbd_some hf
  refine zcVi (As := [.int (zI (1))]) (rest := [.int (zI (S5 5 r0 0 0)), .ref (B.2.1 8 (r0) (1))]) C hK hSt hW hS (zc_W_inState hap (r0) hr0 1 S5 (znb rfl) ea6) zq_W_inState zk_1963 (zrecv hK hW (zvd_5 hr0 (by decide)) (ze_5_0 B _ (r0)) rfl) ⟨rfl, rfl, by decide, by decide⟩ ⟨Nat.zero_le _, Nat.zero_le _⟩ rfl hl.1 rfl (lv_room (Nat.le_of_ble_eq_true rfl)) zd_W_step_125 (fun na6 H locs hW hS => ?_)
  obtain ⟨h9, hf⟩ := zck_some hf
  obtain ⟨S10, eS10, hf⟩ := zlt_some hf
  refine ziast C hK hap hW hS (zvd_8 hr0 (by decide)) (fun f => ze_8 B f (r0) (1)) (by decide) rfl na6 h9 zd_W_step_128 (fun H locs hW hS => ?_)
  rw [eS10] at hW
  refine lv_aload_n C.1 C.2.1 zd_W_step_129 rfl (lv_at hl 0 rfl) ?_
  refine zg_W_record (r := r0) C hK hW (zvd_5 hr0 (by decide)) zk_1365 zd_W_step_130 ?_
  refine zr_iconst C zd_W_step_133 ?_
  refine zaald (t0 := 4) C hK hW (zvd_5 hr0 (by decide)) (fun f => ze_5_43 B f (r0)) rfl rfl (by decide) (by decide) zd_W_step_134 (a := B.2.1 8 (r0) (2)) rfl ?_
  refine lv_aload_n C.1 C.2.1 zd_W_step_135 rfl (lv_at hl 0 rfl) ?_
  refine zg_W_week (r := r0) C hK hW (zvd_5 hr0 (by decide)) zk_1275 zd_W_step_136 ?_
  refine lv_aload_n C.1 C.2.1 zd_W_step_139 rfl (lv_at hl 0 rfl) ?_
  refine zg_W_store (r := r0) C hK hW (zvd_5 hr0 (by decide)) zk_1335 zd_W_step_140 ?_
  refine zr_iconst C zd_W_step_143 ?_
  refine ziald C hK hW (zvd_5 hr0 (by decide)) (fun f => ze_5_25 B f (r0)) (by decide) (by decide) zd_W_step_144 ?_
  obtain ⟨h11, hf⟩ := zck_some hf
  obtain ⟨S12, eS12, hf⟩ := zlt_some hf
  refine ziast C hK hap hW hS (zvd_8 hr0 (by decide)) (fun f => ze_8 B f (r0) (2)) (by decide) rfl (zWn hW _ _ _ _ rfl) h11 zd_W_step_145 (fun H locs hW hS => ?_)
  rw [eS12] at hW
  refine lv_aload_n C.1 C.2.1 zd_W_step_146 rfl (lv_at hl 0 rfl) ?_
  refine zg_W_record (r := r0) C hK hW (zvd_5 hr0 (by decide)) zk_1365 zd_W_step_147 ?_
  refine zr_iconst C zd_W_step_150 ?_
  refine zaald (t0 := 4) C hK hW (zvd_5 hr0 (by decide)) (fun f => ze_5_43 B f (r0)) rfl rfl (by decide) (by decide) zd_W_step_151 (a := B.2.1 8 (r0) (3)) rfl ?_
  refine lv_aload_n C.1 C.2.1 zd_W_step_152 rfl (lv_at hl 0 rfl) ?_
  refine zg_W_week (r := r0) C hK hW (zvd_5 hr0 (by decide)) zk_1275 zd_W_step_153 ?_
  refine lv_aload_n C.1 C.2.1 zd_W_step_156 rfl (lv_at hl 0 rfl) ?_
  refine zg_W_purse (r := r0) C hK hW (zvd_5 hr0 (by decide)) zk_1351 zd_W_step_157 ?_
  obtain ⟨h13, hf⟩ := zck_some hf
  obtain ⟨S14, eS14, hf⟩ := zlt_some hf
  refine ziast C hK hap hW hS (zvd_8 hr0 (by decide)) (fun f => ze_8 B f (r0) (3)) (by decide) rfl (zWn hW _ _ _ _ rfl) h13 zd_W_step_160 (fun H locs hW hS => ?_)
  rw [eS14] at hW
  refine lv_aload_n C.1 C.2.1 zd_W_step_161 rfl (lv_at hl 0 rfl) ?_
  refine zg_W_record (r := r0) C hK hW (zvd_5 hr0 (by decide)) zk_1365 zd_W_step_162 ?_
  refine zr_iconst C zd_W_step_165 ?_
  refine zaald (t0 := 4) C hK hW (zvd_5 hr0 (by decide)) (fun f => ze_5_43 B f (r0)) rfl rfl (by decide) (by decide) zd_W_step_166 (a := B.2.1 8 (r0) (4)) rfl ?_
  refine lv_aload_n C.1 C.2.1 zd_W_step_167 rfl (lv_at hl 0 rfl) ?_
  refine zg_W_week (r := r0) C hK hW (zvd_5 hr0 (by decide)) zk_1275 zd_W_step_168 ?_
  refine lv_iload_n C.1 C.2.1 zd_W_step_171 rfl (lv_at hl 1 rfl) ?_
  obtain ⟨h15, hf⟩ := zck_some hf
  obtain ⟨S16, eS16, hf⟩ := zlt_some hf
  refine ziast C hK hap hW hS (zvd_8 hr0 (by decide)) (fun f => ze_8 B f (r0) (4)) (by decide) rfl nx1 h15 zd_W_step_172 (fun H locs hW hS => ?_)
  rw [eS16] at hW
  refine lv_aload_n C.1 C.2.1 zd_W_step_173 rfl (lv_at hl 0 rfl) ?_
  refine lv_dup C.1 C.2.1 zd_W_step_174 rfl ?_
  refine zg_W_week (r := r0) C hK hW (zvd_5 hr0 (by decide)) zk_1275 zd_W_step_175 ?_
  refine zr_iconst C zd_W_step_178 ?_
  refine zr_iadd C zd_W_step_179 ?_
  obtain ⟨S17, eS17, hf⟩ := zlt_some hf
  refine zp_W_week (r := r0) C hK hap hW hS (zvd_5 hr0 (by decide)) zk_1275 (zn_w _) zd_W_step_180 (fun H locs hW hS => ?_)
  rw [eS17] at hW
  cases hf
  exact zre_v C hr hlk hK hW hS zd_W_step_183

def zf_W_step_89 (r0 : Int) (x1 : Int) (x2 : Int) (S : Sg) : Option (Int × Sg) :=
    if x2 = 0 then (zf_W_step_97 r0 (x1) S) else (zbd (zf_W_leave (r0) S) fun a2 S3 => zf_W_step_97 r0 (x1) S3)
set_option maxHeartbeats 4000000 in
set_option maxRecDepth 100000 in
theorem zw_W_step_89 {p : Program} {l : Launch} {e : Env} {s : State} {m : MethodId} {args : Array Value} {below : List Frame} {meth : Method} {c : Code} {B : zB} (C : CallFix p m c zb_W_step 3 s args zT "IslandOfficeModel$World") (hr : meth.sig.returnType = none) (hlk : meth.locks = false) (hK : zK B s) (hSt : zSt B s) (hap : zAp B) (r0 : Int) (hr0 : 0 ≤ r0 ∧ r0 < 3) {res : Int} {S9 : Sg} : ∀ (x1 : Int) (x2 : Int) (S : Sg) (nx1 : zn x1) (nx2 : zn x2), zf_W_step_89 r0 x1 x2 S = some (res, S9) → ∀ (H : Heap) (locs : List Loc) (ls : Array Slot), zW B S H → va_S B.2.2.2 s.heap H locs → lv_has ls 3 [(0, .ref (B.2.1 5 (r0) (0))), (1, .int (zI (x1))), (2, .int (zI (x2)))] → W p l e zm_W_step s m args below meth c H locs 0 0 (MQ below (zQv B S9) args s 0 0 B.2.2.2) (F0 m 89 ls []) := by
  intro x1 x2 S nx1 nx2 hf H locs ls hW hS hl
  unfold zf_W_step_89 at hf
  refine lv_iload_n C.1 C.2.1 zd_W_step_89 rfl (lv_at hl 2 rfl) ?_
  refine zr_if_eq (tgt := 97) C nx2 zd_W_step_90 (by decide) (fun c1 => ?_) (fun c1 => ?_)
  · rw [if_pos c1] at hf
    exact zw_W_step_97 C hr hlk hK hSt hap r0 hr0 (x1) S nx1 hf _ _ _ hW hS (lv_sub hl [0, 1] rfl)
  · rw [if_neg c1] at hf
    refine lv_aload_n C.1 C.2.1 zd_W_step_93 rfl (lv_at hl 0 rfl) ?_
    obtain ⟨a2, S3, ea2, hf⟩ := zbd_some hf
    refine zcVv (As := []) (rest := []) C hK hSt hW hS (zc_W_leave hap (r0) hr0 S ea2) zq_W_leave zk_1972 (zrecv hK hW (zvd_5 hr0 (by decide)) (ze_5_0 B _ (r0)) rfl) ⟨rfl, rfl, by decide, by decide⟩ ⟨Nat.zero_le _, Nat.zero_le _⟩ rfl hl.1 rfl (lv_room (Nat.le_of_ble_eq_true rfl)) zd_W_step_94 (fun H locs hW hS => ?_)
    exact zw_W_step_97 C hr hlk hK hSt hap r0 hr0 (x1) S3 nx1 hf _ _ _ hW hS (lv_sub hl [0, 1] rfl)

def zf_W_step_39 (r0 : Int) (q2 : Int → Sg → Option (Int × Sg)) (x1 : Int) (S : Sg) : Option (Int × Sg) :=
    zlt (zw (x1 + 1)) fun v1 => q2 (v1) S
set_option maxHeartbeats 4000000 in
set_option maxRecDepth 100000 in
theorem zw_W_step_39 {p : Program} {l : Launch} {e : Env} {s : State} {m : MethodId} {args : Array Value} {below : List Frame} {meth : Method} {c : Code} {B : zB} (C : CallFix p m c zb_W_step 3 s args zT "IslandOfficeModel$World") (hr : meth.sig.returnType = none) (hlk : meth.locks = false) (hK : zK B s) (hSt : zSt B s) (hap : zAp B) (r0 : Int) (hr0 : 0 ≤ r0 ∧ r0 < 3) {res : Int} {S9 : Sg} (q2 : Int → Sg → Option (Int × Sg)) (hq2 : ∀ (x1 : Int) (S : Sg) (nx1 : zn x1), q2 x1 S = some (res, S9) → ∀ (H : Heap) (locs : List Loc) (ls : Array Slot), zW B S H → va_S B.2.2.2 s.heap H locs → lv_has ls 3 [(0, .ref (B.2.1 5 (r0) (0))), (1, .int (zI (x1)))] → W p l e zm_W_step s m args below meth c H locs 0 0 (MQ below (zQv B S9) args s 0 0 B.2.2.2) (F0 m 2 ls [])) : ∀ (x1 : Int) (S : Sg) (nx1 : zn x1), zf_W_step_39 r0 q2 x1 S = some (res, S9) → ∀ (H : Heap) (locs : List Loc) (ls : Array Slot), zW B S H → va_S B.2.2.2 s.heap H locs → lv_has ls 3 [(0, .ref (B.2.1 5 (r0) (0))), (1, .int (zI (x1)))] → W p l e zm_W_step s m args below meth c H locs 0 0 (MQ below (zQv B S9) args s 0 0 B.2.2.2) (F0 m 39 ls []) := by
  intro x1 S nx1 hf H locs ls hW hS hl
  unfold zf_W_step_39 at hf
  obtain ⟨v1, ev1, hf⟩ := zlt_some hf
  have nv1 : zn v1 := by rw [← ev1]; exact zn_w _
  refine lv_iinc (v := zI v1) (lv' := [(1, .int (zI (v1))), (0, .ref (B.2.1 5 (r0) (0)))]) C.1 C.2.1 zd_W_step_39 hl (k := 1) rfl (by rw [← ev1, ← zI_add]; rfl) (by decide) rfl (fun ls hl => ?_)
  refine lv_goto (tgt := 2) C.1 C.2.1 zd_W_step_42 (by decide) ?_
  exact hq2 (v1) S nv1 hf _ _ _ hW hS (lv_sub hl [1, 0] rfl)

def zf_W_step_2 (r0 : Int) : Nat → Int → Sg → Option (Int × Sg)
  | 0, _, _ => none
  | n + 1, x1, S =>
    if (S 5 r0 0 1) ≤ x1 then (zbd (zf_W_water (r0) S) fun a2 S3 => zbd (zf_W_graze (r0) S3) fun a4 S5 => zbd (zf_W_workNow (r0) S5) fun a6 S7 => zbd (zf_W_ship (r0) S7) fun a8 S9 => zbd (zf_W_eat (r0) S9) fun a10 S11 => zbd (zf_W_useGoods (r0) S11) fun a12 S13 => zbd (zf_W_grumble (r0) S13) fun a14 S15 => if (zrem (S15 5 r0 0 0) 4) = 3 then (zbd (zf_W_pay (r0) S15) fun a17 S18 => zf_W_step_89 r0 (a6) (a8) S18) else (zf_W_step_89 r0 (a6) (a8) S15)) else (zbd (zf_W_kind (r0) x1 S) fun a19 S20 => if a19 = 5 then (zck (0 ≤ x1 ∧ x1 < 40) <| if (S20 5 r0 0 0) < (S20 5 r0 6 x1) then (zf_W_step_39 r0 (zf_W_step_2 r0 n) (x1) S20) else (zlt (zu S20 5 r0 5 x1 2) fun S24 => zf_W_step_39 r0 (zf_W_step_2 r0 n) (x1) S24)) else (zf_W_step_39 r0 (zf_W_step_2 r0 n) (x1) S20))
set_option maxHeartbeats 4000000 in
set_option maxRecDepth 100000 in
theorem zw_W_step_2 {p : Program} {l : Launch} {e : Env} {s : State} {m : MethodId} {args : Array Value} {below : List Frame} {meth : Method} {c : Code} {B : zB} (C : CallFix p m c zb_W_step 3 s args zT "IslandOfficeModel$World") (hr : meth.sig.returnType = none) (hlk : meth.locks = false) (hK : zK B s) (hSt : zSt B s) (hap : zAp B) (r0 : Int) (hr0 : 0 ≤ r0 ∧ r0 < 3) {res : Int} {S9 : Sg} : ∀ n : Nat, ∀ (x1 : Int) (S : Sg) (nx1 : zn x1), zf_W_step_2 r0 n x1 S = some (res, S9) → ∀ (H : Heap) (locs : List Loc) (ls : Array Slot), zW B S H → va_S B.2.2.2 s.heap H locs → lv_has ls 3 [(0, .ref (B.2.1 5 (r0) (0))), (1, .int (zI (x1)))] → W p l e zm_W_step s m args below meth c H locs 0 0 (MQ below (zQv B S9) args s 0 0 B.2.2.2) (F0 m 2 ls []) := by
  intro n
  induction n with
  | zero =>
    intro x1 S nx1 hf H locs ls hW hS hl
    cases hf
  | succ n ih =>
    intro x1 S nx1 hf H locs ls hW hS hl
    rw [zf_W_step_2] at hf
    refine lv_iload_n C.1 C.2.1 zd_W_step_2 rfl (lv_at hl 1 rfl) ?_
    refine lv_aload_n C.1 C.2.1 zd_W_step_3 rfl (lv_at hl 0 rfl) ?_
    refine zg_W_people (r := r0) C hK hW (zvd_5 hr0 (by decide)) zk_1277 zd_W_step_4 ?_
    refine zr_icmp_ge (tgt := 45) C nx1 (zWn hW _ _ _ _ rfl) zd_W_step_7 (by decide) (fun c1 => ?_) (fun c1 => ?_)
    · rw [if_pos c1] at hf
      refine lv_aload_n C.1 C.2.1 zd_W_step_45 rfl (lv_at hl 0 rfl) ?_
      obtain ⟨a2, S3, ea2, hf⟩ := zbd_some hf
      refine zcVv (As := []) (rest := []) C hK hSt hW hS (zc_W_water hap (r0) hr0 S ea2) zq_W_water zk_1907 (zrecv hK hW (zvd_5 hr0 (by decide)) (ze_5_0 B _ (r0)) rfl) ⟨rfl, rfl, by decide, by decide⟩ ⟨Nat.zero_le _, Nat.zero_le _⟩ rfl hl.1 rfl (lv_room (Nat.le_of_ble_eq_true rfl)) zd_W_step_46 (fun H locs hW hS => ?_)
      refine lv_aload_n C.1 C.2.1 zd_W_step_49 rfl (lv_at hl 0 rfl) ?_
      obtain ⟨a4, S5, ea4, hf⟩ := zbd_some hf
      refine zcVv (As := []) (rest := []) C hK hSt hW hS (zc_W_graze hap (r0) hr0 S3 ea4) zq_W_graze zk_1915 (zrecv hK hW (zvd_5 hr0 (by decide)) (ze_5_0 B _ (r0)) rfl) ⟨rfl, rfl, by decide, by decide⟩ ⟨Nat.zero_le _, Nat.zero_le _⟩ rfl hl.1 rfl (lv_room (Nat.le_of_ble_eq_true rfl)) zd_W_step_50 (fun H locs hW hS => ?_)
      refine lv_aload_n C.1 C.2.1 zd_W_step_53 rfl (lv_at hl 0 rfl) ?_
      obtain ⟨a6, S7, ea6, hf⟩ := zbd_some hf
      refine zcVi (As := []) (rest := []) C hK hSt hW hS (zc_W_workNow hap (r0) hr0 S5 ea6) zq_W_workNow zk_1919 (zrecv hK hW (zvd_5 hr0 (by decide)) (ze_5_0 B _ (r0)) rfl) ⟨rfl, rfl, by decide, by decide⟩ ⟨Nat.zero_le _, Nat.zero_le _⟩ rfl hl.1 rfl (lv_room (Nat.le_of_ble_eq_true rfl)) zd_W_step_54 (fun na6 H locs hW hS => ?_)
      refine lv_istore_n (lv' := [(1, .int (zI (a6))), (0, .ref (B.2.1 5 (r0) (0)))]) C.1 C.2.1 zd_W_step_57 rfl hl (by decide) rfl (fun ls hl => ?_)
      refine lv_aload_n C.1 C.2.1 zd_W_step_58 rfl (lv_at hl 1 rfl) ?_
      obtain ⟨a8, S9, ea8, hf⟩ := zbd_some hf
      refine zcVi (As := []) (rest := []) C hK hSt hW hS (zc_W_ship hap (r0) hr0 S7 ea8) zq_W_ship zk_1929 (zrecv hK hW (zvd_5 hr0 (by decide)) (ze_5_0 B _ (r0)) rfl) ⟨rfl, rfl, by decide, by decide⟩ ⟨Nat.zero_le _, Nat.zero_le _⟩ rfl hl.1 rfl (lv_room (Nat.le_of_ble_eq_true rfl)) zd_W_step_59 (fun na8 H locs hW hS => ?_)
      refine lv_istore_n (lv' := [(2, .int (zI (a8))), (1, .int (zI (a6))), (0, .ref (B.2.1 5 (r0) (0)))]) C.1 C.2.1 zd_W_step_62 rfl hl (by decide) rfl (fun ls hl => ?_)
      refine lv_aload_n C.1 C.2.1 zd_W_step_63 rfl (lv_at hl 2 rfl) ?_
      obtain ⟨a10, S11, ea10, hf⟩ := zbd_some hf
      refine zcVv (As := []) (rest := []) C hK hSt hW hS (zc_W_eat hap (r0) hr0 S9 ea10) zq_W_eat zk_1933 (zrecv hK hW (zvd_5 hr0 (by decide)) (ze_5_0 B _ (r0)) rfl) ⟨rfl, rfl, by decide, by decide⟩ ⟨Nat.zero_le _, Nat.zero_le _⟩ rfl hl.1 rfl (lv_room (Nat.le_of_ble_eq_true rfl)) zd_W_step_64 (fun H locs hW hS => ?_)
      refine lv_aload_n C.1 C.2.1 zd_W_step_67 rfl (lv_at hl 2 rfl) ?_
      obtain ⟨a12, S13, ea12, hf⟩ := zbd_some hf
      refine zcVv (As := []) (rest := []) C hK hSt hW hS (zc_W_useGoods hap (r0) hr0 S11 ea12) zq_W_useGoods zk_1938 (zrecv hK hW (zvd_5 hr0 (by decide)) (ze_5_0 B _ (r0)) rfl) ⟨rfl, rfl, by decide, by decide⟩ ⟨Nat.zero_le _, Nat.zero_le _⟩ rfl hl.1 rfl (lv_room (Nat.le_of_ble_eq_true rfl)) zd_W_step_68 (fun H locs hW hS => ?_)
      refine lv_aload_n C.1 C.2.1 zd_W_step_71 rfl (lv_at hl 2 rfl) ?_
      obtain ⟨a14, S15, ea14, hf⟩ := zbd_some hf
      refine zcVv (As := []) (rest := []) C hK hSt hW hS (zc_W_grumble hap (r0) hr0 S13 ea14) zq_W_grumble zk_1942 (zrecv hK hW (zvd_5 hr0 (by decide)) (ze_5_0 B _ (r0)) rfl) ⟨rfl, rfl, by decide, by decide⟩ ⟨Nat.zero_le _, Nat.zero_le _⟩ rfl hl.1 rfl (lv_room (Nat.le_of_ble_eq_true rfl)) zd_W_step_72 (fun H locs hW hS => ?_)
      refine lv_aload_n C.1 C.2.1 zd_W_step_75 rfl (lv_at hl 2 rfl) ?_
      refine zg_W_week (r := r0) C hK hW (zvd_5 hr0 (by decide)) zk_1275 zd_W_step_76 ?_
      refine zr_iconst C zd_W_step_79 ?_
      refine zr_irem C (zWn hW _ _ _ _ rfl) (znb rfl) (by decide) zd_W_step_80 ?_
      refine zr_iconst C zd_W_step_81 ?_
      refine zr_icmp_ne (tgt := 89) C (zn_rem _ _) (znb rfl) zd_W_step_82 (by decide) (fun c16 => ?_) (fun c16 => ?_)
      · rw [if_neg c16] at hf
        exact zw_W_step_89 C hr hlk hK hSt hap r0 hr0 (a6) (a8) S15 na6 na8 hf _ _ _ hW hS (lv_sub hl [2, 1, 0] rfl)
      · rw [if_pos c16] at hf
        refine lv_aload_n C.1 C.2.1 zd_W_step_85 rfl (lv_at hl 2 rfl) ?_
        obtain ⟨a17, S18, ea17, hf⟩ := zbd_some hf
        refine zcVv (As := []) (rest := []) C hK hSt hW hS (zc_W_pay hap (r0) hr0 S15 ea17) zq_W_pay zk_1958 (zrecv hK hW (zvd_5 hr0 (by decide)) (ze_5_0 B _ (r0)) rfl) ⟨rfl, rfl, by decide, by decide⟩ ⟨Nat.zero_le _, Nat.zero_le _⟩ rfl hl.1 rfl (lv_room (Nat.le_of_ble_eq_true rfl)) zd_W_step_86 (fun H locs hW hS => ?_)
        exact zw_W_step_89 C hr hlk hK hSt hap r0 hr0 (a6) (a8) S18 na6 na8 hf _ _ _ hW hS (lv_sub hl [2, 1, 0] rfl)
    · rw [if_neg c1] at hf
      refine lv_aload_n C.1 C.2.1 zd_W_step_10 rfl (lv_at hl 0 rfl) ?_
      refine lv_iload_n C.1 C.2.1 zd_W_step_11 rfl (lv_at hl 1 rfl) ?_
      obtain ⟨a19, S20, ea19, hf⟩ := zbd_some hf
      refine zcVi (As := [.int (zI (x1))]) (rest := []) C hK hSt hW hS (zc_W_kind hap (r0) hr0 x1 S nx1 ea19) zq_W_kind zk_1621 (zrecv hK hW (zvd_5 hr0 (by decide)) (ze_5_0 B _ (r0)) rfl) ⟨rfl, rfl, by decide, by decide⟩ ⟨Nat.zero_le _, Nat.zero_le _⟩ rfl hl.1 rfl (lv_room (Nat.le_of_ble_eq_true rfl)) zd_W_step_12 (fun na19 H locs hW hS => ?_)
      refine zr_iconst C zd_W_step_15 ?_
      refine zr_icmp_ne (tgt := 39) C na19 (znb rfl) zd_W_step_16 (by decide) (fun c21 => ?_) (fun c21 => ?_)
      · rw [if_neg c21] at hf
        exact zw_W_step_39 C hr hlk hK hSt hap r0 hr0 (zf_W_step_2 r0 n) (ih) (x1) S20 nx1 hf _ _ _ hW hS (lv_sub hl [0, 1] rfl)
      · rw [if_pos c21] at hf
        refine lv_aload_n C.1 C.2.1 zd_W_step_19 rfl (lv_at hl 0 rfl) ?_
        refine zg_W_end (r := r0) C hK hW (zvd_5 hr0 (by decide)) zk_1289 zd_W_step_20 ?_
        refine lv_iload_n C.1 C.2.1 zd_W_step_23 rfl (lv_at hl 1 rfl) ?_
        obtain ⟨h22, hf⟩ := zck_some hf
        refine ziald C hK hW (zvd_5 hr0 (by decide)) (fun f => ze_5_6 B f (r0)) (by decide) h22 zd_W_step_24 ?_
        refine lv_aload_n C.1 C.2.1 zd_W_step_25 rfl (lv_at hl 0 rfl) ?_
        refine zg_W_week (r := r0) C hK hW (zvd_5 hr0 (by decide)) zk_1275 zd_W_step_26 ?_
        refine zr_icmp_gt (tgt := 39) C (zWn hW _ _ _ _ rfl) (zWn hW _ _ _ _ rfl) zd_W_step_29 (by decide) (fun c23 => ?_) (fun c23 => ?_)
        · rw [if_pos c23] at hf
          exact zw_W_step_39 C hr hlk hK hSt hap r0 hr0 (zf_W_step_2 r0 n) (ih) (x1) S20 nx1 hf _ _ _ hW hS (lv_sub hl [0, 1] rfl)
        · rw [if_neg c23] at hf
          refine lv_aload_n C.1 C.2.1 zd_W_step_32 rfl (lv_at hl 0 rfl) ?_
          refine zg_W_state (r := r0) C hK hW (zvd_5 hr0 (by decide)) zk_1287 zd_W_step_33 ?_
          refine lv_iload_n C.1 C.2.1 zd_W_step_36 rfl (lv_at hl 1 rfl) ?_
          refine zr_iconst C zd_W_step_37 ?_
          obtain ⟨S24, eS24, hf⟩ := zlt_some hf
          refine ziast C hK hap hW hS (zvd_5 hr0 (by decide)) (fun f => ze_5_5 B f (r0)) (by decide) rfl (znb rfl) h22 zd_W_step_38 (fun H locs hW hS => ?_)
          rw [eS24] at hW
          exact zw_W_step_39 C hr hlk hK hSt hap r0 hr0 (zf_W_step_2 r0 n) (ih) (x1) S24 nx1 hf _ _ _ hW hS (lv_sub hl [0, 1] rfl)

def zf_W_step (r0 : Int) (S : Sg) : Option (Int × Sg) :=
    zf_W_step_2 r0 4096 (0) S
set_option maxHeartbeats 4000000 in
set_option maxRecDepth 100000 in
theorem zw_W_step {p : Program} {l : Launch} {e : Env} {s : State} {m : MethodId} {args : Array Value} {below : List Frame} {meth : Method} {c : Code} {B : zB} (C : CallFix p m c zb_W_step 3 s args zT "IslandOfficeModel$World") (hr : meth.sig.returnType = none) (hlk : meth.locks = false) (hK : zK B s) (hSt : zSt B s) (hap : zAp B) (r0 : Int) (hr0 : 0 ≤ r0 ∧ r0 < 3) {res : Int} {S9 : Sg} : ∀  (S : Sg) , zf_W_step r0  S = some (res, S9) → ∀ (H : Heap) (locs : List Loc) (ls : Array Slot), zW B S H → va_S B.2.2.2 s.heap H locs → lv_has ls 3 [(0, .ref (B.2.1 5 (r0) (0)))] → W p l e zm_W_step s m args below meth c H locs 0 0 (MQ below (zQv B S9) args s 0 0 B.2.2.2) (F0 m 0 ls []) := by
  intro S hf H locs ls hW hS hl
  unfold zf_W_step at hf
  refine zr_iconst C zd_W_step_0 ?_
  refine lv_istore_n (lv' := [(1, .int (zI (0))), (0, .ref (B.2.1 5 (r0) (0)))]) C.1 C.2.1 zd_W_step_1 rfl hl (by decide) rfl (fun ls hl => ?_)
  exact zw_W_step_2 C hr hlk hK hSt hap r0 hr0 4096 (0) S (znb rfl) hf _ _ _ hW hS (lv_sub hl [1, 0] rfl)

theorem zc_W_step {l : Launch} {B : zB} (hap : zAp B) (r0 : Int) (hr0 : 0 ≤ r0 ∧ r0 < 3) (S : Sg) {res : Int} {S9 : Sg} (hf : zf_W_step r0 S = some (res, S9)) : Met l zy_W_step (Cond.code zy_W_step zb_W_step 3 (none) :: zT) zm_W_step (zP B S [.ref (B.2.1 5 (r0) (0))]) (zQv B S9) 0 0 B.2.2.2 :=
  zmet (by decide) (Nat.le_of_ble_eq_true rfl) (fun p e s m args below meth c C hr hlk hK hSt hW ls hl => zw_W_step C hr hlk hK hSt hap r0 hr0  S  hf _ _ _ hW va_S.rf hl)
/-! IslandOfficeModel.weeks(I)I -/
abbrev zy_M_weeks : MethodName := ⟨"IslandOfficeModel", "weeks", "(I)I"⟩
abbrev zb_M_weeks : ByteArray := prog_14_method_55_code
abbrev zm_M_weeks : Room := { frames := 398, cells := 0, slots := 0, locals := 8628 }
theorem zq_M_weeks : zMy zy_M_weeks zb_M_weeks 3 (some .int) 1 := ⟨zk_1902, zk_1900, zk_1901, zk_14, by decide, by decide, by decide +kernel⟩
theorem zd_M_weeks_0 : decode zb_M_weeks 0 = .ok (.aload_n 0, 1) := by decide +kernel
theorem zd_M_weeks_1 : decode zb_M_weeks 1 = .ok (.iconst 0, 1) := by decide +kernel
theorem zd_M_weeks_2 : decode zb_M_weeks 2 = .ok (.putfield 46, 3) := by decide +kernel
theorem zd_M_weeks_5 : decode zb_M_weeks 5 = .ok (.iload_n 1, 1) := by decide +kernel
theorem zd_M_weeks_6 : decode zb_M_weeks 6 = .ok (.iconst 1, 1) := by decide +kernel
theorem zd_M_weeks_7 : decode zb_M_weeks 7 = .ok (.bipush 52, 2) := by decide +kernel
theorem zd_M_weeks_9 : decode zb_M_weeks 9 = .ok (.invokestatic 53, 3) := by decide +kernel
theorem zd_M_weeks_12 : decode zb_M_weeks 12 = .ok (.ifCond .ne 5, 3) := by decide +kernel
theorem zd_M_weeks_15 : decode zb_M_weeks 15 = .ok (.iconst (-1), 1) := by decide +kernel
theorem zd_M_weeks_16 : decode zb_M_weeks 16 = .ok (.ireturn, 1) := by decide +kernel
theorem zd_M_weeks_17 : decode zb_M_weeks 17 = .ok (.aload_n 0, 1) := by decide +kernel
theorem zd_M_weeks_18 : decode zb_M_weeks 18 = .ok (.getfield 10, 3) := by decide +kernel
theorem zd_M_weeks_21 : decode zb_M_weeks 21 = .ok (.getfield 87, 3) := by decide +kernel
theorem zd_M_weeks_24 : decode zb_M_weeks 24 = .ok (.iload_n 1, 1) := by decide +kernel
theorem zd_M_weeks_25 : decode zb_M_weeks 25 = .ok (.iadd, 1) := by decide +kernel
theorem zd_M_weeks_26 : decode zb_M_weeks 26 = .ok (.sipush 400, 3) := by decide +kernel
theorem zd_M_weeks_29 : decode zb_M_weeks 29 = .ok (.if_icmp .le 6, 3) := by decide +kernel
theorem zd_M_weeks_32 : decode zb_M_weeks 32 = .ok (.bipush (-2), 2) := by decide +kernel
theorem zd_M_weeks_34 : decode zb_M_weeks 34 = .ok (.ireturn, 1) := by decide +kernel
theorem zd_M_weeks_35 : decode zb_M_weeks 35 = .ok (.iconst 0, 1) := by decide +kernel
theorem zd_M_weeks_36 : decode zb_M_weeks 36 = .ok (.istore_n 2, 1) := by decide +kernel
theorem zd_M_weeks_37 : decode zb_M_weeks 37 = .ok (.iload_n 2, 1) := by decide +kernel
theorem zd_M_weeks_38 : decode zb_M_weeks 38 = .ok (.iload_n 1, 1) := by decide +kernel
theorem zd_M_weeks_39 : decode zb_M_weeks 39 = .ok (.if_icmp .ge 16, 3) := by decide +kernel
theorem zd_M_weeks_42 : decode zb_M_weeks 42 = .ok (.aload_n 0, 1) := by decide +kernel
theorem zd_M_weeks_43 : decode zb_M_weeks 43 = .ok (.getfield 10, 3) := by decide +kernel
theorem zd_M_weeks_46 : decode zb_M_weeks 46 = .ok (.invokevirtual 300, 3) := by decide +kernel
theorem zd_M_weeks_49 : decode zb_M_weeks 49 = .ok (.iinc 2 1, 3) := by decide +kernel
theorem zd_M_weeks_52 : decode zb_M_weeks 52 = .ok (.goto (-15), 3) := by decide +kernel
theorem zd_M_weeks_55 : decode zb_M_weeks 55 = .ok (.aload_n 0, 1) := by decide +kernel
theorem zd_M_weeks_56 : decode zb_M_weeks 56 = .ok (.getfield 10, 3) := by decide +kernel
theorem zd_M_weeks_59 : decode zb_M_weeks 59 = .ok (.iconst 0, 1) := by decide +kernel
theorem zd_M_weeks_60 : decode zb_M_weeks 60 = .ok (.invokevirtual 303, 3) := by decide +kernel
theorem zd_M_weeks_63 : decode zb_M_weeks 63 = .ok (.ireturn, 1) := by decide +kernel

def zf_M_weeks_37 : Nat → Int → Int → Sg → Option (Int × Sg)
  | 0, _, _, _ => none
  | n + 1, x1, x2, S =>
    if x1 ≤ x2 then (zbd (zf_W_inState (0) 0 S) fun a2 S3 => some (a2, S3)) else (zbd (zf_W_step (0) S) fun a4 S5 => zlt (zw (x2 + 1)) fun v6 => (zf_M_weeks_37 n) (x1) (v6) S5)
set_option maxHeartbeats 4000000 in
set_option maxRecDepth 100000 in
theorem zw_M_weeks_37 {p : Program} {l : Launch} {e : Env} {s : State} {m : MethodId} {args : Array Value} {below : List Frame} {meth : Method} {c : Code} {B : zB} (C : CallFix p m c zb_M_weeks 3 s args zT "IslandOfficeModel") (hr : meth.sig.returnType = some .int) (hlk : meth.locks = false) (hK : zK B s) (hSt : zSt B s) (hap : zAp B) {res : Int} {S9 : Sg} : ∀ n : Nat, ∀ (x1 : Int) (x2 : Int) (S : Sg) (nx1 : zn x1) (nx2 : zn x2), zf_M_weeks_37 n x1 x2 S = some (res, S9) → ∀ (H : Heap) (locs : List Loc) (ls : Array Slot), zW B S H → va_S B.2.2.2 s.heap H locs → lv_has ls 3 [(0, .ref (B.2.1 9 (0) (0))), (1, .int (zI (x1))), (2, .int (zI (x2)))] → W p l e zm_M_weeks s m args below meth c H locs 0 0 (MQ below (zQi B res S9) args s 0 0 B.2.2.2) (F0 m 37 ls []) := by
  intro n
  induction n with
  | zero =>
    intro x1 x2 S nx1 nx2 hf H locs ls hW hS hl
    cases hf
  | succ n ih =>
    intro x1 x2 S nx1 nx2 hf H locs ls hW hS hl
    rw [zf_M_weeks_37] at hf
    refine lv_iload_n C.1 C.2.1 zd_M_weeks_37 rfl (lv_at hl 2 rfl) ?_
    refine lv_iload_n C.1 C.2.1 zd_M_weeks_38 rfl (lv_at hl 1 rfl) ?_
    refine zr_icmp_ge (tgt := 55) C nx2 nx1 zd_M_weeks_39 (by decide) (fun c1 => ?_) (fun c1 => ?_)
    · rw [if_pos c1] at hf
      refine lv_aload_n C.1 C.2.1 zd_M_weeks_55 rfl (lv_at hl 0 rfl) ?_
      refine zg_M_world (r := 0) C hK hW (zvd_9 (by decide) (by decide)) zk_1500 zd_M_weeks_56 ?_
      refine zr_iconst C zd_M_weeks_59 ?_
      obtain ⟨a2, S3, ea2, hf⟩ := zbd_some hf
      refine zcVi (As := [.int (zI (0))]) (rest := []) C hK hSt hW hS (zc_W_inState hap (0) (by decide) 0 S (znb rfl) ea2) zq_W_inState zk_1980 (zrecv hK hW (zvd_5 (by decide) (by decide)) (ze_5_0 B _ (0)) rfl) ⟨rfl, rfl, by decide, by decide⟩ ⟨Nat.zero_le _, Nat.zero_le _⟩ rfl hl.1 rfl (lv_room (Nat.le_of_ble_eq_true rfl)) zd_M_weeks_60 (fun na2 H locs hW hS => ?_)
      cases hf
      exact zre_i C hr hlk hK hW hS na2 zd_M_weeks_63
    · rw [if_neg c1] at hf
      refine lv_aload_n C.1 C.2.1 zd_M_weeks_42 rfl (lv_at hl 0 rfl) ?_
      refine zg_M_world (r := 0) C hK hW (zvd_9 (by decide) (by decide)) zk_1500 zd_M_weeks_43 ?_
      obtain ⟨a4, S5, ea4, hf⟩ := zbd_some hf
      refine zcVv (As := []) (rest := []) C hK hSt hW hS (zc_W_step hap (0) (by decide) S ea4) zq_W_step zk_1903 (zrecv hK hW (zvd_5 (by decide) (by decide)) (ze_5_0 B _ (0)) rfl) ⟨rfl, rfl, by decide, by decide⟩ ⟨Nat.zero_le _, Nat.zero_le _⟩ rfl hl.1 rfl (lv_room (Nat.le_of_ble_eq_true rfl)) zd_M_weeks_46 (fun H locs hW hS => ?_)
      obtain ⟨v6, ev6, hf⟩ := zlt_some hf
      have nv6 : zn v6 := by rw [← ev6]; exact zn_w _
      refine lv_iinc (v := zI v6) (lv' := [(2, .int (zI (v6))), (0, .ref (B.2.1 9 (0) (0))), (1, .int (zI (x1)))]) C.1 C.2.1 zd_M_weeks_49 hl (k := 2) rfl (by rw [← ev6, ← zI_add]; rfl) (by decide) rfl (fun ls hl => ?_)
      refine lv_goto (tgt := 37) C.1 C.2.1 zd_M_weeks_52 (by decide) ?_
      exact ih (x1) (v6) S5 nx1 nv6 hf _ _ _ hW hS (lv_sub hl [1, 2, 0] rfl)

def zf_M_weeks (x1 : Int) (S : Sg) : Option (Int × Sg) :=
    zlt (zu S 9 0 0 4 0) fun S1 => zbd (zf_M_in x1 1 52 S1) fun a2 S3 => if a2 = 0 then (some (-1, S3)) else (if (zw ((S3 5 0 0 0) + x1)) ≤ 400 then (zf_M_weeks_37 4096 (x1) (0) S3) else (some (-2, S3)))
set_option maxHeartbeats 4000000 in
set_option maxRecDepth 100000 in
theorem zw_M_weeks {p : Program} {l : Launch} {e : Env} {s : State} {m : MethodId} {args : Array Value} {below : List Frame} {meth : Method} {c : Code} {B : zB} (C : CallFix p m c zb_M_weeks 3 s args zT "IslandOfficeModel") (hr : meth.sig.returnType = some .int) (hlk : meth.locks = false) (hK : zK B s) (hSt : zSt B s) (hap : zAp B) {res : Int} {S9 : Sg} : ∀ (x1 : Int) (S : Sg) (nx1 : zn x1), zf_M_weeks x1 S = some (res, S9) → ∀ (H : Heap) (locs : List Loc) (ls : Array Slot), zW B S H → va_S B.2.2.2 s.heap H locs → lv_has ls 3 [(0, .ref (B.2.1 9 (0) (0))), (1, .int (zI (x1)))] → W p l e zm_M_weeks s m args below meth c H locs 0 0 (MQ below (zQi B res S9) args s 0 0 B.2.2.2) (F0 m 0 ls []) := by
  intro x1 S nx1 hf H locs ls hW hS hl
  unfold zf_M_weeks at hf
  refine lv_aload_n C.1 C.2.1 zd_M_weeks_0 rfl (lv_at hl 0 rfl) ?_
  refine zr_iconst C zd_M_weeks_1 ?_
  obtain ⟨S1, eS1, hf⟩ := zlt_some hf
  refine zp_M_thrown (r := 0) C hK hap hW hS (zvd_9 (by decide) (by decide)) zk_1504 (znb rfl) zd_M_weeks_2 (fun H locs hW hS => ?_)
  rw [eS1] at hW
  refine lv_iload_n C.1 C.2.1 zd_M_weeks_5 rfl (lv_at hl 1 rfl) ?_
  refine zr_iconst C zd_M_weeks_6 ?_
  refine zr_bipush C zd_M_weeks_7 (by decide) ?_
  obtain ⟨a2, S3, ea2, hf⟩ := zbd_some hf
  refine zcSi (As := [.int (zI (x1)), .int (zI (1)), .int (zI (52))]) (rest := []) C hK hSt hW hS (zc_M_in hap x1 1 52 S1 nx1 (znb rfl) (znb rfl) ea2) zq_M_in zk_1558 ⟨rfl, rfl, by decide, by decide⟩ ⟨Nat.zero_le _, Nat.zero_le _⟩ rfl hl.1 rfl (lv_room (Nat.le_of_ble_eq_true rfl)) zd_M_weeks_9 (fun na2 H locs hW hS => ?_)
  refine zr_if_ne (tgt := 17) C na2 zd_M_weeks_12 (by decide) (fun c4 => ?_) (fun c4 => ?_)
  · rw [if_neg c4] at hf
    refine lv_aload_n C.1 C.2.1 zd_M_weeks_17 rfl (lv_at hl 0 rfl) ?_
    refine zg_M_world (r := 0) C hK hW (zvd_9 (by decide) (by decide)) zk_1500 zd_M_weeks_18 ?_
    refine zg_W_week (r := 0) C hK hW (zvd_5 (by decide) (by decide)) zk_1276 zd_M_weeks_21 ?_
    refine lv_iload_n C.1 C.2.1 zd_M_weeks_24 rfl (lv_at hl 1 rfl) ?_
    refine zr_iadd C zd_M_weeks_25 ?_
    refine zr_sipush C zd_M_weeks_26 (by decide) ?_
    refine zr_icmp_le (tgt := 35) C (zn_w _) (znb rfl) zd_M_weeks_29 (by decide) (fun c5 => ?_) (fun c5 => ?_)
    · rw [if_pos c5] at hf
      refine zr_iconst C zd_M_weeks_35 ?_
      refine lv_istore_n (lv' := [(2, .int (zI (0))), (0, .ref (B.2.1 9 (0) (0))), (1, .int (zI (x1)))]) C.1 C.2.1 zd_M_weeks_36 rfl hl (by decide) rfl (fun ls hl => ?_)
      exact zw_M_weeks_37 C hr hlk hK hSt hap   4096 (x1) (0) S3 nx1 (znb rfl) hf _ _ _ hW hS (lv_sub hl [1, 2, 0] rfl)
    · rw [if_neg c5] at hf
      refine zr_bipush C zd_M_weeks_32 (by decide) ?_
      cases hf
      exact zre_i C hr hlk hK hW hS (znb rfl) zd_M_weeks_34
  · rw [if_pos c4] at hf
    refine zr_iconst C zd_M_weeks_15 ?_
    cases hf
    exact zre_i C hr hlk hK hW hS (znb rfl) zd_M_weeks_16

theorem zc_M_weeks {l : Launch} {B : zB} (hap : zAp B) (x1 : Int) (S : Sg) (nx1 : zn x1) {res : Int} {S9 : Sg} (hf : zf_M_weeks x1 S = some (res, S9)) : Met l zy_M_weeks (Cond.code zy_M_weeks zb_M_weeks 3 (some .int) :: zT) zm_M_weeks (zP B S [.ref (B.2.1 9 (0) (0)), .int (zI (x1))]) (zQi B res S9) 0 0 B.2.2.2 :=
  zmet (by decide) (Nat.le_of_ble_eq_true rfl) (fun p e s m args below meth c C hr hlk hK hSt hW ls hl => zw_M_weeks C hr hlk hK hSt hap   x1 S nx1 hf _ _ _ hW va_S.rf hl)
/-! IslandOfficeModel.record(II)I -/
abbrev zy_M_record : MethodName := ⟨"IslandOfficeModel", "record", "(II)I"⟩
abbrev zb_M_record : ByteArray := prog_14_method_56_code
abbrev zm_M_record : Room := { frames := 1, cells := 0, slots := 0, locals := 22 }
theorem zq_M_record : zMy zy_M_record zb_M_record 3 (some .int) 2 := ⟨zk_1984, zk_1982, zk_1983, zk_14, by decide, by decide, by decide +kernel⟩
theorem zd_M_record_0 : decode zb_M_record 0 = .ok (.aload_n 0, 1) := by decide +kernel
theorem zd_M_record_1 : decode zb_M_record 1 = .ok (.iconst 0, 1) := by decide +kernel
theorem zd_M_record_2 : decode zb_M_record 2 = .ok (.putfield 46, 3) := by decide +kernel
theorem zd_M_record_5 : decode zb_M_record 5 = .ok (.iload_n 1, 1) := by decide +kernel
theorem zd_M_record_6 : decode zb_M_record 6 = .ok (.iconst 0, 1) := by decide +kernel
theorem zd_M_record_7 : decode zb_M_record 7 = .ok (.sipush 400, 3) := by decide +kernel
theorem zd_M_record_10 : decode zb_M_record 10 = .ok (.invokestatic 53, 3) := by decide +kernel
theorem zd_M_record_13 : decode zb_M_record 13 = .ok (.ifCond .eq 12, 3) := by decide +kernel
theorem zd_M_record_16 : decode zb_M_record 16 = .ok (.iload_n 2, 1) := by decide +kernel
theorem zd_M_record_17 : decode zb_M_record 17 = .ok (.iconst 0, 1) := by decide +kernel
theorem zd_M_record_18 : decode zb_M_record 18 = .ok (.iconst 4, 1) := by decide +kernel
theorem zd_M_record_19 : decode zb_M_record 19 = .ok (.invokestatic 53, 3) := by decide +kernel
theorem zd_M_record_22 : decode zb_M_record 22 = .ok (.ifCond .ne 5, 3) := by decide +kernel
theorem zd_M_record_25 : decode zb_M_record 25 = .ok (.iconst (-1), 1) := by decide +kernel
theorem zd_M_record_26 : decode zb_M_record 26 = .ok (.ireturn, 1) := by decide +kernel
theorem zd_M_record_27 : decode zb_M_record 27 = .ok (.iload_n 1, 1) := by decide +kernel
theorem zd_M_record_28 : decode zb_M_record 28 = .ok (.aload_n 0, 1) := by decide +kernel
theorem zd_M_record_29 : decode zb_M_record 29 = .ok (.getfield 10, 3) := by decide +kernel
theorem zd_M_record_32 : decode zb_M_record 32 = .ok (.getfield 87, 3) := by decide +kernel
theorem zd_M_record_35 : decode zb_M_record 35 = .ok (.if_icmp .lt 8, 3) := by decide +kernel
theorem zd_M_record_38 : decode zb_M_record 38 = .ok (.bipush (-3), 2) := by decide +kernel
theorem zd_M_record_40 : decode zb_M_record 40 = .ok (.goto 14, 3) := by decide +kernel
theorem zd_M_record_43 : decode zb_M_record 43 = .ok (.aload_n 0, 1) := by decide +kernel
theorem zd_M_record_44 : decode zb_M_record 44 = .ok (.getfield 10, 3) := by decide +kernel
theorem zd_M_record_47 : decode zb_M_record 47 = .ok (.getfield 306, 3) := by decide +kernel
theorem zd_M_record_50 : decode zb_M_record 50 = .ok (.iload_n 2, 1) := by decide +kernel
theorem zd_M_record_51 : decode zb_M_record 51 = .ok (.aaload, 1) := by decide +kernel
theorem zd_M_record_52 : decode zb_M_record 52 = .ok (.iload_n 1, 1) := by decide +kernel
theorem zd_M_record_53 : decode zb_M_record 53 = .ok (.iaload, 1) := by decide +kernel
theorem zd_M_record_54 : decode zb_M_record 54 = .ok (.ireturn, 1) := by decide +kernel

def zf_M_record (x1 : Int) (x2 : Int) (S : Sg) : Option (Int × Sg) :=
    zlt (zu S 9 0 0 4 0) fun S1 => zbd (zf_M_in x1 0 400 S1) fun a2 S3 => if a2 = 0 then (some (-1, S3)) else (zbd (zf_M_in x2 0 4 S3) fun a5 S6 => if a5 = 0 then (some (-1, S6)) else (if x1 < (S6 5 0 0 0) then (zck (0 ≤ x2 ∧ x2 < 5) <| zck (0 ≤ x1 ∧ x1 < 401) <| some (S6 8 0 x2 x1, S6)) else (some (-3, S6))))
set_option maxHeartbeats 4000000 in
set_option maxRecDepth 100000 in
theorem zw_M_record {p : Program} {l : Launch} {e : Env} {s : State} {m : MethodId} {args : Array Value} {below : List Frame} {meth : Method} {c : Code} {B : zB} (C : CallFix p m c zb_M_record 3 s args zT "IslandOfficeModel") (hr : meth.sig.returnType = some .int) (hlk : meth.locks = false) (hK : zK B s) (hSt : zSt B s) (hap : zAp B) {res : Int} {S9 : Sg} : ∀ (x1 : Int) (x2 : Int) (S : Sg) (nx1 : zn x1) (nx2 : zn x2), zf_M_record x1 x2 S = some (res, S9) → ∀ (H : Heap) (locs : List Loc) (ls : Array Slot), zW B S H → va_S B.2.2.2 s.heap H locs → lv_has ls 3 [(0, .ref (B.2.1 9 (0) (0))), (1, .int (zI (x1))), (2, .int (zI (x2)))] → W p l e zm_M_record s m args below meth c H locs 0 0 (MQ below (zQi B res S9) args s 0 0 B.2.2.2) (F0 m 0 ls []) := by
  intro x1 x2 S nx1 nx2 hf H locs ls hW hS hl
  unfold zf_M_record at hf
  refine lv_aload_n C.1 C.2.1 zd_M_record_0 rfl (lv_at hl 0 rfl) ?_
  refine zr_iconst C zd_M_record_1 ?_
  obtain ⟨S1, eS1, hf⟩ := zlt_some hf
  refine zp_M_thrown (r := 0) C hK hap hW hS (zvd_9 (by decide) (by decide)) zk_1504 (znb rfl) zd_M_record_2 (fun H locs hW hS => ?_)
  rw [eS1] at hW
  refine lv_iload_n C.1 C.2.1 zd_M_record_5 rfl (lv_at hl 1 rfl) ?_
  refine zr_iconst C zd_M_record_6 ?_
  refine zr_sipush C zd_M_record_7 (by decide) ?_
  obtain ⟨a2, S3, ea2, hf⟩ := zbd_some hf
  refine zcSi (As := [.int (zI (x1)), .int (zI (0)), .int (zI (400))]) (rest := []) C hK hSt hW hS (zc_M_in hap x1 0 400 S1 nx1 (znb rfl) (znb rfl) ea2) zq_M_in zk_1558 ⟨rfl, rfl, by decide, by decide⟩ ⟨Nat.zero_le _, Nat.zero_le _⟩ rfl hl.1 rfl (lv_room (Nat.le_of_ble_eq_true rfl)) zd_M_record_10 (fun na2 H locs hW hS => ?_)
  refine zr_if_eq (tgt := 25) C na2 zd_M_record_13 (by decide) (fun c4 => ?_) (fun c4 => ?_)
  · rw [if_pos c4] at hf
    refine zr_iconst C zd_M_record_25 ?_
    cases hf
    exact zre_i C hr hlk hK hW hS (znb rfl) zd_M_record_26
  · rw [if_neg c4] at hf
    refine lv_iload_n C.1 C.2.1 zd_M_record_16 rfl (lv_at hl 2 rfl) ?_
    refine zr_iconst C zd_M_record_17 ?_
    refine zr_iconst C zd_M_record_18 ?_
    obtain ⟨a5, S6, ea5, hf⟩ := zbd_some hf
    refine zcSi (As := [.int (zI (x2)), .int (zI (0)), .int (zI (4))]) (rest := []) C hK hSt hW hS (zc_M_in hap x2 0 4 S3 nx2 (znb rfl) (znb rfl) ea5) zq_M_in zk_1558 ⟨rfl, rfl, by decide, by decide⟩ ⟨Nat.zero_le _, Nat.zero_le _⟩ rfl hl.1 rfl (lv_room (Nat.le_of_ble_eq_true rfl)) zd_M_record_19 (fun na5 H locs hW hS => ?_)
    refine zr_if_ne (tgt := 27) C na5 zd_M_record_22 (by decide) (fun c7 => ?_) (fun c7 => ?_)
    · rw [if_neg c7] at hf
      refine lv_iload_n C.1 C.2.1 zd_M_record_27 rfl (lv_at hl 1 rfl) ?_
      refine lv_aload_n C.1 C.2.1 zd_M_record_28 rfl (lv_at hl 0 rfl) ?_
      refine zg_M_world (r := 0) C hK hW (zvd_9 (by decide) (by decide)) zk_1500 zd_M_record_29 ?_
      refine zg_W_week (r := 0) C hK hW (zvd_5 (by decide) (by decide)) zk_1276 zd_M_record_32 ?_
      refine zr_icmp_lt (tgt := 43) C nx1 (zWn hW _ _ _ _ rfl) zd_M_record_35 (by decide) (fun c8 => ?_) (fun c8 => ?_)
      · rw [if_pos c8] at hf
        refine lv_aload_n C.1 C.2.1 zd_M_record_43 rfl (lv_at hl 0 rfl) ?_
        refine zg_M_world (r := 0) C hK hW (zvd_9 (by decide) (by decide)) zk_1500 zd_M_record_44 ?_
        refine zg_W_record (r := 0) C hK hW (zvd_5 (by decide) (by decide)) zk_1366 zd_M_record_47 ?_
        refine lv_iload_n C.1 C.2.1 zd_M_record_50 rfl (lv_at hl 2 rfl) ?_
        obtain ⟨h9, hf⟩ := zck_some hf
        refine zaald (t0 := 4) C hK hW (zvd_5 (by decide) (by decide)) (fun f => ze_5_43 B f (0)) rfl rfl (by decide) h9 zd_M_record_51 (a := B.2.1 8 (0) (x2)) (by rw [Int.toNat_of_nonneg h9.1]) ?_
        refine lv_iload_n C.1 C.2.1 zd_M_record_52 rfl (lv_at hl 1 rfl) ?_
        obtain ⟨h10, hf⟩ := zck_some hf
        refine ziald C hK hW (zvd_8 (by decide) h9) (fun f => ze_8 B f (0) (x2)) (by decide) h10 zd_M_record_53 ?_
        cases hf
        exact zre_i C hr hlk hK hW hS (zWn hW _ _ _ _ rfl) zd_M_record_54
      · rw [if_neg c8] at hf
        refine zr_bipush C zd_M_record_38 (by decide) ?_
        refine lv_goto (tgt := 54) C.1 C.2.1 zd_M_record_40 (by decide) ?_
        cases hf
        exact zre_i C hr hlk hK hW hS (znb rfl) zd_M_record_54
    · rw [if_pos c7] at hf
      refine zr_iconst C zd_M_record_25 ?_
      cases hf
      exact zre_i C hr hlk hK hW hS (znb rfl) zd_M_record_26

theorem zc_M_record {l : Launch} {B : zB} (hap : zAp B) (x1 : Int) (x2 : Int) (S : Sg) (nx1 : zn x1) (nx2 : zn x2) {res : Int} {S9 : Sg} (hf : zf_M_record x1 x2 S = some (res, S9)) : Met l zy_M_record (Cond.code zy_M_record zb_M_record 3 (some .int) :: zT) zm_M_record (zP B S [.ref (B.2.1 9 (0) (0)), .int (zI (x1)), .int (zI (x2))]) (zQi B res S9) 0 0 B.2.2.2 :=
  zmet (by decide) (Nat.le_of_ble_eq_true rfl) (fun p e s m args below meth c C hr hlk hK hSt hW ls hl => zw_M_record C hr hlk hK hSt hap   x1 x2 S nx1 nx2 hf _ _ _ hW va_S.rf hl)
/-! IslandOfficeModel.headsBehind(I)I -/
abbrev zy_M_headsBehind : MethodName := ⟨"IslandOfficeModel", "headsBehind", "(I)I"⟩
abbrev zb_M_headsBehind : ByteArray := prog_14_method_57_code
abbrev zm_M_headsBehind : Room := { frames := 398, cells := 0, slots := 0, locals := 8628 }
theorem zq_M_headsBehind : zMy zy_M_headsBehind zb_M_headsBehind 3 (some .int) 1 := ⟨zk_1999, zk_1998, zs_93, zk_14, by decide, by decide, by decide +kernel⟩
theorem zd_M_headsBehind_0 : decode zb_M_headsBehind 0 = .ok (.iconst 0, 1) := by decide +kernel
theorem zd_M_headsBehind_1 : decode zb_M_headsBehind 1 = .ok (.istore_n 2, 1) := by decide +kernel
theorem zd_M_headsBehind_2 : decode zb_M_headsBehind 2 = .ok (.iload_n 2, 1) := by decide +kernel
theorem zd_M_headsBehind_3 : decode zb_M_headsBehind 3 = .ok (.iload_n 1, 1) := by decide +kernel
theorem zd_M_headsBehind_4 : decode zb_M_headsBehind 4 = .ok (.if_icmp .ge 16, 3) := by decide +kernel
theorem zd_M_headsBehind_7 : decode zb_M_headsBehind 7 = .ok (.aload_n 0, 1) := by decide +kernel
theorem zd_M_headsBehind_8 : decode zb_M_headsBehind 8 = .ok (.getfield 16, 3) := by decide +kernel
theorem zd_M_headsBehind_11 : decode zb_M_headsBehind 11 = .ok (.invokevirtual 300, 3) := by decide +kernel
theorem zd_M_headsBehind_14 : decode zb_M_headsBehind 14 = .ok (.iinc 2 1, 3) := by decide +kernel
theorem zd_M_headsBehind_17 : decode zb_M_headsBehind 17 = .ok (.goto (-15), 3) := by decide +kernel
theorem zd_M_headsBehind_20 : decode zb_M_headsBehind 20 = .ok (.aload_n 0, 1) := by decide +kernel
theorem zd_M_headsBehind_21 : decode zb_M_headsBehind 21 = .ok (.getfield 16, 3) := by decide +kernel
theorem zd_M_headsBehind_24 : decode zb_M_headsBehind 24 = .ok (.iconst 0, 1) := by decide +kernel
theorem zd_M_headsBehind_25 : decode zb_M_headsBehind 25 = .ok (.invokevirtual 303, 3) := by decide +kernel
theorem zd_M_headsBehind_28 : decode zb_M_headsBehind 28 = .ok (.ireturn, 1) := by decide +kernel

def zf_M_headsBehind_2 : Nat → Int → Int → Sg → Option (Int × Sg)
  | 0, _, _, _ => none
  | n + 1, x1, x2, S =>
    if x1 ≤ x2 then (zbd (zf_W_inState (1) 0 S) fun a2 S3 => some (a2, S3)) else (zbd (zf_W_step (1) S) fun a4 S5 => zlt (zw (x2 + 1)) fun v6 => (zf_M_headsBehind_2 n) (x1) (v6) S5)
set_option maxHeartbeats 4000000 in
set_option maxRecDepth 100000 in
theorem zw_M_headsBehind_2 {p : Program} {l : Launch} {e : Env} {s : State} {m : MethodId} {args : Array Value} {below : List Frame} {meth : Method} {c : Code} {B : zB} (C : CallFix p m c zb_M_headsBehind 3 s args zT "IslandOfficeModel") (hr : meth.sig.returnType = some .int) (hlk : meth.locks = false) (hK : zK B s) (hSt : zSt B s) (hap : zAp B) {res : Int} {S9 : Sg} : ∀ n : Nat, ∀ (x1 : Int) (x2 : Int) (S : Sg) (nx1 : zn x1) (nx2 : zn x2), zf_M_headsBehind_2 n x1 x2 S = some (res, S9) → ∀ (H : Heap) (locs : List Loc) (ls : Array Slot), zW B S H → va_S B.2.2.2 s.heap H locs → lv_has ls 3 [(0, .ref (B.2.1 9 (0) (0))), (1, .int (zI (x1))), (2, .int (zI (x2)))] → W p l e zm_M_headsBehind s m args below meth c H locs 0 0 (MQ below (zQi B res S9) args s 0 0 B.2.2.2) (F0 m 2 ls []) := by
  intro n
  induction n with
  | zero =>
    intro x1 x2 S nx1 nx2 hf H locs ls hW hS hl
    cases hf
  | succ n ih =>
    intro x1 x2 S nx1 nx2 hf H locs ls hW hS hl
    rw [zf_M_headsBehind_2] at hf
    refine lv_iload_n C.1 C.2.1 zd_M_headsBehind_2 rfl (lv_at hl 2 rfl) ?_
    refine lv_iload_n C.1 C.2.1 zd_M_headsBehind_3 rfl (lv_at hl 1 rfl) ?_
    refine zr_icmp_ge (tgt := 20) C nx2 nx1 zd_M_headsBehind_4 (by decide) (fun c1 => ?_) (fun c1 => ?_)
    · rw [if_pos c1] at hf
      refine lv_aload_n C.1 C.2.1 zd_M_headsBehind_20 rfl (lv_at hl 0 rfl) ?_
      refine zg_M_mind (r := 0) C hK hW (zvd_9 (by decide) (by decide)) zk_1501 zd_M_headsBehind_21 ?_
      refine zr_iconst C zd_M_headsBehind_24 ?_
      obtain ⟨a2, S3, ea2, hf⟩ := zbd_some hf
      refine zcVi (As := [.int (zI (0))]) (rest := []) C hK hSt hW hS (zc_W_inState hap (1) (by decide) 0 S (znb rfl) ea2) zq_W_inState zk_1980 (zrecv hK hW (zvd_5 (by decide) (by decide)) (ze_5_0 B _ (1)) rfl) ⟨rfl, rfl, by decide, by decide⟩ ⟨Nat.zero_le _, Nat.zero_le _⟩ rfl hl.1 rfl (lv_room (Nat.le_of_ble_eq_true rfl)) zd_M_headsBehind_25 (fun na2 H locs hW hS => ?_)
      cases hf
      exact zre_i C hr hlk hK hW hS na2 zd_M_headsBehind_28
    · rw [if_neg c1] at hf
      refine lv_aload_n C.1 C.2.1 zd_M_headsBehind_7 rfl (lv_at hl 0 rfl) ?_
      refine zg_M_mind (r := 0) C hK hW (zvd_9 (by decide) (by decide)) zk_1501 zd_M_headsBehind_8 ?_
      obtain ⟨a4, S5, ea4, hf⟩ := zbd_some hf
      refine zcVv (As := []) (rest := []) C hK hSt hW hS (zc_W_step hap (1) (by decide) S ea4) zq_W_step zk_1903 (zrecv hK hW (zvd_5 (by decide) (by decide)) (ze_5_0 B _ (1)) rfl) ⟨rfl, rfl, by decide, by decide⟩ ⟨Nat.zero_le _, Nat.zero_le _⟩ rfl hl.1 rfl (lv_room (Nat.le_of_ble_eq_true rfl)) zd_M_headsBehind_11 (fun H locs hW hS => ?_)
      obtain ⟨v6, ev6, hf⟩ := zlt_some hf
      have nv6 : zn v6 := by rw [← ev6]; exact zn_w _
      refine lv_iinc (v := zI v6) (lv' := [(2, .int (zI (v6))), (0, .ref (B.2.1 9 (0) (0))), (1, .int (zI (x1)))]) C.1 C.2.1 zd_M_headsBehind_14 hl (k := 2) rfl (by rw [← ev6, ← zI_add]; rfl) (by decide) rfl (fun ls hl => ?_)
      refine lv_goto (tgt := 2) C.1 C.2.1 zd_M_headsBehind_17 (by decide) ?_
      exact ih (x1) (v6) S5 nx1 nv6 hf _ _ _ hW hS (lv_sub hl [1, 2, 0] rfl)

def zf_M_headsBehind (x1 : Int) (S : Sg) : Option (Int × Sg) :=
    zf_M_headsBehind_2 4096 (x1) (0) S
set_option maxHeartbeats 4000000 in
set_option maxRecDepth 100000 in
theorem zw_M_headsBehind {p : Program} {l : Launch} {e : Env} {s : State} {m : MethodId} {args : Array Value} {below : List Frame} {meth : Method} {c : Code} {B : zB} (C : CallFix p m c zb_M_headsBehind 3 s args zT "IslandOfficeModel") (hr : meth.sig.returnType = some .int) (hlk : meth.locks = false) (hK : zK B s) (hSt : zSt B s) (hap : zAp B) {res : Int} {S9 : Sg} : ∀ (x1 : Int) (S : Sg) (nx1 : zn x1), zf_M_headsBehind x1 S = some (res, S9) → ∀ (H : Heap) (locs : List Loc) (ls : Array Slot), zW B S H → va_S B.2.2.2 s.heap H locs → lv_has ls 3 [(0, .ref (B.2.1 9 (0) (0))), (1, .int (zI (x1)))] → W p l e zm_M_headsBehind s m args below meth c H locs 0 0 (MQ below (zQi B res S9) args s 0 0 B.2.2.2) (F0 m 0 ls []) := by
  intro x1 S nx1 hf H locs ls hW hS hl
  unfold zf_M_headsBehind at hf
  refine zr_iconst C zd_M_headsBehind_0 ?_
  refine lv_istore_n (lv' := [(2, .int (zI (0))), (0, .ref (B.2.1 9 (0) (0))), (1, .int (zI (x1)))]) C.1 C.2.1 zd_M_headsBehind_1 rfl hl (by decide) rfl (fun ls hl => ?_)
  exact zw_M_headsBehind_2 C hr hlk hK hSt hap   4096 (x1) (0) S nx1 (znb rfl) hf _ _ _ hW hS (lv_sub hl [1, 2, 0] rfl)

theorem zc_M_headsBehind {l : Launch} {B : zB} (hap : zAp B) (x1 : Int) (S : Sg) (nx1 : zn x1) {res : Int} {S9 : Sg} (hf : zf_M_headsBehind x1 S = some (res, S9)) : Met l zy_M_headsBehind (Cond.code zy_M_headsBehind zb_M_headsBehind 3 (some .int) :: zT) zm_M_headsBehind (zP B S [.ref (B.2.1 9 (0) (0)), .int (zI (x1))]) (zQi B res S9) 0 0 B.2.2.2 :=
  zmet (by decide) (Nat.le_of_ble_eq_true rfl) (fun p e s m args below meth c C hr hlk hK hSt hW ls hl => zw_M_headsBehind C hr hlk hK hSt hap   x1 S nx1 hf _ _ _ hW va_S.rf hl)
/-! IslandOfficeModel$World.copy([I[I)V -/
abbrev zy_W_copy : MethodName := ⟨"IslandOfficeModel$World", "copy", "([I[I)V"⟩
abbrev zb_W_copy : ByteArray := prog_15_method_3_code
abbrev zm_W_copy : Room := { frames := 1, cells := 0, slots := 0, locals := 64 }
theorem zq_W_copy : zMs zy_W_copy zb_W_copy 2 (none) 2 := ⟨zk_1995, zk_1994, zk_15, by decide, by decide, by decide +kernel⟩
theorem zd_W_copy_0 : decode zb_W_copy 0 = .ok (.aload_n 0, 1) := by decide +kernel
theorem zd_W_copy_1 : decode zb_W_copy 1 = .ok (.iconst 0, 1) := by decide +kernel
theorem zd_W_copy_2 : decode zb_W_copy 2 = .ok (.aload_n 1, 1) := by decide +kernel
theorem zd_W_copy_3 : decode zb_W_copy 3 = .ok (.iconst 0, 1) := by decide +kernel
theorem zd_W_copy_4 : decode zb_W_copy 4 = .ok (.aload_n 0, 1) := by decide +kernel
theorem zd_W_copy_5 : decode zb_W_copy 5 = .ok (.arraylength, 1) := by decide +kernel
theorem zd_W_copy_6 : decode zb_W_copy 6 = .ok (.invokestatic 183, 3) := by decide +kernel
theorem zd_W_copy_9 : decode zb_W_copy 9 = .ok (.return_, 1) := by decide +kernel

def zf_W_copy (g0 : Nat) (r0 : Int) (k0 : Int) (n0 : Nat) (g1 : Nat) (r1 : Int) (k1 : Int) (n1 : Nat) (S : Sg) : Option (Int × Sg) :=
    zck ((0 : Int) ≤ 0 ∧ (0 : Int) ≤ 0 ∧ (0 : Int) ≤ ((n0 : Int)) ∧ (0 + ((n0 : Int)) : Int) ≤ (n0 : Int) ∧ (0 + ((n0 : Int)) : Int) ≤ (n1 : Int)) <| zlt (zcp S g0 r0 k0 0 g1 r1 k1 0 ((n0 : Int))) fun S2 => some (0, S2)
set_option maxHeartbeats 4000000 in
set_option maxRecDepth 100000 in
theorem zw_W_copy {p : Program} {l : Launch} {e : Env} {s : State} {m : MethodId} {args : Array Value} {below : List Frame} {meth : Method} {c : Code} {B : zB} (C : CallFix p m c zb_W_copy 2 s args zT "IslandOfficeModel$World") (hr : meth.sig.returnType = none) (hlk : meth.locks = false) (hK : zK B s) (hSt : zSt B s) (hap : zAp B) (g0 : Nat) (r0 : Int) (k0 : Int) (n0 : Nat) (g1 : Nat) (r1 : Int) (k1 : Int) (n1 : Nat) (hv0 : zvd g0 r0 k0) (he0 : ∀ f, zce B f g0 r0 k0 = .inl (B.2.2.1 0, n0, .inl (fun j : Nat => zI (f (j : Int))))) (hn0 : n0 ≤ 65536) (hg0 : (decide (20 ≤ g0)) = false) (hv1 : zvd g1 r1 k1) (he1 : ∀ f, zce B f g1 r1 k1 = .inl (B.2.2.1 0, n1, .inl (fun j : Nat => zI (f (j : Int))))) (hn1 : n1 ≤ 65536) (hg1 : (decide (20 ≤ g1)) = false) {res : Int} {S9 : Sg} : ∀  (S : Sg) , zf_W_copy g0 r0 k0 n0 g1 r1 k1 n1  S = some (res, S9) → ∀ (H : Heap) (locs : List Loc) (ls : Array Slot), zW B S H → va_S B.2.2.2 s.heap H locs → lv_has ls 2 [(0, .ref (B.2.1 g0 (r0) (k0))), (1, .ref (B.2.1 g1 (r1) (k1)))] → W p l e zm_W_copy s m args below meth c H locs 0 0 (MQ below (zQv B S9) args s 0 0 B.2.2.2) (F0 m 0 ls []) := by
  intro S hf H locs ls hW hS hl
  unfold zf_W_copy at hf
  refine lv_aload_n C.1 C.2.1 zd_W_copy_0 rfl (lv_at hl 0 rfl) ?_
  refine zr_iconst C zd_W_copy_1 ?_
  refine lv_aload_n C.1 C.2.1 zd_W_copy_2 rfl (lv_at hl 1 rfl) ?_
  refine zr_iconst C zd_W_copy_3 ?_
  refine lv_aload_n C.1 C.2.1 zd_W_copy_4 rfl (lv_at hl 0 rfl) ?_
  refine zalen (N := (n0 : Int)) C hK hW hv0 he0 rfl zd_W_copy_5 ?_
  obtain ⟨h1, hf⟩ := zck_some hf
  obtain ⟨S2, eS2, hf⟩ := zlt_some hf
  refine zcopy C hK hap hW hS hl.1 hv0 hv1 he0 he1 hn0 hn1 hg0 hg1 h1 zk_1716 zk_735 zk_734 zk_18 (by decide) (Nat.le_of_ble_eq_true rfl) zd_W_copy_6 (fun H locs hW hS => ?_)
  rw [eS2] at hW
  cases hf
  exact zre_v C hr hlk hK hW hS zd_W_copy_9

theorem zc_W_copy {l : Launch} {B : zB} (hap : zAp B) (g0 : Nat) (r0 : Int) (k0 : Int) (n0 : Nat) (g1 : Nat) (r1 : Int) (k1 : Int) (n1 : Nat) (hv0 : zvd g0 r0 k0) (he0 : ∀ f, zce B f g0 r0 k0 = .inl (B.2.2.1 0, n0, .inl (fun j : Nat => zI (f (j : Int))))) (hn0 : n0 ≤ 65536) (hg0 : (decide (20 ≤ g0)) = false) (hv1 : zvd g1 r1 k1) (he1 : ∀ f, zce B f g1 r1 k1 = .inl (B.2.2.1 0, n1, .inl (fun j : Nat => zI (f (j : Int))))) (hn1 : n1 ≤ 65536) (hg1 : (decide (20 ≤ g1)) = false) (S : Sg) {res : Int} {S9 : Sg} (hf : zf_W_copy g0 r0 k0 n0 g1 r1 k1 n1 S = some (res, S9)) : Met l zy_W_copy (Cond.code zy_W_copy zb_W_copy 2 (none) :: zT) zm_W_copy (zP B S [.ref (B.2.1 g0 (r0) (k0)), .ref (B.2.1 g1 (r1) (k1))]) (zQv B S9) 0 0 B.2.2.2 :=
  zmet (by decide) (Nat.le_of_ble_eq_true rfl) (fun p e s m args below meth c C hr hlk hK hSt hW ls hl => zw_W_copy C hr hlk hK hSt hap g0 r0 k0 n0 g1 r1 k1 n1 hv0 he0 hn0 hg0 hv1 he1 hn1 hg1  S  hf _ _ _ hW va_S.rf hl)
/-! IslandOfficeModel$World.like(LIslandOfficeModel$World;)V -/
abbrev zy_W_like : MethodName := ⟨"IslandOfficeModel$World", "like", "(LIslandOfficeModel$World;)V"⟩
abbrev zb_W_like : ByteArray := prog_15_method_2_code
abbrev zm_W_like : Room := { frames := 2, cells := 0, slots := 0, locals := 85 }
theorem zq_W_like : zMy zy_W_like zb_W_like 3 (none) 1 := ⟨zk_1992, zk_1990, zk_1991, zk_15, by decide, by decide, by decide +kernel⟩
theorem zd_W_like_0 : decode zb_W_like 0 = .ok (.aload_n 0, 1) := by decide +kernel
theorem zd_W_like_1 : decode zb_W_like 1 = .ok (.aload_n 1, 1) := by decide +kernel
theorem zd_W_like_2 : decode zb_W_like 2 = .ok (.getfield 155, 3) := by decide +kernel
theorem zd_W_like_5 : decode zb_W_like 5 = .ok (.putfield 155, 3) := by decide +kernel
theorem zd_W_like_8 : decode zb_W_like 8 = .ok (.aload_n 0, 1) := by decide +kernel
theorem zd_W_like_9 : decode zb_W_like 9 = .ok (.aload_n 1, 1) := by decide +kernel
theorem zd_W_like_10 : decode zb_W_like 10 = .ok (.getfield 158, 3) := by decide +kernel
theorem zd_W_like_13 : decode zb_W_like 13 = .ok (.putfield 158, 3) := by decide +kernel
theorem zd_W_like_16 : decode zb_W_like 16 = .ok (.aload_n 1, 1) := by decide +kernel
theorem zd_W_like_17 : decode zb_W_like 17 = .ok (.getfield 9, 3) := by decide +kernel
theorem zd_W_like_20 : decode zb_W_like 20 = .ok (.aload_n 0, 1) := by decide +kernel
theorem zd_W_like_21 : decode zb_W_like 21 = .ok (.getfield 9, 3) := by decide +kernel
theorem zd_W_like_24 : decode zb_W_like 24 = .ok (.invokestatic 161, 3) := by decide +kernel
theorem zd_W_like_27 : decode zb_W_like 27 = .ok (.aload_n 1, 1) := by decide +kernel
theorem zd_W_like_28 : decode zb_W_like 28 = .ok (.getfield 15, 3) := by decide +kernel
theorem zd_W_like_31 : decode zb_W_like 31 = .ok (.aload_n 0, 1) := by decide +kernel
theorem zd_W_like_32 : decode zb_W_like 32 = .ok (.getfield 15, 3) := by decide +kernel
theorem zd_W_like_35 : decode zb_W_like 35 = .ok (.invokestatic 161, 3) := by decide +kernel
theorem zd_W_like_38 : decode zb_W_like 38 = .ok (.aload_n 1, 1) := by decide +kernel
theorem zd_W_like_39 : decode zb_W_like 39 = .ok (.getfield 18, 3) := by decide +kernel
theorem zd_W_like_42 : decode zb_W_like 42 = .ok (.aload_n 0, 1) := by decide +kernel
theorem zd_W_like_43 : decode zb_W_like 43 = .ok (.getfield 18, 3) := by decide +kernel
theorem zd_W_like_46 : decode zb_W_like 46 = .ok (.invokestatic 161, 3) := by decide +kernel
theorem zd_W_like_49 : decode zb_W_like 49 = .ok (.aload_n 1, 1) := by decide +kernel
theorem zd_W_like_50 : decode zb_W_like 50 = .ok (.getfield 21, 3) := by decide +kernel
theorem zd_W_like_53 : decode zb_W_like 53 = .ok (.aload_n 0, 1) := by decide +kernel
theorem zd_W_like_54 : decode zb_W_like 54 = .ok (.getfield 21, 3) := by decide +kernel
theorem zd_W_like_57 : decode zb_W_like 57 = .ok (.invokestatic 161, 3) := by decide +kernel
theorem zd_W_like_60 : decode zb_W_like 60 = .ok (.aload_n 1, 1) := by decide +kernel
theorem zd_W_like_61 : decode zb_W_like 61 = .ok (.getfield 24, 3) := by decide +kernel
theorem zd_W_like_64 : decode zb_W_like 64 = .ok (.aload_n 0, 1) := by decide +kernel
theorem zd_W_like_65 : decode zb_W_like 65 = .ok (.getfield 24, 3) := by decide +kernel
theorem zd_W_like_68 : decode zb_W_like 68 = .ok (.invokestatic 161, 3) := by decide +kernel
theorem zd_W_like_71 : decode zb_W_like 71 = .ok (.aload_n 1, 1) := by decide +kernel
theorem zd_W_like_72 : decode zb_W_like 72 = .ok (.getfield 27, 3) := by decide +kernel
theorem zd_W_like_75 : decode zb_W_like 75 = .ok (.aload_n 0, 1) := by decide +kernel
theorem zd_W_like_76 : decode zb_W_like 76 = .ok (.getfield 27, 3) := by decide +kernel
theorem zd_W_like_79 : decode zb_W_like 79 = .ok (.invokestatic 161, 3) := by decide +kernel
theorem zd_W_like_82 : decode zb_W_like 82 = .ok (.aload_n 1, 1) := by decide +kernel
theorem zd_W_like_83 : decode zb_W_like 83 = .ok (.getfield 30, 3) := by decide +kernel
theorem zd_W_like_86 : decode zb_W_like 86 = .ok (.aload_n 0, 1) := by decide +kernel
theorem zd_W_like_87 : decode zb_W_like 87 = .ok (.getfield 30, 3) := by decide +kernel
theorem zd_W_like_90 : decode zb_W_like 90 = .ok (.invokestatic 161, 3) := by decide +kernel
theorem zd_W_like_93 : decode zb_W_like 93 = .ok (.aload_n 1, 1) := by decide +kernel
theorem zd_W_like_94 : decode zb_W_like 94 = .ok (.getfield 33, 3) := by decide +kernel
theorem zd_W_like_97 : decode zb_W_like 97 = .ok (.aload_n 0, 1) := by decide +kernel
theorem zd_W_like_98 : decode zb_W_like 98 = .ok (.getfield 33, 3) := by decide +kernel
theorem zd_W_like_101 : decode zb_W_like 101 = .ok (.invokestatic 161, 3) := by decide +kernel
theorem zd_W_like_104 : decode zb_W_like 104 = .ok (.aload_n 1, 1) := by decide +kernel
theorem zd_W_like_105 : decode zb_W_like 105 = .ok (.getfield 36, 3) := by decide +kernel
theorem zd_W_like_108 : decode zb_W_like 108 = .ok (.aload_n 0, 1) := by decide +kernel
theorem zd_W_like_109 : decode zb_W_like 109 = .ok (.getfield 36, 3) := by decide +kernel
theorem zd_W_like_112 : decode zb_W_like 112 = .ok (.invokestatic 161, 3) := by decide +kernel
theorem zd_W_like_115 : decode zb_W_like 115 = .ok (.aload_n 1, 1) := by decide +kernel
theorem zd_W_like_116 : decode zb_W_like 116 = .ok (.getfield 39, 3) := by decide +kernel
theorem zd_W_like_119 : decode zb_W_like 119 = .ok (.aload_n 0, 1) := by decide +kernel
theorem zd_W_like_120 : decode zb_W_like 120 = .ok (.getfield 39, 3) := by decide +kernel
theorem zd_W_like_123 : decode zb_W_like 123 = .ok (.invokestatic 161, 3) := by decide +kernel
theorem zd_W_like_126 : decode zb_W_like 126 = .ok (.aload_n 1, 1) := by decide +kernel
theorem zd_W_like_127 : decode zb_W_like 127 = .ok (.getfield 42, 3) := by decide +kernel
theorem zd_W_like_130 : decode zb_W_like 130 = .ok (.aload_n 0, 1) := by decide +kernel
theorem zd_W_like_131 : decode zb_W_like 131 = .ok (.getfield 42, 3) := by decide +kernel
theorem zd_W_like_134 : decode zb_W_like 134 = .ok (.invokestatic 161, 3) := by decide +kernel
theorem zd_W_like_137 : decode zb_W_like 137 = .ok (.aload_n 1, 1) := by decide +kernel
theorem zd_W_like_138 : decode zb_W_like 138 = .ok (.getfield 45, 3) := by decide +kernel
theorem zd_W_like_141 : decode zb_W_like 141 = .ok (.aload_n 0, 1) := by decide +kernel
theorem zd_W_like_142 : decode zb_W_like 142 = .ok (.getfield 45, 3) := by decide +kernel
theorem zd_W_like_145 : decode zb_W_like 145 = .ok (.invokestatic 161, 3) := by decide +kernel
theorem zd_W_like_148 : decode zb_W_like 148 = .ok (.aload_n 1, 1) := by decide +kernel
theorem zd_W_like_149 : decode zb_W_like 149 = .ok (.getfield 48, 3) := by decide +kernel
theorem zd_W_like_152 : decode zb_W_like 152 = .ok (.aload_n 0, 1) := by decide +kernel
theorem zd_W_like_153 : decode zb_W_like 153 = .ok (.getfield 48, 3) := by decide +kernel
theorem zd_W_like_156 : decode zb_W_like 156 = .ok (.invokestatic 161, 3) := by decide +kernel
theorem zd_W_like_159 : decode zb_W_like 159 = .ok (.aload_n 0, 1) := by decide +kernel
theorem zd_W_like_160 : decode zb_W_like 160 = .ok (.aload_n 1, 1) := by decide +kernel
theorem zd_W_like_161 : decode zb_W_like 161 = .ok (.getfield 51, 3) := by decide +kernel
theorem zd_W_like_164 : decode zb_W_like 164 = .ok (.putfield 51, 3) := by decide +kernel
theorem zd_W_like_167 : decode zb_W_like 167 = .ok (.aload_n 0, 1) := by decide +kernel
theorem zd_W_like_168 : decode zb_W_like 168 = .ok (.aload_n 1, 1) := by decide +kernel
theorem zd_W_like_169 : decode zb_W_like 169 = .ok (.getfield 165, 3) := by decide +kernel
theorem zd_W_like_172 : decode zb_W_like 172 = .ok (.putfield 165, 3) := by decide +kernel
theorem zd_W_like_175 : decode zb_W_like 175 = .ok (.iconst 0, 1) := by decide +kernel
theorem zd_W_like_176 : decode zb_W_like 176 = .ok (.istore_n 2, 1) := by decide +kernel
theorem zd_W_like_177 : decode zb_W_like 177 = .ok (.iload_n 2, 1) := by decide +kernel
theorem zd_W_like_178 : decode zb_W_like 178 = .ok (.bipush 12, 2) := by decide +kernel
theorem zd_W_like_180 : decode zb_W_like 180 = .ok (.if_icmp .ge 24, 3) := by decide +kernel
theorem zd_W_like_183 : decode zb_W_like 183 = .ok (.aload_n 1, 1) := by decide +kernel
theorem zd_W_like_184 : decode zb_W_like 184 = .ok (.getfield 57, 3) := by decide +kernel
theorem zd_W_like_187 : decode zb_W_like 187 = .ok (.iload_n 2, 1) := by decide +kernel
theorem zd_W_like_188 : decode zb_W_like 188 = .ok (.aaload, 1) := by decide +kernel
theorem zd_W_like_189 : decode zb_W_like 189 = .ok (.aload_n 0, 1) := by decide +kernel
theorem zd_W_like_190 : decode zb_W_like 190 = .ok (.getfield 57, 3) := by decide +kernel
theorem zd_W_like_193 : decode zb_W_like 193 = .ok (.iload_n 2, 1) := by decide +kernel
theorem zd_W_like_194 : decode zb_W_like 194 = .ok (.aaload, 1) := by decide +kernel
theorem zd_W_like_195 : decode zb_W_like 195 = .ok (.invokestatic 161, 3) := by decide +kernel
theorem zd_W_like_198 : decode zb_W_like 198 = .ok (.iinc 2 1, 3) := by decide +kernel
theorem zd_W_like_201 : decode zb_W_like 201 = .ok (.goto (-24), 3) := by decide +kernel
theorem zd_W_like_204 : decode zb_W_like 204 = .ok (.aload_n 1, 1) := by decide +kernel
theorem zd_W_like_205 : decode zb_W_like 205 = .ok (.getfield 60, 3) := by decide +kernel
theorem zd_W_like_208 : decode zb_W_like 208 = .ok (.aload_n 0, 1) := by decide +kernel
theorem zd_W_like_209 : decode zb_W_like 209 = .ok (.getfield 60, 3) := by decide +kernel
theorem zd_W_like_212 : decode zb_W_like 212 = .ok (.invokestatic 161, 3) := by decide +kernel
theorem zd_W_like_215 : decode zb_W_like 215 = .ok (.aload_n 1, 1) := by decide +kernel
theorem zd_W_like_216 : decode zb_W_like 216 = .ok (.getfield 63, 3) := by decide +kernel
theorem zd_W_like_219 : decode zb_W_like 219 = .ok (.aload_n 0, 1) := by decide +kernel
theorem zd_W_like_220 : decode zb_W_like 220 = .ok (.getfield 63, 3) := by decide +kernel
theorem zd_W_like_223 : decode zb_W_like 223 = .ok (.invokestatic 161, 3) := by decide +kernel
theorem zd_W_like_226 : decode zb_W_like 226 = .ok (.aload_n 1, 1) := by decide +kernel
theorem zd_W_like_227 : decode zb_W_like 227 = .ok (.getfield 66, 3) := by decide +kernel
theorem zd_W_like_230 : decode zb_W_like 230 = .ok (.aload_n 0, 1) := by decide +kernel
theorem zd_W_like_231 : decode zb_W_like 231 = .ok (.getfield 66, 3) := by decide +kernel
theorem zd_W_like_234 : decode zb_W_like 234 = .ok (.invokestatic 161, 3) := by decide +kernel
theorem zd_W_like_237 : decode zb_W_like 237 = .ok (.aload_n 1, 1) := by decide +kernel
theorem zd_W_like_238 : decode zb_W_like 238 = .ok (.getfield 69, 3) := by decide +kernel
theorem zd_W_like_241 : decode zb_W_like 241 = .ok (.aload_n 0, 1) := by decide +kernel
theorem zd_W_like_242 : decode zb_W_like 242 = .ok (.getfield 69, 3) := by decide +kernel
theorem zd_W_like_245 : decode zb_W_like 245 = .ok (.invokestatic 161, 3) := by decide +kernel
theorem zd_W_like_248 : decode zb_W_like 248 = .ok (.aload_n 1, 1) := by decide +kernel
theorem zd_W_like_249 : decode zb_W_like 249 = .ok (.getfield 72, 3) := by decide +kernel
theorem zd_W_like_252 : decode zb_W_like 252 = .ok (.aload_n 0, 1) := by decide +kernel
theorem zd_W_like_253 : decode zb_W_like 253 = .ok (.getfield 72, 3) := by decide +kernel
theorem zd_W_like_256 : decode zb_W_like 256 = .ok (.invokestatic 161, 3) := by decide +kernel
theorem zd_W_like_259 : decode zb_W_like 259 = .ok (.aload_n 1, 1) := by decide +kernel
theorem zd_W_like_260 : decode zb_W_like 260 = .ok (.getfield 75, 3) := by decide +kernel
theorem zd_W_like_263 : decode zb_W_like 263 = .ok (.aload_n 0, 1) := by decide +kernel
theorem zd_W_like_264 : decode zb_W_like 264 = .ok (.getfield 75, 3) := by decide +kernel
theorem zd_W_like_267 : decode zb_W_like 267 = .ok (.invokestatic 161, 3) := by decide +kernel
theorem zd_W_like_270 : decode zb_W_like 270 = .ok (.aload_n 1, 1) := by decide +kernel
theorem zd_W_like_271 : decode zb_W_like 271 = .ok (.getfield 78, 3) := by decide +kernel
theorem zd_W_like_274 : decode zb_W_like 274 = .ok (.aload_n 0, 1) := by decide +kernel
theorem zd_W_like_275 : decode zb_W_like 275 = .ok (.getfield 78, 3) := by decide +kernel
theorem zd_W_like_278 : decode zb_W_like 278 = .ok (.invokestatic 161, 3) := by decide +kernel
theorem zd_W_like_281 : decode zb_W_like 281 = .ok (.aload_n 0, 1) := by decide +kernel
theorem zd_W_like_282 : decode zb_W_like 282 = .ok (.aload_n 1, 1) := by decide +kernel
theorem zd_W_like_283 : decode zb_W_like 283 = .ok (.getfield 168, 3) := by decide +kernel
theorem zd_W_like_286 : decode zb_W_like 286 = .ok (.putfield 168, 3) := by decide +kernel
theorem zd_W_like_289 : decode zb_W_like 289 = .ok (.aload_n 1, 1) := by decide +kernel
theorem zd_W_like_290 : decode zb_W_like 290 = .ok (.getfield 81, 3) := by decide +kernel
theorem zd_W_like_293 : decode zb_W_like 293 = .ok (.aload_n 0, 1) := by decide +kernel
theorem zd_W_like_294 : decode zb_W_like 294 = .ok (.getfield 81, 3) := by decide +kernel
theorem zd_W_like_297 : decode zb_W_like 297 = .ok (.invokestatic 161, 3) := by decide +kernel
theorem zd_W_like_300 : decode zb_W_like 300 = .ok (.aload_n 1, 1) := by decide +kernel
theorem zd_W_like_301 : decode zb_W_like 301 = .ok (.getfield 84, 3) := by decide +kernel
theorem zd_W_like_304 : decode zb_W_like 304 = .ok (.aload_n 0, 1) := by decide +kernel
theorem zd_W_like_305 : decode zb_W_like 305 = .ok (.getfield 84, 3) := by decide +kernel
theorem zd_W_like_308 : decode zb_W_like 308 = .ok (.invokestatic 161, 3) := by decide +kernel
theorem zd_W_like_311 : decode zb_W_like 311 = .ok (.aload_n 1, 1) := by decide +kernel
theorem zd_W_like_312 : decode zb_W_like 312 = .ok (.getfield 87, 3) := by decide +kernel
theorem zd_W_like_315 : decode zb_W_like 315 = .ok (.aload_n 0, 1) := by decide +kernel
theorem zd_W_like_316 : decode zb_W_like 316 = .ok (.getfield 87, 3) := by decide +kernel
theorem zd_W_like_319 : decode zb_W_like 319 = .ok (.invokestatic 161, 3) := by decide +kernel
theorem zd_W_like_322 : decode zb_W_like 322 = .ok (.aload_n 1, 1) := by decide +kernel
theorem zd_W_like_323 : decode zb_W_like 323 = .ok (.getfield 90, 3) := by decide +kernel
theorem zd_W_like_326 : decode zb_W_like 326 = .ok (.aload_n 0, 1) := by decide +kernel
theorem zd_W_like_327 : decode zb_W_like 327 = .ok (.getfield 90, 3) := by decide +kernel
theorem zd_W_like_330 : decode zb_W_like 330 = .ok (.invokestatic 161, 3) := by decide +kernel
theorem zd_W_like_333 : decode zb_W_like 333 = .ok (.aload_n 1, 1) := by decide +kernel
theorem zd_W_like_334 : decode zb_W_like 334 = .ok (.getfield 93, 3) := by decide +kernel
theorem zd_W_like_337 : decode zb_W_like 337 = .ok (.aload_n 0, 1) := by decide +kernel
theorem zd_W_like_338 : decode zb_W_like 338 = .ok (.getfield 93, 3) := by decide +kernel
theorem zd_W_like_341 : decode zb_W_like 341 = .ok (.invokestatic 161, 3) := by decide +kernel
theorem zd_W_like_344 : decode zb_W_like 344 = .ok (.aload_n 1, 1) := by decide +kernel
theorem zd_W_like_345 : decode zb_W_like 345 = .ok (.getfield 96, 3) := by decide +kernel
theorem zd_W_like_348 : decode zb_W_like 348 = .ok (.aload_n 0, 1) := by decide +kernel
theorem zd_W_like_349 : decode zb_W_like 349 = .ok (.getfield 96, 3) := by decide +kernel
theorem zd_W_like_352 : decode zb_W_like 352 = .ok (.invokestatic 161, 3) := by decide +kernel
theorem zd_W_like_355 : decode zb_W_like 355 = .ok (.aload_n 1, 1) := by decide +kernel
theorem zd_W_like_356 : decode zb_W_like 356 = .ok (.getfield 99, 3) := by decide +kernel
theorem zd_W_like_359 : decode zb_W_like 359 = .ok (.aload_n 0, 1) := by decide +kernel
theorem zd_W_like_360 : decode zb_W_like 360 = .ok (.getfield 99, 3) := by decide +kernel
theorem zd_W_like_363 : decode zb_W_like 363 = .ok (.invokestatic 161, 3) := by decide +kernel
theorem zd_W_like_366 : decode zb_W_like 366 = .ok (.aload_n 0, 1) := by decide +kernel
theorem zd_W_like_367 : decode zb_W_like 367 = .ok (.aload_n 1, 1) := by decide +kernel
theorem zd_W_like_368 : decode zb_W_like 368 = .ok (.getfield 171, 3) := by decide +kernel
theorem zd_W_like_371 : decode zb_W_like 371 = .ok (.putfield 171, 3) := by decide +kernel
theorem zd_W_like_374 : decode zb_W_like 374 = .ok (.aload_n 1, 1) := by decide +kernel
theorem zd_W_like_375 : decode zb_W_like 375 = .ok (.getfield 102, 3) := by decide +kernel
theorem zd_W_like_378 : decode zb_W_like 378 = .ok (.aload_n 0, 1) := by decide +kernel
theorem zd_W_like_379 : decode zb_W_like 379 = .ok (.getfield 102, 3) := by decide +kernel
theorem zd_W_like_382 : decode zb_W_like 382 = .ok (.invokestatic 161, 3) := by decide +kernel
theorem zd_W_like_385 : decode zb_W_like 385 = .ok (.aload_n 1, 1) := by decide +kernel
theorem zd_W_like_386 : decode zb_W_like 386 = .ok (.getfield 105, 3) := by decide +kernel
theorem zd_W_like_389 : decode zb_W_like 389 = .ok (.aload_n 0, 1) := by decide +kernel
theorem zd_W_like_390 : decode zb_W_like 390 = .ok (.getfield 105, 3) := by decide +kernel
theorem zd_W_like_393 : decode zb_W_like 393 = .ok (.invokestatic 161, 3) := by decide +kernel
theorem zd_W_like_396 : decode zb_W_like 396 = .ok (.aload_n 1, 1) := by decide +kernel
theorem zd_W_like_397 : decode zb_W_like 397 = .ok (.getfield 108, 3) := by decide +kernel
theorem zd_W_like_400 : decode zb_W_like 400 = .ok (.aload_n 0, 1) := by decide +kernel
theorem zd_W_like_401 : decode zb_W_like 401 = .ok (.getfield 108, 3) := by decide +kernel
theorem zd_W_like_404 : decode zb_W_like 404 = .ok (.invokestatic 161, 3) := by decide +kernel
theorem zd_W_like_407 : decode zb_W_like 407 = .ok (.aload_n 1, 1) := by decide +kernel
theorem zd_W_like_408 : decode zb_W_like 408 = .ok (.getfield 111, 3) := by decide +kernel
theorem zd_W_like_411 : decode zb_W_like 411 = .ok (.aload_n 0, 1) := by decide +kernel
theorem zd_W_like_412 : decode zb_W_like 412 = .ok (.getfield 111, 3) := by decide +kernel
theorem zd_W_like_415 : decode zb_W_like 415 = .ok (.invokestatic 161, 3) := by decide +kernel
theorem zd_W_like_418 : decode zb_W_like 418 = .ok (.aload_n 0, 1) := by decide +kernel
theorem zd_W_like_419 : decode zb_W_like 419 = .ok (.aload_n 1, 1) := by decide +kernel
theorem zd_W_like_420 : decode zb_W_like 420 = .ok (.getfield 174, 3) := by decide +kernel
theorem zd_W_like_423 : decode zb_W_like 423 = .ok (.putfield 174, 3) := by decide +kernel
theorem zd_W_like_426 : decode zb_W_like 426 = .ok (.aload_n 0, 1) := by decide +kernel
theorem zd_W_like_427 : decode zb_W_like 427 = .ok (.aload_n 1, 1) := by decide +kernel
theorem zd_W_like_428 : decode zb_W_like 428 = .ok (.getfield 177, 3) := by decide +kernel
theorem zd_W_like_431 : decode zb_W_like 431 = .ok (.putfield 177, 3) := by decide +kernel
theorem zd_W_like_434 : decode zb_W_like 434 = .ok (.aload_n 0, 1) := by decide +kernel
theorem zd_W_like_435 : decode zb_W_like 435 = .ok (.aload_n 1, 1) := by decide +kernel
theorem zd_W_like_436 : decode zb_W_like 436 = .ok (.getfield 180, 3) := by decide +kernel
theorem zd_W_like_439 : decode zb_W_like 439 = .ok (.putfield 180, 3) := by decide +kernel
theorem zd_W_like_442 : decode zb_W_like 442 = .ok (.aload_n 0, 1) := by decide +kernel
theorem zd_W_like_443 : decode zb_W_like 443 = .ok (.aload_n 1, 1) := by decide +kernel
theorem zd_W_like_444 : decode zb_W_like 444 = .ok (.getfield 114, 3) := by decide +kernel
theorem zd_W_like_447 : decode zb_W_like 447 = .ok (.putfield 114, 3) := by decide +kernel
theorem zd_W_like_450 : decode zb_W_like 450 = .ok (.aload_n 1, 1) := by decide +kernel
theorem zd_W_like_451 : decode zb_W_like 451 = .ok (.getfield 117, 3) := by decide +kernel
theorem zd_W_like_454 : decode zb_W_like 454 = .ok (.aload_n 0, 1) := by decide +kernel
theorem zd_W_like_455 : decode zb_W_like 455 = .ok (.getfield 117, 3) := by decide +kernel
theorem zd_W_like_458 : decode zb_W_like 458 = .ok (.invokestatic 161, 3) := by decide +kernel
theorem zd_W_like_461 : decode zb_W_like 461 = .ok (.aload_n 1, 1) := by decide +kernel
theorem zd_W_like_462 : decode zb_W_like 462 = .ok (.getfield 120, 3) := by decide +kernel
theorem zd_W_like_465 : decode zb_W_like 465 = .ok (.aload_n 0, 1) := by decide +kernel
theorem zd_W_like_466 : decode zb_W_like 466 = .ok (.getfield 120, 3) := by decide +kernel
theorem zd_W_like_469 : decode zb_W_like 469 = .ok (.invokestatic 161, 3) := by decide +kernel
theorem zd_W_like_472 : decode zb_W_like 472 = .ok (.aload_n 1, 1) := by decide +kernel
theorem zd_W_like_473 : decode zb_W_like 473 = .ok (.getfield 123, 3) := by decide +kernel
theorem zd_W_like_476 : decode zb_W_like 476 = .ok (.iconst 0, 1) := by decide +kernel
theorem zd_W_like_477 : decode zb_W_like 477 = .ok (.aaload, 1) := by decide +kernel
theorem zd_W_like_478 : decode zb_W_like 478 = .ok (.aload_n 0, 1) := by decide +kernel
theorem zd_W_like_479 : decode zb_W_like 479 = .ok (.getfield 123, 3) := by decide +kernel
theorem zd_W_like_482 : decode zb_W_like 482 = .ok (.iconst 0, 1) := by decide +kernel
theorem zd_W_like_483 : decode zb_W_like 483 = .ok (.aaload, 1) := by decide +kernel
theorem zd_W_like_484 : decode zb_W_like 484 = .ok (.invokestatic 161, 3) := by decide +kernel
theorem zd_W_like_487 : decode zb_W_like 487 = .ok (.aload_n 1, 1) := by decide +kernel
theorem zd_W_like_488 : decode zb_W_like 488 = .ok (.getfield 123, 3) := by decide +kernel
theorem zd_W_like_491 : decode zb_W_like 491 = .ok (.iconst 1, 1) := by decide +kernel
theorem zd_W_like_492 : decode zb_W_like 492 = .ok (.aaload, 1) := by decide +kernel
theorem zd_W_like_493 : decode zb_W_like 493 = .ok (.aload_n 0, 1) := by decide +kernel
theorem zd_W_like_494 : decode zb_W_like 494 = .ok (.getfield 123, 3) := by decide +kernel
theorem zd_W_like_497 : decode zb_W_like 497 = .ok (.iconst 1, 1) := by decide +kernel
theorem zd_W_like_498 : decode zb_W_like 498 = .ok (.aaload, 1) := by decide +kernel
theorem zd_W_like_499 : decode zb_W_like 499 = .ok (.invokestatic 161, 3) := by decide +kernel
theorem zd_W_like_502 : decode zb_W_like 502 = .ok (.iconst 0, 1) := by decide +kernel
theorem zd_W_like_503 : decode zb_W_like 503 = .ok (.istore_n 2, 1) := by decide +kernel
theorem zd_W_like_504 : decode zb_W_like 504 = .ok (.iload_n 2, 1) := by decide +kernel
theorem zd_W_like_505 : decode zb_W_like 505 = .ok (.iconst 5, 1) := by decide +kernel
theorem zd_W_like_506 : decode zb_W_like 506 = .ok (.if_icmp .ge 24, 3) := by decide +kernel
theorem zd_W_like_509 : decode zb_W_like 509 = .ok (.aload_n 1, 1) := by decide +kernel
theorem zd_W_like_510 : decode zb_W_like 510 = .ok (.getfield 126, 3) := by decide +kernel
theorem zd_W_like_513 : decode zb_W_like 513 = .ok (.iload_n 2, 1) := by decide +kernel
theorem zd_W_like_514 : decode zb_W_like 514 = .ok (.aaload, 1) := by decide +kernel
theorem zd_W_like_515 : decode zb_W_like 515 = .ok (.aload_n 0, 1) := by decide +kernel
theorem zd_W_like_516 : decode zb_W_like 516 = .ok (.getfield 126, 3) := by decide +kernel
theorem zd_W_like_519 : decode zb_W_like 519 = .ok (.iload_n 2, 1) := by decide +kernel
theorem zd_W_like_520 : decode zb_W_like 520 = .ok (.aaload, 1) := by decide +kernel
theorem zd_W_like_521 : decode zb_W_like 521 = .ok (.invokestatic 161, 3) := by decide +kernel
theorem zd_W_like_524 : decode zb_W_like 524 = .ok (.iinc 2 1, 3) := by decide +kernel
theorem zd_W_like_527 : decode zb_W_like 527 = .ok (.goto (-23), 3) := by decide +kernel
theorem zd_W_like_530 : decode zb_W_like 530 = .ok (.aload_n 1, 1) := by decide +kernel
theorem zd_W_like_531 : decode zb_W_like 531 = .ok (.getfield 129, 3) := by decide +kernel
theorem zd_W_like_534 : decode zb_W_like 534 = .ok (.aload_n 0, 1) := by decide +kernel
theorem zd_W_like_535 : decode zb_W_like 535 = .ok (.getfield 129, 3) := by decide +kernel
theorem zd_W_like_538 : decode zb_W_like 538 = .ok (.invokestatic 161, 3) := by decide +kernel
theorem zd_W_like_541 : decode zb_W_like 541 = .ok (.return_, 1) := by decide +kernel

def zf_W_like_504 (r0 : Int) (r1 : Int) : Nat → Int → Sg → Option (Int × Sg)
  | 0, _, _ => none
  | n + 1, x2, S =>
    if 5 ≤ x2 then (zbd (zf_W_copy 5 (r1) (34) 4 5 (r0) (34) 4 S) fun a2 S3 => some (0, S3)) else (zck (0 ≤ x2 ∧ x2 < 5) <| zbd (zf_W_copy 8 (r1) (x2) 401 8 (r0) (x2) 401 S) fun a5 S6 => zlt (zw (x2 + 1)) fun v7 => (zf_W_like_504 r0 r1 n) (v7) S6)
set_option maxHeartbeats 4000000 in
set_option maxRecDepth 100000 in
theorem zw_W_like_504 {p : Program} {l : Launch} {e : Env} {s : State} {m : MethodId} {args : Array Value} {below : List Frame} {meth : Method} {c : Code} {B : zB} (C : CallFix p m c zb_W_like 3 s args zT "IslandOfficeModel$World") (hr : meth.sig.returnType = none) (hlk : meth.locks = false) (hK : zK B s) (hSt : zSt B s) (hap : zAp B) (r0 : Int) (r1 : Int) (hr0 : 0 ≤ r0 ∧ r0 < 3) (hr1 : 0 ≤ r1 ∧ r1 < 3) {res : Int} {S9 : Sg} : ∀ n : Nat, ∀ (x2 : Int) (S : Sg) (nx2 : zn x2), zf_W_like_504 r0 r1 n x2 S = some (res, S9) → ∀ (H : Heap) (locs : List Loc) (ls : Array Slot), zW B S H → va_S B.2.2.2 s.heap H locs → lv_has ls 3 [(0, .ref (B.2.1 5 (r0) (0))), (1, .ref (B.2.1 5 (r1) (0))), (2, .int (zI (x2)))] → W p l e zm_W_like s m args below meth c H locs 0 0 (MQ below (zQv B S9) args s 0 0 B.2.2.2) (F0 m 504 ls []) := by
  intro n
  induction n with
  | zero =>
    intro x2 S nx2 hf H locs ls hW hS hl
    cases hf
  | succ n ih =>
    intro x2 S nx2 hf H locs ls hW hS hl
    rw [zf_W_like_504] at hf
    refine lv_iload_n C.1 C.2.1 zd_W_like_504 rfl (lv_at hl 2 rfl) ?_
    refine zr_iconst C zd_W_like_505 ?_
    refine zr_icmp_ge (tgt := 530) C nx2 (znb rfl) zd_W_like_506 (by decide) (fun c1 => ?_) (fun c1 => ?_)
    · rw [if_pos c1] at hf
      refine lv_aload_n C.1 C.2.1 zd_W_like_530 rfl (lv_at hl 1 rfl) ?_
      refine zg_W_lacking (r := r1) C hK hW (zvd_5 hr1 (by decide)) zk_1367 zd_W_like_531 ?_
      refine lv_aload_n C.1 C.2.1 zd_W_like_534 rfl (lv_at hl 0 rfl) ?_
      refine zg_W_lacking (r := r0) C hK hW (zvd_5 hr0 (by decide)) zk_1367 zd_W_like_535 ?_
      obtain ⟨a2, S3, ea2, hf⟩ := zbd_some hf
      refine zcSv (As := [.ref (B.2.1 5 (r1) (34)), .ref (B.2.1 5 (r0) (34))]) (rest := []) C hK hSt hW hS (zc_W_copy hap 5 (r1) (34) 4 5 (r0) (34) 4 (zvd_5 hr1 (by decide)) (fun f => ze_5_34 B f (r1)) (by decide) rfl (zvd_5 hr0 (by decide)) (fun f => ze_5_34 B f (r0)) (by decide) rfl S ea2) zq_W_copy zk_1993 ⟨rfl, rfl, by decide, by decide⟩ ⟨Nat.zero_le _, Nat.zero_le _⟩ rfl hl.1 rfl (lv_room (Nat.le_of_ble_eq_true rfl)) zd_W_like_538 (fun H locs hW hS => ?_)
      cases hf
      exact zre_v C hr hlk hK hW hS zd_W_like_541
    · rw [if_neg c1] at hf
      refine lv_aload_n C.1 C.2.1 zd_W_like_509 rfl (lv_at hl 1 rfl) ?_
      refine zg_W_record (r := r1) C hK hW (zvd_5 hr1 (by decide)) zk_1365 zd_W_like_510 ?_
      refine lv_iload_n C.1 C.2.1 zd_W_like_513 rfl (lv_at hl 2 rfl) ?_
      obtain ⟨h4, hf⟩ := zck_some hf
      refine zaald (t0 := 4) C hK hW (zvd_5 hr1 (by decide)) (fun f => ze_5_43 B f (r1)) rfl rfl (by decide) h4 zd_W_like_514 (a := B.2.1 8 (r1) (x2)) (by rw [Int.toNat_of_nonneg h4.1]) ?_
      refine lv_aload_n C.1 C.2.1 zd_W_like_515 rfl (lv_at hl 0 rfl) ?_
      refine zg_W_record (r := r0) C hK hW (zvd_5 hr0 (by decide)) zk_1365 zd_W_like_516 ?_
      refine lv_iload_n C.1 C.2.1 zd_W_like_519 rfl (lv_at hl 2 rfl) ?_
      refine zaald (t0 := 4) C hK hW (zvd_5 hr0 (by decide)) (fun f => ze_5_43 B f (r0)) rfl rfl (by decide) h4 zd_W_like_520 (a := B.2.1 8 (r0) (x2)) (by rw [Int.toNat_of_nonneg h4.1]) ?_
      obtain ⟨a5, S6, ea5, hf⟩ := zbd_some hf
      refine zcSv (As := [.ref (B.2.1 8 (r1) (x2)), .ref (B.2.1 8 (r0) (x2))]) (rest := []) C hK hSt hW hS (zc_W_copy hap 8 (r1) (x2) 401 8 (r0) (x2) 401 (zvd_8 hr1 h4) (fun f => ze_8 B f (r1) (x2)) (by decide) rfl (zvd_8 hr0 h4) (fun f => ze_8 B f (r0) (x2)) (by decide) rfl S ea5) zq_W_copy zk_1993 ⟨rfl, rfl, by decide, by decide⟩ ⟨Nat.zero_le _, Nat.zero_le _⟩ rfl hl.1 rfl (lv_room (Nat.le_of_ble_eq_true rfl)) zd_W_like_521 (fun H locs hW hS => ?_)
      obtain ⟨v7, ev7, hf⟩ := zlt_some hf
      have nv7 : zn v7 := by rw [← ev7]; exact zn_w _
      refine lv_iinc (v := zI v7) (lv' := [(2, .int (zI (v7))), (0, .ref (B.2.1 5 (r0) (0))), (1, .ref (B.2.1 5 (r1) (0)))]) C.1 C.2.1 zd_W_like_524 hl (k := 2) rfl (by rw [← ev7, ← zI_add]; rfl) (by decide) rfl (fun ls hl => ?_)
      refine lv_goto (tgt := 504) C.1 C.2.1 zd_W_like_527 (by decide) ?_
      exact ih (v7) S6 nv7 hf _ _ _ hW hS (lv_sub hl [1, 2, 0] rfl)

def zf_W_like_177 (r0 : Int) (r1 : Int) : Nat → Int → Sg → Option (Int × Sg)
  | 0, _, _ => none
  | n + 1, x2, S =>
    if 12 ≤ x2 then (zbd (zf_W_copy 5 (r1) (14) 12 5 (r0) (14) 12 S) fun a2 S3 => zbd (zf_W_copy 5 (r1) (15) 12 5 (r0) (15) 12 S3) fun a4 S5 => zbd (zf_W_copy 5 (r1) (16) 12 5 (r0) (16) 12 S5) fun a6 S7 => zbd (zf_W_copy 5 (r1) (17) 12 5 (r0) (17) 12 S7) fun a8 S9 => zbd (zf_W_copy 5 (r1) (18) 12 5 (r0) (18) 12 S9) fun a10 S11 => zbd (zf_W_copy 5 (r1) (19) 12 5 (r0) (19) 12 S11) fun a12 S13 => zbd (zf_W_copy 5 (r1) (20) 12 5 (r0) (20) 12 S13) fun a14 S15 => zlt (zu S15 5 r0 0 25 (S15 5 r1 0 25)) fun S16 => zbd (zf_W_copy 5 (r1) (21) 8 5 (r0) (21) 8 S16) fun a17 S18 => zbd (zf_W_copy 5 (r1) (22) 8 5 (r0) (22) 8 S18) fun a19 S20 => zbd (zf_W_copy 5 (r1) (23) 8 5 (r0) (23) 8 S20) fun a21 S22 => zbd (zf_W_copy 5 (r1) (24) 8 5 (r0) (24) 8 S22) fun a23 S24 => zbd (zf_W_copy 5 (r1) (25) 4 5 (r0) (25) 4 S24) fun a25 S26 => zbd (zf_W_copy 5 (r1) (26) 4 5 (r0) (26) 4 S26) fun a27 S28 => zbd (zf_W_copy 5 (r1) (27) 4 5 (r0) (27) 4 S28) fun a29 S30 => zlt (zu S30 5 r0 0 33 (S30 5 r1 0 33)) fun S31 => zbd (zf_W_copy 5 (r1) (28) 30 5 (r0) (28) 30 S31) fun a32 S33 => zbd (zf_W_copy 5 (r1) (29) 30 5 (r0) (29) 30 S33) fun a34 S35 => zbd (zf_W_copy 5 (r1) (30) 4 5 (r0) (30) 4 S35) fun a36 S37 => zbd (zf_W_copy 5 (r1) (31) 3 5 (r0) (31) 3 S37) fun a38 S39 => zlt (zu S39 5 r0 0 38 (S39 5 r1 0 38)) fun S40 => zlt (zu S40 5 r0 0 39 (S40 5 r1 0 39)) fun S41 => zlt (zu S41 5 r0 0 40 (S41 5 r1 0 40)) fun S42 => zlt (zu S42 5 r0 0 41 (S42 5 r1 0 41)) fun S43 => zbd (zf_W_copy 5 (r1) (32) 2 5 (r0) (32) 2 S43) fun a44 S45 => zbd (zf_W_copy 5 (r1) (33) 2 5 (r0) (33) 2 S45) fun a46 S47 => zbd (zf_W_copy 7 (r1) (0) 120 7 (r0) (0) 120 S47) fun a48 S49 => zbd (zf_W_copy 7 (r1) (1) 120 7 (r0) (1) 120 S49) fun a50 S51 => zf_W_like_504 r0 r1 4096 (0) S51) else (zck (0 ≤ x2 ∧ x2 < 12) <| zbd (zf_W_copy 6 (r1) (x2) 120 6 (r0) (x2) 120 S) fun a53 S54 => zlt (zw (x2 + 1)) fun v55 => (zf_W_like_177 r0 r1 n) (v55) S54)
set_option maxHeartbeats 4000000 in
set_option maxRecDepth 100000 in
theorem zw_W_like_177 {p : Program} {l : Launch} {e : Env} {s : State} {m : MethodId} {args : Array Value} {below : List Frame} {meth : Method} {c : Code} {B : zB} (C : CallFix p m c zb_W_like 3 s args zT "IslandOfficeModel$World") (hr : meth.sig.returnType = none) (hlk : meth.locks = false) (hK : zK B s) (hSt : zSt B s) (hap : zAp B) (r0 : Int) (r1 : Int) (hr0 : 0 ≤ r0 ∧ r0 < 3) (hr1 : 0 ≤ r1 ∧ r1 < 3) {res : Int} {S9 : Sg} : ∀ n : Nat, ∀ (x2 : Int) (S : Sg) (nx2 : zn x2), zf_W_like_177 r0 r1 n x2 S = some (res, S9) → ∀ (H : Heap) (locs : List Loc) (ls : Array Slot), zW B S H → va_S B.2.2.2 s.heap H locs → lv_has ls 3 [(0, .ref (B.2.1 5 (r0) (0))), (1, .ref (B.2.1 5 (r1) (0))), (2, .int (zI (x2)))] → W p l e zm_W_like s m args below meth c H locs 0 0 (MQ below (zQv B S9) args s 0 0 B.2.2.2) (F0 m 177 ls []) := by
  intro n
  induction n with
  | zero =>
    intro x2 S nx2 hf H locs ls hW hS hl
    cases hf
  | succ n ih =>
    intro x2 S nx2 hf H locs ls hW hS hl
    rw [zf_W_like_177] at hf
    refine lv_iload_n C.1 C.2.1 zd_W_like_177 rfl (lv_at hl 2 rfl) ?_
    refine zr_bipush C zd_W_like_178 (by decide) ?_
    refine zr_icmp_ge (tgt := 204) C nx2 (znb rfl) zd_W_like_180 (by decide) (fun c1 => ?_) (fun c1 => ?_)
    · rw [if_pos c1] at hf
      refine lv_aload_n C.1 C.2.1 zd_W_like_204 rfl (lv_at hl 1 rfl) ?_
      refine zg_W_size (r := r1) C hK hW (zvd_5 hr1 (by decide)) zk_1311 zd_W_like_205 ?_
      refine lv_aload_n C.1 C.2.1 zd_W_like_208 rfl (lv_at hl 0 rfl) ?_
      refine zg_W_size (r := r0) C hK hW (zvd_5 hr0 (by decide)) zk_1311 zd_W_like_209 ?_
      obtain ⟨a2, S3, ea2, hf⟩ := zbd_some hf
      refine zcSv (As := [.ref (B.2.1 5 (r1) (14)), .ref (B.2.1 5 (r0) (14))]) (rest := []) C hK hSt hW hS (zc_W_copy hap 5 (r1) (14) 12 5 (r0) (14) 12 (zvd_5 hr1 (by decide)) (fun f => ze_5_14 B f (r1)) (by decide) rfl (zvd_5 hr0 (by decide)) (fun f => ze_5_14 B f (r0)) (by decide) rfl S ea2) zq_W_copy zk_1993 ⟨rfl, rfl, by decide, by decide⟩ ⟨Nat.zero_le _, Nat.zero_le _⟩ rfl hl.1 rfl (lv_room (Nat.le_of_ble_eq_true rfl)) zd_W_like_212 (fun H locs hW hS => ?_)
      refine lv_aload_n C.1 C.2.1 zd_W_like_215 rfl (lv_at hl 1 rfl) ?_
      refine zg_W_from (r := r1) C hK hW (zvd_5 hr1 (by decide)) zk_1313 zd_W_like_216 ?_
      refine lv_aload_n C.1 C.2.1 zd_W_like_219 rfl (lv_at hl 0 rfl) ?_
      refine zg_W_from (r := r0) C hK hW (zvd_5 hr0 (by decide)) zk_1313 zd_W_like_220 ?_
      obtain ⟨a4, S5, ea4, hf⟩ := zbd_some hf
      refine zcSv (As := [.ref (B.2.1 5 (r1) (15)), .ref (B.2.1 5 (r0) (15))]) (rest := []) C hK hSt hW hS (zc_W_copy hap 5 (r1) (15) 12 5 (r0) (15) 12 (zvd_5 hr1 (by decide)) (fun f => ze_5_15 B f (r1)) (by decide) rfl (zvd_5 hr0 (by decide)) (fun f => ze_5_15 B f (r0)) (by decide) rfl S3 ea4) zq_W_copy zk_1993 ⟨rfl, rfl, by decide, by decide⟩ ⟨Nat.zero_le _, Nat.zero_le _⟩ rfl hl.1 rfl (lv_room (Nat.le_of_ble_eq_true rfl)) zd_W_like_223 (fun H locs hW hS => ?_)
      refine lv_aload_n C.1 C.2.1 zd_W_like_226 rfl (lv_at hl 1 rfl) ?_
      refine zg_W_votes (r := r1) C hK hW (zvd_5 hr1 (by decide)) zk_1315 zd_W_like_227 ?_
      refine lv_aload_n C.1 C.2.1 zd_W_like_230 rfl (lv_at hl 0 rfl) ?_
      refine zg_W_votes (r := r0) C hK hW (zvd_5 hr0 (by decide)) zk_1315 zd_W_like_231 ?_
      obtain ⟨a6, S7, ea6, hf⟩ := zbd_some hf
      refine zcSv (As := [.ref (B.2.1 5 (r1) (16)), .ref (B.2.1 5 (r0) (16))]) (rest := []) C hK hSt hW hS (zc_W_copy hap 5 (r1) (16) 12 5 (r0) (16) 12 (zvd_5 hr1 (by decide)) (fun f => ze_5_16 B f (r1)) (by decide) rfl (zvd_5 hr0 (by decide)) (fun f => ze_5_16 B f (r0)) (by decide) rfl S5 ea6) zq_W_copy zk_1993 ⟨rfl, rfl, by decide, by decide⟩ ⟨Nat.zero_le _, Nat.zero_le _⟩ rfl hl.1 rfl (lv_room (Nat.le_of_ble_eq_true rfl)) zd_W_like_234 (fun H locs hW hS => ?_)
      refine lv_aload_n C.1 C.2.1 zd_W_like_237 rfl (lv_at hl 1 rfl) ?_
      refine zg_W_voters (r := r1) C hK hW (zvd_5 hr1 (by decide)) zk_1317 zd_W_like_238 ?_
      refine lv_aload_n C.1 C.2.1 zd_W_like_241 rfl (lv_at hl 0 rfl) ?_
      refine zg_W_voters (r := r0) C hK hW (zvd_5 hr0 (by decide)) zk_1317 zd_W_like_242 ?_
      obtain ⟨a8, S9, ea8, hf⟩ := zbd_some hf
      refine zcSv (As := [.ref (B.2.1 5 (r1) (17)), .ref (B.2.1 5 (r0) (17))]) (rest := []) C hK hSt hW hS (zc_W_copy hap 5 (r1) (17) 12 5 (r0) (17) 12 (zvd_5 hr1 (by decide)) (fun f => ze_5_17 B f (r1)) (by decide) rfl (zvd_5 hr0 (by decide)) (fun f => ze_5_17 B f (r0)) (by decide) rfl S7 ea8) zq_W_copy zk_1993 ⟨rfl, rfl, by decide, by decide⟩ ⟨Nat.zero_le _, Nat.zero_le _⟩ rfl hl.1 rfl (lv_room (Nat.le_of_ble_eq_true rfl)) zd_W_like_245 (fun H locs hW hS => ?_)
      refine lv_aload_n C.1 C.2.1 zd_W_like_248 rfl (lv_at hl 1 rfl) ?_
      refine zg_W_under (r := r1) C hK hW (zvd_5 hr1 (by decide)) zk_1319 zd_W_like_249 ?_
      refine lv_aload_n C.1 C.2.1 zd_W_like_252 rfl (lv_at hl 0 rfl) ?_
      refine zg_W_under (r := r0) C hK hW (zvd_5 hr0 (by decide)) zk_1319 zd_W_like_253 ?_
      obtain ⟨a10, S11, ea10, hf⟩ := zbd_some hf
      refine zcSv (As := [.ref (B.2.1 5 (r1) (18)), .ref (B.2.1 5 (r0) (18))]) (rest := []) C hK hSt hW hS (zc_W_copy hap 5 (r1) (18) 12 5 (r0) (18) 12 (zvd_5 hr1 (by decide)) (fun f => ze_5_18 B f (r1)) (by decide) rfl (zvd_5 hr0 (by decide)) (fun f => ze_5_18 B f (r0)) (by decide) rfl S9 ea10) zq_W_copy zk_1993 ⟨rfl, rfl, by decide, by decide⟩ ⟨Nat.zero_le _, Nat.zero_le _⟩ rfl hl.1 rfl (lv_room (Nat.le_of_ble_eq_true rfl)) zd_W_like_256 (fun H locs hW hS => ?_)
      refine lv_aload_n C.1 C.2.1 zd_W_like_259 rfl (lv_at hl 1 rfl) ?_
      refine zg_W_isVoid (r := r1) C hK hW (zvd_5 hr1 (by decide)) zk_1321 zd_W_like_260 ?_
      refine lv_aload_n C.1 C.2.1 zd_W_like_263 rfl (lv_at hl 0 rfl) ?_
      refine zg_W_isVoid (r := r0) C hK hW (zvd_5 hr0 (by decide)) zk_1321 zd_W_like_264 ?_
      obtain ⟨a12, S13, ea12, hf⟩ := zbd_some hf
      refine zcSv (As := [.ref (B.2.1 5 (r1) (19)), .ref (B.2.1 5 (r0) (19))]) (rest := []) C hK hSt hW hS (zc_W_copy hap 5 (r1) (19) 12 5 (r0) (19) 12 (zvd_5 hr1 (by decide)) (fun f => ze_5_19 B f (r1)) (by decide) rfl (zvd_5 hr0 (by decide)) (fun f => ze_5_19 B f (r0)) (by decide) rfl S11 ea12) zq_W_copy zk_1993 ⟨rfl, rfl, by decide, by decide⟩ ⟨Nat.zero_le _, Nat.zero_le _⟩ rfl hl.1 rfl (lv_room (Nat.le_of_ble_eq_true rfl)) zd_W_like_267 (fun H locs hW hS => ?_)
      refine lv_aload_n C.1 C.2.1 zd_W_like_270 rfl (lv_at hl 1 rfl) ?_
      refine zg_W_repealed (r := r1) C hK hW (zvd_5 hr1 (by decide)) zk_1323 zd_W_like_271 ?_
      refine lv_aload_n C.1 C.2.1 zd_W_like_274 rfl (lv_at hl 0 rfl) ?_
      refine zg_W_repealed (r := r0) C hK hW (zvd_5 hr0 (by decide)) zk_1323 zd_W_like_275 ?_
      obtain ⟨a14, S15, ea14, hf⟩ := zbd_some hf
      refine zcSv (As := [.ref (B.2.1 5 (r1) (20)), .ref (B.2.1 5 (r0) (20))]) (rest := []) C hK hSt hW hS (zc_W_copy hap 5 (r1) (20) 12 5 (r0) (20) 12 (zvd_5 hr1 (by decide)) (fun f => ze_5_20 B f (r1)) (by decide) rfl (zvd_5 hr0 (by decide)) (fun f => ze_5_20 B f (r0)) (by decide) rfl S13 ea14) zq_W_copy zk_1993 ⟨rfl, rfl, by decide, by decide⟩ ⟨Nat.zero_le _, Nat.zero_le _⟩ rfl hl.1 rfl (lv_room (Nat.le_of_ble_eq_true rfl)) zd_W_like_278 (fun H locs hW hS => ?_)
      refine lv_aload_n C.1 C.2.1 zd_W_like_281 rfl (lv_at hl 0 rfl) ?_
      refine lv_aload_n C.1 C.2.1 zd_W_like_282 rfl (lv_at hl 1 rfl) ?_
      refine zg_W_posts (r := r1) C hK hW (zvd_5 hr1 (by decide)) zk_1325 zd_W_like_283 ?_
      obtain ⟨S16, eS16, hf⟩ := zlt_some hf
      refine zp_W_posts (r := r0) C hK hap hW hS (zvd_5 hr0 (by decide)) zk_1325 (zWn hW _ _ _ _ rfl) zd_W_like_286 (fun H locs hW hS => ?_)
      rw [eS16] at hW
      refine lv_aload_n C.1 C.2.1 zd_W_like_289 rfl (lv_at hl 1 rfl) ?_
      refine zg_W_postSkill (r := r1) C hK hW (zvd_5 hr1 (by decide)) zk_1327 zd_W_like_290 ?_
      refine lv_aload_n C.1 C.2.1 zd_W_like_293 rfl (lv_at hl 0 rfl) ?_
      refine zg_W_postSkill (r := r0) C hK hW (zvd_5 hr0 (by decide)) zk_1327 zd_W_like_294 ?_
      obtain ⟨a17, S18, ea17, hf⟩ := zbd_some hf
      refine zcSv (As := [.ref (B.2.1 5 (r1) (21)), .ref (B.2.1 5 (r0) (21))]) (rest := []) C hK hSt hW hS (zc_W_copy hap 5 (r1) (21) 8 5 (r0) (21) 8 (zvd_5 hr1 (by decide)) (fun f => ze_5_21 B f (r1)) (by decide) rfl (zvd_5 hr0 (by decide)) (fun f => ze_5_21 B f (r0)) (by decide) rfl S16 ea17) zq_W_copy zk_1993 ⟨rfl, rfl, by decide, by decide⟩ ⟨Nat.zero_le _, Nat.zero_le _⟩ rfl hl.1 rfl (lv_room (Nat.le_of_ble_eq_true rfl)) zd_W_like_297 (fun H locs hW hS => ?_)
      refine lv_aload_n C.1 C.2.1 zd_W_like_300 rfl (lv_at hl 1 rfl) ?_
      refine zg_W_postHands (r := r1) C hK hW (zvd_5 hr1 (by decide)) zk_1329 zd_W_like_301 ?_
      refine lv_aload_n C.1 C.2.1 zd_W_like_304 rfl (lv_at hl 0 rfl) ?_
      refine zg_W_postHands (r := r0) C hK hW (zvd_5 hr0 (by decide)) zk_1329 zd_W_like_305 ?_
      obtain ⟨a19, S20, ea19, hf⟩ := zbd_some hf
      refine zcSv (As := [.ref (B.2.1 5 (r1) (22)), .ref (B.2.1 5 (r0) (22))]) (rest := []) C hK hSt hW hS (zc_W_copy hap 5 (r1) (22) 8 5 (r0) (22) 8 (zvd_5 hr1 (by decide)) (fun f => ze_5_22 B f (r1)) (by decide) rfl (zvd_5 hr0 (by decide)) (fun f => ze_5_22 B f (r0)) (by decide) rfl S18 ea19) zq_W_copy zk_1993 ⟨rfl, rfl, by decide, by decide⟩ ⟨Nat.zero_le _, Nat.zero_le _⟩ rfl hl.1 rfl (lv_room (Nat.le_of_ble_eq_true rfl)) zd_W_like_308 (fun H locs hW hS => ?_)
      refine lv_aload_n C.1 C.2.1 zd_W_like_311 rfl (lv_at hl 1 rfl) ?_
      refine zg_W_postSort (r := r1) C hK hW (zvd_5 hr1 (by decide)) zk_1331 zd_W_like_312 ?_
      refine lv_aload_n C.1 C.2.1 zd_W_like_315 rfl (lv_at hl 0 rfl) ?_
      refine zg_W_postSort (r := r0) C hK hW (zvd_5 hr0 (by decide)) zk_1331 zd_W_like_316 ?_
      obtain ⟨a21, S22, ea21, hf⟩ := zbd_some hf
      refine zcSv (As := [.ref (B.2.1 5 (r1) (23)), .ref (B.2.1 5 (r0) (23))]) (rest := []) C hK hSt hW hS (zc_W_copy hap 5 (r1) (23) 8 5 (r0) (23) 8 (zvd_5 hr1 (by decide)) (fun f => ze_5_23 B f (r1)) (by decide) rfl (zvd_5 hr0 (by decide)) (fun f => ze_5_23 B f (r0)) (by decide) rfl S20 ea21) zq_W_copy zk_1993 ⟨rfl, rfl, by decide, by decide⟩ ⟨Nat.zero_le _, Nat.zero_le _⟩ rfl hl.1 rfl (lv_room (Nat.le_of_ble_eq_true rfl)) zd_W_like_319 (fun H locs hW hS => ?_)
      refine lv_aload_n C.1 C.2.1 zd_W_like_322 rfl (lv_at hl 1 rfl) ?_
      refine zg_W_postOpen (r := r1) C hK hW (zvd_5 hr1 (by decide)) zk_1333 zd_W_like_323 ?_
      refine lv_aload_n C.1 C.2.1 zd_W_like_326 rfl (lv_at hl 0 rfl) ?_
      refine zg_W_postOpen (r := r0) C hK hW (zvd_5 hr0 (by decide)) zk_1333 zd_W_like_327 ?_
      obtain ⟨a23, S24, ea23, hf⟩ := zbd_some hf
      refine zcSv (As := [.ref (B.2.1 5 (r1) (24)), .ref (B.2.1 5 (r0) (24))]) (rest := []) C hK hSt hW hS (zc_W_copy hap 5 (r1) (24) 8 5 (r0) (24) 8 (zvd_5 hr1 (by decide)) (fun f => ze_5_24 B f (r1)) (by decide) rfl (zvd_5 hr0 (by decide)) (fun f => ze_5_24 B f (r0)) (by decide) rfl S22 ea23) zq_W_copy zk_1993 ⟨rfl, rfl, by decide, by decide⟩ ⟨Nat.zero_le _, Nat.zero_le _⟩ rfl hl.1 rfl (lv_room (Nat.le_of_ble_eq_true rfl)) zd_W_like_330 (fun H locs hW hS => ?_)
      refine lv_aload_n C.1 C.2.1 zd_W_like_333 rfl (lv_at hl 1 rfl) ?_
      refine zg_W_store (r := r1) C hK hW (zvd_5 hr1 (by decide)) zk_1335 zd_W_like_334 ?_
      refine lv_aload_n C.1 C.2.1 zd_W_like_337 rfl (lv_at hl 0 rfl) ?_
      refine zg_W_store (r := r0) C hK hW (zvd_5 hr0 (by decide)) zk_1335 zd_W_like_338 ?_
      obtain ⟨a25, S26, ea25, hf⟩ := zbd_some hf
      refine zcSv (As := [.ref (B.2.1 5 (r1) (25)), .ref (B.2.1 5 (r0) (25))]) (rest := []) C hK hSt hW hS (zc_W_copy hap 5 (r1) (25) 4 5 (r0) (25) 4 (zvd_5 hr1 (by decide)) (fun f => ze_5_25 B f (r1)) (by decide) rfl (zvd_5 hr0 (by decide)) (fun f => ze_5_25 B f (r0)) (by decide) rfl S24 ea25) zq_W_copy zk_1993 ⟨rfl, rfl, by decide, by decide⟩ ⟨Nat.zero_le _, Nat.zero_le _⟩ rfl hl.1 rfl (lv_room (Nat.le_of_ble_eq_true rfl)) zd_W_like_341 (fun H locs hW hS => ?_)
      refine lv_aload_n C.1 C.2.1 zd_W_like_344 rfl (lv_at hl 1 rfl) ?_
      refine zg_W_rank (r := r1) C hK hW (zvd_5 hr1 (by decide)) zk_1337 zd_W_like_345 ?_
      refine lv_aload_n C.1 C.2.1 zd_W_like_348 rfl (lv_at hl 0 rfl) ?_
      refine zg_W_rank (r := r0) C hK hW (zvd_5 hr0 (by decide)) zk_1337 zd_W_like_349 ?_
      obtain ⟨a27, S28, ea27, hf⟩ := zbd_some hf
      refine zcSv (As := [.ref (B.2.1 5 (r1) (26)), .ref (B.2.1 5 (r0) (26))]) (rest := []) C hK hSt hW hS (zc_W_copy hap 5 (r1) (26) 4 5 (r0) (26) 4 (zvd_5 hr1 (by decide)) (fun f => ze_5_26 B f (r1)) (by decide) rfl (zvd_5 hr0 (by decide)) (fun f => ze_5_26 B f (r0)) (by decide) rfl S26 ea27) zq_W_copy zk_1993 ⟨rfl, rfl, by decide, by decide⟩ ⟨Nat.zero_le _, Nat.zero_le _⟩ rfl hl.1 rfl (lv_room (Nat.le_of_ble_eq_true rfl)) zd_W_like_352 (fun H locs hW hS => ?_)
      refine lv_aload_n C.1 C.2.1 zd_W_like_355 rfl (lv_at hl 1 rfl) ?_
      refine zg_W_use (r := r1) C hK hW (zvd_5 hr1 (by decide)) zk_1339 zd_W_like_356 ?_
      refine lv_aload_n C.1 C.2.1 zd_W_like_359 rfl (lv_at hl 0 rfl) ?_
      refine zg_W_use (r := r0) C hK hW (zvd_5 hr0 (by decide)) zk_1339 zd_W_like_360 ?_
      obtain ⟨a29, S30, ea29, hf⟩ := zbd_some hf
      refine zcSv (As := [.ref (B.2.1 5 (r1) (27)), .ref (B.2.1 5 (r0) (27))]) (rest := []) C hK hSt hW hS (zc_W_copy hap 5 (r1) (27) 4 5 (r0) (27) 4 (zvd_5 hr1 (by decide)) (fun f => ze_5_27 B f (r1)) (by decide) rfl (zvd_5 hr0 (by decide)) (fun f => ze_5_27 B f (r0)) (by decide) rfl S28 ea29) zq_W_copy zk_1993 ⟨rfl, rfl, by decide, by decide⟩ ⟨Nat.zero_le _, Nat.zero_le _⟩ rfl hl.1 rfl (lv_room (Nat.le_of_ble_eq_true rfl)) zd_W_like_363 (fun H locs hW hS => ?_)
      refine lv_aload_n C.1 C.2.1 zd_W_like_366 rfl (lv_at hl 0 rfl) ?_
      refine lv_aload_n C.1 C.2.1 zd_W_like_367 rfl (lv_at hl 1 rfl) ?_
      refine zg_W_orders (r := r1) C hK hW (zvd_5 hr1 (by decide)) zk_1341 zd_W_like_368 ?_
      obtain ⟨S31, eS31, hf⟩ := zlt_some hf
      refine zp_W_orders (r := r0) C hK hap hW hS (zvd_5 hr0 (by decide)) zk_1341 (zWn hW _ _ _ _ rfl) zd_W_like_371 (fun H locs hW hS => ?_)
      rw [eS31] at hW
      refine lv_aload_n C.1 C.2.1 zd_W_like_374 rfl (lv_at hl 1 rfl) ?_
      refine zg_W_orderGood (r := r1) C hK hW (zvd_5 hr1 (by decide)) zk_1343 zd_W_like_375 ?_
      refine lv_aload_n C.1 C.2.1 zd_W_like_378 rfl (lv_at hl 0 rfl) ?_
      refine zg_W_orderGood (r := r0) C hK hW (zvd_5 hr0 (by decide)) zk_1343 zd_W_like_379 ?_
      obtain ⟨a32, S33, ea32, hf⟩ := zbd_some hf
      refine zcSv (As := [.ref (B.2.1 5 (r1) (28)), .ref (B.2.1 5 (r0) (28))]) (rest := []) C hK hSt hW hS (zc_W_copy hap 5 (r1) (28) 30 5 (r0) (28) 30 (zvd_5 hr1 (by decide)) (fun f => ze_5_28 B f (r1)) (by decide) rfl (zvd_5 hr0 (by decide)) (fun f => ze_5_28 B f (r0)) (by decide) rfl S31 ea32) zq_W_copy zk_1993 ⟨rfl, rfl, by decide, by decide⟩ ⟨Nat.zero_le _, Nat.zero_le _⟩ rfl hl.1 rfl (lv_room (Nat.le_of_ble_eq_true rfl)) zd_W_like_382 (fun H locs hW hS => ?_)
      refine lv_aload_n C.1 C.2.1 zd_W_like_385 rfl (lv_at hl 1 rfl) ?_
      refine zg_W_orderDue (r := r1) C hK hW (zvd_5 hr1 (by decide)) zk_1345 zd_W_like_386 ?_
      refine lv_aload_n C.1 C.2.1 zd_W_like_389 rfl (lv_at hl 0 rfl) ?_
      refine zg_W_orderDue (r := r0) C hK hW (zvd_5 hr0 (by decide)) zk_1345 zd_W_like_390 ?_
      obtain ⟨a34, S35, ea34, hf⟩ := zbd_some hf
      refine zcSv (As := [.ref (B.2.1 5 (r1) (29)), .ref (B.2.1 5 (r0) (29))]) (rest := []) C hK hSt hW hS (zc_W_copy hap 5 (r1) (29) 30 5 (r0) (29) 30 (zvd_5 hr1 (by decide)) (fun f => ze_5_29 B f (r1)) (by decide) rfl (zvd_5 hr0 (by decide)) (fun f => ze_5_29 B f (r0)) (by decide) rfl S33 ea34) zq_W_copy zk_1993 ⟨rfl, rfl, by decide, by decide⟩ ⟨Nat.zero_le _, Nat.zero_le _⟩ rfl hl.1 rfl (lv_room (Nat.le_of_ble_eq_true rfl)) zd_W_like_393 (fun H locs hW hS => ?_)
      refine lv_aload_n C.1 C.2.1 zd_W_like_396 rfl (lv_at hl 1 rfl) ?_
      refine zg_W_set (r := r1) C hK hW (zvd_5 hr1 (by decide)) zk_1347 zd_W_like_397 ?_
      refine lv_aload_n C.1 C.2.1 zd_W_like_400 rfl (lv_at hl 0 rfl) ?_
      refine zg_W_set (r := r0) C hK hW (zvd_5 hr0 (by decide)) zk_1347 zd_W_like_401 ?_
      obtain ⟨a36, S37, ea36, hf⟩ := zbd_some hf
      refine zcSv (As := [.ref (B.2.1 5 (r1) (30)), .ref (B.2.1 5 (r0) (30))]) (rest := []) C hK hSt hW hS (zc_W_copy hap 5 (r1) (30) 4 5 (r0) (30) 4 (zvd_5 hr1 (by decide)) (fun f => ze_5_30 B f (r1)) (by decide) rfl (zvd_5 hr0 (by decide)) (fun f => ze_5_30 B f (r0)) (by decide) rfl S35 ea36) zq_W_copy zk_1993 ⟨rfl, rfl, by decide, by decide⟩ ⟨Nat.zero_le _, Nat.zero_le _⟩ rfl hl.1 rfl (lv_room (Nat.le_of_ble_eq_true rfl)) zd_W_like_404 (fun H locs hW hS => ?_)
      refine lv_aload_n C.1 C.2.1 zd_W_like_407 rfl (lv_at hl 1 rfl) ?_
      refine zg_W_pays (r := r1) C hK hW (zvd_5 hr1 (by decide)) zk_1349 zd_W_like_408 ?_
      refine lv_aload_n C.1 C.2.1 zd_W_like_411 rfl (lv_at hl 0 rfl) ?_
      refine zg_W_pays (r := r0) C hK hW (zvd_5 hr0 (by decide)) zk_1349 zd_W_like_412 ?_
      obtain ⟨a38, S39, ea38, hf⟩ := zbd_some hf
      refine zcSv (As := [.ref (B.2.1 5 (r1) (31)), .ref (B.2.1 5 (r0) (31))]) (rest := []) C hK hSt hW hS (zc_W_copy hap 5 (r1) (31) 3 5 (r0) (31) 3 (zvd_5 hr1 (by decide)) (fun f => ze_5_31 B f (r1)) (by decide) rfl (zvd_5 hr0 (by decide)) (fun f => ze_5_31 B f (r0)) (by decide) rfl S37 ea38) zq_W_copy zk_1993 ⟨rfl, rfl, by decide, by decide⟩ ⟨Nat.zero_le _, Nat.zero_le _⟩ rfl hl.1 rfl (lv_room (Nat.le_of_ble_eq_true rfl)) zd_W_like_415 (fun H locs hW hS => ?_)
      refine lv_aload_n C.1 C.2.1 zd_W_like_418 rfl (lv_at hl 0 rfl) ?_
      refine lv_aload_n C.1 C.2.1 zd_W_like_419 rfl (lv_at hl 1 rfl) ?_
      refine zg_W_purse (r := r1) C hK hW (zvd_5 hr1 (by decide)) zk_1351 zd_W_like_420 ?_
      obtain ⟨S40, eS40, hf⟩ := zlt_some hf
      refine zp_W_purse (r := r0) C hK hap hW hS (zvd_5 hr0 (by decide)) zk_1351 (zWn hW _ _ _ _ rfl) zd_W_like_423 (fun H locs hW hS => ?_)
      rw [eS40] at hW
      refine lv_aload_n C.1 C.2.1 zd_W_like_426 rfl (lv_at hl 0 rfl) ?_
      refine lv_aload_n C.1 C.2.1 zd_W_like_427 rfl (lv_at hl 1 rfl) ?_
      refine zg_W_fund (r := r1) C hK hW (zvd_5 hr1 (by decide)) zk_1353 zd_W_like_428 ?_
      obtain ⟨S41, eS41, hf⟩ := zlt_some hf
      refine zp_W_fund (r := r0) C hK hap hW hS (zvd_5 hr0 (by decide)) zk_1353 (zWn hW _ _ _ _ rfl) zd_W_like_431 (fun H locs hW hS => ?_)
      rw [eS41] at hW
      refine lv_aload_n C.1 C.2.1 zd_W_like_434 rfl (lv_at hl 0 rfl) ?_
      refine lv_aload_n C.1 C.2.1 zd_W_like_435 rfl (lv_at hl 1 rfl) ?_
      refine zg_W_unpaid (r := r1) C hK hW (zvd_5 hr1 (by decide)) zk_1355 zd_W_like_436 ?_
      obtain ⟨S42, eS42, hf⟩ := zlt_some hf
      refine zp_W_unpaid (r := r0) C hK hap hW hS (zvd_5 hr0 (by decide)) zk_1355 (zWn hW _ _ _ _ rfl) zd_W_like_439 (fun H locs hW hS => ?_)
      rw [eS42] at hW
      refine lv_aload_n C.1 C.2.1 zd_W_like_442 rfl (lv_at hl 0 rfl) ?_
      refine lv_aload_n C.1 C.2.1 zd_W_like_443 rfl (lv_at hl 1 rfl) ?_
      refine zg_W_landed (r := r1) C hK hW (zvd_5 hr1 (by decide)) zk_1357 zd_W_like_444 ?_
      obtain ⟨S43, eS43, hf⟩ := zlt_some hf
      refine zp_W_landed (r := r0) C hK hap hW hS (zvd_5 hr0 (by decide)) zk_1357 (zWn hW _ _ _ _ rfl) zd_W_like_447 (fun H locs hW hS => ?_)
      rw [eS43] at hW
      refine lv_aload_n C.1 C.2.1 zd_W_like_450 rfl (lv_at hl 1 rfl) ?_
      refine zg_W_skySort (r := r1) C hK hW (zvd_5 hr1 (by decide)) zk_1359 zd_W_like_451 ?_
      refine lv_aload_n C.1 C.2.1 zd_W_like_454 rfl (lv_at hl 0 rfl) ?_
      refine zg_W_skySort (r := r0) C hK hW (zvd_5 hr0 (by decide)) zk_1359 zd_W_like_455 ?_
      obtain ⟨a44, S45, ea44, hf⟩ := zbd_some hf
      refine zcSv (As := [.ref (B.2.1 5 (r1) (32)), .ref (B.2.1 5 (r0) (32))]) (rest := []) C hK hSt hW hS (zc_W_copy hap 5 (r1) (32) 2 5 (r0) (32) 2 (zvd_5 hr1 (by decide)) (fun f => ze_5_32 B f (r1)) (by decide) rfl (zvd_5 hr0 (by decide)) (fun f => ze_5_32 B f (r0)) (by decide) rfl S43 ea44) zq_W_copy zk_1993 ⟨rfl, rfl, by decide, by decide⟩ ⟨Nat.zero_le _, Nat.zero_le _⟩ rfl hl.1 rfl (lv_room (Nat.le_of_ble_eq_true rfl)) zd_W_like_458 (fun H locs hW hS => ?_)
      refine lv_aload_n C.1 C.2.1 zd_W_like_461 rfl (lv_at hl 1 rfl) ?_
      refine zg_W_skySize (r := r1) C hK hW (zvd_5 hr1 (by decide)) zk_1361 zd_W_like_462 ?_
      refine lv_aload_n C.1 C.2.1 zd_W_like_465 rfl (lv_at hl 0 rfl) ?_
      refine zg_W_skySize (r := r0) C hK hW (zvd_5 hr0 (by decide)) zk_1361 zd_W_like_466 ?_
      obtain ⟨a46, S47, ea46, hf⟩ := zbd_some hf
      refine zcSv (As := [.ref (B.2.1 5 (r1) (33)), .ref (B.2.1 5 (r0) (33))]) (rest := []) C hK hSt hW hS (zc_W_copy hap 5 (r1) (33) 2 5 (r0) (33) 2 (zvd_5 hr1 (by decide)) (fun f => ze_5_33 B f (r1)) (by decide) rfl (zvd_5 hr0 (by decide)) (fun f => ze_5_33 B f (r0)) (by decide) rfl S45 ea46) zq_W_copy zk_1993 ⟨rfl, rfl, by decide, by decide⟩ ⟨Nat.zero_le _, Nat.zero_le _⟩ rfl hl.1 rfl (lv_room (Nat.le_of_ble_eq_true rfl)) zd_W_like_469 (fun H locs hW hS => ?_)
      refine lv_aload_n C.1 C.2.1 zd_W_like_472 rfl (lv_at hl 1 rfl) ?_
      refine zg_W_sky (r := r1) C hK hW (zvd_5 hr1 (by decide)) zk_1363 zd_W_like_473 ?_
      refine zr_iconst C zd_W_like_476 ?_
      refine zaald (t0 := 4) C hK hW (zvd_5 hr1 (by decide)) (fun f => ze_5_42 B f (r1)) rfl rfl (by decide) (by decide) zd_W_like_477 (a := B.2.1 7 (r1) (0)) rfl ?_
      refine lv_aload_n C.1 C.2.1 zd_W_like_478 rfl (lv_at hl 0 rfl) ?_
      refine zg_W_sky (r := r0) C hK hW (zvd_5 hr0 (by decide)) zk_1363 zd_W_like_479 ?_
      refine zr_iconst C zd_W_like_482 ?_
      refine zaald (t0 := 4) C hK hW (zvd_5 hr0 (by decide)) (fun f => ze_5_42 B f (r0)) rfl rfl (by decide) (by decide) zd_W_like_483 (a := B.2.1 7 (r0) (0)) rfl ?_
      obtain ⟨a48, S49, ea48, hf⟩ := zbd_some hf
      refine zcSv (As := [.ref (B.2.1 7 (r1) (0)), .ref (B.2.1 7 (r0) (0))]) (rest := []) C hK hSt hW hS (zc_W_copy hap 7 (r1) (0) 120 7 (r0) (0) 120 (zvd_7 hr1 (by decide)) (fun f => ze_7 B f (r1) (0)) (by decide) rfl (zvd_7 hr0 (by decide)) (fun f => ze_7 B f (r0) (0)) (by decide) rfl S47 ea48) zq_W_copy zk_1993 ⟨rfl, rfl, by decide, by decide⟩ ⟨Nat.zero_le _, Nat.zero_le _⟩ rfl hl.1 rfl (lv_room (Nat.le_of_ble_eq_true rfl)) zd_W_like_484 (fun H locs hW hS => ?_)
      refine lv_aload_n C.1 C.2.1 zd_W_like_487 rfl (lv_at hl 1 rfl) ?_
      refine zg_W_sky (r := r1) C hK hW (zvd_5 hr1 (by decide)) zk_1363 zd_W_like_488 ?_
      refine zr_iconst C zd_W_like_491 ?_
      refine zaald (t0 := 4) C hK hW (zvd_5 hr1 (by decide)) (fun f => ze_5_42 B f (r1)) rfl rfl (by decide) (by decide) zd_W_like_492 (a := B.2.1 7 (r1) (1)) rfl ?_
      refine lv_aload_n C.1 C.2.1 zd_W_like_493 rfl (lv_at hl 0 rfl) ?_
      refine zg_W_sky (r := r0) C hK hW (zvd_5 hr0 (by decide)) zk_1363 zd_W_like_494 ?_
      refine zr_iconst C zd_W_like_497 ?_
      refine zaald (t0 := 4) C hK hW (zvd_5 hr0 (by decide)) (fun f => ze_5_42 B f (r0)) rfl rfl (by decide) (by decide) zd_W_like_498 (a := B.2.1 7 (r0) (1)) rfl ?_
      obtain ⟨a50, S51, ea50, hf⟩ := zbd_some hf
      refine zcSv (As := [.ref (B.2.1 7 (r1) (1)), .ref (B.2.1 7 (r0) (1))]) (rest := []) C hK hSt hW hS (zc_W_copy hap 7 (r1) (1) 120 7 (r0) (1) 120 (zvd_7 hr1 (by decide)) (fun f => ze_7 B f (r1) (1)) (by decide) rfl (zvd_7 hr0 (by decide)) (fun f => ze_7 B f (r0) (1)) (by decide) rfl S49 ea50) zq_W_copy zk_1993 ⟨rfl, rfl, by decide, by decide⟩ ⟨Nat.zero_le _, Nat.zero_le _⟩ rfl hl.1 rfl (lv_room (Nat.le_of_ble_eq_true rfl)) zd_W_like_499 (fun H locs hW hS => ?_)
      refine zr_iconst C zd_W_like_502 ?_
      refine lv_istore_n (lv' := [(2, .int (zI (0))), (0, .ref (B.2.1 5 (r0) (0))), (1, .ref (B.2.1 5 (r1) (0)))]) C.1 C.2.1 zd_W_like_503 rfl hl (by decide) rfl (fun ls hl => ?_)
      exact zw_W_like_504 C hr hlk hK hSt hap r0 r1 hr0 hr1 4096 (0) S51 (znb rfl) hf _ _ _ hW hS (lv_sub hl [1, 2, 0] rfl)
    · rw [if_neg c1] at hf
      refine lv_aload_n C.1 C.2.1 zd_W_like_183 rfl (lv_at hl 1 rfl) ?_
      refine zg_W_text (r := r1) C hK hW (zvd_5 hr1 (by decide)) zk_1309 zd_W_like_184 ?_
      refine lv_iload_n C.1 C.2.1 zd_W_like_187 rfl (lv_at hl 2 rfl) ?_
      obtain ⟨h52, hf⟩ := zck_some hf
      refine zaald (t0 := 4) C hK hW (zvd_5 hr1 (by decide)) (fun f => ze_5_41 B f (r1)) rfl rfl (by decide) h52 zd_W_like_188 (a := B.2.1 6 (r1) (x2)) (by rw [Int.toNat_of_nonneg h52.1]) ?_
      refine lv_aload_n C.1 C.2.1 zd_W_like_189 rfl (lv_at hl 0 rfl) ?_
      refine zg_W_text (r := r0) C hK hW (zvd_5 hr0 (by decide)) zk_1309 zd_W_like_190 ?_
      refine lv_iload_n C.1 C.2.1 zd_W_like_193 rfl (lv_at hl 2 rfl) ?_
      refine zaald (t0 := 4) C hK hW (zvd_5 hr0 (by decide)) (fun f => ze_5_41 B f (r0)) rfl rfl (by decide) h52 zd_W_like_194 (a := B.2.1 6 (r0) (x2)) (by rw [Int.toNat_of_nonneg h52.1]) ?_
      obtain ⟨a53, S54, ea53, hf⟩ := zbd_some hf
      refine zcSv (As := [.ref (B.2.1 6 (r1) (x2)), .ref (B.2.1 6 (r0) (x2))]) (rest := []) C hK hSt hW hS (zc_W_copy hap 6 (r1) (x2) 120 6 (r0) (x2) 120 (zvd_6 hr1 h52) (fun f => ze_6 B f (r1) (x2)) (by decide) rfl (zvd_6 hr0 h52) (fun f => ze_6 B f (r0) (x2)) (by decide) rfl S ea53) zq_W_copy zk_1993 ⟨rfl, rfl, by decide, by decide⟩ ⟨Nat.zero_le _, Nat.zero_le _⟩ rfl hl.1 rfl (lv_room (Nat.le_of_ble_eq_true rfl)) zd_W_like_195 (fun H locs hW hS => ?_)
      obtain ⟨v55, ev55, hf⟩ := zlt_some hf
      have nv55 : zn v55 := by rw [← ev55]; exact zn_w _
      refine lv_iinc (v := zI v55) (lv' := [(2, .int (zI (v55))), (0, .ref (B.2.1 5 (r0) (0))), (1, .ref (B.2.1 5 (r1) (0)))]) C.1 C.2.1 zd_W_like_198 hl (k := 2) rfl (by rw [← ev55, ← zI_add]; rfl) (by decide) rfl (fun ls hl => ?_)
      refine lv_goto (tgt := 177) C.1 C.2.1 zd_W_like_201 (by decide) ?_
      exact ih (v55) S54 nv55 hf _ _ _ hW hS (lv_sub hl [1, 2, 0] rfl)

def zf_W_like (r0 : Int) (r1 : Int) (S : Sg) : Option (Int × Sg) :=
    zlt (zu S 5 r0 0 0 (S 5 r1 0 0)) fun S1 => zlt (zu S1 5 r0 0 1 (S1 5 r1 0 1)) fun S2 => zbd (zf_W_copy 5 (r1) (1) 40 5 (r0) (1) 40 S2) fun a3 S4 => zbd (zf_W_copy 5 (r1) (2) 40 5 (r0) (2) 40 S4) fun a5 S6 => zbd (zf_W_copy 5 (r1) (3) 40 5 (r0) (3) 40 S6) fun a7 S8 => zbd (zf_W_copy 5 (r1) (4) 40 5 (r0) (4) 40 S8) fun a9 S10 => zbd (zf_W_copy 5 (r1) (5) 40 5 (r0) (5) 40 S10) fun a11 S12 => zbd (zf_W_copy 5 (r1) (6) 40 5 (r0) (6) 40 S12) fun a13 S14 => zbd (zf_W_copy 5 (r1) (7) 40 5 (r0) (7) 40 S14) fun a15 S16 => zbd (zf_W_copy 5 (r1) (8) 40 5 (r0) (8) 40 S16) fun a17 S18 => zbd (zf_W_copy 5 (r1) (9) 40 5 (r0) (9) 40 S18) fun a19 S20 => zbd (zf_W_copy 5 (r1) (10) 12 5 (r0) (10) 12 S20) fun a21 S22 => zbd (zf_W_copy 5 (r1) (11) 12 5 (r0) (11) 12 S22) fun a23 S24 => zbd (zf_W_copy 5 (r1) (12) 12 5 (r0) (12) 12 S24) fun a25 S26 => zbd (zf_W_copy 5 (r1) (13) 12 5 (r0) (13) 12 S26) fun a27 S28 => zlt (zu S28 5 r0 0 15 (S28 5 r1 0 15)) fun S29 => zlt (zu S29 5 r0 0 16 (S29 5 r1 0 16)) fun S30 => zf_W_like_177 r0 r1 4096 (0) S30
set_option maxHeartbeats 4000000 in
set_option maxRecDepth 100000 in
theorem zw_W_like {p : Program} {l : Launch} {e : Env} {s : State} {m : MethodId} {args : Array Value} {below : List Frame} {meth : Method} {c : Code} {B : zB} (C : CallFix p m c zb_W_like 3 s args zT "IslandOfficeModel$World") (hr : meth.sig.returnType = none) (hlk : meth.locks = false) (hK : zK B s) (hSt : zSt B s) (hap : zAp B) (r0 : Int) (r1 : Int) (hr0 : 0 ≤ r0 ∧ r0 < 3) (hr1 : 0 ≤ r1 ∧ r1 < 3) {res : Int} {S9 : Sg} : ∀  (S : Sg) , zf_W_like r0 r1  S = some (res, S9) → ∀ (H : Heap) (locs : List Loc) (ls : Array Slot), zW B S H → va_S B.2.2.2 s.heap H locs → lv_has ls 3 [(0, .ref (B.2.1 5 (r0) (0))), (1, .ref (B.2.1 5 (r1) (0)))] → W p l e zm_W_like s m args below meth c H locs 0 0 (MQ below (zQv B S9) args s 0 0 B.2.2.2) (F0 m 0 ls []) := by
  intro S hf H locs ls hW hS hl
  unfold zf_W_like at hf
  refine lv_aload_n C.1 C.2.1 zd_W_like_0 rfl (lv_at hl 0 rfl) ?_
  refine lv_aload_n C.1 C.2.1 zd_W_like_1 rfl (lv_at hl 1 rfl) ?_
  refine zg_W_week (r := r1) C hK hW (zvd_5 hr1 (by decide)) zk_1275 zd_W_like_2 ?_
  obtain ⟨S1, eS1, hf⟩ := zlt_some hf
  refine zp_W_week (r := r0) C hK hap hW hS (zvd_5 hr0 (by decide)) zk_1275 (zWn hW _ _ _ _ rfl) zd_W_like_5 (fun H locs hW hS => ?_)
  rw [eS1] at hW
  refine lv_aload_n C.1 C.2.1 zd_W_like_8 rfl (lv_at hl 0 rfl) ?_
  refine lv_aload_n C.1 C.2.1 zd_W_like_9 rfl (lv_at hl 1 rfl) ?_
  refine zg_W_people (r := r1) C hK hW (zvd_5 hr1 (by decide)) zk_1277 zd_W_like_10 ?_
  obtain ⟨S2, eS2, hf⟩ := zlt_some hf
  refine zp_W_people (r := r0) C hK hap hW hS (zvd_5 hr0 (by decide)) zk_1277 (zWn hW _ _ _ _ rfl) zd_W_like_13 (fun H locs hW hS => ?_)
  rw [eS2] at hW
  refine lv_aload_n C.1 C.2.1 zd_W_like_16 rfl (lv_at hl 1 rfl) ?_
  refine zg_W_birth (r := r1) C hK hW (zvd_5 hr1 (by decide)) zk_1279 zd_W_like_17 ?_
  refine lv_aload_n C.1 C.2.1 zd_W_like_20 rfl (lv_at hl 0 rfl) ?_
  refine zg_W_birth (r := r0) C hK hW (zvd_5 hr0 (by decide)) zk_1279 zd_W_like_21 ?_
  obtain ⟨a3, S4, ea3, hf⟩ := zbd_some hf
  refine zcSv (As := [.ref (B.2.1 5 (r1) (1)), .ref (B.2.1 5 (r0) (1))]) (rest := []) C hK hSt hW hS (zc_W_copy hap 5 (r1) (1) 40 5 (r0) (1) 40 (zvd_5 hr1 (by decide)) (fun f => ze_5_1 B f (r1)) (by decide) rfl (zvd_5 hr0 (by decide)) (fun f => ze_5_1 B f (r0)) (by decide) rfl S2 ea3) zq_W_copy zk_1993 ⟨rfl, rfl, by decide, by decide⟩ ⟨Nat.zero_le _, Nat.zero_le _⟩ rfl hl.1 rfl (lv_room (Nat.le_of_ble_eq_true rfl)) zd_W_like_24 (fun H locs hW hS => ?_)
  refine lv_aload_n C.1 C.2.1 zd_W_like_27 rfl (lv_at hl 1 rfl) ?_
  refine zg_W_house (r := r1) C hK hW (zvd_5 hr1 (by decide)) zk_1281 zd_W_like_28 ?_
  refine lv_aload_n C.1 C.2.1 zd_W_like_31 rfl (lv_at hl 0 rfl) ?_
  refine zg_W_house (r := r0) C hK hW (zvd_5 hr0 (by decide)) zk_1281 zd_W_like_32 ?_
  obtain ⟨a5, S6, ea5, hf⟩ := zbd_some hf
  refine zcSv (As := [.ref (B.2.1 5 (r1) (2)), .ref (B.2.1 5 (r0) (2))]) (rest := []) C hK hSt hW hS (zc_W_copy hap 5 (r1) (2) 40 5 (r0) (2) 40 (zvd_5 hr1 (by decide)) (fun f => ze_5_2 B f (r1)) (by decide) rfl (zvd_5 hr0 (by decide)) (fun f => ze_5_2 B f (r0)) (by decide) rfl S4 ea5) zq_W_copy zk_1993 ⟨rfl, rfl, by decide, by decide⟩ ⟨Nat.zero_le _, Nat.zero_le _⟩ rfl hl.1 rfl (lv_room (Nat.le_of_ble_eq_true rfl)) zd_W_like_35 (fun H locs hW hS => ?_)
  refine lv_aload_n C.1 C.2.1 zd_W_like_38 rfl (lv_at hl 1 rfl) ?_
  refine zg_W_mother (r := r1) C hK hW (zvd_5 hr1 (by decide)) zk_1283 zd_W_like_39 ?_
  refine lv_aload_n C.1 C.2.1 zd_W_like_42 rfl (lv_at hl 0 rfl) ?_
  refine zg_W_mother (r := r0) C hK hW (zvd_5 hr0 (by decide)) zk_1283 zd_W_like_43 ?_
  obtain ⟨a7, S8, ea7, hf⟩ := zbd_some hf
  refine zcSv (As := [.ref (B.2.1 5 (r1) (3)), .ref (B.2.1 5 (r0) (3))]) (rest := []) C hK hSt hW hS (zc_W_copy hap 5 (r1) (3) 40 5 (r0) (3) 40 (zvd_5 hr1 (by decide)) (fun f => ze_5_3 B f (r1)) (by decide) rfl (zvd_5 hr0 (by decide)) (fun f => ze_5_3 B f (r0)) (by decide) rfl S6 ea7) zq_W_copy zk_1993 ⟨rfl, rfl, by decide, by decide⟩ ⟨Nat.zero_le _, Nat.zero_le _⟩ rfl hl.1 rfl (lv_room (Nat.le_of_ble_eq_true rfl)) zd_W_like_46 (fun H locs hW hS => ?_)
  refine lv_aload_n C.1 C.2.1 zd_W_like_49 rfl (lv_at hl 1 rfl) ?_
  refine zg_W_skills (r := r1) C hK hW (zvd_5 hr1 (by decide)) zk_1285 zd_W_like_50 ?_
  refine lv_aload_n C.1 C.2.1 zd_W_like_53 rfl (lv_at hl 0 rfl) ?_
  refine zg_W_skills (r := r0) C hK hW (zvd_5 hr0 (by decide)) zk_1285 zd_W_like_54 ?_
  obtain ⟨a9, S10, ea9, hf⟩ := zbd_some hf
  refine zcSv (As := [.ref (B.2.1 5 (r1) (4)), .ref (B.2.1 5 (r0) (4))]) (rest := []) C hK hSt hW hS (zc_W_copy hap 5 (r1) (4) 40 5 (r0) (4) 40 (zvd_5 hr1 (by decide)) (fun f => ze_5_4 B f (r1)) (by decide) rfl (zvd_5 hr0 (by decide)) (fun f => ze_5_4 B f (r0)) (by decide) rfl S8 ea9) zq_W_copy zk_1993 ⟨rfl, rfl, by decide, by decide⟩ ⟨Nat.zero_le _, Nat.zero_le _⟩ rfl hl.1 rfl (lv_room (Nat.le_of_ble_eq_true rfl)) zd_W_like_57 (fun H locs hW hS => ?_)
  refine lv_aload_n C.1 C.2.1 zd_W_like_60 rfl (lv_at hl 1 rfl) ?_
  refine zg_W_state (r := r1) C hK hW (zvd_5 hr1 (by decide)) zk_1287 zd_W_like_61 ?_
  refine lv_aload_n C.1 C.2.1 zd_W_like_64 rfl (lv_at hl 0 rfl) ?_
  refine zg_W_state (r := r0) C hK hW (zvd_5 hr0 (by decide)) zk_1287 zd_W_like_65 ?_
  obtain ⟨a11, S12, ea11, hf⟩ := zbd_some hf
  refine zcSv (As := [.ref (B.2.1 5 (r1) (5)), .ref (B.2.1 5 (r0) (5))]) (rest := []) C hK hSt hW hS (zc_W_copy hap 5 (r1) (5) 40 5 (r0) (5) 40 (zvd_5 hr1 (by decide)) (fun f => ze_5_5 B f (r1)) (by decide) rfl (zvd_5 hr0 (by decide)) (fun f => ze_5_5 B f (r0)) (by decide) rfl S10 ea11) zq_W_copy zk_1993 ⟨rfl, rfl, by decide, by decide⟩ ⟨Nat.zero_le _, Nat.zero_le _⟩ rfl hl.1 rfl (lv_room (Nat.le_of_ble_eq_true rfl)) zd_W_like_68 (fun H locs hW hS => ?_)
  refine lv_aload_n C.1 C.2.1 zd_W_like_71 rfl (lv_at hl 1 rfl) ?_
  refine zg_W_end (r := r1) C hK hW (zvd_5 hr1 (by decide)) zk_1289 zd_W_like_72 ?_
  refine lv_aload_n C.1 C.2.1 zd_W_like_75 rfl (lv_at hl 0 rfl) ?_
  refine zg_W_end (r := r0) C hK hW (zvd_5 hr0 (by decide)) zk_1289 zd_W_like_76 ?_
  obtain ⟨a13, S14, ea13, hf⟩ := zbd_some hf
  refine zcSv (As := [.ref (B.2.1 5 (r1) (6)), .ref (B.2.1 5 (r0) (6))]) (rest := []) C hK hSt hW hS (zc_W_copy hap 5 (r1) (6) 40 5 (r0) (6) 40 (zvd_5 hr1 (by decide)) (fun f => ze_5_6 B f (r1)) (by decide) rfl (zvd_5 hr0 (by decide)) (fun f => ze_5_6 B f (r0)) (by decide) rfl S12 ea13) zq_W_copy zk_1993 ⟨rfl, rfl, by decide, by decide⟩ ⟨Nat.zero_le _, Nat.zero_le _⟩ rfl hl.1 rfl (lv_room (Nat.le_of_ble_eq_true rfl)) zd_W_like_79 (fun H locs hW hS => ?_)
  refine lv_aload_n C.1 C.2.1 zd_W_like_82 rfl (lv_at hl 1 rfl) ?_
  refine zg_W_discontent (r := r1) C hK hW (zvd_5 hr1 (by decide)) zk_1291 zd_W_like_83 ?_
  refine lv_aload_n C.1 C.2.1 zd_W_like_86 rfl (lv_at hl 0 rfl) ?_
  refine zg_W_discontent (r := r0) C hK hW (zvd_5 hr0 (by decide)) zk_1291 zd_W_like_87 ?_
  obtain ⟨a15, S16, ea15, hf⟩ := zbd_some hf
  refine zcSv (As := [.ref (B.2.1 5 (r1) (7)), .ref (B.2.1 5 (r0) (7))]) (rest := []) C hK hSt hW hS (zc_W_copy hap 5 (r1) (7) 40 5 (r0) (7) 40 (zvd_5 hr1 (by decide)) (fun f => ze_5_7 B f (r1)) (by decide) rfl (zvd_5 hr0 (by decide)) (fun f => ze_5_7 B f (r0)) (by decide) rfl S14 ea15) zq_W_copy zk_1993 ⟨rfl, rfl, by decide, by decide⟩ ⟨Nat.zero_le _, Nat.zero_le _⟩ rfl hl.1 rfl (lv_room (Nat.le_of_ble_eq_true rfl)) zd_W_like_90 (fun H locs hW hS => ?_)
  refine lv_aload_n C.1 C.2.1 zd_W_like_93 rfl (lv_at hl 1 rfl) ?_
  refine zg_W_post (r := r1) C hK hW (zvd_5 hr1 (by decide)) zk_1293 zd_W_like_94 ?_
  refine lv_aload_n C.1 C.2.1 zd_W_like_97 rfl (lv_at hl 0 rfl) ?_
  refine zg_W_post (r := r0) C hK hW (zvd_5 hr0 (by decide)) zk_1293 zd_W_like_98 ?_
  obtain ⟨a17, S18, ea17, hf⟩ := zbd_some hf
  refine zcSv (As := [.ref (B.2.1 5 (r1) (8)), .ref (B.2.1 5 (r0) (8))]) (rest := []) C hK hSt hW hS (zc_W_copy hap 5 (r1) (8) 40 5 (r0) (8) 40 (zvd_5 hr1 (by decide)) (fun f => ze_5_8 B f (r1)) (by decide) rfl (zvd_5 hr0 (by decide)) (fun f => ze_5_8 B f (r0)) (by decide) rfl S16 ea17) zq_W_copy zk_1993 ⟨rfl, rfl, by decide, by decide⟩ ⟨Nat.zero_le _, Nat.zero_le _⟩ rfl hl.1 rfl (lv_room (Nat.le_of_ble_eq_true rfl)) zd_W_like_101 (fun H locs hW hS => ?_)
  refine lv_aload_n C.1 C.2.1 zd_W_like_104 rfl (lv_at hl 1 rfl) ?_
  refine zg_W_hungry (r := r1) C hK hW (zvd_5 hr1 (by decide)) zk_1295 zd_W_like_105 ?_
  refine lv_aload_n C.1 C.2.1 zd_W_like_108 rfl (lv_at hl 0 rfl) ?_
  refine zg_W_hungry (r := r0) C hK hW (zvd_5 hr0 (by decide)) zk_1295 zd_W_like_109 ?_
  obtain ⟨a19, S20, ea19, hf⟩ := zbd_some hf
  refine zcSv (As := [.ref (B.2.1 5 (r1) (9)), .ref (B.2.1 5 (r0) (9))]) (rest := []) C hK hSt hW hS (zc_W_copy hap 5 (r1) (9) 40 5 (r0) (9) 40 (zvd_5 hr1 (by decide)) (fun f => ze_5_9 B f (r1)) (by decide) rfl (zvd_5 hr0 (by decide)) (fun f => ze_5_9 B f (r0)) (by decide) rfl S18 ea19) zq_W_copy zk_1993 ⟨rfl, rfl, by decide, by decide⟩ ⟨Nat.zero_le _, Nat.zero_le _⟩ rfl hl.1 rfl (lv_room (Nat.le_of_ble_eq_true rfl)) zd_W_like_112 (fun H locs hW hS => ?_)
  refine lv_aload_n C.1 C.2.1 zd_W_like_115 rfl (lv_at hl 1 rfl) ?_
  refine zg_W_cattle (r := r1) C hK hW (zvd_5 hr1 (by decide)) zk_1297 zd_W_like_116 ?_
  refine lv_aload_n C.1 C.2.1 zd_W_like_119 rfl (lv_at hl 0 rfl) ?_
  refine zg_W_cattle (r := r0) C hK hW (zvd_5 hr0 (by decide)) zk_1297 zd_W_like_120 ?_
  obtain ⟨a21, S22, ea21, hf⟩ := zbd_some hf
  refine zcSv (As := [.ref (B.2.1 5 (r1) (10)), .ref (B.2.1 5 (r0) (10))]) (rest := []) C hK hSt hW hS (zc_W_copy hap 5 (r1) (10) 12 5 (r0) (10) 12 (zvd_5 hr1 (by decide)) (fun f => ze_5_10 B f (r1)) (by decide) rfl (zvd_5 hr0 (by decide)) (fun f => ze_5_10 B f (r0)) (by decide) rfl S20 ea21) zq_W_copy zk_1993 ⟨rfl, rfl, by decide, by decide⟩ ⟨Nat.zero_le _, Nat.zero_le _⟩ rfl hl.1 rfl (lv_room (Nat.le_of_ble_eq_true rfl)) zd_W_like_123 (fun H locs hW hS => ?_)
  refine lv_aload_n C.1 C.2.1 zd_W_like_126 rfl (lv_at hl 1 rfl) ?_
  refine zg_W_tank (r := r1) C hK hW (zvd_5 hr1 (by decide)) zk_1299 zd_W_like_127 ?_
  refine lv_aload_n C.1 C.2.1 zd_W_like_130 rfl (lv_at hl 0 rfl) ?_
  refine zg_W_tank (r := r0) C hK hW (zvd_5 hr0 (by decide)) zk_1299 zd_W_like_131 ?_
  obtain ⟨a23, S24, ea23, hf⟩ := zbd_some hf
  refine zcSv (As := [.ref (B.2.1 5 (r1) (11)), .ref (B.2.1 5 (r0) (11))]) (rest := []) C hK hSt hW hS (zc_W_copy hap 5 (r1) (11) 12 5 (r0) (11) 12 (zvd_5 hr1 (by decide)) (fun f => ze_5_11 B f (r1)) (by decide) rfl (zvd_5 hr0 (by decide)) (fun f => ze_5_11 B f (r0)) (by decide) rfl S22 ea23) zq_W_copy zk_1993 ⟨rfl, rfl, by decide, by decide⟩ ⟨Nat.zero_le _, Nat.zero_le _⟩ rfl hl.1 rfl (lv_room (Nat.le_of_ble_eq_true rfl)) zd_W_like_134 (fun H locs hW hS => ?_)
  refine lv_aload_n C.1 C.2.1 zd_W_like_137 rfl (lv_at hl 1 rfl) ?_
  refine zg_W_roof (r := r1) C hK hW (zvd_5 hr1 (by decide)) zk_1301 zd_W_like_138 ?_
  refine lv_aload_n C.1 C.2.1 zd_W_like_141 rfl (lv_at hl 0 rfl) ?_
  refine zg_W_roof (r := r0) C hK hW (zvd_5 hr0 (by decide)) zk_1301 zd_W_like_142 ?_
  obtain ⟨a25, S26, ea25, hf⟩ := zbd_some hf
  refine zcSv (As := [.ref (B.2.1 5 (r1) (12)), .ref (B.2.1 5 (r0) (12))]) (rest := []) C hK hSt hW hS (zc_W_copy hap 5 (r1) (12) 12 5 (r0) (12) 12 (zvd_5 hr1 (by decide)) (fun f => ze_5_12 B f (r1)) (by decide) rfl (zvd_5 hr0 (by decide)) (fun f => ze_5_12 B f (r0)) (by decide) rfl S24 ea25) zq_W_copy zk_1993 ⟨rfl, rfl, by decide, by decide⟩ ⟨Nat.zero_le _, Nat.zero_le _⟩ rfl hl.1 rfl (lv_room (Nat.le_of_ble_eq_true rfl)) zd_W_like_145 (fun H locs hW hS => ?_)
  refine lv_aload_n C.1 C.2.1 zd_W_like_148 rfl (lv_at hl 1 rfl) ?_
  refine zg_W_dry (r := r1) C hK hW (zvd_5 hr1 (by decide)) zk_1303 zd_W_like_149 ?_
  refine lv_aload_n C.1 C.2.1 zd_W_like_152 rfl (lv_at hl 0 rfl) ?_
  refine zg_W_dry (r := r0) C hK hW (zvd_5 hr0 (by decide)) zk_1303 zd_W_like_153 ?_
  obtain ⟨a27, S28, ea27, hf⟩ := zbd_some hf
  refine zcSv (As := [.ref (B.2.1 5 (r1) (13)), .ref (B.2.1 5 (r0) (13))]) (rest := []) C hK hSt hW hS (zc_W_copy hap 5 (r1) (13) 12 5 (r0) (13) 12 (zvd_5 hr1 (by decide)) (fun f => ze_5_13 B f (r1)) (by decide) rfl (zvd_5 hr0 (by decide)) (fun f => ze_5_13 B f (r0)) (by decide) rfl S26 ea27) zq_W_copy zk_1993 ⟨rfl, rfl, by decide, by decide⟩ ⟨Nat.zero_le _, Nat.zero_le _⟩ rfl hl.1 rfl (lv_room (Nat.le_of_ble_eq_true rfl)) zd_W_like_156 (fun H locs hW hS => ?_)
  refine lv_aload_n C.1 C.2.1 zd_W_like_159 rfl (lv_at hl 0 rfl) ?_
  refine lv_aload_n C.1 C.2.1 zd_W_like_160 rfl (lv_at hl 1 rfl) ?_
  refine zg_W_grass (r := r1) C hK hW (zvd_5 hr1 (by decide)) zk_1305 zd_W_like_161 ?_
  obtain ⟨S29, eS29, hf⟩ := zlt_some hf
  refine zp_W_grass (r := r0) C hK hap hW hS (zvd_5 hr0 (by decide)) zk_1305 (zWn hW _ _ _ _ rfl) zd_W_like_164 (fun H locs hW hS => ?_)
  rw [eS29] at hW
  refine lv_aload_n C.1 C.2.1 zd_W_like_167 rfl (lv_at hl 0 rfl) ?_
  refine lv_aload_n C.1 C.2.1 zd_W_like_168 rfl (lv_at hl 1 rfl) ?_
  refine zg_W_laws (r := r1) C hK hW (zvd_5 hr1 (by decide)) zk_1307 zd_W_like_169 ?_
  obtain ⟨S30, eS30, hf⟩ := zlt_some hf
  refine zp_W_laws (r := r0) C hK hap hW hS (zvd_5 hr0 (by decide)) zk_1307 (zWn hW _ _ _ _ rfl) zd_W_like_172 (fun H locs hW hS => ?_)
  rw [eS30] at hW
  refine zr_iconst C zd_W_like_175 ?_
  refine lv_istore_n (lv' := [(2, .int (zI (0))), (0, .ref (B.2.1 5 (r0) (0))), (1, .ref (B.2.1 5 (r1) (0)))]) C.1 C.2.1 zd_W_like_176 rfl hl (by decide) rfl (fun ls hl => ?_)
  exact zw_W_like_177 C hr hlk hK hSt hap r0 r1 hr0 hr1 4096 (0) S30 (znb rfl) hf _ _ _ hW hS (lv_sub hl [1, 2, 0] rfl)

theorem zc_W_like {l : Launch} {B : zB} (hap : zAp B) (r0 : Int) (r1 : Int) (hr0 : 0 ≤ r0 ∧ r0 < 3) (hr1 : 0 ≤ r1 ∧ r1 < 3) (S : Sg) {res : Int} {S9 : Sg} (hf : zf_W_like r0 r1 S = some (res, S9)) : Met l zy_W_like (Cond.code zy_W_like zb_W_like 3 (none) :: zT) zm_W_like (zP B S [.ref (B.2.1 5 (r0) (0)), .ref (B.2.1 5 (r1) (0))]) (zQv B S9) 0 0 B.2.2.2 :=
  zmet (by decide) (Nat.le_of_ble_eq_true rfl) (fun p e s m args below meth c C hr hlk hK hSt hW ls hl => zw_W_like C hr hlk hK hSt hap r0 r1 hr0 hr1  S  hf _ _ _ hW va_S.rf hl)
/-! IslandOfficeModel.worth(II)I -/
abbrev zy_M_worth : MethodName := ⟨"IslandOfficeModel", "worth", "(II)I"⟩
abbrev zb_M_worth : ByteArray := prog_14_method_58_code
abbrev zm_M_worth : Room := { frames := 399, cells := 0, slots := 0, locals := 8650 }
theorem zq_M_worth : zMy zy_M_worth zb_M_worth 4 (some .int) 2 := ⟨zk_1988, zk_1986, zk_1987, zk_14, by decide, by decide, by decide +kernel⟩
theorem zd_M_worth_0 : decode zb_M_worth 0 = .ok (.aload_n 0, 1) := by decide +kernel
theorem zd_M_worth_1 : decode zb_M_worth 1 = .ok (.iconst 0, 1) := by decide +kernel
theorem zd_M_worth_2 : decode zb_M_worth 2 = .ok (.putfield 46, 3) := by decide +kernel
theorem zd_M_worth_5 : decode zb_M_worth 5 = .ok (.aload_n 0, 1) := by decide +kernel
theorem zd_M_worth_6 : decode zb_M_worth 6 = .ok (.iload_n 1, 1) := by decide +kernel
theorem zd_M_worth_7 : decode zb_M_worth 7 = .ok (.invokevirtual 244, 3) := by decide +kernel
theorem zd_M_worth_10 : decode zb_M_worth 10 = .ok (.ifCond .eq 13, 3) := by decide +kernel
theorem zd_M_worth_13 : decode zb_M_worth 13 = .ok (.iload_n 2, 1) := by decide +kernel
theorem zd_M_worth_14 : decode zb_M_worth 14 = .ok (.iconst 1, 1) := by decide +kernel
theorem zd_M_worth_15 : decode zb_M_worth 15 = .ok (.bipush 30, 2) := by decide +kernel
theorem zd_M_worth_17 : decode zb_M_worth 17 = .ok (.invokestatic 53, 3) := by decide +kernel
theorem zd_M_worth_20 : decode zb_M_worth 20 = .ok (.ifCond .ne 7, 3) := by decide +kernel
theorem zd_M_worth_23 : decode zb_M_worth 23 = .ok (.sipush (-1001), 3) := by decide +kernel
theorem zd_M_worth_26 : decode zb_M_worth 26 = .ok (.ireturn, 1) := by decide +kernel
theorem zd_M_worth_27 : decode zb_M_worth 27 = .ok (.aload_n 0, 1) := by decide +kernel
theorem zd_M_worth_28 : decode zb_M_worth 28 = .ok (.getfield 10, 3) := by decide +kernel
theorem zd_M_worth_31 : decode zb_M_worth 31 = .ok (.getfield 87, 3) := by decide +kernel
theorem zd_M_worth_34 : decode zb_M_worth 34 = .ok (.iload_n 2, 1) := by decide +kernel
theorem zd_M_worth_35 : decode zb_M_worth 35 = .ok (.iadd, 1) := by decide +kernel
theorem zd_M_worth_36 : decode zb_M_worth 36 = .ok (.sipush 400, 3) := by decide +kernel
theorem zd_M_worth_39 : decode zb_M_worth 39 = .ok (.if_icmp .le 7, 3) := by decide +kernel
theorem zd_M_worth_42 : decode zb_M_worth 42 = .ok (.sipush (-1002), 3) := by decide +kernel
theorem zd_M_worth_45 : decode zb_M_worth 45 = .ok (.ireturn, 1) := by decide +kernel
theorem zd_M_worth_46 : decode zb_M_worth 46 = .ok (.aload_n 0, 1) := by decide +kernel
theorem zd_M_worth_47 : decode zb_M_worth 47 = .ok (.getfield 16, 3) := by decide +kernel
theorem zd_M_worth_50 : decode zb_M_worth 50 = .ok (.aload_n 0, 1) := by decide +kernel
theorem zd_M_worth_51 : decode zb_M_worth 51 = .ok (.getfield 10, 3) := by decide +kernel
theorem zd_M_worth_54 : decode zb_M_worth 54 = .ok (.invokevirtual 309, 3) := by decide +kernel
theorem zd_M_worth_57 : decode zb_M_worth 57 = .ok (.aload_n 0, 1) := by decide +kernel
theorem zd_M_worth_58 : decode zb_M_worth 58 = .ok (.iload_n 2, 1) := by decide +kernel
theorem zd_M_worth_59 : decode zb_M_worth 59 = .ok (.invokevirtual 313, 3) := by decide +kernel
theorem zd_M_worth_62 : decode zb_M_worth 62 = .ok (.istore_n 3, 1) := by decide +kernel
theorem zd_M_worth_63 : decode zb_M_worth 63 = .ok (.aload_n 0, 1) := by decide +kernel
theorem zd_M_worth_64 : decode zb_M_worth 64 = .ok (.getfield 16, 3) := by decide +kernel
theorem zd_M_worth_67 : decode zb_M_worth 67 = .ok (.aload_n 0, 1) := by decide +kernel
theorem zd_M_worth_68 : decode zb_M_worth 68 = .ok (.getfield 10, 3) := by decide +kernel
theorem zd_M_worth_71 : decode zb_M_worth 71 = .ok (.invokevirtual 309, 3) := by decide +kernel
theorem zd_M_worth_74 : decode zb_M_worth 74 = .ok (.aload_n 0, 1) := by decide +kernel
theorem zd_M_worth_75 : decode zb_M_worth 75 = .ok (.getfield 16, 3) := by decide +kernel
theorem zd_M_worth_78 : decode zb_M_worth 78 = .ok (.getfield 241, 3) := by decide +kernel
theorem zd_M_worth_81 : decode zb_M_worth 81 = .ok (.iload_n 1, 1) := by decide +kernel
theorem zd_M_worth_82 : decode zb_M_worth 82 = .ok (.iconst 0, 1) := by decide +kernel
theorem zd_M_worth_83 : decode zb_M_worth 83 = .ok (.iastore, 1) := by decide +kernel
theorem zd_M_worth_84 : decode zb_M_worth 84 = .ok (.iload_n 3, 1) := by decide +kernel
theorem zd_M_worth_85 : decode zb_M_worth 85 = .ok (.aload_n 0, 1) := by decide +kernel
theorem zd_M_worth_86 : decode zb_M_worth 86 = .ok (.iload_n 2, 1) := by decide +kernel
theorem zd_M_worth_87 : decode zb_M_worth 87 = .ok (.invokevirtual 313, 3) := by decide +kernel
theorem zd_M_worth_90 : decode zb_M_worth 90 = .ok (.isub, 1) := by decide +kernel
theorem zd_M_worth_91 : decode zb_M_worth 91 = .ok (.ireturn, 1) := by decide +kernel

def zf_M_worth (x1 : Int) (x2 : Int) (S : Sg) : Option (Int × Sg) :=
    zlt (zu S 9 0 0 4 0) fun S1 => zbd (zf_M_isPost x1 S1) fun a2 S3 => if a2 = 0 then (some (-1001, S3)) else (zbd (zf_M_in x2 1 30 S3) fun a5 S6 => if a5 = 0 then (some (-1001, S6)) else (if (zw ((S6 5 0 0 0) + x2)) ≤ 400 then (zbd (zf_W_like (1) (0) S6) fun a9 S10 => zbd (zf_M_headsBehind x2 S10) fun a11 S12 => zbd (zf_W_like (1) (0) S12) fun a13 S14 => zck (0 ≤ x1 ∧ x1 < 8) <| zlt (zu S14 5 1 24 x1 0) fun S16 => zbd (zf_M_headsBehind x2 S16) fun a17 S18 => some (zw (a11 - a17), S18)) else (some (-1002, S6))))
set_option maxHeartbeats 4000000 in
set_option maxRecDepth 100000 in
theorem zw_M_worth {p : Program} {l : Launch} {e : Env} {s : State} {m : MethodId} {args : Array Value} {below : List Frame} {meth : Method} {c : Code} {B : zB} (C : CallFix p m c zb_M_worth 4 s args zT "IslandOfficeModel") (hr : meth.sig.returnType = some .int) (hlk : meth.locks = false) (hK : zK B s) (hSt : zSt B s) (hap : zAp B) {res : Int} {S9 : Sg} : ∀ (x1 : Int) (x2 : Int) (S : Sg) (nx1 : zn x1) (nx2 : zn x2), zf_M_worth x1 x2 S = some (res, S9) → ∀ (H : Heap) (locs : List Loc) (ls : Array Slot), zW B S H → va_S B.2.2.2 s.heap H locs → lv_has ls 4 [(0, .ref (B.2.1 9 (0) (0))), (1, .int (zI (x1))), (2, .int (zI (x2)))] → W p l e zm_M_worth s m args below meth c H locs 0 0 (MQ below (zQi B res S9) args s 0 0 B.2.2.2) (F0 m 0 ls []) := by
  intro x1 x2 S nx1 nx2 hf H locs ls hW hS hl
  unfold zf_M_worth at hf
  refine lv_aload_n C.1 C.2.1 zd_M_worth_0 rfl (lv_at hl 0 rfl) ?_
  refine zr_iconst C zd_M_worth_1 ?_
  obtain ⟨S1, eS1, hf⟩ := zlt_some hf
  refine zp_M_thrown (r := 0) C hK hap hW hS (zvd_9 (by decide) (by decide)) zk_1504 (znb rfl) zd_M_worth_2 (fun H locs hW hS => ?_)
  rw [eS1] at hW
  refine lv_aload_n C.1 C.2.1 zd_M_worth_5 rfl (lv_at hl 0 rfl) ?_
  refine lv_iload_n C.1 C.2.1 zd_M_worth_6 rfl (lv_at hl 1 rfl) ?_
  obtain ⟨a2, S3, ea2, hf⟩ := zbd_some hf
  refine zcVi (As := [.int (zI (x1))]) (rest := []) C hK hSt hW hS (zc_M_isPost hap x1 S1 nx1 ea2) zq_M_isPost zk_1783 (zrecv hK hW (zvd_9 (by decide) (by decide)) (ze_9_0 B _ (0)) rfl) ⟨rfl, rfl, by decide, by decide⟩ ⟨Nat.zero_le _, Nat.zero_le _⟩ rfl hl.1 rfl (lv_room (Nat.le_of_ble_eq_true rfl)) zd_M_worth_7 (fun na2 H locs hW hS => ?_)
  refine zr_if_eq (tgt := 23) C na2 zd_M_worth_10 (by decide) (fun c4 => ?_) (fun c4 => ?_)
  · rw [if_pos c4] at hf
    refine zr_sipush C zd_M_worth_23 (by decide) ?_
    cases hf
    exact zre_i C hr hlk hK hW hS (znb rfl) zd_M_worth_26
  · rw [if_neg c4] at hf
    refine lv_iload_n C.1 C.2.1 zd_M_worth_13 rfl (lv_at hl 2 rfl) ?_
    refine zr_iconst C zd_M_worth_14 ?_
    refine zr_bipush C zd_M_worth_15 (by decide) ?_
    obtain ⟨a5, S6, ea5, hf⟩ := zbd_some hf
    refine zcSi (As := [.int (zI (x2)), .int (zI (1)), .int (zI (30))]) (rest := []) C hK hSt hW hS (zc_M_in hap x2 1 30 S3 nx2 (znb rfl) (znb rfl) ea5) zq_M_in zk_1558 ⟨rfl, rfl, by decide, by decide⟩ ⟨Nat.zero_le _, Nat.zero_le _⟩ rfl hl.1 rfl (lv_room (Nat.le_of_ble_eq_true rfl)) zd_M_worth_17 (fun na5 H locs hW hS => ?_)
    refine zr_if_ne (tgt := 27) C na5 zd_M_worth_20 (by decide) (fun c7 => ?_) (fun c7 => ?_)
    · rw [if_neg c7] at hf
      refine lv_aload_n C.1 C.2.1 zd_M_worth_27 rfl (lv_at hl 0 rfl) ?_
      refine zg_M_world (r := 0) C hK hW (zvd_9 (by decide) (by decide)) zk_1500 zd_M_worth_28 ?_
      refine zg_W_week (r := 0) C hK hW (zvd_5 (by decide) (by decide)) zk_1276 zd_M_worth_31 ?_
      refine lv_iload_n C.1 C.2.1 zd_M_worth_34 rfl (lv_at hl 2 rfl) ?_
      refine zr_iadd C zd_M_worth_35 ?_
      refine zr_sipush C zd_M_worth_36 (by decide) ?_
      refine zr_icmp_le (tgt := 46) C (zn_w _) (znb rfl) zd_M_worth_39 (by decide) (fun c8 => ?_) (fun c8 => ?_)
      · rw [if_pos c8] at hf
        refine lv_aload_n C.1 C.2.1 zd_M_worth_46 rfl (lv_at hl 0 rfl) ?_
        refine zg_M_mind (r := 0) C hK hW (zvd_9 (by decide) (by decide)) zk_1501 zd_M_worth_47 ?_
        refine lv_aload_n C.1 C.2.1 zd_M_worth_50 rfl (lv_at hl 0 rfl) ?_
        refine zg_M_world (r := 0) C hK hW (zvd_9 (by decide) (by decide)) zk_1500 zd_M_worth_51 ?_
        obtain ⟨a9, S10, ea9, hf⟩ := zbd_some hf
        refine zcVv (As := [.ref (B.2.1 5 (0) (0))]) (rest := []) C hK hSt hW hS (zc_W_like hap (1) (0) (by decide) (by decide) S6 ea9) zq_W_like zk_1989 (zrecv hK hW (zvd_5 (by decide) (by decide)) (ze_5_0 B _ (1)) rfl) ⟨rfl, rfl, by decide, by decide⟩ ⟨Nat.zero_le _, Nat.zero_le _⟩ rfl hl.1 rfl (lv_room (Nat.le_of_ble_eq_true rfl)) zd_M_worth_54 (fun H locs hW hS => ?_)
        refine lv_aload_n C.1 C.2.1 zd_M_worth_57 rfl (lv_at hl 0 rfl) ?_
        refine lv_iload_n C.1 C.2.1 zd_M_worth_58 rfl (lv_at hl 2 rfl) ?_
        obtain ⟨a11, S12, ea11, hf⟩ := zbd_some hf
        refine zcVi (As := [.int (zI (x2))]) (rest := []) C hK hSt hW hS (zc_M_headsBehind hap x2 S10 nx2 ea11) zq_M_headsBehind zk_1996 (zrecv hK hW (zvd_9 (by decide) (by decide)) (ze_9_0 B _ (0)) rfl) ⟨rfl, rfl, by decide, by decide⟩ ⟨Nat.zero_le _, Nat.zero_le _⟩ rfl hl.1 rfl (lv_room (Nat.le_of_ble_eq_true rfl)) zd_M_worth_59 (fun na11 H locs hW hS => ?_)
        refine lv_istore_n (lv' := [(3, .int (zI (a11))), (0, .ref (B.2.1 9 (0) (0))), (1, .int (zI (x1))), (2, .int (zI (x2)))]) C.1 C.2.1 zd_M_worth_62 rfl hl (by decide) rfl (fun ls hl => ?_)
        refine lv_aload_n C.1 C.2.1 zd_M_worth_63 rfl (lv_at hl 1 rfl) ?_
        refine zg_M_mind (r := 0) C hK hW (zvd_9 (by decide) (by decide)) zk_1501 zd_M_worth_64 ?_
        refine lv_aload_n C.1 C.2.1 zd_M_worth_67 rfl (lv_at hl 1 rfl) ?_
        refine zg_M_world (r := 0) C hK hW (zvd_9 (by decide) (by decide)) zk_1500 zd_M_worth_68 ?_
        obtain ⟨a13, S14, ea13, hf⟩ := zbd_some hf
        refine zcVv (As := [.ref (B.2.1 5 (0) (0))]) (rest := []) C hK hSt hW hS (zc_W_like hap (1) (0) (by decide) (by decide) S12 ea13) zq_W_like zk_1989 (zrecv hK hW (zvd_5 (by decide) (by decide)) (ze_5_0 B _ (1)) rfl) ⟨rfl, rfl, by decide, by decide⟩ ⟨Nat.zero_le _, Nat.zero_le _⟩ rfl hl.1 rfl (lv_room (Nat.le_of_ble_eq_true rfl)) zd_M_worth_71 (fun H locs hW hS => ?_)
        refine lv_aload_n C.1 C.2.1 zd_M_worth_74 rfl (lv_at hl 1 rfl) ?_
        refine zg_M_mind (r := 0) C hK hW (zvd_9 (by decide) (by decide)) zk_1501 zd_M_worth_75 ?_
        refine zg_W_postOpen (r := 1) C hK hW (zvd_5 (by decide) (by decide)) zk_1334 zd_M_worth_78 ?_
        refine lv_iload_n C.1 C.2.1 zd_M_worth_81 rfl (lv_at hl 2 rfl) ?_
        refine zr_iconst C zd_M_worth_82 ?_
        obtain ⟨h15, hf⟩ := zck_some hf
        obtain ⟨S16, eS16, hf⟩ := zlt_some hf
        refine ziast C hK hap hW hS (zvd_5 (by decide) (by decide)) (fun f => ze_5_24 B f (1)) (by decide) rfl (znb rfl) h15 zd_M_worth_83 (fun H locs hW hS => ?_)
        rw [eS16] at hW
        refine lv_iload_n C.1 C.2.1 zd_M_worth_84 rfl (lv_at hl 0 rfl) ?_
        refine lv_aload_n C.1 C.2.1 zd_M_worth_85 rfl (lv_at hl 1 rfl) ?_
        refine lv_iload_n C.1 C.2.1 zd_M_worth_86 rfl (lv_at hl 3 rfl) ?_
        obtain ⟨a17, S18, ea17, hf⟩ := zbd_some hf
        refine zcVi (As := [.int (zI (x2))]) (rest := [.int (zI (a11))]) C hK hSt hW hS (zc_M_headsBehind hap x2 S16 nx2 ea17) zq_M_headsBehind zk_1996 (zrecv hK hW (zvd_9 (by decide) (by decide)) (ze_9_0 B _ (0)) rfl) ⟨rfl, rfl, by decide, by decide⟩ ⟨Nat.zero_le _, Nat.zero_le _⟩ rfl hl.1 rfl (lv_room (Nat.le_of_ble_eq_true rfl)) zd_M_worth_87 (fun na17 H locs hW hS => ?_)
        refine zr_isub C zd_M_worth_90 ?_
        cases hf
        exact zre_i C hr hlk hK hW hS (zn_w _) zd_M_worth_91
      · rw [if_neg c8] at hf
        refine zr_sipush C zd_M_worth_42 (by decide) ?_
        cases hf
        exact zre_i C hr hlk hK hW hS (znb rfl) zd_M_worth_45
    · rw [if_pos c7] at hf
      refine zr_sipush C zd_M_worth_23 (by decide) ?_
      cases hf
      exact zre_i C hr hlk hK hW hS (znb rfl) zd_M_worth_26

theorem zc_M_worth {l : Launch} {B : zB} (hap : zAp B) (x1 : Int) (x2 : Int) (S : Sg) (nx1 : zn x1) (nx2 : zn x2) {res : Int} {S9 : Sg} (hf : zf_M_worth x1 x2 S = some (res, S9)) : Met l zy_M_worth (Cond.code zy_M_worth zb_M_worth 4 (some .int) :: zT) zm_M_worth (zP B S [.ref (B.2.1 9 (0) (0)), .int (zI (x1)), .int (zI (x2))]) (zQi B res S9) 0 0 B.2.2.2 :=
  zmet (by decide) (Nat.le_of_ble_eq_true rfl) (fun p e s m args below meth c C hr hlk hK hSt hW ls hl => zw_M_worth C hr hlk hK hSt hap   x1 x2 S nx1 nx2 hf _ _ _ hW va_S.rf hl)
/-! IslandOfficeModel.lack(II)I -/
abbrev zy_M_lack : MethodName := ⟨"IslandOfficeModel", "lack", "(II)I"⟩
abbrev zb_M_lack : ByteArray := prog_14_method_59_code
abbrev zm_M_lack : Room := { frames := 398, cells := 0, slots := 0, locals := 8628 }
theorem zq_M_lack : zMy zy_M_lack zb_M_lack 4 (some .int) 2 := ⟨zk_2003, zk_2001, zk_2002, zk_14, by decide, by decide, by decide +kernel⟩
theorem zd_M_lack_0 : decode zb_M_lack 0 = .ok (.aload_n 0, 1) := by decide +kernel
theorem zd_M_lack_1 : decode zb_M_lack 1 = .ok (.iconst 0, 1) := by decide +kernel
theorem zd_M_lack_2 : decode zb_M_lack 2 = .ok (.putfield 46, 3) := by decide +kernel
theorem zd_M_lack_5 : decode zb_M_lack 5 = .ok (.iload_n 1, 1) := by decide +kernel
theorem zd_M_lack_6 : decode zb_M_lack 6 = .ok (.invokestatic 254, 3) := by decide +kernel
theorem zd_M_lack_9 : decode zb_M_lack 9 = .ok (.ifCond .eq 28, 3) := by decide +kernel
theorem zd_M_lack_12 : decode zb_M_lack 12 = .ok (.iload_n 2, 1) := by decide +kernel
theorem zd_M_lack_13 : decode zb_M_lack 13 = .ok (.iconst 1, 1) := by decide +kernel
theorem zd_M_lack_14 : decode zb_M_lack 14 = .ok (.bipush 30, 2) := by decide +kernel
theorem zd_M_lack_16 : decode zb_M_lack 16 = .ok (.invokestatic 53, 3) := by decide +kernel
theorem zd_M_lack_19 : decode zb_M_lack 19 = .ok (.ifCond .eq 18, 3) := by decide +kernel
theorem zd_M_lack_22 : decode zb_M_lack 22 = .ok (.aload_n 0, 1) := by decide +kernel
theorem zd_M_lack_23 : decode zb_M_lack 23 = .ok (.getfield 10, 3) := by decide +kernel
theorem zd_M_lack_26 : decode zb_M_lack 26 = .ok (.getfield 87, 3) := by decide +kernel
theorem zd_M_lack_29 : decode zb_M_lack 29 = .ok (.iload_n 2, 1) := by decide +kernel
theorem zd_M_lack_30 : decode zb_M_lack 30 = .ok (.iadd, 1) := by decide +kernel
theorem zd_M_lack_31 : decode zb_M_lack 31 = .ok (.sipush 400, 3) := by decide +kernel
theorem zd_M_lack_34 : decode zb_M_lack 34 = .ok (.if_icmp .le 5, 3) := by decide +kernel
theorem zd_M_lack_37 : decode zb_M_lack 37 = .ok (.iconst (-1), 1) := by decide +kernel
theorem zd_M_lack_38 : decode zb_M_lack 38 = .ok (.ireturn, 1) := by decide +kernel
theorem zd_M_lack_39 : decode zb_M_lack 39 = .ok (.aload_n 0, 1) := by decide +kernel
theorem zd_M_lack_40 : decode zb_M_lack 40 = .ok (.getfield 16, 3) := by decide +kernel
theorem zd_M_lack_43 : decode zb_M_lack 43 = .ok (.aload_n 0, 1) := by decide +kernel
theorem zd_M_lack_44 : decode zb_M_lack 44 = .ok (.getfield 10, 3) := by decide +kernel
theorem zd_M_lack_47 : decode zb_M_lack 47 = .ok (.invokevirtual 309, 3) := by decide +kernel
theorem zd_M_lack_50 : decode zb_M_lack 50 = .ok (.iconst 0, 1) := by decide +kernel
theorem zd_M_lack_51 : decode zb_M_lack 51 = .ok (.istore_n 3, 1) := by decide +kernel
theorem zd_M_lack_52 : decode zb_M_lack 52 = .ok (.iload_n 3, 1) := by decide +kernel
theorem zd_M_lack_53 : decode zb_M_lack 53 = .ok (.iload_n 2, 1) := by decide +kernel
theorem zd_M_lack_54 : decode zb_M_lack 54 = .ok (.if_icmp .ge 39, 3) := by decide +kernel
theorem zd_M_lack_57 : decode zb_M_lack 57 = .ok (.aload_n 0, 1) := by decide +kernel
theorem zd_M_lack_58 : decode zb_M_lack 58 = .ok (.getfield 16, 3) := by decide +kernel
theorem zd_M_lack_61 : decode zb_M_lack 61 = .ok (.invokevirtual 300, 3) := by decide +kernel
theorem zd_M_lack_64 : decode zb_M_lack 64 = .ok (.aload_n 0, 1) := by decide +kernel
theorem zd_M_lack_65 : decode zb_M_lack 65 = .ok (.getfield 16, 3) := by decide +kernel
theorem zd_M_lack_68 : decode zb_M_lack 68 = .ok (.getfield 316, 3) := by decide +kernel
theorem zd_M_lack_71 : decode zb_M_lack 71 = .ok (.iload_n 1, 1) := by decide +kernel
theorem zd_M_lack_72 : decode zb_M_lack 72 = .ok (.iaload, 1) := by decide +kernel
theorem zd_M_lack_73 : decode zb_M_lack 73 = .ok (.iconst 1, 1) := by decide +kernel
theorem zd_M_lack_74 : decode zb_M_lack 74 = .ok (.if_icmp .ne 13, 3) := by decide +kernel
theorem zd_M_lack_77 : decode zb_M_lack 77 = .ok (.aload_n 0, 1) := by decide +kernel
theorem zd_M_lack_78 : decode zb_M_lack 78 = .ok (.getfield 16, 3) := by decide +kernel
theorem zd_M_lack_81 : decode zb_M_lack 81 = .ok (.getfield 87, 3) := by decide +kernel
theorem zd_M_lack_84 : decode zb_M_lack 84 = .ok (.iconst 1, 1) := by decide +kernel
theorem zd_M_lack_85 : decode zb_M_lack 85 = .ok (.isub, 1) := by decide +kernel
theorem zd_M_lack_86 : decode zb_M_lack 86 = .ok (.ireturn, 1) := by decide +kernel
theorem zd_M_lack_87 : decode zb_M_lack 87 = .ok (.iinc 3 1, 3) := by decide +kernel
theorem zd_M_lack_90 : decode zb_M_lack 90 = .ok (.goto (-38), 3) := by decide +kernel
theorem zd_M_lack_93 : decode zb_M_lack 93 = .ok (.bipush (-2), 2) := by decide +kernel
theorem zd_M_lack_95 : decode zb_M_lack 95 = .ok (.ireturn, 1) := by decide +kernel

def zf_M_lack_52 : Nat → Int → Int → Int → Sg → Option (Int × Sg)
  | 0, _, _, _, _ => none
  | n + 1, x1, x2, x3, S =>
    if x2 ≤ x3 then (some (-2, S)) else (zbd (zf_W_step (1) S) fun a2 S3 => zck (0 ≤ x1 ∧ x1 < 4) <| if (S3 5 1 34 x1) = 1 then (some (zw ((S3 5 1 0 0) - 1), S3)) else (zlt (zw (x3 + 1)) fun v6 => (zf_M_lack_52 n) (x1) (x2) (v6) S3))
set_option maxHeartbeats 4000000 in
set_option maxRecDepth 100000 in
theorem zw_M_lack_52 {p : Program} {l : Launch} {e : Env} {s : State} {m : MethodId} {args : Array Value} {below : List Frame} {meth : Method} {c : Code} {B : zB} (C : CallFix p m c zb_M_lack 4 s args zT "IslandOfficeModel") (hr : meth.sig.returnType = some .int) (hlk : meth.locks = false) (hK : zK B s) (hSt : zSt B s) (hap : zAp B) {res : Int} {S9 : Sg} : ∀ n : Nat, ∀ (x1 : Int) (x2 : Int) (x3 : Int) (S : Sg) (nx1 : zn x1) (nx2 : zn x2) (nx3 : zn x3), zf_M_lack_52 n x1 x2 x3 S = some (res, S9) → ∀ (H : Heap) (locs : List Loc) (ls : Array Slot), zW B S H → va_S B.2.2.2 s.heap H locs → lv_has ls 4 [(0, .ref (B.2.1 9 (0) (0))), (1, .int (zI (x1))), (2, .int (zI (x2))), (3, .int (zI (x3)))] → W p l e zm_M_lack s m args below meth c H locs 0 0 (MQ below (zQi B res S9) args s 0 0 B.2.2.2) (F0 m 52 ls []) := by
  intro n
  induction n with
  | zero =>
    intro x1 x2 x3 S nx1 nx2 nx3 hf H locs ls hW hS hl
    cases hf
  | succ n ih =>
    intro x1 x2 x3 S nx1 nx2 nx3 hf H locs ls hW hS hl
    rw [zf_M_lack_52] at hf
    refine lv_iload_n C.1 C.2.1 zd_M_lack_52 rfl (lv_at hl 3 rfl) ?_
    refine lv_iload_n C.1 C.2.1 zd_M_lack_53 rfl (lv_at hl 2 rfl) ?_
    refine zr_icmp_ge (tgt := 93) C nx3 nx2 zd_M_lack_54 (by decide) (fun c1 => ?_) (fun c1 => ?_)
    · rw [if_pos c1] at hf
      refine zr_bipush C zd_M_lack_93 (by decide) ?_
      cases hf
      exact zre_i C hr hlk hK hW hS (znb rfl) zd_M_lack_95
    · rw [if_neg c1] at hf
      refine lv_aload_n C.1 C.2.1 zd_M_lack_57 rfl (lv_at hl 0 rfl) ?_
      refine zg_M_mind (r := 0) C hK hW (zvd_9 (by decide) (by decide)) zk_1501 zd_M_lack_58 ?_
      obtain ⟨a2, S3, ea2, hf⟩ := zbd_some hf
      refine zcVv (As := []) (rest := []) C hK hSt hW hS (zc_W_step hap (1) (by decide) S ea2) zq_W_step zk_1903 (zrecv hK hW (zvd_5 (by decide) (by decide)) (ze_5_0 B _ (1)) rfl) ⟨rfl, rfl, by decide, by decide⟩ ⟨Nat.zero_le _, Nat.zero_le _⟩ rfl hl.1 rfl (lv_room (Nat.le_of_ble_eq_true rfl)) zd_M_lack_61 (fun H locs hW hS => ?_)
      refine lv_aload_n C.1 C.2.1 zd_M_lack_64 rfl (lv_at hl 0 rfl) ?_
      refine zg_M_mind (r := 0) C hK hW (zvd_9 (by decide) (by decide)) zk_1501 zd_M_lack_65 ?_
      refine zg_W_lacking (r := 1) C hK hW (zvd_5 (by decide) (by decide)) zk_1368 zd_M_lack_68 ?_
      refine lv_iload_n C.1 C.2.1 zd_M_lack_71 rfl (lv_at hl 1 rfl) ?_
      obtain ⟨h4, hf⟩ := zck_some hf
      refine ziald C hK hW (zvd_5 (by decide) (by decide)) (fun f => ze_5_34 B f (1)) (by decide) h4 zd_M_lack_72 ?_
      refine zr_iconst C zd_M_lack_73 ?_
      refine zr_icmp_ne (tgt := 87) C (zWn hW _ _ _ _ rfl) (znb rfl) zd_M_lack_74 (by decide) (fun c5 => ?_) (fun c5 => ?_)
      · rw [if_neg c5] at hf
        obtain ⟨v6, ev6, hf⟩ := zlt_some hf
        have nv6 : zn v6 := by rw [← ev6]; exact zn_w _
        refine lv_iinc (v := zI v6) (lv' := [(3, .int (zI (v6))), (0, .ref (B.2.1 9 (0) (0))), (1, .int (zI (x1))), (2, .int (zI (x2)))]) C.1 C.2.1 zd_M_lack_87 hl (k := 3) rfl (by rw [← ev6, ← zI_add]; rfl) (by decide) rfl (fun ls hl => ?_)
        refine lv_goto (tgt := 52) C.1 C.2.1 zd_M_lack_90 (by decide) ?_
        exact ih (x1) (x2) (v6) S3 nx1 nx2 nv6 hf _ _ _ hW hS (lv_sub hl [1, 2, 3, 0] rfl)
      · rw [if_pos c5] at hf
        refine lv_aload_n C.1 C.2.1 zd_M_lack_77 rfl (lv_at hl 0 rfl) ?_
        refine zg_M_mind (r := 0) C hK hW (zvd_9 (by decide) (by decide)) zk_1501 zd_M_lack_78 ?_
        refine zg_W_week (r := 1) C hK hW (zvd_5 (by decide) (by decide)) zk_1276 zd_M_lack_81 ?_
        refine zr_iconst C zd_M_lack_84 ?_
        refine zr_isub C zd_M_lack_85 ?_
        cases hf
        exact zre_i C hr hlk hK hW hS (zn_w _) zd_M_lack_86

def zf_M_lack (x1 : Int) (x2 : Int) (S : Sg) : Option (Int × Sg) :=
    zlt (zu S 9 0 0 4 0) fun S1 => zbd (zf_M_isGood x1 S1) fun a2 S3 => if a2 = 0 then (some (-1, S3)) else (zbd (zf_M_in x2 1 30 S3) fun a5 S6 => if a5 = 0 then (some (-1, S6)) else (if (zw ((S6 5 0 0 0) + x2)) ≤ 400 then (zbd (zf_W_like (1) (0) S6) fun a9 S10 => zf_M_lack_52 4096 (x1) (x2) (0) S10) else (some (-1, S6))))
set_option maxHeartbeats 4000000 in
set_option maxRecDepth 100000 in
theorem zw_M_lack {p : Program} {l : Launch} {e : Env} {s : State} {m : MethodId} {args : Array Value} {below : List Frame} {meth : Method} {c : Code} {B : zB} (C : CallFix p m c zb_M_lack 4 s args zT "IslandOfficeModel") (hr : meth.sig.returnType = some .int) (hlk : meth.locks = false) (hK : zK B s) (hSt : zSt B s) (hap : zAp B) {res : Int} {S9 : Sg} : ∀ (x1 : Int) (x2 : Int) (S : Sg) (nx1 : zn x1) (nx2 : zn x2), zf_M_lack x1 x2 S = some (res, S9) → ∀ (H : Heap) (locs : List Loc) (ls : Array Slot), zW B S H → va_S B.2.2.2 s.heap H locs → lv_has ls 4 [(0, .ref (B.2.1 9 (0) (0))), (1, .int (zI (x1))), (2, .int (zI (x2)))] → W p l e zm_M_lack s m args below meth c H locs 0 0 (MQ below (zQi B res S9) args s 0 0 B.2.2.2) (F0 m 0 ls []) := by
  intro x1 x2 S nx1 nx2 hf H locs ls hW hS hl
  unfold zf_M_lack at hf
  refine lv_aload_n C.1 C.2.1 zd_M_lack_0 rfl (lv_at hl 0 rfl) ?_
  refine zr_iconst C zd_M_lack_1 ?_
  obtain ⟨S1, eS1, hf⟩ := zlt_some hf
  refine zp_M_thrown (r := 0) C hK hap hW hS (zvd_9 (by decide) (by decide)) zk_1504 (znb rfl) zd_M_lack_2 (fun H locs hW hS => ?_)
  rw [eS1] at hW
  refine lv_iload_n C.1 C.2.1 zd_M_lack_5 rfl (lv_at hl 1 rfl) ?_
  obtain ⟨a2, S3, ea2, hf⟩ := zbd_some hf
  refine zcSi (As := [.int (zI (x1))]) (rest := []) C hK hSt hW hS (zc_M_isGood hap x1 S1 nx1 ea2) zq_M_isGood zk_1843 ⟨rfl, rfl, by decide, by decide⟩ ⟨Nat.zero_le _, Nat.zero_le _⟩ rfl hl.1 rfl (lv_room (Nat.le_of_ble_eq_true rfl)) zd_M_lack_6 (fun na2 H locs hW hS => ?_)
  refine zr_if_eq (tgt := 37) C na2 zd_M_lack_9 (by decide) (fun c4 => ?_) (fun c4 => ?_)
  · rw [if_pos c4] at hf
    refine zr_iconst C zd_M_lack_37 ?_
    cases hf
    exact zre_i C hr hlk hK hW hS (znb rfl) zd_M_lack_38
  · rw [if_neg c4] at hf
    refine lv_iload_n C.1 C.2.1 zd_M_lack_12 rfl (lv_at hl 2 rfl) ?_
    refine zr_iconst C zd_M_lack_13 ?_
    refine zr_bipush C zd_M_lack_14 (by decide) ?_
    obtain ⟨a5, S6, ea5, hf⟩ := zbd_some hf
    refine zcSi (As := [.int (zI (x2)), .int (zI (1)), .int (zI (30))]) (rest := []) C hK hSt hW hS (zc_M_in hap x2 1 30 S3 nx2 (znb rfl) (znb rfl) ea5) zq_M_in zk_1558 ⟨rfl, rfl, by decide, by decide⟩ ⟨Nat.zero_le _, Nat.zero_le _⟩ rfl hl.1 rfl (lv_room (Nat.le_of_ble_eq_true rfl)) zd_M_lack_16 (fun na5 H locs hW hS => ?_)
    refine zr_if_eq (tgt := 37) C na5 zd_M_lack_19 (by decide) (fun c7 => ?_) (fun c7 => ?_)
    · rw [if_pos c7] at hf
      refine zr_iconst C zd_M_lack_37 ?_
      cases hf
      exact zre_i C hr hlk hK hW hS (znb rfl) zd_M_lack_38
    · rw [if_neg c7] at hf
      refine lv_aload_n C.1 C.2.1 zd_M_lack_22 rfl (lv_at hl 0 rfl) ?_
      refine zg_M_world (r := 0) C hK hW (zvd_9 (by decide) (by decide)) zk_1500 zd_M_lack_23 ?_
      refine zg_W_week (r := 0) C hK hW (zvd_5 (by decide) (by decide)) zk_1276 zd_M_lack_26 ?_
      refine lv_iload_n C.1 C.2.1 zd_M_lack_29 rfl (lv_at hl 2 rfl) ?_
      refine zr_iadd C zd_M_lack_30 ?_
      refine zr_sipush C zd_M_lack_31 (by decide) ?_
      refine zr_icmp_le (tgt := 39) C (zn_w _) (znb rfl) zd_M_lack_34 (by decide) (fun c8 => ?_) (fun c8 => ?_)
      · rw [if_pos c8] at hf
        refine lv_aload_n C.1 C.2.1 zd_M_lack_39 rfl (lv_at hl 0 rfl) ?_
        refine zg_M_mind (r := 0) C hK hW (zvd_9 (by decide) (by decide)) zk_1501 zd_M_lack_40 ?_
        refine lv_aload_n C.1 C.2.1 zd_M_lack_43 rfl (lv_at hl 0 rfl) ?_
        refine zg_M_world (r := 0) C hK hW (zvd_9 (by decide) (by decide)) zk_1500 zd_M_lack_44 ?_
        obtain ⟨a9, S10, ea9, hf⟩ := zbd_some hf
        refine zcVv (As := [.ref (B.2.1 5 (0) (0))]) (rest := []) C hK hSt hW hS (zc_W_like hap (1) (0) (by decide) (by decide) S6 ea9) zq_W_like zk_1989 (zrecv hK hW (zvd_5 (by decide) (by decide)) (ze_5_0 B _ (1)) rfl) ⟨rfl, rfl, by decide, by decide⟩ ⟨Nat.zero_le _, Nat.zero_le _⟩ rfl hl.1 rfl (lv_room (Nat.le_of_ble_eq_true rfl)) zd_M_lack_47 (fun H locs hW hS => ?_)
        refine zr_iconst C zd_M_lack_50 ?_
        refine lv_istore_n (lv' := [(3, .int (zI (0))), (0, .ref (B.2.1 9 (0) (0))), (1, .int (zI (x1))), (2, .int (zI (x2)))]) C.1 C.2.1 zd_M_lack_51 rfl hl (by decide) rfl (fun ls hl => ?_)
        exact zw_M_lack_52 C hr hlk hK hSt hap   4096 (x1) (x2) (0) S10 nx1 nx2 (znb rfl) hf _ _ _ hW hS (lv_sub hl [1, 2, 3, 0] rfl)
      · rw [if_neg c8] at hf
        refine zr_iconst C zd_M_lack_37 ?_
        cases hf
        exact zre_i C hr hlk hK hW hS (znb rfl) zd_M_lack_38

theorem zc_M_lack {l : Launch} {B : zB} (hap : zAp B) (x1 : Int) (x2 : Int) (S : Sg) (nx1 : zn x1) (nx2 : zn x2) {res : Int} {S9 : Sg} (hf : zf_M_lack x1 x2 S = some (res, S9)) : Met l zy_M_lack (Cond.code zy_M_lack zb_M_lack 4 (some .int) :: zT) zm_M_lack (zP B S [.ref (B.2.1 9 (0) (0)), .int (zI (x1)), .int (zI (x2))]) (zQi B res S9) 0 0 B.2.2.2 :=
  zmet (by decide) (Nat.le_of_ble_eq_true rfl) (fun p e s m args below meth c C hr hlk hK hSt hW ls hl => zw_M_lack C hr hlk hK hSt hap   x1 x2 S nx1 nx2 hf _ _ _ hW va_S.rf hl)
/-! IslandOfficeModel.tell(II)V -/
abbrev zy_M_tell : MethodName := ⟨"IslandOfficeModel", "tell", "(II)V"⟩
abbrev zb_M_tell : ByteArray := prog_14_method_60_code
abbrev zm_M_tell : Room := { frames := 0, cells := 0, slots := 0, locals := 0 }
theorem zq_M_tell : zMy zy_M_tell zb_M_tell 3 (none) 2 := ⟨zk_2015, zk_2014, zs_95, zk_14, by decide, by decide, by decide +kernel⟩
theorem zd_M_tell_0 : decode zb_M_tell 0 = .ok (.iload_n 2, 1) := by decide +kernel
theorem zd_M_tell_1 : decode zb_M_tell 1 = .ok (.ifCond .le 48, 3) := by decide +kernel
theorem zd_M_tell_4 : decode zb_M_tell 4 = .ok (.aload_n 0, 1) := by decide +kernel
theorem zd_M_tell_5 : decode zb_M_tell 5 = .ok (.getfield 16, 3) := by decide +kernel
theorem zd_M_tell_8 : decode zb_M_tell 8 = .ok (.getfield 269, 3) := by decide +kernel
theorem zd_M_tell_11 : decode zb_M_tell 11 = .ok (.aload_n 0, 1) := by decide +kernel
theorem zd_M_tell_12 : decode zb_M_tell 12 = .ok (.getfield 16, 3) := by decide +kernel
theorem zd_M_tell_15 : decode zb_M_tell 15 = .ok (.getfield 266, 3) := by decide +kernel
theorem zd_M_tell_18 : decode zb_M_tell 18 = .ok (.iload_n 1, 1) := by decide +kernel
theorem zd_M_tell_19 : decode zb_M_tell 19 = .ok (.iastore, 1) := by decide +kernel
theorem zd_M_tell_20 : decode zb_M_tell 20 = .ok (.aload_n 0, 1) := by decide +kernel
theorem zd_M_tell_21 : decode zb_M_tell 21 = .ok (.getfield 16, 3) := by decide +kernel
theorem zd_M_tell_24 : decode zb_M_tell 24 = .ok (.getfield 272, 3) := by decide +kernel
theorem zd_M_tell_27 : decode zb_M_tell 27 = .ok (.aload_n 0, 1) := by decide +kernel
theorem zd_M_tell_28 : decode zb_M_tell 28 = .ok (.getfield 16, 3) := by decide +kernel
theorem zd_M_tell_31 : decode zb_M_tell 31 = .ok (.getfield 266, 3) := by decide +kernel
theorem zd_M_tell_34 : decode zb_M_tell 34 = .ok (.iload_n 2, 1) := by decide +kernel
theorem zd_M_tell_35 : decode zb_M_tell 35 = .ok (.iastore, 1) := by decide +kernel
theorem zd_M_tell_36 : decode zb_M_tell 36 = .ok (.aload_n 0, 1) := by decide +kernel
theorem zd_M_tell_37 : decode zb_M_tell 37 = .ok (.getfield 16, 3) := by decide +kernel
theorem zd_M_tell_40 : decode zb_M_tell 40 = .ok (.dup, 1) := by decide +kernel
theorem zd_M_tell_41 : decode zb_M_tell 41 = .ok (.getfield 266, 3) := by decide +kernel
theorem zd_M_tell_44 : decode zb_M_tell 44 = .ok (.iconst 1, 1) := by decide +kernel
theorem zd_M_tell_45 : decode zb_M_tell 45 = .ok (.iadd, 1) := by decide +kernel
theorem zd_M_tell_46 : decode zb_M_tell 46 = .ok (.putfield 266, 3) := by decide +kernel
theorem zd_M_tell_49 : decode zb_M_tell 49 = .ok (.return_, 1) := by decide +kernel

def zf_M_tell (x1 : Int) (x2 : Int) (S : Sg) : Option (Int × Sg) :=
    if x2 ≤ 0 then (some (0, S)) else (zck (0 ≤ (S 5 1 0 33) ∧ (S 5 1 0 33) < 30) <| zlt (zu S 5 1 28 (S 5 1 0 33) x1) fun S3 => zck (0 ≤ (S3 5 1 0 33) ∧ (S3 5 1 0 33) < 30) <| zlt (zu S3 5 1 29 (S3 5 1 0 33) x2) fun S5 => zlt (zu S5 5 1 0 33 (zw ((S5 5 1 0 33) + 1))) fun S6 => some (0, S6))
set_option maxHeartbeats 4000000 in
set_option maxRecDepth 100000 in
theorem zw_M_tell {p : Program} {l : Launch} {e : Env} {s : State} {m : MethodId} {args : Array Value} {below : List Frame} {meth : Method} {c : Code} {B : zB} (C : CallFix p m c zb_M_tell 3 s args zT "IslandOfficeModel") (hr : meth.sig.returnType = none) (hlk : meth.locks = false) (hK : zK B s) (hSt : zSt B s) (hap : zAp B) {res : Int} {S9 : Sg} : ∀ (x1 : Int) (x2 : Int) (S : Sg) (nx1 : zn x1) (nx2 : zn x2), zf_M_tell x1 x2 S = some (res, S9) → ∀ (H : Heap) (locs : List Loc) (ls : Array Slot), zW B S H → va_S B.2.2.2 s.heap H locs → lv_has ls 3 [(0, .ref (B.2.1 9 (0) (0))), (1, .int (zI (x1))), (2, .int (zI (x2)))] → W p l e zm_M_tell s m args below meth c H locs 0 0 (MQ below (zQv B S9) args s 0 0 B.2.2.2) (F0 m 0 ls []) := by
  intro x1 x2 S nx1 nx2 hf H locs ls hW hS hl
  unfold zf_M_tell at hf
  refine lv_iload_n C.1 C.2.1 zd_M_tell_0 rfl (lv_at hl 2 rfl) ?_
  refine zr_if_le (tgt := 49) C nx2 zd_M_tell_1 (by decide) (fun c1 => ?_) (fun c1 => ?_)
  · rw [if_pos c1] at hf
    cases hf
    exact zre_v C hr hlk hK hW hS zd_M_tell_49
  · rw [if_neg c1] at hf
    refine lv_aload_n C.1 C.2.1 zd_M_tell_4 rfl (lv_at hl 0 rfl) ?_
    refine zg_M_mind (r := 0) C hK hW (zvd_9 (by decide) (by decide)) zk_1501 zd_M_tell_5 ?_
    refine zg_W_orderGood (r := 1) C hK hW (zvd_5 (by decide) (by decide)) zk_1344 zd_M_tell_8 ?_
    refine lv_aload_n C.1 C.2.1 zd_M_tell_11 rfl (lv_at hl 0 rfl) ?_
    refine zg_M_mind (r := 0) C hK hW (zvd_9 (by decide) (by decide)) zk_1501 zd_M_tell_12 ?_
    refine zg_W_orders (r := 1) C hK hW (zvd_5 (by decide) (by decide)) zk_1342 zd_M_tell_15 ?_
    refine lv_iload_n C.1 C.2.1 zd_M_tell_18 rfl (lv_at hl 1 rfl) ?_
    obtain ⟨h2, hf⟩ := zck_some hf
    obtain ⟨S3, eS3, hf⟩ := zlt_some hf
    refine ziast C hK hap hW hS (zvd_5 (by decide) (by decide)) (fun f => ze_5_28 B f (1)) (by decide) rfl nx1 h2 zd_M_tell_19 (fun H locs hW hS => ?_)
    rw [eS3] at hW
    refine lv_aload_n C.1 C.2.1 zd_M_tell_20 rfl (lv_at hl 0 rfl) ?_
    refine zg_M_mind (r := 0) C hK hW (zvd_9 (by decide) (by decide)) zk_1501 zd_M_tell_21 ?_
    refine zg_W_orderDue (r := 1) C hK hW (zvd_5 (by decide) (by decide)) zk_1346 zd_M_tell_24 ?_
    refine lv_aload_n C.1 C.2.1 zd_M_tell_27 rfl (lv_at hl 0 rfl) ?_
    refine zg_M_mind (r := 0) C hK hW (zvd_9 (by decide) (by decide)) zk_1501 zd_M_tell_28 ?_
    refine zg_W_orders (r := 1) C hK hW (zvd_5 (by decide) (by decide)) zk_1342 zd_M_tell_31 ?_
    refine lv_iload_n C.1 C.2.1 zd_M_tell_34 rfl (lv_at hl 2 rfl) ?_
    obtain ⟨h4, hf⟩ := zck_some hf
    obtain ⟨S5, eS5, hf⟩ := zlt_some hf
    refine ziast C hK hap hW hS (zvd_5 (by decide) (by decide)) (fun f => ze_5_29 B f (1)) (by decide) rfl nx2 h4 zd_M_tell_35 (fun H locs hW hS => ?_)
    rw [eS5] at hW
    refine lv_aload_n C.1 C.2.1 zd_M_tell_36 rfl (lv_at hl 0 rfl) ?_
    refine zg_M_mind (r := 0) C hK hW (zvd_9 (by decide) (by decide)) zk_1501 zd_M_tell_37 ?_
    refine lv_dup C.1 C.2.1 zd_M_tell_40 rfl ?_
    refine zg_W_orders (r := 1) C hK hW (zvd_5 (by decide) (by decide)) zk_1342 zd_M_tell_41 ?_
    refine zr_iconst C zd_M_tell_44 ?_
    refine zr_iadd C zd_M_tell_45 ?_
    obtain ⟨S6, eS6, hf⟩ := zlt_some hf
    refine zp_W_orders (r := 1) C hK hap hW hS (zvd_5 (by decide) (by decide)) zk_1342 (zn_w _) zd_M_tell_46 (fun H locs hW hS => ?_)
    rw [eS6] at hW
    cases hf
    exact zre_v C hr hlk hK hW hS zd_M_tell_49

theorem zc_M_tell {l : Launch} {B : zB} (hap : zAp B) (x1 : Int) (x2 : Int) (S : Sg) (nx1 : zn x1) (nx2 : zn x2) {res : Int} {S9 : Sg} (hf : zf_M_tell x1 x2 S = some (res, S9)) : Met l zy_M_tell (Cond.code zy_M_tell zb_M_tell 3 (none) :: zT) zm_M_tell (zP B S [.ref (B.2.1 9 (0) (0)), .int (zI (x1)), .int (zI (x2))]) (zQv B S9) 0 0 B.2.2.2 :=
  zmet (by decide) (Nat.le_of_ble_eq_true rfl) (fun p e s m args below meth c C hr hlk hK hSt hW ls hl => zw_M_tell C hr hlk hK hSt hap   x1 x2 S nx1 nx2 hf _ _ _ hW va_S.rf hl)
/-! IslandOfficeModel.lasts(II)I -/
abbrev zy_M_lasts : MethodName := ⟨"IslandOfficeModel", "lasts", "(II)I"⟩
abbrev zb_M_lasts : ByteArray := prog_14_method_61_code
abbrev zm_M_lasts : Room := { frames := 398, cells := 0, slots := 0, locals := 8628 }
theorem zq_M_lasts : zMy zy_M_lasts zb_M_lasts 4 (some .int) 2 := ⟨zk_2011, zk_2010, zs_94, zk_14, by decide, by decide, by decide +kernel⟩
theorem zd_M_lasts_0 : decode zb_M_lasts 0 = .ok (.aload_n 0, 1) := by decide +kernel
theorem zd_M_lasts_1 : decode zb_M_lasts 1 = .ok (.getfield 16, 3) := by decide +kernel
theorem zd_M_lasts_4 : decode zb_M_lasts 4 = .ok (.aload_n 0, 1) := by decide +kernel
theorem zd_M_lasts_5 : decode zb_M_lasts 5 = .ok (.getfield 10, 3) := by decide +kernel
theorem zd_M_lasts_8 : decode zb_M_lasts 8 = .ok (.invokevirtual 309, 3) := by decide +kernel
theorem zd_M_lasts_11 : decode zb_M_lasts 11 = .ok (.aload_n 0, 1) := by decide +kernel
theorem zd_M_lasts_12 : decode zb_M_lasts 12 = .ok (.iconst 0, 1) := by decide +kernel
theorem zd_M_lasts_13 : decode zb_M_lasts 13 = .ok (.bipush 10, 2) := by decide +kernel
theorem zd_M_lasts_15 : decode zb_M_lasts 15 = .ok (.iload_n 1, 1) := by decide +kernel
theorem zd_M_lasts_16 : decode zb_M_lasts 16 = .ok (.imul, 1) := by decide +kernel
theorem zd_M_lasts_17 : decode zb_M_lasts 17 = .ok (.invokevirtual 319, 3) := by decide +kernel
theorem zd_M_lasts_20 : decode zb_M_lasts 20 = .ok (.aload_n 0, 1) := by decide +kernel
theorem zd_M_lasts_21 : decode zb_M_lasts 21 = .ok (.iconst 1, 1) := by decide +kernel
theorem zd_M_lasts_22 : decode zb_M_lasts 22 = .ok (.bipush 10, 2) := by decide +kernel
theorem zd_M_lasts_24 : decode zb_M_lasts 24 = .ok (.iload_n 2, 1) := by decide +kernel
theorem zd_M_lasts_25 : decode zb_M_lasts 25 = .ok (.imul, 1) := by decide +kernel
theorem zd_M_lasts_26 : decode zb_M_lasts 26 = .ok (.invokevirtual 319, 3) := by decide +kernel
theorem zd_M_lasts_29 : decode zb_M_lasts 29 = .ok (.iconst 0, 1) := by decide +kernel
theorem zd_M_lasts_30 : decode zb_M_lasts 30 = .ok (.istore_n 3, 1) := by decide +kernel
theorem zd_M_lasts_31 : decode zb_M_lasts 31 = .ok (.iload_n 3, 1) := by decide +kernel
theorem zd_M_lasts_32 : decode zb_M_lasts 32 = .ok (.bipush 16, 2) := by decide +kernel
theorem zd_M_lasts_34 : decode zb_M_lasts 34 = .ok (.if_icmp .ge 44, 3) := by decide +kernel
theorem zd_M_lasts_37 : decode zb_M_lasts 37 = .ok (.aload_n 0, 1) := by decide +kernel
theorem zd_M_lasts_38 : decode zb_M_lasts 38 = .ok (.getfield 16, 3) := by decide +kernel
theorem zd_M_lasts_41 : decode zb_M_lasts 41 = .ok (.invokevirtual 300, 3) := by decide +kernel
theorem zd_M_lasts_44 : decode zb_M_lasts 44 = .ok (.aload_n 0, 1) := by decide +kernel
theorem zd_M_lasts_45 : decode zb_M_lasts 45 = .ok (.getfield 16, 3) := by decide +kernel
theorem zd_M_lasts_48 : decode zb_M_lasts 48 = .ok (.getfield 316, 3) := by decide +kernel
theorem zd_M_lasts_51 : decode zb_M_lasts 51 = .ok (.iconst 0, 1) := by decide +kernel
theorem zd_M_lasts_52 : decode zb_M_lasts 52 = .ok (.iaload, 1) := by decide +kernel
theorem zd_M_lasts_53 : decode zb_M_lasts 53 = .ok (.iconst 1, 1) := by decide +kernel
theorem zd_M_lasts_54 : decode zb_M_lasts 54 = .ok (.if_icmp .eq 16, 3) := by decide +kernel
theorem zd_M_lasts_57 : decode zb_M_lasts 57 = .ok (.aload_n 0, 1) := by decide +kernel
theorem zd_M_lasts_58 : decode zb_M_lasts 58 = .ok (.getfield 16, 3) := by decide +kernel
theorem zd_M_lasts_61 : decode zb_M_lasts 61 = .ok (.getfield 316, 3) := by decide +kernel
theorem zd_M_lasts_64 : decode zb_M_lasts 64 = .ok (.iconst 1, 1) := by decide +kernel
theorem zd_M_lasts_65 : decode zb_M_lasts 65 = .ok (.iaload, 1) := by decide +kernel
theorem zd_M_lasts_66 : decode zb_M_lasts 66 = .ok (.iconst 1, 1) := by decide +kernel
theorem zd_M_lasts_67 : decode zb_M_lasts 67 = .ok (.if_icmp .ne 5, 3) := by decide +kernel
theorem zd_M_lasts_70 : decode zb_M_lasts 70 = .ok (.iload_n 3, 1) := by decide +kernel
theorem zd_M_lasts_71 : decode zb_M_lasts 71 = .ok (.ireturn, 1) := by decide +kernel
theorem zd_M_lasts_72 : decode zb_M_lasts 72 = .ok (.iinc 3 1, 3) := by decide +kernel
theorem zd_M_lasts_75 : decode zb_M_lasts 75 = .ok (.goto (-44), 3) := by decide +kernel
theorem zd_M_lasts_78 : decode zb_M_lasts 78 = .ok (.bipush 16, 2) := by decide +kernel
theorem zd_M_lasts_80 : decode zb_M_lasts 80 = .ok (.ireturn, 1) := by decide +kernel

def zf_M_lasts_31 : Nat → Int → Sg → Option (Int × Sg)
  | 0, _, _ => none
  | n + 1, x3, S =>
    if 16 ≤ x3 then (some (16, S)) else (zbd (zf_W_step (1) S) fun a2 S3 => if (S3 5 1 34 0) = 1 then (some (x3, S3)) else (if (S3 5 1 34 1) = 1 then (some (x3, S3)) else (zlt (zw (x3 + 1)) fun v6 => (zf_M_lasts_31 n) (v6) S3)))
set_option maxHeartbeats 4000000 in
set_option maxRecDepth 100000 in
theorem zw_M_lasts_31 {p : Program} {l : Launch} {e : Env} {s : State} {m : MethodId} {args : Array Value} {below : List Frame} {meth : Method} {c : Code} {B : zB} (C : CallFix p m c zb_M_lasts 4 s args zT "IslandOfficeModel") (hr : meth.sig.returnType = some .int) (hlk : meth.locks = false) (hK : zK B s) (hSt : zSt B s) (hap : zAp B) {res : Int} {S9 : Sg} : ∀ n : Nat, ∀ (x3 : Int) (S : Sg) (nx3 : zn x3), zf_M_lasts_31 n x3 S = some (res, S9) → ∀ (H : Heap) (locs : List Loc) (ls : Array Slot), zW B S H → va_S B.2.2.2 s.heap H locs → lv_has ls 4 [(0, .ref (B.2.1 9 (0) (0))), (3, .int (zI (x3)))] → W p l e zm_M_lasts s m args below meth c H locs 0 0 (MQ below (zQi B res S9) args s 0 0 B.2.2.2) (F0 m 31 ls []) := by
  intro n
  induction n with
  | zero =>
    intro x3 S nx3 hf H locs ls hW hS hl
    cases hf
  | succ n ih =>
    intro x3 S nx3 hf H locs ls hW hS hl
    rw [zf_M_lasts_31] at hf
    refine lv_iload_n C.1 C.2.1 zd_M_lasts_31 rfl (lv_at hl 1 rfl) ?_
    refine zr_bipush C zd_M_lasts_32 (by decide) ?_
    refine zr_icmp_ge (tgt := 78) C nx3 (znb rfl) zd_M_lasts_34 (by decide) (fun c1 => ?_) (fun c1 => ?_)
    · rw [if_pos c1] at hf
      refine zr_bipush C zd_M_lasts_78 (by decide) ?_
      cases hf
      exact zre_i C hr hlk hK hW hS (znb rfl) zd_M_lasts_80
    · rw [if_neg c1] at hf
      refine lv_aload_n C.1 C.2.1 zd_M_lasts_37 rfl (lv_at hl 0 rfl) ?_
      refine zg_M_mind (r := 0) C hK hW (zvd_9 (by decide) (by decide)) zk_1501 zd_M_lasts_38 ?_
      obtain ⟨a2, S3, ea2, hf⟩ := zbd_some hf
      refine zcVv (As := []) (rest := []) C hK hSt hW hS (zc_W_step hap (1) (by decide) S ea2) zq_W_step zk_1903 (zrecv hK hW (zvd_5 (by decide) (by decide)) (ze_5_0 B _ (1)) rfl) ⟨rfl, rfl, by decide, by decide⟩ ⟨Nat.zero_le _, Nat.zero_le _⟩ rfl hl.1 rfl (lv_room (Nat.le_of_ble_eq_true rfl)) zd_M_lasts_41 (fun H locs hW hS => ?_)
      refine lv_aload_n C.1 C.2.1 zd_M_lasts_44 rfl (lv_at hl 0 rfl) ?_
      refine zg_M_mind (r := 0) C hK hW (zvd_9 (by decide) (by decide)) zk_1501 zd_M_lasts_45 ?_
      refine zg_W_lacking (r := 1) C hK hW (zvd_5 (by decide) (by decide)) zk_1368 zd_M_lasts_48 ?_
      refine zr_iconst C zd_M_lasts_51 ?_
      refine ziald C hK hW (zvd_5 (by decide) (by decide)) (fun f => ze_5_34 B f (1)) (by decide) (by decide) zd_M_lasts_52 ?_
      refine zr_iconst C zd_M_lasts_53 ?_
      refine zr_icmp_eq (tgt := 70) C (zWn hW _ _ _ _ rfl) (znb rfl) zd_M_lasts_54 (by decide) (fun c4 => ?_) (fun c4 => ?_)
      · rw [if_pos c4] at hf
        refine lv_iload_n C.1 C.2.1 zd_M_lasts_70 rfl (lv_at hl 1 rfl) ?_
        cases hf
        exact zre_i C hr hlk hK hW hS nx3 zd_M_lasts_71
      · rw [if_neg c4] at hf
        refine lv_aload_n C.1 C.2.1 zd_M_lasts_57 rfl (lv_at hl 0 rfl) ?_
        refine zg_M_mind (r := 0) C hK hW (zvd_9 (by decide) (by decide)) zk_1501 zd_M_lasts_58 ?_
        refine zg_W_lacking (r := 1) C hK hW (zvd_5 (by decide) (by decide)) zk_1368 zd_M_lasts_61 ?_
        refine zr_iconst C zd_M_lasts_64 ?_
        refine ziald C hK hW (zvd_5 (by decide) (by decide)) (fun f => ze_5_34 B f (1)) (by decide) (by decide) zd_M_lasts_65 ?_
        refine zr_iconst C zd_M_lasts_66 ?_
        refine zr_icmp_ne (tgt := 72) C (zWn hW _ _ _ _ rfl) (znb rfl) zd_M_lasts_67 (by decide) (fun c5 => ?_) (fun c5 => ?_)
        · rw [if_neg c5] at hf
          obtain ⟨v6, ev6, hf⟩ := zlt_some hf
          have nv6 : zn v6 := by rw [← ev6]; exact zn_w _
          refine lv_iinc (v := zI v6) (lv' := [(3, .int (zI (v6))), (0, .ref (B.2.1 9 (0) (0)))]) C.1 C.2.1 zd_M_lasts_72 hl (k := 1) rfl (by rw [← ev6, ← zI_add]; rfl) (by decide) rfl (fun ls hl => ?_)
          refine lv_goto (tgt := 31) C.1 C.2.1 zd_M_lasts_75 (by decide) ?_
          exact ih (v6) S3 nv6 hf _ _ _ hW hS (lv_sub hl [1, 0] rfl)
        · rw [if_pos c5] at hf
          refine lv_iload_n C.1 C.2.1 zd_M_lasts_70 rfl (lv_at hl 1 rfl) ?_
          cases hf
          exact zre_i C hr hlk hK hW hS nx3 zd_M_lasts_71

def zf_M_lasts (x1 : Int) (x2 : Int) (S : Sg) : Option (Int × Sg) :=
    zbd (zf_W_like (1) (0) S) fun a1 S2 => zbd (zf_M_tell 0 (zw (10 * x1)) S2) fun a3 S4 => zbd (zf_M_tell 1 (zw (10 * x2)) S4) fun a5 S6 => zf_M_lasts_31 4096 (0) S6
set_option maxHeartbeats 4000000 in
set_option maxRecDepth 100000 in
theorem zw_M_lasts {p : Program} {l : Launch} {e : Env} {s : State} {m : MethodId} {args : Array Value} {below : List Frame} {meth : Method} {c : Code} {B : zB} (C : CallFix p m c zb_M_lasts 4 s args zT "IslandOfficeModel") (hr : meth.sig.returnType = some .int) (hlk : meth.locks = false) (hK : zK B s) (hSt : zSt B s) (hap : zAp B) {res : Int} {S9 : Sg} : ∀ (x1 : Int) (x2 : Int) (S : Sg) (nx1 : zn x1) (nx2 : zn x2), zf_M_lasts x1 x2 S = some (res, S9) → ∀ (H : Heap) (locs : List Loc) (ls : Array Slot), zW B S H → va_S B.2.2.2 s.heap H locs → lv_has ls 4 [(0, .ref (B.2.1 9 (0) (0))), (1, .int (zI (x1))), (2, .int (zI (x2)))] → W p l e zm_M_lasts s m args below meth c H locs 0 0 (MQ below (zQi B res S9) args s 0 0 B.2.2.2) (F0 m 0 ls []) := by
  intro x1 x2 S nx1 nx2 hf H locs ls hW hS hl
  unfold zf_M_lasts at hf
  refine lv_aload_n C.1 C.2.1 zd_M_lasts_0 rfl (lv_at hl 0 rfl) ?_
  refine zg_M_mind (r := 0) C hK hW (zvd_9 (by decide) (by decide)) zk_1501 zd_M_lasts_1 ?_
  refine lv_aload_n C.1 C.2.1 zd_M_lasts_4 rfl (lv_at hl 0 rfl) ?_
  refine zg_M_world (r := 0) C hK hW (zvd_9 (by decide) (by decide)) zk_1500 zd_M_lasts_5 ?_
  obtain ⟨a1, S2, ea1, hf⟩ := zbd_some hf
  refine zcVv (As := [.ref (B.2.1 5 (0) (0))]) (rest := []) C hK hSt hW hS (zc_W_like hap (1) (0) (by decide) (by decide) S ea1) zq_W_like zk_1989 (zrecv hK hW (zvd_5 (by decide) (by decide)) (ze_5_0 B _ (1)) rfl) ⟨rfl, rfl, by decide, by decide⟩ ⟨Nat.zero_le _, Nat.zero_le _⟩ rfl hl.1 rfl (lv_room (Nat.le_of_ble_eq_true rfl)) zd_M_lasts_8 (fun H locs hW hS => ?_)
  refine lv_aload_n C.1 C.2.1 zd_M_lasts_11 rfl (lv_at hl 0 rfl) ?_
  refine zr_iconst C zd_M_lasts_12 ?_
  refine zr_bipush C zd_M_lasts_13 (by decide) ?_
  refine lv_iload_n C.1 C.2.1 zd_M_lasts_15 rfl (lv_at hl 1 rfl) ?_
  refine zr_imul C zd_M_lasts_16 ?_
  obtain ⟨a3, S4, ea3, hf⟩ := zbd_some hf
  refine zcVv (As := [.int (zI (0)), .int (zI (zw (10 * x1)))]) (rest := []) C hK hSt hW hS (zc_M_tell hap 0 (zw (10 * x1)) S2 (znb rfl) (zn_w _) ea3) zq_M_tell zk_2012 (zrecv hK hW (zvd_9 (by decide) (by decide)) (ze_9_0 B _ (0)) rfl) ⟨rfl, rfl, by decide, by decide⟩ ⟨Nat.zero_le _, Nat.zero_le _⟩ rfl hl.1 rfl (lv_room (Nat.le_of_ble_eq_true rfl)) zd_M_lasts_17 (fun H locs hW hS => ?_)
  refine lv_aload_n C.1 C.2.1 zd_M_lasts_20 rfl (lv_at hl 0 rfl) ?_
  refine zr_iconst C zd_M_lasts_21 ?_
  refine zr_bipush C zd_M_lasts_22 (by decide) ?_
  refine lv_iload_n C.1 C.2.1 zd_M_lasts_24 rfl (lv_at hl 2 rfl) ?_
  refine zr_imul C zd_M_lasts_25 ?_
  obtain ⟨a5, S6, ea5, hf⟩ := zbd_some hf
  refine zcVv (As := [.int (zI (1)), .int (zI (zw (10 * x2)))]) (rest := []) C hK hSt hW hS (zc_M_tell hap 1 (zw (10 * x2)) S4 (znb rfl) (zn_w _) ea5) zq_M_tell zk_2012 (zrecv hK hW (zvd_9 (by decide) (by decide)) (ze_9_0 B _ (0)) rfl) ⟨rfl, rfl, by decide, by decide⟩ ⟨Nat.zero_le _, Nat.zero_le _⟩ rfl hl.1 rfl (lv_room (Nat.le_of_ble_eq_true rfl)) zd_M_lasts_26 (fun H locs hW hS => ?_)
  refine zr_iconst C zd_M_lasts_29 ?_
  refine lv_istore_n (lv' := [(3, .int (zI (0))), (0, .ref (B.2.1 9 (0) (0))), (1, .int (zI (x1))), (2, .int (zI (x2)))]) C.1 C.2.1 zd_M_lasts_30 rfl hl (by decide) rfl (fun ls hl => ?_)
  exact zw_M_lasts_31 C hr hlk hK hSt hap   4096 (0) S6 (znb rfl) hf _ _ _ hW hS (lv_sub hl [1, 0] rfl)

theorem zc_M_lasts {l : Launch} {B : zB} (hap : zAp B) (x1 : Int) (x2 : Int) (S : Sg) (nx1 : zn x1) (nx2 : zn x2) {res : Int} {S9 : Sg} (hf : zf_M_lasts x1 x2 S = some (res, S9)) : Met l zy_M_lasts (Cond.code zy_M_lasts zb_M_lasts 4 (some .int) :: zT) zm_M_lasts (zP B S [.ref (B.2.1 9 (0) (0)), .int (zI (x1)), .int (zI (x2))]) (zQi B res S9) 0 0 B.2.2.2 :=
  zmet (by decide) (Nat.le_of_ble_eq_true rfl) (fun p e s m args below meth c C hr hlk hK hSt hW ls hl => zw_M_lasts C hr hlk hK hSt hap   x1 x2 S nx1 nx2 hf _ _ _ hW va_S.rf hl)
/-! IslandOfficeModel.plan()I -/
abbrev zy_M_plan : MethodName := ⟨"IslandOfficeModel", "plan", "()I"⟩
abbrev zb_M_plan : ByteArray := prog_14_method_62_code
abbrev zm_M_plan : Room := { frames := 399, cells := 0, slots := 0, locals := 8651 }
theorem zq_M_plan : zMy zy_M_plan zb_M_plan 7 (some .int) 0 := ⟨zk_2007, zk_2005, zk_2006, zk_14, by decide, by decide, by decide +kernel⟩
theorem zd_M_plan_0 : decode zb_M_plan 0 = .ok (.aload_n 0, 1) := by decide +kernel
theorem zd_M_plan_1 : decode zb_M_plan 1 = .ok (.iconst 0, 1) := by decide +kernel
theorem zd_M_plan_2 : decode zb_M_plan 2 = .ok (.putfield 46, 3) := by decide +kernel
theorem zd_M_plan_5 : decode zb_M_plan 5 = .ok (.aload_n 0, 1) := by decide +kernel
theorem zd_M_plan_6 : decode zb_M_plan 6 = .ok (.getfield 10, 3) := by decide +kernel
theorem zd_M_plan_9 : decode zb_M_plan 9 = .ok (.getfield 266, 3) := by decide +kernel
theorem zd_M_plan_12 : decode zb_M_plan 12 = .ok (.iconst 2, 1) := by decide +kernel
theorem zd_M_plan_13 : decode zb_M_plan 13 = .ok (.iadd, 1) := by decide +kernel
theorem zd_M_plan_14 : decode zb_M_plan 14 = .ok (.bipush 30, 2) := by decide +kernel
theorem zd_M_plan_16 : decode zb_M_plan 16 = .ok (.if_icmp .le 6, 3) := by decide +kernel
theorem zd_M_plan_19 : decode zb_M_plan 19 = .ok (.bipush (-2), 2) := by decide +kernel
theorem zd_M_plan_21 : decode zb_M_plan 21 = .ok (.ireturn, 1) := by decide +kernel
theorem zd_M_plan_22 : decode zb_M_plan 22 = .ok (.aload_n 0, 1) := by decide +kernel
theorem zd_M_plan_23 : decode zb_M_plan 23 = .ok (.getfield 10, 3) := by decide +kernel
theorem zd_M_plan_26 : decode zb_M_plan 26 = .ok (.getfield 87, 3) := by decide +kernel
theorem zd_M_plan_29 : decode zb_M_plan 29 = .ok (.sipush 384, 3) := by decide +kernel
theorem zd_M_plan_32 : decode zb_M_plan 32 = .ok (.if_icmp .le 6, 3) := by decide +kernel
theorem zd_M_plan_35 : decode zb_M_plan 35 = .ok (.bipush (-3), 2) := by decide +kernel
theorem zd_M_plan_37 : decode zb_M_plan 37 = .ok (.ireturn, 1) := by decide +kernel
theorem zd_M_plan_38 : decode zb_M_plan 38 = .ok (.iconst (-1), 1) := by decide +kernel
theorem zd_M_plan_39 : decode zb_M_plan 39 = .ok (.istore_n 1, 1) := by decide +kernel
theorem zd_M_plan_40 : decode zb_M_plan 40 = .ok (.iconst (-1), 1) := by decide +kernel
theorem zd_M_plan_41 : decode zb_M_plan 41 = .ok (.istore_n 2, 1) := by decide +kernel
theorem zd_M_plan_42 : decode zb_M_plan 42 = .ok (.iconst 0, 1) := by decide +kernel
theorem zd_M_plan_43 : decode zb_M_plan 43 = .ok (.istore_n 3, 1) := by decide +kernel
theorem zd_M_plan_44 : decode zb_M_plan 44 = .ok (.iload_n 3, 1) := by decide +kernel
theorem zd_M_plan_45 : decode zb_M_plan 45 = .ok (.bipush 20, 2) := by decide +kernel
theorem zd_M_plan_47 : decode zb_M_plan 47 = .ok (.if_icmp .gt 73, 3) := by decide +kernel
theorem zd_M_plan_50 : decode zb_M_plan 50 = .ok (.iconst 0, 1) := by decide +kernel
theorem zd_M_plan_51 : decode zb_M_plan 51 = .ok (.istore 4, 2) := by decide +kernel
theorem zd_M_plan_53 : decode zb_M_plan 53 = .ok (.iload 4, 2) := by decide +kernel
theorem zd_M_plan_55 : decode zb_M_plan 55 = .ok (.bipush 10, 2) := by decide +kernel
theorem zd_M_plan_57 : decode zb_M_plan 57 = .ok (.if_icmp .gt 57, 3) := by decide +kernel
theorem zd_M_plan_60 : decode zb_M_plan 60 = .ok (.iload_n 3, 1) := by decide +kernel
theorem zd_M_plan_61 : decode zb_M_plan 61 = .ok (.iload 4, 2) := by decide +kernel
theorem zd_M_plan_63 : decode zb_M_plan 63 = .ok (.isub, 1) := by decide +kernel
theorem zd_M_plan_64 : decode zb_M_plan 64 = .ok (.istore 5, 2) := by decide +kernel
theorem zd_M_plan_66 : decode zb_M_plan 66 = .ok (.iload 5, 2) := by decide +kernel
theorem zd_M_plan_68 : decode zb_M_plan 68 = .ok (.iconst 0, 1) := by decide +kernel
theorem zd_M_plan_69 : decode zb_M_plan 69 = .ok (.bipush 10, 2) := by decide +kernel
theorem zd_M_plan_71 : decode zb_M_plan 71 = .ok (.invokestatic 53, 3) := by decide +kernel
theorem zd_M_plan_74 : decode zb_M_plan 74 = .ok (.ifCond .ne 6, 3) := by decide +kernel
theorem zd_M_plan_77 : decode zb_M_plan 77 = .ok (.goto 31, 3) := by decide +kernel
theorem zd_M_plan_80 : decode zb_M_plan 80 = .ok (.aload_n 0, 1) := by decide +kernel
theorem zd_M_plan_81 : decode zb_M_plan 81 = .ok (.iload 4, 2) := by decide +kernel
theorem zd_M_plan_83 : decode zb_M_plan 83 = .ok (.iload 5, 2) := by decide +kernel
theorem zd_M_plan_85 : decode zb_M_plan 85 = .ok (.invokevirtual 323, 3) := by decide +kernel
theorem zd_M_plan_88 : decode zb_M_plan 88 = .ok (.istore 6, 2) := by decide +kernel
theorem zd_M_plan_90 : decode zb_M_plan 90 = .ok (.iload 6, 2) := by decide +kernel
theorem zd_M_plan_92 : decode zb_M_plan 92 = .ok (.iload_n 2, 1) := by decide +kernel
theorem zd_M_plan_93 : decode zb_M_plan 93 = .ok (.if_icmp .le 15, 3) := by decide +kernel
theorem zd_M_plan_96 : decode zb_M_plan 96 = .ok (.iload 6, 2) := by decide +kernel
theorem zd_M_plan_98 : decode zb_M_plan 98 = .ok (.istore_n 2, 1) := by decide +kernel
theorem zd_M_plan_99 : decode zb_M_plan 99 = .ok (.bipush 100, 2) := by decide +kernel
theorem zd_M_plan_101 : decode zb_M_plan 101 = .ok (.iload 4, 2) := by decide +kernel
theorem zd_M_plan_103 : decode zb_M_plan 103 = .ok (.imul, 1) := by decide +kernel
theorem zd_M_plan_104 : decode zb_M_plan 104 = .ok (.iload 5, 2) := by decide +kernel
theorem zd_M_plan_106 : decode zb_M_plan 106 = .ok (.iadd, 1) := by decide +kernel
theorem zd_M_plan_107 : decode zb_M_plan 107 = .ok (.istore_n 1, 1) := by decide +kernel
theorem zd_M_plan_108 : decode zb_M_plan 108 = .ok (.iinc 4 1, 3) := by decide +kernel
theorem zd_M_plan_111 : decode zb_M_plan 111 = .ok (.goto (-58), 3) := by decide +kernel
theorem zd_M_plan_114 : decode zb_M_plan 114 = .ok (.iinc 3 1, 3) := by decide +kernel
theorem zd_M_plan_117 : decode zb_M_plan 117 = .ok (.goto (-73), 3) := by decide +kernel
theorem zd_M_plan_120 : decode zb_M_plan 120 = .ok (.iload_n 1, 1) := by decide +kernel
theorem zd_M_plan_121 : decode zb_M_plan 121 = .ok (.ireturn, 1) := by decide +kernel

def zf_M_plan_108 (q44 : Int → Int → Int → Sg → Option (Int × Sg)) (q53 : Int → Int → Int → Int → Sg → Option (Int × Sg)) (x1 : Int) (x2 : Int) (x3 : Int) (x4 : Int) (S : Sg) : Option (Int × Sg) :=
    zlt (zw (x4 + 1)) fun v1 => q53 (x1) (x2) (x3) (v1) S
set_option maxHeartbeats 4000000 in
set_option maxRecDepth 100000 in
theorem zw_M_plan_108 {p : Program} {l : Launch} {e : Env} {s : State} {m : MethodId} {args : Array Value} {below : List Frame} {meth : Method} {c : Code} {B : zB} (C : CallFix p m c zb_M_plan 7 s args zT "IslandOfficeModel") (hr : meth.sig.returnType = some .int) (hlk : meth.locks = false) (hK : zK B s) (hSt : zSt B s) (hap : zAp B) {res : Int} {S9 : Sg} (q44 : Int → Int → Int → Sg → Option (Int × Sg)) (hq44 : ∀ (x1 : Int) (x2 : Int) (x3 : Int) (S : Sg) (nx1 : zn x1) (nx2 : zn x2) (nx3 : zn x3), q44 x1 x2 x3 S = some (res, S9) → ∀ (H : Heap) (locs : List Loc) (ls : Array Slot), zW B S H → va_S B.2.2.2 s.heap H locs → lv_has ls 7 [(0, .ref (B.2.1 9 (0) (0))), (1, .int (zI (x1))), (2, .int (zI (x2))), (3, .int (zI (x3)))] → W p l e zm_M_plan s m args below meth c H locs 0 0 (MQ below (zQi B res S9) args s 0 0 B.2.2.2) (F0 m 44 ls [])) (q53 : Int → Int → Int → Int → Sg → Option (Int × Sg)) (hq53 : ∀ (x1 : Int) (x2 : Int) (x3 : Int) (x4 : Int) (S : Sg) (nx1 : zn x1) (nx2 : zn x2) (nx3 : zn x3) (nx4 : zn x4), q53 x1 x2 x3 x4 S = some (res, S9) → ∀ (H : Heap) (locs : List Loc) (ls : Array Slot), zW B S H → va_S B.2.2.2 s.heap H locs → lv_has ls 7 [(0, .ref (B.2.1 9 (0) (0))), (1, .int (zI (x1))), (2, .int (zI (x2))), (3, .int (zI (x3))), (4, .int (zI (x4)))] → W p l e zm_M_plan s m args below meth c H locs 0 0 (MQ below (zQi B res S9) args s 0 0 B.2.2.2) (F0 m 53 ls [])) : ∀ (x1 : Int) (x2 : Int) (x3 : Int) (x4 : Int) (S : Sg) (nx1 : zn x1) (nx2 : zn x2) (nx3 : zn x3) (nx4 : zn x4), zf_M_plan_108 q44 q53 x1 x2 x3 x4 S = some (res, S9) → ∀ (H : Heap) (locs : List Loc) (ls : Array Slot), zW B S H → va_S B.2.2.2 s.heap H locs → lv_has ls 7 [(0, .ref (B.2.1 9 (0) (0))), (1, .int (zI (x1))), (2, .int (zI (x2))), (3, .int (zI (x3))), (4, .int (zI (x4)))] → W p l e zm_M_plan s m args below meth c H locs 0 0 (MQ below (zQi B res S9) args s 0 0 B.2.2.2) (F0 m 108 ls []) := by
  intro x1 x2 x3 x4 S nx1 nx2 nx3 nx4 hf H locs ls hW hS hl
  unfold zf_M_plan_108 at hf
  obtain ⟨v1, ev1, hf⟩ := zlt_some hf
  have nv1 : zn v1 := by rw [← ev1]; exact zn_w _
  refine lv_iinc (v := zI v1) (lv' := [(4, .int (zI (v1))), (0, .ref (B.2.1 9 (0) (0))), (1, .int (zI (x1))), (2, .int (zI (x2))), (3, .int (zI (x3)))]) C.1 C.2.1 zd_M_plan_108 hl (k := 4) rfl (by rw [← ev1, ← zI_add]; rfl) (by decide) rfl (fun ls hl => ?_)
  refine lv_goto (tgt := 53) C.1 C.2.1 zd_M_plan_111 (by decide) ?_
  exact hq53 (x1) (x2) (x3) (v1) S nx1 nx2 nx3 nv1 hf _ _ _ hW hS (lv_sub hl [1, 2, 3, 4, 0] rfl)

def zf_M_plan_53 (q44 : Int → Int → Int → Sg → Option (Int × Sg)) : Nat → Int → Int → Int → Int → Sg → Option (Int × Sg)
  | 0, _, _, _, _, _ => none
  | n + 1, x1, x2, x3, x4, S =>
    if 10 < x4 then (zlt (zw (x3 + 1)) fun v2 => q44 (x1) (x2) (v2) S) else (zlt (zw (x3 - x4)) fun v3 => zbd (zf_M_in v3 0 10 S) fun a4 S5 => if a4 = 0 then (zf_M_plan_108 q44 (zf_M_plan_53 q44 n) (x1) (x2) (x3) (x4) S5) else (zbd (zf_M_lasts x4 v3 S5) fun a7 S8 => if a7 ≤ x2 then (zf_M_plan_108 q44 (zf_M_plan_53 q44 n) (x1) (x2) (x3) (x4) S8) else (zlt (zw ((zw (100 * x4)) + v3)) fun v10 => zf_M_plan_108 q44 (zf_M_plan_53 q44 n) (v10) (a7) (x3) (x4) S8)))
set_option maxHeartbeats 4000000 in
set_option maxRecDepth 100000 in
theorem zw_M_plan_53 {p : Program} {l : Launch} {e : Env} {s : State} {m : MethodId} {args : Array Value} {below : List Frame} {meth : Method} {c : Code} {B : zB} (C : CallFix p m c zb_M_plan 7 s args zT "IslandOfficeModel") (hr : meth.sig.returnType = some .int) (hlk : meth.locks = false) (hK : zK B s) (hSt : zSt B s) (hap : zAp B) {res : Int} {S9 : Sg} (q44 : Int → Int → Int → Sg → Option (Int × Sg)) (hq44 : ∀ (x1 : Int) (x2 : Int) (x3 : Int) (S : Sg) (nx1 : zn x1) (nx2 : zn x2) (nx3 : zn x3), q44 x1 x2 x3 S = some (res, S9) → ∀ (H : Heap) (locs : List Loc) (ls : Array Slot), zW B S H → va_S B.2.2.2 s.heap H locs → lv_has ls 7 [(0, .ref (B.2.1 9 (0) (0))), (1, .int (zI (x1))), (2, .int (zI (x2))), (3, .int (zI (x3)))] → W p l e zm_M_plan s m args below meth c H locs 0 0 (MQ below (zQi B res S9) args s 0 0 B.2.2.2) (F0 m 44 ls [])) : ∀ n : Nat, ∀ (x1 : Int) (x2 : Int) (x3 : Int) (x4 : Int) (S : Sg) (nx1 : zn x1) (nx2 : zn x2) (nx3 : zn x3) (nx4 : zn x4), zf_M_plan_53 q44 n x1 x2 x3 x4 S = some (res, S9) → ∀ (H : Heap) (locs : List Loc) (ls : Array Slot), zW B S H → va_S B.2.2.2 s.heap H locs → lv_has ls 7 [(0, .ref (B.2.1 9 (0) (0))), (1, .int (zI (x1))), (2, .int (zI (x2))), (3, .int (zI (x3))), (4, .int (zI (x4)))] → W p l e zm_M_plan s m args below meth c H locs 0 0 (MQ below (zQi B res S9) args s 0 0 B.2.2.2) (F0 m 53 ls []) := by
  intro n
  induction n with
  | zero =>
    intro x1 x2 x3 x4 S nx1 nx2 nx3 nx4 hf H locs ls hW hS hl
    cases hf
  | succ n ih =>
    intro x1 x2 x3 x4 S nx1 nx2 nx3 nx4 hf H locs ls hW hS hl
    rw [zf_M_plan_53] at hf
    refine lv_iload C.1 C.2.1 zd_M_plan_53 (lv_at hl 4 rfl) ?_
    refine zr_bipush C zd_M_plan_55 (by decide) ?_
    refine zr_icmp_gt (tgt := 114) C nx4 (znb rfl) zd_M_plan_57 (by decide) (fun c1 => ?_) (fun c1 => ?_)
    · rw [if_pos c1] at hf
      obtain ⟨v2, ev2, hf⟩ := zlt_some hf
      have nv2 : zn v2 := by rw [← ev2]; exact zn_w _
      refine lv_iinc (v := zI v2) (lv' := [(3, .int (zI (v2))), (0, .ref (B.2.1 9 (0) (0))), (1, .int (zI (x1))), (2, .int (zI (x2))), (4, .int (zI (x4)))]) C.1 C.2.1 zd_M_plan_114 hl (k := 3) rfl (by rw [← ev2, ← zI_add]; rfl) (by decide) rfl (fun ls hl => ?_)
      refine lv_goto (tgt := 44) C.1 C.2.1 zd_M_plan_117 (by decide) ?_
      exact hq44 (x1) (x2) (v2) S nx1 nx2 nv2 hf _ _ _ hW hS (lv_sub hl [1, 2, 3, 0] rfl)
    · rw [if_neg c1] at hf
      refine lv_iload_n C.1 C.2.1 zd_M_plan_60 rfl (lv_at hl 3 rfl) ?_
      refine lv_iload C.1 C.2.1 zd_M_plan_61 (lv_at hl 4 rfl) ?_
      refine zr_isub C zd_M_plan_63 ?_
      obtain ⟨v3, ev3, hf⟩ := zlt_some hf
      have nv3 : zn v3 := by rw [← ev3]; exact (zn_w _)
      rw [ev3]
      refine lv_istore (lv' := [(5, .int (zI (v3))), (0, .ref (B.2.1 9 (0) (0))), (1, .int (zI (x1))), (2, .int (zI (x2))), (3, .int (zI (x3))), (4, .int (zI (x4)))]) C.1 C.2.1 zd_M_plan_64 hl (by decide) rfl (fun ls hl => ?_)
      refine lv_iload C.1 C.2.1 zd_M_plan_66 (lv_at hl 0 rfl) ?_
      refine zr_iconst C zd_M_plan_68 ?_
      refine zr_bipush C zd_M_plan_69 (by decide) ?_
      obtain ⟨a4, S5, ea4, hf⟩ := zbd_some hf
      refine zcSi (As := [.int (zI (v3)), .int (zI (0)), .int (zI (10))]) (rest := []) C hK hSt hW hS (zc_M_in hap v3 0 10 S nv3 (znb rfl) (znb rfl) ea4) zq_M_in zk_1558 ⟨rfl, rfl, by decide, by decide⟩ ⟨Nat.zero_le _, Nat.zero_le _⟩ rfl hl.1 rfl (lv_room (Nat.le_of_ble_eq_true rfl)) zd_M_plan_71 (fun na4 H locs hW hS => ?_)
      refine zr_if_ne (tgt := 80) C na4 zd_M_plan_74 (by decide) (fun c6 => ?_) (fun c6 => ?_)
      · rw [if_neg c6] at hf
        refine lv_aload_n C.1 C.2.1 zd_M_plan_80 rfl (lv_at hl 1 rfl) ?_
        refine lv_iload C.1 C.2.1 zd_M_plan_81 (lv_at hl 5 rfl) ?_
        refine lv_iload C.1 C.2.1 zd_M_plan_83 (lv_at hl 0 rfl) ?_
        obtain ⟨a7, S8, ea7, hf⟩ := zbd_some hf
        refine zcVi (As := [.int (zI (x4)), .int (zI (v3))]) (rest := []) C hK hSt hW hS (zc_M_lasts hap x4 v3 S5 nx4 nv3 ea7) zq_M_lasts zk_2008 (zrecv hK hW (zvd_9 (by decide) (by decide)) (ze_9_0 B _ (0)) rfl) ⟨rfl, rfl, by decide, by decide⟩ ⟨Nat.zero_le _, Nat.zero_le _⟩ rfl hl.1 rfl (lv_room (Nat.le_of_ble_eq_true rfl)) zd_M_plan_85 (fun na7 H locs hW hS => ?_)
        refine lv_istore (lv' := [(6, .int (zI (a7))), (5, .int (zI (v3))), (0, .ref (B.2.1 9 (0) (0))), (1, .int (zI (x1))), (2, .int (zI (x2))), (3, .int (zI (x3))), (4, .int (zI (x4)))]) C.1 C.2.1 zd_M_plan_88 hl (by decide) rfl (fun ls hl => ?_)
        refine lv_iload C.1 C.2.1 zd_M_plan_90 (lv_at hl 0 rfl) ?_
        refine lv_iload_n C.1 C.2.1 zd_M_plan_92 rfl (lv_at hl 4 rfl) ?_
        refine zr_icmp_le (tgt := 108) C na7 nx2 zd_M_plan_93 (by decide) (fun c9 => ?_) (fun c9 => ?_)
        · rw [if_pos c9] at hf
          exact zw_M_plan_108 C hr hlk hK hSt hap   q44 hq44 (zf_M_plan_53 q44 n) (ih) (x1) (x2) (x3) (x4) S8 nx1 nx2 nx3 nx4 hf _ _ _ hW hS (lv_sub hl [2, 3, 4, 5, 6] rfl)
        · rw [if_neg c9] at hf
          refine lv_iload C.1 C.2.1 zd_M_plan_96 (lv_at hl 0 rfl) ?_
          refine lv_istore_n (lv' := [(2, .int (zI (a7))), (6, .int (zI (a7))), (5, .int (zI (v3))), (0, .ref (B.2.1 9 (0) (0))), (1, .int (zI (x1))), (3, .int (zI (x3))), (4, .int (zI (x4)))]) C.1 C.2.1 zd_M_plan_98 rfl hl (by decide) rfl (fun ls hl => ?_)
          refine zr_bipush C zd_M_plan_99 (by decide) ?_
          refine lv_iload C.1 C.2.1 zd_M_plan_101 (lv_at hl 6 rfl) ?_
          refine zr_imul C zd_M_plan_103 ?_
          refine lv_iload C.1 C.2.1 zd_M_plan_104 (lv_at hl 2 rfl) ?_
          refine zr_iadd C zd_M_plan_106 ?_
          obtain ⟨v10, ev10, hf⟩ := zlt_some hf
          have nv10 : zn v10 := by rw [← ev10]; exact (zn_w _)
          rw [ev10]
          refine lv_istore_n (lv' := [(1, .int (zI (v10))), (2, .int (zI (a7))), (6, .int (zI (a7))), (5, .int (zI (v3))), (0, .ref (B.2.1 9 (0) (0))), (3, .int (zI (x3))), (4, .int (zI (x4)))]) C.1 C.2.1 zd_M_plan_107 rfl hl (by decide) rfl (fun ls hl => ?_)
          exact zw_M_plan_108 C hr hlk hK hSt hap   q44 hq44 (zf_M_plan_53 q44 n) (ih) (v10) (a7) (x3) (x4) S8 nv10 na7 nx3 nx4 hf _ _ _ hW hS (lv_sub hl [4, 0, 1, 5, 6] rfl)
      · rw [if_pos c6] at hf
        refine lv_goto (tgt := 108) C.1 C.2.1 zd_M_plan_77 (by decide) ?_
        exact zw_M_plan_108 C hr hlk hK hSt hap   q44 hq44 (zf_M_plan_53 q44 n) (ih) (x1) (x2) (x3) (x4) S5 nx1 nx2 nx3 nx4 hf _ _ _ hW hS (lv_sub hl [1, 2, 3, 4, 5] rfl)

def zf_M_plan_44 : Nat → Int → Int → Int → Sg → Option (Int × Sg)
  | 0, _, _, _, _ => none
  | n + 1, x1, x2, x3, S =>
    if 20 < x3 then (some (x1, S)) else (zf_M_plan_53 (zf_M_plan_44 n) 4096 (x1) (x2) (x3) (0) S)
set_option maxHeartbeats 4000000 in
set_option maxRecDepth 100000 in
theorem zw_M_plan_44 {p : Program} {l : Launch} {e : Env} {s : State} {m : MethodId} {args : Array Value} {below : List Frame} {meth : Method} {c : Code} {B : zB} (C : CallFix p m c zb_M_plan 7 s args zT "IslandOfficeModel") (hr : meth.sig.returnType = some .int) (hlk : meth.locks = false) (hK : zK B s) (hSt : zSt B s) (hap : zAp B) {res : Int} {S9 : Sg} : ∀ n : Nat, ∀ (x1 : Int) (x2 : Int) (x3 : Int) (S : Sg) (nx1 : zn x1) (nx2 : zn x2) (nx3 : zn x3), zf_M_plan_44 n x1 x2 x3 S = some (res, S9) → ∀ (H : Heap) (locs : List Loc) (ls : Array Slot), zW B S H → va_S B.2.2.2 s.heap H locs → lv_has ls 7 [(0, .ref (B.2.1 9 (0) (0))), (1, .int (zI (x1))), (2, .int (zI (x2))), (3, .int (zI (x3)))] → W p l e zm_M_plan s m args below meth c H locs 0 0 (MQ below (zQi B res S9) args s 0 0 B.2.2.2) (F0 m 44 ls []) := by
  intro n
  induction n with
  | zero =>
    intro x1 x2 x3 S nx1 nx2 nx3 hf H locs ls hW hS hl
    cases hf
  | succ n ih =>
    intro x1 x2 x3 S nx1 nx2 nx3 hf H locs ls hW hS hl
    rw [zf_M_plan_44] at hf
    refine lv_iload_n C.1 C.2.1 zd_M_plan_44 rfl (lv_at hl 3 rfl) ?_
    refine zr_bipush C zd_M_plan_45 (by decide) ?_
    refine zr_icmp_gt (tgt := 120) C nx3 (znb rfl) zd_M_plan_47 (by decide) (fun c1 => ?_) (fun c1 => ?_)
    · rw [if_pos c1] at hf
      refine lv_iload_n C.1 C.2.1 zd_M_plan_120 rfl (lv_at hl 1 rfl) ?_
      cases hf
      exact zre_i C hr hlk hK hW hS nx1 zd_M_plan_121
    · rw [if_neg c1] at hf
      refine zr_iconst C zd_M_plan_50 ?_
      refine lv_istore (lv' := [(4, .int (zI (0))), (0, .ref (B.2.1 9 (0) (0))), (1, .int (zI (x1))), (2, .int (zI (x2))), (3, .int (zI (x3)))]) C.1 C.2.1 zd_M_plan_51 hl (by decide) rfl (fun ls hl => ?_)
      exact zw_M_plan_53 C hr hlk hK hSt hap   (zf_M_plan_44 n) (ih) 4096 (x1) (x2) (x3) (0) S nx1 nx2 nx3 (znb rfl) hf _ _ _ hW hS (lv_sub hl [1, 2, 3, 4, 0] rfl)

def zf_M_plan (S : Sg) : Option (Int × Sg) :=
    zlt (zu S 9 0 0 4 0) fun S1 => if (zw ((S1 5 0 0 33) + 2)) ≤ 30 then (if (S1 5 0 0 0) ≤ 384 then (zf_M_plan_44 4096 (-1) (-1) (0) S1) else (some (-3, S1))) else (some (-2, S1))
set_option maxHeartbeats 4000000 in
set_option maxRecDepth 100000 in
theorem zw_M_plan {p : Program} {l : Launch} {e : Env} {s : State} {m : MethodId} {args : Array Value} {below : List Frame} {meth : Method} {c : Code} {B : zB} (C : CallFix p m c zb_M_plan 7 s args zT "IslandOfficeModel") (hr : meth.sig.returnType = some .int) (hlk : meth.locks = false) (hK : zK B s) (hSt : zSt B s) (hap : zAp B) {res : Int} {S9 : Sg} : ∀  (S : Sg) , zf_M_plan  S = some (res, S9) → ∀ (H : Heap) (locs : List Loc) (ls : Array Slot), zW B S H → va_S B.2.2.2 s.heap H locs → lv_has ls 7 [(0, .ref (B.2.1 9 (0) (0)))] → W p l e zm_M_plan s m args below meth c H locs 0 0 (MQ below (zQi B res S9) args s 0 0 B.2.2.2) (F0 m 0 ls []) := by
  intro S hf H locs ls hW hS hl
  unfold zf_M_plan at hf
  refine lv_aload_n C.1 C.2.1 zd_M_plan_0 rfl (lv_at hl 0 rfl) ?_
  refine zr_iconst C zd_M_plan_1 ?_
  obtain ⟨S1, eS1, hf⟩ := zlt_some hf
  refine zp_M_thrown (r := 0) C hK hap hW hS (zvd_9 (by decide) (by decide)) zk_1504 (znb rfl) zd_M_plan_2 (fun H locs hW hS => ?_)
  rw [eS1] at hW
  refine lv_aload_n C.1 C.2.1 zd_M_plan_5 rfl (lv_at hl 0 rfl) ?_
  refine zg_M_world (r := 0) C hK hW (zvd_9 (by decide) (by decide)) zk_1500 zd_M_plan_6 ?_
  refine zg_W_orders (r := 0) C hK hW (zvd_5 (by decide) (by decide)) zk_1342 zd_M_plan_9 ?_
  refine zr_iconst C zd_M_plan_12 ?_
  refine zr_iadd C zd_M_plan_13 ?_
  refine zr_bipush C zd_M_plan_14 (by decide) ?_
  refine zr_icmp_le (tgt := 22) C (zn_w _) (znb rfl) zd_M_plan_16 (by decide) (fun c2 => ?_) (fun c2 => ?_)
  · rw [if_pos c2] at hf
    refine lv_aload_n C.1 C.2.1 zd_M_plan_22 rfl (lv_at hl 0 rfl) ?_
    refine zg_M_world (r := 0) C hK hW (zvd_9 (by decide) (by decide)) zk_1500 zd_M_plan_23 ?_
    refine zg_W_week (r := 0) C hK hW (zvd_5 (by decide) (by decide)) zk_1276 zd_M_plan_26 ?_
    refine zr_sipush C zd_M_plan_29 (by decide) ?_
    refine zr_icmp_le (tgt := 38) C (zWn hW _ _ _ _ rfl) (znb rfl) zd_M_plan_32 (by decide) (fun c3 => ?_) (fun c3 => ?_)
    · rw [if_pos c3] at hf
      refine zr_iconst C zd_M_plan_38 ?_
      refine lv_istore_n (lv' := [(1, .int (zI (-1))), (0, .ref (B.2.1 9 (0) (0)))]) C.1 C.2.1 zd_M_plan_39 rfl hl (by decide) rfl (fun ls hl => ?_)
      refine zr_iconst C zd_M_plan_40 ?_
      refine lv_istore_n (lv' := [(2, .int (zI (-1))), (1, .int (zI (-1))), (0, .ref (B.2.1 9 (0) (0)))]) C.1 C.2.1 zd_M_plan_41 rfl hl (by decide) rfl (fun ls hl => ?_)
      refine zr_iconst C zd_M_plan_42 ?_
      refine lv_istore_n (lv' := [(3, .int (zI (0))), (2, .int (zI (-1))), (1, .int (zI (-1))), (0, .ref (B.2.1 9 (0) (0)))]) C.1 C.2.1 zd_M_plan_43 rfl hl (by decide) rfl (fun ls hl => ?_)
      exact zw_M_plan_44 C hr hlk hK hSt hap   4096 (-1) (-1) (0) S1 (znb rfl) (znb rfl) (znb rfl) hf _ _ _ hW hS (lv_sub hl [3, 2, 1, 0] rfl)
    · rw [if_neg c3] at hf
      refine zr_bipush C zd_M_plan_35 (by decide) ?_
      cases hf
      exact zre_i C hr hlk hK hW hS (znb rfl) zd_M_plan_37
  · rw [if_neg c2] at hf
    refine zr_bipush C zd_M_plan_19 (by decide) ?_
    cases hf
    exact zre_i C hr hlk hK hW hS (znb rfl) zd_M_plan_21

theorem zc_M_plan {l : Launch} {B : zB} (hap : zAp B) (S : Sg) {res : Int} {S9 : Sg} (hf : zf_M_plan  S = some (res, S9)) : Met l zy_M_plan (Cond.code zy_M_plan zb_M_plan 7 (some .int) :: zT) zm_M_plan (zP B S [.ref (B.2.1 9 (0) (0))]) (zQi B res S9) 0 0 B.2.2.2 :=
  zmet (by decide) (Nat.le_of_ble_eq_true rfl) (fun p e s m args below meth c C hr hlk hK hSt hW ls hl => zw_M_plan C hr hlk hK hSt hap    S  hf _ _ _ hW va_S.rf hl)
/-! IslandOfficeModel.image()I -/
abbrev zy_M_image : MethodName := ⟨"IslandOfficeModel", "image", "()I"⟩
abbrev zb_M_image : ByteArray := prog_14_method_63_code
abbrev zm_M_image : Room := { frames := 3, cells := 0, slots := 0, locals := 107 }
theorem zq_M_image : zMy zy_M_image zb_M_image 1 (some .int) 0 := ⟨zk_2019, zk_2017, zk_2018, zk_14, by decide, by decide, by decide +kernel⟩
theorem zd_M_image_0 : decode zb_M_image 0 = .ok (.aload_n 0, 1) := by decide +kernel
theorem zd_M_image_1 : decode zb_M_image 1 = .ok (.iconst 0, 1) := by decide +kernel
theorem zd_M_image_2 : decode zb_M_image 2 = .ok (.putfield 46, 3) := by decide +kernel
theorem zd_M_image_5 : decode zb_M_image 5 = .ok (.aload_n 0, 1) := by decide +kernel
theorem zd_M_image_6 : decode zb_M_image 6 = .ok (.getfield 19, 3) := by decide +kernel
theorem zd_M_image_9 : decode zb_M_image 9 = .ok (.aload_n 0, 1) := by decide +kernel
theorem zd_M_image_10 : decode zb_M_image 10 = .ok (.getfield 10, 3) := by decide +kernel
theorem zd_M_image_13 : decode zb_M_image 13 = .ok (.invokevirtual 309, 3) := by decide +kernel
theorem zd_M_image_16 : decode zb_M_image 16 = .ok (.aload_n 0, 1) := by decide +kernel
theorem zd_M_image_17 : decode zb_M_image 17 = .ok (.iconst 1, 1) := by decide +kernel
theorem zd_M_image_18 : decode zb_M_image 18 = .ok (.putfield 326, 3) := by decide +kernel
theorem zd_M_image_21 : decode zb_M_image 21 = .ok (.aload_n 0, 1) := by decide +kernel
theorem zd_M_image_22 : decode zb_M_image 22 = .ok (.getfield 10, 3) := by decide +kernel
theorem zd_M_image_25 : decode zb_M_image 25 = .ok (.getfield 87, 3) := by decide +kernel
theorem zd_M_image_28 : decode zb_M_image 28 = .ok (.ireturn, 1) := by decide +kernel

def zf_M_image (S : Sg) : Option (Int × Sg) :=
    zlt (zu S 9 0 0 4 0) fun S1 => zbd (zf_W_like (2) (0) S1) fun a2 S3 => zlt (zu S3 9 0 0 3 1) fun S4 => some (S4 5 0 0 0, S4)
set_option maxHeartbeats 4000000 in
set_option maxRecDepth 100000 in
theorem zw_M_image {p : Program} {l : Launch} {e : Env} {s : State} {m : MethodId} {args : Array Value} {below : List Frame} {meth : Method} {c : Code} {B : zB} (C : CallFix p m c zb_M_image 1 s args zT "IslandOfficeModel") (hr : meth.sig.returnType = some .int) (hlk : meth.locks = false) (hK : zK B s) (hSt : zSt B s) (hap : zAp B) {res : Int} {S9 : Sg} : ∀  (S : Sg) , zf_M_image  S = some (res, S9) → ∀ (H : Heap) (locs : List Loc) (ls : Array Slot), zW B S H → va_S B.2.2.2 s.heap H locs → lv_has ls 1 [(0, .ref (B.2.1 9 (0) (0)))] → W p l e zm_M_image s m args below meth c H locs 0 0 (MQ below (zQi B res S9) args s 0 0 B.2.2.2) (F0 m 0 ls []) := by
  intro S hf H locs ls hW hS hl
  unfold zf_M_image at hf
  refine lv_aload_n C.1 C.2.1 zd_M_image_0 rfl (lv_at hl 0 rfl) ?_
  refine zr_iconst C zd_M_image_1 ?_
  obtain ⟨S1, eS1, hf⟩ := zlt_some hf
  refine zp_M_thrown (r := 0) C hK hap hW hS (zvd_9 (by decide) (by decide)) zk_1504 (znb rfl) zd_M_image_2 (fun H locs hW hS => ?_)
  rw [eS1] at hW
  refine lv_aload_n C.1 C.2.1 zd_M_image_5 rfl (lv_at hl 0 rfl) ?_
  refine zg_M_image (r := 0) C hK hW (zvd_9 (by decide) (by decide)) zk_1502 zd_M_image_6 ?_
  refine lv_aload_n C.1 C.2.1 zd_M_image_9 rfl (lv_at hl 0 rfl) ?_
  refine zg_M_world (r := 0) C hK hW (zvd_9 (by decide) (by decide)) zk_1500 zd_M_image_10 ?_
  obtain ⟨a2, S3, ea2, hf⟩ := zbd_some hf
  refine zcVv (As := [.ref (B.2.1 5 (0) (0))]) (rest := []) C hK hSt hW hS (zc_W_like hap (2) (0) (by decide) (by decide) S1 ea2) zq_W_like zk_1989 (zrecv hK hW (zvd_5 (by decide) (by decide)) (ze_5_0 B _ (2)) rfl) ⟨rfl, rfl, by decide, by decide⟩ ⟨Nat.zero_le _, Nat.zero_le _⟩ rfl hl.1 rfl (lv_room (Nat.le_of_ble_eq_true rfl)) zd_M_image_13 (fun H locs hW hS => ?_)
  refine lv_aload_n C.1 C.2.1 zd_M_image_16 rfl (lv_at hl 0 rfl) ?_
  refine zr_iconst C zd_M_image_17 ?_
  obtain ⟨S4, eS4, hf⟩ := zlt_some hf
  refine zp_M_imaged (r := 0) C hK hap hW hS (zvd_9 (by decide) (by decide)) zk_1503 (znb rfl) rfl rfl zd_M_image_18 (fun H locs hW hS => ?_)
  rw [eS4] at hW
  refine lv_aload_n C.1 C.2.1 zd_M_image_21 rfl (lv_at hl 0 rfl) ?_
  refine zg_M_world (r := 0) C hK hW (zvd_9 (by decide) (by decide)) zk_1500 zd_M_image_22 ?_
  refine zg_W_week (r := 0) C hK hW (zvd_5 (by decide) (by decide)) zk_1276 zd_M_image_25 ?_
  cases hf
  exact zre_i C hr hlk hK hW hS (zWn hW _ _ _ _ rfl) zd_M_image_28

theorem zc_M_image {l : Launch} {B : zB} (hap : zAp B) (S : Sg) {res : Int} {S9 : Sg} (hf : zf_M_image  S = some (res, S9)) : Met l zy_M_image (Cond.code zy_M_image zb_M_image 1 (some .int) :: zT) zm_M_image (zP B S [.ref (B.2.1 9 (0) (0))]) (zQi B res S9) 0 0 B.2.2.2 :=
  zmet (by decide) (Nat.le_of_ble_eq_true rfl) (fun p e s m args below meth c C hr hlk hK hSt hW ls hl => zw_M_image C hr hlk hK hSt hap    S  hf _ _ _ hW va_S.rf hl)
/-! IslandOfficeModel.restore()I -/
abbrev zy_M_restore : MethodName := ⟨"IslandOfficeModel", "restore", "()I"⟩
abbrev zb_M_restore : ByteArray := prog_14_method_64_code
abbrev zm_M_restore : Room := { frames := 3, cells := 0, slots := 0, locals := 107 }
theorem zq_M_restore : zMy zy_M_restore zb_M_restore 1 (some .int) 0 := ⟨zk_2023, zk_2021, zk_2022, zk_14, by decide, by decide, by decide +kernel⟩
theorem zd_M_restore_0 : decode zb_M_restore 0 = .ok (.aload_n 0, 1) := by decide +kernel
theorem zd_M_restore_1 : decode zb_M_restore 1 = .ok (.iconst 0, 1) := by decide +kernel
theorem zd_M_restore_2 : decode zb_M_restore 2 = .ok (.putfield 46, 3) := by decide +kernel
theorem zd_M_restore_5 : decode zb_M_restore 5 = .ok (.aload_n 0, 1) := by decide +kernel
theorem zd_M_restore_6 : decode zb_M_restore 6 = .ok (.getfield 326, 3) := by decide +kernel
theorem zd_M_restore_9 : decode zb_M_restore 9 = .ok (.ifCond .ne 6, 3) := by decide +kernel
theorem zd_M_restore_12 : decode zb_M_restore 12 = .ok (.bipush (-3), 2) := by decide +kernel
theorem zd_M_restore_14 : decode zb_M_restore 14 = .ok (.ireturn, 1) := by decide +kernel
theorem zd_M_restore_15 : decode zb_M_restore 15 = .ok (.aload_n 0, 1) := by decide +kernel
theorem zd_M_restore_16 : decode zb_M_restore 16 = .ok (.getfield 10, 3) := by decide +kernel
theorem zd_M_restore_19 : decode zb_M_restore 19 = .ok (.aload_n 0, 1) := by decide +kernel
theorem zd_M_restore_20 : decode zb_M_restore 20 = .ok (.getfield 19, 3) := by decide +kernel
theorem zd_M_restore_23 : decode zb_M_restore 23 = .ok (.invokevirtual 309, 3) := by decide +kernel
theorem zd_M_restore_26 : decode zb_M_restore 26 = .ok (.aload_n 0, 1) := by decide +kernel
theorem zd_M_restore_27 : decode zb_M_restore 27 = .ok (.getfield 10, 3) := by decide +kernel
theorem zd_M_restore_30 : decode zb_M_restore 30 = .ok (.getfield 87, 3) := by decide +kernel
theorem zd_M_restore_33 : decode zb_M_restore 33 = .ok (.ireturn, 1) := by decide +kernel

def zf_M_restore (S : Sg) : Option (Int × Sg) :=
    zlt (zu S 9 0 0 4 0) fun S1 => if (S1 9 0 0 3) = 0 then (some (-3, S1)) else (zbd (zf_W_like (0) (2) S1) fun a3 S4 => some (S4 5 0 0 0, S4))
set_option maxHeartbeats 4000000 in
set_option maxRecDepth 100000 in
theorem zw_M_restore {p : Program} {l : Launch} {e : Env} {s : State} {m : MethodId} {args : Array Value} {below : List Frame} {meth : Method} {c : Code} {B : zB} (C : CallFix p m c zb_M_restore 1 s args zT "IslandOfficeModel") (hr : meth.sig.returnType = some .int) (hlk : meth.locks = false) (hK : zK B s) (hSt : zSt B s) (hap : zAp B) {res : Int} {S9 : Sg} : ∀  (S : Sg) , zf_M_restore  S = some (res, S9) → ∀ (H : Heap) (locs : List Loc) (ls : Array Slot), zW B S H → va_S B.2.2.2 s.heap H locs → lv_has ls 1 [(0, .ref (B.2.1 9 (0) (0)))] → W p l e zm_M_restore s m args below meth c H locs 0 0 (MQ below (zQi B res S9) args s 0 0 B.2.2.2) (F0 m 0 ls []) := by
  intro S hf H locs ls hW hS hl
  unfold zf_M_restore at hf
  refine lv_aload_n C.1 C.2.1 zd_M_restore_0 rfl (lv_at hl 0 rfl) ?_
  refine zr_iconst C zd_M_restore_1 ?_
  obtain ⟨S1, eS1, hf⟩ := zlt_some hf
  refine zp_M_thrown (r := 0) C hK hap hW hS (zvd_9 (by decide) (by decide)) zk_1504 (znb rfl) zd_M_restore_2 (fun H locs hW hS => ?_)
  rw [eS1] at hW
  refine lv_aload_n C.1 C.2.1 zd_M_restore_5 rfl (lv_at hl 0 rfl) ?_
  refine zg_M_imaged (r := 0) C hK hW (zvd_9 (by decide) (by decide)) zk_1503 zd_M_restore_6 ?_
  refine zr_if_ne (tgt := 15) C (zWn hW _ _ _ _ rfl) zd_M_restore_9 (by decide) (fun c2 => ?_) (fun c2 => ?_)
  · rw [if_neg c2] at hf
    refine lv_aload_n C.1 C.2.1 zd_M_restore_15 rfl (lv_at hl 0 rfl) ?_
    refine zg_M_world (r := 0) C hK hW (zvd_9 (by decide) (by decide)) zk_1500 zd_M_restore_16 ?_
    refine lv_aload_n C.1 C.2.1 zd_M_restore_19 rfl (lv_at hl 0 rfl) ?_
    refine zg_M_image (r := 0) C hK hW (zvd_9 (by decide) (by decide)) zk_1502 zd_M_restore_20 ?_
    obtain ⟨a3, S4, ea3, hf⟩ := zbd_some hf
    refine zcVv (As := [.ref (B.2.1 5 (2) (0))]) (rest := []) C hK hSt hW hS (zc_W_like hap (0) (2) (by decide) (by decide) S1 ea3) zq_W_like zk_1989 (zrecv hK hW (zvd_5 (by decide) (by decide)) (ze_5_0 B _ (0)) rfl) ⟨rfl, rfl, by decide, by decide⟩ ⟨Nat.zero_le _, Nat.zero_le _⟩ rfl hl.1 rfl (lv_room (Nat.le_of_ble_eq_true rfl)) zd_M_restore_23 (fun H locs hW hS => ?_)
    refine lv_aload_n C.1 C.2.1 zd_M_restore_26 rfl (lv_at hl 0 rfl) ?_
    refine zg_M_world (r := 0) C hK hW (zvd_9 (by decide) (by decide)) zk_1500 zd_M_restore_27 ?_
    refine zg_W_week (r := 0) C hK hW (zvd_5 (by decide) (by decide)) zk_1276 zd_M_restore_30 ?_
    cases hf
    exact zre_i C hr hlk hK hW hS (zWn hW _ _ _ _ rfl) zd_M_restore_33
  · rw [if_pos c2] at hf
    refine zr_bipush C zd_M_restore_12 (by decide) ?_
    cases hf
    exact zre_i C hr hlk hK hW hS (znb rfl) zd_M_restore_14

theorem zc_M_restore {l : Launch} {B : zB} (hap : zAp B) (S : Sg) {res : Int} {S9 : Sg} (hf : zf_M_restore  S = some (res, S9)) : Met l zy_M_restore (Cond.code zy_M_restore zb_M_restore 1 (some .int) :: zT) zm_M_restore (zP B S [.ref (B.2.1 9 (0) (0))]) (zQi B res S9) 0 0 B.2.2.2 :=
  zmet (by decide) (Nat.le_of_ble_eq_true rfl) (fun p e s m args below meth c C hr hlk hK hSt hW ls hl => zw_M_restore C hr hlk hK hSt hap    S  hf _ _ _ hW va_S.rf hl)
/-! IslandOfficeModel.count(I)I -/
abbrev zy_M_count : MethodName := ⟨"IslandOfficeModel", "count", "(I)I"⟩
abbrev zb_M_count : ByteArray := prog_14_method_65_code
abbrev zm_M_count : Room := { frames := 395, cells := 0, slots := 0, locals := 8561 }
theorem zq_M_count : zMy zy_M_count zb_M_count 4 (some .int) 1 := ⟨zk_2027, zk_2025, zk_2026, zk_14, by decide, by decide, by decide +kernel⟩
theorem zd_M_count_0 : decode zb_M_count 0 = .ok (.aload_n 0, 1) := by decide +kernel
theorem zd_M_count_1 : decode zb_M_count 1 = .ok (.iconst 0, 1) := by decide +kernel
theorem zd_M_count_2 : decode zb_M_count 2 = .ok (.putfield 46, 3) := by decide +kernel
theorem zd_M_count_5 : decode zb_M_count 5 = .ok (.iload_n 1, 1) := by decide +kernel
theorem zd_M_count_6 : decode zb_M_count 6 = .ok (.tableswitch 223 0 14 #[74, 82, 91, 100, 109, 117, 125, 133, 141, 149, 157, 165, 173, 181, 215], 74) := by decide +kernel
theorem zd_M_count_80 : decode zb_M_count 80 = .ok (.aload_n 0, 1) := by decide +kernel
theorem zd_M_count_81 : decode zb_M_count 81 = .ok (.getfield 10, 3) := by decide +kernel
theorem zd_M_count_84 : decode zb_M_count 84 = .ok (.getfield 50, 3) := by decide +kernel
theorem zd_M_count_87 : decode zb_M_count 87 = .ok (.ireturn, 1) := by decide +kernel
theorem zd_M_count_88 : decode zb_M_count 88 = .ok (.aload_n 0, 1) := by decide +kernel
theorem zd_M_count_89 : decode zb_M_count 89 = .ok (.getfield 10, 3) := by decide +kernel
theorem zd_M_count_92 : decode zb_M_count 92 = .ok (.iconst 0, 1) := by decide +kernel
theorem zd_M_count_93 : decode zb_M_count 93 = .ok (.invokevirtual 303, 3) := by decide +kernel
theorem zd_M_count_96 : decode zb_M_count 96 = .ok (.ireturn, 1) := by decide +kernel
theorem zd_M_count_97 : decode zb_M_count 97 = .ok (.aload_n 0, 1) := by decide +kernel
theorem zd_M_count_98 : decode zb_M_count 98 = .ok (.getfield 10, 3) := by decide +kernel
theorem zd_M_count_101 : decode zb_M_count 101 = .ok (.iconst 1, 1) := by decide +kernel
theorem zd_M_count_102 : decode zb_M_count 102 = .ok (.invokevirtual 303, 3) := by decide +kernel
theorem zd_M_count_105 : decode zb_M_count 105 = .ok (.ireturn, 1) := by decide +kernel
theorem zd_M_count_106 : decode zb_M_count 106 = .ok (.aload_n 0, 1) := by decide +kernel
theorem zd_M_count_107 : decode zb_M_count 107 = .ok (.getfield 10, 3) := by decide +kernel
theorem zd_M_count_110 : decode zb_M_count 110 = .ok (.iconst 2, 1) := by decide +kernel
theorem zd_M_count_111 : decode zb_M_count 111 = .ok (.invokevirtual 303, 3) := by decide +kernel
theorem zd_M_count_114 : decode zb_M_count 114 = .ok (.ireturn, 1) := by decide +kernel
theorem zd_M_count_115 : decode zb_M_count 115 = .ok (.aload_n 0, 1) := by decide +kernel
theorem zd_M_count_116 : decode zb_M_count 116 = .ok (.getfield 10, 3) := by decide +kernel
theorem zd_M_count_119 : decode zb_M_count 119 = .ok (.getfield 57, 3) := by decide +kernel
theorem zd_M_count_122 : decode zb_M_count 122 = .ok (.ireturn, 1) := by decide +kernel
theorem zd_M_count_123 : decode zb_M_count 123 = .ok (.aload_n 0, 1) := by decide +kernel
theorem zd_M_count_124 : decode zb_M_count 124 = .ok (.getfield 10, 3) := by decide +kernel
theorem zd_M_count_127 : decode zb_M_count 127 = .ok (.getfield 229, 3) := by decide +kernel
theorem zd_M_count_130 : decode zb_M_count 130 = .ok (.ireturn, 1) := by decide +kernel
theorem zd_M_count_131 : decode zb_M_count 131 = .ok (.aload_n 0, 1) := by decide +kernel
theorem zd_M_count_132 : decode zb_M_count 132 = .ok (.getfield 10, 3) := by decide +kernel
theorem zd_M_count_135 : decode zb_M_count 135 = .ok (.getfield 266, 3) := by decide +kernel
theorem zd_M_count_138 : decode zb_M_count 138 = .ok (.ireturn, 1) := by decide +kernel
theorem zd_M_count_139 : decode zb_M_count 139 = .ok (.aload_n 0, 1) := by decide +kernel
theorem zd_M_count_140 : decode zb_M_count 140 = .ok (.getfield 10, 3) := by decide +kernel
theorem zd_M_count_143 : decode zb_M_count 143 = .ok (.getfield 87, 3) := by decide +kernel
theorem zd_M_count_146 : decode zb_M_count 146 = .ok (.ireturn, 1) := by decide +kernel
theorem zd_M_count_147 : decode zb_M_count 147 = .ok (.aload_n 0, 1) := by decide +kernel
theorem zd_M_count_148 : decode zb_M_count 148 = .ok (.getfield 10, 3) := by decide +kernel
theorem zd_M_count_151 : decode zb_M_count 151 = .ok (.getfield 281, 3) := by decide +kernel
theorem zd_M_count_154 : decode zb_M_count 154 = .ok (.ireturn, 1) := by decide +kernel
theorem zd_M_count_155 : decode zb_M_count 155 = .ok (.aload_n 0, 1) := by decide +kernel
theorem zd_M_count_156 : decode zb_M_count 156 = .ok (.getfield 10, 3) := by decide +kernel
theorem zd_M_count_159 : decode zb_M_count 159 = .ok (.getfield 330, 3) := by decide +kernel
theorem zd_M_count_162 : decode zb_M_count 162 = .ok (.ireturn, 1) := by decide +kernel
theorem zd_M_count_163 : decode zb_M_count 163 = .ok (.aload_n 0, 1) := by decide +kernel
theorem zd_M_count_164 : decode zb_M_count 164 = .ok (.getfield 10, 3) := by decide +kernel
theorem zd_M_count_167 : decode zb_M_count 167 = .ok (.getfield 333, 3) := by decide +kernel
theorem zd_M_count_170 : decode zb_M_count 170 = .ok (.ireturn, 1) := by decide +kernel
theorem zd_M_count_171 : decode zb_M_count 171 = .ok (.aload_n 0, 1) := by decide +kernel
theorem zd_M_count_172 : decode zb_M_count 172 = .ok (.getfield 10, 3) := by decide +kernel
theorem zd_M_count_175 : decode zb_M_count 175 = .ok (.getfield 336, 3) := by decide +kernel
theorem zd_M_count_178 : decode zb_M_count 178 = .ok (.ireturn, 1) := by decide +kernel
theorem zd_M_count_179 : decode zb_M_count 179 = .ok (.aload_n 0, 1) := by decide +kernel
theorem zd_M_count_180 : decode zb_M_count 180 = .ok (.getfield 10, 3) := by decide +kernel
theorem zd_M_count_183 : decode zb_M_count 183 = .ok (.invokevirtual 181, 3) := by decide +kernel
theorem zd_M_count_186 : decode zb_M_count 186 = .ok (.ireturn, 1) := by decide +kernel
theorem zd_M_count_187 : decode zb_M_count 187 = .ok (.iconst 0, 1) := by decide +kernel
theorem zd_M_count_188 : decode zb_M_count 188 = .ok (.istore_n 2, 1) := by decide +kernel
theorem zd_M_count_189 : decode zb_M_count 189 = .ok (.iconst 0, 1) := by decide +kernel
theorem zd_M_count_190 : decode zb_M_count 190 = .ok (.istore_n 3, 1) := by decide +kernel
theorem zd_M_count_191 : decode zb_M_count 191 = .ok (.iload_n 3, 1) := by decide +kernel
theorem zd_M_count_192 : decode zb_M_count 192 = .ok (.aload_n 0, 1) := by decide +kernel
theorem zd_M_count_193 : decode zb_M_count 193 = .ok (.getfield 10, 3) := by decide +kernel
theorem zd_M_count_196 : decode zb_M_count 196 = .ok (.getfield 50, 3) := by decide +kernel
theorem zd_M_count_199 : decode zb_M_count 199 = .ok (.if_icmp .ge 20, 3) := by decide +kernel
theorem zd_M_count_202 : decode zb_M_count 202 = .ok (.iload_n 2, 1) := by decide +kernel
theorem zd_M_count_203 : decode zb_M_count 203 = .ok (.aload_n 0, 1) := by decide +kernel
theorem zd_M_count_204 : decode zb_M_count 204 = .ok (.getfield 10, 3) := by decide +kernel
theorem zd_M_count_207 : decode zb_M_count 207 = .ok (.iload_n 3, 1) := by decide +kernel
theorem zd_M_count_208 : decode zb_M_count 208 = .ok (.invokevirtual 117, 3) := by decide +kernel
theorem zd_M_count_211 : decode zb_M_count 211 = .ok (.iadd, 1) := by decide +kernel
theorem zd_M_count_212 : decode zb_M_count 212 = .ok (.istore_n 2, 1) := by decide +kernel
theorem zd_M_count_213 : decode zb_M_count 213 = .ok (.iinc 3 1, 3) := by decide +kernel
theorem zd_M_count_216 : decode zb_M_count 216 = .ok (.goto (-25), 3) := by decide +kernel
theorem zd_M_count_219 : decode zb_M_count 219 = .ok (.iload_n 2, 1) := by decide +kernel
theorem zd_M_count_220 : decode zb_M_count 220 = .ok (.ireturn, 1) := by decide +kernel
theorem zd_M_count_221 : decode zb_M_count 221 = .ok (.aload_n 0, 1) := by decide +kernel
theorem zd_M_count_222 : decode zb_M_count 222 = .ok (.getfield 10, 3) := by decide +kernel
theorem zd_M_count_225 : decode zb_M_count 225 = .ok (.getfield 339, 3) := by decide +kernel
theorem zd_M_count_228 : decode zb_M_count 228 = .ok (.ireturn, 1) := by decide +kernel
theorem zd_M_count_229 : decode zb_M_count 229 = .ok (.iconst (-1), 1) := by decide +kernel
theorem zd_M_count_230 : decode zb_M_count 230 = .ok (.ireturn, 1) := by decide +kernel

def zf_M_count_191 : Nat → Int → Int → Sg → Option (Int × Sg)
  | 0, _, _, _ => none
  | n + 1, x2, x3, S =>
    if (S 5 0 0 1) ≤ x3 then (some (x2, S)) else (zbd (zf_W_needOf (0) x3 S) fun a2 S3 => zlt (zw (x2 + a2)) fun v4 => zlt (zw (x3 + 1)) fun v5 => (zf_M_count_191 n) (v4) (v5) S3)
set_option maxHeartbeats 4000000 in
set_option maxRecDepth 100000 in
theorem zw_M_count_191 {p : Program} {l : Launch} {e : Env} {s : State} {m : MethodId} {args : Array Value} {below : List Frame} {meth : Method} {c : Code} {B : zB} (C : CallFix p m c zb_M_count 4 s args zT "IslandOfficeModel") (hr : meth.sig.returnType = some .int) (hlk : meth.locks = false) (hK : zK B s) (hSt : zSt B s) (hap : zAp B) {res : Int} {S9 : Sg} : ∀ n : Nat, ∀ (x2 : Int) (x3 : Int) (S : Sg) (nx2 : zn x2) (nx3 : zn x3), zf_M_count_191 n x2 x3 S = some (res, S9) → ∀ (H : Heap) (locs : List Loc) (ls : Array Slot), zW B S H → va_S B.2.2.2 s.heap H locs → lv_has ls 4 [(0, .ref (B.2.1 9 (0) (0))), (2, .int (zI (x2))), (3, .int (zI (x3)))] → W p l e zm_M_count s m args below meth c H locs 0 0 (MQ below (zQi B res S9) args s 0 0 B.2.2.2) (F0 m 191 ls []) := by
  intro n
  induction n with
  | zero =>
    intro x2 x3 S nx2 nx3 hf H locs ls hW hS hl
    cases hf
  | succ n ih =>
    intro x2 x3 S nx2 nx3 hf H locs ls hW hS hl
    rw [zf_M_count_191] at hf
    refine lv_iload_n C.1 C.2.1 zd_M_count_191 rfl (lv_at hl 2 rfl) ?_
    refine lv_aload_n C.1 C.2.1 zd_M_count_192 rfl (lv_at hl 0 rfl) ?_
    refine zg_M_world (r := 0) C hK hW (zvd_9 (by decide) (by decide)) zk_1500 zd_M_count_193 ?_
    refine zg_W_people (r := 0) C hK hW (zvd_5 (by decide) (by decide)) zk_1278 zd_M_count_196 ?_
    refine zr_icmp_ge (tgt := 219) C nx3 (zWn hW _ _ _ _ rfl) zd_M_count_199 (by decide) (fun c1 => ?_) (fun c1 => ?_)
    · rw [if_pos c1] at hf
      refine lv_iload_n C.1 C.2.1 zd_M_count_219 rfl (lv_at hl 1 rfl) ?_
      cases hf
      exact zre_i C hr hlk hK hW hS nx2 zd_M_count_220
    · rw [if_neg c1] at hf
      refine lv_iload_n C.1 C.2.1 zd_M_count_202 rfl (lv_at hl 1 rfl) ?_
      refine lv_aload_n C.1 C.2.1 zd_M_count_203 rfl (lv_at hl 0 rfl) ?_
      refine zg_M_world (r := 0) C hK hW (zvd_9 (by decide) (by decide)) zk_1500 zd_M_count_204 ?_
      refine lv_iload_n C.1 C.2.1 zd_M_count_207 rfl (lv_at hl 2 rfl) ?_
      obtain ⟨a2, S3, ea2, hf⟩ := zbd_some hf
      refine zcVi (As := [.int (zI (x3))]) (rest := [.int (zI (x2))]) C hK hSt hW hS (zc_W_needOf hap (0) (by decide) x3 S nx3 ea2) zq_W_needOf zk_1617 (zrecv hK hW (zvd_5 (by decide) (by decide)) (ze_5_0 B _ (0)) rfl) ⟨rfl, rfl, by decide, by decide⟩ ⟨Nat.zero_le _, Nat.zero_le _⟩ rfl hl.1 rfl (lv_room (Nat.le_of_ble_eq_true rfl)) zd_M_count_208 (fun na2 H locs hW hS => ?_)
      refine zr_iadd C zd_M_count_211 ?_
      obtain ⟨v4, ev4, hf⟩ := zlt_some hf
      have nv4 : zn v4 := by rw [← ev4]; exact (zn_w _)
      rw [ev4]
      refine lv_istore_n (lv' := [(2, .int (zI (v4))), (0, .ref (B.2.1 9 (0) (0))), (3, .int (zI (x3)))]) C.1 C.2.1 zd_M_count_212 rfl hl (by decide) rfl (fun ls hl => ?_)
      obtain ⟨v5, ev5, hf⟩ := zlt_some hf
      have nv5 : zn v5 := by rw [← ev5]; exact zn_w _
      refine lv_iinc (v := zI v5) (lv' := [(3, .int (zI (v5))), (2, .int (zI (v4))), (0, .ref (B.2.1 9 (0) (0)))]) C.1 C.2.1 zd_M_count_213 hl (k := 2) rfl (by rw [← ev5, ← zI_add]; rfl) (by decide) rfl (fun ls hl => ?_)
      refine lv_goto (tgt := 191) C.1 C.2.1 zd_M_count_216 (by decide) ?_
      exact ih (v4) (v5) S3 nv4 nv5 hf _ _ _ hW hS (lv_sub hl [2, 1, 0] rfl)

def zf_M_count (x1 : Int) (S : Sg) : Option (Int × Sg) :=
    zlt (zu S 9 0 0 4 0) fun S1 => if x1 = 0 then (some (S1 5 0 0 1, S1)) else (if x1 = 1 then (zbd (zf_W_inState (0) 0 S1) fun a4 S5 => some (a4, S5)) else (if x1 = 2 then (zbd (zf_W_inState (0) 1 S1) fun a7 S8 => some (a7, S8)) else (if x1 = 3 then (zbd (zf_W_inState (0) 2 S1) fun a10 S11 => some (a10, S11)) else (if x1 = 4 then (some (S1 5 0 0 16, S1)) else (if x1 = 5 then (some (S1 5 0 0 25, S1)) else (if x1 = 6 then (some (S1 5 0 0 33, S1)) else (if x1 = 7 then (some (S1 5 0 0 0, S1)) else (if x1 = 8 then (some (S1 5 0 0 38, S1)) else (if x1 = 9 then (some (S1 5 0 0 39, S1)) else (if x1 = 10 then (some (S1 5 0 0 40, S1)) else (if x1 = 11 then (some (S1 5 0 0 15, S1)) else (if x1 = 12 then (zbd (zf_W_votersNow (0) S1) fun a21 S22 => some (a21, S22)) else (if x1 = 13 then (zf_M_count_191 4096 (0) (0) S1) else (if x1 = 14 then (some (S1 5 0 0 41, S1)) else (some (-1, S1))))))))))))))))
set_option maxHeartbeats 4000000 in
set_option maxRecDepth 100000 in
theorem zw_M_count {p : Program} {l : Launch} {e : Env} {s : State} {m : MethodId} {args : Array Value} {below : List Frame} {meth : Method} {c : Code} {B : zB} (C : CallFix p m c zb_M_count 4 s args zT "IslandOfficeModel") (hr : meth.sig.returnType = some .int) (hlk : meth.locks = false) (hK : zK B s) (hSt : zSt B s) (hap : zAp B) {res : Int} {S9 : Sg} : ∀ (x1 : Int) (S : Sg) (nx1 : zn x1), zf_M_count x1 S = some (res, S9) → ∀ (H : Heap) (locs : List Loc) (ls : Array Slot), zW B S H → va_S B.2.2.2 s.heap H locs → lv_has ls 4 [(0, .ref (B.2.1 9 (0) (0))), (1, .int (zI (x1)))] → W p l e zm_M_count s m args below meth c H locs 0 0 (MQ below (zQi B res S9) args s 0 0 B.2.2.2) (F0 m 0 ls []) := by
  intro x1 S nx1 hf H locs ls hW hS hl
  unfold zf_M_count at hf
  refine lv_aload_n C.1 C.2.1 zd_M_count_0 rfl (lv_at hl 0 rfl) ?_
  refine zr_iconst C zd_M_count_1 ?_
  obtain ⟨S1, eS1, hf⟩ := zlt_some hf
  refine zp_M_thrown (r := 0) C hK hap hW hS (zvd_9 (by decide) (by decide)) zk_1504 (znb rfl) zd_M_count_2 (fun H locs hW hS => ?_)
  rw [eS1] at hW
  refine lv_iload_n C.1 C.2.1 zd_M_count_5 rfl (lv_at hl 1 rfl) ?_
  by_cases c2 : x1 = 0
  · rw [if_pos c2] at hf
    refine zr_tab (off := 74) (tgt := 80) C nx1 zd_M_count_6 (by omega) (by omega) (by rw [c2]; rfl) (by decide) ?_
    refine lv_aload_n C.1 C.2.1 zd_M_count_80 rfl (lv_at hl 0 rfl) ?_
    refine zg_M_world (r := 0) C hK hW (zvd_9 (by decide) (by decide)) zk_1500 zd_M_count_81 ?_
    refine zg_W_people (r := 0) C hK hW (zvd_5 (by decide) (by decide)) zk_1278 zd_M_count_84 ?_
    cases hf
    exact zre_i C hr hlk hK hW hS (zWn hW _ _ _ _ rfl) zd_M_count_87
  rw [if_neg c2] at hf
  by_cases c3 : x1 = 1
  · rw [if_pos c3] at hf
    refine zr_tab (off := 82) (tgt := 88) C nx1 zd_M_count_6 (by omega) (by omega) (by rw [c3]; rfl) (by decide) ?_
    refine lv_aload_n C.1 C.2.1 zd_M_count_88 rfl (lv_at hl 0 rfl) ?_
    refine zg_M_world (r := 0) C hK hW (zvd_9 (by decide) (by decide)) zk_1500 zd_M_count_89 ?_
    refine zr_iconst C zd_M_count_92 ?_
    obtain ⟨a4, S5, ea4, hf⟩ := zbd_some hf
    refine zcVi (As := [.int (zI (0))]) (rest := []) C hK hSt hW hS (zc_W_inState hap (0) (by decide) 0 S1 (znb rfl) ea4) zq_W_inState zk_1980 (zrecv hK hW (zvd_5 (by decide) (by decide)) (ze_5_0 B _ (0)) rfl) ⟨rfl, rfl, by decide, by decide⟩ ⟨Nat.zero_le _, Nat.zero_le _⟩ rfl hl.1 rfl (lv_room (Nat.le_of_ble_eq_true rfl)) zd_M_count_93 (fun na4 H locs hW hS => ?_)
    cases hf
    exact zre_i C hr hlk hK hW hS na4 zd_M_count_96
  rw [if_neg c3] at hf
  by_cases c6 : x1 = 2
  · rw [if_pos c6] at hf
    refine zr_tab (off := 91) (tgt := 97) C nx1 zd_M_count_6 (by omega) (by omega) (by rw [c6]; rfl) (by decide) ?_
    refine lv_aload_n C.1 C.2.1 zd_M_count_97 rfl (lv_at hl 0 rfl) ?_
    refine zg_M_world (r := 0) C hK hW (zvd_9 (by decide) (by decide)) zk_1500 zd_M_count_98 ?_
    refine zr_iconst C zd_M_count_101 ?_
    obtain ⟨a7, S8, ea7, hf⟩ := zbd_some hf
    refine zcVi (As := [.int (zI (1))]) (rest := []) C hK hSt hW hS (zc_W_inState hap (0) (by decide) 1 S1 (znb rfl) ea7) zq_W_inState zk_1980 (zrecv hK hW (zvd_5 (by decide) (by decide)) (ze_5_0 B _ (0)) rfl) ⟨rfl, rfl, by decide, by decide⟩ ⟨Nat.zero_le _, Nat.zero_le _⟩ rfl hl.1 rfl (lv_room (Nat.le_of_ble_eq_true rfl)) zd_M_count_102 (fun na7 H locs hW hS => ?_)
    cases hf
    exact zre_i C hr hlk hK hW hS na7 zd_M_count_105
  rw [if_neg c6] at hf
  by_cases c9 : x1 = 3
  · rw [if_pos c9] at hf
    refine zr_tab (off := 100) (tgt := 106) C nx1 zd_M_count_6 (by omega) (by omega) (by rw [c9]; rfl) (by decide) ?_
    refine lv_aload_n C.1 C.2.1 zd_M_count_106 rfl (lv_at hl 0 rfl) ?_
    refine zg_M_world (r := 0) C hK hW (zvd_9 (by decide) (by decide)) zk_1500 zd_M_count_107 ?_
    refine zr_iconst C zd_M_count_110 ?_
    obtain ⟨a10, S11, ea10, hf⟩ := zbd_some hf
    refine zcVi (As := [.int (zI (2))]) (rest := []) C hK hSt hW hS (zc_W_inState hap (0) (by decide) 2 S1 (znb rfl) ea10) zq_W_inState zk_1980 (zrecv hK hW (zvd_5 (by decide) (by decide)) (ze_5_0 B _ (0)) rfl) ⟨rfl, rfl, by decide, by decide⟩ ⟨Nat.zero_le _, Nat.zero_le _⟩ rfl hl.1 rfl (lv_room (Nat.le_of_ble_eq_true rfl)) zd_M_count_111 (fun na10 H locs hW hS => ?_)
    cases hf
    exact zre_i C hr hlk hK hW hS na10 zd_M_count_114
  rw [if_neg c9] at hf
  by_cases c12 : x1 = 4
  · rw [if_pos c12] at hf
    refine zr_tab (off := 109) (tgt := 115) C nx1 zd_M_count_6 (by omega) (by omega) (by rw [c12]; rfl) (by decide) ?_
    refine lv_aload_n C.1 C.2.1 zd_M_count_115 rfl (lv_at hl 0 rfl) ?_
    refine zg_M_world (r := 0) C hK hW (zvd_9 (by decide) (by decide)) zk_1500 zd_M_count_116 ?_
    refine zg_W_laws (r := 0) C hK hW (zvd_5 (by decide) (by decide)) zk_1308 zd_M_count_119 ?_
    cases hf
    exact zre_i C hr hlk hK hW hS (zWn hW _ _ _ _ rfl) zd_M_count_122
  rw [if_neg c12] at hf
  by_cases c13 : x1 = 5
  · rw [if_pos c13] at hf
    refine zr_tab (off := 117) (tgt := 123) C nx1 zd_M_count_6 (by omega) (by omega) (by rw [c13]; rfl) (by decide) ?_
    refine lv_aload_n C.1 C.2.1 zd_M_count_123 rfl (lv_at hl 0 rfl) ?_
    refine zg_M_world (r := 0) C hK hW (zvd_9 (by decide) (by decide)) zk_1500 zd_M_count_124 ?_
    refine zg_W_posts (r := 0) C hK hW (zvd_5 (by decide) (by decide)) zk_1326 zd_M_count_127 ?_
    cases hf
    exact zre_i C hr hlk hK hW hS (zWn hW _ _ _ _ rfl) zd_M_count_130
  rw [if_neg c13] at hf
  by_cases c14 : x1 = 6
  · rw [if_pos c14] at hf
    refine zr_tab (off := 125) (tgt := 131) C nx1 zd_M_count_6 (by omega) (by omega) (by rw [c14]; rfl) (by decide) ?_
    refine lv_aload_n C.1 C.2.1 zd_M_count_131 rfl (lv_at hl 0 rfl) ?_
    refine zg_M_world (r := 0) C hK hW (zvd_9 (by decide) (by decide)) zk_1500 zd_M_count_132 ?_
    refine zg_W_orders (r := 0) C hK hW (zvd_5 (by decide) (by decide)) zk_1342 zd_M_count_135 ?_
    cases hf
    exact zre_i C hr hlk hK hW hS (zWn hW _ _ _ _ rfl) zd_M_count_138
  rw [if_neg c14] at hf
  by_cases c15 : x1 = 7
  · rw [if_pos c15] at hf
    refine zr_tab (off := 133) (tgt := 139) C nx1 zd_M_count_6 (by omega) (by omega) (by rw [c15]; rfl) (by decide) ?_
    refine lv_aload_n C.1 C.2.1 zd_M_count_139 rfl (lv_at hl 0 rfl) ?_
    refine zg_M_world (r := 0) C hK hW (zvd_9 (by decide) (by decide)) zk_1500 zd_M_count_140 ?_
    refine zg_W_week (r := 0) C hK hW (zvd_5 (by decide) (by decide)) zk_1276 zd_M_count_143 ?_
    cases hf
    exact zre_i C hr hlk hK hW hS (zWn hW _ _ _ _ rfl) zd_M_count_146
  rw [if_neg c15] at hf
  by_cases c16 : x1 = 8
  · rw [if_pos c16] at hf
    refine zr_tab (off := 141) (tgt := 147) C nx1 zd_M_count_6 (by omega) (by omega) (by rw [c16]; rfl) (by decide) ?_
    refine lv_aload_n C.1 C.2.1 zd_M_count_147 rfl (lv_at hl 0 rfl) ?_
    refine zg_M_world (r := 0) C hK hW (zvd_9 (by decide) (by decide)) zk_1500 zd_M_count_148 ?_
    refine zg_W_purse (r := 0) C hK hW (zvd_5 (by decide) (by decide)) zk_1352 zd_M_count_151 ?_
    cases hf
    exact zre_i C hr hlk hK hW hS (zWn hW _ _ _ _ rfl) zd_M_count_154
  rw [if_neg c16] at hf
  by_cases c17 : x1 = 9
  · rw [if_pos c17] at hf
    refine zr_tab (off := 149) (tgt := 155) C nx1 zd_M_count_6 (by omega) (by omega) (by rw [c17]; rfl) (by decide) ?_
    refine lv_aload_n C.1 C.2.1 zd_M_count_155 rfl (lv_at hl 0 rfl) ?_
    refine zg_M_world (r := 0) C hK hW (zvd_9 (by decide) (by decide)) zk_1500 zd_M_count_156 ?_
    refine zg_W_fund (r := 0) C hK hW (zvd_5 (by decide) (by decide)) zk_1354 zd_M_count_159 ?_
    cases hf
    exact zre_i C hr hlk hK hW hS (zWn hW _ _ _ _ rfl) zd_M_count_162
  rw [if_neg c17] at hf
  by_cases c18 : x1 = 10
  · rw [if_pos c18] at hf
    refine zr_tab (off := 157) (tgt := 163) C nx1 zd_M_count_6 (by omega) (by omega) (by rw [c18]; rfl) (by decide) ?_
    refine lv_aload_n C.1 C.2.1 zd_M_count_163 rfl (lv_at hl 0 rfl) ?_
    refine zg_M_world (r := 0) C hK hW (zvd_9 (by decide) (by decide)) zk_1500 zd_M_count_164 ?_
    refine zg_W_unpaid (r := 0) C hK hW (zvd_5 (by decide) (by decide)) zk_1356 zd_M_count_167 ?_
    cases hf
    exact zre_i C hr hlk hK hW hS (zWn hW _ _ _ _ rfl) zd_M_count_170
  rw [if_neg c18] at hf
  by_cases c19 : x1 = 11
  · rw [if_pos c19] at hf
    refine zr_tab (off := 165) (tgt := 171) C nx1 zd_M_count_6 (by omega) (by omega) (by rw [c19]; rfl) (by decide) ?_
    refine lv_aload_n C.1 C.2.1 zd_M_count_171 rfl (lv_at hl 0 rfl) ?_
    refine zg_M_world (r := 0) C hK hW (zvd_9 (by decide) (by decide)) zk_1500 zd_M_count_172 ?_
    refine zg_W_grass (r := 0) C hK hW (zvd_5 (by decide) (by decide)) zk_1306 zd_M_count_175 ?_
    cases hf
    exact zre_i C hr hlk hK hW hS (zWn hW _ _ _ _ rfl) zd_M_count_178
  rw [if_neg c19] at hf
  by_cases c20 : x1 = 12
  · rw [if_pos c20] at hf
    refine zr_tab (off := 173) (tgt := 179) C nx1 zd_M_count_6 (by omega) (by omega) (by rw [c20]; rfl) (by decide) ?_
    refine lv_aload_n C.1 C.2.1 zd_M_count_179 rfl (lv_at hl 0 rfl) ?_
    refine zg_M_world (r := 0) C hK hW (zvd_9 (by decide) (by decide)) zk_1500 zd_M_count_180 ?_
    obtain ⟨a21, S22, ea21, hf⟩ := zbd_some hf
    refine zcVi (As := []) (rest := []) C hK hSt hW hS (zc_W_votersNow hap (0) (by decide) S1 ea21) zq_W_votersNow zk_1696 (zrecv hK hW (zvd_5 (by decide) (by decide)) (ze_5_0 B _ (0)) rfl) ⟨rfl, rfl, by decide, by decide⟩ ⟨Nat.zero_le _, Nat.zero_le _⟩ rfl hl.1 rfl (lv_room (Nat.le_of_ble_eq_true rfl)) zd_M_count_183 (fun na21 H locs hW hS => ?_)
    cases hf
    exact zre_i C hr hlk hK hW hS na21 zd_M_count_186
  rw [if_neg c20] at hf
  by_cases c23 : x1 = 13
  · rw [if_pos c23] at hf
    refine zr_tab (off := 181) (tgt := 187) C nx1 zd_M_count_6 (by omega) (by omega) (by rw [c23]; rfl) (by decide) ?_
    refine zr_iconst C zd_M_count_187 ?_
    refine lv_istore_n (lv' := [(2, .int (zI (0))), (0, .ref (B.2.1 9 (0) (0))), (1, .int (zI (x1)))]) C.1 C.2.1 zd_M_count_188 rfl hl (by decide) rfl (fun ls hl => ?_)
    refine zr_iconst C zd_M_count_189 ?_
    refine lv_istore_n (lv' := [(3, .int (zI (0))), (2, .int (zI (0))), (0, .ref (B.2.1 9 (0) (0))), (1, .int (zI (x1)))]) C.1 C.2.1 zd_M_count_190 rfl hl (by decide) rfl (fun ls hl => ?_)
    exact zw_M_count_191 C hr hlk hK hSt hap   4096 (0) (0) S1 (znb rfl) (znb rfl) hf _ _ _ hW hS (lv_sub hl [2, 1, 0] rfl)
  rw [if_neg c23] at hf
  by_cases c24 : x1 = 14
  · rw [if_pos c24] at hf
    refine zr_tab (off := 215) (tgt := 221) C nx1 zd_M_count_6 (by omega) (by omega) (by rw [c24]; rfl) (by decide) ?_
    refine lv_aload_n C.1 C.2.1 zd_M_count_221 rfl (lv_at hl 0 rfl) ?_
    refine zg_M_world (r := 0) C hK hW (zvd_9 (by decide) (by decide)) zk_1500 zd_M_count_222 ?_
    refine zg_W_landed (r := 0) C hK hW (zvd_5 (by decide) (by decide)) zk_1358 zd_M_count_225 ?_
    cases hf
    exact zre_i C hr hlk hK hW hS (zWn hW _ _ _ _ rfl) zd_M_count_228
  rw [if_neg c24] at hf
  refine zr_tabo (tgt := 229) C nx1 zd_M_count_6 (by omega) (by decide) ?_
  refine zr_iconst C zd_M_count_229 ?_
  cases hf
  exact zre_i C hr hlk hK hW hS (znb rfl) zd_M_count_230

theorem zc_M_count {l : Launch} {B : zB} (hap : zAp B) (x1 : Int) (S : Sg) (nx1 : zn x1) {res : Int} {S9 : Sg} (hf : zf_M_count x1 S = some (res, S9)) : Met l zy_M_count (Cond.code zy_M_count zb_M_count 4 (some .int) :: zT) zm_M_count (zP B S [.ref (B.2.1 9 (0) (0)), .int (zI (x1))]) (zQi B res S9) 0 0 B.2.2.2 :=
  zmet (by decide) (Nat.le_of_ble_eq_true rfl) (fun p e s m args below meth c C hr hlk hK hSt hW ls hl => zw_M_count C hr hlk hK hSt hap   x1 S nx1 hf _ _ _ hW va_S.rf hl)
/-! IslandOfficeModel.keep(III)I -/
abbrev zy_M_keep : MethodName := ⟨"IslandOfficeModel", "keep", "(III)I"⟩
abbrev zb_M_keep : ByteArray := prog_14_method_66_code
abbrev zm_M_keep : Room := { frames := 2, cells := 0, slots := 0, locals := 43 }
theorem zq_M_keep : zMy zy_M_keep zb_M_keep 4 (some .int) 3 := ⟨zk_2031, zk_2029, zk_2030, zk_14, by decide, by decide, by decide +kernel⟩
theorem zd_M_keep_0 : decode zb_M_keep 0 = .ok (.aload_n 0, 1) := by decide +kernel
theorem zd_M_keep_1 : decode zb_M_keep 1 = .ok (.iconst 0, 1) := by decide +kernel
theorem zd_M_keep_2 : decode zb_M_keep 2 = .ok (.putfield 46, 3) := by decide +kernel
theorem zd_M_keep_5 : decode zb_M_keep 5 = .ok (.iload_n 1, 1) := by decide +kernel
theorem zd_M_keep_6 : decode zb_M_keep 6 = .ok (.invokestatic 172, 3) := by decide +kernel
theorem zd_M_keep_9 : decode zb_M_keep 9 = .ok (.ifCond .eq 38, 3) := by decide +kernel
theorem zd_M_keep_12 : decode zb_M_keep 12 = .ok (.iload_n 2, 1) := by decide +kernel
theorem zd_M_keep_13 : decode zb_M_keep 13 = .ok (.iconst 0, 1) := by decide +kernel
theorem zd_M_keep_14 : decode zb_M_keep 14 = .ok (.iconst 2, 1) := by decide +kernel
theorem zd_M_keep_15 : decode zb_M_keep 15 = .ok (.invokestatic 53, 3) := by decide +kernel
theorem zd_M_keep_18 : decode zb_M_keep 18 = .ok (.ifCond .eq 29, 3) := by decide +kernel
theorem zd_M_keep_21 : decode zb_M_keep 21 = .ok (.iload_n 2, 1) := by decide +kernel
theorem zd_M_keep_22 : decode zb_M_keep 22 = .ok (.iconst 1, 1) := by decide +kernel
theorem zd_M_keep_23 : decode zb_M_keep 23 = .ok (.if_icmp .ne 11, 3) := by decide +kernel
theorem zd_M_keep_26 : decode zb_M_keep 26 = .ok (.aload_n 0, 1) := by decide +kernel
theorem zd_M_keep_27 : decode zb_M_keep 27 = .ok (.iload_n 3, 1) := by decide +kernel
theorem zd_M_keep_28 : decode zb_M_keep 28 = .ok (.invokevirtual 97, 3) := by decide +kernel
theorem zd_M_keep_31 : decode zb_M_keep 31 = .ok (.ifCond .eq 16, 3) := by decide +kernel
theorem zd_M_keep_34 : decode zb_M_keep 34 = .ok (.iload_n 2, 1) := by decide +kernel
theorem zd_M_keep_35 : decode zb_M_keep 35 = .ok (.iconst 2, 1) := by decide +kernel
theorem zd_M_keep_36 : decode zb_M_keep 36 = .ok (.if_icmp .ne 13, 3) := by decide +kernel
theorem zd_M_keep_39 : decode zb_M_keep 39 = .ok (.aload_n 0, 1) := by decide +kernel
theorem zd_M_keep_40 : decode zb_M_keep 40 = .ok (.iload_n 3, 1) := by decide +kernel
theorem zd_M_keep_41 : decode zb_M_keep 41 = .ok (.invokevirtual 216, 3) := by decide +kernel
theorem zd_M_keep_44 : decode zb_M_keep 44 = .ok (.ifCond .ne 5, 3) := by decide +kernel
theorem zd_M_keep_47 : decode zb_M_keep 47 = .ok (.iconst (-1), 1) := by decide +kernel
theorem zd_M_keep_48 : decode zb_M_keep 48 = .ok (.ireturn, 1) := by decide +kernel
theorem zd_M_keep_49 : decode zb_M_keep 49 = .ok (.iload_n 2, 1) := by decide +kernel
theorem zd_M_keep_50 : decode zb_M_keep 50 = .ok (.iconst 1, 1) := by decide +kernel
theorem zd_M_keep_51 : decode zb_M_keep 51 = .ok (.if_icmp .ne 19, 3) := by decide +kernel
theorem zd_M_keep_54 : decode zb_M_keep 54 = .ok (.aload_n 0, 1) := by decide +kernel
theorem zd_M_keep_55 : decode zb_M_keep 55 = .ok (.getfield 10, 3) := by decide +kernel
theorem zd_M_keep_58 : decode zb_M_keep 58 = .ok (.getfield 72, 3) := by decide +kernel
theorem zd_M_keep_61 : decode zb_M_keep 61 = .ok (.iload_n 3, 1) := by decide +kernel
theorem zd_M_keep_62 : decode zb_M_keep 62 = .ok (.iaload, 1) := by decide +kernel
theorem zd_M_keep_63 : decode zb_M_keep 63 = .ok (.iconst 2, 1) := by decide +kernel
theorem zd_M_keep_64 : decode zb_M_keep 64 = .ok (.if_icmp .ne 6, 3) := by decide +kernel
theorem zd_M_keep_67 : decode zb_M_keep 67 = .ok (.bipush (-3), 2) := by decide +kernel
theorem zd_M_keep_69 : decode zb_M_keep 69 = .ok (.ireturn, 1) := by decide +kernel
theorem zd_M_keep_70 : decode zb_M_keep 70 = .ok (.aload_n 0, 1) := by decide +kernel
theorem zd_M_keep_71 : decode zb_M_keep 71 = .ok (.getfield 22, 3) := by decide +kernel
theorem zd_M_keep_74 : decode zb_M_keep 74 = .ok (.iload_n 1, 1) := by decide +kernel
theorem zd_M_keep_75 : decode zb_M_keep 75 = .ok (.iload_n 2, 1) := by decide +kernel
theorem zd_M_keep_76 : decode zb_M_keep 76 = .ok (.iastore, 1) := by decide +kernel
theorem zd_M_keep_77 : decode zb_M_keep 77 = .ok (.iload_n 2, 1) := by decide +kernel
theorem zd_M_keep_78 : decode zb_M_keep 78 = .ok (.iconst 1, 1) := by decide +kernel
theorem zd_M_keep_79 : decode zb_M_keep 79 = .ok (.if_icmp .ne 55, 3) := by decide +kernel
theorem zd_M_keep_82 : decode zb_M_keep 82 = .ok (.aload_n 0, 1) := by decide +kernel
theorem zd_M_keep_83 : decode zb_M_keep 83 = .ok (.getfield 37, 3) := by decide +kernel
theorem zd_M_keep_86 : decode zb_M_keep 86 = .ok (.iload_n 1, 1) := by decide +kernel
theorem zd_M_keep_87 : decode zb_M_keep 87 = .ok (.aaload, 1) := by decide +kernel
theorem zd_M_keep_88 : decode zb_M_keep 88 = .ok (.iconst 0, 1) := by decide +kernel
theorem zd_M_keep_89 : decode zb_M_keep 89 = .ok (.aload_n 0, 1) := by decide +kernel
theorem zd_M_keep_90 : decode zb_M_keep 90 = .ok (.getfield 10, 3) := by decide +kernel
theorem zd_M_keep_93 : decode zb_M_keep 93 = .ok (.iload_n 3, 1) := by decide +kernel
theorem zd_M_keep_94 : decode zb_M_keep 94 = .ok (.invokevirtual 104, 3) := by decide +kernel
theorem zd_M_keep_97 : decode zb_M_keep 97 = .ok (.iastore, 1) := by decide +kernel
theorem zd_M_keep_98 : decode zb_M_keep 98 = .ok (.aload_n 0, 1) := by decide +kernel
theorem zd_M_keep_99 : decode zb_M_keep 99 = .ok (.getfield 37, 3) := by decide +kernel
theorem zd_M_keep_102 : decode zb_M_keep 102 = .ok (.iload_n 1, 1) := by decide +kernel
theorem zd_M_keep_103 : decode zb_M_keep 103 = .ok (.aaload, 1) := by decide +kernel
theorem zd_M_keep_104 : decode zb_M_keep 104 = .ok (.iconst 1, 1) := by decide +kernel
theorem zd_M_keep_105 : decode zb_M_keep 105 = .ok (.aload_n 0, 1) := by decide +kernel
theorem zd_M_keep_106 : decode zb_M_keep 106 = .ok (.getfield 10, 3) := by decide +kernel
theorem zd_M_keep_109 : decode zb_M_keep 109 = .ok (.iload_n 3, 1) := by decide +kernel
theorem zd_M_keep_110 : decode zb_M_keep 110 = .ok (.invokevirtual 108, 3) := by decide +kernel
theorem zd_M_keep_113 : decode zb_M_keep 113 = .ok (.iastore, 1) := by decide +kernel
theorem zd_M_keep_114 : decode zb_M_keep 114 = .ok (.aload_n 0, 1) := by decide +kernel
theorem zd_M_keep_115 : decode zb_M_keep 115 = .ok (.getfield 37, 3) := by decide +kernel
theorem zd_M_keep_118 : decode zb_M_keep 118 = .ok (.iload_n 1, 1) := by decide +kernel
theorem zd_M_keep_119 : decode zb_M_keep 119 = .ok (.aaload, 1) := by decide +kernel
theorem zd_M_keep_120 : decode zb_M_keep 120 = .ok (.iconst 2, 1) := by decide +kernel
theorem zd_M_keep_121 : decode zb_M_keep 121 = .ok (.aload_n 0, 1) := by decide +kernel
theorem zd_M_keep_122 : decode zb_M_keep 122 = .ok (.getfield 10, 3) := by decide +kernel
theorem zd_M_keep_125 : decode zb_M_keep 125 = .ok (.getfield 63, 3) := by decide +kernel
theorem zd_M_keep_128 : decode zb_M_keep 128 = .ok (.iload_n 3, 1) := by decide +kernel
theorem zd_M_keep_129 : decode zb_M_keep 129 = .ok (.iaload, 1) := by decide +kernel
theorem zd_M_keep_130 : decode zb_M_keep 130 = .ok (.iastore, 1) := by decide +kernel
theorem zd_M_keep_131 : decode zb_M_keep 131 = .ok (.goto 67, 3) := by decide +kernel
theorem zd_M_keep_134 : decode zb_M_keep 134 = .ok (.iload_n 2, 1) := by decide +kernel
theorem zd_M_keep_135 : decode zb_M_keep 135 = .ok (.iconst 2, 1) := by decide +kernel
theorem zd_M_keep_136 : decode zb_M_keep 136 = .ok (.if_icmp .ne 62, 3) := by decide +kernel
theorem zd_M_keep_139 : decode zb_M_keep 139 = .ok (.aload_n 0, 1) := by decide +kernel
theorem zd_M_keep_140 : decode zb_M_keep 140 = .ok (.getfield 37, 3) := by decide +kernel
theorem zd_M_keep_143 : decode zb_M_keep 143 = .ok (.iload_n 1, 1) := by decide +kernel
theorem zd_M_keep_144 : decode zb_M_keep 144 = .ok (.aaload, 1) := by decide +kernel
theorem zd_M_keep_145 : decode zb_M_keep 145 = .ok (.iconst 0, 1) := by decide +kernel
theorem zd_M_keep_146 : decode zb_M_keep 146 = .ok (.iload_n 3, 1) := by decide +kernel
theorem zd_M_keep_147 : decode zb_M_keep 147 = .ok (.iastore, 1) := by decide +kernel
theorem zd_M_keep_148 : decode zb_M_keep 148 = .ok (.aload_n 0, 1) := by decide +kernel
theorem zd_M_keep_149 : decode zb_M_keep 149 = .ok (.getfield 37, 3) := by decide +kernel
theorem zd_M_keep_152 : decode zb_M_keep 152 = .ok (.iload_n 1, 1) := by decide +kernel
theorem zd_M_keep_153 : decode zb_M_keep 153 = .ok (.aaload, 1) := by decide +kernel
theorem zd_M_keep_154 : decode zb_M_keep 154 = .ok (.iconst 1, 1) := by decide +kernel
theorem zd_M_keep_155 : decode zb_M_keep 155 = .ok (.aload_n 0, 1) := by decide +kernel
theorem zd_M_keep_156 : decode zb_M_keep 156 = .ok (.getfield 10, 3) := by decide +kernel
theorem zd_M_keep_159 : decode zb_M_keep 159 = .ok (.iload_n 3, 1) := by decide +kernel
theorem zd_M_keep_160 : decode zb_M_keep 160 = .ok (.invokevirtual 226, 3) := by decide +kernel
theorem zd_M_keep_163 : decode zb_M_keep 163 = .ok (.iastore, 1) := by decide +kernel
theorem zd_M_keep_164 : decode zb_M_keep 164 = .ok (.aload_n 0, 1) := by decide +kernel
theorem zd_M_keep_165 : decode zb_M_keep 165 = .ok (.getfield 37, 3) := by decide +kernel
theorem zd_M_keep_168 : decode zb_M_keep 168 = .ok (.iload_n 1, 1) := by decide +kernel
theorem zd_M_keep_169 : decode zb_M_keep 169 = .ok (.aaload, 1) := by decide +kernel
theorem zd_M_keep_170 : decode zb_M_keep 170 = .ok (.iconst 2, 1) := by decide +kernel
theorem zd_M_keep_171 : decode zb_M_keep 171 = .ok (.aload_n 0, 1) := by decide +kernel
theorem zd_M_keep_172 : decode zb_M_keep 172 = .ok (.getfield 10, 3) := by decide +kernel
theorem zd_M_keep_175 : decode zb_M_keep 175 = .ok (.getfield 192, 3) := by decide +kernel
theorem zd_M_keep_178 : decode zb_M_keep 178 = .ok (.iload_n 3, 1) := by decide +kernel
theorem zd_M_keep_179 : decode zb_M_keep 179 = .ok (.iaload, 1) := by decide +kernel
theorem zd_M_keep_180 : decode zb_M_keep 180 = .ok (.iastore, 1) := by decide +kernel
theorem zd_M_keep_181 : decode zb_M_keep 181 = .ok (.aload_n 0, 1) := by decide +kernel
theorem zd_M_keep_182 : decode zb_M_keep 182 = .ok (.getfield 37, 3) := by decide +kernel
theorem zd_M_keep_185 : decode zb_M_keep 185 = .ok (.iload_n 1, 1) := by decide +kernel
theorem zd_M_keep_186 : decode zb_M_keep 186 = .ok (.aaload, 1) := by decide +kernel
theorem zd_M_keep_187 : decode zb_M_keep 187 = .ok (.iconst 3, 1) := by decide +kernel
theorem zd_M_keep_188 : decode zb_M_keep 188 = .ok (.aload_n 0, 1) := by decide +kernel
theorem zd_M_keep_189 : decode zb_M_keep 189 = .ok (.getfield 10, 3) := by decide +kernel
theorem zd_M_keep_192 : decode zb_M_keep 192 = .ok (.getfield 200, 3) := by decide +kernel
theorem zd_M_keep_195 : decode zb_M_keep 195 = .ok (.iload_n 3, 1) := by decide +kernel
theorem zd_M_keep_196 : decode zb_M_keep 196 = .ok (.iaload, 1) := by decide +kernel
theorem zd_M_keep_197 : decode zb_M_keep 197 = .ok (.iastore, 1) := by decide +kernel
theorem zd_M_keep_198 : decode zb_M_keep 198 = .ok (.iconst 0, 1) := by decide +kernel
theorem zd_M_keep_199 : decode zb_M_keep 199 = .ok (.ireturn, 1) := by decide +kernel

def zf_M_keep_70 (x1 : Int) (x2 : Int) (x3 : Int) (S : Sg) : Option (Int × Sg) :=
    zck (0 ≤ x1 ∧ x1 < 8) <| zlt (zu S 9 0 1 x1 x2) fun S2 => if x2 = 1 then (zbd (zf_W_kind (0) x3 S2) fun a12 S13 => zlt (zu S13 11 x1 0 0 a12) fun S14 => zbd (zf_W_age (0) x3 S14) fun a15 S16 => zlt (zu S16 11 x1 0 1 a15) fun S17 => zck (0 ≤ x3 ∧ x3 < 40) <| zlt (zu S17 11 x1 0 2 (S17 5 0 2 x3)) fun S19 => some (0, S19)) else (if x2 = 2 then (zlt (zu S2 11 x1 0 0 x3) fun S5 => zbd (zf_W_subject (0) x3 S5) fun a6 S7 => zlt (zu S7 11 x1 0 1 a6) fun S8 => zck (0 ≤ x3 ∧ x3 < 12) <| zlt (zu S8 11 x1 0 2 (S8 5 0 14 x3)) fun S10 => zlt (zu S10 11 x1 0 3 (S10 5 0 17 x3)) fun S11 => some (0, S11)) else (some (0, S2)))
set_option maxHeartbeats 4000000 in
set_option maxRecDepth 100000 in
theorem zw_M_keep_70 {p : Program} {l : Launch} {e : Env} {s : State} {m : MethodId} {args : Array Value} {below : List Frame} {meth : Method} {c : Code} {B : zB} (C : CallFix p m c zb_M_keep 4 s args zT "IslandOfficeModel") (hr : meth.sig.returnType = some .int) (hlk : meth.locks = false) (hK : zK B s) (hSt : zSt B s) (hap : zAp B) {res : Int} {S9 : Sg} : ∀ (x1 : Int) (x2 : Int) (x3 : Int) (S : Sg) (nx1 : zn x1) (nx2 : zn x2) (nx3 : zn x3), zf_M_keep_70 x1 x2 x3 S = some (res, S9) → ∀ (H : Heap) (locs : List Loc) (ls : Array Slot), zW B S H → va_S B.2.2.2 s.heap H locs → lv_has ls 4 [(0, .ref (B.2.1 9 (0) (0))), (1, .int (zI (x1))), (2, .int (zI (x2))), (3, .int (zI (x3)))] → W p l e zm_M_keep s m args below meth c H locs 0 0 (MQ below (zQi B res S9) args s 0 0 B.2.2.2) (F0 m 70 ls []) := by
  intro x1 x2 x3 S nx1 nx2 nx3 hf H locs ls hW hS hl
  unfold zf_M_keep_70 at hf
  refine lv_aload_n C.1 C.2.1 zd_M_keep_70 rfl (lv_at hl 0 rfl) ?_
  refine zg_M_held (r := 0) C hK hW (zvd_9 (by decide) (by decide)) zk_1505 zd_M_keep_71 ?_
  refine lv_iload_n C.1 C.2.1 zd_M_keep_74 rfl (lv_at hl 1 rfl) ?_
  refine lv_iload_n C.1 C.2.1 zd_M_keep_75 rfl (lv_at hl 2 rfl) ?_
  obtain ⟨h1, hf⟩ := zck_some hf
  obtain ⟨S2, eS2, hf⟩ := zlt_some hf
  refine ziast C hK hap hW hS (zvd_9 (by decide) (by decide)) (fun f => ze_9_1 B f (0)) (by decide) rfl nx2 h1 zd_M_keep_76 (fun H locs hW hS => ?_)
  rw [eS2] at hW
  refine lv_iload_n C.1 C.2.1 zd_M_keep_77 rfl (lv_at hl 2 rfl) ?_
  refine zr_iconst C zd_M_keep_78 ?_
  refine zr_icmp_ne (tgt := 134) C nx2 (znb rfl) zd_M_keep_79 (by decide) (fun c3 => ?_) (fun c3 => ?_)
  · rw [if_neg c3] at hf
    refine lv_iload_n C.1 C.2.1 zd_M_keep_134 rfl (lv_at hl 2 rfl) ?_
    refine zr_iconst C zd_M_keep_135 ?_
    refine zr_icmp_ne (tgt := 198) C nx2 (znb rfl) zd_M_keep_136 (by decide) (fun c4 => ?_) (fun c4 => ?_)
    · rw [if_neg c4] at hf
      refine zr_iconst C zd_M_keep_198 ?_
      cases hf
      exact zre_i C hr hlk hK hW hS (znb rfl) zd_M_keep_199
    · rw [if_pos c4] at hf
      refine lv_aload_n C.1 C.2.1 zd_M_keep_139 rfl (lv_at hl 0 rfl) ?_
      refine zg_M_kept (r := 0) C hK hW (zvd_9 (by decide) (by decide)) zk_1509 zd_M_keep_140 ?_
      refine lv_iload_n C.1 C.2.1 zd_M_keep_143 rfl (lv_at hl 1 rfl) ?_
      refine zaald (t0 := 4) C hK hW (zvd_9 (by decide) (by decide)) (fun f => ze_9_5 B f (0)) rfl rfl (by decide) h1 zd_M_keep_144 (a := B.2.1 11 (x1) (0)) (by rw [Int.toNat_of_nonneg h1.1]) ?_
      refine zr_iconst C zd_M_keep_145 ?_
      refine lv_iload_n C.1 C.2.1 zd_M_keep_146 rfl (lv_at hl 3 rfl) ?_
      obtain ⟨S5, eS5, hf⟩ := zlt_some hf
      refine ziast C hK hap hW hS (zvd_11 h1 (by decide)) (fun f => ze_11_0 B f (x1)) (by decide) rfl nx3 (by decide) zd_M_keep_147 (fun H locs hW hS => ?_)
      rw [eS5] at hW
      refine lv_aload_n C.1 C.2.1 zd_M_keep_148 rfl (lv_at hl 0 rfl) ?_
      refine zg_M_kept (r := 0) C hK hW (zvd_9 (by decide) (by decide)) zk_1509 zd_M_keep_149 ?_
      refine lv_iload_n C.1 C.2.1 zd_M_keep_152 rfl (lv_at hl 1 rfl) ?_
      refine zaald (t0 := 4) C hK hW (zvd_9 (by decide) (by decide)) (fun f => ze_9_5 B f (0)) rfl rfl (by decide) h1 zd_M_keep_153 (a := B.2.1 11 (x1) (0)) (by rw [Int.toNat_of_nonneg h1.1]) ?_
      refine zr_iconst C zd_M_keep_154 ?_
      refine lv_aload_n C.1 C.2.1 zd_M_keep_155 rfl (lv_at hl 0 rfl) ?_
      refine zg_M_world (r := 0) C hK hW (zvd_9 (by decide) (by decide)) zk_1500 zd_M_keep_156 ?_
      refine lv_iload_n C.1 C.2.1 zd_M_keep_159 rfl (lv_at hl 3 rfl) ?_
      obtain ⟨a6, S7, ea6, hf⟩ := zbd_some hf
      refine zcVi (As := [.int (zI (x3))]) (rest := [.int (zI (1)), .ref (B.2.1 11 (x1) (0))]) C hK hSt hW hS (zc_W_subject hap (0) (by decide) x3 S5 nx3 ea6) zq_W_subject zk_1774 (zrecv hK hW (zvd_5 (by decide) (by decide)) (ze_5_0 B _ (0)) rfl) ⟨rfl, rfl, by decide, by decide⟩ ⟨Nat.zero_le _, Nat.zero_le _⟩ rfl hl.1 rfl (lv_room (Nat.le_of_ble_eq_true rfl)) zd_M_keep_160 (fun na6 H locs hW hS => ?_)
      obtain ⟨S8, eS8, hf⟩ := zlt_some hf
      refine ziast C hK hap hW hS (zvd_11 h1 (by decide)) (fun f => ze_11_0 B f (x1)) (by decide) rfl na6 (by decide) zd_M_keep_163 (fun H locs hW hS => ?_)
      rw [eS8] at hW
      refine lv_aload_n C.1 C.2.1 zd_M_keep_164 rfl (lv_at hl 0 rfl) ?_
      refine zg_M_kept (r := 0) C hK hW (zvd_9 (by decide) (by decide)) zk_1509 zd_M_keep_165 ?_
      refine lv_iload_n C.1 C.2.1 zd_M_keep_168 rfl (lv_at hl 1 rfl) ?_
      refine zaald (t0 := 4) C hK hW (zvd_9 (by decide) (by decide)) (fun f => ze_9_5 B f (0)) rfl rfl (by decide) h1 zd_M_keep_169 (a := B.2.1 11 (x1) (0)) (by rw [Int.toNat_of_nonneg h1.1]) ?_
      refine zr_iconst C zd_M_keep_170 ?_
      refine lv_aload_n C.1 C.2.1 zd_M_keep_171 rfl (lv_at hl 0 rfl) ?_
      refine zg_M_world (r := 0) C hK hW (zvd_9 (by decide) (by decide)) zk_1500 zd_M_keep_172 ?_
      refine zg_W_size (r := 0) C hK hW (zvd_5 (by decide) (by decide)) zk_1312 zd_M_keep_175 ?_
      refine lv_iload_n C.1 C.2.1 zd_M_keep_178 rfl (lv_at hl 3 rfl) ?_
      obtain ⟨h9, hf⟩ := zck_some hf
      refine ziald C hK hW (zvd_5 (by decide) (by decide)) (fun f => ze_5_14 B f (0)) (by decide) h9 zd_M_keep_179 ?_
      obtain ⟨S10, eS10, hf⟩ := zlt_some hf
      refine ziast C hK hap hW hS (zvd_11 h1 (by decide)) (fun f => ze_11_0 B f (x1)) (by decide) rfl (zWn hW _ _ _ _ rfl) (by decide) zd_M_keep_180 (fun H locs hW hS => ?_)
      rw [eS10] at hW
      refine lv_aload_n C.1 C.2.1 zd_M_keep_181 rfl (lv_at hl 0 rfl) ?_
      refine zg_M_kept (r := 0) C hK hW (zvd_9 (by decide) (by decide)) zk_1509 zd_M_keep_182 ?_
      refine lv_iload_n C.1 C.2.1 zd_M_keep_185 rfl (lv_at hl 1 rfl) ?_
      refine zaald (t0 := 4) C hK hW (zvd_9 (by decide) (by decide)) (fun f => ze_9_5 B f (0)) rfl rfl (by decide) h1 zd_M_keep_186 (a := B.2.1 11 (x1) (0)) (by rw [Int.toNat_of_nonneg h1.1]) ?_
      refine zr_iconst C zd_M_keep_187 ?_
      refine lv_aload_n C.1 C.2.1 zd_M_keep_188 rfl (lv_at hl 0 rfl) ?_
      refine zg_M_world (r := 0) C hK hW (zvd_9 (by decide) (by decide)) zk_1500 zd_M_keep_189 ?_
      refine zg_W_voters (r := 0) C hK hW (zvd_5 (by decide) (by decide)) zk_1318 zd_M_keep_192 ?_
      refine lv_iload_n C.1 C.2.1 zd_M_keep_195 rfl (lv_at hl 3 rfl) ?_
      refine ziald C hK hW (zvd_5 (by decide) (by decide)) (fun f => ze_5_17 B f (0)) (by decide) h9 zd_M_keep_196 ?_
      obtain ⟨S11, eS11, hf⟩ := zlt_some hf
      refine ziast C hK hap hW hS (zvd_11 h1 (by decide)) (fun f => ze_11_0 B f (x1)) (by decide) rfl (zWn hW _ _ _ _ rfl) (by decide) zd_M_keep_197 (fun H locs hW hS => ?_)
      rw [eS11] at hW
      refine zr_iconst C zd_M_keep_198 ?_
      cases hf
      exact zre_i C hr hlk hK hW hS (znb rfl) zd_M_keep_199
  · rw [if_pos c3] at hf
    refine lv_aload_n C.1 C.2.1 zd_M_keep_82 rfl (lv_at hl 0 rfl) ?_
    refine zg_M_kept (r := 0) C hK hW (zvd_9 (by decide) (by decide)) zk_1509 zd_M_keep_83 ?_
    refine lv_iload_n C.1 C.2.1 zd_M_keep_86 rfl (lv_at hl 1 rfl) ?_
    refine zaald (t0 := 4) C hK hW (zvd_9 (by decide) (by decide)) (fun f => ze_9_5 B f (0)) rfl rfl (by decide) h1 zd_M_keep_87 (a := B.2.1 11 (x1) (0)) (by rw [Int.toNat_of_nonneg h1.1]) ?_
    refine zr_iconst C zd_M_keep_88 ?_
    refine lv_aload_n C.1 C.2.1 zd_M_keep_89 rfl (lv_at hl 0 rfl) ?_
    refine zg_M_world (r := 0) C hK hW (zvd_9 (by decide) (by decide)) zk_1500 zd_M_keep_90 ?_
    refine lv_iload_n C.1 C.2.1 zd_M_keep_93 rfl (lv_at hl 3 rfl) ?_
    obtain ⟨a12, S13, ea12, hf⟩ := zbd_some hf
    refine zcVi (As := [.int (zI (x3))]) (rest := [.int (zI (0)), .ref (B.2.1 11 (x1) (0))]) C hK hSt hW hS (zc_W_kind hap (0) (by decide) x3 S2 nx3 ea12) zq_W_kind zk_1580 (zrecv hK hW (zvd_5 (by decide) (by decide)) (ze_5_0 B _ (0)) rfl) ⟨rfl, rfl, by decide, by decide⟩ ⟨Nat.zero_le _, Nat.zero_le _⟩ rfl hl.1 rfl (lv_room (Nat.le_of_ble_eq_true rfl)) zd_M_keep_94 (fun na12 H locs hW hS => ?_)
    obtain ⟨S14, eS14, hf⟩ := zlt_some hf
    refine ziast C hK hap hW hS (zvd_11 h1 (by decide)) (fun f => ze_11_0 B f (x1)) (by decide) rfl na12 (by decide) zd_M_keep_97 (fun H locs hW hS => ?_)
    rw [eS14] at hW
    refine lv_aload_n C.1 C.2.1 zd_M_keep_98 rfl (lv_at hl 0 rfl) ?_
    refine zg_M_kept (r := 0) C hK hW (zvd_9 (by decide) (by decide)) zk_1509 zd_M_keep_99 ?_
    refine lv_iload_n C.1 C.2.1 zd_M_keep_102 rfl (lv_at hl 1 rfl) ?_
    refine zaald (t0 := 4) C hK hW (zvd_9 (by decide) (by decide)) (fun f => ze_9_5 B f (0)) rfl rfl (by decide) h1 zd_M_keep_103 (a := B.2.1 11 (x1) (0)) (by rw [Int.toNat_of_nonneg h1.1]) ?_
    refine zr_iconst C zd_M_keep_104 ?_
    refine lv_aload_n C.1 C.2.1 zd_M_keep_105 rfl (lv_at hl 0 rfl) ?_
    refine zg_M_world (r := 0) C hK hW (zvd_9 (by decide) (by decide)) zk_1500 zd_M_keep_106 ?_
    refine lv_iload_n C.1 C.2.1 zd_M_keep_109 rfl (lv_at hl 3 rfl) ?_
    obtain ⟨a15, S16, ea15, hf⟩ := zbd_some hf
    refine zcVi (As := [.int (zI (x3))]) (rest := [.int (zI (1)), .ref (B.2.1 11 (x1) (0))]) C hK hSt hW hS (zc_W_age hap (0) (by decide) x3 S14 nx3 ea15) zq_W_age zk_1592 (zrecv hK hW (zvd_5 (by decide) (by decide)) (ze_5_0 B _ (0)) rfl) ⟨rfl, rfl, by decide, by decide⟩ ⟨Nat.zero_le _, Nat.zero_le _⟩ rfl hl.1 rfl (lv_room (Nat.le_of_ble_eq_true rfl)) zd_M_keep_110 (fun na15 H locs hW hS => ?_)
    obtain ⟨S17, eS17, hf⟩ := zlt_some hf
    refine ziast C hK hap hW hS (zvd_11 h1 (by decide)) (fun f => ze_11_0 B f (x1)) (by decide) rfl na15 (by decide) zd_M_keep_113 (fun H locs hW hS => ?_)
    rw [eS17] at hW
    refine lv_aload_n C.1 C.2.1 zd_M_keep_114 rfl (lv_at hl 0 rfl) ?_
    refine zg_M_kept (r := 0) C hK hW (zvd_9 (by decide) (by decide)) zk_1509 zd_M_keep_115 ?_
    refine lv_iload_n C.1 C.2.1 zd_M_keep_118 rfl (lv_at hl 1 rfl) ?_
    refine zaald (t0 := 4) C hK hW (zvd_9 (by decide) (by decide)) (fun f => ze_9_5 B f (0)) rfl rfl (by decide) h1 zd_M_keep_119 (a := B.2.1 11 (x1) (0)) (by rw [Int.toNat_of_nonneg h1.1]) ?_
    refine zr_iconst C zd_M_keep_120 ?_
    refine lv_aload_n C.1 C.2.1 zd_M_keep_121 rfl (lv_at hl 0 rfl) ?_
    refine zg_M_world (r := 0) C hK hW (zvd_9 (by decide) (by decide)) zk_1500 zd_M_keep_122 ?_
    refine zg_W_house (r := 0) C hK hW (zvd_5 (by decide) (by decide)) zk_1282 zd_M_keep_125 ?_
    refine lv_iload_n C.1 C.2.1 zd_M_keep_128 rfl (lv_at hl 3 rfl) ?_
    obtain ⟨h18, hf⟩ := zck_some hf
    refine ziald C hK hW (zvd_5 (by decide) (by decide)) (fun f => ze_5_2 B f (0)) (by decide) h18 zd_M_keep_129 ?_
    obtain ⟨S19, eS19, hf⟩ := zlt_some hf
    refine ziast C hK hap hW hS (zvd_11 h1 (by decide)) (fun f => ze_11_0 B f (x1)) (by decide) rfl (zWn hW _ _ _ _ rfl) (by decide) zd_M_keep_130 (fun H locs hW hS => ?_)
    rw [eS19] at hW
    refine lv_goto (tgt := 198) C.1 C.2.1 zd_M_keep_131 (by decide) ?_
    refine zr_iconst C zd_M_keep_198 ?_
    cases hf
    exact zre_i C hr hlk hK hW hS (znb rfl) zd_M_keep_199

def zf_M_keep_49 (x1 : Int) (x2 : Int) (x3 : Int) (S : Sg) : Option (Int × Sg) :=
    if x2 = 1 then (zck (0 ≤ x3 ∧ x3 < 40) <| if (S 5 0 5 x3) = 2 then (some (-3, S)) else (zf_M_keep_70 (x1) (x2) (x3) S)) else (zf_M_keep_70 (x1) (x2) (x3) S)
set_option maxHeartbeats 4000000 in
set_option maxRecDepth 100000 in
theorem zw_M_keep_49 {p : Program} {l : Launch} {e : Env} {s : State} {m : MethodId} {args : Array Value} {below : List Frame} {meth : Method} {c : Code} {B : zB} (C : CallFix p m c zb_M_keep 4 s args zT "IslandOfficeModel") (hr : meth.sig.returnType = some .int) (hlk : meth.locks = false) (hK : zK B s) (hSt : zSt B s) (hap : zAp B) {res : Int} {S9 : Sg} : ∀ (x1 : Int) (x2 : Int) (x3 : Int) (S : Sg) (nx1 : zn x1) (nx2 : zn x2) (nx3 : zn x3), zf_M_keep_49 x1 x2 x3 S = some (res, S9) → ∀ (H : Heap) (locs : List Loc) (ls : Array Slot), zW B S H → va_S B.2.2.2 s.heap H locs → lv_has ls 4 [(0, .ref (B.2.1 9 (0) (0))), (1, .int (zI (x1))), (2, .int (zI (x2))), (3, .int (zI (x3)))] → W p l e zm_M_keep s m args below meth c H locs 0 0 (MQ below (zQi B res S9) args s 0 0 B.2.2.2) (F0 m 49 ls []) := by
  intro x1 x2 x3 S nx1 nx2 nx3 hf H locs ls hW hS hl
  unfold zf_M_keep_49 at hf
  refine lv_iload_n C.1 C.2.1 zd_M_keep_49 rfl (lv_at hl 2 rfl) ?_
  refine zr_iconst C zd_M_keep_50 ?_
  refine zr_icmp_ne (tgt := 70) C nx2 (znb rfl) zd_M_keep_51 (by decide) (fun c1 => ?_) (fun c1 => ?_)
  · rw [if_neg c1] at hf
    exact zw_M_keep_70 C hr hlk hK hSt hap   (x1) (x2) (x3) S nx1 nx2 nx3 hf _ _ _ hW hS (lv_sub hl [0, 1, 2, 3] rfl)
  · rw [if_pos c1] at hf
    refine lv_aload_n C.1 C.2.1 zd_M_keep_54 rfl (lv_at hl 0 rfl) ?_
    refine zg_M_world (r := 0) C hK hW (zvd_9 (by decide) (by decide)) zk_1500 zd_M_keep_55 ?_
    refine zg_W_state (r := 0) C hK hW (zvd_5 (by decide) (by decide)) zk_1288 zd_M_keep_58 ?_
    refine lv_iload_n C.1 C.2.1 zd_M_keep_61 rfl (lv_at hl 3 rfl) ?_
    obtain ⟨h2, hf⟩ := zck_some hf
    refine ziald C hK hW (zvd_5 (by decide) (by decide)) (fun f => ze_5_5 B f (0)) (by decide) h2 zd_M_keep_62 ?_
    refine zr_iconst C zd_M_keep_63 ?_
    refine zr_icmp_ne (tgt := 70) C (zWn hW _ _ _ _ rfl) (znb rfl) zd_M_keep_64 (by decide) (fun c3 => ?_) (fun c3 => ?_)
    · rw [if_neg c3] at hf
      exact zw_M_keep_70 C hr hlk hK hSt hap   (x1) (x2) (x3) S nx1 nx2 nx3 hf _ _ _ hW hS (lv_sub hl [0, 1, 2, 3] rfl)
    · rw [if_pos c3] at hf
      refine zr_bipush C zd_M_keep_67 (by decide) ?_
      cases hf
      exact zre_i C hr hlk hK hW hS (znb rfl) zd_M_keep_69

def zf_M_keep_34 (x1 : Int) (x2 : Int) (x3 : Int) (S : Sg) : Option (Int × Sg) :=
    if x2 = 2 then (zbd (zf_M_isLaw x3 S) fun a2 S3 => if a2 = 0 then (some (-1, S3)) else (zf_M_keep_49 (x1) (x2) (x3) S3)) else (zf_M_keep_49 (x1) (x2) (x3) S)
set_option maxHeartbeats 4000000 in
set_option maxRecDepth 100000 in
theorem zw_M_keep_34 {p : Program} {l : Launch} {e : Env} {s : State} {m : MethodId} {args : Array Value} {below : List Frame} {meth : Method} {c : Code} {B : zB} (C : CallFix p m c zb_M_keep 4 s args zT "IslandOfficeModel") (hr : meth.sig.returnType = some .int) (hlk : meth.locks = false) (hK : zK B s) (hSt : zSt B s) (hap : zAp B) {res : Int} {S9 : Sg} : ∀ (x1 : Int) (x2 : Int) (x3 : Int) (S : Sg) (nx1 : zn x1) (nx2 : zn x2) (nx3 : zn x3), zf_M_keep_34 x1 x2 x3 S = some (res, S9) → ∀ (H : Heap) (locs : List Loc) (ls : Array Slot), zW B S H → va_S B.2.2.2 s.heap H locs → lv_has ls 4 [(0, .ref (B.2.1 9 (0) (0))), (1, .int (zI (x1))), (2, .int (zI (x2))), (3, .int (zI (x3)))] → W p l e zm_M_keep s m args below meth c H locs 0 0 (MQ below (zQi B res S9) args s 0 0 B.2.2.2) (F0 m 34 ls []) := by
  intro x1 x2 x3 S nx1 nx2 nx3 hf H locs ls hW hS hl
  unfold zf_M_keep_34 at hf
  refine lv_iload_n C.1 C.2.1 zd_M_keep_34 rfl (lv_at hl 2 rfl) ?_
  refine zr_iconst C zd_M_keep_35 ?_
  refine zr_icmp_ne (tgt := 49) C nx2 (znb rfl) zd_M_keep_36 (by decide) (fun c1 => ?_) (fun c1 => ?_)
  · rw [if_neg c1] at hf
    exact zw_M_keep_49 C hr hlk hK hSt hap   (x1) (x2) (x3) S nx1 nx2 nx3 hf _ _ _ hW hS (lv_sub hl [0, 1, 2, 3] rfl)
  · rw [if_pos c1] at hf
    refine lv_aload_n C.1 C.2.1 zd_M_keep_39 rfl (lv_at hl 0 rfl) ?_
    refine lv_iload_n C.1 C.2.1 zd_M_keep_40 rfl (lv_at hl 3 rfl) ?_
    obtain ⟨a2, S3, ea2, hf⟩ := zbd_some hf
    refine zcVi (As := [.int (zI (x3))]) (rest := []) C hK hSt hW hS (zc_M_isLaw hap x3 S nx3 ea2) zq_M_isLaw zk_1749 (zrecv hK hW (zvd_9 (by decide) (by decide)) (ze_9_0 B _ (0)) rfl) ⟨rfl, rfl, by decide, by decide⟩ ⟨Nat.zero_le _, Nat.zero_le _⟩ rfl hl.1 rfl (lv_room (Nat.le_of_ble_eq_true rfl)) zd_M_keep_41 (fun na2 H locs hW hS => ?_)
    refine zr_if_ne (tgt := 49) C na2 zd_M_keep_44 (by decide) (fun c4 => ?_) (fun c4 => ?_)
    · rw [if_neg c4] at hf
      exact zw_M_keep_49 C hr hlk hK hSt hap   (x1) (x2) (x3) S3 nx1 nx2 nx3 hf _ _ _ hW hS (lv_sub hl [0, 1, 2, 3] rfl)
    · rw [if_pos c4] at hf
      refine zr_iconst C zd_M_keep_47 ?_
      cases hf
      exact zre_i C hr hlk hK hW hS (znb rfl) zd_M_keep_48

def zf_M_keep (x1 : Int) (x2 : Int) (x3 : Int) (S : Sg) : Option (Int × Sg) :=
    zlt (zu S 9 0 0 4 0) fun S1 => zbd (zf_M_isShelf x1 S1) fun a2 S3 => if a2 = 0 then (some (-1, S3)) else (zbd (zf_M_in x2 0 2 S3) fun a5 S6 => if a5 = 0 then (some (-1, S6)) else (if x2 = 1 then (zbd (zf_M_isPerson x3 S6) fun a9 S10 => if a9 = 0 then (some (-1, S10)) else (zf_M_keep_34 (x1) (x2) (x3) S10)) else (zf_M_keep_34 (x1) (x2) (x3) S6)))
set_option maxHeartbeats 4000000 in
set_option maxRecDepth 100000 in
theorem zw_M_keep {p : Program} {l : Launch} {e : Env} {s : State} {m : MethodId} {args : Array Value} {below : List Frame} {meth : Method} {c : Code} {B : zB} (C : CallFix p m c zb_M_keep 4 s args zT "IslandOfficeModel") (hr : meth.sig.returnType = some .int) (hlk : meth.locks = false) (hK : zK B s) (hSt : zSt B s) (hap : zAp B) {res : Int} {S9 : Sg} : ∀ (x1 : Int) (x2 : Int) (x3 : Int) (S : Sg) (nx1 : zn x1) (nx2 : zn x2) (nx3 : zn x3), zf_M_keep x1 x2 x3 S = some (res, S9) → ∀ (H : Heap) (locs : List Loc) (ls : Array Slot), zW B S H → va_S B.2.2.2 s.heap H locs → lv_has ls 4 [(0, .ref (B.2.1 9 (0) (0))), (1, .int (zI (x1))), (2, .int (zI (x2))), (3, .int (zI (x3)))] → W p l e zm_M_keep s m args below meth c H locs 0 0 (MQ below (zQi B res S9) args s 0 0 B.2.2.2) (F0 m 0 ls []) := by
  intro x1 x2 x3 S nx1 nx2 nx3 hf H locs ls hW hS hl
  unfold zf_M_keep at hf
  refine lv_aload_n C.1 C.2.1 zd_M_keep_0 rfl (lv_at hl 0 rfl) ?_
  refine zr_iconst C zd_M_keep_1 ?_
  obtain ⟨S1, eS1, hf⟩ := zlt_some hf
  refine zp_M_thrown (r := 0) C hK hap hW hS (zvd_9 (by decide) (by decide)) zk_1504 (znb rfl) zd_M_keep_2 (fun H locs hW hS => ?_)
  rw [eS1] at hW
  refine lv_iload_n C.1 C.2.1 zd_M_keep_5 rfl (lv_at hl 1 rfl) ?_
  obtain ⟨a2, S3, ea2, hf⟩ := zbd_some hf
  refine zcSi (As := [.int (zI (x1))]) (rest := []) C hK hSt hW hS (zc_M_isShelf hap x1 S1 nx1 ea2) zq_M_isShelf zk_1645 ⟨rfl, rfl, by decide, by decide⟩ ⟨Nat.zero_le _, Nat.zero_le _⟩ rfl hl.1 rfl (lv_room (Nat.le_of_ble_eq_true rfl)) zd_M_keep_6 (fun na2 H locs hW hS => ?_)
  refine zr_if_eq (tgt := 47) C na2 zd_M_keep_9 (by decide) (fun c4 => ?_) (fun c4 => ?_)
  · rw [if_pos c4] at hf
    refine zr_iconst C zd_M_keep_47 ?_
    cases hf
    exact zre_i C hr hlk hK hW hS (znb rfl) zd_M_keep_48
  · rw [if_neg c4] at hf
    refine lv_iload_n C.1 C.2.1 zd_M_keep_12 rfl (lv_at hl 2 rfl) ?_
    refine zr_iconst C zd_M_keep_13 ?_
    refine zr_iconst C zd_M_keep_14 ?_
    obtain ⟨a5, S6, ea5, hf⟩ := zbd_some hf
    refine zcSi (As := [.int (zI (x2)), .int (zI (0)), .int (zI (2))]) (rest := []) C hK hSt hW hS (zc_M_in hap x2 0 2 S3 nx2 (znb rfl) (znb rfl) ea5) zq_M_in zk_1558 ⟨rfl, rfl, by decide, by decide⟩ ⟨Nat.zero_le _, Nat.zero_le _⟩ rfl hl.1 rfl (lv_room (Nat.le_of_ble_eq_true rfl)) zd_M_keep_15 (fun na5 H locs hW hS => ?_)
    refine zr_if_eq (tgt := 47) C na5 zd_M_keep_18 (by decide) (fun c7 => ?_) (fun c7 => ?_)
    · rw [if_pos c7] at hf
      refine zr_iconst C zd_M_keep_47 ?_
      cases hf
      exact zre_i C hr hlk hK hW hS (znb rfl) zd_M_keep_48
    · rw [if_neg c7] at hf
      refine lv_iload_n C.1 C.2.1 zd_M_keep_21 rfl (lv_at hl 2 rfl) ?_
      refine zr_iconst C zd_M_keep_22 ?_
      refine zr_icmp_ne (tgt := 34) C nx2 (znb rfl) zd_M_keep_23 (by decide) (fun c8 => ?_) (fun c8 => ?_)
      · rw [if_neg c8] at hf
        exact zw_M_keep_34 C hr hlk hK hSt hap   (x1) (x2) (x3) S6 nx1 nx2 nx3 hf _ _ _ hW hS (lv_sub hl [0, 1, 2, 3] rfl)
      · rw [if_pos c8] at hf
        refine lv_aload_n C.1 C.2.1 zd_M_keep_26 rfl (lv_at hl 0 rfl) ?_
        refine lv_iload_n C.1 C.2.1 zd_M_keep_27 rfl (lv_at hl 3 rfl) ?_
        obtain ⟨a9, S10, ea9, hf⟩ := zbd_some hf
        refine zcVi (As := [.int (zI (x3))]) (rest := []) C hK hSt hW hS (zc_M_isPerson hap x3 S6 nx3 ea9) zq_M_isPerson zk_1564 (zrecv hK hW (zvd_9 (by decide) (by decide)) (ze_9_0 B _ (0)) rfl) ⟨rfl, rfl, by decide, by decide⟩ ⟨Nat.zero_le _, Nat.zero_le _⟩ rfl hl.1 rfl (lv_room (Nat.le_of_ble_eq_true rfl)) zd_M_keep_28 (fun na9 H locs hW hS => ?_)
        refine zr_if_eq (tgt := 47) C na9 zd_M_keep_31 (by decide) (fun c11 => ?_) (fun c11 => ?_)
        · rw [if_pos c11] at hf
          refine zr_iconst C zd_M_keep_47 ?_
          cases hf
          exact zre_i C hr hlk hK hW hS (znb rfl) zd_M_keep_48
        · rw [if_neg c11] at hf
          exact zw_M_keep_34 C hr hlk hK hSt hap   (x1) (x2) (x3) S10 nx1 nx2 nx3 hf _ _ _ hW hS (lv_sub hl [0, 1, 2, 3] rfl)

theorem zc_M_keep {l : Launch} {B : zB} (hap : zAp B) (x1 : Int) (x2 : Int) (x3 : Int) (S : Sg) (nx1 : zn x1) (nx2 : zn x2) (nx3 : zn x3) {res : Int} {S9 : Sg} (hf : zf_M_keep x1 x2 x3 S = some (res, S9)) : Met l zy_M_keep (Cond.code zy_M_keep zb_M_keep 4 (some .int) :: zT) zm_M_keep (zP B S [.ref (B.2.1 9 (0) (0)), .int (zI (x1)), .int (zI (x2)), .int (zI (x3))]) (zQi B res S9) 0 0 B.2.2.2 :=
  zmet (by decide) (Nat.le_of_ble_eq_true rfl) (fun p e s m args below meth c C hr hlk hK hSt hW ls hl => zw_M_keep C hr hlk hK hSt hap   x1 x2 x3 S nx1 nx2 nx3 hf _ _ _ hW va_S.rf hl)
/-! IslandOfficeModel.row(III)I -/
abbrev zy_M_row : MethodName := ⟨"IslandOfficeModel", "row", "(III)I"⟩
abbrev zb_M_row : ByteArray := prog_14_method_67_code
abbrev zm_M_row : Room := { frames := 2, cells := 0, slots := 0, locals := 42 }
theorem zq_M_row : zMy zy_M_row zb_M_row 5 (some .int) 3 := ⟨zk_2035, zk_2033, zk_2034, zk_14, by decide, by decide, by decide +kernel⟩
theorem zd_M_row_0 : decode zb_M_row 0 = .ok (.aload_n 0, 1) := by decide +kernel
theorem zd_M_row_1 : decode zb_M_row 1 = .ok (.iconst 0, 1) := by decide +kernel
theorem zd_M_row_2 : decode zb_M_row 2 = .ok (.putfield 46, 3) := by decide +kernel
theorem zd_M_row_5 : decode zb_M_row 5 = .ok (.iload_n 1, 1) := by decide +kernel
theorem zd_M_row_6 : decode zb_M_row 6 = .ok (.invokestatic 172, 3) := by decide +kernel
theorem zd_M_row_9 : decode zb_M_row 9 = .ok (.ifCond .eq 18, 3) := by decide +kernel
theorem zd_M_row_12 : decode zb_M_row 12 = .ok (.iload_n 2, 1) := by decide +kernel
theorem zd_M_row_13 : decode zb_M_row 13 = .ok (.iconst 0, 1) := by decide +kernel
theorem zd_M_row_14 : decode zb_M_row 14 = .ok (.iconst 2, 1) := by decide +kernel
theorem zd_M_row_15 : decode zb_M_row 15 = .ok (.invokestatic 53, 3) := by decide +kernel
theorem zd_M_row_18 : decode zb_M_row 18 = .ok (.ifCond .eq 9, 3) := by decide +kernel
theorem zd_M_row_21 : decode zb_M_row 21 = .ok (.iload_n 3, 1) := by decide +kernel
theorem zd_M_row_22 : decode zb_M_row 22 = .ok (.bipush 120, 2) := by decide +kernel
theorem zd_M_row_24 : decode zb_M_row 24 = .ok (.if_icmp .le 5, 3) := by decide +kernel
theorem zd_M_row_27 : decode zb_M_row 27 = .ok (.iconst (-1), 1) := by decide +kernel
theorem zd_M_row_28 : decode zb_M_row 28 = .ok (.ireturn, 1) := by decide +kernel
theorem zd_M_row_29 : decode zb_M_row 29 = .ok (.iload_n 3, 1) := by decide +kernel
theorem zd_M_row_30 : decode zb_M_row 30 = .ok (.ifCond .ge 6, 3) := by decide +kernel
theorem zd_M_row_33 : decode zb_M_row 33 = .ok (.bipush (-14), 2) := by decide +kernel
theorem zd_M_row_35 : decode zb_M_row 35 = .ok (.ireturn, 1) := by decide +kernel
theorem zd_M_row_36 : decode zb_M_row 36 = .ok (.aload_n 0, 1) := by decide +kernel
theorem zd_M_row_37 : decode zb_M_row 37 = .ok (.getfield 22, 3) := by decide +kernel
theorem zd_M_row_40 : decode zb_M_row 40 = .ok (.iload_n 1, 1) := by decide +kernel
theorem zd_M_row_41 : decode zb_M_row 41 = .ok (.iconst 3, 1) := by decide +kernel
theorem zd_M_row_42 : decode zb_M_row 42 = .ok (.iastore, 1) := by decide +kernel
theorem zd_M_row_43 : decode zb_M_row 43 = .ok (.aload_n 0, 1) := by decide +kernel
theorem zd_M_row_44 : decode zb_M_row 44 = .ok (.getfield 26, 3) := by decide +kernel
theorem zd_M_row_47 : decode zb_M_row 47 = .ok (.iload_n 1, 1) := by decide +kernel
theorem zd_M_row_48 : decode zb_M_row 48 = .ok (.iload_n 2, 1) := by decide +kernel
theorem zd_M_row_49 : decode zb_M_row 49 = .ok (.iastore, 1) := by decide +kernel
theorem zd_M_row_50 : decode zb_M_row 50 = .ok (.aload_n 0, 1) := by decide +kernel
theorem zd_M_row_51 : decode zb_M_row 51 = .ok (.getfield 29, 3) := by decide +kernel
theorem zd_M_row_54 : decode zb_M_row 54 = .ok (.iload_n 1, 1) := by decide +kernel
theorem zd_M_row_55 : decode zb_M_row 55 = .ok (.iload_n 3, 1) := by decide +kernel
theorem zd_M_row_56 : decode zb_M_row 56 = .ok (.iastore, 1) := by decide +kernel
theorem zd_M_row_57 : decode zb_M_row 57 = .ok (.iconst 0, 1) := by decide +kernel
theorem zd_M_row_58 : decode zb_M_row 58 = .ok (.istore 4, 2) := by decide +kernel
theorem zd_M_row_60 : decode zb_M_row 60 = .ok (.iload 4, 2) := by decide +kernel
theorem zd_M_row_62 : decode zb_M_row 62 = .ok (.bipush 120, 2) := by decide +kernel
theorem zd_M_row_64 : decode zb_M_row 64 = .ok (.if_icmp .ge 19, 3) := by decide +kernel
theorem zd_M_row_67 : decode zb_M_row 67 = .ok (.aload_n 0, 1) := by decide +kernel
theorem zd_M_row_68 : decode zb_M_row 68 = .ok (.getfield 34, 3) := by decide +kernel
theorem zd_M_row_71 : decode zb_M_row 71 = .ok (.iload_n 1, 1) := by decide +kernel
theorem zd_M_row_72 : decode zb_M_row 72 = .ok (.aaload, 1) := by decide +kernel
theorem zd_M_row_73 : decode zb_M_row 73 = .ok (.iload 4, 2) := by decide +kernel
theorem zd_M_row_75 : decode zb_M_row 75 = .ok (.iconst 0, 1) := by decide +kernel
theorem zd_M_row_76 : decode zb_M_row 76 = .ok (.iastore, 1) := by decide +kernel
theorem zd_M_row_77 : decode zb_M_row 77 = .ok (.iinc 4 1, 3) := by decide +kernel
theorem zd_M_row_80 : decode zb_M_row 80 = .ok (.goto (-20), 3) := by decide +kernel
theorem zd_M_row_83 : decode zb_M_row 83 = .ok (.iconst 0, 1) := by decide +kernel
theorem zd_M_row_84 : decode zb_M_row 84 = .ok (.ireturn, 1) := by decide +kernel

def zf_M_row_60 : Nat → Int → Int → Sg → Option (Int × Sg)
  | 0, _, _, _ => none
  | n + 1, x1, x4, S =>
    if 120 ≤ x4 then (some (0, S)) else (zck (0 ≤ x1 ∧ x1 < 8) <| zck (0 ≤ x4 ∧ x4 < 120) <| zlt (zu S 10 x1 0 x4 0) fun S4 => zlt (zw (x4 + 1)) fun v5 => (zf_M_row_60 n) (x1) (v5) S4)
set_option maxHeartbeats 4000000 in
set_option maxRecDepth 100000 in
theorem zw_M_row_60 {p : Program} {l : Launch} {e : Env} {s : State} {m : MethodId} {args : Array Value} {below : List Frame} {meth : Method} {c : Code} {B : zB} (C : CallFix p m c zb_M_row 5 s args zT "IslandOfficeModel") (hr : meth.sig.returnType = some .int) (hlk : meth.locks = false) (hK : zK B s) (hSt : zSt B s) (hap : zAp B) {res : Int} {S9 : Sg} : ∀ n : Nat, ∀ (x1 : Int) (x4 : Int) (S : Sg) (nx1 : zn x1) (nx4 : zn x4), zf_M_row_60 n x1 x4 S = some (res, S9) → ∀ (H : Heap) (locs : List Loc) (ls : Array Slot), zW B S H → va_S B.2.2.2 s.heap H locs → lv_has ls 5 [(0, .ref (B.2.1 9 (0) (0))), (1, .int (zI (x1))), (4, .int (zI (x4)))] → W p l e zm_M_row s m args below meth c H locs 0 0 (MQ below (zQi B res S9) args s 0 0 B.2.2.2) (F0 m 60 ls []) := by
  intro n
  induction n with
  | zero =>
    intro x1 x4 S nx1 nx4 hf H locs ls hW hS hl
    cases hf
  | succ n ih =>
    intro x1 x4 S nx1 nx4 hf H locs ls hW hS hl
    rw [zf_M_row_60] at hf
    refine lv_iload C.1 C.2.1 zd_M_row_60 (lv_at hl 2 rfl) ?_
    refine zr_bipush C zd_M_row_62 (by decide) ?_
    refine zr_icmp_ge (tgt := 83) C nx4 (znb rfl) zd_M_row_64 (by decide) (fun c1 => ?_) (fun c1 => ?_)
    · rw [if_pos c1] at hf
      refine zr_iconst C zd_M_row_83 ?_
      cases hf
      exact zre_i C hr hlk hK hW hS (znb rfl) zd_M_row_84
    · rw [if_neg c1] at hf
      refine lv_aload_n C.1 C.2.1 zd_M_row_67 rfl (lv_at hl 0 rfl) ?_
      refine zg_M_rows (r := 0) C hK hW (zvd_9 (by decide) (by decide)) zk_1508 zd_M_row_68 ?_
      refine lv_iload_n C.1 C.2.1 zd_M_row_71 rfl (lv_at hl 1 rfl) ?_
      obtain ⟨h2, hf⟩ := zck_some hf
      refine zaald (t0 := 4) C hK hW (zvd_9 (by decide) (by decide)) (fun f => ze_9_4 B f (0)) rfl rfl (by decide) h2 zd_M_row_72 (a := B.2.1 10 (x1) (0)) (by rw [Int.toNat_of_nonneg h2.1]) ?_
      refine lv_iload C.1 C.2.1 zd_M_row_73 (lv_at hl 2 rfl) ?_
      refine zr_iconst C zd_M_row_75 ?_
      obtain ⟨h3, hf⟩ := zck_some hf
      obtain ⟨S4, eS4, hf⟩ := zlt_some hf
      refine ziast C hK hap hW hS (zvd_10 h2 (by decide)) (fun f => ze_10_0 B f (x1)) (by decide) rfl (znb rfl) h3 zd_M_row_76 (fun H locs hW hS => ?_)
      rw [eS4] at hW
      obtain ⟨v5, ev5, hf⟩ := zlt_some hf
      have nv5 : zn v5 := by rw [← ev5]; exact zn_w _
      refine lv_iinc (v := zI v5) (lv' := [(4, .int (zI (v5))), (0, .ref (B.2.1 9 (0) (0))), (1, .int (zI (x1)))]) C.1 C.2.1 zd_M_row_77 hl (k := 2) rfl (by rw [← ev5, ← zI_add]; rfl) (by decide) rfl (fun ls hl => ?_)
      refine lv_goto (tgt := 60) C.1 C.2.1 zd_M_row_80 (by decide) ?_
      exact ih (x1) (v5) S4 nx1 nv5 hf _ _ _ hW hS (lv_sub hl [1, 2, 0] rfl)

def zf_M_row (x1 : Int) (x2 : Int) (x3 : Int) (S : Sg) : Option (Int × Sg) :=
    zlt (zu S 9 0 0 4 0) fun S1 => zbd (zf_M_isShelf x1 S1) fun a2 S3 => if a2 = 0 then (some (-1, S3)) else (zbd (zf_M_in x2 0 2 S3) fun a5 S6 => if a5 = 0 then (some (-1, S6)) else (if x3 ≤ 120 then (if 0 ≤ x3 then (zck (0 ≤ x1 ∧ x1 < 8) <| zlt (zu S6 9 0 1 x1 3) fun S11 => zlt (zu S11 9 0 2 x1 x2) fun S12 => zlt (zu S12 9 0 3 x1 x3) fun S13 => zf_M_row_60 4096 (x1) (0) S13) else (some (-14, S6))) else (some (-1, S6))))
set_option maxHeartbeats 4000000 in
set_option maxRecDepth 100000 in
theorem zw_M_row {p : Program} {l : Launch} {e : Env} {s : State} {m : MethodId} {args : Array Value} {below : List Frame} {meth : Method} {c : Code} {B : zB} (C : CallFix p m c zb_M_row 5 s args zT "IslandOfficeModel") (hr : meth.sig.returnType = some .int) (hlk : meth.locks = false) (hK : zK B s) (hSt : zSt B s) (hap : zAp B) {res : Int} {S9 : Sg} : ∀ (x1 : Int) (x2 : Int) (x3 : Int) (S : Sg) (nx1 : zn x1) (nx2 : zn x2) (nx3 : zn x3), zf_M_row x1 x2 x3 S = some (res, S9) → ∀ (H : Heap) (locs : List Loc) (ls : Array Slot), zW B S H → va_S B.2.2.2 s.heap H locs → lv_has ls 5 [(0, .ref (B.2.1 9 (0) (0))), (1, .int (zI (x1))), (2, .int (zI (x2))), (3, .int (zI (x3)))] → W p l e zm_M_row s m args below meth c H locs 0 0 (MQ below (zQi B res S9) args s 0 0 B.2.2.2) (F0 m 0 ls []) := by
  intro x1 x2 x3 S nx1 nx2 nx3 hf H locs ls hW hS hl
  unfold zf_M_row at hf
  refine lv_aload_n C.1 C.2.1 zd_M_row_0 rfl (lv_at hl 0 rfl) ?_
  refine zr_iconst C zd_M_row_1 ?_
  obtain ⟨S1, eS1, hf⟩ := zlt_some hf
  refine zp_M_thrown (r := 0) C hK hap hW hS (zvd_9 (by decide) (by decide)) zk_1504 (znb rfl) zd_M_row_2 (fun H locs hW hS => ?_)
  rw [eS1] at hW
  refine lv_iload_n C.1 C.2.1 zd_M_row_5 rfl (lv_at hl 1 rfl) ?_
  obtain ⟨a2, S3, ea2, hf⟩ := zbd_some hf
  refine zcSi (As := [.int (zI (x1))]) (rest := []) C hK hSt hW hS (zc_M_isShelf hap x1 S1 nx1 ea2) zq_M_isShelf zk_1645 ⟨rfl, rfl, by decide, by decide⟩ ⟨Nat.zero_le _, Nat.zero_le _⟩ rfl hl.1 rfl (lv_room (Nat.le_of_ble_eq_true rfl)) zd_M_row_6 (fun na2 H locs hW hS => ?_)
  refine zr_if_eq (tgt := 27) C na2 zd_M_row_9 (by decide) (fun c4 => ?_) (fun c4 => ?_)
  · rw [if_pos c4] at hf
    refine zr_iconst C zd_M_row_27 ?_
    cases hf
    exact zre_i C hr hlk hK hW hS (znb rfl) zd_M_row_28
  · rw [if_neg c4] at hf
    refine lv_iload_n C.1 C.2.1 zd_M_row_12 rfl (lv_at hl 2 rfl) ?_
    refine zr_iconst C zd_M_row_13 ?_
    refine zr_iconst C zd_M_row_14 ?_
    obtain ⟨a5, S6, ea5, hf⟩ := zbd_some hf
    refine zcSi (As := [.int (zI (x2)), .int (zI (0)), .int (zI (2))]) (rest := []) C hK hSt hW hS (zc_M_in hap x2 0 2 S3 nx2 (znb rfl) (znb rfl) ea5) zq_M_in zk_1558 ⟨rfl, rfl, by decide, by decide⟩ ⟨Nat.zero_le _, Nat.zero_le _⟩ rfl hl.1 rfl (lv_room (Nat.le_of_ble_eq_true rfl)) zd_M_row_15 (fun na5 H locs hW hS => ?_)
    refine zr_if_eq (tgt := 27) C na5 zd_M_row_18 (by decide) (fun c7 => ?_) (fun c7 => ?_)
    · rw [if_pos c7] at hf
      refine zr_iconst C zd_M_row_27 ?_
      cases hf
      exact zre_i C hr hlk hK hW hS (znb rfl) zd_M_row_28
    · rw [if_neg c7] at hf
      refine lv_iload_n C.1 C.2.1 zd_M_row_21 rfl (lv_at hl 3 rfl) ?_
      refine zr_bipush C zd_M_row_22 (by decide) ?_
      refine zr_icmp_le (tgt := 29) C nx3 (znb rfl) zd_M_row_24 (by decide) (fun c8 => ?_) (fun c8 => ?_)
      · rw [if_pos c8] at hf
        refine lv_iload_n C.1 C.2.1 zd_M_row_29 rfl (lv_at hl 3 rfl) ?_
        refine zr_if_ge (tgt := 36) C nx3 zd_M_row_30 (by decide) (fun c9 => ?_) (fun c9 => ?_)
        · rw [if_pos c9] at hf
          refine lv_aload_n C.1 C.2.1 zd_M_row_36 rfl (lv_at hl 0 rfl) ?_
          refine zg_M_held (r := 0) C hK hW (zvd_9 (by decide) (by decide)) zk_1505 zd_M_row_37 ?_
          refine lv_iload_n C.1 C.2.1 zd_M_row_40 rfl (lv_at hl 1 rfl) ?_
          refine zr_iconst C zd_M_row_41 ?_
          obtain ⟨h10, hf⟩ := zck_some hf
          obtain ⟨S11, eS11, hf⟩ := zlt_some hf
          refine ziast C hK hap hW hS (zvd_9 (by decide) (by decide)) (fun f => ze_9_1 B f (0)) (by decide) rfl (znb rfl) h10 zd_M_row_42 (fun H locs hW hS => ?_)
          rw [eS11] at hW
          refine lv_aload_n C.1 C.2.1 zd_M_row_43 rfl (lv_at hl 0 rfl) ?_
          refine zg_M_rowSort (r := 0) C hK hW (zvd_9 (by decide) (by decide)) zk_1506 zd_M_row_44 ?_
          refine lv_iload_n C.1 C.2.1 zd_M_row_47 rfl (lv_at hl 1 rfl) ?_
          refine lv_iload_n C.1 C.2.1 zd_M_row_48 rfl (lv_at hl 2 rfl) ?_
          obtain ⟨S12, eS12, hf⟩ := zlt_some hf
          refine ziast C hK hap hW hS (zvd_9 (by decide) (by decide)) (fun f => ze_9_2 B f (0)) (by decide) rfl nx2 h10 zd_M_row_49 (fun H locs hW hS => ?_)
          rw [eS12] at hW
          refine lv_aload_n C.1 C.2.1 zd_M_row_50 rfl (lv_at hl 0 rfl) ?_
          refine zg_M_rowSize (r := 0) C hK hW (zvd_9 (by decide) (by decide)) zk_1507 zd_M_row_51 ?_
          refine lv_iload_n C.1 C.2.1 zd_M_row_54 rfl (lv_at hl 1 rfl) ?_
          refine lv_iload_n C.1 C.2.1 zd_M_row_55 rfl (lv_at hl 3 rfl) ?_
          obtain ⟨S13, eS13, hf⟩ := zlt_some hf
          refine ziast C hK hap hW hS (zvd_9 (by decide) (by decide)) (fun f => ze_9_3 B f (0)) (by decide) rfl nx3 h10 zd_M_row_56 (fun H locs hW hS => ?_)
          rw [eS13] at hW
          refine zr_iconst C zd_M_row_57 ?_
          refine lv_istore (lv' := [(4, .int (zI (0))), (0, .ref (B.2.1 9 (0) (0))), (1, .int (zI (x1))), (2, .int (zI (x2))), (3, .int (zI (x3)))]) C.1 C.2.1 zd_M_row_58 hl (by decide) rfl (fun ls hl => ?_)
          exact zw_M_row_60 C hr hlk hK hSt hap   4096 (x1) (0) S13 nx1 (znb rfl) hf _ _ _ hW hS (lv_sub hl [1, 2, 0] rfl)
        · rw [if_neg c9] at hf
          refine zr_bipush C zd_M_row_33 (by decide) ?_
          cases hf
          exact zre_i C hr hlk hK hW hS (znb rfl) zd_M_row_35
      · rw [if_neg c8] at hf
        refine zr_iconst C zd_M_row_27 ?_
        cases hf
        exact zre_i C hr hlk hK hW hS (znb rfl) zd_M_row_28

theorem zc_M_row {l : Launch} {B : zB} (hap : zAp B) (x1 : Int) (x2 : Int) (x3 : Int) (S : Sg) (nx1 : zn x1) (nx2 : zn x2) (nx3 : zn x3) {res : Int} {S9 : Sg} (hf : zf_M_row x1 x2 x3 S = some (res, S9)) : Met l zy_M_row (Cond.code zy_M_row zb_M_row 5 (some .int) :: zT) zm_M_row (zP B S [.ref (B.2.1 9 (0) (0)), .int (zI (x1)), .int (zI (x2)), .int (zI (x3))]) (zQi B res S9) 0 0 B.2.2.2 :=
  zmet (by decide) (Nat.le_of_ble_eq_true rfl) (fun p e s m args below meth c C hr hlk hK hSt hW ls hl => zw_M_row C hr hlk hK hSt hap   x1 x2 x3 S nx1 nx2 nx3 hf _ _ _ hW va_S.rf hl)
/-! IslandOfficeModel.put(III)I -/
abbrev zy_M_put : MethodName := ⟨"IslandOfficeModel", "put", "(III)I"⟩
abbrev zb_M_put : ByteArray := prog_14_method_68_code
abbrev zm_M_put : Room := { frames := 2, cells := 0, slots := 0, locals := 42 }
theorem zq_M_put : zMy zy_M_put zb_M_put 4 (some .int) 3 := ⟨zk_2039, zk_2037, zk_2038, zk_14, by decide, by decide, by decide +kernel⟩
theorem zd_M_put_0 : decode zb_M_put 0 = .ok (.aload_n 0, 1) := by decide +kernel
theorem zd_M_put_1 : decode zb_M_put 1 = .ok (.iconst 0, 1) := by decide +kernel
theorem zd_M_put_2 : decode zb_M_put 2 = .ok (.putfield 46, 3) := by decide +kernel
theorem zd_M_put_5 : decode zb_M_put 5 = .ok (.iload_n 1, 1) := by decide +kernel
theorem zd_M_put_6 : decode zb_M_put 6 = .ok (.invokestatic 172, 3) := by decide +kernel
theorem zd_M_put_9 : decode zb_M_put 9 = .ok (.ifCond .ne 5, 3) := by decide +kernel
theorem zd_M_put_12 : decode zb_M_put 12 = .ok (.iconst (-1), 1) := by decide +kernel
theorem zd_M_put_13 : decode zb_M_put 13 = .ok (.ireturn, 1) := by decide +kernel
theorem zd_M_put_14 : decode zb_M_put 14 = .ok (.aload_n 0, 1) := by decide +kernel
theorem zd_M_put_15 : decode zb_M_put 15 = .ok (.iload_n 1, 1) := by decide +kernel
theorem zd_M_put_16 : decode zb_M_put 16 = .ok (.invokevirtual 285, 3) := by decide +kernel
theorem zd_M_put_19 : decode zb_M_put 19 = .ok (.ifCond .eq 9, 3) := by decide +kernel
theorem zd_M_put_22 : decode zb_M_put 22 = .ok (.aload_n 0, 1) := by decide +kernel
theorem zd_M_put_23 : decode zb_M_put 23 = .ok (.iload_n 1, 1) := by decide +kernel
theorem zd_M_put_24 : decode zb_M_put 24 = .ok (.invokevirtual 285, 3) := by decide +kernel
theorem zd_M_put_27 : decode zb_M_put 27 = .ok (.ireturn, 1) := by decide +kernel
theorem zd_M_put_28 : decode zb_M_put 28 = .ok (.iload_n 2, 1) := by decide +kernel
theorem zd_M_put_29 : decode zb_M_put 29 = .ok (.iconst 0, 1) := by decide +kernel
theorem zd_M_put_30 : decode zb_M_put 30 = .ok (.aload_n 0, 1) := by decide +kernel
theorem zd_M_put_31 : decode zb_M_put 31 = .ok (.getfield 29, 3) := by decide +kernel
theorem zd_M_put_34 : decode zb_M_put 34 = .ok (.iload_n 1, 1) := by decide +kernel
theorem zd_M_put_35 : decode zb_M_put 35 = .ok (.iaload, 1) := by decide +kernel
theorem zd_M_put_36 : decode zb_M_put 36 = .ok (.iconst 1, 1) := by decide +kernel
theorem zd_M_put_37 : decode zb_M_put 37 = .ok (.isub, 1) := by decide +kernel
theorem zd_M_put_38 : decode zb_M_put 38 = .ok (.invokestatic 53, 3) := by decide +kernel
theorem zd_M_put_41 : decode zb_M_put 41 = .ok (.ifCond .ne 6, 3) := by decide +kernel
theorem zd_M_put_44 : decode zb_M_put 44 = .ok (.bipush (-13), 2) := by decide +kernel
theorem zd_M_put_46 : decode zb_M_put 46 = .ok (.ireturn, 1) := by decide +kernel
theorem zd_M_put_47 : decode zb_M_put 47 = .ok (.aload_n 0, 1) := by decide +kernel
theorem zd_M_put_48 : decode zb_M_put 48 = .ok (.getfield 34, 3) := by decide +kernel
theorem zd_M_put_51 : decode zb_M_put 51 = .ok (.iload_n 1, 1) := by decide +kernel
theorem zd_M_put_52 : decode zb_M_put 52 = .ok (.aaload, 1) := by decide +kernel
theorem zd_M_put_53 : decode zb_M_put 53 = .ok (.iload_n 2, 1) := by decide +kernel
theorem zd_M_put_54 : decode zb_M_put 54 = .ok (.aload_n 0, 1) := by decide +kernel
theorem zd_M_put_55 : decode zb_M_put 55 = .ok (.getfield 26, 3) := by decide +kernel
theorem zd_M_put_58 : decode zb_M_put 58 = .ok (.iload_n 1, 1) := by decide +kernel
theorem zd_M_put_59 : decode zb_M_put 59 = .ok (.iaload, 1) := by decide +kernel
theorem zd_M_put_60 : decode zb_M_put 60 = .ok (.ifCond .ne 8, 3) := by decide +kernel
theorem zd_M_put_63 : decode zb_M_put 63 = .ok (.iload_n 3, 1) := by decide +kernel
theorem zd_M_put_64 : decode zb_M_put 64 = .ok (.i2b, 1) := by decide +kernel
theorem zd_M_put_65 : decode zb_M_put 65 = .ok (.goto 19, 3) := by decide +kernel
theorem zd_M_put_68 : decode zb_M_put 68 = .ok (.aload_n 0, 1) := by decide +kernel
theorem zd_M_put_69 : decode zb_M_put 69 = .ok (.getfield 26, 3) := by decide +kernel
theorem zd_M_put_72 : decode zb_M_put 72 = .ok (.iload_n 1, 1) := by decide +kernel
theorem zd_M_put_73 : decode zb_M_put 73 = .ok (.iaload, 1) := by decide +kernel
theorem zd_M_put_74 : decode zb_M_put 74 = .ok (.iconst 1, 1) := by decide +kernel
theorem zd_M_put_75 : decode zb_M_put 75 = .ok (.if_icmp .ne 8, 3) := by decide +kernel
theorem zd_M_put_78 : decode zb_M_put 78 = .ok (.iload_n 3, 1) := by decide +kernel
theorem zd_M_put_79 : decode zb_M_put 79 = .ok (.i2s, 1) := by decide +kernel
theorem zd_M_put_80 : decode zb_M_put 80 = .ok (.goto 4, 3) := by decide +kernel
theorem zd_M_put_83 : decode zb_M_put 83 = .ok (.iload_n 3, 1) := by decide +kernel
theorem zd_M_put_84 : decode zb_M_put 84 = .ok (.iastore, 1) := by decide +kernel
theorem zd_M_put_85 : decode zb_M_put 85 = .ok (.iconst 0, 1) := by decide +kernel
theorem zd_M_put_86 : decode zb_M_put 86 = .ok (.ireturn, 1) := by decide +kernel

def zf_M_put_84 (yt0 : Int) (xt1 : Int) (xt2 : Int) (S : Sg) : Option (Int × Sg) :=
    zck (0 ≤ xt1 ∧ xt1 < 120) <| zlt (zu S 10 yt0 0 xt1 xt2) fun S2 => some (0, S2)
set_option maxHeartbeats 4000000 in
set_option maxRecDepth 100000 in
theorem zw_M_put_84 {p : Program} {l : Launch} {e : Env} {s : State} {m : MethodId} {args : Array Value} {below : List Frame} {meth : Method} {c : Code} {B : zB} (C : CallFix p m c zb_M_put 4 s args zT "IslandOfficeModel") (hr : meth.sig.returnType = some .int) (hlk : meth.locks = false) (hK : zK B s) (hSt : zSt B s) (hap : zAp B) {res : Int} {S9 : Sg} : ∀ (yt0 : Int) (xt1 : Int) (xt2 : Int) (S : Sg) (hyt0 : 0 ≤ yt0 ∧ yt0 < 8) (nxt1 : zn xt1) (nxt2 : zn xt2), zf_M_put_84 yt0 xt1 xt2 S = some (res, S9) → ∀ (H : Heap) (locs : List Loc) (ls : Array Slot), zW B S H → va_S B.2.2.2 s.heap H locs → lv_has ls 4 [] → W p l e zm_M_put s m args below meth c H locs 0 0 (MQ below (zQi B res S9) args s 0 0 B.2.2.2) (F0 m 84 ls [.int (zI (xt2)), .int (zI (xt1)), .ref (B.2.1 10 (yt0) (0))]) := by
  intro yt0 xt1 xt2 S hyt0 nxt1 nxt2 hf H locs ls hW hS hl
  unfold zf_M_put_84 at hf
  obtain ⟨h1, hf⟩ := zck_some hf
  obtain ⟨S2, eS2, hf⟩ := zlt_some hf
  refine ziast C hK hap hW hS (zvd_10 hyt0 (by decide)) (fun f => ze_10_0 B f (yt0)) (by decide) rfl nxt2 h1 zd_M_put_84 (fun H locs hW hS => ?_)
  rw [eS2] at hW
  refine zr_iconst C zd_M_put_85 ?_
  cases hf
  exact zre_i C hr hlk hK hW hS (znb rfl) zd_M_put_86

def zf_M_put (x1 : Int) (x2 : Int) (x3 : Int) (S : Sg) : Option (Int × Sg) :=
    zlt (zu S 9 0 0 4 0) fun S1 => zbd (zf_M_isShelf x1 S1) fun a2 S3 => if a2 = 0 then (some (-1, S3)) else (zbd (zf_M_noRow x1 S3) fun a5 S6 => if a5 = 0 then (zck (0 ≤ x1 ∧ x1 < 8) <| zbd (zf_M_in x2 0 (zw ((S6 9 0 3 x1) - 1)) S6) fun a9 S10 => if a9 = 0 then (some (-13, S10)) else (if (S10 9 0 2 x1) = 0 then (zf_M_put_84 (x1) (x2) (zi2b x3) S10) else (if (S10 9 0 2 x1) = 1 then (zf_M_put_84 (x1) (x2) (zi2s x3) S10) else (zf_M_put_84 (x1) (x2) (x3) S10)))) else (zbd (zf_M_noRow x1 S6) fun a14 S15 => some (a14, S15)))
set_option maxHeartbeats 4000000 in
set_option maxRecDepth 100000 in
theorem zw_M_put {p : Program} {l : Launch} {e : Env} {s : State} {m : MethodId} {args : Array Value} {below : List Frame} {meth : Method} {c : Code} {B : zB} (C : CallFix p m c zb_M_put 4 s args zT "IslandOfficeModel") (hr : meth.sig.returnType = some .int) (hlk : meth.locks = false) (hK : zK B s) (hSt : zSt B s) (hap : zAp B) {res : Int} {S9 : Sg} : ∀ (x1 : Int) (x2 : Int) (x3 : Int) (S : Sg) (nx1 : zn x1) (nx2 : zn x2) (nx3 : zn x3), zf_M_put x1 x2 x3 S = some (res, S9) → ∀ (H : Heap) (locs : List Loc) (ls : Array Slot), zW B S H → va_S B.2.2.2 s.heap H locs → lv_has ls 4 [(0, .ref (B.2.1 9 (0) (0))), (1, .int (zI (x1))), (2, .int (zI (x2))), (3, .int (zI (x3)))] → W p l e zm_M_put s m args below meth c H locs 0 0 (MQ below (zQi B res S9) args s 0 0 B.2.2.2) (F0 m 0 ls []) := by
  intro x1 x2 x3 S nx1 nx2 nx3 hf H locs ls hW hS hl
  unfold zf_M_put at hf
  refine lv_aload_n C.1 C.2.1 zd_M_put_0 rfl (lv_at hl 0 rfl) ?_
  refine zr_iconst C zd_M_put_1 ?_
  obtain ⟨S1, eS1, hf⟩ := zlt_some hf
  refine zp_M_thrown (r := 0) C hK hap hW hS (zvd_9 (by decide) (by decide)) zk_1504 (znb rfl) zd_M_put_2 (fun H locs hW hS => ?_)
  rw [eS1] at hW
  refine lv_iload_n C.1 C.2.1 zd_M_put_5 rfl (lv_at hl 1 rfl) ?_
  obtain ⟨a2, S3, ea2, hf⟩ := zbd_some hf
  refine zcSi (As := [.int (zI (x1))]) (rest := []) C hK hSt hW hS (zc_M_isShelf hap x1 S1 nx1 ea2) zq_M_isShelf zk_1645 ⟨rfl, rfl, by decide, by decide⟩ ⟨Nat.zero_le _, Nat.zero_le _⟩ rfl hl.1 rfl (lv_room (Nat.le_of_ble_eq_true rfl)) zd_M_put_6 (fun na2 H locs hW hS => ?_)
  refine zr_if_ne (tgt := 14) C na2 zd_M_put_9 (by decide) (fun c4 => ?_) (fun c4 => ?_)
  · rw [if_neg c4] at hf
    refine lv_aload_n C.1 C.2.1 zd_M_put_14 rfl (lv_at hl 0 rfl) ?_
    refine lv_iload_n C.1 C.2.1 zd_M_put_15 rfl (lv_at hl 1 rfl) ?_
    obtain ⟨a5, S6, ea5, hf⟩ := zbd_some hf
    refine zcVi (As := [.int (zI (x1))]) (rest := []) C hK hSt hW hS (zc_M_noRow hap x1 S3 nx1 ea5) zq_M_noRow zk_1875 (zrecv hK hW (zvd_9 (by decide) (by decide)) (ze_9_0 B _ (0)) rfl) ⟨rfl, rfl, by decide, by decide⟩ ⟨Nat.zero_le _, Nat.zero_le _⟩ rfl hl.1 rfl (lv_room (Nat.le_of_ble_eq_true rfl)) zd_M_put_16 (fun na5 H locs hW hS => ?_)
    refine zr_if_eq (tgt := 28) C na5 zd_M_put_19 (by decide) (fun c7 => ?_) (fun c7 => ?_)
    · rw [if_pos c7] at hf
      refine lv_iload_n C.1 C.2.1 zd_M_put_28 rfl (lv_at hl 2 rfl) ?_
      refine zr_iconst C zd_M_put_29 ?_
      refine lv_aload_n C.1 C.2.1 zd_M_put_30 rfl (lv_at hl 0 rfl) ?_
      refine zg_M_rowSize (r := 0) C hK hW (zvd_9 (by decide) (by decide)) zk_1507 zd_M_put_31 ?_
      refine lv_iload_n C.1 C.2.1 zd_M_put_34 rfl (lv_at hl 1 rfl) ?_
      obtain ⟨h8, hf⟩ := zck_some hf
      refine ziald C hK hW (zvd_9 (by decide) (by decide)) (fun f => ze_9_3 B f (0)) (by decide) h8 zd_M_put_35 ?_
      refine zr_iconst C zd_M_put_36 ?_
      refine zr_isub C zd_M_put_37 ?_
      obtain ⟨a9, S10, ea9, hf⟩ := zbd_some hf
      refine zcSi (As := [.int (zI (x2)), .int (zI (0)), .int (zI (zw ((S6 9 0 3 x1) - 1)))]) (rest := []) C hK hSt hW hS (zc_M_in hap x2 0 (zw ((S6 9 0 3 x1) - 1)) S6 nx2 (znb rfl) (zn_w _) ea9) zq_M_in zk_1558 ⟨rfl, rfl, by decide, by decide⟩ ⟨Nat.zero_le _, Nat.zero_le _⟩ rfl hl.1 rfl (lv_room (Nat.le_of_ble_eq_true rfl)) zd_M_put_38 (fun na9 H locs hW hS => ?_)
      refine zr_if_ne (tgt := 47) C na9 zd_M_put_41 (by decide) (fun c11 => ?_) (fun c11 => ?_)
      · rw [if_neg c11] at hf
        refine lv_aload_n C.1 C.2.1 zd_M_put_47 rfl (lv_at hl 0 rfl) ?_
        refine zg_M_rows (r := 0) C hK hW (zvd_9 (by decide) (by decide)) zk_1508 zd_M_put_48 ?_
        refine lv_iload_n C.1 C.2.1 zd_M_put_51 rfl (lv_at hl 1 rfl) ?_
        refine zaald (t0 := 4) C hK hW (zvd_9 (by decide) (by decide)) (fun f => ze_9_4 B f (0)) rfl rfl (by decide) h8 zd_M_put_52 (a := B.2.1 10 (x1) (0)) (by rw [Int.toNat_of_nonneg h8.1]) ?_
        refine lv_iload_n C.1 C.2.1 zd_M_put_53 rfl (lv_at hl 2 rfl) ?_
        refine lv_aload_n C.1 C.2.1 zd_M_put_54 rfl (lv_at hl 0 rfl) ?_
        refine zg_M_rowSort (r := 0) C hK hW (zvd_9 (by decide) (by decide)) zk_1506 zd_M_put_55 ?_
        refine lv_iload_n C.1 C.2.1 zd_M_put_58 rfl (lv_at hl 1 rfl) ?_
        refine ziald C hK hW (zvd_9 (by decide) (by decide)) (fun f => ze_9_2 B f (0)) (by decide) h8 zd_M_put_59 ?_
        refine zr_if_ne (tgt := 68) C (zWn hW _ _ _ _ rfl) zd_M_put_60 (by decide) (fun c12 => ?_) (fun c12 => ?_)
        · rw [if_neg c12] at hf
          refine lv_aload_n C.1 C.2.1 zd_M_put_68 rfl (lv_at hl 0 rfl) ?_
          refine zg_M_rowSort (r := 0) C hK hW (zvd_9 (by decide) (by decide)) zk_1506 zd_M_put_69 ?_
          refine lv_iload_n C.1 C.2.1 zd_M_put_72 rfl (lv_at hl 1 rfl) ?_
          refine ziald C hK hW (zvd_9 (by decide) (by decide)) (fun f => ze_9_2 B f (0)) (by decide) h8 zd_M_put_73 ?_
          refine zr_iconst C zd_M_put_74 ?_
          refine zr_icmp_ne (tgt := 83) C (zWn hW _ _ _ _ rfl) (znb rfl) zd_M_put_75 (by decide) (fun c13 => ?_) (fun c13 => ?_)
          · rw [if_neg c13] at hf
            refine lv_iload_n C.1 C.2.1 zd_M_put_83 rfl (lv_at hl 3 rfl) ?_
            exact zw_M_put_84 C hr hlk hK hSt hap   (x1) (x2) (x3) S10 h8 nx2 nx3 hf _ _ _ hW hS (lv_sub hl [] rfl)
          · rw [if_pos c13] at hf
            refine lv_iload_n C.1 C.2.1 zd_M_put_78 rfl (lv_at hl 3 rfl) ?_
            refine zr_i2s C zd_M_put_79 ?_
            refine lv_goto (tgt := 84) C.1 C.2.1 zd_M_put_80 (by decide) ?_
            exact zw_M_put_84 C hr hlk hK hSt hap   (x1) (x2) (zi2s x3) S10 h8 nx2 (zn_i2s _) hf _ _ _ hW hS (lv_sub hl [] rfl)
        · rw [if_pos c12] at hf
          refine lv_iload_n C.1 C.2.1 zd_M_put_63 rfl (lv_at hl 3 rfl) ?_
          refine zr_i2b C zd_M_put_64 ?_
          refine lv_goto (tgt := 84) C.1 C.2.1 zd_M_put_65 (by decide) ?_
          exact zw_M_put_84 C hr hlk hK hSt hap   (x1) (x2) (zi2b x3) S10 h8 nx2 (zn_i2b _) hf _ _ _ hW hS (lv_sub hl [] rfl)
      · rw [if_pos c11] at hf
        refine zr_bipush C zd_M_put_44 (by decide) ?_
        cases hf
        exact zre_i C hr hlk hK hW hS (znb rfl) zd_M_put_46
    · rw [if_neg c7] at hf
      refine lv_aload_n C.1 C.2.1 zd_M_put_22 rfl (lv_at hl 0 rfl) ?_
      refine lv_iload_n C.1 C.2.1 zd_M_put_23 rfl (lv_at hl 1 rfl) ?_
      obtain ⟨a14, S15, ea14, hf⟩ := zbd_some hf
      refine zcVi (As := [.int (zI (x1))]) (rest := []) C hK hSt hW hS (zc_M_noRow hap x1 S6 nx1 ea14) zq_M_noRow zk_1875 (zrecv hK hW (zvd_9 (by decide) (by decide)) (ze_9_0 B _ (0)) rfl) ⟨rfl, rfl, by decide, by decide⟩ ⟨Nat.zero_le _, Nat.zero_le _⟩ rfl hl.1 rfl (lv_room (Nat.le_of_ble_eq_true rfl)) zd_M_put_24 (fun na14 H locs hW hS => ?_)
      cases hf
      exact zre_i C hr hlk hK hW hS na14 zd_M_put_27
  · rw [if_pos c4] at hf
    refine zr_iconst C zd_M_put_12 ?_
    cases hf
    exact zre_i C hr hlk hK hW hS (znb rfl) zd_M_put_13

theorem zc_M_put {l : Launch} {B : zB} (hap : zAp B) (x1 : Int) (x2 : Int) (x3 : Int) (S : Sg) (nx1 : zn x1) (nx2 : zn x2) (nx3 : zn x3) {res : Int} {S9 : Sg} (hf : zf_M_put x1 x2 x3 S = some (res, S9)) : Met l zy_M_put (Cond.code zy_M_put zb_M_put 4 (some .int) :: zT) zm_M_put (zP B S [.ref (B.2.1 9 (0) (0)), .int (zI (x1)), .int (zI (x2)), .int (zI (x3))]) (zQi B res S9) 0 0 B.2.2.2 :=
  zmet (by decide) (Nat.le_of_ble_eq_true rfl) (fun p e s m args below meth c C hr hlk hK hSt hW ls hl => zw_M_put C hr hlk hK hSt hap   x1 x2 x3 S nx1 nx2 nx3 hf _ _ _ hW va_S.rf hl)
/-! IslandOfficeModel.element(II)J -/
abbrev zy_M_element : MethodName := ⟨"IslandOfficeModel", "element", "(II)J"⟩
abbrev zb_M_element : ByteArray := prog_14_method_69_code
abbrev zm_M_element : Room := { frames := 2, cells := 0, slots := 0, locals := 42 }
theorem zq_M_element : zMy zy_M_element zb_M_element 3 (some .long) 2 := ⟨zk_2043, zk_2041, zk_2042, zk_14, by decide, by decide, by decide +kernel⟩
theorem zd_M_element_0 : decode zb_M_element 0 = .ok (.aload_n 0, 1) := by decide +kernel
theorem zd_M_element_1 : decode zb_M_element 1 = .ok (.iconst 0, 1) := by decide +kernel
theorem zd_M_element_2 : decode zb_M_element 2 = .ok (.putfield 46, 3) := by decide +kernel
theorem zd_M_element_5 : decode zb_M_element 5 = .ok (.iload_n 1, 1) := by decide +kernel
theorem zd_M_element_6 : decode zb_M_element 6 = .ok (.invokestatic 172, 3) := by decide +kernel
theorem zd_M_element_9 : decode zb_M_element 9 = .ok (.ifCond .ne 10, 3) := by decide +kernel
theorem zd_M_element_12 : decode zb_M_element 12 = .ok (.aload_n 0, 1) := by decide +kernel
theorem zd_M_element_13 : decode zb_M_element 13 = .ok (.iconst 1, 1) := by decide +kernel
theorem zd_M_element_14 : decode zb_M_element 14 = .ok (.putfield 46, 3) := by decide +kernel
theorem zd_M_element_17 : decode zb_M_element 17 = .ok (.lconst 0, 1) := by decide +kernel
theorem zd_M_element_18 : decode zb_M_element 18 = .ok (.lreturn, 1) := by decide +kernel
theorem zd_M_element_19 : decode zb_M_element 19 = .ok (.aload_n 0, 1) := by decide +kernel
theorem zd_M_element_20 : decode zb_M_element 20 = .ok (.getfield 22, 3) := by decide +kernel
theorem zd_M_element_23 : decode zb_M_element 23 = .ok (.iload_n 1, 1) := by decide +kernel
theorem zd_M_element_24 : decode zb_M_element 24 = .ok (.iaload, 1) := by decide +kernel
theorem zd_M_element_25 : decode zb_M_element 25 = .ok (.iconst 3, 1) := by decide +kernel
theorem zd_M_element_26 : decode zb_M_element 26 = .ok (.if_icmp .ne 19, 3) := by decide +kernel
theorem zd_M_element_29 : decode zb_M_element 29 = .ok (.iload_n 2, 1) := by decide +kernel
theorem zd_M_element_30 : decode zb_M_element 30 = .ok (.iconst 0, 1) := by decide +kernel
theorem zd_M_element_31 : decode zb_M_element 31 = .ok (.aload_n 0, 1) := by decide +kernel
theorem zd_M_element_32 : decode zb_M_element 32 = .ok (.getfield 29, 3) := by decide +kernel
theorem zd_M_element_35 : decode zb_M_element 35 = .ok (.iload_n 1, 1) := by decide +kernel
theorem zd_M_element_36 : decode zb_M_element 36 = .ok (.iaload, 1) := by decide +kernel
theorem zd_M_element_37 : decode zb_M_element 37 = .ok (.iconst 1, 1) := by decide +kernel
theorem zd_M_element_38 : decode zb_M_element 38 = .ok (.isub, 1) := by decide +kernel
theorem zd_M_element_39 : decode zb_M_element 39 = .ok (.invokestatic 53, 3) := by decide +kernel
theorem zd_M_element_42 : decode zb_M_element 42 = .ok (.ifCond .ne 10, 3) := by decide +kernel
theorem zd_M_element_45 : decode zb_M_element 45 = .ok (.aload_n 0, 1) := by decide +kernel
theorem zd_M_element_46 : decode zb_M_element 46 = .ok (.iconst 2, 1) := by decide +kernel
theorem zd_M_element_47 : decode zb_M_element 47 = .ok (.putfield 46, 3) := by decide +kernel
theorem zd_M_element_50 : decode zb_M_element 50 = .ok (.lconst 0, 1) := by decide +kernel
theorem zd_M_element_51 : decode zb_M_element 51 = .ok (.lreturn, 1) := by decide +kernel
theorem zd_M_element_52 : decode zb_M_element 52 = .ok (.aload_n 0, 1) := by decide +kernel
theorem zd_M_element_53 : decode zb_M_element 53 = .ok (.getfield 34, 3) := by decide +kernel
theorem zd_M_element_56 : decode zb_M_element 56 = .ok (.iload_n 1, 1) := by decide +kernel
theorem zd_M_element_57 : decode zb_M_element 57 = .ok (.aaload, 1) := by decide +kernel
theorem zd_M_element_58 : decode zb_M_element 58 = .ok (.iload_n 2, 1) := by decide +kernel
theorem zd_M_element_59 : decode zb_M_element 59 = .ok (.iaload, 1) := by decide +kernel
theorem zd_M_element_60 : decode zb_M_element 60 = .ok (.i2l, 1) := by decide +kernel
theorem zd_M_element_61 : decode zb_M_element 61 = .ok (.lreturn, 1) := by decide +kernel

def zf_M_element_45 (S : Sg) : Option (Int × Sg) :=
    zlt (zu S 9 0 0 4 2) fun S1 => some (0, S1)
set_option maxHeartbeats 4000000 in
set_option maxRecDepth 100000 in
theorem zw_M_element_45 {p : Program} {l : Launch} {e : Env} {s : State} {m : MethodId} {args : Array Value} {below : List Frame} {meth : Method} {c : Code} {B : zB} (C : CallFix p m c zb_M_element 3 s args zT "IslandOfficeModel") (hr : meth.sig.returnType = some .long) (hlk : meth.locks = false) (hK : zK B s) (hSt : zSt B s) (hap : zAp B) {res : Int} {S9 : Sg} : ∀  (S : Sg) , zf_M_element_45  S = some (res, S9) → ∀ (H : Heap) (locs : List Loc) (ls : Array Slot), zW B S H → va_S B.2.2.2 s.heap H locs → lv_has ls 3 [(0, .ref (B.2.1 9 (0) (0)))] → W p l e zm_M_element s m args below meth c H locs 0 0 (MQ below (zQl B res S9) args s 0 0 B.2.2.2) (F0 m 45 ls []) := by
  intro S hf H locs ls hW hS hl
  unfold zf_M_element_45 at hf
  refine lv_aload_n C.1 C.2.1 zd_M_element_45 rfl (lv_at hl 0 rfl) ?_
  refine zr_iconst C zd_M_element_46 ?_
  obtain ⟨S1, eS1, hf⟩ := zlt_some hf
  refine zp_M_thrown (r := 0) C hK hap hW hS (zvd_9 (by decide) (by decide)) zk_1504 (znb rfl) zd_M_element_47 (fun H locs hW hS => ?_)
  rw [eS1] at hW
  refine zr_lconst (k := 0) C zd_M_element_50 rfl ?_
  cases hf
  exact zre_l C hr hlk hK hW hS (zmb rfl) zd_M_element_51

def zf_M_element (x1 : Int) (x2 : Int) (S : Sg) : Option (Int × Sg) :=
    zlt (zu S 9 0 0 4 0) fun S1 => zbd (zf_M_isShelf x1 S1) fun a2 S3 => if a2 = 0 then (zlt (zu S3 9 0 0 4 1) fun S11 => some (0, S11)) else (zck (0 ≤ x1 ∧ x1 < 8) <| if (S3 9 0 1 x1) = 3 then (zbd (zf_M_in x2 0 (zw ((S3 9 0 3 x1) - 1)) S3) fun a7 S8 => if a7 = 0 then (zf_M_element_45  S8) else (zck (0 ≤ x2 ∧ x2 < 120) <| some (S8 10 x1 0 x2, S8))) else (zf_M_element_45  S3))
set_option maxHeartbeats 4000000 in
set_option maxRecDepth 100000 in
theorem zw_M_element {p : Program} {l : Launch} {e : Env} {s : State} {m : MethodId} {args : Array Value} {below : List Frame} {meth : Method} {c : Code} {B : zB} (C : CallFix p m c zb_M_element 3 s args zT "IslandOfficeModel") (hr : meth.sig.returnType = some .long) (hlk : meth.locks = false) (hK : zK B s) (hSt : zSt B s) (hap : zAp B) {res : Int} {S9 : Sg} : ∀ (x1 : Int) (x2 : Int) (S : Sg) (nx1 : zn x1) (nx2 : zn x2), zf_M_element x1 x2 S = some (res, S9) → ∀ (H : Heap) (locs : List Loc) (ls : Array Slot), zW B S H → va_S B.2.2.2 s.heap H locs → lv_has ls 3 [(0, .ref (B.2.1 9 (0) (0))), (1, .int (zI (x1))), (2, .int (zI (x2)))] → W p l e zm_M_element s m args below meth c H locs 0 0 (MQ below (zQl B res S9) args s 0 0 B.2.2.2) (F0 m 0 ls []) := by
  intro x1 x2 S nx1 nx2 hf H locs ls hW hS hl
  unfold zf_M_element at hf
  refine lv_aload_n C.1 C.2.1 zd_M_element_0 rfl (lv_at hl 0 rfl) ?_
  refine zr_iconst C zd_M_element_1 ?_
  obtain ⟨S1, eS1, hf⟩ := zlt_some hf
  refine zp_M_thrown (r := 0) C hK hap hW hS (zvd_9 (by decide) (by decide)) zk_1504 (znb rfl) zd_M_element_2 (fun H locs hW hS => ?_)
  rw [eS1] at hW
  refine lv_iload_n C.1 C.2.1 zd_M_element_5 rfl (lv_at hl 1 rfl) ?_
  obtain ⟨a2, S3, ea2, hf⟩ := zbd_some hf
  refine zcSi (As := [.int (zI (x1))]) (rest := []) C hK hSt hW hS (zc_M_isShelf hap x1 S1 nx1 ea2) zq_M_isShelf zk_1645 ⟨rfl, rfl, by decide, by decide⟩ ⟨Nat.zero_le _, Nat.zero_le _⟩ rfl hl.1 rfl (lv_room (Nat.le_of_ble_eq_true rfl)) zd_M_element_6 (fun na2 H locs hW hS => ?_)
  refine zr_if_ne (tgt := 19) C na2 zd_M_element_9 (by decide) (fun c4 => ?_) (fun c4 => ?_)
  · rw [if_neg c4] at hf
    refine lv_aload_n C.1 C.2.1 zd_M_element_19 rfl (lv_at hl 0 rfl) ?_
    refine zg_M_held (r := 0) C hK hW (zvd_9 (by decide) (by decide)) zk_1505 zd_M_element_20 ?_
    refine lv_iload_n C.1 C.2.1 zd_M_element_23 rfl (lv_at hl 1 rfl) ?_
    obtain ⟨h5, hf⟩ := zck_some hf
    refine ziald C hK hW (zvd_9 (by decide) (by decide)) (fun f => ze_9_1 B f (0)) (by decide) h5 zd_M_element_24 ?_
    refine zr_iconst C zd_M_element_25 ?_
    refine zr_icmp_ne (tgt := 45) C (zWn hW _ _ _ _ rfl) (znb rfl) zd_M_element_26 (by decide) (fun c6 => ?_) (fun c6 => ?_)
    · rw [if_neg c6] at hf
      exact zw_M_element_45 C hr hlk hK hSt hap    S3  hf _ _ _ hW hS (lv_sub hl [0] rfl)
    · rw [if_pos c6] at hf
      refine lv_iload_n C.1 C.2.1 zd_M_element_29 rfl (lv_at hl 2 rfl) ?_
      refine zr_iconst C zd_M_element_30 ?_
      refine lv_aload_n C.1 C.2.1 zd_M_element_31 rfl (lv_at hl 0 rfl) ?_
      refine zg_M_rowSize (r := 0) C hK hW (zvd_9 (by decide) (by decide)) zk_1507 zd_M_element_32 ?_
      refine lv_iload_n C.1 C.2.1 zd_M_element_35 rfl (lv_at hl 1 rfl) ?_
      refine ziald C hK hW (zvd_9 (by decide) (by decide)) (fun f => ze_9_3 B f (0)) (by decide) h5 zd_M_element_36 ?_
      refine zr_iconst C zd_M_element_37 ?_
      refine zr_isub C zd_M_element_38 ?_
      obtain ⟨a7, S8, ea7, hf⟩ := zbd_some hf
      refine zcSi (As := [.int (zI (x2)), .int (zI (0)), .int (zI (zw ((S3 9 0 3 x1) - 1)))]) (rest := []) C hK hSt hW hS (zc_M_in hap x2 0 (zw ((S3 9 0 3 x1) - 1)) S3 nx2 (znb rfl) (zn_w _) ea7) zq_M_in zk_1558 ⟨rfl, rfl, by decide, by decide⟩ ⟨Nat.zero_le _, Nat.zero_le _⟩ rfl hl.1 rfl (lv_room (Nat.le_of_ble_eq_true rfl)) zd_M_element_39 (fun na7 H locs hW hS => ?_)
      refine zr_if_ne (tgt := 52) C na7 zd_M_element_42 (by decide) (fun c9 => ?_) (fun c9 => ?_)
      · rw [if_neg c9] at hf
        refine lv_aload_n C.1 C.2.1 zd_M_element_52 rfl (lv_at hl 0 rfl) ?_
        refine zg_M_rows (r := 0) C hK hW (zvd_9 (by decide) (by decide)) zk_1508 zd_M_element_53 ?_
        refine lv_iload_n C.1 C.2.1 zd_M_element_56 rfl (lv_at hl 1 rfl) ?_
        refine zaald (t0 := 4) C hK hW (zvd_9 (by decide) (by decide)) (fun f => ze_9_4 B f (0)) rfl rfl (by decide) h5 zd_M_element_57 (a := B.2.1 10 (x1) (0)) (by rw [Int.toNat_of_nonneg h5.1]) ?_
        refine lv_iload_n C.1 C.2.1 zd_M_element_58 rfl (lv_at hl 2 rfl) ?_
        obtain ⟨h10, hf⟩ := zck_some hf
        refine ziald C hK hW (zvd_10 h5 (by decide)) (fun f => ze_10_0 B f (x1)) (by decide) h10 zd_M_element_59 ?_
        refine zr_i2l C (zWn hW _ _ _ _ rfl) zd_M_element_60 ?_
        cases hf
        exact zre_l C hr hlk hK hW hS (zm_n (zWn hW _ _ _ _ rfl)) zd_M_element_61
      · rw [if_pos c9] at hf
        exact zw_M_element_45 C hr hlk hK hSt hap    S8  hf _ _ _ hW hS (lv_sub hl [0] rfl)
  · rw [if_pos c4] at hf
    refine lv_aload_n C.1 C.2.1 zd_M_element_12 rfl (lv_at hl 0 rfl) ?_
    refine zr_iconst C zd_M_element_13 ?_
    obtain ⟨S11, eS11, hf⟩ := zlt_some hf
    refine zp_M_thrown (r := 0) C hK hap hW hS (zvd_9 (by decide) (by decide)) zk_1504 (znb rfl) zd_M_element_14 (fun H locs hW hS => ?_)
    rw [eS11] at hW
    refine zr_lconst (k := 0) C zd_M_element_17 rfl ?_
    cases hf
    exact zre_l C hr hlk hK hW hS (zmb rfl) zd_M_element_18

theorem zc_M_element {l : Launch} {B : zB} (hap : zAp B) (x1 : Int) (x2 : Int) (S : Sg) (nx1 : zn x1) (nx2 : zn x2) {res : Int} {S9 : Sg} (hf : zf_M_element x1 x2 S = some (res, S9)) : Met l zy_M_element (Cond.code zy_M_element zb_M_element 3 (some .long) :: zT) zm_M_element (zP B S [.ref (B.2.1 9 (0) (0)), .int (zI (x1)), .int (zI (x2))]) (zQl B res S9) 0 0 B.2.2.2 :=
  zmet (by decide) (Nat.le_of_ble_eq_true rfl) (fun p e s m args below meth c C hr hlk hK hSt hW ls hl => zw_M_element C hr hlk hK hSt hap   x1 x2 S nx1 nx2 hf _ _ _ hW va_S.rf hl)
/-! IslandOfficeModel.copy(IIIII)I -/
abbrev zy_M_copy : MethodName := ⟨"IslandOfficeModel", "copy", "(IIIII)I"⟩
abbrev zb_M_copy : ByteArray := prog_14_method_70_code
abbrev zm_M_copy : Room := { frames := 2, cells := 0, slots := 0, locals := 64 }
theorem zq_M_copy : zMy zy_M_copy zb_M_copy 6 (some .int) 5 := ⟨zk_2047, zk_2045, zk_2046, zk_14, by decide, by decide, by decide +kernel⟩
theorem zd_M_copy_0 : decode zb_M_copy 0 = .ok (.aload_n 0, 1) := by decide +kernel
theorem zd_M_copy_1 : decode zb_M_copy 1 = .ok (.iconst 0, 1) := by decide +kernel
theorem zd_M_copy_2 : decode zb_M_copy 2 = .ok (.putfield 46, 3) := by decide +kernel
theorem zd_M_copy_5 : decode zb_M_copy 5 = .ok (.iload_n 1, 1) := by decide +kernel
theorem zd_M_copy_6 : decode zb_M_copy 6 = .ok (.invokestatic 172, 3) := by decide +kernel
theorem zd_M_copy_9 : decode zb_M_copy 9 = .ok (.ifCond .eq 10, 3) := by decide +kernel
theorem zd_M_copy_12 : decode zb_M_copy 12 = .ok (.iload_n 3, 1) := by decide +kernel
theorem zd_M_copy_13 : decode zb_M_copy 13 = .ok (.invokestatic 172, 3) := by decide +kernel
theorem zd_M_copy_16 : decode zb_M_copy 16 = .ok (.ifCond .ne 5, 3) := by decide +kernel
theorem zd_M_copy_19 : decode zb_M_copy 19 = .ok (.iconst (-1), 1) := by decide +kernel
theorem zd_M_copy_20 : decode zb_M_copy 20 = .ok (.ireturn, 1) := by decide +kernel
theorem zd_M_copy_21 : decode zb_M_copy 21 = .ok (.aload_n 0, 1) := by decide +kernel
theorem zd_M_copy_22 : decode zb_M_copy 22 = .ok (.getfield 22, 3) := by decide +kernel
theorem zd_M_copy_25 : decode zb_M_copy 25 = .ok (.iload_n 1, 1) := by decide +kernel
theorem zd_M_copy_26 : decode zb_M_copy 26 = .ok (.iaload, 1) := by decide +kernel
theorem zd_M_copy_27 : decode zb_M_copy 27 = .ok (.ifCond .eq 12, 3) := by decide +kernel
theorem zd_M_copy_30 : decode zb_M_copy 30 = .ok (.aload_n 0, 1) := by decide +kernel
theorem zd_M_copy_31 : decode zb_M_copy 31 = .ok (.getfield 22, 3) := by decide +kernel
theorem zd_M_copy_34 : decode zb_M_copy 34 = .ok (.iload_n 3, 1) := by decide +kernel
theorem zd_M_copy_35 : decode zb_M_copy 35 = .ok (.iaload, 1) := by decide +kernel
theorem zd_M_copy_36 : decode zb_M_copy 36 = .ok (.ifCond .ne 6, 3) := by decide +kernel
theorem zd_M_copy_39 : decode zb_M_copy 39 = .ok (.bipush (-11), 2) := by decide +kernel
theorem zd_M_copy_41 : decode zb_M_copy 41 = .ok (.ireturn, 1) := by decide +kernel
theorem zd_M_copy_42 : decode zb_M_copy 42 = .ok (.aload_n 0, 1) := by decide +kernel
theorem zd_M_copy_43 : decode zb_M_copy 43 = .ok (.getfield 22, 3) := by decide +kernel
theorem zd_M_copy_46 : decode zb_M_copy 46 = .ok (.iload_n 1, 1) := by decide +kernel
theorem zd_M_copy_47 : decode zb_M_copy 47 = .ok (.iaload, 1) := by decide +kernel
theorem zd_M_copy_48 : decode zb_M_copy 48 = .ok (.iconst 3, 1) := by decide +kernel
theorem zd_M_copy_49 : decode zb_M_copy 49 = .ok (.if_icmp .ne 28, 3) := by decide +kernel
theorem zd_M_copy_52 : decode zb_M_copy 52 = .ok (.aload_n 0, 1) := by decide +kernel
theorem zd_M_copy_53 : decode zb_M_copy 53 = .ok (.getfield 22, 3) := by decide +kernel
theorem zd_M_copy_56 : decode zb_M_copy 56 = .ok (.iload_n 3, 1) := by decide +kernel
theorem zd_M_copy_57 : decode zb_M_copy 57 = .ok (.iaload, 1) := by decide +kernel
theorem zd_M_copy_58 : decode zb_M_copy 58 = .ok (.iconst 3, 1) := by decide +kernel
theorem zd_M_copy_59 : decode zb_M_copy 59 = .ok (.if_icmp .ne 18, 3) := by decide +kernel
theorem zd_M_copy_62 : decode zb_M_copy 62 = .ok (.aload_n 0, 1) := by decide +kernel
theorem zd_M_copy_63 : decode zb_M_copy 63 = .ok (.getfield 26, 3) := by decide +kernel
theorem zd_M_copy_66 : decode zb_M_copy 66 = .ok (.iload_n 1, 1) := by decide +kernel
theorem zd_M_copy_67 : decode zb_M_copy 67 = .ok (.iaload, 1) := by decide +kernel
theorem zd_M_copy_68 : decode zb_M_copy 68 = .ok (.aload_n 0, 1) := by decide +kernel
theorem zd_M_copy_69 : decode zb_M_copy 69 = .ok (.getfield 26, 3) := by decide +kernel
theorem zd_M_copy_72 : decode zb_M_copy 72 = .ok (.iload_n 3, 1) := by decide +kernel
theorem zd_M_copy_73 : decode zb_M_copy 73 = .ok (.iaload, 1) := by decide +kernel
theorem zd_M_copy_74 : decode zb_M_copy 74 = .ok (.if_icmp .eq 6, 3) := by decide +kernel
theorem zd_M_copy_77 : decode zb_M_copy 77 = .ok (.bipush (-12), 2) := by decide +kernel
theorem zd_M_copy_79 : decode zb_M_copy 79 = .ok (.ireturn, 1) := by decide +kernel
theorem zd_M_copy_80 : decode zb_M_copy 80 = .ok (.iload_n 2, 1) := by decide +kernel
theorem zd_M_copy_81 : decode zb_M_copy 81 = .ok (.ifCond .lt 48, 3) := by decide +kernel
theorem zd_M_copy_84 : decode zb_M_copy 84 = .ok (.iload 4, 2) := by decide +kernel
theorem zd_M_copy_86 : decode zb_M_copy 86 = .ok (.ifCond .lt 43, 3) := by decide +kernel
theorem zd_M_copy_89 : decode zb_M_copy 89 = .ok (.iload 5, 2) := by decide +kernel
theorem zd_M_copy_91 : decode zb_M_copy 91 = .ok (.ifCond .lt 38, 3) := by decide +kernel
theorem zd_M_copy_94 : decode zb_M_copy 94 = .ok (.iload_n 2, 1) := by decide +kernel
theorem zd_M_copy_95 : decode zb_M_copy 95 = .ok (.i2l, 1) := by decide +kernel
theorem zd_M_copy_96 : decode zb_M_copy 96 = .ok (.iload 5, 2) := by decide +kernel
theorem zd_M_copy_98 : decode zb_M_copy 98 = .ok (.i2l, 1) := by decide +kernel
theorem zd_M_copy_99 : decode zb_M_copy 99 = .ok (.ladd, 1) := by decide +kernel
theorem zd_M_copy_100 : decode zb_M_copy 100 = .ok (.aload_n 0, 1) := by decide +kernel
theorem zd_M_copy_101 : decode zb_M_copy 101 = .ok (.getfield 29, 3) := by decide +kernel
theorem zd_M_copy_104 : decode zb_M_copy 104 = .ok (.iload_n 1, 1) := by decide +kernel
theorem zd_M_copy_105 : decode zb_M_copy 105 = .ok (.iaload, 1) := by decide +kernel
theorem zd_M_copy_106 : decode zb_M_copy 106 = .ok (.i2l, 1) := by decide +kernel
theorem zd_M_copy_107 : decode zb_M_copy 107 = .ok (.lcmp, 1) := by decide +kernel
theorem zd_M_copy_108 : decode zb_M_copy 108 = .ok (.ifCond .gt 21, 3) := by decide +kernel
theorem zd_M_copy_111 : decode zb_M_copy 111 = .ok (.iload 4, 2) := by decide +kernel
theorem zd_M_copy_113 : decode zb_M_copy 113 = .ok (.i2l, 1) := by decide +kernel
theorem zd_M_copy_114 : decode zb_M_copy 114 = .ok (.iload 5, 2) := by decide +kernel
theorem zd_M_copy_116 : decode zb_M_copy 116 = .ok (.i2l, 1) := by decide +kernel
theorem zd_M_copy_117 : decode zb_M_copy 117 = .ok (.ladd, 1) := by decide +kernel
theorem zd_M_copy_118 : decode zb_M_copy 118 = .ok (.aload_n 0, 1) := by decide +kernel
theorem zd_M_copy_119 : decode zb_M_copy 119 = .ok (.getfield 29, 3) := by decide +kernel
theorem zd_M_copy_122 : decode zb_M_copy 122 = .ok (.iload_n 3, 1) := by decide +kernel
theorem zd_M_copy_123 : decode zb_M_copy 123 = .ok (.iaload, 1) := by decide +kernel
theorem zd_M_copy_124 : decode zb_M_copy 124 = .ok (.i2l, 1) := by decide +kernel
theorem zd_M_copy_125 : decode zb_M_copy 125 = .ok (.lcmp, 1) := by decide +kernel
theorem zd_M_copy_126 : decode zb_M_copy 126 = .ok (.ifCond .le 6, 3) := by decide +kernel
theorem zd_M_copy_129 : decode zb_M_copy 129 = .ok (.bipush (-13), 2) := by decide +kernel
theorem zd_M_copy_131 : decode zb_M_copy 131 = .ok (.ireturn, 1) := by decide +kernel
theorem zd_M_copy_132 : decode zb_M_copy 132 = .ok (.aload_n 0, 1) := by decide +kernel
theorem zd_M_copy_133 : decode zb_M_copy 133 = .ok (.getfield 34, 3) := by decide +kernel
theorem zd_M_copy_136 : decode zb_M_copy 136 = .ok (.iload_n 1, 1) := by decide +kernel
theorem zd_M_copy_137 : decode zb_M_copy 137 = .ok (.aaload, 1) := by decide +kernel
theorem zd_M_copy_138 : decode zb_M_copy 138 = .ok (.iload_n 2, 1) := by decide +kernel
theorem zd_M_copy_139 : decode zb_M_copy 139 = .ok (.aload_n 0, 1) := by decide +kernel
theorem zd_M_copy_140 : decode zb_M_copy 140 = .ok (.getfield 34, 3) := by decide +kernel
theorem zd_M_copy_143 : decode zb_M_copy 143 = .ok (.iload_n 3, 1) := by decide +kernel
theorem zd_M_copy_144 : decode zb_M_copy 144 = .ok (.aaload, 1) := by decide +kernel
theorem zd_M_copy_145 : decode zb_M_copy 145 = .ok (.iload 4, 2) := by decide +kernel
theorem zd_M_copy_147 : decode zb_M_copy 147 = .ok (.iload 5, 2) := by decide +kernel
theorem zd_M_copy_149 : decode zb_M_copy 149 = .ok (.invokestatic 186, 3) := by decide +kernel
theorem zd_M_copy_152 : decode zb_M_copy 152 = .ok (.iload 5, 2) := by decide +kernel
theorem zd_M_copy_154 : decode zb_M_copy 154 = .ok (.ireturn, 1) := by decide +kernel

def zf_M_copy (x1 : Int) (x2 : Int) (x3 : Int) (x4 : Int) (x5 : Int) (S : Sg) : Option (Int × Sg) :=
    zlt (zu S 9 0 0 4 0) fun S1 => zbd (zf_M_isShelf x1 S1) fun a2 S3 => if a2 = 0 then (some (-1, S3)) else (zbd (zf_M_isShelf x3 S3) fun a5 S6 => if a5 = 0 then (some (-1, S6)) else (zck (0 ≤ x1 ∧ x1 < 8) <| if (S6 9 0 1 x1) = 0 then (some (-11, S6)) else (zck (0 ≤ x3 ∧ x3 < 8) <| if (S6 9 0 1 x3) = 0 then (some (-11, S6)) else (if (S6 9 0 1 x1) = 3 then (if (S6 9 0 1 x3) = 3 then (if (S6 9 0 2 x1) = (S6 9 0 2 x3) then (if x2 < 0 then (some (-13, S6)) else (if x4 < 0 then (some (-13, S6)) else (if x5 < 0 then (some (-13, S6)) else (if 0 < (zcmp (zv (x2 + x5)) (S6 9 0 3 x1)) then (some (-13, S6)) else (if (zcmp (zv (x4 + x5)) (S6 9 0 3 x3)) ≤ 0 then (zck ((0 : Int) ≤ x2 ∧ (0 : Int) ≤ x4 ∧ (0 : Int) ≤ x5 ∧ (x2 + x5 : Int) ≤ 120 ∧ (x4 + x5 : Int) ≤ 120) <| zlt (zcp S6 10 x1 0 x2 10 x3 0 x4 x5) fun S21 => some (x5, S21)) else (some (-13, S6))))))) else (some (-12, S6))) else (some (-12, S6))) else (some (-12, S6))))))
set_option maxHeartbeats 4000000 in
set_option maxRecDepth 100000 in
theorem zw_M_copy {p : Program} {l : Launch} {e : Env} {s : State} {m : MethodId} {args : Array Value} {below : List Frame} {meth : Method} {c : Code} {B : zB} (C : CallFix p m c zb_M_copy 6 s args zT "IslandOfficeModel") (hr : meth.sig.returnType = some .int) (hlk : meth.locks = false) (hK : zK B s) (hSt : zSt B s) (hap : zAp B) {res : Int} {S9 : Sg} : ∀ (x1 : Int) (x2 : Int) (x3 : Int) (x4 : Int) (x5 : Int) (S : Sg) (nx1 : zn x1) (nx2 : zn x2) (nx3 : zn x3) (nx4 : zn x4) (nx5 : zn x5), zf_M_copy x1 x2 x3 x4 x5 S = some (res, S9) → ∀ (H : Heap) (locs : List Loc) (ls : Array Slot), zW B S H → va_S B.2.2.2 s.heap H locs → lv_has ls 6 [(0, .ref (B.2.1 9 (0) (0))), (1, .int (zI (x1))), (2, .int (zI (x2))), (3, .int (zI (x3))), (4, .int (zI (x4))), (5, .int (zI (x5)))] → W p l e zm_M_copy s m args below meth c H locs 0 0 (MQ below (zQi B res S9) args s 0 0 B.2.2.2) (F0 m 0 ls []) := by
  intro x1 x2 x3 x4 x5 S nx1 nx2 nx3 nx4 nx5 hf H locs ls hW hS hl
  unfold zf_M_copy at hf
  refine lv_aload_n C.1 C.2.1 zd_M_copy_0 rfl (lv_at hl 0 rfl) ?_
  refine zr_iconst C zd_M_copy_1 ?_
  obtain ⟨S1, eS1, hf⟩ := zlt_some hf
  refine zp_M_thrown (r := 0) C hK hap hW hS (zvd_9 (by decide) (by decide)) zk_1504 (znb rfl) zd_M_copy_2 (fun H locs hW hS => ?_)
  rw [eS1] at hW
  refine lv_iload_n C.1 C.2.1 zd_M_copy_5 rfl (lv_at hl 1 rfl) ?_
  obtain ⟨a2, S3, ea2, hf⟩ := zbd_some hf
  refine zcSi (As := [.int (zI (x1))]) (rest := []) C hK hSt hW hS (zc_M_isShelf hap x1 S1 nx1 ea2) zq_M_isShelf zk_1645 ⟨rfl, rfl, by decide, by decide⟩ ⟨Nat.zero_le _, Nat.zero_le _⟩ rfl hl.1 rfl (lv_room (Nat.le_of_ble_eq_true rfl)) zd_M_copy_6 (fun na2 H locs hW hS => ?_)
  refine zr_if_eq (tgt := 19) C na2 zd_M_copy_9 (by decide) (fun c4 => ?_) (fun c4 => ?_)
  · rw [if_pos c4] at hf
    refine zr_iconst C zd_M_copy_19 ?_
    cases hf
    exact zre_i C hr hlk hK hW hS (znb rfl) zd_M_copy_20
  · rw [if_neg c4] at hf
    refine lv_iload_n C.1 C.2.1 zd_M_copy_12 rfl (lv_at hl 3 rfl) ?_
    obtain ⟨a5, S6, ea5, hf⟩ := zbd_some hf
    refine zcSi (As := [.int (zI (x3))]) (rest := []) C hK hSt hW hS (zc_M_isShelf hap x3 S3 nx3 ea5) zq_M_isShelf zk_1645 ⟨rfl, rfl, by decide, by decide⟩ ⟨Nat.zero_le _, Nat.zero_le _⟩ rfl hl.1 rfl (lv_room (Nat.le_of_ble_eq_true rfl)) zd_M_copy_13 (fun na5 H locs hW hS => ?_)
    refine zr_if_ne (tgt := 21) C na5 zd_M_copy_16 (by decide) (fun c7 => ?_) (fun c7 => ?_)
    · rw [if_neg c7] at hf
      refine lv_aload_n C.1 C.2.1 zd_M_copy_21 rfl (lv_at hl 0 rfl) ?_
      refine zg_M_held (r := 0) C hK hW (zvd_9 (by decide) (by decide)) zk_1505 zd_M_copy_22 ?_
      refine lv_iload_n C.1 C.2.1 zd_M_copy_25 rfl (lv_at hl 1 rfl) ?_
      obtain ⟨h8, hf⟩ := zck_some hf
      refine ziald C hK hW (zvd_9 (by decide) (by decide)) (fun f => ze_9_1 B f (0)) (by decide) h8 zd_M_copy_26 ?_
      refine zr_if_eq (tgt := 39) C (zWn hW _ _ _ _ rfl) zd_M_copy_27 (by decide) (fun c9 => ?_) (fun c9 => ?_)
      · rw [if_pos c9] at hf
        refine zr_bipush C zd_M_copy_39 (by decide) ?_
        cases hf
        exact zre_i C hr hlk hK hW hS (znb rfl) zd_M_copy_41
      · rw [if_neg c9] at hf
        refine lv_aload_n C.1 C.2.1 zd_M_copy_30 rfl (lv_at hl 0 rfl) ?_
        refine zg_M_held (r := 0) C hK hW (zvd_9 (by decide) (by decide)) zk_1505 zd_M_copy_31 ?_
        refine lv_iload_n C.1 C.2.1 zd_M_copy_34 rfl (lv_at hl 3 rfl) ?_
        obtain ⟨h10, hf⟩ := zck_some hf
        refine ziald C hK hW (zvd_9 (by decide) (by decide)) (fun f => ze_9_1 B f (0)) (by decide) h10 zd_M_copy_35 ?_
        refine zr_if_ne (tgt := 42) C (zWn hW _ _ _ _ rfl) zd_M_copy_36 (by decide) (fun c11 => ?_) (fun c11 => ?_)
        · rw [if_neg c11] at hf
          refine lv_aload_n C.1 C.2.1 zd_M_copy_42 rfl (lv_at hl 0 rfl) ?_
          refine zg_M_held (r := 0) C hK hW (zvd_9 (by decide) (by decide)) zk_1505 zd_M_copy_43 ?_
          refine lv_iload_n C.1 C.2.1 zd_M_copy_46 rfl (lv_at hl 1 rfl) ?_
          refine ziald C hK hW (zvd_9 (by decide) (by decide)) (fun f => ze_9_1 B f (0)) (by decide) h8 zd_M_copy_47 ?_
          refine zr_iconst C zd_M_copy_48 ?_
          refine zr_icmp_ne (tgt := 77) C (zWn hW _ _ _ _ rfl) (znb rfl) zd_M_copy_49 (by decide) (fun c12 => ?_) (fun c12 => ?_)
          · rw [if_neg c12] at hf
            refine zr_bipush C zd_M_copy_77 (by decide) ?_
            cases hf
            exact zre_i C hr hlk hK hW hS (znb rfl) zd_M_copy_79
          · rw [if_pos c12] at hf
            refine lv_aload_n C.1 C.2.1 zd_M_copy_52 rfl (lv_at hl 0 rfl) ?_
            refine zg_M_held (r := 0) C hK hW (zvd_9 (by decide) (by decide)) zk_1505 zd_M_copy_53 ?_
            refine lv_iload_n C.1 C.2.1 zd_M_copy_56 rfl (lv_at hl 3 rfl) ?_
            refine ziald C hK hW (zvd_9 (by decide) (by decide)) (fun f => ze_9_1 B f (0)) (by decide) h10 zd_M_copy_57 ?_
            refine zr_iconst C zd_M_copy_58 ?_
            refine zr_icmp_ne (tgt := 77) C (zWn hW _ _ _ _ rfl) (znb rfl) zd_M_copy_59 (by decide) (fun c13 => ?_) (fun c13 => ?_)
            · rw [if_neg c13] at hf
              refine zr_bipush C zd_M_copy_77 (by decide) ?_
              cases hf
              exact zre_i C hr hlk hK hW hS (znb rfl) zd_M_copy_79
            · rw [if_pos c13] at hf
              refine lv_aload_n C.1 C.2.1 zd_M_copy_62 rfl (lv_at hl 0 rfl) ?_
              refine zg_M_rowSort (r := 0) C hK hW (zvd_9 (by decide) (by decide)) zk_1506 zd_M_copy_63 ?_
              refine lv_iload_n C.1 C.2.1 zd_M_copy_66 rfl (lv_at hl 1 rfl) ?_
              refine ziald C hK hW (zvd_9 (by decide) (by decide)) (fun f => ze_9_2 B f (0)) (by decide) h8 zd_M_copy_67 ?_
              refine lv_aload_n C.1 C.2.1 zd_M_copy_68 rfl (lv_at hl 0 rfl) ?_
              refine zg_M_rowSort (r := 0) C hK hW (zvd_9 (by decide) (by decide)) zk_1506 zd_M_copy_69 ?_
              refine lv_iload_n C.1 C.2.1 zd_M_copy_72 rfl (lv_at hl 3 rfl) ?_
              refine ziald C hK hW (zvd_9 (by decide) (by decide)) (fun f => ze_9_2 B f (0)) (by decide) h10 zd_M_copy_73 ?_
              refine zr_icmp_eq (tgt := 80) C (zWn hW _ _ _ _ rfl) (zWn hW _ _ _ _ rfl) zd_M_copy_74 (by decide) (fun c14 => ?_) (fun c14 => ?_)
              · rw [if_pos c14] at hf
                refine lv_iload_n C.1 C.2.1 zd_M_copy_80 rfl (lv_at hl 2 rfl) ?_
                refine zr_if_lt (tgt := 129) C nx2 zd_M_copy_81 (by decide) (fun c15 => ?_) (fun c15 => ?_)
                · rw [if_pos c15] at hf
                  refine zr_bipush C zd_M_copy_129 (by decide) ?_
                  cases hf
                  exact zre_i C hr hlk hK hW hS (znb rfl) zd_M_copy_131
                · rw [if_neg c15] at hf
                  refine lv_iload C.1 C.2.1 zd_M_copy_84 (lv_at hl 4 rfl) ?_
                  refine zr_if_lt (tgt := 129) C nx4 zd_M_copy_86 (by decide) (fun c16 => ?_) (fun c16 => ?_)
                  · rw [if_pos c16] at hf
                    refine zr_bipush C zd_M_copy_129 (by decide) ?_
                    cases hf
                    exact zre_i C hr hlk hK hW hS (znb rfl) zd_M_copy_131
                  · rw [if_neg c16] at hf
                    refine lv_iload C.1 C.2.1 zd_M_copy_89 (lv_at hl 5 rfl) ?_
                    refine zr_if_lt (tgt := 129) C nx5 zd_M_copy_91 (by decide) (fun c17 => ?_) (fun c17 => ?_)
                    · rw [if_pos c17] at hf
                      refine zr_bipush C zd_M_copy_129 (by decide) ?_
                      cases hf
                      exact zre_i C hr hlk hK hW hS (znb rfl) zd_M_copy_131
                    · rw [if_neg c17] at hf
                      refine lv_iload_n C.1 C.2.1 zd_M_copy_94 rfl (lv_at hl 2 rfl) ?_
                      refine zr_i2l C nx2 zd_M_copy_95 ?_
                      refine lv_iload C.1 C.2.1 zd_M_copy_96 (lv_at hl 5 rfl) ?_
                      refine zr_i2l C nx5 zd_M_copy_98 ?_
                      refine zr_ladd C zd_M_copy_99 ?_
                      refine lv_aload_n C.1 C.2.1 zd_M_copy_100 rfl (lv_at hl 0 rfl) ?_
                      refine zg_M_rowSize (r := 0) C hK hW (zvd_9 (by decide) (by decide)) zk_1507 zd_M_copy_101 ?_
                      refine lv_iload_n C.1 C.2.1 zd_M_copy_104 rfl (lv_at hl 1 rfl) ?_
                      refine ziald C hK hW (zvd_9 (by decide) (by decide)) (fun f => ze_9_3 B f (0)) (by decide) h8 zd_M_copy_105 ?_
                      refine zr_i2l C (zWn hW _ _ _ _ rfl) zd_M_copy_106 ?_
                      refine zr_lcmp C (zm_v _) (zm_n (zWn hW _ _ _ _ rfl)) zd_M_copy_107 ?_
                      refine zr_if_gt (tgt := 129) C (zn_cmp _ _) zd_M_copy_108 (by decide) (fun c18 => ?_) (fun c18 => ?_)
                      · rw [if_pos c18] at hf
                        refine zr_bipush C zd_M_copy_129 (by decide) ?_
                        cases hf
                        exact zre_i C hr hlk hK hW hS (znb rfl) zd_M_copy_131
                      · rw [if_neg c18] at hf
                        refine lv_iload C.1 C.2.1 zd_M_copy_111 (lv_at hl 4 rfl) ?_
                        refine zr_i2l C nx4 zd_M_copy_113 ?_
                        refine lv_iload C.1 C.2.1 zd_M_copy_114 (lv_at hl 5 rfl) ?_
                        refine zr_i2l C nx5 zd_M_copy_116 ?_
                        refine zr_ladd C zd_M_copy_117 ?_
                        refine lv_aload_n C.1 C.2.1 zd_M_copy_118 rfl (lv_at hl 0 rfl) ?_
                        refine zg_M_rowSize (r := 0) C hK hW (zvd_9 (by decide) (by decide)) zk_1507 zd_M_copy_119 ?_
                        refine lv_iload_n C.1 C.2.1 zd_M_copy_122 rfl (lv_at hl 3 rfl) ?_
                        refine ziald C hK hW (zvd_9 (by decide) (by decide)) (fun f => ze_9_3 B f (0)) (by decide) h10 zd_M_copy_123 ?_
                        refine zr_i2l C (zWn hW _ _ _ _ rfl) zd_M_copy_124 ?_
                        refine zr_lcmp C (zm_v _) (zm_n (zWn hW _ _ _ _ rfl)) zd_M_copy_125 ?_
                        refine zr_if_le (tgt := 132) C (zn_cmp _ _) zd_M_copy_126 (by decide) (fun c19 => ?_) (fun c19 => ?_)
                        · rw [if_pos c19] at hf
                          refine lv_aload_n C.1 C.2.1 zd_M_copy_132 rfl (lv_at hl 0 rfl) ?_
                          refine zg_M_rows (r := 0) C hK hW (zvd_9 (by decide) (by decide)) zk_1508 zd_M_copy_133 ?_
                          refine lv_iload_n C.1 C.2.1 zd_M_copy_136 rfl (lv_at hl 1 rfl) ?_
                          refine zaald (t0 := 4) C hK hW (zvd_9 (by decide) (by decide)) (fun f => ze_9_4 B f (0)) rfl rfl (by decide) h8 zd_M_copy_137 (a := B.2.1 10 (x1) (0)) (by rw [Int.toNat_of_nonneg h8.1]) ?_
                          refine lv_iload_n C.1 C.2.1 zd_M_copy_138 rfl (lv_at hl 2 rfl) ?_
                          refine lv_aload_n C.1 C.2.1 zd_M_copy_139 rfl (lv_at hl 0 rfl) ?_
                          refine zg_M_rows (r := 0) C hK hW (zvd_9 (by decide) (by decide)) zk_1508 zd_M_copy_140 ?_
                          refine lv_iload_n C.1 C.2.1 zd_M_copy_143 rfl (lv_at hl 3 rfl) ?_
                          refine zaald (t0 := 4) C hK hW (zvd_9 (by decide) (by decide)) (fun f => ze_9_4 B f (0)) rfl rfl (by decide) h10 zd_M_copy_144 (a := B.2.1 10 (x3) (0)) (by rw [Int.toNat_of_nonneg h10.1]) ?_
                          refine lv_iload C.1 C.2.1 zd_M_copy_145 (lv_at hl 4 rfl) ?_
                          refine lv_iload C.1 C.2.1 zd_M_copy_147 (lv_at hl 5 rfl) ?_
                          obtain ⟨h20, hf⟩ := zck_some hf
                          obtain ⟨S21, eS21, hf⟩ := zlt_some hf
                          refine zcopy C hK hap hW hS hl.1 (zvd_10 h8 (by decide)) (zvd_10 h10 (by decide)) (fun f => ze_10_0 B f (x1)) (fun f => ze_10_0 B f (x3)) (by decide) (by decide) rfl rfl h20 zk_1743 zk_735 zk_734 zk_18 (by decide) (Nat.le_of_ble_eq_true rfl) zd_M_copy_149 (fun H locs hW hS => ?_)
                          rw [eS21] at hW
                          refine lv_iload C.1 C.2.1 zd_M_copy_152 (lv_at hl 5 rfl) ?_
                          cases hf
                          exact zre_i C hr hlk hK hW hS nx5 zd_M_copy_154
                        · rw [if_neg c19] at hf
                          refine zr_bipush C zd_M_copy_129 (by decide) ?_
                          cases hf
                          exact zre_i C hr hlk hK hW hS (znb rfl) zd_M_copy_131
              · rw [if_neg c14] at hf
                refine zr_bipush C zd_M_copy_77 (by decide) ?_
                cases hf
                exact zre_i C hr hlk hK hW hS (znb rfl) zd_M_copy_79
        · rw [if_pos c11] at hf
          refine zr_bipush C zd_M_copy_39 (by decide) ?_
          cases hf
          exact zre_i C hr hlk hK hW hS (znb rfl) zd_M_copy_41
    · rw [if_pos c7] at hf
      refine zr_iconst C zd_M_copy_19 ?_
      cases hf
      exact zre_i C hr hlk hK hW hS (znb rfl) zd_M_copy_20

theorem zc_M_copy {l : Launch} {B : zB} (hap : zAp B) (x1 : Int) (x2 : Int) (x3 : Int) (x4 : Int) (x5 : Int) (S : Sg) (nx1 : zn x1) (nx2 : zn x2) (nx3 : zn x3) (nx4 : zn x4) (nx5 : zn x5) {res : Int} {S9 : Sg} (hf : zf_M_copy x1 x2 x3 x4 x5 S = some (res, S9)) : Met l zy_M_copy (Cond.code zy_M_copy zb_M_copy 6 (some .int) :: zT) zm_M_copy (zP B S [.ref (B.2.1 9 (0) (0)), .int (zI (x1)), .int (zI (x2)), .int (zI (x3)), .int (zI (x4)), .int (zI (x5))]) (zQi B res S9) 0 0 B.2.2.2 :=
  zmet (by decide) (Nat.le_of_ble_eq_true rfl) (fun p e s m args below meth c C hr hlk hK hSt hW ls hl => zw_M_copy C hr hlk hK hSt hap   x1 x2 x3 x4 x5 S nx1 nx2 nx3 nx4 nx5 hf _ _ _ hW va_S.rf hl)
/-! IslandOfficeModel.noThing(I)I -/
abbrev zy_M_noThing : MethodName := ⟨"IslandOfficeModel", "noThing", "(I)I"⟩
abbrev zb_M_noThing : ByteArray := prog_14_method_71_code
abbrev zm_M_noThing : Room := { frames := 0, cells := 0, slots := 0, locals := 0 }
theorem zq_M_noThing : zMy zy_M_noThing zb_M_noThing 2 (some .int) 1 := ⟨zk_2055, zk_2054, zs_96, zk_14, by decide, by decide, by decide +kernel⟩
theorem zd_M_noThing_0 : decode zb_M_noThing 0 = .ok (.aload_n 0, 1) := by decide +kernel
theorem zd_M_noThing_1 : decode zb_M_noThing 1 = .ok (.getfield 22, 3) := by decide +kernel
theorem zd_M_noThing_4 : decode zb_M_noThing 4 = .ok (.iload_n 1, 1) := by decide +kernel
theorem zd_M_noThing_5 : decode zb_M_noThing 5 = .ok (.iaload, 1) := by decide +kernel
theorem zd_M_noThing_6 : decode zb_M_noThing 6 = .ok (.ifCond .ne 8, 3) := by decide +kernel
theorem zd_M_noThing_9 : decode zb_M_noThing 9 = .ok (.bipush (-11), 2) := by decide +kernel
theorem zd_M_noThing_11 : decode zb_M_noThing 11 = .ok (.goto 19, 3) := by decide +kernel
theorem zd_M_noThing_14 : decode zb_M_noThing 14 = .ok (.aload_n 0, 1) := by decide +kernel
theorem zd_M_noThing_15 : decode zb_M_noThing 15 = .ok (.getfield 22, 3) := by decide +kernel
theorem zd_M_noThing_18 : decode zb_M_noThing 18 = .ok (.iload_n 1, 1) := by decide +kernel
theorem zd_M_noThing_19 : decode zb_M_noThing 19 = .ok (.iaload, 1) := by decide +kernel
theorem zd_M_noThing_20 : decode zb_M_noThing 20 = .ok (.iconst 3, 1) := by decide +kernel
theorem zd_M_noThing_21 : decode zb_M_noThing 21 = .ok (.if_icmp .ne 8, 3) := by decide +kernel
theorem zd_M_noThing_24 : decode zb_M_noThing 24 = .ok (.bipush (-12), 2) := by decide +kernel
theorem zd_M_noThing_26 : decode zb_M_noThing 26 = .ok (.goto 4, 3) := by decide +kernel
theorem zd_M_noThing_29 : decode zb_M_noThing 29 = .ok (.iconst 0, 1) := by decide +kernel
theorem zd_M_noThing_30 : decode zb_M_noThing 30 = .ok (.ireturn, 1) := by decide +kernel

def zf_M_noThing (x1 : Int) (S : Sg) : Option (Int × Sg) :=
    zck (0 ≤ x1 ∧ x1 < 8) <| if (S 9 0 1 x1) = 0 then (some (-11, S)) else (if (S 9 0 1 x1) = 3 then (some (-12, S)) else (some (0, S)))
set_option maxHeartbeats 4000000 in
set_option maxRecDepth 100000 in
theorem zw_M_noThing {p : Program} {l : Launch} {e : Env} {s : State} {m : MethodId} {args : Array Value} {below : List Frame} {meth : Method} {c : Code} {B : zB} (C : CallFix p m c zb_M_noThing 2 s args zT "IslandOfficeModel") (hr : meth.sig.returnType = some .int) (hlk : meth.locks = false) (hK : zK B s) (hSt : zSt B s) (hap : zAp B) {res : Int} {S9 : Sg} : ∀ (x1 : Int) (S : Sg) (nx1 : zn x1), zf_M_noThing x1 S = some (res, S9) → ∀ (H : Heap) (locs : List Loc) (ls : Array Slot), zW B S H → va_S B.2.2.2 s.heap H locs → lv_has ls 2 [(0, .ref (B.2.1 9 (0) (0))), (1, .int (zI (x1)))] → W p l e zm_M_noThing s m args below meth c H locs 0 0 (MQ below (zQi B res S9) args s 0 0 B.2.2.2) (F0 m 0 ls []) := by
  intro x1 S nx1 hf H locs ls hW hS hl
  unfold zf_M_noThing at hf
  refine lv_aload_n C.1 C.2.1 zd_M_noThing_0 rfl (lv_at hl 0 rfl) ?_
  refine zg_M_held (r := 0) C hK hW (zvd_9 (by decide) (by decide)) zk_1505 zd_M_noThing_1 ?_
  refine lv_iload_n C.1 C.2.1 zd_M_noThing_4 rfl (lv_at hl 1 rfl) ?_
  obtain ⟨h1, hf⟩ := zck_some hf
  refine ziald C hK hW (zvd_9 (by decide) (by decide)) (fun f => ze_9_1 B f (0)) (by decide) h1 zd_M_noThing_5 ?_
  refine zr_if_ne (tgt := 14) C (zWn hW _ _ _ _ rfl) zd_M_noThing_6 (by decide) (fun c2 => ?_) (fun c2 => ?_)
  · rw [if_neg c2] at hf
    refine lv_aload_n C.1 C.2.1 zd_M_noThing_14 rfl (lv_at hl 0 rfl) ?_
    refine zg_M_held (r := 0) C hK hW (zvd_9 (by decide) (by decide)) zk_1505 zd_M_noThing_15 ?_
    refine lv_iload_n C.1 C.2.1 zd_M_noThing_18 rfl (lv_at hl 1 rfl) ?_
    refine ziald C hK hW (zvd_9 (by decide) (by decide)) (fun f => ze_9_1 B f (0)) (by decide) h1 zd_M_noThing_19 ?_
    refine zr_iconst C zd_M_noThing_20 ?_
    refine zr_icmp_ne (tgt := 29) C (zWn hW _ _ _ _ rfl) (znb rfl) zd_M_noThing_21 (by decide) (fun c3 => ?_) (fun c3 => ?_)
    · rw [if_neg c3] at hf
      refine zr_iconst C zd_M_noThing_29 ?_
      cases hf
      exact zre_i C hr hlk hK hW hS (znb rfl) zd_M_noThing_30
    · rw [if_pos c3] at hf
      refine zr_bipush C zd_M_noThing_24 (by decide) ?_
      refine lv_goto (tgt := 30) C.1 C.2.1 zd_M_noThing_26 (by decide) ?_
      cases hf
      exact zre_i C hr hlk hK hW hS (znb rfl) zd_M_noThing_30
  · rw [if_pos c2] at hf
    refine zr_bipush C zd_M_noThing_9 (by decide) ?_
    refine lv_goto (tgt := 30) C.1 C.2.1 zd_M_noThing_11 (by decide) ?_
    cases hf
    exact zre_i C hr hlk hK hW hS (znb rfl) zd_M_noThing_30

theorem zc_M_noThing {l : Launch} {B : zB} (hap : zAp B) (x1 : Int) (S : Sg) (nx1 : zn x1) {res : Int} {S9 : Sg} (hf : zf_M_noThing x1 S = some (res, S9)) : Met l zy_M_noThing (Cond.code zy_M_noThing zb_M_noThing 2 (some .int) :: zT) zm_M_noThing (zP B S [.ref (B.2.1 9 (0) (0)), .int (zI (x1))]) (zQi B res S9) 0 0 B.2.2.2 :=
  zmet (by decide) (Nat.le_of_ble_eq_true rfl) (fun p e s m args below meth c C hr hlk hK hSt hW ls hl => zw_M_noThing C hr hlk hK hSt hap   x1 S nx1 hf _ _ _ hW va_S.rf hl)
/-! IslandOfficeModel.weight(I)I -/
abbrev zy_M_weight : MethodName := ⟨"IslandOfficeModel", "weight", "(I)I"⟩
abbrev zb_M_weight : ByteArray := prog_14_method_72_code
abbrev zm_M_weight : Room := { frames := 2, cells := 0, slots := 0, locals := 42 }
theorem zq_M_weight : zMy zy_M_weight zb_M_weight 4 (some .int) 1 := ⟨zk_2051, zk_2049, zk_2050, zk_14, by decide, by decide, by decide +kernel⟩
theorem zd_M_weight_0 : decode zb_M_weight 0 = .ok (.aload_n 0, 1) := by decide +kernel
theorem zd_M_weight_1 : decode zb_M_weight 1 = .ok (.iconst 0, 1) := by decide +kernel
theorem zd_M_weight_2 : decode zb_M_weight 2 = .ok (.putfield 46, 3) := by decide +kernel
theorem zd_M_weight_5 : decode zb_M_weight 5 = .ok (.iload_n 1, 1) := by decide +kernel
theorem zd_M_weight_6 : decode zb_M_weight 6 = .ok (.invokestatic 172, 3) := by decide +kernel
theorem zd_M_weight_9 : decode zb_M_weight 9 = .ok (.ifCond .ne 5, 3) := by decide +kernel
theorem zd_M_weight_12 : decode zb_M_weight 12 = .ok (.iconst (-1), 1) := by decide +kernel
theorem zd_M_weight_13 : decode zb_M_weight 13 = .ok (.ireturn, 1) := by decide +kernel
theorem zd_M_weight_14 : decode zb_M_weight 14 = .ok (.aload_n 0, 1) := by decide +kernel
theorem zd_M_weight_15 : decode zb_M_weight 15 = .ok (.iload_n 1, 1) := by decide +kernel
theorem zd_M_weight_16 : decode zb_M_weight 16 = .ok (.invokevirtual 342, 3) := by decide +kernel
theorem zd_M_weight_19 : decode zb_M_weight 19 = .ok (.ifCond .eq 9, 3) := by decide +kernel
theorem zd_M_weight_22 : decode zb_M_weight 22 = .ok (.aload_n 0, 1) := by decide +kernel
theorem zd_M_weight_23 : decode zb_M_weight 23 = .ok (.iload_n 1, 1) := by decide +kernel
theorem zd_M_weight_24 : decode zb_M_weight 24 = .ok (.invokevirtual 342, 3) := by decide +kernel
theorem zd_M_weight_27 : decode zb_M_weight 27 = .ok (.ireturn, 1) := by decide +kernel
theorem zd_M_weight_28 : decode zb_M_weight 28 = .ok (.aload_n 0, 1) := by decide +kernel
theorem zd_M_weight_29 : decode zb_M_weight 29 = .ok (.getfield 22, 3) := by decide +kernel
theorem zd_M_weight_32 : decode zb_M_weight 32 = .ok (.iload_n 1, 1) := by decide +kernel
theorem zd_M_weight_33 : decode zb_M_weight 33 = .ok (.iaload, 1) := by decide +kernel
theorem zd_M_weight_34 : decode zb_M_weight 34 = .ok (.iconst 2, 1) := by decide +kernel
theorem zd_M_weight_35 : decode zb_M_weight 35 = .ok (.if_icmp .ne 25, 3) := by decide +kernel
theorem zd_M_weight_38 : decode zb_M_weight 38 = .ok (.sipush 1000, 3) := by decide +kernel
theorem zd_M_weight_41 : decode zb_M_weight 41 = .ok (.aload_n 0, 1) := by decide +kernel
theorem zd_M_weight_42 : decode zb_M_weight 42 = .ok (.getfield 37, 3) := by decide +kernel
theorem zd_M_weight_45 : decode zb_M_weight 45 = .ok (.iload_n 1, 1) := by decide +kernel
theorem zd_M_weight_46 : decode zb_M_weight 46 = .ok (.aaload, 1) := by decide +kernel
theorem zd_M_weight_47 : decode zb_M_weight 47 = .ok (.iconst 1, 1) := by decide +kernel
theorem zd_M_weight_48 : decode zb_M_weight 48 = .ok (.iaload, 1) := by decide +kernel
theorem zd_M_weight_49 : decode zb_M_weight 49 = .ok (.iadd, 1) := by decide +kernel
theorem zd_M_weight_50 : decode zb_M_weight 50 = .ok (.aload_n 0, 1) := by decide +kernel
theorem zd_M_weight_51 : decode zb_M_weight 51 = .ok (.getfield 37, 3) := by decide +kernel
theorem zd_M_weight_54 : decode zb_M_weight 54 = .ok (.iload_n 1, 1) := by decide +kernel
theorem zd_M_weight_55 : decode zb_M_weight 55 = .ok (.aaload, 1) := by decide +kernel
theorem zd_M_weight_56 : decode zb_M_weight 56 = .ok (.iconst 2, 1) := by decide +kernel
theorem zd_M_weight_57 : decode zb_M_weight 57 = .ok (.iaload, 1) := by decide +kernel
theorem zd_M_weight_58 : decode zb_M_weight 58 = .ok (.iadd, 1) := by decide +kernel
theorem zd_M_weight_59 : decode zb_M_weight 59 = .ok (.ireturn, 1) := by decide +kernel
theorem zd_M_weight_60 : decode zb_M_weight 60 = .ok (.aload_n 0, 1) := by decide +kernel
theorem zd_M_weight_61 : decode zb_M_weight 61 = .ok (.getfield 37, 3) := by decide +kernel
theorem zd_M_weight_64 : decode zb_M_weight 64 = .ok (.iload_n 1, 1) := by decide +kernel
theorem zd_M_weight_65 : decode zb_M_weight 65 = .ok (.aaload, 1) := by decide +kernel
theorem zd_M_weight_66 : decode zb_M_weight 66 = .ok (.iconst 0, 1) := by decide +kernel
theorem zd_M_weight_67 : decode zb_M_weight 67 = .ok (.iaload, 1) := by decide +kernel
theorem zd_M_weight_68 : decode zb_M_weight 68 = .ok (.istore_n 2, 1) := by decide +kernel
theorem zd_M_weight_69 : decode zb_M_weight 69 = .ok (.bipush 10, 2) := by decide +kernel
theorem zd_M_weight_71 : decode zb_M_weight 71 = .ok (.iload_n 2, 1) := by decide +kernel
theorem zd_M_weight_72 : decode zb_M_weight 72 = .ok (.iconst 0, 1) := by decide +kernel
theorem zd_M_weight_73 : decode zb_M_weight 73 = .ok (.invokestatic 345, 3) := by decide +kernel
theorem zd_M_weight_76 : decode zb_M_weight 76 = .ok (.iadd, 1) := by decide +kernel
theorem zd_M_weight_77 : decode zb_M_weight 77 = .ok (.iload_n 2, 1) := by decide +kernel
theorem zd_M_weight_78 : decode zb_M_weight 78 = .ok (.iconst 0, 1) := by decide +kernel
theorem zd_M_weight_79 : decode zb_M_weight 79 = .ok (.invokestatic 349, 3) := by decide +kernel
theorem zd_M_weight_82 : decode zb_M_weight 82 = .ok (.iadd, 1) := by decide +kernel
theorem zd_M_weight_83 : decode zb_M_weight 83 = .ok (.iload_n 2, 1) := by decide +kernel
theorem zd_M_weight_84 : decode zb_M_weight 84 = .ok (.iadd, 1) := by decide +kernel
theorem zd_M_weight_85 : decode zb_M_weight 85 = .ok (.istore_n 3, 1) := by decide +kernel
theorem zd_M_weight_86 : decode zb_M_weight 86 = .ok (.iload_n 2, 1) := by decide +kernel
theorem zd_M_weight_87 : decode zb_M_weight 87 = .ok (.iconst 1, 1) := by decide +kernel
theorem zd_M_weight_88 : decode zb_M_weight 88 = .ok (.if_icmp .ne 16, 3) := by decide +kernel
theorem zd_M_weight_91 : decode zb_M_weight 91 = .ok (.iload_n 3, 1) := by decide +kernel
theorem zd_M_weight_92 : decode zb_M_weight 92 = .ok (.aload_n 0, 1) := by decide +kernel
theorem zd_M_weight_93 : decode zb_M_weight 93 = .ok (.getfield 37, 3) := by decide +kernel
theorem zd_M_weight_96 : decode zb_M_weight 96 = .ok (.iload_n 1, 1) := by decide +kernel
theorem zd_M_weight_97 : decode zb_M_weight 97 = .ok (.aaload, 1) := by decide +kernel
theorem zd_M_weight_98 : decode zb_M_weight 98 = .ok (.iconst 1, 1) := by decide +kernel
theorem zd_M_weight_99 : decode zb_M_weight 99 = .ok (.iaload, 1) := by decide +kernel
theorem zd_M_weight_100 : decode zb_M_weight 100 = .ok (.iadd, 1) := by decide +kernel
theorem zd_M_weight_101 : decode zb_M_weight 101 = .ok (.goto 15, 3) := by decide +kernel
theorem zd_M_weight_104 : decode zb_M_weight 104 = .ok (.iload_n 2, 1) := by decide +kernel
theorem zd_M_weight_105 : decode zb_M_weight 105 = .ok (.iconst 5, 1) := by decide +kernel
theorem zd_M_weight_106 : decode zb_M_weight 106 = .ok (.if_icmp .ne 9, 3) := by decide +kernel
theorem zd_M_weight_109 : decode zb_M_weight 109 = .ok (.iconst 2, 1) := by decide +kernel
theorem zd_M_weight_110 : decode zb_M_weight 110 = .ok (.iload_n 3, 1) := by decide +kernel
theorem zd_M_weight_111 : decode zb_M_weight 111 = .ok (.imul, 1) := by decide +kernel
theorem zd_M_weight_112 : decode zb_M_weight 112 = .ok (.goto 4, 3) := by decide +kernel
theorem zd_M_weight_115 : decode zb_M_weight 115 = .ok (.iload_n 3, 1) := by decide +kernel
theorem zd_M_weight_116 : decode zb_M_weight 116 = .ok (.ireturn, 1) := by decide +kernel

def zf_M_weight (x1 : Int) (S : Sg) : Option (Int × Sg) :=
    zlt (zu S 9 0 0 4 0) fun S1 => zbd (zf_M_isShelf x1 S1) fun a2 S3 => if a2 = 0 then (some (-1, S3)) else (zbd (zf_M_noThing x1 S3) fun a5 S6 => if a5 = 0 then (zck (0 ≤ x1 ∧ x1 < 8) <| if (S6 9 0 1 x1) = 2 then (some (zw ((zw (1000 + (S6 11 x1 0 1))) + (S6 11 x1 0 2)), S6)) else (zlt (S6 11 x1 0 0) fun v10 => zbd (zf_W_need v10 0 S6) fun a11 S12 => zbd (zf_W_wage v10 0 S12) fun a13 S14 => zlt (zw ((zw ((zw (10 + a11)) + a13)) + v10)) fun v15 => if v10 = 1 then (some (zw (v15 + (S14 11 x1 0 1)), S14)) else (if v10 = 5 then (some (zw (2 * v15), S14)) else (some (v15, S14))))) else (zbd (zf_M_noThing x1 S6) fun a18 S19 => some (a18, S19)))
set_option maxHeartbeats 4000000 in
set_option maxRecDepth 100000 in
theorem zw_M_weight {p : Program} {l : Launch} {e : Env} {s : State} {m : MethodId} {args : Array Value} {below : List Frame} {meth : Method} {c : Code} {B : zB} (C : CallFix p m c zb_M_weight 4 s args zT "IslandOfficeModel") (hr : meth.sig.returnType = some .int) (hlk : meth.locks = false) (hK : zK B s) (hSt : zSt B s) (hap : zAp B) {res : Int} {S9 : Sg} : ∀ (x1 : Int) (S : Sg) (nx1 : zn x1), zf_M_weight x1 S = some (res, S9) → ∀ (H : Heap) (locs : List Loc) (ls : Array Slot), zW B S H → va_S B.2.2.2 s.heap H locs → lv_has ls 4 [(0, .ref (B.2.1 9 (0) (0))), (1, .int (zI (x1)))] → W p l e zm_M_weight s m args below meth c H locs 0 0 (MQ below (zQi B res S9) args s 0 0 B.2.2.2) (F0 m 0 ls []) := by
  intro x1 S nx1 hf H locs ls hW hS hl
  unfold zf_M_weight at hf
  refine lv_aload_n C.1 C.2.1 zd_M_weight_0 rfl (lv_at hl 0 rfl) ?_
  refine zr_iconst C zd_M_weight_1 ?_
  obtain ⟨S1, eS1, hf⟩ := zlt_some hf
  refine zp_M_thrown (r := 0) C hK hap hW hS (zvd_9 (by decide) (by decide)) zk_1504 (znb rfl) zd_M_weight_2 (fun H locs hW hS => ?_)
  rw [eS1] at hW
  refine lv_iload_n C.1 C.2.1 zd_M_weight_5 rfl (lv_at hl 1 rfl) ?_
  obtain ⟨a2, S3, ea2, hf⟩ := zbd_some hf
  refine zcSi (As := [.int (zI (x1))]) (rest := []) C hK hSt hW hS (zc_M_isShelf hap x1 S1 nx1 ea2) zq_M_isShelf zk_1645 ⟨rfl, rfl, by decide, by decide⟩ ⟨Nat.zero_le _, Nat.zero_le _⟩ rfl hl.1 rfl (lv_room (Nat.le_of_ble_eq_true rfl)) zd_M_weight_6 (fun na2 H locs hW hS => ?_)
  refine zr_if_ne (tgt := 14) C na2 zd_M_weight_9 (by decide) (fun c4 => ?_) (fun c4 => ?_)
  · rw [if_neg c4] at hf
    refine lv_aload_n C.1 C.2.1 zd_M_weight_14 rfl (lv_at hl 0 rfl) ?_
    refine lv_iload_n C.1 C.2.1 zd_M_weight_15 rfl (lv_at hl 1 rfl) ?_
    obtain ⟨a5, S6, ea5, hf⟩ := zbd_some hf
    refine zcVi (As := [.int (zI (x1))]) (rest := []) C hK hSt hW hS (zc_M_noThing hap x1 S3 nx1 ea5) zq_M_noThing zk_2052 (zrecv hK hW (zvd_9 (by decide) (by decide)) (ze_9_0 B _ (0)) rfl) ⟨rfl, rfl, by decide, by decide⟩ ⟨Nat.zero_le _, Nat.zero_le _⟩ rfl hl.1 rfl (lv_room (Nat.le_of_ble_eq_true rfl)) zd_M_weight_16 (fun na5 H locs hW hS => ?_)
    refine zr_if_eq (tgt := 28) C na5 zd_M_weight_19 (by decide) (fun c7 => ?_) (fun c7 => ?_)
    · rw [if_pos c7] at hf
      refine lv_aload_n C.1 C.2.1 zd_M_weight_28 rfl (lv_at hl 0 rfl) ?_
      refine zg_M_held (r := 0) C hK hW (zvd_9 (by decide) (by decide)) zk_1505 zd_M_weight_29 ?_
      refine lv_iload_n C.1 C.2.1 zd_M_weight_32 rfl (lv_at hl 1 rfl) ?_
      obtain ⟨h8, hf⟩ := zck_some hf
      refine ziald C hK hW (zvd_9 (by decide) (by decide)) (fun f => ze_9_1 B f (0)) (by decide) h8 zd_M_weight_33 ?_
      refine zr_iconst C zd_M_weight_34 ?_
      refine zr_icmp_ne (tgt := 60) C (zWn hW _ _ _ _ rfl) (znb rfl) zd_M_weight_35 (by decide) (fun c9 => ?_) (fun c9 => ?_)
      · rw [if_neg c9] at hf
        refine lv_aload_n C.1 C.2.1 zd_M_weight_60 rfl (lv_at hl 0 rfl) ?_
        refine zg_M_kept (r := 0) C hK hW (zvd_9 (by decide) (by decide)) zk_1509 zd_M_weight_61 ?_
        refine lv_iload_n C.1 C.2.1 zd_M_weight_64 rfl (lv_at hl 1 rfl) ?_
        refine zaald (t0 := 4) C hK hW (zvd_9 (by decide) (by decide)) (fun f => ze_9_5 B f (0)) rfl rfl (by decide) h8 zd_M_weight_65 (a := B.2.1 11 (x1) (0)) (by rw [Int.toNat_of_nonneg h8.1]) ?_
        refine zr_iconst C zd_M_weight_66 ?_
        refine ziald C hK hW (zvd_11 h8 (by decide)) (fun f => ze_11_0 B f (x1)) (by decide) (by decide) zd_M_weight_67 ?_
        obtain ⟨v10, ev10, hf⟩ := zlt_some hf
        have nv10 : zn v10 := by rw [← ev10]; exact (zWn hW _ _ _ _ rfl)
        rw [ev10]
        refine lv_istore_n (lv' := [(2, .int (zI (v10))), (0, .ref (B.2.1 9 (0) (0))), (1, .int (zI (x1)))]) C.1 C.2.1 zd_M_weight_68 rfl hl (by decide) rfl (fun ls hl => ?_)
        refine zr_bipush C zd_M_weight_69 (by decide) ?_
        refine lv_iload_n C.1 C.2.1 zd_M_weight_71 rfl (lv_at hl 0 rfl) ?_
        refine zr_iconst C zd_M_weight_72 ?_
        obtain ⟨a11, S12, ea11, hf⟩ := zbd_some hf
        refine zcSi (As := [.int (zI (v10)), .int (zI (0))]) (rest := [.int (zI (10))]) C hK hSt hW hS (zc_W_need hap v10 0 S6 nv10 (znb rfl) ea11) zq_W_need zk_2056 ⟨rfl, rfl, by decide, by decide⟩ ⟨Nat.zero_le _, Nat.zero_le _⟩ rfl hl.1 rfl (lv_room (Nat.le_of_ble_eq_true rfl)) zd_M_weight_73 (fun na11 H locs hW hS => ?_)
        refine zr_iadd C zd_M_weight_76 ?_
        refine lv_iload_n C.1 C.2.1 zd_M_weight_77 rfl (lv_at hl 0 rfl) ?_
        refine zr_iconst C zd_M_weight_78 ?_
        obtain ⟨a13, S14, ea13, hf⟩ := zbd_some hf
        refine zcSi (As := [.int (zI (v10)), .int (zI (0))]) (rest := [.int (zI (zw (10 + a11)))]) C hK hSt hW hS (zc_W_wage hap v10 0 S12 nv10 (znb rfl) ea13) zq_W_wage zk_2057 ⟨rfl, rfl, by decide, by decide⟩ ⟨Nat.zero_le _, Nat.zero_le _⟩ rfl hl.1 rfl (lv_room (Nat.le_of_ble_eq_true rfl)) zd_M_weight_79 (fun na13 H locs hW hS => ?_)
        refine zr_iadd C zd_M_weight_82 ?_
        refine lv_iload_n C.1 C.2.1 zd_M_weight_83 rfl (lv_at hl 0 rfl) ?_
        refine zr_iadd C zd_M_weight_84 ?_
        obtain ⟨v15, ev15, hf⟩ := zlt_some hf
        have nv15 : zn v15 := by rw [← ev15]; exact (zn_w _)
        rw [ev15]
        refine lv_istore_n (lv' := [(3, .int (zI (v15))), (2, .int (zI (v10))), (0, .ref (B.2.1 9 (0) (0))), (1, .int (zI (x1)))]) C.1 C.2.1 zd_M_weight_85 rfl hl (by decide) rfl (fun ls hl => ?_)
        refine lv_iload_n C.1 C.2.1 zd_M_weight_86 rfl (lv_at hl 1 rfl) ?_
        refine zr_iconst C zd_M_weight_87 ?_
        refine zr_icmp_ne (tgt := 104) C nv10 (znb rfl) zd_M_weight_88 (by decide) (fun c16 => ?_) (fun c16 => ?_)
        · rw [if_neg c16] at hf
          refine lv_iload_n C.1 C.2.1 zd_M_weight_104 rfl (lv_at hl 1 rfl) ?_
          refine zr_iconst C zd_M_weight_105 ?_
          refine zr_icmp_ne (tgt := 115) C nv10 (znb rfl) zd_M_weight_106 (by decide) (fun c17 => ?_) (fun c17 => ?_)
          · rw [if_neg c17] at hf
            refine lv_iload_n C.1 C.2.1 zd_M_weight_115 rfl (lv_at hl 0 rfl) ?_
            cases hf
            exact zre_i C hr hlk hK hW hS nv15 zd_M_weight_116
          · rw [if_pos c17] at hf
            refine zr_iconst C zd_M_weight_109 ?_
            refine lv_iload_n C.1 C.2.1 zd_M_weight_110 rfl (lv_at hl 0 rfl) ?_
            refine zr_imul C zd_M_weight_111 ?_
            refine lv_goto (tgt := 116) C.1 C.2.1 zd_M_weight_112 (by decide) ?_
            cases hf
            exact zre_i C hr hlk hK hW hS (zn_w _) zd_M_weight_116
        · rw [if_pos c16] at hf
          refine lv_iload_n C.1 C.2.1 zd_M_weight_91 rfl (lv_at hl 0 rfl) ?_
          refine lv_aload_n C.1 C.2.1 zd_M_weight_92 rfl (lv_at hl 2 rfl) ?_
          refine zg_M_kept (r := 0) C hK hW (zvd_9 (by decide) (by decide)) zk_1509 zd_M_weight_93 ?_
          refine lv_iload_n C.1 C.2.1 zd_M_weight_96 rfl (lv_at hl 3 rfl) ?_
          refine zaald (t0 := 4) C hK hW (zvd_9 (by decide) (by decide)) (fun f => ze_9_5 B f (0)) rfl rfl (by decide) h8 zd_M_weight_97 (a := B.2.1 11 (x1) (0)) (by rw [Int.toNat_of_nonneg h8.1]) ?_
          refine zr_iconst C zd_M_weight_98 ?_
          refine ziald C hK hW (zvd_11 h8 (by decide)) (fun f => ze_11_0 B f (x1)) (by decide) (by decide) zd_M_weight_99 ?_
          refine zr_iadd C zd_M_weight_100 ?_
          refine lv_goto (tgt := 116) C.1 C.2.1 zd_M_weight_101 (by decide) ?_
          cases hf
          exact zre_i C hr hlk hK hW hS (zn_w _) zd_M_weight_116
      · rw [if_pos c9] at hf
        refine zr_sipush C zd_M_weight_38 (by decide) ?_
        refine lv_aload_n C.1 C.2.1 zd_M_weight_41 rfl (lv_at hl 0 rfl) ?_
        refine zg_M_kept (r := 0) C hK hW (zvd_9 (by decide) (by decide)) zk_1509 zd_M_weight_42 ?_
        refine lv_iload_n C.1 C.2.1 zd_M_weight_45 rfl (lv_at hl 1 rfl) ?_
        refine zaald (t0 := 4) C hK hW (zvd_9 (by decide) (by decide)) (fun f => ze_9_5 B f (0)) rfl rfl (by decide) h8 zd_M_weight_46 (a := B.2.1 11 (x1) (0)) (by rw [Int.toNat_of_nonneg h8.1]) ?_
        refine zr_iconst C zd_M_weight_47 ?_
        refine ziald C hK hW (zvd_11 h8 (by decide)) (fun f => ze_11_0 B f (x1)) (by decide) (by decide) zd_M_weight_48 ?_
        refine zr_iadd C zd_M_weight_49 ?_
        refine lv_aload_n C.1 C.2.1 zd_M_weight_50 rfl (lv_at hl 0 rfl) ?_
        refine zg_M_kept (r := 0) C hK hW (zvd_9 (by decide) (by decide)) zk_1509 zd_M_weight_51 ?_
        refine lv_iload_n C.1 C.2.1 zd_M_weight_54 rfl (lv_at hl 1 rfl) ?_
        refine zaald (t0 := 4) C hK hW (zvd_9 (by decide) (by decide)) (fun f => ze_9_5 B f (0)) rfl rfl (by decide) h8 zd_M_weight_55 (a := B.2.1 11 (x1) (0)) (by rw [Int.toNat_of_nonneg h8.1]) ?_
        refine zr_iconst C zd_M_weight_56 ?_
        refine ziald C hK hW (zvd_11 h8 (by decide)) (fun f => ze_11_0 B f (x1)) (by decide) (by decide) zd_M_weight_57 ?_
        refine zr_iadd C zd_M_weight_58 ?_
        cases hf
        exact zre_i C hr hlk hK hW hS (zn_w _) zd_M_weight_59
    · rw [if_neg c7] at hf
      refine lv_aload_n C.1 C.2.1 zd_M_weight_22 rfl (lv_at hl 0 rfl) ?_
      refine lv_iload_n C.1 C.2.1 zd_M_weight_23 rfl (lv_at hl 1 rfl) ?_
      obtain ⟨a18, S19, ea18, hf⟩ := zbd_some hf
      refine zcVi (As := [.int (zI (x1))]) (rest := []) C hK hSt hW hS (zc_M_noThing hap x1 S6 nx1 ea18) zq_M_noThing zk_2052 (zrecv hK hW (zvd_9 (by decide) (by decide)) (ze_9_0 B _ (0)) rfl) ⟨rfl, rfl, by decide, by decide⟩ ⟨Nat.zero_le _, Nat.zero_le _⟩ rfl hl.1 rfl (lv_room (Nat.le_of_ble_eq_true rfl)) zd_M_weight_24 (fun na18 H locs hW hS => ?_)
      cases hf
      exact zre_i C hr hlk hK hW hS na18 zd_M_weight_27
  · rw [if_pos c4] at hf
    refine zr_iconst C zd_M_weight_12 ?_
    cases hf
    exact zre_i C hr hlk hK hW hS (znb rfl) zd_M_weight_13

theorem zc_M_weight {l : Launch} {B : zB} (hap : zAp B) (x1 : Int) (S : Sg) (nx1 : zn x1) {res : Int} {S9 : Sg} (hf : zf_M_weight x1 S = some (res, S9)) : Met l zy_M_weight (Cond.code zy_M_weight zb_M_weight 4 (some .int) :: zT) zm_M_weight (zP B S [.ref (B.2.1 9 (0) (0)), .int (zI (x1))]) (zQi B res S9) 0 0 B.2.2.2 :=
  zmet (by decide) (Nat.le_of_ble_eq_true rfl) (fun p e s m args below meth c C hr hlk hK hSt hW ls hl => zw_M_weight C hr hlk hK hSt hap   x1 S nx1 hf _ _ _ hW va_S.rf hl)
