/-! ===== the law's own element ===== -/
abbrev zy_lelem : MethodName := ⟨"IslandOfficeLaw", "element", "(LIslandOffice;II[J)I"⟩
abbrev zb_lelem : ByteArray := method_3_code
abbrev zh_lelem : List (Nat × Nat × Nat × Nat) := [(0, 9, 12, 13), (0, 9, 16, 15)]
abbrev zm_lelem : Room := { frames := 14, cells := 1, slots := 6, locals := 300 }
theorem zd_lelem_0 : decode zb_lelem 0 = .ok (.aload_n 3, 1) := by decide +kernel
theorem zd_lelem_1 : decode zb_lelem 1 = .ok (.iconst 0, 1) := by decide +kernel
theorem zd_lelem_2 : decode zb_lelem 2 = .ok (.aload_n 0, 1) := by decide +kernel
theorem zd_lelem_3 : decode zb_lelem 3 = .ok (.iload_n 1, 1) := by decide +kernel
theorem zd_lelem_4 : decode zb_lelem 4 = .ok (.iload_n 2, 1) := by decide +kernel
theorem zd_lelem_5 : decode zb_lelem 5 = .ok (.invokevirtual 7, 3) := by decide +kernel
theorem zd_lelem_8 : decode zb_lelem 8 = .ok (.lastore, 1) := by decide +kernel
theorem zd_lelem_9 : decode zb_lelem 9 = .ok (.goto 11, 3) := by decide +kernel
theorem zd_lelem_12 : decode zb_lelem 12 = .ok (.astore 4, 2) := by decide +kernel
theorem zd_lelem_14 : decode zb_lelem 14 = .ok (.iconst 1, 1) := by decide +kernel
theorem zd_lelem_15 : decode zb_lelem 15 = .ok (.ireturn, 1) := by decide +kernel
theorem zd_lelem_16 : decode zb_lelem 16 = .ok (.astore 4, 2) := by decide +kernel
theorem zd_lelem_18 : decode zb_lelem 18 = .ok (.iconst 2, 1) := by decide +kernel
theorem zd_lelem_19 : decode zb_lelem 19 = .ok (.ireturn, 1) := by decide +kernel
theorem zd_lelem_20 : decode zb_lelem 20 = .ok (.iconst 0, 1) := by decide +kernel
theorem zd_lelem_21 : decode zb_lelem 21 = .ok (.ireturn, 1) := by decide +kernel
def lS (S : Sg) (x y : Int) : Sg := if ek S x y = 0 then zu S 22 0 0 0 (S 2 x 1 y) else S
theorem ek_n (S : Sg) (x y : Int) : zn (ek S x y) := by
  unfold ek
  split
  · split <;> exact znb rfl
  · exact znb rfl
theorem zPe_blind (B : zB) (S : Sg) (av : List Value) : FrameBlind (va_Pc av (zPe B S)) := fun a U g mk q => ⟨q.1, q.2.1, va_K.moved (u := U) (U := U.calling g mk a) (Vm.Alike.refl U.vm) q.2.2.1, q.2.2.2.1.calling g mk a, zE.warm (s := U) (U := U.calling g mk a) (locs := []) q.2.2.2.2 va_S.rf rfl (State.WarmedH.refl U)⟩
theorem zq_O_element : zMy zy_O_element zb_O_element 4 (some .long) 2 := ⟨zk_1178, zk_1176, zk_1177, zk_1, by decide, by decide, by decide +kernel⟩
set_option maxHeartbeats 4000000 in
set_option maxRecDepth 100000 in
theorem zw_lelem {p : Program} {l : Launch} (hfl : l.stackTraces = false) {e : Env} {s : State} {m : MethodId} {args : Array Value} {below : List Frame} {meth : Method} {c : Code} {B : zB} {XC : String → State → State → Prop} (C : CallFix p m c zb_lelem 5 s args zT "IslandOfficeLaw") (htab : c.exceptionTable.toList = tableOf zh_lelem) (hr : meth.sig.returnType = some .int) (hlk : meth.locks = false) (hK : zK B s) (hSt : zSt B s) (hE : zE B.2.2.2 s) (hap : zAp B) (x1 x2 : Int) (S : Sg) (hR : Rel S) (nx1 : zn x1) (nx2 : zn x2) : ∀ (H : Heap) (locs : List Loc) (ls : Array Slot), zW B S H → va_S B.2.2.2 s.heap H locs → lv_has ls 5 [(0, .ref (B.2.1 3 0 0)), (1, .int (zI x1)), (2, .int (zI x2)), (3, .ref (B.2.1 22 0 0))] → W p l e zm_lelem s m args below meth c H locs 0 0 (vx_MQ below (zQi B (ek S x1 x2) (lS S x1 x2)) XC args s 1 6 B.2.2.2) (F0 m 0 ls []) := by
  intro H locs ls hW hS hl
  refine vx_ret ?_
  refine lv_aload_n C.1 C.2.1 zd_lelem_0 rfl (lv_at hl 3 rfl) ?_
  refine zr_iconst C zd_lelem_1 ?_
  refine lv_aload_n C.1 C.2.1 zd_lelem_2 rfl (lv_at hl 0 rfl) ?_
  refine lv_iload_n C.1 C.2.1 zd_lelem_3 rfl (lv_at hl 1 rfl) ?_
  refine lv_iload_n C.1 C.2.1 zd_lelem_4 rfl (lv_at hl 2 rfl) ?_
  refine vx_calll (vx_runV (b := B.2.1 3 0 0) (As := [.int (zI x1), .int (zI x2)]) (rest := [.int (zI 0), .ref (B.2.1 22 0 0)]) C (zc_O_element hfl hap x1 x2 S hR nx1 nx2) ⟨callB_of 2 C.2.2.2.2 (zG zq_O_element.1) rfl rfl rfl (C.2.2.2.2 _ zq_O_element.2.2.2.1) (C.2.2.2.2 _ zk_1175) zq_O_element.2.2.2.2 ⟨by decide, by decide⟩, C.2.2.2.2 _ zq_O_element.2.1, C.2.2.2.2 _ zq_O_element.2.2.1⟩ ⟨zPe_blind B S _, zrecv hK hW (zvd_3 (by decide) (by decide)) (ze_3_0 B _ (0)) rfl, fun U hU hWm => ⟨rfl, by rw [hU]; exact hW, va_K.moved hWm.alike hK, hSt.mv hS hU hWm.alike, hE.warm hS hU hWm⟩⟩ rfl rfl hl.1 rfl (lv_room (Nat.le_of_ble_eq_true rfl)) zd_lelem_5 ⟨Nat.le_of_ble_eq_true rfl, Nat.le_of_ble_eq_true rfl⟩) hS (fun _ _ h => h) (fun _ h => h) (fun _ _ h => h) (fun E ce q9 u t H1 locs1 ht hal _ hB hz hk hS1 hce hcv hcl => ?_) (fun r u t H1 locs1 ht hal hp hB hz hk hS1 => ?_)
  · obtain ⟨hW1, -, hB⟩ := hB
    rw [ht] at hW1
    rcases hB with ⟨rfl, ee⟩ | ⟨rfl, ee⟩
    · refine vx_catch (own := "IslandOfficeLaw") (name := zXI) C.2.2.2.1 [] ⟨0, 9, 12, 13⟩ [⟨0, 9, 16, 15⟩] htab (fun z hz => by cases hz) (by decide) (by decide) (C.2.2.2.2 _ zk_1173) (va_Nw.use rfl hE.2.2.2.2.2.2.2.1) hce hcv hcl ?_
      refine lv_astore (lv' := [(4, .ref q9), (0, .ref (B.2.1 3 0 0)), (1, .int (zI x1)), (2, .int (zI x2)), (3, .ref (B.2.1 22 0 0))]) C.1 C.2.1 zd_lelem_12 hl (by decide) rfl (fun ls hl => ?_)
      refine zr_iconst C zd_lelem_14 ?_
      have e1 : lS S x1 x2 = S := if_neg (by rw [ee]; decide)
      rw [e1, ee]
      exact zre_i C hr hlk hK hW1 hS1 (znb rfl) zd_lelem_15
    · refine vx_catch (own := "IslandOfficeLaw") (name := zXS) C.2.2.2.1 [⟨0, 9, 12, 13⟩] ⟨0, 9, 16, 15⟩ [] htab (fun z hz => by
        rw [List.mem_singleton.mp hz]
        exact Or.inr ⟨by decide, zXI, C.2.2.2.2 _ zk_1173, hE.2.2.2.2.2.2.2.2.2⟩) (by decide) (by decide) (C.2.2.2.2 _ zk_1174) (va_Nw.use rfl hE.2.2.2.2.2.2.2.2.1) hce hcv hcl ?_
      refine lv_astore (lv' := [(4, .ref q9), (0, .ref (B.2.1 3 0 0)), (1, .int (zI x1)), (2, .int (zI x2)), (3, .ref (B.2.1 22 0 0))]) C.1 C.2.1 zd_lelem_16 hl (by decide) rfl (fun ls hl => ?_)
      refine zr_iconst C zd_lelem_18 ?_
      have e1 : lS S x1 x2 = S := if_neg (by rw [ee]; decide)
      rw [e1, ee]
      exact zre_i C hr hlk hK hW1 hS1 (znb rfl) zd_lelem_19
  · obtain ⟨e1, e2, e3⟩ := hp
    obtain ⟨hW1, -⟩ := hB
    rw [ht] at hW1
    rw [e1]
    have e9 : lS S x1 x2 = zu S 22 0 0 0 (S 2 x1 1 x2) := if_pos e3
    refine zlast (g := 22) (r := 0) (k := 0) C hK hap hW1 hS1 (zvd_22 (by decide) (by decide)) (fun f => ze_22_0 B f 0) (by decide) rfl e2 (by decide) zd_lelem_8 (fun H locs hW hS => ?_)
    refine lv_goto (tgt := 20) C.1 C.2.1 zd_lelem_9 (by decide) ?_
    refine zr_iconst C zd_lelem_20 ?_
    rw [e9, e3]
    exact zre_i C hr hlk hK hW hS (znb rfl) zd_lelem_21
