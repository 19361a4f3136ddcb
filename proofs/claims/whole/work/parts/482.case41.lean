/-! ===== the law: case 41 ===== -/
theorem zk_1172 : ((Jvm.Cond.codeWith ({ cls := "IslandOfficeLaw", name := "element", desc := "(LIslandOffice;II[J)I" } : Jvm.MethodName) method_3_code (5 : Nat) (Option.some Jvm.ClassFile.FieldType.int) [((0 : Nat), (9 : Nat), (12 : Nat), (13 : Nat)), ((0 : Nat), (9 : Nat), (16 : Nat), (15 : Nat))])) ∈ zT := zT_of (List.mem_append_right _ (List.mem_of_getElem? (i := 1172) (by decide +kernel))) rfl
theorem zd_law_1749 : decode code 1749 = .ok (.aload_n 1, 1) := by decide +kernel
theorem zd_law_1750 : decode code 1750 = .ok (.aload_n 0, 1) := by decide +kernel
theorem zd_law_1751 : decode code 1751 = .ok (.iload 4, 2) := by decide +kernel
theorem zd_law_1753 : decode code 1753 = .ok (.iconst 1, 1) := by decide +kernel
theorem zd_law_1754 : decode code 1754 = .ok (.iadd, 1) := by decide +kernel
theorem zd_law_1755 : decode code 1755 = .ok (.iaload, 1) := by decide +kernel
theorem zd_law_1756 : decode code 1756 = .ok (.aload_n 0, 1) := by decide +kernel
theorem zd_law_1757 : decode code 1757 = .ok (.iload 4, 2) := by decide +kernel
theorem zd_law_1759 : decode code 1759 = .ok (.iconst 2, 1) := by decide +kernel
theorem zd_law_1760 : decode code 1760 = .ok (.iadd, 1) := by decide +kernel
theorem zd_law_1761 : decode code 1761 = .ok (.iaload, 1) := by decide +kernel
theorem zd_law_1762 : decode code 1762 = .ok (.aload_n 3, 1) := by decide +kernel
theorem zd_law_1763 : decode code 1763 = .ok (.invokestatic 192, 3) := by decide +kernel
theorem zd_law_1766 : decode code 1766 = .ok (.istore 5, 2) := by decide +kernel
theorem zd_law_1768 : decode code 1768 = .ok (.aload_n 2, 1) := by decide +kernel
theorem zd_law_1769 : decode code 1769 = .ok (.aload_n 0, 1) := by decide +kernel
theorem zd_law_1770 : decode code 1770 = .ok (.iload 4, 2) := by decide +kernel
theorem zd_law_1772 : decode code 1772 = .ok (.iconst 1, 1) := by decide +kernel
theorem zd_law_1773 : decode code 1773 = .ok (.iadd, 1) := by decide +kernel
theorem zd_law_1774 : decode code 1774 = .ok (.iaload, 1) := by decide +kernel
theorem zd_law_1775 : decode code 1775 = .ok (.aload_n 0, 1) := by decide +kernel
theorem zd_law_1776 : decode code 1776 = .ok (.iload 4, 2) := by decide +kernel
theorem zd_law_1778 : decode code 1778 = .ok (.iconst 2, 1) := by decide +kernel
theorem zd_law_1779 : decode code 1779 = .ok (.iadd, 1) := by decide +kernel
theorem zd_law_1780 : decode code 1780 = .ok (.iaload, 1) := by decide +kernel
theorem zd_law_1781 : decode code 1781 = .ok (.invokevirtual 197, 3) := by decide +kernel
theorem zd_law_1784 : decode code 1784 = .ok (.lstore 6, 2) := by decide +kernel
theorem zd_law_1786 : decode code 1786 = .ok (.aload_n 2, 1) := by decide +kernel
theorem zd_law_1787 : decode code 1787 = .ok (.invokevirtual 198, 3) := by decide +kernel
theorem zd_law_1790 : decode code 1790 = .ok (.iload 5, 2) := by decide +kernel
theorem zd_law_1792 : decode code 1792 = .ok (.if_icmp .eq 5, 3) := by decide +kernel
theorem zd_law_1797 : decode code 1797 = .ok (.iload 5, 2) := by decide +kernel
theorem zd_law_1799 : decode code 1799 = .ok (.ifCond .ne 14, 3) := by decide +kernel
theorem zd_law_1802 : decode code 1802 = .ok (.aload_n 3, 1) := by decide +kernel
theorem zd_law_1803 : decode code 1803 = .ok (.iconst 0, 1) := by decide +kernel
theorem zd_law_1804 : decode code 1804 = .ok (.laload, 1) := by decide +kernel
theorem zd_law_1805 : decode code 1805 = .ok (.lload 6, 2) := by decide +kernel
theorem zd_law_1807 : decode code 1807 = .ok (.lcmp, 1) := by decide +kernel
theorem zd_law_1808 : decode code 1808 = .ok (.ifCond .eq 5, 3) := by decide +kernel
theorem zd_law_1813 : decode code 1813 = .ok (.goto 126, 3) := by decide +kernel
theorem lS_fr (S : Sg) (x y : Int) : Fm KE S (lS S x y) := by
  unfold lS
  split
  · exact Fm.ke22 _
  · exact Fm.refl _ _
theorem lS_2 (S : Sg) (x y : Int) : lS S x y 2 = S 2 := (lS_fr S x y).grp (fun r k i => by unfold KE; omega)
theorem lS_ek (S : Sg) (x y : Int) : ek (lS S x y) x y = ek S x y := ek_to (lS_2 S x y)
theorem lS_22 {S : Sg} {x y : Int} (h : ek S x y = 0) : lS S x y 22 0 0 0 = S 2 x 1 y := by
  unfold lS
  rw [if_pos h]
  unfold zu
  rw [if_pos ⟨rfl, rfl, rfl, rfl⟩]
theorem zG_lelem : GoodIn zT (va_wsS "IslandOfficeLaw" 192 zy_lelem (Cond.codeWith zy_lelem zb_lelem 5 (some .int) zh_lelem :: zT)) := fun w hw => by
  have h2 : w ∈ zT := by
    rcases List.mem_append.mp hw with h | h
    · rcases List.mem_cons.mp h with rfl | h
      · exact zk_1170
      rcases List.mem_cons.mp h with rfl | h
      · exact zk_1171
      rw [List.mem_singleton.mp h]
      exact zk_0
    · rcases List.mem_cons.mp h with rfl | h
      · exact zk_1172
      · exact h
  exact (zG h2) w List.mem_cons_self
set_option maxHeartbeats 4000000 in
theorem zlc_41 {p : Program} {l : Launch} {e : Env} {s : State} {m : MethodId} {args : Array Value} {below : List Frame} {meth : Method} {c : Code} {Q : State → Prop} {B : zB} {b L : Nat} {xs : Nat → Int32} (hfl : l.stackTraces = false) (C : CallFix p m c code 8 s args zT "IslandOfficeLaw") (hx : LX B b L xs s) (hE : zE B.2.2.2 s) (i : Nat) (S : Sg) (H : Heap) (locs : List Loc) (ls : Array Slot) (cells slots : Nat) (hR : Rel S) (hW : zW B S H) (hS : va_S B.2.2.2 s.heap H locs) (hl : lv_has ls 8 (Ll B b i)) (hi : i + 5 < L) (hc1 : cells + 1 ≤ room_1.cells) (hc2 : slots + 6 ≤ room_1.slots) (kk : ∀ (S2 : Sg) (H2 : Heap) (locs2 : List Loc) (ls2 : Array Slot), Rel S2 → zW B S2 H2 → va_S B.2.2.2 s.heap H2 locs2 → lv_has ls2 8 (Ll B b i) → W p l e room_1 s m args below meth c H2 locs2 (cells + 1) (slots + 6) Q (F0 m 1939 ls2 [])) : W p l e room_1 s m args below meth c H locs cells slots Q (F0 m 1749 ls []) := by
  obtain ⟨v, S2, hm, hF, ht4, h22, hv⟩ := pe_M (xi xs (i + 1)) (xi xs (i + 2)) (S := lS S (xi xs (i + 1)) (xi xs (i + 2))) (hR.ke (lS_fr S _ _))
  rw [lS_ek] at ht4 hv
  refine lv_aload_n C.1 C.2.1 zd_law_1749 rfl (lv_at hl 3 rfl) ?_
  refine zl_read (k := 1) C hx hS hl (by omega) (by decide) zd_law_1750 zd_law_1751 zd_law_1753 zd_law_1754 zd_law_1755 ?_
  refine zl_read (k := 2) C hx hS hl (by omega) (by decide) zd_law_1756 zd_law_1757 zd_law_1759 zd_law_1760 zd_law_1761 ?_
  refine lv_aload_n C.1 C.2.1 zd_law_1762 rfl (lv_at hl 1 rfl) ?_
  refine vx_calli (vx_runSX (hh := zh_lelem) (As := [.ref (B.2.1 3 0 0), .int (zI (xi xs (i + 1))), .int (zI (xi xs (i + 2))), .ref (B.2.1 22 0 0)]) (rest := []) C (zc_lelem hfl hx.2.2.1 (xi xs (i + 1)) (xi xs (i + 2)) S hR (xi_n _ _) (xi_n _ _)) (vx_cwSW 4 C.2.2.2.2 zG_lelem rfl rfl rfl ⟨by decide, by decide, by decide +kernel⟩ ⟨by decide, by decide⟩) ⟨zPe_blind B S _, fun U hU hWm => ⟨rfl, by rw [hU]; exact hW, va_K.moved hWm.alike hx.1, hx.2.1.mv hS hU hWm.alike, hE.warm hS hU hWm⟩⟩ rfl rfl hl.1 rfl (lv_room (Nat.le_of_ble_eq_true rfl)) zd_law_1763 ⟨hc1, hc2⟩) hS (fun _ _ h => h) (fun _ h => h) (fun _ _ h => h) (fun E ce q9 u t H1 locs1 ht hal hp hB hz hk hS1 hce hcv hcl => hp.elim) (fun r u t H locs ht hal hp hB hz hk hS => ?_)
  obtain ⟨rfl, -⟩ := hp
  obtain ⟨hW, -⟩ := hB
  rw [ht] at hW
  have hcc : cells + 1 ≤ room_1.cells ∧ slots + 6 ≤ room_1.slots := ⟨hc1, hc2⟩
  refine lv_istore (lv' := [(5, .int (zI (ek S (xi xs (i + 1)) (xi xs (i + 2))))), (4, .int (zI (i : Int))), (3, .ref (B.2.1 22 0 0)), (2, .ref (B.2.1 9 0 0)), (1, .ref (B.2.1 3 0 0)), (0, .ref b)]) C.1 C.2.1 zd_law_1766 hl (by decide) rfl (fun ls hl5 => ?_)
  have hl : lv_has ls 8 (Ll B b i) := lv_sub hl5 [1, 2, 3, 4, 5] rfl
  refine lv_aload_n C.1 C.2.1 zd_law_1768 rfl (lv_at hl 2 rfl) ?_
  refine zl_read (k := 1) C hx hS hl (by omega) (by decide) zd_law_1769 zd_law_1770 zd_law_1772 zd_law_1773 zd_law_1774 ?_
  refine zl_read (k := 2) C hx hS hl (by omega) (by decide) zd_law_1775 zd_law_1776 zd_law_1778 zd_law_1779 zd_law_1780 ?_
  refine zcVl (As := [.int (zI (xi xs (i + 1))), .int (zI (xi xs (i + 2)))]) (rest := []) C hx.1 hx.2.1 hW hS (zc_M_element hx.2.2.1 (xi xs (i + 1)) (xi xs (i + 2)) (lS S (xi xs (i + 1)) (xi xs (i + 2))) (xi_n _ _) (xi_n _ _) hm) zq_M_element zk_2040 (zrecv hx.1 hW (zvd_9 (by decide) (by decide)) (ze_9_0 B _ (0)) rfl) ⟨rfl, rfl, Nat.le_of_ble_eq_true rfl, Nat.le_of_ble_eq_true rfl⟩ hcc rfl hl.1 rfl (lv_room (Nat.le_of_ble_eq_true rfl)) zd_law_1781 (fun nv H locs hW hS => ?_)
  refine lv_lstore (lv' := [(6, .long (zL v)), (5, .int (zI (ek S (xi xs (i + 1)) (xi xs (i + 2))))), (4, .int (zI (i : Int))), (3, .ref (B.2.1 22 0 0)), (2, .ref (B.2.1 9 0 0)), (1, .ref (B.2.1 3 0 0)), (0, .ref b)]) C.1 C.2.1 zd_law_1784 hl5 (by decide) rfl (fun ls hl6 => ?_)
  have hl : lv_has ls 8 (Ll B b i) := lv_sub hl6 [2, 3, 4, 5, 6] rfl
  refine lv_aload_n C.1 C.2.1 zd_law_1786 rfl (lv_at hl 2 rfl) ?_
  refine zcVi (As := []) (rest := []) C hx.1 hx.2.1 hW hS (zc_M_thrown (res := ek S (xi xs (i + 1)) (xi xs (i + 2))) (S9 := S2) hx.2.2.1 S2 (by unfold zf_M_thrown; rw [ht4])) zq_M_thrown zk_1546 (zrecv hx.1 hW (zvd_9 (by decide) (by decide)) (ze_9_0 B _ (0)) rfl) ⟨rfl, rfl, Nat.le_of_ble_eq_true rfl, Nat.le_of_ble_eq_true rfl⟩ hcc rfl hl.1 rfl (lv_room (Nat.le_of_ble_eq_true rfl)) zd_law_1787 (fun na H locs hW hS => ?_)
  refine lv_iload C.1 C.2.1 zd_law_1790 (lv_at hl6 1 rfl) ?_
  refine zr_icmp_eq (tgt := 1797) C na na zd_law_1792 (by decide) (fun _ => ?_) (fun h => absurd rfl h)
  have hR2 : Rel S2 := (hR.ke (lS_fr S _ _)).ke hF
  have hend := kk S2 H locs ls hR2 hW hS hl
  refine lv_iload C.1 C.2.1 zd_law_1797 (lv_at hl6 1 rfl) ?_
  refine zr_if_ne (tgt := 1813) C na zd_law_1799 (by decide) (fun _ => lv_goto (tgt := 1939) C.1 C.2.1 zd_law_1813 (by decide) hend) (fun c0 => ?_)
  have e0 := hv c0
  have e22 : S2 22 0 0 0 = v := by
    rw [h22, e0, lS_2]
    exact lS_22 c0
  refine lv_aload_n C.1 C.2.1 zd_law_1802 rfl (lv_at hl 1 rfl) ?_
  refine zr_iconst C zd_law_1803 ?_
  refine zlald (g := 22) (r := 0) (k := 0) C hx.1 hW (zvd_22 (by decide) (by decide)) (fun f => ze_22_0 B f 0) (by decide) (by decide) zd_law_1804 ?_
  rw [e22]
  refine lv_lload C.1 C.2.1 zd_law_1805 (lv_at hl6 0 rfl) ?_
  refine zr_lcmp C nv nv zd_law_1807 ?_
  have ez : zcmp v v = 0 := by
    unfold zcmp
    simp
  rw [ez]
  exact zr_if_eq (tgt := 1813) C zn_0 zd_law_1808 (by decide) (fun _ => lv_goto (tgt := 1939) C.1 C.2.1 zd_law_1813 (by decide) hend) (fun h => absurd rfl h)
