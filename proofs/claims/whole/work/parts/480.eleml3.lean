/-! ===== the law's own element: its contract ===== -/
theorem zc_lelem {l : Launch} (hfl : l.stackTraces = false) {B : zB} (hap : zAp B) (x1 x2 : Int) (S : Sg) (hR : Rel S) (nx1 : zn x1) (nx2 : zn x2) : vx_Met l zy_lelem (Cond.codeWith zy_lelem zb_lelem 5 (some .int) zh_lelem :: zT) zm_lelem (va_Pc [.ref (B.2.1 3 0 0), .int (zI x1), .int (zI x2), .ref (B.2.1 22 0 0)] (zPe B S)) (zQi B (ek S x1 x2) (lS S x1 x2)) (vx_X (fun (_ : Unit) => False) (fun _ _ _ => True) B.2.2.2) 1 6 B.2.2.2 := by
  refine vx_ofWH (cc := zb_lelem) (maxL := 5) (ret := some .int) (hh := zh_lelem) (by decide) rfl ?_
  intro p e s m args below meth c s₁ Bd hml hv
  obtain ⟨rfl, hW, hK, hSt, hE⟩ := hv
  have hts := atoms_spec (ws := Cond.codeWith zy_lelem zb_lelem 5 (some .int) zh_lelem :: zT) Bd.pre
  have hown : s.vm.findClass zy_lelem.cls = some m.cls := findClass_of_methodNamed Bd.named
  have htab := vx_table (x := zy_lelem) Bd (hts _ List.mem_cons_self)
  have hl := lv_entry [.ref (B.2.1 3 0 0), .int (zI x1), .int (zI x2), .ref (B.2.1 22 0 0)] (n := 5) (Nat.le_of_ble_eq_true rfl)
  rw [lg_entry_eq]
  exact zw_lelem hfl ⟨Bd.exec, Bd.bytes, hml, hown, fun w hw => hts w (List.mem_cons_of_mem _ hw)⟩ htab Bd.returns Bd.notSynchronized hK hSt hE hap x1 x2 S hR nx1 nx2 _ _ _ hW va_S.rf hl
