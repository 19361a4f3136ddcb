/-! ===== IslandOffice.element: its contract ===== -/
def zPe (B : zB) (S : Sg) (U : State) : Prop := zW B S U.heap ∧ zK B U ∧ zSt B U ∧ zE B.2.2.2 U
theorem zc_O_element {l : Launch} (hfl : l.stackTraces = false) {B : zB} (hap : zAp B) (x1 x2 : Int) (S : Sg) (hR : Rel S) (nx1 : zn x1) (nx2 : zn x2) : vx_Met l zy_O_element (Cond.code zy_O_element zb_O_element 4 (some .long) :: zT) zm_O_element (va_Pc [.ref (B.2.1 3 0 0), .int (zI x1), .int (zI x2)] (zPe B S)) (zQe B S x1 x2) (zXC B S x1 x2) 1 6 B.2.2.2 := by
  refine vx_ofW (cc := zb_O_element) (maxL := 4) (ret := some .long) (by decide) rfl ?_
  intro p e s m args below meth c s₁ Bd hml hne hv
  obtain ⟨rfl, hW, hK, hSt, hE⟩ := hv
  have hts := atoms_spec (ws := Cond.code zy_O_element zb_O_element 4 (some .long) :: zT) Bd.pre
  have hown : s.vm.findClass zy_O_element.cls = some m.cls := findClass_of_methodNamed Bd.named
  have hl := lv_entry [.ref (B.2.1 3 0 0), .int (zI x1), .int (zI x2)] (n := 4) (Nat.le_of_ble_eq_true rfl)
  rw [lg_entry_eq]
  exact zw_O_element hfl ⟨Bd.exec, Bd.bytes, hml, hown, fun w hw => hts w (List.mem_cons_of_mem _ hw)⟩ hne Bd.returns Bd.notSynchronized hK hSt hE hap x1 x2 S hR nx1 nx2 _ _ _ hW va_S.rf hl
