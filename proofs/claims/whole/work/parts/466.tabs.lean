/-! ===== the start: what the tables say ===== -/
theorem zRA_p {U : State} {args : Array Value} {ty : FieldType} (h : (Cond.arrayClass ty).before args U = true) (hp : ∀ k, U.vm.findClass ("[" ++ ty.toString) = some k → va_RA U k ty) : ∃ c : ClassId, ArrOfT U c ty ∧ va_RA U c ty := by
  obtain ⟨cA, kA, comp, h1, h2, h3⟩ := Cond.arrayClass_spec h
  exact ⟨cA, fun n z => ⟨fun k h => (by cases h), kA, h2, comp, h3⟩, hp cA h1⟩
theorem zRA_q {U : State} {args : Array Value} {C : String} (h : (Cond.arrayOver (.object C)).before args U = true) : ∃ c : ClassId, ArrOfT U c (.object C) ∧ va_RA U c (.object C) := by
  obtain ⟨comp, c, k, h1, h2, h3, h4, h5⟩ := Cond.arrayOver_spec h
  exact ⟨c, fun n z => ⟨fun k h => (by cases h), k, h3, comp, h4⟩, k, comp, h3, h4, h1, h5⟩
theorem zRA_a {U : State} (h : zAO U) : ∃ c : ClassId, ArrOfT U c (.array .int) ∧ va_RA U c (.array .int) := by
  obtain ⟨comp, c, k, h1, h2, h3, h4, h5⟩ := h.spec
  exact ⟨c, fun n z => ⟨fun k h => (by cases h), k, h3, comp, h4⟩, h5⟩

/-- classes: layouts by number -/
theorem zD_list {U : State} {cl : List vw_C} (h : ∀ q ∈ cl, ∃ (cC : ClassId) (iS : Nat → Nat), u_Kn U q.1 q.2.1 q.2.2 cC iS) : ∃ D : va_G, ∀ (k : Nat) (q : vw_C), cl[k]? = some q → u_Kn U q.1 q.2.1 q.2.2 (D.1 k) (D.2 k) := by
  have f : ∀ k : Nat, ∃ x : ClassId × (Nat → Nat), ∀ q, cl[k]? = some q → u_Kn U q.1 q.2.1 q.2.2 x.1 x.2 := by
    intro k
    cases hk : cl[k]? with
    | none => exact ⟨(0, fun _ => 0), fun q hq => by cases hq⟩
    | some q =>
      obtain ⟨a, b, hab⟩ := h q (List.mem_of_getElem? hk)
      exact ⟨(a, b), fun q2 h2 => by cases h2; exact hab⟩
  exact ⟨(fun k => (f k).choose.1, fun k => (f k).choose.2), fun k q hq => (f k).choose_spec q hq⟩
theorem zs1_of {B : zB} {args : Array Value} {U : State} {nm : String} {f : Nat → Int} (hl : (Cond.laysStatic "IslandOffice" nm "[I").before args U = true) (hini : (Cond.initialized "IslandOffice").before args U = true) (harr : (Cond.arrayOf (.static "IslandOffice" nm "[I") .int).before args U = true) (hlen : (Cond.eq (.length (.static "IslandOffice" nm "[I")) (.int 4)).before args U = true) (h0 : (Cond.eq (.elem (.static "IslandOffice" nm "[I") (.int 0)) (.int (zI (f 0)))).before args U = true) (h1 : (Cond.eq (.elem (.static "IslandOffice" nm "[I") (.int 1)) (.int (zI (f 1)))).before args U = true) (h2 : (Cond.eq (.elem (.static "IslandOffice" nm "[I") (.int 2)) (.int (zI (f 2)))).before args U = true) (h3 : (Cond.eq (.elem (.static "IslandOffice" nm "[I") (.int 3)) (.int (zI (f 3)))).before args U = true) (hA : ∀ a : Nat, a < U.heap.size → ¬ B.2.2.2 a) : zs1 nm f B U := by
  obtain ⟨t, ht, hT⟩ := va_Tof (N := 4) (f := fun j => .int (zI (f j))) (A := B.2.2.2) (by decide) harr (va_eqt hlen) (fun j hj => by
    rcases (show j = 0 ∨ j = 1 ∨ j = 2 ∨ j = 3 by omega) with rfl | rfl | rfl | rfl
    · exact va_eqt h0
    · exact va_eqt h1
    · exact va_eqt h2
    · exact va_eqt h3) hA
  exact ⟨t, va_Zof hl hini ht hA, hT⟩
theorem z_tabs {b : Nat} {U : State} (hts : ∀ w ∈ lw_tbl, w.before #[Value.ref b] U = true) : ∃ (D : va_G) (cT : Nat → ClassId), (∀ ad A, zK (D, ad, cT, A) U) ∧ zX U := by
  have hz : ∀ w ∈ zT, w.before #[Value.ref b] U = true := fun w hw => hts w (List.mem_filter.mp hw).1
  have hX : zX U := ⟨va_AO.of (hts (Jvm.Cond.arrayOver (Jvm.ClassFile.FieldType.object "IslandOffice$Shelf")) (List.mem_append_right _ (List.mem_of_getElem? (i := 337) (by decide +kernel)))), (hts (Jvm.Cond.arrayOver (Jvm.ClassFile.FieldType.array Jvm.ClassFile.FieldType.int)) (List.mem_append_right _ (List.mem_of_getElem? (i := 34) (by decide +kernel)))), va_Nw.of rfl (hts (Jvm.Cond.fieldLinkNest "IslandOffice$Island" (37 : Nat) "IslandOffice" "SETTING_FIRST" "[I" "IslandOffice") (List.mem_append_right _ (List.mem_of_getElem? (i := 41) (by decide +kernel)))), va_Nw.of rfl (hts (Jvm.Cond.methodLinkNest "IslandOfficeModel" (9 : Nat) ({ cls := "IslandOfficeModel$World", name := "<init>", desc := "()V" } : Jvm.MethodName) "IslandOfficeModel") (List.mem_append_right _ (List.mem_of_getElem? (i := 1270) (by decide +kernel))))⟩
  obtain ⟨D, hD⟩ := zD_list (U := U) (cl := zcl) (fun q hq => by
    simp only [List.mem_cons, List.not_mem_nil, or_false] at hq
    rcases hq with rfl | rfl | rfl | rfl | rfl | rfl | rfl | rfl | rfl | rfl | rfl | rfl | rfl | rfl
    · exact u_known (N := 10) hz zh_O (hts (Jvm.Cond.instantiable "IslandOffice" (10 : Nat)) (List.mem_append_right _ (List.mem_of_getElem? (i := 26) (by decide +kernel))))
    · exact u_known (N := 8) hz zh_A (hts (Jvm.Cond.instantiable "IslandOffice$Almanac" (8 : Nat)) (List.mem_append_right _ (List.mem_of_getElem? (i := 461) (by decide +kernel))))
    · exact u_known (N := 9) hz zh_C (hts (Jvm.Cond.instantiable "IslandOffice$Crews" (9 : Nat)) (List.mem_append_right _ (List.mem_of_getElem? (i := 423) (by decide +kernel))))
    · exact u_known (N := 18) hz zh_I (hts (Jvm.Cond.instantiable "IslandOffice$Island" (18 : Nat)) (List.mem_append_right _ (List.mem_of_getElem? (i := 36) (by decide +kernel))))
    · exact u_known (N := 3) hz zh_J (hts (Jvm.Cond.instantiable "IslandOffice$Judge" (3 : Nat)) (List.mem_append_right _ (List.mem_of_getElem? (i := 407) (by decide +kernel))))
    · exact u_known (N := 11) hz zh_L (hts (Jvm.Cond.instantiable "IslandOffice$Laws" (11 : Nat)) (List.mem_append_right _ (List.mem_of_getElem? (i := 110) (by decide +kernel))))
    · exact u_known (N := 10) hz zh_P (hts (Jvm.Cond.instantiable "IslandOffice$People" (10 : Nat)) (List.mem_append_right _ (List.mem_of_getElem? (i := 47) (by decide +kernel))))
    · exact u_known (N := 5) hz zh_Q (hts (Jvm.Cond.instantiable "IslandOffice$Posts" (5 : Nat)) (List.mem_append_right _ (List.mem_of_getElem? (i := 162) (by decide +kernel))))
    · exact u_known (N := 8) hz zh_R (hts (Jvm.Cond.instantiable "IslandOffice$Reader" (8 : Nat)) (List.mem_append_right _ (List.mem_of_getElem? (i := 373) (by decide +kernel))))
    · exact u_known (N := 7) hz zh_S (hts (Jvm.Cond.instantiable "IslandOffice$Shelf" (7 : Nat)) (List.mem_append_right _ (List.mem_of_getElem? (i := 338) (by decide +kernel))))
    · exact u_known (N := 3) hz zh_Y (hts (Jvm.Cond.instantiable "IslandOffice$Sky" (3 : Nat)) (List.mem_append_right _ (List.mem_of_getElem? (i := 224) (by decide +kernel))))
    · exact u_known (N := 6) hz zh_T (hts (Jvm.Cond.instantiable "IslandOffice$Stores" (6 : Nat)) (List.mem_append_right _ (List.mem_of_getElem? (i := 192) (by decide +kernel))))
    · exact u_known (N := 15) hz zh_M (hts (Jvm.Cond.instantiable "IslandOfficeModel" (15 : Nat)) (List.mem_append_right _ (List.mem_of_getElem? (i := 1263) (by decide +kernel))))
    · exact u_known (N := 58) hz zh_W (hts (Jvm.Cond.instantiable "IslandOfficeModel$World" (58 : Nat)) (List.mem_append_right _ (List.mem_of_getElem? (i := 1269) (by decide +kernel)))))
  obtain ⟨c0, a0, r0⟩ := zRA_p (ty := .int) (hts (Jvm.Cond.arrayClass Jvm.ClassFile.FieldType.int) (List.mem_append_right _ (List.mem_of_getElem? (i := 108) (by decide +kernel)))) (fun _ h => h)
  obtain ⟨c1, a1, r1⟩ := zRA_p (ty := .long) (hts (Jvm.Cond.arrayClass Jvm.ClassFile.FieldType.long) (List.mem_append_right _ (List.mem_of_getElem? (i := 459) (by decide +kernel)))) (fun _ h => h)
  obtain ⟨c2, a2, r2⟩ := zRA_p (ty := .boolean) (hts (Jvm.Cond.arrayClass Jvm.ClassFile.FieldType.boolean) (List.mem_append_right _ (List.mem_of_getElem? (i := 1498) (by decide +kernel)))) (fun _ h => h)
  obtain ⟨c3, a3, r3⟩ := zRA_q (C := "IslandOffice$Shelf") (hts (Jvm.Cond.arrayOver (Jvm.ClassFile.FieldType.object "IslandOffice$Shelf")) (List.mem_append_right _ (List.mem_of_getElem? (i := 337) (by decide +kernel))))
  obtain ⟨c4, a4, r4⟩ := zRA_a hX.2.1
  refine ⟨D, fun k => if k = 0 then c0 else if k = 1 then c1 else if k = 2 then c2 else if k = 3 then c3 else c4, fun ad A => ⟨hD, fun k q hq => ?_⟩, hX⟩
  match k, hq with
  | 0, hq => cases hq; exact ⟨a0, r0⟩
  | 1, hq => cases hq; exact ⟨a1, r1⟩
  | 2, hq => cases hq; exact ⟨a2, r2⟩
  | 3, hq => cases hq; exact ⟨a3, r3⟩
  | 4, hq => cases hq; exact ⟨a4, r4⟩
  | k + 5, hq => simp [zty] at hq
theorem z_stat {b : Nat} {U : State} {B : zB} (hts : ∀ w ∈ lw_tbl, w.before #[Value.ref b] U = true) (hgv : (Jvm.Cond.and given_1 narrow_1).before #[Value.ref b] U = true) (hA : ∀ a : Nat, a < U.heap.size → ¬ B.2.2.2 a) : zSt B U := by
  have hs := flat_of_before _ hgv
  exact ⟨zs1_of (hts (Jvm.Cond.laysStatic "IslandOffice" "SETTING_FIRST" "[I") (List.mem_append_right _ (List.mem_of_getElem? (i := 42) (by decide +kernel)))) (hts (Jvm.Cond.initialized "IslandOffice") (List.mem_append_right _ (List.mem_of_getElem? (i := 1) (by decide +kernel)))) (hs (.arrayOf (.static "IslandOffice" "SETTING_FIRST" "[I") .int) (by decide +kernel)) (hs (.eq (.length (.static "IslandOffice" "SETTING_FIRST" "[I")) (.int 4)) (by decide +kernel)) (hs (.eq (.elem (.static "IslandOffice" "SETTING_FIRST" "[I") (.int 0)) (.int 60)) (by decide +kernel)) (hs (.eq (.elem (.static "IslandOffice" "SETTING_FIRST" "[I") (.int 1)) (.int 50)) (by decide +kernel)) (hs (.eq (.elem (.static "IslandOffice" "SETTING_FIRST" "[I") (.int 2)) (.int 10)) (by decide +kernel)) (hs (.eq (.elem (.static "IslandOffice" "SETTING_FIRST" "[I") (.int 3)) (.int 12)) (by decide +kernel)) hA, zs1_of (hts (Jvm.Cond.laysStatic "IslandOffice" "SETTING_LEAST" "[I") (List.mem_append_right _ (List.mem_of_getElem? (i := 885) (by decide +kernel)))) (hts (Jvm.Cond.initialized "IslandOffice") (List.mem_append_right _ (List.mem_of_getElem? (i := 1) (by decide +kernel)))) (hs (.arrayOf (.static "IslandOffice" "SETTING_LEAST" "[I") .int) (by decide +kernel)) (hs (.eq (.length (.static "IslandOffice" "SETTING_LEAST" "[I")) (.int 4)) (by decide +kernel)) (hs (.eq (.elem (.static "IslandOffice" "SETTING_LEAST" "[I") (.int 0)) (.int 0)) (by decide +kernel)) (hs (.eq (.elem (.static "IslandOffice" "SETTING_LEAST" "[I") (.int 1)) (.int 0)) (by decide +kernel)) (hs (.eq (.elem (.static "IslandOffice" "SETTING_LEAST" "[I") (.int 2)) (.int 0)) (by decide +kernel)) (hs (.eq (.elem (.static "IslandOffice" "SETTING_LEAST" "[I") (.int 3)) (.int 1)) (by decide +kernel)) hA, zs1_of (hts (Jvm.Cond.laysStatic "IslandOffice" "SETTING_MOST" "[I") (List.mem_append_right _ (List.mem_of_getElem? (i := 887) (by decide +kernel)))) (hts (Jvm.Cond.initialized "IslandOffice") (List.mem_append_right _ (List.mem_of_getElem? (i := 1) (by decide +kernel)))) (hs (.arrayOf (.static "IslandOffice" "SETTING_MOST" "[I") .int) (by decide +kernel)) (hs (.eq (.length (.static "IslandOffice" "SETTING_MOST" "[I")) (.int 4)) (by decide +kernel)) (hs (.eq (.elem (.static "IslandOffice" "SETTING_MOST" "[I") (.int 0)) (.int 500)) (by decide +kernel)) (hs (.eq (.elem (.static "IslandOffice" "SETTING_MOST" "[I") (.int 1)) (.int 9999)) (by decide +kernel)) (hs (.eq (.elem (.static "IslandOffice" "SETTING_MOST" "[I") (.int 2)) (.int 99)) (by decide +kernel)) (hs (.eq (.elem (.static "IslandOffice" "SETTING_MOST" "[I") (.int 3)) (.int 99)) (by decide +kernel)) hA⟩
