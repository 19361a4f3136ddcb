/-! ===== calls, ends, starts of methods over the whole world ===== -/
def zSt (B : zB) (U : State) : Prop := zs1 "SETTING_FIRST" zf1 B U ∧ zs1 "SETTING_LEAST" zf2 B U ∧ zs1 "SETTING_MOST" zf3 B U
theorem zs1.mv {nm : String} {f : Nat → Int} {B : zB} {s U : State} {locs : List Loc} (h : zs1 nm f B s) (hS : va_S B.2.2.2 s.heap U.heap locs) (hv : s.vm.Alike U.vm) : zs1 nm f B U := by
  obtain ⟨t, h1, h2⟩ := h
  exact ⟨t, va_Z.moved hv (va_Z.kept h1 hS.2.1), va_T.moved hv (va_T.kept h2 hS.2.1)⟩
theorem zSt.mv {B : zB} {s U : State} {locs : List Loc} {H : Heap} (h : zSt B s) (hS : va_S B.2.2.2 s.heap H locs) (hU : U.heap = H) (hv : s.vm.Alike U.vm) : zSt B U := by
  subst hU
  exact ⟨h.1.mv hS hv, h.2.1.mv hS hv, h.2.2.mv hS hv⟩
theorem zSt.calling {B : zB} {U : State} (h : zSt B U) (g : JFrame) (mk : MethodId) (a : Array Value) : zSt B (U.calling g mk a) := h.mv (U := U.calling g mk a) (locs := []) va_S.rf rfl (Vm.Alike.refl U.vm)
def zP (B : zB) (S : Sg) (av : List Value) : Array Value → State → Prop := va_Pc av (fun U => zW B S U.heap ∧ zK B U ∧ zSt B U)
def zQi (B : zB) (r : Int) (S : Sg) : Array Value → State → Outcome → State → Prop := va_Qi (fun (x : Int32) (_ : Unit) => x = zI r ∧ zn r) (fun _ t => zW B S t.heap ∧ zK B t) B.2.2.2
def zQl (B : zB) (r : Int) (S : Sg) : Array Value → State → Outcome → State → Prop := va_Ql (fun (x : Int64) (_ : Unit) => x = zL r ∧ zm r) (fun _ t => zW B S t.heap ∧ zK B t) B.2.2.2
def zQv (B : zB) (S : Sg) : Array Value → State → Outcome → State → Prop := va_Qv (fun (_ : Unit) => True) (fun _ t => zW B S t.heap ∧ zK B t) B.2.2.2
theorem zP_blind (B : zB) (S : Sg) (av : List Value) : FrameBlind (zP B S av) := fun a U g mk q => ⟨q.1, q.2.1, va_K.moved (u := U) (U := U.calling g mk a) (Vm.Alike.refl U.vm) q.2.2.1, q.2.2.2.calling g mk a⟩
abbrev zMy (y : MethodName) (bytes : ByteArray) (maxL : Nat) (ret : Option FieldType) (n : Nat) : Prop := Cond.code y bytes maxL ret ∈ zT ∧ Cond.instanceMethod y ∈ zT ∧ Cond.selects y.cls y y ∈ zT ∧ Cond.initialized y.cls ∈ zT ∧ (y.cls ≠ "java/lang/invoke/MethodHandle" ∧ y.cls ≠ "java/lang/invoke/VarHandle" ∧ (parseMethodDescriptor y.desc).map (fun d => d.parameters.length) = some n)
abbrev zMs (y : MethodName) (bytes : ByteArray) (maxL : Nat) (ret : Option FieldType) (n : Nat) : Prop := Cond.code y bytes maxL ret ∈ zT ∧ Cond.static y ∈ zT ∧ Cond.initialized y.cls ∈ zT ∧ (y.cls ≠ "java/lang/invoke/MethodHandle" ∧ y.cls ≠ "java/lang/invoke/VarHandle" ∧ (parseMethodDescriptor y.desc).map (fun d => d.parameters.length) = some n)
abbrev zRm (R rm : Room) (maxL : Nat) : Prop := rm.cells = 0 ∧ rm.slots = 0 ∧ rm.frames + 1 ≤ R.frames ∧ 8 + (maxL + 11) + rm.locals ≤ R.locals
section ZC
variable {p : Program} {l : Launch} {e : Env} {R : Room} {s : State} {m : MethodId} {args : Array Value} {below : List Frame} {meth : Method} {c : Code} {H : Heap} {locs : List Loc} {cells slots : Nat} {Q : State → Prop}
variable {cc : ByteArray} {nL : Nat} {own : String} {pc : Nat} {ls : Array Slot} {rest st : List Value} {B : zB} {S S2 : Sg} {H0 : Heap}
theorem zcB (C : CallFix p m c cc nL s args zT own) {y : MethodName} {bytes : ByteArray} {maxL n index : Nat} {ret : Option FieldType} {rm : Room} (h1 : Cond.code y bytes maxL ret ∈ zT) (h4 : Cond.initialized y.cls ∈ zT) (hd : y.cls ≠ "java/lang/invoke/MethodHandle" ∧ y.cls ≠ "java/lang/invoke/VarHandle" ∧ (parseMethodDescriptor y.desc).map (fun d => d.parameters.length) = some n) (hl : Cond.methodLink own index y ∈ zT) (hR : zRm R rm maxL) : CallB R s args own index y bytes maxL ret (Cond.code y bytes maxL ret :: zT) rm 0 0 n :=
  callB_of n C.2.2.2.2 (zG h1) rfl hR.1 hR.2.1 (C.2.2.2.2 _ h4) (C.2.2.2.2 _ hl) hd hR.2.2
theorem zrecv (hK : zK B s) (hW : zW B S H) {g : Nat} {r k : Int} (hv : zvd g r k) {ci : Nat} {fs : List Value} (he : zco B S g r k = .inr (ci, fs)) {q : vw_C} (hc : zcl[ci]? = some q) : ∃ cell : Cell, H[B.2.1 g r k]? = some cell ∧ cell.vm.isStatics = false ∧ s.vm.findClass q.1 = some cell.cls := by
  obtain ⟨j, hq⟩ := zpos hv
  have hz := zws_at hq B S
  rw [he] at hz
  exact va_recv hK hW.1 hc hz
theorem zcVi (C : CallFix p m c cc nL s args zT own) (hK : zK B s) (hSt : zSt B s) (hW : zW B S H) (hS : va_S B.2.2.2 s.heap H locs) {y : MethodName} {bytes : ByteArray} {maxL n index : Nat} {ret : Option FieldType} {rm : Room} {b : Addr} {As : List Value} {r : Int} (hM : Met l y (Cond.code y bytes maxL ret :: zT) rm (zP B S (.ref b :: As)) (zQi B r S2) 0 0 B.2.2.2) (hy : zMy y bytes maxL ret n) (hl : Cond.methodLink own index y ∈ zT) (hrec : ∃ cell : Cell, H[b]? = some cell ∧ cell.vm.isStatics = false ∧ s.vm.findClass y.cls = some cell.cls) (hR : zRm R rm maxL) (hc0 : cells ≤ R.cells ∧ slots ≤ R.slots) (hn : As.length = n) (hsz : ls.size = nL) (hst : st = As.reverse ++ .ref b :: rest) (hw : 2 * (F0 m pc ls st).monitorRoom + (rest.map fun v => v.category).sum ≤ 8) (hdg : decode cc pc = .ok (.invokevirtual index, 3))
    (kk : zn r → ∀ (H1 : Heap) (locs1 : List Loc), zW B S2 H1 → va_S B.2.2.2 s.heap H1 locs1 → W p l e R s m args below meth c H1 locs1 cells slots Q (F0 m (pc + 3) ls (.int (zI r) :: rest))) : W p l e R s m args below meth c H locs cells slots Q (F0 m (pc) ls (st)) :=
  va_calli (va_runV (b := b) (As := As) (rest := rest) C hM ⟨zcB C hy.1 hy.2.2.2.1 hy.2.2.2.2 hl hR, C.2.2.2.2 _ hy.2.1, C.2.2.2.2 _ hy.2.2.1⟩ ⟨zP_blind B S _, hrec, fun U hU hWm => ⟨rfl, by rw [hU]; exact hW, va_K.moved hWm.alike hK, hSt.mv hS hU hWm.alike⟩⟩ rfl hn hsz hst hw hdg hc0) hS (fun _ _ h => h) (fun _ h => h) (fun x _ t H1 locs1 ht _ hx hB _ _ hS1 => by rw [hx.1]; exact kk hx.2 H1 locs1 (by rw [← ht]; exact hB.1) hS1)
theorem zcVl (C : CallFix p m c cc nL s args zT own) (hK : zK B s) (hSt : zSt B s) (hW : zW B S H) (hS : va_S B.2.2.2 s.heap H locs) {y : MethodName} {bytes : ByteArray} {maxL n index : Nat} {ret : Option FieldType} {rm : Room} {b : Addr} {As : List Value} {r : Int} (hM : Met l y (Cond.code y bytes maxL ret :: zT) rm (zP B S (.ref b :: As)) (zQl B r S2) 0 0 B.2.2.2) (hy : zMy y bytes maxL ret n) (hl : Cond.methodLink own index y ∈ zT) (hrec : ∃ cell : Cell, H[b]? = some cell ∧ cell.vm.isStatics = false ∧ s.vm.findClass y.cls = some cell.cls) (hR : zRm R rm maxL) (hc0 : cells ≤ R.cells ∧ slots ≤ R.slots) (hn : As.length = n) (hsz : ls.size = nL) (hst : st = As.reverse ++ .ref b :: rest) (hw : 2 * (F0 m pc ls st).monitorRoom + (rest.map fun v => v.category).sum ≤ 8) (hdg : decode cc pc = .ok (.invokevirtual index, 3))
    (kk : zm r → ∀ (H1 : Heap) (locs1 : List Loc), zW B S2 H1 → va_S B.2.2.2 s.heap H1 locs1 → W p l e R s m args below meth c H1 locs1 cells slots Q (F0 m (pc + 3) ls (.long (zL r) :: rest))) : W p l e R s m args below meth c H locs cells slots Q (F0 m (pc) ls (st)) :=
  va_calll (va_runV (b := b) (As := As) (rest := rest) C hM ⟨zcB C hy.1 hy.2.2.2.1 hy.2.2.2.2 hl hR, C.2.2.2.2 _ hy.2.1, C.2.2.2.2 _ hy.2.2.1⟩ ⟨zP_blind B S _, hrec, fun U hU hWm => ⟨rfl, by rw [hU]; exact hW, va_K.moved hWm.alike hK, hSt.mv hS hU hWm.alike⟩⟩ rfl hn hsz hst hw hdg hc0) hS (fun _ _ h => h) (fun _ h => h) (fun x _ t H1 locs1 ht _ hx hB _ _ hS1 => by rw [hx.1]; exact kk hx.2 H1 locs1 (by rw [← ht]; exact hB.1) hS1)
theorem zcVv (C : CallFix p m c cc nL s args zT own) (hK : zK B s) (hSt : zSt B s) (hW : zW B S H) (hS : va_S B.2.2.2 s.heap H locs) {y : MethodName} {bytes : ByteArray} {maxL n index : Nat} {ret : Option FieldType} {rm : Room} {b : Addr} {As : List Value} (hM : Met l y (Cond.code y bytes maxL ret :: zT) rm (zP B S (.ref b :: As)) (zQv B S2) 0 0 B.2.2.2) (hy : zMy y bytes maxL ret n) (hl : Cond.methodLink own index y ∈ zT) (hrec : ∃ cell : Cell, H[b]? = some cell ∧ cell.vm.isStatics = false ∧ s.vm.findClass y.cls = some cell.cls) (hR : zRm R rm maxL) (hc0 : cells ≤ R.cells ∧ slots ≤ R.slots) (hn : As.length = n) (hsz : ls.size = nL) (hst : st = As.reverse ++ .ref b :: rest) (hw : 2 * (F0 m pc ls st).monitorRoom + (rest.map fun v => v.category).sum ≤ 8) (hdg : decode cc pc = .ok (.invokevirtual index, 3))
    (kk : ∀ (H1 : Heap) (locs1 : List Loc), zW B S2 H1 → va_S B.2.2.2 s.heap H1 locs1 → W p l e R s m args below meth c H1 locs1 cells slots Q (F0 m (pc + 3) ls (rest))) : W p l e R s m args below meth c H locs cells slots Q (F0 m (pc) ls (st)) :=
  va_callv (va_runV (b := b) (As := As) (rest := rest) C hM ⟨zcB C hy.1 hy.2.2.2.1 hy.2.2.2.2 hl hR, C.2.2.2.2 _ hy.2.1, C.2.2.2.2 _ hy.2.2.1⟩ ⟨zP_blind B S _, hrec, fun U hU hWm => ⟨rfl, by rw [hU]; exact hW, va_K.moved hWm.alike hK, hSt.mv hS hU hWm.alike⟩⟩ rfl hn hsz hst hw hdg hc0) hS (fun _ _ h => h) (fun _ h => h) (fun _ t H1 locs1 ht _ _ hB _ _ hS1 => kk H1 locs1 (by rw [← ht]; exact hB.1) hS1)
theorem zcSi (C : CallFix p m c cc nL s args zT own) (hK : zK B s) (hSt : zSt B s) (hW : zW B S H) (hS : va_S B.2.2.2 s.heap H locs) {y : MethodName} {bytes : ByteArray} {maxL n index : Nat} {ret : Option FieldType} {rm : Room} {As : List Value} {r : Int} (hM : Met l y (Cond.code y bytes maxL ret :: zT) rm (zP B S As) (zQi B r S2) 0 0 B.2.2.2) (hy : zMs y bytes maxL ret n) (hl : Cond.methodLink own index y ∈ zT) (hR : zRm R rm maxL) (hc0 : cells ≤ R.cells ∧ slots ≤ R.slots) (hn : As.length = n) (hsz : ls.size = nL) (hst : st = As.reverse ++ rest) (hw : 2 * (F0 m pc ls st).monitorRoom + (rest.map fun v => v.category).sum ≤ 8) (hdg : decode cc pc = .ok (.invokestatic index, 3))
    (kk : zn r → ∀ (H1 : Heap) (locs1 : List Loc), zW B S2 H1 → va_S B.2.2.2 s.heap H1 locs1 → W p l e R s m args below meth c H1 locs1 cells slots Q (F0 m (pc + 3) ls (.int (zI r) :: rest))) : W p l e R s m args below meth c H locs cells slots Q (F0 m (pc) ls (st)) :=
  va_calli (va_runS (As := As) (rest := rest) C hM ⟨zcB C hy.1 hy.2.2.1 hy.2.2.2 hl hR, C.2.2.2.2 _ hy.2.1⟩ ⟨zP_blind B S _, fun U hU hWm => ⟨rfl, by rw [hU]; exact hW, va_K.moved hWm.alike hK, hSt.mv hS hU hWm.alike⟩⟩ rfl hn hsz hst hw hdg hc0) hS (fun _ _ h => h) (fun _ h => h) (fun x _ t H1 locs1 ht _ hx hB _ _ hS1 => by rw [hx.1]; exact kk hx.2 H1 locs1 (by rw [← ht]; exact hB.1) hS1)
theorem zcSl (C : CallFix p m c cc nL s args zT own) (hK : zK B s) (hSt : zSt B s) (hW : zW B S H) (hS : va_S B.2.2.2 s.heap H locs) {y : MethodName} {bytes : ByteArray} {maxL n index : Nat} {ret : Option FieldType} {rm : Room} {As : List Value} {r : Int} (hM : Met l y (Cond.code y bytes maxL ret :: zT) rm (zP B S As) (zQl B r S2) 0 0 B.2.2.2) (hy : zMs y bytes maxL ret n) (hl : Cond.methodLink own index y ∈ zT) (hR : zRm R rm maxL) (hc0 : cells ≤ R.cells ∧ slots ≤ R.slots) (hn : As.length = n) (hsz : ls.size = nL) (hst : st = As.reverse ++ rest) (hw : 2 * (F0 m pc ls st).monitorRoom + (rest.map fun v => v.category).sum ≤ 8) (hdg : decode cc pc = .ok (.invokestatic index, 3))
    (kk : zm r → ∀ (H1 : Heap) (locs1 : List Loc), zW B S2 H1 → va_S B.2.2.2 s.heap H1 locs1 → W p l e R s m args below meth c H1 locs1 cells slots Q (F0 m (pc + 3) ls (.long (zL r) :: rest))) : W p l e R s m args below meth c H locs cells slots Q (F0 m (pc) ls (st)) :=
  va_calll (va_runS (As := As) (rest := rest) C hM ⟨zcB C hy.1 hy.2.2.1 hy.2.2.2 hl hR, C.2.2.2.2 _ hy.2.1⟩ ⟨zP_blind B S _, fun U hU hWm => ⟨rfl, by rw [hU]; exact hW, va_K.moved hWm.alike hK, hSt.mv hS hU hWm.alike⟩⟩ rfl hn hsz hst hw hdg hc0) hS (fun _ _ h => h) (fun _ h => h) (fun x _ t H1 locs1 ht _ hx hB _ _ hS1 => by rw [hx.1]; exact kk hx.2 H1 locs1 (by rw [← ht]; exact hB.1) hS1)
theorem zcSv (C : CallFix p m c cc nL s args zT own) (hK : zK B s) (hSt : zSt B s) (hW : zW B S H) (hS : va_S B.2.2.2 s.heap H locs) {y : MethodName} {bytes : ByteArray} {maxL n index : Nat} {ret : Option FieldType} {rm : Room} {As : List Value} (hM : Met l y (Cond.code y bytes maxL ret :: zT) rm (zP B S As) (zQv B S2) 0 0 B.2.2.2) (hy : zMs y bytes maxL ret n) (hl : Cond.methodLink own index y ∈ zT) (hR : zRm R rm maxL) (hc0 : cells ≤ R.cells ∧ slots ≤ R.slots) (hn : As.length = n) (hsz : ls.size = nL) (hst : st = As.reverse ++ rest) (hw : 2 * (F0 m pc ls st).monitorRoom + (rest.map fun v => v.category).sum ≤ 8) (hdg : decode cc pc = .ok (.invokestatic index, 3))
    (kk : ∀ (H1 : Heap) (locs1 : List Loc), zW B S2 H1 → va_S B.2.2.2 s.heap H1 locs1 → W p l e R s m args below meth c H1 locs1 cells slots Q (F0 m (pc + 3) ls (rest))) : W p l e R s m args below meth c H locs cells slots Q (F0 m (pc) ls (st)) :=
  va_callv (va_runS (As := As) (rest := rest) C hM ⟨zcB C hy.1 hy.2.2.1 hy.2.2.2 hl hR, C.2.2.2.2 _ hy.2.1⟩ ⟨zP_blind B S _, fun U hU hWm => ⟨rfl, by rw [hU]; exact hW, va_K.moved hWm.alike hK, hSt.mv hS hU hWm.alike⟩⟩ rfl hn hsz hst hw hdg hc0) hS (fun _ _ h => h) (fun _ h => h) (fun _ t H1 locs1 ht _ _ hB _ _ hS1 => kk H1 locs1 (by rw [← ht]; exact hB.1) hS1)
theorem zre_i (C : CallFix p m c cc nL s args zT own) (hr : meth.sig.returnType = some .int) (hlk : meth.locks = false) (hK : zK B s) (hW : zW B S H) (hS : va_S B.2.2.2 s.heap H locs) {r : Int} (hz : zn r) (hdg : decode cc pc = .ok (.ireturn, 1)) : W p l e R s m args below meth c H locs cells slots (MQ below (zQi B r S) args s cells slots B.2.2.2) (F0 m pc ls [.int (zI r)]) :=
  W.iret C.1 C.2.1 hr (fun t ht hWm => ⟨⟨zI r, (), rfl, ⟨rfl, hz⟩, by rw [ht]; exact hW, va_K.moved hWm.alike hK⟩, hS.F ht⟩) hS.2.2 hdg hlk
theorem zre_z (C : CallFix p m c cc nL s args zT own) (hr : meth.sig.returnType = some .boolean) (hlk : meth.locks = false) (hK : zK B s) (hW : zW B S H) (hS : va_S B.2.2.2 s.heap H locs) {r : Int} (hz : zn r) (hb : narrow .boolean (.int (zI r)) = .int (zI r)) (hdg : decode cc pc = .ok (.ireturn, 1)) : W p l e R s m args below meth c H locs cells slots (MQ below (zQi B r S) args s cells slots B.2.2.2) (F0 m pc ls [.int (zI r)]) :=
  W.zret C.1 C.2.1 hr hb (fun t ht hWm => ⟨⟨zI r, (), rfl, ⟨rfl, hz⟩, by rw [ht]; exact hW, va_K.moved hWm.alike hK⟩, hS.F ht⟩) hS.2.2 hdg hlk
theorem zre_l (C : CallFix p m c cc nL s args zT own) (hr : meth.sig.returnType = some .long) (hlk : meth.locks = false) (hK : zK B s) (hW : zW B S H) (hS : va_S B.2.2.2 s.heap H locs) {r : Int} (hz : zm r) (hdg : decode cc pc = .ok (.lreturn, 1)) : W p l e R s m args below meth c H locs cells slots (MQ below (zQl B r S) args s cells slots B.2.2.2) (F0 m pc ls [.long (zL r)]) :=
  W.lret C.1 C.2.1 hr (fun t ht hWm => ⟨⟨zL r, (), rfl, ⟨rfl, hz⟩, by rw [ht]; exact hW, va_K.moved hWm.alike hK⟩, hS.F ht⟩) hS.2.2 hdg hlk
theorem zre_v (C : CallFix p m c cc nL s args zT own) (hr : meth.sig.returnType = none) (hlk : meth.locks = false) (hK : zK B s) (hW : zW B S H) (hS : va_S B.2.2.2 s.heap H locs) (hdg : decode cc pc = .ok (.return_, 1)) : W p l e R s m args below meth c H locs cells slots (MQ below (zQv B S) args s cells slots B.2.2.2) (F0 m pc ls []) :=
  W.vret C.1 C.2.1 hr (fun t ht hWm => ⟨⟨(), rfl, trivial, by rw [ht]; exact hW, va_K.moved hWm.alike hK⟩, hS.F ht⟩) hS.2.2 hdg hlk
theorem zn_max {x y : Int} (hx : zn x) (hy : zn y) : zn (max x y) := by
  unfold zn at *
  omega
theorem zn_min {x y : Int} (hx : zn x) (hy : zn y) : zn (min x y) := by
  unfold zn at *
  omega
theorem zm_min {x y : Int} (hx : zm x) (hy : zm y) : zm (min x y) := by
  unfold zm at *
  omega
theorem zn_len {n : Nat} (h : n ≤ 65536) : zn (n : Int) := by
  unfold zn
  omega
def zlt {α β : Type} (x : α) (k : α → Option β) : Option β := k x
theorem zlt_some {α β : Type} {x : α} {k : α → Option β} {b : β} (h : zlt x k = some b) : ∃ y : α, x = y ∧ k y = some b := ⟨x, rfl, h⟩
theorem zb01 {r : Int} (h : r = 0 ∨ r = 1) : narrow .boolean (.int (zI r)) = .int (zI r) := by
  rcases h with h | h
  · rw [h]; rfl
  · rw [h]; rfl
theorem zmet {y : MethodName} {bytes : ByteArray} {maxL : Nat} {ret : Option FieldType} {rm : Room} {av : List Value} {Qc : Array Value → State → Outcome → State → Prop} (hpn : plainName y.cls = true) (hlen : (lg_sl av).length ≤ maxL)
    (body : ∀ (p : Program) (e : Env) (s : State) (m : MethodId) (args : Array Value) (below : List Frame) (meth : Method) (c : Code), CallFix p m c bytes maxL s args zT y.cls → meth.sig.returnType = ret → meth.locks = false → zK B s → zSt B s → zW B S s.heap → ∀ ls : Array Slot, lv_has ls maxL (lv_args 0 av) → W p l e rm s m args below meth c s.heap [] 0 0 (MQ below Qc args s 0 0 B.2.2.2) (F0 m 0 ls [])) :
    Met l y (Cond.code y bytes maxL ret :: zT) rm (zP B S av) Qc 0 0 B.2.2.2 := by
  refine Met.ofW (cc := bytes) (maxL := maxL) (ret := ret) hpn rfl ?_
  intro p e s m args below meth c s₁ Bd hml hv
  obtain ⟨rfl, hW, hK, hSt⟩ := hv
  have hts := atoms_spec (ws := Cond.code y bytes maxL ret :: zT) Bd.pre
  have hown : s.vm.findClass y.cls = some m.cls := findClass_of_methodNamed Bd.named
  have hl := lv_entry av (n := maxL) hlen
  rw [lg_entry_eq]
  exact body p e s m _ below meth c ⟨Bd.exec, Bd.bytes, hml, hown, fun w hw => hts w (List.mem_cons_of_mem _ hw)⟩ Bd.returns Bd.notSynchronized hK hSt hW _ hl
theorem zaald (C : CallFix p m c cc nL s args zT own) (hK : zK B s) (hW : zW B S H) {g : Nat} {r k : Int} (hv : zvd g r k) {n t0 : Nat} {ty : FieldType} {f : Nat → Nat} (he : ∀ h, zce B h g r k = .inl (B.2.2.1 t0, n, .inr (.inr (.inr (.inr (fun j : Nat => some (f j))))))) (ht : (zty B)[t0]? = some (B.2.2.1 t0, ty)) (hty : ty.isReference = true) (hn : n ≤ 65536) {i : Int} (hi : 0 ≤ i ∧ i < n) (hdg : decode cc pc = .ok (.aaload, 1)) {a : Nat} (ha : f i.toNat = a) (kk : W p l e R s m args below meth c H locs cells slots Q (F0 m (pc + 1) ls (.ref a :: rest))) : W p l e R s m args below meth c H locs cells slots Q (F0 m (pc) ls (.int (zI i) :: .ref (B.2.1 g r k) :: rest)) := by
  obtain ⟨q, hq⟩ := zpos hv
  have hz := zws_at hq B S
  rw [show zco B S g r k = _ from he (S g r k)] at hz
  have hzi := zn_in hi hn
  have hin := zvp hi hzi
  have hlt : (zI i).toNatClampNeg < n := by rw [zI_nat hzi]; omega
  refine W.aald (v := .ref (f (zI i).toNatClampNeg)) (ty := ty) C.1 C.2.1 (hW.1 q _ hz) ((hK.2 t0 _ ht).1 n (fun j => va_rf (some (f j)))) hty (fun q => by cases q) (by show ¬ (zI i < 0 ∨ (arrV _ _ _).slots.size ≤ _); rw [arrV_size]; exact hin) (by show (arrV _ _ _).slots[_]? = _; rw [arrV_read _ _ hlt]; rfl) rfl rfl hdg ?_
  rw [zI_nat hzi, ha]
  exact kk
theorem zr_max (C : CallFix p m c cc nL s args zT own) (hsz : ls.size = nL) {x y : Int} (hx : zn x) (hy : zn y) {index : Nat} (hlink : Cond.methodLink own index Lib.Math.max.name ∈ zT) (hstat : Cond.static Lib.Math.max.name ∈ zT) (hini : Cond.initialized "java/lang/Math" ∈ zT) (hcode : Cond.code Lib.Math.max.name Lib.Math.max.code 2 (some .int) ∈ zT) (hfr : 1 ≤ R.frames) (hlo : (rest.map fun v => v.category).sum + 13 ≤ R.locals) (hc0 : cells ≤ R.cells ∧ slots ≤ R.slots) (hdg : decode cc pc = .ok (.invokestatic index, 3)) (kk : W p l e R s m args below meth c H locs cells slots Q (F0 m (pc + 3) ls (.int (zI (max x y)) :: rest))) : W p l e R s m args below meth c H locs cells slots Q (F0 m (pc) ls (.int (zI y) :: .int (zI x) :: rest)) := by
  refine va_mmax C.1 C.2.1 (by rw [C.2.2.1, hsz]) C.2.2.2.1 (C.2.2.2.2 _ hlink) (C.2.2.2.2 _ hstat) (C.2.2.2.2 _ hini) (C.2.2.2.2 _ hcode) hfr hlo hc0.1 hc0.2 hdg ?_
  have h9 : (if zI x < zI y then zI y else zI x) = zI (max x y) := by
    simp only [zI_lt hx hy, zI_lt hy hx]
    split <;> congr 1 <;> omega
  rw [h9]
  exact kk
theorem zr_min (C : CallFix p m c cc nL s args zT own) (hsz : ls.size = nL) {x y : Int} (hx : zn x) (hy : zn y) {index : Nat} (hlink : Cond.methodLink own index Lib.Math.min.name ∈ zT) (hstat : Cond.static Lib.Math.min.name ∈ zT) (hini : Cond.initialized "java/lang/Math" ∈ zT) (hcode : Cond.code Lib.Math.min.name Lib.Math.min.code 2 (some .int) ∈ zT) (hfr : 1 ≤ R.frames) (hlo : (rest.map fun v => v.category).sum + 13 ≤ R.locals) (hc0 : cells ≤ R.cells ∧ slots ≤ R.slots) (hdg : decode cc pc = .ok (.invokestatic index, 3)) (kk : W p l e R s m args below meth c H locs cells slots Q (F0 m (pc + 3) ls (.int (zI (min x y)) :: rest))) : W p l e R s m args below meth c H locs cells slots Q (F0 m (pc) ls (.int (zI y) :: .int (zI x) :: rest)) := by
  refine va_mmin C.1 C.2.1 (by rw [C.2.2.1, hsz]) C.2.2.2.1 (C.2.2.2.2 _ hlink) (C.2.2.2.2 _ hstat) (C.2.2.2.2 _ hini) (C.2.2.2.2 _ hcode) hfr hlo hc0.1 hc0.2 hdg ?_
  have h9 : (if zI y < zI x then zI y else zI x) = zI (min x y) := by
    simp only [zI_lt hx hy, zI_lt hy hx]
    split <;> congr 1 <;> omega
  rw [h9]
  exact kk
theorem zr_minl (C : CallFix p m c cc nL s args zT own) (hsz : ls.size = nL) {x y : Int} (hx : zm x) (hy : zm y) {index : Nat} (hlink : Cond.methodLink own index Lib.MathLoose.min_long.x ∈ zT) (hstat : Cond.static Lib.MathLoose.min_long.x ∈ zT) (hini : Cond.initialized "java/lang/Math" ∈ zT) (hcode : Cond.code Lib.MathLoose.min_long.x Lib.MathLoose.min_long.code 4 (some .long) ∈ zT) (hfr : 1 ≤ R.frames) (hlo : (rest.map fun v => v.category).sum + 15 ≤ R.locals) (hc0 : cells ≤ R.cells ∧ slots ≤ R.slots) (hdg : decode cc pc = .ok (.invokestatic index, 3)) (kk : W p l e R s m args below meth c H locs cells slots Q (F0 m (pc + 3) ls (.long (zL (min x y)) :: rest))) : W p l e R s m args below meth c H locs cells slots Q (F0 m (pc) ls (.long (zL y) :: .long (zL x) :: rest)) := by
  refine va_mmin_long C.1 C.2.1 (by rw [C.2.2.1, hsz]) C.2.2.2.1 (C.2.2.2.2 _ hlink) (C.2.2.2.2 _ hstat) (C.2.2.2.2 _ hini) (C.2.2.2.2 _ hcode) hfr hlo hc0.1 hc0.2 hdg ?_
  have h9 : (if zL y < zL x then zL y else zL x) = zL (min x y) := by
    simp only [zL_lt hy hx]
    split <;> congr 1 <;> omega
  rw [h9]
  exact kk
theorem zcp_row (S : Sg) (g : Nat) (r k sp : Int) (g2 : Nat) (r2 k2 dp n : Int) : zcp S g r k sp g2 r2 k2 dp n g2 r2 k2 = fun j => if dp ≤ j ∧ j < dp + n then S g r k (sp + (j - dp)) else S g2 r2 k2 j := by
  funext j
  unfold zcp
  by_cases h : dp ≤ j ∧ j < dp + n
  · rw [if_pos ⟨rfl, rfl, rfl, h⟩, if_pos h]
  · rw [if_neg (fun q => h q.2.2.2), if_neg h]
theorem zcp_ne {g g2 g' : Nat} {r k sp r2 k2 dp n r' k' : Int} (h : (g', r', k') ≠ (g2, r2, k2)) : zco B (zcp S g r k sp g2 r2 k2 dp n) g' r' k' = zco B S g' r' k' := by
  have e : zcp S g r k sp g2 r2 k2 dp n g' r' k' = S g' r' k' := by
    funext j
    unfold zcp
    rw [if_neg]
    rintro ⟨h1, h2, h3, -⟩
    exact h (by rw [h1, h2, h3])
  unfold zco
  rw [e]
theorem zcp_ok {g g2 : Nat} {r k sp r2 k2 dp n : Int} (hg : (decide (20 ≤ g)) = false) (hg2 : (decide (20 ≤ g2)) = false) (h : ∀ (g' : Nat) (r' k' i' : Int), zok g' (S g' r' k' i')) : ∀ (g' : Nat) (r' k' i' : Int), zok g' (zcp S g r k sp g2 r2 k2 dp n g' r' k' i') := by
  intro g' r' k' i'
  unfold zcp
  split
  · rename_i h2
    have := zok_n (h g r k (sp + (i' - dp))) hg
    unfold zok
    rw [h2.1, if_neg (by simpa using hg2)]
    exact this
  · exact h g' r' k' i'
theorem zcopy (C : CallFix p m c cc nL s args zT own) (hK : zK B s) (hap : zAp B) (hW : zW B S H) (hS : va_S B.2.2.2 H0 H locs) (hsz : ls.size = nL) {g g2 : Nat} {r k r2 k2 : Int} (hv : zvd g r k) (hv2 : zvd g2 r2 k2) {n n2 : Nat} (he : ∀ f, zce B f g r k = .inl (B.2.2.1 0, n, .inl (fun j : Nat => zI (f (j : Int))))) (he2 : ∀ f, zce B f g2 r2 k2 = .inl (B.2.2.1 0, n2, .inl (fun j : Nat => zI (f (j : Int))))) (hn : n ≤ 65536) (hn2 : n2 ≤ 65536) (hg : (decide (20 ≤ g)) = false) (hg2 : (decide (20 ≤ g2)) = false) {sp dp w : Int} (h1 : 0 ≤ sp ∧ 0 ≤ dp ∧ 0 ≤ w ∧ sp + w ≤ n ∧ dp + w ≤ n2) {index : Nat} (hlink : Cond.methodLink own index arraycopyName ∈ zT) (hnat : Cond.native arraycopyName ∈ zT) (hstat : Cond.static arraycopyName ∈ zT) (hini : Cond.initialized "java/lang/System" ∈ zT) (hfr : 1 ≤ R.frames) (hlo : (rest.map fun v => v.category).sum + (nativeFrameWords "java/lang/System" "arraycopy" 5 + 11) ≤ R.locals) (hdg : decode cc pc = .ok (.invokestatic index, 3))
    (kk : ∀ (H1 : Heap) (locs1 : List Loc), zW B (zcp S g r k sp g2 r2 k2 dp w) H1 → va_S B.2.2.2 H0 H1 locs1 → W p l e R s m args below meth c H1 locs1 cells slots Q (F0 m (pc + 3) ls rest)) : W p l e R s m args below meth c H locs cells slots Q (F0 m pc ls (.int (zI w) :: .int (zI dp) :: .ref (B.2.1 g2 r2 k2) :: .int (zI sp) :: .ref (B.2.1 g r k) :: rest)) := by
  obtain ⟨q, hq⟩ := zpos hv
  obtain ⟨q2, hq2⟩ := zpos hv2
  have hz := zws_at hq B S
  have hz2 := zws_at hq2 B S
  rw [show zco B S g r k = _ from he (S g r k)] at hz
  rw [show zco B S g2 r2 k2 = _ from he2 (S g2 r2 k2)] at hz2
  have zs : zn sp := by unfold zn; omega
  have zd : zn dp := by unfold zn; omega
  have zww : zn w := by unfold zn; omega
  refine va_copyi C.1 C.2.1 (by rw [C.2.2.1, hsz]) C.2.2.2.1 (C.2.2.2.2 _ hlink) (C.2.2.2.2 _ hnat) (C.2.2.2.2 _ hstat) (C.2.2.2.2 _ hini) hK hW.1 (hap.1 S) hS q q2 0 0 (ty := .int) hz hz2 rfl rfl rfl (by rw [zI_0, zI_lt zs zn_0]; omega) (by rw [zI_0, zI_lt zd zn_0]; omega) (by rw [zI_0, zI_lt zww zn_0]; omega) (by rw [zI_nat zs, zI_nat zww]; omega) (by rw [zI_nat zd, zI_nat zww]; omega) (fun _ _ => rfl) hfr hlo hdg (fun H1 locs1 hP hD hS1 => ?_)
  refine kk H1 locs1 (zW.to hap hq2 hP ?_ (fun g' r' k' h => zcp_ne h) (zcp_ok hg hg2 hW.2)) hS1
  show zce B (zcp S g r k sp g2 r2 k2 dp w g2 r2 k2) g2 r2 k2 = _
  rw [zcp_row, he2]
  congr 3
  congr 1
  funext j
  unfold va_cpy
  rw [zI_nat zs, zI_nat zd, zI_nat zww]
  by_cases h : dp ≤ (j : Int) ∧ (j : Int) < dp + w
  · rw [if_pos h, if_pos (by omega)]
    show zI (S g r k (sp + ((j : Int) - dp))) = zI (S g r k ((sp.toNat + (j - dp.toNat) : Nat) : Int))
    rw [show ((sp.toNat + (j - dp.toNat) : Nat) : Int) = sp + ((j : Int) - dp) by omega]
  · rw [if_neg h, if_neg (by omega)]
end ZC
