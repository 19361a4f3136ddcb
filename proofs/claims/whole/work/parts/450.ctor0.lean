/-! ===== constructors: worlds as lists; rows for what they do ===== -/
def zAO (U : State) : Prop := (Cond.arrayOver (.array .int)).before #[] U = true
theorem zAO.spec {U : State} (h : zAO U) : ∃ comp c k, U.vm.findClass (FieldType.array .int).toString = some comp ∧ (U.vm.classes.findIdx? fun (x : Class) => match x.kind with | .array component _ => component == comp | _ => false) = some c ∧ U.vm.classes[c]? = some k ∧ k.kind = .array comp (.array .int) ∧ U.vm.findClass ("[" ++ (FieldType.array .int).toString) = some c := by
  unfold zAO Cond.before at h
  simp only [Cond.holds, Cond.value, beq_iff_eq] at h
  cases hc : U.vm.findClass (FieldType.array .int).toString with
  | none => simp [hc] at h
  | some comp =>
    simp only [hc, Option.bind_some, Option.bind_eq_some_iff, Option.map_eq_some_iff] at h
    obtain ⟨c, hi, k, hk, hb⟩ := h
    obtain ⟨hlt, hp, -⟩ := Array.findIdx?_eq_some_iff_getElem.mp hi
    have hkk : U.vm.classes[c] = k := (Array.getElem?_eq_some_iff.mp hk).2
    rw [hkk] at hp
    cases hkind : k.kind with
    | array component ty =>
      rw [hkind] at hb hp
      simp at hb hp
      exact ⟨comp, c, k, rfl, hi, hk, by rw [hkind, hp, hb.1], hb.2⟩
    | _ => rw [hkind] at hb; simp at hb
theorem zAO.moved {u U : State} (hvm : u.vm.Alike U.vm) (h : zAO u) : zAO U := by
  obtain ⟨comp, c, k, h1, h2, h3, h4, h5⟩ := h.spec
  obtain ⟨k', hk', he⟩ := hvm.2.2 _ _ h3
  have hi : (U.vm.classes.findIdx? fun (x : Class) => match x.kind with | .array component _ => component == comp | _ => false) = some c := by
    have e1 := va_idx_bare U.vm comp
    have e2 := va_idx_bare u.vm comp
    have hb : U.vm.bare = u.vm.bare := by first | exact hvm.bare_eq | exact hvm.bare_eq.symm
    rw [hb] at e1
    exact e1.symm.trans (e2.trans h2)
  have hkind : k'.kind = .array comp (.array .int) := by rw [he]; exact h4
  have f1 : U.vm.findClass (FieldType.array .int).toString = some comp := by rw [hvm.findClass]; exact h1
  have f2 : U.vm.findClass ("[" ++ (FieldType.array .int).toString) = some c := by rw [hvm.findClass]; exact h5
  unfold zAO Cond.before Cond.holds
  simp only [Cond.value]
  rw [f1, Option.bind_some]
  refine (congrArg (fun o : Option Nat => (o.bind (fun c => (U.vm.classes[c]?).map fun (k : Class) => match k.kind with | .array _ ty => decide (ty = FieldType.array .int) && decide (U.vm.findClass ("[" ++ (FieldType.array .int).toString) = some c) | _ => false) == some true)) hi).trans ?_
  simp [hk', hkind, f2]
/-- what the tables say beyond the words that stand for ever -/
def zX (U : State) : Prop := va_AO "IslandOffice$Shelf" U ∧ zAO U ∧ va_Nw (.fieldLinkNest "IslandOffice$Island" 37 "IslandOffice" "SETTING_FIRST" "[I" "IslandOffice") U ∧ va_Nw (.methodLinkNest "IslandOfficeModel" 9 ⟨"IslandOfficeModel$World", "<init>", "()V"⟩ "IslandOfficeModel") U
theorem zX.warm {s U : State} (h : zX s) (hW : s.WarmedH U.vm) : zX U := ⟨h.1.moved hW.alike, h.2.1.moved hW.alike, va_Nw.warmF hW h.2.2.1, va_Nw.warmM hW h.2.2.2⟩
theorem zX.same {s U : State} (h : zX s) (hv : s.vm = U.vm) : zX U := ⟨h.1.moved (by rw [hv]; exact Vm.Alike.refl _), h.2.1.moved (by rw [hv]; exact Vm.Alike.refl _), va_Nw.same rfl hv h.2.2.1, va_Nw.same rfl hv h.2.2.2⟩
theorem vaS_mono {A A2 : Nat → Prop} {H0 H : Heap} {locs : List Loc} (h : va_S A H0 H locs) (ha : ∀ q, A q → A2 q) : va_S A2 H0 H locs := ⟨h.1, fun q a b => h.2.1 q a (fun e => b (ha q e)), fun q a => ha _ (h.2.2 q a)⟩
abbrev e0 (B : zB) (n : Nat) : va_E := .inl (B.2.2.1 0, n, .inl (fun _ => 0))
abbrev ei (B : zB) (n : Nat) (f : Nat → Int32) : va_E := .inl (B.2.2.1 0, n, .inl f)
abbrev el (B : zB) (n : Nat) : va_E := .inl (B.2.2.1 1, n, .inr (.inl (fun _ => 0)))
abbrev ez (B : zB) (n : Nat) : va_E := .inl (B.2.2.1 2, n, .inl (fun _ => 0))
abbrev eq (B : zB) (t n : Nat) (f : Nat → Option Nat) : va_E := .inl (B.2.2.1 t, n, .inr (.inr (.inr (.inr f))))
/-- a constructor's start: its world, the tables, the static row -/
def zPi (B : zB) (w : va_W) (sz : Nat) (U : State) : Prop := U.heap.size = sz ∧ va_P B.1 zcl w U.heap ∧ zK B U ∧ zX U ∧ zs1 "SETTING_FIRST" zf1 B U ∧ va_D (fun _ => True) w
def zQc {α : Type} (B : zB) (w0 : va_W) (sz : Nat) (w : α → va_W) : Array Value → State → Outcome → State → Prop := va_Qv (fun (_ : α) => True) (fun q t => va_P B.1 zcl (w q) t.heap ∧ va_D (va_A w0 sz) (w q)) (va_A w0 sz)
theorem zs1.calling {nm : String} {f : Nat → Int} {B : zB} {U : State} (h : zs1 nm f B U) (g : JFrame) (mk : MethodId) (a : Array Value) : zs1 nm f B (U.calling g mk a) := h.mv (U := U.calling g mk a) (locs := []) va_S.rf (Vm.Alike.refl U.vm)
theorem zPi_blind (B : zB) (w : va_W) (sz : Nat) (av : List Value) : FrameBlind (va_Pc av (zPi B w sz)) := fun a U g mk q => ⟨q.1, q.2.1, q.2.2.1, va_K.moved (u := U) (U := U.calling g mk a) (Vm.Alike.refl U.vm) q.2.2.2.1, q.2.2.2.2.1.same rfl, q.2.2.2.2.2.1.calling g mk a, q.2.2.2.2.2.2⟩
theorem zmeti {α : Type} {l : Launch} {y : MethodName} {bytes : ByteArray} {maxL : Nat} {rm : Room} {av : List Value} {B : zB} {w0 : va_W} {sz : Nat} {w : α → va_W} {mc ms : Nat} (hpn : plainName y.cls = true) (hlen : (lg_sl av).length ≤ maxL)
    (body : ∀ (p : Program) (e : Env) (s : State) (m : MethodId) (args : Array Value) (below : List Frame) (meth : Method) (c : Code), CallFix p m c bytes maxL s args zT y.cls → meth.sig.returnType = none → meth.locks = false → meth.name = y.name → sz = s.heap.size → va_P B.1 zcl w0 s.heap → va_D (va_A w0 sz) w0 → va_S (va_A w0 sz) s.heap s.heap [] → zK B s → zX s → zs1 "SETTING_FIRST" zf1 B s → (∀ q, s.heap.size ≤ q → va_A w0 sz q) → ∀ ls : Array Slot, lv_has ls maxL (lv_args 0 av) → W p l e rm s m args below meth c s.heap [] 0 0 (MQ below (zQc B w0 sz w) args s mc ms (va_A w0 sz)) (F0 m 0 ls [])) :
    Met l y (Cond.code y bytes maxL none :: zT) rm (va_Pc av (zPi B w0 sz)) (zQc B w0 sz w) mc ms (va_A w0 sz) := by
  refine Met.ofW (cc := bytes) (maxL := maxL) (ret := none) hpn rfl ?_
  intro p e s m args below meth c s₁ Bd hml hv
  obtain ⟨rfl, hsz, hP, hK, hX, hst, hD⟩ := hv
  have hts := atoms_spec (ws := Cond.code y bytes maxL none :: zT) Bd.pre
  have hown : s.vm.findClass y.cls = some m.cls := findClass_of_methodNamed Bd.named
  have hl := lv_entry av (n := maxL) hlen
  rw [lg_entry_eq]
  exact body p e s m _ below meth c ⟨Bd.exec, Bd.bytes, hml, hown, fun w hw => hts w (List.mem_cons_of_mem _ hw)⟩ Bd.returns Bd.notSynchronized (name_of_methodNamed Bd.named Bd.method).1 hsz.symm hP hD.self va_S.rf hK hX hst (fun q h => Or.inr (by rw [← hsz]; exact h)) _ hl
section ZI
variable {p : Program} {l : Launch} {e : Env} {R : Room} {s : State} {m : MethodId} {args : Array Value} {below : List Frame} {meth : Method} {c : Code} {H : Heap} {locs : List Loc} {cells slots : Nat} {Q : State → Prop}
variable {cc : ByteArray} {nL : Nat} {own : String} {pc : Nat} {ls : Array Slot} {rest : List Value} {B : zB} {A : Nat → Prop} {ws : va_W} {H0 : Heap}
theorem zo_obj (C : CallFix p m c cc nL s args zT own) {idx : Nat} (hl : Cond.methodLink own idx Lib.objectInit ∈ zT) (hi : Cond.instanceMethod Lib.objectInit ∈ zT) (hc : Cond.code Lib.objectInit ⟨#[0xb1]⟩ 1 none ∈ zT) (hsz : ls.size = nL) {a : Nat} (hd : decode cc pc = .ok (.invokespecial idx, 3)) (hfr : 1 ≤ R.frames) (hlo : 2 * (F0 m pc ls (.ref a :: rest)).monitorRoom + (rest.map fun v => v.category).sum + 12 ≤ R.locals) (kk : W p l e R s m args below meth c H locs cells slots Q (F0 m (pc + 3) ls rest)) : W p l e R s m args below meth c H locs cells slots Q (F0 m pc ls (.ref a :: rest)) :=
  W.objInit C.1 C.2.1 C.2.2.2.1 (C.2.2.2.2 _ hl) (C.2.2.2.2 _ hi) (C.2.2.2.2 _ hc) rfl (by rw [C.2.2.1]; exact hsz) rfl hd hfr hlo (W.eq (g2 := F0 m (pc + 3) ls rest) rfl kk)
theorem zo_newi (C : CallFix p m c cc nL s args zT own) (hK : zK B s) (hP : va_P B.1 zcl ws H) (hD : va_D A ws) (hS : va_S A H0 H locs) (hA : ∀ q, H0.size ≤ q → A q) {n : Int} {N : Nat} (hn : n = N) (hN : N ≤ 65536) (hcells : cells + 1 ≤ R.cells) (hslots : slots + N ≤ R.slots) (harr : Cond.arrayClass .int ∈ zT) (hdg : decode cc pc = .ok (.newarray .int, 2)) (kk : ∀ (q : Nat) (H1 : Heap), va_P B.1 zcl (ws ++ [(q, e0 B N)]) H1 → va_D A (ws ++ [(q, e0 B N)]) → va_S A H0 H1 locs → W p l e R s m args below meth c H1 locs (cells + 1) (slots + N) Q (F0 m (pc + 2) ls (.ref q :: rest))) : W p l e R s m args below meth c H locs cells slots Q (F0 m pc ls (.int (zI n) :: rest)) := by
  subst hn
  have hz : zn (N : Int) := by unfold zn; omega
  refine va_newa (atype := .int) C.1 C.2.1 (C.2.2.2.2 _ harr) (ty := .int) rfl hK hP hD hS hA (a0 := (N, .inl (fun _ => 0))) (fun _ => rfl) (by rw [zI_0, zI_lt hz zn_0]; omega) (by rw [zI_nat hz]; omega) (by show N * 4 ≤ _; omega) hcells hslots hdg (fun q cA H1 hK1 hP1 hD1 hS1 => ?_)
  have h1 := (hK1.2 5 (cA, .int) rfl).2
  have h2 := (hK.2 0 (B.2.2.1 0, .int) rfl).2
  cases Option.some.inj (h1.symm.trans h2)
  exact kk q H1 hP1 hD1 hS1
theorem zo_newl (C : CallFix p m c cc nL s args zT own) (hK : zK B s) (hP : va_P B.1 zcl ws H) (hD : va_D A ws) (hS : va_S A H0 H locs) (hA : ∀ q, H0.size ≤ q → A q) {n : Int} {N : Nat} (hn : n = N) (hN : N ≤ 65536) (hcells : cells + 1 ≤ R.cells) (hslots : slots + N ≤ R.slots) (harr : Cond.arrayClass .long ∈ zT) (hdg : decode cc pc = .ok (.newarray .long, 2)) (kk : ∀ (q : Nat) (H1 : Heap), va_P B.1 zcl (ws ++ [(q, el B N)]) H1 → va_D A (ws ++ [(q, el B N)]) → va_S A H0 H1 locs → W p l e R s m args below meth c H1 locs (cells + 1) (slots + N) Q (F0 m (pc + 2) ls (.ref q :: rest))) : W p l e R s m args below meth c H locs cells slots Q (F0 m pc ls (.int (zI n) :: rest)) := by
  subst hn
  have hz : zn (N : Int) := by unfold zn; omega
  refine va_newa (atype := .long) C.1 C.2.1 (C.2.2.2.2 _ harr) (ty := .long) rfl hK hP hD hS hA (a0 := (N, .inr (.inl (fun _ => 0)))) (fun _ => rfl) (by rw [zI_0, zI_lt hz zn_0]; omega) (by rw [zI_nat hz]; omega) (by show N * 8 ≤ _; omega) hcells hslots hdg (fun q cA H1 hK1 hP1 hD1 hS1 => ?_)
  have h1 := (hK1.2 5 (cA, .long) rfl).2
  have h2 := (hK.2 1 (B.2.2.1 1, .long) rfl).2
  cases Option.some.inj (h1.symm.trans h2)
  exact kk q H1 hP1 hD1 hS1
theorem zo_newz (C : CallFix p m c cc nL s args zT own) (hK : zK B s) (hP : va_P B.1 zcl ws H) (hD : va_D A ws) (hS : va_S A H0 H locs) (hA : ∀ q, H0.size ≤ q → A q) {n : Int} {N : Nat} (hn : n = N) (hN : N ≤ 65536) (hcells : cells + 1 ≤ R.cells) (hslots : slots + N ≤ R.slots) (harr : Cond.arrayClass .boolean ∈ zT) (hdg : decode cc pc = .ok (.newarray .boolean, 2)) (kk : ∀ (q : Nat) (H1 : Heap), va_P B.1 zcl (ws ++ [(q, ez B N)]) H1 → va_D A (ws ++ [(q, ez B N)]) → va_S A H0 H1 locs → W p l e R s m args below meth c H1 locs (cells + 1) (slots + N) Q (F0 m (pc + 2) ls (.ref q :: rest))) : W p l e R s m args below meth c H locs cells slots Q (F0 m pc ls (.int (zI n) :: rest)) := by
  subst hn
  have hz : zn (N : Int) := by unfold zn; omega
  refine va_newa (atype := .boolean) C.1 C.2.1 (C.2.2.2.2 _ harr) (ty := .boolean) rfl hK hP hD hS hA (a0 := (N, .inl (fun _ => 0))) (fun _ => rfl) (by rw [zI_0, zI_lt hz zn_0]; omega) (by rw [zI_nat hz]; omega) (by show N * 1 ≤ _; omega) hcells hslots hdg (fun q cA H1 hK1 hP1 hD1 hS1 => ?_)
  have h1 := (hK1.2 5 (cA, .boolean) rfl).2
  have h2 := (hK.2 2 (B.2.2.1 2, .boolean) rfl).2
  cases Option.some.inj (h1.symm.trans h2)
  exact kk q H1 hP1 hD1 hS1
theorem zo_newq (C : CallFix p m c cc nL s args zT own) (hK : zK B s) (hX : zX s) (hP : va_P B.1 zcl ws H) (hD : va_D A ws) (hS : va_S A H0 H locs) (hA : ∀ q, H0.size ≤ q → A q) {n : Int} {N index : Nat} (hn : n = N) (hN : N ≤ 65536) (hcells : cells + 1 ≤ R.cells) (hslots : slots + N ≤ R.slots) (hcl : Cond.classLink own index "IslandOffice$Shelf" ∈ zT) (hdg : decode cc pc = .ok (.anewarray index, 3)) (kk : ∀ (q : Nat) (H1 : Heap), va_P B.1 zcl (ws ++ [(q, eq B 3 N (fun _ => none))]) H1 → va_D A (ws ++ [(q, eq B 3 N (fun _ => none))]) → va_S A H0 H1 locs → W p l e R s m args below meth c H1 locs (cells + 1) (slots + N) Q (F0 m (pc + 3) ls (.ref q :: rest))) : W p l e R s m args below meth c H locs cells slots Q (F0 m pc ls (.int (zI n) :: rest)) := by
  subst hn
  have hz : zn (N : Int) := by unfold zn; omega
  refine va_newq C.1 C.2.1 C.2.2.2.1 (C.2.2.2.2 _ hcl) hX.1 hK hP hD hS hA (by rw [zI_0, zI_lt hz zn_0]; omega) (by rw [zI_nat hz]; omega) (by omega) hcells hslots hdg (fun q cA H1 hK1 hP1 hD1 hS1 => ?_)
  obtain ⟨-, -, -, -, -, h1⟩ := (hK1.2 5 (cA, .object "IslandOffice$Shelf") rfl).2
  obtain ⟨-, -, -, -, -, h2⟩ := (hK.2 3 (B.2.2.1 3, .object "IslandOffice$Shelf") rfl).2
  cases Option.some.inj (h1.symm.trans h2)
  exact kk q H1 hP1 hD1 hS1
/-- the cells of new int[N][K] from the address q on -/
def gr (B : zB) (N K q : Nat) : va_W := (q, eq B 4 N (fun i => if i < N then some (q + 1 + i) else none)) :: (List.range N).map (fun i => (q + 1 + i, e0 B K))
theorem gr_at {B : zB} {N K q i : Nat} {x : Nat × va_E} (h : (gr B N K q)[i]? = some x) : x.1 = q + i ∧ ((i = 0 ∧ x.2 = eq B 4 N (fun i => if i < N then some (q + 1 + i) else none)) ∨ (1 ≤ i ∧ i ≤ N ∧ x.2 = e0 B K)) := by
  unfold gr at h
  cases i with
  | zero =>
    cases h
    exact ⟨rfl, Or.inl ⟨rfl, rfl⟩⟩
  | succ i =>
    rw [List.getElem?_cons_succ, List.getElem?_map] at h
    by_cases h9 : i < N
    · rw [List.getElem?_range h9] at h
      cases h
      exact ⟨by show q + 1 + i = q + (i + 1); omega, Or.inr ⟨by omega, by omega, rfl⟩⟩
    · rw [List.getElem?_eq_none (by rw [List.length_range]; omega)] at h
      cases h
theorem zo_mna (C : CallFix p m c cc nL s args zT own) (hK : zK B s) (hX : zX s) (hP : va_P B.1 zcl ws H) (hD : va_D A ws) (hS : va_S A H0 H locs) (hA : ∀ q, H0.size ≤ q → A q) {n k : Int} {N K index : Nat} (hn : n = N) (hk : k = K) (hN : N ≤ 65536) (hN2 : K ≤ 65536) (hcells : cells + (1 + N) ≤ R.cells) (hslots : slots + (N + N * K) ≤ R.slots) (hcl : Cond.classLink own index "[[I" ∈ zT) (harr : Cond.arrayClass .int ∈ zT) (hdg : decode cc pc = .ok (.multianewarray index 2, 4)) (kk : ∀ (q : Nat) (H1 : Heap), va_P B.1 zcl (ws ++ gr B N K q) H1 → va_D A (ws ++ gr B N K q) → va_S A H0 H1 locs → W p l e R s m args below meth c H1 locs (cells + 1 + N) (slots + N + N * K) Q (F0 m (pc + 4) ls (.ref q :: rest))) : W p l e R s m args below meth c H locs cells slots Q (F0 m pc ls (.int (zI k) :: .int (zI n) :: rest)) := by
  subst hn hk
  have hzn : zn (N : Int) := by unfold zn; omega
  have hzk : zn (K : Int) := by unfold zn; omega
  have eN : (zI (N : Int)).toNatClampNeg = N := by rw [zI_nat hzn]; omega
  have eK : (zI (K : Int)).toNatClampNeg = K := by rw [zI_nat hzk]; omega
  intro T hT Xs
  obtain ⟨comp, cA, kA, g1, -, g2, g3, g4⟩ := zAO.spec hX.2.1
  obtain ⟨c9, kI, cc9, e1, e2, e3⟩ := Cond.arrayClass_spec (C.2.2.2.2 _ harr)
  cases Option.some.inj (e1.symm.trans g1)
  obtain ⟨vm₁, -, X', step⟩ := zmn_step Xs C.1 C.2.2.2.1 (C.2.2.2.2 _ hcl) g4 g2 g3 e2 e3 (g := F0 m pc ls (.int (zI (K : Int)) :: .int (zI (N : Int)) :: rest)) rfl (by rw [C.2.1]; exact hdg) rfl (by rw [zI_0, zI_lt hzn zn_0]; omega) (by rw [zI_0, zI_lt hzk zn_0]; omega) eN eK hN hN2 hcells hslots
  have h1 := (hK.2 4 (B.2.2.1 4, .array .int) rfl).2
  have h2 := (hK.2 0 (B.2.2.1 0, .int) rfl).2
  cases Option.some.inj (g4.symm.trans h1)
  cases Option.some.inj (g1.symm.trans h2)
  obtain ⟨f1, f2, hold, hrow, -, -⟩ := zms_at (T.setVm vm₁) (B.2.2.1 4) (B.2.2.1 0) N K N
  generalize zms (T.setVm vm₁) (B.2.2.1 4) (B.2.2.1 0) N K N = F at X' step f1 f2 hold hrow
  have hTh : (T.setVm vm₁).heap = H := hT
  rw [hTh] at f1 f2 hold hrow
  have hout : zmo (B.2.2.1 4) N H.size N = arrV (B.2.2.1 4) N (fun j => va_rf (if j < N then some (H.size + 1 + j) else none)) := congrArg (arrV (B.2.2.1 4) N) (funext fun j => by
    by_cases h : j < N
    · rw [if_pos h, if_pos h]
      rfl
    · rw [if_neg h, if_neg h]
      rfl)
  rw [hout] at f2
  have hlt : ∀ (k9 : Nat) (x : Nat × va_E), ws[k9]? = some x → x.1 < H.size := fun k9 x hx => (hP k9 x hx).lt
  have hP1 : va_P B.1 zcl (ws ++ gr B N K H.size) F.heap := by
    refine (hP.kept (fun k9 x hx => hold x.1 (hlt k9 x hx))).app (fun k9 x hx => ?_)
    obtain ⟨a, b⟩ := gr_at hx
    obtain ⟨x1, x2⟩ := x
    rcases b with ⟨b1, b2⟩ | ⟨b1, b2, b3⟩
    · have a : x1 = H.size + k9 := a
      have b2 : x2 = _ := b2
      subst a b2 b1
      exact f2
    · have a : x1 = H.size + k9 := a
      have b3 : x2 = _ := b3
      subst a b3
      have := hrow (k9 - 1) (by omega)
      rw [show H.size + 1 + (k9 - 1) = H.size + k9 by omega] at this
      exact this
  have hD1 : va_D A (ws ++ gr B N K H.size) := by
    refine va_D.app hD ⟨fun i j x y hx hy hxy => ?_, fun k9 x hx => ?_⟩ (fun i j x y hx hy hxy => ?_)
    · have := (gr_at hx).1
      have := (gr_at hy).1
      omega
    · have := (gr_at hx).1
      exact hA _ (by have := hS.1; omega)
    · have := (gr_at hy).1
      have := hlt i x hx
      omega
  obtain ⟨t, a1, b1⟩ := kk H.size F.heap hP1 hD1 ⟨by rw [f1]; have := hS.1; omega, fun x h1 h2 => (hold x (Nat.lt_of_lt_of_le h1 hS.1)).trans (hS.2.1 x h1 h2), hS.2.2⟩ F rfl X'
  refine ⟨t, step t ?_, b1⟩
  have e : T.heap.size = H.size := by rw [hT]
  rw [e]
  exact a1
end ZI
