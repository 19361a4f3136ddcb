/-! ===== constructors: a world is a short list ahead of a long one; calls ===== -/
theorem zD_iff {A : Nat → Prop} {w : va_W} : va_D A w ↔ w.Pairwise (fun x y => x.1 ≠ y.1) ∧ ∀ x ∈ w, A x.1 := by
  constructor
  · intro h
    refine ⟨List.pairwise_iff_getElem.mpr (fun i j hi hj hij e => ?_), fun x hx => ?_⟩
    · have := h.1 i j w[i] w[j] (List.getElem?_eq_getElem hi) (List.getElem?_eq_getElem hj) e
      omega
    · obtain ⟨i, hi⟩ := List.getElem?_of_mem hx
      exact h.2 i x hi
  · intro h
    refine ⟨fun i j x y hx hy e => ?_, fun k x hx => h.2 x (List.mem_of_getElem? hx)⟩
    obtain ⟨hi, ei⟩ := List.getElem?_eq_some_iff.mp hx
    obtain ⟨hj, ej⟩ := List.getElem?_eq_some_iff.mp hy
    have hp := List.pairwise_iff_getElem.mp h.1
    rcases Nat.lt_trichotomy i j with q | q | q
    · exact absurd (by rw [ei, ej]; exact e) (hp i j hi hj q)
    · exact q
    · exact absurd (by rw [ei, ej]; exact e.symm) (hp j i hj hi q)
theorem zD_perm {A : Nat → Prop} {w w2 : va_W} (h : va_D A w) (hp : w.Perm w2) : va_D A w2 := by
  obtain ⟨a, b⟩ := zD_iff.mp h
  exact zD_iff.mpr ⟨(hp.pairwise_iff (fun q => Ne.symm q)).mp a, fun x hx => b x (hp.mem_iff.mpr hx)⟩
theorem zP_perm {D : va_G} {cl : List vw_C} {w w2 : va_W} {H : Heap} (h : va_P D cl w H) (hp : w.Perm w2) : va_P D cl w2 H := fun k q hq => by
  obtain ⟨i, hi⟩ := List.getElem?_of_mem (hp.mem_iff.mpr (List.mem_of_getElem? hq))
  exact h i q hi
theorem z_ins {P L : va_W} {x : Nat × va_E} : ((P ++ L) ++ [x]).Perm (P ++ (x :: L)) := by
  rw [List.append_assoc]
  exact List.Perm.append_left P (List.perm_append_singleton x L)
theorem z_grow {P L G : va_W} : ((P ++ L) ++ G).Perm (P ++ (G ++ L)) := by
  rw [List.append_assoc]
  exact List.Perm.append_left P List.perm_append_comm
theorem zset_P {D : va_G} {cl : List vw_C} {P P2 L : va_W} {i : Nat} {x : Nat × va_E} {H : Heap} (e : ∀ L, (P ++ L).set i x = P2 ++ L) (h : va_P D cl ((P ++ L).set i x) H) : va_P D cl (P2 ++ L) H := by
  rw [← e]
  exact h
theorem zset_D {A : Nat → Prop} {P P2 L : va_W} {i : Nat} {x : Nat × va_E} (e : ∀ L, (P ++ L).set i x = P2 ++ L) (h : va_D A ((P ++ L).set i x)) : va_D A (P2 ++ L) := by
  rw [← e]
  exact h
theorem isR_map (c : Nat × va_E) (wr : va_W) : (List.range' 1 wr.length).map (fun i => (c :: wr)[i]?) = wr.map some := by
  apply List.ext_getElem
  · simp
  · intro i h1 h2
    have hl : i < wr.length := by simpa using h2
    rw [List.getElem_map, List.getElem_map, List.getElem_range', show 1 + 1 * i = i + 1 by omega, List.getElem?_cons_succ]
    exact List.getElem?_eq_getElem hl
theorem isR_nd : ∀ (n s : Nat), va_nd (List.range' s n) = true
  | 0, _ => rfl
  | n + 1, s => by
    rw [List.range'_succ]
    show (decide (s ∉ List.range' (s + 1) n) && va_nd (List.range' (s + 1) n)) = true
    rw [isR_nd n (s + 1), Bool.and_true]
    exact decide_eq_true (fun h => by have := List.mem_range'_1.mp h; omega)
section ZJ
variable {p : Program} {l : Launch} {e : Env} {R : Room} {s : State} {m : MethodId} {args : Array Value} {below : List Frame} {meth : Method} {c : Code} {H : Heap} {locs : List Loc} {cells slots : Nat} {Q : State → Prop}
variable {cc : ByteArray} {nL : Nat} {own : String} {pc : Nat} {ls : Array Slot} {rest st : List Value} {B : zB} {A : Nat → Prop} {P L : va_W} {H0 : Heap}
theorem zi_newi (C : CallFix p m c cc nL s args zT own) (hK : zK B s) (hP : va_P B.1 zcl (P ++ L) H) (hD : va_D A (P ++ L)) (hS : va_S A H0 H locs) (hA : ∀ q, H0.size ≤ q → A q) {n : Int} {N : Nat} (hn : n = N) (hN : N ≤ 65536) (hcells : cells + 1 ≤ R.cells) (hslots : slots + N ≤ R.slots) (harr : Cond.arrayClass .int ∈ zT) (hdg : decode cc pc = .ok (.newarray .int, 2)) (kk : ∀ (q : Nat) (H1 : Heap), va_P B.1 zcl (P ++ ((q, e0 B N) :: L)) H1 → va_D A (P ++ ((q, e0 B N) :: L)) → va_S A H0 H1 locs → W p l e R s m args below meth c H1 locs (cells + 1) (slots + N) Q (F0 m (pc + 2) ls (.ref q :: rest))) : W p l e R s m args below meth c H locs cells slots Q (F0 m pc ls (.int (zI n) :: rest)) :=
  zo_newi C hK hP hD hS hA hn hN hcells hslots harr hdg (fun q H1 hP1 hD1 hS1 => kk q H1 (zP_perm hP1 z_ins) (zD_perm hD1 z_ins) hS1)
theorem zi_newl (C : CallFix p m c cc nL s args zT own) (hK : zK B s) (hP : va_P B.1 zcl (P ++ L) H) (hD : va_D A (P ++ L)) (hS : va_S A H0 H locs) (hA : ∀ q, H0.size ≤ q → A q) {n : Int} {N : Nat} (hn : n = N) (hN : N ≤ 65536) (hcells : cells + 1 ≤ R.cells) (hslots : slots + N ≤ R.slots) (harr : Cond.arrayClass .long ∈ zT) (hdg : decode cc pc = .ok (.newarray .long, 2)) (kk : ∀ (q : Nat) (H1 : Heap), va_P B.1 zcl (P ++ ((q, el B N) :: L)) H1 → va_D A (P ++ ((q, el B N) :: L)) → va_S A H0 H1 locs → W p l e R s m args below meth c H1 locs (cells + 1) (slots + N) Q (F0 m (pc + 2) ls (.ref q :: rest))) : W p l e R s m args below meth c H locs cells slots Q (F0 m pc ls (.int (zI n) :: rest)) :=
  zo_newl C hK hP hD hS hA hn hN hcells hslots harr hdg (fun q H1 hP1 hD1 hS1 => kk q H1 (zP_perm hP1 z_ins) (zD_perm hD1 z_ins) hS1)
theorem zi_newz (C : CallFix p m c cc nL s args zT own) (hK : zK B s) (hP : va_P B.1 zcl (P ++ L) H) (hD : va_D A (P ++ L)) (hS : va_S A H0 H locs) (hA : ∀ q, H0.size ≤ q → A q) {n : Int} {N : Nat} (hn : n = N) (hN : N ≤ 65536) (hcells : cells + 1 ≤ R.cells) (hslots : slots + N ≤ R.slots) (harr : Cond.arrayClass .boolean ∈ zT) (hdg : decode cc pc = .ok (.newarray .boolean, 2)) (kk : ∀ (q : Nat) (H1 : Heap), va_P B.1 zcl (P ++ ((q, ez B N) :: L)) H1 → va_D A (P ++ ((q, ez B N) :: L)) → va_S A H0 H1 locs → W p l e R s m args below meth c H1 locs (cells + 1) (slots + N) Q (F0 m (pc + 2) ls (.ref q :: rest))) : W p l e R s m args below meth c H locs cells slots Q (F0 m pc ls (.int (zI n) :: rest)) :=
  zo_newz C hK hP hD hS hA hn hN hcells hslots harr hdg (fun q H1 hP1 hD1 hS1 => kk q H1 (zP_perm hP1 z_ins) (zD_perm hD1 z_ins) hS1)
theorem zi_newq (C : CallFix p m c cc nL s args zT own) (hK : zK B s) (hX : zX s) (hP : va_P B.1 zcl (P ++ L) H) (hD : va_D A (P ++ L)) (hS : va_S A H0 H locs) (hA : ∀ q, H0.size ≤ q → A q) {n : Int} {N index : Nat} (hn : n = N) (hN : N ≤ 65536) (hcells : cells + 1 ≤ R.cells) (hslots : slots + N ≤ R.slots) (hcl : Cond.classLink own index "IslandOffice$Shelf" ∈ zT) (hdg : decode cc pc = .ok (.anewarray index, 3)) (kk : ∀ (q : Nat) (H1 : Heap), va_P B.1 zcl (P ++ ((q, eq B 3 N (fun _ => none)) :: L)) H1 → va_D A (P ++ ((q, eq B 3 N (fun _ => none)) :: L)) → va_S A H0 H1 locs → W p l e R s m args below meth c H1 locs (cells + 1) (slots + N) Q (F0 m (pc + 3) ls (.ref q :: rest))) : W p l e R s m args below meth c H locs cells slots Q (F0 m pc ls (.int (zI n) :: rest)) :=
  zo_newq C hK hX hP hD hS hA hn hN hcells hslots hcl hdg (fun q H1 hP1 hD1 hS1 => kk q H1 (zP_perm hP1 z_ins) (zD_perm hD1 z_ins) hS1)
theorem zi_mna (C : CallFix p m c cc nL s args zT own) (hK : zK B s) (hX : zX s) (hP : va_P B.1 zcl (P ++ L) H) (hD : va_D A (P ++ L)) (hS : va_S A H0 H locs) (hA : ∀ q, H0.size ≤ q → A q) {n k : Int} {N K index : Nat} (hn : n = N) (hk : k = K) (hN : N ≤ 65536) (hN2 : K ≤ 65536) (hcells : cells + (1 + N) ≤ R.cells) (hslots : slots + (N + N * K) ≤ R.slots) (hcl : Cond.classLink own index "[[I" ∈ zT) (harr : Cond.arrayClass .int ∈ zT) (hdg : decode cc pc = .ok (.multianewarray index 2, 4)) (kk : ∀ (q : Nat) (H1 : Heap), va_P B.1 zcl (P ++ (gr B N K q ++ L)) H1 → va_D A (P ++ (gr B N K q ++ L)) → va_S A H0 H1 locs → W p l e R s m args below meth c H1 locs (cells + 1 + N) (slots + N + N * K) Q (F0 m (pc + 4) ls (.ref q :: rest))) : W p l e R s m args below meth c H locs cells slots Q (F0 m pc ls (.int (zI k) :: .int (zI n) :: rest)) :=
  zo_mna C hK hX hP hD hS hA hn hk hN hN2 hcells hslots hcl harr hdg (fun q H1 hP1 hD1 hS1 => kk q H1 (zP_perm hP1 z_grow) (zD_perm hD1 z_grow) hS1)
theorem zi_new (C : CallFix p m c cc nL s args zT own) (hK : zK B s) (hP : va_P B.1 zcl (P ++ L) H) (hD : va_D A (P ++ L)) (hS : va_S A H0 H locs) (hA : ∀ q, H0.size ≤ q → A q) {Cn : String} {T : u_T} {N ci index : Nat} (hin : ∀ w ∈ u_ws Cn T N, w ∈ zT) (ty : Nat → FieldType) (hty : ∀ k, k < N → parseFieldDescriptor (T k).2.2.1 = some (ty k)) (hcl : Cond.classLink own index Cn ∈ zT) (hinst : Cond.instantiable Cn N ∈ zT) (hini : Cond.initialized Cn ∈ zT) (hc : zcl[ci]? = some (Cn, T, N)) {fs : List Value} (hfs : ∀ j, j < N → defaultValue (ty j) = vp_V fs j) (hcells : cells + 1 ≤ R.cells) (hslots : slots + N ≤ R.slots) (hdg : decode cc pc = .ok (.new index, 3)) (kk : ∀ (q : Nat) (H1 : Heap), va_P B.1 zcl (P ++ ((q, .inr (ci, fs)) :: L)) H1 → va_D A (P ++ ((q, .inr (ci, fs)) :: L)) → va_S A H0 H1 locs → W p l e R s m args below meth c H1 locs (cells + 1) (slots + N) Q (F0 m (pc + 3) ls (.ref q :: rest))) : W p l e R s m args below meth c H locs cells slots Q (F0 m pc ls rest) :=
  va_new C.1 C.2.1 C.2.2.2.2 hin ty hty C.2.2.2.1 (C.2.2.2.2 _ hcl) (C.2.2.2.2 _ hinst) (C.2.2.2.2 _ hini) hK hP hD hS hA hc hfs hcells hslots hdg (fun q H1 hP1 hD1 hS1 => kk q H1 (zP_perm hP1 z_ins) (zD_perm hD1 z_ins) hS1)
/-- behind a call that has the world of one cell -/
theorem zi_join {x : Nat × va_E} {w1 : va_W} {H1 : Heap} (hP : va_P B.1 zcl (P ++ (x :: L)) H) (hD : va_D A (P ++ (x :: L))) (hk : ∀ q : Nat, q < H.size → ¬ va_A [x] H.size q → H1[q]? = H[q]?) (hF : ∀ q, va_A [x] H.size q → A q) (hP1 : va_P B.1 zcl w1 H1) (hD1 : va_D (va_A [x] H.size) w1) : va_P B.1 zcl (P ++ (w1 ++ L)) H1 ∧ va_D A (P ++ (w1 ++ L)) := by
  have hp : (P ++ (x :: L)).Perm (x :: (P ++ L)) := List.perm_middle
  obtain ⟨a, b⟩ := va_join (wc := [x]) (wr := P ++ L) (w1 := w1) (zP_perm hP hp) (zD_perm hD hp) [0] (List.range' 1 (P ++ L).length) rfl (isR_map x (P ++ L)) (isR_nd _ 1) (fun i hi h => by
    have := List.mem_range'_1.mp hi
    rw [List.mem_singleton.mp h] at this
    omega) hk hF hP1 hD1
  exact ⟨zP_perm a z_grow, zD_perm b z_grow⟩
theorem zi_free {x : Nat × va_E} (hP : va_P B.1 zcl (P ++ (x :: L)) H) (hD : va_D A (P ++ (x :: L))) (hS : va_S A s.heap H locs) (hA : ∀ q, s.heap.size ≤ q → A q) : va_P B.1 zcl [x] H ∧ va_D A [x] ∧ ∀ q, va_A [x] H.size q → A q := by
  have hp : (P ++ (x :: L)).Perm (x :: (P ++ L)) := List.perm_middle
  exact ⟨(zP_perm hP hp).sub [0] rfl, (zD_perm hD hp).sub [0] rfl rfl, va_free (wc := [x]) (zD_perm hD hp) hS hA [0] rfl⟩
theorem zi_call (C : CallFix p m c cc nL s args zT own) (hK : zK B s) (hX : zX s) (hst : zs1 "SETTING_FIRST" zf1 B s) {b : Nat} {o : va_E} (hP : va_P B.1 zcl (P ++ ((b, o) :: L)) H) (hD : va_D A (P ++ ((b, o) :: L))) (hS : va_S A s.heap H locs) (hA : ∀ q, s.heap.size ≤ q → A q) (hAB : ∀ q, A q → B.2.2.2 q) {y : MethodName} {bytes : ByteArray} {maxL n index mc ms : Nat} {rm : Room} {As : List Value} {α : Type} {w1 : α → va_W} (hM : (∀ q, va_A [(b, o)] H.size q → B.2.2.2 q) → Met l y (Cond.code y bytes maxL none :: zT) rm (va_Pc (.ref b :: As) (zPi B [(b, o)] H.size)) (zQc B [(b, o)] H.size w1) mc ms (va_A [(b, o)] H.size)) (hcode : Cond.code y bytes maxL none ∈ zT) (hini : Cond.initialized y.cls ∈ zT) (hl : Cond.methodLink own index y ∈ zT) (hinst : Cond.instanceMethod y ∈ zT) (hy1 : y.name = "<init>") (hd : y.cls ≠ "java/lang/invoke/MethodHandle" ∧ y.cls ≠ "java/lang/invoke/VarHandle" ∧ (parseMethodDescriptor y.desc).map (fun d => d.parameters.length) = some n) (hR : rm.cells = mc ∧ rm.slots = ms ∧ rm.frames + 1 ≤ R.frames ∧ 8 + (maxL + 11) + rm.locals ≤ R.locals) (hcs : cells + mc ≤ R.cells ∧ slots + ms ≤ R.slots) (hn : As.length = n) (hsz : ls.size = nL) (hstk : st = As.reverse ++ .ref b :: rest) (hw : 2 * (F0 m pc ls st).monitorRoom + (rest.map fun v => v.category).sum ≤ 8) (hdg : decode cc pc = .ok (.invokespecial index, 3))
    (kk : ∀ (q : α) (H1 : Heap) (locs1 : List Loc), va_P B.1 zcl (P ++ (w1 q ++ L)) H1 → va_D A (P ++ (w1 q ++ L)) → va_S A s.heap H1 locs1 → W p l e R s m args below meth c H1 locs1 (cells + mc) (slots + ms) Q (F0 m (pc + 3) ls rest)) : W p l e R s m args below meth c H locs cells slots Q (F0 m pc ls st) := by
  obtain ⟨hPc, hDc, hFc⟩ := zi_free hP hD hS hA
  refine va_callv (va_runI (b := b) (As := As) (rest := rest) C (hM (fun q h => hAB q (hFc q h))) (cwI n C.2.2.2.2 (zG hcode) rfl hR.1 hR.2.1 (C.2.2.2.2 _ hini) (C.2.2.2.2 _ hl) (C.2.2.2.2 _ hinst) hy1 hd hR.2.2) ⟨zPi_blind B [(b, o)] H.size _, fun U hU hW => ⟨rfl, by rw [hU], by rw [hU]; exact hPc, va_K.moved hW.alike hK, hX.warm hW, hst.mv (locs := locs) (by rw [hU]; exact vaS_mono hS hAB) hW.alike, hDc.weaken (fun _ _ _ _ => trivial)⟩⟩ rfl hn hsz hstk hw hdg hcs) hS (fun q _ h => hFc q h) hFc (fun u t H1 locs1 ht hvm _ hB hz1 hk1 hS1 => ?_)
  obtain ⟨hP1, hD1⟩ := hB
  rw [ht] at hP1
  obtain ⟨hP2, hD2⟩ := zi_join hP hD hk1 hFc hP1 hD1
  exact kk u H1 locs1 hP2 hD2 hS1
theorem zi_callN (C : CallFix p m c cc nL s args zT own) (hK : zK B s) (hX : zX s) (hst : zs1 "SETTING_FIRST" zf1 B s) {b : Nat} {o : va_E} (hP : va_P B.1 zcl (P ++ ((b, o) :: L)) H) (hD : va_D A (P ++ ((b, o) :: L))) (hS : va_S A s.heap H locs) (hA : ∀ q, s.heap.size ≤ q → A q) (hAB : ∀ q, A q → B.2.2.2 q) {y : MethodName} {bytes : ByteArray} {maxL n index mc ms : Nat} {host : String} {rm : Room} {As : List Value} {α : Type} {w1 : α → va_W} (hM : (∀ q, va_A [(b, o)] H.size q → B.2.2.2 q) → Met l y (Cond.code y bytes maxL none :: zT) rm (va_Pc (.ref b :: As) (zPi B [(b, o)] H.size)) (zQc B [(b, o)] H.size w1) mc ms (va_A [(b, o)] H.size)) (hcode : Cond.code y bytes maxL none ∈ zT) (hini : Cond.initialized y.cls ∈ zT) (hl : va_Nw (.methodLinkNest own index y host) s) (hinst : Cond.instanceMethod y ∈ zT) (hy1 : y.name = "<init>") (hd : y.cls ≠ "java/lang/invoke/MethodHandle" ∧ y.cls ≠ "java/lang/invoke/VarHandle" ∧ (parseMethodDescriptor y.desc).map (fun d => d.parameters.length) = some n) (hR : rm.cells = mc ∧ rm.slots = ms ∧ rm.frames + 1 ≤ R.frames ∧ 8 + (maxL + 11) + rm.locals ≤ R.locals) (hcs : cells + mc ≤ R.cells ∧ slots + ms ≤ R.slots) (hn : As.length = n) (hsz : ls.size = nL) (hstk : st = As.reverse ++ .ref b :: rest) (hw : 2 * (F0 m pc ls st).monitorRoom + (rest.map fun v => v.category).sum ≤ 8) (hdg : decode cc pc = .ok (.invokespecial index, 3))
    (kk : ∀ (q : α) (H1 : Heap) (locs1 : List Loc), va_P B.1 zcl (P ++ (w1 q ++ L)) H1 → va_D A (P ++ (w1 q ++ L)) → va_S A s.heap H1 locs1 → W p l e R s m args below meth c H1 locs1 (cells + mc) (slots + ms) Q (F0 m (pc + 3) ls rest)) : W p l e R s m args below meth c H locs cells slots Q (F0 m pc ls st) := by
  obtain ⟨hPc, hDc, hFc⟩ := zi_free hP hD hS hA
  refine va_callv (va_runIN (b := b) (As := As) (rest := rest) C (hM (fun q h => hAB q (hFc q h))) ⟨va_cnB n C.2.2.2.2 (zG hcode) rfl hR.1 hR.2.1 hl (C.2.2.2.2 _ hini) hd hR.2.2, hy1, C.2.2.2.2 _ hinst⟩ ⟨zPi_blind B [(b, o)] H.size _, fun U hU hW => ⟨rfl, by rw [hU], by rw [hU]; exact hPc, va_K.moved hW.alike hK, hX.warm hW, hst.mv (locs := locs) (by rw [hU]; exact vaS_mono hS hAB) hW.alike, hDc.weaken (fun _ _ _ _ => trivial)⟩⟩ rfl hn hsz hstk hw hdg hcs) hS (fun q _ h => hFc q h) hFc (fun u t H1 locs1 ht hvm _ hB hz1 hk1 hS1 => ?_)
  obtain ⟨hP1, hD1⟩ := hB
  rw [ht] at hP1
  obtain ⟨hP2, hD2⟩ := zi_join hP hD hk1 hFc hP1 hD1
  exact kk u H1 locs1 hP2 hD2 hS1
theorem zi_fill (C : CallFix p m c cc nL s args zT own) (hK : zK B s) (hX : zX s) (hst : zs1 "SETTING_FIRST" zf1 B s) {b : Nat} {o : va_E} (hP : va_P B.1 zcl (P ++ ((b, o) :: L)) H) (hD : va_D A (P ++ ((b, o) :: L))) (hS : va_S A s.heap H locs) (hA : ∀ q, s.heap.size ≤ q → A q) (hAB : ∀ q, A q → B.2.2.2 q) {y : MethodName} {bytes : ByteArray} {maxL n index : Nat} {rm : Room} {As : List Value} {α : Type} {w1 : α → va_W} (hM : Met l y (Cond.code y bytes maxL none :: zT) rm (va_Pc (.ref b :: As) (zPi B [(b, o)] H.size)) (zQc B [(b, o)] H.size w1) 0 0 (va_A [(b, o)] H.size)) (hcode : Cond.code y bytes maxL none ∈ zT) (hini : Cond.initialized y.cls ∈ zT) (hl : Cond.methodLink own index y ∈ zT) (hinst : Cond.static y ∈ zT) (hd : y.cls ≠ "java/lang/invoke/MethodHandle" ∧ y.cls ≠ "java/lang/invoke/VarHandle" ∧ (parseMethodDescriptor y.desc).map (fun d => d.parameters.length) = some (n + 1)) (hR : zRm R rm maxL) (hcs : cells ≤ R.cells ∧ slots ≤ R.slots) (hn : As.length = n) (hsz : ls.size = nL) (hstk : st = (.ref b :: As : List Value).reverse ++ rest) (hw : 2 * (F0 m pc ls st).monitorRoom + (rest.map fun v => v.category).sum ≤ 8) (hdg : decode cc pc = .ok (.invokestatic index, 3))
    (kk : ∀ (q : α) (H1 : Heap) (locs1 : List Loc), va_P B.1 zcl (P ++ (w1 q ++ L)) H1 → va_D A (P ++ (w1 q ++ L)) → va_S A s.heap H1 locs1 → W p l e R s m args below meth c H1 locs1 cells slots Q (F0 m (pc + 3) ls rest)) : W p l e R s m args below meth c H locs cells slots Q (F0 m pc ls st) := by
  obtain ⟨hPc, hDc, hFc⟩ := zi_free hP hD hS hA
  refine va_callv (va_runS (As := .ref b :: As) (rest := rest) C hM ⟨zcB C hcode hini hd hl hR, C.2.2.2.2 _ hinst⟩ ⟨zPi_blind B [(b, o)] H.size _, fun U hU hW => ⟨rfl, by rw [hU], by rw [hU]; exact hPc, va_K.moved hW.alike hK, hX.warm hW, hst.mv (locs := locs) (by rw [hU]; exact vaS_mono hS hAB) hW.alike, hDc.weaken (fun _ _ _ _ => trivial)⟩⟩ rfl (by rw [List.length_cons, hn]) hsz hstk hw hdg hcs) hS (fun q _ h => hFc q h) hFc (fun u t H1 locs1 ht hvm _ hB hz1 hk1 hS1 => ?_)
  obtain ⟨hP1, hD1⟩ := hB
  rw [ht] at hP1
  obtain ⟨hP2, hD2⟩ := zi_join hP hD hk1 hFc hP1 hD1
  exact kk u H1 locs1 hP2 hD2 hS1
/-- the end -/
theorem zi_end (C : CallFix p m c cc nL s args zT own) (hr : meth.sig.returnType = none) (hlk : meth.locks = false) {w0 : va_W} {sz : Nat} {α : Type} {w : α → va_W} (u : α) (hP : va_P B.1 zcl (w u) H) (hD : va_D (va_A w0 sz) (w u)) (hS : va_S (va_A w0 sz) s.heap H locs) (hdg : decode cc pc = .ok (.return_, 1)) : W p l e R s m args below meth c H locs cells slots (MQ below (zQc B w0 sz w) args s cells slots (va_A w0 sz)) (F0 m pc ls []) :=
  W.vret C.1 C.2.1 hr (fun t ht hWm => ⟨⟨u, rfl, trivial, by rw [ht]; exact hP, hD⟩, hS.F ht⟩) hS.2.2 hdg hlk
theorem zi_end2 (C : CallFix p m c cc nL s args zT own) (hr : meth.sig.returnType = none) (hlk : meth.locks = false) {w0 : va_W} {sz : Nat} {α : Type} {w : α → va_W} (u : α) (hAe : va_A w0 sz = A) (hP : va_P B.1 zcl (w u) H) (hD : va_D A (w u)) (hS : va_S A s.heap H locs) (hdg : decode cc pc = .ok (.return_, 1)) : W p l e R s m args below meth c H locs cells slots (MQ below (zQc B w0 sz w) args s cells slots A) (F0 m pc ls []) := by
  subst hAe
  exact zi_end C hr hlk u hP hD hS hdg
/-- SETTING_FIRST, by way of the nest -/
theorem zi_stat (C : CallFix p m c cc nL s args zT own) (hX : zX s) (hst : zs1 "SETTING_FIRST" zf1 B s) (hS : va_S A s.heap H locs) (hAB : ∀ q, A q → B.2.2.2 q) (ho : own = "IslandOffice$Island") (hdg : decode cc pc = .ok (.getstatic 37, 3)) (kk : ∀ t : Nat, va_T .int t 4 (fun j => .int (zI (zf1 j))) A s s.heap → W p l e R s m args below meth c H locs cells slots Q (F0 m (pc + 3) ls (.ref t :: rest))) : W p l e R s m args below meth c H locs cells slots Q (F0 m pc ls rest) := by
  subst ho
  obtain ⟨t, h1, h2⟩ := hst
  exact va_getsN C.1 C.2.1 (h1.narrow hAB) hS C.2.2.2.1 (va_Nw.use rfl hX.2.2.1) (fun _ h => h) hdg (kk t (h2.narrow hAB))
end ZJ
