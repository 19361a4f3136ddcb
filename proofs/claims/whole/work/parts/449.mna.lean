/-! ===== new int[N][K] at the machine: one outer array and N rows behind it, by the base laws alone ===== -/
section ZMNA
/-- the outer array at b: its first i places hold the rows behind it -/
def zmo (cA : ClassId) (N b i : Nat) : Cell := arrV cA N (fun j => if j < i then .ref (b + 1 + j) else .null)
/-- one row, as it is made -/
def zmr (cI : ClassId) (K : Nat) : Cell := arrV cI K (fun _ => .int 0)
/-- the state behind the outer array and i rows -/
def zms (U : State) (cA cI : ClassId) (N K : Nat) : Nat → State
  | 0 => U.pushCell (zmo cA N U.heap.size 0)
  | i + 1 => ((zms U cA cI N K i).pushCell (zmr cI K)).setCell U.heap.size (zmo cA N U.heap.size (i + 1))
theorem zmo_set (cA : ClassId) (N b i : Nat) : (zmo cA N b i).setSlot i (.ref (b + 1 + i)) = zmo cA N b (i + 1) := by
  unfold zmo
  rw [arrV_store]
  refine congrArg (arrV cA N) (funext fun j => ?_)
  show (if j = i then Value.ref (b + 1 + i) else if j < i then Value.ref (b + 1 + j) else Value.null) = if j < i + 1 then Value.ref (b + 1 + j) else Value.null
  rcases Nat.lt_trichotomy j i with h | h | h
  · rw [if_neg (by omega : ¬ j = i), if_pos h, if_pos (by omega : j < i + 1)]
  · subst h
    rw [if_pos rfl, if_pos (by omega : j < j + 1)]
  · rw [if_neg (by omega : ¬ j = i), if_neg (by omega : ¬ j < i), if_neg (by omega : ¬ j < i + 1)]
/-- a push leaves the old cells -/
theorem zmp_old {V : State} {x : Addr} (y : Cell) (h : x < V.heap.size) : (V.pushCell y).heap[x]? = V.heap[x]? := State.heap_pushCell_of_lt V y h
theorem zms_top (U : State) (f : JFrame) (cA cI : ClassId) (N K : Nat) : ∀ i, zms (U.setTop f) cA cI N K i = (zms U cA cI N K i).setTop f := by
  intro i
  induction i with
  | zero => rfl
  | succ i ih =>
    unfold zms
    rw [ih]
    rfl
/-- what the state behind i rows holds -/
theorem zms_at (U : State) (cA cI : ClassId) (N K : Nat) : ∀ i, (zms U cA cI N K i).heap.size = U.heap.size + 1 + i ∧ (zms U cA cI N K i).heap[U.heap.size]? = some (zmo cA N U.heap.size i) ∧
    (∀ x, x < U.heap.size → (zms U cA cI N K i).heap[x]? = U.heap[x]?) ∧ (∀ j, j < i → (zms U cA cI N K i).heap[U.heap.size + 1 + j]? = some (zmr cI K)) ∧
    (zms U cA cI N K i).vm = U.vm ∧ (zms U cA cI N K i).slotsUsed = U.slotsUsed + N + i * K := by
  intro i
  induction i with
  | zero =>
    refine ⟨State.heap_size_pushCell _ _, State.heap_pushCell_size _ _, fun x h => zmp_old _ h, fun j h => absurd h (Nat.not_lt_zero j), rfl, ?_⟩
    show U.slotsUsed + (arrV _ _ _).slots.size = _
    rw [arrV_size, Nat.zero_mul, Nat.add_zero]
  | succ i ih =>
    obtain ⟨a, b, o, r, v, u⟩ := ih
    have back : ∀ x, x ≠ U.heap.size → x < (zms U cA cI N K i).heap.size → (zms U cA cI N K (i + 1)).heap[x]? = (zms U cA cI N K i).heap[x]? := fun x h1 h2 => by
      show (((zms U cA cI N K i).pushCell (zmr cI K)).setCell U.heap.size _).heap[x]? = _
      exact (State.heap_setCell_other (Ne.symm h1)).trans (zmp_old _ h2)
    have hb : ((zms U cA cI N K i).pushCell (zmr cI K)).heap[U.heap.size]? = some (zmo cA N U.heap.size i) := by
      exact (zmp_old _ (show U.heap.size < (zms U cA cI N K i).heap.size by omega)).trans b
    refine ⟨?_, State.heap_setCell_self hb, fun x h => (back x (by omega) (by omega)).trans (o x h), fun j h => ?_, v, ?_⟩
    · show (((zms U cA cI N K i).pushCell (zmr cI K)).heap.setIfInBounds _ _).size = _
      rw [Array.size_setIfInBounds, State.heap_size_pushCell _ _]
      omega
    · by_cases e : j < i
      · exact (back _ (by omega) (by omega)).trans (r j e)
      · have e : j = i := by omega
        subst e
        show (((zms U cA cI N K j).pushCell (zmr cI K)).setCell U.heap.size _).heap[_]? = _
        refine (State.heap_setCell_other (show U.heap.size ≠ U.heap.size + 1 + j by omega)).trans ?_
        rw [← a]
        exact State.heap_pushCell_size _ _
    · show (zms U cA cI N K i).slotsUsed + (arrV _ _ _).slots.size = _
      rw [arrV_size, u, Nat.succ_mul]
      omega
section
variable {E : CtlPost} {e : Env} {d : Bool} {acts : List Action} {U : State}
theorem zmn_arr {c comp : ClassId} {k : Class} {ty : FieldType} {n : Nat} {v : Value} {Q : Addr → Pre} (hk : U.vm.classes[c]? = some k) (hkind : k.kind = .array comp ty)
    (h1 : n ≤ e.platform.arrayLengthLimit) (h2 : n * componentBytes ty ≤ e.platform.maxHeapBytes) (hv : fits ty v = true) (hd : v.isDefault = true)
    (hc : U.heap.size < e.platform.maxCells) (hs : U.slotsUsed + n ≤ e.platform.maxSlots) (hq : Q U.heap.size d acts (U.pushCell (arrV c n (fun _ => v)))) :
    wp (Jvm.newArray c n v) Q E e d acts U := by
  have hact : allocActs (Array.replicate n v) U.heap.size acts = acts := by
    unfold allocActs
    exact if_pos (by rw [Array.all_replicate]; split <;> simp [hd])
  rw [← arrV_new] at hq
  simp only [Jvm.newArray, Jvm.arrayFits, wp_bind', W.ask, W.ite, wp_pure', W.theClass, hk, hkind, W.alloc, W.stop, Option.some.injEq, exists_eq_left', Array.size_replicate, hact]
  rw [if_neg (by omega), if_neg (by omega), if_neg (by omega)]
  refine ⟨hc, hs, fun i w hw => ?_, hq⟩
  rw [Array.getElem?_replicate] at hw
  split at hw
  · cases hw
    simp [State.fitsSlot, State.slotType?, hk, hkind, hv]
  · cases hw
theorem zmn_row {cI cc : ClassId} {kI : Class} {k : Int32} {K : Nat} {Q : Addr → Pre} (hkI : U.vm.classes[cI]? = some kI) (hI : kI.kind = .array cc .int) (hk : ¬ k < 0) (eK : k.toNatClampNeg = K)
    (h1 : K ≤ e.platform.arrayLengthLimit) (h2 : K * 4 ≤ e.platform.maxHeapBytes) (hc : U.heap.size < e.platform.maxCells) (hs : U.slotsUsed + K ≤ e.platform.maxSlots)
    (hq : Q U.heap.size d acts (U.pushCell (zmr cI K))) : wp (multianewarray.make cI [k]) Q E e d acts U := by
  rw [multianewarray.make]
  simp only [wp_bind', W.ite, hk, if_false, wp_pure', W.theClass, hkI, hI, Option.some.injEq, exists_eq_left', eK]
  exact zmn_arr hkI hI h1 h2 rfl rfl hc hs hq
theorem zmn_make {cA cI cc : ClassId} {kA kI : Class} {n k : Int32} {N K : Nat} {Q : Addr → Pre} (hkA : U.vm.classes[cA]? = some kA) (hA : kA.kind = .array cI (.array .int)) (hkI : U.vm.classes[cI]? = some kI) (hI : kI.kind = .array cc .int)
    (hn : ¬ n < 0) (hk : ¬ k < 0) (eN : n.toNatClampNeg = N) (eK : k.toNatClampNeg = K) (h1 : N ≤ e.platform.arrayLengthLimit) (h2 : N * 4 ≤ e.platform.maxHeapBytes) (h3 : K ≤ e.platform.arrayLengthLimit) (h4 : K * 4 ≤ e.platform.maxHeapBytes)
    (hc : U.heap.size + 1 + N ≤ e.platform.maxCells) (hs : U.slotsUsed + N + N * K ≤ e.platform.maxSlots) (hq : ∀ d' acts', Q U.heap.size d' acts' (zms U cA cI N K N)) :
    wp (multianewarray.make cA [n, k]) Q E e d acts U := by
  have hf : List.find? (fun x : Int32 => decide (x < 0)) [k] = none := by simp [hk]
  rw [multianewarray.make]
  simp only [wp_bind', W.ite, hn, if_false, wp_pure', W.theClass, hkA, hA, Option.some.injEq, exists_eq_left', eN]
  refine zmn_arr hkA hA h1 h2 rfl rfl (by omega) (by omega) ?_
  simp only [hf]
  rw [ite_self, wp_bind', Std.Legacy.Range.forIn_eq_forIn_range', show ([:N] : Std.Legacy.Range).size = N by simp [Std.Legacy.Range.size]]
  have e0 : arrV cA N (fun _ => Value.null) = zmo cA N U.heap.size 0 := congrArg (arrV cA N) (funext fun j => (if_neg (Nat.not_lt_zero j)).symm)
  rw [e0]
  refine wp_forIn_inv (fun todo V => ∃ i, todo = List.range' i (N - i) ∧ i ≤ N ∧ V = zms U cA cI N K i) _ _ ⟨0, rfl, Nat.zero_le N, rfl⟩ (fun x todo V d1 acts1 Q1 hI1 go => ?_) (fun V d1 acts1 hI1 => ?_)
  · obtain ⟨i, hl, hi, rfl⟩ := hI1
    have hlt : i < N := by
      refine Nat.lt_of_le_of_ne hi fun h => ?_
      rw [h, Nat.sub_self] at hl
      cases hl
    obtain ⟨q, hq9⟩ : ∃ q, N - i = q + 1 := ⟨N - i - 1, by omega⟩
    rw [hq9, List.range'_succ] at hl
    obtain ⟨rfl, rfl⟩ := List.cons.inj hl
    obtain ⟨a, b, -, -, v, u⟩ := zms_at U cA cI N K x
    have hm : (x + 1) * K ≤ N * K := Nat.mul_le_mul_right K hlt
    rw [Nat.succ_mul] at hm
    simp only [wp_bind']
    refine zmn_row (by rw [v]; exact hkI) hI hk eK h3 h4 (by omega) (by omega) ?_
    simp only [wp_bind', W.writeLoc, wp_pure']
    refine ⟨zmo cA N U.heap.size x, (zmp_old _ (show U.heap.size < (zms U cA cI N K x).heap.size by omega)).trans b, (fun h => by cases h), (by show x < (arrV _ _ _).slots.size; rw [arrV_size]; exact hlt), ?_, go _ _ _ ⟨x + 1, by rw [show N - (x + 1) = q by omega], hlt, ?_⟩⟩
    · show State.fitsSlot ((zms U cA cI N K x).pushCell (zmr cI K)) cA .none x _ = true
      have hk9 : (zms U cA cI N K x).vm.classes[cA]? = some kA := by
        rw [v]
        exact hkA
      simp [State.fitsSlot, State.slotType?, hk9, hA]
      rfl
    · rw [a, zmo_set]
      rfl
  · obtain ⟨i, hl, hi, rfl⟩ := hI1
    have hiN : i = N := by
      refine Nat.le_antisymm hi (Nat.le_of_not_lt fun h => ?_)
      obtain ⟨q, hq9⟩ : ∃ q, N - i = q + 1 := ⟨N - i - 1, by omega⟩
      rw [hq9, List.range'_succ] at hl
      cases hl
    subst hiN
    simp only [wp_pure']
    exact hq _ _
end
section
variable {p : Program} {l : Launch} {e : Env} {R : Room} {s : State} {m : MethodId} {args : Array Value} {below : List Frame} {meth : Method} {c : Code} {T : State} {locs : List Loc} {cells slots : Nat}
theorem zms_stand (X : Stand p l e R s m args below meth c T locs cells slots) (cA cI : ClassId) (N K : Nat) : ∀ i, Stand p l e R s m args below meth c (zms T cA cI N K i) locs (cells + 1 + i) (slots + N + i * K) := by
  intro i
  induction i with
  | zero =>
    have h := X.pushed (zmo cA N T.heap.size 0)
    rw [show (zmo cA N T.heap.size 0).slots.size = N from arrV_size ..] at h
    rw [Nat.zero_mul]
    exact h
  | succ i ih =>
    obtain ⟨a, b, -⟩ := zms_at T cA cI N K i
    have h := (ih.pushed (zmr cI K)).stored (a := T.heap.size) (cell := zmo cA N T.heap.size i) ((zmp_old _ (show T.heap.size < (zms T cA cI N K i).heap.size by omega)).trans b) i (.ref (T.heap.size + 1 + i))
    rw [zmo_set, show (zmr cI K).slots.size = K from arrV_size ..] at h
    have h := h.dropFresh (fun x hx => by rw [List.mem_singleton.mp hx]; exact X.heapGrown)
    rw [show slots + N + (i + 1) * K = slots + N + i * K + K by rw [Nat.succ_mul]; omega]
    exact h
/-- multianewarray of int[N][K] in the walk's shape -/
theorem zmn_step (X : Stand p l e R s m args below meth c T locs cells slots) (hexec : p.tables.exec = Jvm.exec) {own : String} {index : Nat} (hown : s.vm.findClass own = some m.cls) (hcl : (Cond.classLink own index "[[I").before args s = true)
    {cA cI cc : ClassId} {kA kI : Class} (fA : s.vm.findClass "[[I" = some cA) (hkA : s.vm.classes[cA]? = some kA) (hA : kA.kind = .array cI (.array .int)) (hkI : s.vm.classes[cI]? = some kI) (hI : kI.kind = .array cc .int)
    {g : JFrame} (hg : g.method = m) (hdg : decode c.code g.pc = .ok (.multianewarray index 2, 4)) {n k : Int32} {rest : List Value} (hst : g.stack = .int k :: .int n :: rest) (hn : ¬ n < 0) (hk : ¬ k < 0) {N K : Nat} (eN : n.toNatClampNeg = N) (eK : k.toNatClampNeg = K)
    (hN : N ≤ 65536) (hK : K ≤ 65536) (hcells : cells + (1 + N) ≤ R.cells) (hslots : slots + (N + N * K) ≤ R.slots) :
    ∃ vm₁ : Vm, s.WarmedH vm₁ ∧ Stand p l e R s m args below meth c (zms (T.setVm vm₁) cA cI N K N) locs (cells + 1 + N) (slots + N + N * K) ∧
      ∀ target, Steps p.tables e below ((zms (T.setVm vm₁) cA cI N K N).setTop { g with pc := g.pc + 4, stack := .ref T.heap.size :: rest }) target → Steps p.tables e below (T.setTop g) target := by
  subst hg
  obtain ⟨c0, f0, hL⟩ := Cond.classLink_spec hown hcl e.platform (by rw [X.admits.platform])
  obtain rfl : cA = c0 := Option.some.inj (fA.symm.trans f0)
  obtain ⟨hG, hW, -⟩ := State.classEntry (e := e) X.warmed hL
  generalize T.vm.noted g.method.cls index (.cls cA) = vm₁ at hG hW
  have al := hW.alike
  obtain ⟨kA', hkA', eA⟩ := al.2.2 _ _ hkA
  obtain ⟨kI', hkI', eI⟩ := al.2.2 _ _ hkI
  have X9 := zms_stand (X.noted hW) cA cI N K N
  refine ⟨vm₁, hW, X9, fun target go => ?_⟩
  have hlen := Launch.admits_arrayLengthLimit X.admits
  have hmax := Launch.admits_maxHeapBytes X.admits
  obtain ⟨r1, r2⟩ := X.roomAbove hcells hslots
  jvm_step X.here [hexec, hdg]
  simp only [multianewarray.sem, wp_bind', W.resolveClassAt_links (State.method?_setTop g X.here.top) hG]
  rw [W.popN, if_neg (by decide)]
  refine ⟨g, State.topJava?_setTop' (s := T.setVm vm₁) g X.here.top, [.int n, .int k], rest, rfl, hst, ?_⟩
  simp only [List.mapM_cons, List.mapM_nil, wp_bind', wp_pure']
  refine zmn_make (N := N) (K := K) hkA' (by rw [eA]; exact hA) hkI' (by rw [eI]; exact hI) hn hk eN eK (by omega) (by omega) (by omega) (by omega) (by show T.heap.size + 1 + N ≤ _; omega) (by show T.slotsUsed + N + N * K ≤ _; omega) (fun d1 acts1 => ?_)
  have eT : ((T.setTop g).setVm vm₁).setTop { g with stack := rest } = (T.setVm vm₁).setTop { g with stack := rest } := State.setTop_setTop (T.setVm vm₁) g _
  rw [eT, zms_top]
  simp only [wp_bind', W.mark, W.pushRef, State.topJava?_setTop' _ X9.here.top, Option.some.injEq, exists_eq_left', State.setTop_setTop, State.heap_setTop]
  intro acts2
  simp [jvm, X9.here.top]
  exact go
end
end ZMNA
