/-! ===== the machine's rows over whole numbers and the memory ===== -/
def zius (x y : Int) : Int := ((zI x).toUInt32 >>> ((zI y).toUInt32 &&& Int32.toUInt32 31)).toInt32.toInt
theorem zn_ius (x y : Int) : zn (zius x y) := zn_of _
/-- a static row of four numbers, which nobody changes -/
def zs1 (nm : String) (f : Nat → Int) (B : zB) (U : State) : Prop := ∃ t : Nat, va_Z "IslandOffice" nm "[I" (.ref t) B.2.2.2 U U.heap ∧ va_T .int t 4 (fun j => .int (zI (f j))) B.2.2.2 U U.heap
def zf1 (j : Nat) : Int := if j = 0 then 60 else if j = 1 then 50 else if j = 2 then 10 else 12
def zf2 (j : Nat) : Int := if j = 3 then 1 else 0
def zf3 (j : Nat) : Int := if j = 0 then 500 else if j = 1 then 9999 else 99
section ZR
variable {p : Program} {l : Launch} {e : Env} {R : Room} {s : State} {m : MethodId} {args : Array Value} {below : List Frame} {meth : Method} {c : Code} {H : Heap} {locs : List Loc} {cells slots : Nat} {Q : State → Prop}
variable {cc : ByteArray} {nL : Nat} {own : String} {pc : Nat} {ls : Array Slot} {rest : List Value} {B : zB} {S : Sg} {H0 : Heap}
theorem zr_iconst (C : CallFix p m c cc nL s args zT own) {n : Int} (hdg : decode cc pc = .ok (.iconst n, 1)) (kk : W p l e R s m args below meth c H locs cells slots Q (F0 m (pc + 1) ls (.int (zI n) :: rest))) : W p l e R s m args below meth c H locs cells slots Q (F0 m (pc) ls (rest)) := lv_iconst C.1 C.2.1 hdg rfl kk
theorem zr_bipush (C : CallFix p m c cc nL s args zT own) {n : Int} (hdg : decode cc pc = .ok (.bipush n, 2)) (hv : (Int8.ofInt n).toInt32 = zI n) (kk : W p l e R s m args below meth c H locs cells slots Q (F0 m (pc + 2) ls (.int (zI n) :: rest))) : W p l e R s m args below meth c H locs cells slots Q (F0 m (pc) ls (rest)) := lv_bipush C.1 C.2.1 hdg hv kk
theorem zr_sipush (C : CallFix p m c cc nL s args zT own) {n : Int} (hdg : decode cc pc = .ok (.sipush n, 3)) (hv : (Int16.ofInt n).toInt32 = zI n) (kk : W p l e R s m args below meth c H locs cells slots Q (F0 m (pc + 3) ls (.int (zI n) :: rest))) : W p l e R s m args below meth c H locs cells slots Q (F0 m (pc) ls (rest)) := lv_sipush C.1 C.2.1 hdg hv kk
theorem zr_ldc (C : CallFix p m c cc nL s args zT own) {n : Int} {index : Nat} {v : Int32} (hk : Cond.constant own index v ∈ zT) (hv : v = zI n) (hdg : decode cc pc = .ok (.ldc index, 2)) (kk : W p l e R s m args below meth c H locs cells slots Q (F0 m (pc + 2) ls (.int (zI n) :: rest))) : W p l e R s m args below meth c H locs cells slots Q (F0 m (pc) ls (rest)) := by subst hv; exact lv_ldc C.1 C.2.1 C.2.2.2.1 (C.2.2.2.2 _ hk) hdg kk
theorem zr_ldcw (C : CallFix p m c cc nL s args zT own) {n : Int} {index : Nat} {v : Int32} (hk : Cond.constant own index v ∈ zT) (hv : v = zI n) (hdg : decode cc pc = .ok (.ldc_w index, 3)) (kk : W p l e R s m args below meth c H locs cells slots Q (F0 m (pc + 3) ls (.int (zI n) :: rest))) : W p l e R s m args below meth c H locs cells slots Q (F0 m (pc) ls (rest)) := by subst hv; exact lv_ldcw C.1 C.2.1 C.2.2.2.1 (C.2.2.2.2 _ hk) hdg kk
theorem zr_ldc2 (C : CallFix p m c cc nL s args zT own) {n : Int} {index : Nat} {v : Int64} (hk : Cond.constantLong own index v ∈ zT) (hv : v = zL n) (hdg : decode cc pc = .ok (.ldc2_w index, 3)) (kk : W p l e R s m args below meth c H locs cells slots Q (F0 m (pc + 3) ls (.long (zL n) :: rest))) : W p l e R s m args below meth c H locs cells slots Q (F0 m (pc) ls (rest)) := by subst hv; exact lv_ldc2 C.1 C.2.1 C.2.2.2.1 (C.2.2.2.2 _ hk) hdg kk
theorem zr_lconst (C : CallFix p m c cc nL s args zT own) {n : Fin 2} {k : Int} (hdg : decode cc pc = .ok (.lconst n, 1)) (hv : Int64.ofNat (n : Nat) = zL k) (kk : W p l e R s m args below meth c H locs cells slots Q (F0 m (pc + 1) ls (.long (zL k) :: rest))) : W p l e R s m args below meth c H locs cells slots Q (F0 m (pc) ls (rest)) := lv_lconst C.1 C.2.1 hdg hv kk
theorem zr_iadd (C : CallFix p m c cc nL s args zT own) {x y : Int} (hdg : decode cc pc = .ok (.iadd, 1)) (kk : W p l e R s m args below meth c H locs cells slots Q (F0 m (pc + 1) ls (.int (zI (zw (x + y))) :: rest))) : W p l e R s m args below meth c H locs cells slots Q (F0 m (pc) ls (.int (zI y) :: .int (zI x) :: rest)) := lv_iadd C.1 C.2.1 hdg (by rw [zI_add]; exact kk)
theorem zr_isub (C : CallFix p m c cc nL s args zT own) {x y : Int} (hdg : decode cc pc = .ok (.isub, 1)) (kk : W p l e R s m args below meth c H locs cells slots Q (F0 m (pc + 1) ls (.int (zI (zw (x - y))) :: rest))) : W p l e R s m args below meth c H locs cells slots Q (F0 m (pc) ls (.int (zI y) :: .int (zI x) :: rest)) := lv_isub C.1 C.2.1 hdg (by rw [zI_sub]; exact kk)
theorem zr_imul (C : CallFix p m c cc nL s args zT own) {x y : Int} (hdg : decode cc pc = .ok (.imul, 1)) (kk : W p l e R s m args below meth c H locs cells slots Q (F0 m (pc + 1) ls (.int (zI (zw (x * y))) :: rest))) : W p l e R s m args below meth c H locs cells slots Q (F0 m (pc) ls (.int (zI y) :: .int (zI x) :: rest)) := lv_imul C.1 C.2.1 hdg (by rw [zI_mul]; exact kk)
theorem zr_ladd (C : CallFix p m c cc nL s args zT own) {x y : Int} (hdg : decode cc pc = .ok (.ladd, 1)) (kk : W p l e R s m args below meth c H locs cells slots Q (F0 m (pc + 1) ls (.long (zL (zv (x + y))) :: rest))) : W p l e R s m args below meth c H locs cells slots Q (F0 m (pc) ls (.long (zL y) :: .long (zL x) :: rest)) := lv_ladd C.1 C.2.1 hdg (by rw [zL_add]; exact kk)
theorem zr_lsub (C : CallFix p m c cc nL s args zT own) {x y : Int} (hdg : decode cc pc = .ok (.lsub, 1)) (kk : W p l e R s m args below meth c H locs cells slots Q (F0 m (pc + 1) ls (.long (zL (zv (x - y))) :: rest))) : W p l e R s m args below meth c H locs cells slots Q (F0 m (pc) ls (.long (zL y) :: .long (zL x) :: rest)) := lv_lsub C.1 C.2.1 hdg (by rw [zL_sub]; exact kk)
theorem zr_lmul (C : CallFix p m c cc nL s args zT own) {x y : Int} (hdg : decode cc pc = .ok (.lmul, 1)) (kk : W p l e R s m args below meth c H locs cells slots Q (F0 m (pc + 1) ls (.long (zL (zv (x * y))) :: rest))) : W p l e R s m args below meth c H locs cells slots Q (F0 m (pc) ls (.long (zL y) :: .long (zL x) :: rest)) := lv_lmul C.1 C.2.1 hdg (by rw [zL_mul]; exact kk)
theorem zr_ineg (C : CallFix p m c cc nL s args zT own) {x : Int} (hdg : decode cc pc = .ok (.ineg, 1)) (kk : W p l e R s m args below meth c H locs cells slots Q (F0 m (pc + 1) ls (.int (zI (zw (-x))) :: rest))) : W p l e R s m args below meth c H locs cells slots Q (F0 m (pc) ls (.int (zI x) :: rest)) := lv_ineg C.1 C.2.1 hdg (by rw [zI_neg]; exact kk)
theorem zr_iand (C : CallFix p m c cc nL s args zT own) {x y : Int} (hdg : decode cc pc = .ok (.iand, 1)) (kk : W p l e R s m args below meth c H locs cells slots Q (F0 m (pc + 1) ls (.int (zI (zand x y)) :: rest))) : W p l e R s m args below meth c H locs cells slots Q (F0 m (pc) ls (.int (zI y) :: .int (zI x) :: rest)) := lv_iand C.1 C.2.1 hdg (by have h := kk; unfold zand at h; rw [zI_of] at h; exact h)
theorem zr_ior (C : CallFix p m c cc nL s args zT own) {x y : Int} (hdg : decode cc pc = .ok (.ior, 1)) (kk : W p l e R s m args below meth c H locs cells slots Q (F0 m (pc + 1) ls (.int (zI (zor x y)) :: rest))) : W p l e R s m args below meth c H locs cells slots Q (F0 m (pc) ls (.int (zI y) :: .int (zI x) :: rest)) := lv_ior C.1 C.2.1 hdg (by have h := kk; unfold zor at h; rw [zI_of] at h; exact h)
theorem zr_ixor (C : CallFix p m c cc nL s args zT own) {x y : Int} (hdg : decode cc pc = .ok (.ixor, 1)) (kk : W p l e R s m args below meth c H locs cells slots Q (F0 m (pc + 1) ls (.int (zI (zxor x y)) :: rest))) : W p l e R s m args below meth c H locs cells slots Q (F0 m (pc) ls (.int (zI y) :: .int (zI x) :: rest)) := lv_ixor C.1 C.2.1 hdg (by have h := kk; unfold zxor at h; rw [zI_of] at h; exact h)
theorem zr_ishl (C : CallFix p m c cc nL s args zT own) {x y : Int} (hdg : decode cc pc = .ok (.ishl, 1)) (kk : W p l e R s m args below meth c H locs cells slots Q (F0 m (pc + 1) ls (.int (zI (zshl x y)) :: rest))) : W p l e R s m args below meth c H locs cells slots Q (F0 m (pc) ls (.int (zI y) :: .int (zI x) :: rest)) := lv_ishl C.1 C.2.1 hdg (by have h := kk; unfold zshl at h; rw [zI_of] at h; exact h)
theorem zr_ishr (C : CallFix p m c cc nL s args zT own) {x y : Int} (hdg : decode cc pc = .ok (.ishr, 1)) (kk : W p l e R s m args below meth c H locs cells slots Q (F0 m (pc + 1) ls (.int (zI (zshr x y)) :: rest))) : W p l e R s m args below meth c H locs cells slots Q (F0 m (pc) ls (.int (zI y) :: .int (zI x) :: rest)) := lv_ishr C.1 C.2.1 hdg (by have h := kk; unfold zshr at h; rw [zI_of] at h; exact h)
theorem zr_land (C : CallFix p m c cc nL s args zT own) {x y : Int} (hdg : decode cc pc = .ok (.land, 1)) (kk : W p l e R s m args below meth c H locs cells slots Q (F0 m (pc + 1) ls (.long (zL (zlnd x y)) :: rest))) : W p l e R s m args below meth c H locs cells slots Q (F0 m (pc) ls (.long (zL y) :: .long (zL x) :: rest)) := lv_land C.1 C.2.1 hdg (by have h := kk; unfold zlnd at h; rw [zL_of] at h; exact h)
theorem zr_lor (C : CallFix p m c cc nL s args zT own) {x y : Int} (hdg : decode cc pc = .ok (.lor, 1)) (kk : W p l e R s m args below meth c H locs cells slots Q (F0 m (pc + 1) ls (.long (zL (zlor x y)) :: rest))) : W p l e R s m args below meth c H locs cells slots Q (F0 m (pc) ls (.long (zL y) :: .long (zL x) :: rest)) := lv_lor C.1 C.2.1 hdg (by have h := kk; unfold zlor at h; rw [zL_of] at h; exact h)
theorem zr_lxor (C : CallFix p m c cc nL s args zT own) {x y : Int} (hdg : decode cc pc = .ok (.lxor, 1)) (kk : W p l e R s m args below meth c H locs cells slots Q (F0 m (pc + 1) ls (.long (zL (zlxr x y)) :: rest))) : W p l e R s m args below meth c H locs cells slots Q (F0 m (pc) ls (.long (zL y) :: .long (zL x) :: rest)) := lv_lxor C.1 C.2.1 hdg (by have h := kk; unfold zlxr at h; rw [zL_of] at h; exact h)
theorem zr_lshl (C : CallFix p m c cc nL s args zT own) {x y : Int} (hdg : decode cc pc = .ok (.lshl, 1)) (kk : W p l e R s m args below meth c H locs cells slots Q (F0 m (pc + 1) ls (.long (zL (zlsl x y)) :: rest))) : W p l e R s m args below meth c H locs cells slots Q (F0 m (pc) ls (.int (zI y) :: .long (zL x) :: rest)) := lv_lshl C.1 C.2.1 hdg rfl (by have h := kk; unfold zlsl at h; rw [zL_of] at h; exact h)
theorem zr_lshr (C : CallFix p m c cc nL s args zT own) {x y : Int} (hdg : decode cc pc = .ok (.lshr, 1)) (kk : W p l e R s m args below meth c H locs cells slots Q (F0 m (pc + 1) ls (.long (zL (zlsr x y)) :: rest))) : W p l e R s m args below meth c H locs cells slots Q (F0 m (pc) ls (.int (zI y) :: .long (zL x) :: rest)) := lv_lshr C.1 C.2.1 hdg rfl (by have h := kk; unfold zlsr at h; rw [zL_of] at h; exact h)
theorem zr_lushr (C : CallFix p m c cc nL s args zT own) {x y : Int} (hdg : decode cc pc = .ok (.lushr, 1)) (kk : W p l e R s m args below meth c H locs cells slots Q (F0 m (pc + 1) ls (.long (zL (zlus x y)) :: rest))) : W p l e R s m args below meth c H locs cells slots Q (F0 m (pc) ls (.int (zI y) :: .long (zL x) :: rest)) := lv_lushr C.1 C.2.1 hdg rfl (by have h := kk; unfold zlus at h; rw [zL_of] at h; exact h)
theorem zr_idiv (C : CallFix p m c cc nL s args zT own) {x y : Int} (hx : zn x) (hy : zn y) (hne : ¬ y = 0) (hdg : decode cc pc = .ok (.idiv, 1)) (kk : W p l e R s m args below meth c H locs cells slots Q (F0 m (pc + 1) ls (.int (zI (zdiv x y)) :: rest))) : W p l e R s m args below meth c H locs cells slots Q (F0 m (pc) ls (.int (zI y) :: .int (zI x) :: rest)) := lv_idiv C.1 C.2.1 hdg (fun h => hne ((zI_inj hy zn_0).mp h)) (by rw [zI_div hx hy]; exact kk)
theorem zr_irem (C : CallFix p m c cc nL s args zT own) {x y : Int} (hx : zn x) (hy : zn y) (hne : ¬ y = 0) (hdg : decode cc pc = .ok (.irem, 1)) (kk : W p l e R s m args below meth c H locs cells slots Q (F0 m (pc + 1) ls (.int (zI (zrem x y)) :: rest))) : W p l e R s m args below meth c H locs cells slots Q (F0 m (pc) ls (.int (zI y) :: .int (zI x) :: rest)) := lv_irem C.1 C.2.1 hdg (fun h => hne ((zI_inj hy zn_0).mp h)) (by rw [zI_div hx hy, zI_mul, zI_sub]; unfold zrem zdiv at kk; rw [zI_w] at kk ⊢; have h9 : zI (x - zw (zw (x.tdiv y) * y)) = zI (x - zw (x.tdiv y) * y) := by { rw [← zI_w, ← zI_sub, zI_w, zI_sub, zI_w] }; rw [h9]; exact kk)
theorem zr_ldiv (C : CallFix p m c cc nL s args zT own) {x y : Int} (hx : zm x) (hy : zm y) (hne : ¬ y = 0) (hdg : decode cc pc = .ok (.ldiv, 1)) (kk : W p l e R s m args below meth c H locs cells slots Q (F0 m (pc + 1) ls (.long (zL (zldv x y)) :: rest))) : W p l e R s m args below meth c H locs cells slots Q (F0 m (pc) ls (.long (zL y) :: .long (zL x) :: rest)) := lv_ldiv C.1 C.2.1 hdg (fun h => hne ((zL_inj hy (zm_n zn_0)).mp h)) (by rw [zL_div hx hy]; exact kk)
theorem zr_i2l (C : CallFix p m c cc nL s args zT own) {x : Int} (hx : zn x) (hdg : decode cc pc = .ok (.i2l, 1)) (kk : W p l e R s m args below meth c H locs cells slots Q (F0 m (pc + 1) ls (.long (zL x) :: rest))) : W p l e R s m args below meth c H locs cells slots Q (F0 m (pc) ls (.int (zI x) :: rest)) := lv_i2l C.1 C.2.1 hdg (zI_long hx) kk
theorem zr_l2i (C : CallFix p m c cc nL s args zT own) {x : Int} (hx : zm x) (hdg : decode cc pc = .ok (.l2i, 1)) (kk : W p l e R s m args below meth c H locs cells slots Q (F0 m (pc + 1) ls (.int (zI (zw x)) :: rest))) : W p l e R s m args below meth c H locs cells slots Q (F0 m (pc) ls (.long (zL x) :: rest)) := lv_l2i C.1 C.2.1 hdg (zL_int hx) kk
theorem zr_i2b (C : CallFix p m c cc nL s args zT own) {x : Int} (hdg : decode cc pc = .ok (.i2b, 1)) (kk : W p l e R s m args below meth c H locs cells slots Q (F0 m (pc + 1) ls (.int (zI (zi2b x)) :: rest))) : W p l e R s m args below meth c H locs cells slots Q (F0 m (pc) ls (.int (zI x) :: rest)) := lv_i2b C.1 C.2.1 hdg (zI_of _).symm kk
theorem zr_i2s (C : CallFix p m c cc nL s args zT own) {x : Int} (hdg : decode cc pc = .ok (.i2s, 1)) (kk : W p l e R s m args below meth c H locs cells slots Q (F0 m (pc + 1) ls (.int (zI (zi2s x)) :: rest))) : W p l e R s m args below meth c H locs cells slots Q (F0 m (pc) ls (.int (zI x) :: rest)) := lv_i2s C.1 C.2.1 hdg (zI_of _).symm kk
theorem zr_lcmp (C : CallFix p m c cc nL s args zT own) {x y : Int} (hx : zm x) (hy : zm y) (hdg : decode cc pc = .ok (.lcmp, 1)) (kk : W p l e R s m args below meth c H locs cells slots Q (F0 m (pc + 1) ls (.int (zI (zcmp x y)) :: rest))) : W p l e R s m args below meth c H locs cells slots Q (F0 m (pc) ls (.long (zL y) :: .long (zL x) :: rest)) := by
  refine W.lcmp C.1 C.2.1 hdg ?_
  have h9 : lg_cmp (zL x) (zL y) = zI (zcmp x y) := by
    unfold lg_cmp zcmp
    simp only [zL_lt hx hy, zL_inj hx hy, zL_lt hy hx]
    by_cases h1 : x < y
    · simp [h1, zI, show ¬ y < x by omega, show ¬ x = y by omega]
    · by_cases h2 : x = y
      · simp [h2, zI]
      · simp [h1, h2, zI, show y < x by omega]
  rw [h9]
  exact kk
theorem zr_icmp_eq (C : CallFix p m c cc nL s args zT own) {x y : Int} (hx : zn x) (hy : zn y) {off : Int} {tgt : Nat} (hdg : decode cc pc = .ok (.if_icmp .eq off, 3)) (ht : (pc : Int) + off = (tgt : Int)) (kt : x = y → W p l e R s m args below meth c H locs cells slots Q (F0 m (tgt) ls (rest))) (kf : ¬ (x = y) → W p l e R s m args below meth c H locs cells slots Q (F0 m (pc + 3) ls (rest))) : W p l e R s m args below meth c H locs cells slots Q (F0 m (pc) ls (.int (zI y) :: .int (zI x) :: rest)) := lv_icmp_eq C.1 C.2.1 hdg ht (fun h => kt ((zI_inj hx hy).mp h)) (fun h => kf (fun q => h ((zI_inj hx hy).mpr q)))
theorem zr_if_eq (C : CallFix p m c cc nL s args zT own) {x : Int} (hx : zn x) {off : Int} {tgt : Nat} (hdg : decode cc pc = .ok (.ifCond .eq off, 3)) (ht : (pc : Int) + off = (tgt : Int)) (kt : x = 0 → W p l e R s m args below meth c H locs cells slots Q (F0 m (tgt) ls (rest))) (kf : ¬ (x = 0) → W p l e R s m args below meth c H locs cells slots Q (F0 m (pc + 3) ls (rest))) : W p l e R s m args below meth c H locs cells slots Q (F0 m (pc) ls (.int (zI x) :: rest)) := lv_if_eq C.1 C.2.1 hdg ht (fun h => kt ((zI_inj hx zn_0).mp h)) (fun h => kf (fun q => h ((zI_inj hx zn_0).mpr q)))
theorem zr_icmp_ne (C : CallFix p m c cc nL s args zT own) {x y : Int} (hx : zn x) (hy : zn y) {off : Int} {tgt : Nat} (hdg : decode cc pc = .ok (.if_icmp .ne off, 3)) (ht : (pc : Int) + off = (tgt : Int)) (kt : ¬ x = y → W p l e R s m args below meth c H locs cells slots Q (F0 m (tgt) ls (rest))) (kf : x = y → W p l e R s m args below meth c H locs cells slots Q (F0 m (pc + 3) ls (rest))) : W p l e R s m args below meth c H locs cells slots Q (F0 m (pc) ls (.int (zI y) :: .int (zI x) :: rest)) := lv_icmp_ne C.1 C.2.1 hdg ht (fun h => kt (fun q => h ((zI_inj hx hy).mpr q))) (fun h => kf ((zI_inj hx hy).mp h))
theorem zr_if_ne (C : CallFix p m c cc nL s args zT own) {x : Int} (hx : zn x) {off : Int} {tgt : Nat} (hdg : decode cc pc = .ok (.ifCond .ne off, 3)) (ht : (pc : Int) + off = (tgt : Int)) (kt : ¬ x = 0 → W p l e R s m args below meth c H locs cells slots Q (F0 m (tgt) ls (rest))) (kf : x = 0 → W p l e R s m args below meth c H locs cells slots Q (F0 m (pc + 3) ls (rest))) : W p l e R s m args below meth c H locs cells slots Q (F0 m (pc) ls (.int (zI x) :: rest)) := lv_if_ne C.1 C.2.1 hdg ht (fun h => kt (fun q => h ((zI_inj hx zn_0).mpr q))) (fun h => kf ((zI_inj hx zn_0).mp h))
theorem zr_icmp_lt (C : CallFix p m c cc nL s args zT own) {x y : Int} (hx : zn x) (hy : zn y) {off : Int} {tgt : Nat} (hdg : decode cc pc = .ok (.if_icmp .lt off, 3)) (ht : (pc : Int) + off = (tgt : Int)) (kt : x < y → W p l e R s m args below meth c H locs cells slots Q (F0 m (tgt) ls (rest))) (kf : ¬ (x < y) → W p l e R s m args below meth c H locs cells slots Q (F0 m (pc + 3) ls (rest))) : W p l e R s m args below meth c H locs cells slots Q (F0 m (pc) ls (.int (zI y) :: .int (zI x) :: rest)) := lv_icmp_lt C.1 C.2.1 hdg ht (fun h => kt ((zI_lt hx hy).mp h)) (fun h => kf (fun q => h ((zI_lt hx hy).mpr q)))
theorem zr_if_lt (C : CallFix p m c cc nL s args zT own) {x : Int} (hx : zn x) {off : Int} {tgt : Nat} (hdg : decode cc pc = .ok (.ifCond .lt off, 3)) (ht : (pc : Int) + off = (tgt : Int)) (kt : x < 0 → W p l e R s m args below meth c H locs cells slots Q (F0 m (tgt) ls (rest))) (kf : ¬ (x < 0) → W p l e R s m args below meth c H locs cells slots Q (F0 m (pc + 3) ls (rest))) : W p l e R s m args below meth c H locs cells slots Q (F0 m (pc) ls (.int (zI x) :: rest)) := lv_if_lt C.1 C.2.1 hdg ht (fun h => kt ((zI_lt hx zn_0).mp h)) (fun h => kf (fun q => h ((zI_lt hx zn_0).mpr q)))
theorem zr_icmp_ge (C : CallFix p m c cc nL s args zT own) {x y : Int} (hx : zn x) (hy : zn y) {off : Int} {tgt : Nat} (hdg : decode cc pc = .ok (.if_icmp .ge off, 3)) (ht : (pc : Int) + off = (tgt : Int)) (kt : y ≤ x → W p l e R s m args below meth c H locs cells slots Q (F0 m (tgt) ls (rest))) (kf : ¬ (y ≤ x) → W p l e R s m args below meth c H locs cells slots Q (F0 m (pc + 3) ls (rest))) : W p l e R s m args below meth c H locs cells slots Q (F0 m (pc) ls (.int (zI y) :: .int (zI x) :: rest)) := lv_icmp_ge C.1 C.2.1 hdg ht (fun h => kt ((zI_le hy hx).mp h)) (fun h => kf (fun q => h ((zI_le hy hx).mpr q)))
theorem zr_if_ge (C : CallFix p m c cc nL s args zT own) {x : Int} (hx : zn x) {off : Int} {tgt : Nat} (hdg : decode cc pc = .ok (.ifCond .ge off, 3)) (ht : (pc : Int) + off = (tgt : Int)) (kt : 0 ≤ x → W p l e R s m args below meth c H locs cells slots Q (F0 m (tgt) ls (rest))) (kf : ¬ (0 ≤ x) → W p l e R s m args below meth c H locs cells slots Q (F0 m (pc + 3) ls (rest))) : W p l e R s m args below meth c H locs cells slots Q (F0 m (pc) ls (.int (zI x) :: rest)) := lv_if_ge C.1 C.2.1 hdg ht (fun h => kt ((zI_le zn_0 hx).mp h)) (fun h => kf (fun q => h ((zI_le zn_0 hx).mpr q)))
theorem zr_icmp_gt (C : CallFix p m c cc nL s args zT own) {x y : Int} (hx : zn x) (hy : zn y) {off : Int} {tgt : Nat} (hdg : decode cc pc = .ok (.if_icmp .gt off, 3)) (ht : (pc : Int) + off = (tgt : Int)) (kt : y < x → W p l e R s m args below meth c H locs cells slots Q (F0 m (tgt) ls (rest))) (kf : ¬ (y < x) → W p l e R s m args below meth c H locs cells slots Q (F0 m (pc + 3) ls (rest))) : W p l e R s m args below meth c H locs cells slots Q (F0 m (pc) ls (.int (zI y) :: .int (zI x) :: rest)) := lv_icmp_gt C.1 C.2.1 hdg ht (fun h => kt ((zI_lt hy hx).mp h)) (fun h => kf (fun q => h ((zI_lt hy hx).mpr q)))
theorem zr_if_gt (C : CallFix p m c cc nL s args zT own) {x : Int} (hx : zn x) {off : Int} {tgt : Nat} (hdg : decode cc pc = .ok (.ifCond .gt off, 3)) (ht : (pc : Int) + off = (tgt : Int)) (kt : 0 < x → W p l e R s m args below meth c H locs cells slots Q (F0 m (tgt) ls (rest))) (kf : ¬ (0 < x) → W p l e R s m args below meth c H locs cells slots Q (F0 m (pc + 3) ls (rest))) : W p l e R s m args below meth c H locs cells slots Q (F0 m (pc) ls (.int (zI x) :: rest)) := lv_if_gt C.1 C.2.1 hdg ht (fun h => kt ((zI_lt zn_0 hx).mp h)) (fun h => kf (fun q => h ((zI_lt zn_0 hx).mpr q)))
theorem zr_icmp_le (C : CallFix p m c cc nL s args zT own) {x y : Int} (hx : zn x) (hy : zn y) {off : Int} {tgt : Nat} (hdg : decode cc pc = .ok (.if_icmp .le off, 3)) (ht : (pc : Int) + off = (tgt : Int)) (kt : x ≤ y → W p l e R s m args below meth c H locs cells slots Q (F0 m (tgt) ls (rest))) (kf : ¬ (x ≤ y) → W p l e R s m args below meth c H locs cells slots Q (F0 m (pc + 3) ls (rest))) : W p l e R s m args below meth c H locs cells slots Q (F0 m (pc) ls (.int (zI y) :: .int (zI x) :: rest)) := lv_icmp_le C.1 C.2.1 hdg ht (fun h => kt ((zI_le hx hy).mp h)) (fun h => kf (fun q => h ((zI_le hx hy).mpr q)))
theorem zr_if_le (C : CallFix p m c cc nL s args zT own) {x : Int} (hx : zn x) {off : Int} {tgt : Nat} (hdg : decode cc pc = .ok (.ifCond .le off, 3)) (ht : (pc : Int) + off = (tgt : Int)) (kt : x ≤ 0 → W p l e R s m args below meth c H locs cells slots Q (F0 m (tgt) ls (rest))) (kf : ¬ (x ≤ 0) → W p l e R s m args below meth c H locs cells slots Q (F0 m (pc + 3) ls (rest))) : W p l e R s m args below meth c H locs cells slots Q (F0 m (pc) ls (.int (zI x) :: rest)) := lv_if_le C.1 C.2.1 hdg ht (fun h => kt ((zI_le hx zn_0).mp h)) (fun h => kf (fun q => h ((zI_le hx zn_0).mpr q)))
theorem zr_tab (C : CallFix p m c cc nL s args zT own) {x lo hi dflt : Int} {offs : Array Int} {len : Nat} {off : Int} {tgt : Nat} (hx : zn x) (hdg : decode cc pc = .ok (.tableswitch dflt lo hi offs, len)) (h1 : ¬ x < lo) (h2 : ¬ hi < x) (ho : offs[(x - lo).toNat]? = some off) (ht : (pc : Int) + off = (tgt : Int)) (kk : W p l e R s m args below meth c H locs cells slots Q (F0 m (tgt) ls (rest))) : W p l e R s m args below meth c H locs cells slots Q (F0 m (pc) ls (.int (zI x) :: rest)) := by
  have e := zI_toInt hx
  exact lv_tableIn C.1 C.2.1 hdg (by rw [e]; exact h1) (by rw [e]; exact h2) (by rw [e]; exact ho) ht kk
theorem zr_tabo (C : CallFix p m c cc nL s args zT own) {x lo hi dflt : Int} {offs : Array Int} {len : Nat} {tgt : Nat} (hx : zn x) (hdg : decode cc pc = .ok (.tableswitch dflt lo hi offs, len)) (h1 : x < lo ∨ hi < x) (ht : (pc : Int) + dflt = (tgt : Int)) (kk : W p l e R s m args below meth c H locs cells slots Q (F0 m (tgt) ls (rest))) : W p l e R s m args below meth c H locs cells slots Q (F0 m (pc) ls (.int (zI x) :: rest)) := by
  have e := zI_toInt hx
  exact lv_tableOut C.1 C.2.1 hdg (by rw [e]; exact h1) ht kk
theorem zr_look (C : CallFix p m c cc nL s args zT own) {x dflt : Int} {ps : Array (Int × Int)} {len : Nat} {off : Int} {tgt : Nat} (hx : zn x) (hdg : decode cc pc = .ok (.lookupswitch dflt ps, len)) (hp : (ps.toList.zip (ps.toList.drop 1)).all (fun (a, next) => a.1 < next.1) = true) (ho : Op.lookupswitch.offset ps.toList dflt x = off) (ht : (pc : Int) + off = (tgt : Int)) (kk : W p l e R s m args below meth c H locs cells slots Q (F0 m (tgt) ls (rest))) : W p l e R s m args below meth c H locs cells slots Q (F0 m (pc) ls (.int (zI x) :: rest)) := by
  have e := zI_toInt hx
  exact lv_lookup C.1 C.2.1 hdg hp (by rw [e]; exact ho) ht kk
theorem zr_iushr (C : CallFix p m c cc nL s args zT own) {x y : Int} (hdg : decode cc pc = .ok (.iushr, 1)) (kk : W p l e R s m args below meth c H locs cells slots Q (F0 m (pc + 1) ls (.int (zI (zius x y)) :: rest))) : W p l e R s m args below meth c H locs cells slots Q (F0 m (pc) ls (.int (zI y) :: .int (zI x) :: rest)) := lv_iushr C.1 C.2.1 hdg rfl (by have h := kk; unfold zius at h; rw [zI_of] at h; exact h)
theorem zok_n {g : Nat} {x : Int} (h : zok g x) (hg : (decide (20 ≤ g)) = false) : zn x := by
  unfold zok at h
  rw [if_neg (by simpa using hg)] at h
  exact h
theorem zok_m {g : Nat} {x : Int} (h : zok g x) (hg : (decide (20 ≤ g)) = true) : zm x := by
  unfold zok at h
  rw [if_pos (by simpa using hg)] at h
  exact h
theorem zpos {g : Nat} {r k : Int} (hv : zvd g r k) : ∃ q : Nat, zix[q]? = some (g, r, k) := List.getElem?_of_mem hv
theorem zws_at {q g : Nat} {r k : Int} (h : zix[q]? = some (g, r, k)) (B : zB) (S : Sg) : (zws B S)[q]? = some (B.2.1 g r k, zco B S g r k) := by
  unfold zws
  rw [List.getElem?_map, h]
  rfl
theorem zW.P {H : Heap} (h : zW B S H) : va_P B.1 zcl (zws B S) H := h.1
theorem zWn {H : Heap} (h : zW B S H) (g : Nat) (r k i : Int) (hg : (decide (20 ≤ g)) = false) : zn (S g r k i) := zok_n (h.2 g r k i) hg
theorem zWm {H : Heap} (h : zW B S H) (g : Nat) (r k i : Int) (hg : (decide (20 ≤ g)) = true) : zm (S g r k i) := zok_m (h.2 g r k i) hg
/-- one cell is another than it was: so the world is, by another memory -/
theorem zW.to {S2 : Sg} {H1 : Heap} (hap : zAp B) {q g : Nat} {r k : Int} (hq : zix[q]? = some (g, r, k)) {en : va_E} (hP : va_P B.1 zcl ((zws B S).set q (B.2.1 g r k, en)) H1) (he : zco B S2 g r k = en) (ho : ∀ (g' : Nat) (r' k' : Int), (g', r', k') ≠ (g, r, k) → zco B S2 g' r' k' = zco B S g' r' k') (hok : ∀ (g' : Nat) (r' k' i : Int), zok g' (S2 g' r' k' i)) : zW B S2 H1 := by
  refine ⟨fun j x hx => ?_, hok⟩
  have hx' := hx
  unfold zws at hx
  rw [List.getElem?_map] at hx
  cases hj : zix[j]? with
  | none => rw [hj] at hx; cases hx
  | some t =>
    rw [hj] at hx
    have hx2 : x = (B.2.1 t.1 t.2.1 t.2.2, zco B S2 t.1 t.2.1 t.2.2) := (Option.some.inj hx).symm
    subst hx2
    by_cases ejq : j = q
    · subst ejq
      have et : t = (g, r, k) := Option.some.inj (hj.symm.trans hq)
      subst et
      have hz := zws_at hq B S
      have hlt : j < (zws B S).length := (List.getElem?_eq_some_iff.mp hz).1
      exact hP j _ (by rw [List.getElem?_set_self hlt]; rw [he])
    · have hne : (t.1, t.2.1, t.2.2) ≠ (g, r, k) := by
        intro h
        have h1 : j < zix.length := (List.getElem?_eq_some_iff.mp hj).1
        have h2 : zix[j]? = zix[q]? := by rw [hj, hq]; exact congrArg some h
        exact ejq ((List.getElem?_inj h1 hap.2).mp h2)
      refine hP j _ ?_
      rw [List.getElem?_set_ne (fun h => ejq h.symm)]
      rw [zws_at (g := t.1) (r := t.2.1) (k := t.2.2) hj B S, ho _ _ _ hne]
theorem zco_ne {g g' : Nat} {r k r' k' i v : Int} (h : (g', r', k') ≠ (g, r, k)) : zco B (zu S g r k i v) g' r' k' = zco B S g' r' k' := by
  have e : zu S g r k i v g' r' k' = S g' r' k' := by
    funext j
    unfold zu
    rw [if_neg]
    rintro ⟨h1, h2, h3, -⟩
    exact h (by rw [h1, h2, h3])
  unfold zco
  rw [e]
theorem zu_row (S : Sg) (g : Nat) (r k i v : Int) : zu S g r k i v g r k = fun j => if j = i then v else S g r k j := by
  funext j
  unfold zu
  by_cases h : j = i
  · rw [if_pos ⟨rfl, rfl, rfl, h⟩, if_pos h]
  · rw [if_neg (fun q => h q.2.2.2), if_neg h]
theorem zu_ok {g : Nat} {r k i v : Int} (hv : zok g v) (h : ∀ (g' : Nat) (r' k' i' : Int), zok g' (S g' r' k' i')) : ∀ (g' : Nat) (r' k' i' : Int), zok g' (zu S g r k i v g' r' k' i') := by
  intro g' r' k' i'
  unfold zu
  split
  · rename_i h2
    rw [h2.1]
    exact hv
  · exact h g' r' k' i'
theorem zvp {i : Int} {n : Nat} (h : 0 ≤ i ∧ i < n) (hz : zn i) : vp_in (zI i) n := by
  unfold vp_in
  rw [zI_nat hz, zI_0, zI_lt hz zn_0]
  omega
theorem zn_in {i : Int} {n : Nat} (h : 0 ≤ i ∧ i < n) (hn : n ≤ 65536) : zn i := by
  unfold zn
  omega
theorem zget (C : CallFix p m c cc nL s args zT own) (hK : zK B s) (hW : zW B S H) {g : Nat} {r k : Int} (hv : zvd g r k) {ci : Nat} {fs : List Value} (he : zco B S g r k = .inr (ci, fs)) {Cn : String} {T : u_T} {N : Nat} (hc : zcl[ci]? = some (Cn, T, N)) (hin : ∀ w ∈ u_ws Cn T N, w ∈ zT) (j : Nat) (hj : j < N) {index : Nat} (hT : (T j).1 = Cn) (hl : Cond.fieldLink own index Cn (T j).2.1 (T j).2.2.1 ∈ zT) {v : Value} (hfs : fs[j]? = some v) (hdg : decode cc pc = .ok (.getfield index, 3)) (kk : W p l e R s m args below meth c H locs cells slots Q (F0 m (pc + 3) ls (v :: rest))) : W p l e R s m args below meth c H locs cells slots Q (F0 m (pc) ls (.ref (B.2.1 g r k) :: rest)) := by
  obtain ⟨q, hq⟩ := zpos hv
  have hz := zws_at hq B S
  rw [he] at hz
  exact va_get C.1 C.2.1 C.2.2.2.2 hin C.2.2.2.1 hK hW.1 q hz hc j hj (C.2.2.2.2 _ hl) (fun x h => by rw [hT] at h; exact h) hfs hdg kk
theorem zput (C : CallFix p m c cc nL s args zT own) (hK : zK B s) (hap : zAp B) (hW : zW B S H) (hS : va_S B.2.2.2 H0 H locs) {g : Nat} {r k : Int} (hv : zvd g r k) {ci : Nat} (fs : (Int → Int) → List Value) (he : ∀ f, zce B f g r k = .inr (ci, fs f)) {Cn : String} {T : u_T} {N : Nat} (hc : zcl[ci]? = some (Cn, T, N)) (hin : ∀ w ∈ u_ws Cn T N, w ∈ zT) (ty0 : Nat → FieldType) (hty : ∀ k, k < N → parseFieldDescriptor (T k).2.2.1 = some (ty0 k)) (hnm : ∀ a, a < N → ∀ b, b < N → a ≠ b → (T a).2.1 ≠ (T b).2.1) (j : Nat) (hj : j < N) {index : Nat} (hT : (T j).1 = Cn) (hl : Cond.fieldLink own index Cn (T j).2.1 (T j).2.2.1 ∈ zT) (hfin : (T j).2.2.2 = false) {ty : FieldType} (hd : parseFieldDescriptor (T j).2.2.1 = some ty) {v : Value} {x : Int} (hx : zn x) (hg : (decide (20 ≤ g)) = false) (hn : narrow ty v = v) (hfit : fits ty v = true) (hlen : ∀ f, j < (fs f).length) (hset : ∀ f, (fs f).set j v = fs (fun i => if i = (j : Int) then x else f i)) (hdg : decode cc pc = .ok (.putfield index, 3))
    (kk : ∀ (H1 : Heap) (locs1 : List Loc), zW B (zu S g r k j x) H1 → va_S B.2.2.2 H0 H1 locs1 → W p l e R s m args below meth c H1 locs1 cells slots Q (F0 m (pc + 3) ls rest)) : W p l e R s m args below meth c H locs cells slots Q (F0 m pc ls (v :: .ref (B.2.1 g r k) :: rest)) := by
  obtain ⟨q, hq⟩ := zpos hv
  have hz := zws_at hq B S
  rw [show zco B S g r k = .inr (ci, fs (S g r k)) from he _] at hz
  refine va_put C.1 C.2.1 C.2.2.2.2 hin ty0 hty hnm C.2.2.2.1 hK hW.1 (hap.1 S) hS q hz hc j hj (C.2.2.2.2 _ hl) (fun x h => by rw [hT] at h; exact h) hfin hd hn hfit (hlen _) hdg (fun H1 locs1 hP hD hS1 => ?_)
  refine kk H1 locs1 (zW.to hap hq hP ?_ (fun g' r' k' h => zco_ne h) (zu_ok (by unfold zok; rw [if_neg (by simpa using hg)]; exact hx) hW.2)) hS1
  show zce B (zu S g r k j x g r k) g r k = _
  rw [zu_row, he, hset]
theorem ziald (C : CallFix p m c cc nL s args zT own) (hK : zK B s) (hW : zW B S H) {g : Nat} {r k : Int} (hv : zvd g r k) {n : Nat} (he : ∀ f, zce B f g r k = .inl (B.2.2.1 0, n, .inl (fun j : Nat => zI (f (j : Int))))) (hn : n ≤ 65536) {i : Int} (hi : 0 ≤ i ∧ i < n) (hdg : decode cc pc = .ok (.iaload, 1)) (kk : W p l e R s m args below meth c H locs cells slots Q (F0 m (pc + 1) ls (.int (zI (S g r k i)) :: rest))) : W p l e R s m args below meth c H locs cells slots Q (F0 m (pc) ls (.int (zI i) :: .ref (B.2.1 g r k) :: rest)) := by
  obtain ⟨q, hq⟩ := zpos hv
  have hz := zws_at hq B S
  rw [show zco B S g r k = _ from he (S g r k)] at hz
  have hzi := zn_in hi hn
  refine va_iald C.1 C.2.1 hK hW.1 q 0 hz rfl (zvp hi hzi) hdg ?_
  rw [zI_nat hzi, show ((i.toNat : Nat) : Int) = i by omega]
  exact kk
theorem ziast (C : CallFix p m c cc nL s args zT own) (hK : zK B s) (hap : zAp B) (hW : zW B S H) (hS : va_S B.2.2.2 H0 H locs) {g : Nat} {r k : Int} (hv : zvd g r k) {n : Nat} (he : ∀ f, zce B f g r k = .inl (B.2.2.1 0, n, .inl (fun j : Nat => zI (f (j : Int))))) (hn : n ≤ 65536) (hg : (decide (20 ≤ g)) = false) {i x : Int} (hx : zn x) (hi : 0 ≤ i ∧ i < n) (hdg : decode cc pc = .ok (.iastore, 1))
    (kk : ∀ (H1 : Heap) (locs1 : List Loc), zW B (zu S g r k i x) H1 → va_S B.2.2.2 H0 H1 locs1 → W p l e R s m args below meth c H1 locs1 cells slots Q (F0 m (pc + 1) ls rest)) : W p l e R s m args below meth c H locs cells slots Q (F0 m (pc) ls (.int (zI x) :: .int (zI i) :: .ref (B.2.1 g r k) :: rest)) := by
  obtain ⟨q, hq⟩ := zpos hv
  have hz := zws_at hq B S
  rw [show zco B S g r k = _ from he (S g r k)] at hz
  have hzi := zn_in hi hn
  refine va_iast C.1 C.2.1 hK hW.1 (hap.1 S) hS q 0 hz rfl (zvp hi hzi) hdg (fun H1 locs1 hP hD hS1 => ?_)
  refine kk H1 locs1 (zW.to hap hq hP ?_ (fun g' r' k' h => zco_ne h) (zu_ok (by unfold zok; rw [if_neg (by simpa using hg)]; exact hx) hW.2)) hS1
  show zce B (zu S g r k i x g r k) g r k = _
  rw [zu_row, he]
  congr 3
  congr 1
  funext j
  unfold upd
  rw [zI_nat hzi]
  by_cases h : (j : Int) = i
  · rw [if_pos h, if_pos (by omega)]
  · rw [if_neg h, if_neg (by omega)]
theorem zlald (C : CallFix p m c cc nL s args zT own) (hK : zK B s) (hW : zW B S H) {g : Nat} {r k : Int} (hv : zvd g r k) {n : Nat} (he : ∀ f, zce B f g r k = .inl (B.2.2.1 1, n, .inr (.inl (fun j : Nat => zL (f (j : Int)))))) (hn : n ≤ 65536) {i : Int} (hi : 0 ≤ i ∧ i < n) (hdg : decode cc pc = .ok (.laload, 1)) (kk : W p l e R s m args below meth c H locs cells slots Q (F0 m (pc + 1) ls (.long (zL (S g r k i)) :: rest))) : W p l e R s m args below meth c H locs cells slots Q (F0 m (pc) ls (.int (zI i) :: .ref (B.2.1 g r k) :: rest)) := by
  obtain ⟨q, hq⟩ := zpos hv
  have hz := zws_at hq B S
  rw [show zco B S g r k = _ from he (S g r k)] at hz
  have hzi := zn_in hi hn
  refine va_lald C.1 C.2.1 hK hW.1 q 1 hz rfl (zvp hi hzi) hdg ?_
  rw [zI_nat hzi, show ((i.toNat : Nat) : Int) = i by omega]
  exact kk
theorem zlast (C : CallFix p m c cc nL s args zT own) (hK : zK B s) (hap : zAp B) (hW : zW B S H) (hS : va_S B.2.2.2 H0 H locs) {g : Nat} {r k : Int} (hv : zvd g r k) {n : Nat} (he : ∀ f, zce B f g r k = .inl (B.2.2.1 1, n, .inr (.inl (fun j : Nat => zL (f (j : Int)))))) (hn : n ≤ 65536) (hg : (decide (20 ≤ g)) = true) {i x : Int} (hx : zm x) (hi : 0 ≤ i ∧ i < n) (hdg : decode cc pc = .ok (.lastore, 1))
    (kk : ∀ (H1 : Heap) (locs1 : List Loc), zW B (zu S g r k i x) H1 → va_S B.2.2.2 H0 H1 locs1 → W p l e R s m args below meth c H1 locs1 cells slots Q (F0 m (pc + 1) ls rest)) : W p l e R s m args below meth c H locs cells slots Q (F0 m (pc) ls (.long (zL x) :: .int (zI i) :: .ref (B.2.1 g r k) :: rest)) := by
  obtain ⟨q, hq⟩ := zpos hv
  have hz := zws_at hq B S
  rw [show zco B S g r k = _ from he (S g r k)] at hz
  have hzi := zn_in hi hn
  refine va_last C.1 C.2.1 hK hW.1 (hap.1 S) hS q 1 hz rfl (zvp hi hzi) hdg (fun H1 locs1 hP hD hS1 => ?_)
  refine kk H1 locs1 (zW.to hap hq hP ?_ (fun g' r' k' h => zco_ne h) (zu_ok (by unfold zok; rw [if_pos (by simpa using hg)]; exact hx) hW.2)) hS1
  show zce B (zu S g r k i x g r k) g r k = _
  rw [zu_row, he]
  congr 4
  congr 1
  funext j
  unfold vp_updL
  rw [zI_nat hzi]
  by_cases h : (j : Int) = i
  · rw [if_pos h, if_pos (by omega)]
  · rw [if_neg h, if_neg (by omega)]
theorem zzald (C : CallFix p m c cc nL s args zT own) (hK : zK B s) (hW : zW B S H) {g : Nat} {r k : Int} (hv : zvd g r k) {n : Nat} (he : ∀ f, zce B f g r k = .inl (B.2.2.1 2, n, .inl (fun j : Nat => zI (f (j : Int))))) (hn : n ≤ 65536) {i : Int} (hi : 0 ≤ i ∧ i < n) (hdg : decode cc pc = .ok (.baload, 1)) (kk : W p l e R s m args below meth c H locs cells slots Q (F0 m (pc + 1) ls (.int (zI (S g r k i)) :: rest))) : W p l e R s m args below meth c H locs cells slots Q (F0 m (pc) ls (.int (zI i) :: .ref (B.2.1 g r k) :: rest)) := by
  obtain ⟨q, hq⟩ := zpos hv
  have hz := zws_at hq B S
  rw [show zco B S g r k = _ from he (S g r k)] at hz
  have hzi := zn_in hi hn
  refine va_zald C.1 C.2.1 hK hW.1 q 2 hz rfl (zvp hi hzi) hdg ?_
  rw [zI_nat hzi, show ((i.toNat : Nat) : Int) = i by omega]
  exact kk
theorem zzast (C : CallFix p m c cc nL s args zT own) (hK : zK B s) (hap : zAp B) (hW : zW B S H) (hS : va_S B.2.2.2 H0 H locs) {g : Nat} {r k : Int} (hv : zvd g r k) {n : Nat} (he : ∀ f, zce B f g r k = .inl (B.2.2.1 2, n, .inl (fun j : Nat => zI (f (j : Int))))) (hn : n ≤ 65536) (hg : (decide (20 ≤ g)) = false) {i x : Int} (hx : zn x) (hb : vp_nar .boolean (zI x) = zI x) (hi : 0 ≤ i ∧ i < n) (hdg : decode cc pc = .ok (.bastore, 1))
    (kk : ∀ (H1 : Heap) (locs1 : List Loc), zW B (zu S g r k i x) H1 → va_S B.2.2.2 H0 H1 locs1 → W p l e R s m args below meth c H1 locs1 cells slots Q (F0 m (pc + 1) ls rest)) : W p l e R s m args below meth c H locs cells slots Q (F0 m (pc) ls (.int (zI x) :: .int (zI i) :: .ref (B.2.1 g r k) :: rest)) := by
  obtain ⟨q, hq⟩ := zpos hv
  have hz := zws_at hq B S
  rw [show zco B S g r k = _ from he (S g r k)] at hz
  have hzi := zn_in hi hn
  refine va_zast C.1 C.2.1 hK hW.1 (hap.1 S) hS q 2 hz rfl (zvp hi hzi) hdg (fun H1 locs1 hP hD hS1 => ?_)
  rw [hb] at hP
  refine kk H1 locs1 (zW.to hap hq hP ?_ (fun g' r' k' h => zco_ne h) (zu_ok (by unfold zok; rw [if_neg (by simpa using hg)]; exact hx) hW.2)) hS1
  show zce B (zu S g r k i x g r k) g r k = _
  rw [zu_row, he]
  congr 3
  congr 1
  funext j
  unfold upd
  rw [zI_nat hzi]
  by_cases h : (j : Int) = i
  · rw [if_pos h, if_pos (by omega)]
  · rw [if_neg h, if_neg (by omega)]
theorem zalen (C : CallFix p m c cc nL s args zT own) (hK : zK B s) (hW : zW B S H) {g : Nat} {r k : Int} (hv : zvd g r k) {n : Nat} (he : ∀ f, zce B f g r k = .inl (B.2.2.1 0, n, .inl (fun j : Nat => zI (f (j : Int))))) {N : Int} (hN : (n : Int) = N) (hdg : decode cc pc = .ok (.arraylength, 1)) (kk : W p l e R s m args below meth c H locs cells slots Q (F0 m (pc + 1) ls (.int (zI N) :: rest))) : W p l e R s m args below meth c H locs cells slots Q (F0 m (pc) ls (.ref (B.2.1 g r k) :: rest)) := by
  subst hN
  obtain ⟨q, hq⟩ := zpos hv
  have hz := zws_at hq B S
  rw [show zco B S g r k = _ from he (S g r k)] at hz
  exact va_alen C.1 C.2.1 hK hW.1 q 0 hz rfl rfl hdg kk
theorem zstat (C : CallFix p m c cc nL s args zT own) {nm : String} {f : Nat → Int} (hZ : zs1 nm f B s) (hS : va_S B.2.2.2 s.heap H locs) {index : Nat} (hl : Cond.fieldLink own index "IslandOffice" nm "[I" ∈ zT) (hdg : decode cc pc = .ok (.getstatic index, 3)) (kk : ∀ t : Nat, va_T .int t 4 (fun j => .int (zI (f j))) B.2.2.2 s s.heap → W p l e R s m args below meth c H locs cells slots Q (F0 m (pc + 3) ls (.ref t :: rest))) : W p l e R s m args below meth c H locs cells slots Q (F0 m (pc) ls (rest)) := by
  obtain ⟨t, h1, h2⟩ := hZ
  exact va_gets C.1 C.2.1 h1 hS C.2.2.2.1 (C.2.2.2.2 _ hl) (fun _ h => h) hdg (kk t h2)
theorem zstald (C : CallFix p m c cc nL s args zT own) {t : Nat} {f : Nat → Int} (hT : va_T .int t 4 (fun j => .int (zI (f j))) B.2.2.2 s s.heap) (hS : va_S B.2.2.2 s.heap H locs) {i : Int} (hi : 0 ≤ i ∧ i < 4) (hdg : decode cc pc = .ok (.iaload, 1)) (kk : W p l e R s m args below meth c H locs cells slots Q (F0 m (pc + 1) ls (.int (zI (f i.toNat)) :: rest))) : W p l e R s m args below meth c H locs cells slots Q (F0 m (pc) ls (.int (zI i) :: .ref t :: rest)) := by
  have hzi : zn i := by unfold zn; omega
  refine va_ti C.1 C.2.1 hT hS (zvp (n := 4) hi hzi) rfl hdg ?_
  rw [zI_nat hzi]
  exact kk
end ZR
