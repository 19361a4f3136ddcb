/-! ===== the law: its rows (by wip/whole/gen/law.py) ===== -/
def xi (xs : Nat → Int32) (j : Nat) : Int := (xs j).toInt
theorem xi_I (xs : Nat → Int32) (j : Nat) : zI (xi xs j) = xs j := zI_of _
theorem xi_n (xs : Nat → Int32) (j : Nat) : zn (xi xs j) := zn_of _
/-- what stands in the law: tables, static rows, the script -/
def LX (B : zB) (b L : Nat) (xs : Nat → Int32) (s : State) : Prop := zK B s ∧ zSt B s ∧ zAp B ∧ va_X b L xs s s.heap ∧ b < s.heap.size ∧ ¬ B.2.2.2 b ∧ L ≤ 3072
def Ll (B : zB) (b i : Nat) : List (Nat × Value) := [(4, .int (zI (i : Int))), (3, .ref (B.2.1 22 0 0)), (2, .ref (B.2.1 9 0 0)), (1, .ref (B.2.1 3 0 0)), (0, .ref b)]
theorem zW.zs {B : zB} {S : Sg} {H : Heap} (h : zW B S H) : Zs S := fun r k i => by
  have h1 := h.2 14 r k i
  unfold zok at h1
  rwa [if_neg (by decide)] at h1
abbrev zcl_own : String := "IslandOfficeLaw"
section ZLW
variable {p : Program} {l : Launch} {e : Env} {s : State} {m : MethodId} {args : Array Value} {below : List Frame} {meth : Method} {c : Code} {H : Heap} {locs : List Loc} {cells slots : Nat} {Q : State → Prop}
variable {pc : Nat} {ls : Array Slot} {rest : List Value} {B : zB} {S : Sg} {b L i : Nat} {xs : Nat → Int32}
theorem zl_read (C : CallFix p m c code 8 s args zT "IslandOfficeLaw") (hx : LX B b L xs s) (hS : va_S B.2.2.2 s.heap H locs) (hl : lv_has ls 8 (Ll B b i)) {k : Nat} (hk : i + k < L) (hk2 : k ≤ 5) (d1 : decode code pc = .ok (.aload_n 0, 1)) (d2 : decode code (pc + 1) = .ok (.iload 4, 2)) (d3 : decode code (pc + 1 + 2) = .ok (.iconst (k : Int), 1)) (d4 : decode code (pc + 1 + 2 + 1) = .ok (.iadd, 1)) (d5 : decode code (pc + 1 + 2 + 1 + 1) = .ok (.iaload, 1)) (kk : W p l e room_1 s m args below meth c H locs cells slots Q (F0 m (pc + 1 + 2 + 1 + 1 + 1) ls (.int (zI (xi xs (i + k))) :: rest))) : W p l e room_1 s m args below meth c H locs cells slots Q (F0 m pc ls rest) := by
  obtain ⟨hK, hSt, hap, hX, hb, hbA, hL⟩ := hx
  have e1 : zw ((i : Int) + (k : Int)) = ((i + k : Nat) : Int) := by
    rw [zw_id (by constructor <;> omega)]
    omega
  refine lv_aload_n C.1 C.2.1 d1 rfl (lv_at hl 4 rfl) ?_
  refine lv_iload C.1 C.2.1 d2 (lv_at hl 0 rfl) ?_
  refine zr_iconst C d3 ?_
  refine zr_iadd C d4 ?_
  rw [e1]
  have hz : zn ((i + k : Nat) : Int) := by unfold zn; omega
  refine va_sld C.1 C.2.1 hX hb hbA hS (zvp ⟨by omega, by omega⟩ hz) d5 ?_
  rw [zI_nat hz, Int.toNat_natCast, ← xi_I xs (i + k)]
  exact kk
theorem zl_bool (C : CallFix p m c code 8 s args zT "IslandOfficeLaw") {x : Int} (hx : zn x) (d1 : decode code pc = .ok (.ifCond .eq 7, 3)) (d2 : decode code (pc + 3) = .ok (.iconst 1, 1)) (d3 : decode code (pc + 3 + 1) = .ok (.goto 4, 3)) (d4 : decode code (pc + 7) = .ok (.iconst 0, 1)) (kk : W p l e room_1 s m args below meth c H locs cells slots Q (F0 m (pc + 8) ls (.int (zI (if x = 0 then 0 else 1)) :: rest))) : W p l e room_1 s m args below meth c H locs cells slots Q (F0 m pc ls (.int (zI x) :: rest)) := by
  refine zr_if_eq (tgt := pc + 7) C hx d1 (by omega) (fun h => ?_) (fun h => ?_)
  · refine zr_iconst C d4 ?_
    rw [if_pos h] at kk
    exact kk
  · refine zr_iconst C d2 ?_
    refine lv_goto (tgt := pc + 8) C.1 C.2.1 d3 (by omega) ?_
    rw [if_neg h] at kk
    exact kk
theorem zn_if {x : Int} : zn (if x = 0 then 0 else 1) := by
  split <;> exact znb rfl
end ZLW
