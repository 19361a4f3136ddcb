/-! ===== constructors, by program (wip/whole/gen/ctor.py) ===== -/
theorem zc_ext {cA : ClassId} {n : Nat} {f g : Nat → Int32} (h : ∀ j, j < n → f j = g j) : vp_cell cA (n, .inl f) = vp_cell cA (n, .inl g) := by
  rw [vp_cell_i, vp_cell_i]
  unfold arrV
  congr 1
  apply Array.ext
  · simp
  · intro i h1 h2
    simp at h1
    simp [h i h1]
abbrev zm_iJaF : Room := { frames := 0, cells := 0, slots := 0, locals := 64 }
def ww_JaF (B : zB) (h0 : Nat) (v : Int32) (q : Unit) : va_W := (h0, ei B 12 (fun _ => v)) :: ([])
set_option maxHeartbeats 4000000 in
set_option maxRecDepth 100000 in
theorem zin_JaF {l : Launch} {B : zB} (h0 : Nat) (f : Nat → Int32) (v : Int32) (sz : Nat) : Met l zy_Ja_fill (Cond.code zy_Ja_fill zb_Ja_fill 4 none :: zT) zm_iJaF (va_Pc [.ref h0, .int v] (zPi B [(h0, ei B 12 f)] sz)) (zQc B [(h0, ei B 12 f)] sz (ww_JaF B h0 v)) 0 0 (va_A [(h0, ei B 12 f)] sz) := by
  refine zmeti (by decide) (Nat.le_of_ble_eq_true rfl) (fun p e s m args below meth c C hr hlk hnm hsz hP hD hS hK hX hst hA ls hl => ?_)
  subst hsz
  generalize hAe : va_A [(h0, ei B 12 f)] s.heap.size = A at *
  have hl : lv_has ls 4 [(0, .ref h0), (1, .int v)] := hl
  have hP : va_P B.1 zcl ([(h0, ei B 12 f)] ++ []) s.heap := hP
  have hD : va_D A ([(h0, ei B 12 f)] ++ []) := hD
  refine zr_iconst C zd_Ja_fill_0 ?_
  refine lv_istore_n (lv' := [(2, .int (zI (0))), (0, .ref h0), (1, .int v)]) C.1 C.2.1 zd_Ja_fill_1 rfl hl (by decide) rfl (fun ls hl => ?_)
  refine lv_aload_n C.1 C.2.1 zd_Ja_fill_2 rfl (lv_at hl 1 rfl) ?_
  refine va_alen C.1 C.2.1 hK hP 0 0 rfl rfl (v := zI (12)) rfl zd_Ja_fill_3 ?_
  refine lv_istore_n (lv' := [(3, .int (zI (12))), (2, .int (zI (0))), (0, .ref h0), (1, .int v)]) C.1 C.2.1 zd_Ja_fill_4 rfl hl (by decide) rfl (fun ls hl => ?_)
  refine lv_iload_n C.1 C.2.1 zd_Ja_fill_5 rfl (lv_at hl 1 rfl) ?_
  refine lv_iload_n C.1 C.2.1 zd_Ja_fill_6 rfl (lv_at hl 0 rfl) ?_
  refine zr_icmp_ge (tgt := 20) C (znb rfl) (znb rfl) zd_Ja_fill_7 (by decide) (fun h => absurd h (by decide)) (fun _ => ?_)
  refine lv_aload_n C.1 C.2.1 zd_Ja_fill_10 rfl (lv_at hl 2 rfl) ?_
  refine lv_iload_n C.1 C.2.1 zd_Ja_fill_11 rfl (lv_at hl 1 rfl) ?_
  refine lv_iload_n C.1 C.2.1 zd_Ja_fill_12 rfl (lv_at hl 3 rfl) ?_
  refine va_iast C.1 C.2.1 hK hP hD hS 0 0 rfl rfl (i := zI (0)) (x := v) (zvp (n := 12) ⟨by decide, by decide⟩ (znb rfl)) zd_Ja_fill_13 (fun H locs hP hD hS => ?_)
  replace hP := zset_P (P2 := [(h0, ei B 12 (upd f 0 (v)))]) (fun _ => rfl) hP
  replace hD := zset_D (P2 := [(h0, ei B 12 (upd f 0 (v)))]) (fun _ => rfl) hD
  refine lv_iinc (v := zI (1)) (lv' := [(2, .int (zI (1))), (3, .int (zI (12))), (0, .ref h0), (1, .int v)]) C.1 C.2.1 zd_Ja_fill_14 hl (k := 1) rfl (by decide +kernel) (by decide) rfl (fun ls hl => ?_)
  refine lv_goto (tgt := 5) C.1 C.2.1 zd_Ja_fill_17 (by decide) ?_
  refine lv_iload_n C.1 C.2.1 zd_Ja_fill_5 rfl (lv_at hl 0 rfl) ?_
  refine lv_iload_n C.1 C.2.1 zd_Ja_fill_6 rfl (lv_at hl 1 rfl) ?_
  refine zr_icmp_ge (tgt := 20) C (znb rfl) (znb rfl) zd_Ja_fill_7 (by decide) (fun h => absurd h (by decide)) (fun _ => ?_)
  refine lv_aload_n C.1 C.2.1 zd_Ja_fill_10 rfl (lv_at hl 2 rfl) ?_
  refine lv_iload_n C.1 C.2.1 zd_Ja_fill_11 rfl (lv_at hl 0 rfl) ?_
  refine lv_iload_n C.1 C.2.1 zd_Ja_fill_12 rfl (lv_at hl 3 rfl) ?_
  refine va_iast C.1 C.2.1 hK hP hD hS 0 0 rfl rfl (i := zI (1)) (x := v) (zvp (n := 12) ⟨by decide, by decide⟩ (znb rfl)) zd_Ja_fill_13 (fun H locs hP hD hS => ?_)
  replace hP := zset_P (P2 := [(h0, ei B 12 (upd (upd f 0 (v)) 1 (v)))]) (fun _ => rfl) hP
  replace hD := zset_D (P2 := [(h0, ei B 12 (upd (upd f 0 (v)) 1 (v)))]) (fun _ => rfl) hD
  refine lv_iinc (v := zI (2)) (lv' := [(2, .int (zI (2))), (3, .int (zI (12))), (0, .ref h0), (1, .int v)]) C.1 C.2.1 zd_Ja_fill_14 hl (k := 0) rfl (by decide +kernel) (by decide) rfl (fun ls hl => ?_)
  refine lv_goto (tgt := 5) C.1 C.2.1 zd_Ja_fill_17 (by decide) ?_
  refine lv_iload_n C.1 C.2.1 zd_Ja_fill_5 rfl (lv_at hl 0 rfl) ?_
  refine lv_iload_n C.1 C.2.1 zd_Ja_fill_6 rfl (lv_at hl 1 rfl) ?_
  refine zr_icmp_ge (tgt := 20) C (znb rfl) (znb rfl) zd_Ja_fill_7 (by decide) (fun h => absurd h (by decide)) (fun _ => ?_)
  refine lv_aload_n C.1 C.2.1 zd_Ja_fill_10 rfl (lv_at hl 2 rfl) ?_
  refine lv_iload_n C.1 C.2.1 zd_Ja_fill_11 rfl (lv_at hl 0 rfl) ?_
  refine lv_iload_n C.1 C.2.1 zd_Ja_fill_12 rfl (lv_at hl 3 rfl) ?_
  refine va_iast C.1 C.2.1 hK hP hD hS 0 0 rfl rfl (i := zI (2)) (x := v) (zvp (n := 12) ⟨by decide, by decide⟩ (znb rfl)) zd_Ja_fill_13 (fun H locs hP hD hS => ?_)
  replace hP := zset_P (P2 := [(h0, ei B 12 (upd (upd (upd f 0 (v)) 1 (v)) 2 (v)))]) (fun _ => rfl) hP
  replace hD := zset_D (P2 := [(h0, ei B 12 (upd (upd (upd f 0 (v)) 1 (v)) 2 (v)))]) (fun _ => rfl) hD
  refine lv_iinc (v := zI (3)) (lv' := [(2, .int (zI (3))), (3, .int (zI (12))), (0, .ref h0), (1, .int v)]) C.1 C.2.1 zd_Ja_fill_14 hl (k := 0) rfl (by decide +kernel) (by decide) rfl (fun ls hl => ?_)
  refine lv_goto (tgt := 5) C.1 C.2.1 zd_Ja_fill_17 (by decide) ?_
  refine lv_iload_n C.1 C.2.1 zd_Ja_fill_5 rfl (lv_at hl 0 rfl) ?_
  refine lv_iload_n C.1 C.2.1 zd_Ja_fill_6 rfl (lv_at hl 1 rfl) ?_
  refine zr_icmp_ge (tgt := 20) C (znb rfl) (znb rfl) zd_Ja_fill_7 (by decide) (fun h => absurd h (by decide)) (fun _ => ?_)
  refine lv_aload_n C.1 C.2.1 zd_Ja_fill_10 rfl (lv_at hl 2 rfl) ?_
  refine lv_iload_n C.1 C.2.1 zd_Ja_fill_11 rfl (lv_at hl 0 rfl) ?_
  refine lv_iload_n C.1 C.2.1 zd_Ja_fill_12 rfl (lv_at hl 3 rfl) ?_
  refine va_iast C.1 C.2.1 hK hP hD hS 0 0 rfl rfl (i := zI (3)) (x := v) (zvp (n := 12) ⟨by decide, by decide⟩ (znb rfl)) zd_Ja_fill_13 (fun H locs hP hD hS => ?_)
  replace hP := zset_P (P2 := [(h0, ei B 12 (upd (upd (upd (upd f 0 (v)) 1 (v)) 2 (v)) 3 (v)))]) (fun _ => rfl) hP
  replace hD := zset_D (P2 := [(h0, ei B 12 (upd (upd (upd (upd f 0 (v)) 1 (v)) 2 (v)) 3 (v)))]) (fun _ => rfl) hD
  refine lv_iinc (v := zI (4)) (lv' := [(2, .int (zI (4))), (3, .int (zI (12))), (0, .ref h0), (1, .int v)]) C.1 C.2.1 zd_Ja_fill_14 hl (k := 0) rfl (by decide +kernel) (by decide) rfl (fun ls hl => ?_)
  refine lv_goto (tgt := 5) C.1 C.2.1 zd_Ja_fill_17 (by decide) ?_
  refine lv_iload_n C.1 C.2.1 zd_Ja_fill_5 rfl (lv_at hl 0 rfl) ?_
  refine lv_iload_n C.1 C.2.1 zd_Ja_fill_6 rfl (lv_at hl 1 rfl) ?_
  refine zr_icmp_ge (tgt := 20) C (znb rfl) (znb rfl) zd_Ja_fill_7 (by decide) (fun h => absurd h (by decide)) (fun _ => ?_)
  refine lv_aload_n C.1 C.2.1 zd_Ja_fill_10 rfl (lv_at hl 2 rfl) ?_
  refine lv_iload_n C.1 C.2.1 zd_Ja_fill_11 rfl (lv_at hl 0 rfl) ?_
  refine lv_iload_n C.1 C.2.1 zd_Ja_fill_12 rfl (lv_at hl 3 rfl) ?_
  refine va_iast C.1 C.2.1 hK hP hD hS 0 0 rfl rfl (i := zI (4)) (x := v) (zvp (n := 12) ⟨by decide, by decide⟩ (znb rfl)) zd_Ja_fill_13 (fun H locs hP hD hS => ?_)
  replace hP := zset_P (P2 := [(h0, ei B 12 (upd (upd (upd (upd (upd f 0 (v)) 1 (v)) 2 (v)) 3 (v)) 4 (v)))]) (fun _ => rfl) hP
  replace hD := zset_D (P2 := [(h0, ei B 12 (upd (upd (upd (upd (upd f 0 (v)) 1 (v)) 2 (v)) 3 (v)) 4 (v)))]) (fun _ => rfl) hD
  refine lv_iinc (v := zI (5)) (lv' := [(2, .int (zI (5))), (3, .int (zI (12))), (0, .ref h0), (1, .int v)]) C.1 C.2.1 zd_Ja_fill_14 hl (k := 0) rfl (by decide +kernel) (by decide) rfl (fun ls hl => ?_)
  refine lv_goto (tgt := 5) C.1 C.2.1 zd_Ja_fill_17 (by decide) ?_
  refine lv_iload_n C.1 C.2.1 zd_Ja_fill_5 rfl (lv_at hl 0 rfl) ?_
  refine lv_iload_n C.1 C.2.1 zd_Ja_fill_6 rfl (lv_at hl 1 rfl) ?_
  refine zr_icmp_ge (tgt := 20) C (znb rfl) (znb rfl) zd_Ja_fill_7 (by decide) (fun h => absurd h (by decide)) (fun _ => ?_)
  refine lv_aload_n C.1 C.2.1 zd_Ja_fill_10 rfl (lv_at hl 2 rfl) ?_
  refine lv_iload_n C.1 C.2.1 zd_Ja_fill_11 rfl (lv_at hl 0 rfl) ?_
  refine lv_iload_n C.1 C.2.1 zd_Ja_fill_12 rfl (lv_at hl 3 rfl) ?_
  refine va_iast C.1 C.2.1 hK hP hD hS 0 0 rfl rfl (i := zI (5)) (x := v) (zvp (n := 12) ⟨by decide, by decide⟩ (znb rfl)) zd_Ja_fill_13 (fun H locs hP hD hS => ?_)
  replace hP := zset_P (P2 := [(h0, ei B 12 (upd (upd (upd (upd (upd (upd f 0 (v)) 1 (v)) 2 (v)) 3 (v)) 4 (v)) 5 (v)))]) (fun _ => rfl) hP
  replace hD := zset_D (P2 := [(h0, ei B 12 (upd (upd (upd (upd (upd (upd f 0 (v)) 1 (v)) 2 (v)) 3 (v)) 4 (v)) 5 (v)))]) (fun _ => rfl) hD
  refine lv_iinc (v := zI (6)) (lv' := [(2, .int (zI (6))), (3, .int (zI (12))), (0, .ref h0), (1, .int v)]) C.1 C.2.1 zd_Ja_fill_14 hl (k := 0) rfl (by decide +kernel) (by decide) rfl (fun ls hl => ?_)
  refine lv_goto (tgt := 5) C.1 C.2.1 zd_Ja_fill_17 (by decide) ?_
  refine lv_iload_n C.1 C.2.1 zd_Ja_fill_5 rfl (lv_at hl 0 rfl) ?_
  refine lv_iload_n C.1 C.2.1 zd_Ja_fill_6 rfl (lv_at hl 1 rfl) ?_
  refine zr_icmp_ge (tgt := 20) C (znb rfl) (znb rfl) zd_Ja_fill_7 (by decide) (fun h => absurd h (by decide)) (fun _ => ?_)
  refine lv_aload_n C.1 C.2.1 zd_Ja_fill_10 rfl (lv_at hl 2 rfl) ?_
  refine lv_iload_n C.1 C.2.1 zd_Ja_fill_11 rfl (lv_at hl 0 rfl) ?_
  refine lv_iload_n C.1 C.2.1 zd_Ja_fill_12 rfl (lv_at hl 3 rfl) ?_
  refine va_iast C.1 C.2.1 hK hP hD hS 0 0 rfl rfl (i := zI (6)) (x := v) (zvp (n := 12) ⟨by decide, by decide⟩ (znb rfl)) zd_Ja_fill_13 (fun H locs hP hD hS => ?_)
  replace hP := zset_P (P2 := [(h0, ei B 12 (upd (upd (upd (upd (upd (upd (upd f 0 (v)) 1 (v)) 2 (v)) 3 (v)) 4 (v)) 5 (v)) 6 (v)))]) (fun _ => rfl) hP
  replace hD := zset_D (P2 := [(h0, ei B 12 (upd (upd (upd (upd (upd (upd (upd f 0 (v)) 1 (v)) 2 (v)) 3 (v)) 4 (v)) 5 (v)) 6 (v)))]) (fun _ => rfl) hD
  refine lv_iinc (v := zI (7)) (lv' := [(2, .int (zI (7))), (3, .int (zI (12))), (0, .ref h0), (1, .int v)]) C.1 C.2.1 zd_Ja_fill_14 hl (k := 0) rfl (by decide +kernel) (by decide) rfl (fun ls hl => ?_)
  refine lv_goto (tgt := 5) C.1 C.2.1 zd_Ja_fill_17 (by decide) ?_
  refine lv_iload_n C.1 C.2.1 zd_Ja_fill_5 rfl (lv_at hl 0 rfl) ?_
  refine lv_iload_n C.1 C.2.1 zd_Ja_fill_6 rfl (lv_at hl 1 rfl) ?_
  refine zr_icmp_ge (tgt := 20) C (znb rfl) (znb rfl) zd_Ja_fill_7 (by decide) (fun h => absurd h (by decide)) (fun _ => ?_)
  refine lv_aload_n C.1 C.2.1 zd_Ja_fill_10 rfl (lv_at hl 2 rfl) ?_
  refine lv_iload_n C.1 C.2.1 zd_Ja_fill_11 rfl (lv_at hl 0 rfl) ?_
  refine lv_iload_n C.1 C.2.1 zd_Ja_fill_12 rfl (lv_at hl 3 rfl) ?_
  refine va_iast C.1 C.2.1 hK hP hD hS 0 0 rfl rfl (i := zI (7)) (x := v) (zvp (n := 12) ⟨by decide, by decide⟩ (znb rfl)) zd_Ja_fill_13 (fun H locs hP hD hS => ?_)
  replace hP := zset_P (P2 := [(h0, ei B 12 (upd (upd (upd (upd (upd (upd (upd (upd f 0 (v)) 1 (v)) 2 (v)) 3 (v)) 4 (v)) 5 (v)) 6 (v)) 7 (v)))]) (fun _ => rfl) hP
  replace hD := zset_D (P2 := [(h0, ei B 12 (upd (upd (upd (upd (upd (upd (upd (upd f 0 (v)) 1 (v)) 2 (v)) 3 (v)) 4 (v)) 5 (v)) 6 (v)) 7 (v)))]) (fun _ => rfl) hD
  refine lv_iinc (v := zI (8)) (lv' := [(2, .int (zI (8))), (3, .int (zI (12))), (0, .ref h0), (1, .int v)]) C.1 C.2.1 zd_Ja_fill_14 hl (k := 0) rfl (by decide +kernel) (by decide) rfl (fun ls hl => ?_)
  refine lv_goto (tgt := 5) C.1 C.2.1 zd_Ja_fill_17 (by decide) ?_
  refine lv_iload_n C.1 C.2.1 zd_Ja_fill_5 rfl (lv_at hl 0 rfl) ?_
  refine lv_iload_n C.1 C.2.1 zd_Ja_fill_6 rfl (lv_at hl 1 rfl) ?_
  refine zr_icmp_ge (tgt := 20) C (znb rfl) (znb rfl) zd_Ja_fill_7 (by decide) (fun h => absurd h (by decide)) (fun _ => ?_)
  refine lv_aload_n C.1 C.2.1 zd_Ja_fill_10 rfl (lv_at hl 2 rfl) ?_
  refine lv_iload_n C.1 C.2.1 zd_Ja_fill_11 rfl (lv_at hl 0 rfl) ?_
  refine lv_iload_n C.1 C.2.1 zd_Ja_fill_12 rfl (lv_at hl 3 rfl) ?_
  refine va_iast C.1 C.2.1 hK hP hD hS 0 0 rfl rfl (i := zI (8)) (x := v) (zvp (n := 12) ⟨by decide, by decide⟩ (znb rfl)) zd_Ja_fill_13 (fun H locs hP hD hS => ?_)
  replace hP := zset_P (P2 := [(h0, ei B 12 (upd (upd (upd (upd (upd (upd (upd (upd (upd f 0 (v)) 1 (v)) 2 (v)) 3 (v)) 4 (v)) 5 (v)) 6 (v)) 7 (v)) 8 (v)))]) (fun _ => rfl) hP
  replace hD := zset_D (P2 := [(h0, ei B 12 (upd (upd (upd (upd (upd (upd (upd (upd (upd f 0 (v)) 1 (v)) 2 (v)) 3 (v)) 4 (v)) 5 (v)) 6 (v)) 7 (v)) 8 (v)))]) (fun _ => rfl) hD
  refine lv_iinc (v := zI (9)) (lv' := [(2, .int (zI (9))), (3, .int (zI (12))), (0, .ref h0), (1, .int v)]) C.1 C.2.1 zd_Ja_fill_14 hl (k := 0) rfl (by decide +kernel) (by decide) rfl (fun ls hl => ?_)
  refine lv_goto (tgt := 5) C.1 C.2.1 zd_Ja_fill_17 (by decide) ?_
  refine lv_iload_n C.1 C.2.1 zd_Ja_fill_5 rfl (lv_at hl 0 rfl) ?_
  refine lv_iload_n C.1 C.2.1 zd_Ja_fill_6 rfl (lv_at hl 1 rfl) ?_
  refine zr_icmp_ge (tgt := 20) C (znb rfl) (znb rfl) zd_Ja_fill_7 (by decide) (fun h => absurd h (by decide)) (fun _ => ?_)
  refine lv_aload_n C.1 C.2.1 zd_Ja_fill_10 rfl (lv_at hl 2 rfl) ?_
  refine lv_iload_n C.1 C.2.1 zd_Ja_fill_11 rfl (lv_at hl 0 rfl) ?_
  refine lv_iload_n C.1 C.2.1 zd_Ja_fill_12 rfl (lv_at hl 3 rfl) ?_
  refine va_iast C.1 C.2.1 hK hP hD hS 0 0 rfl rfl (i := zI (9)) (x := v) (zvp (n := 12) ⟨by decide, by decide⟩ (znb rfl)) zd_Ja_fill_13 (fun H locs hP hD hS => ?_)
  replace hP := zset_P (P2 := [(h0, ei B 12 (upd (upd (upd (upd (upd (upd (upd (upd (upd (upd f 0 (v)) 1 (v)) 2 (v)) 3 (v)) 4 (v)) 5 (v)) 6 (v)) 7 (v)) 8 (v)) 9 (v)))]) (fun _ => rfl) hP
  replace hD := zset_D (P2 := [(h0, ei B 12 (upd (upd (upd (upd (upd (upd (upd (upd (upd (upd f 0 (v)) 1 (v)) 2 (v)) 3 (v)) 4 (v)) 5 (v)) 6 (v)) 7 (v)) 8 (v)) 9 (v)))]) (fun _ => rfl) hD
  refine lv_iinc (v := zI (10)) (lv' := [(2, .int (zI (10))), (3, .int (zI (12))), (0, .ref h0), (1, .int v)]) C.1 C.2.1 zd_Ja_fill_14 hl (k := 0) rfl (by decide +kernel) (by decide) rfl (fun ls hl => ?_)
  refine lv_goto (tgt := 5) C.1 C.2.1 zd_Ja_fill_17 (by decide) ?_
  refine lv_iload_n C.1 C.2.1 zd_Ja_fill_5 rfl (lv_at hl 0 rfl) ?_
  refine lv_iload_n C.1 C.2.1 zd_Ja_fill_6 rfl (lv_at hl 1 rfl) ?_
  refine zr_icmp_ge (tgt := 20) C (znb rfl) (znb rfl) zd_Ja_fill_7 (by decide) (fun h => absurd h (by decide)) (fun _ => ?_)
  refine lv_aload_n C.1 C.2.1 zd_Ja_fill_10 rfl (lv_at hl 2 rfl) ?_
  refine lv_iload_n C.1 C.2.1 zd_Ja_fill_11 rfl (lv_at hl 0 rfl) ?_
  refine lv_iload_n C.1 C.2.1 zd_Ja_fill_12 rfl (lv_at hl 3 rfl) ?_
  refine va_iast C.1 C.2.1 hK hP hD hS 0 0 rfl rfl (i := zI (10)) (x := v) (zvp (n := 12) ⟨by decide, by decide⟩ (znb rfl)) zd_Ja_fill_13 (fun H locs hP hD hS => ?_)
  replace hP := zset_P (P2 := [(h0, ei B 12 (upd (upd (upd (upd (upd (upd (upd (upd (upd (upd (upd f 0 (v)) 1 (v)) 2 (v)) 3 (v)) 4 (v)) 5 (v)) 6 (v)) 7 (v)) 8 (v)) 9 (v)) 10 (v)))]) (fun _ => rfl) hP
  replace hD := zset_D (P2 := [(h0, ei B 12 (upd (upd (upd (upd (upd (upd (upd (upd (upd (upd (upd f 0 (v)) 1 (v)) 2 (v)) 3 (v)) 4 (v)) 5 (v)) 6 (v)) 7 (v)) 8 (v)) 9 (v)) 10 (v)))]) (fun _ => rfl) hD
  refine lv_iinc (v := zI (11)) (lv' := [(2, .int (zI (11))), (3, .int (zI (12))), (0, .ref h0), (1, .int v)]) C.1 C.2.1 zd_Ja_fill_14 hl (k := 0) rfl (by decide +kernel) (by decide) rfl (fun ls hl => ?_)
  refine lv_goto (tgt := 5) C.1 C.2.1 zd_Ja_fill_17 (by decide) ?_
  refine lv_iload_n C.1 C.2.1 zd_Ja_fill_5 rfl (lv_at hl 0 rfl) ?_
  refine lv_iload_n C.1 C.2.1 zd_Ja_fill_6 rfl (lv_at hl 1 rfl) ?_
  refine zr_icmp_ge (tgt := 20) C (znb rfl) (znb rfl) zd_Ja_fill_7 (by decide) (fun h => absurd h (by decide)) (fun _ => ?_)
  refine lv_aload_n C.1 C.2.1 zd_Ja_fill_10 rfl (lv_at hl 2 rfl) ?_
  refine lv_iload_n C.1 C.2.1 zd_Ja_fill_11 rfl (lv_at hl 0 rfl) ?_
  refine lv_iload_n C.1 C.2.1 zd_Ja_fill_12 rfl (lv_at hl 3 rfl) ?_
  refine va_iast C.1 C.2.1 hK hP hD hS 0 0 rfl rfl (i := zI (11)) (x := v) (zvp (n := 12) ⟨by decide, by decide⟩ (znb rfl)) zd_Ja_fill_13 (fun H locs hP hD hS => ?_)
  replace hP := zset_P (P2 := [(h0, ei B 12 (upd (upd (upd (upd (upd (upd (upd (upd (upd (upd (upd (upd f 0 (v)) 1 (v)) 2 (v)) 3 (v)) 4 (v)) 5 (v)) 6 (v)) 7 (v)) 8 (v)) 9 (v)) 10 (v)) 11 (v)))]) (fun _ => rfl) hP
  replace hD := zset_D (P2 := [(h0, ei B 12 (upd (upd (upd (upd (upd (upd (upd (upd (upd (upd (upd (upd f 0 (v)) 1 (v)) 2 (v)) 3 (v)) 4 (v)) 5 (v)) 6 (v)) 7 (v)) 8 (v)) 9 (v)) 10 (v)) 11 (v)))]) (fun _ => rfl) hD
  refine lv_iinc (v := zI (12)) (lv' := [(2, .int (zI (12))), (3, .int (zI (12))), (0, .ref h0), (1, .int v)]) C.1 C.2.1 zd_Ja_fill_14 hl (k := 0) rfl (by decide +kernel) (by decide) rfl (fun ls hl => ?_)
  refine lv_goto (tgt := 5) C.1 C.2.1 zd_Ja_fill_17 (by decide) ?_
  refine lv_iload_n C.1 C.2.1 zd_Ja_fill_5 rfl (lv_at hl 0 rfl) ?_
  refine lv_iload_n C.1 C.2.1 zd_Ja_fill_6 rfl (lv_at hl 1 rfl) ?_
  refine zr_icmp_ge (tgt := 20) C (znb rfl) (znb rfl) zd_Ja_fill_7 (by decide) (fun _ => ?_) (fun h => absurd (by decide) h)
  have hc : vp_cell (B.2.2.1 0) (12, .inl (fun _ => v)) = vp_cell (B.2.2.1 0) (12, .inl ((upd (upd (upd (upd (upd (upd (upd (upd (upd (upd (upd (upd f 0 (v)) 1 (v)) 2 (v)) 3 (v)) 4 (v)) 5 (v)) 6 (v)) 7 (v)) 8 (v)) 9 (v)) 10 (v)) 11 (v)))) := zc_ext (fun j hj => by rcases (show j = 0 ∨ j = 1 ∨ j = 2 ∨ j = 3 ∨ j = 4 ∨ j = 5 ∨ j = 6 ∨ j = 7 ∨ j = 8 ∨ j = 9 ∨ j = 10 ∨ j = 11 by omega) with rfl | rfl | rfl | rfl | rfl | rfl | rfl | rfl | rfl | rfl | rfl | rfl <;> rfl)
  have hP : va_P B.1 zcl (ww_JaF B h0 v ()) H := fun k x hx => by
    cases k with
    | zero =>
      cases hx
      have h9 := hP 0 _ rfl
      exact h9.trans (by rw [hc])
    | succ k => cases hx
  have hD : va_D A (ww_JaF B h0 v ()) := by
    refine ⟨fun i j x y hx hy _ => ?_, fun k x hx => ?_⟩
    · cases i with
      | zero =>
        cases j with
        | zero => rfl
        | succ j => cases hy
      | succ i => cases hx
    · cases k with
      | zero =>
        cases hx
        have h9 := hD.2 0 _ rfl
        exact h9
      | succ k => cases hx
  subst hAe
  exact zi_end C hr hlk () hP hD hS zd_Ja_fill_20
abbrev zy_P_init : MethodName := ⟨"IslandOffice$People", "<init>", "()V"⟩
abbrev zb_P_init : ByteArray := prog_7_method_1_code
theorem zd_P_init_0 : decode zb_P_init 0 = .ok (.aload_n 0, 1) := by decide +kernel
theorem zd_P_init_1 : decode zb_P_init 1 = .ok (.invokespecial 3, 3) := by decide +kernel
theorem zd_P_init_4 : decode zb_P_init 4 = .ok (.aload_n 0, 1) := by decide +kernel
theorem zd_P_init_5 : decode zb_P_init 5 = .ok (.iconst 0, 1) := by decide +kernel
theorem zd_P_init_6 : decode zb_P_init 6 = .ok (.putfield 9, 3) := by decide +kernel
theorem zd_P_init_9 : decode zb_P_init 9 = .ok (.aload_n 0, 1) := by decide +kernel
theorem zd_P_init_10 : decode zb_P_init 10 = .ok (.bipush 40, 2) := by decide +kernel
theorem zd_P_init_12 : decode zb_P_init 12 = .ok (.newarray .int, 2) := by decide +kernel
theorem zd_P_init_14 : decode zb_P_init 14 = .ok (.putfield 15, 3) := by decide +kernel
theorem zd_P_init_17 : decode zb_P_init 17 = .ok (.aload_n 0, 1) := by decide +kernel
theorem zd_P_init_18 : decode zb_P_init 18 = .ok (.bipush 40, 2) := by decide +kernel
theorem zd_P_init_20 : decode zb_P_init 20 = .ok (.newarray .int, 2) := by decide +kernel
theorem zd_P_init_22 : decode zb_P_init 22 = .ok (.putfield 19, 3) := by decide +kernel
theorem zd_P_init_25 : decode zb_P_init 25 = .ok (.aload_n 0, 1) := by decide +kernel
theorem zd_P_init_26 : decode zb_P_init 26 = .ok (.bipush 40, 2) := by decide +kernel
theorem zd_P_init_28 : decode zb_P_init 28 = .ok (.newarray .int, 2) := by decide +kernel
theorem zd_P_init_30 : decode zb_P_init 30 = .ok (.putfield 22, 3) := by decide +kernel
theorem zd_P_init_33 : decode zb_P_init 33 = .ok (.aload_n 0, 1) := by decide +kernel
theorem zd_P_init_34 : decode zb_P_init 34 = .ok (.bipush 40, 2) := by decide +kernel
theorem zd_P_init_36 : decode zb_P_init 36 = .ok (.newarray .int, 2) := by decide +kernel
theorem zd_P_init_38 : decode zb_P_init 38 = .ok (.putfield 25, 3) := by decide +kernel
theorem zd_P_init_41 : decode zb_P_init 41 = .ok (.aload_n 0, 1) := by decide +kernel
theorem zd_P_init_42 : decode zb_P_init 42 = .ok (.bipush 40, 2) := by decide +kernel
theorem zd_P_init_44 : decode zb_P_init 44 = .ok (.newarray .int, 2) := by decide +kernel
theorem zd_P_init_46 : decode zb_P_init 46 = .ok (.putfield 28, 3) := by decide +kernel
theorem zd_P_init_49 : decode zb_P_init 49 = .ok (.aload_n 0, 1) := by decide +kernel
theorem zd_P_init_50 : decode zb_P_init 50 = .ok (.bipush 40, 2) := by decide +kernel
theorem zd_P_init_52 : decode zb_P_init 52 = .ok (.newarray .int, 2) := by decide +kernel
theorem zd_P_init_54 : decode zb_P_init 54 = .ok (.putfield 31, 3) := by decide +kernel
theorem zd_P_init_57 : decode zb_P_init 57 = .ok (.aload_n 0, 1) := by decide +kernel
theorem zd_P_init_58 : decode zb_P_init 58 = .ok (.bipush 40, 2) := by decide +kernel
theorem zd_P_init_60 : decode zb_P_init 60 = .ok (.newarray .int, 2) := by decide +kernel
theorem zd_P_init_62 : decode zb_P_init 62 = .ok (.putfield 34, 3) := by decide +kernel
theorem zd_P_init_65 : decode zb_P_init 65 = .ok (.aload_n 0, 1) := by decide +kernel
theorem zd_P_init_66 : decode zb_P_init 66 = .ok (.bipush 40, 2) := by decide +kernel
theorem zd_P_init_68 : decode zb_P_init 68 = .ok (.newarray .int, 2) := by decide +kernel
theorem zd_P_init_70 : decode zb_P_init 70 = .ok (.putfield 37, 3) := by decide +kernel
theorem zd_P_init_73 : decode zb_P_init 73 = .ok (.aload_n 0, 1) := by decide +kernel
theorem zd_P_init_74 : decode zb_P_init 74 = .ok (.bipush 40, 2) := by decide +kernel
theorem zd_P_init_76 : decode zb_P_init 76 = .ok (.newarray .int, 2) := by decide +kernel
theorem zd_P_init_78 : decode zb_P_init 78 = .ok (.putfield 40, 3) := by decide +kernel
theorem zd_P_init_81 : decode zb_P_init 81 = .ok (.return_, 1) := by decide +kernel
theorem zdv_P : ∀ j, j < 10 → defaultValue (zt_P j) = vp_V [.int 0, .null, .null, .null, .null, .null, .null, .null, .null, .null] j := by
  intro j hj
  rcases (show j = 0 ∨ j = 1 ∨ j = 2 ∨ j = 3 ∨ j = 4 ∨ j = 5 ∨ j = 6 ∨ j = 7 ∨ j = 8 ∨ j = 9 by omega) with rfl | rfl | rfl | rfl | rfl | rfl | rfl | rfl | rfl | rfl <;> rfl
abbrev zm_iP : Room := { frames := 1, cells := 9, slots := 360, locals := 64 }
def ww_P (B : zB) (h0 : Nat) (q : Nat → Nat) : va_W := (h0, .inr (6, [.int (zI (0)), .ref (q 0), .ref (q 1), .ref (q 2), .ref (q 3), .ref (q 4), .ref (q 5), .ref (q 6), .ref (q 7), .ref (q 8)])) :: (((q 8), e0 B 40) :: (((q 7), e0 B 40) :: (((q 6), e0 B 40) :: (((q 5), e0 B 40) :: (((q 4), e0 B 40) :: (((q 3), e0 B 40) :: (((q 2), e0 B 40) :: (((q 1), e0 B 40) :: (((q 0), e0 B 40) :: ([]))))))))))
set_option maxHeartbeats 4000000 in
set_option maxRecDepth 100000 in
theorem zin_P {l : Launch} {B : zB} (h0 : Nat) (sz : Nat) (hB : ∀ q, va_A [(h0, .inr (6, [.int 0, .null, .null, .null, .null, .null, .null, .null, .null, .null]))] sz q → B.2.2.2 q) : Met l zy_P_init (Cond.code zy_P_init zb_P_init 1 none :: zT) zm_iP (va_Pc [.ref h0] (zPi B [(h0, .inr (6, [.int 0, .null, .null, .null, .null, .null, .null, .null, .null, .null]))] sz)) (zQc B [(h0, .inr (6, [.int 0, .null, .null, .null, .null, .null, .null, .null, .null, .null]))] sz (ww_P B h0)) 9 360 (va_A [(h0, .inr (6, [.int 0, .null, .null, .null, .null, .null, .null, .null, .null, .null]))] sz) := by
  refine zmeti (by decide) (Nat.le_of_ble_eq_true rfl) (fun p e s m args below meth c C hr hlk hnm hsz hP hD hS hK hX hst hA ls hl => ?_)
  have hAB := hB
  subst hsz
  generalize hAe : va_A [(h0, .inr (6, [.int 0, .null, .null, .null, .null, .null, .null, .null, .null, .null]))] s.heap.size = A at *
  have hl : lv_has ls 1 [(0, .ref h0)] := hl
  have hP : va_P B.1 zcl ([(h0, .inr (6, [.int 0, .null, .null, .null, .null, .null, .null, .null, .null, .null]))] ++ []) s.heap := hP
  have hD : va_D A ([(h0, .inr (6, [.int 0, .null, .null, .null, .null, .null, .null, .null, .null, .null]))] ++ []) := hD
  refine lv_aload_n C.1 C.2.1 zd_P_init_0 rfl (lv_at hl 0 rfl) ?_
  refine zo_obj C zk_51 zk_31 zk_32 hl.1 zd_P_init_1 (Nat.le_of_ble_eq_true rfl) (Nat.le_of_ble_eq_true rfl) ?_
  refine lv_aload_n C.1 C.2.1 zd_P_init_4 rfl (lv_at hl 0 rfl) ?_
  refine zr_iconst C zd_P_init_5 ?_
  refine va_put (ci := 6) (v := .int (zI (0))) (ty := zt_P 0) (C := zR_P) (T := zF_P) (N := 10) C.1 C.2.1 C.2.2.2.2 zh_P zt_P zt_P_ok zn_P C.2.2.2.1 hK hP hD hS 0 rfl rfl 0 (by decide) (C.2.2.2.2 _ zk_52) (fun _ h9 => h9) rfl (zt_P_ok 0 (by decide)) rfl rfl (Nat.le_of_ble_eq_true rfl) zd_P_init_6 (fun H locs hP hD hS => ?_)
  replace hP := zset_P (P2 := [(h0, .inr (6, [.int (zI (0)), .null, .null, .null, .null, .null, .null, .null, .null, .null]))]) (fun _ => rfl) hP
  replace hD := zset_D (P2 := [(h0, .inr (6, [.int (zI (0)), .null, .null, .null, .null, .null, .null, .null, .null, .null]))]) (fun _ => rfl) hD
  refine lv_aload_n C.1 C.2.1 zd_P_init_9 rfl (lv_at hl 0 rfl) ?_
  refine zr_bipush C zd_P_init_10 (by decide) ?_
  refine zi_newi (N := 40) C hK hP hD hS hA rfl (by decide) (Nat.le_of_ble_eq_true rfl) (Nat.le_of_ble_eq_true rfl) zk_108 zd_P_init_12 (fun q12_0 H hP hD hS => ?_)
  refine W.widen (k := 1) (n := 40) (Nat.le_of_ble_eq_true rfl) (Nat.le_of_ble_eq_true rfl) ?_
  refine va_putF (ci := 6) (v := .ref q12_0) (ty := zt_P 1) (C := zR_P) (T := zF_P) (N := 10) C.1 C.2.1 C.2.2.2.2 zh_P zt_P zt_P_ok zn_P C.2.2.2.1 hK hP hD hS 0 rfl rfl 1 (by decide) (C.2.2.2.2 _ zk_57) (fun _ h9 => h9) rfl hnm rfl (zt_P_ok 1 (by decide)) rfl rfl (Nat.le_of_ble_eq_true rfl) zd_P_init_14 (fun H locs hP hD hS => ?_)
  replace hP := zset_P (P2 := [(h0, .inr (6, [.int (zI (0)), .ref q12_0, .null, .null, .null, .null, .null, .null, .null, .null]))]) (fun _ => rfl) hP
  replace hD := zset_D (P2 := [(h0, .inr (6, [.int (zI (0)), .ref q12_0, .null, .null, .null, .null, .null, .null, .null, .null]))]) (fun _ => rfl) hD
  refine lv_aload_n C.1 C.2.1 zd_P_init_17 rfl (lv_at hl 0 rfl) ?_
  refine zr_bipush C zd_P_init_18 (by decide) ?_
  refine zi_newi (N := 40) C hK hP hD hS hA rfl (by decide) (Nat.le_of_ble_eq_true rfl) (Nat.le_of_ble_eq_true rfl) zk_108 zd_P_init_20 (fun q20_1 H hP hD hS => ?_)
  refine W.widen (k := 2) (n := 80) (Nat.le_of_ble_eq_true rfl) (Nat.le_of_ble_eq_true rfl) ?_
  refine va_putF (ci := 6) (v := .ref q20_1) (ty := zt_P 2) (C := zR_P) (T := zF_P) (N := 10) C.1 C.2.1 C.2.2.2.2 zh_P zt_P zt_P_ok zn_P C.2.2.2.1 hK hP hD hS 0 rfl rfl 2 (by decide) (C.2.2.2.2 _ zk_58) (fun _ h9 => h9) rfl hnm rfl (zt_P_ok 2 (by decide)) rfl rfl (Nat.le_of_ble_eq_true rfl) zd_P_init_22 (fun H locs hP hD hS => ?_)
  replace hP := zset_P (P2 := [(h0, .inr (6, [.int (zI (0)), .ref q12_0, .ref q20_1, .null, .null, .null, .null, .null, .null, .null]))]) (fun _ => rfl) hP
  replace hD := zset_D (P2 := [(h0, .inr (6, [.int (zI (0)), .ref q12_0, .ref q20_1, .null, .null, .null, .null, .null, .null, .null]))]) (fun _ => rfl) hD
  refine lv_aload_n C.1 C.2.1 zd_P_init_25 rfl (lv_at hl 0 rfl) ?_
  refine zr_bipush C zd_P_init_26 (by decide) ?_
  refine zi_newi (N := 40) C hK hP hD hS hA rfl (by decide) (Nat.le_of_ble_eq_true rfl) (Nat.le_of_ble_eq_true rfl) zk_108 zd_P_init_28 (fun q28_2 H hP hD hS => ?_)
  refine W.widen (k := 3) (n := 120) (Nat.le_of_ble_eq_true rfl) (Nat.le_of_ble_eq_true rfl) ?_
  refine va_putF (ci := 6) (v := .ref q28_2) (ty := zt_P 3) (C := zR_P) (T := zF_P) (N := 10) C.1 C.2.1 C.2.2.2.2 zh_P zt_P zt_P_ok zn_P C.2.2.2.1 hK hP hD hS 0 rfl rfl 3 (by decide) (C.2.2.2.2 _ zk_63) (fun _ h9 => h9) rfl hnm rfl (zt_P_ok 3 (by decide)) rfl rfl (Nat.le_of_ble_eq_true rfl) zd_P_init_30 (fun H locs hP hD hS => ?_)
  replace hP := zset_P (P2 := [(h0, .inr (6, [.int (zI (0)), .ref q12_0, .ref q20_1, .ref q28_2, .null, .null, .null, .null, .null, .null]))]) (fun _ => rfl) hP
  replace hD := zset_D (P2 := [(h0, .inr (6, [.int (zI (0)), .ref q12_0, .ref q20_1, .ref q28_2, .null, .null, .null, .null, .null, .null]))]) (fun _ => rfl) hD
  refine lv_aload_n C.1 C.2.1 zd_P_init_33 rfl (lv_at hl 0 rfl) ?_
  refine zr_bipush C zd_P_init_34 (by decide) ?_
  refine zi_newi (N := 40) C hK hP hD hS hA rfl (by decide) (Nat.le_of_ble_eq_true rfl) (Nat.le_of_ble_eq_true rfl) zk_108 zd_P_init_36 (fun q36_3 H hP hD hS => ?_)
  refine W.widen (k := 4) (n := 160) (Nat.le_of_ble_eq_true rfl) (Nat.le_of_ble_eq_true rfl) ?_
  refine va_putF (ci := 6) (v := .ref q36_3) (ty := zt_P 4) (C := zR_P) (T := zF_P) (N := 10) C.1 C.2.1 C.2.2.2.2 zh_P zt_P zt_P_ok zn_P C.2.2.2.1 hK hP hD hS 0 rfl rfl 4 (by decide) (C.2.2.2.2 _ zk_66) (fun _ h9 => h9) rfl hnm rfl (zt_P_ok 4 (by decide)) rfl rfl (Nat.le_of_ble_eq_true rfl) zd_P_init_38 (fun H locs hP hD hS => ?_)
  replace hP := zset_P (P2 := [(h0, .inr (6, [.int (zI (0)), .ref q12_0, .ref q20_1, .ref q28_2, .ref q36_3, .null, .null, .null, .null, .null]))]) (fun _ => rfl) hP
  replace hD := zset_D (P2 := [(h0, .inr (6, [.int (zI (0)), .ref q12_0, .ref q20_1, .ref q28_2, .ref q36_3, .null, .null, .null, .null, .null]))]) (fun _ => rfl) hD
  refine lv_aload_n C.1 C.2.1 zd_P_init_41 rfl (lv_at hl 0 rfl) ?_
  refine zr_bipush C zd_P_init_42 (by decide) ?_
  refine zi_newi (N := 40) C hK hP hD hS hA rfl (by decide) (Nat.le_of_ble_eq_true rfl) (Nat.le_of_ble_eq_true rfl) zk_108 zd_P_init_44 (fun q44_4 H hP hD hS => ?_)
  refine W.widen (k := 5) (n := 200) (Nat.le_of_ble_eq_true rfl) (Nat.le_of_ble_eq_true rfl) ?_
  refine va_putF (ci := 6) (v := .ref q44_4) (ty := zt_P 5) (C := zR_P) (T := zF_P) (N := 10) C.1 C.2.1 C.2.2.2.2 zh_P zt_P zt_P_ok zn_P C.2.2.2.1 hK hP hD hS 0 rfl rfl 5 (by decide) (C.2.2.2.2 _ zk_70) (fun _ h9 => h9) rfl hnm rfl (zt_P_ok 5 (by decide)) rfl rfl (Nat.le_of_ble_eq_true rfl) zd_P_init_46 (fun H locs hP hD hS => ?_)
  replace hP := zset_P (P2 := [(h0, .inr (6, [.int (zI (0)), .ref q12_0, .ref q20_1, .ref q28_2, .ref q36_3, .ref q44_4, .null, .null, .null, .null]))]) (fun _ => rfl) hP
  replace hD := zset_D (P2 := [(h0, .inr (6, [.int (zI (0)), .ref q12_0, .ref q20_1, .ref q28_2, .ref q36_3, .ref q44_4, .null, .null, .null, .null]))]) (fun _ => rfl) hD
  refine lv_aload_n C.1 C.2.1 zd_P_init_49 rfl (lv_at hl 0 rfl) ?_
  refine zr_bipush C zd_P_init_50 (by decide) ?_
  refine zi_newi (N := 40) C hK hP hD hS hA rfl (by decide) (Nat.le_of_ble_eq_true rfl) (Nat.le_of_ble_eq_true rfl) zk_108 zd_P_init_52 (fun q52_5 H hP hD hS => ?_)
  refine W.widen (k := 6) (n := 240) (Nat.le_of_ble_eq_true rfl) (Nat.le_of_ble_eq_true rfl) ?_
  refine va_putF (ci := 6) (v := .ref q52_5) (ty := zt_P 6) (C := zR_P) (T := zF_P) (N := 10) C.1 C.2.1 C.2.2.2.2 zh_P zt_P zt_P_ok zn_P C.2.2.2.1 hK hP hD hS 0 rfl rfl 6 (by decide) (C.2.2.2.2 _ zk_74) (fun _ h9 => h9) rfl hnm rfl (zt_P_ok 6 (by decide)) rfl rfl (Nat.le_of_ble_eq_true rfl) zd_P_init_54 (fun H locs hP hD hS => ?_)
  replace hP := zset_P (P2 := [(h0, .inr (6, [.int (zI (0)), .ref q12_0, .ref q20_1, .ref q28_2, .ref q36_3, .ref q44_4, .ref q52_5, .null, .null, .null]))]) (fun _ => rfl) hP
  replace hD := zset_D (P2 := [(h0, .inr (6, [.int (zI (0)), .ref q12_0, .ref q20_1, .ref q28_2, .ref q36_3, .ref q44_4, .ref q52_5, .null, .null, .null]))]) (fun _ => rfl) hD
  refine lv_aload_n C.1 C.2.1 zd_P_init_57 rfl (lv_at hl 0 rfl) ?_
  refine zr_bipush C zd_P_init_58 (by decide) ?_
  refine zi_newi (N := 40) C hK hP hD hS hA rfl (by decide) (Nat.le_of_ble_eq_true rfl) (Nat.le_of_ble_eq_true rfl) zk_108 zd_P_init_60 (fun q60_6 H hP hD hS => ?_)
  refine W.widen (k := 7) (n := 280) (Nat.le_of_ble_eq_true rfl) (Nat.le_of_ble_eq_true rfl) ?_
  refine va_putF (ci := 6) (v := .ref q60_6) (ty := zt_P 7) (C := zR_P) (T := zF_P) (N := 10) C.1 C.2.1 C.2.2.2.2 zh_P zt_P zt_P_ok zn_P C.2.2.2.1 hK hP hD hS 0 rfl rfl 7 (by decide) (C.2.2.2.2 _ zk_77) (fun _ h9 => h9) rfl hnm rfl (zt_P_ok 7 (by decide)) rfl rfl (Nat.le_of_ble_eq_true rfl) zd_P_init_62 (fun H locs hP hD hS => ?_)
  replace hP := zset_P (P2 := [(h0, .inr (6, [.int (zI (0)), .ref q12_0, .ref q20_1, .ref q28_2, .ref q36_3, .ref q44_4, .ref q52_5, .ref q60_6, .null, .null]))]) (fun _ => rfl) hP
  replace hD := zset_D (P2 := [(h0, .inr (6, [.int (zI (0)), .ref q12_0, .ref q20_1, .ref q28_2, .ref q36_3, .ref q44_4, .ref q52_5, .ref q60_6, .null, .null]))]) (fun _ => rfl) hD
  refine lv_aload_n C.1 C.2.1 zd_P_init_65 rfl (lv_at hl 0 rfl) ?_
  refine zr_bipush C zd_P_init_66 (by decide) ?_
  refine zi_newi (N := 40) C hK hP hD hS hA rfl (by decide) (Nat.le_of_ble_eq_true rfl) (Nat.le_of_ble_eq_true rfl) zk_108 zd_P_init_68 (fun q68_7 H hP hD hS => ?_)
  refine W.widen (k := 8) (n := 320) (Nat.le_of_ble_eq_true rfl) (Nat.le_of_ble_eq_true rfl) ?_
  refine va_putF (ci := 6) (v := .ref q68_7) (ty := zt_P 8) (C := zR_P) (T := zF_P) (N := 10) C.1 C.2.1 C.2.2.2.2 zh_P zt_P zt_P_ok zn_P C.2.2.2.1 hK hP hD hS 0 rfl rfl 8 (by decide) (C.2.2.2.2 _ zk_81) (fun _ h9 => h9) rfl hnm rfl (zt_P_ok 8 (by decide)) rfl rfl (Nat.le_of_ble_eq_true rfl) zd_P_init_70 (fun H locs hP hD hS => ?_)
  replace hP := zset_P (P2 := [(h0, .inr (6, [.int (zI (0)), .ref q12_0, .ref q20_1, .ref q28_2, .ref q36_3, .ref q44_4, .ref q52_5, .ref q60_6, .ref q68_7, .null]))]) (fun _ => rfl) hP
  replace hD := zset_D (P2 := [(h0, .inr (6, [.int (zI (0)), .ref q12_0, .ref q20_1, .ref q28_2, .ref q36_3, .ref q44_4, .ref q52_5, .ref q60_6, .ref q68_7, .null]))]) (fun _ => rfl) hD
  refine lv_aload_n C.1 C.2.1 zd_P_init_73 rfl (lv_at hl 0 rfl) ?_
  refine zr_bipush C zd_P_init_74 (by decide) ?_
  refine zi_newi (N := 40) C hK hP hD hS hA rfl (by decide) (Nat.le_of_ble_eq_true rfl) (Nat.le_of_ble_eq_true rfl) zk_108 zd_P_init_76 (fun q76_8 H hP hD hS => ?_)
  refine W.widen (k := 9) (n := 360) (Nat.le_of_ble_eq_true rfl) (Nat.le_of_ble_eq_true rfl) ?_
  refine va_putF (ci := 6) (v := .ref q76_8) (ty := zt_P 9) (C := zR_P) (T := zF_P) (N := 10) C.1 C.2.1 C.2.2.2.2 zh_P zt_P zt_P_ok zn_P C.2.2.2.1 hK hP hD hS 0 rfl rfl 9 (by decide) (C.2.2.2.2 _ zk_84) (fun _ h9 => h9) rfl hnm rfl (zt_P_ok 9 (by decide)) rfl rfl (Nat.le_of_ble_eq_true rfl) zd_P_init_78 (fun H locs hP hD hS => ?_)
  replace hP := zset_P (P2 := [(h0, .inr (6, [.int (zI (0)), .ref q12_0, .ref q20_1, .ref q28_2, .ref q36_3, .ref q44_4, .ref q52_5, .ref q60_6, .ref q68_7, .ref q76_8]))]) (fun _ => rfl) hP
  replace hD := zset_D (P2 := [(h0, .inr (6, [.int (zI (0)), .ref q12_0, .ref q20_1, .ref q28_2, .ref q36_3, .ref q44_4, .ref q52_5, .ref q60_6, .ref q68_7, .ref q76_8]))]) (fun _ => rfl) hD
  have hP : va_P B.1 zcl (ww_P B h0 (fun i => [q12_0, q20_1, q28_2, q36_3, q44_4, q52_5, q60_6, q68_7, q76_8].getD i 0)) H := hP
  have hD : va_D A (ww_P B h0 (fun i => [q12_0, q20_1, q28_2, q36_3, q44_4, q52_5, q60_6, q68_7, q76_8].getD i 0)) := hD
  exact zi_end2 (w := ww_P B h0) (u := (fun i => [q12_0, q20_1, q28_2, q36_3, q44_4, q52_5, q60_6, q68_7, q76_8].getD i 0)) (cells := 9) (slots := 360) C hr hlk hAe hP hD hS zd_P_init_81
abbrev zy_L_init : MethodName := ⟨"IslandOffice$Laws", "<init>", "([[I)V"⟩
abbrev zb_L_init : ByteArray := prog_6_method_1_code
theorem zd_L_init_0 : decode zb_L_init 0 = .ok (.aload_n 0, 1) := by decide +kernel
theorem zd_L_init_1 : decode zb_L_init 1 = .ok (.invokespecial 3, 3) := by decide +kernel
theorem zd_L_init_4 : decode zb_L_init 4 = .ok (.aload_n 0, 1) := by decide +kernel
theorem zd_L_init_5 : decode zb_L_init 5 = .ok (.iconst 0, 1) := by decide +kernel
theorem zd_L_init_6 : decode zb_L_init 6 = .ok (.putfield 9, 3) := by decide +kernel
theorem zd_L_init_9 : decode zb_L_init 9 = .ok (.aload_n 0, 1) := by decide +kernel
theorem zd_L_init_10 : decode zb_L_init 10 = .ok (.bipush 12, 2) := by decide +kernel
theorem zd_L_init_12 : decode zb_L_init 12 = .ok (.newarray .int, 2) := by decide +kernel
theorem zd_L_init_14 : decode zb_L_init 14 = .ok (.putfield 15, 3) := by decide +kernel
theorem zd_L_init_17 : decode zb_L_init 17 = .ok (.aload_n 0, 1) := by decide +kernel
theorem zd_L_init_18 : decode zb_L_init 18 = .ok (.bipush 12, 2) := by decide +kernel
theorem zd_L_init_20 : decode zb_L_init 20 = .ok (.newarray .int, 2) := by decide +kernel
theorem zd_L_init_22 : decode zb_L_init 22 = .ok (.putfield 19, 3) := by decide +kernel
theorem zd_L_init_25 : decode zb_L_init 25 = .ok (.aload_n 0, 1) := by decide +kernel
theorem zd_L_init_26 : decode zb_L_init 26 = .ok (.bipush 12, 2) := by decide +kernel
theorem zd_L_init_28 : decode zb_L_init 28 = .ok (.newarray .int, 2) := by decide +kernel
theorem zd_L_init_30 : decode zb_L_init 30 = .ok (.putfield 22, 3) := by decide +kernel
theorem zd_L_init_33 : decode zb_L_init 33 = .ok (.aload_n 0, 1) := by decide +kernel
theorem zd_L_init_34 : decode zb_L_init 34 = .ok (.bipush 12, 2) := by decide +kernel
theorem zd_L_init_36 : decode zb_L_init 36 = .ok (.newarray .int, 2) := by decide +kernel
theorem zd_L_init_38 : decode zb_L_init 38 = .ok (.putfield 25, 3) := by decide +kernel
theorem zd_L_init_41 : decode zb_L_init 41 = .ok (.aload_n 0, 1) := by decide +kernel
theorem zd_L_init_42 : decode zb_L_init 42 = .ok (.bipush 12, 2) := by decide +kernel
theorem zd_L_init_44 : decode zb_L_init 44 = .ok (.newarray .int, 2) := by decide +kernel
theorem zd_L_init_46 : decode zb_L_init 46 = .ok (.putfield 28, 3) := by decide +kernel
theorem zd_L_init_49 : decode zb_L_init 49 = .ok (.aload_n 0, 1) := by decide +kernel
theorem zd_L_init_50 : decode zb_L_init 50 = .ok (.bipush 12, 2) := by decide +kernel
theorem zd_L_init_52 : decode zb_L_init 52 = .ok (.newarray .int, 2) := by decide +kernel
theorem zd_L_init_54 : decode zb_L_init 54 = .ok (.putfield 31, 3) := by decide +kernel
theorem zd_L_init_57 : decode zb_L_init 57 = .ok (.aload_n 0, 1) := by decide +kernel
theorem zd_L_init_58 : decode zb_L_init 58 = .ok (.bipush 12, 2) := by decide +kernel
theorem zd_L_init_60 : decode zb_L_init 60 = .ok (.newarray .int, 2) := by decide +kernel
theorem zd_L_init_62 : decode zb_L_init 62 = .ok (.putfield 34, 3) := by decide +kernel
theorem zd_L_init_65 : decode zb_L_init 65 = .ok (.aload_n 0, 1) := by decide +kernel
theorem zd_L_init_66 : decode zb_L_init 66 = .ok (.bipush 12, 2) := by decide +kernel
theorem zd_L_init_68 : decode zb_L_init 68 = .ok (.newarray .int, 2) := by decide +kernel
theorem zd_L_init_70 : decode zb_L_init 70 = .ok (.putfield 37, 3) := by decide +kernel
theorem zd_L_init_73 : decode zb_L_init 73 = .ok (.aload_n 0, 1) := by decide +kernel
theorem zd_L_init_74 : decode zb_L_init 74 = .ok (.bipush 12, 2) := by decide +kernel
theorem zd_L_init_76 : decode zb_L_init 76 = .ok (.newarray .int, 2) := by decide +kernel
theorem zd_L_init_78 : decode zb_L_init 78 = .ok (.putfield 40, 3) := by decide +kernel
theorem zd_L_init_81 : decode zb_L_init 81 = .ok (.aload_n 0, 1) := by decide +kernel
theorem zd_L_init_82 : decode zb_L_init 82 = .ok (.aload_n 1, 1) := by decide +kernel
theorem zd_L_init_83 : decode zb_L_init 83 = .ok (.putfield 43, 3) := by decide +kernel
theorem zd_L_init_86 : decode zb_L_init 86 = .ok (.return_, 1) := by decide +kernel
theorem zdv_L : ∀ j, j < 11 → defaultValue (zt_L j) = vp_V [.int 0, .null, .null, .null, .null, .null, .null, .null, .null, .null, .null] j := by
  intro j hj
  rcases (show j = 0 ∨ j = 1 ∨ j = 2 ∨ j = 3 ∨ j = 4 ∨ j = 5 ∨ j = 6 ∨ j = 7 ∨ j = 8 ∨ j = 9 ∨ j = 10 by omega) with rfl | rfl | rfl | rfl | rfl | rfl | rfl | rfl | rfl | rfl | rfl <;> rfl
abbrev zm_iL : Room := { frames := 1, cells := 9, slots := 108, locals := 64 }
def ww_L (B : zB) (h0 : Nat) (p1 : Nat) (q : Nat → Nat) : va_W := (h0, .inr (5, [.int (zI (0)), .ref (q 0), .ref (q 1), .ref (q 2), .ref (q 3), .ref (q 4), .ref (q 5), .ref (q 6), .ref (q 7), .ref (q 8), .ref p1])) :: (((q 8), e0 B 12) :: (((q 7), e0 B 12) :: (((q 6), e0 B 12) :: (((q 5), e0 B 12) :: (((q 4), e0 B 12) :: (((q 3), e0 B 12) :: (((q 2), e0 B 12) :: (((q 1), e0 B 12) :: (((q 0), e0 B 12) :: ([]))))))))))
set_option maxHeartbeats 4000000 in
set_option maxRecDepth 100000 in
theorem zin_L {l : Launch} {B : zB} (h0 : Nat) (p1 : Nat) (sz : Nat) (hB : ∀ q, va_A [(h0, .inr (5, [.int 0, .null, .null, .null, .null, .null, .null, .null, .null, .null, .null]))] sz q → B.2.2.2 q) : Met l zy_L_init (Cond.code zy_L_init zb_L_init 2 none :: zT) zm_iL (va_Pc [.ref h0, .ref p1] (zPi B [(h0, .inr (5, [.int 0, .null, .null, .null, .null, .null, .null, .null, .null, .null, .null]))] sz)) (zQc B [(h0, .inr (5, [.int 0, .null, .null, .null, .null, .null, .null, .null, .null, .null, .null]))] sz (ww_L B h0 p1)) 9 108 (va_A [(h0, .inr (5, [.int 0, .null, .null, .null, .null, .null, .null, .null, .null, .null, .null]))] sz) := by
  refine zmeti (by decide) (Nat.le_of_ble_eq_true rfl) (fun p e s m args below meth c C hr hlk hnm hsz hP hD hS hK hX hst hA ls hl => ?_)
  have hAB := hB
  subst hsz
  generalize hAe : va_A [(h0, .inr (5, [.int 0, .null, .null, .null, .null, .null, .null, .null, .null, .null, .null]))] s.heap.size = A at *
  have hl : lv_has ls 2 [(0, .ref h0), (1, .ref p1)] := hl
  have hP : va_P B.1 zcl ([(h0, .inr (5, [.int 0, .null, .null, .null, .null, .null, .null, .null, .null, .null, .null]))] ++ []) s.heap := hP
  have hD : va_D A ([(h0, .inr (5, [.int 0, .null, .null, .null, .null, .null, .null, .null, .null, .null, .null]))] ++ []) := hD
  refine lv_aload_n C.1 C.2.1 zd_L_init_0 rfl (lv_at hl 0 rfl) ?_
  refine zo_obj C zk_114 zk_31 zk_32 hl.1 zd_L_init_1 (Nat.le_of_ble_eq_true rfl) (Nat.le_of_ble_eq_true rfl) ?_
  refine lv_aload_n C.1 C.2.1 zd_L_init_4 rfl (lv_at hl 0 rfl) ?_
  refine zr_iconst C zd_L_init_5 ?_
  refine va_put (ci := 5) (v := .int (zI (0))) (ty := zt_L 0) (C := zR_L) (T := zF_L) (N := 11) C.1 C.2.1 C.2.2.2.2 zh_L zt_L zt_L_ok zn_L C.2.2.2.1 hK hP hD hS 0 rfl rfl 0 (by decide) (C.2.2.2.2 _ zk_115) (fun _ h9 => h9) rfl (zt_L_ok 0 (by decide)) rfl rfl (Nat.le_of_ble_eq_true rfl) zd_L_init_6 (fun H locs hP hD hS => ?_)
  replace hP := zset_P (P2 := [(h0, .inr (5, [.int (zI (0)), .null, .null, .null, .null, .null, .null, .null, .null, .null, .null]))]) (fun _ => rfl) hP
  replace hD := zset_D (P2 := [(h0, .inr (5, [.int (zI (0)), .null, .null, .null, .null, .null, .null, .null, .null, .null, .null]))]) (fun _ => rfl) hD
  refine lv_aload_n C.1 C.2.1 zd_L_init_9 rfl (lv_at hl 0 rfl) ?_
  refine zr_bipush C zd_L_init_10 (by decide) ?_
  refine zi_newi (N := 12) C hK hP hD hS hA rfl (by decide) (Nat.le_of_ble_eq_true rfl) (Nat.le_of_ble_eq_true rfl) zk_108 zd_L_init_12 (fun q12_0 H hP hD hS => ?_)
  refine W.widen (k := 1) (n := 12) (Nat.le_of_ble_eq_true rfl) (Nat.le_of_ble_eq_true rfl) ?_
  refine va_putF (ci := 5) (v := .ref q12_0) (ty := zt_L 1) (C := zR_L) (T := zF_L) (N := 11) C.1 C.2.1 C.2.2.2.2 zh_L zt_L zt_L_ok zn_L C.2.2.2.1 hK hP hD hS 0 rfl rfl 1 (by decide) (C.2.2.2.2 _ zk_117) (fun _ h9 => h9) rfl hnm rfl (zt_L_ok 1 (by decide)) rfl rfl (Nat.le_of_ble_eq_true rfl) zd_L_init_14 (fun H locs hP hD hS => ?_)
  replace hP := zset_P (P2 := [(h0, .inr (5, [.int (zI (0)), .ref q12_0, .null, .null, .null, .null, .null, .null, .null, .null, .null]))]) (fun _ => rfl) hP
  replace hD := zset_D (P2 := [(h0, .inr (5, [.int (zI (0)), .ref q12_0, .null, .null, .null, .null, .null, .null, .null, .null, .null]))]) (fun _ => rfl) hD
  refine lv_aload_n C.1 C.2.1 zd_L_init_17 rfl (lv_at hl 0 rfl) ?_
  refine zr_bipush C zd_L_init_18 (by decide) ?_
  refine zi_newi (N := 12) C hK hP hD hS hA rfl (by decide) (Nat.le_of_ble_eq_true rfl) (Nat.le_of_ble_eq_true rfl) zk_108 zd_L_init_20 (fun q20_1 H hP hD hS => ?_)
  refine W.widen (k := 2) (n := 24) (Nat.le_of_ble_eq_true rfl) (Nat.le_of_ble_eq_true rfl) ?_
  refine va_putF (ci := 5) (v := .ref q20_1) (ty := zt_L 2) (C := zR_L) (T := zF_L) (N := 11) C.1 C.2.1 C.2.2.2.2 zh_L zt_L zt_L_ok zn_L C.2.2.2.1 hK hP hD hS 0 rfl rfl 2 (by decide) (C.2.2.2.2 _ zk_120) (fun _ h9 => h9) rfl hnm rfl (zt_L_ok 2 (by decide)) rfl rfl (Nat.le_of_ble_eq_true rfl) zd_L_init_22 (fun H locs hP hD hS => ?_)
  replace hP := zset_P (P2 := [(h0, .inr (5, [.int (zI (0)), .ref q12_0, .ref q20_1, .null, .null, .null, .null, .null, .null, .null, .null]))]) (fun _ => rfl) hP
  replace hD := zset_D (P2 := [(h0, .inr (5, [.int (zI (0)), .ref q12_0, .ref q20_1, .null, .null, .null, .null, .null, .null, .null, .null]))]) (fun _ => rfl) hD
  refine lv_aload_n C.1 C.2.1 zd_L_init_25 rfl (lv_at hl 0 rfl) ?_
  refine zr_bipush C zd_L_init_26 (by decide) ?_
  refine zi_newi (N := 12) C hK hP hD hS hA rfl (by decide) (Nat.le_of_ble_eq_true rfl) (Nat.le_of_ble_eq_true rfl) zk_108 zd_L_init_28 (fun q28_2 H hP hD hS => ?_)
  refine W.widen (k := 3) (n := 36) (Nat.le_of_ble_eq_true rfl) (Nat.le_of_ble_eq_true rfl) ?_
  refine va_putF (ci := 5) (v := .ref q28_2) (ty := zt_L 3) (C := zR_L) (T := zF_L) (N := 11) C.1 C.2.1 C.2.2.2.2 zh_L zt_L zt_L_ok zn_L C.2.2.2.1 hK hP hD hS 0 rfl rfl 3 (by decide) (C.2.2.2.2 _ zk_122) (fun _ h9 => h9) rfl hnm rfl (zt_L_ok 3 (by decide)) rfl rfl (Nat.le_of_ble_eq_true rfl) zd_L_init_30 (fun H locs hP hD hS => ?_)
  replace hP := zset_P (P2 := [(h0, .inr (5, [.int (zI (0)), .ref q12_0, .ref q20_1, .ref q28_2, .null, .null, .null, .null, .null, .null, .null]))]) (fun _ => rfl) hP
  replace hD := zset_D (P2 := [(h0, .inr (5, [.int (zI (0)), .ref q12_0, .ref q20_1, .ref q28_2, .null, .null, .null, .null, .null, .null, .null]))]) (fun _ => rfl) hD
  refine lv_aload_n C.1 C.2.1 zd_L_init_33 rfl (lv_at hl 0 rfl) ?_
  refine zr_bipush C zd_L_init_34 (by decide) ?_
  refine zi_newi (N := 12) C hK hP hD hS hA rfl (by decide) (Nat.le_of_ble_eq_true rfl) (Nat.le_of_ble_eq_true rfl) zk_108 zd_L_init_36 (fun q36_3 H hP hD hS => ?_)
  refine W.widen (k := 4) (n := 48) (Nat.le_of_ble_eq_true rfl) (Nat.le_of_ble_eq_true rfl) ?_
  refine va_putF (ci := 5) (v := .ref q36_3) (ty := zt_L 4) (C := zR_L) (T := zF_L) (N := 11) C.1 C.2.1 C.2.2.2.2 zh_L zt_L zt_L_ok zn_L C.2.2.2.1 hK hP hD hS 0 rfl rfl 4 (by decide) (C.2.2.2.2 _ zk_124) (fun _ h9 => h9) rfl hnm rfl (zt_L_ok 4 (by decide)) rfl rfl (Nat.le_of_ble_eq_true rfl) zd_L_init_38 (fun H locs hP hD hS => ?_)
  replace hP := zset_P (P2 := [(h0, .inr (5, [.int (zI (0)), .ref q12_0, .ref q20_1, .ref q28_2, .ref q36_3, .null, .null, .null, .null, .null, .null]))]) (fun _ => rfl) hP
  replace hD := zset_D (P2 := [(h0, .inr (5, [.int (zI (0)), .ref q12_0, .ref q20_1, .ref q28_2, .ref q36_3, .null, .null, .null, .null, .null, .null]))]) (fun _ => rfl) hD
  refine lv_aload_n C.1 C.2.1 zd_L_init_41 rfl (lv_at hl 0 rfl) ?_
  refine zr_bipush C zd_L_init_42 (by decide) ?_
  refine zi_newi (N := 12) C hK hP hD hS hA rfl (by decide) (Nat.le_of_ble_eq_true rfl) (Nat.le_of_ble_eq_true rfl) zk_108 zd_L_init_44 (fun q44_4 H hP hD hS => ?_)
  refine W.widen (k := 5) (n := 60) (Nat.le_of_ble_eq_true rfl) (Nat.le_of_ble_eq_true rfl) ?_
  refine va_putF (ci := 5) (v := .ref q44_4) (ty := zt_L 5) (C := zR_L) (T := zF_L) (N := 11) C.1 C.2.1 C.2.2.2.2 zh_L zt_L zt_L_ok zn_L C.2.2.2.1 hK hP hD hS 0 rfl rfl 5 (by decide) (C.2.2.2.2 _ zk_127) (fun _ h9 => h9) rfl hnm rfl (zt_L_ok 5 (by decide)) rfl rfl (Nat.le_of_ble_eq_true rfl) zd_L_init_46 (fun H locs hP hD hS => ?_)
  replace hP := zset_P (P2 := [(h0, .inr (5, [.int (zI (0)), .ref q12_0, .ref q20_1, .ref q28_2, .ref q36_3, .ref q44_4, .null, .null, .null, .null, .null]))]) (fun _ => rfl) hP
  replace hD := zset_D (P2 := [(h0, .inr (5, [.int (zI (0)), .ref q12_0, .ref q20_1, .ref q28_2, .ref q36_3, .ref q44_4, .null, .null, .null, .null, .null]))]) (fun _ => rfl) hD
  refine lv_aload_n C.1 C.2.1 zd_L_init_49 rfl (lv_at hl 0 rfl) ?_
  refine zr_bipush C zd_L_init_50 (by decide) ?_
  refine zi_newi (N := 12) C hK hP hD hS hA rfl (by decide) (Nat.le_of_ble_eq_true rfl) (Nat.le_of_ble_eq_true rfl) zk_108 zd_L_init_52 (fun q52_5 H hP hD hS => ?_)
  refine W.widen (k := 6) (n := 72) (Nat.le_of_ble_eq_true rfl) (Nat.le_of_ble_eq_true rfl) ?_
  refine va_putF (ci := 5) (v := .ref q52_5) (ty := zt_L 6) (C := zR_L) (T := zF_L) (N := 11) C.1 C.2.1 C.2.2.2.2 zh_L zt_L zt_L_ok zn_L C.2.2.2.1 hK hP hD hS 0 rfl rfl 6 (by decide) (C.2.2.2.2 _ zk_129) (fun _ h9 => h9) rfl hnm rfl (zt_L_ok 6 (by decide)) rfl rfl (Nat.le_of_ble_eq_true rfl) zd_L_init_54 (fun H locs hP hD hS => ?_)
  replace hP := zset_P (P2 := [(h0, .inr (5, [.int (zI (0)), .ref q12_0, .ref q20_1, .ref q28_2, .ref q36_3, .ref q44_4, .ref q52_5, .null, .null, .null, .null]))]) (fun _ => rfl) hP
  replace hD := zset_D (P2 := [(h0, .inr (5, [.int (zI (0)), .ref q12_0, .ref q20_1, .ref q28_2, .ref q36_3, .ref q44_4, .ref q52_5, .null, .null, .null, .null]))]) (fun _ => rfl) hD
  refine lv_aload_n C.1 C.2.1 zd_L_init_57 rfl (lv_at hl 0 rfl) ?_
  refine zr_bipush C zd_L_init_58 (by decide) ?_
  refine zi_newi (N := 12) C hK hP hD hS hA rfl (by decide) (Nat.le_of_ble_eq_true rfl) (Nat.le_of_ble_eq_true rfl) zk_108 zd_L_init_60 (fun q60_6 H hP hD hS => ?_)
  refine W.widen (k := 7) (n := 84) (Nat.le_of_ble_eq_true rfl) (Nat.le_of_ble_eq_true rfl) ?_
  refine va_putF (ci := 5) (v := .ref q60_6) (ty := zt_L 7) (C := zR_L) (T := zF_L) (N := 11) C.1 C.2.1 C.2.2.2.2 zh_L zt_L zt_L_ok zn_L C.2.2.2.1 hK hP hD hS 0 rfl rfl 7 (by decide) (C.2.2.2.2 _ zk_131) (fun _ h9 => h9) rfl hnm rfl (zt_L_ok 7 (by decide)) rfl rfl (Nat.le_of_ble_eq_true rfl) zd_L_init_62 (fun H locs hP hD hS => ?_)
  replace hP := zset_P (P2 := [(h0, .inr (5, [.int (zI (0)), .ref q12_0, .ref q20_1, .ref q28_2, .ref q36_3, .ref q44_4, .ref q52_5, .ref q60_6, .null, .null, .null]))]) (fun _ => rfl) hP
  replace hD := zset_D (P2 := [(h0, .inr (5, [.int (zI (0)), .ref q12_0, .ref q20_1, .ref q28_2, .ref q36_3, .ref q44_4, .ref q52_5, .ref q60_6, .null, .null, .null]))]) (fun _ => rfl) hD
  refine lv_aload_n C.1 C.2.1 zd_L_init_65 rfl (lv_at hl 0 rfl) ?_
  refine zr_bipush C zd_L_init_66 (by decide) ?_
  refine zi_newi (N := 12) C hK hP hD hS hA rfl (by decide) (Nat.le_of_ble_eq_true rfl) (Nat.le_of_ble_eq_true rfl) zk_108 zd_L_init_68 (fun q68_7 H hP hD hS => ?_)
  refine W.widen (k := 8) (n := 96) (Nat.le_of_ble_eq_true rfl) (Nat.le_of_ble_eq_true rfl) ?_
  refine va_putF (ci := 5) (v := .ref q68_7) (ty := zt_L 8) (C := zR_L) (T := zF_L) (N := 11) C.1 C.2.1 C.2.2.2.2 zh_L zt_L zt_L_ok zn_L C.2.2.2.1 hK hP hD hS 0 rfl rfl 8 (by decide) (C.2.2.2.2 _ zk_132) (fun _ h9 => h9) rfl hnm rfl (zt_L_ok 8 (by decide)) rfl rfl (Nat.le_of_ble_eq_true rfl) zd_L_init_70 (fun H locs hP hD hS => ?_)
  replace hP := zset_P (P2 := [(h0, .inr (5, [.int (zI (0)), .ref q12_0, .ref q20_1, .ref q28_2, .ref q36_3, .ref q44_4, .ref q52_5, .ref q60_6, .ref q68_7, .null, .null]))]) (fun _ => rfl) hP
  replace hD := zset_D (P2 := [(h0, .inr (5, [.int (zI (0)), .ref q12_0, .ref q20_1, .ref q28_2, .ref q36_3, .ref q44_4, .ref q52_5, .ref q60_6, .ref q68_7, .null, .null]))]) (fun _ => rfl) hD
  refine lv_aload_n C.1 C.2.1 zd_L_init_73 rfl (lv_at hl 0 rfl) ?_
  refine zr_bipush C zd_L_init_74 (by decide) ?_
  refine zi_newi (N := 12) C hK hP hD hS hA rfl (by decide) (Nat.le_of_ble_eq_true rfl) (Nat.le_of_ble_eq_true rfl) zk_108 zd_L_init_76 (fun q76_8 H hP hD hS => ?_)
  refine W.widen (k := 9) (n := 108) (Nat.le_of_ble_eq_true rfl) (Nat.le_of_ble_eq_true rfl) ?_
  refine va_putF (ci := 5) (v := .ref q76_8) (ty := zt_L 9) (C := zR_L) (T := zF_L) (N := 11) C.1 C.2.1 C.2.2.2.2 zh_L zt_L zt_L_ok zn_L C.2.2.2.1 hK hP hD hS 0 rfl rfl 9 (by decide) (C.2.2.2.2 _ zk_134) (fun _ h9 => h9) rfl hnm rfl (zt_L_ok 9 (by decide)) rfl rfl (Nat.le_of_ble_eq_true rfl) zd_L_init_78 (fun H locs hP hD hS => ?_)
  replace hP := zset_P (P2 := [(h0, .inr (5, [.int (zI (0)), .ref q12_0, .ref q20_1, .ref q28_2, .ref q36_3, .ref q44_4, .ref q52_5, .ref q60_6, .ref q68_7, .ref q76_8, .null]))]) (fun _ => rfl) hP
  replace hD := zset_D (P2 := [(h0, .inr (5, [.int (zI (0)), .ref q12_0, .ref q20_1, .ref q28_2, .ref q36_3, .ref q44_4, .ref q52_5, .ref q60_6, .ref q68_7, .ref q76_8, .null]))]) (fun _ => rfl) hD
  refine lv_aload_n C.1 C.2.1 zd_L_init_81 rfl (lv_at hl 0 rfl) ?_
  refine lv_aload_n C.1 C.2.1 zd_L_init_82 rfl (lv_at hl 1 rfl) ?_
  refine va_putF (ci := 5) (v := .ref p1) (ty := zt_L 10) (C := zR_L) (T := zF_L) (N := 11) C.1 C.2.1 C.2.2.2.2 zh_L zt_L zt_L_ok zn_L C.2.2.2.1 hK hP hD hS 0 rfl rfl 10 (by decide) (C.2.2.2.2 _ zk_136) (fun _ h9 => h9) rfl hnm rfl (zt_L_ok 10 (by decide)) rfl rfl (Nat.le_of_ble_eq_true rfl) zd_L_init_83 (fun H locs hP hD hS => ?_)
  replace hP := zset_P (P2 := [(h0, .inr (5, [.int (zI (0)), .ref q12_0, .ref q20_1, .ref q28_2, .ref q36_3, .ref q44_4, .ref q52_5, .ref q60_6, .ref q68_7, .ref q76_8, .ref p1]))]) (fun _ => rfl) hP
  replace hD := zset_D (P2 := [(h0, .inr (5, [.int (zI (0)), .ref q12_0, .ref q20_1, .ref q28_2, .ref q36_3, .ref q44_4, .ref q52_5, .ref q60_6, .ref q68_7, .ref q76_8, .ref p1]))]) (fun _ => rfl) hD
  have hP : va_P B.1 zcl (ww_L B h0 p1 (fun i => [q12_0, q20_1, q28_2, q36_3, q44_4, q52_5, q60_6, q68_7, q76_8].getD i 0)) H := hP
  have hD : va_D A (ww_L B h0 p1 (fun i => [q12_0, q20_1, q28_2, q36_3, q44_4, q52_5, q60_6, q68_7, q76_8].getD i 0)) := hD
  exact zi_end2 (w := ww_L B h0 p1) (u := (fun i => [q12_0, q20_1, q28_2, q36_3, q44_4, q52_5, q60_6, q68_7, q76_8].getD i 0)) (cells := 9) (slots := 108) C hr hlk hAe hP hD hS zd_L_init_86
abbrev zy_Q_init : MethodName := ⟨"IslandOffice$Posts", "<init>", "()V"⟩
abbrev zb_Q_init : ByteArray := prog_8_method_1_code
theorem zd_Q_init_0 : decode zb_Q_init 0 = .ok (.aload_n 0, 1) := by decide +kernel
theorem zd_Q_init_1 : decode zb_Q_init 1 = .ok (.invokespecial 3, 3) := by decide +kernel
theorem zd_Q_init_4 : decode zb_Q_init 4 = .ok (.aload_n 0, 1) := by decide +kernel
theorem zd_Q_init_5 : decode zb_Q_init 5 = .ok (.iconst 0, 1) := by decide +kernel
theorem zd_Q_init_6 : decode zb_Q_init 6 = .ok (.putfield 9, 3) := by decide +kernel
theorem zd_Q_init_9 : decode zb_Q_init 9 = .ok (.aload_n 0, 1) := by decide +kernel
theorem zd_Q_init_10 : decode zb_Q_init 10 = .ok (.bipush 8, 2) := by decide +kernel
theorem zd_Q_init_12 : decode zb_Q_init 12 = .ok (.newarray .int, 2) := by decide +kernel
theorem zd_Q_init_14 : decode zb_Q_init 14 = .ok (.putfield 15, 3) := by decide +kernel
theorem zd_Q_init_17 : decode zb_Q_init 17 = .ok (.aload_n 0, 1) := by decide +kernel
theorem zd_Q_init_18 : decode zb_Q_init 18 = .ok (.bipush 8, 2) := by decide +kernel
theorem zd_Q_init_20 : decode zb_Q_init 20 = .ok (.newarray .int, 2) := by decide +kernel
theorem zd_Q_init_22 : decode zb_Q_init 22 = .ok (.putfield 19, 3) := by decide +kernel
theorem zd_Q_init_25 : decode zb_Q_init 25 = .ok (.aload_n 0, 1) := by decide +kernel
theorem zd_Q_init_26 : decode zb_Q_init 26 = .ok (.bipush 8, 2) := by decide +kernel
theorem zd_Q_init_28 : decode zb_Q_init 28 = .ok (.newarray .int, 2) := by decide +kernel
theorem zd_Q_init_30 : decode zb_Q_init 30 = .ok (.putfield 22, 3) := by decide +kernel
theorem zd_Q_init_33 : decode zb_Q_init 33 = .ok (.aload_n 0, 1) := by decide +kernel
theorem zd_Q_init_34 : decode zb_Q_init 34 = .ok (.bipush 8, 2) := by decide +kernel
theorem zd_Q_init_36 : decode zb_Q_init 36 = .ok (.newarray .int, 2) := by decide +kernel
theorem zd_Q_init_38 : decode zb_Q_init 38 = .ok (.putfield 25, 3) := by decide +kernel
theorem zd_Q_init_41 : decode zb_Q_init 41 = .ok (.return_, 1) := by decide +kernel
theorem zdv_Q : ∀ j, j < 5 → defaultValue (zt_Q j) = vp_V [.int 0, .null, .null, .null, .null] j := by
  intro j hj
  rcases (show j = 0 ∨ j = 1 ∨ j = 2 ∨ j = 3 ∨ j = 4 by omega) with rfl | rfl | rfl | rfl | rfl <;> rfl
abbrev zm_iQ : Room := { frames := 1, cells := 4, slots := 32, locals := 64 }
def ww_Q (B : zB) (h0 : Nat) (q : Nat → Nat) : va_W := (h0, .inr (7, [.int (zI (0)), .ref (q 0), .ref (q 1), .ref (q 2), .ref (q 3)])) :: (((q 3), e0 B 8) :: (((q 2), e0 B 8) :: (((q 1), e0 B 8) :: (((q 0), e0 B 8) :: ([])))))
set_option maxHeartbeats 4000000 in
set_option maxRecDepth 100000 in
theorem zin_Q {l : Launch} {B : zB} (h0 : Nat) (sz : Nat) (hB : ∀ q, va_A [(h0, .inr (7, [.int 0, .null, .null, .null, .null]))] sz q → B.2.2.2 q) : Met l zy_Q_init (Cond.code zy_Q_init zb_Q_init 1 none :: zT) zm_iQ (va_Pc [.ref h0] (zPi B [(h0, .inr (7, [.int 0, .null, .null, .null, .null]))] sz)) (zQc B [(h0, .inr (7, [.int 0, .null, .null, .null, .null]))] sz (ww_Q B h0)) 4 32 (va_A [(h0, .inr (7, [.int 0, .null, .null, .null, .null]))] sz) := by
  refine zmeti (by decide) (Nat.le_of_ble_eq_true rfl) (fun p e s m args below meth c C hr hlk hnm hsz hP hD hS hK hX hst hA ls hl => ?_)
  have hAB := hB
  subst hsz
  generalize hAe : va_A [(h0, .inr (7, [.int 0, .null, .null, .null, .null]))] s.heap.size = A at *
  have hl : lv_has ls 1 [(0, .ref h0)] := hl
  have hP : va_P B.1 zcl ([(h0, .inr (7, [.int 0, .null, .null, .null, .null]))] ++ []) s.heap := hP
  have hD : va_D A ([(h0, .inr (7, [.int 0, .null, .null, .null, .null]))] ++ []) := hD
  refine lv_aload_n C.1 C.2.1 zd_Q_init_0 rfl (lv_at hl 0 rfl) ?_
  refine zo_obj C zk_166 zk_31 zk_32 hl.1 zd_Q_init_1 (Nat.le_of_ble_eq_true rfl) (Nat.le_of_ble_eq_true rfl) ?_
  refine lv_aload_n C.1 C.2.1 zd_Q_init_4 rfl (lv_at hl 0 rfl) ?_
  refine zr_iconst C zd_Q_init_5 ?_
  refine va_put (ci := 7) (v := .int (zI (0))) (ty := zt_Q 0) (C := zR_Q) (T := zF_Q) (N := 5) C.1 C.2.1 C.2.2.2.2 zh_Q zt_Q zt_Q_ok zn_Q C.2.2.2.1 hK hP hD hS 0 rfl rfl 0 (by decide) (C.2.2.2.2 _ zk_167) (fun _ h9 => h9) rfl (zt_Q_ok 0 (by decide)) rfl rfl (Nat.le_of_ble_eq_true rfl) zd_Q_init_6 (fun H locs hP hD hS => ?_)
  replace hP := zset_P (P2 := [(h0, .inr (7, [.int (zI (0)), .null, .null, .null, .null]))]) (fun _ => rfl) hP
  replace hD := zset_D (P2 := [(h0, .inr (7, [.int (zI (0)), .null, .null, .null, .null]))]) (fun _ => rfl) hD
  refine lv_aload_n C.1 C.2.1 zd_Q_init_9 rfl (lv_at hl 0 rfl) ?_
  refine zr_bipush C zd_Q_init_10 (by decide) ?_
  refine zi_newi (N := 8) C hK hP hD hS hA rfl (by decide) (Nat.le_of_ble_eq_true rfl) (Nat.le_of_ble_eq_true rfl) zk_108 zd_Q_init_12 (fun q12_0 H hP hD hS => ?_)
  refine W.widen (k := 1) (n := 8) (Nat.le_of_ble_eq_true rfl) (Nat.le_of_ble_eq_true rfl) ?_
  refine va_putF (ci := 7) (v := .ref q12_0) (ty := zt_Q 1) (C := zR_Q) (T := zF_Q) (N := 5) C.1 C.2.1 C.2.2.2.2 zh_Q zt_Q zt_Q_ok zn_Q C.2.2.2.1 hK hP hD hS 0 rfl rfl 1 (by decide) (C.2.2.2.2 _ zk_171) (fun _ h9 => h9) rfl hnm rfl (zt_Q_ok 1 (by decide)) rfl rfl (Nat.le_of_ble_eq_true rfl) zd_Q_init_14 (fun H locs hP hD hS => ?_)
  replace hP := zset_P (P2 := [(h0, .inr (7, [.int (zI (0)), .ref q12_0, .null, .null, .null]))]) (fun _ => rfl) hP
  replace hD := zset_D (P2 := [(h0, .inr (7, [.int (zI (0)), .ref q12_0, .null, .null, .null]))]) (fun _ => rfl) hD
  refine lv_aload_n C.1 C.2.1 zd_Q_init_17 rfl (lv_at hl 0 rfl) ?_
  refine zr_bipush C zd_Q_init_18 (by decide) ?_
  refine zi_newi (N := 8) C hK hP hD hS hA rfl (by decide) (Nat.le_of_ble_eq_true rfl) (Nat.le_of_ble_eq_true rfl) zk_108 zd_Q_init_20 (fun q20_1 H hP hD hS => ?_)
  refine W.widen (k := 2) (n := 16) (Nat.le_of_ble_eq_true rfl) (Nat.le_of_ble_eq_true rfl) ?_
  refine va_putF (ci := 7) (v := .ref q20_1) (ty := zt_Q 2) (C := zR_Q) (T := zF_Q) (N := 5) C.1 C.2.1 C.2.2.2.2 zh_Q zt_Q zt_Q_ok zn_Q C.2.2.2.1 hK hP hD hS 0 rfl rfl 2 (by decide) (C.2.2.2.2 _ zk_173) (fun _ h9 => h9) rfl hnm rfl (zt_Q_ok 2 (by decide)) rfl rfl (Nat.le_of_ble_eq_true rfl) zd_Q_init_22 (fun H locs hP hD hS => ?_)
  replace hP := zset_P (P2 := [(h0, .inr (7, [.int (zI (0)), .ref q12_0, .ref q20_1, .null, .null]))]) (fun _ => rfl) hP
  replace hD := zset_D (P2 := [(h0, .inr (7, [.int (zI (0)), .ref q12_0, .ref q20_1, .null, .null]))]) (fun _ => rfl) hD
  refine lv_aload_n C.1 C.2.1 zd_Q_init_25 rfl (lv_at hl 0 rfl) ?_
  refine zr_bipush C zd_Q_init_26 (by decide) ?_
  refine zi_newi (N := 8) C hK hP hD hS hA rfl (by decide) (Nat.le_of_ble_eq_true rfl) (Nat.le_of_ble_eq_true rfl) zk_108 zd_Q_init_28 (fun q28_2 H hP hD hS => ?_)
  refine W.widen (k := 3) (n := 24) (Nat.le_of_ble_eq_true rfl) (Nat.le_of_ble_eq_true rfl) ?_
  refine va_putF (ci := 7) (v := .ref q28_2) (ty := zt_Q 3) (C := zR_Q) (T := zF_Q) (N := 5) C.1 C.2.1 C.2.2.2.2 zh_Q zt_Q zt_Q_ok zn_Q C.2.2.2.1 hK hP hD hS 0 rfl rfl 3 (by decide) (C.2.2.2.2 _ zk_175) (fun _ h9 => h9) rfl hnm rfl (zt_Q_ok 3 (by decide)) rfl rfl (Nat.le_of_ble_eq_true rfl) zd_Q_init_30 (fun H locs hP hD hS => ?_)
  replace hP := zset_P (P2 := [(h0, .inr (7, [.int (zI (0)), .ref q12_0, .ref q20_1, .ref q28_2, .null]))]) (fun _ => rfl) hP
  replace hD := zset_D (P2 := [(h0, .inr (7, [.int (zI (0)), .ref q12_0, .ref q20_1, .ref q28_2, .null]))]) (fun _ => rfl) hD
  refine lv_aload_n C.1 C.2.1 zd_Q_init_33 rfl (lv_at hl 0 rfl) ?_
  refine zr_bipush C zd_Q_init_34 (by decide) ?_
  refine zi_newi (N := 8) C hK hP hD hS hA rfl (by decide) (Nat.le_of_ble_eq_true rfl) (Nat.le_of_ble_eq_true rfl) zk_108 zd_Q_init_36 (fun q36_3 H hP hD hS => ?_)
  refine W.widen (k := 4) (n := 32) (Nat.le_of_ble_eq_true rfl) (Nat.le_of_ble_eq_true rfl) ?_
  refine va_putF (ci := 7) (v := .ref q36_3) (ty := zt_Q 4) (C := zR_Q) (T := zF_Q) (N := 5) C.1 C.2.1 C.2.2.2.2 zh_Q zt_Q zt_Q_ok zn_Q C.2.2.2.1 hK hP hD hS 0 rfl rfl 4 (by decide) (C.2.2.2.2 _ zk_177) (fun _ h9 => h9) rfl hnm rfl (zt_Q_ok 4 (by decide)) rfl rfl (Nat.le_of_ble_eq_true rfl) zd_Q_init_38 (fun H locs hP hD hS => ?_)
  replace hP := zset_P (P2 := [(h0, .inr (7, [.int (zI (0)), .ref q12_0, .ref q20_1, .ref q28_2, .ref q36_3]))]) (fun _ => rfl) hP
  replace hD := zset_D (P2 := [(h0, .inr (7, [.int (zI (0)), .ref q12_0, .ref q20_1, .ref q28_2, .ref q36_3]))]) (fun _ => rfl) hD
  have hP : va_P B.1 zcl (ww_Q B h0 (fun i => [q12_0, q20_1, q28_2, q36_3].getD i 0)) H := hP
  have hD : va_D A (ww_Q B h0 (fun i => [q12_0, q20_1, q28_2, q36_3].getD i 0)) := hD
  exact zi_end2 (w := ww_Q B h0) (u := (fun i => [q12_0, q20_1, q28_2, q36_3].getD i 0)) (cells := 4) (slots := 32) C hr hlk hAe hP hD hS zd_Q_init_41
abbrev zy_T_init : MethodName := ⟨"IslandOffice$Stores", "<init>", "()V"⟩
abbrev zb_T_init : ByteArray := prog_12_method_1_code
theorem zd_T_init_0 : decode zb_T_init 0 = .ok (.aload_n 0, 1) := by decide +kernel
theorem zd_T_init_1 : decode zb_T_init 1 = .ok (.invokespecial 3, 3) := by decide +kernel
theorem zd_T_init_4 : decode zb_T_init 4 = .ok (.aload_n 0, 1) := by decide +kernel
theorem zd_T_init_5 : decode zb_T_init 5 = .ok (.iconst 4, 1) := by decide +kernel
theorem zd_T_init_6 : decode zb_T_init 6 = .ok (.newarray .int, 2) := by decide +kernel
theorem zd_T_init_8 : decode zb_T_init 8 = .ok (.putfield 9, 3) := by decide +kernel
theorem zd_T_init_11 : decode zb_T_init 11 = .ok (.aload_n 0, 1) := by decide +kernel
theorem zd_T_init_12 : decode zb_T_init 12 = .ok (.iconst 4, 1) := by decide +kernel
theorem zd_T_init_13 : decode zb_T_init 13 = .ok (.newarray .int, 2) := by decide +kernel
theorem zd_T_init_15 : decode zb_T_init 15 = .ok (.putfield 15, 3) := by decide +kernel
theorem zd_T_init_18 : decode zb_T_init 18 = .ok (.aload_n 0, 1) := by decide +kernel
theorem zd_T_init_19 : decode zb_T_init 19 = .ok (.iconst 4, 1) := by decide +kernel
theorem zd_T_init_20 : decode zb_T_init 20 = .ok (.newarray .int, 2) := by decide +kernel
theorem zd_T_init_22 : decode zb_T_init 22 = .ok (.putfield 18, 3) := by decide +kernel
theorem zd_T_init_25 : decode zb_T_init 25 = .ok (.iconst 0, 1) := by decide +kernel
theorem zd_T_init_26 : decode zb_T_init 26 = .ok (.istore_n 1, 1) := by decide +kernel
theorem zd_T_init_27 : decode zb_T_init 27 = .ok (.iload_n 1, 1) := by decide +kernel
theorem zd_T_init_28 : decode zb_T_init 28 = .ok (.iconst 4, 1) := by decide +kernel
theorem zd_T_init_29 : decode zb_T_init 29 = .ok (.if_icmp .ge 16, 3) := by decide +kernel
theorem zd_T_init_32 : decode zb_T_init 32 = .ok (.aload_n 0, 1) := by decide +kernel
theorem zd_T_init_33 : decode zb_T_init 33 = .ok (.getfield 15, 3) := by decide +kernel
theorem zd_T_init_36 : decode zb_T_init 36 = .ok (.iload_n 1, 1) := by decide +kernel
theorem zd_T_init_37 : decode zb_T_init 37 = .ok (.iload_n 1, 1) := by decide +kernel
theorem zd_T_init_38 : decode zb_T_init 38 = .ok (.iastore, 1) := by decide +kernel
theorem zd_T_init_39 : decode zb_T_init 39 = .ok (.iinc 1 1, 3) := by decide +kernel
theorem zd_T_init_42 : decode zb_T_init 42 = .ok (.goto (-15), 3) := by decide +kernel
theorem zd_T_init_45 : decode zb_T_init 45 = .ok (.aload_n 0, 1) := by decide +kernel
theorem zd_T_init_46 : decode zb_T_init 46 = .ok (.iconst 0, 1) := by decide +kernel
theorem zd_T_init_47 : decode zb_T_init 47 = .ok (.putfield 21, 3) := by decide +kernel
theorem zd_T_init_50 : decode zb_T_init 50 = .ok (.aload_n 0, 1) := by decide +kernel
theorem zd_T_init_51 : decode zb_T_init 51 = .ok (.bipush 30, 2) := by decide +kernel
theorem zd_T_init_53 : decode zb_T_init 53 = .ok (.newarray .int, 2) := by decide +kernel
theorem zd_T_init_55 : decode zb_T_init 55 = .ok (.putfield 25, 3) := by decide +kernel
theorem zd_T_init_58 : decode zb_T_init 58 = .ok (.aload_n 0, 1) := by decide +kernel
theorem zd_T_init_59 : decode zb_T_init 59 = .ok (.bipush 30, 2) := by decide +kernel
theorem zd_T_init_61 : decode zb_T_init 61 = .ok (.newarray .int, 2) := by decide +kernel
theorem zd_T_init_63 : decode zb_T_init 63 = .ok (.putfield 28, 3) := by decide +kernel
theorem zd_T_init_66 : decode zb_T_init 66 = .ok (.return_, 1) := by decide +kernel
theorem zdv_T : ∀ j, j < 6 → defaultValue (zt_T j) = vp_V [.null, .null, .null, .int 0, .null, .null] j := by
  intro j hj
  rcases (show j = 0 ∨ j = 1 ∨ j = 2 ∨ j = 3 ∨ j = 4 ∨ j = 5 by omega) with rfl | rfl | rfl | rfl | rfl | rfl <;> rfl
abbrev zm_iT : Room := { frames := 1, cells := 5, slots := 72, locals := 64 }
def ww_T (B : zB) (h0 : Nat) (q : Nat → Nat) : va_W := (h0, .inr (11, [.ref (q 0), .ref (q 1), .ref (q 2), .int (zI (0)), .ref (q 3), .ref (q 4)])) :: (((q 4), e0 B 30) :: (((q 3), e0 B 30) :: (((q 2), e0 B 4) :: (((q 1), ei B 4 (upd (upd (upd (upd (fun _ => 0) 0 (zI (0))) 1 (zI (1))) 2 (zI (2))) 3 (zI (3)))) :: (((q 0), e0 B 4) :: ([]))))))
set_option maxHeartbeats 4000000 in
set_option maxRecDepth 100000 in
theorem zin_T {l : Launch} {B : zB} (h0 : Nat) (sz : Nat) (hB : ∀ q, va_A [(h0, .inr (11, [.null, .null, .null, .int 0, .null, .null]))] sz q → B.2.2.2 q) : Met l zy_T_init (Cond.code zy_T_init zb_T_init 2 none :: zT) zm_iT (va_Pc [.ref h0] (zPi B [(h0, .inr (11, [.null, .null, .null, .int 0, .null, .null]))] sz)) (zQc B [(h0, .inr (11, [.null, .null, .null, .int 0, .null, .null]))] sz (ww_T B h0)) 5 72 (va_A [(h0, .inr (11, [.null, .null, .null, .int 0, .null, .null]))] sz) := by
  refine zmeti (by decide) (Nat.le_of_ble_eq_true rfl) (fun p e s m args below meth c C hr hlk hnm hsz hP hD hS hK hX hst hA ls hl => ?_)
  have hAB := hB
  subst hsz
  generalize hAe : va_A [(h0, .inr (11, [.null, .null, .null, .int 0, .null, .null]))] s.heap.size = A at *
  have hl : lv_has ls 2 [(0, .ref h0)] := hl
  have hP : va_P B.1 zcl ([(h0, .inr (11, [.null, .null, .null, .int 0, .null, .null]))] ++ []) s.heap := hP
  have hD : va_D A ([(h0, .inr (11, [.null, .null, .null, .int 0, .null, .null]))] ++ []) := hD
  refine lv_aload_n C.1 C.2.1 zd_T_init_0 rfl (lv_at hl 0 rfl) ?_
  refine zo_obj C zk_196 zk_31 zk_32 hl.1 zd_T_init_1 (Nat.le_of_ble_eq_true rfl) (Nat.le_of_ble_eq_true rfl) ?_
  refine lv_aload_n C.1 C.2.1 zd_T_init_4 rfl (lv_at hl 0 rfl) ?_
  refine zr_iconst C zd_T_init_5 ?_
  refine zi_newi (N := 4) C hK hP hD hS hA rfl (by decide) (Nat.le_of_ble_eq_true rfl) (Nat.le_of_ble_eq_true rfl) zk_108 zd_T_init_6 (fun q6_0 H hP hD hS => ?_)
  refine W.widen (k := 1) (n := 4) (Nat.le_of_ble_eq_true rfl) (Nat.le_of_ble_eq_true rfl) ?_
  refine va_putF (ci := 11) (v := .ref q6_0) (ty := zt_T 0) (C := zR_T) (T := zF_T) (N := 6) C.1 C.2.1 C.2.2.2.2 zh_T zt_T zt_T_ok zn_T C.2.2.2.1 hK hP hD hS 0 rfl rfl 0 (by decide) (C.2.2.2.2 _ zk_197) (fun _ h9 => h9) rfl hnm rfl (zt_T_ok 0 (by decide)) rfl rfl (Nat.le_of_ble_eq_true rfl) zd_T_init_8 (fun H locs hP hD hS => ?_)
  replace hP := zset_P (P2 := [(h0, .inr (11, [.ref q6_0, .null, .null, .int 0, .null, .null]))]) (fun _ => rfl) hP
  replace hD := zset_D (P2 := [(h0, .inr (11, [.ref q6_0, .null, .null, .int 0, .null, .null]))]) (fun _ => rfl) hD
  refine lv_aload_n C.1 C.2.1 zd_T_init_11 rfl (lv_at hl 0 rfl) ?_
  refine zr_iconst C zd_T_init_12 ?_
  refine zi_newi (N := 4) C hK hP hD hS hA rfl (by decide) (Nat.le_of_ble_eq_true rfl) (Nat.le_of_ble_eq_true rfl) zk_108 zd_T_init_13 (fun q13_1 H hP hD hS => ?_)
  refine W.widen (k := 2) (n := 8) (Nat.le_of_ble_eq_true rfl) (Nat.le_of_ble_eq_true rfl) ?_
  refine va_putF (ci := 11) (v := .ref q13_1) (ty := zt_T 1) (C := zR_T) (T := zF_T) (N := 6) C.1 C.2.1 C.2.2.2.2 zh_T zt_T zt_T_ok zn_T C.2.2.2.1 hK hP hD hS 0 rfl rfl 1 (by decide) (C.2.2.2.2 _ zk_200) (fun _ h9 => h9) rfl hnm rfl (zt_T_ok 1 (by decide)) rfl rfl (Nat.le_of_ble_eq_true rfl) zd_T_init_15 (fun H locs hP hD hS => ?_)
  replace hP := zset_P (P2 := [(h0, .inr (11, [.ref q6_0, .ref q13_1, .null, .int 0, .null, .null]))]) (fun _ => rfl) hP
  replace hD := zset_D (P2 := [(h0, .inr (11, [.ref q6_0, .ref q13_1, .null, .int 0, .null, .null]))]) (fun _ => rfl) hD
  refine lv_aload_n C.1 C.2.1 zd_T_init_18 rfl (lv_at hl 0 rfl) ?_
  refine zr_iconst C zd_T_init_19 ?_
  refine zi_newi (N := 4) C hK hP hD hS hA rfl (by decide) (Nat.le_of_ble_eq_true rfl) (Nat.le_of_ble_eq_true rfl) zk_108 zd_T_init_20 (fun q20_2 H hP hD hS => ?_)
  refine W.widen (k := 3) (n := 12) (Nat.le_of_ble_eq_true rfl) (Nat.le_of_ble_eq_true rfl) ?_
  refine va_putF (ci := 11) (v := .ref q20_2) (ty := zt_T 2) (C := zR_T) (T := zF_T) (N := 6) C.1 C.2.1 C.2.2.2.2 zh_T zt_T zt_T_ok zn_T C.2.2.2.1 hK hP hD hS 0 rfl rfl 2 (by decide) (C.2.2.2.2 _ zk_202) (fun _ h9 => h9) rfl hnm rfl (zt_T_ok 2 (by decide)) rfl rfl (Nat.le_of_ble_eq_true rfl) zd_T_init_22 (fun H locs hP hD hS => ?_)
  replace hP := zset_P (P2 := [(h0, .inr (11, [.ref q6_0, .ref q13_1, .ref q20_2, .int 0, .null, .null]))]) (fun _ => rfl) hP
  replace hD := zset_D (P2 := [(h0, .inr (11, [.ref q6_0, .ref q13_1, .ref q20_2, .int 0, .null, .null]))]) (fun _ => rfl) hD
  refine zr_iconst C zd_T_init_25 ?_
  refine lv_istore_n (lv' := [(1, .int (zI (0))), (0, .ref h0)]) C.1 C.2.1 zd_T_init_26 rfl hl (by decide) rfl (fun ls hl => ?_)
  refine lv_iload_n C.1 C.2.1 zd_T_init_27 rfl (lv_at hl 0 rfl) ?_
  refine zr_iconst C zd_T_init_28 ?_
  refine zr_icmp_ge (tgt := 45) C (znb rfl) (znb rfl) zd_T_init_29 (by decide) (fun h => absurd h (by decide)) (fun _ => ?_)
  refine lv_aload_n C.1 C.2.1 zd_T_init_32 rfl (lv_at hl 1 rfl) ?_
  refine va_get (ci := 11) (v := .ref q13_1) (C := zR_T) (T := zF_T) (N := 6) C.1 C.2.1 C.2.2.2.2 zh_T C.2.2.2.1 hK hP 0 rfl rfl 1 (by decide) (C.2.2.2.2 _ zk_200) (fun _ h9 => h9) rfl zd_T_init_33 ?_
  refine lv_iload_n C.1 C.2.1 zd_T_init_36 rfl (lv_at hl 0 rfl) ?_
  refine lv_iload_n C.1 C.2.1 zd_T_init_37 rfl (lv_at hl 0 rfl) ?_
  have hP : va_P B.1 zcl ([(h0, .inr (11, [.ref q6_0, .ref q13_1, .ref q20_2, .int 0, .null, .null])), (q20_2, e0 B 4), (q13_1, e0 B 4)] ++ _) H := hP
  have hD : va_D A ([(h0, .inr (11, [.ref q6_0, .ref q13_1, .ref q20_2, .int 0, .null, .null])), (q20_2, e0 B 4), (q13_1, e0 B 4)] ++ _) := hD
  refine va_iast C.1 C.2.1 hK hP hD hS 2 0 rfl rfl (i := zI (0)) (x := zI (0)) (zvp (n := 4) ⟨by decide, by decide⟩ (znb rfl)) zd_T_init_38 (fun H locs hP hD hS => ?_)
  replace hP := zset_P (P2 := [(h0, .inr (11, [.ref q6_0, .ref q13_1, .ref q20_2, .int 0, .null, .null])), (q20_2, e0 B 4), (q13_1, ei B 4 (upd (fun _ => 0) 0 (zI (0))))]) (fun _ => rfl) hP
  replace hD := zset_D (P2 := [(h0, .inr (11, [.ref q6_0, .ref q13_1, .ref q20_2, .int 0, .null, .null])), (q20_2, e0 B 4), (q13_1, ei B 4 (upd (fun _ => 0) 0 (zI (0))))]) (fun _ => rfl) hD
  have hP : va_P B.1 zcl ([(h0, .inr (11, [.ref q6_0, .ref q13_1, .ref q20_2, .int 0, .null, .null]))] ++ _) H := hP
  have hD : va_D A ([(h0, .inr (11, [.ref q6_0, .ref q13_1, .ref q20_2, .int 0, .null, .null]))] ++ _) := hD
  refine lv_iinc (v := zI (1)) (lv' := [(1, .int (zI (1))), (0, .ref h0)]) C.1 C.2.1 zd_T_init_39 hl (k := 0) rfl (by decide +kernel) (by decide) rfl (fun ls hl => ?_)
  refine lv_goto (tgt := 27) C.1 C.2.1 zd_T_init_42 (by decide) ?_
  refine lv_iload_n C.1 C.2.1 zd_T_init_27 rfl (lv_at hl 0 rfl) ?_
  refine zr_iconst C zd_T_init_28 ?_
  refine zr_icmp_ge (tgt := 45) C (znb rfl) (znb rfl) zd_T_init_29 (by decide) (fun h => absurd h (by decide)) (fun _ => ?_)
  refine lv_aload_n C.1 C.2.1 zd_T_init_32 rfl (lv_at hl 1 rfl) ?_
  refine va_get (ci := 11) (v := .ref q13_1) (C := zR_T) (T := zF_T) (N := 6) C.1 C.2.1 C.2.2.2.2 zh_T C.2.2.2.1 hK hP 0 rfl rfl 1 (by decide) (C.2.2.2.2 _ zk_200) (fun _ h9 => h9) rfl zd_T_init_33 ?_
  refine lv_iload_n C.1 C.2.1 zd_T_init_36 rfl (lv_at hl 0 rfl) ?_
  refine lv_iload_n C.1 C.2.1 zd_T_init_37 rfl (lv_at hl 0 rfl) ?_
  have hP : va_P B.1 zcl ([(h0, .inr (11, [.ref q6_0, .ref q13_1, .ref q20_2, .int 0, .null, .null])), (q20_2, e0 B 4), (q13_1, ei B 4 (upd (fun _ => 0) 0 (zI (0))))] ++ _) H := hP
  have hD : va_D A ([(h0, .inr (11, [.ref q6_0, .ref q13_1, .ref q20_2, .int 0, .null, .null])), (q20_2, e0 B 4), (q13_1, ei B 4 (upd (fun _ => 0) 0 (zI (0))))] ++ _) := hD
  refine va_iast C.1 C.2.1 hK hP hD hS 2 0 rfl rfl (i := zI (1)) (x := zI (1)) (zvp (n := 4) ⟨by decide, by decide⟩ (znb rfl)) zd_T_init_38 (fun H locs hP hD hS => ?_)
  replace hP := zset_P (P2 := [(h0, .inr (11, [.ref q6_0, .ref q13_1, .ref q20_2, .int 0, .null, .null])), (q20_2, e0 B 4), (q13_1, ei B 4 (upd (upd (fun _ => 0) 0 (zI (0))) 1 (zI (1))))]) (fun _ => rfl) hP
  replace hD := zset_D (P2 := [(h0, .inr (11, [.ref q6_0, .ref q13_1, .ref q20_2, .int 0, .null, .null])), (q20_2, e0 B 4), (q13_1, ei B 4 (upd (upd (fun _ => 0) 0 (zI (0))) 1 (zI (1))))]) (fun _ => rfl) hD
  have hP : va_P B.1 zcl ([(h0, .inr (11, [.ref q6_0, .ref q13_1, .ref q20_2, .int 0, .null, .null]))] ++ _) H := hP
  have hD : va_D A ([(h0, .inr (11, [.ref q6_0, .ref q13_1, .ref q20_2, .int 0, .null, .null]))] ++ _) := hD
  refine lv_iinc (v := zI (2)) (lv' := [(1, .int (zI (2))), (0, .ref h0)]) C.1 C.2.1 zd_T_init_39 hl (k := 0) rfl (by decide +kernel) (by decide) rfl (fun ls hl => ?_)
  refine lv_goto (tgt := 27) C.1 C.2.1 zd_T_init_42 (by decide) ?_
  refine lv_iload_n C.1 C.2.1 zd_T_init_27 rfl (lv_at hl 0 rfl) ?_
  refine zr_iconst C zd_T_init_28 ?_
  refine zr_icmp_ge (tgt := 45) C (znb rfl) (znb rfl) zd_T_init_29 (by decide) (fun h => absurd h (by decide)) (fun _ => ?_)
  refine lv_aload_n C.1 C.2.1 zd_T_init_32 rfl (lv_at hl 1 rfl) ?_
  refine va_get (ci := 11) (v := .ref q13_1) (C := zR_T) (T := zF_T) (N := 6) C.1 C.2.1 C.2.2.2.2 zh_T C.2.2.2.1 hK hP 0 rfl rfl 1 (by decide) (C.2.2.2.2 _ zk_200) (fun _ h9 => h9) rfl zd_T_init_33 ?_
  refine lv_iload_n C.1 C.2.1 zd_T_init_36 rfl (lv_at hl 0 rfl) ?_
  refine lv_iload_n C.1 C.2.1 zd_T_init_37 rfl (lv_at hl 0 rfl) ?_
  have hP : va_P B.1 zcl ([(h0, .inr (11, [.ref q6_0, .ref q13_1, .ref q20_2, .int 0, .null, .null])), (q20_2, e0 B 4), (q13_1, ei B 4 (upd (upd (fun _ => 0) 0 (zI (0))) 1 (zI (1))))] ++ _) H := hP
  have hD : va_D A ([(h0, .inr (11, [.ref q6_0, .ref q13_1, .ref q20_2, .int 0, .null, .null])), (q20_2, e0 B 4), (q13_1, ei B 4 (upd (upd (fun _ => 0) 0 (zI (0))) 1 (zI (1))))] ++ _) := hD
  refine va_iast C.1 C.2.1 hK hP hD hS 2 0 rfl rfl (i := zI (2)) (x := zI (2)) (zvp (n := 4) ⟨by decide, by decide⟩ (znb rfl)) zd_T_init_38 (fun H locs hP hD hS => ?_)
  replace hP := zset_P (P2 := [(h0, .inr (11, [.ref q6_0, .ref q13_1, .ref q20_2, .int 0, .null, .null])), (q20_2, e0 B 4), (q13_1, ei B 4 (upd (upd (upd (fun _ => 0) 0 (zI (0))) 1 (zI (1))) 2 (zI (2))))]) (fun _ => rfl) hP
  replace hD := zset_D (P2 := [(h0, .inr (11, [.ref q6_0, .ref q13_1, .ref q20_2, .int 0, .null, .null])), (q20_2, e0 B 4), (q13_1, ei B 4 (upd (upd (upd (fun _ => 0) 0 (zI (0))) 1 (zI (1))) 2 (zI (2))))]) (fun _ => rfl) hD
  have hP : va_P B.1 zcl ([(h0, .inr (11, [.ref q6_0, .ref q13_1, .ref q20_2, .int 0, .null, .null]))] ++ _) H := hP
  have hD : va_D A ([(h0, .inr (11, [.ref q6_0, .ref q13_1, .ref q20_2, .int 0, .null, .null]))] ++ _) := hD
  refine lv_iinc (v := zI (3)) (lv' := [(1, .int (zI (3))), (0, .ref h0)]) C.1 C.2.1 zd_T_init_39 hl (k := 0) rfl (by decide +kernel) (by decide) rfl (fun ls hl => ?_)
  refine lv_goto (tgt := 27) C.1 C.2.1 zd_T_init_42 (by decide) ?_
  refine lv_iload_n C.1 C.2.1 zd_T_init_27 rfl (lv_at hl 0 rfl) ?_
  refine zr_iconst C zd_T_init_28 ?_
  refine zr_icmp_ge (tgt := 45) C (znb rfl) (znb rfl) zd_T_init_29 (by decide) (fun h => absurd h (by decide)) (fun _ => ?_)
  refine lv_aload_n C.1 C.2.1 zd_T_init_32 rfl (lv_at hl 1 rfl) ?_
  refine va_get (ci := 11) (v := .ref q13_1) (C := zR_T) (T := zF_T) (N := 6) C.1 C.2.1 C.2.2.2.2 zh_T C.2.2.2.1 hK hP 0 rfl rfl 1 (by decide) (C.2.2.2.2 _ zk_200) (fun _ h9 => h9) rfl zd_T_init_33 ?_
  refine lv_iload_n C.1 C.2.1 zd_T_init_36 rfl (lv_at hl 0 rfl) ?_
  refine lv_iload_n C.1 C.2.1 zd_T_init_37 rfl (lv_at hl 0 rfl) ?_
  have hP : va_P B.1 zcl ([(h0, .inr (11, [.ref q6_0, .ref q13_1, .ref q20_2, .int 0, .null, .null])), (q20_2, e0 B 4), (q13_1, ei B 4 (upd (upd (upd (fun _ => 0) 0 (zI (0))) 1 (zI (1))) 2 (zI (2))))] ++ _) H := hP
  have hD : va_D A ([(h0, .inr (11, [.ref q6_0, .ref q13_1, .ref q20_2, .int 0, .null, .null])), (q20_2, e0 B 4), (q13_1, ei B 4 (upd (upd (upd (fun _ => 0) 0 (zI (0))) 1 (zI (1))) 2 (zI (2))))] ++ _) := hD
  refine va_iast C.1 C.2.1 hK hP hD hS 2 0 rfl rfl (i := zI (3)) (x := zI (3)) (zvp (n := 4) ⟨by decide, by decide⟩ (znb rfl)) zd_T_init_38 (fun H locs hP hD hS => ?_)
  replace hP := zset_P (P2 := [(h0, .inr (11, [.ref q6_0, .ref q13_1, .ref q20_2, .int 0, .null, .null])), (q20_2, e0 B 4), (q13_1, ei B 4 (upd (upd (upd (upd (fun _ => 0) 0 (zI (0))) 1 (zI (1))) 2 (zI (2))) 3 (zI (3))))]) (fun _ => rfl) hP
  replace hD := zset_D (P2 := [(h0, .inr (11, [.ref q6_0, .ref q13_1, .ref q20_2, .int 0, .null, .null])), (q20_2, e0 B 4), (q13_1, ei B 4 (upd (upd (upd (upd (fun _ => 0) 0 (zI (0))) 1 (zI (1))) 2 (zI (2))) 3 (zI (3))))]) (fun _ => rfl) hD
  have hP : va_P B.1 zcl ([(h0, .inr (11, [.ref q6_0, .ref q13_1, .ref q20_2, .int 0, .null, .null]))] ++ _) H := hP
  have hD : va_D A ([(h0, .inr (11, [.ref q6_0, .ref q13_1, .ref q20_2, .int 0, .null, .null]))] ++ _) := hD
  refine lv_iinc (v := zI (4)) (lv' := [(1, .int (zI (4))), (0, .ref h0)]) C.1 C.2.1 zd_T_init_39 hl (k := 0) rfl (by decide +kernel) (by decide) rfl (fun ls hl => ?_)
  refine lv_goto (tgt := 27) C.1 C.2.1 zd_T_init_42 (by decide) ?_
  refine lv_iload_n C.1 C.2.1 zd_T_init_27 rfl (lv_at hl 0 rfl) ?_
  refine zr_iconst C zd_T_init_28 ?_
  refine zr_icmp_ge (tgt := 45) C (znb rfl) (znb rfl) zd_T_init_29 (by decide) (fun _ => ?_) (fun h => absurd (by decide) h)
  refine lv_aload_n C.1 C.2.1 zd_T_init_45 rfl (lv_at hl 1 rfl) ?_
  refine zr_iconst C zd_T_init_46 ?_
  refine va_put (ci := 11) (v := .int (zI (0))) (ty := zt_T 3) (C := zR_T) (T := zF_T) (N := 6) C.1 C.2.1 C.2.2.2.2 zh_T zt_T zt_T_ok zn_T C.2.2.2.1 hK hP hD hS 0 rfl rfl 3 (by decide) (C.2.2.2.2 _ zk_205) (fun _ h9 => h9) rfl (zt_T_ok 3 (by decide)) rfl rfl (Nat.le_of_ble_eq_true rfl) zd_T_init_47 (fun H locs hP hD hS => ?_)
  replace hP := zset_P (P2 := [(h0, .inr (11, [.ref q6_0, .ref q13_1, .ref q20_2, .int (zI (0)), .null, .null]))]) (fun _ => rfl) hP
  replace hD := zset_D (P2 := [(h0, .inr (11, [.ref q6_0, .ref q13_1, .ref q20_2, .int (zI (0)), .null, .null]))]) (fun _ => rfl) hD
  refine lv_aload_n C.1 C.2.1 zd_T_init_50 rfl (lv_at hl 1 rfl) ?_
  refine zr_bipush C zd_T_init_51 (by decide) ?_
  refine zi_newi (N := 30) C hK hP hD hS hA rfl (by decide) (Nat.le_of_ble_eq_true rfl) (Nat.le_of_ble_eq_true rfl) zk_108 zd_T_init_53 (fun q53_3 H hP hD hS => ?_)
  refine W.widen (k := 4) (n := 42) (Nat.le_of_ble_eq_true rfl) (Nat.le_of_ble_eq_true rfl) ?_
  refine va_putF (ci := 11) (v := .ref q53_3) (ty := zt_T 4) (C := zR_T) (T := zF_T) (N := 6) C.1 C.2.1 C.2.2.2.2 zh_T zt_T zt_T_ok zn_T C.2.2.2.1 hK hP hD hS 0 rfl rfl 4 (by decide) (C.2.2.2.2 _ zk_207) (fun _ h9 => h9) rfl hnm rfl (zt_T_ok 4 (by decide)) rfl rfl (Nat.le_of_ble_eq_true rfl) zd_T_init_55 (fun H locs hP hD hS => ?_)
  replace hP := zset_P (P2 := [(h0, .inr (11, [.ref q6_0, .ref q13_1, .ref q20_2, .int (zI (0)), .ref q53_3, .null]))]) (fun _ => rfl) hP
  replace hD := zset_D (P2 := [(h0, .inr (11, [.ref q6_0, .ref q13_1, .ref q20_2, .int (zI (0)), .ref q53_3, .null]))]) (fun _ => rfl) hD
  refine lv_aload_n C.1 C.2.1 zd_T_init_58 rfl (lv_at hl 1 rfl) ?_
  refine zr_bipush C zd_T_init_59 (by decide) ?_
  refine zi_newi (N := 30) C hK hP hD hS hA rfl (by decide) (Nat.le_of_ble_eq_true rfl) (Nat.le_of_ble_eq_true rfl) zk_108 zd_T_init_61 (fun q61_4 H hP hD hS => ?_)
  refine W.widen (k := 5) (n := 72) (Nat.le_of_ble_eq_true rfl) (Nat.le_of_ble_eq_true rfl) ?_
  refine va_putF (ci := 11) (v := .ref q61_4) (ty := zt_T 5) (C := zR_T) (T := zF_T) (N := 6) C.1 C.2.1 C.2.2.2.2 zh_T zt_T zt_T_ok zn_T C.2.2.2.1 hK hP hD hS 0 rfl rfl 5 (by decide) (C.2.2.2.2 _ zk_208) (fun _ h9 => h9) rfl hnm rfl (zt_T_ok 5 (by decide)) rfl rfl (Nat.le_of_ble_eq_true rfl) zd_T_init_63 (fun H locs hP hD hS => ?_)
  replace hP := zset_P (P2 := [(h0, .inr (11, [.ref q6_0, .ref q13_1, .ref q20_2, .int (zI (0)), .ref q53_3, .ref q61_4]))]) (fun _ => rfl) hP
  replace hD := zset_D (P2 := [(h0, .inr (11, [.ref q6_0, .ref q13_1, .ref q20_2, .int (zI (0)), .ref q53_3, .ref q61_4]))]) (fun _ => rfl) hD
  have hP : va_P B.1 zcl (ww_T B h0 (fun i => [q6_0, q13_1, q20_2, q53_3, q61_4].getD i 0)) H := hP
  have hD : va_D A (ww_T B h0 (fun i => [q6_0, q13_1, q20_2, q53_3, q61_4].getD i 0)) := hD
  exact zi_end2 (w := ww_T B h0) (u := (fun i => [q6_0, q13_1, q20_2, q53_3, q61_4].getD i 0)) (cells := 5) (slots := 72) C hr hlk hAe hP hD hS zd_T_init_66
abbrev zy_Y_init : MethodName := ⟨"IslandOffice$Sky", "<init>", "()V"⟩
abbrev zb_Y_init : ByteArray := prog_11_method_1_code
theorem zd_Y_init_0 : decode zb_Y_init 0 = .ok (.aload_n 0, 1) := by decide +kernel
theorem zd_Y_init_1 : decode zb_Y_init 1 = .ok (.invokespecial 3, 3) := by decide +kernel
theorem zd_Y_init_4 : decode zb_Y_init 4 = .ok (.aload_n 0, 1) := by decide +kernel
theorem zd_Y_init_5 : decode zb_Y_init 5 = .ok (.iconst 0, 1) := by decide +kernel
theorem zd_Y_init_6 : decode zb_Y_init 6 = .ok (.putfield 9, 3) := by decide +kernel
theorem zd_Y_init_9 : decode zb_Y_init 9 = .ok (.aload_n 0, 1) := by decide +kernel
theorem zd_Y_init_10 : decode zb_Y_init 10 = .ok (.iconst 0, 1) := by decide +kernel
theorem zd_Y_init_11 : decode zb_Y_init 11 = .ok (.putfield 15, 3) := by decide +kernel
theorem zd_Y_init_14 : decode zb_Y_init 14 = .ok (.aload_n 0, 1) := by decide +kernel
theorem zd_Y_init_15 : decode zb_Y_init 15 = .ok (.bipush 120, 2) := by decide +kernel
theorem zd_Y_init_17 : decode zb_Y_init 17 = .ok (.newarray .int, 2) := by decide +kernel
theorem zd_Y_init_19 : decode zb_Y_init 19 = .ok (.putfield 18, 3) := by decide +kernel
theorem zd_Y_init_22 : decode zb_Y_init 22 = .ok (.return_, 1) := by decide +kernel
theorem zdv_Y : ∀ j, j < 3 → defaultValue (zt_Y j) = vp_V [.int 0, .int 0, .null] j := by
  intro j hj
  rcases (show j = 0 ∨ j = 1 ∨ j = 2 by omega) with rfl | rfl | rfl <;> rfl
abbrev zm_iY : Room := { frames := 1, cells := 1, slots := 120, locals := 64 }
def ww_Y (B : zB) (h0 : Nat) (q : Nat → Nat) : va_W := (h0, .inr (10, [.int (zI (0)), .int (zI (0)), .ref (q 0)])) :: (((q 0), e0 B 120) :: ([]))
set_option maxHeartbeats 4000000 in
set_option maxRecDepth 100000 in
theorem zin_Y {l : Launch} {B : zB} (h0 : Nat) (sz : Nat) (hB : ∀ q, va_A [(h0, .inr (10, [.int 0, .int 0, .null]))] sz q → B.2.2.2 q) : Met l zy_Y_init (Cond.code zy_Y_init zb_Y_init 1 none :: zT) zm_iY (va_Pc [.ref h0] (zPi B [(h0, .inr (10, [.int 0, .int 0, .null]))] sz)) (zQc B [(h0, .inr (10, [.int 0, .int 0, .null]))] sz (ww_Y B h0)) 1 120 (va_A [(h0, .inr (10, [.int 0, .int 0, .null]))] sz) := by
  refine zmeti (by decide) (Nat.le_of_ble_eq_true rfl) (fun p e s m args below meth c C hr hlk hnm hsz hP hD hS hK hX hst hA ls hl => ?_)
  have hAB := hB
  subst hsz
  generalize hAe : va_A [(h0, .inr (10, [.int 0, .int 0, .null]))] s.heap.size = A at *
  have hl : lv_has ls 1 [(0, .ref h0)] := hl
  have hP : va_P B.1 zcl ([(h0, .inr (10, [.int 0, .int 0, .null]))] ++ []) s.heap := hP
  have hD : va_D A ([(h0, .inr (10, [.int 0, .int 0, .null]))] ++ []) := hD
  refine lv_aload_n C.1 C.2.1 zd_Y_init_0 rfl (lv_at hl 0 rfl) ?_
  refine zo_obj C zk_228 zk_31 zk_32 hl.1 zd_Y_init_1 (Nat.le_of_ble_eq_true rfl) (Nat.le_of_ble_eq_true rfl) ?_
  refine lv_aload_n C.1 C.2.1 zd_Y_init_4 rfl (lv_at hl 0 rfl) ?_
  refine zr_iconst C zd_Y_init_5 ?_
  refine va_put (ci := 10) (v := .int (zI (0))) (ty := zt_Y 0) (C := zR_Y) (T := zF_Y) (N := 3) C.1 C.2.1 C.2.2.2.2 zh_Y zt_Y zt_Y_ok zn_Y C.2.2.2.1 hK hP hD hS 0 rfl rfl 0 (by decide) (C.2.2.2.2 _ zk_229) (fun _ h9 => h9) rfl (zt_Y_ok 0 (by decide)) rfl rfl (Nat.le_of_ble_eq_true rfl) zd_Y_init_6 (fun H locs hP hD hS => ?_)
  replace hP := zset_P (P2 := [(h0, .inr (10, [.int (zI (0)), .int 0, .null]))]) (fun _ => rfl) hP
  replace hD := zset_D (P2 := [(h0, .inr (10, [.int (zI (0)), .int 0, .null]))]) (fun _ => rfl) hD
  refine lv_aload_n C.1 C.2.1 zd_Y_init_9 rfl (lv_at hl 0 rfl) ?_
  refine zr_iconst C zd_Y_init_10 ?_
  refine va_put (ci := 10) (v := .int (zI (0))) (ty := zt_Y 1) (C := zR_Y) (T := zF_Y) (N := 3) C.1 C.2.1 C.2.2.2.2 zh_Y zt_Y zt_Y_ok zn_Y C.2.2.2.1 hK hP hD hS 0 rfl rfl 1 (by decide) (C.2.2.2.2 _ zk_230) (fun _ h9 => h9) rfl (zt_Y_ok 1 (by decide)) rfl rfl (Nat.le_of_ble_eq_true rfl) zd_Y_init_11 (fun H locs hP hD hS => ?_)
  replace hP := zset_P (P2 := [(h0, .inr (10, [.int (zI (0)), .int (zI (0)), .null]))]) (fun _ => rfl) hP
  replace hD := zset_D (P2 := [(h0, .inr (10, [.int (zI (0)), .int (zI (0)), .null]))]) (fun _ => rfl) hD
  refine lv_aload_n C.1 C.2.1 zd_Y_init_14 rfl (lv_at hl 0 rfl) ?_
  refine zr_bipush C zd_Y_init_15 (by decide) ?_
  refine zi_newi (N := 120) C hK hP hD hS hA rfl (by decide) (Nat.le_of_ble_eq_true rfl) (Nat.le_of_ble_eq_true rfl) zk_108 zd_Y_init_17 (fun q17_0 H hP hD hS => ?_)
  refine W.widen (k := 1) (n := 120) (Nat.le_of_ble_eq_true rfl) (Nat.le_of_ble_eq_true rfl) ?_
  refine va_putF (ci := 10) (v := .ref q17_0) (ty := zt_Y 2) (C := zR_Y) (T := zF_Y) (N := 3) C.1 C.2.1 C.2.2.2.2 zh_Y zt_Y zt_Y_ok zn_Y C.2.2.2.1 hK hP hD hS 0 rfl rfl 2 (by decide) (C.2.2.2.2 _ zk_231) (fun _ h9 => h9) rfl hnm rfl (zt_Y_ok 2 (by decide)) rfl rfl (Nat.le_of_ble_eq_true rfl) zd_Y_init_19 (fun H locs hP hD hS => ?_)
  replace hP := zset_P (P2 := [(h0, .inr (10, [.int (zI (0)), .int (zI (0)), .ref q17_0]))]) (fun _ => rfl) hP
  replace hD := zset_D (P2 := [(h0, .inr (10, [.int (zI (0)), .int (zI (0)), .ref q17_0]))]) (fun _ => rfl) hD
  have hP : va_P B.1 zcl (ww_Y B h0 (fun i => [q17_0].getD i 0)) H := hP
  have hD : va_D A (ww_Y B h0 (fun i => [q17_0].getD i 0)) := hD
  exact zi_end2 (w := ww_Y B h0) (u := (fun i => [q17_0].getD i 0)) (cells := 1) (slots := 120) C hr hlk hAe hP hD hS zd_Y_init_22
abbrev zy_S_init : MethodName := ⟨"IslandOffice$Shelf", "<init>", "()V"⟩
abbrev zb_S_init : ByteArray := prog_10_method_1_code
theorem zd_S_init_0 : decode zb_S_init 0 = .ok (.aload_n 0, 1) := by decide +kernel
theorem zd_S_init_1 : decode zb_S_init 1 = .ok (.invokespecial 3, 3) := by decide +kernel
theorem zd_S_init_4 : decode zb_S_init 4 = .ok (.aload_n 0, 1) := by decide +kernel
theorem zd_S_init_5 : decode zb_S_init 5 = .ok (.iconst 0, 1) := by decide +kernel
theorem zd_S_init_6 : decode zb_S_init 6 = .ok (.putfield 11, 3) := by decide +kernel
theorem zd_S_init_9 : decode zb_S_init 9 = .ok (.aload_n 0, 1) := by decide +kernel
theorem zd_S_init_10 : decode zb_S_init 10 = .ok (.iconst 0, 1) := by decide +kernel
theorem zd_S_init_11 : decode zb_S_init 11 = .ok (.putfield 15, 3) := by decide +kernel
theorem zd_S_init_14 : decode zb_S_init 14 = .ok (.aload_n 0, 1) := by decide +kernel
theorem zd_S_init_15 : decode zb_S_init 15 = .ok (.iconst 0, 1) := by decide +kernel
theorem zd_S_init_16 : decode zb_S_init 16 = .ok (.putfield 18, 3) := by decide +kernel
theorem zd_S_init_19 : decode zb_S_init 19 = .ok (.aload_n 0, 1) := by decide +kernel
theorem zd_S_init_20 : decode zb_S_init 20 = .ok (.iconst 0, 1) := by decide +kernel
theorem zd_S_init_21 : decode zb_S_init 21 = .ok (.putfield 21, 3) := by decide +kernel
theorem zd_S_init_24 : decode zb_S_init 24 = .ok (.aload_n 0, 1) := by decide +kernel
theorem zd_S_init_25 : decode zb_S_init 25 = .ok (.iconst 0, 1) := by decide +kernel
theorem zd_S_init_26 : decode zb_S_init 26 = .ok (.putfield 24, 3) := by decide +kernel
theorem zd_S_init_29 : decode zb_S_init 29 = .ok (.aload_n 0, 1) := by decide +kernel
theorem zd_S_init_30 : decode zb_S_init 30 = .ok (.iconst 0, 1) := by decide +kernel
theorem zd_S_init_31 : decode zb_S_init 31 = .ok (.putfield 27, 3) := by decide +kernel
theorem zd_S_init_34 : decode zb_S_init 34 = .ok (.aload_n 0, 1) := by decide +kernel
theorem zd_S_init_35 : decode zb_S_init 35 = .ok (.bipush 120, 2) := by decide +kernel
theorem zd_S_init_37 : decode zb_S_init 37 = .ok (.newarray .int, 2) := by decide +kernel
theorem zd_S_init_39 : decode zb_S_init 39 = .ok (.putfield 30, 3) := by decide +kernel
theorem zd_S_init_42 : decode zb_S_init 42 = .ok (.return_, 1) := by decide +kernel
theorem zdv_S : ∀ j, j < 7 → defaultValue (zt_S j) = vp_V [.int 0, .int 0, .int 0, .int 0, .int 0, .int 0, .null] j := by
  intro j hj
  rcases (show j = 0 ∨ j = 1 ∨ j = 2 ∨ j = 3 ∨ j = 4 ∨ j = 5 ∨ j = 6 by omega) with rfl | rfl | rfl | rfl | rfl | rfl | rfl <;> rfl
abbrev zm_iS : Room := { frames := 1, cells := 1, slots := 120, locals := 64 }
def ww_S (B : zB) (h0 : Nat) (q : Nat → Nat) : va_W := (h0, .inr (9, [.int (zI (0)), .int (zI (0)), .int (zI (0)), .int (zI (0)), .int (zI (0)), .int (zI (0)), .ref (q 0)])) :: (((q 0), e0 B 120) :: ([]))
set_option maxHeartbeats 4000000 in
set_option maxRecDepth 100000 in
theorem zin_S {l : Launch} {B : zB} (h0 : Nat) (sz : Nat) (hB : ∀ q, va_A [(h0, .inr (9, [.int 0, .int 0, .int 0, .int 0, .int 0, .int 0, .null]))] sz q → B.2.2.2 q) : Met l zy_S_init (Cond.code zy_S_init zb_S_init 1 none :: zT) zm_iS (va_Pc [.ref h0] (zPi B [(h0, .inr (9, [.int 0, .int 0, .int 0, .int 0, .int 0, .int 0, .null]))] sz)) (zQc B [(h0, .inr (9, [.int 0, .int 0, .int 0, .int 0, .int 0, .int 0, .null]))] sz (ww_S B h0)) 1 120 (va_A [(h0, .inr (9, [.int 0, .int 0, .int 0, .int 0, .int 0, .int 0, .null]))] sz) := by
  refine zmeti (by decide) (Nat.le_of_ble_eq_true rfl) (fun p e s m args below meth c C hr hlk hnm hsz hP hD hS hK hX hst hA ls hl => ?_)
  have hAB := hB
  subst hsz
  generalize hAe : va_A [(h0, .inr (9, [.int 0, .int 0, .int 0, .int 0, .int 0, .int 0, .null]))] s.heap.size = A at *
  have hl : lv_has ls 1 [(0, .ref h0)] := hl
  have hP : va_P B.1 zcl ([(h0, .inr (9, [.int 0, .int 0, .int 0, .int 0, .int 0, .int 0, .null]))] ++ []) s.heap := hP
  have hD : va_D A ([(h0, .inr (9, [.int 0, .int 0, .int 0, .int 0, .int 0, .int 0, .null]))] ++ []) := hD
  refine lv_aload_n C.1 C.2.1 zd_S_init_0 rfl (lv_at hl 0 rfl) ?_
  refine zo_obj C zk_342 zk_31 zk_32 hl.1 zd_S_init_1 (Nat.le_of_ble_eq_true rfl) (Nat.le_of_ble_eq_true rfl) ?_
  refine lv_aload_n C.1 C.2.1 zd_S_init_4 rfl (lv_at hl 0 rfl) ?_
  refine zr_iconst C zd_S_init_5 ?_
  refine va_put (ci := 9) (v := .int (zI (0))) (ty := zt_S 0) (C := zR_S) (T := zF_S) (N := 7) C.1 C.2.1 C.2.2.2.2 zh_S zt_S zt_S_ok zn_S C.2.2.2.1 hK hP hD hS 0 rfl rfl 0 (by decide) (C.2.2.2.2 _ zk_343) (fun _ h9 => h9) rfl (zt_S_ok 0 (by decide)) rfl rfl (Nat.le_of_ble_eq_true rfl) zd_S_init_6 (fun H locs hP hD hS => ?_)
  replace hP := zset_P (P2 := [(h0, .inr (9, [.int (zI (0)), .int 0, .int 0, .int 0, .int 0, .int 0, .null]))]) (fun _ => rfl) hP
  replace hD := zset_D (P2 := [(h0, .inr (9, [.int (zI (0)), .int 0, .int 0, .int 0, .int 0, .int 0, .null]))]) (fun _ => rfl) hD
  refine lv_aload_n C.1 C.2.1 zd_S_init_9 rfl (lv_at hl 0 rfl) ?_
  refine zr_iconst C zd_S_init_10 ?_
  refine va_put (ci := 9) (v := .int (zI (0))) (ty := zt_S 1) (C := zR_S) (T := zF_S) (N := 7) C.1 C.2.1 C.2.2.2.2 zh_S zt_S zt_S_ok zn_S C.2.2.2.1 hK hP hD hS 0 rfl rfl 1 (by decide) (C.2.2.2.2 _ zk_345) (fun _ h9 => h9) rfl (zt_S_ok 1 (by decide)) rfl rfl (Nat.le_of_ble_eq_true rfl) zd_S_init_11 (fun H locs hP hD hS => ?_)
  replace hP := zset_P (P2 := [(h0, .inr (9, [.int (zI (0)), .int (zI (0)), .int 0, .int 0, .int 0, .int 0, .null]))]) (fun _ => rfl) hP
  replace hD := zset_D (P2 := [(h0, .inr (9, [.int (zI (0)), .int (zI (0)), .int 0, .int 0, .int 0, .int 0, .null]))]) (fun _ => rfl) hD
  refine lv_aload_n C.1 C.2.1 zd_S_init_14 rfl (lv_at hl 0 rfl) ?_
  refine zr_iconst C zd_S_init_15 ?_
  refine va_put (ci := 9) (v := .int (zI (0))) (ty := zt_S 2) (C := zR_S) (T := zF_S) (N := 7) C.1 C.2.1 C.2.2.2.2 zh_S zt_S zt_S_ok zn_S C.2.2.2.1 hK hP hD hS 0 rfl rfl 2 (by decide) (C.2.2.2.2 _ zk_347) (fun _ h9 => h9) rfl (zt_S_ok 2 (by decide)) rfl rfl (Nat.le_of_ble_eq_true rfl) zd_S_init_16 (fun H locs hP hD hS => ?_)
  replace hP := zset_P (P2 := [(h0, .inr (9, [.int (zI (0)), .int (zI (0)), .int (zI (0)), .int 0, .int 0, .int 0, .null]))]) (fun _ => rfl) hP
  replace hD := zset_D (P2 := [(h0, .inr (9, [.int (zI (0)), .int (zI (0)), .int (zI (0)), .int 0, .int 0, .int 0, .null]))]) (fun _ => rfl) hD
  refine lv_aload_n C.1 C.2.1 zd_S_init_19 rfl (lv_at hl 0 rfl) ?_
  refine zr_iconst C zd_S_init_20 ?_
  refine va_put (ci := 9) (v := .int (zI (0))) (ty := zt_S 3) (C := zR_S) (T := zF_S) (N := 7) C.1 C.2.1 C.2.2.2.2 zh_S zt_S zt_S_ok zn_S C.2.2.2.1 hK hP hD hS 0 rfl rfl 3 (by decide) (C.2.2.2.2 _ zk_349) (fun _ h9 => h9) rfl (zt_S_ok 3 (by decide)) rfl rfl (Nat.le_of_ble_eq_true rfl) zd_S_init_21 (fun H locs hP hD hS => ?_)
  replace hP := zset_P (P2 := [(h0, .inr (9, [.int (zI (0)), .int (zI (0)), .int (zI (0)), .int (zI (0)), .int 0, .int 0, .null]))]) (fun _ => rfl) hP
  replace hD := zset_D (P2 := [(h0, .inr (9, [.int (zI (0)), .int (zI (0)), .int (zI (0)), .int (zI (0)), .int 0, .int 0, .null]))]) (fun _ => rfl) hD
  refine lv_aload_n C.1 C.2.1 zd_S_init_24 rfl (lv_at hl 0 rfl) ?_
  refine zr_iconst C zd_S_init_25 ?_
  refine va_put (ci := 9) (v := .int (zI (0))) (ty := zt_S 4) (C := zR_S) (T := zF_S) (N := 7) C.1 C.2.1 C.2.2.2.2 zh_S zt_S zt_S_ok zn_S C.2.2.2.1 hK hP hD hS 0 rfl rfl 4 (by decide) (C.2.2.2.2 _ zk_351) (fun _ h9 => h9) rfl (zt_S_ok 4 (by decide)) rfl rfl (Nat.le_of_ble_eq_true rfl) zd_S_init_26 (fun H locs hP hD hS => ?_)
  replace hP := zset_P (P2 := [(h0, .inr (9, [.int (zI (0)), .int (zI (0)), .int (zI (0)), .int (zI (0)), .int (zI (0)), .int 0, .null]))]) (fun _ => rfl) hP
  replace hD := zset_D (P2 := [(h0, .inr (9, [.int (zI (0)), .int (zI (0)), .int (zI (0)), .int (zI (0)), .int (zI (0)), .int 0, .null]))]) (fun _ => rfl) hD
  refine lv_aload_n C.1 C.2.1 zd_S_init_29 rfl (lv_at hl 0 rfl) ?_
  refine zr_iconst C zd_S_init_30 ?_
  refine va_put (ci := 9) (v := .int (zI (0))) (ty := zt_S 5) (C := zR_S) (T := zF_S) (N := 7) C.1 C.2.1 C.2.2.2.2 zh_S zt_S zt_S_ok zn_S C.2.2.2.1 hK hP hD hS 0 rfl rfl 5 (by decide) (C.2.2.2.2 _ zk_353) (fun _ h9 => h9) rfl (zt_S_ok 5 (by decide)) rfl rfl (Nat.le_of_ble_eq_true rfl) zd_S_init_31 (fun H locs hP hD hS => ?_)
  replace hP := zset_P (P2 := [(h0, .inr (9, [.int (zI (0)), .int (zI (0)), .int (zI (0)), .int (zI (0)), .int (zI (0)), .int (zI (0)), .null]))]) (fun _ => rfl) hP
  replace hD := zset_D (P2 := [(h0, .inr (9, [.int (zI (0)), .int (zI (0)), .int (zI (0)), .int (zI (0)), .int (zI (0)), .int (zI (0)), .null]))]) (fun _ => rfl) hD
  refine lv_aload_n C.1 C.2.1 zd_S_init_34 rfl (lv_at hl 0 rfl) ?_
  refine zr_bipush C zd_S_init_35 (by decide) ?_
  refine zi_newi (N := 120) C hK hP hD hS hA rfl (by decide) (Nat.le_of_ble_eq_true rfl) (Nat.le_of_ble_eq_true rfl) zk_108 zd_S_init_37 (fun q37_0 H hP hD hS => ?_)
  refine W.widen (k := 1) (n := 120) (Nat.le_of_ble_eq_true rfl) (Nat.le_of_ble_eq_true rfl) ?_
  refine va_putF (ci := 9) (v := .ref q37_0) (ty := zt_S 6) (C := zR_S) (T := zF_S) (N := 7) C.1 C.2.1 C.2.2.2.2 zh_S zt_S zt_S_ok zn_S C.2.2.2.1 hK hP hD hS 0 rfl rfl 6 (by decide) (C.2.2.2.2 _ zk_355) (fun _ h9 => h9) rfl hnm rfl (zt_S_ok 6 (by decide)) rfl rfl (Nat.le_of_ble_eq_true rfl) zd_S_init_39 (fun H locs hP hD hS => ?_)
  replace hP := zset_P (P2 := [(h0, .inr (9, [.int (zI (0)), .int (zI (0)), .int (zI (0)), .int (zI (0)), .int (zI (0)), .int (zI (0)), .ref q37_0]))]) (fun _ => rfl) hP
  replace hD := zset_D (P2 := [(h0, .inr (9, [.int (zI (0)), .int (zI (0)), .int (zI (0)), .int (zI (0)), .int (zI (0)), .int (zI (0)), .ref q37_0]))]) (fun _ => rfl) hD
  have hP : va_P B.1 zcl (ww_S B h0 (fun i => [q37_0].getD i 0)) H := hP
  have hD : va_D A (ww_S B h0 (fun i => [q37_0].getD i 0)) := hD
  exact zi_end2 (w := ww_S B h0) (u := (fun i => [q37_0].getD i 0)) (cells := 1) (slots := 120) C hr hlk hAe hP hD hS zd_S_init_42
abbrev zy_R_init : MethodName := ⟨"IslandOffice$Reader", "<init>", "()V"⟩
abbrev zb_R_init : ByteArray := prog_9_method_1_code
theorem zd_R_init_0 : decode zb_R_init 0 = .ok (.aload_n 0, 1) := by decide +kernel
theorem zd_R_init_1 : decode zb_R_init 1 = .ok (.invokespecial 3, 3) := by decide +kernel
theorem zd_R_init_4 : decode zb_R_init 4 = .ok (.aload_n 0, 1) := by decide +kernel
theorem zd_R_init_5 : decode zb_R_init 5 = .ok (.bipush 120, 2) := by decide +kernel
theorem zd_R_init_7 : decode zb_R_init 7 = .ok (.newarray .int, 2) := by decide +kernel
theorem zd_R_init_9 : decode zb_R_init 9 = .ok (.putfield 9, 3) := by decide +kernel
theorem zd_R_init_12 : decode zb_R_init 12 = .ok (.aload_n 0, 1) := by decide +kernel
theorem zd_R_init_13 : decode zb_R_init 13 = .ok (.bipush 120, 2) := by decide +kernel
theorem zd_R_init_15 : decode zb_R_init 15 = .ok (.newarray .int, 2) := by decide +kernel
theorem zd_R_init_17 : decode zb_R_init 17 = .ok (.putfield 15, 3) := by decide +kernel
theorem zd_R_init_20 : decode zb_R_init 20 = .ok (.aload_n 0, 1) := by decide +kernel
theorem zd_R_init_21 : decode zb_R_init 21 = .ok (.iconst 0, 1) := by decide +kernel
theorem zd_R_init_22 : decode zb_R_init 22 = .ok (.putfield 18, 3) := by decide +kernel
theorem zd_R_init_25 : decode zb_R_init 25 = .ok (.aload_n 0, 1) := by decide +kernel
theorem zd_R_init_26 : decode zb_R_init 26 = .ok (.iconst 0, 1) := by decide +kernel
theorem zd_R_init_27 : decode zb_R_init 27 = .ok (.putfield 22, 3) := by decide +kernel
theorem zd_R_init_30 : decode zb_R_init 30 = .ok (.aload_n 0, 1) := by decide +kernel
theorem zd_R_init_31 : decode zb_R_init 31 = .ok (.iconst 0, 1) := by decide +kernel
theorem zd_R_init_32 : decode zb_R_init 32 = .ok (.putfield 25, 3) := by decide +kernel
theorem zd_R_init_35 : decode zb_R_init 35 = .ok (.aload_n 0, 1) := by decide +kernel
theorem zd_R_init_36 : decode zb_R_init 36 = .ok (.iconst 0, 1) := by decide +kernel
theorem zd_R_init_37 : decode zb_R_init 37 = .ok (.putfield 28, 3) := by decide +kernel
theorem zd_R_init_40 : decode zb_R_init 40 = .ok (.aload_n 0, 1) := by decide +kernel
theorem zd_R_init_41 : decode zb_R_init 41 = .ok (.iconst 0, 1) := by decide +kernel
theorem zd_R_init_42 : decode zb_R_init 42 = .ok (.putfield 31, 3) := by decide +kernel
theorem zd_R_init_45 : decode zb_R_init 45 = .ok (.aload_n 0, 1) := by decide +kernel
theorem zd_R_init_46 : decode zb_R_init 46 = .ok (.iconst 0, 1) := by decide +kernel
theorem zd_R_init_47 : decode zb_R_init 47 = .ok (.putfield 34, 3) := by decide +kernel
theorem zd_R_init_50 : decode zb_R_init 50 = .ok (.return_, 1) := by decide +kernel
theorem zdv_R : ∀ j, j < 8 → defaultValue (zt_R j) = vp_V [.int 0, .null, .int 0, .null, .int 0, .int 0, .int 0, .int 0] j := by
  intro j hj
  rcases (show j = 0 ∨ j = 1 ∨ j = 2 ∨ j = 3 ∨ j = 4 ∨ j = 5 ∨ j = 6 ∨ j = 7 by omega) with rfl | rfl | rfl | rfl | rfl | rfl | rfl | rfl <;> rfl
abbrev zm_iR : Room := { frames := 1, cells := 2, slots := 240, locals := 64 }
def ww_R (B : zB) (h0 : Nat) (q : Nat → Nat) : va_W := (h0, .inr (8, [.int (zI (0)), .ref (q 0), .int (zI (0)), .ref (q 1), .int (zI (0)), .int (zI (0)), .int (zI (0)), .int (zI (0))])) :: (((q 1), e0 B 120) :: (((q 0), e0 B 120) :: ([])))
set_option maxHeartbeats 4000000 in
set_option maxRecDepth 100000 in
theorem zin_R {l : Launch} {B : zB} (h0 : Nat) (sz : Nat) (hB : ∀ q, va_A [(h0, .inr (8, [.int 0, .null, .int 0, .null, .int 0, .int 0, .int 0, .int 0]))] sz q → B.2.2.2 q) : Met l zy_R_init (Cond.code zy_R_init zb_R_init 1 none :: zT) zm_iR (va_Pc [.ref h0] (zPi B [(h0, .inr (8, [.int 0, .null, .int 0, .null, .int 0, .int 0, .int 0, .int 0]))] sz)) (zQc B [(h0, .inr (8, [.int 0, .null, .int 0, .null, .int 0, .int 0, .int 0, .int 0]))] sz (ww_R B h0)) 2 240 (va_A [(h0, .inr (8, [.int 0, .null, .int 0, .null, .int 0, .int 0, .int 0, .int 0]))] sz) := by
  refine zmeti (by decide) (Nat.le_of_ble_eq_true rfl) (fun p e s m args below meth c C hr hlk hnm hsz hP hD hS hK hX hst hA ls hl => ?_)
  have hAB := hB
  subst hsz
  generalize hAe : va_A [(h0, .inr (8, [.int 0, .null, .int 0, .null, .int 0, .int 0, .int 0, .int 0]))] s.heap.size = A at *
  have hl : lv_has ls 1 [(0, .ref h0)] := hl
  have hP : va_P B.1 zcl ([(h0, .inr (8, [.int 0, .null, .int 0, .null, .int 0, .int 0, .int 0, .int 0]))] ++ []) s.heap := hP
  have hD : va_D A ([(h0, .inr (8, [.int 0, .null, .int 0, .null, .int 0, .int 0, .int 0, .int 0]))] ++ []) := hD
  refine lv_aload_n C.1 C.2.1 zd_R_init_0 rfl (lv_at hl 0 rfl) ?_
  refine zo_obj C zk_377 zk_31 zk_32 hl.1 zd_R_init_1 (Nat.le_of_ble_eq_true rfl) (Nat.le_of_ble_eq_true rfl) ?_
  refine lv_aload_n C.1 C.2.1 zd_R_init_4 rfl (lv_at hl 0 rfl) ?_
  refine zr_bipush C zd_R_init_5 (by decide) ?_
  refine zi_newi (N := 120) C hK hP hD hS hA rfl (by decide) (Nat.le_of_ble_eq_true rfl) (Nat.le_of_ble_eq_true rfl) zk_108 zd_R_init_7 (fun q7_0 H hP hD hS => ?_)
  refine W.widen (k := 1) (n := 120) (Nat.le_of_ble_eq_true rfl) (Nat.le_of_ble_eq_true rfl) ?_
  refine va_putF (ci := 8) (v := .ref q7_0) (ty := zt_R 1) (C := zR_R) (T := zF_R) (N := 8) C.1 C.2.1 C.2.2.2.2 zh_R zt_R zt_R_ok zn_R C.2.2.2.1 hK hP hD hS 0 rfl rfl 1 (by decide) (C.2.2.2.2 _ zk_380) (fun _ h9 => h9) rfl hnm rfl (zt_R_ok 1 (by decide)) rfl rfl (Nat.le_of_ble_eq_true rfl) zd_R_init_9 (fun H locs hP hD hS => ?_)
  replace hP := zset_P (P2 := [(h0, .inr (8, [.int 0, .ref q7_0, .int 0, .null, .int 0, .int 0, .int 0, .int 0]))]) (fun _ => rfl) hP
  replace hD := zset_D (P2 := [(h0, .inr (8, [.int 0, .ref q7_0, .int 0, .null, .int 0, .int 0, .int 0, .int 0]))]) (fun _ => rfl) hD
  refine lv_aload_n C.1 C.2.1 zd_R_init_12 rfl (lv_at hl 0 rfl) ?_
  refine zr_bipush C zd_R_init_13 (by decide) ?_
  refine zi_newi (N := 120) C hK hP hD hS hA rfl (by decide) (Nat.le_of_ble_eq_true rfl) (Nat.le_of_ble_eq_true rfl) zk_108 zd_R_init_15 (fun q15_1 H hP hD hS => ?_)
  refine W.widen (k := 2) (n := 240) (Nat.le_of_ble_eq_true rfl) (Nat.le_of_ble_eq_true rfl) ?_
  refine va_putF (ci := 8) (v := .ref q15_1) (ty := zt_R 3) (C := zR_R) (T := zF_R) (N := 8) C.1 C.2.1 C.2.2.2.2 zh_R zt_R zt_R_ok zn_R C.2.2.2.1 hK hP hD hS 0 rfl rfl 3 (by decide) (C.2.2.2.2 _ zk_384) (fun _ h9 => h9) rfl hnm rfl (zt_R_ok 3 (by decide)) rfl rfl (Nat.le_of_ble_eq_true rfl) zd_R_init_17 (fun H locs hP hD hS => ?_)
  replace hP := zset_P (P2 := [(h0, .inr (8, [.int 0, .ref q7_0, .int 0, .ref q15_1, .int 0, .int 0, .int 0, .int 0]))]) (fun _ => rfl) hP
  replace hD := zset_D (P2 := [(h0, .inr (8, [.int 0, .ref q7_0, .int 0, .ref q15_1, .int 0, .int 0, .int 0, .int 0]))]) (fun _ => rfl) hD
  refine lv_aload_n C.1 C.2.1 zd_R_init_20 rfl (lv_at hl 0 rfl) ?_
  refine zr_iconst C zd_R_init_21 ?_
  refine va_put (ci := 8) (v := .int (zI (0))) (ty := zt_R 0) (C := zR_R) (T := zF_R) (N := 8) C.1 C.2.1 C.2.2.2.2 zh_R zt_R zt_R_ok zn_R C.2.2.2.1 hK hP hD hS 0 rfl rfl 0 (by decide) (C.2.2.2.2 _ zk_378) (fun _ h9 => h9) rfl (zt_R_ok 0 (by decide)) rfl rfl (Nat.le_of_ble_eq_true rfl) zd_R_init_22 (fun H locs hP hD hS => ?_)
  replace hP := zset_P (P2 := [(h0, .inr (8, [.int (zI (0)), .ref q7_0, .int 0, .ref q15_1, .int 0, .int 0, .int 0, .int 0]))]) (fun _ => rfl) hP
  replace hD := zset_D (P2 := [(h0, .inr (8, [.int (zI (0)), .ref q7_0, .int 0, .ref q15_1, .int 0, .int 0, .int 0, .int 0]))]) (fun _ => rfl) hD
  refine lv_aload_n C.1 C.2.1 zd_R_init_25 rfl (lv_at hl 0 rfl) ?_
  refine zr_iconst C zd_R_init_26 ?_
  refine va_put (ci := 8) (v := .int (zI (0))) (ty := zt_R 2) (C := zR_R) (T := zF_R) (N := 8) C.1 C.2.1 C.2.2.2.2 zh_R zt_R zt_R_ok zn_R C.2.2.2.1 hK hP hD hS 0 rfl rfl 2 (by decide) (C.2.2.2.2 _ zk_382) (fun _ h9 => h9) rfl (zt_R_ok 2 (by decide)) rfl rfl (Nat.le_of_ble_eq_true rfl) zd_R_init_27 (fun H locs hP hD hS => ?_)
  replace hP := zset_P (P2 := [(h0, .inr (8, [.int (zI (0)), .ref q7_0, .int (zI (0)), .ref q15_1, .int 0, .int 0, .int 0, .int 0]))]) (fun _ => rfl) hP
  replace hD := zset_D (P2 := [(h0, .inr (8, [.int (zI (0)), .ref q7_0, .int (zI (0)), .ref q15_1, .int 0, .int 0, .int 0, .int 0]))]) (fun _ => rfl) hD
  refine lv_aload_n C.1 C.2.1 zd_R_init_30 rfl (lv_at hl 0 rfl) ?_
  refine zr_iconst C zd_R_init_31 ?_
  refine va_put (ci := 8) (v := .int (zI (0))) (ty := zt_R 4) (C := zR_R) (T := zF_R) (N := 8) C.1 C.2.1 C.2.2.2.2 zh_R zt_R zt_R_ok zn_R C.2.2.2.1 hK hP hD hS 0 rfl rfl 4 (by decide) (C.2.2.2.2 _ zk_385) (fun _ h9 => h9) rfl (zt_R_ok 4 (by decide)) rfl rfl (Nat.le_of_ble_eq_true rfl) zd_R_init_32 (fun H locs hP hD hS => ?_)
  replace hP := zset_P (P2 := [(h0, .inr (8, [.int (zI (0)), .ref q7_0, .int (zI (0)), .ref q15_1, .int (zI (0)), .int 0, .int 0, .int 0]))]) (fun _ => rfl) hP
  replace hD := zset_D (P2 := [(h0, .inr (8, [.int (zI (0)), .ref q7_0, .int (zI (0)), .ref q15_1, .int (zI (0)), .int 0, .int 0, .int 0]))]) (fun _ => rfl) hD
  refine lv_aload_n C.1 C.2.1 zd_R_init_35 rfl (lv_at hl 0 rfl) ?_
  refine zr_iconst C zd_R_init_36 ?_
  refine va_put (ci := 8) (v := .int (zI (0))) (ty := zt_R 5) (C := zR_R) (T := zF_R) (N := 8) C.1 C.2.1 C.2.2.2.2 zh_R zt_R zt_R_ok zn_R C.2.2.2.1 hK hP hD hS 0 rfl rfl 5 (by decide) (C.2.2.2.2 _ zk_386) (fun _ h9 => h9) rfl (zt_R_ok 5 (by decide)) rfl rfl (Nat.le_of_ble_eq_true rfl) zd_R_init_37 (fun H locs hP hD hS => ?_)
  replace hP := zset_P (P2 := [(h0, .inr (8, [.int (zI (0)), .ref q7_0, .int (zI (0)), .ref q15_1, .int (zI (0)), .int (zI (0)), .int 0, .int 0]))]) (fun _ => rfl) hP
  replace hD := zset_D (P2 := [(h0, .inr (8, [.int (zI (0)), .ref q7_0, .int (zI (0)), .ref q15_1, .int (zI (0)), .int (zI (0)), .int 0, .int 0]))]) (fun _ => rfl) hD
  refine lv_aload_n C.1 C.2.1 zd_R_init_40 rfl (lv_at hl 0 rfl) ?_
  refine zr_iconst C zd_R_init_41 ?_
  refine va_put (ci := 8) (v := .int (zI (0))) (ty := zt_R 6) (C := zR_R) (T := zF_R) (N := 8) C.1 C.2.1 C.2.2.2.2 zh_R zt_R zt_R_ok zn_R C.2.2.2.1 hK hP hD hS 0 rfl rfl 6 (by decide) (C.2.2.2.2 _ zk_387) (fun _ h9 => h9) rfl (zt_R_ok 6 (by decide)) rfl rfl (Nat.le_of_ble_eq_true rfl) zd_R_init_42 (fun H locs hP hD hS => ?_)
  replace hP := zset_P (P2 := [(h0, .inr (8, [.int (zI (0)), .ref q7_0, .int (zI (0)), .ref q15_1, .int (zI (0)), .int (zI (0)), .int (zI (0)), .int 0]))]) (fun _ => rfl) hP
  replace hD := zset_D (P2 := [(h0, .inr (8, [.int (zI (0)), .ref q7_0, .int (zI (0)), .ref q15_1, .int (zI (0)), .int (zI (0)), .int (zI (0)), .int 0]))]) (fun _ => rfl) hD
  refine lv_aload_n C.1 C.2.1 zd_R_init_45 rfl (lv_at hl 0 rfl) ?_
  refine zr_iconst C zd_R_init_46 ?_
  refine va_put (ci := 8) (v := .int (zI (0))) (ty := zt_R 7) (C := zR_R) (T := zF_R) (N := 8) C.1 C.2.1 C.2.2.2.2 zh_R zt_R zt_R_ok zn_R C.2.2.2.1 hK hP hD hS 0 rfl rfl 7 (by decide) (C.2.2.2.2 _ zk_388) (fun _ h9 => h9) rfl (zt_R_ok 7 (by decide)) rfl rfl (Nat.le_of_ble_eq_true rfl) zd_R_init_47 (fun H locs hP hD hS => ?_)
  replace hP := zset_P (P2 := [(h0, .inr (8, [.int (zI (0)), .ref q7_0, .int (zI (0)), .ref q15_1, .int (zI (0)), .int (zI (0)), .int (zI (0)), .int (zI (0))]))]) (fun _ => rfl) hP
  replace hD := zset_D (P2 := [(h0, .inr (8, [.int (zI (0)), .ref q7_0, .int (zI (0)), .ref q15_1, .int (zI (0)), .int (zI (0)), .int (zI (0)), .int (zI (0))]))]) (fun _ => rfl) hD
  have hP : va_P B.1 zcl (ww_R B h0 (fun i => [q7_0, q15_1].getD i 0)) H := hP
  have hD : va_D A (ww_R B h0 (fun i => [q7_0, q15_1].getD i 0)) := hD
  exact zi_end2 (w := ww_R B h0) (u := (fun i => [q7_0, q15_1].getD i 0)) (cells := 2) (slots := 240) C hr hlk hAe hP hD hS zd_R_init_50
abbrev zy_J_init : MethodName := ⟨"IslandOffice$Judge", "<init>", "()V"⟩
abbrev zb_J_init : ByteArray := prog_5_method_1_code
theorem zd_J_init_0 : decode zb_J_init 0 = .ok (.aload_n 0, 1) := by decide +kernel
theorem zd_J_init_1 : decode zb_J_init 1 = .ok (.invokespecial 3, 3) := by decide +kernel
theorem zd_J_init_4 : decode zb_J_init 4 = .ok (.aload_n 0, 1) := by decide +kernel
theorem zd_J_init_5 : decode zb_J_init 5 = .ok (.bipush 7, 2) := by decide +kernel
theorem zd_J_init_7 : decode zb_J_init 7 = .ok (.newarray .int, 2) := by decide +kernel
theorem zd_J_init_9 : decode zb_J_init 9 = .ok (.putfield 9, 3) := by decide +kernel
theorem zd_J_init_12 : decode zb_J_init 12 = .ok (.aload_n 0, 1) := by decide +kernel
theorem zd_J_init_13 : decode zb_J_init 13 = .ok (.bipush 120, 2) := by decide +kernel
theorem zd_J_init_15 : decode zb_J_init 15 = .ok (.newarray .int, 2) := by decide +kernel
theorem zd_J_init_17 : decode zb_J_init 17 = .ok (.putfield 15, 3) := by decide +kernel
theorem zd_J_init_20 : decode zb_J_init 20 = .ok (.aload_n 0, 1) := by decide +kernel
theorem zd_J_init_21 : decode zb_J_init 21 = .ok (.iconst 0, 1) := by decide +kernel
theorem zd_J_init_22 : decode zb_J_init 22 = .ok (.putfield 18, 3) := by decide +kernel
theorem zd_J_init_25 : decode zb_J_init 25 = .ok (.return_, 1) := by decide +kernel
theorem zdv_J : ∀ j, j < 3 → defaultValue (zt_J j) = vp_V [.null, .null, .int 0] j := by
  intro j hj
  rcases (show j = 0 ∨ j = 1 ∨ j = 2 by omega) with rfl | rfl | rfl <;> rfl
abbrev zm_iJ : Room := { frames := 1, cells := 2, slots := 127, locals := 64 }
def ww_J (B : zB) (h0 : Nat) (q : Nat → Nat) : va_W := (h0, .inr (4, [.ref (q 0), .ref (q 1), .int (zI (0))])) :: (((q 1), e0 B 120) :: (((q 0), e0 B 7) :: ([])))
set_option maxHeartbeats 4000000 in
set_option maxRecDepth 100000 in
theorem zin_J {l : Launch} {B : zB} (h0 : Nat) (sz : Nat) (hB : ∀ q, va_A [(h0, .inr (4, [.null, .null, .int 0]))] sz q → B.2.2.2 q) : Met l zy_J_init (Cond.code zy_J_init zb_J_init 1 none :: zT) zm_iJ (va_Pc [.ref h0] (zPi B [(h0, .inr (4, [.null, .null, .int 0]))] sz)) (zQc B [(h0, .inr (4, [.null, .null, .int 0]))] sz (ww_J B h0)) 2 127 (va_A [(h0, .inr (4, [.null, .null, .int 0]))] sz) := by
  refine zmeti (by decide) (Nat.le_of_ble_eq_true rfl) (fun p e s m args below meth c C hr hlk hnm hsz hP hD hS hK hX hst hA ls hl => ?_)
  have hAB := hB
  subst hsz
  generalize hAe : va_A [(h0, .inr (4, [.null, .null, .int 0]))] s.heap.size = A at *
  have hl : lv_has ls 1 [(0, .ref h0)] := hl
  have hP : va_P B.1 zcl ([(h0, .inr (4, [.null, .null, .int 0]))] ++ []) s.heap := hP
  have hD : va_D A ([(h0, .inr (4, [.null, .null, .int 0]))] ++ []) := hD
  refine lv_aload_n C.1 C.2.1 zd_J_init_0 rfl (lv_at hl 0 rfl) ?_
  refine zo_obj C zk_411 zk_31 zk_32 hl.1 zd_J_init_1 (Nat.le_of_ble_eq_true rfl) (Nat.le_of_ble_eq_true rfl) ?_
  refine lv_aload_n C.1 C.2.1 zd_J_init_4 rfl (lv_at hl 0 rfl) ?_
  refine zr_bipush C zd_J_init_5 (by decide) ?_
  refine zi_newi (N := 7) C hK hP hD hS hA rfl (by decide) (Nat.le_of_ble_eq_true rfl) (Nat.le_of_ble_eq_true rfl) zk_108 zd_J_init_7 (fun q7_0 H hP hD hS => ?_)
  refine W.widen (k := 1) (n := 7) (Nat.le_of_ble_eq_true rfl) (Nat.le_of_ble_eq_true rfl) ?_
  refine va_putF (ci := 4) (v := .ref q7_0) (ty := zt_J 0) (C := zR_J) (T := zF_J) (N := 3) C.1 C.2.1 C.2.2.2.2 zh_J zt_J zt_J_ok zn_J C.2.2.2.1 hK hP hD hS 0 rfl rfl 0 (by decide) (C.2.2.2.2 _ zk_412) (fun _ h9 => h9) rfl hnm rfl (zt_J_ok 0 (by decide)) rfl rfl (Nat.le_of_ble_eq_true rfl) zd_J_init_9 (fun H locs hP hD hS => ?_)
  replace hP := zset_P (P2 := [(h0, .inr (4, [.ref q7_0, .null, .int 0]))]) (fun _ => rfl) hP
  replace hD := zset_D (P2 := [(h0, .inr (4, [.ref q7_0, .null, .int 0]))]) (fun _ => rfl) hD
  refine lv_aload_n C.1 C.2.1 zd_J_init_12 rfl (lv_at hl 0 rfl) ?_
  refine zr_bipush C zd_J_init_13 (by decide) ?_
  refine zi_newi (N := 120) C hK hP hD hS hA rfl (by decide) (Nat.le_of_ble_eq_true rfl) (Nat.le_of_ble_eq_true rfl) zk_108 zd_J_init_15 (fun q15_1 H hP hD hS => ?_)
  refine W.widen (k := 2) (n := 127) (Nat.le_of_ble_eq_true rfl) (Nat.le_of_ble_eq_true rfl) ?_
  refine va_putF (ci := 4) (v := .ref q15_1) (ty := zt_J 1) (C := zR_J) (T := zF_J) (N := 3) C.1 C.2.1 C.2.2.2.2 zh_J zt_J zt_J_ok zn_J C.2.2.2.1 hK hP hD hS 0 rfl rfl 1 (by decide) (C.2.2.2.2 _ zk_413) (fun _ h9 => h9) rfl hnm rfl (zt_J_ok 1 (by decide)) rfl rfl (Nat.le_of_ble_eq_true rfl) zd_J_init_17 (fun H locs hP hD hS => ?_)
  replace hP := zset_P (P2 := [(h0, .inr (4, [.ref q7_0, .ref q15_1, .int 0]))]) (fun _ => rfl) hP
  replace hD := zset_D (P2 := [(h0, .inr (4, [.ref q7_0, .ref q15_1, .int 0]))]) (fun _ => rfl) hD
  refine lv_aload_n C.1 C.2.1 zd_J_init_20 rfl (lv_at hl 0 rfl) ?_
  refine zr_iconst C zd_J_init_21 ?_
  refine va_put (ci := 4) (v := .int (zI (0))) (ty := zt_J 2) (C := zR_J) (T := zF_J) (N := 3) C.1 C.2.1 C.2.2.2.2 zh_J zt_J zt_J_ok zn_J C.2.2.2.1 hK hP hD hS 0 rfl rfl 2 (by decide) (C.2.2.2.2 _ zk_414) (fun _ h9 => h9) rfl (zt_J_ok 2 (by decide)) rfl rfl (Nat.le_of_ble_eq_true rfl) zd_J_init_22 (fun H locs hP hD hS => ?_)
  replace hP := zset_P (P2 := [(h0, .inr (4, [.ref q7_0, .ref q15_1, .int (zI (0))]))]) (fun _ => rfl) hP
  replace hD := zset_D (P2 := [(h0, .inr (4, [.ref q7_0, .ref q15_1, .int (zI (0))]))]) (fun _ => rfl) hD
  have hP : va_P B.1 zcl (ww_J B h0 (fun i => [q7_0, q15_1].getD i 0)) H := hP
  have hD : va_D A (ww_J B h0 (fun i => [q7_0, q15_1].getD i 0)) := hD
  exact zi_end2 (w := ww_J B h0) (u := (fun i => [q7_0, q15_1].getD i 0)) (cells := 2) (slots := 127) C hr hlk hAe hP hD hS zd_J_init_25
abbrev zy_C_init : MethodName := ⟨"IslandOffice$Crews", "<init>", "()V"⟩
abbrev zb_C_init : ByteArray := prog_3_method_1_code
theorem zd_C_init_0 : decode zb_C_init 0 = .ok (.aload_n 0, 1) := by decide +kernel
theorem zd_C_init_1 : decode zb_C_init 1 = .ok (.invokespecial 5, 3) := by decide +kernel
theorem zd_C_init_4 : decode zb_C_init 4 = .ok (.aload_n 0, 1) := by decide +kernel
theorem zd_C_init_5 : decode zb_C_init 5 = .ok (.bipush 8, 2) := by decide +kernel
theorem zd_C_init_7 : decode zb_C_init 7 = .ok (.newarray .long, 2) := by decide +kernel
theorem zd_C_init_9 : decode zb_C_init 9 = .ok (.putfield 11, 3) := by decide +kernel
theorem zd_C_init_12 : decode zb_C_init 12 = .ok (.aload_n 0, 1) := by decide +kernel
theorem zd_C_init_13 : decode zb_C_init 13 = .ok (.bipush 8, 2) := by decide +kernel
theorem zd_C_init_15 : decode zb_C_init 15 = .ok (.newarray .long, 2) := by decide +kernel
theorem zd_C_init_17 : decode zb_C_init 17 = .ok (.putfield 15, 3) := by decide +kernel
theorem zd_C_init_20 : decode zb_C_init 20 = .ok (.aload_n 0, 1) := by decide +kernel
theorem zd_C_init_21 : decode zb_C_init 21 = .ok (.bipush 8, 2) := by decide +kernel
theorem zd_C_init_23 : decode zb_C_init 23 = .ok (.newarray .int, 2) := by decide +kernel
theorem zd_C_init_25 : decode zb_C_init 25 = .ok (.putfield 18, 3) := by decide +kernel
theorem zd_C_init_28 : decode zb_C_init 28 = .ok (.aload_n 0, 1) := by decide +kernel
theorem zd_C_init_29 : decode zb_C_init 29 = .ok (.bipush 8, 2) := by decide +kernel
theorem zd_C_init_31 : decode zb_C_init 31 = .ok (.newarray .long, 2) := by decide +kernel
theorem zd_C_init_33 : decode zb_C_init 33 = .ok (.putfield 22, 3) := by decide +kernel
theorem zd_C_init_36 : decode zb_C_init 36 = .ok (.aload_n 0, 1) := by decide +kernel
theorem zd_C_init_37 : decode zb_C_init 37 = .ok (.bipush 8, 2) := by decide +kernel
theorem zd_C_init_39 : decode zb_C_init 39 = .ok (.newarray .int, 2) := by decide +kernel
theorem zd_C_init_41 : decode zb_C_init 41 = .ok (.putfield 25, 3) := by decide +kernel
theorem zd_C_init_44 : decode zb_C_init 44 = .ok (.aload_n 0, 1) := by decide +kernel
theorem zd_C_init_45 : decode zb_C_init 45 = .ok (.iconst 0, 1) := by decide +kernel
theorem zd_C_init_46 : decode zb_C_init 46 = .ok (.putfield 28, 3) := by decide +kernel
theorem zd_C_init_49 : decode zb_C_init 49 = .ok (.aload_n 0, 1) := by decide +kernel
theorem zd_C_init_50 : decode zb_C_init 50 = .ok (.bipush 9, 2) := by decide +kernel
theorem zd_C_init_52 : decode zb_C_init 52 = .ok (.newarray .int, 2) := by decide +kernel
theorem zd_C_init_54 : decode zb_C_init 54 = .ok (.putfield 32, 3) := by decide +kernel
theorem zd_C_init_57 : decode zb_C_init 57 = .ok (.aload_n 0, 1) := by decide +kernel
theorem zd_C_init_58 : decode zb_C_init 58 = .ok (.bipush 8, 2) := by decide +kernel
theorem zd_C_init_60 : decode zb_C_init 60 = .ok (.newarray .int, 2) := by decide +kernel
theorem zd_C_init_62 : decode zb_C_init 62 = .ok (.putfield 35, 3) := by decide +kernel
theorem zd_C_init_65 : decode zb_C_init 65 = .ok (.aload_n 0, 1) := by decide +kernel
theorem zd_C_init_66 : decode zb_C_init 66 = .ok (.bipush 9, 2) := by decide +kernel
theorem zd_C_init_68 : decode zb_C_init 68 = .ok (.sipush 512, 3) := by decide +kernel
theorem zd_C_init_71 : decode zb_C_init 71 = .ok (.multianewarray 38 2, 4) := by decide +kernel
theorem zd_C_init_75 : decode zb_C_init 75 = .ok (.putfield 40, 3) := by decide +kernel
theorem zd_C_init_78 : decode zb_C_init 78 = .ok (.return_, 1) := by decide +kernel
theorem zdv_C : ∀ j, j < 9 → defaultValue (zt_C j) = vp_V [.null, .null, .null, .null, .null, .int 0, .null, .null, .null] j := by
  intro j hj
  rcases (show j = 0 ∨ j = 1 ∨ j = 2 ∨ j = 3 ∨ j = 4 ∨ j = 5 ∨ j = 6 ∨ j = 7 ∨ j = 8 by omega) with rfl | rfl | rfl | rfl | rfl | rfl | rfl | rfl | rfl <;> rfl
abbrev zm_iC : Room := { frames := 1, cells := 17, slots := 4674, locals := 64 }
def ww_C (B : zB) (h0 : Nat) (q : Nat → Nat) : va_W := (h0, .inr (2, [.ref (q 0), .ref (q 1), .ref (q 2), .ref (q 3), .ref (q 4), .int (zI (0)), .ref (q 5), .ref (q 6), .ref (q 7)])) :: (gr B 9 512 (q 7) ++ (((q 6), e0 B 8) :: (((q 5), e0 B 9) :: (((q 4), e0 B 8) :: (((q 3), el B 8) :: (((q 2), e0 B 8) :: (((q 1), el B 8) :: (((q 0), el B 8) :: ([])))))))))
set_option maxHeartbeats 4000000 in
set_option maxRecDepth 100000 in
theorem zin_C {l : Launch} {B : zB} (h0 : Nat) (sz : Nat) (hB : ∀ q, va_A [(h0, .inr (2, [.null, .null, .null, .null, .null, .int 0, .null, .null, .null]))] sz q → B.2.2.2 q) : Met l zy_C_init (Cond.code zy_C_init zb_C_init 1 none :: zT) zm_iC (va_Pc [.ref h0] (zPi B [(h0, .inr (2, [.null, .null, .null, .null, .null, .int 0, .null, .null, .null]))] sz)) (zQc B [(h0, .inr (2, [.null, .null, .null, .null, .null, .int 0, .null, .null, .null]))] sz (ww_C B h0)) 17 4674 (va_A [(h0, .inr (2, [.null, .null, .null, .null, .null, .int 0, .null, .null, .null]))] sz) := by
  refine zmeti (by decide) (Nat.le_of_ble_eq_true rfl) (fun p e s m args below meth c C hr hlk hnm hsz hP hD hS hK hX hst hA ls hl => ?_)
  have hAB := hB
  subst hsz
  generalize hAe : va_A [(h0, .inr (2, [.null, .null, .null, .null, .null, .int 0, .null, .null, .null]))] s.heap.size = A at *
  have hl : lv_has ls 1 [(0, .ref h0)] := hl
  have hP : va_P B.1 zcl ([(h0, .inr (2, [.null, .null, .null, .null, .null, .int 0, .null, .null, .null]))] ++ []) s.heap := hP
  have hD : va_D A ([(h0, .inr (2, [.null, .null, .null, .null, .null, .int 0, .null, .null, .null]))] ++ []) := hD
  refine lv_aload_n C.1 C.2.1 zd_C_init_0 rfl (lv_at hl 0 rfl) ?_
  refine zo_obj C zk_427 zk_31 zk_32 hl.1 zd_C_init_1 (Nat.le_of_ble_eq_true rfl) (Nat.le_of_ble_eq_true rfl) ?_
  refine lv_aload_n C.1 C.2.1 zd_C_init_4 rfl (lv_at hl 0 rfl) ?_
  refine zr_bipush C zd_C_init_5 (by decide) ?_
  refine zi_newl (N := 8) C hK hP hD hS hA rfl (by decide) (Nat.le_of_ble_eq_true rfl) (Nat.le_of_ble_eq_true rfl) zk_459 zd_C_init_7 (fun q7_0 H hP hD hS => ?_)
  refine W.widen (k := 1) (n := 8) (Nat.le_of_ble_eq_true rfl) (Nat.le_of_ble_eq_true rfl) ?_
  refine va_putF (ci := 2) (v := .ref q7_0) (ty := zt_C 0) (C := zR_C) (T := zF_C) (N := 9) C.1 C.2.1 C.2.2.2.2 zh_C zt_C zt_C_ok zn_C C.2.2.2.1 hK hP hD hS 0 rfl rfl 0 (by decide) (C.2.2.2.2 _ zk_429) (fun _ h9 => h9) rfl hnm rfl (zt_C_ok 0 (by decide)) rfl rfl (Nat.le_of_ble_eq_true rfl) zd_C_init_9 (fun H locs hP hD hS => ?_)
  replace hP := zset_P (P2 := [(h0, .inr (2, [.ref q7_0, .null, .null, .null, .null, .int 0, .null, .null, .null]))]) (fun _ => rfl) hP
  replace hD := zset_D (P2 := [(h0, .inr (2, [.ref q7_0, .null, .null, .null, .null, .int 0, .null, .null, .null]))]) (fun _ => rfl) hD
  refine lv_aload_n C.1 C.2.1 zd_C_init_12 rfl (lv_at hl 0 rfl) ?_
  refine zr_bipush C zd_C_init_13 (by decide) ?_
  refine zi_newl (N := 8) C hK hP hD hS hA rfl (by decide) (Nat.le_of_ble_eq_true rfl) (Nat.le_of_ble_eq_true rfl) zk_459 zd_C_init_15 (fun q15_1 H hP hD hS => ?_)
  refine W.widen (k := 2) (n := 16) (Nat.le_of_ble_eq_true rfl) (Nat.le_of_ble_eq_true rfl) ?_
  refine va_putF (ci := 2) (v := .ref q15_1) (ty := zt_C 1) (C := zR_C) (T := zF_C) (N := 9) C.1 C.2.1 C.2.2.2.2 zh_C zt_C zt_C_ok zn_C C.2.2.2.1 hK hP hD hS 0 rfl rfl 1 (by decide) (C.2.2.2.2 _ zk_432) (fun _ h9 => h9) rfl hnm rfl (zt_C_ok 1 (by decide)) rfl rfl (Nat.le_of_ble_eq_true rfl) zd_C_init_17 (fun H locs hP hD hS => ?_)
  replace hP := zset_P (P2 := [(h0, .inr (2, [.ref q7_0, .ref q15_1, .null, .null, .null, .int 0, .null, .null, .null]))]) (fun _ => rfl) hP
  replace hD := zset_D (P2 := [(h0, .inr (2, [.ref q7_0, .ref q15_1, .null, .null, .null, .int 0, .null, .null, .null]))]) (fun _ => rfl) hD
  refine lv_aload_n C.1 C.2.1 zd_C_init_20 rfl (lv_at hl 0 rfl) ?_
  refine zr_bipush C zd_C_init_21 (by decide) ?_
  refine zi_newi (N := 8) C hK hP hD hS hA rfl (by decide) (Nat.le_of_ble_eq_true rfl) (Nat.le_of_ble_eq_true rfl) zk_108 zd_C_init_23 (fun q23_2 H hP hD hS => ?_)
  refine W.widen (k := 3) (n := 24) (Nat.le_of_ble_eq_true rfl) (Nat.le_of_ble_eq_true rfl) ?_
  refine va_putF (ci := 2) (v := .ref q23_2) (ty := zt_C 2) (C := zR_C) (T := zF_C) (N := 9) C.1 C.2.1 C.2.2.2.2 zh_C zt_C zt_C_ok zn_C C.2.2.2.1 hK hP hD hS 0 rfl rfl 2 (by decide) (C.2.2.2.2 _ zk_433) (fun _ h9 => h9) rfl hnm rfl (zt_C_ok 2 (by decide)) rfl rfl (Nat.le_of_ble_eq_true rfl) zd_C_init_25 (fun H locs hP hD hS => ?_)
  replace hP := zset_P (P2 := [(h0, .inr (2, [.ref q7_0, .ref q15_1, .ref q23_2, .null, .null, .int 0, .null, .null, .null]))]) (fun _ => rfl) hP
  replace hD := zset_D (P2 := [(h0, .inr (2, [.ref q7_0, .ref q15_1, .ref q23_2, .null, .null, .int 0, .null, .null, .null]))]) (fun _ => rfl) hD
  refine lv_aload_n C.1 C.2.1 zd_C_init_28 rfl (lv_at hl 0 rfl) ?_
  refine zr_bipush C zd_C_init_29 (by decide) ?_
  refine zi_newl (N := 8) C hK hP hD hS hA rfl (by decide) (Nat.le_of_ble_eq_true rfl) (Nat.le_of_ble_eq_true rfl) zk_459 zd_C_init_31 (fun q31_3 H hP hD hS => ?_)
  refine W.widen (k := 4) (n := 32) (Nat.le_of_ble_eq_true rfl) (Nat.le_of_ble_eq_true rfl) ?_
  refine va_putF (ci := 2) (v := .ref q31_3) (ty := zt_C 3) (C := zR_C) (T := zF_C) (N := 9) C.1 C.2.1 C.2.2.2.2 zh_C zt_C zt_C_ok zn_C C.2.2.2.1 hK hP hD hS 0 rfl rfl 3 (by decide) (C.2.2.2.2 _ zk_434) (fun _ h9 => h9) rfl hnm rfl (zt_C_ok 3 (by decide)) rfl rfl (Nat.le_of_ble_eq_true rfl) zd_C_init_33 (fun H locs hP hD hS => ?_)
  replace hP := zset_P (P2 := [(h0, .inr (2, [.ref q7_0, .ref q15_1, .ref q23_2, .ref q31_3, .null, .int 0, .null, .null, .null]))]) (fun _ => rfl) hP
  replace hD := zset_D (P2 := [(h0, .inr (2, [.ref q7_0, .ref q15_1, .ref q23_2, .ref q31_3, .null, .int 0, .null, .null, .null]))]) (fun _ => rfl) hD
  refine lv_aload_n C.1 C.2.1 zd_C_init_36 rfl (lv_at hl 0 rfl) ?_
  refine zr_bipush C zd_C_init_37 (by decide) ?_
  refine zi_newi (N := 8) C hK hP hD hS hA rfl (by decide) (Nat.le_of_ble_eq_true rfl) (Nat.le_of_ble_eq_true rfl) zk_108 zd_C_init_39 (fun q39_4 H hP hD hS => ?_)
  refine W.widen (k := 5) (n := 40) (Nat.le_of_ble_eq_true rfl) (Nat.le_of_ble_eq_true rfl) ?_
  refine va_putF (ci := 2) (v := .ref q39_4) (ty := zt_C 4) (C := zR_C) (T := zF_C) (N := 9) C.1 C.2.1 C.2.2.2.2 zh_C zt_C zt_C_ok zn_C C.2.2.2.1 hK hP hD hS 0 rfl rfl 4 (by decide) (C.2.2.2.2 _ zk_435) (fun _ h9 => h9) rfl hnm rfl (zt_C_ok 4 (by decide)) rfl rfl (Nat.le_of_ble_eq_true rfl) zd_C_init_41 (fun H locs hP hD hS => ?_)
  replace hP := zset_P (P2 := [(h0, .inr (2, [.ref q7_0, .ref q15_1, .ref q23_2, .ref q31_3, .ref q39_4, .int 0, .null, .null, .null]))]) (fun _ => rfl) hP
  replace hD := zset_D (P2 := [(h0, .inr (2, [.ref q7_0, .ref q15_1, .ref q23_2, .ref q31_3, .ref q39_4, .int 0, .null, .null, .null]))]) (fun _ => rfl) hD
  refine lv_aload_n C.1 C.2.1 zd_C_init_44 rfl (lv_at hl 0 rfl) ?_
  refine zr_iconst C zd_C_init_45 ?_
  refine va_put (ci := 2) (v := .int (zI (0))) (ty := zt_C 5) (C := zR_C) (T := zF_C) (N := 9) C.1 C.2.1 C.2.2.2.2 zh_C zt_C zt_C_ok zn_C C.2.2.2.1 hK hP hD hS 0 rfl rfl 5 (by decide) (C.2.2.2.2 _ zk_436) (fun _ h9 => h9) rfl (zt_C_ok 5 (by decide)) rfl rfl (Nat.le_of_ble_eq_true rfl) zd_C_init_46 (fun H locs hP hD hS => ?_)
  replace hP := zset_P (P2 := [(h0, .inr (2, [.ref q7_0, .ref q15_1, .ref q23_2, .ref q31_3, .ref q39_4, .int (zI (0)), .null, .null, .null]))]) (fun _ => rfl) hP
  replace hD := zset_D (P2 := [(h0, .inr (2, [.ref q7_0, .ref q15_1, .ref q23_2, .ref q31_3, .ref q39_4, .int (zI (0)), .null, .null, .null]))]) (fun _ => rfl) hD
  refine lv_aload_n C.1 C.2.1 zd_C_init_49 rfl (lv_at hl 0 rfl) ?_
  refine zr_bipush C zd_C_init_50 (by decide) ?_
  refine zi_newi (N := 9) C hK hP hD hS hA rfl (by decide) (Nat.le_of_ble_eq_true rfl) (Nat.le_of_ble_eq_true rfl) zk_108 zd_C_init_52 (fun q52_5 H hP hD hS => ?_)
  refine W.widen (k := 6) (n := 49) (Nat.le_of_ble_eq_true rfl) (Nat.le_of_ble_eq_true rfl) ?_
  refine va_putF (ci := 2) (v := .ref q52_5) (ty := zt_C 6) (C := zR_C) (T := zF_C) (N := 9) C.1 C.2.1 C.2.2.2.2 zh_C zt_C zt_C_ok zn_C C.2.2.2.1 hK hP hD hS 0 rfl rfl 6 (by decide) (C.2.2.2.2 _ zk_437) (fun _ h9 => h9) rfl hnm rfl (zt_C_ok 6 (by decide)) rfl rfl (Nat.le_of_ble_eq_true rfl) zd_C_init_54 (fun H locs hP hD hS => ?_)
  replace hP := zset_P (P2 := [(h0, .inr (2, [.ref q7_0, .ref q15_1, .ref q23_2, .ref q31_3, .ref q39_4, .int (zI (0)), .ref q52_5, .null, .null]))]) (fun _ => rfl) hP
  replace hD := zset_D (P2 := [(h0, .inr (2, [.ref q7_0, .ref q15_1, .ref q23_2, .ref q31_3, .ref q39_4, .int (zI (0)), .ref q52_5, .null, .null]))]) (fun _ => rfl) hD
  refine lv_aload_n C.1 C.2.1 zd_C_init_57 rfl (lv_at hl 0 rfl) ?_
  refine zr_bipush C zd_C_init_58 (by decide) ?_
  refine zi_newi (N := 8) C hK hP hD hS hA rfl (by decide) (Nat.le_of_ble_eq_true rfl) (Nat.le_of_ble_eq_true rfl) zk_108 zd_C_init_60 (fun q60_6 H hP hD hS => ?_)
  refine W.widen (k := 7) (n := 57) (Nat.le_of_ble_eq_true rfl) (Nat.le_of_ble_eq_true rfl) ?_
  refine va_putF (ci := 2) (v := .ref q60_6) (ty := zt_C 7) (C := zR_C) (T := zF_C) (N := 9) C.1 C.2.1 C.2.2.2.2 zh_C zt_C zt_C_ok zn_C C.2.2.2.1 hK hP hD hS 0 rfl rfl 7 (by decide) (C.2.2.2.2 _ zk_438) (fun _ h9 => h9) rfl hnm rfl (zt_C_ok 7 (by decide)) rfl rfl (Nat.le_of_ble_eq_true rfl) zd_C_init_62 (fun H locs hP hD hS => ?_)
  replace hP := zset_P (P2 := [(h0, .inr (2, [.ref q7_0, .ref q15_1, .ref q23_2, .ref q31_3, .ref q39_4, .int (zI (0)), .ref q52_5, .ref q60_6, .null]))]) (fun _ => rfl) hP
  replace hD := zset_D (P2 := [(h0, .inr (2, [.ref q7_0, .ref q15_1, .ref q23_2, .ref q31_3, .ref q39_4, .int (zI (0)), .ref q52_5, .ref q60_6, .null]))]) (fun _ => rfl) hD
  refine lv_aload_n C.1 C.2.1 zd_C_init_65 rfl (lv_at hl 0 rfl) ?_
  refine zr_bipush C zd_C_init_66 (by decide) ?_
  refine zr_sipush C zd_C_init_68 (by decide) ?_
  refine zi_mna (N := 9) (K := 512) C hK hX hP hD hS hA rfl rfl (by decide) (by decide) (Nat.le_of_ble_eq_true rfl) (Nat.le_of_ble_eq_true rfl) zk_428 zk_108 zd_C_init_71 (fun q71_7 H hP hD hS => ?_)
  refine W.widen (k := 17) (n := 4674) (Nat.le_of_ble_eq_true rfl) (Nat.le_of_ble_eq_true rfl) ?_
  refine va_putF (ci := 2) (v := .ref q71_7) (ty := zt_C 8) (C := zR_C) (T := zF_C) (N := 9) C.1 C.2.1 C.2.2.2.2 zh_C zt_C zt_C_ok zn_C C.2.2.2.1 hK hP hD hS 0 rfl rfl 8 (by decide) (C.2.2.2.2 _ zk_439) (fun _ h9 => h9) rfl hnm rfl (zt_C_ok 8 (by decide)) rfl rfl (Nat.le_of_ble_eq_true rfl) zd_C_init_75 (fun H locs hP hD hS => ?_)
  replace hP := zset_P (P2 := [(h0, .inr (2, [.ref q7_0, .ref q15_1, .ref q23_2, .ref q31_3, .ref q39_4, .int (zI (0)), .ref q52_5, .ref q60_6, .ref q71_7]))]) (fun _ => rfl) hP
  replace hD := zset_D (P2 := [(h0, .inr (2, [.ref q7_0, .ref q15_1, .ref q23_2, .ref q31_3, .ref q39_4, .int (zI (0)), .ref q52_5, .ref q60_6, .ref q71_7]))]) (fun _ => rfl) hD
  have hP : va_P B.1 zcl (ww_C B h0 (fun i => [q7_0, q15_1, q23_2, q31_3, q39_4, q52_5, q60_6, q71_7].getD i 0)) H := hP
  have hD : va_D A (ww_C B h0 (fun i => [q7_0, q15_1, q23_2, q31_3, q39_4, q52_5, q60_6, q71_7].getD i 0)) := hD
  exact zi_end2 (w := ww_C B h0) (u := (fun i => [q7_0, q15_1, q23_2, q31_3, q39_4, q52_5, q60_6, q71_7].getD i 0)) (cells := 17) (slots := 4674) C hr hlk hAe hP hD hS zd_C_init_78
abbrev zy_A_init : MethodName := ⟨"IslandOffice$Almanac", "<init>", "(LIslandOffice$Judge;LIslandOffice$Crews;)V"⟩
abbrev zb_A_init : ByteArray := prog_2_method_1_code
theorem zd_A_init_0 : decode zb_A_init 0 = .ok (.aload_n 0, 1) := by decide +kernel
theorem zd_A_init_1 : decode zb_A_init 1 = .ok (.invokespecial 3, 3) := by decide +kernel
theorem zd_A_init_4 : decode zb_A_init 4 = .ok (.aload_n 0, 1) := by decide +kernel
theorem zd_A_init_5 : decode zb_A_init 5 = .ok (.aload_n 1, 1) := by decide +kernel
theorem zd_A_init_6 : decode zb_A_init 6 = .ok (.putfield 9, 3) := by decide +kernel
theorem zd_A_init_9 : decode zb_A_init 9 = .ok (.aload_n 0, 1) := by decide +kernel
theorem zd_A_init_10 : decode zb_A_init 10 = .ok (.aload_n 2, 1) := by decide +kernel
theorem zd_A_init_11 : decode zb_A_init 11 = .ok (.putfield 15, 3) := by decide +kernel
theorem zd_A_init_14 : decode zb_A_init 14 = .ok (.aload_n 0, 1) := by decide +kernel
theorem zd_A_init_15 : decode zb_A_init 15 = .ok (.bipush 40, 2) := by decide +kernel
theorem zd_A_init_17 : decode zb_A_init 17 = .ok (.newarray .int, 2) := by decide +kernel
theorem zd_A_init_19 : decode zb_A_init 19 = .ok (.putfield 19, 3) := by decide +kernel
theorem zd_A_init_22 : decode zb_A_init 22 = .ok (.aload_n 0, 1) := by decide +kernel
theorem zd_A_init_23 : decode zb_A_init 23 = .ok (.bipush 40, 2) := by decide +kernel
theorem zd_A_init_25 : decode zb_A_init 25 = .ok (.newarray .int, 2) := by decide +kernel
theorem zd_A_init_27 : decode zb_A_init 27 = .ok (.putfield 23, 3) := by decide +kernel
theorem zd_A_init_30 : decode zb_A_init 30 = .ok (.aload_n 0, 1) := by decide +kernel
theorem zd_A_init_31 : decode zb_A_init 31 = .ok (.bipush 12, 2) := by decide +kernel
theorem zd_A_init_33 : decode zb_A_init 33 = .ok (.newarray .int, 2) := by decide +kernel
theorem zd_A_init_35 : decode zb_A_init 35 = .ok (.putfield 26, 3) := by decide +kernel
theorem zd_A_init_38 : decode zb_A_init 38 = .ok (.aload_n 0, 1) := by decide +kernel
theorem zd_A_init_39 : decode zb_A_init 39 = .ok (.bipush 40, 2) := by decide +kernel
theorem zd_A_init_41 : decode zb_A_init 41 = .ok (.newarray .int, 2) := by decide +kernel
theorem zd_A_init_43 : decode zb_A_init 43 = .ok (.putfield 29, 3) := by decide +kernel
theorem zd_A_init_46 : decode zb_A_init 46 = .ok (.aload_n 0, 1) := by decide +kernel
theorem zd_A_init_47 : decode zb_A_init 47 = .ok (.bipush 12, 2) := by decide +kernel
theorem zd_A_init_49 : decode zb_A_init 49 = .ok (.newarray .int, 2) := by decide +kernel
theorem zd_A_init_51 : decode zb_A_init 51 = .ok (.putfield 32, 3) := by decide +kernel
theorem zd_A_init_54 : decode zb_A_init 54 = .ok (.aload_n 0, 1) := by decide +kernel
theorem zd_A_init_55 : decode zb_A_init 55 = .ok (.iconst 0, 1) := by decide +kernel
theorem zd_A_init_56 : decode zb_A_init 56 = .ok (.putfield 35, 3) := by decide +kernel
theorem zd_A_init_59 : decode zb_A_init 59 = .ok (.return_, 1) := by decide +kernel
theorem zdv_A : ∀ j, j < 8 → defaultValue (zt_A j) = vp_V [.null, .null, .null, .null, .null, .null, .null, .int 0] j := by
  intro j hj
  rcases (show j = 0 ∨ j = 1 ∨ j = 2 ∨ j = 3 ∨ j = 4 ∨ j = 5 ∨ j = 6 ∨ j = 7 by omega) with rfl | rfl | rfl | rfl | rfl | rfl | rfl | rfl <;> rfl
abbrev zm_iA : Room := { frames := 1, cells := 5, slots := 144, locals := 64 }
def ww_A (B : zB) (h0 : Nat) (p1 : Nat) (p2 : Nat) (q : Nat → Nat) : va_W := (h0, .inr (1, [.ref p1, .ref p2, .ref (q 0), .ref (q 1), .ref (q 2), .ref (q 3), .ref (q 4), .int (zI (0))])) :: (((q 4), e0 B 12) :: (((q 3), e0 B 40) :: (((q 2), e0 B 12) :: (((q 1), e0 B 40) :: (((q 0), e0 B 40) :: ([]))))))
set_option maxHeartbeats 4000000 in
set_option maxRecDepth 100000 in
theorem zin_A {l : Launch} {B : zB} (h0 : Nat) (p1 : Nat) (p2 : Nat) (sz : Nat) (hB : ∀ q, va_A [(h0, .inr (1, [.null, .null, .null, .null, .null, .null, .null, .int 0]))] sz q → B.2.2.2 q) : Met l zy_A_init (Cond.code zy_A_init zb_A_init 3 none :: zT) zm_iA (va_Pc [.ref h0, .ref p1, .ref p2] (zPi B [(h0, .inr (1, [.null, .null, .null, .null, .null, .null, .null, .int 0]))] sz)) (zQc B [(h0, .inr (1, [.null, .null, .null, .null, .null, .null, .null, .int 0]))] sz (ww_A B h0 p1 p2)) 5 144 (va_A [(h0, .inr (1, [.null, .null, .null, .null, .null, .null, .null, .int 0]))] sz) := by
  refine zmeti (by decide) (Nat.le_of_ble_eq_true rfl) (fun p e s m args below meth c C hr hlk hnm hsz hP hD hS hK hX hst hA ls hl => ?_)
  have hAB := hB
  subst hsz
  generalize hAe : va_A [(h0, .inr (1, [.null, .null, .null, .null, .null, .null, .null, .int 0]))] s.heap.size = A at *
  have hl : lv_has ls 3 [(0, .ref h0), (1, .ref p1), (2, .ref p2)] := hl
  have hP : va_P B.1 zcl ([(h0, .inr (1, [.null, .null, .null, .null, .null, .null, .null, .int 0]))] ++ []) s.heap := hP
  have hD : va_D A ([(h0, .inr (1, [.null, .null, .null, .null, .null, .null, .null, .int 0]))] ++ []) := hD
  refine lv_aload_n C.1 C.2.1 zd_A_init_0 rfl (lv_at hl 0 rfl) ?_
  refine zo_obj C zk_465 zk_31 zk_32 hl.1 zd_A_init_1 (Nat.le_of_ble_eq_true rfl) (Nat.le_of_ble_eq_true rfl) ?_
  refine lv_aload_n C.1 C.2.1 zd_A_init_4 rfl (lv_at hl 0 rfl) ?_
  refine lv_aload_n C.1 C.2.1 zd_A_init_5 rfl (lv_at hl 1 rfl) ?_
  refine va_putF (ci := 1) (v := .ref p1) (ty := zt_A 0) (C := zR_A) (T := zF_A) (N := 8) C.1 C.2.1 C.2.2.2.2 zh_A zt_A zt_A_ok zn_A C.2.2.2.1 hK hP hD hS 0 rfl rfl 0 (by decide) (C.2.2.2.2 _ zk_466) (fun _ h9 => h9) rfl hnm rfl (zt_A_ok 0 (by decide)) rfl rfl (Nat.le_of_ble_eq_true rfl) zd_A_init_6 (fun H locs hP hD hS => ?_)
  replace hP := zset_P (P2 := [(h0, .inr (1, [.ref p1, .null, .null, .null, .null, .null, .null, .int 0]))]) (fun _ => rfl) hP
  replace hD := zset_D (P2 := [(h0, .inr (1, [.ref p1, .null, .null, .null, .null, .null, .null, .int 0]))]) (fun _ => rfl) hD
  refine lv_aload_n C.1 C.2.1 zd_A_init_9 rfl (lv_at hl 0 rfl) ?_
  refine lv_aload_n C.1 C.2.1 zd_A_init_10 rfl (lv_at hl 2 rfl) ?_
  refine va_putF (ci := 1) (v := .ref p2) (ty := zt_A 1) (C := zR_A) (T := zF_A) (N := 8) C.1 C.2.1 C.2.2.2.2 zh_A zt_A zt_A_ok zn_A C.2.2.2.1 hK hP hD hS 0 rfl rfl 1 (by decide) (C.2.2.2.2 _ zk_467) (fun _ h9 => h9) rfl hnm rfl (zt_A_ok 1 (by decide)) rfl rfl (Nat.le_of_ble_eq_true rfl) zd_A_init_11 (fun H locs hP hD hS => ?_)
  replace hP := zset_P (P2 := [(h0, .inr (1, [.ref p1, .ref p2, .null, .null, .null, .null, .null, .int 0]))]) (fun _ => rfl) hP
  replace hD := zset_D (P2 := [(h0, .inr (1, [.ref p1, .ref p2, .null, .null, .null, .null, .null, .int 0]))]) (fun _ => rfl) hD
  refine lv_aload_n C.1 C.2.1 zd_A_init_14 rfl (lv_at hl 0 rfl) ?_
  refine zr_bipush C zd_A_init_15 (by decide) ?_
  refine zi_newi (N := 40) C hK hP hD hS hA rfl (by decide) (Nat.le_of_ble_eq_true rfl) (Nat.le_of_ble_eq_true rfl) zk_108 zd_A_init_17 (fun q17_0 H hP hD hS => ?_)
  refine W.widen (k := 1) (n := 40) (Nat.le_of_ble_eq_true rfl) (Nat.le_of_ble_eq_true rfl) ?_
  refine va_putF (ci := 1) (v := .ref q17_0) (ty := zt_A 2) (C := zR_A) (T := zF_A) (N := 8) C.1 C.2.1 C.2.2.2.2 zh_A zt_A zt_A_ok zn_A C.2.2.2.1 hK hP hD hS 0 rfl rfl 2 (by decide) (C.2.2.2.2 _ zk_468) (fun _ h9 => h9) rfl hnm rfl (zt_A_ok 2 (by decide)) rfl rfl (Nat.le_of_ble_eq_true rfl) zd_A_init_19 (fun H locs hP hD hS => ?_)
  replace hP := zset_P (P2 := [(h0, .inr (1, [.ref p1, .ref p2, .ref q17_0, .null, .null, .null, .null, .int 0]))]) (fun _ => rfl) hP
  replace hD := zset_D (P2 := [(h0, .inr (1, [.ref p1, .ref p2, .ref q17_0, .null, .null, .null, .null, .int 0]))]) (fun _ => rfl) hD
  refine lv_aload_n C.1 C.2.1 zd_A_init_22 rfl (lv_at hl 0 rfl) ?_
  refine zr_bipush C zd_A_init_23 (by decide) ?_
  refine zi_newi (N := 40) C hK hP hD hS hA rfl (by decide) (Nat.le_of_ble_eq_true rfl) (Nat.le_of_ble_eq_true rfl) zk_108 zd_A_init_25 (fun q25_1 H hP hD hS => ?_)
  refine W.widen (k := 2) (n := 80) (Nat.le_of_ble_eq_true rfl) (Nat.le_of_ble_eq_true rfl) ?_
  refine va_putF (ci := 1) (v := .ref q25_1) (ty := zt_A 3) (C := zR_A) (T := zF_A) (N := 8) C.1 C.2.1 C.2.2.2.2 zh_A zt_A zt_A_ok zn_A C.2.2.2.1 hK hP hD hS 0 rfl rfl 3 (by decide) (C.2.2.2.2 _ zk_469) (fun _ h9 => h9) rfl hnm rfl (zt_A_ok 3 (by decide)) rfl rfl (Nat.le_of_ble_eq_true rfl) zd_A_init_27 (fun H locs hP hD hS => ?_)
  replace hP := zset_P (P2 := [(h0, .inr (1, [.ref p1, .ref p2, .ref q17_0, .ref q25_1, .null, .null, .null, .int 0]))]) (fun _ => rfl) hP
  replace hD := zset_D (P2 := [(h0, .inr (1, [.ref p1, .ref p2, .ref q17_0, .ref q25_1, .null, .null, .null, .int 0]))]) (fun _ => rfl) hD
  refine lv_aload_n C.1 C.2.1 zd_A_init_30 rfl (lv_at hl 0 rfl) ?_
  refine zr_bipush C zd_A_init_31 (by decide) ?_
  refine zi_newi (N := 12) C hK hP hD hS hA rfl (by decide) (Nat.le_of_ble_eq_true rfl) (Nat.le_of_ble_eq_true rfl) zk_108 zd_A_init_33 (fun q33_2 H hP hD hS => ?_)
  refine W.widen (k := 3) (n := 92) (Nat.le_of_ble_eq_true rfl) (Nat.le_of_ble_eq_true rfl) ?_
  refine va_putF (ci := 1) (v := .ref q33_2) (ty := zt_A 4) (C := zR_A) (T := zF_A) (N := 8) C.1 C.2.1 C.2.2.2.2 zh_A zt_A zt_A_ok zn_A C.2.2.2.1 hK hP hD hS 0 rfl rfl 4 (by decide) (C.2.2.2.2 _ zk_470) (fun _ h9 => h9) rfl hnm rfl (zt_A_ok 4 (by decide)) rfl rfl (Nat.le_of_ble_eq_true rfl) zd_A_init_35 (fun H locs hP hD hS => ?_)
  replace hP := zset_P (P2 := [(h0, .inr (1, [.ref p1, .ref p2, .ref q17_0, .ref q25_1, .ref q33_2, .null, .null, .int 0]))]) (fun _ => rfl) hP
  replace hD := zset_D (P2 := [(h0, .inr (1, [.ref p1, .ref p2, .ref q17_0, .ref q25_1, .ref q33_2, .null, .null, .int 0]))]) (fun _ => rfl) hD
  refine lv_aload_n C.1 C.2.1 zd_A_init_38 rfl (lv_at hl 0 rfl) ?_
  refine zr_bipush C zd_A_init_39 (by decide) ?_
  refine zi_newi (N := 40) C hK hP hD hS hA rfl (by decide) (Nat.le_of_ble_eq_true rfl) (Nat.le_of_ble_eq_true rfl) zk_108 zd_A_init_41 (fun q41_3 H hP hD hS => ?_)
  refine W.widen (k := 4) (n := 132) (Nat.le_of_ble_eq_true rfl) (Nat.le_of_ble_eq_true rfl) ?_
  refine va_putF (ci := 1) (v := .ref q41_3) (ty := zt_A 5) (C := zR_A) (T := zF_A) (N := 8) C.1 C.2.1 C.2.2.2.2 zh_A zt_A zt_A_ok zn_A C.2.2.2.1 hK hP hD hS 0 rfl rfl 5 (by decide) (C.2.2.2.2 _ zk_471) (fun _ h9 => h9) rfl hnm rfl (zt_A_ok 5 (by decide)) rfl rfl (Nat.le_of_ble_eq_true rfl) zd_A_init_43 (fun H locs hP hD hS => ?_)
  replace hP := zset_P (P2 := [(h0, .inr (1, [.ref p1, .ref p2, .ref q17_0, .ref q25_1, .ref q33_2, .ref q41_3, .null, .int 0]))]) (fun _ => rfl) hP
  replace hD := zset_D (P2 := [(h0, .inr (1, [.ref p1, .ref p2, .ref q17_0, .ref q25_1, .ref q33_2, .ref q41_3, .null, .int 0]))]) (fun _ => rfl) hD
  refine lv_aload_n C.1 C.2.1 zd_A_init_46 rfl (lv_at hl 0 rfl) ?_
  refine zr_bipush C zd_A_init_47 (by decide) ?_
  refine zi_newi (N := 12) C hK hP hD hS hA rfl (by decide) (Nat.le_of_ble_eq_true rfl) (Nat.le_of_ble_eq_true rfl) zk_108 zd_A_init_49 (fun q49_4 H hP hD hS => ?_)
  refine W.widen (k := 5) (n := 144) (Nat.le_of_ble_eq_true rfl) (Nat.le_of_ble_eq_true rfl) ?_
  refine va_putF (ci := 1) (v := .ref q49_4) (ty := zt_A 6) (C := zR_A) (T := zF_A) (N := 8) C.1 C.2.1 C.2.2.2.2 zh_A zt_A zt_A_ok zn_A C.2.2.2.1 hK hP hD hS 0 rfl rfl 6 (by decide) (C.2.2.2.2 _ zk_472) (fun _ h9 => h9) rfl hnm rfl (zt_A_ok 6 (by decide)) rfl rfl (Nat.le_of_ble_eq_true rfl) zd_A_init_51 (fun H locs hP hD hS => ?_)
  replace hP := zset_P (P2 := [(h0, .inr (1, [.ref p1, .ref p2, .ref q17_0, .ref q25_1, .ref q33_2, .ref q41_3, .ref q49_4, .int 0]))]) (fun _ => rfl) hP
  replace hD := zset_D (P2 := [(h0, .inr (1, [.ref p1, .ref p2, .ref q17_0, .ref q25_1, .ref q33_2, .ref q41_3, .ref q49_4, .int 0]))]) (fun _ => rfl) hD
  refine lv_aload_n C.1 C.2.1 zd_A_init_54 rfl (lv_at hl 0 rfl) ?_
  refine zr_iconst C zd_A_init_55 ?_
  refine va_put (ci := 1) (v := .int (zI (0))) (ty := zt_A 7) (C := zR_A) (T := zF_A) (N := 8) C.1 C.2.1 C.2.2.2.2 zh_A zt_A zt_A_ok zn_A C.2.2.2.1 hK hP hD hS 0 rfl rfl 7 (by decide) (C.2.2.2.2 _ zk_473) (fun _ h9 => h9) rfl (zt_A_ok 7 (by decide)) rfl rfl (Nat.le_of_ble_eq_true rfl) zd_A_init_56 (fun H locs hP hD hS => ?_)
  replace hP := zset_P (P2 := [(h0, .inr (1, [.ref p1, .ref p2, .ref q17_0, .ref q25_1, .ref q33_2, .ref q41_3, .ref q49_4, .int (zI (0))]))]) (fun _ => rfl) hP
  replace hD := zset_D (P2 := [(h0, .inr (1, [.ref p1, .ref p2, .ref q17_0, .ref q25_1, .ref q33_2, .ref q41_3, .ref q49_4, .int (zI (0))]))]) (fun _ => rfl) hD
  have hP : va_P B.1 zcl (ww_A B h0 p1 p2 (fun i => [q17_0, q25_1, q33_2, q41_3, q49_4].getD i 0)) H := hP
  have hD : va_D A (ww_A B h0 p1 p2 (fun i => [q17_0, q25_1, q33_2, q41_3, q49_4].getD i 0)) := hD
  exact zi_end2 (w := ww_A B h0 p1 p2) (u := (fun i => [q17_0, q25_1, q33_2, q41_3, q49_4].getD i 0)) (cells := 5) (slots := 144) C hr hlk hAe hP hD hS zd_A_init_59
