/-! ===== the law: its loop ===== -/
theorem zd_law_23 : decode code 23 = .ok (.iload 4, 2) := by decide +kernel
theorem zd_law_25 : decode code 25 = .ok (.aload_n 0, 1) := by decide +kernel
theorem zd_law_26 : decode code 26 = .ok (.arraylength, 1) := by decide +kernel
theorem zd_law_27 : decode code 27 = .ok (.bipush 6, 2) := by decide +kernel
theorem zd_law_29 : decode code 29 = .ok (.isub, 1) := by decide +kernel
theorem zd_law_30 : decode code 30 = .ok (.if_icmp .gt 1915, 3) := by decide +kernel
theorem zd_law_33 : decode code 33 = .ok (.aload_n 0, 1) := by decide +kernel
theorem zd_law_34 : decode code 34 = .ok (.iload 4, 2) := by decide +kernel
theorem zd_law_36 : decode code 36 = .ok (.iaload, 1) := by decide +kernel
theorem zd_law_37 : decode code 37 = .ok (.bipush 63, 2) := by decide +kernel
theorem zd_law_39 : decode code 39 = .ok (.iand, 1) := by decide +kernel
theorem zd_law_40 : decode code 40 = .ok (.tableswitch 1899 0 44 #[196, 257, 318, 343, 368, 393, 458, 495, 544, 581, 618, 643, 680, 705, 742, 779, 816, 853, 902, 955, 1008, 1021, 1058, 1107, 1144, 1169, 1206, 1231, 1256, 1309, 1362, 1387, 1424, 1461, 1498, 1511, 1524, 1537, 1562, 1611, 1660, 1709, 1776, 1849, 1874], 196) := by decide +kernel
theorem zd_law_1939 : decode code 1939 = .ok (.iinc 4 6, 3) := by decide +kernel
theorem zd_law_1942 : decode code 1942 = .ok (.goto (-1919), 3) := by decide +kernel
set_option maxHeartbeats 4000000 in
theorem zl_loop {p : Program} {l : Launch} {e : Env} {s : State} {m : MethodId} {args : Array Value} {below : List Frame} {meth : Method} {c : Code} {Q : State → Prop} {B : zB} {b L : Nat} {xs : Nat → Int32} {d1 d2 CE SE : Nat} (C : CallFix p m c code 8 s args zT "IslandOfficeLaw") (hx : LX B b L xs s) (hE : CE ≤ room_1.cells ∧ SE ≤ room_1.slots)
    (h41 : ∀ (i : Nat) (S : Sg) (H : Heap) (locs : List Loc) (ls : Array Slot) (cells slots : Nat), Rel S → zW B S H → va_S B.2.2.2 s.heap H locs → lv_has ls 8 (Ll B b i) → i + 5 < L → cells + d1 ≤ room_1.cells → slots + d2 ≤ room_1.slots → (∀ (S2 : Sg) (H2 : Heap) (locs2 : List Loc) (ls2 : Array Slot), Rel S2 → zW B S2 H2 → va_S B.2.2.2 s.heap H2 locs2 → lv_has ls2 8 (Ll B b i) → W p l e room_1 s m args below meth c H2 locs2 (cells + d1) (slots + d2) Q (F0 m 1939 ls2 [])) → W p l e room_1 s m args below meth c H locs cells slots Q (F0 m 1749 ls []))
    (kend : ∀ (H : Heap) (locs : List Loc) (ls : Array Slot), va_S B.2.2.2 s.heap H locs → W p l e room_1 s m args below meth c H locs CE SE Q (F0 m 1945 ls [])) :
    ∀ (n i : Nat) (S : Sg) (H : Heap) (locs : List Loc) (ls : Array Slot) (cells slots : Nat), Rel S → zW B S H → va_S B.2.2.2 s.heap H locs → lv_has ls 8 (Ll B b i) → L < i + 6 * n + 6 → i ≤ L → cells + n * d1 ≤ CE → slots + n * d2 ≤ SE → W p l e room_1 s m args below meth c H locs cells slots Q (F0 m 23 ls []) := by
  obtain ⟨hK, hSt, hap, hX, hb, hbA, hL⟩ := id hx
  intro n
  induction n with
  | zero =>
    intro i S H locs ls cells slots hR hW hS hl h1 h2 h3 h4
    have e1 : zw ((L : Int) - 6) = (L : Int) - 6 := zw_id (by constructor <;> omega)
    have hzi : zn (i : Int) := by unfold zn; omega
    have hzl : zn ((L : Int) - 6) := by unfold zn; omega
    refine lv_iload C.1 C.2.1 zd_law_23 (lv_at hl 0 rfl) ?_
    refine lv_aload_n C.1 C.2.1 zd_law_25 rfl (lv_at hl 4 rfl) ?_
    refine va_slen C.1 C.2.1 hX hb hbA hS zd_law_26 ?_
    rw [show Int32.ofNat L = zI (L : Int) from (Int32.ofInt_eq_ofNat ..).symm]
    refine zr_bipush C zd_law_27 (by decide) ?_
    refine zr_isub C zd_law_29 ?_
    rw [e1]
    refine zr_icmp_gt (tgt := 1945) C hzi hzl zd_law_30 (by decide) (fun _ => ?_) (fun h => absurd (by omega) h)
    exact W.widen (by omega) (by omega) (kend H locs ls hS)
  | succ n ih =>
    intro i S H locs ls cells slots hR hW hS hl h1 h2 h3 h4
    have m1 : (n + 1) * d1 = n * d1 + d1 := Nat.succ_mul n d1
    have m2 : (n + 1) * d2 = n * d2 + d2 := Nat.succ_mul n d2
    have e1 : zw ((L : Int) - 6) = (L : Int) - 6 := zw_id (by constructor <;> omega)
    have hzi : zn (i : Int) := by unfold zn; omega
    have hzl : zn ((L : Int) - 6) := by unfold zn; omega
    refine lv_iload C.1 C.2.1 zd_law_23 (lv_at hl 0 rfl) ?_
    refine lv_aload_n C.1 C.2.1 zd_law_25 rfl (lv_at hl 4 rfl) ?_
    refine va_slen C.1 C.2.1 hX hb hbA hS zd_law_26 ?_
    rw [show Int32.ofNat L = zI (L : Int) from (Int32.ofInt_eq_ofNat ..).symm]
    refine zr_bipush C zd_law_27 (by decide) ?_
    refine zr_isub C zd_law_29 ?_
    rw [e1]
    refine zr_icmp_gt (tgt := 1945) C hzi hzl zd_law_30 (by decide) (fun _ => ?_) (fun hle => ?_)
    · exact W.widen (by omega) (by omega) (kend H locs ls hS)
    have hi : i + 5 < L := by omega
    have hc : cells ≤ room_1.cells ∧ slots ≤ room_1.slots := ⟨by omega, by omega⟩
    have step : ∀ (S2 : Sg) (H2 : Heap) (locs2 : List Loc) (ls2 : Array Slot), Rel S2 → zW B S2 H2 → va_S B.2.2.2 s.heap H2 locs2 → lv_has ls2 8 (Ll B b i) → W p l e room_1 s m args below meth c H2 locs2 (cells + d1) (slots + d2) Q (F0 m 1939 ls2 []) := by
      intro S2 H2 locs2 ls2 hR2 hW2 hS2 hl2
      have e6 : zI (i : Int) + Int32.ofInt 6 = zI ((i + 6 : Nat) : Int) := by
        have h := zI_add (i : Int) 6
        rw [zw_id (by constructor <;> omega)] at h
        rw [show ((i + 6 : Nat) : Int) = (i : Int) + 6 by omega]
        exact h
      refine lv_iinc (v := zI ((i + 6 : Nat) : Int)) (lv' := Ll B b (i + 6)) C.1 C.2.1 zd_law_1939 hl2 (k := 0) rfl e6 (by decide) rfl (fun ls3 hl3 => ?_)
      refine lv_goto (tgt := 23) C.1 C.2.1 zd_law_1942 (by decide) ?_
      exact ih (i + 6) S2 H2 locs2 ls3 (cells + d1) (slots + d2) hR2 hW2 hS2 hl3 (by omega) (by omega) (by omega) (by omega)
    have stp : ∀ (S2 : Sg) (H2 : Heap) (locs2 : List Loc), Rel S2 → zW B S2 H2 → va_S B.2.2.2 s.heap H2 locs2 → W p l e room_1 s m args below meth c H2 locs2 cells slots Q (F0 m 1939 ls []) := fun S2 H2 locs2 a1 a2 a3 => W.widen (by omega) (by omega) (step S2 H2 locs2 ls a1 a2 a3 hl)
    refine lv_aload_n C.1 C.2.1 zd_law_33 rfl (lv_at hl 4 rfl) ?_
    refine lv_iload C.1 C.2.1 zd_law_34 (lv_at hl 0 rfl) ?_
    refine va_sld C.1 C.2.1 hX hb hbA hS (zvp ⟨by omega, by omega⟩ hzi) zd_law_36 ?_
    rw [zI_nat hzi, Int.toNat_natCast, ← xi_I xs i]
    refine zr_bipush C zd_law_37 (by decide) ?_
    refine zr_iand C zd_law_39 ?_
    have hz := zn_and (xi xs i) 63
    generalize zand (xi xs i) 63 = x at hz ⊢
    rcases (show x = 0 ∨ x = 1 ∨ x = 2 ∨ x = 3 ∨ x = 4 ∨ x = 5 ∨ x = 6 ∨ x = 7 ∨ x = 8 ∨ x = 9 ∨ x = 10 ∨ x = 11 ∨ x = 12 ∨ x = 13 ∨ x = 14 ∨ x = 15 ∨ x = 16 ∨ x = 17 ∨ x = 18 ∨ x = 19 ∨ x = 20 ∨ x = 21 ∨ x = 22 ∨ x = 23 ∨ x = 24 ∨ x = 25 ∨ x = 26 ∨ x = 27 ∨ x = 28 ∨ x = 29 ∨ x = 30 ∨ x = 31 ∨ x = 32 ∨ x = 33 ∨ x = 34 ∨ x = 35 ∨ x = 36 ∨ x = 37 ∨ x = 38 ∨ x = 39 ∨ x = 40 ∨ x = 41 ∨ x = 42 ∨ x = 43 ∨ x = 44 ∨ (x < 0 ∨ 44 < x) by omega) with rfl | rfl | rfl | rfl | rfl | rfl | rfl | rfl | rfl | rfl | rfl | rfl | rfl | rfl | rfl | rfl | rfl | rfl | rfl | rfl | rfl | rfl | rfl | rfl | rfl | rfl | rfl | rfl | rfl | rfl | rfl | rfl | rfl | rfl | rfl | rfl | rfl | rfl | rfl | rfl | rfl | rfl | rfl | rfl | rfl | hd
    · exact zr_tab (tgt := 236) C hz zd_law_40 (by decide) (by decide) rfl (by decide) (zlc_0 C hx hR hW hS hl hi hc stp)
    · exact zr_tab (tgt := 297) C hz zd_law_40 (by decide) (by decide) rfl (by decide) (zlc_1 C hx hR hW hS hl hi hc stp)
    · exact zr_tab (tgt := 358) C hz zd_law_40 (by decide) (by decide) rfl (by decide) (zlc_2 C hx hR hW hS hl hi hc stp)
    · exact zr_tab (tgt := 383) C hz zd_law_40 (by decide) (by decide) rfl (by decide) (zlc_3 C hx hR hW hS hl hi hc stp)
    · exact zr_tab (tgt := 408) C hz zd_law_40 (by decide) (by decide) rfl (by decide) (zlc_4 C hx hR hW hS hl hi hc stp)
    · exact zr_tab (tgt := 433) C hz zd_law_40 (by decide) (by decide) rfl (by decide) (zlc_5 C hx hR hW hS hl hi hc stp)
    · exact zr_tab (tgt := 498) C hz zd_law_40 (by decide) (by decide) rfl (by decide) (zlc_6 C hx hR hW hS hl hi hc stp)
    · exact zr_tab (tgt := 535) C hz zd_law_40 (by decide) (by decide) rfl (by decide) (zlc_7 C hx hR hW hS hl hi hc stp)
    · exact zr_tab (tgt := 584) C hz zd_law_40 (by decide) (by decide) rfl (by decide) (zlc_8 C hx hR hW hS hl hi hc stp)
    · exact zr_tab (tgt := 621) C hz zd_law_40 (by decide) (by decide) rfl (by decide) (zlc_9 C hx hR hW hS hl hi hc stp)
    · exact zr_tab (tgt := 658) C hz zd_law_40 (by decide) (by decide) rfl (by decide) (zlc_10 C hx hR hW hS hl hi hc stp)
    · exact zr_tab (tgt := 683) C hz zd_law_40 (by decide) (by decide) rfl (by decide) (zlc_11 C hx hR hW hS hl hi hc stp)
    · exact zr_tab (tgt := 720) C hz zd_law_40 (by decide) (by decide) rfl (by decide) (zlc_12 C hx hR hW hS hl hi hc stp)
    · exact zr_tab (tgt := 745) C hz zd_law_40 (by decide) (by decide) rfl (by decide) (zlc_13 C hx hR hW hS hl hi hc stp)
    · exact zr_tab (tgt := 782) C hz zd_law_40 (by decide) (by decide) rfl (by decide) (zlc_14 C hx hR hW hS hl hi hc stp)
    · exact zr_tab (tgt := 819) C hz zd_law_40 (by decide) (by decide) rfl (by decide) (zlc_15 C hx hR hW hS hl hi hc stp)
    · exact zr_tab (tgt := 856) C hz zd_law_40 (by decide) (by decide) rfl (by decide) (zlc_16 C hx hR hW hS hl hi hc stp)
    · exact zr_tab (tgt := 893) C hz zd_law_40 (by decide) (by decide) rfl (by decide) (zlc_17 C hx hR hW hS hl hi hc stp)
    · exact zr_tab (tgt := 942) C hz zd_law_40 (by decide) (by decide) rfl (by decide) (zlc_18 C hx hR hW hS hl hi hc stp)
    · exact zr_tab (tgt := 995) C hz zd_law_40 (by decide) (by decide) rfl (by decide) (zlc_19 C hx hR hW hS hl hi hc stp)
    · exact zr_tab (tgt := 1048) C hz zd_law_40 (by decide) (by decide) rfl (by decide) (zlc_20 C hx hR hW hS hl hi hc stp)
    · exact zr_tab (tgt := 1061) C hz zd_law_40 (by decide) (by decide) rfl (by decide) (zlc_21 C hx hR hW hS hl hi hc stp)
    · exact zr_tab (tgt := 1098) C hz zd_law_40 (by decide) (by decide) rfl (by decide) (zlc_22 C hx hR hW hS hl hi hc stp)
    · exact zr_tab (tgt := 1147) C hz zd_law_40 (by decide) (by decide) rfl (by decide) (zlc_23 C hx hR hW hS hl hi hc stp)
    · exact zr_tab (tgt := 1184) C hz zd_law_40 (by decide) (by decide) rfl (by decide) (zlc_24 C hx hR hW hS hl hi hc stp)
    · exact zr_tab (tgt := 1209) C hz zd_law_40 (by decide) (by decide) rfl (by decide) (zlc_25 C hx hR hW hS hl hi hc stp)
    · exact zr_tab (tgt := 1246) C hz zd_law_40 (by decide) (by decide) rfl (by decide) (zlc_26 C hx hR hW hS hl hi hc stp)
    · exact zr_tab (tgt := 1271) C hz zd_law_40 (by decide) (by decide) rfl (by decide) (zlc_27 C hx hR hW hS hl hi hc stp)
    · exact zr_tab (tgt := 1296) C hz zd_law_40 (by decide) (by decide) rfl (by decide) (zlc_28 C hx hR hW hS hl hi hc stp)
    · exact zr_tab (tgt := 1349) C hz zd_law_40 (by decide) (by decide) rfl (by decide) (zlc_29 C hx hR hW hS hl hi hc stp)
    · exact zr_tab (tgt := 1402) C hz zd_law_40 (by decide) (by decide) rfl (by decide) (zlc_30 C hx hR hW hS hl hi hc stp)
    · exact zr_tab (tgt := 1427) C hz zd_law_40 (by decide) (by decide) rfl (by decide) (zlc_31 C hx hR hW hS hl hi hc stp)
    · exact zr_tab (tgt := 1464) C hz zd_law_40 (by decide) (by decide) rfl (by decide) (zlc_32 C hx hR hW hS hl hi hc stp)
    · exact zr_tab (tgt := 1501) C hz zd_law_40 (by decide) (by decide) rfl (by decide) (zlc_33 C hx hR hW hS hl hi hc stp)
    · exact zr_tab (tgt := 1538) C hz zd_law_40 (by decide) (by decide) rfl (by decide) (zlc_34 C hx hR hW hS hl hi hc stp)
    · exact zr_tab (tgt := 1551) C hz zd_law_40 (by decide) (by decide) rfl (by decide) (zlc_35 C hx hR hW hS hl hi hc stp)
    · exact zr_tab (tgt := 1564) C hz zd_law_40 (by decide) (by decide) rfl (by decide) (zlc_36 C hx hR hW hS hl hi hc stp)
    · exact zr_tab (tgt := 1577) C hz zd_law_40 (by decide) (by decide) rfl (by decide) (zlc_37 C hx hR hW hS hl hi hc stp)
    · exact zr_tab (tgt := 1602) C hz zd_law_40 (by decide) (by decide) rfl (by decide) (zlc_38 C hx hR hW hS hl hi hc stp)
    · exact zr_tab (tgt := 1651) C hz zd_law_40 (by decide) (by decide) rfl (by decide) (zlc_39 C hx hR hW hS hl hi hc stp)
    · exact zr_tab (tgt := 1700) C hz zd_law_40 (by decide) (by decide) rfl (by decide) (zlc_40 C hx hR hW hS hl hi hc stp)
    · exact zr_tab (tgt := 1749) C hz zd_law_40 (by decide) (by decide) rfl (by decide) (h41 i S H locs ls cells slots hR hW hS hl hi (by omega) (by omega) step)
    · exact zr_tab (tgt := 1816) C hz zd_law_40 (by decide) (by decide) rfl (by decide) (zlc_42 C hx hR hW hS hl hi hc stp)
    · exact zr_tab (tgt := 1889) C hz zd_law_40 (by decide) (by decide) rfl (by decide) (zlc_43 C hx hR hW hS hl hi hc stp)
    · exact zr_tab (tgt := 1914) C hz zd_law_40 (by decide) (by decide) rfl (by decide) (zlc_44 C hx hR hW hS hl hi hc stp)
    · exact zr_tabo (tgt := 1939) C hz zd_law_40 hd (by decide) (stp S H locs hR hW hS)
