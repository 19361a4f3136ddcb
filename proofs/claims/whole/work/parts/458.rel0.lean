/-! ===== the relation holds at the start ===== -/
theorem ned_none {h : Nat → Nat} {B : Nat → Bool} (e : ∀ q, B q = false) : ∀ n : Nat, ned h n B = 0
  | 0 => rfl
  | n + 1 => by
    unfold ned
    rw [ned_none e n, e n]
    rfl
theorem Few_0 : Few (fun _ => 0) (fun _ => 0) 0 (fun _ => 0) := by
  have hc : cnt 40 (tb 0) = 0 := cnt_zero (fun k _ => by simp [tb])
  refine ⟨fun k => k, fun _ => false, fun _ => 0, ?_, ⟨fun q h => (by cases h), fun B hB => ?_, fun A hA _ => ?_⟩, ?_, fun q _ => ?_⟩
  · rw [hc]
    exact ⟨hc.symm, fun p _ h => absurd h (by simp [tb])⟩
  · rw [ned_none (fun q => by
      cases e : B q with
      | false => rfl
      | true => exact absurd (hB q e).1 (by simp)) 8]
    exact Nat.zero_le _
  · rw [ned_none (fun q => by
      cases e : A q with
      | false => rfl
      | true => exact absurd (hA q e).2.2 (by simp)) 8]
    exact Nat.zero_le _
  · rw [hc]
    simp [Chn, Pick]
  · rw [hc]
    rfl
theorem Rcr_0 : Rcr S0 := by
  have hu : uni (fun _ => 0) = 0 := rfl
  have hc : cnt 40 (tb 0) = 0 := cnt_zero (fun k _ => by simp [tb])
  refine ⟨fun _ => 0, fun _ => 0, fun _ => 0, fun i _ => ⟨rfl, rfl, rfl, show 0 < 1099511627776 by decide⟩, fun _ _ => ⟨rfl, rfl⟩, ⟨fun _ => by rw [hu]; exact Few_0, fun h => ?_⟩, ?_⟩
  · rw [hu, hc] at h
    omega
  · have : nfl (fun _ => 0) 8 = 0 := cnt_zero (fun k _ => by simp)
    rw [this]
    rfl
theorem zbt {x v a b : Int} (e : x = v) (h : a ≤ v ∧ v ≤ b) : a ≤ x ∧ x ≤ b := by
  rw [e]
  exact h
theorem Rw_0 : Rw S0 S0 0 0 := by
  refine ⟨⟨?_, ?_, ?_, ?_, ?_, ?_⟩, ⟨rfl, ⟨by decide, by decide⟩, fun l h1 h2 => ?_⟩, fun l h1 h2 => ?_⟩
  · unfold Rsc2
    refine ⟨rfl, rfl, rfl, rfl, rfl, rfl, rfl, by decide, by decide, by decide, by decide, fun i h1 h2 => ?_, by decide, by decide, by decide, fun i h1 h2 => ?_, by decide, by decide, by decide, by decide⟩
    · rcases (show i = 0 ∨ i = 1 ∨ i = 2 by omega) with rfl | rfl | rfl <;> decide
    · rcases (show i = 0 ∨ i = 1 ∨ i = 2 ∨ i = 3 by omega) with rfl | rfl | rfl | rfl <;> rfl
  · exact fun h h1 h2 => ⟨rfl, rfl, rfl, rfl, zbt (v := 0) rfl (by decide), zbt (v := 20) rfl (by decide), zbt (v := 3) rfl (by decide), zbt (v := 0) rfl (by decide)⟩
  · exact ⟨rfl, by decide, fun i h1 h2 => absurd h2 (by show ¬ i < 0; omega)⟩
  · exact ⟨rfl, by decide, fun i h1 h2 => absurd h2 (by show ¬ i < 0; omega)⟩
  · refine ⟨fun g h1 h2 => ?_, rfl, by decide, fun i h1 h2 => absurd h2 (by show ¬ i < 0; omega)⟩
    rcases (show g = 0 ∨ g = 1 ∨ g = 2 ∨ g = 3 by omega) with rfl | rfl | rfl | rfl <;> exact ⟨rfl, rfl, rfl, by decide, by decide, by decide, by decide⟩
  · refine fun k h1 h2 => ?_
    exact ⟨rfl, rfl, zbt (v := 0) rfl (by decide), zbt (v := 0) rfl (by decide), fun i h1 h2 => absurd h2 (by show ¬ i < 0; omega)⟩
  · exact absurd h2 (by show ¬ l < 0; omega)
  · exact absurd h2 (by show ¬ l < 0; omega)
theorem Rel_0 : Rel S0 := by
  refine ⟨⟨Rw_0, Rcr_0, fun j q h1 h2 _ _ => absurd h2 (by show ¬ j < 0; omega), ⟨rfl, Or.inl rfl⟩⟩, fun d h1 h2 => ?_⟩
  exact ⟨rfl, zbt (v := 0) rfl (by decide), fun h => absurd (show (0 : Int) = 3 from h) (by decide), fun h => absurd (show (0 : Int) = 1 from h) (by decide), fun h => absurd (show (0 : Int) = 2 from h) (by decide)⟩
/-! ===== the world of the start ===== -/
theorem zs_L {B : zB} {hO : Nat} {q : zTO} {hM : Nat} {u : zTM} {ho : Nat} : zsl (ww_O B hO q ++ (ww_M B hM u ++ [(ho, el B 1)])) (zoL.map (zoe (zB2 B (zTb hO q hM u ho)) S0)) := by
  unfold zoL
  rw [List.map_append, List.map_append]
  exact zsl_app (zs_O B hO q hM u ho) (zsl_app (zs_M B hO q hM u ho) ⟨zsr rfl, trivial⟩)
theorem zS0_W {B : zB} {hO : Nat} {q : zTO} {hM : Nat} {u : zTM} {ho : Nat} {H : Heap} (hP : va_P B.1 zcl (ww_O B hO q ++ (ww_M B hM u ++ [(ho, el B 1)])) H) : zW (zB2 B (zTb hO q hM u ho)) S0 H := by
  refine ⟨?_, S0_ok⟩
  have h1 : va_P B.1 zcl (zoL.map (zoe (zB2 B (zTb hO q hM u ho)) S0)) H := by
    intro k x hx
    refine zsl_P zs_L (fun y hy => ?_) x (List.mem_of_getElem? hx)
    obtain ⟨i, hi⟩ := List.getElem?_of_mem hy
    exact hP i y hi
  exact zP_perm h1 ((zoL_perm.map _).symm)
theorem zS0_A {B : zB} {hO : Nat} {q : zTO} {hM : Nat} {u : zTM} {ho : Nat} (hD : va_D B.2.2.2 (ww_O B hO q ++ (ww_M B hM u ++ [(ho, el B 1)]))) : zAp (zB2 B (zTb hO q hM u ho)) := by
  have e := zsl_fst (zs_L (B := B) (hO := hO) (q := q) (hM := hM) (u := u) (ho := ho))
  obtain ⟨a, b⟩ := zD_iff.mp hD
  have a1 : (zoL.map (fun x : Nat × Int × Int => (zB2 B (zTb hO q hM u ho)).2.1 x.1 x.2.1 x.2.2)).Nodup := by
    have h1 : ((ww_O B hO q ++ (ww_M B hM u ++ [(ho, el B 1)])).map Prod.fst).Nodup := List.pairwise_map.mpr a
    rw [e, List.map_map] at h1
    exact h1
  have a2 : (zix.map (fun x : Nat × Int × Int => (zB2 B (zTb hO q hM u ho)).2.1 x.1 x.2.1 x.2.2)).Nodup := (zoL_perm.map _).nodup_iff.mpr a1
  refine ⟨fun S => zD_iff.mpr ⟨List.pairwise_map.mpr (List.pairwise_map.mp a2), fun x hx => ?_⟩, ?_⟩
  · obtain ⟨y, hy, rfl⟩ := List.mem_map.mp hx
    have h1 : (zB2 B (zTb hO q hM u ho)).2.1 y.1 y.2.1 y.2.2 ∈ (ww_O B hO q ++ (ww_M B hM u ++ [(ho, el B 1)])).map Prod.fst := by
      rw [e, List.map_map]
      exact List.mem_map.mpr ⟨y, zoL_perm.mem_iff.mp hy, rfl⟩
    obtain ⟨z, hz, hz2⟩ := List.mem_map.mp h1
    have h2 := b z hz
    rw [hz2] at h2
    exact h2
  · exact (List.pairwise_map.mp a2).imp (fun h e => h (by rw [e]))
