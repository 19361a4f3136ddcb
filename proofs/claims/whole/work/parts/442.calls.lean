/-! ===== every call keeps the whole relation, and answers alike ===== -/
theorem ka_person {S : Sg} (x0 x1 x2 x3 : Int) (h : Rel S) : Call S (zf_O_person x0 x1 x2 x3) (zf_M_person x0 x1 x2 x3) := h.pc (pc_person x0 x1 x2 x3 h.1.1.1) (sm_person x0 x1 x2 x3)
theorem ka_guest {S : Sg} (x0 x1 x2 x3 : Int) (h : Rel S) : Call S (zf_O_guest x0 x1 x2 x3) (zf_M_guest x0 x1 x2 x3) := h.pc (pc_guest x0 x1 x2 x3 h.1.1.1) (sm_guest x0 x1 x2 x3)
theorem ka_birth {S : Sg} (x0 : Int) (h : Rel S) : Call S (zf_O_birth x0) (zf_M_birth x0) := h.pc (pc_birth x0 h.1.1.1) (sm_birth x0)
theorem ka_death {S : Sg} (x0 : Int) (h : Rel S) : Call S (zf_O_death x0) (zf_M_death x0) := h.pc (pc_death x0 h.1.1.1) (sm_death x0)
theorem ka_back {S : Sg} (x0 : Int) (h : Rel S) : Call S (zf_O_back x0) (zf_M_back x0) := h.pc (pc_back x0 h.1.1.1) (sm_back x0)
theorem ka_skill {S : Sg} (x0 x1 b : Int) (h : Rel S) : Call S (zf_O_skill x0 x1 (if b = 0 then 0 else 1)) (zf_M_skill x0 x1 (if b = 0 then 0 else 1)) := h.pc (pc_skill x0 x1 b h.1.1.1) (sm_skill x0 x1 b)
theorem ka_move {S : Sg} (x0 x1 : Int) (h : Rel S) : Call S (zf_O_move x0 x1) (zf_M_move x0 x1) := h.pc (pc_move x0 x1 h.1.1.1) (sm_move x0 x1)
theorem ka_house {S : Sg} (x0 x1 x2 : Int) (h : Rel S) : Call S (zf_O_house x0 x1 x2) (zf_M_house x0 x1 x2) := h.pc (pc_house x0 x1 x2 h.1.1.1) (sm_house x0 x1 x2)
theorem ka_about {S : Sg} (x0 x1 : Int) (h : Rel S) : Call S (zf_O_about x0 x1) (zf_M_about x0 x1) := h.pc (pc_about x0 x1 h.1.1.1) (sm_about x0 x1)
theorem ka_home {S : Sg} (x0 x1 : Int) (h : Rel S) : Call S (zf_O_home x0 x1) (zf_M_home x0 x1) := h.pc (pc_home x0 x1 h.1.1.1) (sm_home x0 x1)
theorem ka_force {S : Sg} (x0 x1 : Int) (h : Rel S) : Call S (zf_O_force x0 x1) (zf_M_force x0 x1) := h.pc (pc_force x0 x1 h.1.1.1 h.1.1.2.1) (sm_force x0 x1)
theorem ka_law {S : Sg} (x0 x1 : Int) (h : Rel S) : Call S (zf_O_law x0 x1) (zf_M_law x0 x1) := h.pc (pc_law x0 x1 h.1.1.1 h.1.1.2.1) (sm_law x0 x1)
theorem ka_post {S : Sg} (x0 x1 x2 : Int) (h : Rel S) : Call S (zf_O_post x0 x1 x2) (zf_M_post x0 x1 x2) := h.pc (pc_post x0 x1 x2 h.1.1.1) (sm_post x0 x1 x2)
theorem ka_open {S : Sg} (x0 b : Int) (h : Rel S) : Call S (zf_O_open x0 (if b = 0 then 0 else 1)) (zf_M_open x0 (if b = 0 then 0 else 1)) := h.pc (pc_open x0 b h.1.1.1) (sm_open x0 b)
theorem ka_store {S : Sg} (x0 x1 : Int) (h : Rel S) : Call S (zf_O_store x0 x1) (zf_M_store x0 x1) := h.pc (pc_store x0 x1 h.1.1.1) (sm_store x0 x1)
theorem ka_rank {S : Sg} (x0 x1 x2 : Int) (h : Rel S) : Call S (zf_O_rank x0 x1 x2) (zf_M_rank x0 x1 x2) := h.pc (pc_rank x0 x1 x2 h.1.1.1) (sm_rank x0 x1 x2)
theorem ka_order {S : Sg} (x0 x1 : Int) (h : Rel S) : Call S (zf_O_order x0 x1) (zf_M_order x0 x1) := h.pc (pc_order x0 x1 h.1.1.1) (sm_order x0 x1)
theorem ka_due {S : Sg} (x0 : Int) (h : Rel S) : Call S (zf_O_due x0) (zf_M_due x0) := h.pc (pc_due x0 h.1.1.1) (sm_due x0)
theorem ka_set {S : Sg} (x0 x1 : Int) (h : Rel S) : Call S (zf_O_set x0 x1) (zf_M_set x0 x1) := h.pc (pc_set x0 x1 h.1.1.1) (sm_set x0 x1)
theorem ka_pays {S : Sg} (x0 : Int) (h : Rel S) : Call S (zf_O_pays x0) (zf_M_pays x0) := h.pc (pc_pays x0 h.1.1.1) (sm_pays x0)
theorem ka_earn {S : Sg} (x0 : Int) (h : Rel S) : Call S (zf_O_earn x0) (zf_M_earn x0) := h.pc (pc_earn x0 h.1.1.1) (sm_earn x0)
theorem ka_weather {S : Sg} (x0 b : Int) (h : Rel S) : Call S (zf_O_weather x0 (if b = 0 then 0 else 1)) (zf_M_weather x0 (if b = 0 then 0 else 1)) := h.pc (pc_weather x0 b h.1.1.1 h.2) (sm_weather x0 b)
theorem ka_sky {S : Sg} (x0 b : Int) (h : Rel S) (hz : Zs S) : Call S (zf_O_sky x0 (if b = 0 then 0 else 1)) (zf_M_sky x0 (if b = 0 then 0 else 1)) := h.pc (pc_sky x0 b h.1.1.1 (hz 0)) (sm_sky x0 b)
theorem ka_record {S : Sg} (x0 x1 : Int) (h : Rel S) : Call S (zf_O_record x0 x1) (zf_M_record x0 x1) := h.pc (pc_record x0 x1 h.1.1.1 h.1.2.2.1) (sm_record x0 x1)
theorem ka_row {S : Sg} (x0 x1 x2 : Int) (h : Rel S) : Call S (zf_O_row x0 x1 x2) (zf_M_row x0 x1 x2) := h.pd (pd_row x0 x1 x2 h.1.1.1 h.2) (sm_row x0 x1 x2)
theorem ka_put {S : Sg} (x0 x1 x2 : Int) (n2 : zn x2) (h : Rel S) : Call S (zf_O_put x0 x1 x2) (zf_M_put x0 x1 x2) := h.pd (pd_put x0 x1 x2 n2 h.1.1.1 h.2) (sm_put x0 x1 x2)
theorem ka_weight {S : Sg} (x0 : Int) (h : Rel S) : Call S (zf_O_weight x0) (zf_M_weight x0) := h.pd (pd_weight x0 h.1.1.1 h.2) (sm_weight x0)
theorem ka_copy {S : Sg} (x0 x1 x2 x3 x4 : Int) (n1 : zn x1) (n3 : zn x3) (n4 : zn x4) (h : Rel S) : Call S (zf_O_copy x0 x1 x2 x3 x4) (zf_M_copy x0 x1 x2 x3 x4) := h.pd (pd_copy x0 x1 x2 x3 x4 n1 n3 n4 h.1.1.1 h.2) (sm_copy x0 x1 x2 x3 x4)
theorem ka_keep {S : Sg} (x0 x1 x2 : Int) (h : Rel S) : Call S (zf_O_keep x0 x1 x2) (zf_M_keep x0 x1 x2) := h.pd (pd_keep x0 x1 x2 h.1.1.1 h.1.1.2.1 h.2) (sm_keep x0 x1 x2)
theorem ka_toss {S : Sg} (x0 : Int) (h : Rel S) : Call S (zf_O_toss x0) (zf_M_toss x0) := h.pd (pd_toss x0 h.1.1.1 h.1.1.2.1 h.2) (sm_toss x0)
theorem ka_repeal {S : Sg} (x0 : Int) (h : Rel S) : Call S (zf_O_repeal x0) (zf_M_repeal x0) := h.pl (pl_repeal x0 h.1.1.1 h.1.1.2.1) (sm_repeal x0)
theorem ka_found {S : Sg} (x0 x1 : Int) (h : Rel S) : Call S (zf_O_found x0 x1) (zf_M_found x0 x1) := h.pl (pl_found x0 x1 h.1.1.1 h.1.1.2.1) (sm_found x0 x1)
theorem ka_weeks {S : Sg} (x0 : Int) (h : Rel S) (hz : Zs S) : Call S (zf_O_weeks x0) (zf_M_weeks x0) := h.tw hz (so_weeks x0) (sn_weeks x0) (fun S T h => tw_weeks2 x0 h)
theorem ka_worth {S : Sg} (x0 x1 : Int) (h : Rel S) (hz : Zs S) : Call S (zf_O_worth x0 x1) (zf_M_worth x0 x1) := h.tw hz (so_worth x0 x1) (sn_worth x0 x1) (fun S T h => tw_worth2 x0 x1 h)
theorem ka_lack {S : Sg} (x0 x1 : Int) (h : Rel S) (hz : Zs S) : Call S (zf_O_lack x0 x1) (zf_M_lack x0 x1) := h.tw hz (so_lack x0 x1) (sn_lack x0 x1) (fun S T h => tw_lack2 x0 x1 h)
theorem ka_plan {S : Sg} (h : Rel S) (hz : Zs S) : Call S (zf_O_plan) (zf_M_plan) := h.tw hz (so_plan) (sn_plan) (fun S T h => tw_plan2 h)
theorem ka_image {S : Sg} (h : Rel S) (hz : Zs S) : Call S (zf_O_image) (zf_M_image) := h.tw hz (so_image) (sn_image) (fun S T h => tw_image2 h.1)
theorem ka_restore {S : Sg} (h : Rel S) (hz : Zs S) : Call S (zf_O_restore) (zf_M_restore) := h.tw hz (so_restore) (sn_restore) (fun S T h => tw_restore2 h.1)
theorem ka_count {S : Sg} (x0 : Int) (h : Rel S) (hz : Zs S) : Call S (zf_O_count x0) (zf_M_count x0) := h.tw hz (so_count x0) (sn_count x0) (fun S T h => tw_count2 x0 h.1)
theorem ka_filled {S : Sg} (h : Rel S) : Call S zf_O_filled zf_M_filled := by
  obtain ⟨a, S1, S2, k1, k2, k3, k4, k5⟩ := tw_filled h.1.1 h.1.2.1
  exact ⟨a, S1, S2, k1, k2, h.ks k4 (fun g r k i q => k5 g r k i (fun e => q (by unfold KS; omega)) (fun e => q (by unfold KS; omega)) (fun e => q (by unfold KS; omega)) (fun e => q (by unfold KS; omega)) (fun e => q (by unfold KS; omega)) (fun e => q (by unfold KS; omega)))⟩
theorem ka_hands {S : Sg} (x b : Int) (h : Rel S) : Call S (zf_O_hands x b) (zf_M_hands x b) := by
  obtain ⟨a, S1, S2, k1, k2, k3, k4, k5⟩ := tw_hands x b h.1.1 h.1.2.1
  exact ⟨a, S1, S2, k1, k2, h.ks k4 (fun g r k i q => k5 g r k i (fun e => q (by unfold KS; omega)) (fun e => q (by unfold KS; omega)) (fun e => q (by unfold KS; omega)) (fun e => q (by unfold KS; omega)) (fun e => q (by unfold KS; omega)) (fun e => q (by unfold KS; omega)))⟩
theorem ka_may {S : Sg} (x y : Int) (h : Rel S) : Call S (zf_O_may x y) (zf_M_may x y) := by
  obtain ⟨a, S1, S2, k1, k2, k3, k4⟩ := tw_may x y h.1.1
  refine ⟨a, S1, S2, k1, k2, h.ks (h.1.2.1.to2 ?_ ?_ ?_) (fun g r k i q => ?_)⟩
  · funext r k i; rw [k4 20 r k i (by omega) (by omega), k3 20 r k (by omega)]
  · funext i; rw [k4 3 0 12 i (by omega) (by omega), k3 3 0 12 (by omega)]
  · funext i; rw [k4 3 0 10 i (by omega) (by omega), k3 3 0 10 (by omega)]
  · rw [k4 g r k i (fun e => q (by unfold KS; omega)) (fun e => q (by unfold KS; omega)), k3 g r k (fun e => q (by unfold KS; omega))]
theorem ka_fault {S : Sg} (x : Int) (h : Rel S) : Call S (zf_O_fault x) (zf_M_fault x) := by
  obtain ⟨a, S1, S2, k1, k2, k3, k4⟩ := tw_fault x h.2
  refine ⟨a, S1, S2, k1, k2, h.ks (h.1.2.1.to2 ?_ ?_ ?_) (fun g r k i q => ?_)⟩
  · funext r k i; rw [k4 20 r k i (by omega), k3 20 r k (by omega)]
  · funext i; rw [k4 3 0 12 i (by omega), k3 3 0 12 (by omega)]
  · funext i; rw [k4 3 0 10 i (by omega), k3 3 0 10 (by omega)]
  · rw [k4 g r k i (fun e => q (by unfold KS; omega)), k3 g r k (fun e => q (by unfold KS; omega))]
theorem ka_vote {S : Sg} (x y : Int) (hy : zn y) (h : Rel S) : Call S (zf_O_vote x y) (zf_M_vote x y) := by
  obtain ⟨a, S1, S2, k1, k2, k3, k4, k5, k6⟩ := tw_vote x y hy h.1.1 h.2
  have eg : ∀ g : Nat, g ≠ 5 → g ≠ 6 → g ≠ 9 → S2 g = S1 g := fun g a b c => by funext r k i; exact k5 g r k i (by omega) (by omega) (by omega)
  have e0 : S2 0 = S1 0 := eg 0 (by decide) (by decide) (by decide)
  have e1 : S2 1 = S1 1 := eg 1 (by decide) (by decide) (by decide)
  refine ⟨a, S1, S2, k1, k2, h.1.fr (k3.toS e0 e1 (eg 13 (by decide) (by decide) (by decide)) (eg 14 (by decide) (by decide) (by decide))) (h.1.2.1.to2 ?_ ?_ ?_) (by rw [e0]; exact k6) (fun l x y => by rw [e1]; exact k4 1 l 0 (by omega) (by omega) (by omega)) (fun g r k i q => ?_), h.2.fr ?_ ?_ ?_ ?_⟩
  · funext r k; rw [eg 20 (by decide) (by decide) (by decide)]; exact k4 20 r k (by omega) (by omega) (by omega)
  · rw [eg 3 (by decide) (by decide) (by decide)]; exact k4 3 0 12 (by omega) (by omega) (by omega)
  · rw [eg 3 (by decide) (by decide) (by decide)]; exact k4 3 0 10 (by omega) (by omega) (by omega)
  · rw [k5 g r k i (fun e => q (by unfold KA; omega)) (fun e => q (by unfold KA; omega)) (fun e => q (by unfold KA; omega)), k4 g r k (fun e => q (by unfold KA; omega)) (fun e => q (by unfold KA; omega)) (fun e => q (by unfold KA; omega))]
  · rw [eg 2 (by decide) (by decide) (by decide)]; funext r k; exact k4 2 r k (by omega) (by omega) (by omega)
  · rw [eg 10 (by decide) (by decide) (by decide)]; funext r k; exact k4 10 r k (by omega) (by omega) (by omega)
  · rw [eg 11 (by decide) (by decide) (by decide)]; funext r k; exact k4 11 r k (by omega) (by omega) (by omega)
  · intro k x y
    funext i
    rw [k5 9 0 k i (by omega) (by omega) (by omega), k4 9 0 k (by omega) (by omega) (by omega)]
