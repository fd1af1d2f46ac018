/-! p1: the calls by their numbers -/
theorem k_sign (xs : Nat → Int32) : ok5 (j_law_228_23 5 xs 0 M0) = true := by
  unfold j_law_228_23
  simp only [i51, if_true]
  exact agr_ok (m := f_Mod_sign (xs ((0 : Int32) + (1 : Int32)).toNatClampNeg)) (r_sign (xs ((0 : Int32) + (1 : Int32)).toNatClampNeg))
theorem k_end (xs : Nat → Int32) : ok5 (j_law_253_23 5 xs 0 M0) = true := by
  unfold j_law_253_23
  simp only [i51, if_true]
  exact agr_ok (m := f_Mod_end (xs ((0 : Int32) + (1 : Int32)).toNatClampNeg)) (r_end (xs ((0 : Int32) + (1 : Int32)).toNatClampNeg))
theorem k_town (xs : Nat → Int32) : ok5 (j_law_278_23 5 xs 0 M0) = true := by
  unfold j_law_278_23
  skip
  exact agr_ok (m := f_Mod_town) g_town
theorem k_folk (xs : Nat → Int32) : ok5 (j_law_291_23 5 xs 0 M0) = true := by
  unfold j_law_291_23
  skip
  exact agr_ok (m := f_Mod_folk) g_folk
theorem k_rule (xs : Nat → Int32) : ok5 (j_law_304_23 5 xs 0 M0) = true := by
  unfold j_law_304_23
  skip
  exact agr_ok (m := f_Mod_rule) g_rule
theorem k_route (xs : Nat → Int32) : ok5 (j_law_317_23 5 xs 0 M0) = true := by
  unfold j_law_317_23
  simp only [i51, if_true]
  exact agr_ok (m := f_Mod_route (xs ((0 : Int32) + (1 : Int32)).toNatClampNeg)) (r_route (xs ((0 : Int32) + (1 : Int32)).toNatClampNeg))
theorem k_cell (xs : Nat → Int32) : ok5 (j_law_342_23 5 xs 0 M0) = true := by
  unfold j_law_342_23
  simp only [i51, i52, if_true]
  exact r_cell (xs ((0 : Int32) + (1 : Int32)).toNatClampNeg) (xs ((0 : Int32) + (2 : Int32)).toNatClampNeg)
theorem k_person (xs : Nat → Int32) : ok5 (j_law_410_23 5 xs 0 M0) = true := by
  unfold j_law_410_23
  simp only [i51, i52, if_true]
  exact r_person (xs ((0 : Int32) + (1 : Int32)).toNatClampNeg) (xs ((0 : Int32) + (2 : Int32)).toNatClampNeg)
theorem k_build (xs : Nat → Int32) : ok5 (j_law_478_23 5 xs 0 M0) = true := by
  unfold j_law_478_23
  simp only [i51, i52, if_true]
  exact agr_ok (m := f_Mod_build (xs ((0 : Int32) + (1 : Int32)).toNatClampNeg) (xs ((0 : Int32) + (2 : Int32)).toNatClampNeg)) (r_build (xs ((0 : Int32) + (1 : Int32)).toNatClampNeg) (xs ((0 : Int32) + (2 : Int32)).toNatClampNeg))
theorem k_plank (xs : Nat → Int32) : ok5 (j_law_515_23 5 xs 0 M0) = true := by
  unfold j_law_515_23
  simp only [i51, i52, if_true]
  exact agr_ok (m := f_Mod_plank (xs ((0 : Int32) + (1 : Int32)).toNatClampNeg) (xs ((0 : Int32) + (2 : Int32)).toNatClampNeg)) (r_plank (xs ((0 : Int32) + (1 : Int32)).toNatClampNeg) (xs ((0 : Int32) + (2 : Int32)).toNatClampNeg))
theorem k_take (xs : Nat → Int32) : ok5 (j_law_552_23 5 xs 0 M0) = true := by
  unfold j_law_552_23
  skip
  exact agr_ok (m := f_Mod_take) g_take
theorem k_sheet (xs : Nat → Int32) : ok5 (j_law_565_23 5 xs 0 M0) = true := by
  unfold j_law_565_23
  simp only [i51, i52, i53, i54, if_true]
  exact agr_ok (m := f_Mod_sheet (xs ((0 : Int32) + (1 : Int32)).toNatClampNeg) (xs ((0 : Int32) + (2 : Int32)).toNatClampNeg) (xs ((0 : Int32) + (3 : Int32)).toNatClampNeg) (xs ((0 : Int32) + (4 : Int32)).toNatClampNeg)) (r_sheet (xs ((0 : Int32) + (1 : Int32)).toNatClampNeg) (xs ((0 : Int32) + (2 : Int32)).toNatClampNeg) (xs ((0 : Int32) + (3 : Int32)).toNatClampNeg) (xs ((0 : Int32) + (4 : Int32)).toNatClampNeg))
theorem k_tell (xs : Nat → Int32) : ok5 (j_law_626_23 5 xs 0 M0) = true := by
  unfold j_law_626_23
  simp only [i51, if_true]
  exact agr_ok (m := f_Mod_tell (xs ((0 : Int32) + (1 : Int32)).toNatClampNeg)) (r_tell (xs ((0 : Int32) + (1 : Int32)).toNatClampNeg))
theorem k_feast (xs : Nat → Int32) : ok5 (j_law_651_23 5 xs 0 M0) = true := by
  unfold j_law_651_23
  simp only [i51, if_true]
  exact agr_ok (m := f_Mod_feast (xs ((0 : Int32) + (1 : Int32)).toNatClampNeg)) (r_feast (xs ((0 : Int32) + (1 : Int32)).toNatClampNeg))
theorem k_minute (xs : Nat → Int32) : ok5 (j_law_676_23 5 xs 0 M0) = true := by
  unfold j_law_676_23
  skip
  exact agr_ok (m := f_Mod_minute) g_minute
theorem k_minutes (xs : Nat → Int32) : ok5 (j_law_689_23 5 xs 0 M0) = true := by
  unfold j_law_689_23
  simp only [i51, if_true]
  exact agr_ok (m := f_Mod_minutes (xs ((0 : Int32) + (1 : Int32)).toNatClampNeg)) (r_minutes (xs ((0 : Int32) + (1 : Int32)).toNatClampNeg))
theorem k_evening (xs : Nat → Int32) : ok5 (j_law_714_23 5 xs 0 M0) = true := by
  unfold j_law_714_23
  skip
  exact agr_ok (m := f_Mod_evening) g_evening
theorem k_undo (xs : Nat → Int32) : ok5 (j_law_727_23 5 xs 0 M0) = true := by
  unfold j_law_727_23
  skip
  exact agr_ok (m := f_Mod_undo) g_undo
theorem k_met (xs : Nat → Int32) : ok5 (j_law_740_23 5 xs 0 M0) = true := by
  unfold j_law_740_23
  simp only [i51, i52, if_true]
  exact agq_ok (r_met (xs ((0 : Int32) + (1 : Int32)).toNatClampNeg) (xs ((0 : Int32) + (2 : Int32)).toNatClampNeg))
theorem k_ahead (xs : Nat → Int32) : ok5 (j_law_777_23 5 xs 0 M0) = true := by
  unfold j_law_777_23
  simp only [i51, if_true]
  exact agr_ok (m := f_Mod_ahead (xs ((0 : Int32) + (1 : Int32)).toNatClampNeg)) (r_ahead (xs ((0 : Int32) + (1 : Int32)).toNatClampNeg))
theorem k_meet (xs : Nat → Int32) : ok5 (j_law_802_23 5 xs 0 M0) = true := by
  unfold j_law_802_23
  simp only [i51, i52, if_true]
  exact agr_ok (m := f_Mod_meet (xs ((0 : Int32) + (1 : Int32)).toNatClampNeg) (xs ((0 : Int32) + (2 : Int32)).toNatClampNeg)) (r_meet (xs ((0 : Int32) + (1 : Int32)).toNatClampNeg) (xs ((0 : Int32) + (2 : Int32)).toNatClampNeg))
theorem k_known (xs : Nat → Int32) : ok5 (j_law_839_23 5 xs 0 M0) = true := by
  unfold j_law_839_23
  skip
  exact agr_ok (m := f_Mod_known) g_known
theorem k_gossip (xs : Nat → Int32) : ok5 (j_law_852_23 5 xs 0 M0) = true := by
  unfold j_law_852_23
  simp only [i51, if_true]
  exact agr_ok (m := f_Mod_gossip (xs ((0 : Int32) + (1 : Int32)).toNatClampNeg)) (r_gossip (xs ((0 : Int32) + (1 : Int32)).toNatClampNeg))
theorem k_pieces (xs : Nat → Int32) : ok5 (j_law_877_23 5 xs 0 M0) = true := by
  unfold j_law_877_23
  simp only [i51, if_true]
  exact agr_ok (m := f_Mod_pieces (xs ((0 : Int32) + (1 : Int32)).toNatClampNeg)) (r_pieces (xs ((0 : Int32) + (1 : Int32)).toNatClampNeg))
theorem k_reach (xs : Nat → Int32) : ok5 (j_law_902_23 5 xs 0 M0) = true := by
  unfold j_law_902_23
  simp only [i51, i52, if_true]
  exact agr_ok (m := f_Mod_reach (xs ((0 : Int32) + (1 : Int32)).toNatClampNeg) (xs ((0 : Int32) + (2 : Int32)).toNatClampNeg)) (r_reach (xs ((0 : Int32) + (1 : Int32)).toNatClampNeg) (xs ((0 : Int32) + (2 : Int32)).toNatClampNeg))
theorem k_path (xs : Nat → Int32) : ok5 (j_law_939_23 5 xs 0 M0) = true := by
  unfold j_law_939_23
  simp only [i51, i52, i53, if_true]
  exact agr_ok (m := f_Mod_path (xs ((0 : Int32) + (1 : Int32)).toNatClampNeg) (xs ((0 : Int32) + (2 : Int32)).toNatClampNeg) (xs ((0 : Int32) + (3 : Int32)).toNatClampNeg)) (r_path (xs ((0 : Int32) + (1 : Int32)).toNatClampNeg) (xs ((0 : Int32) + (2 : Int32)).toNatClampNeg) (xs ((0 : Int32) + (3 : Int32)).toNatClampNeg))
theorem k_both (xs : Nat → Int32) : ok5 (j_law_988_23 5 xs 0 M0) = true := by
  unfold j_law_988_23
  simp only [i51, i52, i53, i54, if_true]
  exact agr_ok (m := f_Mod_both (xs ((0 : Int32) + (1 : Int32)).toNatClampNeg) (xs ((0 : Int32) + (2 : Int32)).toNatClampNeg) (xs ((0 : Int32) + (3 : Int32)).toNatClampNeg) (xs ((0 : Int32) + (4 : Int32)).toNatClampNeg)) (r_both (xs ((0 : Int32) + (1 : Int32)).toNatClampNeg) (xs ((0 : Int32) + (2 : Int32)).toNatClampNeg) (xs ((0 : Int32) + (3 : Int32)).toNatClampNeg) (xs ((0 : Int32) + (4 : Int32)).toNatClampNeg))
theorem k_errand (xs : Nat → Int32) : ok5 (j_law_1049_23 5 xs 0 M0) = true := by
  unfold j_law_1049_23
  simp only [i51, i52, if_true]
  exact agr_ok (m := f_Mod_errand (xs ((0 : Int32) + (1 : Int32)).toNatClampNeg) (xs ((0 : Int32) + (2 : Int32)).toNatClampNeg)) (r_errand (xs ((0 : Int32) + (1 : Int32)).toNatClampNeg) (xs ((0 : Int32) + (2 : Int32)).toNatClampNeg))
theorem k_tryst (xs : Nat → Int32) : ok5 (j_law_1086_23 5 xs 0 M0) = true := by
  unfold j_law_1086_23
  simp only [i51, i52, if_true]
  exact agr_ok (m := f_Mod_tryst (xs ((0 : Int32) + (1 : Int32)).toNatClampNeg) (xs ((0 : Int32) + (2 : Int32)).toNatClampNeg)) (r_tryst (xs ((0 : Int32) + (1 : Int32)).toNatClampNeg) (xs ((0 : Int32) + (2 : Int32)).toNatClampNeg))
theorem k_open (xs : Nat → Int32) : ok5 (j_law_1123_23 5 xs 0 M0) = true := by
  unfold j_law_1123_23
  simp only [i51, i52, if_true]
  exact agr_ok (m := f_Mod_open (xs ((0 : Int32) + (1 : Int32)).toNatClampNeg) (xs ((0 : Int32) + (2 : Int32)).toNatClampNeg)) (r_open (xs ((0 : Int32) + (1 : Int32)).toNatClampNeg) (xs ((0 : Int32) + (2 : Int32)).toNatClampNeg))
theorem k_part (xs : Nat → Int32) : ok5 (j_law_1160_23 5 xs 0 M0) = true := by
  unfold j_law_1160_23
  simp only [i51, i52, if_true]
  exact agr_ok (m := f_Mod_part (xs ((0 : Int32) + (1 : Int32)).toNatClampNeg) (xs ((0 : Int32) + (2 : Int32)).toNatClampNeg)) (r_part (xs ((0 : Int32) + (1 : Int32)).toNatClampNeg) (xs ((0 : Int32) + (2 : Int32)).toNatClampNeg))
theorem k_planks (xs : Nat → Int32) : ok5 (j_law_1197_23 5 xs 0 M0) = true := by
  unfold j_law_1197_23
  simp only [i51, i52, if_true]
  exact agr_ok (m := f_Mod_planks (xs ((0 : Int32) + (1 : Int32)).toNatClampNeg) (xs ((0 : Int32) + (2 : Int32)).toNatClampNeg)) (r_planks (xs ((0 : Int32) + (1 : Int32)).toNatClampNeg) (xs ((0 : Int32) + (2 : Int32)).toNatClampNeg))
theorem k_fire (xs : Nat → Int32) : ok5 (j_law_1234_23 5 xs 0 M0) = true := by
  unfold j_law_1234_23
  simp only [i51, if_true]
  exact agr_ok (m := f_Mod_fire (xs ((0 : Int32) + (1 : Int32)).toNatClampNeg)) (r_fire (xs ((0 : Int32) + (1 : Int32)).toNatClampNeg))
theorem k_fights (xs : Nat → Int32) : ok5 (j_law_1259_23 5 xs 0 M0) = true := by
  unfold j_law_1259_23
  simp only [i51, if_true]
  exact agr_ok (m := f_Mod_fights (xs ((0 : Int32) + (1 : Int32)).toNatClampNeg)) (r_fights (xs ((0 : Int32) + (1 : Int32)).toNatClampNeg))
theorem k_saved (xs : Nat → Int32) : ok5 (j_law_1284_23 5 xs 0 M0) = true := by
  unfold j_law_1284_23
  skip
  exact agr_ok (m := f_Mod_saved) g_saved
theorem k_wardrobe (xs : Nat → Int32) : ok5 (j_law_1297_23 5 xs 0 M0) = true := by
  unfold j_law_1297_23
  simp only [i51, i52, if_true]
  exact agr_ok (m := f_Mod_wardrobe (xs ((0 : Int32) + (1 : Int32)).toNatClampNeg) (xs ((0 : Int32) + (2 : Int32)).toNatClampNeg)) (r_wardrobe (xs ((0 : Int32) + (1 : Int32)).toNatClampNeg) (xs ((0 : Int32) + (2 : Int32)).toNatClampNeg))
theorem k_flees (xs : Nat → Int32) : ok5 (j_law_1334_23 5 xs 0 M0) = true := by
  unfold j_law_1334_23
  simp only [i51, i52, i53, if_true]
  exact agr_ok (m := f_Mod_flees (xs ((0 : Int32) + (1 : Int32)).toNatClampNeg) (xs ((0 : Int32) + (2 : Int32)).toNatClampNeg) (xs ((0 : Int32) + (3 : Int32)).toNatClampNeg)) (r_flees (xs ((0 : Int32) + (1 : Int32)).toNatClampNeg) (xs ((0 : Int32) + (2 : Int32)).toNatClampNeg) (xs ((0 : Int32) + (3 : Int32)).toNatClampNeg))
theorem k_lairs (xs : Nat → Int32) : ok5 (j_law_1383_23 5 xs 0 M0) = true := by
  unfold j_law_1383_23
  simp only [i51, if_true]
  exact agr_ok (m := f_Mod_lairs (xs ((0 : Int32) + (1 : Int32)).toNatClampNeg)) (r_lairs (xs ((0 : Int32) + (1 : Int32)).toNatClampNeg))
theorem k_caught (xs : Nat → Int32) : ok5 (j_law_1408_23 5 xs 0 M0) = true := by
  unfold j_law_1408_23
  simp only [i51, i52, if_true]
  exact agr_ok (m := f_Mod_caught (xs ((0 : Int32) + (1 : Int32)).toNatClampNeg) (xs ((0 : Int32) + (2 : Int32)).toNatClampNeg)) (r_caught (xs ((0 : Int32) + (1 : Int32)).toNatClampNeg) (xs ((0 : Int32) + (2 : Int32)).toNatClampNeg))
theorem k_watch (xs : Nat → Int32) : ok5 (j_law_1445_23 5 xs 0 M0) = true := by
  unfold j_law_1445_23
  simp only [i51, i52, i53, i54, if_true]
  exact agr_ok (m := f_Mod_watch (xs ((0 : Int32) + (1 : Int32)).toNatClampNeg) (xs ((0 : Int32) + (2 : Int32)).toNatClampNeg) (xs ((0 : Int32) + (3 : Int32)).toNatClampNeg) (xs ((0 : Int32) + (4 : Int32)).toNatClampNeg)) (r_watch (xs ((0 : Int32) + (1 : Int32)).toNatClampNeg) (xs ((0 : Int32) + (2 : Int32)).toNatClampNeg) (xs ((0 : Int32) + (3 : Int32)).toNatClampNeg) (xs ((0 : Int32) + (4 : Int32)).toNatClampNeg))
theorem k_keep (xs : Nat → Int32) : ok5 (j_law_1506_23 5 xs 0 M0) = true := by
  unfold j_law_1506_23
  simp only [i51, if_true]
  exact agr_ok (m := f_Mod_keep (xs ((0 : Int32) + (1 : Int32)).toNatClampNeg)) (r_keep (xs ((0 : Int32) + (1 : Int32)).toNatClampNeg))
theorem k_again (xs : Nat → Int32) : ok5 (j_law_1531_23 5 xs 0 M0) = true := by
  unfold j_law_1531_23
  simp only [i51, if_true]
  exact agr_ok (m := f_Mod_again (xs ((0 : Int32) + (1 : Int32)).toNatClampNeg)) (r_again (xs ((0 : Int32) + (1 : Int32)).toNatClampNeg))
theorem k_count (xs : Nat → Int32) : ok5 (j_law_1556_23 5 xs 0 M0) = true := by
  unfold j_law_1556_23
  simp only [i51, if_true]
  exact agq_ok (r_count (xs ((0 : Int32) + (1 : Int32)).toNatClampNeg))
theorem k_row (xs : Nat → Int32) : ok5 (j_law_1581_23 5 xs 0 M0) = true := by
  unfold j_law_1581_23
  simp only [i51, if_true]
  exact r_row (xs ((0 : Int32) + (1 : Int32)).toNatClampNeg)
theorem ok_if {c : Prop} [Decidable c] {a b : Option ((Int32 × Mem) ⊕ ((Mem) ⊕ (Int32 × Mem)))} (h1 : c → ok5 a = true) (h2 : ¬ c → ok5 b = true) : ok5 (if c then a else b) = true := by
  by_cases h : c
  · rw [if_pos h]; exact h1 h
  · rw [if_neg h]; exact h2 h
theorem all5 (xs : Nat → Int32) : ok5 (lb_law 5 xs (0, M0)) = true := by
  unfold lb_law
  rw [if_neg (by decide), if_pos (by decide)]
  dsimp only
  refine ok_if (fun _ => k_sign xs) (fun _ => ?_)
  refine ok_if (fun _ => k_end xs) (fun _ => ?_)
  refine ok_if (fun _ => k_town xs) (fun _ => ?_)
  refine ok_if (fun _ => k_folk xs) (fun _ => ?_)
  refine ok_if (fun _ => k_rule xs) (fun _ => ?_)
  refine ok_if (fun _ => k_route xs) (fun _ => ?_)
  refine ok_if (fun _ => k_cell xs) (fun _ => ?_)
  refine ok_if (fun _ => k_person xs) (fun _ => ?_)
  refine ok_if (fun _ => k_build xs) (fun _ => ?_)
  refine ok_if (fun _ => k_plank xs) (fun _ => ?_)
  refine ok_if (fun _ => k_take xs) (fun _ => ?_)
  refine ok_if (fun _ => k_sheet xs) (fun _ => ?_)
  refine ok_if (fun _ => k_tell xs) (fun _ => ?_)
  refine ok_if (fun _ => k_feast xs) (fun _ => ?_)
  refine ok_if (fun _ => k_minute xs) (fun _ => ?_)
  refine ok_if (fun _ => k_minutes xs) (fun _ => ?_)
  refine ok_if (fun _ => k_evening xs) (fun _ => ?_)
  refine ok_if (fun _ => k_undo xs) (fun _ => ?_)
  refine ok_if (fun _ => k_met xs) (fun _ => ?_)
  refine ok_if (fun _ => k_ahead xs) (fun _ => ?_)
  refine ok_if (fun _ => k_meet xs) (fun _ => ?_)
  refine ok_if (fun _ => k_known xs) (fun _ => ?_)
  refine ok_if (fun _ => k_gossip xs) (fun _ => ?_)
  refine ok_if (fun _ => k_pieces xs) (fun _ => ?_)
  refine ok_if (fun _ => k_reach xs) (fun _ => ?_)
  refine ok_if (fun _ => k_path xs) (fun _ => ?_)
  refine ok_if (fun _ => k_both xs) (fun _ => ?_)
  refine ok_if (fun _ => k_errand xs) (fun _ => ?_)
  refine ok_if (fun _ => k_tryst xs) (fun _ => ?_)
  refine ok_if (fun _ => k_open xs) (fun _ => ?_)
  refine ok_if (fun _ => k_part xs) (fun _ => ?_)
  refine ok_if (fun _ => k_planks xs) (fun _ => ?_)
  refine ok_if (fun _ => k_fire xs) (fun _ => ?_)
  refine ok_if (fun _ => k_fights xs) (fun _ => ?_)
  refine ok_if (fun _ => k_saved xs) (fun _ => ?_)
  refine ok_if (fun _ => k_wardrobe xs) (fun _ => ?_)
  refine ok_if (fun _ => k_flees xs) (fun _ => ?_)
  refine ok_if (fun _ => k_lairs xs) (fun _ => ?_)
  refine ok_if (fun _ => k_caught xs) (fun _ => ?_)
  refine ok_if (fun _ => k_watch xs) (fun _ => ?_)
  refine ok_if (fun _ => k_keep xs) (fun _ => ?_)
  refine ok_if (fun _ => k_again xs) (fun _ => ?_)
  refine ok_if (fun _ => k_count xs) (fun _ => ?_)
  refine ok_if (fun _ => k_row xs) (fun _ => ?_)
  rfl
theorem pure_law (L : Nat) (xs : Nat → Int32) (h : L ≤ 5) : ∃ (n : Nat) (x : Mem), n ≤ 90000 ∧ iter (lb_law L xs) n (0, M0) = some (.inl x) := by
  by_cases h5 : L = 5
  · subst h5
    exact ok5_end (all5 xs)
  · refine ⟨1, M0, by decide, ?_⟩
    have h6 : lb_law L xs (0, M0) = some (.inr (Sum.inl M0)) := by
      unfold lb_law
      have h7 : L = 0 ∨ L = 1 ∨ L = 2 ∨ L = 3 ∨ L = 4 := by omega
      rcases h7 with rfl | rfl | rfl | rfl | rfl <;> rw [if_pos (by decide)]
    simp only [iter, h6]
