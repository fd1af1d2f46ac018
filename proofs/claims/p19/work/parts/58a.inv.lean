/-! class and reference between two calls -/
def Inv (n : Int) (M : Mem) : Prop := RI n M ∧ M.1 1 1 = M.1 162 10
theorem RI_Gc {v : Nat} {n : Int} {M N : Mem} (h : RI n M) (j : J N) (g : Gc v M N) : RI n N := by
  have f : ∀ k i, 162 ≤ k → N.1 k i = M.1 k i := fun k i w => g k i (.inl w)
  refine ⟨j, KK_c h.1 ⟨⟨f 162 2 (by decide), f 162 3 (by decide), fun i => f 164 i (by decide)⟩, f 162 27 (by decide), f 162 48 (by decide), fun i _ _ => f 163 i (by decide), fun i => f 173 i (by decide), fun i => f 189 i (by decide), fun i => f 190 i (by decide), fun i => f 191 i (by decide)⟩ h.2.1, ?_, ?_⟩
  · rw [f 162 48 (by decide)]; exact h.2.2.1
  · rw [f 162 48 (by decide)]; exact h.2.2.2
theorem fin0 {n : Int} {M x r : Mem} (h : Inv n M) (g : Gc 0 M x) (o : RO n x (x.1 162 10) r) : Inv (n + 1) r := by
  refine ⟨o.1, ?_⟩
  rw [o.2.1 1 1 (by decide), o.2.2, g 1 1 (.inr ⟨rfl, rfl, rfl⟩), g 162 10 (.inl (by decide))]
  exact h.2
theorem fin1 {n : Int} {x r : Mem} (z : (x.1 1 1).toInt = 0) (o : RO n x 0 r) : Inv (n + 1) r := by
  refine ⟨o.1, ?_⟩
  rw [o.2.1 1 1 (by decide), o.2.2]
  exact Int32.toInt_inj.mp (z.trans rfl)

theorem mr_cell {n : Int} {M : Mem} (h : RI n M) (v1 : Int32) (v2 : Int32) : ∃ r, f_Mod_cell v1 v2 M = some r ∧ RO n M (M.1 162 10) r.2 := by
  obtain ⟨r, e, q⟩ := sf_Mod_cell v1 v2 M h.1
  exact ⟨r, e, RO_Gd h q.1 q.2⟩
theorem mr_person {n : Int} {M : Mem} (h : RI n M) (v1 : Int32) (v2 : Int32) : ∃ r, f_Mod_person v1 v2 M = some r ∧ RO n M (M.1 162 10) r.2 := by
  obtain ⟨r, e, q⟩ := sf_Mod_person v1 v2 M h.1
  exact ⟨r, e, RO_Gd h q.1 q.2⟩
theorem mr_met {n : Int} {M : Mem} (h : RI n M) (v1 : Int32) (v2 : Int32) : ∃ r, f_Mod_met v1 v2 M = some r ∧ RO n M (M.1 162 10) r.2 := by
  obtain ⟨r, e, q⟩ := sf_Mod_met v1 v2 M h.1
  exact ⟨r, e, RO_Gd h q.1 q.2⟩
theorem mr_ahead {n : Int} {M : Mem} (h : RI n M) (v1 : Int32) : ∃ r, f_Mod_ahead v1 M = some r ∧ RO n M (M.1 162 10) r.2 := by
  obtain ⟨r, e, q⟩ := sf_Mod_ahead v1 M h.1
  exact ⟨r, e, RO_Gd h q.1 q.2⟩
theorem mr_meet {n : Int} {M : Mem} (h : RI n M) (v1 : Int32) (v2 : Int32) : ∃ r, f_Mod_meet v1 v2 M = some r ∧ RO n M (M.1 162 10) r.2 := by
  obtain ⟨r, e, q⟩ := sf_Mod_meet v1 v2 M h.1
  exact ⟨r, e, RO_Gd h q.1 q.2.1⟩
theorem mr_known {n : Int} {M : Mem} (h : RI n M) : ∃ r, f_Mod_known M = some r ∧ RO n M (M.1 162 10) r.2 := by
  obtain ⟨r, e, q⟩ := sf_Mod_known M h.1
  exact ⟨r, e, RO_Gd h q.1 q.2.1⟩
theorem mr_gossip {n : Int} {M : Mem} (h : RI n M) (v1 : Int32) : ∃ r, f_Mod_gossip v1 M = some r ∧ RO n M (M.1 162 10) r.2 := by
  obtain ⟨r, e, q⟩ := sf_Mod_gossip v1 M h.1
  exact ⟨r, e, RO_Gd h q.1 q.2.1⟩
theorem mr_pieces {n : Int} {M : Mem} (h : RI n M) (v1 : Int32) : ∃ r, f_Mod_pieces v1 M = some r ∧ RO n M (M.1 162 10) r.2 := by
  obtain ⟨r, e, q⟩ := sf_Mod_pieces v1 M h.1
  exact ⟨r, e, RO_Gd h q.1 q.2⟩
theorem mr_reach {n : Int} {M : Mem} (h : RI n M) (v1 : Int32) (v2 : Int32) : ∃ r, f_Mod_reach v1 v2 M = some r ∧ RO n M (M.1 162 10) r.2 := by
  obtain ⟨r, e, q⟩ := sf_Mod_reach v1 v2 M h.1
  exact ⟨r, e, RO_Gd h q.1 q.2⟩
theorem mr_both {n : Int} {M : Mem} (h : RI n M) (v1 : Int32) (v2 : Int32) (v3 : Int32) (v4 : Int32) : ∃ r, f_Mod_both v1 v2 v3 v4 M = some r ∧ RO n M (M.1 162 10) r.2 := by
  obtain ⟨r, e, q⟩ := sf_Mod_both v1 v2 v3 v4 M h.1
  exact ⟨r, e, RO_Gd h q.1 q.2⟩
theorem mr_errand {n : Int} {M : Mem} (h : RI n M) (v1 : Int32) (v2 : Int32) : ∃ r, f_Mod_errand v1 v2 M = some r ∧ RO n M (M.1 162 10) r.2 := by
  obtain ⟨r, e, q⟩ := sf_Mod_errand v1 v2 M h.1
  exact ⟨r, e, RO_Gd h q.1 q.2.1⟩
theorem mr_tryst {n : Int} {M : Mem} (h : RI n M) (v1 : Int32) (v2 : Int32) : ∃ r, f_Mod_tryst v1 v2 M = some r ∧ RO n M (M.1 162 10) r.2 := by
  obtain ⟨r, e, q⟩ := sf_Mod_tryst v1 v2 M h.1
  exact ⟨r, e, RO_Gd h q.1 q.2⟩
theorem mr_open {n : Int} {M : Mem} (h : RI n M) (v1 : Int32) (v2 : Int32) : ∃ r, f_Mod_open v1 v2 M = some r ∧ RO n M (M.1 162 10) r.2 := by
  obtain ⟨r, e, q⟩ := sf_Mod_open v1 v2 M h.1
  exact ⟨r, e, RO_Gd h q.1 q.2⟩
theorem mr_part {n : Int} {M : Mem} (h : RI n M) (v1 : Int32) (v2 : Int32) : ∃ r, f_Mod_part v1 v2 M = some r ∧ RO n M (M.1 162 10) r.2 := by
  obtain ⟨r, e, q⟩ := sf_Mod_part v1 v2 M h.1
  exact ⟨r, e, RO_Gd h q.1 q.2.1⟩
theorem mr_planks {n : Int} {M : Mem} (h : RI n M) (v1 : Int32) (v2 : Int32) : ∃ r, f_Mod_planks v1 v2 M = some r ∧ RO n M (M.1 162 10) r.2 := by
  obtain ⟨r, e, q⟩ := sf_Mod_planks v1 v2 M h.1
  exact ⟨r, e, RO_Gd h q.1 q.2⟩
theorem mr_fights {n : Int} {M : Mem} (h : RI n M) (v1 : Int32) : ∃ r, f_Mod_fights v1 M = some r ∧ RO n M (M.1 162 10) r.2 := by
  obtain ⟨r, e, q⟩ := sf_Mod_fights v1 M h.1
  exact ⟨r, e, RO_Gd h q.1 q.2⟩
theorem mr_saved {n : Int} {M : Mem} (h : RI n M) : ∃ r, f_Mod_saved M = some r ∧ RO n M (M.1 162 10) r.2 := by
  obtain ⟨r, e, q⟩ := sf_Mod_saved M h.1
  exact ⟨r, e, RO_Gd h q.1 q.2.1⟩
theorem mr_flees {n : Int} {M : Mem} (h : RI n M) (v1 : Int32) (v2 : Int32) (v3 : Int32) : ∃ r, f_Mod_flees v1 v2 v3 M = some r ∧ RO n M (M.1 162 10) r.2 := by
  obtain ⟨r, e, q⟩ := sf_Mod_flees v1 v2 v3 M h.1
  exact ⟨r, e, RO_Gd h q.1 q.2.1⟩
theorem mr_lairs {n : Int} {M : Mem} (h : RI n M) (v1 : Int32) : ∃ r, f_Mod_lairs v1 M = some r ∧ RO n M (M.1 162 10) r.2 := by
  obtain ⟨r, e, q⟩ := sf_Mod_lairs v1 M h.1
  exact ⟨r, e, RO_Gd h q.1 q.2⟩
theorem mr_caught {n : Int} {M : Mem} (h : RI n M) (v1 : Int32) (v2 : Int32) : ∃ r, f_Mod_caught v1 v2 M = some r ∧ RO n M (M.1 162 10) r.2 := by
  obtain ⟨r, e, q⟩ := sf_Mod_caught v1 v2 M h.1
  exact ⟨r, e, RO_Gd h q.1 q.2.1⟩
theorem mr_watch {n : Int} {M : Mem} (h : RI n M) (v1 : Int32) (v2 : Int32) (v3 : Int32) (v4 : Int32) : ∃ r, f_Mod_watch v1 v2 v3 v4 M = some r ∧ RO n M (M.1 162 10) r.2 := by
  obtain ⟨r, e, q⟩ := sf_Mod_watch v1 v2 v3 v4 M h.1
  exact ⟨r, e, RO_Gd h q.1 q.2.1⟩
theorem mr_count {n : Int} {M : Mem} (h : RI n M) (v1 : Int32) : ∃ r, f_Mod_count v1 M = some r ∧ RO n M (M.1 162 10) r.2 := by
  obtain ⟨r, e, q⟩ := sf_Mod_count v1 M h.1
  exact ⟨r, e, RO_Gd h q.1 q.2⟩
theorem mr_row {n : Int} {M : Mem} (h : RI n M) (v1 : Int32) : ∃ r, f_Mod_row v1 M = some r ∧ RO n M (M.1 162 10) r.2 := by
  obtain ⟨r, e, q⟩ := sf_Mod_row v1 M h.1
  exact ⟨r, e, RO_Gd h q.1 q.2⟩
theorem Gd_ne {M N : Mem} (f : ∀ k i, k ≠ 177 → k ≠ 185 → k ≠ 168 → k ≠ 162 → N.1 k i = M.1 k i) (g : ∀ i, i ≠ 13 → i ≠ 12 → N.1 162 i = M.1 162 i) : Gd 1000 M N := by
  intro k i w
  by_cases e : k = 162
  · subst e
    refine g i ?_ ?_
    · rintro rfl; rcases w with w | w
      · exact absurd w.1 (by decide)
      · exact absurd w.1 (by decide)
    · rintro rfl; rcases w with w | w
      · exact absurd w.1 (by decide)
      · exact absurd w.1 (by decide)
  · refine f k i ?_ ?_ ?_ e
    all_goals
      rintro rfl
      rcases w with w | w
      · exact absurd w.1 (by
          first | (have : pq 177 i = false := rfl; rw [this]; decide) | (have : pq 185 i = false := rfl; rw [this]; decide) | (have : pq 168 i = false := rfl; rw [this]; decide))
      · exact absurd w.1 (by decide)
theorem mr_path {n : Int} {M : Mem} (h : RI n M) (v1 v2 v3 : Int32) : ∃ r, f_Mod_path v1 v2 v3 M = some r ∧ RO n M (M.1 162 10) r.2 := by
  obtain ⟨r, e, ⟨q1, q2⟩, q3⟩ := sf_Mod_path v1 v2 v3 M h.1 h.2.1.1
  exact ⟨r, e, RO_Gd h q1 (Gd_ne (fun k i n1 _ n3 n4 => q2 k i n1 n3 n4) q3)⟩
theorem mr_wardrobe {n : Int} {M : Mem} (h : RI n M) (v1 v2 : Int32) : ∃ r, f_Mod_wardrobe v1 v2 M = some r ∧ RO n M (M.1 162 10) r.2 := by
  obtain ⟨r, e, ⟨q1, q2⟩, q3⟩ := sf_Mod_wardrobe v1 v2 M h.1
  exact ⟨r, e, RO_Gd h q1 (Gd_ne (fun k i _ n2 n3 n4 => q2 k i n2 n3 n4) q3)⟩
/-- a call of the reference that writes THE TEXT alone -/
theorem RI_text {n : Int} {M N : Mem} (h : RI n M) (j : J N) (f : ∀ k i, k ≠ 167 → ¬ (k = 162 ∧ (i = 10 ∨ i = 13)) → N.1 k i = M.1 k i) : RI (n + 1) N ∧ ∀ k i, k < 162 → N.1 k i = M.1 k i := by
  have hn := h.2.2
  refine ⟨⟨j, KK_c h.1 ⟨⟨f 162 2 (by decide) (by decide), f 162 3 (by decide) (by decide), fun i => f 164 i (by decide) (by omega)⟩, f 162 27 (by decide) (by decide), f 162 48 (by decide) (by decide), fun i _ _ => f 163 i (by decide) (by omega), fun i => f 173 i (by decide) (by omega), fun i => f 189 i (by decide) (by omega), fun i => f 190 i (by decide) (by omega), fun i => f 191 i (by decide) (by omega)⟩ h.2.1, ?_⟩, fun k i hk => f k i (by omega) (by omega)⟩
  rw [f 162 48 (by decide) (by decide)]; omega
theorem mr_sign {n : Int} {M : Mem} (h : RI n M) (v1 : Int32) : ∃ r, f_Mod_sign v1 M = some r ∧ (RI (n + 1) r.2 ∧ (∀ k i, k < 162 → r.2.1 k i = M.1 k i) ∧ (((M.1 162 10).toInt ≤ 76 ∧ (r.2.1 162 10).toInt = (M.1 162 10).toInt + 4 ∧ r.1 = r.2.1 162 10) ∨ (76 < (M.1 162 10).toInt ∧ r.2.1 162 10 = M.1 162 10 ∧ r.1 = -1))) := by
  have t := Jr_162_10 h.1
  unfold f_Mod_sign
  refine mem_i (fun M1 e1 => ?_)
  have j1 : J M1 := by rw [e1]; exact Jw_fld okf_162_13 h.1 _
  have f1 : ∀ k i, ¬ (k = 162 ∧ i = 13) → M1.1 k i = M.1 k i := fun k i w => by rw [e1, si_ne w]
  have t1 : M1.1 162 10 = M.1 162 10 := f1 162 10 (by decide)
  have ea : ((M1.1 162 10) + (4 : Int32)).toInt = (M.1 162 10).toInt + 4 := add_ti (by rw [t1]) rfl (by omega) (by omega)
  have c80 : (80 : Int32).toInt = 80 := rfl
  refine if_i (fun c => ?_) (fun c => ⟨_, rfl, (RI_text h j1 (fun k i _ w => f1 k i (by omega))).1, (RI_text h j1 (fun k i _ w => f1 k i (by omega))).2, .inr ⟨by have := nlei.mp c; omega, t1, rfl⟩⟩)
  have d := lei.mp c
  have hl : ∃ x, iter (lb_Mod_sign_20 v1) FU ((3 : Int32), M1) = some x ∧ (J x ∧ (∀ k i, k ≠ 167 → ¬ (k = 162 ∧ i = 10) → x.1 k i = M1.1 k i) ∧ (x.1 162 10).toInt = (M.1 162 10).toInt + 4) := by
    refine iter_r (fun s : Int32 × Mem => (J s.2 ∧ (∀ k i, k ≠ 167 → ¬ (k = 162 ∧ i = 10) → s.2.1 k i = M1.1 k i) ∧ (s.2.1 162 10).toInt = (M.1 162 10).toInt + 3 - s.1.toInt) ∧ -1 ≤ s.1.toInt ∧ s.1.toInt ≤ 3) (fun s : Int32 × Mem => (s.1.toInt + 1).toNat) _ ?_ FU _ ⟨⟨j1, fun _ _ _ _ => rfl, by show (M1.1 162 10).toInt = (M.1 162 10).toInt + 3 - (3 : Int); rw [t1]; omega⟩, (by show (-1 : Int) ≤ (3 : Int32).toInt; decide), (by show (3 : Int32).toInt ≤ 3; decide)⟩ (by show ((3 : Int) + 1).toNat < FU; rw [FU_v]; decide)
    rintro ⟨k, N⟩ ⟨⟨i1, i2, i3⟩, i4, i5⟩
    dsimp only at i1 i2 i3 i4 i5
    have z0 : (0 : Int32).toInt = 0 := rfl
    unfold lb_Mod_sign_20
    dsimp only
    refine if_i (fun c => ⟨_, rfl, i1, i2, by have := lti.mp c; show (N.1 162 10).toInt = _; omega⟩) (fun c => ?_)
    have dk := nlti.mp c
    have ek : (k + (-1 : Int32)).toInt = k.toInt + (-1) := add_ti rfl rfl (by omega) (by omega)
    have eb : ((N.1 162 10) + (1 : Int32)).toInt = (N.1 162 10).toInt + 1 := add_ti rfl rfl (by omega) (by omega)
    refine mem_i (fun M2 e2 => inb_i (by omega) (by omega) (mem_i (fun M3 e3 => ⟨_, rfl, ⟨⟨?_, fun a b w1 w2 => ?_, ?_⟩, ?_, ?_⟩, ?_⟩)))
    · show J M3
      rw [e3]; refine Jw_any ok_167 ?_ _ _; rw [e2]; exact Jw_162_10 i1 _ (by omega) (by omega)
    · show M3.1 a b = _
      rw [e3, si_ne (fun z => w1 z.1), e2, si_ne w2]; exact i2 a b w1 w2
    · show (M3.1 162 10).toInt = (M.1 162 10).toInt + 3 - (k + (-1 : Int32)).toInt
      rw [e3, si_ne (by intro z; exact absurd z.1 (by decide)), e2, si_eq]; omega
    · show -1 ≤ (k + (-1 : Int32)).toInt; omega
    · show (k + (-1 : Int32)).toInt ≤ 3; omega
    · show ((k + (-1 : Int32)).toInt + 1).toNat < (k.toInt + 1).toNat; omega
  refine bind_i hl (fun x5 _ q => ⟨_, rfl, ?_⟩)
  obtain ⟨q1, q2, q3⟩ := q
  have R := RI_text (N := x5) h q1 (fun k i w1 w2 => (q2 k i w1 (by omega)).trans (f1 k i (by omega)))
  exact ⟨R.1, R.2, .inl ⟨by omega, q3, rfl⟩⟩
theorem mr_end {n : Int} {M : Mem} (h : RI n M) (v1 : Int32) : ∃ r, f_Mod_end v1 M = some r ∧ (RI (n + 1) r.2 ∧ (∀ k i, k < 162 → r.2.1 k i = M.1 k i) ∧ (((0 ≤ v1.toInt ∧ v1.toInt ≤ (M.1 162 10).toInt) ∧ r.2.1 162 10 = v1 ∧ r.1 = 1) ∨ (¬ (0 ≤ v1.toInt ∧ v1.toInt ≤ (M.1 162 10).toInt) ∧ r.2.1 162 10 = M.1 162 10 ∧ r.1 = 0))) := by
  have t := Jr_162_10 h.1
  unfold f_Mod_end
  refine mem_i (fun M1 e1 => ?_)
  have j1 : J M1 := by rw [e1]; exact Jw_fld okf_162_13 h.1 _
  have f1 : ∀ k i, ¬ (k = 162 ∧ i = 13) → M1.1 k i = M.1 k i := fun k i w => by rw [e1, si_ne w]
  have t1 : M1.1 162 10 = M.1 162 10 := f1 162 10 (by decide)
  have z0 : (0 : Int32).toInt = 0 := rfl
  refine bind_i (sp_in v1 0 (M1.1 162 10)) (fun x2 _ q => ?_)
  rw [t1, z0] at q
  rcases q with ⟨rfl, q1, q2⟩ | ⟨rfl, q⟩
  · refine if_i (fun c => absurd c (by decide)) (fun _ => mem_i (fun M3 e3 => ⟨_, rfl, ?_⟩))
    have j3 : J M3 := by rw [e3]; exact Jw_162_10 j1 _ q1 (by omega)
    have R := RI_text (N := M3) h j3 (fun k i w1 w2 => by rw [e3, si_ne (fun z => w2 ⟨z.1, .inl z.2⟩)]; exact f1 k i (fun z => w2 ⟨z.1, .inr z.2⟩))
    exact ⟨R.1, R.2, .inl ⟨⟨q1, q2⟩, by show M3.1 162 10 = v1; rw [e3, si_eq], rfl⟩⟩
  · refine if_i (fun _ => ⟨_, rfl, ?_⟩) (fun c => absurd rfl c)
    have R := RI_text (N := M1) h j1 (fun k i w1 w2 => f1 k i (fun z => w2 ⟨z.1, .inr z.2⟩))
    exact ⟨R.1, R.2, .inr ⟨q, t1, rfl⟩⟩
theorem ct_sign {M : Mem} (h : J M) (v1 : Int32) : ∃ r, f_Top_sign v1 M = some r ∧ (J r.2 ∧ (∀ k i, 162 ≤ k → r.2.1 k i = M.1 k i) ∧ (((M.1 1 1).toInt ≤ 76 ∧ (r.2.1 1 1).toInt = (M.1 1 1).toInt + 4 ∧ r.1 = r.2.1 1 1) ∨ (76 < (M.1 1 1).toInt ∧ r.2.1 1 1 = M.1 1 1 ∧ r.1 = -1))) := by
  have t := Jr_1_1 h
  have c76 : (76 : Int32).toInt = 76 := rfl
  have z0 : (0 : Int32).toInt = 0 := rfl
  have c4 : (4 : Int32).toInt = 4 := rfl
  unfold f_Top_sign f_Signs_add
  by_cases c1 : (M.1 1 1) < 0
  · have := lti.mp c1; omega
  rw [if_neg c1]
  by_cases c2 : (M.1 1 1) ≤ (76 : Int32)
  · rw [if_pos c2]
    have d := lei.mp c2
    have hl : ∃ x, iter (lb_Signs_add_20 v1) FU ((0 : Int32), M) = some x ∧ (J x ∧ (∀ k i, 162 ≤ k → x.1 k i = M.1 k i) ∧ (x.1 1 1).toInt = (M.1 1 1).toInt + 4) := by
      refine cnt_r _ (fun c N => J N ∧ (∀ k i, 162 ≤ k → N.1 k i = M.1 k i) ∧ (N.1 1 1).toInt = (M.1 1 1).toInt + c) 4 (by decide) ?_ M ⟨h, fun _ _ _ => rfl, by omega⟩ (by decide)
      intro k N k0 k1 hI
      obtain ⟨i1, i2, i3⟩ := hI
      unfold lb_Signs_add_20
      dsimp only
      refine if_i (fun c => ⟨_, rfl, .inl ⟨_, rfl, i1, i2, by have := lei.mp c; omega⟩⟩) (fun c => ?_)
      have dk := nlei.mp c
      refine inb_i (by omega) (by omega) (mem_i (fun M1 e1 => mem_i (fun M2 e2 => ⟨_, rfl, .inr ⟨by omega, M2, rfl, ?_, fun a b w => ?_, ?_⟩⟩)))
      · have a1 : M1.1 1 1 = N.1 1 1 := by rw [e1, si_ne (by intro z; exact absurd z.1 (by decide))]
        have eb : ((M1.1 1 1) + (1 : Int32)).toInt = (N.1 1 1).toInt + 1 := add_ti (by rw [a1]) rfl (by omega) (by omega)
        have r := and_rng (a := (v1 >>> (((24 : Int32) - ((8 : Int32) * k)) &&& 31))) (c := 255) (by decide)
        have r2 : (255 : Int32).toInt = 255 := rfl
        rw [e2]; refine Jw_1_1 ?_ _ (by omega) (by omega)
        rw [e1]; exact Jw_2 i1 _ _ r.1 (by omega)
      · rw [e2, si_ne (fun z => by omega), e1, si_ne (fun z => by omega)]; exact i2 a b w
      · have a1 : M1.1 1 1 = N.1 1 1 := by rw [e1, si_ne (by intro z; exact absurd z.1 (by decide))]
        have eb : ((M1.1 1 1) + (1 : Int32)).toInt = (N.1 1 1).toInt + 1 := add_ti (by rw [a1]) rfl (by omega) (by omega)
        rw [e2, si_eq]; omega
    obtain ⟨x, ex, q1, q2, q3⟩ := hl
    rw [ex, Option.bind_some, Option.bind_some]
    refine ⟨_, rfl, ?_⟩
    exact ⟨q1, q2, .inl ⟨by omega, q3, rfl⟩⟩
  · rw [if_neg c2, Option.bind_some]
    have d := nlei.mp c2
    exact ⟨_, rfl, h, fun _ _ _ => rfl, .inr ⟨by omega, rfl, rfl⟩⟩
theorem ct_end {M : Mem} (h : J M) (v1 : Int32) : ∃ r, f_Top_end v1 M = some r ∧ (J r.2 ∧ (∀ k i, 162 ≤ k → r.2.1 k i = M.1 k i) ∧ (((0 ≤ v1.toInt ∧ v1.toInt ≤ (M.1 1 1).toInt) ∧ r.2.1 1 1 = v1 ∧ r.1 = 1) ∨ (¬ (0 ≤ v1.toInt ∧ v1.toInt ≤ (M.1 1 1).toInt) ∧ r.2.1 1 1 = M.1 1 1 ∧ r.1 = 0))) := by
  have t := Jr_1_1 h
  have z0 : (0 : Int32).toInt = 0 := rfl
  unfold f_Top_end
  refine if_i (fun c => ⟨_, rfl, h, fun _ _ _ => rfl, .inr ⟨by have := lti.mp c; omega, rfl, rfl⟩⟩) (fun c => ?_)
  have d := nlti.mp c
  refine if_i (fun c2 => mem_i (fun M1 e1 => ⟨_, rfl, ?_⟩)) (fun c2 => ⟨_, rfl, h, fun _ _ _ => rfl, .inr ⟨by have := nlei.mp c2; omega, rfl, rfl⟩⟩)
  have d2 := lei.mp c2
  exact ⟨by show J M1; rw [e1]; exact Jw_1_1 h _ (by omega) (by omega), fun k i hk => by show M1.1 k i = _; rw [e1, si_ne (fun z => by omega)], .inl ⟨⟨by omega, d2⟩, by show M1.1 1 1 = v1; rw [e1, si_eq], rfl⟩⟩
theorem RI_ge {n : Int} {M N : Mem} (h : RI n M) (j : J N) (f : ∀ k i, 162 ≤ k → N.1 k i = M.1 k i) : RI n N := RI_Gc (v := 1) h j (fun k i w => f k i (by omega))
/-- sign: both answer alike -/
theorem two_sign {n : Int} {M : Mem} (h : Inv n M) (v : Int32) : ∃ x, f_Top_sign v M = some x ∧ ∃ r, f_Mod_sign v x.2 = some r ∧ x.1 = r.1 ∧ Inv (n + 1) r.2 := by
  obtain ⟨x, ex, a1, a2, a3⟩ := ct_sign h.1.1 v
  obtain ⟨r, er, b1, b2, b3⟩ := mr_sign (RI_ge h.1 a1 a2) v
  have e10 : x.2.1 162 10 = M.1 162 10 := a2 162 10 (by decide)
  have e11 := h.2
  rw [e10, ← e11] at b3
  refine ⟨x, ex, r, er, ?_⟩
  have k := b2 1 1 (by decide)
  rcases a3 with ⟨c1, c2, c3⟩ | ⟨c1, c2, c3⟩ <;> rcases b3 with ⟨d1, d2, d3⟩ | ⟨d1, d2, d3⟩
  · have e : x.2.1 1 1 = r.2.1 162 10 := Int32.toInt_inj.mp (by omega)
    exact ⟨by rw [c3, d3, e], b1, by rw [k, e]⟩
  · omega
  · omega
  · exact ⟨by rw [c3, d3], b1, by rw [k, c2, d2]⟩
theorem two_end {n : Int} {M : Mem} (h : Inv n M) (v : Int32) : ∃ x, f_Top_end v M = some x ∧ ∃ r, f_Mod_end v x.2 = some r ∧ x.1 = r.1 ∧ Inv (n + 1) r.2 := by
  obtain ⟨x, ex, a1, a2, a3⟩ := ct_end h.1.1 v
  obtain ⟨r, er, b1, b2, b3⟩ := mr_end (RI_ge h.1 a1 a2) v
  have e10 : x.2.1 162 10 = M.1 162 10 := a2 162 10 (by decide)
  have e11 := h.2
  rw [e10, ← e11] at b3
  refine ⟨x, ex, r, er, ?_⟩
  have k := b2 1 1 (by decide)
  rcases a3 with ⟨c1, c2, c3⟩ | ⟨c1, c2, c3⟩ <;> rcases b3 with ⟨d1, d2, d3⟩ | ⟨d1, d2, d3⟩
  · exact ⟨by rw [c3, d3], b1, by rw [k, c2, d2]⟩
  · exact absurd c1 d1
  · exact absurd d1 c1
  · exact ⟨by rw [c3, d3], b1, by rw [k, c2, d2]⟩
