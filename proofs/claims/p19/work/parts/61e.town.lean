/-! the reference becomes a town -/
def ra (A : Mem) (p : Nat) : Int := if (p : Int) < (A.1 162 10).toInt then (A.1 167 p).toInt % 256 else -1
theorem bec_r (A : Mem) (v1 v2 : Int32) {x} (e : iter (lb_Mod_town_225 v1 v2) FU ((0 : Int32), A) = some x) : ∀ i : Nat, i < 36 → x.1 164 i = if (i : Int) < (v1 * v2).toInt then A.1 169 i else 0 := by
  refine it_r (I := fun s : Int32 × Mem => (∀ i, s.2.1 169 i = A.1 169 i) ∧ ∃ p : Nat, s.1.toInt = (p : Int) ∧ p ≤ 36 ∧ ∀ i : Nat, i < p → s.2.1 164 i = if (i : Int) < (v1 * v2).toInt then A.1 169 i else 0) (Q := fun x => ∀ i : Nat, i < 36 → x.1 164 i = if (i : Int) < (v1 * v2).toInt then A.1 169 i else 0) ?_ e ⟨fun _ => rfl, 0, rfl, by omega, fun i hi => absurd hi (by omega)⟩
  rintro ⟨k, N⟩ r ⟨h9, p, hp, lp, hk⟩ e
  unfold lb_Mod_town_225 at e
  dsimp only at e hp hk h9
  have z36 : (36 : Int32).toInt = 36 := rfl
  have z1 : (1 : Int32).toInt = 1 := rfl
  rcases io e with ⟨c, e⟩ | ⟨c, e⟩
  · have := q_le c
    obtain rfl := Option.some.inj e
    exact fun i hi => hk i (by omega)
  have c1 := q_ng c
  have hp1 : (k + (1 : Int32)).toInt = ((p + 1 : Nat) : Int) := add_ti hp o1 (by omega) (by omega)
  rcases io e with ⟨c, e⟩ | ⟨c, e⟩
  · have c2 := q_le c
    obtain ⟨_, e⟩ := io_n e
    obtain ⟨M3, e3, e⟩ := mo e
    obtain rfl := Option.some.inj e
    refine ⟨fun i => ?_, p + 1, hp1, by omega, fun i hi => ?_⟩
    · dsimp only; rw [e3, si_ne (by omega)]; exact h9 i
    dsimp only
    rw [e3, q_nat hp]
    rcases Nat.lt_or_ge i p with g | g
    · rw [si_ne (by omega)]; exact hk i g
    · have : i = p := by omega
      subst this
      rw [si_eq, if_neg (by omega)]
  · have c2 := q_ng c
    obtain ⟨_, e⟩ := io_n e
    obtain ⟨_, e⟩ := io_n e
    obtain ⟨M3, e3, e⟩ := mo e
    obtain rfl := Option.some.inj e
    refine ⟨fun i => ?_, p + 1, hp1, by omega, fun i hi => ?_⟩
    · dsimp only; rw [e3, si_ne (by omega)]; exact h9 i
    dsimp only
    rw [e3, q_nat hp]
    rcases Nat.lt_or_ge i p with g | g
    · rw [si_ne (by omega)]; exact hk i g
    · have : i = p := by omega
      subst this
      rw [si_eq, if_pos (by omega), h9]
theorem z96_r (A : Mem) (v1 v2 : Int32) {x} (e : iter (lb_Mod_town_282 v1 v2) FU ((0 : Int32), A) = some x) : ∀ i : Nat, i < 96 → x.1 163 i = 0 := by
  refine it_r (I := fun s : Int32 × Mem => ∃ p : Nat, s.1.toInt = (p : Int) ∧ p ≤ 96 ∧ ∀ i : Nat, i < p → s.2.1 163 i = 0) (Q := fun x => ∀ i : Nat, i < 96 → x.1 163 i = 0) ?_ e ⟨0, rfl, by omega, fun i hi => absurd hi (by omega)⟩
  rintro ⟨k, N⟩ r ⟨p, hp, lp, hk⟩ e
  unfold lb_Mod_town_282 at e
  dsimp only at e hp hk
  have z36 : (96 : Int32).toInt = 96 := rfl
  rcases io e with ⟨c, e⟩ | ⟨c, e⟩
  · have := q_le c
    obtain rfl := Option.some.inj e
    exact fun i hi => hk i (by omega)
  have c1 := q_ng c
  obtain ⟨_, e⟩ := io_n e
  obtain ⟨M3, e3, e⟩ := mo e
  obtain rfl := Option.some.inj e
  refine ⟨p + 1, add_ti hp o1 (by omega) (by omega), by omega, fun i hi => ?_⟩
  dsimp only
  rw [e3, q_nat hp]
  rcases Nat.lt_or_ge i p with g | g
  · rw [si_ne (by omega)]; exact hk i g
  · have : i = p := by omega
    subst this
    rw [si_eq]
theorem z2_r (A : Mem) (v1 v2 : Int32) {x} (e : iter (lb_Mod_town_311 v1 v2) FU ((0 : Int32), A) = some x) : ∀ i : Nat, i < 2 → x.1 190 i = 0 := by
  refine it_r (I := fun s : Int32 × Mem => ∃ p : Nat, s.1.toInt = (p : Int) ∧ p ≤ 2 ∧ ∀ i : Nat, i < p → s.2.1 190 i = 0) (Q := fun x => ∀ i : Nat, i < 2 → x.1 190 i = 0) ?_ e ⟨0, rfl, by omega, fun i hi => absurd hi (by omega)⟩
  rintro ⟨k, N⟩ r ⟨p, hp, lp, hk⟩ e
  unfold lb_Mod_town_311 at e
  dsimp only at e hp hk
  have z36 : (2 : Int32).toInt = 2 := rfl
  rcases io e with ⟨c, e⟩ | ⟨c, e⟩
  · have := q_le c
    obtain rfl := Option.some.inj e
    exact fun i hi => hk i (by omega)
  have c1 := q_ng c
  obtain ⟨_, e⟩ := io_n e
  obtain ⟨M3, e3, e⟩ := mo e
  obtain rfl := Option.some.inj e
  refine ⟨p + 1, add_ti hp o1 (by omega) (by omega), by omega, fun i hi => ?_⟩
  dsimp only
  rw [e3, q_nat hp, narb0]
  rcases Nat.lt_or_ge i p with g | g
  · rw [si_ne (by omega)]; exact hk i g
  · have : i = p := by omega
    subst this
    rw [si_eq]
/-- a town that was read: W wide, Y + 1 lines, kinds f -/
def RT2 (A : Mem) (x : Int32 × Mem) : Prop :=
  (∃ p : Nat, tup (ra A) p ∧ ¬ tok (ra A p) (trun (ra A) p) ∧ x.1.toInt = -1 - (p : Int) ∧ ∀ k i, k < 193 → k ≠ 169 → ¬ (k = 162 ∧ (i = 10 ∨ i = 13 ∨ i = 15 ∨ i = 16 ∨ i = 17 ∨ i = 18)) → x.2.1 k i = A.1 k i) ∨
  (∃ p W Y : Nat, tup (ra A) p ∧ tok (ra A p) (trun (ra A) p) ∧ ra A p = -1 ∧ Y < 6 ∧ 0 < W ∧ W ≤ 6 ∧ (trun (ra A) p).1 = W * Y + W ∧ (trun (ra A) p).2.1 = W ∧ x.1.toInt = ((W * Y + W : Nat) : Int) ∧ (x.2.1 162 2).toInt = (W : Int) ∧ (x.2.1 162 3).toInt = ((Y + 1 : Nat) : Int) ∧ (∃ f, tkd (ra A) f p ∧ ∀ i : Nat, i < 36 → x.2.1 164 i = if i < (trun (ra A) p).1 then f i else 0) ∧ (x.2.1 162 8).toInt = -1 ∧ x.2.1 162 4 = 0 ∧ x.2.1 162 5 = 0 ∧ (∀ i : Nat, i < 96 → x.2.1 163 i = 0) ∧ x.2.1 162 27 = 0 ∧ (∀ i : Nat, i < 2 → x.2.1 190 i = 0))
theorem tb2 (n m : Nat) : Nat.testBit (2 ^ n) m = decide (n = m) := Nat.testBit_two_pow
theorem mRt_k {k i : Nat} (h0 : k < 193) (h1 : k ≠ 169) (h2 : ¬ (k = 162 ∧ (i = 17 ∨ i = 18))) : Nat.testBit mRt (sl k i) = false := by
  have e : mRt = 2 ^ 169 ||| (2 ^ 217 ||| 2 ^ 218) := by decide +kernel
  have s : ¬ 169 = sl k i ∧ ¬ 217 = sl k i ∧ ¬ 218 = sl k i := by
    unfold sl
    repeat' split
    all_goals omega
  rw [e, Nat.testBit_or, Nat.testBit_or, tb2, tb2, tb2, decide_eq_false s.1, decide_eq_false s.2.1, decide_eq_false s.2.2]
  rfl
theorem end_r {A B N : Mem} (hB : RB B) (hAB : ra A = rt B) (hf : ∀ k i, k ≠ 169 → ¬ (k = 162 ∧ (i = 10 ∨ i = 13 ∨ i = 15 ∨ i = 16 ∨ i = 17 ∨ i = 18)) → B.1 k i = A.1 k i) {v1 v2 : Int32} (fx : Fx mRt [] B N) (h : Bad (rt B) N ∨ (RE B v1 v2 N ∧ ∀ p : Nat, (N.1 162 17).toInt = (p : Int) → rt B p = -1)) {x} (e : j_Mod_town_198 v1 v2 N = some x) : RT2 A x := by
  unfold j_Mod_town_198 at e
  obtain ⟨x30, e30, e⟩ := bo e
  unfold RT2
  rw [hAB]
  rcases h with bad | ⟨⟨hw, p, W, Y, hp, up, kk, hv1, hv2, y6, w0, w6, hr, hk, n47⟩, hend⟩
  · rcases fine_i e30 with ⟨a, _⟩ | ⟨_, b⟩
    · rw [a, if_pos rfl] at e
      obtain rfl := Option.some.inj e
      obtain ⟨p, hp, up, nt⟩ := bad
      have lp := rt_len up hB
      exact .inl ⟨p, up, nt, sub_ti om hp (by omega) (by omega), fun k i h0 h1 h2 => by
        dsimp only
        rw [(fx k i (mRt_k h0 h1 (by omega)) (by simp)).1]; exact hf k i h1 h2⟩
    · exact absurd b (Bad_w bad)
  rcases fine_i e30 with ⟨_, b⟩ | ⟨a, _⟩
  · exact absurd hw b
  rw [a, if_neg (by decide)] at e
  have hend := hend p hp
  obtain ⟨M31, e31, e⟩ := mo e
  obtain ⟨M32, e32, e⟩ := mo e
  obtain ⟨x37, e37, e⟩ := bo e
  obtain ⟨M38, e38, e⟩ := mo e
  obtain ⟨M39, e39, e⟩ := mo e
  obtain ⟨M40, e40, e⟩ := mo e
  obtain ⟨x43, e43, e⟩ := bo e
  obtain ⟨M44, e44, e⟩ := mo e
  obtain ⟨x47, e47, e⟩ := bo e
  obtain rfl := Option.some.inj e
  have wy : W * Y ≤ 6 * 5 := Nat.mul_le_mul w6 (by omega)
  have pr : (W : Int) * ((Y + 1 : Nat) : Int) = ((W * Y + W : Nat) : Int) := by push_cast; rw [Int.mul_add]; omega
  have m1 : (v1 * v2).toInt = ((W * Y + W : Nat) : Int) := by
    have := mul_ti hv1 hv2 (by rw [pr]; omega) (by rw [pr]; omega)
    rw [this, pr]
  have t1 : (trun (rt B) p).1 = W * Y + W := by rw [hr]
  have f37 := it_r (I := fun s : Int32 × Mem => Fx (2 ^ 164) [] M32 s.2) (Q := fun r : Mem => Fx (2 ^ 164) [] M32 r) (fun s r hs er => wl_Mod_town_225 v1 v2 s (by decide +kernel) hs er) e37 Fx_r
  have f43 := it_r (I := fun s : Int32 × Mem => Fx (2 ^ 163) [] M40 s.2) (Q := fun r : Mem => Fx (2 ^ 163) [] M40 r) (fun s r hs er => wl_Mod_town_282 v1 v2 s (by decide +kernel) hs er) e43 Fx_r
  have f47 := it_r (I := fun s : Int32 × Mem => Fx (2 ^ 190) [] M44 s.2) (Q := fun r : Mem => Fx (2 ^ 190) [] M44 r) (fun s r hs er => wl_Mod_town_311 v1 v2 s (by decide +kernel) hs er) e47 Fx_r
  have g : ∀ i, i ≠ 4 → i ≠ 5 → i ≠ 8 → i ≠ 27 → i < 60 → x47.1 162 i = M32.1 162 i := by
    intro i h4 h5 h8 h27 h60
    have b : ∀ n, Nat.testBit (2 ^ 164) (200 + n) = false ∧ Nat.testBit (2 ^ 163) (200 + n) = false ∧ Nat.testBit (2 ^ 190) (200 + n) = false := fun n => by rw [tb2, tb2, tb2]; exact ⟨decide_eq_false (by omega), decide_eq_false (by omega), decide_eq_false (by omega)⟩
    rw [(f47 162 i (b i).2.2 (by simp)).1, e44, si_ne (by omega), (f43 162 i (b i).2.1 (by simp)).1, e40, si_ne (by omega), e39, si_ne (by omega), e38, si_ne (by omega), (f37 162 i (b i).1 (by simp)).1]
  refine .inr ⟨p, W, Y, up, ⟨by rw [hr]; exact y6, fun _ => ?_, fun h => absurd (.inr hend) h⟩, hend, y6, w0, w6, t1, by rw [hr], m1, ?_, ?_, ⟨N.1 169, kk, fun i hi => ?_⟩, ?_, ?_, ?_, fun i hi => ?_, ?_, z2_r M44 v1 v2 e47⟩
  · rw [hr]; dsimp only; split <;> omega
  · show (x47.1 162 2).toInt = _
    rw [g 2 (by omega) (by omega) (by omega) (by omega) (by omega), e32, si_ne (by omega), e31, si_eq]; exact hv1
  · show (x47.1 162 3).toInt = _
    rw [g 3 (by omega) (by omega) (by omega) (by omega) (by omega), e32, si_eq]; exact hv2
  · show x47.1 164 i = _
    rw [(f47 164 i (by rw [show sl 164 i = 164 from rfl]; decide +kernel) (by simp)).1, e44, si_ne (by omega), (f43 164 i (by rw [show sl 164 i = 164 from rfl]; decide +kernel) (by simp)).1, e40, si_ne (by omega), e39, si_ne (by omega), e38, si_ne (by omega), bec_r M32 v1 v2 e37 i hi, e32, si_ne (by omega), e31, si_ne (by omega), m1, t1]
    by_cases c : i < W * Y + W
    · rw [if_pos c, if_pos (by omega)]
    · rw [if_neg c, if_neg (by omega)]
  · show (x47.1 162 8).toInt = _
    rw [(f47 162 8 (by decide +kernel) (by simp)).1, e44, si_ne (by omega), (f43 162 8 (by decide +kernel) (by simp)).1, e40, si_eq]; rfl
  · show x47.1 162 4 = _
    rw [(f47 162 4 (by decide +kernel) (by simp)).1, e44, si_ne (by omega), (f43 162 4 (by decide +kernel) (by simp)).1, e40, si_ne (by omega), e39, si_ne (by omega), e38, si_eq]
  · show x47.1 162 5 = _
    rw [(f47 162 5 (by decide +kernel) (by simp)).1, e44, si_ne (by omega), (f43 162 5 (by decide +kernel) (by simp)).1, e40, si_ne (by omega), e39, si_eq]
  · show x47.1 163 i = _
    rw [(f47 163 i (by rw [show sl 163 i = 163 from rfl]; decide +kernel) (by simp)).1, e44, si_ne (by omega)]
    exact z96_r M40 v1 v2 e43 i hi
  · show x47.1 162 27 = _
    rw [(f47 162 27 (by decide +kernel) (by simp)).1, e44, si_eq]
theorem town_r {A : Mem} (hl : (A.1 162 10).toInt ≤ 80) (hb : ∀ p : Nat, (p : Int) < (A.1 162 10).toInt → -128 ≤ (A.1 167 p).toInt ∧ (A.1 167 p).toInt ≤ 127) {x} (e : f_Mod_town A = some x) : RT2 A x := by
  unfold f_Mod_town at e
  obtain ⟨M1, e1, ea⟩ := mo e
  obtain ⟨x2, e2, eb⟩ := bo ea
  obtain ⟨M3, e3, ec⟩ := mo eb
  obtain ⟨x29, e29, ed⟩ := bo ec
  unfold f_Mod_begin at e2
  obtain ⟨_, e2⟩ := io_n e2
  obtain ⟨N1, n1, e2⟩ := mo e2
  obtain ⟨N2, n2, e2⟩ := mo e2
  obtain ⟨N3, n3, e2⟩ := mo e2
  obtain ⟨N4, n4, e2⟩ := mo e2
  obtain ⟨N5, n5, e2⟩ := mo e2
  have e2 := Option.some.inj e2
  subst e2
  have q1 : N1.1 = M1.1 := by rw [n1]; rfl
  have hf : ∀ k i, k ≠ 169 → ¬ (k = 162 ∧ (i = 10 ∨ i = 13 ∨ i = 15 ∨ i = 16 ∨ i = 17 ∨ i = 18)) → M3.1 k i = A.1 k i := by
    intro k i _ h
    rw [e3, si_ne (by omega), n5, si_ne (by omega), n4, si_ne (by omega), n3, si_ne (by omega), n2, si_ne (by omega), q1, e1, si_ne (by omega)]
  have b15 : M3.1 162 15 = A.1 162 10 := by
    rw [e3, si_ne (by omega), n5, si_ne (by omega), n4, si_ne (by omega), n3, si_ne (by omega), n2, si_eq, e1, si_ne (by omega)]
  have b16 : (M3.1 162 16).toInt = 80 := by
    rw [e3, si_ne (by omega), n5, si_ne (by omega), n4, si_ne (by omega), n3, si_eq]; rfl
  have b17 : (M3.1 162 17).toInt = 0 := by
    rw [e3, si_ne (by omega), n5, si_ne (by omega), n4, si_eq]; rfl
  have b18 : (M3.1 162 18).toInt = -1 := by
    rw [e3, si_ne (by omega), n5, si_eq]; rfl
  have b14 : M3.2.2 162 14 = some 167 := by
    rw [e3]; show N5.2.2 162 14 = _
    rw [n5]; show N4.2.2 162 14 = _
    rw [n4]; show N3.2.2 162 14 = _
    rw [n3]; show N2.2.2 162 14 = _
    rw [n2]; show N1.2.2 162 14 = _
    rw [n1]; simp [s_q]
  have h167 : ∀ i, M3.1 167 i = A.1 167 i := fun i => hf 167 i (by omega) (by omega)
  have hB : RB M3 := ⟨b14, by rw [b15]; exact hl, b16, fun p hp => by rw [h167]; exact hb p (by rw [← b15]; exact hp)⟩
  have hAB : ra A = rt M3 := by
    funext p
    unfold ra rt
    rw [b15, h167]
  obtain ⟨fx, hz⟩ := rd_r30 hB b17 b18 e29
  unfold j_Mod_town_179 at ed
  have c15 : x29.2.2.1 162 15 = M3.1 162 15 := (fx 162 15 (by decide +kernel) (by simp)).1
  rcases io ed with ⟨c, e⟩ | ⟨c, e⟩
  · refine end_r hB hAB hf fx ?_ e
    rcases hz with h | h
    · exact .inl h
    · refine .inr ⟨h, fun p hp => ?_⟩
      have := q_le c
      rw [c15] at this
      unfold rt
      rw [if_neg (by omega)]
  · obtain ⟨x49, e49, e⟩ := bo e
    have c1 := q_ng c
    rw [c15] at c1
    refine end_r hB hAB hf (wf_Mod_fault _ _ (by decide +kernel) fx e49) (.inl ?_) e
    rcases hz with h | ⟨hw, p, W, Y, hp, up, kk, hv1, hv2, y6, w0, w6, hr, hk, n47⟩
    · exact Bad_fault e49 h
    · refine Bad_new hp e49 hw up (fun ok => ?_)
      have r0 : 0 ≤ rt M3 p := by
        unfold rt
        rw [if_pos (by omega)]
        omega
      exact (ok.2.2 (by omega)).1 hk
