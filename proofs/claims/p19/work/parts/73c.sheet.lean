/-! the sheet -/
theorem ZA_cs {X R x r : Mem} {n : Nat} (za : ZA X R n) (cs : CS X R n x r) : ZA x r n := by
  obtain ⟨⟨n8, _⟩, zh, zk⟩ := za
  obtain ⟨zq, ⟨⟨f1, f2, f3⟩, f4, f5⟩, ⟨r1, r2, r3, r4, r5, r6⟩, agr⟩ := cs
  exact ⟨zq, ZH_a n8 f2 (fun kx i a b => f1 kx i (by omega)) f4 agr r1 r3 zh, ZK_a n8 f3 (fun kx i a b => f1 kx i (by omega)) f5 agr r2 r4 r5 r6 zk⟩
def nar (v1 w : Int32) : Int32 := if v1 = 0 then w.toInt8.toInt32 else if v1 = 1 then w.toInt16.toInt32 else w
def clm (len w : Int32) : Int32 := if (0 : Int32) < (if (len - (1 : Int32)) < w then (len - (1 : Int32)) else w) then (if (len - (1 : Int32)) < w then (len - (1 : Int32)) else w) else (0 : Int32)
def sw (g : Nat → Int32) (n : Nat) (v1 v2 v3 v4 : Int32) (p : Nat) : Int32 := if v1 = 3 then 0 else if v2 ≤ Int32.ofInt (p : Int) then 0 else if n ≤ p then 0 else clm (g p) (nar v1 (v3 + Int32.ofInt (p : Int) * v4))
def smm (f : Nat → Int32) : Nat → Int32
  | 0 => 0
  | p + 1 => smm f p + f p
theorem smm_n {f : Nat → Int32} {n : Nat} (h : ∀ p, n ≤ p → f p = 0) (k : Nat) : smm f (n + k) = smm f n := by
  induction k with
  | zero => rfl
  | succ k ih =>
    show smm f (n + k) + f (n + k) = _
    rw [ih, h _ (by omega), Int32.add_zero]
theorem min_c (a b : Int32) : (if a < b then a else b) = (if b < a then b else a) := by
  by_cases g : a < b
  · have := q_lt g
    rw [if_pos g, if_neg (fun h => by have := q_lt h; omega)]
  · have g1 := q_nl g
    rw [if_neg g]
    by_cases k : b < a
    · rw [if_pos k]
    · have := q_nl k
      rw [if_neg k]
      exact Int32.toInt_inj.mp (by omega)
theorem clm_b {len w : Int32} (h1 : 1 ≤ len.toInt) : 0 ≤ (clm len w).toInt ∧ (clm len w).toInt < len.toInt := by
  have z0 := o0
  have hi := i32hi len
  have l1 : (len - (1 : Int32)).toInt = len.toInt - 1 := sub_ti rfl o1 (by omega) (by omega)
  unfold clm
  by_cases g : len - (1 : Int32) < w
  · rw [if_pos g]
    by_cases k : (0 : Int32) < len - (1 : Int32)
    · have := q_lt k
      rw [if_pos k]; omega
    · rw [if_neg k]; omega
  · have g1 := q_nl g
    rw [if_neg g]
    by_cases k : (0 : Int32) < w
    · have := q_lt k
      rw [if_pos k]; omega
    · rw [if_neg k]; omega
theorem of_s {s : Int32} {p : Nat} (h : s.toInt = (p : Int)) : Int32.ofInt (p : Int) = s := by rw [← h, Int32.ofInt_toInt]
theorem sheet_r {R : Mem} {n : Nat} {v1 v2 v3 v4 : Int32} {x : Int32 × Mem} (hn : (R.1 162 4).toInt = (n : Int)) (n8 : n ≤ 8) (e : iter (lb_Mod_sheet_43 v1 v2 v4) FU ((0 : Int32), v3, (0 : Int32), R) = some x) : x.1 = smm (sw (R.1 166) n v1 v2 v3 v4) n ∧ (∀ i, i < n → x.2.1 163 (8 + i) = sw (R.1 166) n v1 v2 v3 v4 i) ∧ (∀ kx i, ¬ (kx = 163 ∧ 8 ≤ i ∧ i < 8 + n) → x.2.1 kx i = R.1 kx i) := by
  have z8 : (8 : Int32).toInt = 8 := rfl
  refine it_r (I := fun s : Int32 × Int32 × Int32 × Mem => ∃ p : Nat, p ≤ n ∧ s.2.2.1.toInt = (p : Int) ∧ s.1 = smm (sw (R.1 166) n v1 v2 v3 v4) p ∧ s.2.1 = v3 + s.2.2.1 * v4 ∧ (∀ i, i < p → s.2.2.2.1 163 (8 + i) = sw (R.1 166) n v1 v2 v3 v4 i) ∧ (∀ kx i, ¬ (kx = 163 ∧ 8 ≤ i ∧ i < 8 + p) → s.2.2.2.1 kx i = R.1 kx i)) (Q := fun x : Int32 × Mem => x.1 = smm (sw (R.1 166) n v1 v2 v3 v4) n ∧ (∀ i, i < n → x.2.1 163 (8 + i) = sw (R.1 166) n v1 v2 v3 v4 i) ∧ (∀ kx i, ¬ (kx = 163 ∧ 8 ≤ i ∧ i < 8 + n) → x.2.1 kx i = R.1 kx i)) ?_ e ⟨0, by omega, rfl, rfl, by show v3 = v3 + 0 * v4; rw [Int32.zero_mul, Int32.add_zero], fun i hi => absurd hi (by omega), fun _ _ _ => rfl⟩
  rintro ⟨v5, v6, v7, N⟩ r ⟨p, lp, hp, h1, h2, h3, h4⟩ e
  unfold lb_Mod_sheet_43 at e
  dsimp only at hp h1 h2 h3 h4 e
  rw [h4 162 4 (by omega)] at e
  rcases io e with ⟨g, e⟩ | ⟨g, e⟩
  · have g1 := q_le g
    rw [hn] at g1
    obtain rfl := Option.some.inj e
    have : p = n := by omega
    subst this
    exact ⟨h1, h3, h4⟩
  have g1 := q_ng g
  rw [hn] at g1
  have pn : p < n := by omega
  have i8 : ((8 : Int32) + v7).toInt = ((8 + p : Nat) : Int) := by rw [add_ti z8 hp (by omega) (by omega)]; omega
  have nx : (v7 + (1 : Int32)).toInt = ((p + 1 : Nat) : Int) := add_ti hp o1 (by omega) (by omega)
  have e' : j_Mod_sheet_75_43 v1 v2 v4 v5 v6 v7 (nar v1 v6) N = some r := by
    unfold nar
    rcases io e with ⟨g, e⟩ | ⟨g, e⟩
    · rw [if_pos g]; exact e
    rw [if_neg g]
    rcases io e with ⟨g, e⟩ | ⟨g, e⟩
    · rw [if_pos g]; exact e
    rw [if_neg g]; exact e
  clear e
  have fin : ∀ w : Int32, w = sw (R.1 166) n v1 v2 v3 v4 p → j_Mod_sheet_119_43 v1 v2 v4 v5 v6 v7 w ((8 : Int32) + v7) N = some r → Sum.elim (fun s : Int32 × Int32 × Int32 × Mem => ∃ p : Nat, p ≤ n ∧ s.2.2.1.toInt = (p : Int) ∧ s.1 = smm (sw (R.1 166) n v1 v2 v3 v4) p ∧ s.2.1 = v3 + s.2.2.1 * v4 ∧ (∀ i, i < p → s.2.2.2.1 163 (8 + i) = sw (R.1 166) n v1 v2 v3 v4 i) ∧ (∀ kx i, ¬ (kx = 163 ∧ 8 ≤ i ∧ i < 8 + p) → s.2.2.2.1 kx i = R.1 kx i)) (fun x : Int32 × Mem => x.1 = smm (sw (R.1 166) n v1 v2 v3 v4) n ∧ (∀ i, i < n → x.2.1 163 (8 + i) = sw (R.1 166) n v1 v2 v3 v4 i) ∧ (∀ kx i, ¬ (kx = 163 ∧ 8 ≤ i ∧ i < 8 + n) → x.2.1 kx i = R.1 kx i)) r := by
    intro w hw e
    unfold j_Mod_sheet_119_43 at e
    rw [q_nat i8] at e
    obtain ⟨_, e⟩ := io_n e
    obtain ⟨K, hK, e⟩ := mo e
    obtain ⟨_, e⟩ := io_n e
    obtain rfl := Option.some.inj e
    have kw : K.1 163 (8 + p) = w := by rw [hK, si_eq]
    refine ⟨p + 1, by omega, nx, ?_, ?_, fun i hi => ?_, fun kx i hk => ?_⟩
    · show v5 + K.1 163 (8 + p) = smm _ p + _
      rw [kw, h1, hw]
    · show v6 + v4 = v3 + (v7 + 1) * v4
      rw [h2, Int32.add_mul, Int32.one_mul, Int32.add_assoc]
    · show K.1 163 (8 + i) = _
      by_cases q : i = p
      · subst q; rw [kw, hw]
      · rw [hK, si_ne (by omega)]; exact h3 i (by omega)
    · show K.1 kx i = _
      rw [hK, si_ne (by omega)]; exact h4 kx i (by omega)
  unfold j_Mod_sheet_75_43 at e'
  rcases io e' with ⟨g, e⟩ | ⟨g, e⟩
  · exact fin 0 (by unfold sw; rw [if_pos g]) e
  rcases io e with ⟨k, e⟩ | ⟨k, e⟩
  · obtain ⟨_, e⟩ := io_n e
    have k1 := q_lt k
    rw [q_nat hp, h4 166 p (by omega)] at e
    refine fin _ ?_ e
    have hs : sw (R.1 166) n v1 v2 v3 v4 p = clm (R.1 166 p) (nar v1 v6) := by
      unfold sw
      rw [if_neg g, of_s hp, if_neg (fun h => by have := q_le h; omega), if_neg (by omega), h2]
    rw [hs]
    unfold clm
    rw [min_c (nar v1 v6) ((R.1 166 p) - (1 : Int32))]
  · have k1 := q_nl k
    refine fin 0 ?_ e
    unfold sw
    rw [if_neg g, of_s hp, if_pos (Int32.le_iff_toInt_le.mpr k1)]
theorem sheet_c {X R : Mem} {n : Nat} {v1 v2 v3 v4 : Int32} {x : Int32 × Mem} (hn : (X.1 6 4).toInt = (n : Int)) (n8 : n ≤ 8) (hl : ∀ p, p < n → X.1 8 p = R.1 166 p) (e : iter (lb_Top_sheet_35 v1 v2 v3 v4) FU ((0 : Int32), (0 : Int32), X) = some x) : x.1 = smm (sw (R.1 166) n v1 v2 v3 v4) 8 ∧ (∀ i, i < 8 → x.2.1 14 i = sw (R.1 166) n v1 v2 v3 v4 i) ∧ (∀ kx i, ¬ kx = 14 → x.2.1 kx i = X.1 kx i) ∧ x.2.2 = X.2 := by
  have z8 : (8 : Int32).toInt = 8 := rfl
  refine it_r (I := fun s : Int32 × Int32 × Mem => ∃ p : Nat, p ≤ 8 ∧ s.2.1.toInt = (p : Int) ∧ s.1 = smm (sw (R.1 166) n v1 v2 v3 v4) p ∧ (∀ i, i < p → s.2.2.1 14 i = sw (R.1 166) n v1 v2 v3 v4 i) ∧ (∀ kx i, ¬ kx = 14 → s.2.2.1 kx i = X.1 kx i) ∧ s.2.2.2 = X.2) (Q := fun x : Int32 × Mem => x.1 = smm (sw (R.1 166) n v1 v2 v3 v4) 8 ∧ (∀ i, i < 8 → x.2.1 14 i = sw (R.1 166) n v1 v2 v3 v4 i) ∧ (∀ kx i, ¬ kx = 14 → x.2.1 kx i = X.1 kx i) ∧ x.2.2 = X.2) ?_ e ⟨0, by omega, rfl, rfl, fun i hi => absurd hi (by omega), fun _ _ _ => rfl, rfl⟩
  rintro ⟨v5, v6, N⟩ r ⟨p, lp, hp, h1, h3, h4, h5⟩ e
  unfold lb_Top_sheet_35 at e
  dsimp only at hp h1 h3 h4 h5 e
  rcases io e with ⟨g, e⟩ | ⟨g, e⟩
  · have g1 := q_le g
    obtain rfl := Option.some.inj e
    have : p = 8 := by omega
    subst this
    exact ⟨h1, h3, h4, h5⟩
  have g1 := q_ng g
  have p8 : p < 8 := by omega
  have nx : (v6 + (1 : Int32)).toInt = ((p + 1 : Nat) : Int) := add_ti hp o1 (by omega) (by omega)
  have fin : ∀ w : Int32, w = sw (R.1 166) n v1 v2 v3 v4 p → j_Top_sheet_78_35 v1 v2 v3 v4 v5 v6 w N = some r → Sum.elim (fun s : Int32 × Int32 × Mem => ∃ p : Nat, p ≤ 8 ∧ s.2.1.toInt = (p : Int) ∧ s.1 = smm (sw (R.1 166) n v1 v2 v3 v4) p ∧ (∀ i, i < p → s.2.2.1 14 i = sw (R.1 166) n v1 v2 v3 v4 i) ∧ (∀ kx i, ¬ kx = 14 → s.2.2.1 kx i = X.1 kx i) ∧ s.2.2.2 = X.2) (fun x : Int32 × Mem => x.1 = smm (sw (R.1 166) n v1 v2 v3 v4) 8 ∧ (∀ i, i < 8 → x.2.1 14 i = sw (R.1 166) n v1 v2 v3 v4 i) ∧ (∀ kx i, ¬ kx = 14 → x.2.1 kx i = X.1 kx i) ∧ x.2.2 = X.2) r := by
    intro w hw e
    unfold j_Top_sheet_78_35 at e
    rw [q_nat hp] at e
    obtain ⟨_, e⟩ := io_n e
    obtain ⟨K, hK, e⟩ := mo e
    obtain rfl := Option.some.inj e
    have kw : K.1 14 p = w := by rw [hK, si_eq]
    refine ⟨p + 1, by omega, nx, ?_, fun i hi => ?_, fun kx i hk => ?_, ?_⟩
    · show v5 + w = smm _ p + _
      rw [h1, hw]
    · show K.1 14 i = _
      by_cases q : i = p
      · subst q; rw [kw, hw]
      · rw [hK, si_ne (by omega)]; exact h3 i (by omega)
    · show K.1 kx i = _
      rw [hK, si_ne (by omega)]; exact h4 kx i hk
    · show K.2 = _
      rw [hK]; exact h5
  rcases io e with ⟨g, e⟩ | ⟨g, e⟩
  · exact fin 0 (by unfold sw; rw [if_pos g]) e
  rcases io e with ⟨k, e⟩ | ⟨k, e⟩
  · refine fin 0 ?_ e
    unfold sw
    rw [if_neg g, of_s hp, if_pos k]
  obtain ⟨x2, ex2, e⟩ := bo e
  obtain ⟨x3, ex3, e⟩ := bo e
  have hx2 : x2 = nar v1 (v3 + (v6 * v4)) := by
    unfold f_Top_narrow at ex2
    unfold nar
    rcases io ex2 with ⟨g, e⟩ | ⟨g, e⟩
    · rw [if_pos g]; exact (Option.some.inj e).symm
    rw [if_neg g]
    rcases io e with ⟨g, e⟩ | ⟨g, e⟩
    · rw [if_pos g]; exact (Option.some.inj e).symm
    rw [if_neg g]; exact (Option.some.inj e).symm
  refine fin x3 ?_ e
  unfold sw
  rw [if_neg g, of_s hp, if_neg k, ← hx2]
  unfold f_Crowd_within at ex3
  obtain ⟨x4, ex4, ex3⟩ := bo ex3
  rcases crowd_has (n := n) (by rw [h4 6 4 (by omega)]; exact hn) n8 ex4 with ⟨q, q1, q2⟩ | ⟨q, q1⟩
  · rw [q, if_neg (by decide)] at ex3
    obtain ⟨_, ex3⟩ := io_n ex3
    rw [q_nat hp, h4 8 p (by omega), hl p (by omega)] at ex3
    rw [if_neg (by omega)]
    exact (Option.some.inj ex3).symm
  · rw [q, if_pos rfl] at ex3
    rw [if_pos (by omega)]
    exact (Option.some.inj ex3).symm
theorem sheet_2 {X R : Mem} {n : Nat} {v1 v2 v3 v4 : Int32} {x r : Int32 × Mem} (za : ZA X R n) (jr : J r.2) (ex : f_Top_sheet v1 v2 v3 v4 X = some x) (er : f_Mod_sheet v1 v2 v3 v4 R = some r) : x.1 = r.1 ∧ ZA x.2 r.2 n := by
  have jR := za.1.2.1
  have z0 := o0
  have z3 := o3
  have z8 : (8 : Int32).toInt = 8 := rfl
  unfold f_Mod_sheet at er
  obtain ⟨M1, m1, era⟩ := mo er
  obtain ⟨y2, ey2, era⟩ := bo era
  have h2 := some_of (sp_in v1 0 3) ey2
  rw [o0, o3] at h2
  have j1 : J M1 := by rw [m1]; exact Jw_fld okf_162_13 jR _
  have zaM : ZA X M1 n := ZA_13 j1 (fun kx i h _ _ => by rw [m1, si_ne (by omega)]) za
  have no : ∀ w : Int32, some (w, X) = some x → some (w, M1) = some r → x.1 = r.1 ∧ ZA x.2 r.2 n := by
    intro w e1 e2
    rw [← Option.some.inj e1, ← Option.some.inj e2]
    exact ⟨rfl, zaM⟩
  have go : ∀ a b : Int32 × Mem, iter (lb_Top_sheet_35 v1 v2 v3 v4) FU ((0 : Int32), (0 : Int32), X) = some a → iter (lb_Mod_sheet_43 v1 v2 v4) FU ((0 : Int32), v3, (0 : Int32), M1) = some b → r.2 = b.2 → a.1 = b.1 ∧ ZA a.2 b.2 n := by
    intro a b ea eb hb
    have zaM' := zaM
    obtain ⟨⟨n8, _, zb, zs, zv, zw⟩, _, _⟩ := zaM
    have zc := zb.2.1
    obtain ⟨a1, a2, a3, a4⟩ := sheet_c (R := M1) (by rw [zc.2.1]; exact zc.1) n8 (fun p hp => (zc.2.2.2.1 p hp).1) ea
    obtain ⟨b1, b2, b3⟩ := sheet_r zc.1 n8 eb
    obtain ⟨k, hk⟩ : ∃ k, 8 = n + k := ⟨8 - n, by omega⟩
    refine ⟨?_, ZA_cs zaM' ?_⟩
    · rw [a1, b1, hk]
      exact smm_n (fun p hp => by
        unfold sw
        rw [if_pos hp]
        split
        · rfl
        · split <;> rfl) k
    have agx : AgX X a.2 := ⟨a3 3 2 (by omega), a3 3 3 (by omega), fun i => a3 4 i (by omega), a3 6 4 (by omega), a3 6 5 (by omega), fun i => a3 7 i (by omega), fun i => a3 8 i (by omega), a3 40 4 (by omega), fun i => a3 41 i (by omega), fun i => a3 35 i (by omega), fun i => by rw [a4], fun i => by rw [a4]⟩
    have agr : AgR M1 b.2 := ⟨b3 162 2 (by omega), b3 162 3 (by omega), b3 162 4 (by omega), b3 162 5 (by omega), b3 162 23 (by omega), fun i => b3 164 i (by omega), fun i => b3 165 i (by omega), fun i => b3 166 i (by omega), fun i => b3 172 i (by omega)⟩
    have sc : ∀ j i, j < 10 → j ≠ 2 → scn a.2 11 j i = scn X 11 j i := by
      intro j i h10 hj
      unfold scn
      by_cases g : j < 6
      · rw [if_pos g, if_pos g]; exact a3 _ _ (by omega)
      · rw [if_neg g, if_neg g]; exact a3 _ _ (by omega)
    have zs' : ZS (scn a.2 11) (b.2.1 163) n := by
      obtain ⟨h1, h2, h3, h4, h5, h6, h7, h8⟩ := zs
      refine ⟨fun q hq => ?_, fun q u hq hu => ?_, fun q u hq hu hh => ?_, ?_, fun j hj hl => ?_, ?_, ?_, ?_⟩
      · obtain ⟨b1', b2', b3', b4', b5', _⟩ := h1 q hq
        rw [b3 163 q (by omega), b2 q hq, sc 0 q (by omega) (by omega), sc 1 q (by omega) (by omega), show scn a.2 11 2 q = sw (M1.1 166) n v1 v2 v3 v4 q from a2 q (by omega)]
        exact ⟨b1', b2', b3', b4', b5', rfl⟩
      · rw [b3 163 _ (by omega), sc 3 _ (by omega) (by omega), sc 3 _ (by omega) (by omega)]; exact h2 q u hq hu
      · rw [sc 3 _ (by omega) (by omega)]; exact h3 q u hq hu hh
      · rw [sc 6 0 (by omega) (by omega), b3 163 92 (by omega)]; exact h4
      · rw [b3 163 92 (by omega)] at hl
        rw [sc 4 j (by omega) (by omega), sc 5 j (by omega) (by omega), b3 163 _ (by omega), b3 163 _ (by omega)]; exact h5 j hj hl
      · rw [sc 7 0 (by omega) (by omega), b3 163 95 (by omega)]; exact h6
      · rw [sc 8 0 (by omega) (by omega), b3 163 93 (by omega)]; exact h7
      · rw [sc 9 0 (by omega) (by omega), b3 163 94 (by omega)]; exact h8
    have zv' : ZV b.2 (b.2.1 163) n := by
      have w1 : xw b.2 = xw M1 := congrArg Int32.toInt agr.1
      have w2 : xh b.2 = xh M1 := congrArg Int32.toInt agr.2.1
      obtain ⟨h1, h2, h3, h4⟩ := zv
      refine ⟨fun q hq => ?_, by rw [b3 163 92 (by omega)]; exact h2, by rw [b3 163 94 (by omega)]; exact h3, fun j hj => ?_⟩
      · obtain ⟨q1, q2, q3, q4⟩ := h1 q hq
        rw [b3 163 q (by omega), b2 q hq, agr.2.2.2.1, agr.2.2.2.2.2.2.2.1 q]
        refine ⟨⟨q1.1, q1.2.1, (onN_a agr).mpr q1.2.2⟩, q2, ?_⟩
        have len := (zc.2.2.2.1 q hq).2.1
        unfold sw
        split
        · exact ⟨by rw [o0]; omega, by rw [o0]; omega⟩
        split
        · exact ⟨by rw [o0]; omega, by rw [o0]; omega⟩
        rw [if_neg (by omega)]
        exact clm_b len
      · rw [b3 163 92 (by omega)] at hj
        rw [b3 163 _ (by omega), b3 163 _ (by omega), w1, w2]
        obtain ⟨q1, q2, s, q3, q4, q5⟩ := h4 j hj
        exact ⟨(onN_a agr).mpr q1, (onN_a agr).mpr q2, s, q3, q4, fun h => q5 ((onN_a agr).mp h)⟩
    exact ⟨⟨n8, by rw [← hb]; exact jr, ZB_a agx agr zb, zs', zv', ZW_a agx agr (plk_c (fun i a b => b3 163 i (by omega)) zv.2.1.2) zw⟩, ⟨⟨fun kx i h => a3 kx i (by omega), a3 46 2 (by omega), a3 46 3 (by omega)⟩, fun i => by rw [a4], fun i => by rw [a4]⟩, ⟨b3 162 27 (by omega), b3 162 48 (by omega), fun i => b3 173 i (by omega), fun i => b3 189 i (by omega), fun i => b3 190 i (by omega), fun i => b3 191 i (by omega)⟩, agr⟩
  have run : ∀ a b : Int32 × Mem, iter (lb_Top_sheet_35 v1 v2 v3 v4) FU ((0 : Int32), (0 : Int32), X) = some a → iter (lb_Mod_sheet_43 v1 v2 v4) FU ((0 : Int32), v3, (0 : Int32), M1) = some b → (if v1 = (3 : Int32) then some ((-3 : Int32), a.2) else some (a.1, a.2)) = some x → (if v1 = (3 : Int32) then some ((-3 : Int32), b.2) else some (b.1, b.2)) = some r → x.1 = r.1 ∧ ZA x.2 r.2 n := by
    intro a b ea eb e1 e2
    rcases io e1 with ⟨g, e1⟩ | ⟨g, e1⟩
    · rw [if_pos g] at e2
      have e1 := Option.some.inj e1
      have e2 := Option.some.inj e2
      have G := go a b ea eb (by rw [← e2])
      rw [← e1, ← e2]
      exact ⟨rfl, G.2⟩
    · rw [if_neg g] at e2
      have e1 := Option.some.inj e1
      have e2 := Option.some.inj e2
      have G := go a b ea eb (by rw [← e2])
      rw [← e1, ← e2]
      exact ⟨G.1, G.2⟩
  unfold f_Top_sheet at ex
  have out : ¬ (0 ≤ v1.toInt ∧ v1.toInt ≤ 3) → some ((-1 : Int32), X) = some x → x.1 = r.1 ∧ ZA x.2 r.2 n := by
    intro hn e
    rcases h2 with ⟨_, h⟩ | ⟨h, _⟩
    · exact absurd h hn
    · rw [h, if_pos rfl] at era
      exact no _ e era
  rcases io ex with ⟨g, ex⟩ | ⟨g, ex⟩
  · exact out (by have := q_lt g; omega) ex
  have g1 := q_nl g
  rcases io ex with ⟨g, ex⟩ | ⟨g, ex⟩
  · exact out (by have := q_lt g; omega) ex
  have g2 := q_nl g
  rcases h2 with ⟨h, _⟩ | ⟨_, h⟩
  rotate_left
  · exact absurd (⟨by omega, by omega⟩ : 0 ≤ v1.toInt ∧ v1.toInt ≤ 3) h
  rw [h, if_neg (by decide)] at era
  rcases io ex with ⟨g, ex⟩ | ⟨g, ex⟩
  rotate_left
  · rw [if_neg g] at era
    exact no _ ex era
  rw [if_pos g] at era
  rcases io ex with ⟨k, ex⟩ | ⟨k, ex⟩
  · rw [if_pos (by rw [k]; decide)] at era
    obtain ⟨a, ea, ex⟩ := bo ex
    obtain ⟨b, eb, era⟩ := bo era
    exact run a b ea eb ex era
  · have k1 := q_ne k
    rw [if_neg (fun h => by have := q_le h; omega)] at era
    rcases io ex with ⟨k, ex⟩ | ⟨k, ex⟩
    · rw [if_pos k] at era
      obtain ⟨a, ea, ex⟩ := bo ex
      obtain ⟨b, eb, era⟩ := bo era
      exact run a b ea eb ex era
    · rw [if_neg k] at era
      exact no _ ex era
