section
/-! cell: the ways out, and the answer -/
theorem ways_r {R : Mem} {n : Nat} (jR : J R) (zv : ZV R (R.1 163) n) {lv cv x : Int32} {l c : Nat} (hl : lv.toInt = (l : Int)) (hc : cv.toInt = (c : Int)) (l2 : l < 2) (c36 : c < 36) (on : onN R l c) {W : Nat → Bool} (hW : ∀ s, W s = true ↔ ∃ d, nbr R l c d s) (e : iter (lb_Mod_ways_16 lv cv R) FU ((0 : Int32), (0 : Int32)) = some x) : x.toInt = (((List.range 4).countP W : Nat) : Int) := by
  have z36 : (36 : Int32).toInt = 36 := rfl
  have z4 := o4
  refine it_r (I := fun s : Int32 × Int32 => ∃ i : Nat, i ≤ 4 ∧ s.2.toInt = (i : Int) ∧ s.1.toInt = (((List.range i).countP W : Nat) : Int)) (Q := fun x : Int32 => x.toInt = (((List.range 4).countP W : Nat) : Int)) ?_ e ⟨0, by omega, rfl, rfl⟩
  rintro ⟨u, k⟩ r ⟨i, li, hi, hu⟩ e
  unfold lb_Mod_ways_16 at e
  dsimp only at hi hu e
  rcases io e with ⟨g, e⟩ | ⟨g, e⟩
  · have := q_le g
    obtain rfl := Option.some.inj e
    have : i = 4 := by omega
    subst this; exact hu
  have g1 := q_ng g
  obtain ⟨pv, ep, e⟩ := bo e
  unfold f_Mod_placeOf at ep
  obtain rfl := Option.some.inj ep
  obtain ⟨y3, e3, e⟩ := bo e
  have m1 : ((36 : Int32) * lv).toInt = 36 * (l : Int) := mul_ti z36 hl (by omega) (by omega)
  have hp : ((36 : Int32) * lv + cv).toInt = 36 * (l : Int) + c := add_ti m1 hc (by omega) (by omega)
  have b1 : (k + (1 : Int32)).toInt = ((i + 1 : Nat) : Int) := add_ti hi o1 (by omega) (by omega)
  have w := nbr_go jR zv hp hi l2 c36 on (by omega) (some_of (fs_go jR 163 (.inl rfl) _ k (by omega)) e3).1
  have cl := cnt_le W i
  rcases io e with ⟨g, e⟩ | ⟨g, e⟩
  · have gg := q_eq g
    obtain rfl := Option.some.inj e
    refine ⟨i + 1, by omega, b1, ?_⟩
    show (u + (0 : Int32)).toInt = _
    rw [Int32.add_zero, cnt_s, if_neg (fun h => w.mp ((hW i).mp h) gg)]
    exact hu
  · have gg := q_ne g
    obtain rfl := Option.some.inj e
    refine ⟨i + 1, by omega, b1, ?_⟩
    show (u + (1 : Int32)).toInt = _
    rw [cnt_s, if_pos ((hW i).mpr (w.mpr gg)), add_ti hu o1 (by omega) (by omega)]
    omega
theorem ways_q {X R : Mem} {n : Nat} (jR : J R) (zv : ZV R (R.1 163) n) (zw : ZW X R 163) {lv cv x y : Int32} {l c i : Nat} (hl : lv.toInt = (l : Int)) (hc : cv.toInt = (c : Int)) (l2 : l < 2) (c36 : c < 36) (hi : i = l * 36 + c) (ex : f_JLong_bitCount (X.2.1 34 i) = some x) (er : f_Mod_ways lv cv R = some y) : x = y := by
  subst hi
  have B := bitc ex
  have N := zw.2.2 l c l2 c36
  have nn : ∀ d, d < 64 → (bl (X.2.1 34 (l * 36 + c)) d = true ↔ ∃ s, s < 4 ∧ nbr R l c d s) := by
    intro d _
    refine (N d).trans ?_
    constructor
    · rintro (⟨s, h, a, b⟩ | ⟨h, s, h4, a, b⟩)
      · exact ⟨s, h, .inl ⟨a, b⟩⟩
      · exact ⟨s, h4, .inr ⟨h, a, b⟩⟩
    · rintro ⟨s, h4, ⟨a, b⟩ | ⟨h, a, b⟩⟩
      · exact .inl ⟨s, h4, a, b⟩
      · exact .inr ⟨h, s, h4, a, b⟩
  refine Int32.toInt_inj.mp ?_
  rw [B]
  unfold f_Mod_ways at er
  obtain ⟨x1, e1, er⟩ := bo er
  have h1 := some_of (fs_isOf jR lv cv) e1
  rw [hl, hc] at h1
  rcases h1 with ⟨h1, on⟩ | ⟨h1, on⟩
  · rw [h1, if_neg (by decide)] at er
    obtain ⟨x6, e6, er⟩ := bo er
    obtain rfl := Option.some.inj er
    obtain ⟨W, hW⟩ : ∃ W : Nat → Bool, ∀ s, W s = true ↔ ∃ d, nbr R l c d s := by
      classical
      exact ⟨fun s => decide (∃ d, nbr R l c d s), fun s => decide_eq_true_iff⟩
    rw [ways_r jR zv hl hc l2 c36 on hW e6, cnt_rel (rel := fun d s => nbr R l c d s) (n := 64) (fun d s s' h g hs hr => nbr_inj jR zv h g hs hr) (fun d d' s hs h g => nbr_fun jR zv hs h g) (fun d s hs h => by have := nbr_lt jR zv hs h; omega) hW 4 (by omega) _ nn]
  · rw [h1, if_pos rfl] at er
    obtain rfl := Option.some.inj er
    rw [List.countP_eq_zero.mpr (fun d hd w => by obtain ⟨s, _, h⟩ := (nn d (List.mem_range.mp hd)).mp w; exact on (nbr_on jR zv h))]
    rfl
theorem pl_r {R : Mem} {m : Nat} {c x : Int32} (hm : (R.1 163 92).toInt = (m : Int)) (m6 : m ≤ 6) (e : iter (lb_Mod_cell_88 c R) FU ((0 : Int32), (0 : Int32)) = some x) : ∀ d, bt x d = true ↔ d < m ∧ (R.1 163 (80 + 2 * d) = c ∨ R.1 163 (81 + 2 * d) = c) := by
  have z2 : (2 : Int32).toInt = 2 := rfl
  have z80 : (80 : Int32).toInt = 80 := rfl
  refine it_r (I := fun s : Int32 × Int32 => ∃ p : Nat, p ≤ m ∧ s.2.toInt = (p : Int) ∧ ∀ d, bt s.1 d = true ↔ d < p ∧ (R.1 163 (80 + 2 * d) = c ∨ R.1 163 (81 + 2 * d) = c)) (Q := fun x : Int32 => ∀ d, bt x d = true ↔ d < m ∧ (R.1 163 (80 + 2 * d) = c ∨ R.1 163 (81 + 2 * d) = c)) ?_ e ⟨0, by omega, rfl, fun d => ⟨fun h => absurd h (by rw [bt_0]; decide), fun h => absurd h.1 (by omega)⟩⟩
  rintro ⟨v, k⟩ r ⟨p, lp, hp, h⟩ e
  unfold lb_Mod_cell_88 at e
  dsimp only at hp h e
  have q92 : (92 : Int32).toNatClampNeg = 92 := rfl
  rw [q92] at e
  rcases io e with ⟨g, e⟩ | ⟨g, e⟩
  · have := q_le g
    obtain rfl := Option.some.inj e
    have : p = m := by omega
    subst this; exact h
  have g1 := q_ng g
  have i1 : ((80 : Int32) + (2 : Int32) * k).toInt = ((80 + 2 * p : Nat) : Int) := by rw [add_ti z80 (mul_ti z2 hp (by omega) (by omega)) (by omega) (by omega)]; omega
  have i2 : (((80 : Int32) + (2 : Int32) * k) + (1 : Int32)).toInt = ((81 + 2 * p : Nat) : Int) := by rw [add_ti i1 o1 (by omega) (by omega)]; omega
  obtain ⟨_, e⟩ := io_n e
  rw [q_nat i1, q_nat i2] at e
  have nx : (k + (1 : Int32)).toInt = ((p + 1 : Nat) : Int) := add_ti hp o1 (by omega) (by omega)
  have yes : (R.1 163 (80 + 2 * p) = c ∨ R.1 163 (81 + 2 * p) = c) → ∀ d, bt (v ||| ((1 : Int32) <<< (k &&& 31))) d = true ↔ d < p + 1 ∧ (R.1 163 (80 + 2 * d) = c ∨ R.1 163 (81 + 2 * d) = c) := by
    intro hc d
    rw [bt_b1 _ hp (by omega), Bool.or_eq_true, decide_eq_true_iff, h d]
    constructor
    · rintro (⟨a, b⟩ | rfl)
      · exact ⟨by omega, b⟩
      · exact ⟨by omega, hc⟩
    · rintro ⟨a, b⟩
      by_cases q : d = p
      · exact .inr q
      · exact .inl ⟨by omega, b⟩
  rcases io e with ⟨g, e⟩ | ⟨g, e⟩
  · obtain rfl := Option.some.inj e
    exact ⟨p + 1, by omega, nx, yes (.inl g)⟩
  obtain ⟨_, e⟩ := io_n e
  rcases io e with ⟨g2, e⟩ | ⟨g2, e⟩
  · obtain rfl := Option.some.inj e
    exact ⟨p + 1, by omega, nx, yes (.inr g2)⟩
  · obtain rfl := Option.some.inj e
    refine ⟨p + 1, by omega, nx, fun d => ?_⟩
    show bt (v ||| (0 : Int32)) d = true ↔ _
    rw [Int32.or_zero, h d]
    constructor
    · rintro ⟨a, b⟩; exact ⟨by omega, b⟩
    · rintro ⟨a, b⟩
      by_cases q : d = p
      · subst q; rcases b with b | b
        · exact absurd b g
        · exact absurd b g2
      · exact ⟨by omega, b⟩
theorem stand_q {X R : Mem} {n c l : Nat} (n8 : n ≤ 8) (zc : ZC X R n) (zs : ZS (scn X 11) (R.1 163) n) {a lv lc pv x y : Int32} (ha : a.toInt = (c : Int)) (c36 : c < 36) (hlc : lc.toInt = (l : Int)) (l2 : l < 2) (ep : f_Mod_placeOf lv a = some pv) (hlv : lv.toInt = (l : Int)) (ex : f_Scene_standing 11 lc a (X.1 6 4) X = some x) (er : f_Mod_onPlace 163 pv R = some y) : x = y := by
  have z36 : (36 : Int32).toInt = 36 := rfl
  unfold f_Mod_placeOf at ep
  obtain rfl := Option.some.inj ep
  have m1 : ((36 : Int32) * lv).toInt = 36 * (l : Int) := mul_ti z36 hlv (by omega) (by omega)
  have hp : ((36 : Int32) * lv + a).toInt = 36 * (l : Int) + c := add_ti m1 ha (by omega) (by omega)
  have S := standing_i (n := n) (by rw [zc.2.1]; exact zc.1) n8 ex
  have O := onPlace_i (n := n) zc.1 n8 er
  refine bt_ext fun d _ => ?_
  rw [S d, O d]
  refine decide_eq_decide.mpr ?_
  constructor
  · rintro ⟨h1, h2, h3⟩
    have z : (R.1 163 d).toInt = (X.1 12 d).toInt + 36 * (X.1 13 d).toInt := (zs.1 d h1).1
    have h2' : X.1 12 d = a := h2
    have h3' : X.1 13 d = lc := h3
    rw [h2', h3'] at z
    exact ⟨h1, Int32.toInt_inj.mp (by omega)⟩
  · rintro ⟨h1, h2⟩
    have z : (R.1 163 d).toInt = (X.1 12 d).toInt + 36 * (X.1 13 d).toInt ∧ 0 ≤ (X.1 12 d).toInt ∧ (X.1 12 d).toInt ≤ 35 ∧ 0 ≤ (X.1 13 d).toInt ∧ (X.1 13 d).toInt ≤ 1 ∧ R.1 163 (8 + d) = X.1 14 d := zs.1 d h1
    rw [h2] at z
    refine ⟨h1, ?_, ?_⟩
    · show X.1 12 d = a
      exact Int32.toInt_inj.mp (by omega)
    · show X.1 13 d = lc
      exact Int32.toInt_inj.mp (by omega)
theorem cell_q {X R : Mem} {n : Nat} {a b : Int32} {y : Option Int32} {r : Int32 × Mem} (za : ZA X R n) (ey : f_Top_cell a b X = some y) (er : f_Mod_cell a b R = some r) : LwA y r := by
  have z0 := o0
  have z1 := o1
  have z2 := o2
  have z3 := o3
  have z4 := o4
  have z5 : (5 : Int32).toInt = 5 := rfl
  have z36 : (36 : Int32).toInt = 36 := rfl
  unfold f_Mod_cell at er
  obtain ⟨M1, m1, er⟩ := mo er
  obtain ⟨zaM, fqM⟩ := ZA_M1 za m1
  have h13 : M1.1 162 13 = 0 := by rw [m1, si_eq]
  obtain ⟨n8, jM, ⟨zg, zc, zl⟩, zs, zv, zw⟩ := zaM.1
  have wh := awh jM
  obtain ⟨x2, e2, er⟩ := bo er
  have hy : (x2 = 1 ∧ 0 ≤ a.toInt ∧ a.toInt < xw M1 * xh M1) ∨ (x2 = 0 ∧ ¬ (0 ≤ a.toInt ∧ a.toInt < xw M1 * xh M1)) := isCell_i jM e2
  unfold f_Top_cell at ey
  obtain ⟨x1, ex1, ey⟩ := bo ey
  have hx := has_j zg jM ex1
  have lost : j_Mod_cell_22 M1 = some r → r.2.1 162 13 = 1 := by
    intro e
    unfold j_Mod_cell_22 f_Mod_lost at e
    obtain ⟨x3, e3, e⟩ := bo e
    obtain ⟨M2, m2, e3⟩ := mo e3
    obtain rfl := Option.some.inj e3
    obtain rfl := Option.some.inj e
    show M2.1 162 13 = 1
    rw [m2, si_eq]
  rcases hx with ⟨hx1, hx2⟩ | ⟨hx1, hx2⟩
  rotate_left
  · rcases hy with ⟨_, c⟩ | ⟨c, _⟩
    · exact absurd c hx2
    rw [hx1, if_pos rfl] at ey
    rw [c, if_pos rfl] at er
    obtain rfl := Option.some.inj ey
    exact .inl ⟨rfl, lost er⟩
  rcases hy with ⟨c, _⟩ | ⟨_, c⟩
  rotate_left
  · exact absurd hx2 c
  rw [hx1, if_neg (by decide)] at ey
  rw [c, if_neg (by decide)] at er
  obtain ⟨p, hp⟩ := ti_ofn hx2.1
  have p36 : p < 36 := by omega
  obtain ⟨y4, ey4, er⟩ := bo er
  have h4 := some_of (sp_in b 0 5) ey4
  rw [o0, z5] at h4
  rcases io ey with ⟨g, ey⟩ | ⟨g, ey⟩
  · have gg := q_eq g
    rcases h4 with ⟨h, _⟩ | ⟨_, h⟩
    rotate_left
    · omega
    rw [h, if_neg (by decide), if_pos g] at er
    obtain ⟨_, er⟩ := io_n er
    obtain rfl := Option.some.inj er
    obtain ⟨_, ey⟩ := io_n ey
    obtain rfl := Option.some.inj ey
    refine .inr ⟨?_, h13⟩
    show some (X.1 4 a.toNatClampNeg) = some (M1.1 164 a.toNatClampNeg)
    rw [q_nat hp, zg.2.2.1 p p36]
  have g0 := q_ne g
  rcases io ey with ⟨g, ey⟩ | ⟨g, ey⟩
  · have gg := q_eq g
    rcases h4 with ⟨h, _⟩ | ⟨_, h⟩
    rotate_left
    · omega
    rw [h, if_neg (by decide), if_neg (fun h => by have := q_eq h; omega), if_pos g] at er
    obtain ⟨x7, e7, er⟩ := bo er
    obtain ⟨x8, e8, er⟩ := bo er
    obtain rfl := Option.some.inj er
    obtain ⟨x3, e3, ey⟩ := bo ey
    obtain rfl := Option.some.inj ey
    exact .inr ⟨by rw [stand_q n8 zc zs hp p36 (l := 0) rfl (by omega) e7 (by rw [sub_ti rfl z1 (by omega) (by omega)]; omega) e3 e8], h13⟩
  have g1 := q_ne g
  rcases io ey with ⟨g, ey⟩ | ⟨g, ey⟩
  · have gg := q_eq g
    rcases h4 with ⟨h, _⟩ | ⟨_, h⟩
    rotate_left
    · omega
    rw [h, if_neg (by decide), if_neg (fun h => by have := q_eq h; omega), if_neg (fun h => by have := q_eq h; omega), if_pos g] at er
    obtain ⟨x7, e7, er⟩ := bo er
    obtain ⟨x8, e8, er⟩ := bo er
    obtain rfl := Option.some.inj er
    obtain ⟨x3, e3, ey⟩ := bo ey
    obtain rfl := Option.some.inj ey
    exact .inr ⟨by rw [stand_q n8 zc zs hp p36 (l := 1) rfl (by omega) e7 (by rw [sub_ti rfl z1 (by omega) (by omega)]; omega) e3 e8], h13⟩
  have g2 := q_ne g
  rcases io ey with ⟨g, ey⟩ | ⟨g, ey⟩
  · have gg := q_eq g
    rcases h4 with ⟨h, _⟩ | ⟨_, h⟩
    rotate_left
    · omega
    rw [h, if_neg (by decide), if_neg (fun h => by have := q_eq h; omega), if_neg (fun h => by have := q_eq h; omega), if_neg (fun h => by have := q_eq h; omega), if_pos g] at er
    obtain ⟨x8, e8, er⟩ := bo er
    obtain rfl := Option.some.inj er
    obtain ⟨x3, e3, ey⟩ := bo ey
    obtain rfl := Option.some.inj ey
    obtain ⟨m, hm⟩ := ti_ofn zv.2.1.1
    have m6 : m ≤ 6 := by have := zv.2.1.2; omega
    have lai : X.1 11 6 = M1.1 163 92 := zs.2.2.2.1
    have A := planksAt_i (by rw [lai]; exact hm) m6 e3
    have B := pl_r hm m6 e8
    refine .inr ⟨?_, h13⟩
    have : x3 = x8 := by
      refine bt_ext fun d _ => Bool.eq_iff_iff.mpr ?_
      rw [A d, B d]
      refine and_congr_right fun hd => ?_
      have z : X.1 16 d = M1.1 163 (80 + 2 * d) ∧ X.1 17 d = M1.1 163 (81 + 2 * d) := zs.2.2.2.2.1 d (by omega) (by omega)
      rw [z.1, z.2]
    rw [this]
  have g3 := q_ne g
  rcases io ey with ⟨g, ey⟩ | ⟨g, ey⟩
  · have gg := q_eq g
    rcases h4 with ⟨h, _⟩ | ⟨_, h⟩
    rotate_left
    · omega
    rw [h, if_neg (by decide), if_neg (fun h => by have := q_eq h; omega), if_neg (fun h => by have := q_eq h; omega), if_neg (fun h => by have := q_eq h; omega), if_neg (fun h => by have := q_eq h; omega)] at er
    obtain ⟨x5, e5, er⟩ := bo er
    obtain rfl := Option.some.inj er
    obtain ⟨_, ey⟩ := io_n ey
    obtain ⟨x9, e9, ey⟩ := bo ey
    obtain rfl := Option.some.inj ey
    rw [q_nat hp] at e9
    exact .inr ⟨by rw [ways_q jM zv zw (l := 0) (by rw [sub_ti rfl z4 (by omega) (by omega)]; omega) hp (by omega) p36 (by omega) e9 e5], h13⟩
  have g4 := q_ne g
  rcases io ey with ⟨g, ey⟩ | ⟨g, ey⟩
  · have gg := q_eq g
    rcases h4 with ⟨h, _⟩ | ⟨_, h⟩
    rotate_left
    · omega
    rw [h, if_neg (by decide), if_neg (fun h => by have := q_eq h; omega), if_neg (fun h => by have := q_eq h; omega), if_neg (fun h => by have := q_eq h; omega), if_neg (fun h => by have := q_eq h; omega)] at er
    obtain ⟨x5, e5, er⟩ := bo er
    obtain rfl := Option.some.inj er
    obtain ⟨_, ey⟩ := io_n ey
    obtain ⟨x9, e9, ey⟩ := bo ey
    obtain rfl := Option.some.inj ey
    have i9 : ((36 : Int32) + a).toInt = ((36 + p : Nat) : Int) := by rw [add_ti z36 hp (by omega) (by omega)]; omega
    rw [q_nat i9] at e9
    exact .inr ⟨by rw [ways_q jM zv zw (l := 1) (by rw [sub_ti rfl z4 (by omega) (by omega)]; omega) hp (by omega) p36 (by omega) e9 e5], h13⟩
  have g5 := q_ne g
  rcases h4 with ⟨_, h⟩ | ⟨h, _⟩
  · omega
  rw [h, if_pos rfl] at er
  obtain rfl := Option.some.inj ey
  exact .inl ⟨rfl, lost er⟩
theorem lwe_cell {M : Mem} {n : Nat} {a b : Int32} {x r : Int32 × Mem} (za : ZA M x.2 n) (ex : f_Lw_cell a b M = some x) (er : f_Mod_cell a b x.2 = some r) (fr : r.2.2.1 192 0 = x.2.2.1 192 0) : LwE x.1 x.2 r := by
  unfold f_Lw_cell at ex
  obtain ⟨y, ey, ex⟩ := bo ex
  obtain rfl := Option.some.inj ex
  exact lwe_of (cell_q za ey er) fr
end
section
/-! wardrobe: the class's states and the reference's pairs -/
def tos (R : Mem) (c s : Int) : Int := if s = 4 then c else bes (xw R) (xh R) c s
def nbT3 : Bool := (List.range 6).all fun w => (List.range 6).all fun h => (List.range 36).all fun c => !(decide ((c : Int) < ((w : Int) + 1) * ((h : Int) + 1))) ||
  ((List.range 4).all fun s => !(bes (w + 1) (h + 1) c s == (c : Int)))
theorem nbT3_t : nbT3 = true := by decide +kernel
theorem nbs_c {w h c s : Int} (hw : 1 ≤ w ∧ w ≤ 6) (hh : 1 ≤ h ∧ h ≤ 6) (hc : 0 ≤ c) (hc2 : c < w * h) (hs : 0 ≤ s ∧ s ≤ 3) : bes w h c s ≠ c := by
  obtain ⟨w', h', c', s', lw, lh, lc, ls, rfl, rfl, rfl, rfl⟩ := rngs hw hh hc hc2 hs
  have k := List.all_eq_true.mp (List.all_eq_true.mp (List.all_eq_true.mp nbT3_t w' (List.mem_range.mpr lw)) h' (List.mem_range.mpr lh)) c' (List.mem_range.mpr lc)
  rw [decide_eq_true hc2, Bool.not_true, Bool.false_or] at k
  have k := List.all_eq_true.mp k s' (List.mem_range.mpr ls)
  simpa using k
theorem tos_inj {R : Mem} (jR : J R) {c s r : Int} (hc : 0 ≤ c) (hc2 : c < xw R * xh R) (hs : 0 ≤ s ∧ s ≤ 4) (hr : 0 ≤ r ∧ r ≤ 4) (hn : tos R c s ≠ -1) (e : tos R c s = tos R c r) : s = r := by
  have hw := aw jR
  have hh := ah jR
  unfold tos at e hn
  by_cases a : s = 4
  · by_cases b : r = 4
    · omega
    · rw [if_pos a, if_neg b] at e
      exact absurd e.symm (nbs_c hw hh hc hc2 ⟨hr.1, by omega⟩)
  · rw [if_neg a] at e hn
    by_cases b : r = 4
    · rw [if_pos b] at e
      exact absurd e (nbs_c hw hh hc hc2 ⟨hs.1, by omega⟩)
    · rw [if_neg b] at e
      exact nbs_i hw hh hc hc2 ⟨hs.1, by omega⟩ ⟨hr.1, by omega⟩ hn (.inl e)
theorem pl_tos {R : Mem} {l c s n : Int} (on : onN R l c) (h : plR R l c s n) (hn : n ≠ -1) : n = tos R c s ∧ onN R l (tos R c s) := by
  unfold tos
  rcases h with ⟨a, b⟩ | ⟨a, ⟨_, b⟩ | ⟨_, _, b⟩ | ⟨_, d, e⟩⟩
  · rw [if_pos a]; exact ⟨b, on⟩
  · exact absurd b hn
  · exact absurd b hn
  · rw [if_neg a]; exact ⟨e, d⟩
theorem tos_pl {R : Mem} {l c s : Int} (hb : onN R l (tos R c s)) : plR R l c s (tos R c s) := by
  have h0 := hb.1
  by_cases a : s = 4
  · have e : tos R c s = c := by unfold tos; rw [if_pos a]
    rw [e]; exact .inl ⟨a, rfl⟩
  · have e : tos R c s = bes (xw R) (xh R) c s := by unfold tos; rw [if_neg a]
    rw [e] at hb h0 ⊢
    exact .inr ⟨a, .inr (.inr ⟨by omega, hb, rfl⟩)⟩
theorem ne_tos {R : Mem} {a b : Int} : neR R a b ↔ ∃ s : Int, 0 ≤ s ∧ s ≤ 4 ∧ tos R a s = b := by
  unfold neR tos
  constructor
  · rintro (h | ⟨s, h1, h2, h3⟩)
    · exact ⟨4, by omega, by omega, by rw [if_pos rfl]; exact h⟩
    · exact ⟨s, h1, by omega, by rw [if_neg (by omega)]; exact h3⟩
  · rintro ⟨s, h1, h2, h3⟩
    by_cases a : s = 4
    · rw [if_pos a] at h3; exact .inl h3
    · rw [if_neg a] at h3; exact .inr ⟨s, h1, by omega, h3⟩
def sd (R : Mem) (u : Nat) : Int := tos R ((u / 5 : Nat) : Int) ((u % 5 : Nat) : Int)
def vst (R : Mem) (u : Nat) : Prop := u < 180 ∧ onN R 0 ((u / 5 : Nat) : Int) ∧ onN R 1 (sd R u)
def phN (R : Mem) (u : Nat) : Nat := 36 * (u / 5) + (sd R u).toNat
def Aw1 (R : Mem) (u v : Nat) : Prop := v < 180 ∧ ∃ i j : Nat, i < 5 ∧ j < 5 ∧ onN R 0 (tos R ((u / 5 : Nat) : Int) (i : Int)) ∧ onN R 1 (tos R (sd R u) (j : Int)) ∧ ((v / 5 : Nat) : Int) = tos R ((u / 5 : Nat) : Int) (i : Int) ∧ sd R v = tos R (sd R u) (j : Int)
def Acr (R : Mem) (x y : Nat) : Prop := ∃ s u : Int, (0 ≤ s ∧ s ≤ 4) ∧ (0 ≤ u ∧ u ≤ 4) ∧ crR R ((x : Int) / 36) ((x : Int) % 36) (10 * s + u) (y : Int)
theorem ph_e {R : Mem} (jR : J R) {u : Nat} (h : vst R u) : phN R u < 1296 ∧ ((phN R u : Nat) : Int) / 36 = ((u / 5 : Nat) : Int) ∧ ((phN R u : Nat) : Int) % 36 = sd R u := by
  obtain ⟨h1, h2, h3⟩ := h
  have wh := awh jR
  have a := h3.1
  have b := h3.2.1
  unfold phN
  refine ⟨by omega, by omega, by omega⟩
theorem A1_v {R : Mem} {u v : Nat} (h : Aw1 R u v) : vst R v := by
  obtain ⟨h1, i, j, i5, j5, a, b, c, d⟩ := h
  exact ⟨h1, by rw [c]; exact a, by rw [d]; exact b⟩
theorem A1_cr {R : Mem} (jR : J R) {u v : Nat} (hu : vst R u) (h : Aw1 R u v) : Acr R (phN R u) (phN R v) := by
  have hv := A1_v h
  obtain ⟨h1, i, j, i5, j5, a, b, c, d⟩ := h
  obtain ⟨u1, u2, u3⟩ := ph_e jR hu
  obtain ⟨v1, v2, v3⟩ := ph_e jR hv
  refine ⟨(i : Int), (j : Int), by omega, by omega, ?_⟩
  rw [u2, u3]
  have e1 : (10 * (i : Int) + (j : Int)) / 10 = (i : Int) := by omega
  have e2 : (10 * (i : Int) + (j : Int)) % 10 = (j : Int) := by omega
  refine ⟨_, _, by rw [e1]; exact tos_pl a, by rw [e2]; exact tos_pl b, .inr (.inr ⟨?_, ?_, ?_, ?_⟩)⟩
  · have := a.1; omega
  · have := b.1; omega
  · rw [← c, ← d]
    exact ne_tos.mpr ⟨((v % 5 : Nat) : Int), by omega, by omega, rfl⟩
  · rw [← c, ← d]; omega
theorem cr_A1 {R : Mem} (jR : J R) {u y : Nat} (hu : vst R u) (h : Acr R (phN R u) y) : ∃ v, Aw1 R u v ∧ phN R v = y := by
  obtain ⟨s, t, hs, ht, i', j', p1, p2, p3⟩ := h
  obtain ⟨u1, u2, u3⟩ := ph_e jR hu
  have wh := awh jR
  have e1 : (10 * s + t) / 10 = s := by omega
  have e2 : (10 * s + t) % 10 = t := by omega
  rw [u2, e1] at p1
  rw [u3, e2] at p2
  rcases p3 with ⟨_, z⟩ | ⟨_, _, _, z⟩ | ⟨ni, nj, ne, z⟩
  · omega
  · omega
  obtain ⟨ei, oi⟩ := pl_tos hu.2.1 p1 ni
  obtain ⟨ej, oj⟩ := pl_tos hu.2.2 p2 nj
  obtain ⟨q, q0, q4, qe⟩ := ne_tos.mp ne
  have i0 := oi.1
  have i1 := oi.2.1
  have j0 := oj.1
  rw [← ei] at i0 i1
  rw [← ej] at j0
  have d1 : (((5 * i'.toNat + q.toNat) / 5 : Nat) : Int) = i' := by omega
  have d2 : (((5 * i'.toNat + q.toNat) % 5 : Nat) : Int) = q := by omega
  have sv : sd R (5 * i'.toNat + q.toNat) = j' := by unfold sd; rw [d1, d2]; exact qe
  refine ⟨5 * i'.toNat + q.toNat, ⟨by omega, s.toNat, t.toNat, by omega, by omega, ?_, ?_, ?_, ?_⟩, ?_⟩
  · rw [show ((s.toNat : Nat) : Int) = s by omega]; exact oi
  · rw [show ((t.toNat : Nat) : Int) = t by omega]; exact oj
  · rw [show ((s.toNat : Nat) : Int) = s by omega, ← ei]; exact d1
  · rw [show ((t.toNat : Nat) : Int) = t by omega, ← ej]; exact sv
  · unfold phN
    rw [sv]
    have : (5 * i'.toNat + q.toNat) / 5 = i'.toNat := by omega
    rw [this]; omega
theorem ph_inj {R : Mem} (jR : J R) {u v : Nat} (hu : vst R u) (hv : vst R v) (h : phN R u = phN R v) : u = v := by
  obtain ⟨u1, u2, u3⟩ := ph_e jR hu
  obtain ⟨v1, v2, v3⟩ := ph_e jR hv
  have a : u / 5 = v / 5 := by rw [h] at u2; omega
  have b : sd R u = sd R v := by rw [← u3, ← v3, h]
  have c : ((u % 5 : Nat) : Int) = ((v % 5 : Nat) : Int) := by
    have h0 := hu.2.2.1
    unfold sd at b h0
    rw [← a] at b
    exact tos_inj jR hu.2.1.1 hu.2.1.2.1 (by omega) (by omega) (by omega) b
  omega
theorem dist_eq {R : Mem} (jR : J R) {f g : Nat} {D1 D2 : Nat → Int} (hf : vst R f) (hg : vst R g)
    (a0 : D1 f = 0) (a1 : ∀ u, u < 180 → 0 ≤ D1 u) (a2 : ∀ u, u < 180 → D1 u < 1000000 → u = f ∨ ∃ v, v < 180 ∧ Aw1 R v u ∧ D1 v + 1 = D1 u) (av : ∀ u, u < 180 → D1 u < 1000000 → vst R u) (a3 : ∀ u, u < 180 → D1 u < 1000000 → ∀ v, Aw1 R u v → D1 v ≤ D1 u + 1)
    (b0 : D2 (phN R f) = 0) (b1 : ∀ x, x < 1296 → 0 ≤ D2 x) (b2 : ∀ x, x < 1296 → D2 x < 1000000 → x = phN R f ∨ ∃ y, y < 1296 ∧ Acr R y x ∧ D2 y + 1 = D2 x) (b3 : ∀ x, x < 1296 → D2 x < 1000000 → ∀ y, y < 1296 → Acr R x y → D2 y ≤ D2 x + 1) :
    D1 g = D2 (phN R g) ∨ (1000000 ≤ D1 g ∧ 1000000 ≤ D2 (phN R g)) := by
  have A : ∀ n : Nat, ∀ u, u < 180 → D1 u < 1000000 → D1 u = (n : Int) → D2 (phN R u) ≤ D1 u := by
    intro n
    induction n with
    | zero =>
      intro u hu hd e
      rcases a2 u hu hd with q | ⟨v, hv, _, q⟩
      · subst q; rw [a0, b0]; omega
      · have := a1 v hv; omega
    | succ n ih =>
      intro u hu hd e
      rcases a2 u hu hd with q | ⟨v, hv, w, q⟩
      · subst q; rw [a0] at e; omega
      · have i1 := ih v hv (by omega) (by omega)
        have vv := av v hv (by omega)
        have := b3 (phN R v) (ph_e jR vv).1 (by omega) (phN R u) (ph_e jR (A1_v w)).1 (A1_cr jR vv w)
        omega
  have B : ∀ n : Nat, ∀ x, x < 1296 → D2 x < 1000000 → D2 x = (n : Int) → ∃ u, u < 180 ∧ vst R u ∧ phN R u = x ∧ D1 u ≤ D2 x := by
    intro n
    induction n with
    | zero =>
      intro x hx hd e
      rcases b2 x hx hd with q | ⟨y, hy, _, q⟩
      · exact ⟨f, hf.1, hf, q.symm, by rw [a0]; omega⟩
      · have := b1 y hy; omega
    | succ n ih =>
      intro x hx hd e
      rcases b2 x hx hd with q | ⟨y, hy, w, q⟩
      · exact ⟨f, hf.1, hf, q.symm, by rw [a0]; omega⟩
      · obtain ⟨u, u1, u2, u3, u4⟩ := ih y hy (by omega) (by omega)
        subst u3
        obtain ⟨v, v1, v2⟩ := cr_A1 jR u2 w
        have := a3 u u1 (by omega) v v1
        exact ⟨v, v1.1, A1_v v1, v2, by omega⟩
  by_cases k : D2 (phN R g) < 1000000
  · obtain ⟨u, u1, u2, u3, u4⟩ := B (D2 (phN R g)).toNat (phN R g) (ph_e jR hg).1 k (by have := b1 (phN R g) (ph_e jR hg).1; omega)
    have := ph_inj jR u2 hg u3
    subst this
    have := A (D1 u).toNat u u1 (by omega) (by have := a1 u u1; omega)
    exact .inl (by omega)
  · by_cases k1 : D1 g < 1000000
    · have := A (D1 g).toNat g hg.1 k1 (by have := a1 g hg.1; omega)
      omega
    · exact .inr ⟨by omega, by omega⟩
end
section
/-! wardrobe: the class's search over its states -/
theorem side_i {X R : Mem} (zg : ZG X R) (jR : J R) {c s x : Int32} (hc : 0 ≤ c.toInt) (hc2 : c.toInt < xw R * xh R) (hs : 0 ≤ s.toInt ∧ s.toInt ≤ 4) (e : f_Ways_toSide c s X = some x) : x.toInt = tos R c.toInt s.toInt := by
  have z4 := o4
  unfold f_Ways_toSide at e
  unfold tos
  rcases io e with ⟨g, e⟩ | ⟨g, e⟩
  · have := q_eq g
    obtain rfl := Option.some.inj e
    rw [if_pos (by omega)]
  · have := q_ne g
    obtain ⟨x1, e1, e⟩ := bo e
    obtain rfl := Option.some.inj e
    rw [if_neg (by omega), (besC zg jR e1).1 hc hc2 hs.1 (by omega)]
def Ak (R : Mem) (u k v : Nat) : Prop := v < 180 ∧ onN R 0 (tos R ((u / 5 : Nat) : Int) ((k / 5 : Nat) : Int)) ∧ onN R 1 (tos R (sd R u) ((k % 5 : Nat) : Int)) ∧ ((v / 5 : Nat) : Int) = tos R ((u / 5 : Nat) : Int) ((k / 5 : Nat) : Int) ∧ sd R v = tos R (sd R u) ((k % 5 : Nat) : Int)
theorem Ak_A {R : Mem} {u v : Nat} : Aw1 R u v ↔ ∃ k, k < 25 ∧ Ak R u k v := by
  constructor
  · rintro ⟨h1, i, j, i5, j5, a, b, c, d⟩
    have e1 : (5 * i + j) / 5 = i := by omega
    have e2 : (5 * i + j) % 5 = j := by omega
    exact ⟨5 * i + j, by omega, h1, by rw [e1]; exact a, by rw [e2]; exact b, by rw [e1]; exact c, by rw [e2]; exact d⟩
  · rintro ⟨k, hk, h1, a, b, c, d⟩
    exact ⟨h1, k / 5, k % 5, by omega, by omega, a, b, c, d⟩
theorem Ak_f {R : Mem} (jR : J R) {u k v w : Nat} (h : Ak R u k v) (g : Ak R u k w) : v = w := by
  have hv : vst R v := ⟨h.1, by rw [h.2.2.2.1]; exact h.2.1, by rw [h.2.2.2.2]; exact h.2.2.1⟩
  have hw : vst R w := ⟨g.1, by rw [g.2.2.2.1]; exact g.2.1, by rw [g.2.2.2.2]; exact g.2.2.1⟩
  have a := h.2.2.2.1.trans g.2.2.2.1.symm
  have b := h.2.2.2.2.trans g.2.2.2.2.symm
  refine ph_inj jR hv hw ?_
  unfold phN
  rw [b, show v / 5 = w / 5 by omega]
theorem pair_l {X R : Mem} (zg : ZG X R) (jR : J R) {c d : Int32} {x : Unit ⊕ Int32} (hc : 0 ≤ c.toInt) (hc2 : c.toInt < xw R * xh R) (e : iter (lb_Ways_pairAfter_63 c d X) FU (0 : Int32) = some x) : Sum.elim (fun _ : Unit => ∀ s : Nat, s < 5 → tos R c.toInt s ≠ d.toInt) (fun y : Int32 => ∃ s : Nat, s < 5 ∧ y.toInt = (s : Int) ∧ tos R c.toInt s = d.toInt) x := by
  have z5 : (5 : Int32).toInt = 5 := rfl
  refine it_r (I := fun s : Int32 => ∃ i : Nat, i ≤ 5 ∧ s.toInt = (i : Int) ∧ ∀ s : Nat, s < i → tos R c.toInt s ≠ d.toInt) (Q := fun x : Unit ⊕ Int32 => Sum.elim (fun _ : Unit => ∀ s : Nat, s < 5 → tos R c.toInt s ≠ d.toInt) (fun y : Int32 => ∃ s : Nat, s < 5 ∧ y.toInt = (s : Int) ∧ tos R c.toInt s = d.toInt) x) ?_ e ⟨0, by omega, rfl, fun s hs => absurd hs (by omega)⟩
  rintro k r ⟨i, li, hi, hn⟩ e
  unfold lb_Ways_pairAfter_63 at e
  rcases io e with ⟨g, e⟩ | ⟨g, e⟩
  · have := q_le g
    obtain rfl := Option.some.inj e
    show ∀ s : Nat, s < 5 → tos R c.toInt s ≠ d.toInt
    exact fun s hs => hn s (by omega)
  have g1 := q_ng g
  obtain ⟨x6, e6, e⟩ := bo e
  have h6 := side_i zg jR hc hc2 (by omega) e6
  rw [hi] at h6
  rcases io e with ⟨g, e⟩ | ⟨g, e⟩
  · obtain rfl := Option.some.inj e
    show ∃ s : Nat, s < 5 ∧ k.toInt = (s : Int) ∧ tos R c.toInt s = d.toInt
    exact ⟨i, by omega, hi, by rw [← h6, g]⟩
  · have gg := q_ne g
    obtain rfl := Option.some.inj e
    have b1 : (k + (1 : Int32)).toInt = ((i + 1 : Nat) : Int) := add_ti hi o1 (by omega) (by omega)
    refine ⟨i + 1, by omega, b1, fun s hs => ?_⟩
    by_cases q : s = i
    · subst q; rw [← h6]; exact gg
    · exact hn s (by omega)
theorem pair_r {X R : Mem} (zg : ZG X R) (jR : J R) {v2 v3 x : Int32} {u k : Nat} (hu : v2.toInt = (u : Int)) (hv : vst R u) (hk : v3.toInt = (k : Int)) (k25 : k < 25) (e : f_Ways_pairAfter v2 v3 X = some x) : (x.toInt = -1 ∧ ∀ v, ¬ Ak R u k v) ∨ ∃ v : Nat, x.toInt = (v : Int) ∧ Ak R u k v := by
  have z5 : (5 : Int32).toInt = 5 := rfl
  have z0 := o0
  have z1 := o1
  have wh := awh jR
  obtain ⟨hv1, hv2, hv3⟩ := hv
  have d1 : (v2 / (5 : Int32)).toInt = ((u / 5 : Nat) : Int) := by rw [div_ti hu z5 (by omega) (by omega)]; omega
  have d2 : (v2 - v2 / (5 : Int32) * (5 : Int32)).toInt = ((u % 5 : Nat) : Int) := by rw [rem_ti hu z5 (by omega) (by omega)]; omega
  have d3 : (v3 / (5 : Int32)).toInt = ((k / 5 : Nat) : Int) := by rw [div_ti hk z5 (by omega) (by omega)]; omega
  have d4 : (v3 - v3 / (5 : Int32) * (5 : Int32)).toInt = ((k % 5 : Nat) : Int) := by rw [rem_ti hk z5 (by omega) (by omega)]; omega
  unfold f_Ways_pairAfter at e
  obtain ⟨x1, e1, e⟩ := bo e
  obtain ⟨x2, e2, e⟩ := bo e
  obtain ⟨x3, e3, e⟩ := bo e
  obtain ⟨x4, e4, e⟩ := bo e
  have u0 := hv2.1
  have u1 := hv2.2.1
  have h1 := side_i zg jR (by omega) (by omega) (by omega) e1
  have h2 := side_i zg jR (by omega) (by omega) (by omega) e2
  rw [d1, d2] at h1
  rw [d1, d3] at h2
  have h1' : x1.toInt = sd R u := h1
  have h3 := side_i zg jR (by rw [h1']; exact hv3.1) (by rw [h1']; exact hv3.2.1) (by omega) e3
  rw [h1', d4] at h3
  have h4 := holdsC zg jR e4
  rw [z0, h2] at h4
  rcases io e with ⟨g, e⟩ | ⟨g, e⟩
  · obtain rfl := Option.some.inj e
    refine .inl ⟨rfl, fun v a => ?_⟩
    rcases h4 with ⟨h, _⟩ | ⟨_, h⟩
    · rw [h] at g; exact absurd g (by decide)
    · exact h ⟨by omega, by omega, a.2.1⟩
  rcases h4 with ⟨_, _, _, on0⟩ | ⟨h, _⟩
  rotate_left
  · exact absurd h g
  obtain ⟨x5, e5, e⟩ := bo e
  have h5 := holdsC zg jR e5
  rw [z1, h3] at h5
  rcases io e with ⟨g5, e⟩ | ⟨g5, e⟩
  · obtain rfl := Option.some.inj e
    refine .inl ⟨rfl, fun v a => ?_⟩
    rcases h5 with ⟨h, _⟩ | ⟨_, h⟩
    · rw [h] at g5; exact absurd g5 (by decide)
    · exact h ⟨by omega, by omega, a.2.2.1⟩
  rcases h5 with ⟨_, _, _, on1⟩ | ⟨h, _⟩
  rotate_left
  · exact absurd h g5
  have a0 := on0.1
  have a1 := on0.2.1
  obtain ⟨w, ew, e⟩ := bo e
  have L := pair_l zg jR (by rw [h2]; exact a0) (by rw [h2]; exact a1) ew
  rw [h2, h3] at L
  rcases w with w | y
  · obtain rfl := Option.some.inj e
    have L' : ∀ s : Nat, s < 5 → tos R (tos R ((u / 5 : Nat) : Int) ((k / 5 : Nat) : Int)) s ≠ tos R (sd R u) ((k % 5 : Nat) : Int) := L
    refine .inl ⟨rfl, fun v a => ?_⟩
    refine L' (v % 5) (by omega) ?_
    rw [← a.2.2.2.1]
    exact a.2.2.2.2
  · obtain ⟨s, s5, hs, es⟩ : ∃ s : Nat, s < 5 ∧ y.toInt = (s : Int) ∧ tos R (tos R ((u / 5 : Nat) : Int) ((k / 5 : Nat) : Int)) s = tos R (sd R u) ((k % 5 : Nat) : Int) := L
    have e' : x2 * (5 : Int32) + y = x := Option.some.inj e
    have m1 : (x2 * (5 : Int32)).toInt = tos R ((u / 5 : Nat) : Int) ((k / 5 : Nat) : Int) * 5 := mul_ti h2 z5 (by omega) (by omega)
    have m2 : x.toInt = tos R ((u / 5 : Nat) : Int) ((k / 5 : Nat) : Int) * 5 + (s : Int) := by rw [← e']; exact add_ti m1 hs (by omega) (by omega)
    obtain ⟨c, hc⟩ : ∃ c : Nat, tos R ((u / 5 : Nat) : Int) ((k / 5 : Nat) : Int) = (c : Int) := ⟨(tos R ((u / 5 : Nat) : Int) ((k / 5 : Nat) : Int)).toNat, by omega⟩
    have c1 : ((c * 5 + s) / 5 : Nat) = c := by omega
    have c2 : ((c * 5 + s) % 5 : Nat) = s := by omega
    refine .inr ⟨c * 5 + s, by omega, by omega, on0, on1, ?_, ?_⟩
    · rw [c1, hc]
    · unfold sd
      rw [c1, c2, ← hc]
      exact es
/-- the search: found t, of D, in the row Q -/
def CQ (R : Mem) (f t : Nat) (D : Nat → Int) (Q : Nat → Nat) : Prop := 1 ≤ t ∧ D f = 0 ∧ (∀ i, i < t → Q i < 180 ∧ D (Q i) ≤ (i : Int) ∧ vst R (Q i)) ∧ (∀ u, u < 180 → 0 ≤ D u ∧ (D u < 1000000 → ∃ i, i < t ∧ Q i = u)) ∧ (∀ i j, i ≤ j → j < t → D (Q i) ≤ D (Q j)) ∧ (∀ u, u < 180 → D u < 1000000 → u = f ∨ ∃ v, v < 180 ∧ Aw1 R v u ∧ D v + 1 = D u) ∧ (List.range 180).countP (fun u => decide (D u < 1000000)) = t
def CC (R : Mem) (h : Nat) (D : Nat → Int) (Q : Nat → Nat) : Prop := ∀ i, i < h → ∀ v, Aw1 R (Q i) v → D v ≤ D (Q i) + 1
theorem CQ_180 {R : Mem} {f t : Nat} {D : Nat → Int} {Q : Nat → Nat} (c : CQ R f t D Q) : t ≤ 180 := by
  rw [← c.2.2.2.2.2.2]; exact cnt_le _ _
theorem CQ_add {R : Mem} {f t h w : Nat} {D D' : Nat → Int} {Q Q' : Nat → Nat} (c : CQ R f t D Q) (ht : h < t) (front : ∀ j, j < t → D (Q j) ≤ D (Q h) + 1) (w180 : w < 180) (hw : ¬ D w < 1000000) (ad : Aw1 R (Q h) w) (e1 : D' w = D (Q h) + 1) (e2 : ∀ u, u ≠ w → D' u = D u) (e3 : Q' t = w) (e4 : ∀ i, i ≠ t → Q' i = Q i) : t < 180 ∧ CQ R f (t + 1) D' Q' ∧ (∀ j, j < t + 1 → D' (Q' j) ≤ D' (Q' h) + 1) ∧ Q' h = Q h ∧ (∀ u, D u < 1000000 → D' u = D u) := by
  have t180 := CQ_180 c
  obtain ⟨c1, c2, c3, c4, c5, c6, c7⟩ := c
  have lt : t < 180 := by
    rcases Nat.lt_or_ge t 180 with q | q
    · exact q
    · exact absurd (of_decide_eq_true (cnt_all (P := fun u => decide (D u < 1000000)) (n := 180) (by omega) w w180)) hw
  have nf : ∀ u, D u < 1000000 → u ≠ w := fun u hu e => hw (by rw [← e]; exact hu)
  have kp : ∀ u, D u < 1000000 → D' u = D u := fun u hu => e2 u (nf u hu)
  have fd : ∀ i, i < t → D (Q i) < 1000000 := fun i hi => by have := (c3 i hi).2.1; omega
  have q : ∀ i, i < t → Q' i = Q i ∧ D' (Q' i) = D (Q i) := fun i hi => by
    have a := e4 i (by omega)
    exact ⟨a, by rw [a]; exact kp _ (fd i hi)⟩
  have qt : D' (Q' t) = D (Q h) + 1 := by rw [e3]; exact e1
  have h0 := (c4 (Q h) (c3 h ht).1).1
  refine ⟨lt, ⟨by omega, ?_, fun i hi => ?_, fun u hu => ?_, fun i j hij hj => ?_, fun u hu hd => ?_, ?_⟩, fun j hj => ?_, (q h ht).1, kp⟩
  · rw [kp f (by omega)]; exact c2
  · by_cases g : i = t
    · subst g
      rw [qt, e3]
      have := (c3 h ht).2.1
      exact ⟨w180, by omega, A1_v ad⟩
    · have := q i (by omega)
      rw [this.2, this.1]
      exact c3 i (by omega)
  · by_cases g : u = w
    · subst g
      exact ⟨by omega, fun _ => ⟨t, by omega, e3⟩⟩
    · rw [e2 u g]
      refine ⟨(c4 u hu).1, fun hd => ?_⟩
      obtain ⟨i, hi, e⟩ := (c4 u hu).2 hd
      exact ⟨i, by omega, by rw [(q i hi).1]; exact e⟩
  · by_cases g : j = t
    · subst g
      rw [qt]
      by_cases g2 : i = j
      · rw [g2, qt]; omega
      · rw [(q i (by omega)).2]; exact front i (by omega)
    · rw [(q i (by omega)).2, (q j (by omega)).2]; exact c5 i j hij (by omega)
  · by_cases g : u = w
    · subst g
      exact .inr ⟨Q h, (c3 h ht).1, ad, by rw [kp _ (fd h ht)]; exact e1.symm⟩
    · rw [e2 u g] at hd ⊢
      rcases c6 u hu hd with z | ⟨v, v1, v2, v3⟩
      · exact .inl z
      · exact .inr ⟨v, v1, v2, by rw [kp v (by omega)]; exact v3⟩
  · rw [cnt_put (c := w) (P' := fun u => decide (D u < 1000000)) w180 (fun d _ hd => by rw [e2 d hd]) (decide_eq_false hw) (decide_eq_true (by rw [e1]; have := fd h ht; have := (c3 h ht).2.1; omega)), c7]
  · rw [(q h ht).2]
    by_cases g : j = t
    · subst g; rw [qt]; omega
    · rw [(q j (by omega)).2]; exact front j (by omega)
theorem CC_add {R : Mem} {f t h : Nat} {D D' : Nat → Int} {Q Q' : Nat → Nat} (c : CQ R f t D Q) (ht : h ≤ t) (k : CC R h D Q) (e4 : ∀ i, i ≠ t → Q' i = Q i) (kp : ∀ u, D u < 1000000 → D' u = D u) : CC R h D' Q' := by
  have t180 := CQ_180 c
  intro i hi v hv
  rw [e4 i (by omega)] at hv ⊢
  have a := k i hi v hv
  have b := (c.2.2.1 i (by omega)).2.1
  rw [kp v (by omega), kp (Q i) (by omega)]
  exact a
end
section
/-! wardrobe: the class's search, as it runs -/
def Dm (N : Mem) (u : Nat) : Int := (N.1 159 u).toInt
def Qm (N : Mem) (i : Nat) : Nat := (N.1 160 i).toInt.toNat
def QFw (X N : Mem) : Prop := (∀ kx i, kx ≠ 159 → kx ≠ 160 → N.1 kx i = X.1 kx i) ∧ N.2 = X.2
def QO (t : Nat) (N : Mem) : Prop := ∀ i, i < t → 0 ≤ (N.1 160 i).toInt
theorem ZG_q {X N R : Mem} (zg : ZG X R) (f : QFw X N) : ZG N R :=
  ⟨by rw [f.1 3 2 (by omega) (by omega)]; exact zg.1, by rw [f.1 3 3 (by omega) (by omega)]; exact zg.2.1, fun i hi => by rw [f.1 4 i (by omega) (by omega)]; exact zg.2.2.1 i hi, zg.2.2.2⟩
theorem CQ_lt {R : Mem} {f t w : Nat} {D : Nat → Int} {Q : Nat → Nat} (c : CQ R f t D Q) (w180 : w < 180) (hw : ¬ D w < 1000000) : t < 180 := by
  have t180 := CQ_180 c
  have c7 := c.2.2.2.2.2.2
  rcases Nat.lt_or_ge t 180 with q | q
  · exact q
  · exact absurd (of_decide_eq_true (cnt_all (P := fun u => decide (D u < 1000000)) (n := 180) (by omega) w w180)) hw
theorem mp_in {X R : Mem} (zg : ZG X R) (jR : J R) {f t0 h : Nat} {v4 a0 : Int32} {N0 : Mem} {y : Int32 × Mem} (h4 : v4.toInt = (h : Int)) (ht : h < t0) (a0t : a0.toInt = (t0 : Int)) (fx : QFw X N0) (qo : QO t0 N0) (c : CQ R f t0 (Dm N0) (Qm N0)) (cc : CC R h (Dm N0) (Qm N0)) (fr : ∀ j, j < t0 → Dm N0 (Qm N0 j) ≤ Dm N0 (Qm N0 h) + 1) (e : iter (lb_Ways_measurePairs_68 v4) FU (a0, (0 : Int32), N0) = some y) : ∃ t : Nat, y.1.toInt = (t : Int) ∧ h < t ∧ QFw X y.2 ∧ QO t y.2 ∧ CQ R f t (Dm y.2) (Qm y.2) ∧ CC R (h + 1) (Dm y.2) (Qm y.2) ∧ ∀ j, j < t → Dm y.2 (Qm y.2 j) ≤ Dm y.2 (Qm y.2 h) + 1 := by
  have z25 : (25 : Int32).toInt = 25 := rfl
  have z180 : (180 : Int32).toInt = 180 := rfl
  have kF : (1000000 : Int32).toInt = 1000000 := rfl
  have zm := om
  refine it_r (I := fun s : Int32 × Int32 × Mem => ∃ t k : Nat, s.1.toInt = (t : Int) ∧ s.2.1.toInt = (k : Int) ∧ k ≤ 25 ∧ h < t ∧ QFw X s.2.2 ∧ QO t s.2.2 ∧ CQ R f t (Dm s.2.2) (Qm s.2.2) ∧ CC R h (Dm s.2.2) (Qm s.2.2) ∧ (∀ j, j < t → Dm s.2.2 (Qm s.2.2 j) ≤ Dm s.2.2 (Qm s.2.2 h) + 1) ∧ ∀ k', k' < k → ∀ v, Ak R (Qm s.2.2 h) k' v → Dm s.2.2 v ≤ Dm s.2.2 (Qm s.2.2 h) + 1)
    (Q := fun y : Int32 × Mem => ∃ t : Nat, y.1.toInt = (t : Int) ∧ h < t ∧ QFw X y.2 ∧ QO t y.2 ∧ CQ R f t (Dm y.2) (Qm y.2) ∧ CC R (h + 1) (Dm y.2) (Qm y.2) ∧ ∀ j, j < t → Dm y.2 (Qm y.2 j) ≤ Dm y.2 (Qm y.2 h) + 1) ?_ e ⟨t0, 0, a0t, rfl, by omega, ht, fx, qo, c, cc, fr, fun k' hk' => absurd hk' (by omega)⟩
  clear fx qo c cc fr e a0t ht
  rintro ⟨a, k, N⟩ r ⟨t, kk, ha, hk, k25, ht, fx, qo, c, cc, fr, cl⟩ e
  dsimp only at ha hk fx qo c cc fr cl
  unfold lb_Ways_measurePairs_68 at e
  dsimp only at e
  rcases io e with ⟨g, e⟩ | ⟨g, e⟩
  · have := q_le g
    obtain rfl := Option.some.inj e
    have : kk = 25 := by omega
    subst this
    refine ⟨t, ha, ht, fx, qo, c, fun i hi v hv => ?_, fr⟩
    by_cases q : i = h
    · subst q
      obtain ⟨k', hk', a'⟩ := Ak_A.mp hv
      exact cl k' hk' v a'
    · exact cc i (by omega) v hv
  have g1 := q_ng g
  have t180 := CQ_180 c
  obtain ⟨_, e⟩ := io_n e
  obtain ⟨x6, e6, e⟩ := bo e
  rw [q_nat h4] at e6 e
  have qh : (N.1 160 h).toInt = ((Qm N h : Nat) : Int) := by have := qo h ht; unfold Qm; omega
  have c3 := c.2.2.1 h ht
  have P := pair_r (ZG_q zg fx) jR qh c3.2.2 hk (by omega) e6
  have b1 : (k + (1 : Int32)).toInt = ((kk + 1 : Nat) : Int) := add_ti hk o1 (by omega) (by omega)
  have same : (∀ v, Ak R (Qm N h) kk v → Dm N v ≤ Dm N (Qm N h) + 1) → ∀ k', k' < kk + 1 → ∀ v, Ak R (Qm N h) k' v → Dm N v ≤ Dm N (Qm N h) + 1 := fun z k' hk' v hv => by
    by_cases q : k' = kk
    · subst q; exact z v hv
    · exact cl k' (by omega) v hv
  rcases io e with ⟨g6, e⟩ | ⟨g6, e⟩
  · obtain rfl := Option.some.inj e
    refine ⟨t, kk + 1, ha, b1, by omega, ht, fx, qo, c, cc, fr, same (fun v hv => ?_)⟩
    rcases P with ⟨_, p⟩ | ⟨w, hw, _⟩
    · exact absurd hv (p v)
    · have := q_eq g6; omega
  rcases P with ⟨p, _⟩ | ⟨w, hw, aw⟩
  · exact absurd (Int32.toInt_inj.mp (p.trans zm.symm)) g6
  obtain ⟨_, e⟩ := io_n e
  rw [q_nat hw] at e
  rcases io e with ⟨g7, e⟩ | ⟨g7, e⟩
  · have h7 := q_lt g7
    obtain rfl := Option.some.inj e
    refine ⟨t, kk + 1, ha, b1, by omega, ht, fx, qo, c, cc, fr, same (fun v hv => ?_)⟩
    have ev := Ak_f jR hv aw
    subst ev
    obtain ⟨j, hj, ej⟩ := (c.2.2.2.1 v aw.1).2 (by show (N.1 159 v).toInt < 1000000; omega)
    rw [← ej]; exact fr j hj
  have g7' : ¬ Dm N w < 1000000 := by have := q_nl g7; show ¬ (N.1 159 w).toInt < 1000000; omega
  rcases io e with ⟨g8, e⟩ | ⟨g8, e⟩
  · have := q_le g8; have := CQ_lt c aw.1 g7'; omega
  obtain ⟨_, e⟩ := io_n e
  obtain ⟨_, e⟩ := io_n e
  obtain ⟨_, e⟩ := io_n e
  obtain ⟨M7, m7, e⟩ := mo e
  obtain ⟨_, e⟩ := io_n e
  obtain ⟨M8, m8, e⟩ := mo e
  obtain rfl := Option.some.inj e
  rw [q_nat ha] at m8
  have dh0 := (c.2.2.2.1 (Qm N h) c3.1).1
  have dh1 := c3.2.1
  have e1 : Dm M8 w = Dm N (Qm N h) + 1 := by
    show (M8.1 159 w).toInt = (N.1 159 (Qm N h)).toInt + 1
    rw [m8, si_ne (by omega), m7, si_eq]
    exact add_ti (show (N.1 159 (Qm N h)).toInt = Dm N (Qm N h) from rfl) o1 (by show _ ≤ Dm N (Qm N h) + 1; omega) (by show Dm N (Qm N h) + 1 ≤ _; omega)
  have e2 : ∀ u, u ≠ w → Dm M8 u = Dm N u := fun u hu => by
    show (M8.1 159 u).toInt = (N.1 159 u).toInt
    rw [m8, si_ne (by omega), m7, si_ne (by omega)]
  have e3' : (M8.1 160 t).toInt = (w : Int) := by rw [m8, si_eq]; exact hw
  have e3 : Qm M8 t = w := by unfold Qm; omega
  have e4' : ∀ i, i ≠ t → M8.1 160 i = N.1 160 i := fun i hi => by rw [m8, si_ne (by omega), m7, si_ne (by omega)]
  have e4 : ∀ i, i ≠ t → Qm M8 i = Qm N i := fun i hi => by unfold Qm; rw [e4' i hi]
  obtain ⟨lt, c', fr', q', kp⟩ := CQ_add c ht fr aw.1 g7' (Ak_A.mpr ⟨kk, by omega, aw⟩) e1 e2 e3 e4
  have a1 : (a + (1 : Int32)).toInt = ((t + 1 : Nat) : Int) := add_ti ha o1 (by omega) (by omega)
  refine ⟨t + 1, kk + 1, a1, b1, by omega, by omega, ⟨fun kx i h1 h2 => ?_, ?_⟩, fun i hi => ?_, c', CC_add c (by omega) cc e4 kp, fr', fun k' hk' v hv => ?_⟩
  · show M8.1 kx i = X.1 kx i
    rw [m8, si_ne (by omega), m7, si_ne (by omega)]; exact fx.1 kx i h1 h2
  · show M8.2 = X.2
    rw [m8, si_2, m7, si_2]; exact fx.2
  · show 0 ≤ (M8.1 160 i).toInt
    by_cases q : i = t
    · subst q; omega
    · rw [e4' i q]; exact qo i (by omega)
  · dsimp only at hv ⊢
    rw [q'] at hv ⊢
    have kh := kp (Qm N h) (by omega)
    by_cases q : k' = kk
    · subst q
      have ev := Ak_f jR hv aw
      subst ev
      rw [e1, kh]; omega
    · have := cl k' (by omega) v hv
      rw [kp v (by omega), kh]; exact this
theorem mp_out {X R : Mem} (zg : ZG X R) (jR : J R) {f : Nat} {N0 x : Mem} (fx : QFw X N0) (qo : QO 1 N0) (c : CQ R f 1 (Dm N0) (Qm N0)) (e : iter (lb_Ways_measurePairs_51) FU ((1 : Int32), (0 : Int32), N0) = some x) : QFw X x ∧ ∃ t, CQ R f t (Dm x) (Qm x) ∧ CC R t (Dm x) (Qm x) := by
  have z180 : (180 : Int32).toInt = 180 := rfl
  have fr0 : ∀ j, j < 1 → Dm N0 (Qm N0 j) ≤ Dm N0 (Qm N0 0) + 1 := fun j hj => by
    have : j = 0 := by omega
    subst this
    omega
  refine it_r (I := fun s : Int32 × Int32 × Mem => ∃ t h : Nat, s.1.toInt = (t : Int) ∧ s.2.1.toInt = (h : Int) ∧ h ≤ t ∧ QFw X s.2.2 ∧ QO t s.2.2 ∧ CQ R f t (Dm s.2.2) (Qm s.2.2) ∧ CC R h (Dm s.2.2) (Qm s.2.2) ∧ (h < t → ∀ j, j < t → Dm s.2.2 (Qm s.2.2 j) ≤ Dm s.2.2 (Qm s.2.2 h) + 1))
    (Q := fun x : Mem => QFw X x ∧ ∃ t, CQ R f t (Dm x) (Qm x) ∧ CC R t (Dm x) (Qm x)) ?_ e ⟨1, 0, rfl, rfl, by omega, fx, qo, c, fun i hi => absurd hi (by omega), fun hl j hj => fr0 j hj⟩
  clear fx qo c e
  rintro ⟨a, b, N⟩ r ⟨t, h, ha, hb, ht, fx, qo, c, cc, fr⟩ e
  dsimp only at ha hb fx qo c cc fr
  have t180 := CQ_180 c
  unfold lb_Ways_measurePairs_51 at e
  dsimp only at e
  rcases io e with ⟨g, e⟩ | ⟨g, e⟩
  · have := q_le g
    obtain rfl := Option.some.inj e
    have : h = t := by omega
    subst this
    exact ⟨fx, h, c, cc⟩
  have g1 := q_ng g
  rcases io e with ⟨g, e⟩ | ⟨g, e⟩
  · have := q_le g
    obtain rfl := Option.some.inj e
    have : h = t := by omega
    subst this
    exact ⟨fx, h, c, cc⟩
  obtain ⟨x13, e13, e⟩ := bo e
  obtain rfl := Option.some.inj e
  have hlt : h < t := by omega
  obtain ⟨t', h1, h2, h3, h4, h5, h6, h7⟩ := mp_in zg jR hb hlt ha fx qo c cc (fr hlt) e13
  have b1 : (b + (1 : Int32)).toInt = ((h + 1 : Nat) : Int) := add_ti hb o1 (by omega) (by omega)
  refine ⟨t', h + 1, h1, b1, by omega, h3, h4, h5, h6, fun hl j hj => ?_⟩
  have m := h5.2.2.2.2.1 h (h + 1) (by omega) hl
  have := h7 j hj
  dsimp only
  omega
theorem mp_z {X x : Mem} {v2 : Int32} (e : iter (lb_Ways_measurePairs_2 v2) FU ((0 : Int32), X) = some x) : QFw X x ∧ ∀ u, u < 180 → (x.1 159 u).toInt = 1000000 := by
  have z180 : (180 : Int32).toInt = 180 := rfl
  refine it_r (I := fun s : Int32 × Mem => ∃ i : Nat, i ≤ 180 ∧ s.1.toInt = (i : Int) ∧ QFw X s.2 ∧ ∀ u, u < i → (s.2.1 159 u).toInt = 1000000) (Q := fun x : Mem => QFw X x ∧ ∀ u, u < 180 → (x.1 159 u).toInt = 1000000) ?_ e ⟨0, by omega, rfl, ⟨fun _ _ _ _ => rfl, rfl⟩, fun u hu => absurd hu (by omega)⟩
  rintro ⟨k, N⟩ r ⟨i, li, hi, fx, hd⟩ e
  dsimp only at hi fx hd
  unfold lb_Ways_measurePairs_2 at e
  dsimp only at e
  rcases io e with ⟨g, e⟩ | ⟨g, e⟩
  · have := q_le g
    obtain rfl := Option.some.inj e
    exact ⟨fx, fun u hu => hd u (by omega)⟩
  have g1 := q_ng g
  obtain ⟨_, e⟩ := io_n e
  obtain ⟨M1, m1, e⟩ := mo e
  obtain rfl := Option.some.inj e
  rw [q_nat hi] at m1
  have b1 : (k + (1 : Int32)).toInt = ((i + 1 : Nat) : Int) := add_ti hi o1 (by omega) (by omega)
  refine ⟨i + 1, by omega, b1, ⟨fun kx j h1 h2 => ?_, ?_⟩, fun u hu => ?_⟩
  · show M1.1 kx j = _
    rw [m1, si_ne (by omega)]; exact fx.1 kx j h1 h2
  · show M1.2 = _
    rw [m1, si_2]; exact fx.2
  · show (M1.1 159 u).toInt = _
    rw [m1]
    by_cases q : u = i
    · subst q; rw [si_eq]; rfl
    · rw [si_ne (by omega)]; exact hd u (by omega)
theorem mp_r {X R x : Mem} (zg : ZG X R) (jR : J R) {v2 : Int32} {c : Nat} (h2 : v2.toInt = (c : Int)) (on0 : onN R 0 c) (on1 : onN R 1 c) (e : f_Ways_measurePairs v2 X = some x) : QFw X x ∧ ∃ t, CQ R (5 * c + 4) t (Dm x) (Qm x) ∧ CC R t (Dm x) (Qm x) := by
  have z5 : (5 : Int32).toInt = 5 := rfl
  have z4 := o4
  have wh := awh jR
  have q0 : (0 : Int32).toNatClampNeg = 0 := rfl
  have c36 := on0.2.1
  unfold f_Ways_measurePairs at e
  obtain ⟨x3, e3, e⟩ := bo e
  obtain ⟨M4, m4, e⟩ := mo e
  rw [q0] at m4 e
  obtain ⟨_, e⟩ := io_n e
  obtain ⟨M5, m5, e⟩ := mo e
  obtain ⟨x16, e16, e⟩ := bo e
  obtain rfl := Option.some.inj e
  obtain ⟨fz, hz⟩ := mp_z e3
  have i4 : (v2 * (5 : Int32) + (4 : Int32)).toInt = ((5 * c + 4 : Nat) : Int) := by rw [add_ti (mul_ti h2 z5 (by omega) (by omega)) z4 (by omega) (by omega)]; omega
  have q4 : M4.1 160 0 = v2 * (5 : Int32) + (4 : Int32) := by rw [m4, si_eq]
  rw [q4, q_nat i4] at m5
  have k5 : (5 * c + 4) / 5 = c := by omega
  have k6 : (5 * c + 4) % 5 = 4 := by omega
  have fD : (M5.1 159 (5 * c + 4)).toInt = 0 := by rw [m5, si_eq]; rfl
  have oD : ∀ u, u < 180 → u ≠ 5 * c + 4 → (M5.1 159 u).toInt = 1000000 := fun u hu hn => by rw [m5, si_ne (by omega), m4, si_ne (by omega)]; exact hz u hu
  have fQ : (M5.1 160 0).toInt = ((5 * c + 4 : Nat) : Int) := by rw [m5, si_ne (by omega), q4]; exact i4
  have Q0 : Qm M5 0 = 5 * c + 4 := by unfold Qm; omega
  have sv : sd R (5 * c + 4) = (c : Int) := by unfold sd tos; rw [k6, if_pos (by decide), k5]
  have vf : vst R (5 * c + 4) := ⟨by omega, by rw [k5]; exact on0, by rw [sv]; exact on1⟩
  have dd : ∀ u, u < 180 → Dm M5 u < 1000000 → u = 5 * c + 4 := fun u hu hd => by
    by_cases q : u = 5 * c + 4
    · exact q
    · have := oD u hu q
      have hd' : (M5.1 159 u).toInt < 1000000 := hd
      omega
  refine mp_out zg jR (f := 5 * c + 4) (N0 := M5) ⟨fun kx i h1 h2 => ?_, ?_⟩ (fun i hi => ?_) ⟨by omega, fD, fun i hi => ?_, fun u hu => ⟨?_, fun hd => ⟨0, by omega, by rw [Q0, dd u hu hd]⟩⟩, fun i j hij hj => ?_, fun u hu hd => .inl (dd u hu hd), ?_⟩ e16
  · rw [m5, si_ne (by omega), m4, si_ne (by omega)]; exact fz.1 kx i h1 h2
  · rw [m5, si_2, m4, si_2]; exact fz.2
  · have : i = 0 := by omega
    subst this; omega
  · have : i = 0 := by omega
    subst this
    rw [Q0]
    exact ⟨by omega, by show (M5.1 159 (5 * c + 4)).toInt ≤ _; omega, vf⟩
  · show 0 ≤ (M5.1 159 u).toInt
    by_cases q : u = 5 * c + 4
    · subst q; omega
    · have := oD u hu q; omega
  · have : i = j := by omega
    subst this; exact Int.le_refl _
  · rw [cnt_put (c := 5 * c + 4) (P' := fun _ => false) vf.1 (fun d hd hn => decide_eq_false (fun w => hn (dd d hd w))) rfl (decide_eq_true (by show (M5.1 159 (5 * c + 4)).toInt < 1000000; omega)), List.countP_eq_zero.mpr (fun _ _ => by decide)]
end
section
/-! wardrobe: the reference's search is closed -/
def DR (N : Mem) (x : Nat) : Int := (N.1 185 x).toInt
def TWd (q : Int) (acc : Int32) (M : Mem) (a : Int32) (N : Mem) : Prop := (∀ x, DR M x < 1000000 → N.1 185 x = M.1 185 x) ∧ (∀ x, x < 1296 → DR N x < 1000000 → DR M x < 1000000 ∨ DR N x = q + 1) ∧ (a = 0 → acc = 0 ∧ ∀ x, N.1 185 x = M.1 185 x)
theorem TWd_r {q : Int} {a : Int32} {M : Mem} : TWd q a M a M := ⟨fun _ _ => rfl, fun _ _ h => .inl h, fun h => ⟨h, fun _ => rfl⟩⟩
theorem TWd_t {q : Int} (hq : q ≤ 2000) {a b c : Int32} {M N K : Mem} (h : TWd q a M b N) (g : TWd q b N c K) : TWd q a M c K := by
  obtain ⟨h1, h2, h3⟩ := h
  obtain ⟨g1, g2, g3⟩ := g
  have e : ∀ x, DR M x < 1000000 → DR N x < 1000000 := fun x hx => by unfold DR at hx ⊢; rw [h1 x hx]; exact hx
  refine ⟨fun x hx => (g1 x (e x hx)).trans (h1 x hx), fun x hx hd => ?_, fun z => ⟨(h3 (g3 z).1).1, fun x => ((g3 z).2 x).trans ((h3 (g3 z).1).2 x)⟩⟩
  rcases g2 x hx hd with w | w
  · rcases h2 x hx w with u | u
    · exact .inl u
    · refine .inr ?_
      have : DR K x = DR N x := congrArg Int32.toInt (g1 x w)
      omega
  · exact .inr w
def CLl (B : Mem) (q : Int) (N : Mem) (x : Nat) : Prop := ∀ code : Nat, code < 45 → code % 10 ≤ 4 → ∀ y : Nat, crR B ((x : Int) / 36) ((x : Int) % 36) (code : Int) (y : Int) → DR N y ≤ q + 1
theorem CLl_k {B M N : Mem} {q : Int} {x : Nat} (hq : q ≤ 2000) (kp : ∀ x, DR M x < 1000000 → N.1 185 x = M.1 185 x) (h : CLl B q M x) : CLl B q N x := fun code h1 h2 y h3 => by
  have a := h code h1 h2 y h3
  have b : DR N y = DR M y := congrArg Int32.toInt (kp y (by omega))
  omega
theorem w138_r {B M : Mem} {q : Int} (hq : 0 ≤ q ∧ q ≤ 2000) {v1 v4 v5 v6 acc : Int32} {a b : Nat} (h4 : v4.toInt = q) (h5 : v5.toInt = (a : Int)) (h6 : v6.toInt = (b : Int)) (a36 : a < 36) (b36 : b < 36) (jM : J M) (fM : Fr W85 B M) (hle : ∀ x, x < 1296 → DR M x < 1000000 → DR M x ≤ q + 1) {x : Int32 × Mem} (e : iter (lb_Mod_wardrobe_138 v1 v4 v5 v6) FU (acc, (0 : Int32), M) = some x) : J x.2 ∧ Fr W85 B x.2 ∧ TWd q acc M x.1 x.2 ∧ CLl B q x.2 (36 * a + b) := by
  have z45 : (45 : Int32).toInt = 45 := rfl
  have z10 : (10 : Int32).toInt = 10 := rfl
  have kF : (1000000 : Int32).toInt = 1000000 := rfl
  have z4 := o4
  have zm := om
  have ea : (((36 * a + b : Nat) : Int)) / 36 = (a : Int) := by omega
  have eb : (((36 * a + b : Nat) : Int)) % 36 = (b : Int) := by omega
  refine it_r (I := fun s : Int32 × Int32 × Mem => ∃ k : Nat, s.2.1.toInt = (k : Int) ∧ k ≤ 45 ∧ J s.2.2 ∧ Fr W85 B s.2.2 ∧ TWd q acc M s.1 s.2.2 ∧ ∀ code : Nat, code < k → code % 10 ≤ 4 → ∀ y : Nat, crR B (a : Int) (b : Int) (code : Int) (y : Int) → DR s.2.2 y ≤ q + 1)
    (Q := fun x : Int32 × Mem => J x.2 ∧ Fr W85 B x.2 ∧ TWd q acc M x.1 x.2 ∧ CLl B q x.2 (36 * a + b)) ?_ e ⟨0, rfl, by omega, jM, fM, TWd_r, fun code h => absurd h (by omega)⟩
  rintro ⟨c, kv, N⟩ r ⟨k, hk, k45, jN, fN, tw, cl⟩ e
  dsimp only at hk jN fN tw cl
  unfold lb_Mod_wardrobe_138 at e
  dsimp only at e
  rcases io e with ⟨g, e⟩ | ⟨g, e⟩
  · have := q_le g
    obtain rfl := Option.some.inj e
    refine ⟨jN, fN, tw, fun code h1 h2 y h3 => ?_⟩
    rw [ea, eb] at h3
    exact cl code (by omega) h2 y h3
  have g1 := q_ng g
  have b1 : (kv + (1 : Int32)).toInt = ((k + 1 : Nat) : Int) := add_ti hk o1 (by omega) (by omega)
  have rm : (kv - kv / (10 : Int32) * (10 : Int32)).toInt = ((k % 10 : Nat) : Int) := by rw [rem_ti hk z10 (by omega) (by omega)]; omega
  have nx : ∀ K : Mem, (∀ y, DR N y < 1000000 → K.1 185 y = N.1 185 y) → (k % 10 ≤ 4 → ∀ y : Nat, crR B (a : Int) (b : Int) (k : Int) (y : Int) → DR K y ≤ q + 1) → ∀ code : Nat, code < k + 1 → code % 10 ≤ 4 → ∀ y : Nat, crR B (a : Int) (b : Int) (code : Int) (y : Int) → DR K y ≤ q + 1 := by
    intro K kp z code h1 h2 y h3
    by_cases w : code = k
    · subst w; exact z h2 y h3
    · have a1 := cl code (by omega) h2 y h3
      have a2 : DR K y = DR N y := congrArg Int32.toInt (kp y (by omega))
      omega
  rcases io e with ⟨g, e⟩ | ⟨g, e⟩
  · have g2 := q_le g
    obtain ⟨x10, e10, e⟩ := bo e
    obtain ⟨c1, c2, c3⟩ := some_of (fs_carryTo jN v5 v6 kv (by omega) (by omega) (by omega)) e10
    rw [h5, h6, hk] at c1
    have c1 := (crR_c (W85.map fN)).mp c1
    unfold j_Mod_wardrobe_168_138 at e
    rcases io e with ⟨g3, e⟩ | ⟨g3, e⟩
    · have := q_eq g3
      obtain rfl := Option.some.inj e
      refine ⟨k + 1, b1, by omega, jN, fN, tw, nx N (fun _ _ => rfl) (fun _ y h3 => ?_)⟩
      have := crR_fun c1 h3
      omega
    have g3' := q_ne g3
    obtain ⟨y0, hy0⟩ := ti_ofn (v := x10) (by omega)
    rw [hy0] at c1
    have same : ∀ y : Nat, crR B (a : Int) (b : Int) (k : Int) (y : Int) → y = y0 := fun y h3 => by
      have := crR_fun c1 h3; omega
    obtain ⟨_, e⟩ := io_n e
    rw [q_nat hy0] at e
    rcases io e with ⟨g5, e⟩ | ⟨g5, e⟩
    · have far : 1000000 ≤ (N.1 185 y0).toInt := by have := q_le g5; omega
      obtain ⟨_, e⟩ := io_n e
      obtain ⟨M11, m11, e⟩ := mo e
      obtain rfl := Option.some.inj e
      have ev : (v4 + (1 : Int32)).toInt = q + 1 := add_ti h4 o1 (by omega) (by omega)
      have d0 : DR M11 y0 = q + 1 := by unfold DR; rw [m11, si_eq]; exact ev
      have dn : ∀ y, y ≠ y0 → M11.1 185 y = N.1 185 y := fun y hy => by rw [m11, si_ne (by omega)]
      have kp : ∀ y, DR N y < 1000000 → M11.1 185 y = N.1 185 y := fun y hy => dn y (fun w => by subst w; unfold DR at hy; omega)
      refine ⟨k + 1, b1, by omega, ?_, ?_, TWd_t hq.2 tw ⟨kp, fun y hy hd => ?_, fun w => absurd w (by show ¬ (1 : Int32) = 0; decide)⟩, nx M11 kp (fun _ y h3 => ?_)⟩
      · show J M11
        rw [m11]; exact Jw_185 jN _ _ (by omega) (by omega)
      · show Fr W85 B M11
        rw [m11]; exact fN.i rfl
      · have hd : DR M11 y < 1000000 := hd
        by_cases w : y = y0
        · subst w; exact .inr d0
        · refine .inl ?_
          have : DR M11 y = DR N y := congrArg Int32.toInt (dn y w)
          omega
      · rw [same y h3]; omega
    · have nf : (N.1 185 y0).toInt < 1000000 := by have := q_ng g5; omega
      obtain rfl := Option.some.inj e
      refine ⟨k + 1, b1, by omega, jN, fN, tw, nx N (fun _ _ => rfl) (fun _ y h3 => ?_)⟩
      rw [same y h3]
      rcases tw.2.1 y0 (by omega) nf with w | w
      · have a1 := hle y0 (by omega) w
        have a2 : DR N y0 = DR M y0 := congrArg Int32.toInt (tw.1 y0 w)
        omega
      · omega
  · have g2 := q_ng g
    unfold j_Mod_wardrobe_168_138 at e
    rw [if_pos rfl] at e
    obtain rfl := Option.some.inj e
    exact ⟨k + 1, b1, by omega, jN, fN, tw, nx N (fun _ _ => rfl) (fun w => absurd w (by omega))⟩
theorem hle_t {q : Int} {acc a : Int32} {M N : Mem} (hle : ∀ x, x < 1296 → DR M x < 1000000 → DR M x ≤ q + 1) (tw : TWd q acc M a N) : ∀ x, x < 1296 → DR N x < 1000000 → DR N x ≤ q + 1 := by
  intro x hx hd
  rcases tw.2.1 x hx hd with w | w
  · have a1 := hle x hx w
    have a2 : DR N x = DR M x := congrArg Int32.toInt (tw.1 x w)
    omega
  · omega
theorem lev_t {q : Int} (hq : q ≤ 2000) {acc a : Int32} {M N : Mem} (tw : TWd q acc M a N) {x : Nat} (hx : x < 1296) (h : DR N x = q) : DR M x = q := by
  rcases tw.2.1 x hx (by omega) with w | w
  · have a2 : DR N x = DR M x := congrArg Int32.toInt (tw.1 x w)
    omega
  · omega
theorem w105_r {B M : Mem} {q : Int} (hq : 0 ≤ q ∧ q ≤ 2000) {v1 v4 v5 acc : Int32} {a : Nat} (h4 : v4.toInt = q) (h5 : v5.toInt = (a : Int)) (a36 : a < 36) (jM : J M) (fM : Fr W85 B M) (hle : ∀ x, x < 1296 → DR M x < 1000000 → DR M x ≤ q + 1) {x : Int32 × Mem} (e : iter (lb_Mod_wardrobe_105 v1 v4 v5) FU (acc, (0 : Int32), M) = some x) : J x.2 ∧ Fr W85 B x.2 ∧ TWd q acc M x.1 x.2 ∧ ∀ b : Nat, (b : Int) < xw B * xh B → DR x.2 (36 * a + b) = q → CLl B q x.2 (36 * a + b) := by
  have z36 : (36 : Int32).toInt = 36 := rfl
  refine it_r (I := fun s : Int32 × Int32 × Mem => ∃ k : Nat, s.2.1.toInt = (k : Int) ∧ k ≤ 36 ∧ J s.2.2 ∧ Fr W85 B s.2.2 ∧ TWd q acc M s.1 s.2.2 ∧ ∀ b : Nat, b < k → DR s.2.2 (36 * a + b) = q → CLl B q s.2.2 (36 * a + b))
    (Q := fun x : Int32 × Mem => J x.2 ∧ Fr W85 B x.2 ∧ TWd q acc M x.1 x.2 ∧ ∀ b : Nat, (b : Int) < xw B * xh B → DR x.2 (36 * a + b) = q → CLl B q x.2 (36 * a + b)) ?_ e ⟨0, rfl, by omega, jM, fM, TWd_r, fun b h => absurd h (by omega)⟩
  rintro ⟨c, kv, N⟩ r ⟨k, hk, k36, jN, fN, tw, cl⟩ e
  dsimp only at hk jN fN tw cl
  unfold lb_Mod_wardrobe_105 at e
  dsimp only at e
  obtain ⟨x9, e9, e⟩ := bo e
  have e9 := cells_e.symm.trans e9
  obtain rfl := Option.some.inj e9
  have we := wh_ti jN
  have wh := awh jN
  obtain ⟨mw, mh, _⟩ := mapR_c (W85.map fN)
  rcases io e with ⟨g, e⟩ | ⟨g, e⟩
  · have := q_le g
    obtain rfl := Option.some.inj e
    exact ⟨jN, fN, tw, fun b hb hd => cl b (by rw [← mw, ← mh] at hb; omega) hd⟩
  have g1 := q_ng g
  have b1 : (kv + (1 : Int32)).toInt = ((k + 1 : Nat) : Int) := add_ti hk o1 (by omega) (by omega)
  have ix : ((36 : Int32) * v5 + kv).toInt = ((36 * a + k : Nat) : Int) := by rw [add_ti (mul_ti z36 h5 (by omega) (by omega)) hk (by omega) (by omega)]; omega
  obtain ⟨_, e⟩ := io_n e
  rw [q_nat ix] at e
  rcases io e with ⟨g2, e⟩ | ⟨g2, e⟩
  · obtain ⟨x16, e16, e⟩ := bo e
    obtain rfl := Option.some.inj e
    obtain ⟨j1, f1, t1, c1⟩ := w138_r hq h4 h5 hk a36 (by omega) jN fN (hle_t hle tw) e16
    refine ⟨k + 1, b1, by omega, j1, f1, TWd_t hq.2 tw t1, fun b hb hd => ?_⟩
    by_cases w : b = k
    · subst w; exact c1
    · exact CLl_k hq.2 t1.1 (cl b (by omega) (lev_t hq.2 t1 (by omega) hd))
  · obtain rfl := Option.some.inj e
    refine ⟨k + 1, b1, by omega, jN, fN, tw, fun b hb hd => ?_⟩
    by_cases w : b = k
    · subst w
      exact absurd (Int32.toInt_inj.mp (show (N.1 185 (36 * a + b)).toInt = v4.toInt by rw [h4]; exact hd)) g2
    · exact cl b (by omega) hd
theorem w93_r {B M : Mem} {q : Int} (hq : 0 ≤ q ∧ q ≤ 2000) {v1 v4 acc : Int32} (h4 : v4.toInt = q) (jM : J M) (fM : Fr W85 B M) (hle : ∀ x, x < 1296 → DR M x < 1000000 → DR M x ≤ q + 1) {x : Int32 × Mem} (e : iter (lb_Mod_wardrobe_93 v1 v4) FU (acc, (0 : Int32), M) = some x) : TWd q acc M x.1 x.2 ∧ ∀ a b : Nat, (a : Int) < xw B * xh B → (b : Int) < xw B * xh B → DR x.2 (36 * a + b) = q → CLl B q x.2 (36 * a + b) := by
  have wB : xw B * xh B ≤ 36 := by
    obtain ⟨mw, mh, _⟩ := mapR_c (W85.map fM)
    rw [← mw, ← mh]; exact (awh jM).2
  have key : J x.2 ∧ Fr W85 B x.2 ∧ TWd q acc M x.1 x.2 ∧ ∀ a b : Nat, (a : Int) < xw B * xh B → (b : Int) < xw B * xh B → DR x.2 (36 * a + b) = q → CLl B q x.2 (36 * a + b) := by
    refine it_r (I := fun s : Int32 × Int32 × Mem => ∃ k : Nat, s.2.1.toInt = (k : Int) ∧ k ≤ 36 ∧ J s.2.2 ∧ Fr W85 B s.2.2 ∧ TWd q acc M s.1 s.2.2 ∧ ∀ a b : Nat, a < k → (b : Int) < xw B * xh B → DR s.2.2 (36 * a + b) = q → CLl B q s.2.2 (36 * a + b))
      (Q := fun x : Int32 × Mem => J x.2 ∧ Fr W85 B x.2 ∧ TWd q acc M x.1 x.2 ∧ ∀ a b : Nat, (a : Int) < xw B * xh B → (b : Int) < xw B * xh B → DR x.2 (36 * a + b) = q → CLl B q x.2 (36 * a + b)) ?_ e ⟨0, rfl, by omega, jM, fM, TWd_r, fun a b h => absurd h (by omega)⟩
    rintro ⟨c, kv, N⟩ r ⟨k, hk, k36, jN, fN, tw, cl⟩ e
    dsimp only at hk jN fN tw cl
    unfold lb_Mod_wardrobe_93 at e
    dsimp only at e
    obtain ⟨x9, e9, e⟩ := bo e
    have e9 := cells_e.symm.trans e9
    obtain rfl := Option.some.inj e9
    have we := wh_ti jN
    have wh := awh jN
    obtain ⟨mw, mh, _⟩ := mapR_c (W85.map fN)
    rcases io e with ⟨g, e⟩ | ⟨g, e⟩
    · have := q_le g
      obtain rfl := Option.some.inj e
      exact ⟨jN, fN, tw, fun a b ha hb hd => cl a b (by rw [← mw, ← mh] at ha; omega) hb hd⟩
    have g1 := q_ng g
    have b1 : (kv + (1 : Int32)).toInt = ((k + 1 : Nat) : Int) := add_ti hk o1 (by omega) (by omega)
    obtain ⟨x19, e19, e⟩ := bo e
    obtain rfl := Option.some.inj e
    obtain ⟨j1, f1, t1, c1⟩ := w105_r hq h4 hk (by omega) jN fN (hle_t hle tw) e19
    refine ⟨k + 1, b1, by omega, j1, f1, TWd_t hq.2 tw t1, fun a b ha hb hd => ?_⟩
    by_cases w : a = k
    · subst w; exact c1 b hb hd
    · exact CLl_k hq.2 t1.1 (cl a b (by omega) hb (lev_t hq.2 t1 (by omega) hd))
  exact ⟨key.2.2.1, key.2.2.2⟩
theorem w84_r {B M : Mem} (hB : J B) {t : Int} (ht : 0 ≤ t ∧ t ≤ 35) {v1 : Int32} (h : QC B t M) (h0 : ∀ x, x < 1296 → DR M x < 1000000 → DR M x = 0) {x : Mem} (e : iter (lb_Mod_wardrobe_84 v1) FU ((1 : Int32), (0 : Int32), M) = some x) : QC B t x ∧ ∀ y, y < 1296 → DR x y < 1000000 → CLl B (DR x y) x y := by
  have bM := cn_bd M
  refine it_r (I := fun s : Int32 × Int32 × Mem => ∃ q : Nat, s.2.1.toInt = (q : Int) ∧ QC B t s.2.2 ∧ (s.1 ≠ 0 → (q : Int) + cn s.2.2 ≤ 1296) ∧ q ≤ 1297 ∧ (∀ y, y < 1296 → DR s.2.2 y < 1000000 → DR s.2.2 y ≤ (q : Int)) ∧ (∀ y, y < 1296 → DR s.2.2 y < (q : Int) → CLl B (DR s.2.2 y) s.2.2 y) ∧ (s.1 = 0 → ∀ y, y < 1296 → DR s.2.2 y < 1000000 → DR s.2.2 y < (q : Int)))
    (Q := fun x : Mem => QC B t x ∧ ∀ y, y < 1296 → DR x y < 1000000 → CLl B (DR x y) x y) ?_ e ⟨0, rfl, h, fun _ => by dsimp only; omega, by omega, fun y hy hd => by dsimp only at hd ⊢; rw [h0 y hy hd]; omega, fun y hy hd => ?_, fun w => absurd w (by show ¬ (1 : Int32) = 0; decide)⟩
  rotate_left
  · dsimp only at hd
    have a1 := h0 y hy (by omega)
    omega
  rintro ⟨a, kv, N⟩ r ⟨q, hk, qc, i3, q97, i4, i5, i6⟩ e
  dsimp only at hk qc i3 i4 i5 i6
  unfold lb_Mod_wardrobe_84 at e
  dsimp only at e
  rcases io e with ⟨g, e⟩ | ⟨g, e⟩
  · obtain rfl := Option.some.inj e
    exact ⟨qc, fun y hy hd => i5 y hy (i6 g y hy hd)⟩
  have i3' := i3 g
  have bN := cn_bd N
  obtain ⟨x21, e21, e⟩ := bo e
  obtain rfl := Option.some.inj e
  have b1 : (kv + (1 : Int32)).toInt = ((q + 1 : Nat) : Int) := add_ti hk o1 (by omega) (by omega)
  obtain ⟨s1, -, s3, -, s5, -⟩ := some_of (sl_wardrobe93 hB ht v1 kv ⟨by omega, by omega⟩ qc) e21
  obtain ⟨tw, cl⟩ := w93_r (q := (q : Int)) ⟨by omega, by omega⟩ hk qc.1 qc.2.1 (fun y hy hd => by have := i4 y hy hd; omega) e21
  have old : ∀ y, y < 1296 → DR x21.2 y < 1000000 → (DR N y < 1000000 ∧ DR x21.2 y = DR N y) ∨ DR x21.2 y = (q : Int) + 1 := fun y hy hd => by
    rcases tw.2.1 y hy hd with w | w
    · exact .inl ⟨w, congrArg Int32.toInt (tw.1 y w)⟩
    · exact .inr w
  refine ⟨q + 1, b1, s1, fun w => ?_, by omega, fun y hy hd => ?_, fun y hy hd => ?_, fun w y hy hd => ?_⟩
  · have b2 := cn_bd x21.2
    rcases s5 w with u | u
    · exact absurd rfl u
    · dsimp only; omega
  · dsimp only at hd ⊢
    rcases old y hy hd with ⟨w, u⟩ | u
    · have := i4 y hy w; omega
    · omega
  · dsimp only at hd ⊢
    rcases old y hy (by omega) with ⟨w, u⟩ | u
    · by_cases z : DR N y = (q : Int)
      · obtain ⟨_, _, on0, on1, _⟩ := (qc.2.2.2.2 y hy w).1
        have ey : 36 * (y / 36) + y % 36 = y := by omega
        have := cl (y / 36) (y % 36) (by have := on0.2.1; omega) (by have := on1.2.1; omega) (by rw [ey]; omega)
        rw [ey] at this
        rw [u, z]; exact this
      · have := i4 y hy w
        rw [u]
        exact CLl_k (by omega) tw.1 (i5 y hy (by omega))
    · omega
  · dsimp only at hd ⊢
    have := (tw.2.2 w).2 y
    have a2 : DR x21.2 y = DR N y := congrArg Int32.toInt this
    have := i4 y hy (by omega)
    omega
end
section
/-! wardrobe -/
theorem w45_r {B x : Mem} {v1 v2 : Int32} (jB : J B) (e : iter (lb_Mod_wardrobe_45 v1 v2) FU ((0 : Int32), B) = some x) : J x ∧ Fr W85 B x ∧ x.2 = B.2 ∧ ∀ u, u < 1296 → (x.1 185 u).toInt = 1000000 := by
  have z12 : (1296 : Int32).toInt = 1296 := rfl
  refine it_r (I := fun s : Int32 × Mem => ∃ i : Nat, i ≤ 1296 ∧ s.1.toInt = (i : Int) ∧ J s.2 ∧ Fr W85 B s.2 ∧ s.2.2 = B.2 ∧ ∀ u, u < i → (s.2.1 185 u).toInt = 1000000) (Q := fun x : Mem => J x ∧ Fr W85 B x ∧ x.2 = B.2 ∧ ∀ u, u < 1296 → (x.1 185 u).toInt = 1000000) ?_ e ⟨0, by omega, rfl, jB, Fr.r, rfl, fun u hu => absurd hu (by omega)⟩
  rintro ⟨k, N⟩ r ⟨i, li, hi, jN, fN, n2, hd⟩ e
  dsimp only at hi jN fN n2 hd
  unfold lb_Mod_wardrobe_45 at e
  dsimp only at e
  rcases io e with ⟨g, e⟩ | ⟨g, e⟩
  · have := q_le g
    obtain rfl := Option.some.inj e
    exact ⟨jN, fN, n2, fun u hu => hd u (by omega)⟩
  have g1 := q_ng g
  obtain ⟨_, e⟩ := io_n e
  obtain ⟨M1, m1, e⟩ := mo e
  obtain rfl := Option.some.inj e
  rw [q_nat hi] at m1
  have b1 : (k + (1 : Int32)).toInt = ((i + 1 : Nat) : Int) := add_ti hi o1 (by omega) (by omega)
  refine ⟨i + 1, by omega, b1, ?_, ?_, ?_, fun u hu => ?_⟩
  · show J M1
    rw [m1]; exact Jw_185 jN _ _ (by decide) (by decide)
  · show Fr W85 B M1
    rw [m1]; exact fN.i rfl
  · show M1.2 = _
    rw [m1, si_2]; exact n2
  · show (M1.1 185 u).toInt = _
    rw [m1]
    by_cases q : u = i
    · subst q; rw [si_eq]; rfl
    · rw [si_ne (by omega)]; exact hd u (by omega)
theorem st_on {R : Mem} {c : Nat} (h : stN R (c : Int)) : onN R 0 c ∧ onN R 1 c :=
  ⟨⟨h.1, h.2.1, by rw [if_pos rfl]; exact .inr h.2.2⟩, h.1, h.2.1, by rw [if_neg (by decide)]; exact .inr h.2.2⟩
theorem st_v {R : Mem} (jR : J R) {c : Nat} (h : stN R (c : Int)) : vst R (5 * c + 4) ∧ phN R (5 * c + 4) = 37 * c := by
  have k5 : (5 * c + 4) / 5 = c := by omega
  have k6 : (5 * c + 4) % 5 = 4 := by omega
  have sv : sd R (5 * c + 4) = (c : Int) := by unfold sd tos; rw [k6, if_pos (by decide), k5]
  have wh := awh jR
  have := h.2.1
  refine ⟨⟨by omega, by rw [k5]; exact (st_on h).1, by rw [sv]; exact (st_on h).2⟩, ?_⟩
  unfold phN
  rw [sv, k5]
  omega
theorem wardrobe_q {X R : Mem} {n : Nat} {v1 v2 : Int32} {x r : Int32 × Mem} (za : ZA X R n) (ex : f_Top_wardrobe v1 v2 X = some x) (er : f_Mod_wardrobe v1 v2 R = some r) : x.1 = r.1 := by
  have z0 := o0
  have z3 := o3
  have z4 := o4
  have z5 : (5 : Int32).toInt = 5 := rfl
  have z36 : (36 : Int32).toInt = 36 := rfl
  have kF : (1000000 : Int32).toInt = 1000000 := rfl
  unfold f_Mod_wardrobe at er
  obtain ⟨M1, m1, er⟩ := mo er
  obtain ⟨zaM, fqM⟩ := ZA_M1 za m1
  obtain ⟨n8, jM, ⟨zg, zc, zl⟩, zs, zv, zw⟩ := zaM.1
  have wh := awh jM
  unfold f_Top_wardrobe at ex
  obtain ⟨x1, ex1, ex⟩ := bo ex
  have s1 := stairC zg jM ex1
  obtain ⟨y2, ey2, er⟩ := bo er
  have c2 : (y2 = 1 ∧ 0 ≤ v1.toInt ∧ v1.toInt < xw M1 * xh M1) ∨ (y2 = 0 ∧ ¬ (0 ≤ v1.toInt ∧ v1.toInt < xw M1 * xh M1)) := isCell_i jM ey2
  by_cases hb : stN M1 v1.toInt ∧ stN M1 v2.toInt
  rotate_left
  · have eX : x.1 = -1 := by
      rcases io ex with ⟨_, ex⟩ | ⟨g, ex⟩
      · obtain rfl := Option.some.inj ex; rfl
      rcases s1 with ⟨_, s1⟩ | ⟨h, _⟩
      rotate_left
      · exact absurd h g
      obtain ⟨x2, ex2, ex⟩ := bo ex
      have s2 := stairC zg jM ex2
      rcases io ex with ⟨_, ex⟩ | ⟨g, ex⟩
      · obtain rfl := Option.some.inj ex; rfl
      rcases s2 with ⟨_, s2⟩ | ⟨h, _⟩
      · exact absurd ⟨s1, s2⟩ hb
      · exact absurd h g
    have eR : r.1 = -1 := by
      rcases io er with ⟨_, er⟩ | ⟨g, er⟩
      · obtain rfl := Option.some.inj er; rfl
      rcases c2 with ⟨_, c2⟩ | ⟨h, _⟩
      rotate_left
      · exact absurd h g
      obtain ⟨y3, ey3, er⟩ := bo er
      have c3 : (y3 = 1 ∧ 0 ≤ v2.toInt ∧ v2.toInt < xw M1 * xh M1) ∨ (y3 = 0 ∧ ¬ (0 ≤ v2.toInt ∧ v2.toInt < xw M1 * xh M1)) := isCell_i jM ey3
      rcases io er with ⟨_, er⟩ | ⟨g, er⟩
      · obtain rfl := Option.some.inj er; rfl
      rcases c3 with ⟨_, c3⟩ | ⟨h, _⟩
      rotate_left
      · exact absurd h g
      obtain ⟨_, er⟩ := io_n er
      rcases io er with ⟨g1, er⟩ | ⟨_, er⟩
      rotate_left
      · obtain rfl := Option.some.inj er; rfl
      obtain ⟨_, er⟩ := io_n er
      rcases io er with ⟨g2, er⟩ | ⟨_, er⟩
      rotate_left
      · obtain rfl := Option.some.inj er; rfl
      refine absurd ⟨⟨c2.1, c2.2, ?_⟩, c3.1, c3.2, ?_⟩ hb
      · have := q_eq g1; rw [tcn'] at this; omega
      · have := q_eq g2; rw [tcn'] at this; omega
    rw [eX, eR]
  obtain ⟨hb1, hb2⟩ := hb
  obtain ⟨a, ha⟩ := ti_ofn hb1.1
  obtain ⟨b, hv⟩ := ti_ofn hb2.1
  have a36 : a < 36 := by have := hb1.2.1; omega
  have b36 : b < 36 := by have := hb2.2.1; omega
  -- the class
  rcases io ex with ⟨g, _⟩ | ⟨_, ex⟩
  · rcases s1 with ⟨h, _⟩ | ⟨_, h⟩
    · rw [h] at g; exact absurd g (by decide)
    · exact absurd hb1 h
  obtain ⟨x2, ex2, ex⟩ := bo ex
  have s2 := stairC zg jM ex2
  rcases io ex with ⟨g, _⟩ | ⟨_, ex⟩
  · rcases s2 with ⟨h, _⟩ | ⟨_, h⟩
    · rw [h] at g; exact absurd g (by decide)
    · exact absurd hb2 h
  obtain ⟨x3, ex3, ex⟩ := bo ex
  rw [ha] at hb1
  rw [hv] at hb2
  have on1 := st_on hb1
  have on2 := st_on hb2
  obtain ⟨va, pa⟩ := st_v jM hb1
  obtain ⟨vb, pb⟩ := st_v jM hb2
  obtain ⟨fx, t, c, cc⟩ := mp_r zg jM hv on2.1 on2.2 ex3
  obtain ⟨_, ex⟩ := io_n ex
  have i4 : (v1 * (5 : Int32) + (4 : Int32)).toInt = ((5 * a + 4 : Nat) : Int) := by rw [add_ti (mul_ti ha z5 (by omega) (by omega)) z4 (by omega) (by omega)]; omega
  rw [q_nat i4] at ex
  -- the reference
  rcases io er with ⟨g, _⟩ | ⟨_, er⟩
  · rcases c2 with ⟨h, _⟩ | ⟨_, h⟩
    · rw [h] at g; exact absurd g (by decide)
    · exact absurd ⟨by omega, by rw [ha]; exact hb1.2.1⟩ h
  obtain ⟨y3, ey3, er⟩ := bo er
  have c3 : (y3 = 1 ∧ 0 ≤ v2.toInt ∧ v2.toInt < xw M1 * xh M1) ∨ (y3 = 0 ∧ ¬ (0 ≤ v2.toInt ∧ v2.toInt < xw M1 * xh M1)) := isCell_i jM ey3
  rcases io er with ⟨g, _⟩ | ⟨_, er⟩
  · rcases c3 with ⟨h, _⟩ | ⟨_, h⟩
    · rw [h] at g; exact absurd g (by decide)
    · exact absurd ⟨by omega, by rw [hv]; exact hb2.2.1⟩ h
  obtain ⟨_, er⟩ := io_n er
  rcases io er with ⟨_, er⟩ | ⟨g, _⟩
  rotate_left
  · refine absurd (Int32.toInt_inj.mp ?_) g
    rw [q_nat ha, z3]; exact hb1.2.2
  obtain ⟨_, er⟩ := io_n er
  rcases io er with ⟨_, er⟩ | ⟨g, _⟩
  rotate_left
  · refine absurd (Int32.toInt_inj.mp ?_) g
    rw [q_nat hv, z3]; exact hb2.2.2
  obtain ⟨x6, e6, er⟩ := bo er
  obtain ⟨_, er⟩ := io_n er
  obtain ⟨M7, m7, er⟩ := mo er
  obtain ⟨x23, e23, er⟩ := bo er
  obtain ⟨_, er⟩ := io_n er
  have ib : ((36 : Int32) * v2 + v2).toInt = ((37 * b : Nat) : Int) := by rw [add_ti (mul_ti z36 hv (by omega) (by omega)) hv (by omega) (by omega)]; omega
  have ia : ((36 : Int32) * v1 + v1).toInt = ((37 * a : Nat) : Int) := by rw [add_ti (mul_ti z36 ha (by omega) (by omega)) ha (by omega) (by omega)]; omega
  rw [q_nat ib] at m7
  rw [q_nat ia] at er
  obtain ⟨q1, q2, q3, q4⟩ := w45_r jM e6
  have tb : (37 * (b : Int)).toNat = 37 * b := by omega
  have vpb : vpR M1 (37 * (b : Int)) := by
    have d1 : (37 * (b : Int)) / 36 = (b : Int) := by omega
    have d2 : (37 * (b : Int)) % 36 = (b : Int) := by omega
    exact ⟨by omega, by omega, by rw [d1]; exact on2.1, by rw [d2]; exact on2.2, by rw [d1, d2]; exact .inl rfl⟩
  have qc : QC M1 (b : Int) M7 := by
    refine ⟨by rw [m7]; exact Jw_185 q1 _ _ (by decide) (by decide), by rw [m7]; exact q2.i rfl, by rw [m7]; exact q3, by rw [tb, m7, si_eq]; rfl, fun y hy hd => ?_⟩
    by_cases w : y = 37 * b
    · have : (y : Int) = 37 * (b : Int) := by omega
      rw [this]; exact ⟨vpb, .inl rfl⟩
    · rw [m7, si_ne (fun z => w z.2), q4 y hy] at hd; omega
  obtain ⟨Q, cl⟩ := w84_r jM ⟨by omega, by omega⟩ qc (fun y hy hd => by
    have hd : (M7.1 185 y).toInt < 1000000 := hd
    show (M7.1 185 y).toInt = 0
    by_cases w : y = 37 * b
    · rw [w, m7, si_eq]; rfl
    · rw [m7, si_ne (fun z => w z.2), q4 y hy] at hd; omega) e23
  have E := dist_eq (D1 := Dm x3) (D2 := DR x23) jM vb va c.2.1 (fun u hu => (c.2.2.2.1 u hu).1) c.2.2.2.2.2.1
    (fun u hu hd => by
      obtain ⟨i, hi, e⟩ := (c.2.2.2.1 u hu).2 hd
      rw [← e]; exact (c.2.2.1 i hi).2.2)
    (fun u hu hd v w => by
      obtain ⟨i, hi, e⟩ := (c.2.2.2.1 u hu).2 hd
      rw [← e] at w ⊢; exact cc i hi v w)
    (by rw [pb]; have := Q.2.2.2.1; rw [tb] at this; exact this)
    (fun y _ => (Jr_185 Q.1 y).1)
    (fun y hy hd => by
      rcases (Q.2.2.2.2 y hy hd).2 with z | ⟨y', h1, s, u, h2, h3, h4, h5⟩
      · exact .inl (by rw [pb]; omega)
      · exact .inr ⟨y', h1, ⟨s, u, h2, h3, h4⟩, h5⟩)
    (fun y hy hd y' _ ⟨s, u, h2, h3, h4⟩ => by
      have k1 : (((10 * s + u).toNat : Nat) : Int) = 10 * s + u := by omega
      exact cl y hy hd (10 * s + u).toNat (by omega) (by omega) y' (by rw [k1]; exact h4))
  rw [pa] at E
  have E' : (x3.1 159 (5 * a + 4)).toInt = (x23.1 185 (37 * a)).toInt ∨ (1000000 ≤ (x3.1 159 (5 * a + 4)).toInt ∧ 1000000 ≤ (x23.1 185 (37 * a)).toInt) := E
  rcases io ex with ⟨g, ex⟩ | ⟨g, ex⟩
  · have gg := q_lt g
    obtain ⟨x4, e4, ex⟩ := bo ex
    obtain ⟨x11, e11, ex⟩ := bo ex
    obtain rfl := Option.some.inj ex
    rcases io er with ⟨h, er⟩ | ⟨h, er⟩
    · obtain ⟨M24, m24, er⟩ := mo er
      obtain ⟨x35, e35, er⟩ := bo er
      obtain rfl := Option.some.inj er
      exact Int32.toInt_inj.mp (by show (x3.1 159 (5 * a + 4)).toInt = (x23.1 185 (37 * a)).toInt; omega)
    · have := q_nl h; omega
  · have gg := q_nl g
    obtain rfl := Option.some.inj ex
    rcases io er with ⟨h, er⟩ | ⟨h, er⟩
    · have := q_lt h; omega
    · obtain rfl := Option.some.inj er
      rfl
end
section
/-! part: the map with stairs closed -/
def CSx (R S : Mem) (C : Nat → Bool) : Prop := S.1 162 2 = R.1 162 2 ∧ S.1 162 3 = R.1 162 3 ∧ (∀ i, S.1 163 i = R.1 163 i) ∧ (∀ i, C i = false → S.1 164 i = R.1 164 i) ∧ (∀ i, C i = true → R.1 164 i = 3 ∧ S.1 164 i = 2)
theorem onS_x {R S : Mem} {C : Nat → Bool} (cs : CSx R S C) {l : Nat} (l2 : l < 2) {x : Int} : onN S (l : Int) x ↔ (onN R (l : Int) x ∧ ¬ (l = 0 ∧ C x.toNat = true)) := by
  obtain ⟨f2, f3, _, f0, f1⟩ := cs
  have w1 : xw S = xw R := congrArg Int32.toInt f2
  have w2 : xh S = xh R := congrArg Int32.toInt f3
  have k2 : (2 : Int32).toInt = 2 := rfl
  have k3 : (3 : Int32).toInt = 3 := rfl
  unfold onN
  rw [w1, w2]
  cases hc : C x.toNat with
  | false =>
    rw [f0 _ hc]
    constructor
    · intro h; exact ⟨h, fun w => absurd w.2 (by decide)⟩
    · intro h; exact h.1
  | true =>
    obtain ⟨a, b⟩ := f1 _ hc
    rw [a, b]
    by_cases z : l = 0
    · subst z
      constructor
      · rintro ⟨_, _, h⟩
        rw [if_pos (by rfl)] at h
        omega
      · rintro ⟨_, h⟩; exact absurd ⟨rfl, rfl⟩ h
    · rw [if_neg (by omega), if_neg (by omega)]
      constructor
      · rintro ⟨h1, h2, _⟩; exact ⟨⟨h1, h2, .inr k3⟩, fun w => z w.1⟩
      · rintro ⟨⟨h1, h2, _⟩, _⟩; exact ⟨h1, h2, .inl k2⟩
theorem plkS {R S : Mem} {C : Nat → Bool} (cs : CSx R S C) {a b : Int} : plk S 163 a b ↔ plk R 163 a b := by
  unfold plk plkA
  rw [cs.2.2.1 92]
  simp only [cs.2.2.1]
theorem KPS {R S : Mem} {C : Nat → Bool} (cs : CSx R S C) (kp : KP R 163 0) : KP S 163 0 := by
  intro j hj
  rw [cs.2.2.1] at hj
  have := kp j hj
  rw [cs.2.2.1, cs.2.2.1]
  exact ⟨(onS_x cs (l := 1) (by omega)).mpr ⟨this.1, by omega⟩, (onS_x cs (l := 1) (by omega)).mpr ⟨this.2, by omega⟩⟩
theorem goS {R S : Mem} {C : Nat → Bool} (cs : CSx R S C) {l c d : Nat} (l2 : l < 2) (c36 : c < 36) {s : Int} (s3 : s ≤ 3) : goR S 163 ((36 * l + c : Nat) : Int) s ((36 * l + d : Nat) : Int) ↔ (goR R 163 ((36 * l + c : Nat) : Int) s ((36 * l + d : Nat) : Int) ∧ ¬ (l = 0 ∧ C d = true)) := by
  have pm : ((36 * l + c : Nat) : Int) % 36 = (c : Int) := by omega
  have pd : ((36 * l + c : Nat) : Int) / 36 = (l : Int) := by omega
  have w1 : xw S = xw R := congrArg Int32.toInt cs.1
  have w2 : xh S = xh R := congrArg Int32.toInt cs.2.1
  unfold goR
  rw [pm, pd, w1, w2]
  constructor
  · rintro (⟨h, _⟩ | ⟨h4, ⟨g1, g2⟩ | ⟨g1, g2, g3⟩ | ⟨g1, g2, g3, g4⟩ | ⟨g1, g2, g3, g4, g5, g6⟩ | ⟨g1, g2, g3, g4, g5⟩⟩)
    · omega
    · omega
    · obtain ⟨a, b⟩ := (onS_x cs l2).mp g2
      have e : bes (xw R) (xh R) c s = (d : Int) := by omega
      have e2 : (bes (xw R) (xh R) c s).toNat = d := by omega
      rw [e2] at b
      exact ⟨.inr ⟨h4, .inr (.inl ⟨g1, a, g3⟩)⟩, b⟩
    · omega
    · have l1 : l ≠ 0 := by omega
      exact ⟨.inr ⟨h4, .inr (.inr (.inr (.inl ⟨g1, fun w => g2 ((onS_x cs l2).mpr ⟨w, fun z => l1 z.1⟩), g3, g4, (plkS cs).mp g5, g6⟩)))⟩, fun z => l1 z.1⟩
    · omega
  · rintro ⟨⟨h, _⟩ | ⟨h4, ⟨g1, g2⟩ | ⟨g1, g2, g3⟩ | ⟨g1, g2, g3, g4⟩ | ⟨g1, g2, g3, g4, g5, g6⟩ | ⟨g1, g2, g3, g4, g5⟩⟩, b⟩
    · omega
    · omega
    · have e2 : (bes (xw R) (xh R) c s).toNat = d := by omega
      exact .inr ⟨h4, .inr (.inl ⟨g1, (onS_x cs l2).mpr ⟨g2, by rw [e2]; exact b⟩, g3⟩)⟩
    · omega
    · exact .inr ⟨h4, .inr (.inr (.inr (.inl ⟨g1, fun w => g2 ((onS_x cs l2).mp w).1, g3, g4, (plkS cs).mpr g5, g6⟩)))⟩
    · omega
theorem far72 {M r : Mem} (h : J M) (hk : KP M 163 0) {p : Int} (hp : onP M p) (hf : FF M p r) {n : Nat} (hn : n < 72) (hd : (r.1 177 n).toInt < 1000000) : (r.1 177 n).toInt < 72 := by
  have jr : J r := hf.1.1
  have b := (Jr_177 jr n).1
  have dn : ∀ k : Nat, (k : Int) ≤ (r.1 177 n).toInt → ∃ q : Nat, q < 72 ∧ (r.1 177 q).toInt = (r.1 177 n).toInt - (k : Int) := by
    intro k
    induction k with
    | zero => intro _; exact ⟨n, hn, by omega⟩
    | succ k ih =>
      intro hk9
      obtain ⟨q, q72, e⟩ := ih (by omega)
      obtain ⟨q', h1, _, _, _, _, h2⟩ := nearer h hk hp hf q72 (by omega) (by omega)
      exact ⟨q', h1, by omega⟩
  have up : ∀ m : Nat, (m : Int) ≤ (r.1 177 n).toInt → m + 1 ≤ (List.range 72).countP (fun q => decide ((r.1 177 q).toInt ≤ (m : Int))) := by
    intro m
    induction m with
    | zero =>
      intro _
      obtain ⟨q, q72, e⟩ := dn (r.1 177 n).toInt.toNat (by omega)
      have := cnt_lt (P := fun _ => false) (Q := fun q => decide ((r.1 177 q).toInt ≤ ((0 : Nat) : Int))) (n := 72) q72 (fun _ _ w => by cases w) rfl (decide_eq_true (by omega))
      omega
    | succ m ih =>
      intro hm
      have i := ih (by omega)
      obtain ⟨q, q72, e⟩ := dn ((r.1 177 n).toInt.toNat - (m + 1)) (by omega)
      have := cnt_lt (P := fun q => decide ((r.1 177 q).toInt ≤ (m : Int))) (Q := fun q => decide ((r.1 177 q).toInt ≤ ((m + 1 : Nat) : Int))) (n := 72) q72 (fun i _ w => decide_eq_true (by have := of_decide_eq_true w; omega)) (decide_eq_false (by omega)) (decide_eq_true (by omega))
      omega
  rcases Int.lt_or_le (r.1 177 n).toInt 72 with z | z
  · exact z
  · have a := up 72 (by omega)
    have := cnt_le (fun q => decide ((r.1 177 q).toInt ≤ ((72 : Nat) : Int))) 72
    omega
theorem roam_r {X R S r : Mem} {n l f : Nat} {C : Nat → Bool} {bar y : Int64} {v1 v2 p : Int32} (jR : J R) (jS : J S) (zv : ZV R (R.1 163) n) (zw : ZW X R 163) (cs : CSx R S C) (hbar : ∀ d, d < 36 → (bl bar d = true ↔ l = 0 ∧ C d = true)) (h1 : v1.toInt = (l : Int)) (l2 : l < 2) (h2 : v2.toInt = (f : Int)) (f36 : f < 36) (onf : onN S l f) (hp : p.toInt = ((36 * l + f : Nat) : Int)) (ex : f_Nets_flood 32 v1 v2 bar X = some y) (er : f_Mod_findFar p S = some r) : (∀ c, bl y c = true ↔ (c < 36 ∧ (r.1 177 (36 * l + c)).toInt < 1000000)) ∧ J r ∧ (∀ kx i, kx ≠ 177 → r.1 kx i = S.1 kx i) ∧ r.2 = S.2 := by
  have near : ∀ c d, c < 36 → bl (X.2.1 (32 + 2) (l * 36 + c)) d = true → d < 36 := fun c d hc h => ((near_go jR zv zw.2 l2 hc).mp h).2.1
  have ff := some_of (fs_findFar jS p (by omega)) er
  rw [hp] at ff
  have kpS := KPS cs (KP_v zv)
  have onp : onP S ((36 * l + f : Nat) : Int) := (onP_lc l2 f36).mpr onf
  have jr : J r := ff.1.1
  have q0 : (r.1 177 (36 * l + f)).toInt = 0 := ff.1.2.2.2.1
  obtain ⟨y1, y2, y3, y4⟩ := flood_i (.inl rfl) h1 l2 h2 f36 near ex
  refine ⟨fun c => ⟨fun hy => ?_, fun ⟨hc, hd⟩ => ?_⟩, jr, fun kx i h => ff.1.2.1 kx i h, ff.1.2.2.1⟩
  · refine y4 (fun c => c < 36 ∧ (r.1 177 (36 * l + c)).toInt < 1000000) ⟨f36, by omega⟩ ?_ c hy
    rintro c d hc ⟨_, hd⟩ hn hb
    obtain ⟨_, d36, s, s0, s3, g⟩ := (near_go jR zv zw.2 l2 hc).mp hn
    have gS := (goS cs l2 hc s3).mpr ⟨g, fun w => by rw [(hbar d d36).mpr w] at hb; cases hb⟩
    have b72 := far72 jS kpS onp ff (n := 36 * l + c) (by omega) hd
    have := ff.2 (36 * l + c) (by omega) hd s s0 s3 _ gS (by omega)
    rw [show (((36 * l + d : Nat) : Int)).toNat = 36 * l + d by omega, show (((36 * l + c : Nat) : Int)).toNat = 36 * l + c by omega] at this
    exact ⟨d36, by omega⟩
  · have dn : ∀ (m : Nat) (k : Nat), k < 72 → (r.1 177 k).toInt < 1000000 → (r.1 177 k).toInt.toNat ≤ m → ∃ c, c < 36 ∧ k = 36 * l + c ∧ bl y c = true := by
      intro m
      induction m with
      | zero =>
        intro k hk hd hm
        rcases ff.1.2.2.2.2 k hk hd with h | ⟨q, hq, s, s0, s3, g, h⟩
        · exact ⟨f, f36, by omega, y1⟩
        · have := (Jr_177 jr q).1; omega
      | succ m ih =>
        intro k hk hd hm
        rcases ff.1.2.2.2.2 k hk hd with h | ⟨q, hq, s, s0, s3, g, h⟩
        · exact ⟨f, f36, by omega, y1⟩
        · have bq := (Jr_177 jr q).1
          obtain ⟨c', hc', e', hy⟩ := ih q hq (by omega) (by omega)
          subst e'
          obtain ⟨d, d36, hd'⟩ := go_lev jS (by omega) ⟨s0, s3⟩ g (by omega)
          have e2 : k = 36 * l + d := by omega
          subst e2
          obtain ⟨gR, nb⟩ := (goS cs l2 hc' s3).mp g
          have onS := far_on jS kpS onp ff ((r.1 177 (36 * l + c')).toInt.toNat) (36 * l + c') hq (by omega) (Nat.le_refl _)
          have onR := ((onS_x cs l2).mp ((onP_lc l2 hc').mp onS)).1
          refine ⟨d, d36, rfl, y3 c' d hy ((near_go jR zv zw.2 l2 hc').mpr ⟨onR, d36, s, s0, s3, gR⟩) ?_⟩
          cases hb : bl bar d with
          | false => rfl
          | true => exact absurd ((hbar d d36).mp hb) nb
    obtain ⟨c', hc', e', hy⟩ := dn ((r.1 177 (36 * l + c)).toInt.toNat) (36 * l + c) (by omega) hd (Nat.le_refl _)
    have : c' = c := by omega
    subst this
    exact hy
end
section
/-! part: may two meet, with stairs closed -/
theorem find_l {N : Mem} {v1 v2 : Int32} {p q la lb ca cb : Nat} {wv : Int} (hw : ((N.1 162 2) * (N.1 162 3)).toInt = wv) (w36 : wv ≤ 36) (hp : v1.toInt = (p : Int)) (hq : v2.toInt = (q : Int)) (ha : (N.1 163 p).toInt = ((36 * la + ca : Nat) : Int)) (hb : (N.1 163 q).toInt = ((36 * lb + cb : Nat) : Int)) (la2 : la < 2) (lb2 : lb < 2) (ca36 : ca < 36) (cb36 : cb < 36) (bd : ∀ i, (N.1 183 i).toInt ≤ 1000000 ∧ (N.1 177 i).toInt ≤ 1000000) {x : Int32 × Mem} (e : iter (lb_Mod_findTryst_38 v1 v2) FU ((1000000 : Int32), (0 : Int32), N) = some x) : (x.1 = 1000000 ↔ ∀ c : Nat, (c : Int) < wv → N.1 164 c = 3 → ¬ ((N.1 183 (36 * la + c)).toInt < 1000000 ∧ (N.1 177 (36 * lb + c)).toInt < 1000000)) ∧ (∀ kx i, ¬ (kx = 162 ∧ i = 42) → x.2.1 kx i = N.1 kx i) ∧ x.2.2 = N.2 := by
  have z36 : (36 : Int32).toInt = 36 := rfl
  have kF : (1000000 : Int32).toInt = 1000000 := rfl
  have key : (x.1.toInt = 1000000 ↔ ∀ c : Nat, (c : Int) < wv → N.1 164 c = 3 → ¬ ((N.1 183 (36 * la + c)).toInt < 1000000 ∧ (N.1 177 (36 * lb + c)).toInt < 1000000)) ∧ (∀ kx i, ¬ (kx = 162 ∧ i = 42) → x.2.1 kx i = N.1 kx i) ∧ x.2.2 = N.2 := by
    refine it_r (I := fun s : Int32 × Int32 × Mem => ∃ k : Nat, s.2.1.toInt = (k : Int) ∧ k ≤ 36 ∧ s.1.toInt ≤ 1000000 ∧ (s.1.toInt = 1000000 ↔ ∀ c : Nat, c < k → N.1 164 c = 3 → ¬ ((N.1 183 (36 * la + c)).toInt < 1000000 ∧ (N.1 177 (36 * lb + c)).toInt < 1000000)) ∧ ((k : Int) ≤ wv ∨ k = 0) ∧ (∀ kx i, ¬ (kx = 162 ∧ i = 42) → s.2.2.1 kx i = N.1 kx i) ∧ s.2.2.2 = N.2)
      (Q := fun x : Int32 × Mem => (x.1.toInt = 1000000 ↔ ∀ c : Nat, (c : Int) < wv → N.1 164 c = 3 → ¬ ((N.1 183 (36 * la + c)).toInt < 1000000 ∧ (N.1 177 (36 * lb + c)).toInt < 1000000)) ∧ (∀ kx i, ¬ (kx = 162 ∧ i = 42) → x.2.1 kx i = N.1 kx i) ∧ x.2.2 = N.2) ?_ e ⟨0, rfl, by omega, by show (1000000 : Int32).toInt ≤ _; omega, ⟨fun _ c hc => absurd hc (by omega), fun _ => rfl⟩, .inr rfl, fun _ _ _ => rfl, rfl⟩
    rintro ⟨m, kv, P⟩ r ⟨k, hk, k36, mF, iff, kw, fP, nP⟩ e
    dsimp only at hk mF iff fP nP
    unfold lb_Mod_findTryst_38 at e
    dsimp only at e
    obtain ⟨x4, e4, e⟩ := bo e
    have e4 := cells_e.symm.trans e4
    obtain rfl := Option.some.inj e4
    rw [fP 162 2 (by omega), fP 162 3 (by omega)] at e
    rcases io e with ⟨g, e⟩ | ⟨g, e⟩
    · have := q_le g
      obtain rfl := Option.some.inj e
      refine ⟨?_, fP, nP⟩
      refine iff.trans ⟨fun h c hc => h c (by omega), fun h c hc => h c ?_⟩
      rcases kw with w | w
      · omega
      · omega
    have g1 := q_ng g
    have b1 : (kv + (1 : Int32)).toInt = ((k + 1 : Nat) : Int) := add_ti hk o1 (by omega) (by omega)
    obtain ⟨_, e⟩ := io_n e
    rw [q_nat hk, fP 164 k (by omega)] at e
    have nos : N.1 164 k ≠ 3 → ∀ m9 : Int32, m9 = m → (m9.toInt = 1000000 ↔ ∀ c : Nat, c < k + 1 → N.1 164 c = 3 → ¬ ((N.1 183 (36 * la + c)).toInt < 1000000 ∧ (N.1 177 (36 * lb + c)).toInt < 1000000)) := by
      rintro hn m9 rfl
      refine iff.trans ⟨fun h c hc h3 => ?_, fun h c hc => h c (by omega)⟩
      by_cases q : c = k
      · subst q; exact absurd h3 hn
      · exact h c (by omega) h3
    rcases io e with ⟨g3, e⟩ | ⟨g3, e⟩
    rotate_left
    · obtain rfl := Option.some.inj e
      exact ⟨k + 1, b1, by omega, mF, nos g3 m rfl, .inl (by omega), fP, nP⟩
    obtain ⟨_, e⟩ := io_n e
    rw [q_nat hp, fP 163 p (by omega)] at e
    obtain ⟨x5, e5, e⟩ := bo e
    unfold f_Mod_levelOf at e5
    obtain rfl := Option.some.inj e5
    obtain ⟨x6, e6, e⟩ := bo e
    unfold f_Mod_placeOf at e6
    obtain rfl := Option.some.inj e6
    obtain ⟨_, e⟩ := io_n e
    obtain ⟨_, e⟩ := io_n e
    rw [q_nat hq, fP 163 q (by omega)] at e
    obtain ⟨x7, e7, e⟩ := bo e
    unfold f_Mod_levelOf at e7
    obtain rfl := Option.some.inj e7
    obtain ⟨x8, e8, e⟩ := bo e
    unfold f_Mod_placeOf at e8
    obtain rfl := Option.some.inj e8
    obtain ⟨_, e⟩ := io_n e
    have da : (N.1 163 p / (36 : Int32)).toInt = (la : Int) := by rw [div_ti ha z36 (by omega) (by omega)]; omega
    have db : (N.1 163 q / (36 : Int32)).toInt = (lb : Int) := by rw [div_ti hb z36 (by omega) (by omega)]; omega
    have ia : ((36 : Int32) * (N.1 163 p / (36 : Int32)) + kv).toInt = ((36 * la + k : Nat) : Int) := by rw [add_ti (mul_ti z36 da (by omega) (by omega)) hk (by omega) (by omega)]; omega
    have ib : ((36 : Int32) * (N.1 163 q / (36 : Int32)) + kv).toInt = ((36 * lb + k : Nat) : Int) := by rw [add_ti (mul_ti z36 db (by omega) (by omega)) hk (by omega) (by omega)]; omega
    rw [q_nat ia, q_nat ib, fP 183 _ (by omega), fP 177 _ (by omega)] at e
    have bA := (bd (36 * la + k)).1
    have bB := (bd (36 * lb + k)).2
    have mx : ∃ t : Int, (if N.1 183 (36 * la + k) < N.1 177 (36 * lb + k) then N.1 177 (36 * lb + k) else N.1 183 (36 * la + k)).toInt = t ∧ (N.1 183 (36 * la + k)).toInt ≤ t ∧ (N.1 177 (36 * lb + k)).toInt ≤ t ∧ (t = (N.1 183 (36 * la + k)).toInt ∨ t = (N.1 177 (36 * lb + k)).toInt) := by
      by_cases z : N.1 183 (36 * la + k) < N.1 177 (36 * lb + k)
      · have := q_lt z
        rw [if_pos z]; exact ⟨_, rfl, by omega, by omega, .inr rfl⟩
      · have := q_nl z
        rw [if_neg z]; exact ⟨_, rfl, by omega, by omega, .inl rfl⟩
    obtain ⟨t, ht, t1, t2, t3⟩ := mx
    rcases io e with ⟨g5, e⟩ | ⟨g5, e⟩
    · have h5 := q_lt g5
      rw [ht] at h5
      obtain ⟨M9, m9, e⟩ := mo e
      obtain rfl := Option.some.inj e
      refine ⟨k + 1, b1, by omega, by dsimp only; omega, ?_, .inl (by omega), fun kx i h => ?_, ?_⟩
      · dsimp only
        rw [ht]
        refine ⟨fun w => by omega, fun h => absurd ⟨by omega, by omega⟩ (h k (by omega) g3)⟩
      · show M9.1 kx i = _
        rw [m9, si_ne (by omega)]; exact fP kx i h
      · show M9.2 = _
        rw [m9, si_2]; exact nP
    · have h5 := q_nl g5
      rw [ht] at h5
      obtain rfl := Option.some.inj e
      refine ⟨k + 1, b1, by omega, mF, ?_, .inl (by omega), fP, nP⟩
      refine iff.trans ⟨fun h c hc h3 => ?_, fun h c hc => h c (by omega)⟩
      by_cases q9 : c = k
      · subst q9
        have hm := iff.mpr h
        rintro ⟨u1, u2⟩
        omega
      · exact h c (by omega) h3
  exact ⟨⟨fun h => key.1.mp (by rw [h]; exact kF), fun h => Int32.toInt_inj.mp ((key.1.mpr h).trans kF.symm)⟩, key.2⟩
theorem roaming_i {X : Mem} {a : Int32} {p l c : Nat} {bar y : Int64} {C : Nat → Bool} (hp : a.toInt = (p : Int)) (hl : (X.1 13 p).toInt = (l : Int)) (hb : ∀ d, d < 36 → (bl bar d = true ↔ C d = true)) (e : f_Top_roaming a bar X = some y) : ∃ bar', f_Nets_flood 32 (X.1 13 p) (X.1 12 p) bar' X = some y ∧ ∀ d, d < 36 → (bl bar' d = true ↔ l = 0 ∧ C d = true) := by
  have z0 := o0
  unfold f_Top_roaming at e
  obtain ⟨_, e⟩ := io_n e
  obtain ⟨_, e⟩ := io_n e
  rw [q_nat hp] at e
  have fin : ∀ b9, j_Top_roaming_36 b9 (X.1 12 p) (X.1 13 p) X = some y → f_Nets_flood 32 (X.1 13 p) (X.1 12 p) b9 X = some y := by
    intro b9 e
    unfold j_Top_roaming_36 at e
    obtain ⟨x1, e1, e⟩ := bo e
    obtain rfl := Option.some.inj e
    exact e1
  rcases io e with ⟨g, e⟩ | ⟨g, e⟩
  · have := q_eq g
    exact ⟨bar, fin _ e, fun d hd => (hb d hd).trans ⟨fun h => ⟨by omega, h⟩, fun h => h.2⟩⟩
  · have := q_ne g
    refine ⟨0, fin _ e, fun d hd => ?_⟩
    rw [bl_0]
    exact ⟨fun h => absurd h (by decide), fun h => absurd h.1 (by omega)⟩
theorem may_r {X R S : Mem} {n p q : Nat} {C : Nat → Bool} {a b : Int32} {bar : Int64} {x : Int32} {r : Int32 × Mem} (n8 : n ≤ 8) (jR : J R) (jS : J S) (kr : ∀ i, i < 36 → 0 ≤ (R.1 164 i).toInt ∧ (R.1 164 i).toInt ≤ 3) (zs : ZS (scn X 11) (R.1 163) n) (zv : ZV R (R.1 163) n) (zw : ZW X R 163) (cs : CSx R S C) (hbar : ∀ d, d < 36 → (bl bar d = true ↔ C d = true)) (hp : a.toInt = (p : Int)) (hq : b.toInt = (q : Int)) (pn : p < n) (qn : q < n) (offa : C (X.1 12 p).toInt.toNat = false) (offb : C (X.1 12 q).toInt.toNat = false) (ex : f_Top_canTryst a b bar X = some x) (er : f_Mod_findTryst a b S = some r) : (x = 0 ↔ r.1 = 1000000) ∧ (x = 0 ∨ x = 1) ∧ (∀ kx i, kx ≠ 177 → kx ≠ 183 → ¬ (kx = 162 ∧ i = 42) → r.2.1 kx i = S.1 kx i) := by
  have wh := awh jR
  have k3 : (3 : Int32).toInt = 3 := rfl
  obtain ⟨la, ca, la2, ca36, hla, hca, hPa, ona⟩ := at_2 n8 zs zv pn
  obtain ⟨lb, cb, lb2, cb36, hlb, hcb, hPb, onb⟩ := at_2 n8 zs zv qn
  have onaS : onN S la ca := (onS_x cs la2).mpr ⟨ona, fun w => by
    have := w.2
    rw [hca] at offa
    rw [offa] at this; cases this⟩
  have onbS : onN S lb cb := (onS_x cs lb2).mpr ⟨onb, fun w => by
    have := w.2
    rw [hcb] at offb
    rw [offb] at this; cases this⟩
  unfold f_Top_canTryst at ex
  obtain ⟨y1, ey1, ex⟩ := bo ex
  obtain ⟨y2, ey2, ex⟩ := bo ex
  obtain ⟨y3, ey3, ex⟩ := bo ex
  obtain ⟨b1, fl1, hb1⟩ := roaming_i (c := 0) hp hla hbar ey1
  obtain ⟨b2, fl2, hb2⟩ := roaming_i (c := 0) hq hlb hbar ey2
  unfold f_Mod_findTryst at er
  obtain ⟨_, er⟩ := io_n er
  obtain ⟨r1, f1, er⟩ := bo er
  obtain ⟨r2, f2, er⟩ := bo er
  obtain ⟨_, er⟩ := io_n er
  obtain ⟨r3, f3, er⟩ := bo er
  obtain ⟨y13, f13, er⟩ := bo er
  obtain rfl := Option.some.inj er
  rw [q_nat hp, cs.2.2.1] at f1
  rw [q_nat hq] at f3
  obtain ⟨A1, jr1, fr1, nr1⟩ := roam_r jR jS zv zw cs hb1 hla la2 hca ca36 onaS hPa fl1 f1
  obtain ⟨g1, g2, g3⟩ := copy_r (by omega) f2
  have j2 := (some_of (sf_Mod_copy 177 183 r1 (.inl rfl) (.inr (.inr (.inr rfl))) jr1) f2).1
  have fr2 : ∀ kx i, kx ≠ 177 → kx ≠ 183 → r2.1 kx i = S.1 kx i := fun kx i h1 h2 => by rw [g2 kx i h2]; exact fr1 kx i h1
  have cs2 : CSx R r2 C := ⟨by rw [fr2 162 2 (by omega) (by omega)]; exact cs.1, by rw [fr2 162 3 (by omega) (by omega)]; exact cs.2.1, fun i => by rw [fr2 163 i (by omega) (by omega)]; exact cs.2.2.1 i, fun i h => by rw [fr2 164 i (by omega) (by omega)]; exact cs.2.2.2.1 i h, fun i h => by rw [fr2 164 i (by omega) (by omega)]; exact cs.2.2.2.2 i h⟩
  have onb2 : onN r2 lb cb := (onS_x cs2 lb2).mpr ((onS_x cs lb2).mp onbS)
  rw [fr2 163 q (by omega) (by omega), cs.2.2.1] at f3
  obtain ⟨A2, jr3, fr3, nr3⟩ := roam_r jR j2 zv zw cs2 hb2 hlb lb2 hcb cb36 onb2 hPb fl2 f3
  have fr3S : ∀ kx i, kx ≠ 177 → kx ≠ 183 → r3.1 kx i = S.1 kx i := fun kx i h1 h2 => by rw [fr3 kx i h1]; exact fr2 kx i h1 h2
  have w1 : xw r3 = xw R := congrArg Int32.toInt ((fr3S 162 2 (by omega) (by omega)).trans cs.1)
  have w2 : xh r3 = xh R := congrArg Int32.toInt ((fr3S 162 3 (by omega) (by omega)).trans cs.2.1)
  have hw : ((r3.1 162 2) * (r3.1 162 3)).toInt = xw R * xh R := by rw [wh_ti jr3, w1, w2]
  have b183 : ∀ i, (r3.1 183 i).toInt ≤ 1000000 := fun i => by
    exact (Jr_183 jr3 i).2
  obtain ⟨L1, L2, L3⟩ := find_l hw wh.2 hp hq (by rw [fr3S 163 p (by omega) (by omega), cs.2.2.1]; exact hPa) (by rw [fr3S 163 q (by omega) (by omega), cs.2.2.1]; exact hPb) la2 lb2 ca36 cb36 (fun i => ⟨b183 i, (Jr_177 jr3 i).2⟩) f13
  have k183 : ∀ c, c < 36 → (r3.1 183 (36 * la + c)).toInt = (r1.1 177 (36 * la + c)).toInt := fun c hc => by rw [fr3 183 _ (by omega), g1 _ (by omega)]
  have st := stairs_i (.inl rfl) jR kr zw.1 ey3
  -- a place for both
  have ok : (∃ c : Nat, bl (((y1 &&& y2) &&& y3) &&& (bar ^^^ (-1 : Int64))) c = true) ↔ ∃ c : Nat, (c : Int) < xw R * xh R ∧ r3.1 164 c = 3 ∧ (r3.1 183 (36 * la + c)).toInt < 1000000 ∧ (r3.1 177 (36 * lb + c)).toInt < 1000000 := by
    constructor
    · rintro ⟨c, h⟩
      rw [bl_and, bl_and, bl_and, Bool.and_eq_true, Bool.and_eq_true, Bool.and_eq_true] at h
      obtain ⟨⟨⟨h1, h2⟩, h3⟩, h4⟩ := h
      obtain ⟨c36, d1⟩ := (A1 c).mp h1
      obtain ⟨_, d2⟩ := (A2 c).mp h2
      obtain ⟨cw, s3⟩ := (st c).mp h3
      rw [bl_not (by omega)] at h4
      have nc : C c = false := by
        cases hc : C c with
        | false => rfl
        | true => rw [(hbar c c36).mpr hc] at h4; cases h4
      refine ⟨c, cw, ?_, by rw [k183 c c36]; exact d1, d2⟩
      rw [fr3S 164 c (by omega) (by omega), cs.2.2.2.1 c nc]
      exact Int32.toInt_inj.mp (s3.trans k3.symm)
    · rintro ⟨c, cw, s3, d1, d2⟩
      have c36 : c < 36 := by omega
      rw [fr3S 164 c (by omega) (by omega)] at s3
      rw [k183 c c36] at d1
      have nc : C c = false := by
        cases hc : C c with
        | false => rfl
        | true =>
          have := (cs.2.2.2.2 c hc).2
          rw [s3] at this
          exact absurd this (by decide)
      refine ⟨c, ?_⟩
      rw [bl_and, bl_and, bl_and, Bool.and_eq_true, Bool.and_eq_true, Bool.and_eq_true, bl_not (by omega)]
      refine ⟨⟨⟨(A1 c).mpr ⟨c36, d1⟩, (A2 c).mpr ⟨c36, d2⟩⟩, (st c).mpr ⟨cw, ?_⟩⟩, ?_⟩
      · rw [← cs.2.2.2.1 c nc, s3]; exact k3
      · cases hb : bl bar c with
        | false => rfl
        | true => rw [(hbar c c36).mp hb] at nc; cases nc
  have fr : ∀ kx i, kx ≠ 177 → kx ≠ 183 → ¬ (kx = 162 ∧ i = 42) → y13.2.1 kx i = S.1 kx i := fun kx i h1 h2 h3 => by rw [L2 kx i h3]; exact fr3S kx i h1 h2
  rcases io ex with ⟨g, ex⟩ | ⟨g, ex⟩
  · have g0 := lc_0.mp g
    obtain rfl := Option.some.inj ex
    refine ⟨⟨fun _ => ?_, fun _ => rfl⟩, .inl rfl, fr⟩
    show y13.1 = 1000000
    refine L1.mpr (fun c cw s3 d => ?_)
    obtain ⟨c', h⟩ := ok.mpr ⟨c, cw, s3, d.1, d.2⟩
    rw [g0, bl_0] at h
    cases h
  · obtain rfl := Option.some.inj ex
    refine ⟨⟨fun h => absurd h (by decide), fun h => ?_⟩, .inr rfl, fr⟩
    have all := L1.mp h
    refine absurd (lc_0.mpr (bl_0i (fun c => ?_))) g
    cases hb : bl (((y1 &&& y2) &&& y3) &&& (bar ^^^ (-1 : Int64))) c with
    | false => rfl
    | true =>
      obtain ⟨c', a9, b9, d1, d2⟩ := ok.mp ⟨c, hb⟩
      exact absurd ⟨d1, d2⟩ (all c' a9 b9)
end
section
/-! part: closing stairs one behind the other -/
theorem sr_0 {x : Int64} (hx : ∀ d, bl x d = true → d < 36) {v : Int32} {s : Nat} (hv : v.toInt = (s : Int)) (s36 : s < 36) : x >>> (v.toInt64 &&& 63) = 0 ↔ ∀ d, bl x d = true → d < s := by
  constructor
  · intro h d hd
    rcases Nat.lt_or_ge d s with g | g
    · exact g
    · have e := bl_sr (x := x) hv (by omega) (i := d - s) (by have := hx d hd; omega)
      rw [h, bl_0, show s + (d - s) = d by omega, hd] at e
      cases e
  · intro h
    refine bl_ext (fun i hi => ?_)
    rw [bl_0]
    have no : ∀ d, s ≤ d → bl x d = false := fun d hd => by
      cases hb : bl x d with
      | false => rfl
      | true => have := h d hb; omega
    by_cases g : s + i < 64
    · rw [bl_sr hv (by omega) g]; exact no _ (by omega)
    · have m : x.toBitVec.getLsbD (64 - 1) = false := no 63 (by omega)
      unfold bl
      rw [Int64.toBitVec_shiftRight, BitVec.sshiftRight_eq', smd6_v hv (by omega), BitVec.getLsbD_sshiftRight, if_neg g, BitVec.msb_eq_getLsbD_last, m, Bool.and_false]
theorem nn_64 {x : Int64} (hx : ∀ d, bl x d = true → d < 36) : ¬ lg_cmp x (0 : Int64) < 0 := by
  have m : x.toBitVec.msb = false := by
    rw [BitVec.msb_eq_getLsbD_last]
    cases hb : x.toBitVec.getLsbD (64 - 1) with
    | false => rfl
    | true => have := hx 63 hb; omega
  rw [lg_cmp_lt, Int64.lt_iff_toInt_lt]
  have e : x.toInt = (x.toBitVec.toNat : Int) := BitVec.toInt_eq_toNat_of_msb m
  have z : (0 : Int64).toInt = 0 := rfl
  omega
def PC (rc : Int32 → Int32 → Int64 → Int32 → Int64 → Mem → Option Int64) (X : Mem) (v1 v2 : Int32) (v3 : Int64) (v5 : Int32) (v6 : Int64) (s : Nat) (P : Int64 → Prop) : Prop := ∃ (sv : Int32) (z : Int64), sv.toInt = (s : Int) ∧ rc v1 v2 v3 (v5 - (1 : Int32)) (v6 ||| ((1 : Int64) <<< (sv.toInt64 &&& 63))) X = some z ∧ P z
theorem pbyl_r {rc : Int32 → Int32 → Int64 → Int32 → Int64 → Mem → Option Int64} {X : Mem} {v1 v2 v5 : Int32} {v3 v6 : Int64} {w lo : Nat} (hw : (X.1 3 3).toInt = (w : Int)) (w36 : w ≤ 36) (hx : ∀ d, bl v6 d = true → d < 36) (hlo : ∀ s, lo ≤ s ↔ ∀ d, bl v6 d = true → d < s) {x : Unit ⊕ Int64} (e : iter (lb_Top_partedBy_28 rc v1 v2 v3 v5 v6 X) FU (0 : Int32) = some x) :
    Sum.elim (fun _ : Unit => ∀ s : Nat, s < w → lo ≤ s → bl v3 s = true → PC rc X v1 v2 v3 v5 v6 s (fun z => lg_cmp z (0 : Int64) < 0)) (fun z : Int64 => ¬ lg_cmp z (0 : Int64) < 0 ∧ ∃ s : Nat, s < w ∧ lo ≤ s ∧ bl v3 s = true ∧ PC rc X v1 v2 v3 v5 v6 s (fun z => ¬ lg_cmp z (0 : Int64) < 0)) x := by
  refine it_r (I := fun s : Int32 => ∃ k : Nat, s.toInt = (k : Int) ∧ k ≤ 36 ∧ ∀ s : Nat, s < k → lo ≤ s → bl v3 s = true → PC rc X v1 v2 v3 v5 v6 s (fun z => lg_cmp z (0 : Int64) < 0))
    (Q := fun x : Unit ⊕ Int64 => Sum.elim (fun _ : Unit => ∀ s : Nat, s < w → lo ≤ s → bl v3 s = true → PC rc X v1 v2 v3 v5 v6 s (fun z => lg_cmp z (0 : Int64) < 0)) (fun z : Int64 => ¬ lg_cmp z (0 : Int64) < 0 ∧ ∃ s : Nat, s < w ∧ lo ≤ s ∧ bl v3 s = true ∧ PC rc X v1 v2 v3 v5 v6 s (fun z => ¬ lg_cmp z (0 : Int64) < 0)) x) ?_ e ⟨0, rfl, by omega, fun s h => absurd h (by omega)⟩
  rintro sv r ⟨k, hk, k36, ih⟩ e
  unfold lb_Top_partedBy_28 at e
  rcases io e with ⟨g, e⟩ | ⟨g, e⟩
  · have := q_le g
    obtain rfl := Option.some.inj e
    show ∀ s : Nat, s < w → lo ≤ s → bl v3 s = true → PC rc X v1 v2 v3 v5 v6 s (fun z => lg_cmp z (0 : Int64) < 0)
    exact fun s hs => ih s (by omega)
  have g1 := q_ng g
  have b1 : (sv + (1 : Int32)).toInt = ((k + 1 : Nat) : Int) := add_ti hk o1 (by omega) (by omega)
  have nx : (lo ≤ k → bl v3 k = true → PC rc X v1 v2 v3 v5 v6 k (fun z => lg_cmp z (0 : Int64) < 0)) → ∃ k' : Nat, (sv + (1 : Int32)).toInt = (k' : Int) ∧ k' ≤ 36 ∧ ∀ s : Nat, s < k' → lo ≤ s → bl v3 s = true → PC rc X v1 v2 v3 v5 v6 s (fun z => lg_cmp z (0 : Int64) < 0) := fun h => ⟨k + 1, b1, by omega, fun s hs h1 h2 => by
    by_cases q : s = k
    · subst q; exact h h1 h2
    · exact ih s (by omega) h1 h2⟩
  rcases io e with ⟨g2, e⟩ | ⟨g2, e⟩
  · have lk9 : lo ≤ k := (hlo k).mpr ((sr_0 hx hk (by omega)).mp (lc_0.mp g2))
    unfold j_Top_partedBy_55_28 at e
    rw [if_neg (by decide)] at e
    rcases io e with ⟨g3, e⟩ | ⟨g3, e⟩
    · have h3 := (bl_cmp hk (by omega)).mp g3
      obtain rfl := Option.some.inj e
      exact nx (fun _ h => by rw [h3] at h; cases h)
    have h3 : bl v3 k = true := by
      cases hb : bl v3 k with
      | true => rfl
      | false => exact absurd ((bl_cmp hk (by omega)).mpr hb) g3
    obtain ⟨z, ez, e⟩ := bo e
    rcases io e with ⟨g4, e⟩ | ⟨g4, e⟩
    · obtain rfl := Option.some.inj e
      exact nx (fun _ _ => ⟨sv, z, hk, ez, g4⟩)
    · obtain rfl := Option.some.inj e
      show ¬ lg_cmp z (0 : Int64) < 0 ∧ _
      exact ⟨g4, k, by omega, lk9, h3, sv, z, hk, ez, g4⟩
  · have lk9 : ¬ lo ≤ k := fun h => g2 (lc_0.mpr ((sr_0 hx hk (by omega)).mpr ((hlo k).mp h)))
    unfold j_Top_partedBy_55_28 at e
    rw [if_pos rfl] at e
    obtain rfl := Option.some.inj e
    exact nx (fun h => absurd h lk9)
def PR (R : Mem) (F : Nat) (a b i i4 : Int32) (v6 : Int64) (s : Nat) (P : Int32 → Prop) : Prop := ∃ (M5 : Mem) (sv : Int32) (y : Int32 × Mem), sv.toInt = (s : Int) ∧ CSx R M5 (fun d => bl (v6 ||| ((1 : Int64) <<< (sv.toInt64 &&& 63))) d) ∧ J M5 ∧ fr_parts F a b (i + (1 : Int32)) i4 (sv + (1 : Int32)) M5 = some y ∧ P y.1
theorem CS_gd {R S N : Mem} {C : Nat → Bool} (cs : CSx R S C) (g : Gd 1000 S N) : CSx R N C := by
  have e : ∀ i, N.1 164 i = S.1 164 i := fun i => g 164 i (.inl ⟨rfl, by decide⟩)
  exact ⟨(g 162 2 (.inl ⟨rfl, by decide⟩)).trans cs.1, (g 162 3 (.inl ⟨rfl, by decide⟩)).trans cs.2.1, fun i => (g 163 i (.inl ⟨rfl, by decide⟩)).trans (cs.2.2.1 i), fun i h => (e i).trans (cs.2.2.2.1 i h), fun i h => ⟨(cs.2.2.2.2 i h).1, (e i).trans (cs.2.2.2.2 i h).2⟩⟩
theorem partsl_r {X R : Mem} {n p q ca cb w lo F : Nat} {a b i i4 fm : Int32} {v6 : Int64} {S : Mem} {x : Mem ⊕ Mem} (zq : ZQ X R n) (hp : a.toInt = (p : Int)) (hq : b.toInt = (q : Int)) (pn : p < n) (qn : q < n) (hca : (X.1 12 p).toInt = (ca : Int)) (hcb : (X.1 12 q).toInt = (cb : Int)) (hw : xw R * xh R = (w : Int)) (w36 : w ≤ 36) (i0 : 0 ≤ i.toInt) (ii : i.toInt + 1 ≤ i4.toInt) (i3 : i4.toInt ≤ 3) (fu : i4.toInt - (i.toInt + 1) < (F : Int)) (hfm : fm.toInt = (lo : Int)) (lo36 : lo ≤ 36) (hb6 : ∀ d, bl v6 d = true → d < lo) (cs : CSx R S (fun d => bl v6 d)) (jS : J S) (e : iter (lb_Mod_parts_28 (fr_parts F) a b i i4) FU (fm, S) = some x) :
    Sum.elim (fun _ : Mem => ∀ s : Nat, s < w → lo ≤ s → (R.1 164 s).toInt = 3 → s ≠ ca → s ≠ cb → PR R F a b i i4 v6 s (fun y => y = 0)) (fun _ : Mem => ∃ s : Nat, s < w ∧ lo ≤ s ∧ (R.1 164 s).toInt = 3 ∧ s ≠ ca ∧ s ≠ cb ∧ PR R F a b i i4 v6 s (fun y => y ≠ 0)) x := by
  have n8 := zq.1
  have z3 := o3
  refine it_r (I := fun s : Int32 × Mem => ∃ k : Nat, s.1.toInt = (k : Int) ∧ k ≤ 36 ∧ lo ≤ k ∧ J s.2 ∧ CSx R s.2 (fun d => bl v6 d) ∧ ∀ s' : Nat, s' < k → lo ≤ s' → (R.1 164 s').toInt = 3 → s' ≠ ca → s' ≠ cb → PR R F a b i i4 v6 s' (fun y => y = 0))
    (Q := fun x : Mem ⊕ Mem => Sum.elim (fun _ : Mem => ∀ s : Nat, s < w → lo ≤ s → (R.1 164 s).toInt = 3 → s ≠ ca → s ≠ cb → PR R F a b i i4 v6 s (fun y => y = 0)) (fun _ : Mem => ∃ s : Nat, s < w ∧ lo ≤ s ∧ (R.1 164 s).toInt = 3 ∧ s ≠ ca ∧ s ≠ cb ∧ PR R F a b i i4 v6 s (fun y => y ≠ 0)) x) ?_ e ⟨lo, hfm, lo36, Nat.le_refl _, jS, cs, fun s h1 h2 => absurd h1 (by omega)⟩
  clear cs jS e
  rintro ⟨sv, N⟩ r ⟨k, hk, k36, lk9, jN, cs, ih⟩ e
  dsimp only at hk jN cs
  unfold lb_Mod_parts_28 at e
  dsimp only at e
  obtain ⟨x4, e4, e⟩ := bo e
  have e4 := cells_e.symm.trans e4
  obtain rfl := Option.some.inj e4
  have we := wh_ti jN
  rw [show xw N = xw R from congrArg Int32.toInt cs.1, show xh N = xh R from congrArg Int32.toInt cs.2.1, hw] at we
  rcases io e with ⟨g, e⟩ | ⟨g, e⟩
  · have := q_le g
    obtain rfl := Option.some.inj e
    show ∀ s : Nat, s < w → _
    exact fun s hs => ih s (by omega)
  have g1 := q_ng g
  have b1 : (sv + (1 : Int32)).toInt = ((k + 1 : Nat) : Int) := add_ti hk o1 (by omega) (by omega)
  have nx : ∀ K : Mem, J K → CSx R K (fun d => bl v6 d) → ((R.1 164 k).toInt = 3 → k ≠ ca → k ≠ cb → PR R F a b i i4 v6 k (fun y => y = 0)) → ∃ k' : Nat, (sv + (1 : Int32)).toInt = (k' : Int) ∧ k' ≤ 36 ∧ lo ≤ k' ∧ J K ∧ CSx R K (fun d => bl v6 d) ∧ ∀ s' : Nat, s' < k' → lo ≤ s' → (R.1 164 s').toInt = 3 → s' ≠ ca → s' ≠ cb → PR R F a b i i4 v6 s' (fun y => y = 0) := fun K h1 h2 h => ⟨k + 1, b1, by omega, by omega, h1, h2, fun s hs u1 u2 u3 u4 => by
    by_cases q9 : s = k
    · subst q9; exact h u2 u3 u4
    · exact ih s (by omega) u1 u2 u3 u4⟩
  have nk : bl v6 k = false := by
    cases hb : bl v6 k with
    | false => rfl
    | true => have := hb6 k hb; omega
  have ek : N.1 164 k = R.1 164 k := cs.2.2.2.1 k nk
  obtain ⟨_, e⟩ := io_n e
  rw [q_nat hk] at e
  rcases io e with ⟨g2, e⟩ | ⟨g2, e⟩
  rotate_left
  · obtain rfl := Option.some.inj e
    exact nx N jN cs (fun h => absurd (by rw [ek]; exact Int32.toInt_inj.mp (h.trans z3.symm)) g2)
  obtain ⟨_, e⟩ := io_n e
  rw [q_nat hp, cs.2.2.1 p] at e
  obtain ⟨x2, e2, e⟩ := bo e
  have c2 := (whr zq pn).1 x2 e2
  rcases io e with ⟨g3, e⟩ | ⟨g3, e⟩
  · obtain rfl := Option.some.inj e
    refine nx N jN cs (fun _ h => absurd ?_ h)
    rw [g3, c2] at hk; omega
  obtain ⟨_, e⟩ := io_n e
  rw [q_nat hq, cs.2.2.1 q] at e
  obtain ⟨x3, e3, e⟩ := bo e
  have c3 := (whr zq qn).1 x3 e3
  rcases io e with ⟨g4, e⟩ | ⟨g4, e⟩
  · obtain rfl := Option.some.inj e
    refine nx N jN cs (fun _ _ h => absurd ?_ h)
    rw [g4, c3] at hk; omega
  have nca : k ≠ ca := fun h => g3 (Int32.toInt_inj.mp (by rw [c2]; omega))
  have ncb : k ≠ cb := fun h => g4 (Int32.toInt_inj.mp (by rw [c3]; omega))
  have r3 : R.1 164 k = 3 := by rw [← ek]; exact g2
  obtain ⟨_, e⟩ := io_n e
  obtain ⟨M4, m4, e⟩ := mo e
  obtain ⟨_, e⟩ := io_n e
  obtain ⟨M5, m5, e⟩ := mo e
  obtain ⟨x6, e6, e⟩ := bo e
  obtain ⟨_, e⟩ := io_n e
  obtain ⟨M7, m7, e⟩ := mo e
  have j5 : J M5 := by rw [m5]; exact Jw_any ok_164 (by rw [m4]; exact Jw_any ok_184 jN _ _) _ _
  have f5 : ∀ kx j, kx ≠ 184 → ¬ (kx = 164 ∧ j = k) → M5.1 kx j = N.1 kx j := fun kx j h1 h2 => by rw [m5, si_ne (by omega), m4, si_ne (by omega)]
  have cs5 : CSx R M5 (fun d => bl (v6 ||| ((1 : Int64) <<< (sv.toInt64 &&& 63))) d) := by
    refine ⟨(f5 162 2 (by omega) (by omega)).trans cs.1, (f5 162 3 (by omega) (by omega)).trans cs.2.1, fun j => (f5 163 j (by omega) (by omega)).trans (cs.2.2.1 j), fun j hj => ?_, fun j hj => ?_⟩
    · dsimp only at hj
      rw [bl_or, bl_one hk (by omega), Bool.or_eq_false_iff] at hj
      have := of_decide_eq_false hj.2
      exact (f5 164 j (by omega) (by omega)).trans (cs.2.2.2.1 j hj.1)
    · dsimp only at hj
      rw [bl_or, bl_one hk (by omega), Bool.or_eq_true, decide_eq_true_iff] at hj
      by_cases z : j = k
      · subst z
        exact ⟨r3, by rw [m5, si_eq]⟩
      · rcases hj with hj | hj
        · exact ⟨(cs.2.2.2.2 j hj).1, (f5 164 j (by omega) (by omega)).trans (cs.2.2.2.2 j hj).2⟩
        · exact absurd hj z
  have i1 : (i + (1 : Int32)).toInt = i.toInt + 1 := add_ti rfl o1 (by omega) (by omega)
  obtain ⟨j6, g6, _⟩ := some_of (sp_parts a b (by omega) (by omega) F (i + (1 : Int32)) i4 (sv + (1 : Int32)) M5 j5 (by omega) (by omega) i3 (by omega) (by omega) (by omega)) e6
  have cs6 := CS_gd cs5 g6
  have j7 : J M7 := by rw [m7]; exact Jw_any ok_164 j6 _ _
  have f7 : ∀ kx j, ¬ (kx = 164 ∧ j = k) → M7.1 kx j = x6.2.1 kx j := fun kx j h => by rw [m7, si_ne h]
  have cs7 : CSx R M7 (fun d => bl v6 d) := by
    refine ⟨(f7 162 2 (by omega)).trans cs6.1, (f7 162 3 (by omega)).trans cs6.2.1, fun j => (f7 163 j (by omega)).trans (cs6.2.2.1 j), fun j hj => ?_, fun j hj => ?_⟩
    · by_cases z : j = k
      · subst z; rw [m7, si_eq, r3]
      · refine (f7 164 j (by omega)).trans (cs6.2.2.2.1 j ?_)
        dsimp only
        rw [bl_or, bl_one hk (by omega), decide_eq_false z, Bool.or_false]; exact hj
    · have z : j ≠ k := fun h => by subst h; dsimp only at hj; rw [nk] at hj; cases hj
      have := cs6.2.2.2.2 j (by dsimp only; rw [bl_or]; dsimp only at hj; rw [hj]; rfl)
      exact ⟨this.1, (f7 164 j (by omega)).trans this.2⟩
  rcases io e with ⟨g8, e⟩ | ⟨g8, e⟩
  · obtain rfl := Option.some.inj e
    exact nx M7 j7 cs7 (fun _ _ _ => ⟨M5, sv, x6, hk, cs5, j5, e6, g8⟩)
  · obtain rfl := Option.some.inj e
    show ∃ s : Nat, s < w ∧ _
    exact ⟨k, by omega, lk9, by rw [r3]; rfl, nca, ncb, M5, sv, x6, hk, cs5, j5, e6, g8⟩
end
section
/-! part: both go through the same closings -/
theorem cls_1 {w ca cb lo s : Nat} {R : Mem} {v3 v6 : Int64} {sv : Int32} (hv3 : ∀ d, bl v3 d = true ↔ d < w ∧ (R.1 164 d).toInt = 3 ∧ d ≠ ca ∧ d ≠ cb) (w36 : w ≤ 36) (hs : sv.toInt = (s : Int)) (sw : s < w) (ls : lo ≤ s) (h3 : bl v3 s = true) (hsub : ∀ d, bl v6 d = true → bl v3 d = true) (hlo : ∀ s, lo ≤ s ↔ ∀ d, bl v6 d = true → d < s) : (∀ d, bl (v6 ||| ((1 : Int64) <<< (sv.toInt64 &&& 63))) d = true → bl v3 d = true) ∧ ∀ t, s + 1 ≤ t ↔ ∀ d, bl (v6 ||| ((1 : Int64) <<< (sv.toInt64 &&& 63))) d = true → d < t := by
  have m : ∀ d, bl (v6 ||| ((1 : Int64) <<< (sv.toInt64 &&& 63))) d = true ↔ bl v6 d = true ∨ d = s := fun d => by
    rw [bl_or, bl_one hs (by omega), Bool.or_eq_true, decide_eq_true_iff]
  refine ⟨fun d hd => ?_, fun t => ⟨fun ht d hd => ?_, fun h => ?_⟩⟩
  · rcases (m d).mp hd with h | h
    · exact hsub d h
    · subst h; exact h3
  · rcases (m d).mp hd with h | h
    · have := (hlo s).mp ls d h; omega
    · omega
  · have := h s ((m s).mpr (.inr rfl)); omega
theorem pby_2 {X R : Mem} {n p q ca cb w : Nat} {a b : Int32} {v3 : Int64} (zq : ZQ X R n) (hp : a.toInt = (p : Int)) (hq : b.toInt = (q : Int)) (pn : p < n) (qn : q < n) (hca : (X.1 12 p).toInt = (ca : Int)) (hcb : (X.1 12 q).toInt = (cb : Int)) (hw : xw R * xh R = (w : Int)) (w36 : w ≤ 36) (hv3 : ∀ d, bl v3 d = true ↔ d < w ∧ (R.1 164 d).toInt = 3 ∧ d ≠ ca ∧ d ≠ cb) :
    ∀ (k F1 F2 lo : Nat) (a5 i i4 fm : Int32) (v6 : Int64) (S : Mem) (x : Int64) (y : Int32 × Mem), a5.toInt = (k : Int) → 0 ≤ i.toInt → i4.toInt = i.toInt + (k : Int) → i4.toInt ≤ 3 → k < F2 → fm.toInt = (lo : Int) → lo ≤ 36 → (∀ d, bl v6 d = true → bl v3 d = true) → (∀ s, lo ≤ s ↔ ∀ d, bl v6 d = true → d < s) → CSx R S (fun d => bl v6 d) → J S → fr_pby F1 a b v3 a5 v6 X = some x → fr_parts F2 a b i i4 fm S = some y → (¬ lg_cmp x (0 : Int64) < 0 ↔ y.1 ≠ 0) := by
  have zq' := zq
  obtain ⟨n8, jR, ⟨zg, zc, zl⟩, zs, zv, zw⟩ := zq'
  have neg : lg_cmp (-1 : Int64) (0 : Int64) < 0 := by decide
  have z0 := o0
  intro k
  induction k with
  | zero =>
    intro F1 F2 lo a5 i i4 fm v6 S x y h5 i0 hi4 i3 hF hfm l36 hsub hlo cs jS ex ey
    cases F1 with
    | zero => exact nomatch (show (none : Option Int64) = some x from ex)
    | succ F1 =>
    obtain ⟨F, rfl⟩ : ∃ F, F2 = F + 1 := ⟨F2 - 1, by omega⟩
    have ex : fb_Top_partedBy (fr_pby F1) a b v3 a5 v6 X = some x := ex
    have ey : fb_Mod_parts (fr_parts F) a b i i4 fm S = some y := ey
    have b6 : ∀ d, bl v6 d = true → d < 36 := fun d h => by have := ((hv3 d).mp (hsub d h)).1; omega
    have oca : bl v6 ca = false := by
      cases hb : bl v6 ca with
      | false => rfl
      | true => exact absurd rfl ((hv3 ca).mp (hsub ca hb)).2.2.1
    have ocb : bl v6 cb = false := by
      cases hb : bl v6 cb with
      | false => rfl
      | true => exact absurd rfl ((hv3 cb).mp (hsub cb hb)).2.2.2
    unfold fb_Top_partedBy at ex
    rcases io ex with ⟨g, _⟩ | ⟨_, ex⟩
    · have := q_lt g; omega
    obtain ⟨x10, e10, ex⟩ := bo ex
    unfold fb_Mod_parts at ey
    rcases io ey with ⟨_, ey⟩ | ⟨g, _⟩
    rotate_left
    · exact absurd (Int32.toInt_inj.mp (by omega)) g
    obtain ⟨x16, e16, ey⟩ := bo ey
    obtain ⟨mr, m01, _⟩ := may_r n8 jR jS zg.2.2.2 zs zv zw cs (fun d _ => Iff.rfl) hp hq pn qn (by show bl v6 _ = false; rw [hca, Int.toNat_natCast]; exact oca) (by show bl v6 _ = false; rw [hcb, Int.toNat_natCast]; exact ocb) e10 e16
    rcases io ex with ⟨g, ex⟩ | ⟨g, ex⟩
    · obtain rfl := Option.some.inj ex
      rcases io ey with ⟨g2, ey⟩ | ⟨g2, ey⟩
      · obtain rfl := Option.some.inj ey
        exact ⟨fun _ => by show ¬ (1 : Int32) = 0; decide, fun _ => nn_64 b6⟩
      · exact absurd (mr.mp g) g2
    · obtain rfl := Option.some.inj ex
      rcases io ey with ⟨g2, ey⟩ | ⟨g2, ey⟩
      · exact absurd (mr.mpr g2) g
      · obtain rfl := Option.some.inj ey
        exact ⟨fun h => absurd neg h, fun h => absurd rfl h⟩
  | succ k ih =>
    intro F1 F2 lo a5 i i4 fm v6 S x y h5 i0 hi4 i3 hF hfm l36 hsub hlo cs jS ex ey
    cases F1 with
    | zero => exact nomatch (show (none : Option Int64) = some x from ex)
    | succ F1 =>
    obtain ⟨F, rfl⟩ : ∃ F, F2 = F + 1 := ⟨F2 - 1, by omega⟩
    have ex : fb_Top_partedBy (fr_pby F1) a b v3 a5 v6 X = some x := ex
    have ey : fb_Mod_parts (fr_parts F) a b i i4 fm S = some y := ey
    have b6 : ∀ d, bl v6 d = true → d < 36 := fun d h => by have := ((hv3 d).mp (hsub d h)).1; omega
    unfold fb_Top_partedBy at ex
    rcases io ex with ⟨_, ex⟩ | ⟨g, _⟩
    rotate_left
    · have := q_nl g; omega
    obtain ⟨xl, exl, ex⟩ := bo ex
    unfold fb_Mod_parts at ey
    rcases io ey with ⟨g, _⟩ | ⟨_, ey⟩
    · rw [g] at hi4; omega
    obtain ⟨yl, eyl, ey⟩ := bo ey
    have CL := pbyl_r (rc := fr_pby F1) (w := w) (by rw [zg.2.1]; exact hw) w36 b6 hlo exl
    have RL := partsl_r (F := F) zq hp hq pn qn hca hcb hw w36 i0 (by omega) i3 (by omega) hfm l36 (fun d h => (hlo lo).mp (Nat.le_refl _) d h) cs jS eyl
    have a51 : (a5 - (1 : Int32)).toInt = (k : Int) := by rw [sub_ti h5 o1 (by omega) (by omega)]; omega
    have i1 : (i + (1 : Int32)).toInt = i.toInt + 1 := add_ti rfl o1 (by omega) (by omega)
    have EQ : ∀ (s : Nat) (P : Int64 → Prop) (P' : Int32 → Prop), s < w → lo ≤ s → bl v3 s = true → PC (fr_pby F1) X a b v3 a5 v6 s P → PR R F a b i i4 v6 s P' → ∃ z y, P z ∧ P' y ∧ (¬ lg_cmp z (0 : Int64) < 0 ↔ y ≠ 0) := by
      rintro s P P' sw ls h3 ⟨sv, z, hs, ez, pz⟩ ⟨M5, sv', y', hs', cs5, j5, ey', py⟩
      have : sv' = sv := Int32.toInt_inj.mp (by omega)
      subst this
      obtain ⟨c1, c2⟩ := cls_1 hv3 w36 hs sw ls h3 hsub hlo
      exact ⟨z, y'.1, pz, py, ih F1 F (s + 1) _ _ i4 (sv' + (1 : Int32)) _ M5 z y' a51 (by omega) (by omega) i3 (by omega) (by rw [add_ti hs o1 (by omega) (by omega)]; omega) (by omega) c1 c2 cs5 j5 ez ey'⟩
    rcases xl with u | z
    · have ex' : (-1 : Int64) = x := Option.some.inj ex
      rcases yl with N | N
      · obtain rfl := Option.some.inj ey
        rw [← ex']
        exact ⟨fun h => absurd neg h, fun h => absurd rfl h⟩
      · exfalso
        obtain ⟨s, sw, ls, h3, n1, n2, pr⟩ := RL
        have b3 := (hv3 s).mpr ⟨sw, h3, n1, n2⟩
        obtain ⟨z, y', e1, e2, e3⟩ := EQ s _ _ sw ls b3 (CL s sw ls b3) pr
        exact e3.mpr e2 e1
    · have ex' : z = x := Option.some.inj ex
      obtain ⟨zn, s, sw, ls, b3, pc⟩ := CL
      rcases yl with N | N
      · exfalso
        obtain ⟨_, h3, n1, n2⟩ := (hv3 s).mp b3
        obtain ⟨z', y', e1, e2, e3⟩ := EQ s _ _ sw ls b3 pc (RL s sw ls h3 n1 n2)
        exact e3.mp e1 e2
      · obtain rfl := Option.some.inj ey
        rw [← ex']
        exact ⟨fun _ => by show ¬ (1 : Int32) = 0; decide, fun _ => zn⟩
theorem can_mono {X R : Mem} {n p q : Nat} {a b : Int32} {v3 v6 : Int64} {x3 x6 : Int32} (zq : ZQ X R n) (hp : a.toInt = (p : Int)) (hq : b.toInt = (q : Int)) (pn : p < n) (qn : q < n) (hsub : ∀ d, bl v6 d = true → bl v3 d = true) (e3 : f_Top_canTryst a b v3 X = some x3) (e6 : f_Top_canTryst a b v6 X = some x6) (h : x3 ≠ 0) : x6 ≠ 0 := by
  obtain ⟨n8, jR, ⟨zg, zc, zl⟩, zs, zv, zw⟩ := zq
  have wh := awh jR
  obtain ⟨la, ca, la2, ca36, hla, hca, hPa, ona⟩ := at_2 n8 zs zv pn
  obtain ⟨lb, cb, lb2, cb36, hlb, hcb, hPb, onb⟩ := at_2 n8 zs zv qn
  have one : ∀ {v : Int32} {t l c : Nat} {y3 y6 : Int64}, v.toInt = (t : Int) → l < 2 → c < 36 → (X.1 13 t).toInt = (l : Int) → (X.1 12 t).toInt = (c : Int) → f_Top_roaming v v3 X = some y3 → f_Top_roaming v v6 X = some y6 → ∀ d, bl y3 d = true → bl y6 d = true := by
    intro v t l c y3 y6 hv l2 c36 hl hc r3 r6
    obtain ⟨b3, f3, s3⟩ := roaming_i (c := 0) (C := fun d => bl v3 d) hv hl (fun d _ => Iff.rfl) r3
    obtain ⟨b6, f6, s6⟩ := roaming_i (c := 0) (C := fun d => bl v6 d) hv hl (fun d _ => Iff.rfl) r6
    have near : ∀ c d, c < 36 → bl (X.2.1 (32 + 2) (l * 36 + c)) d = true → d < 36 := fun c d hc h => ((near_go jR zv zw.2 l2 hc).mp h).2.1
    obtain ⟨_, _, _, m3⟩ := flood_i (.inl rfl) hl l2 hc c36 near f3
    obtain ⟨k1, k2, k3, _⟩ := flood_i (.inl rfl) hl l2 hc c36 near f6
    refine m3 (fun d => bl y6 d = true) k1 (fun c' d hc' h1 h2 h4 => k3 c' d h1 h2 ?_)
    cases hb : bl b6 d with
    | false => rfl
    | true =>
      have d36 := near c' d hc' h2
      have := (s6 d d36).mp hb
      rw [(s3 d d36).mpr ⟨this.1, hsub d this.2⟩] at h4
      cases h4
  unfold f_Top_canTryst at e3 e6
  obtain ⟨y1, ey1, e3⟩ := bo e3
  obtain ⟨y2, ey2, e3⟩ := bo e3
  obtain ⟨y3, ey3, e3⟩ := bo e3
  obtain ⟨u1, eu1, e6⟩ := bo e6
  obtain ⟨u2, eu2, e6⟩ := bo e6
  obtain ⟨u3, eu3, e6⟩ := bo e6
  rw [ey3] at eu3
  obtain rfl := Option.some.inj eu3
  have k1 := one hp la2 ca36 hla hca ey1 eu1
  have k2 := one hq lb2 cb36 hlb hcb ey2 eu2
  have st := stairs_i (.inl rfl) jR zg.2.2.2 zw.1 ey3
  rcases io e3 with ⟨_, e3⟩ | ⟨g, _⟩
  · exact absurd (Option.some.inj e3).symm h
  rcases io e6 with ⟨g6, _⟩ | ⟨_, e6⟩
  rotate_left
  · obtain rfl := Option.some.inj e6; decide
  exfalso
  refine g (lc_0.mpr (bl_0i (fun c => ?_)))
  cases hb : bl (((y1 &&& y2) &&& y3) &&& (v3 ^^^ (-1 : Int64))) c with
  | false => rfl
  | true =>
    rw [bl_and, bl_and, bl_and, Bool.and_eq_true, Bool.and_eq_true, Bool.and_eq_true] at hb
    obtain ⟨⟨⟨h1, h2⟩, h3⟩, h4⟩ := hb
    have c64 : c < 64 := by have := ((st c).mp h3).1; omega
    rw [bl_not c64] at h4
    have z6 := lc_0.mp g6
    have : bl (((u1 &&& u2) &&& y3) &&& (v6 ^^^ (-1 : Int64))) c = true := by
      rw [bl_and, bl_and, bl_and, Bool.and_eq_true, Bool.and_eq_true, Bool.and_eq_true, bl_not c64]
      refine ⟨⟨⟨k1 c h1, k2 c h2⟩, h3⟩, ?_⟩
      cases hb6 : bl v6 c with
      | false => rfl
      | true => rw [hsub c hb6] at h4; cases h4
    rw [z6, bl_0] at this
    cases this
theorem pby_neg {X R : Mem} {n p q ca cb w : Nat} {a b x3 : Int32} {v3 : Int64} (zq : ZQ X R n) (hp : a.toInt = (p : Int)) (hq : b.toInt = (q : Int)) (pn : p < n) (qn : q < n) (hw : xw R * xh R = (w : Int)) (w36 : w ≤ 36) (hv3 : ∀ d, bl v3 d = true ↔ d < w ∧ (R.1 164 d).toInt = 3 ∧ d ≠ ca ∧ d ≠ cb) (e3 : f_Top_canTryst a b v3 X = some x3) (h3 : x3 ≠ 0) :
    ∀ (k F lo : Nat) (a5 : Int32) (v6 : Int64) (x : Int64), a5.toInt = (k : Int) → k ≤ 3 → (∀ d, bl v6 d = true → bl v3 d = true) → (∀ s, lo ≤ s ↔ ∀ d, bl v6 d = true → d < s) → fr_pby F a b v3 a5 v6 X = some x → lg_cmp x (0 : Int64) < 0 := by
  have neg : lg_cmp (-1 : Int64) (0 : Int64) < 0 := by decide
  have z0 := o0
  have zg := zq.2.2.1.1
  intro k
  induction k with
  | zero =>
    intro F lo a5 v6 x h5 _ hsub hlo ex
    cases F with
    | zero => exact nomatch (show (none : Option Int64) = some x from ex)
    | succ F =>
    have ex : fb_Top_partedBy (fr_pby F) a b v3 a5 v6 X = some x := ex
    unfold fb_Top_partedBy at ex
    rcases io ex with ⟨g, _⟩ | ⟨_, ex⟩
    · have := q_lt g; omega
    obtain ⟨x10, e10, ex⟩ := bo ex
    rcases io ex with ⟨g, _⟩ | ⟨_, ex⟩
    · exact absurd g (can_mono zq hp hq pn qn hsub e3 e10 h3)
    · obtain rfl := Option.some.inj ex
      exact neg
  | succ k ih =>
    intro F lo a5 v6 x h5 k3 hsub hlo ex
    cases F with
    | zero => exact nomatch (show (none : Option Int64) = some x from ex)
    | succ F =>
    have ex : fb_Top_partedBy (fr_pby F) a b v3 a5 v6 X = some x := ex
    have b6 : ∀ d, bl v6 d = true → d < 36 := fun d h => by have := ((hv3 d).mp (hsub d h)).1; omega
    unfold fb_Top_partedBy at ex
    rcases io ex with ⟨_, ex⟩ | ⟨g, _⟩
    rotate_left
    · have := q_nl g; omega
    obtain ⟨xl, exl, ex⟩ := bo ex
    have CL := pbyl_r (rc := fr_pby F) (w := w) (by rw [zg.2.1]; exact hw) w36 b6 hlo exl
    have a51 : (a5 - (1 : Int32)).toInt = (k : Int) := by rw [sub_ti h5 o1 (by omega) (by omega)]; omega
    rcases xl with u | z
    · have ex' : (-1 : Int64) = x := Option.some.inj ex
      rw [← ex']; exact neg
    · obtain ⟨_, s, sw, ls, b3, sv, z', hs, ez, pz⟩ := CL
      obtain ⟨c1, c2⟩ := cls_1 hv3 w36 hs sw ls b3 hsub hlo
      exact absurd (ih F (s + 1) _ _ z' a51 (by omega) c1 c2 ez) pz
end
