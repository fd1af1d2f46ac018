/-! path, tryst -/
theorem plc_2 {X R : Mem} {lv cv x y : Int32} (zg : ZG X R) (jR : J R) (ex : f_Ground_holds lv cv X = some x) (ey : f_Mod_isPlaceOf lv cv R = some y) : (x = 0 ∧ y = 0) ∨ (x = 1 ∧ y = 1 ∧ ∃ l c : Nat, l < 2 ∧ c < 36 ∧ lv.toInt = (l : Int) ∧ cv.toInt = (c : Int) ∧ onN R l c) := by
  have wh := awh jR
  have h := holdsC zg jR ex
  unfold f_Mod_isPlaceOf at ey
  obtain ⟨y1, ey1, ey⟩ := bo ey
  have h1 := some_of (sp_in lv 0 1) ey1
  rw [o0, o1] at h1
  rcases h1 with ⟨a, b⟩ | ⟨a, b⟩
  · rw [a, if_neg (by decide)] at ey
    obtain ⟨y2, ey2, ey⟩ := bo ey
    have h2 := some_of (fs_isOf jR lv cv) ey2
    rcases h2 with ⟨c, d⟩ | ⟨c, d⟩
    · rw [c, if_neg (by decide)] at ey
      obtain rfl := Option.some.inj ey
      rcases h with ⟨hx, _⟩ | ⟨_, hx⟩
      · obtain ⟨l, hl⟩ := ti_ofn b.1
        obtain ⟨c', hc'⟩ := ti_ofn d.1
        have := d.2.1
        exact .inr ⟨hx, rfl, l, c', by omega, by omega, hl, hc', by rw [← hl, ← hc']; exact d⟩
      · exact absurd ⟨b.1, b.2, d⟩ hx
    · rw [c, if_pos rfl] at ey
      obtain rfl := Option.some.inj ey
      rcases h with ⟨_, hx⟩ | ⟨hx, _⟩
      · exact absurd hx.2.2 d
      · exact .inl ⟨hx, rfl⟩
  · rw [a, if_pos rfl] at ey
    obtain rfl := Option.some.inj ey
    rcases h with ⟨_, hx⟩ | ⟨hx, _⟩
    · exact absurd ⟨hx.1, hx.2.1⟩ b
    · exact .inl ⟨hx, rfl⟩
theorem place_c {lv cv x : Int32} {l c : Nat} (hl : lv.toInt = (l : Int)) (hc : cv.toInt = (c : Int)) (l2 : l < 2) (c36 : c < 36) (e : f_Mod_placeOf lv cv = some x) : x.toInt = ((36 * l + c : Nat) : Int) := by
  have k36 : (36 : Int32).toInt = 36 := rfl
  unfold f_Mod_placeOf at e
  obtain rfl := Option.some.inj e
  rw [add_ti (mul_ti k36 hl (by omega) (by omega)) hc (by omega) (by omega)]; omega
theorem path_q {X R : Mem} {n : Nat} {v1 v2 v3 : Int32} {x r : Int32 × Mem} (za : ZA X R n) (ex : f_Top_path v1 v2 v3 X = some x) (er : f_Mod_path v1 v2 v3 R = some r) : x.1 = r.1 := by
  unfold f_Mod_path at er
  obtain ⟨M1, m1, er⟩ := mo er
  obtain ⟨zaM, fqM⟩ := ZA_M1 za m1
  obtain ⟨n8, jM, ⟨zg, zc, zl⟩, zs, zv, zw⟩ := zaM.1
  unfold f_Top_path at ex
  obtain ⟨x1, ex1, ex⟩ := bo ex
  obtain ⟨y2, ey2, er⟩ := bo er
  rcases plc_2 zg jM ex1 ey2 with ⟨a, b⟩ | ⟨a, b, l, c, l2, c36, hl, hc, onc⟩
  · rw [a, if_pos rfl] at ex
    rw [b, if_pos rfl] at er
    obtain rfl := Option.some.inj ex
    obtain rfl := Option.some.inj er
    rfl
  rw [a, if_neg (by decide)] at ex
  rw [b, if_neg (by decide)] at er
  obtain ⟨x2, ex2, ex⟩ := bo ex
  obtain ⟨y3, ey3, er⟩ := bo er
  rcases plc_2 zg jM ex2 ey3 with ⟨a, b⟩ | ⟨a, b, l', f, l2', f36, hl', hf, onf⟩
  · rw [a, if_pos rfl] at ex
    rw [b, if_pos rfl] at er
    obtain rfl := Option.some.inj ex
    obtain rfl := Option.some.inj er
    rfl
  have : l' = l := by omega
  subst this
  rw [a, if_neg (by decide)] at ex
  rw [b, if_neg (by decide)] at er
  obtain ⟨x3, ex3, ex⟩ := bo ex
  obtain ⟨p4, e4, er⟩ := bo er
  obtain ⟨r5, e5, er⟩ := bo er
  obtain ⟨p6, e6, er⟩ := bo er
  obtain ⟨_, ex⟩ := io_n ex
  obtain ⟨_, er⟩ := io_n er
  obtain ⟨E, _⟩ := meas_2 jM zv zw hl l2 hf f36 onf (place_c hl hf l2 f36 e4) ex3 e5
  rw [q_nat hc, E c c36] at ex
  rw [q_nat (place_c hl hc l2 c36 e6)] at er
  rcases io ex with ⟨g, ex⟩ | ⟨g, ex⟩
  · rw [if_pos g] at er
    obtain ⟨x4, _, ex⟩ := bo ex
    obtain ⟨x11, _, ex⟩ := bo ex
    obtain rfl := Option.some.inj ex
    obtain ⟨M7, _, er⟩ := mo er
    obtain ⟨y17, _, er⟩ := bo er
    obtain rfl := Option.some.inj er
    rfl
  · rw [if_neg g] at er
    obtain rfl := Option.some.inj ex
    obtain rfl := Option.some.inj er
    rfl
/-- the soonest of cells below k, the first of equal ones -/
def pick (P : Nat → Bool) (V : Nat → Int) : Nat → Int × Int
  | 0 => (1000000, -1)
  | k + 1 => if P k = true ∧ V k < (pick P V k).1 then (V k, (k : Int)) else pick P V k
theorem pick_p {P : Nat → Bool} {V : Nat → Int} {k : Nat} (h : P k = true ∧ V k < (pick P V k).1) : pick P V (k + 1) = (V k, (k : Int)) := if_pos h
theorem pick_n {P : Nat → Bool} {V : Nat → Int} {k : Nat} (h : ¬ (P k = true ∧ V k < (pick P V k).1)) : pick P V (k + 1) = pick P V k := if_neg h
theorem pick_b {P : Nat → Bool} {V : Nat → Int} (hV : ∀ c, P c = true → 0 ≤ V c) : ∀ k, 0 ≤ (pick P V k).1 ∧ (pick P V k).1 ≤ 1000000 ∧ -1 ≤ (pick P V k).2 ∧ (pick P V k).2 < (k : Int) ∧ ((pick P V k).1 = 1000000 ↔ (pick P V k).2 = -1) ∧ (∀ c : Nat, (pick P V k).2 = (c : Int) → (pick P V k).1 = V c) := by
  intro k
  induction k with
  | zero => exact ⟨by show (0 : Int) ≤ 1000000; decide, by show (1000000 : Int) ≤ 1000000; decide, by show (-1 : Int) ≤ -1; decide, by show (-1 : Int) < ((0 : Nat) : Int); decide, ⟨fun _ => rfl, fun _ => rfl⟩, fun c h => by simp only [pick] at h; omega⟩
  | succ k ih =>
    simp only [pick]
    by_cases g : P k = true ∧ V k < (pick P V k).1
    · rw [if_pos g]
      have := hV k g.1
      refine ⟨this, by dsimp only; omega, by dsimp only; omega, by dsimp only; omega, ⟨fun h => by dsimp only at h; omega, fun h => by dsimp only at h; omega⟩, fun c h => ?_⟩
      dsimp only at h ⊢
      have : c = k := by omega
      subst this; rfl
    · rw [if_neg g]
      exact ⟨ih.1, ih.2.1, ih.2.2.1, by have := ih.2.2.2.1; omega, ih.2.2.2.2.1, ih.2.2.2.2.2⟩
theorem pick_s {P : Nat → Bool} {V : Nat → Int} {k : Nat} (j : Nat) (h : ∀ c, k ≤ c → c < k + j → P c = false) : pick P V (k + j) = pick P V k := by
  induction j with
  | zero => rfl
  | succ j ih =>
    show (if P (k + j) = true ∧ V (k + j) < (pick P V (k + j)).1 then (V (k + j), ((k + j : Nat) : Int)) else pick P V (k + j)) = _
    rw [if_neg (fun w => by rw [h (k + j) (by omega) (by omega)] at w; cases w.1), ih (fun c h1 h2 => h c h1 (by omega))]
theorem pick_c {P Q : Nat → Bool} {V W : Nat → Int} {k : Nat} (h : ∀ c, c < k → P c = Q c) (g : ∀ c, c < k → P c = true → V c = W c) : pick P V k = pick Q W k := by
  induction k with
  | zero => rfl
  | succ k ih =>
    have i := ih (fun c hc => h c (by omega)) (fun c hc => g c (by omega))
    simp only [pick]
    rw [i, ← h k (by omega)]
    by_cases b : P k = true
    · rw [g k (by omega) b]
    · rw [if_neg (fun w => b w.1), if_neg (fun w => b w.1)]
def mxi (a b : Int32) : Int := if a < b then b.toInt else a.toInt
theorem mxi_i (a b : Int32) : (if a < b then b else a).toInt = mxi a b := by
  unfold mxi
  by_cases g : a < b
  · rw [if_pos g, if_pos g]
  · rw [if_neg g, if_neg g]
theorem later_i {X : Mem} {v x : Int32} {c : Nat} (hv : v.toInt = (c : Int)) (e : f_Ways_later v X = some x) : x.toInt = mxi (X.1 155 c) (X.1 156 c) := by
  unfold f_Ways_later at e
  obtain ⟨_, e⟩ := io_n e
  obtain ⟨_, e⟩ := io_n e
  obtain rfl := Option.some.inj e
  rw [q_nat hv]
  exact mxi_i _ _
theorem soon_c {v1 : Nat} {X : Mem} {x : Int32} {sv : Int64} (hs : f_Nets_stairs v1 X = some sv) (hb : ∀ c, bl sv c = true → 0 ≤ (X.1 155 c).toInt ∧ 0 ≤ (X.1 156 c).toInt) (e : iter (lb_Top_soonestStair_69 v1 X) FU ((-1 : Int32), (1000000 : Int32), (0 : Int32)) = some x) : x.toInt = (pick (fun c => bl sv c) (fun c => mxi (X.1 155 c) (X.1 156 c)) 36).2 := by
  have k36 : (36 : Int32).toInt = 36 := rfl
  refine it_r (I := fun s : Int32 × Int32 × Int32 => ∃ k : Nat, k ≤ 36 ∧ s.2.2.toInt = (k : Int) ∧ s.1.toInt = (pick (fun c => bl sv c) (fun c => mxi (X.1 155 c) (X.1 156 c)) k).2 ∧ s.2.1.toInt = (pick (fun c => bl sv c) (fun c => mxi (X.1 155 c) (X.1 156 c)) k).1) (Q := fun x : Int32 => x.toInt = (pick (fun c => bl sv c) (fun c => mxi (X.1 155 c) (X.1 156 c)) 36).2) ?_ e ⟨0, by omega, rfl, rfl, rfl⟩
  rintro ⟨b, so, i⟩ r ⟨k, k36', hk, h1, h2⟩ e
  dsimp only at hk h1 h2
  unfold lb_Top_soonestStair_69 at e
  dsimp only at e
  rcases io e with ⟨g, e⟩ | ⟨g, e⟩
  · have := q_le g
    obtain rfl := Option.some.inj e
    have : k = 36 := by omega
    subst this
    exact h1
  have g1 := q_ng g
  have i1 : (i + (1 : Int32)).toInt = ((k + 1 : Nat) : Int) := add_ti hk o1 (by omega) (by omega)
  obtain ⟨x3, e3, e⟩ := bo e
  rw [hs] at e3
  obtain rfl := Option.some.inj e3
  rcases io e with ⟨g, e⟩ | ⟨g, e⟩
  · have gb := (bl_cmp hk (by omega)).mp g
    obtain rfl := Option.some.inj e
    refine ⟨k + 1, by omega, i1, ?_⟩
    simp only [pick]
    rw [if_neg (fun w => by rw [gb] at w; cases w.1)]
    exact ⟨h1, h2⟩
  have gb : bl sv k = true := by
    cases hb : bl sv k with
    | true => rfl
    | false => exact absurd ((bl_cmp hk (by omega)).mpr hb) g
  obtain ⟨x4, e4, e⟩ := bo e
  have l4 := later_i hk e4
  rcases io e with ⟨g, e⟩ | ⟨g, e⟩
  · have := q_le g
    obtain rfl := Option.some.inj e
    refine ⟨k + 1, by omega, i1, ?_⟩
    simp only [pick]
    rw [if_neg (fun w => by have := w.2; omega)]
    exact ⟨h1, h2⟩
  · have := q_ng g
    obtain ⟨x5, e5, e⟩ := bo e
    have l5 := later_i hk e5
    obtain rfl := Option.some.inj e
    refine ⟨k + 1, by omega, i1, ?_⟩
    simp only [pick]
    rw [if_pos ⟨gb, by omega⟩]
    exact ⟨hk, l5⟩
