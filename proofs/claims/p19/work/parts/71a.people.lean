/-! scenes and people, side by side -/
theorem scn_rf_all : (List.range 193).all (fun a => !(kd a == 17) || (List.range 6).all (fun j => rf a j == a + 1 + j)) = true := by decide +kernel
theorem scn_rf {k j : Nat} (h : kd k = 10 + 7) (hj : j < 6) : rf k j = k + 1 + j := by
  have q := List.all_eq_true.mp scn_rf_all k (List.mem_range.mpr (kd_193 (by omega)))
  have g : (kd k == 17) = true := by rw [h]; rfl
  rw [g] at q
  exact (by simpa using q : ∀ x, x < 6 → rf k x = k + 1 + x) j hj
def scn (M : Mem) (k j i : Nat) : Int32 := if j < 6 then M.1 (k + 1 + j) i else M.1 k j
def SEq (f f' : Nat → Nat → Int32) : Prop := (∀ i, i < 8 → f 0 i = f' 0 i) ∧ (∀ i, i < 8 → f 1 i = f' 1 i) ∧ (∀ i, i < 8 → f 2 i = f' 2 i) ∧ (∀ i, i < 64 → f 3 i = f' 3 i) ∧ (∀ i, i < 6 → f 4 i = f' 4 i) ∧ (∀ i, i < 6 → f 5 i = f' 5 i) ∧ f 6 0 = f' 6 0 ∧ f 7 0 = f' 7 0 ∧ f 8 0 = f' 8 0 ∧ f 9 0 = f' 9 0
/-- a scene f and a row g of the reference, of n people -/
def ZS (f : Nat → Nat → Int32) (g : Nat → Int32) (n : Nat) : Prop :=
  (∀ p, p < n → (g p).toInt = (f 0 p).toInt + 36 * (f 1 p).toInt ∧ 0 ≤ (f 0 p).toInt ∧ (f 0 p).toInt ≤ 35 ∧ 0 ≤ (f 1 p).toInt ∧ (f 1 p).toInt ≤ 1 ∧ g (8 + p) = f 2 p) ∧
  (∀ p q, p < n → q < n → g (16 + 8 * p + q) = f 3 (8 * p + q) + f 3 (8 * q + p)) ∧
  (∀ p q, p < 8 → q < 8 → (n ≤ p ∨ n ≤ q) → f 3 (8 * p + q) = 0) ∧
  f 6 0 = g 92 ∧ (∀ j : Nat, j < 6 → (j : Int) < (g 92).toInt → f 4 j = g (80 + 2 * j) ∧ f 5 j = g (81 + 2 * j)) ∧
  f 7 0 = g 95 ∧ f 8 0 = g 93 ∧ f 9 0 = g 94
theorem ZS_c {f f' : Nat → Nat → Int32} {g g' : Nat → Int32} {n : Nat} (n8 : n ≤ 8) (hf : SEq f f') (hg : ∀ i, i < 96 → g i = g' i) (h : ZS f g n) : ZS f' g' n := by
  obtain ⟨a0, a1, a2, a3, a4, a5, a6, a7, a8, a9⟩ := hf
  obtain ⟨h1, h2, h3, h4, h5, h6, h7, h8⟩ := h
  refine ⟨fun p hp => ?_, fun p q hp hq => ?_, fun p q hp hq hh => ?_, ?_, fun j hj hl => ?_, ?_, ?_, ?_⟩
  · rw [← hg p (by omega), ← a0 p (by omega), ← a1 p (by omega), ← hg (8 + p) (by omega), ← a2 p (by omega)]; exact h1 p hp
  · rw [← hg _ (by omega), ← a3 _ (by omega), ← a3 _ (by omega)]; exact h2 p q hp hq
  · rw [← a3 _ (by omega)]; exact h3 p q hp hq hh
  · rw [← a6, ← hg 92 (by omega)]; exact h4
  · rw [← hg 92 (by omega)] at hl
    rw [← a4 j hj, ← a5 j hj, ← hg _ (by omega), ← hg _ (by omega)]; exact h5 j hj hl
  · rw [← a7, ← hg 95 (by omega)]; exact h6
  · rw [← a8, ← hg 93 (by omega)]; exact h7
  · rw [← a9, ← hg 94 (by omega)]; exact h8
/-- people: what does not change as minutes go by -/
def ZC (X R : Mem) (n : Nat) : Prop := (R.1 162 4).toInt = (n : Int) ∧ X.1 6 4 = R.1 162 4 ∧ X.1 6 5 = R.1 162 5 ∧ (∀ p, p < n → X.1 8 p = R.1 166 p ∧ 1 ≤ (R.1 166 p).toInt ∧ (R.1 166 p).toInt ≤ 9) ∧ (∀ p i : Nat, p < n → (i : Int) < (R.1 166 p).toInt → X.1 7 (9 * p + i) = R.1 165 (9 * p + i) ∧ 0 ≤ (R.1 165 (9 * p + i)).toInt ∧ (R.1 165 (9 * p + i)).toInt ≤ 4) ∧ ∀ p, n ≤ p → bt (R.1 162 5) p = false
/-- a row of the reference fits map and people -/
def ZV (R : Mem) (g : Nat → Int32) (n : Nat) : Prop :=
  (∀ p, p < n → onP R (g p).toInt ∧ (bt (R.1 162 5) p = false → (g p).toInt < 36) ∧ 0 ≤ (g (8 + p)).toInt ∧ (g (8 + p)).toInt < (R.1 166 p).toInt) ∧
  (0 ≤ (g 92).toInt ∧ (g 92).toInt ≤ 6) ∧ (0 ≤ (g 94).toInt ∧ (g 94).toInt ≤ 1) ∧
  (∀ j : Nat, (j : Int) < (g 92).toInt → onN R 1 (g (80 + 2 * j)).toInt ∧ onN R 1 (g (81 + 2 * j)).toInt ∧ ∃ s : Nat, s < 4 ∧ bb (xw R) (xh R) (g (80 + 2 * j)).toInt s = (g (81 + 2 * j)).toInt ∧ ¬ onN R 1 (bes (xw R) (xh R) (g (80 + 2 * j)).toInt s))
theorem ti_ofn {v : Int32} (h : 0 ≤ v.toInt) : ∃ n : Nat, v.toInt = (n : Int) := ⟨v.toInt.toNat, by omega⟩
theorem bt_lt {v : Int32} {m : Nat} (hm : m ≤ 31) (h : ∀ d, m ≤ d → bt v d = false) : 0 ≤ v.toInt ∧ v.toInt < 2 ^ m := by
  have hn : v.toBitVec.toNat < 2 ^ m := by
    refine Nat.lt_pow_two_of_testBit _ (fun i hi => ?_)
    have := h i hi
    unfold bt at this
    rw [BitVec.testBit_toNat]; exact this
  have le : (2 : Nat) ^ m ≤ 2 ^ 31 := Nat.pow_le_pow_right (by omega) hm
  have c := ti_c v
  rw [if_pos (by omega)] at c
  rw [c]
  refine ⟨by omega, ?_⟩
  have : ((2 : Int) ^ m) = ((2 ^ m : Nat) : Int) := by push_cast; rfl
  rw [this]; omega
def pc (v : Int32) : Nat := (List.range 8).countP (fun d => bt v d)
theorem bc_all : ∀ v : Fin 256, f_JInteger_bitCount (Int32.ofNat v.val) = some (Int32.ofNat (pc (Int32.ofNat v.val))) := by decide +kernel
theorem bc_i {v : Int32} (h : ∀ d, 8 ≤ d → bt v d = false) : f_JInteger_bitCount v = some (Int32.ofNat (pc v)) := by
  have k := bt_lt (m := 8) (by omega) h
  have e : (2 : Int) ^ 8 = 256 := rfl
  obtain ⟨n, hn⟩ := ti_ofn k.1
  rw [ofn_eq hn (by omega)]
  exact bc_all ⟨n, by omega⟩
theorem standing_i {k n : Nat} {M : Mem} {l c m x : Int32} (hm : m.toInt = (n : Int)) (n8 : n ≤ 8) (e : f_Scene_standing k l c m M = some x) : ∀ p, bt x p = decide (p < n ∧ M.1 (k + 1) p = c ∧ M.1 (k + 2) p = l) := by
  unfold f_Scene_standing at e
  obtain ⟨hk, e⟩ := io_n e
  obtain ⟨x4, e4, e⟩ := bo e
  obtain rfl := Option.some.inj e
  have r0 : rf k 0 = k + 1 := scn_rf hk (by omega)
  have r1 : rf k 1 = k + 2 := scn_rf hk (by omega)
  refine it_r (I := fun s : Int32 × Int32 => ∃ i : Nat, i ≤ n ∧ s.2.toInt = (i : Int) ∧ ∀ p, bt s.1 p = decide (p < i ∧ M.1 (k + 1) p = c ∧ M.1 (k + 2) p = l)) (Q := fun x : Int32 => ∀ p, bt x p = decide (p < n ∧ M.1 (k + 1) p = c ∧ M.1 (k + 2) p = l)) ?_ e4 ⟨0, by omega, rfl, fun p => by rw [bt_0, decide_eq_false (by omega)]⟩
  rintro ⟨a, b⟩ r ⟨i, li, hi, ha⟩ e
  dsimp only at hi ha
  unfold lb_Scene_standing_6 at e
  dsimp only at e
  rw [r0, r1] at e
  rcases io e with ⟨g, e⟩ | ⟨g, e⟩
  · have := q_le g
    obtain rfl := Option.some.inj e
    have : i = n := by omega
    subst this; exact ha
  have g1 := q_ng g
  have b1 : (b + (1 : Int32)).toInt = ((i + 1 : Nat) : Int) := add_ti hi o1 (by omega) (by omega)
  obtain ⟨_, e⟩ := io_n e
  rw [q_nat hi] at e
  have no : ¬ (M.1 (k + 1) i = c ∧ M.1 (k + 2) i = l) → ∀ p, bt a p = decide (p < i + 1 ∧ M.1 (k + 1) p = c ∧ M.1 (k + 2) p = l) := by
    intro h p
    rw [ha p]
    by_cases q : p = i
    · subst q; rw [decide_eq_false (by omega), decide_eq_false (fun z => h z.2)]
    · by_cases z : p < i ∧ M.1 (k + 1) p = c ∧ M.1 (k + 2) p = l
      · rw [decide_eq_true z, decide_eq_true ⟨by omega, z.2⟩]
      · rw [decide_eq_false z, decide_eq_false (fun y => z ⟨by omega, y.2⟩)]
  rcases io e with ⟨g2, e⟩ | ⟨g2, e⟩
  · obtain ⟨_, e⟩ := io_n e
    rcases io e with ⟨g3, e⟩ | ⟨g3, e⟩
    · obtain rfl := Option.some.inj e
      refine ⟨i + 1, by omega, b1, fun p => ?_⟩
      show bt (a ||| ((1 : Int32) <<< (b &&& 31))) p = _
      rw [bt_b1 _ hi (by omega), ha p]
      by_cases q : p = i
      · subst q; rw [decide_eq_true (rfl : p = p), Bool.or_true, decide_eq_true ⟨by omega, g2, g3⟩]
      · rw [decide_eq_false q, Bool.or_false]
        by_cases z : p < i ∧ M.1 (k + 1) p = c ∧ M.1 (k + 2) p = l
        · rw [decide_eq_true z, decide_eq_true ⟨by omega, z.2⟩]
        · rw [decide_eq_false z, decide_eq_false (fun y => z ⟨by omega, y.2⟩)]
    · obtain rfl := Option.some.inj e
      exact ⟨i + 1, by omega, b1, no (fun z => g3 z.2)⟩
  · obtain rfl := Option.some.inj e
    exact ⟨i + 1, by omega, b1, no (fun z => g2 z.1)⟩
theorem onPlace_i {a n : Nat} {R : Mem} {c x : Int32} (hm : (R.1 162 4).toInt = (n : Int)) (n8 : n ≤ 8) (e : f_Mod_onPlace a c R = some x) : ∀ p, bt x p = decide (p < n ∧ R.1 a p = c) := by
  unfold f_Mod_onPlace at e
  obtain ⟨hk, e⟩ := io_n e
  obtain ⟨x4, e4, e⟩ := bo e
  obtain rfl := Option.some.inj e
  refine it_r (I := fun s : Int32 × Int32 => ∃ i : Nat, i ≤ n ∧ s.2.toInt = (i : Int) ∧ ∀ p, bt s.1 p = decide (p < i ∧ R.1 a p = c)) (Q := fun x : Int32 => ∀ p, bt x p = decide (p < n ∧ R.1 a p = c)) ?_ e4 ⟨0, by omega, rfl, fun p => by rw [bt_0, decide_eq_false (by omega)]⟩
  rintro ⟨u, b⟩ r ⟨i, li, hi, ha⟩ e
  dsimp only at hi ha
  unfold lb_Mod_onPlace_5 at e
  dsimp only at e
  rcases io e with ⟨g, e⟩ | ⟨g, e⟩
  · have := q_le g
    obtain rfl := Option.some.inj e
    have : i = n := by omega
    subst this; exact ha
  have g1 := q_ng g
  have b1 : (b + (1 : Int32)).toInt = ((i + 1 : Nat) : Int) := add_ti hi o1 (by omega) (by omega)
  obtain ⟨_, e⟩ := io_n e
  rw [q_nat hi] at e
  rcases io e with ⟨g2, e⟩ | ⟨g2, e⟩
  · obtain rfl := Option.some.inj e
    refine ⟨i + 1, by omega, b1, fun p => ?_⟩
    show bt (u ||| ((1 : Int32) <<< (b &&& 31))) p = _
    rw [bt_b1 _ hi (by omega), ha p]
    by_cases q : p = i
    · subst q; rw [decide_eq_true (rfl : p = p), Bool.or_true, decide_eq_true ⟨by omega, g2⟩]
    · rw [decide_eq_false q, Bool.or_false]
      by_cases z : p < i ∧ R.1 a p = c
      · rw [decide_eq_true z, decide_eq_true ⟨by omega, z.2⟩]
      · rw [decide_eq_false z, decide_eq_false (fun y => z ⟨by omega, y.2⟩)]
  · obtain rfl := Option.some.inj e
    refine ⟨i + 1, by omega, b1, fun p => ?_⟩
    show bt (u ||| (0 : Int32)) p = _
    rw [bt_or, bt_0, Bool.or_false, ha p]
    by_cases q : p = i
    · subst q; rw [decide_eq_false (by omega), decide_eq_false (fun z => g2 z.2)]
    · by_cases z : p < i ∧ R.1 a p = c
      · rw [decide_eq_true z, decide_eq_true ⟨by omega, z.2⟩]
      · rw [decide_eq_false z, decide_eq_false (fun y => z ⟨by omega, y.2⟩)]
theorem womanC {X : Mem} {v x : Int32} {p : Nat} (hp : v.toInt = (p : Int)) (h32 : p < 32) (e : f_Crowd_woman v X = some x) : (x = 0 ↔ bt (X.1 6 5) p = false) := by
  unfold f_Crowd_woman at e
  rw [bt_shr hp h32] at e
  cases hb : bt (X.1 6 5) p with
  | true =>
    rw [hb, if_pos rfl, if_neg (by decide)] at e
    obtain rfl := Option.some.inj e
    exact ⟨fun h => (by cases h), fun h => (by cases h)⟩
  | false =>
    rw [hb, if_neg (show ¬ (false = true) by decide), if_pos rfl] at e
    obtain rfl := Option.some.inj e
    exact ⟨fun _ => rfl, fun _ => rfl⟩
theorem hasR {b v x : Int32} {p : Nat} (hp : v.toInt = (p : Int)) (h32 : p < 32) (e : f_Mod_has b v = some x) : (x = 0 ↔ bt b p = false) := by
  unfold f_Mod_has at e
  rw [bt_shr hp h32] at e
  cases hb : bt b p with
  | true =>
    rw [hb, if_pos rfl, if_pos rfl] at e
    obtain rfl := Option.some.inj e
    exact ⟨fun h => (by cases h), fun h => (by cases h)⟩
  | false =>
    rw [hb, if_neg (show ¬ (false = true) by decide), if_neg (by decide)] at e
    obtain rfl := Option.some.inj e
    exact ⟨fun _ => rfl, fun _ => rfl⟩
theorem place_i {v : Int32} (h0 : 0 ≤ v.toInt) (h : v.toInt ≤ 71) {x : Int32} : (f_Mod_cellOf v = some x → x.toInt = v.toInt % 36) ∧ (f_Mod_levelOf v = some x → x.toInt = v.toInt / 36) := by
  constructor
  · intro e
    unfold f_Mod_cellOf at e
    obtain rfl := Option.some.inj e
    exact rem_ti rfl rfl h0 (by decide)
  · intro e
    unfold f_Mod_levelOf at e
    obtain rfl := Option.some.inj e
    exact div_ti rfl rfl h0 (by decide)
/-- letters of a rule, for one of the people -/
def ltr (w : Int) (K : Nat → Int32) (wom : Int32) (n : Nat) (g : Nat → Int32) (p : Nat) (s : Int32) : Int32 :=
  if s = 105 then Int32.ofNat p else if s = 107 then (if bt (g 93) p = true then 1 else 0) else if s = 109 then g 95 else if s = 115 then (if K ((g p).toInt % 36).toNat = 3 then 1 else 0) else if s = 119 then (if bt wom p = true then 1 else 0) else if s = 120 then Int32.ofInt ((g p).toInt % 36 % w) else if s = 121 then Int32.ofInt ((g p).toInt % 36 / w) else Int32.ofNat ((List.range n).countP (fun o => decide (o ≠ p ∧ g o = g p)))
theorem ofi_eq {v : Int32} {z : Int} (h : v.toInt = z) : v = Int32.ofInt z := (ofi h).symm
theorem cnt_s (n : Nat) (P : Nat → Bool) : (List.range (n + 1)).countP P = (List.range n).countP P + (if P n = true then 1 else 0) := by
  rw [List.range_succ, List.countP_append]
  cases h : P n <;> simp [h]
theorem letter_i {a n p : Nat} {R : Mem} {s v x : Int32} (hw : 1 ≤ xw R ∧ xw R ≤ 6) (gr : 0 ≤ (R.1 a p).toInt ∧ (R.1 a p).toInt ≤ 71) (hn : (R.1 162 4).toInt = (n : Int)) (n8 : n ≤ 8) (hp : v.toInt = (p : Int)) (p8 : p < 8) (e : f_Mod_letter s a v R = some x) : x = ltr (xw R) (R.1 164) (R.1 162 5) n (R.1 a) p s := by
  unfold f_Mod_letter at e
  obtain ⟨_, e⟩ := io_n e
  obtain ⟨_, e⟩ := io_n e
  obtain ⟨x1, e1, e⟩ := bo e
  rw [q_nat hp] at e1
  have hc := (place_i gr.1 gr.2).1 e1
  unfold ltr
  rcases io e with ⟨g, e⟩ | ⟨g, e⟩
  · rw [if_pos g]; obtain rfl := Option.some.inj e; exact ofn_eq hp (by omega)
  rw [if_neg g]
  rcases io e with ⟨g, e⟩ | ⟨g, e⟩
  · rw [if_pos g]
    obtain ⟨_, e⟩ := io_n e
    obtain rfl := Option.some.inj e
    exact bt_shr hp (by omega)
  rw [if_neg g]
  rcases io e with ⟨g, e⟩ | ⟨g, e⟩
  · rw [if_pos g]
    obtain ⟨_, e⟩ := io_n e
    obtain rfl := Option.some.inj e
    rfl
  rw [if_neg g]
  rcases io e with ⟨g, e⟩ | ⟨g, e⟩
  · rw [if_pos g]
    obtain ⟨_, e⟩ := io_n e
    rw [tcn', hc] at e
    rcases io e with ⟨g2, e⟩ | ⟨g2, e⟩
    · obtain rfl := Option.some.inj e; rw [if_pos g2]
    · obtain rfl := Option.some.inj e; rw [if_neg g2]
  rw [if_neg g]
  rcases io e with ⟨g, e⟩ | ⟨g, e⟩
  · rw [if_pos g]
    obtain rfl := Option.some.inj e
    exact bt_shr hp (by omega)
  rw [if_neg g]
  rcases io e with ⟨g, e⟩ | ⟨g, e⟩
  · rw [if_pos g]
    obtain ⟨_, e⟩ := io_m e
    obtain rfl := Option.some.inj e
    refine ofi_eq ?_
    rw [rem_ti hc (show (R.1 162 2).toInt = xw R from rfl) (by omega) (by omega)]
  rw [if_neg g]
  rcases io e with ⟨g, e⟩ | ⟨g, e⟩
  · rw [if_pos g]
    obtain ⟨_, e⟩ := io_m e
    obtain rfl := Option.some.inj e
    refine ofi_eq ?_
    rw [div_ti hc (show (R.1 162 2).toInt = xw R from rfl) (by omega) (by omega)]
  rw [if_neg g]
  obtain ⟨x5, e5, e⟩ := bo e
  obtain rfl := Option.some.inj e
  refine it_r (I := fun s : Int32 × Int32 => ∃ i : Nat, i ≤ n ∧ s.2.toInt = (i : Int) ∧ s.1.toInt = (((List.range i).countP (fun o => decide (o ≠ p ∧ R.1 a o = R.1 a p)) : Nat) : Int)) (Q := fun x : Int32 => x = Int32.ofNat ((List.range n).countP (fun o => decide (o ≠ p ∧ R.1 a o = R.1 a p)))) ?_ e5 ⟨0, by omega, rfl, rfl⟩
  rintro ⟨u, b⟩ r ⟨i, li, hi, hu⟩ e
  dsimp only at hi hu
  unfold lb_Mod_letter_156 at e
  dsimp only at e
  have cb : (List.range i).countP (fun o => decide (o ≠ p ∧ R.1 a o = R.1 a p)) ≤ i := by
    have := List.countP_le_length (p := fun o => decide (o ≠ p ∧ R.1 a o = R.1 a p)) (l := List.range i)
    rwa [List.length_range] at this
  rcases io e with ⟨g, e⟩ | ⟨g, e⟩
  · have := q_le g
    obtain rfl := Option.some.inj e
    have : i = n := by omega
    subst this; exact ofn_eq hu (by omega)
  have g1 := q_ng g
  have b1 : (b + (1 : Int32)).toInt = ((i + 1 : Nat) : Int) := add_ti hi o1 (by omega) (by omega)
  have u0 : ∀ {w : Int32}, w.toInt = 0 → ¬ (i ≠ p ∧ R.1 a i = R.1 a p) → (u + w).toInt = (((List.range (i + 1)).countP (fun o => decide (o ≠ p ∧ R.1 a o = R.1 a p)) : Nat) : Int) := by
    intro w hw0 h
    rw [add_ti hu hw0 (by omega) (by omega), cnt_s, if_neg (by rw [decide_eq_false h]; decide)]; omega
  rcases io e with ⟨g2, e⟩ | ⟨g2, e⟩
  · have := q_eq g2
    obtain rfl := Option.some.inj e
    exact ⟨i + 1, by omega, b1, u0 o0 (fun h => h.1 (by omega))⟩
  have g2 := q_ne g2
  obtain ⟨_, e⟩ := io_n e
  obtain ⟨_, e⟩ := io_n e
  rw [q_nat hi, q_nat hp] at e
  rcases io e with ⟨g3, e⟩ | ⟨g3, e⟩
  · obtain rfl := Option.some.inj e
    refine ⟨i + 1, by omega, b1, ?_⟩
    show (u + (1 : Int32)).toInt = _
    rw [add_ti hu o1 (by omega) (by omega), cnt_s, if_pos (decide_eq_true ⟨by omega, g3⟩)]; omega
  · obtain rfl := Option.some.inj e
    exact ⟨i + 1, by omega, b1, u0 o0 (fun h => g3 h.2)⟩
theorem pc_cnt {v : Int32} {P : Nat → Bool} {n : Nat} (n8 : n ≤ 8) (h : ∀ d, bt v d = (decide (d < n) && P d)) : pc v = (List.range n).countP P := by
  unfold pc
  have gen : ∀ m : Nat, m + n ≤ 8 + m → (List.range (n + m)).countP (fun d => bt v d) = (List.range n).countP P := by
    intro m _
    induction m with
    | zero =>
      have : ∀ k, k ≤ n → (List.range k).countP (fun d => bt v d) = (List.range k).countP P := by
        intro k
        induction k with
        | zero => intro _; rfl
        | succ k ih => intro hk; rw [cnt_s, cnt_s, ih (by omega), h k, decide_eq_true (by omega), Bool.true_and]
      exact this n (Nat.le_refl _)
    | succ m ih => rw [show n + (m + 1) = (n + m) + 1 by omega, cnt_s, ih (by omega), h (n + m), decide_eq_false (by omega), Bool.false_and]; simp
  have := gen (8 - n) (by omega)
  rw [show n + (8 - n) = 8 by omega] at this
  exact this
theorem qual_v {k n p : Nat} {X R : Mem} {g : Nat → Int32} {s v x : Int32} (z : ZG X R) (jR : J R) (zc : ZC X R n) (n8 : n ≤ 8) (hk : kd k = 10 + 7) (zs : ZS (scn X k) g n) (gb : ∀ q, q < n → onP R (g q).toInt) (hp : v.toInt = (p : Int)) (pn : p < n) (hq : isq s = true) (e : f_Law_quality s v k X = some x) : x = ltr (xw R) (R.1 164) (R.1 162 5) n g p s := by
  have hw := aw jR
  have r0 : rf k 0 = k + 1 := scn_rf hk (by omega)
  have r1 : rf k 1 = k + 2 := scn_rf hk (by omega)
  obtain ⟨s1, s2, s3, s4, s5, s6, s7, s8⟩ := zs
  obtain ⟨p1, p2, p3, p4, p5, p6⟩ := s1 p pn
  have sc0 : ∀ i, scn X k 0 i = X.1 (k + 1) i := fun i => rfl
  have sc1 : ∀ i, scn X k 1 i = X.1 (k + 2) i := fun i => rfl
  rw [sc0, sc1] at p1
  rw [sc0] at p2 p3
  rw [sc1] at p4 p5
  have cell : (g p).toInt % 36 = (X.1 (k + 1) p).toInt := by omega
  obtain ⟨c1, c2, c3, c4, c5, c6⟩ := zc
  unfold f_Law_quality at e
  obtain ⟨_, e⟩ := io_n e
  obtain ⟨_, e⟩ := io_n e
  unfold ltr
  rw [r0, r1, q_nat hp] at e
  rcases io e with ⟨h, e⟩ | ⟨h, e⟩
  · rw [if_pos h]; obtain rfl := Option.some.inj e; exact ofn_eq hp (by omega)
  rw [if_neg h]
  rcases io e with ⟨h, e⟩ | ⟨h, e⟩
  · rw [if_pos h]
    obtain rfl := Option.some.inj e
    rw [bt_shr hp (by omega), show X.1 k 8 = g 93 from s7]
  rw [if_neg h]
  rcases io e with ⟨h, e⟩ | ⟨h, e⟩
  · rw [if_pos h]
    obtain rfl := Option.some.inj e
    exact s6
  rw [if_neg h]
  rcases io e with ⟨h110, e⟩ | ⟨h110, e⟩
  · subst h110
    rw [if_neg (by decide), if_neg (by decide), if_neg (by decide), if_neg (by decide)]
    obtain ⟨_, e⟩ := io_n e
    obtain ⟨x4, e4, e⟩ := bo e
    obtain ⟨x5, e5, e⟩ := bo e
    obtain rfl := Option.some.inj e
    have st := standing_i (by rw [c2]; exact c1) n8 e4
    have geq : ∀ o, o < n → ((X.1 (k + 1) o = X.1 (k + 1) p ∧ X.1 (k + 2) o = X.1 (k + 2) p) ↔ g o = g p) := by
      intro o ho
      obtain ⟨q1, q2, q3, q4, q5, q6⟩ := s1 o ho
      rw [sc0, sc1] at q1
      rw [sc0] at q2 q3
      rw [sc1] at q4 q5
      constructor
      · rintro ⟨a, b⟩
        refine Int32.toInt_inj.mp ?_
        rw [q1, p1, a, b]
      · intro h
        rw [h] at q1
        exact ⟨Int32.toInt_inj.mp (by omega), Int32.toInt_inj.mp (by omega)⟩
    have b8 : ∀ d, 8 ≤ d → bt x4 d = false := fun d hd => by rw [st d, decide_eq_false (by omega)]
    rw [bc_i b8] at e5
    obtain rfl := Option.some.inj e5
    have pcv : pc x4 = (List.range n).countP (fun o => decide (g o = g p)) := pc_cnt n8 (fun d => by
      rw [st d]
      by_cases hd : d < n
      · rw [decide_eq_true hd, Bool.true_and]
        have := geq d hd
        by_cases z2 : g d = g p
        · rw [decide_eq_true z2, decide_eq_true ⟨hd, (this.mpr z2).1, (this.mpr z2).2⟩]
        · rw [decide_eq_false z2, decide_eq_false (fun y => z2 (this.mp ⟨y.2.1, y.2.2⟩))]
      · rw [decide_eq_false hd, Bool.false_and, decide_eq_false (fun y => hd y.1)])
    have sub : ∀ m, m ≤ 8 → (List.range m).countP (fun o => decide (g o = g p)) = (List.range m).countP (fun o => decide (o ≠ p ∧ g o = g p)) + (if p < m then 1 else 0) := by
      intro m
      induction m with
      | zero => intro _; rfl
      | succ m ih =>
        intro hm
        rw [cnt_s, cnt_s, ih (by omega)]
        by_cases q : m = p
        · subst q
          rw [if_pos (decide_eq_true rfl), if_neg (by omega), if_neg (by rw [decide_eq_false (fun h => h.1 rfl)]; decide), if_pos (by omega)]
        · have e2 : decide (g m = g p) = decide (m ≠ p ∧ g m = g p) := by
            by_cases z2 : g m = g p
            · rw [decide_eq_true z2, decide_eq_true ⟨q, z2⟩]
            · rw [decide_eq_false z2, decide_eq_false (fun y => z2 y.2)]
          rw [e2]
          have i1 : (if p < m then (1 : Nat) else 0) = if p < m + 1 then 1 else 0 := by
            by_cases q2 : p < m
            · rw [if_pos q2, if_pos (by omega)]
            · rw [if_neg q2, if_neg (by omega)]
          rw [i1]; omega
    rw [pcv, sub n n8, if_pos pn]
    have cb : (List.range n).countP (fun o => decide (o ≠ p ∧ g o = g p)) ≤ n := by
      have := List.countP_le_length (p := fun o => decide (o ≠ p ∧ g o = g p)) (l := List.range n)
      rwa [List.length_range] at this
    refine ofn_eq ?_ (by omega)
    rw [sub_ti (ofn_ti (by omega)) o1 (by omega) (by omega)]; omega
  rcases io e with ⟨h, e⟩ | ⟨h, e⟩
  · rw [if_pos h]
    obtain ⟨x7, e7, e⟩ := bo e
    have on := gb p pn
    have rb : 0 ≤ (X.1 (k + 1) p).toInt ∧ (X.1 (k + 1) p).toInt < xw R * xh R := by
      have := on.2.2
      rw [cell] at this
      exact ⟨this.1, this.2.1⟩
    rw [cell]
    rcases stairC z jR e7 with ⟨a, b⟩ | ⟨a, b⟩
    · rw [a, if_neg (by decide)] at e
      obtain rfl := Option.some.inj e
      rw [if_pos (Int32.toInt_inj.mp b.2.2)]
    · rw [a, if_pos rfl] at e
      obtain rfl := Option.some.inj e
      rw [if_neg (fun h3 => b ⟨rb.1, rb.2, by rw [h3]; rfl⟩)]
  rw [if_neg h]
  rcases io e with ⟨h, e⟩ | ⟨h, e⟩
  · rw [if_pos h]
    obtain ⟨x10, e10, e⟩ := bo e
    have wq := womanC hp (by omega) e10
    rw [c3] at wq
    rcases io e with ⟨h2, e⟩ | ⟨h2, e⟩
    · obtain rfl := Option.some.inj e
      rw [if_neg (by rw [wq.mp h2]; decide)]
    · obtain rfl := Option.some.inj e
      rw [if_pos (by cases hb : bt (R.1 162 5) p with | true => rfl | false => exact absurd (wq.mpr hb) h2)]
  rw [if_neg h]
  have wi : (X.1 3 2).toInt = xw R := z.1
  rcases io e with ⟨h, e⟩ | ⟨h, e⟩
  · rw [if_pos h]
    obtain ⟨x13, e13, e⟩ := bo e
    obtain rfl := Option.some.inj e
    unfold f_Ground_column at e13
    rcases io e13 with ⟨_, e13⟩ | ⟨h2, e13⟩
    · obtain ⟨_, e13⟩ := io_m e13
      obtain rfl := Option.some.inj e13
      refine ofi_eq ?_
      rw [rem_ti rfl wi (by omega) (by omega), cell]
    · have := q_ng h2; rw [o1] at this; omega
  rw [if_neg h]
  rcases io e with ⟨h, e⟩ | ⟨h, e⟩
  · rw [if_pos h]
    obtain ⟨x13, e13, e⟩ := bo e
    obtain rfl := Option.some.inj e
    unfold f_Ground_line at e13
    rcases io e13 with ⟨_, e13⟩ | ⟨h2, e13⟩
    · obtain ⟨_, e13⟩ := io_m e13
      obtain rfl := Option.some.inj e13
      refine ofi_eq ?_
      rw [div_ti rfl wi (by omega) (by omega), cell]
    · have := q_ng h2; rw [o1] at this; omega
  exfalso
  simp only [isq, Bool.or_eq_true, beq_iff_eq] at hq
  rcases hq with ((((((h' | h') | h') | h') | h') | h') | h') | h' <;> contradiction
