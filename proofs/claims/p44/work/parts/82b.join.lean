section
/-! watch: the reference -/
theorem enter_r {R T : Mem} {n : Nat} {v1 v3 : Int32} {x : Int32 × Mem} (hm : (R.1 162 4).toInt = (n : Int)) (n8 : n ≤ 8) (jT : J T) (fT : ∀ kx i, kx ≠ 186 → T.1 kx i = R.1 kx i) (hv : -1 ≤ v1.toInt ∧ v1.toInt ≤ 71) (e : f_Mod_enter v1 v3 T = some x) : (x = (0, T) ∧ (∀ u : Nat, v1.toInt = (u : Int) → mayb 186 T u ∨ barR R n v3 u)) ∨ (∃ u : Nat, v1.toInt = (u : Int) ∧ ¬ mayb 186 T u ∧ ¬ barR R n v3 u ∧ x = (1, s_i T 186 u 1)) := by
  have ym := om
  unfold f_Mod_enter at e
  rcases io e with ⟨g, e⟩ | ⟨g, e⟩
  · have gg := q_eq g
    obtain rfl := Option.some.inj e
    exact .inl ⟨rfl, fun u hu => by omega⟩
  have gg := q_ne g
  obtain ⟨u, hu⟩ : ∃ u : Nat, v1.toInt = (u : Int) := ⟨v1.toInt.toNat, by omega⟩
  obtain ⟨_, e⟩ := io_n e
  rw [q_nat hu] at e
  rcases io e with ⟨g2, e⟩ | ⟨g2, e⟩
  rotate_left
  · obtain rfl := Option.some.inj e
    exact .inl ⟨rfl, fun w hw => .inl (by have : w = u := by omega
                                          subst this; exact g2)⟩
  obtain ⟨x1, e1, e⟩ := bo e
  have op := onPlace_i (n := n) (by rw [fT 162 4 (by omega)]; exact hm) n8 e1
  have bar : barR R n v3 u ↔ ¬ (x1 &&& v3) = 0 := by
    unfold barR
    constructor
    · rintro ⟨p, pn, hb, hp⟩ h
      have : bt (x1 &&& v3) p = true := by
        rw [bt_and, hb, op p, decide_eq_true ⟨pn, Int32.toInt_inj.mp (by rw [fT 163 p (by omega), hp, hu])⟩]; rfl
      rw [h, bt_0] at this
      cases this
    · intro h
      have ex : ∃ p, bt (x1 &&& v3) p = true := by
        refine Classical.byContradiction (fun hh => h (bt_ext (fun d _ => ?_)))
        rw [bt_0]
        cases hb : bt (x1 &&& v3) d with
        | false => rfl
        | true => exact absurd ⟨d, hb⟩ hh
      obtain ⟨p, hp⟩ := ex
      rw [bt_and, Bool.and_eq_true, op p, decide_eq_true_eq] at hp
      exact ⟨p, hp.1.1, hp.2, by rw [← fT 163 p (by omega), hp.1.2, hu]⟩
  rcases io e with ⟨g3, e⟩ | ⟨g3, e⟩
  · obtain ⟨_, e⟩ := io_n e
    obtain ⟨M2, m2, e⟩ := mo e
    obtain rfl := Option.some.inj e
    rw [vb_1] at m2
    exact .inr ⟨u, hu, fun h => h g2, fun h => (bar.mp h) g3, by rw [m2]⟩
  · obtain rfl := Option.some.inj e
    exact .inl ⟨rfl, fun w hw => .inr (by have : w = u := by omega
                                          subst this; exact bar.mpr g3)⟩
def GI (R : Mem) (n f : Nat) (v3 : Int32) (T : Mem) : Prop := J T ∧ (∀ kx i, kx ≠ 186 → T.1 kx i = R.1 kx i) ∧ mayb 186 T f ∧ (∀ P : Nat → Prop, P f → (∀ v u, P v → EA R 163 v u → ¬ barR R n v3 u → P u) → ∀ u, u < 72 → mayb 186 T u → P u) ∧ ∀ u, u < 72 → mayb 186 T u → onP R (u : Int)
theorem grow_r {R T : Mem} {n f v : Nat} {v1 v3 : Int32} {x : Int32 × Mem} (hm : (R.1 162 4).toInt = (n : Int)) (n8 : n ≤ 8) (h : GI R n f v3 T) (v72 : v < 72) (hv : mayb 186 T v) (hr : -1 ≤ v1.toInt ∧ v1.toInt ≤ 71) (he : ∀ u : Nat, v1.toInt = (u : Int) → EA R 163 v u) (e : f_Mod_enter v1 v3 T = some x) : GI R n f v3 x.2 ∧ (x.1 = 0 ∨ x.1 = 1) ∧ mayb 186 x.2 v ∧ (x.1 = 0 → x.2 = T ∧ ∀ u : Nat, v1.toInt = (u : Int) → mayb 186 T u ∨ barR R n v3 u) := by
  obtain ⟨jT, fT, hf, mn, on⟩ := h
  rcases enter_r hm n8 jT fT hr e with ⟨rfl, hu⟩ | ⟨u, hu, nm, nb, rfl⟩
  · exact ⟨⟨jT, fT, hf, mn, on⟩, .inl rfl, hv, fun _ => ⟨rfl, hu⟩⟩
  · have up : ∀ w, mayb 186 (s_i T 186 u 1) w ↔ mayb 186 T w ∨ w = u := by
      intro w
      unfold mayb
      by_cases c : w = u
      · subst c
        rw [si_eq]
        exact ⟨fun _ => .inr rfl, fun _ => by decide⟩
      · rw [si_ne (by omega)]
        exact ⟨.inl, fun h => h.elim id (fun h => absurd h c)⟩
    have ed := he u hu
    refine ⟨⟨Jw_186 jT u 1 (by decide) (by decide), fun kx i h => by rw [si_ne (by omega)]; exact fT kx i h, (up f).mpr (.inl hf), fun P pf pc w hw h => ?_, fun w hw h => ?_⟩, .inr rfl, (up v).mpr (.inl hv), fun h => absurd (show (1 : Int32) = 0 from h) (by decide)⟩
    · rcases (up w).mp h with h | rfl
      · exact mn P pf pc w hw h
      · exact pc v w (mn P pf pc v v72 hv) ed nb
    · rcases (up w).mp h with h | rfl
      · exact on w hw h
      · exact ed.2.2.2.1
theorem getsS_r {R T : Mem} {n f v : Nat} {v2 v3 v5 more : Int32} {y : Int32 × Mem} (jR : J R) (kp : KP R 163 0) (hm : (R.1 162 4).toInt = (n : Int)) (n8 : n ≤ 8) (h : GI R n f v3 T) (hv5 : v5.toInt = (v : Int)) (v72 : v < 72) (hv : mayb 186 T v) (h01 : more = 0 ∨ more = 1) (e : iter (lb_Mod_gets_71 v2 v3 v5) FU (more, (0 : Int32), T) = some y) : GI R n f v3 y.2 ∧ (y.1 = 0 ∨ y.1 = 1) ∧ mayb 186 y.2 v ∧ (y.1 = 0 → y.2 = T ∧ more = 0 ∧ ∀ (s : Int) (u : Nat), 0 ≤ s → s ≤ 3 → u < 72 → goR R 163 (v : Int) s (u : Int) → mayb 186 T u ∨ barR R n v3 u) := by
  have k4 : (4 : Int32).toInt = 4 := rfl
  refine it_r (I := fun s : Int32 × Int32 × Mem => ∃ q : Nat, q ≤ 4 ∧ s.2.1.toInt = (q : Int) ∧ GI R n f v3 s.2.2 ∧ (s.1 = 0 ∨ s.1 = 1) ∧ mayb 186 s.2.2 v ∧ (s.1 = 0 → s.2.2 = T ∧ more = 0 ∧ ∀ (s : Int) (u : Nat), 0 ≤ s → s < (q : Int) → u < 72 → goR R 163 (v : Int) s (u : Int) → mayb 186 T u ∨ barR R n v3 u)) (Q := fun y : Int32 × Mem => GI R n f v3 y.2 ∧ (y.1 = 0 ∨ y.1 = 1) ∧ mayb 186 y.2 v ∧ (y.1 = 0 → y.2 = T ∧ more = 0 ∧ ∀ (s : Int) (u : Nat), 0 ≤ s → s ≤ 3 → u < 72 → goR R 163 (v : Int) s (u : Int) → mayb 186 T u ∨ barR R n v3 u)) ?_ e ⟨0, by omega, rfl, h, h01, hv, fun h => ⟨rfl, h, fun s u a b => by omega⟩⟩
  rintro ⟨mo', i, S⟩ r ⟨q, q4, hq, hS, hmo, hvS, hz⟩ e
  dsimp only at hq hS hmo hvS hz
  unfold lb_Mod_gets_71 at e
  dsimp only at e
  rcases io e with ⟨g, e⟩ | ⟨g, e⟩
  · have := q_le g
    obtain rfl := Option.some.inj e
    exact ⟨hS, hmo, hvS, fun h => by
      obtain ⟨a, b, c⟩ := hz h
      exact ⟨a, b, fun s u s0 s3 hu hg => c s u s0 (by omega) hu hg⟩⟩
  have g1 := q_ng g
  have i1 : (i + (1 : Int32)).toInt = ((q + 1 : Nat) : Int) := add_ti hq o1 (by omega) (by omega)
  obtain ⟨x6, e6, e⟩ := bo e
  obtain ⟨x7, e7, e⟩ := bo e
  obtain rfl := Option.some.inj e
  obtain ⟨gg, gl, gh⟩ := some_of (fs_go hS.1 163 (.inl rfl) v5 i (by omega)) e6
  have mE : MapEq S R := ⟨hS.2.1 162 2 (by omega), hS.2.1 162 3 (by omega), fun i => hS.2.1 164 i (by omega)⟩
  rw [hv5, hq, goR_c mE (fun i => hS.2.1 163 i (by omega))] at gg
  have onv := hS.2.2.2.2 v v72 hvS
  obtain ⟨r1, r2, r3, r4⟩ := grow_r hm n8 hS v72 hvS ⟨gl, gh⟩ (fun u hu => by
    rw [hu] at gg
    exact ⟨v72, by omega, onv, (go_sym jR kp onv (s := (q : Int)) ⟨by omega, by omega⟩ gg (by omega)).1, .inl ⟨q, by omega, by omega, gg⟩⟩) e7
  obtain ⟨oa, ob⟩ := or01w hmo r2
  refine ⟨q + 1, by omega, i1, r1, oa, r3, fun h => ?_⟩
  obtain ⟨h1, h2⟩ := ob h
  obtain ⟨a, b, c⟩ := hz h1
  obtain ⟨eS, hh⟩ := r4 h2
  refine ⟨by show x7.2 = T; rw [eS, a], b, fun s u s0 s3 hu hg => ?_⟩
  by_cases k : s = (q : Int)
  · subst k
    have := goR_fun gg hg
    rw [← a]
    exact hh u this
  · exact c s u s0 (by omega) hu hg
theorem getsR_r {R T : Mem} {n f : Nat} {v2 v3 : Int32} {y : Int32 × Mem} (jR : J R) (kp : KP R 163 0) (hm : (R.1 162 4).toInt = (n : Int)) (n8 : n ≤ 8) (h : GI R n f v3 T) (e : iter (lb_Mod_gets_48 v2 v3) FU ((0 : Int32), (0 : Int32), T) = some y) : GI R n f v3 y.2 ∧ (y.1 = 0 → ∀ v u, v < 72 → mayb 186 y.2 v → EA R 163 v u → ¬ barR R n v3 u → mayb 186 y.2 u) := by
  have k72 : (72 : Int32).toInt = 72 := rfl
  refine it_r (I := fun s : Int32 × Int32 × Mem => ∃ k : Nat, k ≤ 72 ∧ s.2.1.toInt = (k : Int) ∧ GI R n f v3 s.2.2 ∧ (s.1 = 0 ∨ s.1 = 1) ∧ (s.1 = 0 → s.2.2 = T ∧ ∀ v u, v < k → mayb 186 T v → EA R 163 v u → ¬ barR R n v3 u → mayb 186 T u)) (Q := fun y : Int32 × Mem => GI R n f v3 y.2 ∧ (y.1 = 0 → ∀ v u, v < 72 → mayb 186 y.2 v → EA R 163 v u → ¬ barR R n v3 u → mayb 186 y.2 u)) ?_ e ⟨0, by omega, rfl, h, .inl rfl, fun _ => ⟨rfl, fun v u h => by omega⟩⟩
  rintro ⟨mo', i, S⟩ r ⟨k, k72', hk, hS, hmo, hz⟩ e
  dsimp only at hk hS hmo hz
  unfold lb_Mod_gets_48 at e
  dsimp only at e
  rcases io e with ⟨g, e⟩ | ⟨g, e⟩
  · have := q_le g
    obtain rfl := Option.some.inj e
    refine ⟨hS, fun h => ?_⟩
    obtain ⟨a, b⟩ := hz h
    dsimp only
    rw [a]
    exact fun v u hv => b v u (by omega)
  have g1 := q_ng g
  have i1 : (i + (1 : Int32)).toInt = ((k + 1 : Nat) : Int) := add_ti hk o1 (by omega) (by omega)
  obtain ⟨_, e⟩ := io_n e
  rw [q_nat hk] at e
  rcases io e with ⟨g, e⟩ | ⟨g, e⟩
  · obtain rfl := Option.some.inj e
    refine ⟨k + 1, by omega, i1, hS, hmo, fun h => ?_⟩
    obtain ⟨a, b⟩ := hz h
    refine ⟨a, fun v u hv h1 => ?_⟩
    by_cases c : v = k
    · subst c
      rw [a] at g
      exact absurd g h1
    · exact b v u (by omega) h1
  have hv : mayb 186 S k := g
  obtain ⟨x9, e9, e⟩ := bo e
  obtain ⟨x10, e10, e⟩ := bo e
  obtain ⟨_, e⟩ := io_n e
  obtain ⟨s1, s2, s3, s4⟩ := getsS_r jR kp hm n8 hS hk (by omega) hv hmo e9
  have c10 : x10.toInt = ((k % 36 : Nat) : Int) := by rw [(place_i (v := i) (by omega) (by omega)).1 e10, hk]; omega
  rw [q_nat c10, s1.2.1 164 (k % 36) (by omega)] at e
  have onv := hS.2.2.2.2 k (by omega) hv
  rcases io e with ⟨gs, e⟩ | ⟨gs, e⟩
  rotate_left
  · obtain rfl := Option.some.inj e
    refine ⟨k + 1, by omega, i1, s1, s2, fun h => ?_⟩
    obtain ⟨a, b, c⟩ := s4 h
    obtain ⟨a', d⟩ := hz b
    refine ⟨by show x9.2 = T; rw [a, a'], fun v u hv h1 hE hb => ?_⟩
    by_cases w : v = k
    · subst w
      rcases hE.2.2.2.2 with ⟨s, t0, t3, hg⟩ | ⟨h3, _⟩
      · have := c s u t0 t3 hE.2.1 hg
        rw [a'] at this
        exact this.elim id (fun h => absurd h hb)
      · exact absurd (Int32.toInt_inj.mp h3) gs
    · exact d v u (by omega) h1 hE hb
  obtain ⟨x11, e11, e⟩ := bo e
  obtain ⟨x12, e12, e⟩ := bo e
  obtain ⟨x13, e13, e⟩ := bo e
  obtain ⟨x14, e14, e⟩ := bo e
  obtain rfl := Option.some.inj e
  have c11 : x11.toInt = ((k / 36 : Nat) : Int) := by rw [(place_i (v := i) (by omega) (by omega)).2 e11, hk]; omega
  have c12 : x12.toInt = ((k % 36 : Nat) : Int) := by rw [(place_i (v := i) (by omega) (by omega)).1 e12, hk]; omega
  have c13 := place_c (l := 1 - k / 36) (c := k % 36) (by rw [sub_ti o1 c11 (by omega) (by omega)]; omega) c12 (by omega) (by omega) e13
  have s3' : (R.1 164 (k % 36)).toInt = 3 := by rw [gs]; rfl
  have cwk : ((k % 36 : Nat) : Int) < xw R * xh R := by
    have o := onv.2.2
    rw [show ((k : Int)) % 36 = ((k % 36 : Nat) : Int) by omega] at o
    exact o.2.1
  have est : EA R 163 k (36 * (1 - k / 36) + k % 36) := ⟨by omega, by omega, onv, stair_on (by omega) (by omega) cwk s3', .inr ⟨s3', rfl⟩⟩
  obtain ⟨r1, r2, _, r4⟩ := grow_r hm n8 s1 (show k < 72 by omega) s3 ⟨by omega, by omega⟩ (fun u hu => by
    have : u = 36 * (1 - k / 36) + k % 36 := by omega
    subst this
    exact est) e14
  obtain ⟨oa, ob⟩ := or01w s2 r2
  refine ⟨k + 1, by omega, i1, r1, oa, fun h => ?_⟩
  obtain ⟨h1, h2⟩ := ob h
  obtain ⟨a, b, c⟩ := s4 h1
  obtain ⟨a', d⟩ := hz b
  obtain ⟨e8, hh⟩ := r4 h2
  refine ⟨by show x14.2 = T; rw [e8, a, a'], fun v u hv h1 hE hb => ?_⟩
  by_cases w : v = k
  · subst w
    rcases hE.2.2.2.2 with ⟨s, t0, t3, hg⟩ | ⟨_, hu⟩
    · have := c s u t0 t3 hE.2.1 hg
      rw [a'] at this
      exact this.elim id (fun h => absurd h hb)
    · have := hh u (by rw [c13, hu])
      rw [a, a'] at this
      exact this.elim id (fun h => absurd h hb)
  · exact d v u (by omega) h1 hE hb
theorem gets_r {R T : Mem} {n f t : Nat} {v1 v2 v3 : Int32} {r : Int32 × Mem} (jR : J R) (kp : KP R 163 0) (hm : (R.1 162 4).toInt = (n : Int)) (n8 : n ≤ 8) (jT : J T) (fT : ∀ kx i, kx ≠ 186 → T.1 kx i = R.1 kx i) (hf : v1.toInt = (f : Int)) (f72 : f < 72) (onf : onP R (f : Int)) (ht : v2.toInt = (t : Int)) (t72 : t < 72) (e : f_Mod_gets v1 v2 v3 T = some r) : (r.1 = 0 ↔ ¬ SL (EA R 163) (barR R n v3) f t) ∧ J r.2 ∧ (∀ kx i, kx ≠ 186 → r.2.1 kx i = R.1 kx i) := by
  have k72 : (72 : Int32).toInt = 72 := rfl
  unfold f_Mod_gets at e
  obtain ⟨x5, e5, e⟩ := bo e
  obtain ⟨x20, e20, e⟩ := bo e
  obtain ⟨_, e⟩ := io_n e
  obtain ⟨_, e⟩ := io_n e
  obtain rfl := Option.some.inj e
  have K5 : J x5 ∧ (∀ kx i, kx ≠ 186 → x5.1 kx i = T.1 kx i) ∧ ∀ u, u < 72 → (mayb 186 x5 u ↔ u = f) := by
    refine it_r (I := fun s : Int32 × Mem => ∃ q : Nat, q ≤ 72 ∧ s.1.toInt = (q : Int) ∧ J s.2 ∧ (∀ kx i, kx ≠ 186 → s.2.1 kx i = T.1 kx i) ∧ ∀ u, u < q → (mayb 186 s.2 u ↔ u = f)) (Q := fun x : Mem => J x ∧ (∀ kx i, kx ≠ 186 → x.1 kx i = T.1 kx i) ∧ ∀ u, u < 72 → (mayb 186 x u ↔ u = f)) ?_ e5 ⟨0, by omega, rfl, jT, fun _ _ _ => rfl, fun u h => by omega⟩
    rintro ⟨i, S⟩ r ⟨q, q72, hq, jS, fS, hd⟩ e
    dsimp only at hq jS fS hd
    unfold lb_Mod_gets_3 at e
    dsimp only at e
    rcases io e with ⟨g, e⟩ | ⟨g, e⟩
    · have := q_le g
      obtain rfl := Option.some.inj e
      exact ⟨jS, fS, fun u hu => hd u (by omega)⟩
    have g1 := q_ng g
    have i1 : (i + (1 : Int32)).toInt = ((q + 1 : Nat) : Int) := add_ti hq o1 (by omega) (by omega)
    rcases io e with ⟨g, e⟩ | ⟨g, e⟩
    · have gg := q_eq g
      obtain ⟨_, e⟩ := io_n e
      obtain ⟨M1, m1, e⟩ := mo e
      obtain rfl := Option.some.inj e
      rw [q_nat hq, vb_1] at m1
      refine ⟨q + 1, by omega, i1, by rw [m1]; exact Jw_186 jS q 1 (by decide) (by decide), fun kx j h => by rw [m1, si_ne (by omega)]; exact fS kx j h, fun u hu => ?_⟩
      show M1.1 186 u ≠ 0 ↔ _
      rw [m1]
      by_cases w : u = q
      · subst w
        rw [si_eq]
        exact ⟨fun _ => by omega, fun _ => by decide⟩
      · rw [si_ne (by omega)]; exact hd u (by omega)
    · have gg := q_ne g
      obtain ⟨_, e⟩ := io_n e
      obtain ⟨M1, m1, e⟩ := mo e
      obtain rfl := Option.some.inj e
      rw [q_nat hq, vb_0] at m1
      refine ⟨q + 1, by omega, i1, by rw [m1]; exact Jw_186 jS q 0 (by decide) (by decide), fun kx j h => by rw [m1, si_ne (by omega)]; exact fS kx j h, fun u hu => ?_⟩
      show M1.1 186 u ≠ 0 ↔ _
      rw [m1]
      by_cases w : u = q
      · subst w
        rw [si_eq]
        exact ⟨fun h => absurd rfl h, fun h => by omega⟩
      · rw [si_ne (by omega)]; exact hd u (by omega)
  obtain ⟨j5, f5, h5⟩ := K5
  have gi0 : GI R n f v3 x5 := ⟨j5, fun kx i h => by rw [f5 kx i h]; exact fT kx i h, (h5 f f72).mpr rfl, fun P pf _ u hu h => by rw [(h5 u hu).mp h]; exact pf, fun u hu h => by rw [(h5 u hu).mp h]; exact onf⟩
  have K : GI R n f v3 x20 ∧ ∀ v u, v < 72 → mayb 186 x20 v → EA R 163 v u → ¬ barR R n v3 u → mayb 186 x20 u := by
    refine it_r (I := fun s : Int32 × Mem => GI R n f v3 s.2 ∧ (s.1 = 0 → ∀ v u, v < 72 → mayb 186 s.2 v → EA R 163 v u → ¬ barR R n v3 u → mayb 186 s.2 u)) (Q := fun x : Mem => GI R n f v3 x ∧ ∀ v u, v < 72 → mayb 186 x v → EA R 163 v u → ¬ barR R n v3 u → mayb 186 x u) ?_ e20 ⟨gi0, fun h => absurd (show (1 : Int32) = 0 from h) (by decide)⟩
    rintro ⟨mo', S⟩ r ⟨hS, hz⟩ e
    dsimp only at hS hz
    unfold lb_Mod_gets_37 at e
    dsimp only at e
    rcases io e with ⟨g, e⟩ | ⟨g, e⟩
    · obtain rfl := Option.some.inj e
      exact ⟨hS, hz g⟩
    obtain ⟨x18, e18, e⟩ := bo e
    obtain rfl := Option.some.inj e
    exact getsR_r jR kp hm n8 hS e18
  obtain ⟨⟨j20, f20, hf20, mn, on⟩, cl⟩ := K
  refine ⟨?_, j20, f20⟩
  have S := SL_i (S := fun u => mayb 186 x20 u) t72 (fun v u h => EA_lt h) f72 hf20 cl mn
  rw [q_nat ht, ← S]
  unfold mayb
  exact ⟨fun h g => g h, fun h => Classical.byContradiction h⟩
end
section
/-! watch: both sides -/
theorem bt_sm {v : Int32} {s n : Nat} (hs : v.toInt = (s : Int)) (s2 : s < 2 ^ n) (n8 : n ≤ 8) : ∀ p, bt v p = true → p < n := by
  intro p hb
  refine Classical.byContradiction (fun h => ?_)
  have p2 : (2 : Nat) ^ n ≤ 2 ^ p := Nat.pow_le_pow_right (by omega) (by omega)
  have : v.toBitVec.toNat = s := by
    have c := ti_c v
    have l32 := v.toBitVec.isLt
    have n8' : (2 : Nat) ^ n ≤ 2 ^ 8 := Nat.pow_le_pow_right (by omega) n8
    rw [hs] at c
    split at c <;> omega
  unfold bt at hb
  have : v.toBitVec.toNat.testBit p = true := hb
  rw [Nat.testBit_lt_two_pow (by omega)] at this
  cases this
theorem pc_n8 {v : Int32} {n : Nat} (n8 : n ≤ 8) (h : ∀ p, bt v p = true → p < n) : pc v ≤ n := by
  unfold pc
  have e : 8 = n + (8 - n) := by omega
  rw [e, cnt_add]
  have z : (List.range (8 - n)).countP (fun i => bt v (n + i)) = 0 := by
    rw [List.countP_eq_zero]
    intro i _ w
    have := h _ w
    omega
  rw [z]
  exact cnt_le _ n
theorem bcn {v b : Int32} {s n : Nat} (hs : v.toInt = (s : Int)) (s2 : s < 2 ^ n) (n8 : n ≤ 8) (e : f_JInteger_bitCount v = some b) : b.toInt = (pc v : Int) := by
  have sm := bt_sm hs s2 n8
  rw [bc_i (fun d hd => by
    cases hb : bt v d with
    | false => rfl
    | true => have := sm d hb; omega)] at e
  obtain rfl := Option.some.inj e
  exact ti_ofNat (by have := pc_n8 n8 sm; omega)
theorem pw_t : ∀ n : Fin 9, ((1 : Int32) <<< ((Int32.ofNat n.val) &&& 31)).toInt = ((2 ^ n.val : Nat) : Int) := by decide +kernel
theorem pw_i {v : Int32} {n : Nat} (hv : v.toInt = (n : Int)) (n8 : n ≤ 8) : ((1 : Int32) <<< (v &&& 31)).toInt = ((2 ^ n : Nat) : Int) := by
  rw [ofn_eq hv (by omega)]
  exact pw_t ⟨n, by omega⟩
def WFr (X S : Mem) : Prop := S.1 = X.1 ∧ S.2.2 = X.2.2 ∧ ∀ k i, k ≠ 151 → k ≠ 152 → k ≠ 153 → S.2.1 k i = X.2.1 k i
theorem WFr_ZA {X S R : Mem} {n : Nat} (za : ZA X R n) (h : WFr X S) : ZA S R n :=
  ZA_z za za.1.2.1 (fun kx i _ => by rw [h.1]) (fun i => h.2.2 33 i (by omega) (by omega) (by omega)) (fun i => h.2.2 34 i (by omega) (by omega) (by omega)) (fun i => by rw [h.2.1]) (fun i => by rw [h.2.1]) (fun _ _ _ => rfl)
/-- nobody slips by this set -/
def HH (R : Mem) (n f t k : Nat) : Prop := ¬ SL (EA R 163) (barR R n (Int32.ofNat k)) f t
def pcn (k : Nat) : Nat := pc (Int32.ofNat k)
theorem watchI_c {X R S : Mem} {n m l c l' t : Nat} {v1 v2 v3 v4 v5 : Int32} {y : Mem ⊕ (Int32 × Mem)} (za : ZA X R n) (wf : WFr X S) (hl : v2.toInt = (l : Int)) (hc : v1.toInt = (c : Int)) (l2 : l < 2) (c36 : c < 36) (on : onN R l c) (hl' : v4.toInt = (l' : Int)) (ht : v3.toInt = (t : Int)) (l2' : l' < 2) (t36 : t < 36) (h5 : v5.toInt = (m : Int)) (e : iter (lb_Top_watch_45 v1 v2 v3 v4 v5) FU ((0 : Int32), S) = some y) : (∃ N, y = .inl N ∧ WFr X N ∧ ∀ k, k < 2 ^ n → pcn k = m → ¬ HH R n (36 * l + c) (36 * l' + t) k) ∨ (∃ k v N, y = .inr (v, N) ∧ v.toInt = ((k : Nat) : Int) ∧ k < 2 ^ n ∧ WFr X N ∧ pcn k = m ∧ HH R n (36 * l + c) (36 * l' + t) k ∧ ∀ j, j < k → pcn j = m → ¬ HH R n (36 * l + c) (36 * l' + t) j) := by
  have n8 := za.1.1
  have n8' : (2 : Nat) ^ n ≤ 2 ^ 8 := Nat.pow_le_pow_right (by omega) n8
  refine it_r (I := fun s : Int32 × Mem => ∃ k : Nat, k ≤ 2 ^ n ∧ s.1.toInt = (k : Int) ∧ WFr X s.2 ∧ ∀ j, j < k → pcn j = m → ¬ HH R n (36 * l + c) (36 * l' + t) j) (Q := fun y : Mem ⊕ (Int32 × Mem) => (∃ N, y = .inl N ∧ WFr X N ∧ ∀ k, k < 2 ^ n → pcn k = m → ¬ HH R n (36 * l + c) (36 * l' + t) k) ∨ (∃ k v N, y = .inr (v, N) ∧ v.toInt = ((k : Nat) : Int) ∧ k < 2 ^ n ∧ WFr X N ∧ pcn k = m ∧ HH R n (36 * l + c) (36 * l' + t) k ∧ ∀ j, j < k → pcn j = m → ¬ HH R n (36 * l + c) (36 * l' + t) j)) ?_ e ⟨0, Nat.zero_le _, rfl, wf, fun j h => by omega⟩
  rintro ⟨i, N⟩ r ⟨k, kle, hk, hw, hno⟩ e
  dsimp only at hk hw hno
  have zaN := WFr_ZA za hw
  have hn : (N.1 6 4).toInt = (n : Int) := by rw [zaN.1.2.2.1.2.1.2.1]; exact zaN.1.2.2.1.2.1.1
  have pw := pw_i hn n8
  unfold lb_Top_watch_45 at e
  dsimp only at e
  rcases io e with ⟨g, e⟩ | ⟨g, e⟩
  · have gl := q_le g
    obtain rfl := Option.some.inj e
    exact .inl ⟨_, rfl, hw, fun j hj => hno j (by omega)⟩
  have gl := q_ng g
  have kl : k < 2 ^ n := by omega
  have i1 : (i + (1 : Int32)).toInt = ((k + 1 : Nat) : Int) := add_ti hk o1 (by omega) (by omega)
  have vk : i = Int32.ofNat k := ofn_eq hk (by omega)
  obtain ⟨x3, e3, e⟩ := bo e
  have b3 := bcn hk kl n8 e3
  have keep : (pcn k = m → ¬ HH R n (36 * l + c) (36 * l' + t) k) → ∀ j, j < k + 1 → pcn j = m → ¬ HH R n (36 * l + c) (36 * l' + t) j := by
    intro h j hj
    by_cases c : j = k
    · subst c; exact h
    · exact hno j (by omega)
  rcases io e with ⟨g3, e⟩ | ⟨g3, e⟩
  · have gg := q_eq g3
    have pk : pcn k = m := by unfold pcn; rw [← vk]; omega
    obtain ⟨x4, e4, e⟩ := bo e
    obtain ⟨s1, s2, s3, s4⟩ := slips_c zaN hk kl hl hc l2 c36 on hl' ht l2' t36 e4
    have hw4 : WFr X x4.2 := ⟨by rw [s2]; exact hw.1, by rw [s3]; exact hw.2.1, fun k i a b c => by rw [s4 k i a b c]; exact hw.2.2 k i a b c⟩
    rcases io e with ⟨g4, e⟩ | ⟨g4, e⟩
    · obtain rfl := Option.some.inj e
      refine .inr ⟨k, _, _, rfl, hk, kl, hw4, pk, ?_, hno⟩
      unfold HH
      rw [← vk]
      exact s1.mp g4
    · obtain rfl := Option.some.inj e
      refine ⟨k + 1, by omega, i1, hw4, keep (fun _ h => g4 (s1.mpr ?_))⟩
      unfold HH at h
      rw [← vk] at h
      exact h
  · have gg := q_ne g3
    obtain rfl := Option.some.inj e
    exact ⟨k + 1, by omega, i1, hw, keep (fun h => by unfold pcn at h; rw [← vk] at h; omega)⟩
theorem watch_q {X R : Mem} {n : Nat} {v1 v2 v3 v4 : Int32} {x r : Int32 × Mem} (za : ZA X R n) (ex : f_Top_watch v1 v2 v3 v4 X = some x) (er : f_Mod_watch v1 v2 v3 v4 R = some r) : x.1 = r.1 ∧ (RR X R → RR x.2 r.2) := by
  have ym := om
  unfold f_Mod_watch at er
  obtain ⟨M1, m1, er⟩ := mo er
  obtain ⟨zaM, fqM⟩ := ZA_M1 za m1
  obtain ⟨n8, jM, ⟨zg, zc, zl⟩, zs, zv, zw⟩ := zaM.1
  have n8' : (2 : Nat) ^ n ≤ 2 ^ 8 := Nat.pow_le_pow_right (by omega) n8
  unfold f_Top_watch at ex
  obtain ⟨x1, ex1, ex⟩ := bo ex
  obtain ⟨y2, ey2, er⟩ := bo er
  rcases plc_2 zg jM ex1 ey2 with ⟨a, b⟩ | ⟨a, b, l, c, l2, c36, hl, hc, onc⟩
  · rw [a, if_pos rfl] at ex
    rw [b, if_pos rfl] at er
    obtain rfl := Option.some.inj ex
    obtain rfl := Option.some.inj er
    exact ⟨rfl, FQ2_RR fqM⟩
  rw [a, if_neg (by decide)] at ex
  rw [b, if_neg (by decide)] at er
  obtain ⟨x2, ex2, ex⟩ := bo ex
  obtain ⟨y3, ey3, er⟩ := bo er
  rcases plc_2 zg jM ex2 ey3 with ⟨a, b⟩ | ⟨a, b, l', t, l2', t36, hl', ht, ont⟩
  · rw [a, if_pos rfl] at ex
    rw [b, if_pos rfl] at er
    obtain rfl := Option.some.inj ex
    obtain rfl := Option.some.inj er
    exact ⟨rfl, FQ2_RR fqM⟩
  rw [a, if_neg (by decide)] at ex
  rw [b, if_neg (by decide)] at er
  obtain ⟨s, es, ex⟩ := bo ex
  obtain ⟨x13, e13, er⟩ := bo er
  have A : (∃ N, s = .inl N ∧ WFr X N ∧ ∀ k, k < 2 ^ n → ¬ HH M1 n (36 * l + c) (36 * l' + t) k) ∨ (∃ k w v N, s = .inr (w, v, N) ∧ w.toInt = ((pcn k : Nat) : Int) ∧ v.toInt = ((k : Nat) : Int) ∧ k < 2 ^ n ∧ WFr X N ∧ HH M1 n (36 * l + c) (36 * l' + t) k ∧ (∀ j, j < 2 ^ n → pcn j < pcn k → ¬ HH M1 n (36 * l + c) (36 * l' + t) j) ∧ ∀ j, j < k → pcn j = pcn k → ¬ HH M1 n (36 * l + c) (36 * l' + t) j) := by
    refine it_r (I := fun s : Int32 × Mem => ∃ m : Nat, m ≤ n + 1 ∧ s.1.toInt = (m : Int) ∧ WFr X s.2 ∧ ∀ j, j < 2 ^ n → pcn j < m → ¬ HH M1 n (36 * l + c) (36 * l' + t) j) (Q := fun s : Mem ⊕ (Int32 × Int32 × Mem) => (∃ N, s = .inl N ∧ WFr X N ∧ ∀ k, k < 2 ^ n → ¬ HH M1 n (36 * l + c) (36 * l' + t) k) ∨ (∃ k w v N, s = .inr (w, v, N) ∧ w.toInt = ((pcn k : Nat) : Int) ∧ v.toInt = ((k : Nat) : Int) ∧ k < 2 ^ n ∧ WFr X N ∧ HH M1 n (36 * l + c) (36 * l' + t) k ∧ (∀ j, j < 2 ^ n → pcn j < pcn k → ¬ HH M1 n (36 * l + c) (36 * l' + t) j) ∧ ∀ j, j < k → pcn j = pcn k → ¬ HH M1 n (36 * l + c) (36 * l' + t) j)) ?_ es ⟨0, by omega, rfl, ⟨rfl, rfl, fun _ _ _ _ _ => rfl⟩, fun j _ h => by omega⟩
    rintro ⟨i, N⟩ r ⟨m, mle, hm, hw, hno⟩ e
    dsimp only at hm hw hno
    have zaN := WFr_ZA zaM hw
    have hn : (N.1 6 4).toInt = (n : Int) := by rw [zaN.1.2.2.1.2.1.2.1]; exact zaN.1.2.2.1.2.1.1
    unfold lb_Top_watch_30 at e
    dsimp only at e
    rcases io e with ⟨g, e⟩ | ⟨g, e⟩
    · have gl := q_lt g
      obtain rfl := Option.some.inj e
      refine .inl ⟨_, rfl, hw, fun k hk => hno k hk ?_⟩
      have := pc_n8 n8 (bt_sm (ofn_ti (n := k) (by omega)) hk n8)
      unfold pcn
      omega
    have gl := q_nl g
    obtain ⟨y, ey, e⟩ := bo e
    rcases watchI_c zaM hw hl hc l2 c36 onc hl' ht l2' t36 hm ey with ⟨N', rfl, hw', hno'⟩ | ⟨k, v, N', rfl, hv, kl, hw', pk, hk, hj⟩
    · have e := el_l e
      obtain rfl := Option.some.inj e
      refine ⟨m + 1, by omega, add_ti hm o1 (by omega) (by omega), hw', fun j hj hp => ?_⟩
      by_cases c : pcn j = m
      · exact hno' j hj c
      · exact hno j hj (by omega)
    · have e := el_r e
      obtain rfl := Option.some.inj e
      exact .inr ⟨k, _, _, _, rfl, by rw [pk]; exact hm, hv, kl, hw', hk, fun j hj' hp => hno j hj' (by omega), fun j hj' hp => hj j hj' (by omega)⟩
  have B : (∀ kx i, kx ≠ 186 → x13.2.1 kx i = M1.1 kx i) ∧ ((x13.1 = -1 ∧ ∀ j, j < 2 ^ n → ¬ HH M1 n (36 * l + c) (36 * l' + t) j) ∨ (∃ b : Nat, x13.1.toInt = (b : Int) ∧ b < 2 ^ n ∧ HH M1 n (36 * l + c) (36 * l' + t) b ∧ ∀ j, j < 2 ^ n → HH M1 n (36 * l + c) (36 * l' + t) j → pcn b < pcn j ∨ (pcn b = pcn j ∧ b ≤ j))) := by
    refine it_r (I := fun s : Int32 × Int32 × Mem => ∃ k : Nat, k ≤ 2 ^ n ∧ s.2.1.toInt = (k : Int) ∧ J s.2.2 ∧ (∀ kx i, kx ≠ 186 → s.2.2.1 kx i = M1.1 kx i) ∧ ((s.1 = -1 ∧ ∀ j, j < k → ¬ HH M1 n (36 * l + c) (36 * l' + t) j) ∨ (∃ b : Nat, s.1.toInt = (b : Int) ∧ b < k ∧ HH M1 n (36 * l + c) (36 * l' + t) b ∧ ∀ j, j < k → HH M1 n (36 * l + c) (36 * l' + t) j → pcn b < pcn j ∨ (pcn b = pcn j ∧ b ≤ j)))) (Q := fun x13 : Int32 × Mem => (∀ kx i, kx ≠ 186 → x13.2.1 kx i = M1.1 kx i) ∧ ((x13.1 = -1 ∧ ∀ j, j < 2 ^ n → ¬ HH M1 n (36 * l + c) (36 * l' + t) j) ∨ (∃ b : Nat, x13.1.toInt = (b : Int) ∧ b < 2 ^ n ∧ HH M1 n (36 * l + c) (36 * l' + t) b ∧ ∀ j, j < 2 ^ n → HH M1 n (36 * l + c) (36 * l' + t) j → pcn b < pcn j ∨ (pcn b = pcn j ∧ b ≤ j)))) ?_ e13 ⟨0, Nat.zero_le _, rfl, jM, fun _ _ _ => rfl, .inl ⟨rfl, fun j h => by omega⟩⟩
    rintro ⟨bs, i, T⟩ r ⟨k, kle, hk, jT, fT, hb⟩ e
    dsimp only at hk jT fT hb
    unfold lb_Mod_watch_32 at e
    dsimp only at e
    have pw := pw_i (v := T.1 162 4) (by rw [fT 162 4 (by omega)]; exact zc.1) n8
    rcases io e with ⟨g, e⟩ | ⟨g, e⟩
    · have gl := q_le g
      obtain rfl := Option.some.inj e
      have : k = 2 ^ n := by omega
      subst this
      exact ⟨fT, hb⟩
    have gl := q_ng g
    have kl : k < 2 ^ n := by omega
    have i1 : (i + (1 : Int32)).toInt = ((k + 1 : Nat) : Int) := add_ti hk o1 (by omega) (by omega)
    have vk : i = Int32.ofNat k := ofn_eq hk (by omega)
    -- this set is tried
    have body : (∀ b : Nat, bs.toInt = (b : Int) → b < 2 ^ n → pcn k < pcn b) → j_Mod_watch_65_32 v1 v2 v3 v4 bs i T = some r → Sum.elim (fun s : Int32 × Int32 × Mem => ∃ k : Nat, k ≤ 2 ^ n ∧ s.2.1.toInt = (k : Int) ∧ J s.2.2 ∧ (∀ kx i, kx ≠ 186 → s.2.2.1 kx i = M1.1 kx i) ∧ ((s.1 = -1 ∧ ∀ j, j < k → ¬ HH M1 n (36 * l + c) (36 * l' + t) j) ∨ (∃ b : Nat, s.1.toInt = (b : Int) ∧ b < k ∧ HH M1 n (36 * l + c) (36 * l' + t) b ∧ ∀ j, j < k → HH M1 n (36 * l + c) (36 * l' + t) j → pcn b < pcn j ∨ (pcn b = pcn j ∧ b ≤ j)))) (fun x13 : Int32 × Mem => (∀ kx i, kx ≠ 186 → x13.2.1 kx i = M1.1 kx i) ∧ ((x13.1 = -1 ∧ ∀ j, j < 2 ^ n → ¬ HH M1 n (36 * l + c) (36 * l' + t) j) ∨ (∃ b : Nat, x13.1.toInt = (b : Int) ∧ b < 2 ^ n ∧ HH M1 n (36 * l + c) (36 * l' + t) b ∧ ∀ j, j < 2 ^ n → HH M1 n (36 * l + c) (36 * l' + t) j → pcn b < pcn j ∨ (pcn b = pcn j ∧ b ≤ j)))) r := by
      intro hlt e
      unfold j_Mod_watch_65_32 at e
      obtain ⟨x4, e4, e⟩ := bo e
      obtain ⟨x5, e5, e⟩ := bo e
      obtain ⟨x6, e6, e⟩ := bo e
      have p4 := place_c hl hc l2 c36 e4
      have p5 := place_c hl' ht l2' t36 e5
      obtain ⟨g1, g2, g3⟩ := gets_r jM (KP_v zv) zc.1 n8 jT fT p4 (by omega) ((onP_lc l2 c36).mpr onc) p5 (by omega) e6
      rw [vk] at g1
      rcases io e with ⟨g, e⟩ | ⟨g, e⟩
      · obtain rfl := Option.some.inj e
        have h := g1.mp g
        refine ⟨k + 1, by omega, i1, g2, g3, .inr ⟨k, hk, by omega, h, fun j hj hh => ?_⟩⟩
        by_cases c : j = k
        · subst c; exact .inr ⟨rfl, Nat.le_refl _⟩
        · rcases hb with ⟨_, hb⟩ | ⟨b, hb1, hb2, _, hb4⟩
          · exact absurd hh (hb j (by omega))
          · have lt := hlt b hb1 (by omega)
            rcases hb4 j (by omega) hh with h | h
            · exact .inl (by omega)
            · exact .inl (by omega)
      · obtain rfl := Option.some.inj e
        have h : ¬ HH M1 n (36 * l + c) (36 * l' + t) k := fun h => g (g1.mpr h)
        refine ⟨k + 1, by omega, i1, g2, g3, ?_⟩
        rcases hb with ⟨hb0, hb⟩ | ⟨b, hb1, hb2, hb3, hb4⟩
        · refine .inl ⟨hb0, fun j hj => ?_⟩
          by_cases c : j = k
          · subst c; exact h
          · exact hb j (by omega)
        · refine .inr ⟨b, hb1, by omega, hb3, fun j hj hh => ?_⟩
          by_cases c : j = k
          · subst c; exact absurd hh h
          · exact hb4 j (by omega) hh
    rcases io e with ⟨g, e⟩ | ⟨g, e⟩
    · have gg := q_eq g
      exact body (fun b h _ => by omega) e
    obtain ⟨x8, e8, e⟩ := bo e
    obtain ⟨x9, e9, e⟩ := bo e
    have b8 := bcn hk kl n8 e8
    have nb : ∃ b : Nat, bs.toInt = (b : Int) ∧ b < k ∧ HH M1 n (36 * l + c) (36 * l' + t) b ∧ ∀ j, j < k → HH M1 n (36 * l + c) (36 * l' + t) j → pcn b < pcn j ∨ (pcn b = pcn j ∧ b ≤ j) := by
      rcases hb with ⟨h, _⟩ | h
      · exact absurd h g
      · exact h
    obtain ⟨b, hb1, hb2, hb3, hb4⟩ := nb
    have b9 := bcn hb1 (show b < 2 ^ n by omega) n8 e9
    have vb : bs = Int32.ofNat b := ofn_eq hb1 (by omega)
    have pk : pcn k = pc i := by unfold pcn; rw [← vk]
    have pb : pcn b = pc bs := by unfold pcn; rw [← vb]
    rcases io e with ⟨g', e⟩ | ⟨g', e⟩
    · have gl' := q_lt g'
      exact body (fun b' h _ => by
        have : b' = b := by omega
        subst this
        omega) e
    · have gl' := q_nl g'
      obtain rfl := Option.some.inj e
      refine ⟨k + 1, by omega, i1, jT, fT, .inr ⟨b, hb1, by omega, hb3, fun j hj hh => ?_⟩⟩
      by_cases c : j = k
      · subst c
        by_cases w : pcn b = pcn j
        · exact .inr ⟨w, by omega⟩
        · exact .inl (by omega)
      · exact hb4 j (by omega) hh
  obtain ⟨fB, B⟩ := B
  rcases A with ⟨N, rfl, wN, hno⟩ | ⟨k, w, v, N, rfl, hw, hv, kl, wN, hk, hlt, heq⟩
  · have ex := el_l ex
    obtain rfl := Option.some.inj ex
    rcases B with ⟨hb, _⟩ | ⟨b, _, b2, b3, _⟩
    rotate_left
    · exact absurd b3 (hno b b2)
    rw [hb, if_pos rfl] at er
    obtain rfl := Option.some.inj er
    exact ⟨rfl, fun h => RR_f (by rw [wN.1]) (fun i => by rw [wN.1]) (fB 162 12 (by omega)) (fun i => fB 168 i (by omega)) (FQ2_RR fqM h)⟩
  · have ex := el_r ex
    rcases B with ⟨_, hb⟩ | ⟨b, b1, b2, b3, b4⟩
    · exact absurd hk (hb k kl)
    have bk : b = k := by
      rcases b4 k kl hk with h | ⟨h1, h2⟩
      · exact absurd b3 (hlt b b2 h)
      · by_cases c : b = k
        · exact c
        · exact absurd b3 (heq b (by omega) h1)
    subst bk
    rw [if_neg (fun h => by have := q_eq h; omega)] at er
    obtain ⟨x15, e15, ex⟩ := bo ex
    obtain ⟨x16, e16, ex⟩ := bo ex
    obtain rfl := Option.some.inj ex
    obtain ⟨M14, m14, er⟩ := mo er
    obtain ⟨y15, f15, er⟩ := bo er
    obtain ⟨y16, f16, er⟩ := bo er
    obtain rfl := Option.some.inj er
    have bc := bcn b1 b2 n8 f16
    have vb : x13.1 = Int32.ofNat b := ofn_eq b1 (by omega)
    exact ⟨Int32.toInt_inj.mp (by show w.toInt = y16.toInt; rw [hw, bc, vb]; rfl), fun _ => RRn_r (k := 1) (by omega) (RR_n (RR_0 e15 m14) (by omega) (Int32.toInt_inj.mp (by show v.toInt = x13.1.toInt; omega)) e16 f15)⟩
end
section
/-! lairs: forward from each place, backward from all -/
def Fw (E : Nat → Nat → Prop) (O : Nat → Nat → Prop) (f : Nat) : Nat → Nat → Prop
  | 0, u => u = f
  | i + 1, u => (Fw E O f i u ∨ ∃ v, Fw E O f i v ∧ E v u) ∧ ¬ O i u
def Bk (E : Nat → Nat → Prop) (O : Nat → Nat → Prop) (A : Nat → Prop) (N : Nat) : Nat → Nat → Prop
  | 0, u => A u
  | j + 1, u => (Bk E O A N j u ∧ ¬ O (N - 1 - j) u) ∨ ∃ v, (Bk E O A N j v ∧ ¬ O (N - 1 - j) v) ∧ E v u
theorem Fw_A {E : Nat → Nat → Prop} {O : Nat → Nat → Prop} {A : Nat → Prop} {f : Nat} (hf : A f) (hE : ∀ v u, E v u → A u) : ∀ i u, Fw E O f i u → A u := by
  intro i
  induction i with
  | zero => rintro u rfl; exact hf
  | succ i ih =>
    rintro u ⟨h | ⟨v, h, e⟩, _⟩
    · exact ih u h
    · exact hE v u e
theorem fb_j {E : Nat → Nat → Prop} {O : Nat → Nat → Prop} {A : Nat → Prop} {f N : Nat} (hf : A f) (hE : ∀ v u, E v u → A u) (sym : ∀ v u, E v u → E u v) : ∀ j, j ≤ N → ((∃ u, Fw E O f N u) ↔ ∃ u, Fw E O f (N - j) u ∧ Bk E O A N j u) := by
  intro j
  induction j with
  | zero =>
    intro _
    constructor
    · rintro ⟨u, h⟩; exact ⟨u, h, Fw_A hf hE N u h⟩
    · rintro ⟨u, h, _⟩; exact ⟨u, h⟩
  | succ j ih =>
    intro hj
    rw [ih (by omega)]
    have e1 : N - j = (N - 1 - j) + 1 := by omega
    have e2 : N - (j + 1) = N - 1 - j := by omega
    rw [e1, e2]
    constructor
    · rintro ⟨u, ⟨h | ⟨v, h, e⟩, o⟩, b⟩
      · exact ⟨u, h, .inl ⟨b, o⟩⟩
      · exact ⟨v, h, .inr ⟨u, ⟨b, o⟩, sym v u e⟩⟩
    · rintro ⟨v, h, ⟨b, o⟩ | ⟨u, ⟨b, o⟩, e⟩⟩
      · exact ⟨v, ⟨.inl h, o⟩, b⟩
      · exact ⟨u, ⟨.inr ⟨v, h, sym u v e⟩, o⟩, b⟩
theorem fb_i {E : Nat → Nat → Prop} {O : Nat → Nat → Prop} {A : Nat → Prop} {f N : Nat} (hf : A f) (hE : ∀ v u, E v u → A u) (sym : ∀ v u, E v u → E u v) : (∃ u, Fw E O f N u) ↔ Bk E O A N N f := by
  rw [fb_j hf hE sym N (Nat.le_refl N), Nat.sub_self]
  constructor
  · rintro ⟨u, rfl, b⟩; exact b
  · intro b; exact ⟨f, rfl, b⟩
theorem Bk_A {E : Nat → Nat → Prop} {O : Nat → Nat → Prop} {A : Nat → Prop} {N : Nat} (hE : ∀ v u, E v u → A u) : ∀ j u, Bk E O A N j u → A u := by
  intro j
  induction j with
  | zero => intro u h; exact h
  | succ j ih =>
    rintro u (⟨h, _⟩ | ⟨v, _, e⟩)
    · exact ih u h
    · exact hE v u e
theorem EA_sym {R : Mem} {a v u : Nat} (jR : J R) (kp : KP R a 0) (h : EA R a v u) : EA R a u v := by
  obtain ⟨v72, u72, onv, onu, ⟨s, s0, s3, g⟩ | ⟨h3, hu⟩⟩ := h
  · obtain ⟨_, g'⟩ := go_sym jR kp onv ⟨s0, s3⟩ g (by omega)
    have o : 0 ≤ opp s ∧ opp s ≤ 3 := by
      have : s = 0 ∨ s = 1 ∨ s = 2 ∨ s = 3 := by omega
      rcases this with rfl | rfl | rfl | rfl <;> decide
    exact ⟨u72, v72, onu, onv, .inl ⟨opp s, o.1, o.2, g'⟩⟩
  · refine ⟨u72, v72, onu, onv, .inr ⟨?_, by omega⟩⟩
    rw [show u % 36 = v % 36 by omega]; exact h3
def NE (X R : Mem) (v u : Nat) : Prop := v < 72 ∧ u < 72 ∧ onP R (v : Int) ∧ onP R (u : Int) ∧ ((v / 36 = u / 36 ∧ bl (X.2.1 34 (v / 36 * 36 + v % 36)) (u % 36) = true) ∨ ((R.1 164 (v % 36)).toInt = 3 ∧ u = 36 * (1 - v / 36) + v % 36))
theorem EA_near {X R : Mem} {a n v u : Nat} (jR : J R) (zv : ZV R (R.1 a) n) (zw : ZW X R a) : EA R a v u ↔ NE X R v u := by
  have ev : v = 36 * (v / 36) + v % 36 := by omega
  have eu : u = 36 * (u / 36) + u % 36 := by omega
  constructor
  · rintro ⟨v72, u72, onv, onu, ⟨s, s0, s3, g⟩ | h⟩
    · obtain ⟨d, d36, hd⟩ := go_lev jR (by omega) ⟨s0, s3⟩ g (by omega)
      have e1 : v / 36 = u / 36 := by omega
      refine ⟨v72, u72, onv, onu, .inl ⟨e1, ?_⟩⟩
      have on := onv
      rw [ev] at on
      refine (near_go (v0 := 32) jR zv zw.2 (by omega) (by omega)).mpr ⟨(onP_lc (by omega) (by omega)).mp on, by omega, s, s0, s3, ?_⟩
      rw [← ev, show 36 * (v / 36) + u % 36 = u by omega]
      exact g
    · exact ⟨v72, u72, onv, onu, .inr h⟩
  · rintro ⟨v72, u72, onv, onu, ⟨e1, hb⟩ | h⟩
    · obtain ⟨_, _, s, s0, s3, g⟩ := (near_go (v0 := 32) jR zv zw.2 (by omega) (by omega)).mp hb
      rw [← ev, show 36 * (v / 36) + u % 36 = u by omega] at g
      exact ⟨v72, u72, onv, onu, .inl ⟨s, s0, s3, g⟩⟩
    · exact ⟨v72, u72, onv, onu, .inr h⟩
theorem NE_m {X Y R S : Mem} (m : MapEq S R) (h : ∀ i, Y.2.1 34 i = X.2.1 34 i) {v u : Nat} : NE Y S v u ↔ NE X R v u := by
  unfold NE
  rw [onP_c m, onP_c m, h, m.2.2]
/-- who is where, in the class's spare scene -/
def OX (N : Mem) (n u : Nat) : Prop := ∃ p, p < n ∧ (N.1 27 p).toInt = ((u / 36 : Nat) : Int) ∧ (N.1 26 p).toInt = ((u % 36 : Nat) : Int)
theorem OX_R {X R : Mem} {n u : Nat} (zs : ZS (scn X 25) (R.1 176) n) (hu : u < 72) : OX X n u ↔ occR R 176 n u := by
  unfold OX occR
  constructor
  · rintro ⟨p, pn, hl, hc⟩
    obtain ⟨q1, _⟩ := zs.1 p pn
    have e0 : scn X 25 0 p = X.1 26 p := rfl
    have e1' : scn X 25 1 p = X.1 27 p := rfl
    rw [e0, e1'] at q1
    exact ⟨p, pn, by omega⟩
  · rintro ⟨p, pn, hp⟩
    obtain ⟨q1, q2, q3, q4, q5, _⟩ := zs.1 p pn
    have e0 : scn X 25 0 p = X.1 26 p := rfl
    have e1' : scn X 25 1 p = X.1 27 p := rfl
    rw [e0, e1'] at q1
    rw [e0] at q2 q3
    rw [e1'] at q4 q5
    exact ⟨p, pn, by omega, by omega⟩
/-- the class's minutes, gone through once, each with who was where -/
def TR (X R : Mem) (n i : Nat) (sq : Nat → Mem) (S : Mem) : Prop := sq 0 = X ∧ (∀ j, j ≤ i → ∃ T, ZT (sq j) T n ∧ FQ2 X R (sq j) T) ∧ (∀ j, j < i → ∃ y, f_Clock_pass 25 32 (sq j) = some y ∧ (sq (j + 1)).1 = y.1 ∧ (sq (j + 1)).2.2 = y.2.2 ∧ ∀ k q, k ≠ 152 → k ≠ 153 → (sq (j + 1)).2.1 k q = y.2.1 k q) ∧ S = sq i ∧ ∀ j, j < i → ∀ l c : Nat, l < 2 → c < 36 → (bl (S.2.1 (152 + l) j) c = true ↔ OX (sq (j + 1)) n (36 * l + c))
theorem trace_c {X R x : Mem} {n N : Nat} {v1 : Int32} (zt : ZT X R n) (hN : v1.toInt = (N : Int)) (N30 : N ≤ 30) (e : iter (lb_Top_lairs_26 v1) FU ((0 : Int32), X) = some x) : ∃ sq, TR X R n N sq x := by
  refine it_r (I := fun s : Int32 × Mem => ∃ i : Nat, i ≤ N ∧ s.1.toInt = (i : Int) ∧ ∃ sq, TR X R n i sq s.2) (Q := fun x : Mem => ∃ sq, TR X R n N sq x) ?_ e ⟨0, by omega, rfl, fun _ => X, rfl, fun j hj => ⟨R, zt, FQ2_r⟩, fun j hj => by omega, rfl, fun j hj => by omega⟩
  rintro ⟨i, S⟩ r ⟨k, kN, hk, sq, t1, t2, t3, t4, t5⟩ e
  dsimp only at hk t4 t5
  unfold lb_Top_lairs_26 at e
  dsimp only at e
  rcases io e with ⟨g, e⟩ | ⟨g, e⟩
  · have gl := q_le g
    obtain rfl := Option.some.inj e
    have : k = N := by omega
    subst this
    exact ⟨sq, t1, t2, t3, t4, t5⟩
  have gl := q_ng g
  have i1 : (i + (1 : Int32)).toInt = ((k + 1 : Nat) : Int) := add_ti hk o1 (by omega) (by omega)
  obtain ⟨x2, e2, e⟩ := bo e
  obtain ⟨x3, e3, e⟩ := bo e
  obtain ⟨x4, e4, e⟩ := bo e
  obtain ⟨x5, e5, e⟩ := bo e
  obtain rfl := Option.some.inj e
  obtain ⟨T, ztk, fqk⟩ := t2 k (Nat.le_refl k)
  rw [t4] at e2
  obtain ⟨r1, er1, _⟩ := sf_Mod_goMinute 176 T (.inr (.inr rfl)) ztk.2.1
  obtain ⟨zt2, pp, fq2⟩ := pass_t ztk e2 er1
  have fx : Fx mP25 [] (sq k) x2 := wf_Clock_pass 25 32 (sq k) (by decide +kernel) (oc_c (sb_r _) (by decide +kernel)) (oc_c (sb_r _) (by decide +kernel)) (oc_c (sb_r _) (by decide +kernel)) (oc_c (sb_r _) (by decide +kernel)) Fx_r e2
  have f152 : ∀ q, x2.2.1 152 q = (sq k).2.1 152 q := fun q => (fx 152 q (by rw [show sl 152 q = 152 from rfl]; decide +kernel) (by simp)).2.1
  have f153 : ∀ q, x2.2.1 153 q = (sq k).2.1 153 q := fun q => (fx 153 q (by rw [show sl 153 q = 153 from rfl]; decide +kernel) (by simp)).2.1
  obtain ⟨n8, j2, ⟨zg2, zc2, zl2⟩, zs2, zv2, zw2⟩ := zt2
  have at26 : ∀ p, p < n → 0 ≤ (x2.1 26 p).toInt ∧ (x2.1 26 p).toInt ≤ 35 := fun p pn => by
    have w := (whr_t ⟨n8, j2, ⟨zg2, zc2, zl2⟩, zs2, zv2, zw2⟩ pn).2
    exact ⟨w.1, w.2.1⟩
  have hn : (x2.1 6 4).toInt = (n : Int) := by rw [zc2.2.1]; exact zc2.1
  have o3 := occ_c (k := 25) (l := 0) hn n8 rfl at26 e3
  have o4 := occ_c (k := 25) (l := 1) hn n8 rfl at26 e4
  unfold f_Thief_record at e5
  have z0 := o0
  have k30 : (30 : Int32).toInt = 30 := rfl
  rw [if_neg (fun h => by have := q_lt h; omega), if_neg (fun h => by have := q_le h; omega), q_nat hk] at e5
  obtain ⟨_, e5⟩ := io_n e5
  obtain ⟨M1, m1, e5⟩ := mo e5
  obtain ⟨_, e5⟩ := io_n e5
  obtain ⟨M2, m2, e5⟩ := mo e5
  obtain rfl := Option.some.inj e5
  have g1 : M2.1 = x2.1 := by rw [m2, sl_1, m1, sl_1]
  have g2 : M2.2.2 = x2.2.2 := by
    rw [m2]; show M1.2.2 = _
    rw [m1]; rfl
  have g3 : ∀ kk q, ¬ (kk = 152 ∧ q = k) → ¬ (kk = 153 ∧ q = k) → M2.2.1 kk q = x2.2.1 kk q := fun kk q h1 h2 => by rw [m2, sl_ne h2, m1, sl_ne h1]
  have k152 : M2.2.1 152 k = x3 := by rw [m2, sl_ne (by omega), m1, sl_eq]
  have k153 : M2.2.1 153 k = x4 := by rw [m2, sl_eq]
  have sqo : ∀ j, j ≤ k → (fun j => if j ≤ k then sq j else M2) j = sq j := fun j hj => if_pos hj
  have sqn : (fun j => if j ≤ k then sq j else M2) (k + 1) = M2 := if_neg (by omega)
  have ztM : ZT M2 r1 n := by
    have agx : AgX x2 M2 := ⟨by rw [g1], by rw [g1], fun q => by rw [g1], by rw [g1], by rw [g1], fun q => by rw [g1], fun q => by rw [g1], by rw [g1], fun q => by rw [g1], fun q => by rw [g1], fun q => g3 33 q (by omega) (by omega), fun q => g3 34 q (by omega) (by omega)⟩
    exact ⟨n8, j2, ZB_a agx AgR_r ⟨zg2, zc2, zl2⟩, ZS_c n8 (scn_f (fun kx i _ _ => by rw [g1])) (fun _ _ => rfl) zs2, zv2, ZW_a agx AgR_r (fun _ _ => Iff.rfl) zw2⟩
  refine ⟨k + 1, by omega, i1, fun j => if j ≤ k then sq j else M2, ?_, fun j hj => ?_, fun j hj => ?_, ?_, fun j hj l c l2 c36 => ?_⟩
  · rw [sqo 0 (by omega)]; exact t1
  · by_cases h : j ≤ k
    · rw [sqo j h]; exact t2 j h
    · have : j = k + 1 := by omega
      subst this
      rw [sqn]
      exact ⟨r1, ztM, FQ2_t fqk (FQ2_t fq2 ⟨⟨fun kx i _ => by rw [g1], fun i => g3 33 i (by omega) (by omega), fun i => g3 34 i (by omega) (by omega), fun i => by rw [g2], fun i => by rw [g2]⟩, fun _ _ _ => rfl, ⟨by rw [g1], fun i => by rw [g1]⟩, rfl, fun _ => rfl⟩)⟩
  · by_cases h : j < k
    · rw [sqo j (by omega), sqo (j + 1) (by omega)]; exact t3 j h
    · have : j = k := by omega
      subst this
      rw [sqo j (by omega), sqn]
      exact ⟨x2, e2, g1, g2, fun kk q a b => g3 kk q (by omega) (by omega)⟩
  · rw [sqn]
  · by_cases h : j < k
    · rw [sqo (j + 1) (by omega), ← t5 j h l c l2 c36, t4]
      have : l = 0 ∨ l = 1 := by omega
      rcases this with rfl | rfl
      · rw [show 152 + 0 = 152 from rfl, g3 152 j (by omega) (by omega), f152]
      · rw [show 152 + 1 = 153 from rfl, g3 153 j (by omega) (by omega), f153]
    · have : j = k := by omega
      subst this
      rw [sqn]
      have u1 : (36 * l + c) / 36 = l := by omega
      have u2 : (36 * l + c) % 36 = c := by omega
      unfold OX
      rw [u1, u2, g1]
      have : l = 0 ∨ l = 1 := by omega
      rcases this with rfl | rfl
      · rw [show 152 + 0 = 152 from rfl, k152]; exact o3 c
      · rw [show 152 + 1 = 153 from rfl, k153]; exact o4 c
end
section
/-! lairs: both sides -/
theorem strike_i {X x : Mem} {i : Nat} {v : Int32} (hv : v.toInt = (i : Int)) (i30 : i < 30) (e : f_Thief_strike v X = some x) : x.1 = X.1 ∧ x.2.2 = X.2.2 ∧ (∀ k q, ¬ (k = 151 ∧ (q = 2 ∨ q = 3)) → x.2.1 k q = X.2.1 k q) ∧ (∀ l c : Nat, l < 2 → c < 64 → bl (x.2.1 151 (2 + l)) c = (bl (X.2.1 151 (2 + l)) c && !bl (X.2.1 (152 + l) i) c)) := by
  have z0 := o0
  have k30 : (30 : Int32).toInt = 30 := rfl
  unfold f_Thief_strike at e
  rw [if_neg (fun h => by have := q_lt h; omega), if_neg (fun h => by have := q_le h; omega), q_nat hv] at e
  obtain ⟨_, e⟩ := io_n e
  obtain ⟨M3, m3, e⟩ := mo e
  obtain ⟨_, e⟩ := io_n e
  obtain ⟨M4, m4, e⟩ := mo e
  obtain rfl := Option.some.inj e
  have a153 : M3.2.1 153 i = X.2.1 153 i := by rw [m3, sl_ne (by omega)]
  have a3 : M3.2.1 151 3 = X.2.1 151 3 := by rw [m3, sl_ne (by omega)]
  refine ⟨by rw [m4, sl_1, m3, sl_1], ?_, fun k q h => by rw [m4, sl_ne (by omega), m3, sl_ne (by omega)], fun l c l2 hc => ?_⟩
  · rw [m4]; show M3.2.2 = _
    rw [m3]; rfl
  · have : l = 0 ∨ l = 1 := by omega
    rcases this with rfl | rfl
    · rw [show 2 + 0 = 2 from rfl, show 152 + 0 = 152 from rfl, m4, sl_ne (by omega), m3, sl_eq, bl_and, bl_not hc]
    · rw [show 2 + 1 = 3 from rfl, show 152 + 1 = 153 from rfl, m4, sl_eq, a153, a3, bl_and, bl_not hc]
/-- one run of the reference -/
theorem run_r {X X1 M T0 : Mem} {n N f : Nat} {p v1 : Int32} {sq : Nat → Mem} {r : Int32 × Mem} {Z R' : Mem} (za : ZA X T0 n) (jM : J M) (zaM : ZA X M n) (mE : MapEq T0 M) (e1 : f_Scene_copy 25 11 X = some X1) (t1 : sq 0 = X1) (t3 : ∀ j, j < N → ∃ y, f_Clock_pass 25 32 (sq j) = some y ∧ (sq (j + 1)).1 = y.1 ∧ (sq (j + 1)).2.2 = y.2.2 ∧ ∀ k q, k ≠ 152 → k ≠ 153 → (sq (j + 1)).2.1 k q = y.2.1 k q) (hN : v1.toInt = (N : Int)) (N1 : 1 ≤ N) (N30 : N ≤ 30) (hp : p.toInt = (f : Int)) (f72 : f < 72) (onf : onP M (f : Int)) (er : f_Mod_thiefIn p v1 T0 = some r) : (r.1 = 1000000 ↔ ∃ w, w < 72 ∧ Fw (EA M 163) (fun i u => OX (sq (i + 1)) n u) f N w) ∧ J r.2 ∧ (∀ kx i, CRr kx i → r.2.1 kx i = T0.1 kx i) ∧ (∀ i, r.2.1 188 i = T0.1 188 i) ∧ r.2.1 162 12 = T0.1 162 12 ∧ ∀ i, r.2.1 168 i = T0.1 168 i := by
  have km : (1000000 : Int32).toInt = 1000000 := rfl
  obtain ⟨_, _, _, _, zvM, zwM⟩ := zaM.1
  unfold f_Mod_thiefIn at er
  obtain ⟨R1, g1, er⟩ := bo er
  obtain ⟨R6, g6, er⟩ := bo er
  obtain ⟨t, gt, er⟩ := bo er
  obtain ⟨zt1, fq1⟩ := begin_t za.1 e1 g1
  obtain ⟨_, _, l2⟩ := lay_t za.1.2.1 g1
  obtain ⟨n8, j1, zb1, zs1, zv1, zw1⟩ := zt1
  obtain ⟨p1, p2, p3⟩ := place1_r j1 hp g6
  have agr : AgR R1 R6 := ⟨p2 162 2 (by omega), p2 162 3 (by omega), p2 162 4 (by omega), p2 162 5 (by omega), p2 162 23 (by omega), fun i => p2 164 i (by omega), fun i => p2 165 i (by omega), fun i => p2 166 i (by omega), fun i => p2 172 i (by omega)⟩
  have zt6 : ZT (sq 0) R6 n := by
    rw [t1]
    exact ⟨n8, p1, ZB_a AgX_r agr zb1, ZS_c n8 SEq_r (fun i _ => (p2 176 i (by omega)).symm) zs1, ZV_a n8 agr (fun i _ => p2 176 i (by omega)) zv1, ZW_a AgX_r agr (plk_c (fun i _ _ => p2 176 i (by omega)) zv1.2.1.2) zw1⟩
  have fq6 : FQ2 X T0 (sq 0) R6 := by
    rw [t1]
    exact FQ2_t fq1 ⟨Fz_r, fun kx i h => p2 kx i (by unfold CRr CR at h; omega), ⟨rfl, fun _ => rfl⟩, p2 162 12 (by omega), fun i => p2 168 i (by omega)⟩
  have hE : ∀ v u, EA M 163 v u → onP M (u : Int) := fun v u h => h.2.2.2.1
  have K : (∃ B, t = .inl B ∧ (∃ w, w < 72 ∧ Fw (EA M 163) (fun i u => OX (sq (i + 1)) n u) f N w) ∧ J B ∧ (∀ kx i, CRr kx i → B.1 kx i = T0.1 kx i) ∧ (∀ i, B.1 188 i = T0.1 188 i) ∧ B.1 162 12 = T0.1 162 12 ∧ ∀ i, B.1 168 i = T0.1 168 i) ∨ (∃ k B, t = .inr (k, B) ∧ k.toInt ≤ 30 ∧ (¬ ∃ w, w < 72 ∧ Fw (EA M 163) (fun i u => OX (sq (i + 1)) n u) f N w) ∧ J B ∧ (∀ kx i, CRr kx i → B.1 kx i = T0.1 kx i) ∧ (∀ i, B.1 188 i = T0.1 188 i) ∧ B.1 162 12 = T0.1 162 12 ∧ ∀ i, B.1 168 i = T0.1 168 i) := by
    refine it_r (I := fun s : Int32 × Mem => ∃ k : Nat, k ≤ N ∧ s.1.toInt = ((k + 1 : Nat) : Int) ∧ ZT (sq k) s.2 n ∧ FQ2 X T0 (sq k) s.2 ∧ (∀ u, u < 72 → (mayb 186 s.2 u ↔ Fw (EA M 163) (fun i u => OX (sq (i + 1)) n u) f k u)) ∧ (∀ i, s.2.1 188 i = T0.1 188 i) ∧ ∃ w, w < 72 ∧ Fw (EA M 163) (fun i u => OX (sq (i + 1)) n u) f k w) (Q := fun t : Mem ⊕ (Int32 × Mem) => (∃ B, t = .inl B ∧ (∃ w, w < 72 ∧ Fw (EA M 163) (fun i u => OX (sq (i + 1)) n u) f N w) ∧ J B ∧ (∀ kx i, CRr kx i → B.1 kx i = T0.1 kx i) ∧ (∀ i, B.1 188 i = T0.1 188 i) ∧ B.1 162 12 = T0.1 162 12 ∧ ∀ i, B.1 168 i = T0.1 168 i) ∨ (∃ k B, t = .inr (k, B) ∧ k.toInt ≤ 30 ∧ (¬ ∃ w, w < 72 ∧ Fw (EA M 163) (fun i u => OX (sq (i + 1)) n u) f N w) ∧ J B ∧ (∀ kx i, CRr kx i → B.1 kx i = T0.1 kx i) ∧ (∀ i, B.1 188 i = T0.1 188 i) ∧ B.1 162 12 = T0.1 162 12 ∧ ∀ i, B.1 168 i = T0.1 168 i)) ?_ gt ⟨0, by omega, rfl, zt6, fq6, fun u hu => p3 u hu, fun i => by rw [p2 188 i (by omega)]; exact l2 188 i (by omega), f, f72, rfl⟩
    rintro ⟨i, T⟩ r ⟨k, kN, hk, zt, fq, tm, f188, w, w72, hw⟩ e
    dsimp only at hk zt fq tm f188
    unfold lb_Mod_thiefIn_44 at e
    dsimp only at e
    rcases io e with ⟨g, e⟩ | ⟨g, e⟩
    · have gl := q_lt g
      obtain rfl := Option.some.inj e
      have : k = N := by omega
      subst this
      exact .inl ⟨_, rfl, ⟨w, w72, hw⟩, zt.2.1, fq.2.1, f188, fq.2.2.2.1, fq.2.2.2.2⟩
    have gl := q_nl g
    obtain ⟨x7, e7, e⟩ := bo e
    obtain ⟨x8, e8, e⟩ := bo e
    obtain ⟨y, ey, s1, s2, s3⟩ := t3 k (by omega)
    obtain ⟨zt2, pp, fq2⟩ := pass_t zt ey e7
    have fr : Fx mG176 [] T x7 := wf_Mod_goMinute 176 T (by decide +kernel) (oc_c (sb_r _) (by decide +kernel)) Fx_r e7
    have a186 : ∀ u, x7.1 186 u = T.1 186 u := fun u => (fr 186 u (by rw [show sl 186 u = 186 from rfl]; decide +kernel) (by simp)).1
    have a188 : ∀ u, x7.1 188 u = T.1 188 u := fun u => (fr 188 u (by rw [show sl 188 u = 188 from rfl]; decide +kernel) (by simp)).1
    have fs : FQ2 y x7 (sq (k + 1)) x7 := ⟨⟨fun kx i _ => by rw [s1], fun i => s3 33 i (by omega) (by omega), fun i => s3 34 i (by omega) (by omega), fun i => by rw [s2], fun i => by rw [s2]⟩, fun _ _ _ => rfl, ⟨by rw [s1], fun i => by rw [s1]⟩, rfl, fun _ => rfl⟩
    have fq3 : FQ2 X T0 (sq (k + 1)) x7 := FQ2_t fq (FQ2_t fq2 fs)
    have zt3 : ZT (sq (k + 1)) x7 n := by
      obtain ⟨n8, j2, zb2, zs2, zv2, zw2⟩ := zt2
      have agx : AgX y (sq (k + 1)) := ⟨by rw [s1], by rw [s1], fun q => by rw [s1], by rw [s1], by rw [s1], fun q => by rw [s1], fun q => by rw [s1], by rw [s1], fun q => by rw [s1], fun q => by rw [s1], fun q => s3 33 q (by omega) (by omega), fun q => s3 34 q (by omega) (by omega)⟩
      exact ⟨n8, j2, ZB_a agx AgR_r zb2, ZS_c n8 (scn_f (fun kx i _ _ => by rw [s1])) (fun _ _ => rfl) zs2, zv2, ZW_a agx AgR_r (fun _ _ => Iff.rfl) zw2⟩
    have mE7 : MapEq x7 M := ⟨by rw [fq3.2.1 162 2 (by unfold CRr CR; omega)]; exact mE.1, by rw [fq3.2.1 162 3 (by unfold CRr CR; omega)]; exact mE.2.1, fun i => by rw [fq3.2.1 164 i (by unfold CRr CR; omega)]; exact mE.2.2 i⟩
    obtain ⟨_, j7, ⟨zg7, zc7, zl7⟩, zs7, zv7, zw7⟩ := zt3
    have tm7 : ∀ u, u < 72 → (mayb 186 x7 u ↔ Fw (EA M 163) (fun i u => OX (sq (i + 1)) n u) f k u) := fun u hu => by
      unfold mayb
      rw [a186]; exact tm u hu
    obtain ⟨q1, q2, q3, q4⟩ := thief_r j7 (KP_v zv7) zc7.1 n8 (fun v hv hm => (onP_c mE7).mpr (Fw_A onf hE k v ((tm7 v hv).mp hm))) e8
    have ed : ∀ v u, EA x7 176 v u ↔ EA M 163 v u := fun v u => by
      rw [EA_near j7 zv7 zw7, EA_near jM zvM zwM]
      exact NE_m mE7 (fun i => fq3.1.2.2.1 i)
    have tm8 : ∀ u, u < 72 → (mayb 186 x8.2 u ↔ Fw (EA M 163) (fun i u => OX (sq (i + 1)) n u) f (k + 1) u) := by
      intro u hu
      rw [q3 u hu, ← OX_R zs7 hu, tm7 u hu]
      constructor
      · rintro ⟨h | ⟨v, h, g⟩, o⟩
        · exact ⟨.inl h, o⟩
        · exact ⟨.inr ⟨v, (tm7 v g.1).mp h, (ed v u).mp g⟩, o⟩
      · rintro ⟨h | ⟨v, h, g⟩, o⟩
        · exact ⟨.inl h, o⟩
        · exact ⟨.inr ⟨v, (tm7 v g.1).mpr h, (ed v u).mpr g⟩, o⟩
    have fr8 : FQ2 X T0 (sq (k + 1)) x8.2 := FQ2_t fq3 ⟨Fz_r, fun kx i h => q2 kx i (by unfold CRr CR at h; omega) (by unfold CRr CR at h; omega), ⟨rfl, fun _ => rfl⟩, q2 162 12 (by omega) (by omega), fun i => q2 168 i (by omega) (by omega)⟩
    have f188' : ∀ i, x8.2.1 188 i = T0.1 188 i := fun i => by rw [q2 188 i (by omega) (by omega), a188]; exact f188 i
    rcases io e with ⟨g8, e⟩ | ⟨g8, e⟩
    · obtain rfl := Option.some.inj e
      refine .inr ⟨_, _, rfl, by omega, ?_, q1, fr8.2.1, f188', fr8.2.2.2.1, fr8.2.2.2.2⟩
      have no := q4.mp g8
      have all : ∀ d u, ¬ Fw (EA M 163) (fun i u => OX (sq (i + 1)) n u) f (k + 1 + d) u := by
        intro d
        induction d with
        | zero =>
          intro u h
          have u72 : u < 72 := by
            have := Fw_A onf hE (k + 1) u h
            have := this.2.1
            omega
          exact no u u72 ((tm8 u u72).mpr h)
        | succ d ih =>
          rintro u ⟨h | ⟨v, h, _⟩, _⟩
          · exact ih u h
          · exact ih v h
      rintro ⟨w, _, h⟩
      refine all (N - (k + 1)) w ?_
      rw [show k + 1 + (N - (k + 1)) = N by omega]
      exact h
    · obtain rfl := Option.some.inj e
      have ex : ∃ w, w < 72 ∧ mayb 186 x8.2 w := Classical.byContradiction (fun h => g8 (q4.mpr (fun u hu hh => h ⟨u, hu, hh⟩)))
      obtain ⟨w', w72', hw'⟩ := ex
      have agr8 : AgR x7 x8.2 := ⟨q2 162 2 (by omega) (by omega), q2 162 3 (by omega) (by omega), q2 162 4 (by omega) (by omega), q2 162 5 (by omega) (by omega), q2 162 23 (by omega) (by omega), fun i => q2 164 i (by omega) (by omega), fun i => q2 165 i (by omega) (by omega), fun i => q2 166 i (by omega) (by omega), fun i => q2 172 i (by omega) (by omega)⟩
      refine ⟨k + 1, by omega, add_ti hk o1 (by omega) (by omega), ⟨n8, q1, ZB_a AgX_r agr8 ⟨zg7, zc7, zl7⟩, ZS_c n8 SEq_r (fun i _ => (q2 176 i (by omega) (by omega)).symm) zs7, ZV_a n8 agr8 (fun i _ => q2 176 i (by omega) (by omega)) zv7, ZW_a AgX_r agr8 (plk_c (fun i _ _ => q2 176 i (by omega) (by omega)) zv7.2.1.2) zw7⟩, fr8, tm8, f188', w', w72', (tm8 w' w72').mp hw'⟩
  rcases K with ⟨B, rfl, hw, h1, h2, h3, h4, h5⟩ | ⟨k, B, rfl, hk, hw, h1, h2, h3, h4, h5⟩
  · have er := el_l er
    obtain rfl := Option.some.inj er
    exact ⟨⟨fun _ => hw, fun _ => rfl⟩, h1, h2, h3, h4, h5⟩
  · have er := el_r er
    obtain rfl := Option.some.inj er
    exact ⟨⟨fun h => by have := q_eq h; exfalso; dsimp only at this; omega, fun h => absurd h hw⟩, h1, h2, h3, h4, h5⟩
theorem cnt_c {P Q : Nat → Bool} {n : Nat} (h : ∀ i, i < n → P i = Q i) : (List.range n).countP P = (List.range n).countP Q := List.countP_congr (fun i hi => by rw [h i (List.mem_range.mp hi)])
theorem lairs_q {X R : Mem} {n : Nat} {v1 : Int32} {x r : Int32 × Mem} (za : ZA X R n) (ex : f_Top_lairs v1 X = some x) (er : f_Mod_lairs v1 R = some r) : x.1 = r.1 ∧ (RR X R → RR x.2 r.2) := by
  have k30 : (30 : Int32).toInt = 30 := rfl
  have k1 := o1
  have km : (1000000 : Int32).toInt = 1000000 := rfl
  have k72 : (72 : Int32).toInt = 72 := rfl
  unfold f_Mod_lairs at er
  obtain ⟨M1, m1, er⟩ := mo er
  obtain ⟨zaM, fqM⟩ := ZA_M1 za m1
  obtain ⟨n8, jM, ⟨zg, zc, zl⟩, zs, zv, zw⟩ := zaM.1
  have wh := awh jM
  obtain ⟨y2, ey2, er⟩ := bo er
  have hin := some_of (sp_in v1 1 30) ey2
  rw [o1, k30] at hin
  unfold f_Top_lairs at ex
  have out : y2 = 0 → some ((-1 : Int32), X) = some x → x.1 = r.1 ∧ (RR X R → RR x.2 r.2) := by
    intro a ex
    rw [a, if_pos rfl] at er
    obtain rfl := Option.some.inj ex
    obtain rfl := Option.some.inj er
    exact ⟨rfl, FQ2_RR fqM⟩
  rcases io ex with ⟨g, ex⟩ | ⟨g, ex⟩
  · have g := q_lt g
    rcases hin with ⟨a, b⟩ | ⟨a, b⟩
    · omega
    exact out a ex
  have g1 := q_nl g
  rcases io ex with ⟨g, ex⟩ | ⟨g, ex⟩
  rotate_left
  · have g := q_ng g
    rcases hin with ⟨a, b⟩ | ⟨a, b⟩
    · omega
    exact out a ex
  have g2 := q_le g
  rcases hin with ⟨a, _⟩ | ⟨_, b⟩
  rotate_left
  · exact absurd ⟨by omega, by omega⟩ b
  rw [a, if_neg (by decide)] at er
  obtain ⟨N, hN⟩ := ti_ofn (v := v1) (by omega)
  obtain ⟨X1, e1, ex⟩ := bo ex
  obtain ⟨x7, e7, ex⟩ := bo ex
  obtain ⟨M8, m8, ex⟩ := mo ex
  obtain ⟨M9, m9, ex⟩ := mo ex
  obtain ⟨x13, e13, ex⟩ := bo ex
  obtain ⟨x14, e14, ex⟩ := bo ex
  obtain ⟨x15, e15, ex⟩ := bo ex
  obtain ⟨x16, e16, ex⟩ := bo ex
  obtain ⟨x17, e17, ex⟩ := bo ex
  obtain ⟨x18, e18, ex⟩ := bo ex
  obtain rfl := Option.some.inj ex
  obtain ⟨x12, f12, er⟩ := bo er
  obtain ⟨M13, m13, er⟩ := mo er
  obtain ⟨x14', f14, er⟩ := bo er
  obtain rfl := Option.some.inj er
  obtain ⟨R1, gR1, _⟩ := fs_lay 163 176 (0 : Int32) jM (.inl rfl) (by decide) (by decide +kernel) (by decide) (by decide) (by decide +kernel) (by decide +kernel) (by decide)
  obtain ⟨zt1, fq1⟩ := begin_t zaM.1 e1 gR1
  obtain ⟨sq, t1, t2, t3, t4, t5⟩ := trace_c zt1 hN (by omega) e7
  -- backward
  obtain ⟨TN', ztN, fqN⟩ := t2 N (Nat.le_refl N)
  rw [← t4] at fqN
  have fz7 : Fz X x7 := Fz_t fq1.1 fqN.1
  have zaS : ∀ S : Mem, S.1 = x7.1 → S.2.2 = x7.2.2 → (∀ k q, ¬ (k = 151 ∧ (q = 2 ∨ q = 3)) → S.2.1 k q = x7.2.1 k q) → ZA S M1 n := fun S h1 h2 h3 => ZA_z zaM jM (fun kx i w => by rw [h1]; exact fz7.1 kx i w) (fun i => by rw [h3 33 i (by omega)]; exact fz7.2.1 i) (fun i => by rw [h3 34 i (by omega)]; exact fz7.2.2.1 i) (fun i => by rw [h2]; exact fz7.2.2.2.1 i) (fun i => by rw [h2]; exact fz7.2.2.2.2 i) (fun _ _ _ => rfl)
  have hE : ∀ v u, EA M1 163 v u → onP M1 (u : Int) := fun v u h => h.2.2.2.1
  have net : ∀ l c : Nat, l < 2 → (bl (x7.2.1 33 l) c = true ↔ (c < 36 ∧ onN M1 l c)) := by
    intro l c l2
    have := (zaS x7 rfl rfl (fun _ _ _ => rfl)).1.2.2.2.2.2.1 l c l2
    rw [this, onA_i jM]
  have n2 : M9.2.1 151 2 = x7.2.1 33 0 := by rw [m9, sl_ne (by omega), m8, sl_eq]; rfl
  have n3 : M9.2.1 151 3 = x7.2.1 33 1 := by rw [m9, sl_eq, m8, sl_ne (by omega)]; rfl
  have b9 : ∀ l c : Nat, l < 2 → (bl (M9.2.1 151 (2 + l)) c = true ↔ (c < 36 ∧ onN M1 l c)) := by
    intro l c l2
    have : l = 0 ∨ l = 1 := by omega
    rcases this with rfl | rfl
    · rw [show 2 + 0 = 2 from rfl, n2]; exact net 0 c l2
    · rw [show 2 + 1 = 3 from rfl, n3]; exact net 1 c l2
  have K : x13.1 = x7.1 ∧ (∃ A, TN A x13) ∧ ∀ u, u < 72 → (TBq x13 u ↔ Bk (EA M1 163) (fun i u => OX (sq (i + 1)) n u) (fun u => onP M1 (u : Int)) N N u) := by
    refine it_r (I := fun s : Int32 × Mem => ∃ j : Nat, j ≤ N ∧ s.1.toInt = (N : Int) - 1 - (j : Int) ∧ s.2.1 = x7.1 ∧ s.2.2.2 = x7.2.2 ∧ (∀ k q, ¬ (k = 151 ∧ (q = 2 ∨ q = 3)) → s.2.2.1 k q = x7.2.1 k q) ∧ TN M1 s.2 ∧ ∀ u, u < 72 → (TBq s.2 u ↔ Bk (EA M1 163) (fun i u => OX (sq (i + 1)) n u) (fun u => onP M1 (u : Int)) N j u)) (Q := fun x13 : Mem => x13.1 = x7.1 ∧ (∃ A, TN A x13) ∧ ∀ u, u < 72 → (TBq x13 u ↔ Bk (EA M1 163) (fun i u => OX (sq (i + 1)) n u) (fun u => onP M1 (u : Int)) N N u)) ?_ e13 ⟨0, by omega, by rw [sub_ti hN o1 (by omega) (by omega)]; omega, by rw [m9, sl_1, m8, sl_1], ?_, fun k q h => by show M9.2.1 k q = _; rw [m9, sl_ne (by omega), m8, sl_ne (by omega)], ?_, ?_⟩
    · rintro ⟨i, S⟩ r ⟨j, jN, hj, s1, s2, s3, s4, s5⟩ e
      dsimp only at hj s1 s2 s3 s4 s5
      unfold lb_Top_lairs_138 at e
      dsimp only at e
      have z0 := o0
      have zm := om
      rcases io e with ⟨g, e⟩ | ⟨g, e⟩
      · have gl := q_lt g
        obtain rfl := Option.some.inj e
        have : j = N := by omega
        subst this
        exact ⟨s1, ⟨_, s4⟩, s5⟩
      have gl := q_nl g
      obtain ⟨x10, e10, e⟩ := bo e
      obtain ⟨x11, e11, e⟩ := bo e
      obtain rfl := Option.some.inj e
      have hi : i.toInt = ((N - 1 - j : Nat) : Int) := by omega
      obtain ⟨q1, q2, q3, q4⟩ := strike_i hi (by omega) e10
      have bits : ∀ u, u < 72 → (TBq x10 u ↔ TBq S u ∧ ¬ OX (sq (N - 1 - j + 1)) n u) := by
        intro u hu
        have b := q4 (u / 36) (u % 36) (by omega) (by omega)
        have o := t5 (N - 1 - j) (by omega) (u / 36) (u % 36) (by omega) (by omega)
        rw [show 36 * (u / 36) + u % 36 = u by omega, ← s3 _ _ (by omega)] at o
        unfold TBq
        rw [b, Bool.and_eq_true, Bool.not_eq_true', ← Bool.not_eq_true, o]
      have tn10 : TN M1 x10 := by
        intro l c l2 h
        have c64 : c < 64 := by
          rcases Nat.lt_or_ge c 64 with w | w
          · exact w
          · rw [bl_hi w] at h; cases h
        rw [q4 l c l2 c64, Bool.and_eq_true] at h
        exact s4 l c l2 h.1
      have zaX := zaS x10 (by rw [q1, s1]) (by rw [q2, s2]) (fun k q h => by rw [q3 k q h]; exact s3 k q h)
      obtain ⟨w1, w2, w3, w4, w5⟩ := stir_c jM (KP_v zv) zv zaX.1.2.2.2.2.2 zg.2.2.2 tn10 e11
      refine ⟨j + 1, by omega, by rw [add_ti hi zm (by omega) (by omega)]; omega, by show x11.1 = _; rw [w1, q1, s1], by show x11.2.2 = _; rw [w2, q2, s2], fun k q h => by show x11.2.1 k q = _; rw [w3 k q h, q3 k q h]; exact s3 k q h, w4, fun u hu => ?_⟩
      rw [w5 u hu]
      constructor
      · rintro (h | ⟨v, h, g⟩)
        · obtain ⟨a, b⟩ := (bits u hu).mp h
          exact .inl ⟨(s5 u hu).mp a, b⟩
        · obtain ⟨a, b⟩ := (bits v g.1).mp h
          exact .inr ⟨v, ⟨(s5 v g.1).mp a, b⟩, g⟩
      · rintro (⟨a, b⟩ | ⟨v, ⟨a, b⟩, g⟩)
        · exact .inl ((bits u hu).mpr ⟨(s5 u hu).mpr a, b⟩)
        · exact .inr ⟨v, (bits v g.1).mpr ⟨(s5 v g.1).mpr a, b⟩, g⟩
    · show M9.2.2 = _
      rw [m9]; show M8.2.2 = _
      rw [m8]; rfl
    · intro l c l2 h
      obtain ⟨a, b⟩ := (b9 l c l2).mp h
      exact ⟨a, (onP_lc l2 a).mpr b⟩
    · intro u hu
      show TBq M9 u ↔ onP M1 (u : Int)
      unfold TBq
      rw [b9 (u / 36) (u % 36) (by omega), ← onP_lc (by omega) (by omega), show 36 * (u / 36) + u % 36 = u by omega]
      constructor
      · intro h; exact h.2
      · intro h; exact ⟨by omega, h⟩
  obtain ⟨K1, ⟨A, K2⟩, K3⟩ := K
  -- the reference: one run for each place
  have B : x12.1.toInt = (((List.range 72).countP (fun u => decide (x12.2.1 188 u ≠ 0)) : Nat) : Int) ∧ ∀ u, u < 72 → (mayb 188 x12.2 u ↔ Bk (EA M1 163) (fun i u => OX (sq (i + 1)) n u) (fun u => onP M1 (u : Int)) N N u) := by
    refine it_r (I := fun s : Int32 × Int32 × Mem => ∃ k : Nat, k ≤ 72 ∧ s.2.1.toInt = (k : Int) ∧ J s.2.2 ∧ (∀ kx i, CRr kx i → s.2.2.1 kx i = M1.1 kx i) ∧ s.1.toInt = (((List.range k).countP (fun u => decide (s.2.2.1 188 u ≠ 0)) : Nat) : Int) ∧ ∀ u, u < k → (mayb 188 s.2.2 u ↔ Bk (EA M1 163) (fun i u => OX (sq (i + 1)) n u) (fun u => onP M1 (u : Int)) N N u)) (Q := fun x12 : Int32 × Mem => x12.1.toInt = (((List.range 72).countP (fun u => decide (x12.2.1 188 u ≠ 0)) : Nat) : Int) ∧ ∀ u, u < 72 → (mayb 188 x12.2 u ↔ Bk (EA M1 163) (fun i u => OX (sq (i + 1)) n u) (fun u => onP M1 (u : Int)) N N u)) ?_ f12 ⟨0, by omega, rfl, jM, fun _ _ _ => rfl, rfl, fun u h => by omega⟩
    rintro ⟨sm, i, T⟩ r ⟨k, k72', hk, jT, fT, hs, hm⟩ e
    dsimp only at hk jT fT hs hm
    unfold lb_Mod_lairs_21 at e
    dsimp only at e
    rcases io e with ⟨g, e⟩ | ⟨g, e⟩
    · have := q_le g
      obtain rfl := Option.some.inj e
      have : k = 72 := by omega
      subst this
      exact ⟨hs, hm⟩
    have gl := q_ng g
    have k72'' : k < 72 := by omega
    have i1 : (i + (1 : Int32)).toInt = ((k + 1 : Nat) : Int) := add_ti hk o1 (by omega) (by omega)
    obtain ⟨x3, f3, e⟩ := bo e
    obtain ⟨x4, f4, e⟩ := bo e
    obtain ⟨x5, f5, e⟩ := bo e
    have c3 : x3.toInt = ((k / 36 : Nat) : Int) := by rw [(place_i (v := i) (by omega) (by omega)).2 f3, hk]; omega
    have c4 : x4.toInt = ((k % 36 : Nat) : Int) := by rw [(place_i (v := i) (by omega) (by omega)).1 f4, hk]; omega
    have mE : MapEq T M1 := ⟨fT 162 2 (by unfold CRr CR; omega), fT 162 3 (by unfold CRr CR; omega), fun i => fT 164 i (by unfold CRr CR; omega)⟩
    have hof := some_of (fs_isOf jT x3 x4) f5
    rw [c3, c4, onN_c mE] at hof
    have onk : onP M1 (k : Int) ↔ onN M1 ((k / 36 : Nat) : Int) ((k % 36 : Nat) : Int) := by
      rw [← onP_lc (by omega) (by omega), show 36 * (k / 36) + k % 36 = k by omega]
    have body : ∀ (w : Int32) (T' : Mem), J T' → (∀ kx i, CRr kx i → T'.1 kx i = M1.1 kx i) → (∀ i, T'.1 188 i = T.1 188 i) → (w = 0 ∨ w = 1) → (w ≠ 0 ↔ Bk (EA M1 163) (fun i u => OX (sq (i + 1)) n u) (fun u => onP M1 (u : Int)) N N k) → j_Mod_lairs_64_21 v1 sm i w i T' = some r → Sum.elim (fun s : Int32 × Int32 × Mem => ∃ k : Nat, k ≤ 72 ∧ s.2.1.toInt = (k : Int) ∧ J s.2.2 ∧ (∀ kx i, CRr kx i → s.2.2.1 kx i = M1.1 kx i) ∧ s.1.toInt = (((List.range k).countP (fun u => decide (s.2.2.1 188 u ≠ 0)) : Nat) : Int) ∧ ∀ u, u < k → (mayb 188 s.2.2 u ↔ Bk (EA M1 163) (fun i u => OX (sq (i + 1)) n u) (fun u => onP M1 (u : Int)) N N u)) (fun x12 : Int32 × Mem => x12.1.toInt = (((List.range 72).countP (fun u => decide (x12.2.1 188 u ≠ 0)) : Nat) : Int) ∧ ∀ u, u < 72 → (mayb 188 x12.2 u ↔ Bk (EA M1 163) (fun i u => OX (sq (i + 1)) n u) (fun u => onP M1 (u : Int)) N N u)) r := by
      intro w T' jT' fT' h188 hw hq e
      unfold j_Mod_lairs_64_21 at e
      obtain ⟨_, e⟩ := io_n e
      obtain ⟨M6, m6, e⟩ := mo e
      obtain ⟨_, e⟩ := io_n e
      have wn : vp_nar .boolean w = w := by
        rcases hw with rfl | rfl
        · exact vb_0
        · exact vb_1
      rw [q_nat hk, wn] at m6
      have ek : M6.1 188 k = w := by rw [m6, si_eq]
      have en : ∀ u, u ≠ k → M6.1 188 u = T.1 188 u := fun u h => by rw [m6, si_ne (by omega)]; exact h188 u
      have j6 : J M6 := by
        rw [m6]
        rcases hw with rfl | rfl
        · exact Jw_188 jT' k _ (by decide) (by decide)
        · exact Jw_188 jT' k _ (by decide) (by decide)
      have f6 : ∀ kx i, CRr kx i → M6.1 kx i = M1.1 kx i := fun kx i h => by rw [m6, si_ne (by unfold CRr CR at h; omega)]; exact fT' kx i h
      have h6 : ∀ u, u < k + 1 → (mayb 188 M6 u ↔ Bk (EA M1 163) (fun i u => OX (sq (i + 1)) n u) (fun u => onP M1 (u : Int)) N N u) := fun u hu => by
        unfold mayb
        by_cases c : u = k
        · subst c; rw [ek]; exact hq
        · rw [en u c]; exact hm u (by omega)
      have cn : (List.range k).countP (fun u => decide (M6.1 188 u ≠ 0)) = (List.range k).countP (fun u => decide (T.1 188 u ≠ 0)) := cnt_c (fun u hu => by rw [en u (by omega)])
      have le := cnt_le (fun u => decide (M6.1 188 u ≠ 0)) k
      rw [q_nat hk, ek] at e
      rcases io e with ⟨g, e⟩ | ⟨g, e⟩
      · obtain rfl := Option.some.inj e
        refine ⟨k + 1, by omega, i1, j6, f6, ?_, h6⟩
        show (sm + (0 : Int32)).toInt = _
        rw [cnt_s, if_neg (by rw [decide_eq_true_eq, ek]; exact fun h => h g), cn, add_ti hs o0 (by omega) (by omega)]; omega
      · obtain rfl := Option.some.inj e
        refine ⟨k + 1, by omega, i1, j6, f6, ?_, h6⟩
        show (sm + (1 : Int32)).toInt = _
        rw [cnt_s, if_pos (by rw [decide_eq_true_eq, ek]; exact g), cn, add_ti hs o1 (by omega) (by omega)]; omega
    rcases hof with ⟨hx, on⟩ | ⟨hx, on⟩
    rotate_left
    · rw [hx, if_pos rfl] at e
      exact body 0 T jT fT (fun _ => rfl) (.inl rfl) ⟨fun h => absurd rfl h, fun h => absurd (onk.mp (Bk_A hE N k h)) on⟩ e
    rw [hx, if_neg (by decide)] at e
    obtain ⟨x8, f8, e⟩ := bo e
    have zaT : ZA X T n := ZA_z zaM jT (fun _ _ _ => rfl) (fun _ => rfl) (fun _ => rfl) (fun _ => rfl) (fun _ => rfl) fT
    obtain ⟨r1, r2, r3, r4, _, _⟩ := run_r (Z := T) (R' := T) zaT jM zaM mE e1 t1 t3 hN (by omega) (by omega) hk k72'' (onk.mpr on) f8
    have sym : ∀ v u, EA M1 163 v u → EA M1 163 u v := fun v u h => EA_sym jM (KP_v zv) h
    have fb := fb_i (E := EA M1 163) (O := fun i u => OX (sq (i + 1)) n u) (A := fun u => onP M1 (u : Int)) (f := k) (N := N) (onk.mpr on) hE sym
    have fin : (x8.1 = 1000000 ↔ Bk (EA M1 163) (fun i u => OX (sq (i + 1)) n u) (fun u => onP M1 (u : Int)) N N k) := by
      rw [r1, ← fb]
      constructor
      · rintro ⟨w, _, h⟩; exact ⟨w, h⟩
      · rintro ⟨w, h⟩
        have := Fw_A (A := fun u => onP M1 (u : Int)) (onk.mpr on) hE N w h
        exact ⟨w, by have := this.2.1; omega, h⟩
    have f8' : ∀ kx i, CRr kx i → x8.2.1 kx i = M1.1 kx i := fun kx i h => by rw [r3 kx i h]; exact fT kx i h
    rcases io e with ⟨g, e⟩ | ⟨g, e⟩
    · exact body 1 x8.2 r2 f8' r4 (.inr rfl) ⟨fun _ => fin.mp g, fun _ => by decide⟩ e
    · exact body 0 x8.2 r2 f8' r4 (.inl rfl) ⟨fun h => absurd rfl h, fun h => absurd (fin.mpr h) g⟩ e
  obtain ⟨B1, B2⟩ := B
  -- told alike, counted alike
  have em := empty_i e14
  have s14 : x14.2 = x13.2 := em.2
  have s15 : x15.2 = x14.2 := noteSet_2 e15
  have s16 : x16.2 = x15.2 := noteSet_2 e16
  rw [s14] at e15
  rw [s15, s14] at e16
  rw [s16, s15, s14] at e17 e18
  have mb : ∀ l c, mayB 188 M13 l c = mayB 188 x12.2 l c := fun l c => by unfold mayB; rw [m13, si_ne (by omega)]
  have tb : ∀ l c : Nat, l < 2 → (bl (x13.2.1 151 (2 + l)) c = true ↔ (c < 36 ∧ mayB 188 M13 l c = true)) := by
    intro l c l2
    constructor
    · intro h
      have c36 := (K2 l c l2 h).1
      refine ⟨c36, ?_⟩
      rw [mb]
      exact decide_eq_true ((B2 _ (by omega)).mpr ((K3 _ (by omega)).mp ((TBq_lc l2 c36).mpr h)))
    · rintro ⟨c36, h⟩
      rw [mb] at h
      have h' : x12.2.1 188 (36 * l + c) ≠ 0 := of_decide_eq_true h
      exact (TBq_lc l2 c36).mp ((K3 _ (by omega)).mpr ((B2 _ (by omega)).mp h'))
  refine ⟨?_, fun _ => told_2 (k := 188) (R := M13) ⟨by omega, by omega, by omega⟩ tb e15 e16 (RR_0 e14 m13) f14⟩
  have h17 := bitc e17
  have h18 := bitc e18
  rw [cnt_64 (Q := mayB 188 M13 0) (fun c _ => tb 0 c (by omega))] at h17
  rw [cnt_64 (Q := mayB 188 M13 1) (fun c _ => tb 1 c (by omega))] at h18
  have l0 := cnt_le (mayB 188 M13 0) 36
  have l1 := cnt_le (mayB 188 M13 1) 36
  refine Int32.toInt_inj.mp ?_
  show (x17 + x18).toInt = x12.1.toInt
  rw [add_ti h17 h18 (by omega) (by omega), B1, show 72 = 36 + 36 from rfl, cnt_add, cnt_c (P := fun u => decide (x12.2.1 188 u ≠ 0)) (Q := mayB 188 M13 0) (fun c _ => by rw [mb]; unfold mayB; rw [show 36 * 0 + c = c by omega]), cnt_c (P := fun i => decide (x12.2.1 188 (36 + i) ≠ 0)) (Q := mayB 188 M13 1) (fun c _ => by rw [mb]; unfold mayB; rfl)]
  omega
end
section
/-! planks: the reference relaxes -/
def EPk (R : Mem) (v u ds da : Nat) : Prop := ∃ c d : Nat, c < 36 ∧ d < 36 ∧ v = 36 * 1 + c ∧ u = 36 * 1 + d ∧ onN R 1 c ∧ onN R 1 d ∧ da = 1 ∧ ((ds = 0 ∧ ∃ s : Int, 0 ≤ s ∧ s ≤ 3 ∧ goR R 163 ((36 * 1 + c : Nat) : Int) s ((36 * 1 + d : Nat) : Int)) ∨ (ds = 1 ∧ ∃ s : Int, 0 ≤ s ∧ s ≤ 3 ∧ bb (xw R) (xh R) c s = (d : Int) ∧ ¬ onN R 1 (bes (xw R) (xh R) c s)))
theorem EPk_ok {R : Mem} : Eok (EPk R) := by
  rintro v u ds da ⟨c, d, c36, d36, rfl, rfl, _, _, rfl, ⟨rfl, _⟩ | ⟨rfl, _⟩⟩
  · omega
  · omega
theorem EPk_on {R : Mem} : ∀ v u ds da, EPk R v u ds da → onP R (u : Int) := by
  rintro v u ds da ⟨c, d, c36, d36, rfl, rfl, _, on, _⟩
  exact (onP_lc (l := 1) (by omega) d36).mpr on
theorem bes_rng {R : Mem} (jR : J R) {c s : Int} : -1 ≤ bes (xw R) (xh R) c s ∧ bes (xw R) (xh R) c s ≤ 35 ∧ (bes (xw R) (xh R) c s ≠ -1 → 0 ≤ bes (xw R) (xh R) c s ∧ bes (xw R) (xh R) c s < xw R * xh R) := by
  have hw := aw jR
  have hh := ah jR
  have wh := awh jR
  unfold bes
  by_cases q : 0 ≤ c % xw R + (if s = 1 then 1 else if s = 3 then -1 else 0) ∧ c % xw R + (if s = 1 then 1 else if s = 3 then -1 else 0) ≤ xw R - 1 ∧ 0 ≤ c / xw R + (if s = 2 then 1 else if s = 0 then -1 else 0) ∧ c / xw R + (if s = 2 then 1 else if s = 0 then -1 else 0) ≤ xh R - 1
  · rw [if_pos q]
    generalize c % xw R + (if s = 1 then 1 else if s = 3 then -1 else 0) = u at q ⊢
    generalize c / xw R + (if s = 2 then 1 else if s = 0 then -1 else 0) = v at q ⊢
    have v5 : v ≤ xh R - 1 := q.2.2.2
    have mul : xw R * v ≤ xw R * (xh R - 1) := Int.mul_le_mul_of_nonneg_left v5 (by omega)
    have mul0 : 0 ≤ xw R * v := Int.mul_nonneg (by omega) (by omega)
    rw [Int.mul_sub, Int.mul_one] at mul
    refine ⟨by omega, by omega, fun _ => ⟨by omega, by omega⟩⟩
  · rw [if_neg q]
    exact ⟨by omega, by omega, fun h => absurd rfl h⟩
/-- a new plank may lie there -/
theorem canB_r {R : Mem} {c d s : Nat} {v w x : Int32} (jR : J R) (hv : v.toInt = (c : Int)) (hw : w.toInt = (d : Int)) (on : onN R 1 c) (s4 : s < 4) (hb : bb (xw R) (xh R) c s = (d : Int)) (e : f_Mod_canBridge v w R = some x) : (x = 0 ∨ x ≠ 0) ∧ (x ≠ 0 ↔ onN R 1 d ∧ ¬ onN R 1 (bes (xw R) (xh R) c s)) := by
  have hW := aw jR
  have hH := ah jR
  have bne : bb (xw R) (xh R) c s ≠ -1 := by omega
  have b1 : bes (xw R) (xh R) c s ≠ -1 := by
    intro h
    unfold bb at hb
    rw [if_pos h] at hb
    omega
  have b2 : bb (xw R) (xh R) c s = bes (xw R) (xh R) (bes (xw R) (xh R) c s) s := by unfold bb; rw [if_neg b1]
  have rd := (bes_rng jR (c := bes (xw R) (xh R) c s) (s := s)).2.2 (by rw [← b2]; exact bne)
  rw [← b2, hb] at rd
  have rm := (bes_rng jR (c := (c : Int)) (s := (s : Int))).2.2 b1
  have u := bb_i hW hH on.1 on.2.1 (s := s) (by omega) bne
  rw [hb] at u
  refine ⟨Classical.em _, ?_⟩
  unfold f_Mod_canBridge at e
  obtain ⟨x1, e1, e⟩ := bo e
  have h1 := betweenR jR (by omega) (by rw [hv]; exact on.2.1) (by omega) (by omega) e1
  rw [hv, hw, u.1] at h1
  have ym := om
  rw [if_neg (fun h => by have := q_eq h; omega)] at e
  obtain ⟨x2, e2, e⟩ := bo e
  have h2 := some_of (fs_isOf jR 1 v) e2
  rw [o1, hv] at h2
  rcases h2 with ⟨a, _⟩ | ⟨_, n⟩
  rotate_left
  · exact absurd on n
  rw [a, if_neg (by decide)] at e
  obtain ⟨x3, e3, e⟩ := bo e
  have h3 := some_of (fs_isOf jR 1 w) e3
  rw [o1, hw] at h3
  rcases h3 with ⟨a, on3⟩ | ⟨a, n⟩
  rotate_left
  · rw [a, if_pos rfl] at e
    obtain rfl := Option.some.inj e
    exact ⟨fun h => absurd rfl h, fun h => absurd h.1 n⟩
  rw [a, if_neg (by decide)] at e
  obtain ⟨x4, e4, e⟩ := bo e
  have h4 := some_of (fs_isOf jR 1 x1) e4
  rw [o1, h1] at h4
  rcases h4 with ⟨a, on4⟩ | ⟨a, n⟩
  · rw [a, if_neg (by decide)] at e
    obtain rfl := Option.some.inj e
    exact ⟨fun h => absurd rfl h, fun h => absurd on4 h.2⟩
  · rw [a, if_pos rfl] at e
    obtain rfl := Option.some.inj e
    exact ⟨fun _ => ⟨on3, n⟩, fun _ => by decide⟩
theorem plkS_r {R T : Mem} {f c : Nat} {v2 v4 more : Int32} {y : Int32 × Mem} (jR : J R) (kp : KP R 163 0) (hf : onP R (f : Int)) (h : RIw (EPk R) f R T) (hv4 : v4.toInt = (c : Int)) (c36 : c < 36) (hv : Vk 180 T (36 * 1 + c) < 1000000) (hm : more = 0 ∨ more = 1) (e : iter (lb_Mod_planks_102 v2 v4) FU (more, (0 : Int32), T) = some y) : RIw (EPk R) f R y.2 ∧ (y.1 = 0 ∨ y.1 = 1) ∧ (y.1 = 0 → y.2 = T ∧ more = 0 ∧ ∀ u ds da, EPk R (36 * 1 + c) u ds da → Vk 180 T u ≤ Vk 180 T (36 * 1 + c) + cw 1000 ds da) := by
  have k4 : (4 : Int32).toInt = 4 := rfl
  have wh := awh jR
  refine it_r (I := fun s : Int32 × Int32 × Mem => ∃ q : Nat, q ≤ 4 ∧ s.2.1.toInt = (q : Int) ∧ RIw (EPk R) f R s.2.2 ∧ (s.1 = 0 ∨ s.1 = 1) ∧ Vk 180 s.2.2 (36 * 1 + c) < 1000000 ∧ (s.1 = 0 → s.2.2 = T ∧ more = 0 ∧ ∀ (t : Int) (d : Nat), 0 ≤ t → t < (q : Int) → d < 36 → (goR R 163 ((36 * 1 + c : Nat) : Int) t ((36 * 1 + d : Nat) : Int) → Vk 180 T (36 * 1 + d) ≤ Vk 180 T (36 * 1 + c) + cw 1000 0 1) ∧ (bb (xw R) (xh R) c t = (d : Int) → onN R 1 d → ¬ onN R 1 (bes (xw R) (xh R) c t) → Vk 180 T (36 * 1 + d) ≤ Vk 180 T (36 * 1 + c) + cw 1000 1 1))) (Q := fun y : Int32 × Mem => RIw (EPk R) f R y.2 ∧ (y.1 = 0 ∨ y.1 = 1) ∧ (y.1 = 0 → y.2 = T ∧ more = 0 ∧ ∀ u ds da, EPk R (36 * 1 + c) u ds da → Vk 180 T u ≤ Vk 180 T (36 * 1 + c) + cw 1000 ds da)) ?_ e ⟨0, by omega, rfl, h, hm, hv, fun h => ⟨rfl, h, fun t d a b => by omega⟩⟩
  rintro ⟨mo', i, S⟩ r ⟨q, q4, hq, hS, hmo, hvS, hz⟩ e
  dsimp only at hq hS hmo hvS hz
  unfold lb_Mod_planks_102 at e
  dsimp only at e
  rcases io e with ⟨g, e⟩ | ⟨g, e⟩
  · have := q_le g
    obtain rfl := Option.some.inj e
    refine ⟨hS, hmo, fun h => ?_⟩
    obtain ⟨a, b, cc⟩ := hz h
    refine ⟨a, b, ?_⟩
    rintro u ds da ⟨c', d, c36', d36, hc, rfl, on1, on2, rfl, ⟨rfl, s, s0, s3, hg⟩ | ⟨rfl, s, s0, s3, hb, hn⟩⟩
    · have : c' = c := by omega
      subst this
      exact (cc s d s0 (by omega) d36).1 hg
    · have : c' = c := by omega
      subst this
      exact (cc s d s0 (by omega) d36).2 hb on2 hn
  have g1 := q_ng g
  have i1 : (i + (1 : Int32)).toInt = ((q + 1 : Nat) : Int) := add_ti hq o1 (by omega) (by omega)
  obtain ⟨x11, e11, e⟩ := bo e
  obtain ⟨x12, e12, e⟩ := bo e
  obtain ⟨x13, e13, e⟩ := bo e
  obtain ⟨_, e⟩ := io_n e
  obtain ⟨x14, e14, e⟩ := bo e
  obtain ⟨x15, e15, e⟩ := bo e
  have p11 := place_c (l := 1) (c := c) rfl hv4 (by omega) c36 e11
  have p13 := place_c (l := 1) (c := c) rfl hv4 (by omega) c36 e13
  have jS := hS.1
  have onv : onP R ((36 * 1 + c : Nat) : Int) := by
    obtain ⟨n, s, a, w, _⟩ := hS.2.2.2 (36 * 1 + c) (by omega) hvS
    exact wk_on EPk_on hf w
  have onc : onN R 1 c := (onP_lc (l := 1) (by omega) c36).mp onv
  obtain ⟨gg, gl, gh⟩ := some_of (fs_go jS 163 (.inl rfl) x11 i (by omega)) e12
  rw [p11, hq, goR_c (RIw_map hS) (fun i => hS.2.1 163 i (by omega))] at gg
  rw [q_nat p13] at e14
  have bv := Jr_180 jS (36 * 1 + c)
  -- the step
  have A : RIw (EPk R) f R x14.2 ∧ (x14.1 = 0 ∨ x14.1 = 1) ∧ Vk 180 x14.2 (36 * 1 + c) < 1000000 ∧ (x14.1 = 0 → x14.2 = S ∧ ∀ d : Nat, d < 36 → goR R 163 ((36 * 1 + c : Nat) : Int) q ((36 * 1 + d : Nat) : Int) → Vk 180 S (36 * 1 + d) ≤ Vk 180 S (36 * 1 + c) + cw 1000 0 1) := by
    by_cases gm : x12.toInt = -1
    · rcases lowB e14 with ⟨_, rfl⟩ | ⟨g, _⟩
      · exact ⟨hS, .inl rfl, hvS, fun _ => ⟨rfl, fun d _ hg => by have := goR_fun gg hg; omega⟩⟩
      · exact absurd gm g
    · obtain ⟨d, d36, hd⟩ := go_lev jR (by omega) (s := (q : Int)) ⟨by omega, by omega⟩ gg gm
      have hu : x12.toInt = ((36 * 1 + d : Nat) : Int) := by omega
      rw [hu] at gg
      have onu := (go_sym jR kp onv (s := (q : Int)) ⟨by omega, by omega⟩ gg (by omega)).1
      have edge : EPk R (36 * 1 + c) (36 * 1 + d) 0 1 := ⟨c, d, c36, d36, rfl, rfl, onc, (onP_lc (l := 1) (by omega) d36).mp onu, rfl, .inl ⟨rfl, q, by omega, by omega, gg⟩⟩
      have hval : ((S.1 180 (36 * 1 + c)) + (1 : Int32)).toInt = Vk 180 S (36 * 1 + c) + cw 1000 0 1 := by
        rw [cw_z, add_ti rfl o1 (by omega) (by omega)]; rfl
      obtain ⟨r1, r2, r3, r4, r5⟩ := relax_r hS (by omega) hvS edge hu hval e14
      refine ⟨r1, r2, by have := r5 (36 * 1 + c); omega, fun h => ?_⟩
      have eS := r4 h
      refine ⟨eS, fun d' _ hg => ?_⟩
      have := goR_fun gg hg
      have : d' = d := by omega
      subst this
      rw [eS, hval] at r3
      exact r3
  obtain ⟨a1, a2, a3, a4⟩ := A
  obtain ⟨oa, ob⟩ := or01w hmo a2
  have mE := RIw_map a1
  have w1 : xw x14.2 = xw R := congrArg Int32.toInt mE.1
  have w2 : xh x14.2 = xh R := congrArg Int32.toInt mE.2.1
  have h15 := some_of (fs_beside a1.1 v4 i (by omega)) e15
  rw [w1, w2, hv4, hq] at h15
  have j14 := a1.1
  have b14 := Jr_180 j14 (36 * 1 + c)
  -- behind the step: a plank
  have body : ∀ w0 : Int32, (w0.toInt = bb (xw R) (xh R) c q) → j_Mod_planks_172_102 v2 (mo' ||| x14.1) v4 i w0 x14.2 = some r → Sum.elim (fun s : Int32 × Int32 × Mem => ∃ q : Nat, q ≤ 4 ∧ s.2.1.toInt = (q : Int) ∧ RIw (EPk R) f R s.2.2 ∧ (s.1 = 0 ∨ s.1 = 1) ∧ Vk 180 s.2.2 (36 * 1 + c) < 1000000 ∧ (s.1 = 0 → s.2.2 = T ∧ more = 0 ∧ ∀ (t : Int) (d : Nat), 0 ≤ t → t < (q : Int) → d < 36 → (goR R 163 ((36 * 1 + c : Nat) : Int) t ((36 * 1 + d : Nat) : Int) → Vk 180 T (36 * 1 + d) ≤ Vk 180 T (36 * 1 + c) + cw 1000 0 1) ∧ (bb (xw R) (xh R) c t = (d : Int) → onN R 1 d → ¬ onN R 1 (bes (xw R) (xh R) c t) → Vk 180 T (36 * 1 + d) ≤ Vk 180 T (36 * 1 + c) + cw 1000 1 1))) (fun y : Int32 × Mem => RIw (EPk R) f R y.2 ∧ (y.1 = 0 ∨ y.1 = 1) ∧ (y.1 = 0 → y.2 = T ∧ more = 0 ∧ ∀ u ds da, EPk R (36 * 1 + c) u ds da → Vk 180 T u ≤ Vk 180 T (36 * 1 + c) + cw 1000 ds da)) r := by
    intro w0 hw0 e
    have keep : (∀ d : Nat, bb (xw R) (xh R) c q = (d : Int) → onN R 1 d → ¬ onN R 1 (bes (xw R) (xh R) c q) → False) → (mo' ||| x14.1) = 0 → x14.2 = T ∧ more = 0 ∧ ∀ (t : Int) (d : Nat), 0 ≤ t → t < ((q + 1 : Nat) : Int) → d < 36 → (goR R 163 ((36 * 1 + c : Nat) : Int) t ((36 * 1 + d : Nat) : Int) → Vk 180 T (36 * 1 + d) ≤ Vk 180 T (36 * 1 + c) + cw 1000 0 1) ∧ (bb (xw R) (xh R) c t = (d : Int) → onN R 1 d → ¬ onN R 1 (bes (xw R) (xh R) c t) → Vk 180 T (36 * 1 + d) ≤ Vk 180 T (36 * 1 + c) + cw 1000 1 1) := by
      intro no h
      obtain ⟨h1, h2⟩ := ob h
      obtain ⟨a, b, cc⟩ := hz h1
      obtain ⟨eS, hs⟩ := a4 h2
      refine ⟨by rw [eS, a], b, fun t d t0 t1 d36 => ?_⟩
      by_cases k : t = (q : Int)
      · subst k
        rw [a] at hs
        exact ⟨fun hg => hs d d36 hg, fun hb on2 hn => (no d hb on2 hn).elim⟩
      · exact cc t d t0 (by omega) d36
    unfold j_Mod_planks_172_102 at e
    have ym := om
    rcases io e with ⟨g, e⟩ | ⟨g, e⟩
    · have gm := q_eq g
      obtain rfl := Option.some.inj e
      exact ⟨q + 1, by omega, i1, a1, oa, a3, keep (fun d hb _ _ => by omega)⟩
    have gm := q_ne g
    obtain ⟨x17, e17, e⟩ := bo e
    have bne : bb (xw R) (xh R) c q ≠ -1 := by omega
    have b1 : bes (xw R) (xh R) c q ≠ -1 := by
      intro h
      apply bne
      unfold bb
      rw [if_pos h]
    have b2 : bb (xw R) (xh R) c q = bes (xw R) (xh R) (bes (xw R) (xh R) c q) q := by unfold bb; rw [if_neg b1]
    have rd := (bes_rng jR (c := bes (xw R) (xh R) c q) (s := q)).2.2 (by rw [← b2]; exact bne)
    rw [← b2] at rd
    obtain ⟨d, hd⟩ : ∃ d : Nat, w0.toInt = (d : Int) := ⟨w0.toInt.toNat, by omega⟩
    have onc' : onN x14.2 1 c := (onN_c mE).mpr onc
    have cb := (canB_r j14 hv4 hd onc' (show q < 4 by omega) (by rw [w1, w2]; omega) e17).2
    rw [w1, w2, onN_c mE, onN_c mE] at cb
    rcases io e with ⟨g17, e⟩ | ⟨g17, e⟩
    · obtain rfl := Option.some.inj e
      refine ⟨q + 1, by omega, i1, a1, oa, a3, keep (fun d' hb on2 hn => ?_)⟩
      have : d' = d := by omega
      subst this
      exact cb.mpr ⟨on2, hn⟩ g17
    obtain ⟨on2, hn⟩ := cb.mp g17
    obtain ⟨x18, e18, e⟩ := bo e
    obtain ⟨x19, e19, e⟩ := bo e
    obtain ⟨_, e⟩ := io_n e
    obtain ⟨x20, e20, e⟩ := bo e
    obtain rfl := Option.some.inj e
    have d36 : d < 36 := by omega
    have p18 := place_c (l := 1) (c := d) rfl hd (by omega) d36 e18
    have p19 := place_c (l := 1) (c := c) rfl hv4 (by omega) c36 e19
    rw [q_nat p19] at e20
    have k1001 : (1001 : Int32).toInt = 1001 := rfl
    have hval : ((x14.2.1 180 (36 * 1 + c)) + (1001 : Int32)).toInt = Vk 180 x14.2 (36 * 1 + c) + cw 1000 1 1 := by
      rw [cw_1, add_ti rfl k1001 (by omega) (by omega)]; rfl
    have edge : EPk R (36 * 1 + c) (36 * 1 + d) 1 1 := ⟨c, d, c36, d36, rfl, rfl, onc, on2, rfl, .inr ⟨rfl, q, by omega, by omega, by omega, hn⟩⟩
    obtain ⟨r1, r2, r3, r4, r5⟩ := relax_r a1 (by omega) a3 edge p18 hval e20
    obtain ⟨pa, pb⟩ := or01w oa r2
    refine ⟨q + 1, by omega, i1, r1, pa, by have := r5 (36 * 1 + c); dsimp only; omega, fun h => ?_⟩
    obtain ⟨h0, h3⟩ := pb h
    obtain ⟨h1, h2⟩ := ob h0
    obtain ⟨a, b, cc⟩ := hz h1
    obtain ⟨eS, hs⟩ := a4 h2
    have e20' := r4 h3
    refine ⟨by show x20.2 = T; rw [e20', eS, a], b, fun t d' t0 t1 d36' => ?_⟩
    by_cases k : t = (q : Int)
    · subst k
      rw [a] at hs
      refine ⟨fun hg => hs d' d36' hg, fun hb _ _ => ?_⟩
      have : d' = d := by omega
      subst this
      rw [e20', hval, eS, a] at r3
      exact r3
    · exact cc t d' t0 (by omega) d36'
  have ym := om
  rcases io e with ⟨g, e⟩ | ⟨g, e⟩
  · have gm := q_eq g
    refine body (-1) ?_ e
    unfold bb
    rw [if_pos (by omega)]; exact om
  · have gm := q_ne g
    obtain ⟨x16, e16, e⟩ := bo e
    have rr := bes_rng jR (c := (c : Int)) (s := (q : Int))
    have h16 := some_of (fs_beside a1.1 x15 i (by omega)) e16
    rw [w1, w2, h15, hq] at h16
    refine body x16 ?_ e
    unfold bb
    rw [if_neg (by omega)]; exact h16
theorem plkR_r {R T : Mem} {f : Nat} {v2 : Int32} {y : Int32 × Mem} (jR : J R) (kp : KP R 163 0) (hf : onP R (f : Int)) (h : RIw (EPk R) f R T) (e : iter (lb_Mod_planks_70 v2) FU ((0 : Int32), (0 : Int32), T) = some y) : RIw (EPk R) f R y.2 ∧ (y.1 = 0 → CLO 1000 (EPk R) (Vk 180 y.2)) := by
  have km : (1000000 : Int32).toInt = 1000000 := rfl
  have wh := awh jR
  refine it_r (I := fun s : Int32 × Int32 × Mem => ∃ k : Nat, s.2.1.toInt = (k : Int) ∧ RIw (EPk R) f R s.2.2 ∧ (s.1 = 0 ∨ s.1 = 1) ∧ (s.1 = 0 → s.2.2 = T ∧ ∀ c u ds da, c < k → EPk R (36 * 1 + c) u ds da → Vk 180 T u ≤ Vk 180 T (36 * 1 + c) + cw 1000 ds da)) (Q := fun y : Int32 × Mem => RIw (EPk R) f R y.2 ∧ (y.1 = 0 → CLO 1000 (EPk R) (Vk 180 y.2))) ?_ e ⟨0, rfl, h, .inl rfl, fun _ => ⟨rfl, fun c u ds da h => by omega⟩⟩
  rintro ⟨mo', i, S⟩ r ⟨k, hk, hS, hmo, hz⟩ e
  dsimp only at hk hS hmo hz
  have jS := hS.1
  unfold lb_Mod_planks_70 at e
  dsimp only at e
  obtain ⟨x9, e9, e⟩ := bo e
  have h9 : x9.toInt = xw R * xh R := by
    unfold f_Mod_cells at e9
    obtain rfl := Option.some.inj e9
    rw [hS.2.1 162 2 (by omega), hS.2.1 162 3 (by omega)]
    exact wh_ti jR
  rcases io e with ⟨g, e⟩ | ⟨g, e⟩
  · have gl := q_le g
    obtain rfl := Option.some.inj e
    refine ⟨hS, fun h => ?_⟩
    obtain ⟨a, b⟩ := hz h
    dsimp only
    rw [a]
    intro v u ds da hE
    have hE' := hE
    obtain ⟨c, d, c36, d36, rfl, rfl, on1, _⟩ := hE
    exact b c _ ds da (by have := on1.2.1; omega) hE'
  have gl := q_ng g
  have i1 : (i + (1 : Int32)).toInt = ((k + 1 : Nat) : Int) := add_ti hk o1 (by omega) (by omega)
  obtain ⟨x10, e10, e⟩ := bo e
  obtain ⟨_, e⟩ := io_n e
  have k36 : k < 36 := by omega
  have p10 := place_c (l := 1) (c := k) rfl hk (by omega) k36 e10
  rw [q_nat p10] at e
  rcases io e with ⟨g, e⟩ | ⟨g, e⟩
  · have gg := q_lt g
    obtain ⟨x25, e25, e⟩ := bo e
    obtain rfl := Option.some.inj e
    have hv : Vk 180 S (36 * 1 + k) < 1000000 := by
      have : Vk 180 S (36 * 1 + k) = (S.1 180 (36 * 1 + k)).toInt := rfl
      omega
    obtain ⟨s1, s2, s3⟩ := plkS_r jR kp hf hS hk k36 hv hmo e25
    refine ⟨k + 1, i1, s1, s2, fun h => ?_⟩
    obtain ⟨a, b, cc⟩ := s3 h
    obtain ⟨a', d⟩ := hz b
    refine ⟨by show x25.2 = T; rw [a, a'], fun c u ds da hc hE => ?_⟩
    by_cases w : c = k
    · subst w
      rw [← a']
      exact cc u ds da hE
    · exact d c u ds da (by omega) hE
  · have gg := q_nl g
    obtain rfl := Option.some.inj e
    refine ⟨k + 1, i1, hS, hmo, fun h => ?_⟩
    obtain ⟨a, b⟩ := hz h
    refine ⟨a, fun c u ds da hc hE => ?_⟩
    by_cases w : c = k
    · subst w
      have bu := Jr_180 jS u
      have : 0 ≤ cw 1000 ds da := by unfold cw; omega
      have e1 : Vk 180 S u = (S.1 180 u).toInt := rfl
      have e2 : Vk 180 S (36 * 1 + c) = (S.1 180 (36 * 1 + c)).toInt := rfl
      rw [← a]
      omega
    · exact b c u ds da (by omega) hE
theorem plkF_r {a b : Int32} {N x : Mem} (jN : J N) (e : iter (lb_Mod_planks_27 a b) FU ((0 : Int32), N) = some x) : J x ∧ (∀ kx i, kx ≠ 180 → x.1 kx i = N.1 kx i) ∧ ∀ c, c < 72 → x.1 180 c = 1000000 := by
  have k72 : (72 : Int32).toInt = 72 := rfl
  refine it_r (I := fun s : Int32 × Mem => ∃ q : Nat, q ≤ 72 ∧ s.1.toInt = (q : Int) ∧ J s.2 ∧ (∀ kx i, kx ≠ 180 → s.2.1 kx i = N.1 kx i) ∧ ∀ c, c < q → s.2.1 180 c = 1000000) (Q := fun x : Mem => J x ∧ (∀ kx i, kx ≠ 180 → x.1 kx i = N.1 kx i) ∧ ∀ c, c < 72 → x.1 180 c = 1000000) ?_ e ⟨0, by omega, rfl, jN, fun _ _ _ => rfl, fun c h => by omega⟩
  rintro ⟨i, T⟩ r ⟨q, q72, hq, jT, hf, hd⟩ e
  dsimp only at hq jT hf hd
  unfold lb_Mod_planks_27 at e
  dsimp only at e
  rcases io e with ⟨g, e⟩ | ⟨g, e⟩
  · have := q_le g
    obtain rfl := Option.some.inj e
    exact ⟨jT, hf, fun c hc => hd c (by omega)⟩
  have g1 := q_ng g
  have i1 : (i + (1 : Int32)).toInt = ((q + 1 : Nat) : Int) := add_ti hq o1 (by omega) (by omega)
  obtain ⟨_, e⟩ := io_n e
  obtain ⟨M3, m3, e⟩ := mo e
  obtain rfl := Option.some.inj e
  rw [q_nat hq] at m3
  refine ⟨q + 1, by omega, i1, by rw [m3]; exact Jw_180 jT q _ (by decide) (by decide), fun kx j h => by rw [m3, si_ne (by omega)]; exact hf kx j h, fun c hc => ?_⟩
  rw [m3]
  by_cases w : c = q
  · subst w; exact si_eq
  · rw [si_ne (by omega)]; exact hd c (by omega)
end
section
/-! planks: the class relaxes -/
def EPc (R : Mem) (c d ds da : Nat) : Prop := EPk R (36 * 1 + c) (36 * 1 + d) ds da
theorem EPc_ok {R : Mem} : Eok (EPc R) := by
  rintro c d ds da h
  have h' := EPk_ok _ _ _ _ h
  obtain ⟨c', d', c36, d36, hc, hd, _⟩ := h
  omega
theorem EPc_36 {R : Mem} {c d ds da : Nat} (h : EPc R c d ds da) : c < 36 ∧ d < 36 ∧ onN R 1 c ∧ onN R 1 d := by
  obtain ⟨c', d', c36, d36, hc, hd, o1, o2, _⟩ := h
  have : c' = c := by omega
  have : d' = d := by omega
  subst_vars
  exact ⟨c36, d36, o1, o2⟩
theorem wkP_c {R : Mem} {f n u s a : Nat} (h : wk (EPk R) (36 * 1 + f) n u s a) : ∃ c, u = 36 * 1 + c ∧ wk (EPc R) f n c s a := by
  induction n generalizing u s a with
  | zero =>
    obtain ⟨rfl, rfl, rfl⟩ := h
    exact ⟨f, rfl, rfl, rfl, rfl⟩
  | succ n ih =>
    obtain ⟨v, s', a', ds, da, h, e, rfl, rfl⟩ := h
    obtain ⟨c, rfl, hc⟩ := ih h
    obtain ⟨c', d', c36, d36, h1, rfl, o1, o2, r⟩ := e
    exact ⟨d', rfl, c, s', a', ds, da, hc, ⟨c', d', c36, d36, h1, rfl, o1, o2, r⟩, rfl, rfl⟩
theorem wkC_on {R : Mem} {f n c s a : Nat} (hf : onN R 1 f) (h : wk (EPc R) f n c s a) : onN R 1 c := by
  cases n with
  | zero => obtain ⟨rfl, _⟩ := h; exact hf
  | succ n => obtain ⟨v, s', a', ds, da, _, e, _⟩ := h; exact (EPc_36 e).2.2.2
theorem cross_c {X R N : Mem} {n f c : Nat} {v3 : Int32} {y : Int32 × Mem} (za : ZA X R n) (hf : onN R 1 f) (h : CI (EPc R) f X N) (hc : v3.toInt = (c : Int)) (c36 : c < 36) (lt : Vk 158 N c < 1000000) (e : f_Ways_cross 32 v3 N = some y) : CI (EPc R) f X y.2 ∧ (y.1 = 0 ∨ y.1 = 1) ∧ (∀ w, Vk 158 y.2 w ≤ Vk 158 N w) ∧ (y.1 = 0 → y.2 = N) ∧ (∀ d ds da, EPc R c d ds da → Vk 158 y.2 d ≤ Vk 158 N c + cw 100 ds da) := by
  have k4 : (4 : Int32).toInt = 4 := rfl
  have jR := za.1.2.1
  have wh := awh jR
  obtain ⟨nw, sw, aw, hw, _⟩ := h.2.2.2.1 c (by omega) lt
  have onc : onN R 1 c := wkC_on hf hw
  unfold f_Ways_cross at e
  obtain ⟨_, e⟩ := io_n e
  obtain ⟨x10, e10, e⟩ := bo e
  obtain ⟨_, e⟩ := io_n e
  obtain rfl := Option.some.inj e
  refine it_r (I := fun s : Int32 × Int32 × Mem => ∃ q : Nat, q ≤ 4 ∧ s.2.1.toInt = (q : Int) ∧ CI (EPc R) f X s.2.2 ∧ (s.1 = 0 ∨ s.1 = 1) ∧ (∀ w, Vk 158 s.2.2 w ≤ Vk 158 N w) ∧ (s.1 = 0 → s.2.2 = N) ∧ (∀ (t : Int) (d : Nat), 0 ≤ t → t < (q : Int) → d < 36 → (goR R 163 ((36 * 1 + c : Nat) : Int) t ((36 * 1 + d : Nat) : Int) → Vk 158 s.2.2 d ≤ Vk 158 N c + cw 100 0 1) ∧ (bb (xw R) (xh R) c t = (d : Int) → onN R 1 d → ¬ onN R 1 (bes (xw R) (xh R) c t) → Vk 158 s.2.2 d ≤ Vk 158 N c + cw 100 1 1))) (Q := fun y : Int32 × Mem => CI (EPc R) f X y.2 ∧ (y.1 = 0 ∨ y.1 = 1) ∧ (∀ w, Vk 158 y.2 w ≤ Vk 158 N w) ∧ (y.1 = 0 → y.2 = N) ∧ (∀ d ds da, EPc R c d ds da → Vk 158 y.2 d ≤ Vk 158 N c + cw 100 ds da)) ?_ e10 ⟨0, by omega, rfl, h, .inl rfl, fun w => Int.le_refl _, fun _ => rfl, fun t d a b => by omega⟩
  rintro ⟨ch, i, S⟩ r ⟨q, q4, hq, hS, hch, hm, hz, hst⟩ e
  dsimp only at hq hS hch hm hz hst
  unfold lb_Ways_cross_6 at e
  dsimp only at e
  rcases io e with ⟨g, e⟩ | ⟨g, e⟩
  · have := q_le g
    obtain rfl := Option.some.inj e
    refine ⟨hS, hch, hm, hz, ?_⟩
    rintro d ds da ⟨c', d', c36', d36, h1, h2, o1, o2, rfl, ⟨rfl, s, s0, s3, hg⟩ | ⟨rfl, s, s0, s3, hb, hn⟩⟩
    · have e1 : c' = c := by omega
      have e2 : d' = d := by omega
      subst e1 e2
      exact (hst s d' s0 (by omega) d36).1 hg
    · have e1 : c' = c := by omega
      have e2 : d' = d := by omega
      subst e1 e2
      exact (hst s d' s0 (by omega) d36).2 hb o2 hn
  have g1 := q_ng g
  have i1 : (i + (1 : Int32)).toInt = ((q + 1 : Nat) : Int) := add_ti hq o1 (by omega) (by omega)
  obtain ⟨x1, e1, e⟩ := bo e
  obtain ⟨x2, e2, e⟩ := bo e
  obtain ⟨x3, e3, e⟩ := bo e
  have zaS := CI_ZA za hS
  have zgS := zaS.1.2.2.1.1
  have ym := om
  -- the step
  have hpv : (Int32.ofNat (36 * 1 + c)).toInt = ((36 * 1 + c : Nat) : Int) := ofn_ti (by omega)
  have onv : onP R ((36 * 1 + c : Nat) : Int) := (onP_lc (l := 1) (by omega) c36).mpr onc
  obtain ⟨y9, e9, g9, _⟩ := fs_go jR 163 (.inl rfl) (Int32.ofNat (36 * 1 + c)) i (by rw [hpv]; omega)
  have T := tow_2 jR (.inl rfl) zaS.1.2.2.2.2.1 zaS.1.2.2.2.2.2 (l := 1) (lv := 1) rfl hc hq hpv (by omega) c36 (by omega) (by rw [hpv]; exact onv) e1 e9
  rw [hpv, hq] at g9
  -- beyond
  have b2 : x2.toInt = bes (xw R) (xh R) c q := by
    have := (besC zgS jR e2).1 (by omega) (by rw [hc]; exact onc.2.1) (by omega) (by omega)
    rw [this, hc, hq]
  have rr := bes_rng jR (c := (c : Int)) (s := (q : Int))
  have b3 : x3.toInt = bb (xw R) (xh R) c q := by
    unfold bb
    by_cases k : bes (xw R) (xh R) c q = -1
    · rw [if_pos k]
      exact (besC zgS jR e3).2 (by omega)
    · rw [if_neg k]
      have w := rr.2.2 k
      have := (besC zgS jR e3).1 (by omega) (by omega) (by omega) (by omega)
      rw [this, b2, hq]
  have mN := hm c
  have bS := hS.2.2.2.2 c (by omega)
  obtain ⟨nS, sS, aS, hwS, ewS⟩ := hS.2.2.2.1 c (by omega) (by omega)
  have eV : Vk 158 S c = (S.1 158 c).toInt := rfl
  -- no step: nothing that go leads to
  rcases io e with ⟨g, e⟩ | ⟨g, e⟩
  · have gm := q_eq g
    have y1 : y9.toInt = -1 := by
      rcases T with ⟨_, h⟩ | ⟨h, _⟩
      · exact h
      · omega
    have nogo : ∀ d : Nat, ¬ goR R 163 ((36 * 1 + c : Nat) : Int) q ((36 * 1 + d : Nat) : Int) := fun d hg => by
      have := goR_fun g9 hg
      omega
    obtain ⟨x4, e4, e⟩ := bo e
    have h4 := holdsC zgS jR e4
    rw [o1, b3] at h4
    rcases h4 with ⟨hx, _, _, on⟩ | ⟨hx, no⟩
    rotate_left
    · rw [hx, if_pos rfl] at e
      obtain rfl := Option.some.inj e
      refine ⟨q + 1, by omega, i1, hS, hch, hm, hz, fun t d t0 t1 d36 => ?_⟩
      by_cases k : t = (q : Int)
      · subst k
        refine ⟨fun hg => absurd hg (nogo d), fun hb on2 _ => absurd ⟨by omega, by omega, ?_⟩ no⟩
        rw [hb]; exact on2
      · exact hst t d t0 (by omega) d36
    rw [hx, if_neg (by decide)] at e
    obtain ⟨_, e⟩ := io_n e
    obtain ⟨x5, e5, e⟩ := bo e
    obtain rfl := Option.some.inj e
    have rb := on.2.1
    have rb0 := on.1
    obtain ⟨d, hd⟩ : ∃ d : Nat, x3.toInt = (d : Int) := ⟨x3.toInt.toNat, by omega⟩
    have d36 : d < 36 := by omega
    have hbd : bb (xw R) (xh R) c q = (d : Int) := by omega
    rw [hbd] at on
    -- no step that way: the middle is no roof
    have nm : ¬ onN R 1 (bes (xw R) (xh R) c q) := by
      intro om'
      have bne : bes (xw R) (xh R) c q ≠ -1 := by
        intro h
        rw [h] at om'
        have := om'.1
        omega
      have gg : goR R 163 ((36 * 1 + c : Nat) : Int) q (36 * 1 + bes (xw R) (xh R) c q) := by
        refine .inr ⟨by omega, .inr (.inl ⟨?_, ?_, ?_⟩)⟩
        · rw [show ((36 * 1 + c : Nat) : Int) % 36 = (c : Int) by omega]; exact bne
        · rw [show ((36 * 1 + c : Nat) : Int) % 36 = (c : Int) by omega, show ((36 * 1 + c : Nat) : Int) / 36 = 1 by omega]; exact om'
        · rw [show ((36 * 1 + c : Nat) : Int) % 36 = (c : Int) by omega, show ((36 * 1 + c : Nat) : Int) / 36 = 1 by omega]
      have := goR_fun g9 gg
      omega
    have k100 : (100 : Int32).toInt = 100 := rfl
    have hval : (((S.1 158 v3.toNatClampNeg) + (100 : Int32)) + (1 : Int32)).toInt = Vk 158 S c + cw 100 1 1 := by
      rw [q_nat hc, cw_1, add_ti (add_ti rfl k100 (by omega) (by omega)) o1 (by omega) (by omega)]; omega
    have edge : EPc R c d 1 1 := ⟨c, d, c36, d36, rfl, rfl, onc, on, rfl, .inr ⟨rfl, q, by omega, by omega, hbd, nm⟩⟩
    obtain ⟨r1, r2, r3, r4, r5⟩ := relax_c hS (by omega) ⟨nS, sS, aS, hwS, ewS⟩ edge hd hval e5
    obtain ⟨oa, ob⟩ := or01w hch r2
    refine ⟨q + 1, by omega, i1, r1, oa, fun w => Int.le_trans (r5 w) (hm w), fun h => ?_, fun t d' t0 t1 d36' => ?_⟩
    · obtain ⟨h1, h2⟩ := ob h
      show x5.2 = N
      rw [r4 h2, hz h1]
    · by_cases k : t = (q : Int)
      · subst k
        refine ⟨fun hg => absurd hg (nogo d'), fun hb _ _ => ?_⟩
        have : d' = d := by omega
        subst this
        show Vk 158 x5.2 d' ≤ _
        omega
      · have a := hst t d' t0 (by omega) d36'
        have b := r5 d'
        exact ⟨fun hg => Int.le_trans b (a.1 hg), fun h1 h2 h3 => Int.le_trans b (a.2 h1 h2 h3)⟩
  have gm := q_ne g
  rcases T with ⟨h2, _⟩ | ⟨t0', t36, hy, ony⟩
  · omega
  obtain ⟨_, e⟩ := io_n e
  obtain ⟨x7, e7, e⟩ := bo e
  obtain rfl := Option.some.inj e
  obtain ⟨d, hd⟩ : ∃ d : Nat, x1.toInt = (d : Int) := ⟨x1.toInt.toNat, by omega⟩
  have d36 : d < 36 := by omega
  have hu : y9.toInt = ((36 * 1 + d : Nat) : Int) := by omega
  rw [hu] at g9 ony
  have hval : ((S.1 158 v3.toNatClampNeg) + (1 : Int32)).toInt = Vk 158 S c + cw 100 0 1 := by
    rw [q_nat hc, cw_z, add_ti rfl o1 (by omega) (by omega)]; rfl
  have edge : EPc R c d 0 1 := ⟨c, d, c36, d36, rfl, rfl, onc, (onP_lc (l := 1) (by omega) d36).mp ony, rfl, .inl ⟨rfl, q, by omega, by omega, g9⟩⟩
  obtain ⟨r1, r2, r3, r4, r5⟩ := relax_c hS (by omega) ⟨nS, sS, aS, hwS, ewS⟩ edge hd hval e7
  obtain ⟨oa, ob⟩ := or01w hch r2
  refine ⟨q + 1, by omega, i1, r1, oa, fun w => Int.le_trans (r5 w) (hm w), fun h => ?_, fun t d' t0 t1 d36' => ?_⟩
  · obtain ⟨h1, h2⟩ := ob h
    show x7.2 = N
    rw [r4 h2, hz h1]
  · by_cases k : t = (q : Int)
    · subst k
      have c0 : cw 100 0 1 ≤ cw 100 1 1 := by unfold cw; omega
      refine ⟨fun hg => ?_, fun hb on2 hn => ?_⟩
      · have := goR_fun g9 hg
        have : d' = d := by omega
        subst this
        show Vk 158 x7.2 d' ≤ _
        omega
      · -- the plank that lies there leads to the same cell
        have b1 : bes (xw R) (xh R) c q ≠ -1 := by
          intro h
          unfold bb at hb
          rw [if_pos h] at hb
          omega
        have b2' : bb (xw R) (xh R) c q = bes (xw R) (xh R) (bes (xw R) (xh R) c q) q := by unfold bb; rw [if_neg b1]
        have same : d' = d := by
          rcases g9 with ⟨h, _⟩ | ⟨_, gd⟩
          · omega
          rw [show ((36 * 1 + c : Nat) : Int) % 36 = (c : Int) by omega, show ((36 * 1 + c : Nat) : Int) / 36 = 1 by omega] at gd
          rcases gd with ⟨h, _⟩ | ⟨_, h, _⟩ | ⟨_, _, _, h⟩ | ⟨_, _, _, _, _, h⟩ | ⟨_, _, _, _, h⟩
          · omega
          · exact absurd h hn
          · omega
          · omega
          · omega
        subst same
        show Vk 158 x7.2 d' ≤ _
        omega
    · have a := hst t d' t0 (by omega) d36'
      have b := r5 d'
      exact ⟨fun hg => Int.le_trans b (a.1 hg), fun h1 h2 h3 => Int.le_trans b (a.2 h1 h2 h3)⟩
theorem plkR_c {X R N : Mem} {n f : Nat} {v4 v6 : Int32} {y : Int32 × Mem} (za : ZA X R n) (hf : onN R 1 f) (h : CI (EPc R) f X N) (e : iter (lb_Ways_bridged_29 32 v4 v6) FU ((0 : Int32), (0 : Int32), N) = some y) : CI (EPc R) f X y.2 ∧ (∀ w, Vk 158 y.2 w ≤ Vk 158 N w) ∧ (y.1 = 0 → y.2 = N) ∧ (∀ v u ds da, EPc R v u ds da → Vk 158 N v < 1000000 → Vk 158 y.2 u ≤ Vk 158 N v + cw 100 ds da) := by
  have k36 : (36 : Int32).toInt = 36 := rfl
  have km : (1000000 : Int32).toInt = 1000000 := rfl
  refine it_r (I := fun s : Int32 × Int32 × Mem => ∃ k : Nat, k ≤ 36 ∧ s.2.1.toInt = (k : Int) ∧ CI (EPc R) f X s.2.2 ∧ (s.1 = 0 ∨ s.1 = 1) ∧ (∀ w, Vk 158 s.2.2 w ≤ Vk 158 N w) ∧ (s.1 = 0 → s.2.2 = N) ∧ (∀ c u ds da, c < k → EPc R c u ds da → Vk 158 N c < 1000000 → Vk 158 s.2.2 u ≤ Vk 158 N c + cw 100 ds da)) (Q := fun y : Int32 × Mem => CI (EPc R) f X y.2 ∧ (∀ w, Vk 158 y.2 w ≤ Vk 158 N w) ∧ (y.1 = 0 → y.2 = N) ∧ (∀ v u ds da, EPc R v u ds da → Vk 158 N v < 1000000 → Vk 158 y.2 u ≤ Vk 158 N v + cw 100 ds da)) ?_ e ⟨0, by omega, rfl, h, .inl rfl, fun w => Int.le_refl _, fun _ => rfl, fun c u ds da h => by omega⟩
  rintro ⟨ch, i, S⟩ r ⟨k, k36', hk, hS, hch, hm, hz, hst⟩ e
  dsimp only at hk hS hch hm hz hst
  unfold lb_Ways_bridged_29 at e
  dsimp only at e
  rcases io e with ⟨g, e⟩ | ⟨g, e⟩
  · have := q_le g
    obtain rfl := Option.some.inj e
    exact ⟨hS, hm, hz, fun v u ds da hE hv => hst v u ds da (by have := (EPc_36 hE).1; omega) hE hv⟩
  have g1 := q_ng g
  have i1 : (i + (1 : Int32)).toInt = ((k + 1 : Nat) : Int) := add_ti hk o1 (by omega) (by omega)
  obtain ⟨_, e⟩ := io_n e
  rw [q_nat hk] at e
  have eV : Vk 158 S k = (S.1 158 k).toInt := rfl
  have z0 := or01w hch (.inl (rfl : (0 : Int32) = 0))
  have z1 := or01w hch (.inr (rfl : (1 : Int32) = 1))
  rcases io e with ⟨g, e⟩ | ⟨g, e⟩
  · have gg := q_le g
    obtain rfl := Option.some.inj e
    refine ⟨k + 1, by omega, i1, hS, z0.1, hm, fun h => hz (z0.2 h).1, fun c u ds da hc hE hv => ?_⟩
    by_cases w : c = k
    · subst w
      have := hm c
      omega
    · exact hst c u ds da (by omega) hE hv
  have gg := q_ng g
  obtain ⟨x2, e2, e⟩ := bo e
  obtain ⟨a1, a2, a3, a4, a5⟩ := cross_c za hf hS hk (by omega) (by omega) e2
  have fin : ∀ c u ds da, c < k + 1 → EPc R c u ds da → Vk 158 N c < 1000000 → Vk 158 x2.2 u ≤ Vk 158 N c + cw 100 ds da := by
    intro c u ds da hc hE hv
    by_cases w : c = k
    · subst w
      have := a5 u ds da hE
      have := hm c
      omega
    · have := hst c u ds da (by omega) hE hv
      have := a3 u
      omega
  rcases io e with ⟨g2, e⟩ | ⟨g2, e⟩
  · obtain rfl := Option.some.inj e
    exact ⟨k + 1, by omega, i1, a1, z0.1, fun w => Int.le_trans (a3 w) (hm w), fun h => by show x2.2 = N; rw [a4 g2, hz (z0.2 h).1], fin⟩
  · obtain rfl := Option.some.inj e
    exact ⟨k + 1, by omega, i1, a1, z1.1, fun w => Int.le_trans (a3 w) (hm w), fun h => absurd (z1.2 h).2 (by decide), fin⟩
theorem bridged_c {X R : Mem} {n f t : Nat} {v3 v4 : Int32} {x : Int32 × Mem} {O : Nat → Int} (za : ZA X R n) (hf : onN R 1 f) (f36 : f < 36) (t36 : t < 36) (h3 : v3.toInt = (f : Int)) (h4 : v4.toInt = (t : Int)) (Of : O f = 0) (oc : CLO 100 (EPc R) O) (orz : RZw 100 (EPc R) f O) (ob : ∀ u, O u ≤ 1000000) (oh : ∀ u, 36 ≤ u → O u = 1000000) (e : f_Ways_bridged 32 v3 v4 X = some x) : x.1.toInt = O t ∧ (∀ kx i, kx ≠ 158 → x.2.1 kx i = X.1 kx i) ∧ x.2.2 = X.2 := by
  have k36 : (36 : Int32).toInt = 36 := rfl
  unfold f_Ways_bridged at e
  obtain ⟨_, e⟩ := io_n e
  obtain ⟨x1, e1, e⟩ := bo e
  obtain ⟨x9, e9, e⟩ := bo e
  obtain ⟨_, e⟩ := io_n e
  obtain rfl := Option.some.inj e
  obtain ⟨b1, b2, b3, b4⟩ := begin_c h3 e1
  have ci0 : CI (EPc R) f X x1 := ⟨b1, b2, by omega, RZw_1 b3 b4, fun u hu => by
    by_cases g : u = f
    · subst g; omega
    · rw [b4 u hu g]; omega⟩
  -- the other half of the prices is settled from the first on
  have half : ∀ S : Mem, CI (EPc R) f X S → 36 ≤ Sn (Vk 158 S) O := by
    intro S hS
    have key : (List.range 36).countP (fun i => decide (Vk 158 S (36 + i) ≤ O (36 + i))) = (List.range 36).length := List.countP_eq_length.mpr (fun i hi => decide_eq_true (by
      have := List.mem_range.mp hi
      rw [oh (36 + i) (by omega)]
      exact (hS.2.2.2.2 (36 + i) (by omega)).2))
    rw [List.length_range] at key
    unfold Sn
    rw [show 72 = 36 + 36 from rfl, cnt_add, key]
    omega
  have K : CI (EPc R) f X x9 ∧ ∀ u, u < 72 → Vk 158 x9 u ≤ O u := by
    refine it_r (I := fun s : Int32 × Int32 × Mem => ∃ k : Nat, k ≤ 36 ∧ s.2.1.toInt = (k : Int) ∧ CI (EPc R) f X s.2.2 ∧ 36 + k ≤ Sn (Vk 158 s.2.2) O ∧ (s.1 = 0 → ∀ u, u < 72 → Vk 158 s.2.2 u ≤ O u)) (Q := fun x : Mem => CI (EPc R) f X x ∧ ∀ u, u < 72 → Vk 158 x u ≤ O u) ?_ e9 ⟨0, by omega, rfl, ci0, half x1 ci0, fun h => absurd (show (1 : Int32) = 0 from h) (by decide)⟩
    rintro ⟨ch, i, S⟩ r ⟨k, k36', hk, hS, hn, hz⟩ e
    dsimp only at hk hS hn hz
    unfold lb_Ways_bridged_11 at e
    dsimp only at e
    rcases io e with ⟨g, e⟩ | ⟨g, e⟩
    · have := q_le g
      obtain rfl := Option.some.inj e
      exact ⟨hS, Sn_all (by omega)⟩
    have g1 := q_ng g
    rcases io e with ⟨g, e⟩ | ⟨g, e⟩
    · obtain rfl := Option.some.inj e
      exact ⟨hS, hz g⟩
    obtain ⟨x5, e5, e⟩ := bo e
    obtain rfl := Option.some.inj e
    obtain ⟨r1, r3, r4, r5⟩ := plkR_c za hf hS e5
    refine ⟨k + 1, by omega, add_ti hk o1 (by omega) (by omega), r1, ?_, fun h u hu => ?_⟩
    · show 36 + (k + 1) ≤ Sn (Vk 158 x5.2) O
      rcases round_1 EPc_ok hS.2.2.1 (by omega) (by omega) oc orz (fun u _ => r3 u) r5 (fun u hu => (hS.2.2.2.2 u hu).2) (by omega) with h | h
      · rw [Sn_m (fun u _ => r3 u) h]; omega
      · omega
    · show Vk 158 x5.2 u ≤ O u
      have eS := r4 h
      rw [eS] at r5 ⊢
      have bd := hS.2.2.2.2
      have clo : CLO 100 (EPc R) (Vk 158 S) := by
        intro v u ds da hE
        by_cases g : Vk 158 S v < 1000000
        · exact r5 v u ds da hE g
        · have h36 := EPc_36 hE
          have := (bd u (by omega)).2
          have : 0 ≤ cw 100 ds da := by unfold cw; omega
          omega
      by_cases g : O u < 1000000
      · obtain ⟨n, s, a, w, ew⟩ := orz u hu g
        rw [ew]
        exact wk_le hS.2.2.1 clo n u s a w
      · have := (bd u hu).2
        omega
  obtain ⟨⟨c1, c2, _, rz, bd⟩, le⟩ := K
  refine ⟨?_, c1, c2⟩
  rw [q_nat h4]
  show Vk 158 x9 t = O t
  have l := le t (by omega)
  by_cases g : Vk 158 x9 t < 1000000
  · obtain ⟨n, s, a, w, ew⟩ := rz t (by omega) g
    have := wk_le (by omega) oc n t s a w
    omega
  · have := (bd t (by omega)).2
    have := ob t
    omega
def OhC (Q : Nat → Int) (c : Nat) : Int := if c < 36 then Oh Q (36 * 1 + c) else 1000000
theorem OhC_1 {Q : Nat → Int} {c : Nat} (h : c < 36) : OhC Q c = Oh Q (36 * 1 + c) := if_pos h
theorem OhC_2 {Q : Nat → Int} {c : Nat} (h : ¬ c < 36) : OhC Q c = 1000000 := if_neg h
theorem planks_q {X R : Mem} {n : Nat} {v1 v2 : Int32} {x r : Int32 × Mem} (za : ZA X R n) (ex : f_Top_planks v1 v2 X = some x) (er : f_Mod_planks v1 v2 R = some r) : x.1 = r.1 ∧ (RR X R → RR x.2 r.2) := by
  have km : (1000000 : Int32).toInt = 1000000 := rfl
  unfold f_Mod_planks at er
  obtain ⟨M1, m1, er⟩ := mo er
  obtain ⟨zaM, fqM⟩ := ZA_M1 za m1
  obtain ⟨n8, jM, ⟨zg, zc, zl⟩, zs, zv, zw⟩ := zaM.1
  unfold f_Top_planks at ex
  obtain ⟨x1, ex1, ex⟩ := bo ex
  obtain ⟨y2, ey2, er⟩ := bo er
  rcases plc_2 zg jM ex1 ey2 with ⟨a, b⟩ | ⟨a, b, l, f, l2, f36, hl, hf, onf⟩
  · rw [a, if_pos rfl] at ex
    rw [b, if_pos rfl] at er
    obtain rfl := Option.some.inj ex
    obtain rfl := Option.some.inj er
    exact ⟨rfl, FQ2_RR fqM⟩
  have l1 : l = 1 := by have := o1; omega
  subst l1
  rw [a, if_neg (by decide)] at ex
  rw [b, if_neg (by decide)] at er
  obtain ⟨x2, ex2, ex⟩ := bo ex
  obtain ⟨y3, ey3, er⟩ := bo er
  rcases plc_2 zg jM ex2 ey3 with ⟨a, b⟩ | ⟨a, b, l', t, l2', t36, hl', ht, ont⟩
  · rw [a, if_pos rfl] at ex
    rw [b, if_pos rfl] at er
    obtain rfl := Option.some.inj ex
    obtain rfl := Option.some.inj er
    exact ⟨rfl, FQ2_RR fqM⟩
  have l1 : l' = 1 := by have := o1; omega
  subst l1
  rw [a, if_neg (by decide)] at ex
  rw [b, if_neg (by decide)] at er
  obtain ⟨x3, e3, ex⟩ := bo ex
  obtain ⟨x6, f6, er⟩ := bo er
  obtain ⟨x7, f7, er⟩ := bo er
  obtain ⟨_, er⟩ := io_n er
  obtain ⟨M8, m8, er⟩ := mo er
  obtain ⟨x24, f24, er⟩ := bo er
  obtain ⟨x25, f25, er⟩ := bo er
  obtain ⟨_, er⟩ := io_n er
  have p7 := place_c (l := 1) (c := f) rfl hf (by omega) f36 f7
  have p25 := place_c (l := 1) (c := t) rfl ht (by omega) t36 f25
  rw [q_nat p7] at m8
  rw [q_nat p25] at er
  obtain ⟨j6, g6, z6⟩ := plkF_r jM f6
  have onF : onP M1 ((36 * 1 + f : Nat) : Int) := (onP_lc (by omega) f36).mpr onf
  have F0 : Vk 180 M8 (36 * 1 + f) = 0 := by rw [m8, Vk_eq]; rfl
  have ri0 : RIw (EPk M1) (36 * 1 + f) M1 M8 := ⟨by rw [m8]; exact Jw_180 j6 _ _ (by decide) (by decide), fun kx i h => by rw [m8, si_ne (by omega)]; exact g6 kx i h, by omega, RZw_1 F0 (fun u hu hn => by
    rw [m8, Vk_ne hn]
    show (x6.1 180 u).toInt = _
    rw [z6 u hu]; rfl)⟩
  have K : RIw (EPk M1) (36 * 1 + f) M1 x24 ∧ CLO 1000 (EPk M1) (Vk 180 x24) := by
    refine it_r (I := fun s : Int32 × Mem => RIw (EPk M1) (36 * 1 + f) M1 s.2 ∧ (s.1 = 0 → CLO 1000 (EPk M1) (Vk 180 s.2))) (Q := fun x : Mem => RIw (EPk M1) (36 * 1 + f) M1 x ∧ CLO 1000 (EPk M1) (Vk 180 x)) ?_ f24 ⟨ri0, fun h => absurd (show (1 : Int32) = 0 from h) (by decide)⟩
    rintro ⟨mo', S⟩ r ⟨hS, hz⟩ e
    dsimp only at hS hz
    unfold lb_Mod_planks_61 at e
    dsimp only at e
    rcases io e with ⟨g, e⟩ | ⟨g, e⟩
    · obtain rfl := Option.some.inj e
      exact ⟨hS, hz g⟩
    obtain ⟨x22, e22, e⟩ := bo e
    obtain rfl := Option.some.inj e
    exact plkR_r jM (KP_v zv) onF hS e22
  obtain ⟨⟨j24, fr24, p24, rz24⟩, clo⟩ := K
  obtain ⟨o1', o2', o3'⟩ := Oh_clo EPk_ok p24 clo rz24 (fun u => (Jr_180 j24 u).2)
  -- by cells
  have OF : Oh (Vk 180 x24) (36 * 1 + f) = 0 := by
    have b := (Jr_180 j24 (36 * 1 + f)).1
    have : Vk 180 x24 (36 * 1 + f) = 0 := by
      have e : Vk 180 x24 (36 * 1 + f) = (x24.1 180 (36 * 1 + f)).toInt := rfl
      omega
    unfold Oh
    rw [this, if_pos (by decide)]; rfl
  obtain ⟨A1, A2, A3⟩ := bridged_c (O := OhC (Vk 180 x24)) zaM onf f36 t36 hf ht (by rw [OhC_1 f36]; exact OF) (fun v u ds da hE => by
    have h := EPc_36 hE
    rw [OhC_1 h.1, OhC_1 h.2.1]
    exact o1' _ _ ds da hE) (fun u hu hlt => by
    by_cases h : u < 36
    · rw [OhC_1 h] at hlt ⊢
      obtain ⟨n', s, a, w, ew⟩ := o2' (36 * 1 + u) (by omega) hlt
      obtain ⟨c, hc, w'⟩ := wkP_c w
      have : c = u := by omega
      subst this
      exact ⟨n', s, a, w', ew⟩
    · rw [OhC_2 h] at hlt
      omega) (fun u => by
    by_cases h : u < 36
    · rw [OhC_1 h]; exact o3' _
    · rw [OhC_2 h]; omega) (fun u hu => OhC_2 (by omega)) e3
  rw [OhC_1 t36] at A1
  have rrx : RR X R → RR x3.2 x24 := fun h => RR_f (A2 0 15 (by omega)) (fun i => A2 161 i (by omega)) (fr24 162 12 (by omega)) (fun i => fr24 168 i (by omega)) (FQ2_RR fqM h)
  have eQ : Vk 180 x24 (36 * 1 + t) = (x24.1 180 (36 * 1 + t)).toInt := rfl
  rcases io er with ⟨g, er⟩ | ⟨g, er⟩
  · have gl := q_lt g
    obtain ⟨nn, s, a, w, ew, s72, a72⟩ := rz_2 EPk_ok (by omega) p24 clo rz24 (show 36 * 1 + t < 72 by omega) (by omega)
    have oh := (Oh_i s72 a72 ew).2
    rw [oh] at A1
    rw [eQ] at ew
    have hx : x3.1.toInt = ((100 * s + a : Nat) : Int) := by rw [A1]; unfold cw; omega
    have hq : (x24.1 180 (36 * 1 + t)).toInt = ((1000 * s + a : Nat) : Int) := by rw [ew]; unfold cw; omega
    have k100 : (100 : Int32).toInt = 100 := rfl
    have k1000 : (1000 : Int32).toInt = 1000 := rfl
    have d1 : (x3.1 / (100 : Int32)).toInt = (s : Int) := by rw [div_ti hx k100 (by omega) (by omega)]; omega
    have d2 : ((x24.1 180 (36 * 1 + t)) / (1000 : Int32)).toInt = (s : Int) := by rw [div_ti hq k1000 (by omega) (by omega)]; omega
    have r1 : (x3.1 - x3.1 / (100 : Int32) * (100 : Int32)).toInt = (a : Int) := by rw [sub_ti hx (mul_ti d1 k100 (by omega) (by omega)) (by omega) (by omega)]; omega
    have r2 : ((x24.1 180 (36 * 1 + t)) - (x24.1 180 (36 * 1 + t)) / (1000 : Int32) * (1000 : Int32)).toInt = (a : Int) := by rw [sub_ti hq (mul_ti d2 k1000 (by omega) (by omega)) (by omega) (by omega)]; omega
    rw [if_pos (Int32.lt_iff_toInt_lt.mpr (by omega))] at ex
    obtain ⟨x4, e4, ex⟩ := bo ex
    obtain ⟨x5, e5, ex⟩ := bo ex
    obtain rfl := Option.some.inj ex
    obtain ⟨M26, m26, er⟩ := mo er
    obtain ⟨x27, e27, er⟩ := bo er
    obtain rfl := Option.some.inj er
    exact ⟨Int32.toInt_inj.mp (by show (x3.1 / (100 : Int32)).toInt = ((x24.1 180 (36 * 1 + t)) / (1000 : Int32)).toInt; rw [d1, d2]), fun _ => RRn_r (k := 1) (by omega) (RR_n (RR_0 e4 m26) (by omega) (Int32.toInt_inj.mp (by rw [r1, r2])) e5 e27)⟩
  · have gl := q_nl g
    have : Oh (Vk 180 x24) (36 * 1 + t) = 1000000 := by unfold Oh; rw [if_neg (by omega)]
    rw [if_neg (fun h => by have := q_lt h; omega)] at ex
    obtain rfl := Option.some.inj ex
    obtain rfl := Option.some.inj er
    exact ⟨rfl, rrx⟩
end
section
/-! cell: what stands at a cell, the ways out of it -/
theorem cnt_put {P P' : Nat → Bool} {c : Nat} : ∀ {n : Nat}, c < n → (∀ d, d < n → d ≠ c → P d = P' d) → P' c = false → P c = true → (List.range n).countP P = (List.range n).countP P' + 1 := by
  intro n
  induction n with
  | zero => intro h; omega
  | succ n ih =>
    intro hc h h0 h1
    rw [cnt_s, cnt_s]
    by_cases q : c = n
    · subst q
      have e : (List.range c).countP P = (List.range c).countP P' := List.countP_congr (fun i hi => by rw [h i (by have := List.mem_range.mp hi; omega) (by have := List.mem_range.mp hi; omega)])
      rw [e, if_pos h1, if_neg (by rw [h0]; decide)]
    · rw [ih (by omega) (fun d hd => h d (by omega)) h0 h1, h n (by omega) (fun w => q w.symm)]
      omega
theorem cnt_rel {rel : Nat → Nat → Prop} {n : Nat} (h1 : ∀ d s s', rel d s → rel d s' → s < 4 → s' < 4 → s = s') (h2 : ∀ d d' s, s < 4 → rel d s → rel d' s → d = d') (h3 : ∀ d s, s < 4 → rel d s → d < n) {W : Nat → Bool} (hW : ∀ s, W s = true ↔ ∃ d, rel d s) : ∀ m, m ≤ 4 → ∀ P : Nat → Bool, (∀ d, d < n → (P d = true ↔ ∃ s, s < m ∧ rel d s)) → (List.range n).countP P = (List.range m).countP W := by
  classical
  intro m
  induction m with
  | zero =>
    intro _ P hP
    rw [List.countP_eq_zero.mpr (fun d hd w => by obtain ⟨s, hs, _⟩ := (hP d (List.mem_range.mp hd)).mp w; omega)]
    rfl
  | succ m ih =>
    intro hm P hP
    rw [cnt_s, ← ih (by omega) (fun d => decide (∃ s, s < m ∧ rel d s)) (fun d _ => decide_eq_true_iff)]
    by_cases w : ∃ d, rel d m
    · rw [if_pos ((hW m).mpr w)]
      obtain ⟨d0, hd0⟩ := w
      refine cnt_put (c := d0) (h3 d0 m (by omega) hd0) (fun d hd hn => ?_) ?_ ?_
      · refine Bool.eq_iff_iff.mpr ?_
        rw [hP d hd, decide_eq_true_iff]
        constructor
        · rintro ⟨s, hs, r⟩
          by_cases q : s = m
          · subst q; exact absurd (h2 d d0 s (by omega) r hd0) hn
          · exact ⟨s, by omega, r⟩
        · rintro ⟨s, hs, r⟩; exact ⟨s, by omega, r⟩
      · refine decide_eq_false ?_
        rintro ⟨s, hs, r⟩
        have := h1 d0 s m r hd0 (by omega) (by omega)
        omega
      · exact (hP d0 (h3 d0 m (by omega) hd0)).mpr ⟨m, by omega, hd0⟩
    · rw [if_neg (fun h => w ((hW m).mp h)), Nat.add_zero]
      refine List.countP_congr (fun d hd => ?_)
      rw [hP d (List.mem_range.mp hd), decide_eq_true_iff]
      constructor
      · rintro ⟨s, hs, r⟩
        by_cases q : s = m
        · subst q; exact absurd ⟨d, r⟩ w
        · exact ⟨s, by omega, r⟩
      · rintro ⟨s, hs, r⟩; exact ⟨s, by omega, r⟩
def nbT : Bool := (List.range 6).all fun w => (List.range 6).all fun h => (List.range 36).all fun c => !(decide ((c : Int) < ((w : Int) + 1) * ((h : Int) + 1))) ||
  ((List.range 4).all fun s => (List.range 4).all fun r => (r == s) || (bes (w + 1) (h + 1) c s == -1) || (!(bes (w + 1) (h + 1) c s == bes (w + 1) (h + 1) c r) && !(bes (w + 1) (h + 1) c s == bb (w + 1) (h + 1) c r)))
theorem nbT_t : nbT = true := by decide +kernel
theorem nbs_i {w h c s r : Int} (hw : 1 ≤ w ∧ w ≤ 6) (hh : 1 ≤ h ∧ h ≤ 6) (hc : 0 ≤ c) (hc2 : c < w * h) (hs : 0 ≤ s ∧ s ≤ 3) (hr : 0 ≤ r ∧ r ≤ 3) (hb : bes w h c s ≠ -1) (q : bes w h c s = bes w h c r ∨ bes w h c s = bb w h c r) : s = r := by
  obtain ⟨w', h', c', s', lw, lh, lc, ls, rfl, rfl, rfl, rfl⟩ := rngs hw hh hc hc2 hs
  obtain ⟨r', rfl⟩ : ∃ r' : Nat, r = (r' : Int) := ⟨r.toNat, by omega⟩
  have k := List.all_eq_true.mp (List.all_eq_true.mp (List.all_eq_true.mp nbT_t w' (List.mem_range.mpr lw)) h' (List.mem_range.mpr lh)) c' (List.mem_range.mpr lc)
  rw [decide_eq_true hc2, Bool.not_true, Bool.false_or] at k
  have k := List.all_eq_true.mp (List.all_eq_true.mp k s' (List.mem_range.mpr ls)) r' (List.mem_range.mpr (by omega))
  rw [Bool.or_eq_true, Bool.or_eq_true] at k
  rcases k with (k | k) | k
  · have : r' = s' := by simpa using k
    rw [this]
  · exact absurd (by simpa using k) hb
  · simp only [Bool.and_eq_true, Bool.not_eq_true', beq_eq_false_iff_ne] at k
    rcases q with q | q
    · exact absurd q k.1
    · exact absurd q k.2
def nbr (R : Mem) (l c d s : Nat) : Prop := (lk R (onA R) l c s ∧ bes (xw R) (xh R) c s = (d : Int)) ∨ (l = 1 ∧ bb (xw R) (xh R) c s = (d : Int) ∧ plk R 163 c d)
theorem plk_o1 {R : Mem} {n : Nat} (zv : ZV R (R.1 163) n) {a b : Int} (h : plk R 163 a b) : onN R 1 a := by
  obtain ⟨j, hj, h⟩ := h
  obtain ⟨h1, h2, _⟩ := zv.2.2.2 j hj
  rcases h with ⟨e, _⟩ | ⟨_, e⟩
  · rw [e] at h1; exact h1
  · rw [e] at h2; exact h2
theorem nbr_on {R : Mem} {n : Nat} (jR : J R) (zv : ZV R (R.1 163) n) {l c d s : Nat} (h : nbr R l c d s) : onN R l c := by
  rcases h with ⟨h, _⟩ | ⟨h, _, p⟩
  · exact (onA_i jR).mp h.1
  · subst h; exact plk_o1 zv p
theorem lk_bes {R : Mem} (jR : J R) {l c s : Nat} (c0 : onN R l c) (s4 : s < 4) (h : lk R (onA R) l c s) : onN R l (bes (xw R) (xh R) c s) := by
  have bi := bes_in (aw jR) (ah jR) (c := c) (by omega) c0.2.1 (s := s) (by omega)
  have := (onA_i jR).mp h.2.2
  rw [show (((bes (xw R) (xh R) c s).toNat : Nat) : Int) = bes (xw R) (xh R) c s by have := h.2.1; omega] at this
  exact this
theorem nbr_inj {R : Mem} {n : Nat} (jR : J R) (zv : ZV R (R.1 163) n) {l c d s r : Nat} (h : nbr R l c d s) (g : nbr R l c d r) (hs : s < 4) (hr : r < 4) : s = r := by
  have on := nbr_on jR zv h
  have hw := aw jR
  have hh := ah jR
  have A : ∀ {s r : Nat}, s < 4 → r < 4 → bes (xw R) (xh R) c s = (d : Int) → (bes (xw R) (xh R) c r = (d : Int) ∨ bb (xw R) (xh R) c r = (d : Int)) → s = r := by
    intro s r hs hr e q
    have := nbs_i hw hh (c := c) (by omega) on.2.1 (s := s) (r := r) (by omega) (by omega) (by rw [e]; omega) (by rw [e]; exact q.elim (fun q => .inl q.symm) (fun q => .inr q.symm))
    omega
  rcases h with ⟨_, h⟩ | ⟨_, h, _⟩
  · rcases g with ⟨_, g⟩ | ⟨_, g, _⟩
    · exact A hs hr h (.inl g)
    · exact A hs hr h (.inr g)
  · rcases g with ⟨_, g⟩ | ⟨_, g, _⟩
    · exact (A hr hs g (.inr h)).symm
    · have := (bb_i hw hh (c := c) (by omega) on.2.1 (s := s) (by omega) (by rw [h]; omega)).2.2 r (by omega) (by omega) (by rw [g, h])
      omega
theorem nbr_fun {R : Mem} {n : Nat} (jR : J R) (zv : ZV R (R.1 163) n) {l c d d' s : Nat} (hs : s < 4) (h : nbr R l c d s) (g : nbr R l c d' s) : d = d' := by
  have on := nbr_on jR zv h
  have B : ∀ {d : Nat}, lk R (onA R) l c s → l = 1 → bb (xw R) (xh R) c s = (d : Int) → plk R 163 c d → False := by
    intro d a b e p
    have q := lk_bes jR on hs a
    subst b
    exact mid_no jR zv on hs (by rw [e]; omega) (by rw [e]; exact p) q
  rcases h with ⟨a, h⟩ | ⟨a, h, p⟩
  · rcases g with ⟨b, g⟩ | ⟨b, g, q⟩
    · omega
    · exact (B a b g q).elim
  · rcases g with ⟨b, g⟩ | ⟨b, g, q⟩
    · exact (B b a h p).elim
    · omega
theorem nbr_lt {R : Mem} {n : Nat} (jR : J R) (zv : ZV R (R.1 163) n) {l c d s : Nat} (hs : s < 4) (h : nbr R l c d s) : d < 36 := by
  have on := nbr_on jR zv h
  have wh := awh jR
  rcases h with ⟨_, h⟩ | ⟨_, _, p⟩
  · have bi := bes_in (aw jR) (ah jR) (c := c) (by omega) on.2.1 (s := s) (by omega)
    omega
  · have := (plk_o1 zv (plk_sym p)).2.1
    omega
theorem nbr_go {R : Mem} {n : Nat} (jR : J R) (zv : ZV R (R.1 163) n) {l c s : Nat} {p sI y : Int} (hp : p = 36 * (l : Int) + c) (hs : sI = (s : Int)) (l2 : l < 2) (c36 : c < 36) (on : onN R l c) (s4 : s < 4) (g : goR R 163 p sI y) : (∃ d, nbr R l c d s) ↔ y ≠ -1 := by
  have hw := aw jR
  have hh := ah jR
  have pm : p % 36 = (c : Int) := by omega
  have pd : p / 36 = (l : Int) := by omega
  rcases g with ⟨g, _⟩ | ⟨_, g⟩
  · omega
  rw [pm, pd, hs] at g
  have bi := bes_in hw hh (c := c) (by omega) on.2.1 (s := s) (by omega)
  have noL : ¬ onN R l (bes (xw R) (xh R) c s) → ¬ lk R (onA R) l c s := fun g2 h => g2 (lk_bes jR on s4 h)
  rcases g with ⟨g1, g2⟩ | ⟨g1, g2, g3⟩ | ⟨g1, g2, g3, g4⟩ | ⟨g1, g2, g3, g4, g5, g6⟩ | ⟨g1, g2, g3, g4, g5⟩
  · refine ⟨?_, fun h => absurd g2 h⟩
    rintro ⟨d, ⟨h, _⟩ | ⟨_, h, _⟩⟩
    · exact absurd g1 h.2.1
    · unfold bb at h; rw [if_pos g1] at h; omega
  · refine ⟨fun _ => by omega, fun _ => ⟨(bes (xw R) (xh R) c s).toNat, .inl ⟨⟨(onA_i jR).mpr on, g1, (onA_i jR).mpr ?_⟩, by omega⟩⟩⟩
    rw [show (((bes (xw R) (xh R) c s).toNat : Nat) : Int) = bes (xw R) (xh R) c s by omega]; exact g2
  · refine ⟨?_, fun h => absurd g4 h⟩
    rintro ⟨d, ⟨h, _⟩ | ⟨h, _⟩⟩
    · exact (noL g2 h).elim
    · omega
  · have b2 : bb (xw R) (xh R) c s = bes (xw R) (xh R) (bes (xw R) (xh R) c s) s := by unfold bb; rw [if_neg g1]
    have rb := bes_in hw hh (c := bes (xw R) (xh R) c s) (by omega) (by omega) (s := s) (by omega)
    refine ⟨fun _ => by omega, fun _ => ⟨(bb (xw R) (xh R) c s).toNat, .inr ⟨by omega, by omega, ?_⟩⟩⟩
    rw [show (((bb (xw R) (xh R) c s).toNat : Nat) : Int) = bb (xw R) (xh R) c s by omega, b2]; exact g5
  · refine ⟨?_, fun h => absurd g5 h⟩
    rintro ⟨d, ⟨h, _⟩ | ⟨_, h, q⟩⟩
    · exact (noL g2 h).elim
    · have b2 : bb (xw R) (xh R) c s = bes (xw R) (xh R) (bes (xw R) (xh R) c s) s := by unfold bb; rw [if_neg g1]
      rw [b2] at h
      exact (g4 ⟨by omega, by rw [h]; exact q⟩).elim
end
