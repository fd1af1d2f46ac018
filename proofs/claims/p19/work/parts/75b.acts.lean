/-! acts of an evening: the reference's reader -/
def AfR (A x : Mem) (j : Nat) : Prop := (∀ kx i, ¬ (kx = 175 ∧ 3 * j ≤ i ∧ i < 3 * j + 3) → ¬ (kx = 162 ∧ (i = 17 ∨ i = 18)) → x.1 kx i = A.1 kx i) ∧ x.2 = A.2
theorem AfR_t {A B C : Mem} {j : Nat} (h : AfR A B j) (g : AfR B C j) : AfR A C j := ⟨fun kx i a b => (g.1 kx i a b).trans (h.1 kx i a b), g.2.trans h.2⟩
theorem AfR_s {A B : Mem} {j i : Nat} {v : Int32} (hi : 3 * j ≤ i ∧ i < 3 * j + 3) (e : B = s_i A 175 i v) : AfR A B j := ⟨fun kx k a b => by rw [e, si_ne (by omega)], by rw [e, si_2]⟩
theorem AfR_17 {A B : Mem} {j : Nat} {v : Int32} (e : B = s_i A 162 17 v) : AfR A B j := ⟨fun kx k a b => by rw [e, si_ne (by omega)], by rw [e, si_2]⟩
theorem AfR_f {A B : Mem} {j : Nat} (h : (∀ kx i, ¬ (kx = 162 ∧ (i = 17 ∨ i = 18)) → B.1 kx i = A.1 kx i) ∧ B.2 = A.2) : AfR A B j := ⟨fun kx i _ b => h.1 kx i b, h.2⟩
theorem Rd_a {t : Nat → Int} {A B : Mem} {j : Nat} (h : Rd t A) (f : AfR A B j) : Rd t B := Rd_f h (by rw [f.2]) (f.1 162 15 (by omega) (by omega)) (f.1 162 16 (by omega) (by omega)) (fun i => f.1 167 i (by omega) (by omega)) (fun i => f.1 172 i (by omega) (by omega))
def AoR (t : Nat → Int) (p j : Nat) (x : Mem) : Prop := (aOk t p ∧ (x.1 162 18).toInt = -1 ∧ (x.1 162 17).toInt = (aNx t p : Int) ∧ AcX t p (x.1 175 (3 * j)).toInt (x.1 175 (3 * j + 1)).toInt (x.1 175 (3 * j + 2)).toInt) ∨ (¬ aOk t p ∧ (x.1 162 18).toInt = (aBd t p : Int))
theorem act_r {t : Nat → Int} {A : Mem} (hA : Rd t A) {v1 : Int32} {p j : Nat} (h1 : v1.toInt = ((3 * j : Nat) : Int)) (j32 : j ≤ 70) (hp : (A.1 162 17).toInt = (p : Int)) (p80 : p ≤ 80) (hw : (A.1 162 18).toInt = -1) {x} (e : f_Mod_readAct v1 A = some x) : AfR A x j ∧ AoR t p j x := by
  have z0 := o0
  have ym := om
  have k102 : (102 : Int32).toInt = 102 := rfl
  have k109 : (109 : Int32).toInt = 109 := rfl
  have k110 : (110 : Int32).toInt = 110 := rfl
  have k112 : (112 : Int32).toInt = 112 := rfl
  have k120 : (120 : Int32).toInt = 120 := rfl
  have k97 : (97 : Int32).toInt = 97 := rfl
  have k104 : (104 : Int32).toInt = 104 := rfl
  have k45 : (45 : Int32).toInt = 45 := rfl
  have a1l : a1 t p ≤ 2 := dgn_le _ 2 (p + 1)
  have a2l : a2 t p ≤ 2 := dgn_le _ 2 _
  have i1 : (v1 + (1 : Int32)).toInt = ((3 * j + 1 : Nat) : Int) := add_ti h1 o1 (by omega) (by omega)
  have i2 : (v1 + (2 : Int32)).toInt = ((3 * j + 2 : Nat) : Int) := add_ti h1 o2 (by omega) (by omega)
  -- the last piece: a letter
  have s110 : ∀ (v2 : Int32) (B : Mem), v2 ≠ 110 → j_Mod_readAct_110 v1 v2 B = some x → x = B := by
    intro v2 B hv e
    unfold j_Mod_readAct_110 at e
    rw [if_neg hv] at e
    exact (Option.some.inj e).symm
  have s85 : ∀ (v2 : Int32) (B : Mem), v2 ≠ 110 → v2 ≠ 112 → j_Mod_readAct_85 v1 v2 B = some x → x = B := by
    intro v2 B hv hv2 e
    unfold j_Mod_readAct_85 at e
    rw [if_neg hv2] at e
    exact s110 v2 B hv e
  -- the head of an act
  have s43 : ∀ (v2 : Int32) (B : Mem), AfR A B j → (B.1 162 17).toInt = (p : Int) → ((v2.toInt = t p ∧ (t p = 109 ∨ t p = 110 ∨ t p = 112 ∨ t p = 120 ∨ t p = 102) ∧ (B.1 162 18).toInt = -1) ∨ ((¬ aOk t p ∧ aBd t p = p ∧ v2 ≠ 109 ∧ v2 ≠ 110 ∧ v2 ≠ 112) ∧ (B.1 162 18).toInt = (p : Int))) → j_Mod_readAct_43 v1 v2 B = some x → AfR A x j ∧ AoR t p j x := by
    intro v2 B fB hat hcase e
    unfold j_Mod_readAct_43 at e
    obtain ⟨M2, m2, e⟩ := mo e
    obtain ⟨_, e⟩ := io_n e
    obtain ⟨M3, m3, e⟩ := mo e
    rw [q_nat h1] at m3
    have f3 : AfR A M3 j := AfR_t fB (AfR_t (AfR_17 m2) (AfR_s (by omega) m3))
    have w3 : M3.1 162 18 = B.1 162 18 := by rw [m3, si_ne (by omega), m2, si_ne (by omega)]
    have c3 : M3.1 175 (3 * j) = v2 := by rw [m3, si_eq]
    rcases hcase with ⟨hv, hk, hw3⟩ | ⟨⟨n1, n2, n3, n4, n5⟩, hw3⟩
    rotate_left
    · rw [if_neg n3, if_neg n5] at e
      have := s85 v2 M3 n4 n5 e
      subst this
      exact ⟨f3, .inr ⟨n1, by rw [w3, n2]; exact hw3⟩⟩
    have p79 : p < 80 := (Rd_rng hA p).2.2 (by omega)
    have r3 : Rd t M3 := Rd_a hA f3
    have a3 : (M3.1 162 17).toInt = ((p + 1 : Nat) : Int) := by rw [m3, si_ne (by omega), m2, si_eq]; exact add_ti hat o1 (by omega) (by omega)
    have w3' : (M3.1 162 18).toInt = -1 := by rw [w3]; exact hw3
    have num : ∀ x4 : Int32 × Mem, f_Mod_number (2 : Int32) M3 = some x4 → ∀ M5, M5 = s_i x4.2 175 (3 * j + 1) x4.1 → AfR A M5 j ∧ M5.1 175 (3 * j) = v2 ∧ (M5.1 175 (3 * j + 1)).toInt = dgv t 2 (p + 1) 0 ∧ (M5.1 162 17).toInt = ((p + 1 + a1 t p : Nat) : Int) ∧ ((a1 t p = 0 ∧ (M5.1 162 18).toInt = ((p + 1 : Nat) : Int)) ∨ (0 < a1 t p ∧ (M5.1 162 18).toInt = -1)) := by
      intro x4 e4 M5 m5
      obtain ⟨_, n2, _, _, n5, n6⟩ := number_i (K := 2) r3 (by omega) rfl a3 (by omega) w3' e4
      have nf := number_f e4
      refine ⟨AfR_t f3 (AfR_t (AfR_f nf) (AfR_s (by omega) m5)), ?_, ?_, ?_, ?_⟩
      · rw [m5, si_ne (by omega), nf.1 175 _ (by omega)]; exact c3
      · rw [m5, si_eq]; exact n2
      · rw [m5, si_ne (by omega)]; exact n5
      · rw [m5, si_ne (by omega)]; exact n6
    rcases io e with ⟨c, e⟩ | ⟨c, e⟩
    · -- minutes
      have cc := q_eq c
      have tp : t p = 109 := by omega
      unfold j_Mod_readAct_72 at e
      obtain ⟨x4, e4, e⟩ := bo e
      obtain ⟨_, e⟩ := io_n e
      obtain ⟨M5, m5, e⟩ := mo e
      rw [q_nat i1] at m5
      obtain ⟨u1, u2, u3, u4, u5⟩ := num x4 e4 M5 m5
      have := s85 v2 M5 (fun h => by rw [h] at c; exact absurd c (by decide)) (fun h => by rw [h] at c; exact absurd c (by decide)) e
      subst this
      refine ⟨u1, ?_⟩
      rcases u5 with ⟨d0, w⟩ | ⟨d0, w⟩
      · exact .inr ⟨fun h => by unfold aOk at h; omega, by rw [w]; unfold aBd; rw [if_pos tp]⟩
      · exact .inl ⟨by unfold aOk; omega, w, by rw [u4]; unfold aNx; rw [if_pos tp], by rw [u2]; exact hv, fun _ => by rw [u3]; unfold aV1; rw [if_neg (by omega)], fun h => by omega⟩
    have c1 := q_ne c
    rcases io e with ⟨c, e⟩ | ⟨c, e⟩
    · -- a plank
      have cc := q_eq c
      have tp : t p = 112 := by omega
      have nv : v2 ≠ 110 := fun h => by rw [h] at c; exact absurd c (by decide)
      unfold j_Mod_readAct_72 at e
      obtain ⟨x4, e4, e⟩ := bo e
      obtain ⟨_, e⟩ := io_n e
      obtain ⟨M5, m5, e⟩ := mo e
      rw [q_nat i1] at m5
      obtain ⟨u1, u2, u3, u4, u5⟩ := num x4 e4 M5 m5
      unfold j_Mod_readAct_85 at e
      rw [if_pos c] at e
      obtain ⟨x15, e15, e⟩ := bo e
      obtain ⟨x16, e16, e⟩ := bo e
      obtain ⟨_, e⟩ := io_n e
      obtain ⟨M17, m17, e⟩ := mo e
      rw [q_nat i2] at m17
      rw [s110 v2 M17 nv e]
      have fN := need_f e15
      have fM := number_f e16
      have fx : AfR A M17 j := AfR_t u1 (AfR_t (AfR_f fN) (AfR_t (AfR_f fM) (AfR_s (by omega) m17)))
      refine ⟨fx, ?_⟩
      have stay : ∀ w : Int, (M5.1 162 18).toInt = w → w ≠ -1 → (M17.1 162 18).toInt = w := by
        intro w hw5 hn
        have h15 := need_n (by rw [hw5]; exact hn) e15
        subst h15
        have h16 := number_n (by rw [hw5]; exact hn) e16
        subst h16
        rw [m17, si_ne (by omega)]; exact hw5
      rcases u5 with ⟨d0, w⟩ | ⟨d0, w⟩
      · refine .inr ⟨fun h => by unfold aOk at h; omega, ?_⟩
        rw [stay _ w (by omega)]; unfold aBd; rw [if_neg (by omega), if_neg (by omega), if_pos tp, if_pos d0]
      have r5 : Rd t M5 := Rd_a hA u1
      unfold f_Mod_need at e15
      obtain ⟨y1, ey1, e15⟩ := bo e15
      have p80' : p + 1 + a1 t p ≤ 82 := by omega
      rcases passes_i r5 u4 w (by omega) (by omega) ey1 with ⟨tc, ty, ta, tw⟩ | ⟨tc, ty, te⟩
      · rw [if_neg ty] at e15
        obtain rfl := Option.some.inj e15
        rw [k45] at tc
        have p77 : p + 1 + a1 t p < 80 := (Rd_rng hA _).2.2 (by omega)
        have r15 : Rd t y1.2 := Rd_a hA (AfR_t u1 (AfR_f (passes_f ey1)))
        have a15 : (y1.2.1 162 17).toInt = ((p + 2 + a1 t p : Nat) : Int) := by rw [ta]; omega
        obtain ⟨_, n2, _, _, n5, n6⟩ := number_i (K := 2) r15 (by omega) rfl a15 (by omega) tw e16
        have w17 : M17.1 162 18 = x16.2.1 162 18 := by rw [m17, si_ne (by omega)]
        have na : dgn t 2 (p + 2 + a1 t p) = a2 t p := rfl
        rw [na] at n5 n6
        rcases n6 with ⟨d2, w2⟩ | ⟨d2, w2⟩
        · refine .inr ⟨fun h => by unfold aOk at h; omega, ?_⟩
          rw [w17, w2]; unfold aBd; rw [if_neg (by omega), if_neg (by omega), if_pos tp, if_neg (by omega), if_pos tc]
        · refine .inl ⟨by unfold aOk; omega, by rw [w17]; exact w2, ?_, ?_, fun _ => ?_, fun _ => ?_⟩
          · rw [m17, si_ne (by omega), n5]; unfold aNx; rw [if_neg (by omega), if_neg (by omega), if_pos tp]
          · rw [m17, si_ne (by omega), fM.1 175 _ (by omega), fN.1 175 _ (by omega), u2]; exact hv
          · rw [m17, si_ne (by omega), fM.1 175 _ (by omega), fN.1 175 _ (by omega), u3]; unfold aV1; rw [if_neg (by omega)]
          · rw [m17, si_eq, n2]; rfl
      · rw [if_pos ty] at e15
        obtain ⟨y2, ey2, e15⟩ := bo e15
        obtain rfl := Option.some.inj e15
        rw [te] at ey2
        rw [k45] at tc
        have w2 : (y2.1 162 18).toInt = ((p + 1 + a1 t p : Nat) : Int) := by
          rcases fault_i ey2 with ⟨h, _⟩ | ⟨_, h⟩
          · exact absurd w h
          · rw [h, si_eq]; exact u4
        have h16 := number_n (by rw [w2]; omega) e16
        refine .inr ⟨fun h => by unfold aOk at h; omega, ?_⟩
        rw [m17, si_ne (by omega), h16]
        show (y2.1 162 18).toInt = _
        rw [w2]; unfold aBd; rw [if_neg (by omega), if_neg (by omega), if_pos tp, if_neg (by omega), if_neg tc]
    have c2 := q_ne c
    unfold j_Mod_readAct_85 at e
    rw [if_neg c] at e
    unfold j_Mod_readAct_110 at e
    rcases io e with ⟨c, e⟩ | ⟨c, e⟩
    · -- a letter
      have cc := q_eq c
      have tp : t p = 110 := by omega
      obtain ⟨x6, e6, e⟩ := bo e
      obtain ⟨_, e⟩ := io_n e
      obtain ⟨M7, m7, e⟩ := mo e
      rw [q_nat i1] at m7
      have f7 : AfR A M7 j := AfR_t f3 (AfR_s (by omega) m7)
      have r7 : Rd t M7 := Rd_a hA f7
      have a7 : (M7.1 162 17).toInt = ((p + 1 : Nat) : Int) := by rw [m7, si_ne (by omega)]; exact a3
      have w7 : (M7.1 162 18).toInt = -1 := by rw [m7, si_ne (by omega)]; exact w3'
      have h6 := here_i r3 a3 e6
      obtain ⟨x8, e8, e⟩ := bo e
      have h8 := here_i r7 a7 e8
      obtain ⟨x9, e9, e⟩ := bo e
      have h9 := some_of (sp_in x8 97 104) e9
      rw [k97, k104] at h9
      rcases io e with ⟨g, e⟩ | ⟨g, e⟩
      · obtain ⟨x11, e11, e⟩ := bo e
        obtain ⟨M12, m12, e⟩ := mo e
        obtain rfl := Option.some.inj e
        have nb : ¬ (97 ≤ t (p + 1) ∧ t (p + 1) ≤ 104) := by
          rcases h9 with ⟨h, _⟩ | ⟨_, h⟩
          · rw [h] at g; exact absurd g (by decide)
          · omega
        refine ⟨AfR_t f7 (AfR_t (AfR_f (fault_f e11)) (AfR_17 m12)), .inr ⟨fun h => by unfold aOk at h; omega, ?_⟩⟩
        rcases fault_i e11 with ⟨h, _⟩ | ⟨_, h⟩
        · exact absurd w7 h
        · rw [m12, si_ne (by omega), h, si_eq, a7]; unfold aBd; rw [if_neg (by omega), if_pos tp]
      · obtain ⟨M10, m10, e⟩ := mo e
        obtain rfl := Option.some.inj e
        have ok : 97 ≤ t (p + 1) ∧ t (p + 1) ≤ 104 ∧ t (p + 1) = x6.toInt := by
          rcases h9 with ⟨_, h⟩ | ⟨h, _⟩
          · omega
          · exact absurd h g
        refine ⟨AfR_t f7 (AfR_17 m10), .inl ⟨by unfold aOk; omega, by rw [m10, si_ne (by omega)]; exact w7, ?_, ?_, fun _ => ?_, fun h => by omega⟩⟩
        · rw [m10, si_eq, add_ti a7 o1 (by omega) (by omega)]; unfold aNx; rw [if_neg (by omega), if_pos tp]; omega
        · rw [m10, si_ne (by omega), m7, si_ne (by omega), c3]; exact hv
        · rw [m10, si_ne (by omega), m7, si_eq, sub_ti rfl k97 (by omega) (by omega)]; unfold aV1; rw [if_pos tp, ok.2.2]
    · have c3' := q_ne c
      obtain rfl := Option.some.inj e
      refine ⟨f3, .inl ⟨by unfold aOk; omega, w3', ?_, by rw [c3]; exact hv, fun h => by omega, fun h => by omega⟩⟩
      rw [a3]; unfold aNx; rw [if_neg (by omega), if_neg (by omega), if_neg (by omega)]
  unfold f_Mod_readAct at e
  obtain ⟨x1, e1, e⟩ := bo e
  have good : ∀ c : Int32, x1 = c → (c.toInt = 109 ∨ c.toInt = 110 ∨ c.toInt = 112 ∨ c.toInt = 120 ∨ c.toInt = 102) → j_Mod_readAct_43 v1 x1 A = some x → AfR A x j ∧ AoR t p j x := by
    rintro c rfl hc e
    have h := here_c hA hp e1 (c := x1) (by omega) (by omega)
    have tp := h.mp rfl
    exact s43 x1 A ⟨fun _ _ _ _ => rfl, rfl⟩ hp (.inl ⟨tp.symm, by omega, hw⟩) e
  have hno : ∀ c : Int32, 0 ≤ c.toInt → c.toInt ≤ 127 → ¬ x1 = c → t p ≠ c.toInt := fun c h0 h1 h h2 => h ((here_c hA hp e1 h0 h1).mpr h2)
  rcases io e with ⟨c, e⟩ | ⟨c1, e⟩
  · exact good _ c (by omega) e
  rcases io e with ⟨c, e⟩ | ⟨c2, e⟩
  · exact good _ c (by omega) e
  rcases io e with ⟨c, e⟩ | ⟨c3, e⟩
  · exact good _ c (by omega) e
  rcases io e with ⟨c, e⟩ | ⟨c4, e⟩
  · exact good _ c (by omega) e
  rcases io e with ⟨c, e⟩ | ⟨c5, e⟩
  · exact good _ c (by omega) e
  obtain ⟨x21, e21, e⟩ := bo e
  have t1 := hno 109 (by omega) (by omega) c1
  have t2 := hno 110 (by omega) (by omega) c2
  have t3 := hno 112 (by omega) (by omega) c3
  have t4 := hno 120 (by omega) (by omega) c4
  have t5 := hno 102 (by omega) (by omega) c5
  have nok : ¬ aOk t p := fun h => by unfold aOk at h; omega
  have bd : aBd t p = p := by unfold aBd; rw [if_neg (by omega), if_neg (by omega), if_neg (by omega)]
  rcases fault_i e21 with ⟨h, _⟩ | ⟨_, h⟩
  · exact absurd hw h
  · exact s43 x1 x21 (AfR_f (fault_f e21)) (by rw [h, si_ne (by omega)]; exact hp) (.inr ⟨⟨nok, bd, c1, c2, c3⟩, by rw [h, si_eq]; exact hp⟩) e
