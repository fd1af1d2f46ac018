/-! the rule, the town: both sides again -/
theorem rule_2 {X R : Mem} {n : Nat} {x r : Int32 × Mem} (za : ZA X R n) (hJ : J X) (tx : cx X 40 = rx R 40) (l : X.1 1 1 = R.1 162 10) (hb : ∀ p : Nat, (p : Int) < (R.1 162 10).toInt → -128 ≤ (R.1 167 p).toInt ∧ (R.1 167 p).toInt ≤ 127) (jr : J r.2) (ex : f_Top_rule X = some x) (er : f_Mod_rule R = some r) : x.1 = r.1 ∧ ZA x.2 r.2 n := by
  have q := zl_rule hJ tx l (Jr_162_10 za.1.2.1) hb za.1.2.2.1.2.2 ex er
  have fx := wf_Top_rule X (L := []) (sb_r _) Fx_r ex
  have fr := wf_Mod_rule R (L := []) (sb_r _) Fx_r er
  have a := cx_f0 (M := X) (x := x.2) (by decide +kernel) fx
  have b := cr_f0 (M := R) (x := r.2) (by decide +kernel) fr
  exact ⟨q.1, ZA_y za jr q.2 a.1 a.2.1 a.2.2.1 a.2.2.2.1 a.2.2.2.2 b⟩
theorem clr_i {M x : Mem} (e : f_Scene_clear 11 M = some x) : (∀ i, i < 64 → x.1 15 i = 0) ∧ x.1 11 6 = 0 ∧ x.1 11 7 = 0 ∧ x.1 11 8 = 0 ∧ x.1 11 9 = 0 := by
  unfold f_Scene_clear at e
  obtain ⟨_, e⟩ := io_n e
  obtain ⟨x3, e3, e⟩ := bo e
  obtain ⟨x6, e6, e⟩ := bo e
  obtain ⟨M7, m7, e⟩ := mo e
  obtain ⟨M8, m8, e⟩ := mo e
  obtain ⟨M9, m9, e⟩ := mo e
  obtain ⟨M10, m10, e⟩ := mo e
  obtain rfl := Option.some.inj e
  have r3 : rf 11 3 = 15 := by decide +kernel
  have k : ∀ i, i < 64 → x6.1 15 i = 0 := by
    refine it_r (I := fun s : Int32 × Mem => ∃ p : Nat, s.1.toInt = (p : Int) ∧ p ≤ 64 ∧ ∀ i, i < p → s.2.1 15 i = 0) (Q := fun y : Mem => ∀ i, i < 64 → y.1 15 i = 0) ?_ e6 ⟨0, rfl, by omega, fun i hi => by omega⟩
    rintro ⟨v, N⟩ r ⟨p, hp, p64, hk⟩ e
    unfold lb_Scene_clear_23 at e
    dsimp only at e hp hk
    have z64 : (64 : Int32).toInt = 64 := rfl
    rcases io e with ⟨c, e⟩ | ⟨c, e⟩
    · have := q_le c
      obtain rfl := Option.some.inj e
      exact fun i hi => hk i (by omega)
    have c1 := q_ng c
    obtain ⟨_, e⟩ := io_n e
    obtain ⟨M4, m4, e⟩ := mo e
    obtain rfl := Option.some.inj e
    refine ⟨p + 1, add_ti hp o1 (by omega) (by omega), by omega, fun i hi => ?_⟩
    dsimp only
    rw [m4, r3, q_nat hp]
    rcases Nat.lt_or_ge i p with g | g
    · rw [si_ne (by omega)]; exact hk i g
    · have : i = p := by omega
      subst this
      rw [si_eq]
  refine ⟨fun i hi => ?_, ?_, ?_, ?_, ?_⟩
  · rw [m10, si_ne (by omega), m9, si_ne (by omega), m8, si_ne (by omega), m7, si_ne (by omega)]; exact k i hi
  · rw [m10, si_ne (by omega), m9, si_ne (by omega), m8, si_ne (by omega), m7, si_eq]
  · rw [m10, si_ne (by omega), m9, si_ne (by omega), m8, si_eq]
  · rw [m10, si_ne (by omega), m9, si_eq]
  · rw [m10, si_eq]
def TW (A M6 : Mem) : Prop := M6.1 6 4 = 0 ∧ M6.1 6 5 = 0 ∧ (∀ i, i < 64 → M6.1 15 i = 0) ∧ M6.1 11 6 = 0 ∧ M6.1 11 7 = 0 ∧ M6.1 11 8 = 0 ∧ M6.1 11 9 = 0 ∧ M6.1 46 2 = 0 ∧ M6.1 46 3 = 0 ∧ M6.1 40 4 = A.1 40 4 ∧ (∀ i, M6.1 41 i = A.1 41 i) ∧ (∀ i, M6.2.2 47 i = A.2.2 47 i) ∧ (∀ i, M6.2.2 48 i = A.2.2 48 i)
theorem town_c2 {A : Mem} (hl : (A.1 1 1).toInt ≤ 80) {x} (e : f_Top_town A = some x) : (x.1.toInt < 0 ∧ (∀ kx i, kx ≠ 5 → ¬ (kx = 1 ∧ i = 1) → x.2.1 kx i = A.1 kx i) ∧ (∀ kx i, kx ≠ 5 → x.2.2.1 kx i = A.2.1 kx i ∧ x.2.2.2 kx i = A.2.2 kx i)) ∨ (0 ≤ x.1.toInt ∧ ∃ M6, f_Nets_lay 32 11 (-1 : Int32) M6 = some x.2 ∧ TW A M6) := by
  have z0 : (0 : Int32).toInt = 0 := rfl
  unfold f_Top_town at e
  obtain ⟨x1, e1, e⟩ := bo e
  obtain ⟨M2, e2, e⟩ := mo e
  have fR := wf_Ground_read A (L := []) (sb_r _) Fx_r e1
  rcases io e with ⟨c, e⟩ | ⟨c, e⟩
  · have c1 := q_le c
    obtain ⟨x3, e3, e⟩ := bo e
    obtain ⟨x4, e4, e⟩ := bo e
    obtain ⟨x5, e5, e⟩ := bo e
    obtain ⟨M6, e6, e⟩ := mo e
    obtain ⟨x8, e8, e⟩ := bo e
    obtain rfl := Option.some.inj e
    have f4 : Fx 63488 [] x3 x4 := wf_Scene_clear 11 x3 (by decide +kernel) (oc_c (sb_r _) (by decide +kernel)) (oc_c (sb_r _) (by decide +kernel)) (oc_c (sb_r _) (by decide +kernel)) (oc_c (sb_r _) (by decide +kernel)) (oc_c (sb_r _) (by decide +kernel)) Fx_r e4
    obtain ⟨k1, k2, k3, k4, k5⟩ := clr_i e4
    unfold f_Crowd_clear at e3
    obtain ⟨N1, n1, e3⟩ := mo e3
    obtain ⟨N2, n2, e3⟩ := mo e3
    obtain rfl := Option.some.inj e3
    unfold f_History_clear f_History_forget f_History_spoil at e5
    obtain ⟨y1, e51, e5⟩ := bo e5
    obtain ⟨K1, p1, e51⟩ := mo e51
    obtain rfl := Option.some.inj e51
    obtain ⟨y2, e52, e5⟩ := bo e5
    obtain ⟨K2, p2, e52⟩ := mo e52
    obtain rfl := Option.some.inj e52
    obtain rfl := Option.some.inj e5
    have f6 : ∀ kx i, ¬ (kx = 0 ∧ i = 16) → ¬ (kx = 46 ∧ (i = 2 ∨ i = 3)) → M6.1 kx i = x4.1 kx i := fun kx i h1 h2 => by rw [e6, si_ne h1, p2, si_ne (by omega), p1, si_ne (by omega)]
    have f2 : ∀ kx i, ¬ (kx = 6 ∧ (i = 4 ∨ i = 5)) → ¬ (kx = 1 ∧ i = 1) → N2.1 kx i = x1.2.1 kx i := fun kx i h1 h2 => by rw [n2, si_ne (by omega), n1, si_ne (by omega), e2, si_ne h2]
    have q6 : M6.2 = x4.2 := by rw [e6, si_2, p2, si_2, p1, si_2]
    have q2 : N2.2 = x1.2.2 := by rw [n2, si_2, n1, si_2, e2, si_2]
    refine .inr ⟨by show 0 ≤ x1.1.toInt; omega, M6, e8, ?_, ?_, fun i hi => ?_, ?_, ?_, ?_, ?_, ?_, ?_, ?_, fun i => ?_, fun i => ?_, fun i => ?_⟩
    · rw [f6 6 4 (by omega) (by omega), (f4 6 4 (by decide +kernel) (by simp)).1, n2, si_ne (by omega), n1, si_eq]
    · rw [f6 6 5 (by omega) (by omega), (f4 6 5 (by decide +kernel) (by simp)).1, n2, si_eq]
    · rw [f6 15 i (by omega) (by omega)]; exact k1 i hi
    · rw [f6 11 6 (by omega) (by omega)]; exact k2
    · rw [f6 11 7 (by omega) (by omega)]; exact k3
    · rw [f6 11 8 (by omega) (by omega)]; exact k4
    · rw [f6 11 9 (by omega) (by omega)]; exact k5
    · rw [e6, si_ne (by omega), p2, si_ne (by omega), p1, si_eq]
    · rw [e6, si_ne (by omega), p2, si_eq]
    · rw [f6 40 4 (by omega) (by omega), (f4 40 4 (by decide +kernel) (by simp)).1, f2 40 4 (by omega) (by omega)]; exact (fR 40 4 (by decide +kernel) (by simp)).1
    · rw [f6 41 i (by omega) (by omega), (f4 41 i (by rw [show sl 41 i = 41 from rfl]; decide +kernel) (by simp)).1, f2 41 i (by omega) (by omega)]; exact (fR 41 i (by rw [show sl 41 i = 41 from rfl]; decide +kernel) (by simp)).1
    · rw [q6, (f4 47 i (by rw [show sl 47 i = 47 from rfl]; decide +kernel) (by simp)).2.2, q2]; exact (fR 47 i (by rw [show sl 47 i = 47 from rfl]; decide +kernel) (by simp)).2.2
    · rw [q6, (f4 48 i (by rw [show sl 48 i = 48 from rfl]; decide +kernel) (by simp)).2.2, q2]; exact (fR 48 i (by rw [show sl 48 i = 48 from rfl]; decide +kernel) (by simp)).2.2
  · have c1 := q_ng c
    obtain rfl := Option.some.inj e
    unfold f_Ground_read at e1
    obtain ⟨y, ey, e1⟩ := bo e1
    have q := rd_c A hl ey
    have fr := it_r (I := fun s : Int32 × Int32 × Int32 × Int32 × Int32 × Mem => Fx 32 [] A s.2.2.2.2.2) (Q := Sum.elim (fun r : Mem => Fx 32 [] A r) (Sum.elim (fun r : Int32 × Mem => Fx 32 [] A r.2) (fun r : Int32 × Int32 × Mem => Fx 32 [] A r.2.2))) (fun s r hs er => wl_Ground_read_14 s (sb_r _) hs er) ey Fx_r
    rcases y with y | y | y
    · exact q.elim
    · replace e1 := el_l (el_r e1)
      obtain rfl := Option.some.inj e1
      have fr : Fx (2 ^ 5) [] A y.2 := fr
      dsimp only at c1 e2
      refine .inl ⟨by show ((-1 : Int32) - y.1).toInt < 0; omega, fun kx i h1 h2 => ?_, fun kx i h1 => ?_⟩
      · show M2.1 kx i = _
        rw [e2, si_ne h2]; exact (fr kx i (sl_n (by omega) h1) (by simp)).1
      · show M2.2.1 kx i = _ ∧ M2.2.2 kx i = _
        rw [e2, si_2]; exact (fr kx i (sl_n (by omega) h1) (by simp)).2
    · exfalso
      replace e1 := el_r (el_r e1)
      obtain ⟨p, up, ok, tm, h1, h2, hk⟩ := q
      obtain ⟨x18, e18, e1⟩ := bo e1
      obtain rfl := Option.some.inj e1
      unfold f_Ground_become at e18
      obtain ⟨N1, n1, e18⟩ := mo e18
      obtain ⟨N2, n2, e18⟩ := mo e18
      obtain ⟨x7, e7, e18⟩ := bo e18
      obtain rfl := Option.some.inj e18
      dsimp only at c1
      omega
theorem tkd_b {t : Nat → Int} {f : Nat → Int32} {p : Nat} (h : tup t p) (hf : tkd t f p) {i : Nat} (hi : i < (trun t p).1) : 0 ≤ (f i).toInt ∧ (f i).toInt ≤ 3 := by
  obtain ⟨q, a, b, d⟩ := tcells h i hi
  have e := hf q a b
  rw [d] at e
  have k := h q a
  have nk := (k.1.2.2 (fun hh => hh.elim b k.2)).1
  have : tk (t q) = -1 ∨ (0 ≤ tk (t q) ∧ tk (t q) ≤ 3) := by
    unfold tk
    repeat' split
    all_goals omega
  omega
theorem town_2 {X R : Mem} {n : Nat} {x r : Int32 × Mem} (za : ZA X R n) (tx : ct X = ra R) (l : X.1 1 1 = R.1 162 10) (hb : ∀ p : Nat, (p : Int) < (R.1 162 10).toInt → -128 ≤ (R.1 167 p).toInt ∧ (R.1 167 p).toInt ≤ 127) (jr : J r.2) (ex : f_Top_town X = some x) (er : f_Mod_town R = some r) : x.1 = r.1 ∧ ∃ m, ZA x.2 r.2 m := by
  have l2 := Jr_162_10 za.1.2.1
  have hl : (X.1 1 1).toInt ≤ 80 := by rw [l]; exact l2.2
  have c := town_c hl ex
  have d := town_r l2.2 hb er
  unfold CT at c
  unfold RT2 at d
  rw [← tx] at d
  have fR := wf_Mod_town R (L := []) (sb_r _) Fx_r er
  rcases c with ⟨p, up, nt, a, _⟩ | ⟨p, up, ok, tm, a, c1, c2, ⟨fc, k1, k2⟩, c4⟩
  · rcases d with ⟨p', up', nt', a', d1⟩ | ⟨p', W, Y, up', ok', tm', _⟩
    · have e := tup_u up up' nt nt'
      subst e
      refine ⟨Int32.toInt_inj.mp (a.trans a'.symm), n, ?_⟩
      rcases town_c2 hl ex with ⟨_, f1, f2⟩ | ⟨b, _⟩
      · refine ZA_z za jr (fun kx i h => f1 kx i ?_ ?_) (fun i => (f2 33 i (by omega)).1) (fun i => (f2 34 i (by omega)).1) (fun i => (f2 47 i (by omega)).2) (fun i => (f2 48 i (by omega)).2) (fun kx i h => d1 kx i ?_ ?_ ?_)
        · unfold CXr CX at h; omega
        · unfold CXr CX at h; omega
        · unfold CRr CR at h; omega
        · unfold CRr CR at h; omega
        · unfold CRr CR at h; omega
      · omega
    · exact (tup_m up up' nt ok' tm').elim
  · rcases d with ⟨p', up', nt', _⟩ | ⟨p', W, Y, up', ok', tm', y6, w0, w6, t1, t2, a', d1, d2, ⟨fr, k3, k4⟩, d3, d4, d5, d6, d7, d8⟩
    · exact (tup_m up' up nt' ok tm).elim
    · have e := tup_e up up' tm tm'
      subst e
      refine ⟨Int32.toInt_inj.mp (a.trans (by rw [a', t1])), 0, ?_⟩
      rcases town_c2 hl ex with ⟨b, _⟩ | ⟨_, M6, e8, g1, g2, g3, g4, g5, g6, g7, g8, g9, g10, g11, g12, g13⟩
      · omega
      have f8 : Fx 60129542144 [] M6 x.2 := wf_Nets_lay 32 11 (-1 : Int32) M6 (by decide +kernel) (oc_c (sb_r _) (by decide +kernel)) (oc_c (sb_r _) (by decide +kernel)) (oc_c (sb_r _) (by decide +kernel)) Fx_r e8
      have zg : ZG M6 r.2 := by
        refine ⟨?_, ?_, fun i hi => ?_, fun i hi => ?_⟩
        · rw [← (f8 3 2 (by decide +kernel) (by simp)).1, c1, t2]; exact d1.symm
        · rw [← (f8 3 3 (by decide +kernel) (by simp)).1, c2, t1]
          show _ = (r.2.1 162 2).toInt * (r.2.1 162 3).toInt
          rw [d1, d2]; push_cast; rw [Int.mul_add]; omega
        · rw [← (f8 4 i (by rw [show sl 4 i = 4 from rfl]; decide +kernel) (by simp)).1, k2 i hi, k4 i hi]
          by_cases hc : i < (trun (ct X) p).1
          · rw [if_pos hc, if_pos hc]
            exact tkd_u up k1 k3 i hc
          · rw [if_neg hc, if_neg hc]
        · rw [k4 i hi]
          by_cases hc : i < (trun (ct X) p).1
          · rw [if_pos hc]
            exact tkd_b up k3 hc
          · rw [if_neg hc, o0]; omega
      have zc : ZC M6 r.2 0 := by
        refine ⟨by rw [d4]; rfl, by rw [g1, d4], by rw [g2, d5], fun p hp => by omega, fun p i hp => by omega, fun p _ => by rw [d5]; exact bt_0 p⟩
      have zl : ZL M6 r.2 := ZL_a g10 g11 (fR 162 23 (by decide +kernel) (by simp)).1 (fun i => (fR 172 i (by rw [show sl 172 i = 172 from rfl]; decide +kernel) (by simp)).1) za.1.2.2.1.2.2
      have z92 : (r.2.1 163 92).toInt = 0 := by rw [d6 92 (by omega)]; rfl
      have z94 : (r.2.1 163 94).toInt = 0 := by rw [d6 94 (by omega)]; rfl
      have zs : ZS (scn M6 11) (r.2.1 163) 0 := by
        refine ⟨fun p hp => by omega, fun p q hp => by omega, fun p q hp hq _ => g3 (8 * p + q) (by omega), ?_, fun j hj h => by omega, ?_, ?_, ?_⟩
        · show M6.1 11 6 = _; rw [g4, d6 92 (by omega)]
        · show M6.1 11 7 = _; rw [g5, d6 95 (by omega)]
        · show M6.1 11 8 = _; rw [g6, d6 93 (by omega)]
        · show M6.1 11 9 = _; rw [g7, d6 94 (by omega)]
      have zv : ZV r.2 (r.2.1 163) 0 := ⟨fun p hp => by omega, by omega, by omega, fun j hj => by omega⟩
      obtain ⟨zq, hfx, h35, h22⟩ := lay_q (by omega) jr ⟨zg, zc, zl⟩ zs zv e8
      have hx : HX X := za.2.1.1
      refine ⟨zq, ⟨⟨fun i hi => ?_, fun i j hi hj e => ?_⟩, 0, by omega, ?_, by rw [d7]; rfl, fun u hu => by omega⟩, fun t ht => ?_, fun t ht => ?_⟩
      · rw [hfx.2.1, g12]; exact hx.1 i hi
      · rw [hfx.2.1, g12, hfx.2.1, g12] at e; exact hx.2 i j hi hj e
      · rw [hfx.1.2.1, g8]; rfl
      · rw [hfx.2.2, g13]; exact za.2.2.1 t ht
      · have b3 : bt (x.2.1 46 3) t = false := by rw [hfx.1.2.2, g9]; exact bt_0 t
        refine ⟨?_, fun h => by rw [b3] at h; cases h⟩
        rw [b3, d8 t ht]
        constructor
        · intro h; cases h
        · intro h; exact absurd rfl h.1
