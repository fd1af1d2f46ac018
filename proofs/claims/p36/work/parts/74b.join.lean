section
/-! the rule, the town: both sides again -/
theorem rule_2 {X R : Mem} {n : Nat} {x r : Int32 × Mem} (za : ZA X R n) (hJ : J X) (tx : cx X 40 = rx R 40) (l : X.1 1 1 = R.1 162 10) (hb : ∀ p : Nat, (p : Int) < (R.1 162 10).toInt → -128 ≤ (R.1 167 p).toInt ∧ (R.1 167 p).toInt ≤ 127) (jr : J r.2) (ex : f_Top_rule X = some x) (er : f_Mod_rule R = some r) : x.1 = r.1 ∧ ZA x.2 r.2 n := by
  have q := zl_rule hJ tx l (Jr_162_10 za.1.2.1) hb za.1.2.2.1.2.2 ex er
  have fx := wf_Top_rule X (L := []) (sb_r _) Fx_r ex
  have fr := wf_Mod_rule R (L := []) (sb_r _) Fx_r er
  have a := cx_f0 (M := X) (x := x.2) (by decide +kernel) fx
  have b := cr_f0 (M := R) (x := r.2) (by decide +kernel) fr
  exact ⟨q.1, ZA_y za jr q.2 a.1 a.2.1 a.2.2.1 a.2.2.2.1 a.2.2.2.2 b⟩
theorem clr_i {M x : Mem} (e : f_Scene_clear 11 M = some x) : (∀ i, i < 64 → x.1 15 i = 0) ∧ x.1 11 6 = 0 ∧ x.1 11 7 = 0 ∧ x.1 11 8 = 0 ∧ x.1 11 9 = 0 := by
  unfold f_Scene_clear at e
  obtain ⟨_, e⟩ := io_n e
  obtain ⟨x3, e3, e⟩ := bo e
  obtain ⟨x6, e6, e⟩ := bo e
  obtain ⟨M7, m7, e⟩ := mo e
  obtain ⟨M8, m8, e⟩ := mo e
  obtain ⟨M9, m9, e⟩ := mo e
  obtain ⟨M10, m10, e⟩ := mo e
  obtain rfl := Option.some.inj e
  have r3 : rf 11 3 = 15 := by decide +kernel
  have k : ∀ i, i < 64 → x6.1 15 i = 0 := by
    refine it_r (I := fun s : Int32 × Mem => ∃ p : Nat, s.1.toInt = (p : Int) ∧ p ≤ 64 ∧ ∀ i, i < p → s.2.1 15 i = 0) (Q := fun y : Mem => ∀ i, i < 64 → y.1 15 i = 0) ?_ e6 ⟨0, rfl, by omega, fun i hi => by omega⟩
    rintro ⟨v, N⟩ r ⟨p, hp, p64, hk⟩ e
    unfold lb_Scene_clear_23 at e
    dsimp only at e hp hk
    have z64 : (64 : Int32).toInt = 64 := rfl
    rcases io e with ⟨c, e⟩ | ⟨c, e⟩
    · have := q_le c
      obtain rfl := Option.some.inj e
      exact fun i hi => hk i (by omega)
    have c1 := q_ng c
    obtain ⟨_, e⟩ := io_n e
    obtain ⟨M4, m4, e⟩ := mo e
    obtain rfl := Option.some.inj e
    refine ⟨p + 1, add_ti hp o1 (by omega) (by omega), by omega, fun i hi => ?_⟩
    dsimp only
    rw [m4, r3, q_nat hp]
    rcases Nat.lt_or_ge i p with g | g
    · rw [si_ne (by omega)]; exact hk i g
    · have : i = p := by omega
      subst this
      rw [si_eq]
  refine ⟨fun i hi => ?_, ?_, ?_, ?_, ?_⟩
  · rw [m10, si_ne (by omega), m9, si_ne (by omega), m8, si_ne (by omega), m7, si_ne (by omega)]; exact k i hi
  · rw [m10, si_ne (by omega), m9, si_ne (by omega), m8, si_ne (by omega), m7, si_eq]
  · rw [m10, si_ne (by omega), m9, si_ne (by omega), m8, si_eq]
  · rw [m10, si_ne (by omega), m9, si_eq]
  · rw [m10, si_eq]
def TW (A M6 : Mem) : Prop := M6.1 6 4 = 0 ∧ M6.1 6 5 = 0 ∧ (∀ i, i < 64 → M6.1 15 i = 0) ∧ M6.1 11 6 = 0 ∧ M6.1 11 7 = 0 ∧ M6.1 11 8 = 0 ∧ M6.1 11 9 = 0 ∧ M6.1 46 2 = 0 ∧ M6.1 46 3 = 0 ∧ M6.1 40 4 = A.1 40 4 ∧ (∀ i, M6.1 41 i = A.1 41 i) ∧ (∀ i, M6.2.2 47 i = A.2.2 47 i) ∧ (∀ i, M6.2.2 48 i = A.2.2 48 i)
theorem town_c2 {A : Mem} (hl : (A.1 1 1).toInt ≤ 80) {x} (e : f_Top_town A = some x) : (x.1.toInt < 0 ∧ (∀ kx i, kx ≠ 5 → ¬ (kx = 1 ∧ i = 1) → x.2.1 kx i = A.1 kx i) ∧ (∀ kx i, kx ≠ 5 → x.2.2.1 kx i = A.2.1 kx i ∧ x.2.2.2 kx i = A.2.2 kx i)) ∨ (0 ≤ x.1.toInt ∧ ∃ M6, f_Nets_lay 32 11 (-1 : Int32) M6 = some x.2 ∧ TW A M6) := by
  have z0 : (0 : Int32).toInt = 0 := rfl
  unfold f_Top_town at e
  obtain ⟨x1, e1, e⟩ := bo e
  obtain ⟨M2, e2, e⟩ := mo e
  have fR := wf_Ground_read A (L := []) (sb_r _) Fx_r e1
  rcases io e with ⟨c, e⟩ | ⟨c, e⟩
  · have c1 := q_le c
    obtain ⟨x3, e3, e⟩ := bo e
    obtain ⟨x4, e4, e⟩ := bo e
    obtain ⟨x5, e5, e⟩ := bo e
    obtain ⟨M6, e6, e⟩ := mo e
    obtain ⟨x8, e8, e⟩ := bo e
    obtain rfl := Option.some.inj e
    have f4 : Fx 63488 [] x3 x4 := wf_Scene_clear 11 x3 (by decide +kernel) (oc_c (sb_r _) (by decide +kernel)) (oc_c (sb_r _) (by decide +kernel)) (oc_c (sb_r _) (by decide +kernel)) (oc_c (sb_r _) (by decide +kernel)) (oc_c (sb_r _) (by decide +kernel)) Fx_r e4
    obtain ⟨k1, k2, k3, k4, k5⟩ := clr_i e4
    unfold f_Crowd_clear at e3
    obtain ⟨N1, n1, e3⟩ := mo e3
    obtain ⟨N2, n2, e3⟩ := mo e3
    obtain rfl := Option.some.inj e3
    unfold f_History_clear f_History_forget f_History_spoil at e5
    obtain ⟨y1, e51, e5⟩ := bo e5
    obtain ⟨K1, p1, e51⟩ := mo e51
    obtain rfl := Option.some.inj e51
    obtain ⟨y2, e52, e5⟩ := bo e5
    obtain ⟨K2, p2, e52⟩ := mo e52
    obtain rfl := Option.some.inj e52
    obtain rfl := Option.some.inj e5
    have f6 : ∀ kx i, ¬ (kx = 0 ∧ i = 16) → ¬ (kx = 46 ∧ (i = 2 ∨ i = 3)) → M6.1 kx i = x4.1 kx i := fun kx i h1 h2 => by rw [e6, si_ne h1, p2, si_ne (by omega), p1, si_ne (by omega)]
    have f2 : ∀ kx i, ¬ (kx = 6 ∧ (i = 4 ∨ i = 5)) → ¬ (kx = 1 ∧ i = 1) → N2.1 kx i = x1.2.1 kx i := fun kx i h1 h2 => by rw [n2, si_ne (by omega), n1, si_ne (by omega), e2, si_ne h2]
    have q6 : M6.2 = x4.2 := by rw [e6, si_2, p2, si_2, p1, si_2]
    have q2 : N2.2 = x1.2.2 := by rw [n2, si_2, n1, si_2, e2, si_2]
    refine .inr ⟨by show 0 ≤ x1.1.toInt; omega, M6, e8, ?_, ?_, fun i hi => ?_, ?_, ?_, ?_, ?_, ?_, ?_, ?_, fun i => ?_, fun i => ?_, fun i => ?_⟩
    · rw [f6 6 4 (by omega) (by omega), (f4 6 4 (by decide +kernel) (by simp)).1, n2, si_ne (by omega), n1, si_eq]
    · rw [f6 6 5 (by omega) (by omega), (f4 6 5 (by decide +kernel) (by simp)).1, n2, si_eq]
    · rw [f6 15 i (by omega) (by omega)]; exact k1 i hi
    · rw [f6 11 6 (by omega) (by omega)]; exact k2
    · rw [f6 11 7 (by omega) (by omega)]; exact k3
    · rw [f6 11 8 (by omega) (by omega)]; exact k4
    · rw [f6 11 9 (by omega) (by omega)]; exact k5
    · rw [e6, si_ne (by omega), p2, si_ne (by omega), p1, si_eq]
    · rw [e6, si_ne (by omega), p2, si_eq]
    · rw [f6 40 4 (by omega) (by omega), (f4 40 4 (by decide +kernel) (by simp)).1, f2 40 4 (by omega) (by omega)]; exact (fR 40 4 (by decide +kernel) (by simp)).1
    · rw [f6 41 i (by omega) (by omega), (f4 41 i (by rw [show sl 41 i = 41 from rfl]; decide +kernel) (by simp)).1, f2 41 i (by omega) (by omega)]; exact (fR 41 i (by rw [show sl 41 i = 41 from rfl]; decide +kernel) (by simp)).1
    · rw [q6, (f4 47 i (by rw [show sl 47 i = 47 from rfl]; decide +kernel) (by simp)).2.2, q2]; exact (fR 47 i (by rw [show sl 47 i = 47 from rfl]; decide +kernel) (by simp)).2.2
    · rw [q6, (f4 48 i (by rw [show sl 48 i = 48 from rfl]; decide +kernel) (by simp)).2.2, q2]; exact (fR 48 i (by rw [show sl 48 i = 48 from rfl]; decide +kernel) (by simp)).2.2
  · have c1 := q_ng c
    obtain rfl := Option.some.inj e
    unfold f_Ground_read at e1
    obtain ⟨y, ey, e1⟩ := bo e1
    have q := rd_c A hl ey
    have fr := it_r (I := fun s : Int32 × Int32 × Int32 × Int32 × Int32 × Mem => Fx 32 [] A s.2.2.2.2.2) (Q := Sum.elim (fun r : Mem => Fx 32 [] A r) (Sum.elim (fun r : Int32 × Mem => Fx 32 [] A r.2) (fun r : Int32 × Int32 × Mem => Fx 32 [] A r.2.2))) (fun s r hs er => wl_Ground_read_14 s (sb_r _) hs er) ey Fx_r
    rcases y with y | y | y
    · exact q.elim
    · replace e1 := el_l (el_r e1)
      obtain rfl := Option.some.inj e1
      have fr : Fx (2 ^ 5) [] A y.2 := fr
      dsimp only at c1 e2
      refine .inl ⟨by show ((-1 : Int32) - y.1).toInt < 0; omega, fun kx i h1 h2 => ?_, fun kx i h1 => ?_⟩
      · show M2.1 kx i = _
        rw [e2, si_ne h2]; exact (fr kx i (sl_n (by omega) h1) (by simp)).1
      · show M2.2.1 kx i = _ ∧ M2.2.2 kx i = _
        rw [e2, si_2]; exact (fr kx i (sl_n (by omega) h1) (by simp)).2
    · exfalso
      replace e1 := el_r (el_r e1)
      obtain ⟨p, up, ok, tm, h1, h2, hk⟩ := q
      obtain ⟨x18, e18, e1⟩ := bo e1
      obtain rfl := Option.some.inj e1
      unfold f_Ground_become at e18
      obtain ⟨N1, n1, e18⟩ := mo e18
      obtain ⟨N2, n2, e18⟩ := mo e18
      obtain ⟨x7, e7, e18⟩ := bo e18
      obtain rfl := Option.some.inj e18
      dsimp only at c1
      omega
theorem tkd_b {t : Nat → Int} {f : Nat → Int32} {p : Nat} (h : tup t p) (hf : tkd t f p) {i : Nat} (hi : i < (trun t p).1) : 0 ≤ (f i).toInt ∧ (f i).toInt ≤ 3 := by
  obtain ⟨q, a, b, d⟩ := tcells h i hi
  have e := hf q a b
  rw [d] at e
  have k := h q a
  have nk := (k.1.2.2 (fun hh => hh.elim b k.2)).1
  have : tk (t q) = -1 ∨ (0 ≤ tk (t q) ∧ tk (t q) ≤ 3) := by
    unfold tk
    repeat' split
    all_goals omega
  omega
theorem town_2 {X R : Mem} {n : Nat} {x r : Int32 × Mem} (za : ZA X R n) (tx : ct X = ra R) (l : X.1 1 1 = R.1 162 10) (hb : ∀ p : Nat, (p : Int) < (R.1 162 10).toInt → -128 ≤ (R.1 167 p).toInt ∧ (R.1 167 p).toInt ≤ 127) (jr : J r.2) (ex : f_Top_town X = some x) (er : f_Mod_town R = some r) : x.1 = r.1 ∧ ∃ m, ZA x.2 r.2 m := by
  have l2 := Jr_162_10 za.1.2.1
  have hl : (X.1 1 1).toInt ≤ 80 := by rw [l]; exact l2.2
  have c := town_c hl ex
  have d := town_r l2.2 hb er
  unfold CT at c
  unfold RT2 at d
  rw [← tx] at d
  have fR := wf_Mod_town R (L := []) (sb_r _) Fx_r er
  rcases c with ⟨p, up, nt, a, _⟩ | ⟨p, up, ok, tm, a, c1, c2, ⟨fc, k1, k2⟩, c4⟩
  · rcases d with ⟨p', up', nt', a', d1⟩ | ⟨p', W, Y, up', ok', tm', _⟩
    · have e := tup_u up up' nt nt'
      subst e
      refine ⟨Int32.toInt_inj.mp (a.trans a'.symm), n, ?_⟩
      rcases town_c2 hl ex with ⟨_, f1, f2⟩ | ⟨b, _⟩
      · refine ZA_z za jr (fun kx i h => f1 kx i ?_ ?_) (fun i => (f2 33 i (by omega)).1) (fun i => (f2 34 i (by omega)).1) (fun i => (f2 47 i (by omega)).2) (fun i => (f2 48 i (by omega)).2) (fun kx i h => d1 kx i ?_ ?_ ?_)
        · unfold CXr CX at h; omega
        · unfold CXr CX at h; omega
        · unfold CRr CR at h; omega
        · unfold CRr CR at h; omega
        · unfold CRr CR at h; omega
      · omega
    · exact (tup_m up up' nt ok' tm').elim
  · rcases d with ⟨p', up', nt', _⟩ | ⟨p', W, Y, up', ok', tm', y6, w0, w6, t1, t2, a', d1, d2, ⟨fr, k3, k4⟩, d3, d4, d5, d6, d7, d8⟩
    · exact (tup_m up' up nt' ok tm).elim
    · have e := tup_e up up' tm tm'
      subst e
      refine ⟨Int32.toInt_inj.mp (a.trans (by rw [a', t1])), 0, ?_⟩
      rcases town_c2 hl ex with ⟨b, _⟩ | ⟨_, M6, e8, g1, g2, g3, g4, g5, g6, g7, g8, g9, g10, g11, g12, g13⟩
      · omega
      have f8 : Fx 60129542144 [] M6 x.2 := wf_Nets_lay 32 11 (-1 : Int32) M6 (by decide +kernel) (oc_c (sb_r _) (by decide +kernel)) (oc_c (sb_r _) (by decide +kernel)) (oc_c (sb_r _) (by decide +kernel)) Fx_r e8
      have zg : ZG M6 r.2 := by
        refine ⟨?_, ?_, fun i hi => ?_, fun i hi => ?_⟩
        · rw [← (f8 3 2 (by decide +kernel) (by simp)).1, c1, t2]; exact d1.symm
        · rw [← (f8 3 3 (by decide +kernel) (by simp)).1, c2, t1]
          show _ = (r.2.1 162 2).toInt * (r.2.1 162 3).toInt
          rw [d1, d2]; push_cast; rw [Int.mul_add]; omega
        · rw [← (f8 4 i (by rw [show sl 4 i = 4 from rfl]; decide +kernel) (by simp)).1, k2 i hi, k4 i hi]
          by_cases hc : i < (trun (ct X) p).1
          · rw [if_pos hc, if_pos hc]
            exact tkd_u up k1 k3 i hc
          · rw [if_neg hc, if_neg hc]
        · rw [k4 i hi]
          by_cases hc : i < (trun (ct X) p).1
          · rw [if_pos hc]
            exact tkd_b up k3 hc
          · rw [if_neg hc, o0]; omega
      have zc : ZC M6 r.2 0 := by
        refine ⟨by rw [d4]; rfl, by rw [g1, d4], by rw [g2, d5], fun p hp => by omega, fun p i hp => by omega, fun p _ => by rw [d5]; exact bt_0 p⟩
      have zl : ZL M6 r.2 := ZL_a g10 g11 (fR 162 23 (by decide +kernel) (by simp)).1 (fun i => (fR 172 i (by rw [show sl 172 i = 172 from rfl]; decide +kernel) (by simp)).1) za.1.2.2.1.2.2
      have z92 : (r.2.1 163 92).toInt = 0 := by rw [d6 92 (by omega)]; rfl
      have z94 : (r.2.1 163 94).toInt = 0 := by rw [d6 94 (by omega)]; rfl
      have zs : ZS (scn M6 11) (r.2.1 163) 0 := by
        refine ⟨fun p hp => by omega, fun p q hp => by omega, fun p q hp hq _ => g3 (8 * p + q) (by omega), ?_, fun j hj h => by omega, ?_, ?_, ?_⟩
        · show M6.1 11 6 = _; rw [g4, d6 92 (by omega)]
        · show M6.1 11 7 = _; rw [g5, d6 95 (by omega)]
        · show M6.1 11 8 = _; rw [g6, d6 93 (by omega)]
        · show M6.1 11 9 = _; rw [g7, d6 94 (by omega)]
      have zv : ZV r.2 (r.2.1 163) 0 := ⟨fun p hp => by omega, by omega, by omega, fun j hj => by omega⟩
      obtain ⟨zq, hfx, h35, h22⟩ := lay_q (by omega) jr ⟨zg, zc, zl⟩ zs zv e8
      have hx : HX X := za.2.1.1
      refine ⟨zq, ⟨⟨fun i hi => ?_, fun i j hi hj e => ?_⟩, 0, by omega, ?_, by rw [d7]; rfl, fun u hu => by omega⟩, fun t ht => ?_, fun t ht => ?_⟩
      · rw [hfx.2.1, g12]; exact hx.1 i hi
      · rw [hfx.2.1, g12, hfx.2.1, g12] at e; exact hx.2 i j hi hj e
      · rw [hfx.1.2.1, g8]; rfl
      · rw [hfx.2.2, g13]; exact za.2.2.1 t ht
      · have b3 : bt (x.2.1 46 3) t = false := by rw [hfx.1.2.2, g9]; exact bt_0 t
        refine ⟨?_, fun h => by rw [b3] at h; cases h⟩
        rw [b3, d8 t ht]
        constructor
        · intro h; cases h
        · intro h; exact absurd rfl h.1
end
section
/-! routes read, both sides -/
def stp (c : Int) : Int := if c = 117 then 0 else if c = 114 then 1 else if c = 100 then 2 else if c = 108 then 3 else if c = 111 then 4 else -1
def rtn (t : Nat → Int) : Nat → Nat → Nat
  | 0, _ => 0
  | K + 1, p => if stp (t p) = -1 then 0 else rtn t K (p + 1) + 1
theorem rtn_c {t : Nat → Int} {K p j : Nat} (hj : j ≤ K) (h1 : ∀ i, i < j → stp (t (p + i)) ≠ -1) (h2 : j = K ∨ stp (t (p + j)) = -1) : rtn t K p = j := by
  induction K generalizing p j with
  | zero =>
    have : j = 0 := by omega
    subst this
    rfl
  | succ K ih =>
    unfold rtn
    cases j with
    | zero =>
      rcases h2 with h | h
      · omega
      · rw [if_pos (by simpa using h)]
    | succ j =>
      have a := h1 0 (by omega)
      rw [if_neg (by simpa using a)]
      have := ih (p := p + 1) (j := j) (by omega) (fun i hi => by have := h1 (i + 1) (by omega); rwa [show p + (i + 1) = p + 1 + i by omega] at this) (by
        rcases h2 with h | h
        · exact .inl (by omega)
        · exact .inr (by rwa [show p + (j + 1) = p + 1 + j by omega] at h))
      rw [this]
theorem stp_b (c : Int) : stp c = -1 ∨ (0 ≤ stp c ∧ stp c ≤ 4 ∧ 100 ≤ c ∧ c ≤ 117) := by
  unfold stp
  repeat' split
  all_goals omega
theorem stpC {v x : Int32} (e : f_Signs_stepOf v = some x) : x.toInt = stp v.toInt := by
  have k1 : (100 : Int32).toInt = 100 := rfl
  have k2 : (108 : Int32).toInt = 108 := rfl
  have k3 : (111 : Int32).toInt = 111 := rfl
  have k4 : (114 : Int32).toInt = 114 := rfl
  have k5 : (117 : Int32).toInt = 117 := rfl
  unfold f_Signs_stepOf at e
  rcases io e with ⟨c, e⟩ | ⟨c, e⟩
  · obtain rfl := Option.some.inj e; rw [c, k1]; rfl
  have c1 := q_ne c
  rcases io e with ⟨c, e⟩ | ⟨c, e⟩
  · obtain rfl := Option.some.inj e; rw [c, k2]; rfl
  have c2 := q_ne c
  rcases io e with ⟨c, e⟩ | ⟨c, e⟩
  · obtain rfl := Option.some.inj e; rw [c, k3]; rfl
  have c3 := q_ne c
  rcases io e with ⟨c, e⟩ | ⟨c, e⟩
  · obtain rfl := Option.some.inj e; rw [c, k4]; rfl
  have c4 := q_ne c
  rcases io e with ⟨c, e⟩ | ⟨c, e⟩
  · obtain rfl := Option.some.inj e; rw [c, k5]; rfl
  have c5 := q_ne c
  obtain rfl := Option.some.inj e
  unfold stp
  rw [if_neg (by omega), if_neg (by omega), if_neg (by omega), if_neg (by omega), if_neg (by omega)]; rfl
theorem stpR {v x : Int32} (e : f_Mod_stepOf v = some x) : x.toInt = stp v.toInt := by
  have k1 : (100 : Int32).toInt = 100 := rfl
  have k2 : (108 : Int32).toInt = 108 := rfl
  have k3 : (111 : Int32).toInt = 111 := rfl
  have k4 : (114 : Int32).toInt = 114 := rfl
  have k5 : (117 : Int32).toInt = 117 := rfl
  unfold f_Mod_stepOf at e
  rcases io e with ⟨c, e⟩ | ⟨c, e⟩
  · obtain rfl := Option.some.inj e; rw [c, k5]; rfl
  have c1 := q_ne c
  rcases io e with ⟨c, e⟩ | ⟨c, e⟩
  · obtain rfl := Option.some.inj e; rw [c, k4]; rfl
  have c2 := q_ne c
  rcases io e with ⟨c, e⟩ | ⟨c, e⟩
  · obtain rfl := Option.some.inj e; rw [c, k1]; rfl
  have c3 := q_ne c
  rcases io e with ⟨c, e⟩ | ⟨c, e⟩
  · obtain rfl := Option.some.inj e; rw [c, k2]; rfl
  have c4 := q_ne c
  rcases io e with ⟨c, e⟩ | ⟨c, e⟩
  · obtain rfl := Option.some.inj e; rw [c, k3]; rfl
  have c5 := q_ne c
  obtain rfl := Option.some.inj e
  unfold stp
  rw [if_neg (by omega), if_neg (by omega), if_neg (by omega), if_neg (by omega), if_neg (by omega)]; rfl
theorem ln_rt : ln 10 = 9 ∧ ln 7 = 72 ∧ ln 171 = 9 ∧ ln 170 = 96 := by decide +kernel
theorem steps_i {A : Mem} {v1 v2 v4 : Int32} {v3 p K o : Nat} (hl : (A.1 1 1).toInt ≤ 80) (h1 : v1.toInt = (p : Int)) (p80 : p ≤ 100) (h2 : v2.toInt = (K : Int)) (h3 : v3 = 10 ∨ v3 = 7) (h4 : v4.toInt = (o : Int)) (ho : o + 9 ≤ ln v3) {x} (e : f_Signs_steps v1 v2 v3 v4 A = some x) : x.1.toInt = (rtn (cx A K) 9 p : Int) ∧ (∀ i, i < rtn (cx A K) 9 p → (x.2.1 v3 (o + i)).toInt = stp (cx A K (p + i)) ∧ stp (cx A K (p + i)) ≠ -1) ∧ (∀ kx i, ¬ (kx = v3 ∧ o ≤ i ∧ i < o + 9) → x.2.1 kx i = A.1 kx i) ∧ x.2.2 = A.2 := by
  have hln : ln v3 ≤ 72 := by
    have := ln_rt
    rcases h3 with rfl | rfl <;> omega
  have n12 : v3 ≠ 1 ∧ v3 ≠ 2 := by rcases h3 with rfl | rfl <;> decide
  unfold f_Signs_steps at e
  obtain ⟨_, e⟩ := io_n e
  obtain ⟨x9, e9, e⟩ := bo e
  obtain rfl := Option.some.inj e
  refine it_r (I := fun s : Int32 × Int32 × Mem => ∃ j k : Nat, s.1.toInt = (j : Int) ∧ s.2.1.toInt = (k : Int) ∧ k ≤ 9 ∧ (∀ i, i < j → (s.2.2.1 v3 (o + i)).toInt = stp (cx A K (p + i)) ∧ stp (cx A K (p + i)) ≠ -1) ∧ (j = k ∨ (j < k ∧ stp (cx A K (p + j)) = -1)) ∧ (∀ kx i, ¬ (kx = v3 ∧ o ≤ i ∧ i < o + 9) → s.2.2.1 kx i = A.1 kx i) ∧ s.2.2.2 = A.2) (Q := fun x : Int32 × Mem => x.1.toInt = (rtn (cx A K) 9 p : Int) ∧ (∀ i, i < rtn (cx A K) 9 p → (x.2.1 v3 (o + i)).toInt = stp (cx A K (p + i)) ∧ stp (cx A K (p + i)) ≠ -1) ∧ (∀ kx i, ¬ (kx = v3 ∧ o ≤ i ∧ i < o + 9) → x.2.1 kx i = A.1 kx i) ∧ x.2.2 = A.2) ?_ e9 ⟨0, 0, rfl, rfl, by omega, fun i hi => by omega, .inl rfl, fun _ _ _ => rfl, rfl⟩
  rintro ⟨a, b, N⟩ r ⟨j, k, ha, hb, k9, hv, hj, hf, hq⟩ e
  dsimp only at ha hb hv hf hq
  have z9 : (9 : Int32).toInt = 9 := rfl
  have jk : j ≤ k := by omega
  have fin : (j = 9 ∨ stp (cx A K (p + j)) = -1) → rtn (cx A K) 9 p = j := fun h => rtn_c (by omega) (fun i hi => (hv i hi).2) h
  unfold lb_Signs_steps_6 at e
  dsimp only at e
  rcases io e with ⟨c, e⟩ | ⟨c, e⟩
  · have := q_le c
    obtain rfl := Option.some.inj e
    have f := fin (by omega)
    refine ⟨by rw [f]; exact ha, fun i hi => hv i (by omega), hf, hq⟩
  have c1 := q_ng c
  rcases io e with ⟨c, e⟩ | ⟨c, e⟩
  · have cc := q_eq c
    have hjk : j = k := by omega
    subst hjk
    obtain ⟨x1, e1, e⟩ := bo e
    obtain ⟨x2, e2, e⟩ := bo e
    have hN : cx N K = cx A K := cx_c (hf 1 1 (by omega)) (fun i => hf 2 i (by omega)) K
    have hv1 : (v1 + b).toInt = ((p + j : Nat) : Int) := add_ti h1 hb (by omega) (by omega)
    have ha1 := at_i (K := K) hv1 h2 (by rw [hf 1 1 (by omega)]; exact hl) e1
    rw [hN] at ha1
    have hs := stpC e2
    rw [ha1] at hs
    have nb : (b + (1 : Int32)).toInt = ((j + 1 : Nat) : Int) := add_ti hb o1 (by omega) (by omega)
    rcases io e with ⟨c, e⟩ | ⟨c, e⟩
    · have := q_eq c
      have hm := om
      obtain rfl := Option.some.inj e
      exact ⟨j, j + 1, ha, nb, by omega, hv, .inr ⟨by omega, by omega⟩, hf, hq⟩
    have c2 := q_ne c
    have hm := om
    have z0 := o0
    rcases io e with ⟨c, e⟩ | ⟨c, e⟩
    · have := q_lt c; omega
    have h5 : (v4 + b).toInt = ((o + j : Nat) : Int) := add_ti h4 hb (by omega) (by omega)
    rcases io e with ⟨c, e⟩ | ⟨c, e⟩
    · have := q_le c
      rw [ofn_ti (by omega), h5] at this
      omega
    obtain ⟨_, e⟩ := io_n e
    obtain ⟨M3, e3, e⟩ := mo e
    obtain rfl := Option.some.inj e
    rw [q_nat h5] at e3
    refine ⟨j + 1, j + 1, add_ti ha o1 (by omega) (by omega), nb, by omega, fun i hi => ?_, .inl rfl, fun kx i h => ?_, ?_⟩
    · dsimp only
      rw [e3]
      rcases Nat.lt_or_ge i j with g | g
      · rw [si_ne (by omega)]; exact hv i g
      · have : i = j := by omega
        subst this
        rw [si_eq]
        exact ⟨hs, by omega⟩
    · dsimp only
      rw [e3, si_ne (by omega)]; exact hf kx i h
    · dsimp only
      rw [e3, si_2]; exact hq
  · have cc := q_ne c
    obtain rfl := Option.some.inj e
    have f := fin (by omega)
    exact ⟨by rw [f]; exact ha, fun i hi => hv i (by omega), hf, hq⟩
theorem here_s {t : Nat → Int} {N : Mem} (h : Rd t N) {p : Nat} (hp : (N.1 162 17).toInt = (p : Int)) {x y : Int32} (e : f_Mod_here N = some x) (e2 : f_Mod_stepOf x = some y) : y.toInt = stp (t p) := by
  have a := stpR e2
  rcases here_i h hp e with ⟨b, _⟩ | ⟨b, c⟩
  · rw [a, b]
  · have h1 := stp_b x.toInt
    have h2 := stp_b (t p)
    omega
theorem Rd_f {t : Nat → Int} {A N : Mem} (h : Rd t A) (f14 : N.2.2 162 14 = A.2.2 162 14) (f15 : N.1 162 15 = A.1 162 15) (f16 : N.1 162 16 = A.1 162 16) (f167 : ∀ i, N.1 167 i = A.1 167 i) (f172 : ∀ i, N.1 172 i = A.1 172 i) : Rd t N := by
  obtain ⟨b, h1, h2, h3, h4⟩ := h
  have fb : ∀ p, N.1 b p = A.1 b p := by
    intro p
    rcases h2 with rfl | rfl
    · exact f167 p
    · exact f172 p
  refine ⟨b, by rw [f14]; exact h1, h2, by rw [f15]; exact h3, fun p => ?_⟩
  rw [f15, f16, fb]; exact h4 p
def RW (t : Nat → Int) (p : Nat) (w : Int) : Prop := (rtn t 9 p = 0 ∧ w = (p : Int)) ∨ (rtn t 9 p = 9 ∧ stp (t (p + 9)) ≠ -1 ∧ w = ((p + 9 : Nat) : Int)) ∨ (0 < rtn t 9 p ∧ stp (t (p + rtn t 9 p)) = -1 ∧ w = -1)
theorem route_i {t : Nat → Int} {A : Mem} {v1 o p : Nat} {v2 : Int32} (hA : Rd t A) (hv : v1 = 171 ∨ v1 = 170) (h2 : v2.toInt = (o : Int)) (ho : o + 9 ≤ ln v1) (hp : (A.1 162 17).toInt = (p : Int)) (hw : (A.1 162 18).toInt = -1) (p80 : p ≤ 100) {x} (e : f_Mod_readRoute v1 v2 A = some x) : x.1.toInt = (rtn t 9 p : Int) ∧ (x.2.1 162 17).toInt = ((p + rtn t 9 p : Nat) : Int) ∧ (∀ i, i < rtn t 9 p → (x.2.1 v1 (o + i)).toInt = stp (t (p + i)) ∧ stp (t (p + i)) ≠ -1) ∧ RW t p (x.2.1 162 18).toInt ∧ (∀ kx i, ¬ (kx = v1 ∧ o ≤ i ∧ i < o + 9) → ¬ (kx = 162 ∧ (i = 17 ∨ i = 18)) → x.2.1 kx i = A.1 kx i) ∧ x.2.2 = A.2 := by
  have hln : ln v1 ≤ 96 := by
    have := ln_rt
    rcases hv with rfl | rfl <;> omega
  have nv : v1 ≠ 162 ∧ v1 ≠ 167 ∧ v1 ≠ 172 := by rcases hv with rfl | rfl <;> decide
  unfold f_Mod_readRoute at e
  obtain ⟨_, e⟩ := io_n e
  obtain ⟨x12, e12, e⟩ := bo e
  have key : ∃ j : Nat, j ≤ 9 ∧ x12.1.toInt = (j : Int) ∧ (x12.2.1 162 17).toInt = ((p + j : Nat) : Int) ∧ (∀ i, i < j → (x12.2.1 v1 (o + i)).toInt = stp (t (p + i)) ∧ stp (t (p + i)) ≠ -1) ∧ (((x12.2.1 162 18).toInt = -1 ∧ stp (t (p + j)) = -1) ∨ (j = 9 ∧ stp (t (p + 9)) ≠ -1 ∧ (x12.2.1 162 18).toInt = ((p + 9 : Nat) : Int))) ∧ (∀ kx i, ¬ (kx = v1 ∧ o ≤ i ∧ i < o + 9) → ¬ (kx = 162 ∧ (i = 17 ∨ i = 18)) → x12.2.1 kx i = A.1 kx i) ∧ x12.2.2 = A.2 := by
    refine it_r (I := fun s : Int32 × Mem => ∃ j : Nat, j ≤ 9 ∧ s.1.toInt = (j : Int) ∧ (s.2.1 162 17).toInt = ((p + j : Nat) : Int) ∧ (∀ i, i < j → (s.2.1 v1 (o + i)).toInt = stp (t (p + i)) ∧ stp (t (p + i)) ≠ -1) ∧ ((s.2.1 162 18).toInt = -1 ∨ (j = 9 ∧ stp (t (p + 9)) ≠ -1 ∧ (s.2.1 162 18).toInt = ((p + 9 : Nat) : Int))) ∧ (∀ kx i, ¬ (kx = v1 ∧ o ≤ i ∧ i < o + 9) → ¬ (kx = 162 ∧ (i = 17 ∨ i = 18)) → s.2.1 kx i = A.1 kx i) ∧ s.2.2 = A.2) (Q := fun x12 : Int32 × Mem => ∃ j : Nat, j ≤ 9 ∧ x12.1.toInt = (j : Int) ∧ (x12.2.1 162 17).toInt = ((p + j : Nat) : Int) ∧ (∀ i, i < j → (x12.2.1 v1 (o + i)).toInt = stp (t (p + i)) ∧ stp (t (p + i)) ≠ -1) ∧ (((x12.2.1 162 18).toInt = -1 ∧ stp (t (p + j)) = -1) ∨ (j = 9 ∧ stp (t (p + 9)) ≠ -1 ∧ (x12.2.1 162 18).toInt = ((p + 9 : Nat) : Int))) ∧ (∀ kx i, ¬ (kx = v1 ∧ o ≤ i ∧ i < o + 9) → ¬ (kx = 162 ∧ (i = 17 ∨ i = 18)) → x12.2.1 kx i = A.1 kx i) ∧ x12.2.2 = A.2) ?_ e12 ⟨0, by omega, rfl, by rw [hp]; omega, fun i hi => by omega, .inl hw, fun _ _ _ _ => rfl, rfl⟩
    rintro ⟨a, N⟩ r ⟨j, j9, ha, hat, hc, hww, hf, hq⟩ e
    dsimp only at ha hat hc hww hf hq
    unfold lb_Mod_readRoute_2 at e
    dsimp only at e
    obtain ⟨x1, e1, e⟩ := bo e
    rcases fine_i e1 with ⟨b1, b2⟩ | ⟨b1, b2⟩
    · rw [b1, if_pos rfl] at e
      obtain rfl := Option.some.inj e
      exact ⟨j, j9, ha, hat, hc, .inr (hww.resolve_left b2), hf, hq⟩
    rw [b1, if_neg (by decide)] at e
    obtain ⟨x2, e2, e⟩ := bo e
    obtain ⟨x3, e3, e⟩ := bo e
    have hN : Rd t N := Rd_f hA (by rw [hq]) (hf 162 15 (by omega) (by omega)) (hf 162 16 (by omega) (by omega)) (fun i => hf 167 i (by omega) (by omega)) (fun i => hf 172 i (by omega) (by omega))
    have hs := here_s hN hat e2 e3
    have hm := om
    rcases io e with ⟨c, e⟩ | ⟨c, e⟩
    · have := q_eq c
      obtain rfl := Option.some.inj e
      exact ⟨j, j9, ha, hat, hc, .inl ⟨b2, by omega⟩, hf, hq⟩
    have c2 := q_ne c
    have z9 : (9 : Int32).toInt = 9 := rfl
    have b80 : p + j < 80 := by
      have h1 := (Rd_rng hN (p + j)).2.2
      have h2 := stp_b (t (p + j))
      exact h1 (by omega)
    rcases io e with ⟨c, e⟩ | ⟨c, e⟩
    · have c3 := q_eq c
      obtain ⟨x8, e8, e⟩ := bo e
      obtain rfl := Option.some.inj e
      have j9' : j = 9 := by omega
      subst j9'
      rcases fault_i e8 with ⟨g, _⟩ | ⟨_, g⟩
      · exact absurd b2 g
      · refine ⟨9, by omega, ha, ?_, fun i hi => ?_, .inr ⟨rfl, by omega, ?_⟩, fun kx i h1 h2 => ?_, ?_⟩
        · dsimp only; rw [g, si_ne (by omega)]; exact hat
        · dsimp only; rw [g, si_ne (by omega)]; exact hc i hi
        · dsimp only; rw [g, si_eq]; exact hat
        · dsimp only; rw [g, si_ne (by omega)]; exact hf kx i h1 h2
        · dsimp only; rw [g, si_2]; exact hq
    have c3 := q_ne c
    obtain ⟨x4, e4, e⟩ := bo e
    obtain ⟨x5, e5, e⟩ := bo e
    have hs5 := here_s hN hat e4 e5
    obtain ⟨_, e⟩ := io_n e
    obtain ⟨M6, m6, e⟩ := mo e
    obtain ⟨M7, m7, e⟩ := mo e
    obtain rfl := Option.some.inj e
    have h5 : (v2 + a).toInt = ((o + j : Nat) : Int) := add_ti h2 ha (by omega) (by omega)
    rw [q_nat h5] at m6
    refine ⟨j + 1, by omega, add_ti ha o1 (by omega) (by omega), ?_, fun i hi => ?_, .inl ?_, fun kx i h1 h2 => ?_, ?_⟩
    · dsimp only
      rw [m7, si_eq, m6, si_ne (by omega)]; exact add_ti hat o1 (by omega) (by omega)
    · dsimp only
      rw [m7, si_ne (by omega), m6]
      rcases Nat.lt_or_ge i j with g | g
      · rw [si_ne (by omega)]; exact hc i g
      · have : i = j := by omega
        subst this
        rw [si_eq]
        exact ⟨hs5, by omega⟩
    · dsimp only
      rw [m7, si_ne (by omega), m6, si_ne (by omega)]; exact b2
    · dsimp only
      rw [m7, si_ne (by omega), m6, si_ne (by omega)]; exact hf kx i h1 h2
    · dsimp only
      rw [m7, si_2, m6, si_2]; exact hq
  obtain ⟨j, j9, ha, hat, hc, hww, hf, hq⟩ := key
  have rn : rtn t 9 p = j := rtn_c j9 (fun i hi => (hc i hi).2) (by
    rcases hww with ⟨_, h⟩ | ⟨h, _⟩
    · exact .inr h
    · exact .inl h)
  unfold RW
  rw [rn]
  unfold j_Mod_readRoute_65 at e
  have z0 := o0
  rcases io e with ⟨c, e⟩ | ⟨c, e⟩
  · have c1 := q_eq c
    obtain ⟨x13, e13, e⟩ := bo e
    obtain rfl := Option.some.inj e
    have j0 : j = 0 := by omega
    subst j0
    have w0 : (x12.2.1 162 18).toInt = -1 := by
      rcases hww with ⟨h, _⟩ | ⟨h, _⟩
      · exact h
      · omega
    rcases fault_i e13 with ⟨g, _⟩ | ⟨_, g⟩
    · exact absurd w0 g
    · refine ⟨ha, ?_, fun i hi => by omega, .inl ⟨rfl, ?_⟩, fun kx i h1 h2 => ?_, ?_⟩
      · dsimp only; rw [g, si_ne (by omega)]; exact hat
      · dsimp only; rw [g, si_eq, hat]; omega
      · dsimp only; rw [g, si_ne (by omega)]; exact hf kx i h1 h2
      · dsimp only; rw [g, si_2]; exact hq
  · have c1 := q_ne c
    obtain rfl := Option.some.inj e
    refine ⟨ha, hat, hc, .inr ?_, hf, hq⟩
    rcases hww with ⟨h1, h2⟩ | ⟨h1, h2, h3⟩
    · exact .inr ⟨by omega, h2, h1⟩
    · exact .inl ⟨h1, h2, h3⟩
end
section
/-! a route told, both sides -/
theorem beg_i {R M1 x2 M3 : Mem} {v : Int32} {K : Nat} (hv : v.toInt = (K : Int)) (h80 : (R.1 162 10).toInt ≤ 80) (hb : ∀ p : Nat, (p : Int) < (R.1 162 10).toInt → -128 ≤ (R.1 167 p).toInt ∧ (R.1 167 p).toInt ≤ 127) (m1 : M1 = s_i R 162 13 (0 : Int32)) (e2 : f_Mod_begin 167 (M1.1 162 10) v M1 = some x2) (m3 : M3 = s_i x2 162 10 (0 : Int32)) : Rd (rx R K) M3 ∧ M3.1 162 15 = R.1 162 10 ∧ (M3.1 162 17).toInt = 0 ∧ (M3.1 162 18).toInt = -1 ∧ (∀ kx i, ¬ (kx = 162 ∧ (i = 10 ∨ i = 13 ∨ i = 15 ∨ i = 16 ∨ i = 17 ∨ i = 18)) → M3.1 kx i = R.1 kx i) ∧ M3.2.1 = R.2.1 ∧ (∀ kx i, kx ≠ 162 → M3.2.2 kx i = R.2.2 kx i) := by
  unfold f_Mod_begin at e2
  obtain ⟨_, e2⟩ := io_n e2
  obtain ⟨N1, n1, e2⟩ := mo e2
  obtain ⟨N2, n2, e2⟩ := mo e2
  obtain ⟨N3, n3, e2⟩ := mo e2
  obtain ⟨N4, n4, e2⟩ := mo e2
  obtain ⟨N5, n5, e2⟩ := mo e2
  obtain rfl := Option.some.inj e2
  have q1 : N1.1 = M1.1 := by rw [n1]; rfl
  have hf : ∀ kx i, ¬ (kx = 162 ∧ (i = 10 ∨ i = 13 ∨ i = 15 ∨ i = 16 ∨ i = 17 ∨ i = 18)) → M3.1 kx i = R.1 kx i := by
    intro k i h
    rw [m3, si_ne (by omega), n5, si_ne (by omega), n4, si_ne (by omega), n3, si_ne (by omega), n2, si_ne (by omega), q1, m1, si_ne (by omega)]
  have b15 : M3.1 162 15 = R.1 162 10 := by
    rw [m3, si_ne (by omega), n5, si_ne (by omega), n4, si_ne (by omega), n3, si_ne (by omega), n2, si_eq, m1, si_ne (by omega)]
  have b16 : (M3.1 162 16).toInt = (K : Int) := by
    rw [m3, si_ne (by omega), n5, si_ne (by omega), n4, si_ne (by omega), n3, si_eq]; exact hv
  have b17 : (M3.1 162 17).toInt = 0 := by
    rw [m3, si_ne (by omega), n5, si_ne (by omega), n4, si_eq]; rfl
  have b18 : (M3.1 162 18).toInt = -1 := by
    rw [m3, si_ne (by omega), n5, si_eq]; rfl
  have q3 : M3.2 = N1.2 := by rw [m3, si_2, n5, si_2, n4, si_2, n3, si_2, n2, si_2]
  have b14 : M3.2.2 162 14 = some 167 := by rw [q3, n1]; simp [s_q]
  have qr : M1.2 = R.2 := by rw [m1, si_2]
  refine ⟨⟨167, b14, .inl rfl, by rw [b15]; exact h80, fun p => ?_⟩, b15, b17, b18, hf, ?_, fun kx i h => ?_⟩
  · rw [b15, b16, hf 167 p (by omega)]
    refine ⟨?_, fun h _ => hb p h⟩
    unfold rx
    by_cases c : (p : Int) < (R.1 162 10).toInt ∧ p < K
    · rw [if_pos c, if_pos (by omega)]
    · rw [if_neg c, if_neg (by omega)]
  · rw [q3, n1]; show M1.2.1 = _; rw [qr]
  · rw [q3, n1, sq_ne (by omega), qr]
theorem ZW_f {X Y R S : Mem} (f35 : ∀ i, Y.1 35 i = X.1 35 i) (f33 : ∀ i, Y.2.1 33 i = X.2.1 33 i) (f34 : ∀ i, Y.2.1 34 i = X.2.1 34 i) (g2 : S.1 162 2 = R.1 162 2) (g3 : S.1 162 3 = R.1 162 3) (g164 : ∀ i, S.1 164 i = R.1 164 i) (pk0 : ∀ i, 80 ≤ i → i < 93 → S.1 163 i = R.1 163 i) (h6 : (R.1 163 92).toInt ≤ 6) (zw : ZW X R 163) : ZW Y S 163 := by
  have w1 : xw S = xw R := congrArg Int32.toInt g2
  have w2 : xh S = xh R := congrArg Int32.toInt g3
  have on : onA S = onA R := by funext l d; exact propext (by unfold onA; rw [onN_c ⟨g2, g3, g164⟩])
  have pk : (fun c d => plk S 163 c d) = (fun c d => plk R 163 c d) := by funext c d; exact propext (plk_c pk0 h6 c d)
  obtain ⟨h1, h2, h3⟩ := zw
  unfold ZW ZX NXT NRD LKn lk
  rw [on, pk, w1, w2]
  refine ⟨fun l d hl => ?_, fun l c s hl hc hs => ?_, fun l c hl hc => ?_⟩
  · rw [f33]; exact h1 l d hl
  · rw [f35]; exact h2 l c s hl hc hs
  · rw [f34]; exact h3 l c hl hc
theorem ZG_f {X Y R S : Mem} (x2 : Y.1 3 2 = X.1 3 2) (x3 : Y.1 3 3 = X.1 3 3) (x4 : ∀ i, Y.1 4 i = X.1 4 i) (g2 : S.1 162 2 = R.1 162 2) (g3 : S.1 162 3 = R.1 162 3) (g164 : ∀ i, S.1 164 i = R.1 164 i) (z : ZG X R) : ZG Y S := by
  have w1 : xw S = xw R := congrArg Int32.toInt g2
  have w2 : xh S = xh R := congrArg Int32.toInt g3
  obtain ⟨a, b, c, d⟩ := z
  exact ⟨by rw [x2, w1]; exact a, by rw [x3, w1, w2]; exact b, fun i hi => by rw [x4, g164]; exact c i hi, fun i hi => by rw [g164]; exact d i hi⟩
theorem ZHK_0 {X R x r : Mem} {n m : Nat} (za : ZA X R n) (kk : KK R) (big : (R.1 162 48).toInt ≤ 2000000) (h0 : 0 ≤ (R.1 162 48).toInt) (h462 : x.1 46 2 = 0) (h463 : x.1 46 3 = 0) (q47 : ∀ i, x.2.2 47 i = X.2.2 47 i) (q48 : ∀ i, x.2.2 48 i = X.2.2 48 i) (r27 : r.1 162 27 = 0) (r48 : r.1 162 48 = R.1 162 48 + (1 : Int32)) (r191 : ∀ i, r.1 191 i = R.1 191 i) : ZH x r m ∧ ZK x r m := by
  have hx : HX X := za.2.1.1
  refine ⟨⟨⟨fun i hi => ?_, fun i j hi hj e => ?_⟩, 0, by omega, by rw [h462]; rfl, by rw [r27]; rfl, fun u hu => by omega⟩, fun t ht => ?_, fun t ht => ?_⟩
  · rw [q47]; exact hx.1 i hi
  · rw [q47, q47] at e; exact hx.2 i j hi hj e
  · rw [q48]; exact za.2.2.1 t ht
  · have b3 : bt (x.1 46 3) t = false := by rw [h463]; exact bt_0 t
    refine ⟨?_, fun h => by rw [b3] at h; cases h⟩
    rw [b3, r191, r48]
    constructor
    · intro h; cases h
    · rintro ⟨_, h⟩
      have k := (kk.2.2 t ht).1.2
      have e := congrArg Int32.toInt h
      rw [add_ti rfl o1 (by omega) (by omega)] at e
      omega
theorem way_c {A x : Mem} {v1 v3 : Int32} {p : Nat} (hp : v1.toInt = (p : Int)) (p8 : p < 8) (e : iter (lb_Crowd_tellWay_40 v1 v3) FU ((0 : Int32), A) = some x) : (∀ i, i < 9 → x.1 7 (9 * p + i) = A.1 10 i) ∧ (∀ kx i, ¬ (kx = 7 ∧ 9 * p ≤ i ∧ i < 9 * p + 9) → x.1 kx i = A.1 kx i) ∧ x.2 = A.2 := by
  refine it_r (I := fun s : Int32 × Mem => ∃ j : Nat, j ≤ 9 ∧ s.1.toInt = (j : Int) ∧ (∀ i, i < j → s.2.1 7 (9 * p + i) = A.1 10 i) ∧ (∀ kx i, ¬ (kx = 7 ∧ 9 * p ≤ i ∧ i < 9 * p + 9) → s.2.1 kx i = A.1 kx i) ∧ s.2.2 = A.2) (Q := fun x : Mem => (∀ i, i < 9 → x.1 7 (9 * p + i) = A.1 10 i) ∧ (∀ kx i, ¬ (kx = 7 ∧ 9 * p ≤ i ∧ i < 9 * p + 9) → x.1 kx i = A.1 kx i) ∧ x.2 = A.2) ?_ e ⟨0, by omega, rfl, fun i hi => by omega, fun _ _ _ => rfl, rfl⟩
  rintro ⟨a, N⟩ r ⟨j, j9, ha, hc, hf, hq⟩ e
  dsimp only at ha hc hf hq
  have z9 : (9 : Int32).toInt = 9 := rfl
  unfold lb_Crowd_tellWay_40 at e
  dsimp only at e
  rcases io e with ⟨c, e⟩ | ⟨c, e⟩
  · have := q_le c
    obtain rfl := Option.some.inj e
    exact ⟨fun i hi => hc i (by omega), hf, hq⟩
  have c1 := q_ng c
  obtain ⟨_, e⟩ := io_n e
  obtain ⟨_, e⟩ := io_n e
  obtain ⟨M3, m3, e⟩ := mo e
  obtain rfl := Option.some.inj e
  have h9 : (v1 * (9 : Int32)).toInt = ((p : Int)) * 9 := mul_ti hp z9 (by omega) (by omega)
  have hi : (v1 * (9 : Int32) + a).toInt = ((9 * p + j : Nat) : Int) := by
    rw [add_ti h9 ha (by omega) (by omega)]; omega
  rw [q_nat hi, q_nat ha] at m3
  refine ⟨j + 1, by omega, add_ti ha o1 (by omega) (by omega), fun i hi => ?_, fun kx i h => ?_, ?_⟩
  · dsimp only
    rw [m3]
    rcases Nat.lt_or_ge i j with g | g
    · rw [si_ne (by omega)]; exact hc i g
    · have : i = j := by omega
      subst this
      rw [si_eq]; exact hf 10 i (by omega)
  · dsimp only
    rw [m3, si_ne (by omega)]; exact hf kx i h
  · dsimp only
    rw [m3, si_2]; exact hq
theorem way_r {A x : Mem} {v1 v2 : Int32} {p k : Nat} (hp : v1.toInt = (p : Int)) (p8 : p < 8) (hk : v2.toInt = (k : Int)) (k9 : k ≤ 9) (e : iter (lb_Mod_route_87 v1 v2) FU ((0 : Int32), A) = some x) : (∀ i, i < k → x.1 165 (9 * p + i) = A.1 171 i) ∧ (∀ kx i, ¬ (kx = 165 ∧ 9 * p ≤ i ∧ i < 9 * p + 9) → x.1 kx i = A.1 kx i) ∧ x.2 = A.2 := by
  refine it_r (I := fun s : Int32 × Mem => ∃ j : Nat, j ≤ k ∧ s.1.toInt = (j : Int) ∧ (∀ i, i < j → s.2.1 165 (9 * p + i) = A.1 171 i) ∧ (∀ kx i, ¬ (kx = 165 ∧ 9 * p ≤ i ∧ i < 9 * p + 9) → s.2.1 kx i = A.1 kx i) ∧ s.2.2 = A.2) (Q := fun x : Mem => (∀ i, i < k → x.1 165 (9 * p + i) = A.1 171 i) ∧ (∀ kx i, ¬ (kx = 165 ∧ 9 * p ≤ i ∧ i < 9 * p + 9) → x.1 kx i = A.1 kx i) ∧ x.2 = A.2) ?_ e ⟨0, by omega, rfl, fun i hi => by omega, fun _ _ _ => rfl, rfl⟩
  rintro ⟨a, N⟩ r ⟨j, j9, ha, hc, hf, hq⟩ e
  dsimp only at ha hc hf hq
  have z9 : (9 : Int32).toInt = 9 := rfl
  unfold lb_Mod_route_87 at e
  dsimp only at e
  rcases io e with ⟨c, e⟩ | ⟨c, e⟩
  · have := q_le c
    obtain rfl := Option.some.inj e
    exact ⟨fun i hi => hc i (by omega), hf, hq⟩
  have c1 := q_ng c
  obtain ⟨_, e⟩ := io_n e
  obtain ⟨_, e⟩ := io_n e
  obtain ⟨M3, m3, e⟩ := mo e
  obtain rfl := Option.some.inj e
  have h9 : ((9 : Int32) * v1).toInt = 9 * ((p : Int)) := mul_ti z9 hp (by omega) (by omega)
  have hi : ((9 : Int32) * v1 + a).toInt = ((9 * p + j : Nat) : Int) := by
    rw [add_ti h9 ha (by omega) (by omega)]; omega
  rw [q_nat hi, q_nat ha] at m3
  refine ⟨j + 1, by omega, add_ti ha o1 (by omega) (by omega), fun i hi => ?_, fun kx i h => ?_, ?_⟩
  · dsimp only
    rw [m3]
    rcases Nat.lt_or_ge i j with g | g
    · rw [si_ne (by omega)]; exact hc i g
    · have : i = j := by omega
      subst this
      rw [si_eq]; exact hf 171 i (by omega)
  · dsimp only
    rw [m3, si_ne (by omega)]; exact hf kx i h
  · dsimp only
    rw [m3, si_2]; exact hq
theorem route_q {X R x r : Mem} {n p k : Nat} (zq : ZQ X R n) (jr : J r) (hp : p < n) (k1 : 1 ≤ k) (k9 : k ≤ 9) (fx : ∀ kx i, kx ≠ 1 → kx ≠ 10 → ¬ (kx = 7 ∧ 9 * p ≤ i ∧ i < 9 * p + 9) → ¬ (kx = 8 ∧ i = p) → ¬ (kx = 14 ∧ i = p) → ¬ (kx = 46 ∧ (i = 2 ∨ i = 3)) → x.1 kx i = X.1 kx i) (xq : x.2.1 = X.2.1) (x8 : (x.1 8 p).toInt = (k : Int)) (x14 : x.1 14 p = 0) (fr : ∀ kx i, kx ≠ 171 → ¬ (kx = 165 ∧ 9 * p ≤ i ∧ i < 9 * p + 9) → ¬ (kx = 166 ∧ i = p) → ¬ (kx = 163 ∧ i = 8 + p) → ¬ (kx = 162 ∧ (i = 10 ∨ i = 13 ∨ i = 15 ∨ i = 16 ∨ i = 17 ∨ i = 18 ∨ i = 27 ∨ i = 48)) → r.1 kx i = R.1 kx i) (r166 : (r.1 166 p).toInt = (k : Int)) (r163 : r.1 163 (8 + p) = 0) (hs : ∀ i, i < k → x.1 7 (9 * p + i) = r.1 165 (9 * p + i) ∧ 0 ≤ (r.1 165 (9 * p + i)).toInt ∧ (r.1 165 (9 * p + i)).toInt ≤ 4) : ZQ x r n := by
  obtain ⟨n8, jR, ⟨zg, zc, zl⟩, zs, zv, zw⟩ := zq
  have g2 : r.1 162 2 = R.1 162 2 := fr 162 2 (by omega) (by omega) (by omega) (by omega) (by omega)
  have g3 : r.1 162 3 = R.1 162 3 := fr 162 3 (by omega) (by omega) (by omega) (by omega) (by omega)
  have g4 : r.1 162 4 = R.1 162 4 := fr 162 4 (by omega) (by omega) (by omega) (by omega) (by omega)
  have g5 : r.1 162 5 = R.1 162 5 := fr 162 5 (by omega) (by omega) (by omega) (by omega) (by omega)
  have g164 : ∀ i, r.1 164 i = R.1 164 i := fun i => fr 164 i (by omega) (by omega) (by omega) (by omega) (by omega)
  have g163 : ∀ i, i ≠ 8 + p → r.1 163 i = R.1 163 i := fun i h => fr 163 i (by omega) (by omega) (by omega) (by omega) (by omega)
  have onE : ∀ l c, onN r l c ↔ onN R l c := fun l c => by rw [onN_c ⟨g2, g3, g164⟩]
  have w1 : xw r = xw R := congrArg Int32.toInt g2
  have w2 : xh r = xh R := congrArg Int32.toInt g3
  refine ⟨n8, jr, ⟨ZG_f (fx 3 2 (by omega) (by omega) (by omega) (by omega) (by omega) (by omega)) (fx 3 3 (by omega) (by omega) (by omega) (by omega) (by omega) (by omega)) (fun i => fx 4 i (by omega) (by omega) (by omega) (by omega) (by omega) (by omega)) g2 g3 g164 zg, ?_, ZL_a (fx 40 4 (by omega) (by omega) (by omega) (by omega) (by omega) (by omega)) (fun i => fx 41 i (by omega) (by omega) (by omega) (by omega) (by omega) (by omega)) (fr 162 23 (by omega) (by omega) (by omega) (by omega) (by omega)) (fun i => fr 172 i (by omega) (by omega) (by omega) (by omega) (by omega)) zl⟩, ?_, ?_, ?_⟩
  · obtain ⟨c1, c2, c3, c4, c5, c6⟩ := zc
    refine ⟨by rw [g4]; exact c1, by rw [fx 6 4 (by omega) (by omega) (by omega) (by omega) (by omega) (by omega), g4]; exact c2, by rw [fx 6 5 (by omega) (by omega) (by omega) (by omega) (by omega) (by omega), g5]; exact c3, fun q hq => ?_, fun q i hq hi => ?_, fun q hq => by rw [g5]; exact c6 q hq⟩
    · by_cases e : q = p
      · subst e
        refine ⟨Int32.toInt_inj.mp (x8.trans r166.symm), by omega, by omega⟩
      · rw [fx 8 q (by omega) (by omega) (by omega) (by omega) (by omega) (by omega), fr 166 q (by omega) (by omega) (by omega) (by omega) (by omega)]; exact c4 q hq
    · by_cases e : q = p
      · subst e
        exact hs i (by omega)
      · rw [fr 166 q (by omega) (by omega) (by omega) (by omega) (by omega)] at hi
        have h9 := (c4 q hq).2.2
        rw [fx 7 (9 * q + i) (by omega) (by omega) (by omega) (by omega) (by omega) (by omega), fr 165 (9 * q + i) (by omega) (by omega) (by omega) (by omega) (by omega)]
        exact c5 q i hq hi
  · obtain ⟨s1, s2, s3, s4, s5, s6, s7, s8⟩ := zs
    have sc : ∀ j i, ¬ (j = 2 ∧ i = p) → scn x 11 j i = scn X 11 j i := by
      intro j i h
      unfold scn
      by_cases g : j < 6
      · rw [if_pos g, if_pos g]; exact fx _ _ (by omega) (by omega) (by omega) (by omega) (by omega) (by omega)
      · rw [if_neg g, if_neg g]; exact fx _ _ (by omega) (by omega) (by omega) (by omega) (by omega) (by omega)
    refine ⟨fun q hq => ?_, fun q q' h h' => ?_, fun q q' h h' ho => ?_, ?_, fun j hj h => ?_, ?_, ?_, ?_⟩
    · obtain ⟨t1, t2, t3, t4, t5, t6⟩ := s1 q hq
      rw [sc 0 q (by omega), sc 1 q (by omega), g163 q (by omega)]
      refine ⟨t1, t2, t3, t4, t5, ?_⟩
      by_cases e : q = p
      · subst e; rw [r163]; exact x14.symm
      · rw [g163 (8 + q) (by omega), sc 2 q (by omega)]; exact t6
    · rw [g163 _ (by omega), sc 3 _ (by omega), sc 3 _ (by omega)]; exact s2 q q' h h'
    · rw [sc 3 _ (by omega)]; exact s3 q q' h h' ho
    · rw [sc 6 0 (by omega), g163 92 (by omega)]; exact s4
    · rw [g163 92 (by omega)] at h
      rw [sc 4 j (by omega), sc 5 j (by omega), g163 _ (by omega), g163 _ (by omega)]; exact s5 j hj h
    · rw [sc 7 0 (by omega), g163 95 (by omega)]; exact s6
    · rw [sc 8 0 (by omega), g163 93 (by omega)]; exact s7
    · rw [sc 9 0 (by omega), g163 94 (by omega)]; exact s8
  · obtain ⟨v1, v2, v3, v4⟩ := zv
    refine ⟨fun q hq => ?_, by rw [g163 92 (by omega)]; exact v2, by rw [g163 94 (by omega)]; exact v3, fun j hj => ?_⟩
    · obtain ⟨t1, t2, t3, t4⟩ := v1 q hq
      rw [g163 q (by omega), g5]
      refine ⟨?_, t2, ?_⟩
      · unfold onP at t1 ⊢
        rw [onE]; exact t1
      · by_cases e : q = p
        · subst e; rw [r163, o0]; omega
        · rw [g163 (8 + q) (by omega), fr 166 q (by omega) (by omega) (by omega) (by omega) (by omega)]; exact ⟨t3, t4⟩
    · rw [g163 92 (by omega)] at hj
      rw [g163 _ (by omega), g163 _ (by omega), onE, onE, w1, w2]
      obtain ⟨a, b, s, s4, e1, e2⟩ := v4 j hj
      exact ⟨a, b, s, s4, e1, by rw [onE]; exact e2⟩
  · exact ZW_f (fun i => fx 35 i (by omega) (by omega) (by omega) (by omega) (by omega) (by omega)) (fun i => by rw [xq]) (fun i => by rw [xq]) g2 g3 g164 (fun i _ _ => g163 i (by omega)) zv.2.1.2 zw
end
section
/-! route: the whole command -/
theorem no_neg {N : Nat} (g : (0 : Int) ≤ -1 - (N : Int)) : False := by omega
theorem route_2 {X R : Mem} {n : Nat} {v : Int32} {x r : Int32 × Mem} (za : ZA X R n) (kk : KK R) (big : 0 ≤ (R.1 162 48).toInt ∧ (R.1 162 48).toInt ≤ 2000000) (tx : cx X 80 = rx R 80) (l : X.1 1 1 = R.1 162 10) (hb : ∀ p : Nat, (p : Int) < (R.1 162 10).toInt → -128 ≤ (R.1 167 p).toInt ∧ (R.1 167 p).toInt ≤ 127) (jr : J r.2) (ex : f_Top_route v X = some x) (er : f_Mod_route v R = some r) : x.1 = r.1 ∧ ZA x.2 r.2 n := by
  have l2 := Jr_162_10 za.1.2.1
  have hl : (X.1 1 1).toInt ≤ 80 := by rw [l]; exact l2.2
  have zq := za.1
  obtain ⟨n8, jR, ⟨zg, zc, zl⟩, zs, zv, zw⟩ := zq
  have z0 := o0
  have ym := om
  unfold f_Mod_route at er
  obtain ⟨M1, m1, er⟩ := mo er
  obtain ⟨x2, e2, er⟩ := bo er
  obtain ⟨M3, m3, er⟩ := mo er
  obtain ⟨rd, b15, b17, b18, bf, bq, bq2⟩ := beg_i (K := 80) rfl l2.2 hb m1 e2 m3
  obtain ⟨y4, ey4, er⟩ := bo er
  have hy := isOne_i (n := n) (by rw [bf 162 4 (by omega)]; exact zc.1) n8 ey4
  unfold f_Top_route at ex
  obtain ⟨x1, ex1, ex⟩ := bo ex
  have hx := crowd_has (n := n) (by rw [zc.2.1]; exact zc.1) n8 ex1
  have rfz : ∀ kx i, CRr kx i → M3.1 kx i = R.1 kx i := fun kx i h => bf kx i (by unfold CRr CR at h; omega)
  rcases hx with ⟨a, a1, a2⟩ | ⟨a, a1⟩
  · rcases hy with ⟨b, _⟩ | ⟨_, b⟩
    rotate_left
    · exact absurd ⟨a1, a2⟩ b
    rw [a, if_neg (by decide)] at ex
    rw [b, if_neg (by decide)] at er
    obtain ⟨p, hp⟩ := ti_ofn a1
    have hpn : p < n := by omega
    obtain ⟨x7, ex7, ex⟩ := bo ex
    obtain ⟨y5, ey5, er⟩ := bo er
    have hlr := ln_rt
    obtain ⟨r1, r2, r3, r4, r5, r6⟩ := route_i (o := 0) (p := 0) rd (.inl rfl) rfl (by omega) b17 b18 (by omega) ey5
    unfold f_Crowd_tellWay at ex7
    obtain ⟨s1, es1, ex7⟩ := bo ex7
    obtain ⟨c1, c2, c3, c4⟩ := steps_i (K := 80) (o := 0) (p := 0) hl rfl (by omega) rfl (.inl rfl) rfl (by omega) es1
    rw [tx] at c1 c2
    obtain ⟨s2, es2, ex7⟩ := bo ex7
    have hs2 := crowd_has (n := n) (by rw [c3 6 4 (by omega), zc.2.1]; exact zc.1) n8 es2
    rcases hs2 with ⟨s20, _⟩ | ⟨_, s21⟩
    rotate_left
    · exact absurd ⟨a1, a2⟩ s21
    rw [s20, if_neg (by decide)] at ex7
    generalize hN : rtn (rx R 80) 9 0 = N at *
    have N9 : N ≤ 9 := by
      have : ∀ K q, rtn (rx R 80) K q ≤ K := by
        intro K
        induction K with
        | zero => intro q; exact Nat.le_refl 0
        | succ K ih =>
          intro q
          unfold rtn
          split
          · omega
          · have := ih (q + 1); omega
      rw [← hN]; exact this 9 0
    have f11 : s1.2.1 1 1 = R.1 162 10 := by rw [c3 1 1 (by omega)]; exact l
    unfold RW at r4
    rw [hN] at r4
    rw [Nat.zero_add] at r2 r4
    have y15 : y5.2.1 162 15 = R.1 162 10 := by rw [r5 162 15 (by omega) (by omega)]; exact b15
    -- the class's refusal
    have refused : ∀ w : Int32 × Mem, w = ((-1 : Int32) - s1.1, s1.2) → j_Top_route_28 v w.1 w.2 = some x → x.1.toInt = -1 - (N : Int) ∧ (∀ kx i, CXr kx i → x.2.1 kx i = X.1 kx i) ∧ x.2.2 = X.2 := by
      rintro w rfl e
      unfold j_Top_route_28 at e
      obtain ⟨M2, m2, e⟩ := mo e
      have t : ((-1 : Int32) - s1.1).toInt = -1 - (N : Int) := sub_ti om c1 (by omega) (by omega)
      rcases io e with ⟨c, _⟩ | ⟨c, e⟩
      · have g := q_le c
        dsimp only at g
        rw [t, o0] at g
        exact (no_neg g).elim
      obtain rfl := Option.some.inj e
      refine ⟨t, fun kx i h => ?_, ?_⟩
      · show M2.1 kx i = _
        have h' : kx ≠ 1 ∧ kx ≠ 10 := by unfold CXr CX at h; omega
        rw [m2, si_ne (by omega)]; exact c3 kx i (by omega)
      · show M2.2 = _
        rw [m2, si_2]; exact c4
    -- the reference's refusal
    have refusedR : ∀ S : Mem, (S.1 162 18).toInt = (N : Int) → (∀ kx i, CRr kx i → S.1 kx i = R.1 kx i) → j_Mod_route_64 v y5.1 S = some r → r.1.toInt = -1 - (N : Int) ∧ ∀ kx i, CRr kx i → r.2.1 kx i = R.1 kx i := by
      intro S hS hf e
      unfold j_Mod_route_64 at e
      obtain ⟨x6, e6, e⟩ := bo e
      rcases fine_i e6 with ⟨g, _⟩ | ⟨_, g⟩
      · rw [g, if_pos rfl] at e
        obtain rfl := Option.some.inj e
        exact ⟨sub_ti om hS (by omega) (by omega), hf⟩
      · omega
    have fy5 : ∀ kx i, CRr kx i → y5.2.1 kx i = R.1 kx i := fun kx i h => by
      rw [r5 kx i (by unfold CRr CR at h; omega) (by unfold CRr CR at h; omega)]; exact rfz kx i h
    have both : j_Top_route_28 v x7.1 x7.2 = some x → x7 = ((-1 : Int32) - s1.1, s1.2) → (∃ S : Mem, (S.1 162 18).toInt = (N : Int) ∧ (∀ kx i, CRr kx i → S.1 kx i = R.1 kx i) ∧ j_Mod_route_64 v y5.1 S = some r) → x.1 = r.1 ∧ ZA x.2 r.2 n := by
      rintro e1 e2 ⟨S, h1, h2, h3⟩
      obtain ⟨p1, p2, p3⟩ := refused x7 e2 e1
      obtain ⟨q1, q2⟩ := refusedR S h1 h2 h3
      exact ⟨Int32.toInt_inj.mp (p1.trans q1.symm), ZA_z za jr p2 (fun i => by rw [p3]) (fun i => by rw [p3]) (fun i => by rw [p3]) (fun i => by rw [p3]) q2⟩
    rcases io ex7 with ⟨c, ex7⟩ | ⟨c, ex7⟩
    · have cc := q_eq c
      have N0 : N = 0 := by omega
      refine both ex (Option.some.inj ex7).symm ?_
      have w0 : (y5.2.1 162 18).toInt = (N : Int) := by omega
      rcases io er with ⟨g, er⟩ | ⟨g, er⟩
      · exact ⟨y5.2, w0, fy5, er⟩
      · obtain ⟨z15, ez15, er⟩ := bo er
        rcases fault_i ez15 with ⟨_, h⟩ | ⟨h, _⟩
        · rw [h] at er; exact ⟨y5.2, w0, fy5, er⟩
        · omega
    have cc := q_ne c
    have N1 : 0 < N := by omega
    rcases io ex7 with ⟨c, ex7⟩ | ⟨c, ex7⟩
    rotate_left
    · have c5 := q_ng c
      rw [f11] at c5
      refine both ex (Option.some.inj ex7).symm ?_
      rcases io er with ⟨g, er⟩ | ⟨g, er⟩
      · have := q_le g
        rw [y15] at this
        omega
      · obtain ⟨z15, ez15, er⟩ := bo er
        rcases fault_i ez15 with ⟨h0, h⟩ | ⟨h0, h⟩
        · rw [h] at er; exact ⟨y5.2, by omega, fy5, er⟩
        · refine ⟨z15, by rw [h, si_eq]; exact r2, fun kx i hh => ?_, er⟩
          rw [h, si_ne (by unfold CRr CR at hh; omega)]; exact fy5 kx i hh
    · have c5 := q_le c
      rw [f11] at c5
      have w0 : (y5.2.1 162 18).toInt = -1 := by
        rcases r4 with ⟨h, _⟩ | ⟨h, h1, h2⟩ | ⟨_, _, h⟩
        · omega
        · have k1 := (Rd_rng rd 9).2.2
          have k2 := stp_b (rx R 80 9)
          have : ¬ rx R 80 9 = -1 := by omega
          unfold rx at this
          rw [if_neg (by omega)] at this
          exact absurd rfl this
        · exact h
      obtain ⟨x5, e5, ex7⟩ := bo ex7
      obtain ⟨_, ex7⟩ := io_n ex7
      obtain ⟨M6, m6, ex7⟩ := mo ex7
      obtain rfl := Option.some.inj ex7
      rw [q_nat hp] at m6
      obtain ⟨d1, d2, d3⟩ := way_c hp (by omega) e5
      unfold j_Top_route_28 at ex
      obtain ⟨M2, m2, ex⟩ := mo ex
      dsimp only at ex m2
      rcases io ex with ⟨g, ex⟩ | ⟨g, _⟩
      rotate_left
      · have := q_ng g; omega
      obtain ⟨_, ex⟩ := io_n ex
      obtain ⟨K3, p3, ex⟩ := mo ex
      rw [q_nat hp] at p3
      unfold f_History_forget f_History_spoil at ex
      obtain ⟨k4, ek4, ex⟩ := bo ex
      obtain ⟨K4, p4, ek4⟩ := mo ek4
      obtain rfl := Option.some.inj ek4
      obtain ⟨k5, ek5, ex⟩ := bo ex
      obtain ⟨K5, p5, ek5⟩ := mo ek5
      obtain rfl := Option.some.inj ek5
      obtain rfl := Option.some.inj ex
      rcases io er with ⟨g2, er⟩ | ⟨g2, er⟩
      rotate_left
      · have := q_ng g2
        rw [y15] at this
        omega
      unfold j_Mod_route_64 at er
      obtain ⟨y6, ey6, er⟩ := bo er
      rcases fine_i ey6 with ⟨_, h⟩ | ⟨h, _⟩
      · exact absurd w0 h
      rw [h, if_neg (by decide)] at er
      obtain ⟨_, er⟩ := io_n er
      obtain ⟨M7, m7, er⟩ := mo er
      rw [q_nat hp] at m7
      obtain ⟨y10, ey10, er⟩ := bo er
      obtain ⟨_, er⟩ := io_n er
      obtain ⟨M11, m11, er⟩ := mo er
      obtain ⟨M12, m12, er⟩ := mo er
      obtain ⟨M13, m13, er⟩ := mo er
      obtain rfl := Option.some.inj er
      have z8 : (8 : Int32).toInt = 8 := rfl
      have i8 : ((8 : Int32) + v).toInt = ((8 + p : Nat) : Int) := by rw [add_ti z8 hp (by omega) (by omega)]; omega
      rw [q_nat i8] at m11
      obtain ⟨f1, f2, f3⟩ := way_r hp (by omega) r1 N9 ey10
      have fx : ∀ kx i, kx ≠ 1 → kx ≠ 10 → ¬ (kx = 7 ∧ 9 * p ≤ i ∧ i < 9 * p + 9) → ¬ (kx = 8 ∧ i = p) → ¬ (kx = 14 ∧ i = p) → ¬ (kx = 46 ∧ (i = 2 ∨ i = 3)) → K5.1 kx i = X.1 kx i := by
        intro kx i h1 h2 h3 h4 h5 h6
        rw [p5, si_ne (by omega), p4, si_ne (by omega), p3, si_ne (by omega), m2, si_ne (by omega), m6, si_ne (by omega), d2 kx i h3]
        exact c3 kx i (by omega)
      have xq : K5.2 = X.2 := by rw [p5, si_2, p4, si_2, p3, si_2, m2, si_2, m6, si_2, d3, c4]
      have x8 : K5.1 8 p = s1.1 := by rw [p5, si_ne (by omega), p4, si_ne (by omega), p3, si_ne (by omega), m2, si_ne (by omega), m6, si_eq]
      have x14 : K5.1 14 p = 0 := by rw [p5, si_ne (by omega), p4, si_ne (by omega), p3, si_eq]
      have fr : ∀ kx i, kx ≠ 171 → ¬ (kx = 165 ∧ 9 * p ≤ i ∧ i < 9 * p + 9) → ¬ (kx = 166 ∧ i = p) → ¬ (kx = 163 ∧ i = 8 + p) → ¬ (kx = 162 ∧ (i = 10 ∨ i = 13 ∨ i = 15 ∨ i = 16 ∨ i = 17 ∨ i = 18 ∨ i = 27 ∨ i = 48)) → M13.1 kx i = R.1 kx i := by
        intro kx i h1 h2 h3 h4 h5
        rw [m13, si_ne (by omega), m12, si_ne (by omega), m11, si_ne (by omega), f2 kx i h2, m7, si_ne (by omega), r5 kx i (by omega) (by omega)]
        exact bf kx i (by omega)
      have r166 : M13.1 166 p = y5.1 := by rw [m13, si_ne (by omega), m12, si_ne (by omega), m11, si_ne (by omega), f2 166 p (by omega), m7, si_eq]
      have r163 : M13.1 163 (8 + p) = 0 := by rw [m13, si_ne (by omega), m12, si_ne (by omega), m11, si_eq]
      have hs : ∀ i, i < N → K5.1 7 (9 * p + i) = M13.1 165 (9 * p + i) ∧ 0 ≤ (M13.1 165 (9 * p + i)).toInt ∧ (M13.1 165 (9 * p + i)).toInt ≤ 4 := by
        intro i hi
        have e1 : K5.1 7 (9 * p + i) = s1.2.1 10 i := by
          rw [p5, si_ne (by omega), p4, si_ne (by omega), p3, si_ne (by omega), m2, si_ne (by omega), m6, si_ne (by omega)]; exact d1 i (by omega)
        have e2 : M13.1 165 (9 * p + i) = y5.2.1 171 i := by
          rw [m13, si_ne (by omega), m12, si_ne (by omega), m11, si_ne (by omega), f1 i hi, m7, si_ne (by omega)]
        have h1 := c2 i hi
        have h2 := r3 i hi
        rw [Nat.zero_add] at h1 h2
        have hsb := stp_b (rx R 80 i)
        rw [e1, e2]
        exact ⟨Int32.toInt_inj.mp (h1.1.trans h2.1.symm), by omega, by omega⟩
      have zq' := route_q za.1 jr hpn N1 N9 fx (by rw [xq]) (by rw [x8]; exact c1) x14 fr (by rw [r166]; exact r1) r163 hs
      obtain ⟨zh, zk⟩ := ZHK_0 (x := K5) (r := M13) (m := n) za kk big.2 big.1 (by rw [p5, si_ne (by omega), p4, si_eq]) (by rw [p5, si_eq]) (fun i => by rw [xq]) (fun i => by rw [xq]) (by rw [m13, si_ne (by omega), m12, si_eq]) (by rw [m13, si_eq, m12, si_ne (by omega), m11, si_ne (by omega), f2 162 48 (by omega), m7, si_ne (by omega), r5 162 48 (by omega) (by omega), bf 162 48 (by omega)]) (fun i => fr 191 i (by omega) (by omega) (by omega) (by omega) (by omega))
      exact ⟨Int32.toInt_inj.mp (c1.trans r1.symm), zq', zh, zk⟩
  · rcases hy with ⟨_, b⟩ | ⟨b, _⟩
    · exact absurd b a1
    rw [a, if_pos rfl] at ex
    rw [b, if_pos rfl] at er
    obtain rfl := Option.some.inj er
    unfold j_Top_route_28 at ex
    obtain ⟨M2, m2, ex⟩ := mo ex
    rcases io ex with ⟨c, _⟩ | ⟨c, ex⟩
    · have := q_le c
      have z100 : (-100 : Int32).toInt = -100 := rfl
      omega
    obtain rfl := Option.some.inj ex
    exact ⟨rfl, ZA_z za jr (fun kx i h => by show M2.1 kx i = _; rw [m2, si_ne (by unfold CXr CX at h; omega)]) (fun i => by show M2.2.1 33 i = _; rw [m2, si_2]) (fun i => by show M2.2.1 34 i = _; rw [m2, si_2]) (fun i => by show M2.2.2 47 i = _; rw [m2, si_2]) (fun i => by show M2.2.2 48 i = _; rw [m2, si_2]) rfz⟩
end
section
/-! lines of the folk: both readers -/
def lvt (t : Nat → Int) (p : Nat) : Int := if t p = 119 then 1 else 0
def dgl (t : Nat → Int) (p : Nat) : Nat := dgn t 2 (p + 1)
def cel (t : Nat → Int) (p : Nat) : Int := dgv t 2 (p + 1) 0
def rst (t : Nat → Int) (p : Nat) : Nat := p + 2 + dgl t p
def LnOk (t : Nat → Int) (on : Int → Int → Prop) (p : Nat) : Prop := (t p = 109 ∨ t p = 119) ∧ 0 < dgl t p ∧ on (lvt t p) (cel t p) ∧ t (p + 1 + dgl t p) = 58 ∧ 0 < rtn t 9 (rst t p)
theorem rtn_le (t : Nat → Int) : ∀ K q, rtn t K q ≤ K := by
  intro K
  induction K with
  | zero => intro q; exact Nat.le_refl 0
  | succ K ih =>
    intro q
    unfold rtn
    split
    · omega
    · have := ih (q + 1); omega
theorem dgn_le (t : Nat → Int) : ∀ K q, dgn t K q ≤ K := by
  intro K
  induction K with
  | zero => intro q; exact Nat.le_refl 0
  | succ K ih =>
    intro q
    unfold dgn
    split
    · have := ih (q + 1); omega
    · omega
theorem bt_lev {w v : Int32} {l d : Nat} (hw : w.toInt = (l : Int)) (hl : l ≤ 1) (hv : v.toInt = (d : Int)) (hd : d < 32) (i : Nat) : bt (w <<< (v &&& 31)) i = (decide (l = 1) && decide (i = d)) := by
  rcases Nat.lt_or_ge l 1 with g | g
  · have l0 : l = 0 := by omega
    subst l0
    have : w = 0 := Int32.toInt_inj.mp hw
    subst this
    rw [show ((0 : Int32) <<< (v &&& 31)) = 0 by
      refine Int32.toBitVec_inj.mp ?_
      rw [Int32.toBitVec_shiftLeft]
      simp]
    rw [bt_0]; simp
  · have l1 : l = 1 := by omega
    subst l1
    have : w = 1 := Int32.toInt_inj.mp hw
    subst this
    rw [bt_one hv hd]; simp
theorem dig_q {A : Mem} {v1 v2 v3 : Int32} {x} (e : f_Signs_digits v1 v2 v3 A = some x) : x.2.2 = A.2 := by
  unfold f_Signs_digits at e
  obtain ⟨M1, e1, e⟩ := mo e
  obtain ⟨x8, e8, e⟩ := bo e
  obtain rfl := Option.some.inj e
  refine it_r (I := fun s : Int32 × Int32 × Mem => s.2.2.2 = A.2) (Q := fun x : Int32 × Mem => x.2.2 = A.2) ?_ e8 (by rw [e1]; rfl)
  rintro ⟨a, b, N⟩ r h e
  dsimp only at h
  unfold lb_Signs_digits_11 at e
  dsimp only at e
  rcases io e with ⟨_, e⟩ | ⟨_, e⟩
  · obtain rfl := Option.some.inj e; exact h
  rcases io e with ⟨_, e⟩ | ⟨_, e⟩
  · obtain ⟨x2, _, e⟩ := bo e
    rcases io e with ⟨_, e⟩ | ⟨_, e⟩
    · obtain rfl := Option.some.inj e; exact h
    rcases io e with ⟨_, e⟩ | ⟨_, e⟩
    · obtain rfl := Option.some.inj e; exact h
    · obtain ⟨M3, m3, e⟩ := mo e
      obtain rfl := Option.some.inj e
      show M3.2 = _
      rw [m3, si_2]; exact h
  · obtain rfl := Option.some.inj e; exact h
theorem line_c {A R : Mem} (zg : ZG A R) (jR : J R) (hl : (A.1 1 1).toInt ≤ 80) {v3 v4 : Int32} {m p : Nat} (h3 : v3.toInt = (m : Int)) (h4 : v4.toInt = (p : Int)) (p80 : p ≤ 80) {x} (e : f_Crowd_readLine v3 v4 A = some x) : (∀ kx i, ¬ (kx = 1 ∧ i = 2) → kx ≠ 9 → ¬ (kx = 6 ∧ i = 6) → ¬ (kx = 7 ∧ 9 * m ≤ i) → ¬ (kx = 8 ∧ m ≤ i) → x.2.1 kx i = A.1 kx i) ∧ x.2.2 = A.2 ∧ ((m < 8 ∧ LnOk (cx A 76) (onN R) p ∧ x.1.toInt = ((rst (cx A 76) p + rtn (cx A 76) 9 (rst (cx A 76) p) : Nat) : Int) ∧ (x.2.1 9 m).toInt = cel (cx A 76) p ∧ (∀ i, i ≠ m → x.2.1 9 i = A.1 9 i) ∧ (∀ d, bt (x.2.1 6 6) d = (bt (A.1 6 6) d || (decide (lvt (cx A 76) p = 1) && decide (d = m)))) ∧ (x.2.1 8 m).toInt = (rtn (cx A 76) 9 (rst (cx A 76) p) : Int) ∧ (∀ i, i < rtn (cx A 76) 9 (rst (cx A 76) p) → (x.2.1 7 (9 * m + i)).toInt = stp (cx A 76 (rst (cx A 76) p + i)) ∧ stp (cx A 76 (rst (cx A 76) p + i)) ≠ -1)) ∨ (¬ (m < 8 ∧ LnOk (cx A 76) (onN R) p) ∧ x.1.toInt < 0)) := by
  have z0 := o0
  have ym := om
  have y1 := o1
  have k76 : (76 : Int32).toInt = ((76 : Nat) : Int) := rfl
  have k119 : (119 : Int32).toInt = 119 := rfl
  have k109 : (109 : Int32).toInt = 109 := rfl
  have k58 : (58 : Int32).toInt = 58 := rfl
  have k8 : (8 : Int32).toInt = 8 := rfl
  have k9 : (9 : Int32).toInt = 9 := rfl
  have h51 : ∀ w0 : Int32, w0.toInt = lvt (cx A 76) p → m < 8 → (cx A 76 p = 109 ∨ cx A 76 p = 119) → j_Crowd_readLine_51 v3 v4 w0 A = some x → (∀ kx i, ¬ (kx = 1 ∧ i = 2) → kx ≠ 9 → ¬ (kx = 6 ∧ i = 6) → ¬ (kx = 7 ∧ 9 * m ≤ i) → ¬ (kx = 8 ∧ m ≤ i) → x.2.1 kx i = A.1 kx i) ∧ x.2.2 = A.2 ∧ ((m < 8 ∧ LnOk (cx A 76) (onN R) p ∧ x.1.toInt = ((rst (cx A 76) p + rtn (cx A 76) 9 (rst (cx A 76) p) : Nat) : Int) ∧ (x.2.1 9 m).toInt = cel (cx A 76) p ∧ (∀ i, i ≠ m → x.2.1 9 i = A.1 9 i) ∧ (∀ d, bt (x.2.1 6 6) d = (bt (A.1 6 6) d || (decide (lvt (cx A 76) p = 1) && decide (d = m)))) ∧ (x.2.1 8 m).toInt = (rtn (cx A 76) 9 (rst (cx A 76) p) : Int) ∧ (∀ i, i < rtn (cx A 76) 9 (rst (cx A 76) p) → (x.2.1 7 (9 * m + i)).toInt = stp (cx A 76 (rst (cx A 76) p + i)) ∧ stp (cx A 76 (rst (cx A 76) p + i)) ≠ -1)) ∨ (¬ (m < 8 ∧ LnOk (cx A 76) (onN R) p) ∧ x.1.toInt < 0)) := by
    intro w0 hw m8 hmw e
    have p76 : p < 76 := by
      have : cx A 76 p ≠ -1 := by omega
      unfold cx at this
      by_cases g : ((p : Nat) : Int) < (A.1 1 1).toInt ∧ p < 76
      · exact g.2
      · exact absurd (if_neg g) this
    have rse : rst (cx A 76) p = p + 2 + dgl (cx A 76) p := rfl
    have dlb : dgl (cx A 76) p ≤ 2 := dgn_le _ 2 (p + 1)
    unfold j_Crowd_readLine_51 at e
    obtain ⟨x2, e2, e⟩ := bo e
    have hv4 : (v4 + (1 : Int32)).toInt = ((p + 1 : Nat) : Int) := add_ti h4 o1 (by omega) (by omega)
    obtain ⟨d1, d2, d3, d4, d5⟩ := dig_i (K := 76) (n := 2) hl hv4 k76 rfl (by omega) (by omega) e2
    have d2q : x2.2.2 = A.2 := dig_q e2
    have dl : dgn (cx A 76) 2 (p + 1) ≤ 2 := dgn_le _ 2 (p + 1)
    have hbeh : ((v4 + (1 : Int32)) + x2.1).toInt = ((p + 1 + dgl (cx A 76) p : Nat) : Int) := by
      rw [add_ti hv4 d2 (by omega) (by omega)]; unfold dgl; omega
    have fr0 : ∀ kx i, ¬ (kx = 1 ∧ i = 2) → kx ≠ 9 → ¬ (kx = 6 ∧ i = 6) → ¬ (kx = 7 ∧ 9 * m ≤ i) → ¬ (kx = 8 ∧ m ≤ i) → x2.2.1 kx i = A.1 kx i := fun kx i h _ _ _ _ => d1 kx i h
    rcases io e with ⟨c, e⟩ | ⟨c, e⟩
    · obtain rfl := Option.some.inj e
      have cc := q_eq c
      refine ⟨fr0, d2q, .inr ⟨fun h => ?_, ?_⟩⟩
      · have := h.2.2.1
        unfold dgl at this
        omega
      · show ((-1 : Int32) - ((v4 + (1 : Int32)) + x2.1)).toInt < 0
        rw [sub_ti om hbeh (by omega) (by omega)]; omega
    have cc := q_ne c
    have dpos : 0 < dgl (cx A 76) p := by unfold dgl; omega
    obtain ⟨x3, e3, e⟩ := bo e
    have zg2 : ZG x2.2 R := ZG_f (d1 3 2 (by omega)) (d1 3 3 (by omega)) (fun i => d1 4 i (by omega)) rfl rfl (fun _ => rfl) zg
    have hh := holdsC zg2 jR e3
    have lb : 0 ≤ w0.toInt ∧ w0.toInt ≤ 1 := by rw [hw]; unfold lvt; split <;> omega
    have hcel : (x2.2.1 1 2).toInt = cel (cx A 76) p := d3
    rw [hw, hcel] at hh
    rcases hh with ⟨hx3, _, _, hon⟩ | ⟨hx3, hon⟩
    rotate_left
    · rw [hx3, if_pos rfl] at e
      obtain ⟨x11, e11, e⟩ := bo e
      have no : ¬ (m < 8 ∧ LnOk (cx A 76) (onN R) p) := fun h => hon ⟨by rw [← hw]; omega, by rw [← hw]; omega, h.2.2.2.1⟩
      rcases io e with ⟨c, e⟩ | ⟨c, e⟩
      · obtain rfl := Option.some.inj e
        refine ⟨fr0, d2q, .inr ⟨no, ?_⟩⟩
        show (-((v4 + (1 : Int32)) + x2.1)).toInt < 0
        rw [neg_ti hbeh (by omega) (by omega)]; omega
      · obtain rfl := Option.some.inj e
        refine ⟨fr0, d2q, .inr ⟨no, ?_⟩⟩
        show ((-1 : Int32) - ((v4 + (1 : Int32)) + x2.1)).toInt < 0
        rw [sub_ti om hbeh (by omega) (by omega)]; omega
    rw [hx3, if_neg (by decide)] at e
    obtain ⟨x4, e4, e⟩ := bo e
    have cx2 : cx x2.2 76 = cx A 76 := cx_c (d1 1 1 (by omega)) (fun i => d1 2 i (by omega)) 76
    have h4' := at_i (K := 76) hbeh k76 (by rw [d1 1 1 (by omega)]; exact hl) e4
    rw [cx2] at h4'
    rcases io e with ⟨c, e⟩ | ⟨c, e⟩
    rotate_left
    · have c2 := q_ne c
      obtain rfl := Option.some.inj e
      refine ⟨fr0, d2q, .inr ⟨fun h => ?_, ?_⟩⟩
      · have := h.2.2.2.2.1; omega
      · show ((-1 : Int32) - ((v4 + (1 : Int32)) + x2.1)).toInt < 0
        rw [sub_ti om hbeh (by omega) (by omega)]; omega
    have c2 := q_eq c
    have colon : cx A 76 (p + 1 + dgl (cx A 76) p) = 58 := by omega
    obtain ⟨_, e⟩ := io_n e
    obtain ⟨M5, m5, e⟩ := mo e
    obtain ⟨M6, m6, e⟩ := mo e
    obtain ⟨x7, e7, e⟩ := bo e
    rw [q_nat h3] at m5
    have p78 : p + 1 + dgl (cx A 76) p < 76 := by
      have : cx A 76 (p + 1 + dgl (cx A 76) p) ≠ -1 := by omega
      unfold cx at this
      by_cases g : ((p + 1 + dgl (cx A 76) p : Nat) : Int) < (A.1 1 1).toInt ∧ p + 1 + dgl (cx A 76) p < 76
      · exact g.2
      · exact absurd (if_neg g) this
    have hrs : (((v4 + (1 : Int32)) + x2.1) + (1 : Int32)).toInt = ((rst (cx A 76) p : Nat) : Int) := by
      rw [add_ti hbeh o1 (by omega) (by omega)]; omega
    have h39 : (v3 * (9 : Int32)).toInt = ((9 * m : Nat) : Int) := by
      rw [mul_ti h3 k9 (by omega) (by omega)]; omega
    have hlr := ln_rt
    have f6 : ∀ kx i, ¬ (kx = 1 ∧ i = 2) → ¬ (kx = 9 ∧ i = m) → ¬ (kx = 6 ∧ i = 6) → M6.1 kx i = A.1 kx i := fun kx i g1 g2 g3 => by
      rw [m6, si_ne g3, m5, si_ne g2]; exact d1 kx i g1
    have q6 : M6.2 = A.2 := by rw [m6, si_2, m5, si_2, d2q]
    obtain ⟨s1, s2, s3, s4⟩ := steps_i (A := M6) (K := 76) (o := 9 * m) (p := rst (cx A 76) p) (by rw [f6 1 1 (by omega) (by omega) (by omega)]; exact hl) hrs (by omega) k76 (.inr rfl) h39 (by omega) e7
    have cx6 : cx M6 76 = cx A 76 := cx_c (f6 1 1 (by omega) (by omega) (by omega)) (fun i => f6 2 i (by omega) (by omega) (by omega)) 76
    rw [cx6] at s1 s2
    obtain ⟨_, e⟩ := io_n e
    obtain ⟨M8, m8', e⟩ := mo e
    rw [q_nat h3] at m8'
    obtain ⟨_, e⟩ := io_n e
    obtain ⟨_, e⟩ := io_n e
    rw [q_nat h3] at e
    have x8 : M8.1 8 m = x7.1 := by rw [m8', si_eq]
    rw [x8] at e
    have f8 : ∀ kx i, ¬ (kx = 1 ∧ i = 2) → ¬ (kx = 9 ∧ i = m) → ¬ (kx = 6 ∧ i = 6) → ¬ (kx = 7 ∧ 9 * m ≤ i) → ¬ (kx = 8 ∧ m ≤ i) → M8.1 kx i = A.1 kx i := fun kx i g1 g2 g3 g4 g5 => by
      rw [m8', si_ne (by omega), s3 kx i (by omega)]; exact f6 kx i g1 g2 g3
    have q8 : M8.2 = A.2 := by rw [m8', si_2, s4, q6]
    have rl := rtn_le (cx A 76) 9 (rst (cx A 76) p)
    have tot : ((((v4 + (1 : Int32)) + x2.1) + (1 : Int32)) + x7.1).toInt = ((rst (cx A 76) p + rtn (cx A 76) 9 (rst (cx A 76) p) : Nat) : Int) := by
      rw [add_ti hrs s1 (by omega) (by omega)]; omega
    rcases io e with ⟨c, e⟩ | ⟨c, e⟩
    · have c3 := q_eq c
      obtain rfl := Option.some.inj e
      refine ⟨fun kx i g1 g2 g3 g4 g5 => f8 kx i g1 (by omega) g3 g4 g5, q8, .inr ⟨fun h => ?_, ?_⟩⟩
      · have := h.2.2.2.2.2; omega
      · show ((-1 : Int32) - ((((v4 + (1 : Int32)) + x2.1) + (1 : Int32)) + x7.1)).toInt < 0
        rw [sub_ti om tot (by omega) (by omega)]; omega
    · have c3 := q_ne c
      obtain rfl := Option.some.inj e
      refine ⟨fun kx i g1 g2 g3 g4 g5 => f8 kx i g1 (by omega) g3 g4 g5, q8, .inl ⟨m8, ⟨hmw, dpos, hon, colon, by omega⟩, tot, ?_, fun i hi => ?_, fun d => ?_, ?_, fun i hi => ?_⟩⟩
      · show (M8.1 9 m).toInt = _
        rw [m8', si_ne (by omega), s3 9 m (by omega), m6, si_ne (by omega), m5, si_eq]; exact hcel
      · show M8.1 9 i = _
        exact f8 9 i (by omega) (by omega) (by omega) (by omega) (by omega)
      · show bt (M8.1 6 6) d = _
        obtain ⟨lw, hlw⟩ := ti_ofn lb.1
        rw [m8', si_ne (by omega), s3 6 6 (by omega), m6, si_eq, bt_or, bt_lev hlw (by omega) h3 (by omega), m5, si_ne (by omega), d1 6 6 (by omega)]
        have : (lw = 1) ↔ (lvt (cx A 76) p = 1) := by omega
        rw [decide_eq_decide.mpr this]
      · show (M8.1 8 m).toInt = _
        rw [x8]; exact s1
      · show (M8.1 7 (9 * m + i)).toInt = _ ∧ _
        rw [m8', si_ne (by omega)]; exact s2 i hi
  unfold f_Crowd_readLine at e
  obtain ⟨x1, e1, e⟩ := bo e
  have h1 := at_i (K := 76) h4 k76 hl e1
  have neg : ((-1 : Int32) - v4).toInt < 0 := by rw [sub_ti om h4 (by omega) (by omega)]; omega
  rcases io e with ⟨c, e⟩ | ⟨c, e⟩
  · have := q_lt c; omega
  rcases io e with ⟨c, e⟩ | ⟨c, e⟩
  · have := q_le c
    obtain rfl := Option.some.inj e
    exact ⟨fun _ _ _ _ _ _ _ => rfl, rfl, .inr ⟨fun h => by have := h.1; omega, neg⟩⟩
  have m8 := q_ng c
  unfold j_Crowd_readLine_39 at e
  rcases io e with ⟨c, e⟩ | ⟨c, e⟩
  · have c1 := q_eq c
    rcases io e with ⟨c, e⟩ | ⟨c, e⟩
    · have := q_eq c; omega
    · exact h51 0 (by unfold lvt; rw [if_neg (by omega)]; exact o0) (by omega) (.inl (by omega)) e
  have c1 := q_ne c
  rcases io e with ⟨c, e⟩ | ⟨c, e⟩
  · have c2 := q_eq c
    rcases io e with ⟨c, e⟩ | ⟨c, e⟩
    · exact h51 1 (by unfold lvt; rw [if_pos (by omega)]; exact o1) (by omega) (.inr (by omega)) e
    · have := q_ne c; omega
  have c2 := q_ne c
  obtain rfl := Option.some.inj e
  exact ⟨fun _ _ _ _ _ _ _ => rfl, rfl, .inr ⟨fun h => by have := h.2.1; omega, neg⟩⟩
end
section
/-! a line of the folk: the reference's reader -/
theorem passes_n {N : Mem} (hw : (N.1 162 18).toInt ≠ -1) {c : Int32} {x : Int32 × Mem} (e : f_Mod_passes c N = some x) : x = (0, N) := by
  unfold f_Mod_passes at e
  obtain ⟨x1, e1, e⟩ := bo e
  rcases fine_i e1 with ⟨a, _⟩ | ⟨_, b⟩
  · rw [a, if_pos rfl] at e
    exact (Option.some.inj e).symm
  · exact absurd b hw
theorem fault_n {N r : Mem} {v : Int32} (hw : (N.1 162 18).toInt ≠ -1) (e : f_Mod_fault v N = some r) : r = N := by
  rcases fault_i e with ⟨_, h⟩ | ⟨h, _⟩
  · exact h
  · exact absurd h hw
theorem need_n {N r : Mem} (hw : (N.1 162 18).toInt ≠ -1) {c : Int32} (e : f_Mod_need c N = some r) : r = N := by
  unfold f_Mod_need at e
  obtain ⟨x1, e1, e⟩ := bo e
  have h := passes_n hw e1
  subst h
  rw [if_pos rfl] at e
  obtain ⟨x2, e2, e⟩ := bo e
  obtain rfl := Option.some.inj e
  exact fault_n hw e2
theorem number_n {N : Mem} (hw : (N.1 162 18).toInt ≠ -1) {c : Int32} {x : Int32 × Mem} (e : f_Mod_number c N = some x) : x = (0, N) := by
  unfold f_Mod_number at e
  obtain ⟨x1, e1, e⟩ := bo e
  rcases fine_i e1 with ⟨a, _⟩ | ⟨_, b⟩
  · rw [a, if_pos rfl] at e
    exact (Option.some.inj e).symm
  · exact absurd b hw
theorem route_n {N : Mem} (hw : (N.1 162 18).toInt ≠ -1) {v1 : Nat} {v2 : Int32} {x : Int32 × Mem} (e : f_Mod_readRoute v1 v2 N = some x) : x = (0, N) := by
  unfold f_Mod_readRoute at e
  obtain ⟨_, e⟩ := io_n e
  obtain ⟨x12, e12, e⟩ := bo e
  have key : x12 = (0, N) := by
    refine it_r (I := fun s : Int32 × Mem => s = (0, N)) (Q := fun s : Int32 × Mem => s = (0, N)) ?_ e12 rfl
    rintro s r rfl e
    unfold lb_Mod_readRoute_2 at e
    obtain ⟨x1, e1, e⟩ := bo e
    rcases fine_i e1 with ⟨a, _⟩ | ⟨_, b⟩
    · rw [a, if_pos rfl] at e
      obtain rfl := Option.some.inj e
      rfl
    · exact absurd b hw
  subst key
  unfold j_Mod_readRoute_65 at e
  dsimp only at e
  rw [if_pos rfl] at e
  obtain ⟨x13, e13, e⟩ := bo e
  obtain rfl := Option.some.inj e
  rw [fault_n hw e13]
theorem fault_f {N r : Mem} {v : Int32} (e : f_Mod_fault v N = some r) : (∀ kx i, ¬ (kx = 162 ∧ (i = 17 ∨ i = 18)) → r.1 kx i = N.1 kx i) ∧ r.2 = N.2 := by
  rcases fault_i e with ⟨_, h⟩ | ⟨_, h⟩
  · rw [h]; exact ⟨fun _ _ _ => rfl, rfl⟩
  · rw [h]; exact ⟨fun kx i g => si_ne (by omega), rfl⟩
theorem passes_f {N : Mem} {c : Int32} {x : Int32 × Mem} (e : f_Mod_passes c N = some x) : (∀ kx i, ¬ (kx = 162 ∧ (i = 17 ∨ i = 18)) → x.2.1 kx i = N.1 kx i) ∧ x.2.2 = N.2 := by
  unfold f_Mod_passes at e
  obtain ⟨x1, e1, e⟩ := bo e
  rcases io e with ⟨_, e⟩ | ⟨_, e⟩
  · obtain rfl := Option.some.inj e; exact ⟨fun _ _ _ => rfl, rfl⟩
  obtain ⟨x2, e2, e⟩ := bo e
  rcases io e with ⟨_, e⟩ | ⟨_, e⟩
  · obtain ⟨M3, m3, e⟩ := mo e
    obtain rfl := Option.some.inj e
    exact ⟨fun kx i g => by show M3.1 kx i = _; rw [m3, si_ne (by omega)], by show M3.2 = _; rw [m3, si_2]⟩
  · obtain rfl := Option.some.inj e; exact ⟨fun _ _ _ => rfl, rfl⟩
theorem number_f {N : Mem} {c : Int32} {x : Int32 × Mem} (e : f_Mod_number c N = some x) : (∀ kx i, ¬ (kx = 162 ∧ (i = 17 ∨ i = 18)) → x.2.1 kx i = N.1 kx i) ∧ x.2.2 = N.2 := by
  unfold f_Mod_number at e
  obtain ⟨x1, e1, e⟩ := bo e
  rcases io e with ⟨_, e⟩ | ⟨_, e⟩
  · obtain rfl := Option.some.inj e; exact ⟨fun _ _ _ => rfl, rfl⟩
  obtain ⟨x8, e8, e⟩ := bo e
  have k : (∀ kx i, ¬ (kx = 162 ∧ (i = 17 ∨ i = 18)) → x8.2.1 kx i = N.1 kx i) ∧ x8.2.2 = N.2 := by
    refine it_r (I := fun s : Int32 × Mem => (∀ kx i, ¬ (kx = 162 ∧ (i = 17 ∨ i = 18)) → s.2.1 kx i = N.1 kx i) ∧ s.2.2 = N.2) (Q := fun s : Int32 × Mem => (∀ kx i, ¬ (kx = 162 ∧ (i = 17 ∨ i = 18)) → s.2.1 kx i = N.1 kx i) ∧ s.2.2 = N.2) ?_ e8 ⟨fun _ _ _ => rfl, rfl⟩
    rintro ⟨a, B⟩ r ⟨h1, h2⟩ e
    dsimp only at h1 h2
    unfold lb_Mod_number_16 at e
    dsimp only at e
    rcases io e with ⟨_, e⟩ | ⟨_, e⟩
    · obtain rfl := Option.some.inj e; exact ⟨h1, h2⟩
    obtain ⟨x2, e2, e⟩ := bo e
    obtain ⟨x3, e3, e⟩ := bo e
    rcases io e with ⟨_, e⟩ | ⟨_, e⟩
    · obtain rfl := Option.some.inj e; exact ⟨h1, h2⟩
    obtain ⟨x4, e4, e⟩ := bo e
    obtain ⟨M5, m5, e⟩ := mo e
    obtain rfl := Option.some.inj e
    exact ⟨fun kx i g => by show M5.1 kx i = _; rw [m5, si_ne (by omega)]; exact h1 kx i g, by show M5.2 = _; rw [m5, si_2]; exact h2⟩
  unfold j_Mod_number_66 at e
  rcases io e with ⟨_, e⟩ | ⟨_, e⟩
  · obtain ⟨x9, e9, e⟩ := bo e
    obtain rfl := Option.some.inj e
    have f := fault_f e9
    exact ⟨fun kx i g => by show x9.1 kx i = _; rw [f.1 kx i g]; exact k.1 kx i g, by show x9.2 = _; rw [f.2]; exact k.2⟩
  · obtain rfl := Option.some.inj e; exact k
def PZ (N r : Mem) : Prop := (∀ kx i, kx ≠ 170 → ¬ (kx = 162 ∧ (i = 17 ∨ i = 18)) → r.1 kx i = N.1 kx i) ∧ r.2 = N.2
theorem PZ_t {A B C : Mem} (h : PZ A B) (g : PZ B C) : PZ A C := ⟨fun kx i a b => (g.1 kx i a b).trans (h.1 kx i a b), g.2.trans h.2⟩
theorem PZ_s {A B : Mem} {i : Nat} {v : Int32} (e : B = s_i A 170 i v) : PZ A B := ⟨fun kx j a b => by rw [e, si_ne (by omega)], by rw [e, si_2]⟩
theorem PZ_17 {A B : Mem} {v : Int32} (e : B = s_i A 162 17 v) : PZ A B := ⟨fun kx j a b => by rw [e, si_ne (by omega)], by rw [e, si_2]⟩
theorem PZ_f {A B : Mem} (h : (∀ kx i, ¬ (kx = 162 ∧ (i = 17 ∨ i = 18)) → B.1 kx i = A.1 kx i) ∧ B.2 = A.2) : PZ A B := ⟨fun kx i _ b => h.1 kx i b, h.2⟩
theorem need_f {N r : Mem} {c : Int32} (e : f_Mod_need c N = some r) : (∀ kx i, ¬ (kx = 162 ∧ (i = 17 ∨ i = 18)) → r.1 kx i = N.1 kx i) ∧ r.2 = N.2 := by
  unfold f_Mod_need at e
  obtain ⟨x1, e1, e⟩ := bo e
  have p := passes_f e1
  rcases io e with ⟨_, e⟩ | ⟨_, e⟩
  · obtain ⟨x2, e2, e⟩ := bo e
    obtain rfl := Option.some.inj e
    have f := fault_f e2
    exact ⟨fun kx i g => (f.1 kx i g).trans (p.1 kx i g), f.2.trans p.2⟩
  · obtain rfl := Option.some.inj e
    exact p
theorem route_f {N : Mem} {v2 : Int32} {x : Int32 × Mem} (e : f_Mod_readRoute 170 v2 N = some x) : PZ N x.2 := by
  unfold f_Mod_readRoute at e
  obtain ⟨_, e⟩ := io_n e
  obtain ⟨x12, e12, e⟩ := bo e
  have key : PZ N x12.2 := by
    refine it_r (I := fun s : Int32 × Mem => PZ N s.2) (Q := fun s : Int32 × Mem => PZ N s.2) ?_ e12 ⟨fun _ _ _ _ => rfl, rfl⟩
    rintro ⟨a, B⟩ r h e
    dsimp only at h
    unfold lb_Mod_readRoute_2 at e
    dsimp only at e
    obtain ⟨x1, e1, e⟩ := bo e
    rcases io e with ⟨_, e⟩ | ⟨_, e⟩
    · obtain rfl := Option.some.inj e; exact h
    obtain ⟨x2, e2, e⟩ := bo e
    obtain ⟨x3, e3, e⟩ := bo e
    rcases io e with ⟨_, e⟩ | ⟨_, e⟩
    · obtain rfl := Option.some.inj e; exact h
    rcases io e with ⟨_, e⟩ | ⟨_, e⟩
    · obtain ⟨x8, e8, e⟩ := bo e
      obtain rfl := Option.some.inj e
      exact PZ_t h (PZ_f (fault_f e8))
    obtain ⟨x4, e4, e⟩ := bo e
    obtain ⟨x5, e5, e⟩ := bo e
    obtain ⟨_, e⟩ := io_n e
    obtain ⟨M6, m6, e⟩ := mo e
    obtain ⟨M7, m7, e⟩ := mo e
    obtain rfl := Option.some.inj e
    exact PZ_t h (PZ_t (PZ_s m6) (PZ_17 m7))
  unfold j_Mod_readRoute_65 at e
  rcases io e with ⟨_, e⟩ | ⟨_, e⟩
  · obtain ⟨x13, e13, e⟩ := bo e
    obtain rfl := Option.some.inj e
    exact PZ_t key (PZ_f (fault_f e13))
  · obtain rfl := Option.some.inj e; exact key
theorem f107 {N x : Mem} {v1 : Int32} (e : j_Mod_readOne_107 v1 N = some x) : PZ N x := by
  unfold j_Mod_readOne_107 at e
  obtain ⟨x8, e8, e⟩ := bo e
  obtain ⟨x9, e9, e⟩ := bo e
  obtain ⟨_, e⟩ := io_n e
  obtain ⟨M10, m10, e⟩ := mo e
  obtain rfl := Option.some.inj e
  exact PZ_t (PZ_f (need_f e8)) (PZ_t (route_f e9) (PZ_s m10))
theorem f46 {N x : Mem} {v1 : Int32} (e : j_Mod_readOne_46 v1 N = some x) : PZ N x := by
  unfold j_Mod_readOne_46 at e
  obtain ⟨M4, m4, e⟩ := mo e
  obtain ⟨x5, e5, e⟩ := bo e
  obtain ⟨_, e⟩ := io_n e
  obtain ⟨M6, m6, e⟩ := mo e
  obtain ⟨x7, e7, e⟩ := bo e
  have h6 : PZ N M6 := PZ_t (PZ_17 m4) (PZ_t (PZ_f (number_f e5)) (PZ_s m6))
  rcases io e with ⟨_, e⟩ | ⟨_, e⟩
  · exact PZ_t h6 (f107 e)
  obtain ⟨_, e⟩ := io_n e
  obtain ⟨_, e⟩ := io_n e
  obtain ⟨x11, e11, e⟩ := bo e
  rcases io e with ⟨_, e⟩ | ⟨_, e⟩
  · obtain ⟨x12, e12, e⟩ := bo e
    exact PZ_t h6 (PZ_t (PZ_f (fault_f e12)) (f107 e))
  · exact PZ_t h6 (f107 e)
theorem f19 {N x : Mem} {v1 w0 w1 : Int32} (e : j_Mod_readOne_19 v1 w0 w1 N = some x) : PZ N x := by
  unfold j_Mod_readOne_19 at e
  obtain ⟨_, e⟩ := io_n e
  obtain ⟨M2, m2, e⟩ := mo e
  obtain ⟨x3, e3, e⟩ := bo e
  rcases io e with ⟨_, e⟩ | ⟨_, e⟩
  · exact PZ_t (PZ_s m2) (f46 e)
  obtain ⟨x15, e15, e⟩ := bo e
  rcases io e with ⟨_, e⟩ | ⟨_, e⟩
  · exact PZ_t (PZ_s m2) (f46 e)
  obtain ⟨x16, e16, e⟩ := bo e
  exact PZ_t (PZ_s m2) (PZ_t (PZ_f (fault_f e16)) (f46 e))
theorem one_f {N x : Mem} {v1 : Int32} (e : f_Mod_readOne v1 N = some x) : PZ N x := by
  unfold f_Mod_readOne at e
  obtain ⟨x1, e1, e⟩ := bo e
  rcases io e with ⟨_, e⟩ | ⟨_, e⟩
  · exact f19 e
  · exact f19 e
theorem isOf_e {N A : Mem} (h2 : N.1 162 2 = A.1 162 2) (h3 : N.1 162 3 = A.1 162 3) (h4 : ∀ i, N.1 164 i = A.1 164 i) (l c : Int32) : f_Mod_isOf l c N = f_Mod_isOf l c A := by
  unfold f_Mod_isOf f_Mod_isCell f_Mod_cells
  simp only [h2, h3, h4]
theorem bad_107 {N x : Mem} (hw : (N.1 162 18).toInt ≠ -1) {v1 : Int32} (e : j_Mod_readOne_107 v1 N = some x) : (x.1 162 18).toInt ≠ -1 := by
  unfold j_Mod_readOne_107 at e
  obtain ⟨x8, e8, ea⟩ := bo e
  rw [need_n hw e8] at ea
  obtain ⟨x9, e9, eb⟩ := bo ea
  rw [route_n hw e9] at eb
  obtain ⟨_, ec⟩ := io_n eb
  obtain ⟨M10, m10, ed⟩ := mo ec
  obtain rfl := Option.some.inj ed
  rw [m10, si_ne (by omega)]; exact hw
theorem bad_46 {N x : Mem} (hw : (N.1 162 18).toInt ≠ -1) {v1 : Int32} (e : j_Mod_readOne_46 v1 N = some x) : (x.1 162 18).toInt ≠ -1 := by
  unfold j_Mod_readOne_46 at e
  obtain ⟨M4, m4, e⟩ := mo e
  have w4 : (M4.1 162 18).toInt ≠ -1 := by rw [m4, si_ne (by omega)]; exact hw
  obtain ⟨x5, e5, e⟩ := bo e
  have h5 := number_n w4 e5
  subst h5
  obtain ⟨_, e⟩ := io_n e
  obtain ⟨M6, m6, e⟩ := mo e
  have w6 : (M6.1 162 18).toInt ≠ -1 := by rw [m6, si_ne (by omega)]; exact w4
  obtain ⟨x7, e7, e⟩ := bo e
  rcases fine_i e7 with ⟨a, _⟩ | ⟨_, b⟩
  · rw [a, if_pos rfl] at e
    exact bad_107 w6 e
  · exact absurd b w6
def LnD (t : Nat → Int) (p j : Nat) (x : Mem) : Prop := (x.1 170 (12 * j)).toInt = lvt t p ∧ (x.1 170 (12 * j + 1)).toInt = cel t p ∧ (x.1 170 (12 * j + 2)).toInt = (rtn t 9 (rst t p) : Int) ∧ ∀ i, i < rtn t 9 (rst t p) → (x.1 170 (12 * j + 3 + i)).toInt = stp (t (rst t p + i)) ∧ stp (t (rst t p + i)) ≠ -1
def FrO (A x : Mem) (j : Nat) : Prop := (∀ kx i, ¬ (kx = 170 ∧ 12 * j ≤ i ∧ i < 12 * j + 12) → ¬ (kx = 162 ∧ (i = 17 ∨ i = 18)) → x.1 kx i = A.1 kx i) ∧ x.2 = A.2
theorem line_r {t : Nat → Int} {A A0 : Mem} (hA : Rd t A) (jA : J A0) (t2 : A.1 162 2 = A0.1 162 2) (t3 : A.1 162 3 = A0.1 162 3) (t4 : ∀ i, A.1 164 i = A0.1 164 i) {v1 : Int32} {j p : Nat} (h1 : v1.toInt = ((12 * j : Nat) : Int)) (j7 : j ≤ 7) (hp : (A.1 162 17).toInt = (p : Int)) (p80 : p ≤ 80) (hw : (A.1 162 18).toInt = -1) {x} (e : f_Mod_readOne v1 A = some x) : ((x.1 162 18).toInt = -1 ∧ LnOk t (onN A0) p ∧ FrO A x j ∧ (x.1 162 17).toInt = ((rst t p + rtn t 9 (rst t p) : Nat) : Int) ∧ LnD t p j x ∧ stp (t (rst t p + rtn t 9 (rst t p))) = -1) ∨ ((x.1 162 18).toInt ≠ -1 ∧ (LnOk t (onN A0) p → stp (t (rst t p + rtn t 9 (rst t p))) ≠ -1)) := by
  have z0 := o0
  have ym := om
  have k119 : (119 : Int32).toInt = 119 := rfl
  have k109 : (109 : Int32).toInt = 109 := rfl
  have hlr := ln_rt
  have h46 : ∀ (w0 : Int32) (M2 : Mem), w0.toInt = lvt t p → (t p = 109 ∨ t p = 119) → M2 = s_i A 170 (12 * j) w0 → j_Mod_readOne_46 v1 M2 = some x → ((x.1 162 18).toInt = -1 ∧ LnOk t (onN A0) p ∧ FrO A x j ∧ (x.1 162 17).toInt = ((rst t p + rtn t 9 (rst t p) : Nat) : Int) ∧ LnD t p j x ∧ stp (t (rst t p + rtn t 9 (rst t p))) = -1) ∨ ((x.1 162 18).toInt ≠ -1 ∧ (LnOk t (onN A0) p → stp (t (rst t p + rtn t 9 (rst t p))) ≠ -1)) := by
    intro w0 M2 hw0 hmw m2 e
    have p79 : p < 80 := (Rd_rng hA p).2.2 (by omega)
    have dlb : dgl t p ≤ 2 := dgn_le _ 2 (p + 1)
    unfold j_Mod_readOne_46 at e
    obtain ⟨M4, m4, e⟩ := mo e
    have w4 : (M4.1 162 18).toInt = -1 := by rw [m4, si_ne (by omega), m2, si_ne (by omega)]; exact hw
    have a4 : (M4.1 162 17).toInt = ((p + 1 : Nat) : Int) := by
      rw [m4, si_eq, m2, si_ne (by omega)]; exact add_ti hp o1 (by omega) (by omega)
    have f4 : ∀ kx i, ¬ (kx = 170 ∧ i = 12 * j) → ¬ (kx = 162 ∧ (i = 17 ∨ i = 18)) → M4.1 kx i = A.1 kx i := fun kx i g1 g2 => by rw [m4, si_ne (by omega), m2, si_ne g1]
    have q4 : M4.2 = A.2 := by rw [m4, si_2, m2, si_2]
    have r4 : Rd t M4 := Rd_f hA (by rw [q4]) (f4 162 15 (by omega) (by omega)) (f4 162 16 (by omega) (by omega)) (fun i => f4 167 i (by omega) (by omega)) (fun i => f4 172 i (by omega) (by omega))
    obtain ⟨x5, e5, e⟩ := bo e
    obtain ⟨n1, n2, n3, n4, n5, n6⟩ := number_i (K := 2) r4 (by omega) rfl a4 (by omega) w4 e5
    have dl : dgn t 2 (p + 1) ≤ 2 := dgn_le _ 2 (p + 1)
    obtain ⟨_, e⟩ := io_n e
    obtain ⟨M6, m6, e⟩ := mo e
    have i1 : (v1 + (1 : Int32)).toInt = ((12 * j + 1 : Nat) : Int) := add_ti h1 o1 (by omega) (by omega)
    rw [q_nat i1] at m6
    have f5 : ∀ kx i, ¬ (kx = 162 ∧ (i = 17 ∨ i = 18)) → x5.2.1 kx i = M4.1 kx i := (number_f e5).1
    have q5 : x5.2.2 = M4.2 := (number_f e5).2
    have f6 : ∀ kx i, ¬ (kx = 170 ∧ 12 * j ≤ i ∧ i < 12 * j + 12) → ¬ (kx = 162 ∧ (i = 17 ∨ i = 18)) → M6.1 kx i = A.1 kx i := fun kx i g1 g2 => by
      rw [m6, si_ne (by omega), f5 kx i g2]; exact f4 kx i (by omega) g2
    have q6 : M6.2 = A.2 := by rw [m6, si_2, q5, q4]
    have a6 : (M6.1 162 17).toInt = ((p + 1 + dgl t p : Nat) : Int) := by rw [m6, si_ne (by omega)]; exact n5
    have l6 : (M6.1 170 (12 * j)).toInt = lvt t p := by rw [m6, si_ne (by omega), f5 170 _ (by omega), m4, si_ne (by omega), m2, si_eq]; exact hw0
    have c6 : (M6.1 170 (12 * j + 1)).toInt = cel t p := by rw [m6, si_eq]; exact n2
    obtain ⟨x7, e7, e⟩ := bo e
    rcases n6 with ⟨d0, w5⟩ | ⟨d0, w5⟩
    · have w6 : (M6.1 162 18).toInt ≠ -1 := by rw [m6, si_ne (by omega), w5]; omega
      rcases fine_i e7 with ⟨a, _⟩ | ⟨_, b⟩
      · rw [a, if_pos rfl] at e
        refine .inr ⟨bad_107 w6 e, fun h => ?_⟩
        have := h.2.1
        unfold dgl at this
        omega
      · exact absurd b w6
    have w6 : (M6.1 162 18).toInt = -1 := by rw [m6, si_ne (by omega)]; exact w5
    have dpos : 0 < dgl t p := d0
    rcases fine_i e7 with ⟨_, b⟩ | ⟨a, _⟩
    · exact absurd w6 b
    rw [a, if_neg (by decide)] at e
    obtain ⟨_, e⟩ := io_n e
    obtain ⟨_, e⟩ := io_n e
    obtain ⟨x11, e11, e⟩ := bo e
    rw [q_nat h1, q_nat i1] at e11
    rw [isOf_e ((f6 162 2 (by omega) (by omega)).trans t2) ((f6 162 3 (by omega) (by omega)).trans t3) (fun i => (f6 164 i (by omega) (by omega)).trans (t4 i))] at e11
    have hon := some_of (fs_isOf jA _ _) e11
    rw [l6, c6] at hon
    rcases hon with ⟨hx, hon⟩ | ⟨hx, hon⟩
    rotate_left
    · rw [hx, if_pos rfl] at e
      obtain ⟨x12, e12, e⟩ := bo e
      rcases fault_i e12 with ⟨h, _⟩ | ⟨_, h⟩
      · exact absurd w6 h
      · refine .inr ⟨bad_107 ?_ e, fun h => absurd h.2.2.1 hon⟩
        rw [h, si_eq, sub_ti a6 o1 (by omega) (by omega)]; omega
    rw [hx, if_neg (by decide)] at e
    unfold j_Mod_readOne_107 at e
    obtain ⟨x8, e8, e⟩ := bo e
    have r6 : Rd t M6 := Rd_f hA (by rw [q6]) (f6 162 15 (by omega) (by omega)) (f6 162 16 (by omega) (by omega)) (fun i => f6 167 i (by omega) (by omega)) (fun i => f6 172 i (by omega) (by omega))
    unfold f_Mod_need at e8
    obtain ⟨y1, ey1, e8⟩ := bo e8
    have k58 : (58 : Int32).toInt = 58 := rfl
    rcases passes_i r6 a6 w6 (by omega) (by omega) ey1 with ⟨tc, ty, ta, tw⟩ | ⟨tc, ty, te⟩
    rotate_left
    · rw [if_pos ty] at e8
      obtain ⟨y2, ey2, e8⟩ := bo e8
      obtain rfl := Option.some.inj e8
      have wn : (y2.1 162 18).toInt ≠ -1 := by
        rw [te] at ey2
        rcases fault_i ey2 with ⟨h, _⟩ | ⟨_, h⟩
        · exact absurd w6 h
        · rw [h, si_eq, a6]; omega
      obtain ⟨x9, e9, e⟩ := bo e
      have h9 := route_n wn e9
      subst h9
      obtain ⟨_, e⟩ := io_n e
      obtain ⟨M10, m10, e⟩ := mo e
      obtain rfl := Option.some.inj e
      refine .inr ⟨by rw [m10, si_ne (by omega)]; exact wn, fun h => ?_⟩
      have := h.2.2.2.1
      omega
    rw [if_neg ty] at e8
    obtain rfl := Option.some.inj e8
    have fp : (∀ kx i, ¬ (kx = 162 ∧ (i = 17 ∨ i = 18)) → y1.2.1 kx i = M6.1 kx i) ∧ y1.2.2 = M6.2 := passes_f ey1
    have f8 : ∀ kx i, ¬ (kx = 170 ∧ 12 * j ≤ i ∧ i < 12 * j + 12) → ¬ (kx = 162 ∧ (i = 17 ∨ i = 18)) → y1.2.1 kx i = A.1 kx i := fun kx i g1 g2 => by rw [fp.1 kx i g2]; exact f6 kx i g1 g2
    have q8 : y1.2.2 = A.2 := by rw [fp.2, q6]
    have r8 : Rd t y1.2 := Rd_f hA (by rw [q8]) (f8 162 15 (by omega) (by omega)) (f8 162 16 (by omega) (by omega)) (fun i => f8 167 i (by omega) (by omega)) (fun i => f8 172 i (by omega) (by omega))
    have p77 : p + 1 + dgl t p < 80 := (Rd_rng hA _).2.2 (by omega)
    have a8 : (y1.2.1 162 17).toInt = ((rst t p : Nat) : Int) := by rw [ta]; unfold rst; omega
    obtain ⟨x9, e9, e⟩ := bo e
    have z3 := o3
    have i3 : (v1 + (3 : Int32)).toInt = ((12 * j + 3 : Nat) : Int) := add_ti h1 z3 (by omega) (by omega)
    obtain ⟨g1, g2, g3, g4, g5, g6⟩ := route_i (o := 12 * j + 3) (p := rst t p) r8 (.inr rfl) i3 (by omega) a8 tw (by unfold rst; omega) e9
    obtain ⟨_, e⟩ := io_n e
    obtain ⟨M10, m10, e⟩ := mo e
    obtain rfl := Option.some.inj e
    have z2 := o2
    have i2 : (v1 + (2 : Int32)).toInt = ((12 * j + 2 : Nat) : Int) := add_ti h1 z2 (by omega) (by omega)
    rw [q_nat i2] at m10
    have w10 : M10.1 162 18 = x9.2.1 162 18 := by rw [m10, si_ne (by omega)]
    rw [w10]
    have rl := rtn_le t 9 (rst t p)
    rcases g4 with ⟨u1, u2⟩ | ⟨u1, u2, u3⟩ | ⟨u1, u2, u3⟩
    · exact .inr ⟨by rw [u2]; omega, fun h => by have := h.2.2.2.2; omega⟩
    · exact .inr ⟨by rw [u3]; omega, fun _ => by rw [u1]; exact u2⟩
    · refine .inl ⟨u3, ⟨hmw, dpos, hon, tc, u1⟩, ⟨fun kx i k1 k2 => ?_, ?_⟩, ?_, ⟨?_, ?_, ?_, fun i hi => ?_⟩, u2⟩
      · rw [m10, si_ne (by omega), g5 kx i (by omega) k2]; exact f8 kx i k1 k2
      · rw [m10, si_2, g6, q8]
      · rw [m10, si_ne (by omega)]; exact g2
      · rw [m10, si_ne (by omega), g5 170 _ (by omega) (by omega), fp.1 170 _ (by omega)]; exact l6
      · rw [m10, si_ne (by omega), g5 170 _ (by omega) (by omega), fp.1 170 _ (by omega)]; exact c6
      · rw [m10, si_eq]; exact g1
      · rw [m10, si_ne (by omega)]; exact g3 i hi
  have hbad : ∀ M2 y, (M2.1 162 17).toInt = (p : Int) → (M2.1 162 18).toInt = -1 → ¬ (t p = 109 ∨ t p = 119) → f_Mod_fault (M2.1 162 17) M2 = some y → j_Mod_readOne_46 v1 y = some x → (x.1 162 18).toInt ≠ -1 ∧ (LnOk t (onN A0) p → stp (t (rst t p + rtn t 9 (rst t p))) ≠ -1) := by
    intro M2 y ha hb hn ef e
    rcases fault_i ef with ⟨h, _⟩ | ⟨_, h⟩
    · exact absurd hb h
    · exact ⟨bad_46 (by rw [h, si_eq, ha]; omega) e, fun h => absurd h.1 hn⟩
  have h19 : ∀ w0 : Int32, w0.toInt = lvt t p → j_Mod_readOne_19 v1 w0 v1 A = some x → ((x.1 162 18).toInt = -1 ∧ LnOk t (onN A0) p ∧ FrO A x j ∧ (x.1 162 17).toInt = ((rst t p + rtn t 9 (rst t p) : Nat) : Int) ∧ LnD t p j x ∧ stp (t (rst t p + rtn t 9 (rst t p))) = -1) ∨ ((x.1 162 18).toInt ≠ -1 ∧ (LnOk t (onN A0) p → stp (t (rst t p + rtn t 9 (rst t p))) ≠ -1)) := by
    intro w0 hw0 e
    unfold j_Mod_readOne_19 at e
    obtain ⟨_, e⟩ := io_n e
    obtain ⟨M2, m2, e⟩ := mo e
    rw [q_nat h1] at m2
    have f2 : ∀ kx i, ¬ (kx = 170) → M2.1 kx i = A.1 kx i := fun kx i g => by rw [m2, si_ne (by omega)]
    have r2 : Rd t M2 := Rd_f hA (by rw [m2, si_2]) (f2 162 15 (by omega)) (f2 162 16 (by omega)) (fun i => f2 167 i (by omega)) (fun i => f2 172 i (by omega))
    have a2 : (M2.1 162 17).toInt = (p : Int) := by rw [f2 162 17 (by omega)]; exact hp
    have w2 : (M2.1 162 18).toInt = -1 := by rw [f2 162 18 (by omega)]; exact hw
    obtain ⟨x3, e3, e⟩ := bo e
    have c3 := here_c (c := 119) r2 a2 e3 (by omega) (by omega)
    rcases io e with ⟨c, e⟩ | ⟨c, e⟩
    · exact h46 w0 M2 hw0 (.inr (by rw [c3.mp c]; rfl)) m2 e
    obtain ⟨x15, e15, e⟩ := bo e
    have c15 := here_c (c := 109) r2 a2 e15 (by omega) (by omega)
    rcases io e with ⟨c', e⟩ | ⟨c', e⟩
    · exact h46 w0 M2 hw0 (.inl (by rw [c15.mp c']; rfl)) m2 e
    obtain ⟨x16, e16, e⟩ := bo e
    refine .inr (hbad M2 x16 a2 w2 ?_ e16 e)
    rintro (h | h)
    · exact c' (c15.mpr (by rw [h, k109]))
    · exact c (c3.mpr (by rw [h, k119]))
  unfold f_Mod_readOne at e
  obtain ⟨x1, e1, e⟩ := bo e
  have c1 := here_c (c := 119) hA hp e1 (by omega) (by omega)
  rcases io e with ⟨c, e⟩ | ⟨c, e⟩
  · exact h19 1 (by unfold lvt; rw [if_pos (by rw [c1.mp c]; rfl)]; exact o1) e
  · exact h19 0 (by unfold lvt; rw [if_neg (fun h => c (c1.mpr (by rw [h, k119])))]; exact o0) e
end
section
/-! the folk is read: both loops -/
theorem it_2e {S T X Y : Type} {f : S → Option (S ⊕ X)} {g : T → Option (T ⊕ Y)} {I : S → T → Prop} {Q : X → Y → Prop} (hs : ∀ s t a b, I s t → f s = some a → g t = some b → (∃ s' t', a = .inl s' ∧ b = .inl t' ∧ I s' t') ∨ (∃ x t', a = .inr x ∧ b = .inl t' ∧ ∀ c, g t' = some c → ∃ y, c = .inr y ∧ Q x y)) {n m : Nat} {s : S} {t : T} {x : X} {y : Y} (e : iter f n s = some x) (d : iter g m t = some y) (h : I s t) : Q x y := by
  induction n generalizing s t m with
  | zero => cases e
  | succ n ih =>
    cases m with
    | zero => cases d
    | succ m =>
      simp only [iter] at e d
      cases hf : f s with
      | none => rw [hf] at e; cases e
      | some a =>
        cases hg : g t with
        | none => rw [hg] at d; cases d
        | some b =>
          rw [hf] at e
          rw [hg] at d
          rcases hs s t a b h hf hg with ⟨s', t', rfl, rfl, k⟩ | ⟨x', t', rfl, rfl, k⟩
          · exact ih e d k
          · obtain rfl := Option.some.inj e
            cases m with
            | zero => cases d
            | succ m =>
              simp only [iter] at d
              cases hg2 : g t' with
              | none => rw [hg2] at d; cases d
              | some c =>
                rw [hg2] at d
                obtain ⟨y', rfl, q⟩ := k c hg2
                obtain rfl := Option.some.inj d
                exact q
/-- what was read of j lines, behind n0 people -/
def FD (R : Mem) (n0 j : Nat) (X S : Mem) : Prop := (∀ i, i < j → X.1 9 (n0 + i) = S.1 170 (12 * i + 1) ∧ X.1 8 (n0 + i) = S.1 170 (12 * i + 2) ∧ 1 ≤ (S.1 170 (12 * i + 2)).toInt ∧ (S.1 170 (12 * i + 2)).toInt ≤ 9 ∧ (0 ≤ (S.1 170 (12 * i)).toInt ∧ (S.1 170 (12 * i)).toInt ≤ 1) ∧ onN R (S.1 170 (12 * i)).toInt (S.1 170 (12 * i + 1)).toInt ∧ bt (X.1 6 6) (n0 + i) = decide ((S.1 170 (12 * i)).toInt = 1) ∧ ∀ s : Nat, (s : Int) < (S.1 170 (12 * i + 2)).toInt → X.1 7 (9 * (n0 + i) + s) = S.1 170 (12 * i + 3 + s) ∧ 0 ≤ (S.1 170 (12 * i + 3 + s)).toInt ∧ (S.1 170 (12 * i + 3 + s)).toInt ≤ 4) ∧ ∀ d, ¬ (n0 ≤ d ∧ d < n0 + j) → bt (X.1 6 6) d = false
def FoA (X0 R0 : Mem) (n0 : Nat) (X S : Mem) : Prop := (∀ kx i, ¬ (kx = 1 ∧ i = 2) → kx ≠ 9 → ¬ (kx = 6 ∧ i = 6) → ¬ (kx = 7 ∧ 9 * n0 ≤ i) → ¬ (kx = 8 ∧ n0 ≤ i) → X.1 kx i = X0.1 kx i) ∧ X.2 = X0.2 ∧ (∀ kx i, kx ≠ 170 → ¬ (kx = 162 ∧ (i = 17 ∨ i = 18)) → S.1 kx i = R0.1 kx i) ∧ S.2 = R0.2
def FoI (t : Nat → Int) (X0 R0 : Mem) (n0 : Nat) (s u : Int32 × Int32 × Mem) : Prop := ∃ j p : Nat, n0 + j ≤ 8 ∧ p ≤ 80 ∧ s.1.toInt = (p : Int) ∧ s.2.1.toInt = (j : Int) ∧ u.1.toInt = (j : Int) ∧ ¬ u.2.1 = 0 ∧ (u.2.2.1 162 17).toInt = (p : Int) ∧ (u.2.2.1 162 18).toInt = -1 ∧ FD R0 n0 j s.2.2 u.2.2 ∧ FoA X0 R0 n0 s.2.2 u.2.2
/-- refused, or read to the end -/
def RFu (S : Mem) : Prop := (S.1 162 18).toInt ≠ -1 ∨ (0 ≤ (S.1 162 17).toInt ∧ (S.1 162 17).toInt < (S.1 162 15).toInt)
def FoQ (t : Nat → Int) (X0 R0 : Mem) (n0 : Nat) (y : (Int32 × Mem) ⊕ ((Int32 × Mem) ⊕ ((Int32 × Mem) ⊕ (Int32 × Mem)))) (z : Int32 × Mem) : Prop := match y with
  | .inl _ => False
  | .inr (.inl y) => y.1.toInt < 0 ∧ RFu z.2 ∧ FoA X0 R0 n0 y.2 z.2
  | .inr (.inr (.inl y)) => ∃ j p : Nat, n0 + j + 1 ≤ 8 ∧ y.1.toInt = (j : Int) ∧ z.1.toInt = ((j + 1 : Nat) : Int) ∧ (z.2.1 162 17).toInt = (p : Int) ∧ (z.2.1 162 18).toInt = -1 ∧ t p = -1 ∧ p ≤ 76 ∧ FD R0 n0 (j + 1) y.2 z.2 ∧ FoA X0 R0 n0 y.2 z.2
  | .inr (.inr (.inr y)) => 0 ≤ y.1.toInt ∧ RFu z.2 ∧ FoA X0 R0 n0 y.2 z.2
theorem FD_s {R X S X' S' : Mem} {t : Nat → Int} {n0 j p : Nat} (n8 : n0 + j < 8) (h : FD R n0 j X S) (fx : ∀ kx i, ¬ (kx = 1 ∧ i = 2) → kx ≠ 9 → ¬ (kx = 6 ∧ i = 6) → ¬ (kx = 7 ∧ 9 * (n0 + j) ≤ i) → ¬ (kx = 8 ∧ n0 + j ≤ i) → X'.1 kx i = X.1 kx i) (hok : LnOk t (onN R) p) (c9 : (X'.1 9 (n0 + j)).toInt = cel t p) (o9 : ∀ i, i ≠ n0 + j → X'.1 9 i = X.1 9 i) (hb : ∀ d, bt (X'.1 6 6) d = (bt (X.1 6 6) d || (decide (lvt t p = 1) && decide (d = n0 + j)))) (c8 : (X'.1 8 (n0 + j)).toInt = (rtn t 9 (rst t p) : Int)) (c7 : ∀ i, i < rtn t 9 (rst t p) → (X'.1 7 (9 * (n0 + j) + i)).toInt = stp (t (rst t p + i)) ∧ stp (t (rst t p + i)) ≠ -1) (fs : ∀ i, ¬ (12 * j ≤ i ∧ i < 12 * j + 12) → S'.1 170 i = S.1 170 i) (ld : LnD t p j S') : FD R n0 (j + 1) X' S' := by
  obtain ⟨h1, h2⟩ := h
  obtain ⟨l1, l2, l3, l4⟩ := ld
  have rl := rtn_le t 9 (rst t p)
  have rp := hok.2.2.2.2
  refine ⟨fun i hi => ?_, fun d hd => ?_⟩
  · rcases Nat.lt_or_ge i j with g | g
    · obtain ⟨a1, a2, a3, a4, a5, a6, a7, a8⟩ := h1 i g
      rw [fs (12 * i + 1) (by omega), fs (12 * i + 2) (by omega), fs (12 * i) (by omega), o9 (n0 + i) (by omega), fx 8 (n0 + i) (by omega) (by omega) (by omega) (by omega) (by omega)]
      refine ⟨a1, a2, a3, a4, a5, a6, ?_, fun s hs => ?_⟩
      · rw [hb, a7, show decide (n0 + i = n0 + j) = false from decide_eq_false (by omega)]; simp
      · rw [fs (12 * i + 3 + s) (by omega), fx 7 (9 * (n0 + i) + s) (by omega) (by omega) (by omega) (by omega) (by omega)]; exact a8 s hs
    · have : i = j := by omega
      subst this
      have lb : 0 ≤ lvt t p ∧ lvt t p ≤ 1 := by unfold lvt; split <;> omega
      refine ⟨Int32.toInt_inj.mp (c9.trans l2.symm), Int32.toInt_inj.mp (c8.trans l3.symm), by omega, by omega, by omega, by rw [l1, l2]; exact hok.2.2.1, ?_, fun s hs => ?_⟩
      · rw [hb, h2 (n0 + i) (by omega), l1, show decide (n0 + i = n0 + i) = true from decide_eq_true rfl]; simp
      · have k1 := c7 s (by omega)
        have k2 := l4 s (by omega)
        have sb := stp_b (t (rst t p + s))
        exact ⟨Int32.toInt_inj.mp (k1.1.trans k2.1.symm), by omega, by omega⟩
  · rw [hb, h2 d (by omega), show decide (d = n0 + j) = false from decide_eq_false (by omega)]; simp
theorem folk_l {X0 R0 X1 : Mem} {n0 : Nat} (zg : ZG X0 R0) (jR : J R0) (zc1 : X0.1 6 4 = R0.1 162 4) (zc2 : (R0.1 162 4).toInt = (n0 : Int)) (n8 : n0 ≤ 8) (hl : (X0.1 1 1).toInt ≤ 80) (rd : Rd (cx X0 76) R0) (a0 : (R0.1 162 17).toInt = 0) (w0 : (R0.1 162 18).toInt = -1) (len : R0.1 162 15 = X0.1 1 1) (x1 : X1 = s_i X0 6 6 (0 : Int32)) {y z} (e : iter lb_Crowd_read_19 FU ((0 : Int32), (0 : Int32), X1) = some y) (d : iter lb_Mod_folk_37 FU ((0 : Int32), (1 : Int32), R0) = some z) : FoQ (cx X0 76) X0 R0 n0 y z := by
  have k8 : (8 : Int32).toInt = 8 := rfl
  have k76 : (76 : Int32).toInt = ((76 : Nat) : Int) := rfl
  have k12 : (12 : Int32).toInt = 12 := rfl
  have k59 : (59 : Int32).toInt = 59 := rfl
  have ym := om
  have z0 := o0
  -- the reference's end
  have fin : ∀ (v : Int32) (S : Mem) c, lb_Mod_folk_37 (v, (0 : Int32), S) = some c → c = .inr (v, S) := by
    intro v S c h
    unfold lb_Mod_folk_37 at h
    dsimp only at h
    rw [if_pos rfl] at h
    exact (Option.some.inj h).symm
  refine it_2e (I := FoI (cx X0 76) X0 R0 n0) (Q := FoQ (cx X0 76) X0 R0 n0) ?_ e d ⟨0, 0, by omega, by omega, rfl, rfl, rfl, (by show ¬ (1 : Int32) = 0; decide), a0, w0, ⟨fun i hi => by omega, fun d _ => ?_⟩, fun kx i _ _ h _ _ => ?_, ?_, fun _ _ _ _ => rfl, rfl⟩
  rotate_left
  · show bt (X1.1 6 6) d = false
    rw [x1, si_eq]; exact bt_0 d
  · show X1.1 kx i = _
    rw [x1, si_ne h]
  · show X1.2 = _
    rw [x1, si_2]
  rintro ⟨sp, sl, X⟩ ⟨un, um, S⟩ a b ⟨j, p, hj8, p80, hp, hj, hn, hm, hat, hw, fd, fa⟩ ea eb
  dsimp only at hp hj hn hm hat hw fd fa
  obtain ⟨fa1, fa2, fa3, fa4⟩ := fa
  have cxe : cx X 76 = cx X0 76 := cx_c (fa1 1 1 (by omega) (by omega) (by omega) (by omega) (by omega)) (fun i => fa1 2 i (by omega) (by omega) (by omega) (by omega) (by omega)) 76
  have rdS : Rd (cx X0 76) S := Rd_f rd (by rw [fa4]) (fa3 162 15 (by omega) (by omega)) (fa3 162 16 (by omega) (by omega)) (fun i => fa3 167 i (by omega) (by omega)) (fun i => fa3 172 i (by omega) (by omega))
  unfold lb_Crowd_read_19 at ea
  dsimp only at ea
  rcases io ea with ⟨c, _⟩ | ⟨c, ea⟩
  · have := q_lt c; omega
  obtain ⟨x2, e2, ea⟩ := bo ea
  have zgX : ZG X R0 := ZG_f (fa1 3 2 (by omega) (by omega) (by omega) (by omega) (by omega)) (fa1 3 3 (by omega) (by omega) (by omega) (by omega) (by omega)) (fun i => fa1 4 i (by omega) (by omega) (by omega) (by omega) (by omega)) rfl rfl (fun _ => rfl) zg
  have x64 : X.1 6 4 = R0.1 162 4 := by rw [fa1 6 4 (by omega) (by omega) (by omega) (by omega) (by omega)]; exact zc1
  have h3 : (X.1 6 4 + sl).toInt = ((n0 + j : Nat) : Int) := by rw [x64, add_ti zc2 hj (by omega) (by omega)]; omega
  have LC := line_c zgX jR (by rw [fa1 1 1 (by omega) (by omega) (by omega) (by omega) (by omega)]; exact hl) h3 hp p80 e2
  rw [cxe] at LC
  obtain ⟨lf, lq, LC⟩ := LC
  have x11 : x2.2.1 1 1 = X0.1 1 1 := by rw [lf 1 1 (by omega) (by omega) (by omega) (by omega) (by omega)]; exact fa1 1 1 (by omega) (by omega) (by omega) (by omega) (by omega)
  have fxa : ∀ kx i, ¬ (kx = 1 ∧ i = 2) → kx ≠ 9 → ¬ (kx = 6 ∧ i = 6) → ¬ (kx = 7 ∧ 9 * n0 ≤ i) → ¬ (kx = 8 ∧ n0 ≤ i) → x2.2.1 kx i = X0.1 kx i := fun kx i h1 h2 h3 h4 h5 => by
    rw [lf kx i h1 h2 h3 (by omega) (by omega)]; exact fa1 kx i h1 h2 h3 h4 h5
  have fxq : x2.2.2 = X0.2 := by rw [lq, fa2]
  unfold lb_Mod_folk_37 at eb
  dsimp only at eb
  rw [if_neg hm] at eb
  obtain ⟨y4, ey4, eb⟩ := bo eb
  rcases fine_i ey4 with ⟨_, h⟩ | ⟨h, _⟩
  · exact absurd hw h
  rw [h, if_neg (by decide)] at eb
  have hsum : (S.1 162 4 + un).toInt = ((n0 + j : Nat) : Int) := by rw [fa3 162 4 (by omega) (by omega), add_ti zc2 hn (by omega) (by omega)]; omega
  -- the class refuses, and so does the reference
  have refuse : ∀ S5 : Mem, (S5.1 162 18).toInt ≠ -1 → (∀ kx i, kx ≠ 170 → ¬ (kx = 162 ∧ (i = 17 ∨ i = 18)) → S5.1 kx i = R0.1 kx i) → S5.2 = R0.2 → j_Mod_folk_78_37 un S5 = some b → ∃ t', b = .inl t' ∧ ∀ c, lb_Mod_folk_37 t' = some c → ∃ z, c = .inr z ∧ RFu z.2 ∧ (∀ kx i, kx ≠ 170 → ¬ (kx = 162 ∧ (i = 17 ∨ i = 18)) → z.2.1 kx i = R0.1 kx i) ∧ z.2.2 = R0.2 := by
    intro S5 w5 f5 q5 e5
    unfold j_Mod_folk_78_37 at e5
    obtain ⟨y6, ey6, e5⟩ := bo e5
    have h6 := passes_n w5 ey6
    subst h6
    obtain rfl := Option.some.inj e5
    refine ⟨_, rfl, fun c hc => ?_⟩
    have := fin _ _ _ hc
    subst this
    exact ⟨_, rfl, .inl w5, f5, q5⟩
  rcases io eb with ⟨c8, eb⟩ | ⟨c8, eb⟩
  · -- no room
    have h8 := q_eq c8
    obtain ⟨y7, ey7, eb⟩ := bo eb
    have w7 : (y7.1 162 18).toInt ≠ -1 := by
      rcases fault_i ey7 with ⟨h, _⟩ | ⟨_, h⟩
      · exact absurd hw h
      · rw [h, si_eq, hat]; omega
    have ff := fault_f ey7
    obtain ⟨t', hb, ht⟩ := refuse y7 w7 (fun kx i h1 h2 => by rw [ff.1 kx i h2]; exact fa3 kx i h1 h2) (by rw [ff.2, fa4]) eb
    rcases LC with ⟨m8, _⟩ | ⟨_, neg⟩
    · omega
    rcases io ea with ⟨g, _⟩ | ⟨g, ea⟩
    · have := q_le g; omega
    obtain rfl := Option.some.inj ea
    refine .inr ⟨_, t', rfl, hb, fun c hc => ?_⟩
    obtain ⟨z, hz, h1, h2, h3⟩ := ht c hc
    exact ⟨z, hz, neg, h1, fxa, fxq, h2, h3⟩
  have h8 := q_ne c8
  have m8 : n0 + j < 8 := by omega
  obtain ⟨y5, ey5, eb⟩ := bo eb
  have k12 : ((12 : Int32) * un).toInt = ((12 * j : Nat) : Int) := by rw [mul_ti k12 hn (by omega) (by omega)]; omega
  have LR := line_r rdS (A0 := R0) jR (fa3 162 2 (by omega) (by omega)) (fa3 162 3 (by omega) (by omega)) (fun i => fa3 164 i (by omega) (by omega)) k12 (by omega) hat p80 hw ey5
  have fo := one_f ey5
  have fs3 : ∀ kx i, kx ≠ 170 → ¬ (kx = 162 ∧ (i = 17 ∨ i = 18)) → y5.1 kx i = R0.1 kx i := fun kx i h1 h2 => by rw [fo.1 kx i h1 h2]; exact fa3 kx i h1 h2
  have fs4 : y5.2 = R0.2 := by rw [fo.2, fa4]
  rcases LC with ⟨_, ok, hx, c9, o9, hb, c8', c7⟩ | ⟨nok, neg⟩
  rotate_left
  · rcases LR with ⟨_, ok, _⟩ | ⟨wn, _⟩
    · exact absurd ⟨m8, ok⟩ nok
    obtain ⟨t', hb, ht⟩ := refuse y5 wn fs3 fs4 eb
    rcases io ea with ⟨g, _⟩ | ⟨g, ea⟩
    · have := q_le g; omega
    obtain rfl := Option.some.inj ea
    refine .inr ⟨_, t', rfl, hb, fun c hc => ?_⟩
    obtain ⟨z, hz, h1, h2, h3⟩ := ht c hc
    exact ⟨z, hz, neg, h1, fxa, fxq, h2, h3⟩
  rcases io ea with ⟨_, ea⟩ | ⟨g, _⟩
  rotate_left
  · have := q_ng g; omega
  generalize hq : rst (cx X0 76) p + rtn (cx X0 76) 9 (rst (cx X0 76) p) = q at *
  have rp := ok.2.2.2.2
  have rl := rtn_le (cx X0 76) 9 (rst (cx X0 76) p)
  have q76 : q ≤ 76 := by
    have k := (c7 (rtn (cx X0 76) 9 (rst (cx X0 76) p) - 1) (by omega)).2
    rw [show rst (cx X0 76) p + (rtn (cx X0 76) 9 (rst (cx X0 76) p) - 1) = q - 1 by omega] at k
    have k2 := stp_b (cx X0 76 (q - 1))
    have k3 : cx X0 76 (q - 1) ≠ -1 := by omega
    unfold cx at k3
    by_cases g : ((q - 1 : Nat) : Int) < (X0.1 1 1).toInt ∧ q - 1 < 76
    · omega
    · exact absurd (if_neg g) k3
  obtain ⟨x3, e3, ea⟩ := bo ea
  have h3' := at_i (K := 76) hx k76 (by rw [x11]; exact hl) e3
  have cx2 : cx x2.2 76 = cx X0 76 := cx_c x11 (fun i => fxa 2 i (by omega) (by omega) (by omega) (by omega) (by omega)) 76
  rw [cx2] at h3'
  rcases LR with ⟨w5, _, fo2, a5, ld, ns⟩ | ⟨wn, ten⟩
  rotate_left
  · -- a tenth sign
    have ten := ten ok
    have sb := stp_b (cx X0 76 q)
    obtain ⟨t', hb', ht⟩ := refuse y5 wn fs3 fs4 eb
    rcases io ea with ⟨g, _⟩ | ⟨g, ea⟩
    · have := q_eq g; omega
    rcases io ea with ⟨g2, _⟩ | ⟨g2, ea⟩
    · have := q_eq g2; omega
    obtain rfl := Option.some.inj ea
    refine .inr ⟨_, t', rfl, hb', fun c hc => ?_⟩
    obtain ⟨z, hz, h1, h2, h3⟩ := ht c hc
    exact ⟨z, hz, by show 0 ≤ x2.1.toInt; omega, h1, fxa, fxq, h2, h3⟩
  have fdn : FD R0 n0 (j + 1) x2.2 y5 := FD_s m8 fd lf ok c9 o9 hb c8' c7 (fun i hi => fo2.1 170 i (by omega) (by omega)) ld
  have rd5 : Rd (cx X0 76) y5 := Rd_f rd (by rw [fs4]) (fs3 162 15 (by omega) (by omega)) (fs3 162 16 (by omega) (by omega)) (fun i => fs3 167 i (by omega) (by omega)) (fun i => fs3 172 i (by omega) (by omega))
  unfold j_Mod_folk_78_37 at eb
  obtain ⟨y6, ey6, eb⟩ := bo eb
  obtain rfl := Option.some.inj eb
  have un1 : (un + (1 : Int32)).toInt = ((j + 1 : Nat) : Int) := add_ti hn o1 (by omega) (by omega)
  rcases passes_i rd5 a5 w5 (by omega) (by omega) ey6 with ⟨tc, ty, ta, tw⟩ | ⟨tc, ty, te⟩
  · rw [k59] at tc
    rcases io ea with ⟨g, _⟩ | ⟨g, ea⟩
    · have := q_eq g; omega
    rcases io ea with ⟨g2, ea⟩ | ⟨g2, _⟩
    rotate_left
    · have := q_ne g2; omega
    obtain rfl := Option.some.inj ea
    have pf := passes_f ey6
    refine .inl ⟨_, _, rfl, rfl, j + 1, q + 1, by omega, by omega, add_ti hx o1 (by omega) (by omega), add_ti hj o1 (by omega) (by omega), un1, ty, ta, tw, ?_, fxa, fxq, fun kx i h1 h2 => ?_, ?_⟩
    · show FD R0 n0 (j + 1) x2.2 y6.2
      have p170 : ∀ i, y6.2.1 170 i = y5.1 170 i := fun i => pf.1 170 i (by omega)
      unfold FD at fdn ⊢
      simp only [p170]
      exact fdn
    · show y6.2.1 kx i = _
      rw [pf.1 kx i h2]; exact fs3 kx i h1 h2
    · show y6.2.2 = _
      rw [pf.2, fs4]
  · rw [k59] at tc
    obtain ⟨y61, y62⟩ := y6
    dsimp only at ty te
    subst ty
    subst te
    rcases io ea with ⟨g, ea⟩ | ⟨g, ea⟩
    · have ge := q_eq g
      obtain rfl := Option.some.inj ea
      refine .inr ⟨_, _, rfl, rfl, fun c hc => ?_⟩
      have := fin _ _ _ hc
      subst this
      exact ⟨_, rfl, j, q, by omega, hj, un1, a5, w5, by omega, q76, fdn, fxa, fxq, fs3, fs4⟩
    have gn := q_ne g
    rcases io ea with ⟨g2, _⟩ | ⟨g2, ea⟩
    · have := q_eq g2; omega
    obtain rfl := Option.some.inj ea
    refine .inr ⟨_, _, rfl, rfl, fun c hc => ?_⟩
    have := fin _ _ _ hc
    subst this
    refine ⟨_, rfl, by show 0 ≤ x2.1.toInt; omega, .inr ⟨by show 0 ≤ (y62.1 162 17).toInt; omega, ?_⟩, fxa, fxq, fs3, fs4⟩
    show (y62.1 162 17).toInt < (y62.1 162 15).toInt
    rw [a5, fs3 162 15 (by omega) (by omega), len]
    have k3 : cx X0 76 q ≠ -1 := by omega
    unfold cx at k3
    by_cases g : ((q : Nat) : Int) < (X0.1 1 1).toInt ∧ q < 76
    · exact g.1
    · exact absurd (if_neg g) k3
end
section
/-! the folk comes: both sides -/
theorem put_c {A x : Mem} {v1 v2 v3 : Int32} {p : Nat} (hp : v1.toInt = (p : Int)) (e : f_Scene_put 11 v1 v2 v3 A = some x) : x.1 12 p = v2 ∧ x.1 13 p = v3 ∧ x.1 14 p = 0 ∧ (∀ kx i, ¬ ((kx = 12 ∨ kx = 13 ∨ kx = 14) ∧ i = p) → x.1 kx i = A.1 kx i) ∧ x.2 = A.2 := by
  have r0 : rf 11 0 = 12 ∧ rf 11 1 = 13 ∧ rf 11 2 = 14 := by decide +kernel
  unfold f_Scene_put at e
  obtain ⟨_, e⟩ := io_n e
  obtain ⟨_, e⟩ := io_n e
  obtain ⟨M1, m1, e⟩ := mo e
  obtain ⟨_, e⟩ := io_n e
  obtain ⟨M2, m2, e⟩ := mo e
  obtain ⟨_, e⟩ := io_n e
  obtain ⟨M3, m3, e⟩ := mo e
  obtain rfl := Option.some.inj e
  rw [r0.1, q_nat hp] at m1
  rw [r0.2.1, q_nat hp] at m2
  rw [r0.2.2, q_nat hp] at m3
  refine ⟨?_, ?_, ?_, fun kx i h => ?_, ?_⟩
  · rw [m3, si_ne (by omega), m2, si_ne (by omega), m1, si_eq]
  · rw [m3, si_ne (by omega), m2, si_eq]
  · rw [m3, si_eq]
  · rw [m3, si_ne (by omega), m2, si_ne (by omega), m1, si_ne (by omega)]
  · rw [m3, si_2, m2, si_2, m1, si_2]
theorem comes_c {A x : Mem} {v1 v0 : Int32} {n0 N : Nat} (h0 : v0.toInt = (n0 : Int)) (hN : (A.1 6 4).toInt = (N : Int)) (N8 : N ≤ 8) (nN : n0 ≤ N) (e : iter (lb_Top_folk_48 v1) FU (v0, A) = some x) : (∀ p, n0 ≤ p → p < N → x.1 12 p = A.1 9 p ∧ (x.1 13 p).toInt = (if bt (A.1 6 5) p = true then 1 else 0) ∧ x.1 14 p = 0) ∧ (∀ kx i, ¬ ((kx = 12 ∨ kx = 13 ∨ kx = 14) ∧ n0 ≤ i) → x.1 kx i = A.1 kx i) ∧ x.2 = A.2 := by
  refine it_r (I := fun s : Int32 × Mem => ∃ q : Nat, s.1.toInt = (q : Int) ∧ n0 ≤ q ∧ q ≤ N ∧ (∀ p, n0 ≤ p → p < q → s.2.1 12 p = A.1 9 p ∧ (s.2.1 13 p).toInt = (if bt (A.1 6 5) p = true then 1 else 0) ∧ s.2.1 14 p = 0) ∧ (∀ kx i, ¬ ((kx = 12 ∨ kx = 13 ∨ kx = 14) ∧ n0 ≤ i) → s.2.1 kx i = A.1 kx i) ∧ s.2.2 = A.2) (Q := fun x : Mem => (∀ p, n0 ≤ p → p < N → x.1 12 p = A.1 9 p ∧ (x.1 13 p).toInt = (if bt (A.1 6 5) p = true then 1 else 0) ∧ x.1 14 p = 0) ∧ (∀ kx i, ¬ ((kx = 12 ∨ kx = 13 ∨ kx = 14) ∧ n0 ≤ i) → x.1 kx i = A.1 kx i) ∧ x.2 = A.2) ?_ e ⟨n0, h0, by omega, nN, fun p _ _ => by omega, fun _ _ _ => rfl, rfl⟩
  rintro ⟨v, B⟩ r ⟨q, hq, q0, qN, hd, hf, h2⟩ e
  dsimp only at hq hd hf h2
  unfold lb_Top_folk_48 at e
  dsimp only at e
  have b64 : (B.1 6 4).toInt = (N : Int) := by rw [hf 6 4 (by omega)]; exact hN
  rcases io e with ⟨c, e⟩ | ⟨c, e⟩
  · have := q_le c
    obtain rfl := Option.some.inj e
    exact ⟨fun p h1 h2 => hd p h1 (by omega), hf, h2⟩
  have c1 := q_ng c
  obtain ⟨_, e⟩ := io_n e
  obtain ⟨x4, e4, e⟩ := bo e
  have hw := womanC hq (by omega) e4
  rw [hf 6 5 (by omega)] at hw
  rw [q_nat hq, hf 9 q (by omega)] at e
  have step : ∀ w0 : Int32, w0.toInt = (if bt (A.1 6 5) q = true then 1 else 0) → j_Top_folk_89_48 v1 v w0 (A.1 9 q) v B = some r → Sum.elim (fun s : Int32 × Mem => ∃ q : Nat, s.1.toInt = (q : Int) ∧ n0 ≤ q ∧ q ≤ N ∧ (∀ p, n0 ≤ p → p < q → s.2.1 12 p = A.1 9 p ∧ (s.2.1 13 p).toInt = (if bt (A.1 6 5) p = true then 1 else 0) ∧ s.2.1 14 p = 0) ∧ (∀ kx i, ¬ ((kx = 12 ∨ kx = 13 ∨ kx = 14) ∧ n0 ≤ i) → s.2.1 kx i = A.1 kx i) ∧ s.2.2 = A.2) (fun x : Mem => (∀ p, n0 ≤ p → p < N → x.1 12 p = A.1 9 p ∧ (x.1 13 p).toInt = (if bt (A.1 6 5) p = true then 1 else 0) ∧ x.1 14 p = 0) ∧ (∀ kx i, ¬ ((kx = 12 ∨ kx = 13 ∨ kx = 14) ∧ n0 ≤ i) → x.1 kx i = A.1 kx i) ∧ x.2 = A.2) r := by
    intro w0 hw0 e
    unfold j_Top_folk_89_48 at e
    obtain ⟨x5, e5, e⟩ := bo e
    obtain rfl := Option.some.inj e
    obtain ⟨p1, p2, p3, p4, p5⟩ := put_c hq e5
    refine ⟨q + 1, add_ti hq o1 (by omega) (by omega), by omega, by omega, fun p h1 h3 => ?_, fun kx i h => ?_, ?_⟩
    · dsimp only
      rcases Nat.lt_or_ge p q with g | g
      · rw [p4 12 p (by omega), p4 13 p (by omega), p4 14 p (by omega)]; exact hd p h1 g
      · have : p = q := by omega
        subst this
        rw [p1, p2, p3]; exact ⟨rfl, hw0, rfl⟩
    · dsimp only
      rw [p4 kx i (by omega)]; exact hf kx i h
    · dsimp only
      rw [p5]; exact h2
  rcases io e with ⟨c, e⟩ | ⟨c, e⟩
  · exact step 0 (by rw [if_neg (by rw [hw.mp c]; decide)]; exact o0) e
  · refine step 1 ?_ e
    have : bt (A.1 6 5) q = true := by
      cases hb : bt (A.1 6 5) q with
      | true => rfl
      | false => exact absurd (hw.mpr hb) c
    rw [if_pos this]; exact o1
theorem met_r {A x : Mem} {v1 v2 : Int32} {p : Nat} (hp : v2.toInt = (p : Int)) (p8 : p < 8) (e : iter (lb_Mod_come_57 v1 v2) FU ((0 : Int32), A) = some x) : (∀ o, o < 8 → x.1 163 (16 + 8 * p + o) = 0 ∧ x.1 163 (16 + 8 * o + p) = 0) ∧ (∀ kx i, ¬ (kx = 163 ∧ ∃ o, o < 8 ∧ (i = 16 + 8 * p + o ∨ i = 16 + 8 * o + p)) → x.1 kx i = A.1 kx i) ∧ x.2 = A.2 := by
  have k8 : (8 : Int32).toInt = 8 := rfl
  have k16 : (16 : Int32).toInt = 16 := rfl
  refine it_r (I := fun s : Int32 × Mem => ∃ q : Nat, s.1.toInt = (q : Int) ∧ q ≤ 8 ∧ (∀ o, o < q → s.2.1 163 (16 + 8 * p + o) = 0 ∧ s.2.1 163 (16 + 8 * o + p) = 0) ∧ (∀ kx i, ¬ (kx = 163 ∧ ∃ o, o < 8 ∧ (i = 16 + 8 * p + o ∨ i = 16 + 8 * o + p)) → s.2.1 kx i = A.1 kx i) ∧ s.2.2 = A.2) (Q := fun x : Mem => (∀ o, o < 8 → x.1 163 (16 + 8 * p + o) = 0 ∧ x.1 163 (16 + 8 * o + p) = 0) ∧ (∀ kx i, ¬ (kx = 163 ∧ ∃ o, o < 8 ∧ (i = 16 + 8 * p + o ∨ i = 16 + 8 * o + p)) → x.1 kx i = A.1 kx i) ∧ x.2 = A.2) ?_ e ⟨0, rfl, by omega, fun o h => by omega, fun _ _ _ => rfl, rfl⟩
  rintro ⟨v, B⟩ r ⟨q, hq, q8, hd, hf, h2⟩ e
  dsimp only at hq hd hf h2
  unfold lb_Mod_come_57 at e
  dsimp only at e
  rcases io e with ⟨c, e⟩ | ⟨c, e⟩
  · have := q_le c
    obtain rfl := Option.some.inj e
    exact ⟨fun o ho => hd o (by omega), hf, h2⟩
  have c1 := q_ng c
  obtain ⟨_, e⟩ := io_n e
  obtain ⟨M5, m5, e⟩ := mo e
  obtain ⟨_, e⟩ := io_n e
  obtain ⟨M6, m6, e⟩ := mo e
  obtain rfl := Option.some.inj e
  have a1 : ((8 : Int32) * v2).toInt = 8 * (p : Int) := mul_ti k8 hp (by omega) (by omega)
  have a2 : ((16 : Int32) + (8 : Int32) * v2).toInt = 16 + 8 * (p : Int) := add_ti k16 a1 (by omega) (by omega)
  have a3 : ((16 : Int32) + (8 : Int32) * v2 + v).toInt = ((16 + 8 * p + q : Nat) : Int) := by rw [add_ti a2 hq (by omega) (by omega)]; omega
  have b1 : ((8 : Int32) * v).toInt = 8 * (q : Int) := mul_ti k8 hq (by omega) (by omega)
  have b2 : ((16 : Int32) + (8 : Int32) * v).toInt = 16 + 8 * (q : Int) := add_ti k16 b1 (by omega) (by omega)
  have b3 : ((16 : Int32) + (8 : Int32) * v + v2).toInt = ((16 + 8 * q + p : Nat) : Int) := by rw [add_ti b2 hp (by omega) (by omega)]; omega
  rw [q_nat a3] at m5
  rw [q_nat b3] at m6
  have sis : ∀ (C : Mem) (k i j : Nat), C.1 k j = 0 → (s_i C k i (0 : Int32)).1 k j = 0 := by
    intro C k i j h
    by_cases g : j = i
    · subst g; exact si_eq
    · rw [si_ne (by omega)]; exact h
  refine ⟨q + 1, add_ti hq o1 (by omega) (by omega), by omega, fun o ho => ?_, fun kx i h => ?_, ?_⟩
  · dsimp only
    rw [m6, m5]
    rcases Nat.lt_or_ge o q with g | g
    · exact ⟨sis _ _ _ _ (sis _ _ _ _ (hd o g).1), sis _ _ _ _ (sis _ _ _ _ (hd o g).2)⟩
    · have : o = q := by omega
      subst this
      exact ⟨sis _ _ _ _ si_eq, si_eq⟩
  · dsimp only
    rw [m6, si_ne (fun w => h ⟨w.1, q, by omega, .inr w.2⟩), m5, si_ne (fun w => h ⟨w.1, q, by omega, .inl w.2⟩)]; exact hf kx i h
  · dsimp only
    rw [m6, si_2, m5, si_2]; exact h2
theorem steps_r {A x : Mem} {v1 v2 : Int32} {b p k : Nat} (hb : v1.toInt = (b : Int)) (b84 : b ≤ 84) (hp : v2.toInt = (p : Int)) (p8 : p < 8) (hk : (A.1 170 (b + 2)).toInt = (k : Int)) (k9 : k ≤ 9) (e : iter (lb_Mod_come_115 v1 v2) FU ((0 : Int32), A) = some x) : (∀ i, i < k → x.1 165 (9 * p + i) = A.1 170 (b + 3 + i)) ∧ (∀ kx i, ¬ (kx = 165 ∧ 9 * p ≤ i ∧ i < 9 * p + 9) → x.1 kx i = A.1 kx i) ∧ x.2 = A.2 := by
  have z2 := o2
  have z3 := o3
  have k9' : (9 : Int32).toInt = 9 := rfl
  refine it_r (I := fun s : Int32 × Mem => ∃ q : Nat, s.1.toInt = (q : Int) ∧ q ≤ k ∧ (∀ i, i < q → s.2.1 165 (9 * p + i) = A.1 170 (b + 3 + i)) ∧ (∀ kx i, ¬ (kx = 165 ∧ 9 * p ≤ i ∧ i < 9 * p + 9) → s.2.1 kx i = A.1 kx i) ∧ s.2.2 = A.2) (Q := fun x : Mem => (∀ i, i < k → x.1 165 (9 * p + i) = A.1 170 (b + 3 + i)) ∧ (∀ kx i, ¬ (kx = 165 ∧ 9 * p ≤ i ∧ i < 9 * p + 9) → x.1 kx i = A.1 kx i) ∧ x.2 = A.2) ?_ e ⟨0, rfl, by omega, fun o h => by omega, fun _ _ _ => rfl, rfl⟩
  rintro ⟨v, B⟩ r ⟨q, hq, q8, hd, hf, h2⟩ e
  dsimp only at hq hd hf h2
  have i2 : (v1 + (2 : Int32)).toInt = ((b + 2 : Nat) : Int) := add_ti hb z2 (by omega) (by omega)
  have i3 : (v1 + (3 : Int32)).toInt = ((b + 3 : Nat) : Int) := add_ti hb z3 (by omega) (by omega)
  have i4 : (v1 + (3 : Int32) + v).toInt = ((b + 3 + q : Nat) : Int) := add_ti i3 hq (by omega) (by omega)
  have a1 : ((9 : Int32) * v2).toInt = 9 * (p : Int) := mul_ti k9' hp (by omega) (by omega)
  have a2 : ((9 : Int32) * v2 + v).toInt = ((9 * p + q : Nat) : Int) := by rw [add_ti a1 hq (by omega) (by omega)]; omega
  unfold lb_Mod_come_115 at e
  dsimp only at e
  obtain ⟨_, e⟩ := io_n e
  rw [q_nat i2, hf 170 _ (by omega)] at e
  rcases io e with ⟨c, e⟩ | ⟨c, e⟩
  · have := q_le c
    obtain rfl := Option.some.inj e
    exact ⟨fun o ho => hd o (by omega), hf, h2⟩
  have c1 := q_ng c
  obtain ⟨_, e⟩ := io_n e
  obtain ⟨_, e⟩ := io_n e
  obtain ⟨M10, m10, e⟩ := mo e
  obtain rfl := Option.some.inj e
  rw [q_nat a2, q_nat i4, hf 170 _ (by omega)] at m10
  refine ⟨q + 1, add_ti hq o1 (by omega) (by omega), by omega, fun i hi => ?_, fun kx i h => ?_, ?_⟩
  · dsimp only
    rw [m10]
    rcases Nat.lt_or_ge i q with g | g
    · rw [si_ne (by omega)]; exact hd i g
    · have : i = q := by omega
      subst this
      rw [si_eq]
  · dsimp only
    rw [m10, si_ne (by omega)]; exact hf kx i h
  · dsimp only
    rw [m10, si_2]; exact h2
/-- one comes -/
theorem come_r {A x : Mem} {v1 : Int32} {i p k : Nat} (hv : v1.toInt = ((12 * i : Nat) : Int)) (i7 : i ≤ 7) (hp : (A.1 162 4).toInt = (p : Int)) (p8 : p < 8) (hl : 0 ≤ (A.1 170 (12 * i)).toInt ∧ (A.1 170 (12 * i)).toInt ≤ 1) (hc : 0 ≤ (A.1 170 (12 * i + 1)).toInt ∧ (A.1 170 (12 * i + 1)).toInt ≤ 35) (hk : (A.1 170 (12 * i + 2)).toInt = (k : Int)) (k9 : k ≤ 9) (e : f_Mod_come v1 A = some x) : (x.1 162 4).toInt = ((p + 1 : Nat) : Int) ∧ (x.1 163 p).toInt = 36 * (A.1 170 (12 * i)).toInt + (A.1 170 (12 * i + 1)).toInt ∧ x.1 163 (8 + p) = 0 ∧ (∀ o, o < 8 → x.1 163 (16 + 8 * p + o) = 0 ∧ x.1 163 (16 + 8 * o + p) = 0) ∧ x.1 166 p = A.1 170 (12 * i + 2) ∧ (∀ j, j < k → x.1 165 (9 * p + j) = A.1 170 (12 * i + 3 + j)) ∧ (∀ d, bt (x.1 162 5) d = (bt (A.1 162 5) d || (decide ((A.1 170 (12 * i)).toInt = 1) && decide (d = p)))) ∧ (∀ kx j, ¬ (kx = 162 ∧ (j = 4 ∨ j = 5)) → ¬ (kx = 163 ∧ (j = p ∨ j = 8 + p ∨ ∃ o, o < 8 ∧ (j = 16 + 8 * p + o ∨ j = 16 + 8 * o + p))) → ¬ (kx = 165 ∧ 9 * p ≤ j ∧ j < 9 * p + 9) → ¬ (kx = 166 ∧ j = p) → x.1 kx j = A.1 kx j) ∧ x.2 = A.2 := by
  have z2 := o2
  have k8 : (8 : Int32).toInt = 8 := rfl
  have k36 : (36 : Int32).toInt = 36 := rfl
  have i1 : (v1 + (1 : Int32)).toInt = ((12 * i + 1 : Nat) : Int) := add_ti hv o1 (by omega) (by omega)
  have i2 : (v1 + (2 : Int32)).toInt = ((12 * i + 2 : Nat) : Int) := add_ti hv z2 (by omega) (by omega)
  have i8 : ((8 : Int32) + (A.1 162 4)).toInt = ((8 + p : Nat) : Int) := by rw [add_ti k8 hp (by omega) (by omega)]; omega
  unfold f_Mod_come at e
  obtain ⟨_, e⟩ := io_n e
  obtain ⟨_, e⟩ := io_n e
  obtain ⟨x1, e1, e⟩ := bo e
  rw [q_nat hv, q_nat i1] at e1
  have h1 : x1.toInt = 36 * (A.1 170 (12 * i)).toInt + (A.1 170 (12 * i + 1)).toInt := by
    unfold f_Mod_placeOf at e1
    obtain rfl := Option.some.inj e1
    rw [add_ti (mul_ti k36 rfl (by omega) (by omega)) rfl (by omega) (by omega)]
  obtain ⟨_, e⟩ := io_n e
  obtain ⟨M2, m2, e⟩ := mo e
  obtain ⟨_, e⟩ := io_n e
  obtain ⟨M3, m3, e⟩ := mo e
  obtain ⟨_, e⟩ := io_n e
  obtain ⟨M4, m4, e⟩ := mo e
  rw [q_nat hp] at m2
  rw [q_nat hv] at m3
  rw [q_nat i8] at m4
  obtain ⟨x8, e8, e⟩ := bo e
  obtain ⟨w1, w2, w3⟩ := met_r hp p8 e8
  obtain ⟨_, e⟩ := io_n e
  obtain ⟨_, e⟩ := io_n e
  obtain ⟨M9, m9, e⟩ := mo e
  rw [q_nat hp, q_nat i2] at m9
  obtain ⟨x12, e12, e⟩ := bo e
  obtain ⟨M13, m13, e⟩ := mo e
  obtain rfl := Option.some.inj e
  have f4 : ∀ kx j, ¬ (kx = 162 ∧ j = 5) → ¬ (kx = 163 ∧ (j = p ∨ j = 8 + p)) → M4.1 kx j = A.1 kx j := fun kx j g1 g2 => by rw [m4, si_ne (by omega), m3, si_ne (by omega), m2, si_ne (by omega)]
  have f8 : ∀ kx j, ¬ (kx = 162 ∧ j = 5) → ¬ (kx = 163) → x8.1 kx j = A.1 kx j := fun kx j g1 g2 => by rw [w2 kx j (by rintro ⟨h, _⟩; exact g2 h)]; exact f4 kx j g1 (by omega)
  obtain ⟨u1, u2, u3⟩ := steps_r (b := 12 * i) hv (by omega) hp p8 (k := k) (by rw [m9, si_ne (by omega), f8 170 _ (by omega) (by omega)]; exact hk) k9 e12
  have n1 : ∀ o, ¬ (p = 16 + 8 * p + o ∨ p = 16 + 8 * o + p) := fun o h => by omega
  have n2 : ∀ o, o < 8 → ¬ (8 + p = 16 + 8 * p + o ∨ 8 + p = 16 + 8 * o + p) := fun o ho h => by omega
  refine ⟨?_, ?_, ?_, fun o ho => ?_, ?_, fun j hj => ?_, fun d => ?_, fun kx j g1 g2 g3 g4 => ?_, ?_⟩
  · rw [m13, si_eq, u2 162 4 (by omega), m9, si_ne (by omega), f8 162 4 (by omega) (by omega)]; exact add_ti hp o1 (by omega) (by omega)
  · rw [m13, si_ne (by omega), u2 163 p (by omega), m9, si_ne (by omega), w2 163 p (by rintro ⟨_, o, _, h⟩; exact n1 o h), m4, si_ne (by omega), m3, si_ne (by omega), m2, si_eq]; exact h1
  · rw [m13, si_ne (by omega), u2 163 _ (by omega), m9, si_ne (by omega), w2 163 _ (by rintro ⟨_, o, ho, h⟩; exact n2 o ho h), m4, si_eq]
  · rw [m13, si_ne (by omega), si_ne (by omega), u2 163 _ (by omega), u2 163 _ (by omega), m9, si_ne (by omega), si_ne (by omega)]; exact w1 o ho
  · rw [m13, si_ne (by omega), u2 166 p (by omega), m9, si_eq, f8 170 _ (by omega) (by omega)]
  · rw [m13, si_ne (by omega), u1 j hj, m9, si_ne (by omega), f8 170 _ (by omega) (by omega)]
  · obtain ⟨lw, hlw⟩ := ti_ofn hl.1
    have e5 : M13.1 162 5 = (A.1 162 5) ||| ((A.1 170 (12 * i)) <<< ((A.1 162 4) &&& 31)) := by
      rw [m13, si_ne (by omega), u2 162 5 (by omega), m9, si_ne (by omega), w2 162 5 (by rintro ⟨h, _⟩; omega), m4, si_ne (by omega), m3, si_eq, m2, si_ne (by omega), si_ne (by omega)]
    rw [e5, bt_or, bt_lev hlw (by omega) hp (by omega)]
    have : (lw = 1) ↔ ((A.1 170 (12 * i)).toInt = 1) := by omega
    rw [decide_eq_decide.mpr this]
  · rw [m13, si_ne (by omega), u2 kx j g3, m9, si_ne (by omega), w2 kx j (by rintro ⟨h, o, ho, h'⟩; exact g2 ⟨h, .inr (.inr ⟨o, ho, h'⟩)⟩)]; exact f4 kx j (by omega) (by rintro ⟨h, h' | h'⟩; exact g2 ⟨h, .inl h'⟩; exact g2 ⟨h, .inr (.inl h')⟩)
  · rw [m13, si_2, u3, m9, si_2, w3, m4, si_2, m3, si_2, m2, si_2]
end
