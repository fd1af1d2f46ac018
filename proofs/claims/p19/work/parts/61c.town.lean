/-! the reference reads a town -/
def rt (B : Mem) (p : Nat) : Int := if (p : Int) < (B.1 162 15).toInt then (B.1 167 p).toInt % 256 else -1
/-- the text is begun: bytes, their number, the most -/
def RB (B : Mem) : Prop := B.2.2 162 14 = some 167 ∧ (B.1 162 15).toInt ≤ 80 ∧ (B.1 162 16).toInt = 80 ∧ ∀ p : Nat, (p : Int) < (B.1 162 15).toInt → -128 ≤ (B.1 167 p).toInt ∧ (B.1 167 p).toInt ≤ 127
def mRt : Nat := 631873750011343868476346479524316714200004923140200731363327868928
theorem rt_here {B N : Mem} (hB : RB B) (fx : Fx mRt [] B N) {p : Nat} (hp : (N.1 162 17).toInt = (p : Int)) {x : Int32} (e : f_Mod_here N = some x) : (rt B p = x.toInt ∧ -1 ≤ x.toInt ∧ x.toInt ≤ 127) ∨ (x.toInt < 0 ∧ 128 ≤ rt B p) := by
  obtain ⟨b1, b2, b3, b4⟩ := hB
  have a1 : N.2.2 162 14 = some 167 := by rw [(fx 162 14 (by decide +kernel) (by simp)).2.2]; exact b1
  have a2 : N.1 162 15 = B.1 162 15 := (fx 162 15 (by decide +kernel) (by simp)).1
  have a3 : N.1 162 16 = B.1 162 16 := (fx 162 16 (by decide +kernel) (by simp)).1
  have a4 : ∀ i, N.1 167 i = B.1 167 i := fun i => (fx 167 i (by rw [show sl 167 i = 167 from rfl]; decide +kernel) (by simp)).1
  unfold f_Mod_here at e
  unfold rt
  have zm : (-1 : Int32).toInt = -1 := rfl
  rcases io e with ⟨c, e⟩ | ⟨c, e⟩
  · have := q_le c
    obtain rfl := Option.some.inj e
    rw [a2] at this
    rw [if_neg (by omega)]
    exact .inl ⟨rfl, by omega, by omega⟩
  have c1 := q_ng c
  rw [a2] at c1
  rcases io e with ⟨c, e⟩ | ⟨c, e⟩
  · have := q_le c
    rw [a3] at this
    omega
  obtain ⟨a, ea, e⟩ := bo e
  rw [a1] at ea
  obtain rfl := Option.some.inj ea
  obtain ⟨_, e⟩ := io_n e
  obtain ⟨_, e⟩ := io_n e
  obtain rfl := Option.some.inj e
  have b := b4 p (by omega)
  rw [if_pos (by omega), q_nat hp, a4]
  omega
theorem tk_r {v x : Int32} (e : f_Mod_kindOf v = some x) : x.toInt = tk v.toInt := by
  unfold f_Mod_kindOf at e
  unfold tk
  rcases io e with ⟨c, e⟩ | ⟨c, e⟩
  · obtain rfl := Option.some.inj e; subst c; rfl
  have c1 := q_ne c
  rcases io e with ⟨c, e⟩ | ⟨c, e⟩
  · obtain rfl := Option.some.inj e; subst c; rfl
  have c2 := q_ne c
  rcases io e with ⟨c, e⟩ | ⟨c, e⟩
  · obtain rfl := Option.some.inj e; subst c; rfl
  have c3 := q_ne c
  rcases io e with ⟨c, e⟩ | ⟨c, e⟩
  · obtain rfl := Option.some.inj e; subst c; rfl
  have c4 := q_ne c
  obtain rfl := Option.some.inj e
  have e1 : (35 : Int32).toInt = 35 := rfl
  have e2 : (46 : Int32).toInt = 46 := rfl
  have e3 : (104 : Int32).toInt = 104 := rfl
  have e4 : (115 : Int32).toInt = 115 := rfl
  rw [if_neg (by omega), if_neg (by omega), if_neg (by omega), if_neg (by omega)]; rfl
theorem tk_n {c : Int} (h : c < 35 ∨ 115 < c) : tk c = -1 := by
  unfold tk
  rw [if_neg (by omega), if_neg (by omega), if_neg (by omega), if_neg (by omega)]
theorem rt_kind {B N : Mem} (hB : RB B) (fx : Fx mRt [] B N) {p : Nat} (hp : (N.1 162 17).toInt = (p : Int)) {x y : Int32} (e : f_Mod_here N = some x) (e2 : f_Mod_kindOf x = some y) : y.toInt = tk (rt B p) := by
  rw [tk_r e2]
  rcases rt_here hB fx hp e with h | h
  · rw [h.1]
  · rw [tk_n (by omega), tk_n (by omega)]
theorem fine_i {N : Mem} {x : Int32} (e : f_Mod_fine N = some x) : (x = 0 ∧ (N.1 162 18).toInt ≠ -1) ∨ (x = 1 ∧ (N.1 162 18).toInt = -1) := by
  unfold f_Mod_fine at e
  rcases io e with ⟨c, e⟩ | ⟨c, e⟩
  · obtain rfl := Option.some.inj e
    exact .inr ⟨rfl, q_eq c⟩
  · obtain rfl := Option.some.inj e
    exact .inl ⟨rfl, q_ne c⟩
theorem fault_i {N r : Mem} {v : Int32} (e : f_Mod_fault v N = some r) : ((N.1 162 18).toInt ≠ -1 ∧ r = N) ∨ ((N.1 162 18).toInt = -1 ∧ r = s_i N 162 18 v) := by
  unfold f_Mod_fault at e
  obtain ⟨x, e1, e⟩ := bo e
  rcases fine_i e1 with ⟨a, b⟩ | ⟨a, b⟩
  · rw [a, if_pos rfl] at e
    exact .inl ⟨b, (Option.some.inj e).symm⟩
  · rw [a, if_neg (by decide)] at e
    exact .inr ⟨b, (Option.some.inj e).symm⟩
def Bad (t : Nat → Int) (N : Mem) : Prop := ∃ p : Nat, (N.1 162 18).toInt = (p : Int) ∧ tup t p ∧ ¬ tok (t p) (trun t p)
theorem Bad_fault {t : Nat → Int} {N r : Mem} {v : Int32} (e : f_Mod_fault v N = some r) (h : Bad t N) : Bad t r := by
  obtain ⟨p, a, b⟩ := h
  rcases fault_i e with ⟨_, rfl⟩ | ⟨c, _⟩
  · exact ⟨p, a, b⟩
  · omega
theorem Bad_new {t : Nat → Int} {N r : Mem} {p : Nat} (hp : (N.1 162 17).toInt = (p : Int)) (e : f_Mod_fault (N.1 162 17) N = some r) (hw : (N.1 162 18).toInt = -1) (up : tup t p) (nt : ¬ tok (t p) (trun t p)) : Bad t r := by
  rcases fault_i e with ⟨c, _⟩ | ⟨_, rfl⟩
  · exact absurd hw c
  · exact ⟨p, by rw [si_eq]; exact hp, up, nt⟩
def wd (W Y : Nat) : Nat := if Y = 0 then 6 else W
def RI1 (B : Mem) (W Y n : Nat) (N : Mem) : Prop := (N.1 162 18).toInt = -1 ∧ ∃ p : Nat, (N.1 162 17).toInt = (p : Int) ∧ tup (rt B) p ∧ tkd (rt B) (N.1 169) p ∧ trun (rt B) p = (W * Y + n, n, Y, wd W Y)
theorem rt_len {B : Mem} {p : Nat} (h : tup (rt B) p) (hB : RB B) : p ≤ 80 := by
  rcases Nat.lt_or_ge 80 p with c | c
  · exfalso
    apply (h 80 c).2
    have := hB.2.1
    unfold rt
    rw [if_neg (by omega)]
  · exact c
/-- the inner loop: one line -/
theorem rd_r58 {B A : Mem} {w y : Int32} {W Y : Nat} (hB : RB B) (hw : w.toInt = (W : Int)) (hy : y.toInt = (Y : Int)) (hW : W ≤ 6) (hY : Y ≤ 6) (hY6 : Y < 6 ∨ Bad (rt B) A) (fx : Fx mRt [] B A) (h0 : RI1 B W Y 0 A ∨ Bad (rt B) A) {x} (e : iter (lb_Mod_town_58 w y) FU ((0 : Int32), A) = some x) : Fx mRt [] B x.2 ∧ ((∃ n : Nat, x.1.toInt = (n : Int) ∧ n ≤ wd W Y ∧ RI1 B W Y n x.2 ∧ Y < 6 ∧ ∀ p : Nat, (x.2.1 162 17).toInt = (p : Int) → tk (rt B p) = -1) ∨ Bad (rt B) x.2) := by
  refine it_r (I := fun s : Int32 × Mem => Fx mRt [] B s.2 ∧ ((∃ n : Nat, s.1.toInt = (n : Int) ∧ n ≤ wd W Y ∧ RI1 B W Y n s.2 ∧ Y < 6) ∨ Bad (rt B) s.2)) (Q := fun x : Int32 × Mem => Fx mRt [] B x.2 ∧ ((∃ n : Nat, x.1.toInt = (n : Int) ∧ n ≤ wd W Y ∧ RI1 B W Y n x.2 ∧ Y < 6 ∧ ∀ p : Nat, (x.2.1 162 17).toInt = (p : Int) → tk (rt B p) = -1) ∨ Bad (rt B) x.2)) ?_ e ⟨fx, ?_⟩
  · rintro ⟨k, N⟩ r ⟨fx, h⟩ e
    have fr := wl_Mod_town_58 w y _ (by decide +kernel) fx e
    dsimp only at h fx fr
    have zm : (-1 : Int32).toInt = -1 := rfl
    have z0 : (0 : Int32).toInt = 0 := rfl
    have z6 : (6 : Int32).toInt = 6 := rfl
    have z1 : (1 : Int32).toInt = 1 := rfl
    unfold lb_Mod_town_58 at e
    dsimp only at e
    obtain ⟨x5, e5, e⟩ := bo e
    rcases h with ⟨n, hn, ln, ⟨hw1, p, hp, up, kk, hr⟩, y6⟩ | bad
    · rcases fine_i e5 with ⟨a, b⟩ | ⟨a, b⟩
      · exact absurd hw1 b
      rw [a, if_neg (by decide)] at e
      obtain ⟨x6, e6, e⟩ := bo e
      obtain ⟨x7, e7, e⟩ := bo e
      have hk := rt_kind hB fx hp e6 e7
      rcases io e with ⟨c, e⟩ | ⟨c, e⟩
      · obtain rfl := Option.some.inj e
        refine ⟨fr, .inl ⟨n, hn, ln, ⟨hw1, p, hp, up, kk, hr⟩, y6, fun p' hp' => ?_⟩⟩
        have : p' = p := by
          dsimp only at hp'
          omega
        rw [this, ← hk, c]; rfl
      have kn : tk (rt B p) ≠ -1 := by
        have := q_ne c
        omega
      have hwd : ∃ w0 : Int32, w0.toInt = ((wd W Y : Nat) : Int) ∧ j_Mod_town_88_58 w y k w0 k N = some r := by
        unfold wd
        rcases io e with ⟨c, e⟩ | ⟨c, e⟩
        · have := q_eq c
          exact ⟨6, by rw [if_pos (by omega)]; rfl, e⟩
        · have := q_ne c
          exact ⟨w, by rw [if_neg (by omega)]; exact hw, e⟩
      clear e
      obtain ⟨w0, hw0, e⟩ := hwd
      have n47 : ¬ (rt B p = 47 ∨ rt B p = -1) := by
        rintro (h | h) <;> rw [h] at kn <;> exact kn (by decide)
      have t1 : (trun (rt B) p).1 = W * Y + n := by rw [hr]
      have t2 : (trun (rt B) p).2.1 = n := by rw [hr]
      have t3 : (trun (rt B) p).2.2.1 = Y := by rw [hr]
      have t4 : (trun (rt B) p).2.2.2 = wd W Y := by rw [hr]
      unfold j_Mod_town_88_58 at e
      rcases io e with ⟨c, e⟩ | ⟨c, e⟩
      · obtain ⟨x12, e12, e⟩ := bo e
        obtain rfl := Option.some.inj e
        have cc := q_eq c
        exact ⟨fr, .inr (Bad_new hp e12 hw1 up (fun ok => by have := (ok.2.2 n47).2; omega))⟩
      have cc := q_ne c
      obtain ⟨x8, e8, e⟩ := bo e
      obtain ⟨x9, e9, e⟩ := bo e
      obtain ⟨_, e⟩ := io_n e
      obtain ⟨M10, e10, e⟩ := mo e
      obtain ⟨M11, e11, e⟩ := mo e
      obtain rfl := Option.some.inj e
      have hk9 := rt_kind hB fx hp e8 e9
      have hwd6 : wd W Y ≤ 6 := by unfold wd; split <;> omega
      have ok : tok (rt B p) (trun (rt B) p) := ⟨by omega, fun h => absurd h n47, fun _ => ⟨kn, by omega⟩⟩
      have lp := rt_len up hB
      have wy : W * Y ≤ 36 := Nat.mul_le_mul hW hY
      have m1 : (w * y).toInt = ((W * Y : Nat) : Int) := by
        have := mul_ti hw hy (by have : (W : Int) * (Y : Int) = ((W * Y : Nat) : Int) := by push_cast; rfl
                                 omega) (by have : (W : Int) * (Y : Int) = ((W * Y : Nat) : Int) := by push_cast; rfl
                                            omega)
        rw [this]; push_cast; rfl
      have m2 : (w * y + k).toInt = ((W * Y + n : Nat) : Int) := add_ti m1 hn (by omega) (by omega)
      have at1 : (M11.1 162 17).toInt = ((p + 1 : Nat) : Int) := by
        have h17 : (M10.1 162 17).toInt = (p : Int) := by rw [e10, si_ne (by omega)]; exact hp
        rw [e11, si_eq]
        exact add_ti h17 rfl (by omega) (by omega)
      have run1 : trun (rt B) (p + 1) = (W * Y + (n + 1), n + 1, Y, wd W Y) := by
        simp only [trun, tst, if_neg n47, t1, t2, t3, t4]; rfl
      refine ⟨fr, .inl ⟨n + 1, add_ti hn rfl (by omega) (by omega), by omega, ⟨?_, p + 1, at1, tup_s up ok (fun h => n47 (.inr h)), ?_, run1⟩, y6⟩⟩
      · dsimp only; rw [e11, si_ne (by omega), e10, si_ne (by omega)]; exact hw1
      · intro q hq q47
        dsimp only
        rw [e11, si_ne (by omega), e10, q_nat m2]
        rcases Nat.lt_or_ge q p with g | g
        · have m := tcells_lt up g q47
          rw [si_ne (by omega)]
          exact kk q g q47
        · have : q = p := by omega
          subst this
          rw [t1, si_eq, hk9]
    · rcases fine_i e5 with ⟨a, b⟩ | ⟨a, b⟩
      · rw [a, if_pos rfl] at e
        obtain rfl := Option.some.inj e
        exact ⟨fr, .inr bad⟩
      · obtain ⟨p, h, _⟩ := bad
        omega
  · rcases hY6 with y6 | bad
    · rcases h0 with h | h
      · exact .inl ⟨0, rfl, by omega, h, y6⟩
      · exact .inr h
    · exact .inr bad
