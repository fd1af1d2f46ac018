/-! one step: the class's nets against the reference's go -/
def onA (R : Mem) (l d : Nat) : Prop := d < 36 ∧ ((-1 : Int32).toInt = (d : Int) ∨ onN R l d)
def ZW (X R : Mem) (a : Nat) : Prop := NB 32 (onA R) 36 X ∧ ZX 32 R (onA R) (fun c d => plk R a c d) X
theorem onA_i {R : Mem} (jR : J R) {l d : Nat} : onA R l d ↔ onN R l d := by
  unfold onA
  rw [om]
  constructor
  · rintro ⟨_, h | h⟩
    · omega
    · exact h
  · intro h
    have := awh jR
    have := h.2.1
    exact ⟨by omega, .inr h⟩
theorem btw_comm (w h a b : Int) : btw w h a b = btw w h b a := by
  have e1 : (a % w - b % w).natAbs = (b % w - a % w).natAbs := by rw [← Int.natAbs_neg]; congr 1; omega
  have e2 : (a / w - b / w).natAbs = (b / w - a / w).natAbs := by rw [← Int.natAbs_neg]; congr 1; omega
  unfold btw
  rw [e1, e2, Int.add_comm]
theorem KP_v {R : Mem} {a n : Nat} (zv : ZV R (R.1 a) n) : KP R a 0 := by
  intro j hj
  rw [Nat.zero_add] at hj
  have := zv.2.2.2 j hj
  rw [Nat.zero_add, Nat.zero_add]
  exact ⟨this.1, this.2.1⟩
/-- no link under a plank -/
theorem mid_no {R : Mem} (jR : J R) {a n : Nat} (zv : ZV R (R.1 a) n) {c s : Nat} (hc : onN R 1 c) (s4 : s < 4) (hb : bb (xw R) (xh R) c s ≠ -1) (hp : plk R a c (bb (xw R) (xh R) c s)) : ¬ onN R 1 (bes (xw R) (xh R) c s) := by
  have hw := aw jR
  have hh := ah jR
  have c0 := hc.1
  have c1 := hc.2.1
  obtain ⟨j, hj, hq⟩ := hp
  obtain ⟨a1, a2, s', s'4, b1, b2⟩ := zv.2.2.2 j hj
  have u := bb_i hw hh c0 c1 (s := s) (by omega) hb
  rcases hq with ⟨q1, q2⟩ | ⟨q1, q2⟩
  · rw [q1, q2] at b1
    rw [q1] at b2
    have := u.2.2 s' (by omega) (by omega) b1
    rw [← this]; exact b2
  · -- the plank was laid from the other end
    rw [q1, q2] at b1
    rw [q1] at b2
    have d := a1
    rw [q1] at d
    have u2 := bb_i hw hh d.1 d.2.1 (s := s') (by omega) (by omega)
    rw [b1] at u2
    rw [← u.1, btw_comm, u2.1]; exact b2
theorem tow_2 {X R : Mem} {a n : Nat} (jR : J R) (ha : St a) (zv : ZV R (R.1 a) n) (zw : ZW X R a) {lv cv sv pv to y : Int32} {l c s : Nat} (hl : lv.toInt = (l : Int)) (hc : cv.toInt = (c : Int)) (hs : sv.toInt = (s : Int)) (hp : pv.toInt = ((36 * l + c : Nat) : Int)) (l2 : l < 2) (c36 : c < 36) (s5 : s < 5) (on : onP R pv.toInt) (ex : f_Nets_toward 32 lv cv sv X = some to) (er : f_Mod_go a pv sv R = some y) : (to.toInt = -1 ∧ y.toInt = -1) ∨ (0 ≤ to.toInt ∧ to.toInt < 36 ∧ y.toInt = 36 * l + to.toInt ∧ onP R y.toInt) := by
  have hw := aw jR
  have hh := ah jR
  have wh := awh jR
  have z36 : (36 : Int32).toInt = 36 := rfl
  have y4 := o4
  have z0 := o0
  obtain ⟨g, _, _⟩ := some_of (fs_go jR a ha pv sv (by omega)) er
  rw [hs] at g
  have pm : pv.toInt % 36 = (c : Int) := by omega
  have pd : pv.toInt / 36 = (l : Int) := by omega
  have onl : onN R l c := by have := on.2.2; rw [pm, pd] at this; exact this
  unfold f_Nets_toward at ex
  obtain ⟨_, ex⟩ := io_n ex
  rcases io ex with ⟨k, e⟩ | ⟨k, e⟩
  · obtain rfl := Option.some.inj e
    have := q_eq k
    have s4 : s = 4 := by omega
    rcases g with ⟨_, g⟩ | ⟨g, _⟩
    · exact .inr ⟨by omega, by omega, by omega, by rw [g]; exact on⟩
    · omega
  have k4 := q_ne k
  rcases io e with ⟨k, e⟩ | ⟨k, e⟩
  · have := q_lt k; omega
  rcases io e with ⟨k, e⟩ | ⟨k, e⟩
  · have := q_lt k; omega
  have m1 : (lv * (36 : Int32)).toInt = (l : Int) * 36 := mul_ti hl z36 (by omega) (by omega)
  have m2 : (lv * (36 : Int32) + cv).toInt = ((l * 36 + c : Nat) : Int) := by rw [add_ti m1 hc (by omega) (by omega)]; omega
  have m3 : ((lv * (36 : Int32) + cv) * (4 : Int32)).toInt = ((l * 36 + c : Nat) : Int) * 4 := mul_ti m2 o4 (by omega) (by omega)
  have m4 : ((lv * (36 : Int32) + cv) * (4 : Int32) + sv).toInt = (((l * 36 + c) * 4 + s : Nat) : Int) := by rw [add_ti m3 hs (by omega) (by omega)]; omega
  rcases io e with ⟨k, e⟩ | ⟨k, e⟩
  · have := q_lt k; omega
  rcases io e with ⟨k, e⟩ | ⟨k, e⟩
  · obtain ⟨_, e⟩ := io_n e
    obtain rfl := Option.some.inj e
    rw [(isN_r (.inl rfl : isN 32)).2.2, q_nat m4]
    have N := zw.2.1 l c s l2 c36 (by omega)
    obtain ⟨N1, N2⟩ := N
    rcases g with ⟨g, _⟩ | ⟨_, g⟩
    · omega
    rw [pm, pd] at g
    have sy : ∀ {m : Int}, y.toInt = m → m ≠ -1 → onP R m := by
      intro m hm hn
      have gg := some_of (fs_go jR a ha pv sv (by omega)) er
      have := (go_sym jR (KP_v zv) on (s := sv.toInt) (by omega) gg.1 (by rw [hm]; exact hn)).1
      rw [hm] at this; exact this
    have bi := bes_in hw hh (c := c) (by omega) onl.2.1 (s := s) (by omega)
    rcases g with ⟨g1, g2⟩ | ⟨g1, g2, g3⟩ | ⟨g1, g2, g3, g4⟩ | ⟨g1, g2, g3, g4, g5, g6⟩ | ⟨g1, g2, g3, g4, g5⟩
    · left
      refine ⟨(N2 (fun h => h.2.1 (by unfold bb; rw [if_pos g1]))).2 (fun h => h.2.1 g1), g2⟩
    · right
      have nb : ¬ (l = 1 ∧ bb (xw R) (xh R) c s ≠ -1 ∧ plk R a c (bb (xw R) (xh R) c s)) := by
        rintro ⟨q1, q2, q3⟩
        subst q1
        exact mid_no jR zv onl (by omega) q2 q3 g2
      have v := (N2 nb).1 ⟨(onA_i jR).mpr onl, g1, (onA_i jR).mpr (by rw [show (((bes (xw R) (xh R) c s).toNat : Nat) : Int) = bes (xw R) (xh R) c s by omega]; exact g2)⟩
      rw [v]
      refine ⟨by omega, by omega, g3, ?_⟩
      rw [g3]; exact sy g3 (by omega)
    · left
      refine ⟨(N2 (fun h => by have := h.1; omega)).2 (fun h => ?_), g4⟩
      have := (onA_i jR).mp h.2.2
      rw [show (((bes (xw R) (xh R) c s).toNat : Nat) : Int) = bes (xw R) (xh R) c s by omega] at this
      exact g2 this
    · right
      have b2 : bb (xw R) (xh R) c s = bes (xw R) (xh R) (bes (xw R) (xh R) c s) s := by unfold bb; rw [if_neg g1]
      have l1 : l = 1 := by omega
      have v := N1 ⟨l1, by rw [b2]; exact g4, by rw [b2]; exact g5⟩
      have rb := bes_in hw hh (c := bes (xw R) (xh R) c s) (by omega) (by omega) (s := s) (by omega)
      rw [v, b2]
      refine ⟨by omega, by omega, by rw [g6]; omega, ?_⟩
      rw [g6]; exact sy g6 (by omega)
    · left
      refine ⟨(N2 (fun h => g4 ⟨by have := h.2.1; unfold bb at this; rw [if_neg g1] at this; exact this, by have := h.2.2; unfold bb at this; rw [if_neg g1] at this; exact this⟩)).2 (fun h => ?_), g5⟩
      have := (onA_i jR).mp h.2.2
      rw [show (((bes (xw R) (xh R) c s).toNat : Nat) : Int) = bes (xw R) (xh R) c s by omega] at this
      exact g2 this
  · have := q_nl k
    have z288 : (288 : Int32).toInt = 288 := rfl
    omega
/-! what stays while people go -/
def AgX (X Y : Mem) : Prop := Y.1 3 2 = X.1 3 2 ∧ Y.1 3 3 = X.1 3 3 ∧ (∀ i, Y.1 4 i = X.1 4 i) ∧ Y.1 6 4 = X.1 6 4 ∧ Y.1 6 5 = X.1 6 5 ∧ (∀ i, Y.1 7 i = X.1 7 i) ∧ (∀ i, Y.1 8 i = X.1 8 i) ∧ Y.1 40 4 = X.1 40 4 ∧ (∀ i, Y.1 41 i = X.1 41 i) ∧ (∀ i, Y.1 35 i = X.1 35 i) ∧ (∀ i, Y.2.1 33 i = X.2.1 33 i) ∧ (∀ i, Y.2.1 34 i = X.2.1 34 i)
def AgR (R S : Mem) : Prop := S.1 162 2 = R.1 162 2 ∧ S.1 162 3 = R.1 162 3 ∧ S.1 162 4 = R.1 162 4 ∧ S.1 162 5 = R.1 162 5 ∧ S.1 162 23 = R.1 162 23 ∧ (∀ i, S.1 164 i = R.1 164 i) ∧ (∀ i, S.1 165 i = R.1 165 i) ∧ (∀ i, S.1 166 i = R.1 166 i) ∧ (∀ i, S.1 172 i = R.1 172 i)
def okX (C : Nat) : Bool := ([302, 303, 4, 324, 325, 7, 8, 334, 41, 35, 33, 34].all (fun b => !C.testBit b))
def okR (C : Nat) : Bool := ([202, 203, 204, 205, 223, 164, 165, 166, 172].all (fun b => !C.testBit b))
theorem ok_of {C : Nat} {l : List Nat} (h : l.all (fun b => !C.testBit b) = true) {b : Nat} (hb : b ∈ l) : C.testBit b = false := by
  have := List.all_eq_true.mp h b hb
  simpa using this
theorem AgX_f {C : Nat} {L : List Nat} {X Y : Mem} (hC : okX C = true) (hL : ∀ k, k ∈ L → k ≠ 3 ∧ k ≠ 4 ∧ k ≠ 6 ∧ k ≠ 7 ∧ k ≠ 8 ∧ k ≠ 40 ∧ k ≠ 41 ∧ k ≠ 35 ∧ k ≠ 33 ∧ k ≠ 34) (fx : Fx C L X Y) : AgX X Y := by
  have t : ∀ b, b ∈ [302, 303, 4, 324, 325, 7, 8, 334, 41, 35, 33, 34] → C.testBit b = false := fun b hb => ok_of hC hb
  exact ⟨(fx 3 2 (t 302 (by simp)) (fun h => (hL _ h).1 rfl)).1, (fx 3 3 (t 303 (by simp)) (fun h => (hL _ h).1 rfl)).1, fun i => (fx 4 i (t 4 (by simp)) (fun h => (hL _ h).2.1 rfl)).1, (fx 6 4 (t 324 (by simp)) (fun h => (hL _ h).2.2.1 rfl)).1, (fx 6 5 (t 325 (by simp)) (fun h => (hL _ h).2.2.1 rfl)).1, fun i => (fx 7 i (t 7 (by simp)) (fun h => (hL _ h).2.2.2.1 rfl)).1, fun i => (fx 8 i (t 8 (by simp)) (fun h => (hL _ h).2.2.2.2.1 rfl)).1, (fx 40 4 (t 334 (by simp)) (fun h => (hL _ h).2.2.2.2.2.1 rfl)).1, fun i => (fx 41 i (t 41 (by simp)) (fun h => (hL _ h).2.2.2.2.2.2.1 rfl)).1, fun i => (fx 35 i (t 35 (by simp)) (fun h => (hL _ h).2.2.2.2.2.2.2.1 rfl)).1, fun i => (fx 33 i (t 33 (by simp)) (fun h => (hL _ h).2.2.2.2.2.2.2.2.1 rfl)).2.1, fun i => (fx 34 i (t 34 (by simp)) (fun h => (hL _ h).2.2.2.2.2.2.2.2.2 rfl)).2.1⟩
theorem AgR_f {C : Nat} {L : List Nat} {X Y : Mem} (hC : okR C = true) (hL : ∀ k, k ∈ L → k ≠ 162 ∧ k ≠ 164 ∧ k ≠ 165 ∧ k ≠ 166 ∧ k ≠ 172) (fx : Fx C L X Y) : AgR X Y := by
  have t : ∀ b, b ∈ [202, 203, 204, 205, 223, 164, 165, 166, 172] → C.testBit b = false := fun b hb => ok_of hC hb
  exact ⟨(fx 162 2 (t 202 (by simp)) (fun h => (hL _ h).1 rfl)).1, (fx 162 3 (t 203 (by simp)) (fun h => (hL _ h).1 rfl)).1, (fx 162 4 (t 204 (by simp)) (fun h => (hL _ h).1 rfl)).1, (fx 162 5 (t 205 (by simp)) (fun h => (hL _ h).1 rfl)).1, (fx 162 23 (t 223 (by simp)) (fun h => (hL _ h).1 rfl)).1, fun i => (fx 164 i (t 164 (by simp)) (fun h => (hL _ h).2.1 rfl)).1, fun i => (fx 165 i (t 165 (by simp)) (fun h => (hL _ h).2.2.1 rfl)).1, fun i => (fx 166 i (t 166 (by simp)) (fun h => (hL _ h).2.2.2.1 rfl)).1, fun i => (fx 172 i (t 172 (by simp)) (fun h => (hL _ h).2.2.2.2 rfl)).1⟩
theorem AgX_t {X Y Z : Mem} (h : AgX X Y) (g : AgX Y Z) : AgX X Z := by
  obtain ⟨a1, a2, a3, a4, a5, a6, a7, a8, a9, a10, a11, a12⟩ := h
  obtain ⟨b1, b2, b3, b4, b5, b6, b7, b8, b9, b10, b11, b12⟩ := g
  exact ⟨b1.trans a1, b2.trans a2, fun i => (b3 i).trans (a3 i), b4.trans a4, b5.trans a5, fun i => (b6 i).trans (a6 i), fun i => (b7 i).trans (a7 i), b8.trans a8, fun i => (b9 i).trans (a9 i), fun i => (b10 i).trans (a10 i), fun i => (b11 i).trans (a11 i), fun i => (b12 i).trans (a12 i)⟩
theorem AgR_t {X Y Z : Mem} (h : AgR X Y) (g : AgR Y Z) : AgR X Z := by
  obtain ⟨a1, a2, a3, a4, a5, a6, a7, a8, a9⟩ := h
  obtain ⟨b1, b2, b3, b4, b5, b6, b7, b8, b9⟩ := g
  exact ⟨b1.trans a1, b2.trans a2, b3.trans a3, b4.trans a4, b5.trans a5, fun i => (b6 i).trans (a6 i), fun i => (b7 i).trans (a7 i), fun i => (b8 i).trans (a8 i), fun i => (b9 i).trans (a9 i)⟩
theorem AgX_r {X : Mem} : AgX X X := ⟨rfl, rfl, fun _ => rfl, rfl, rfl, fun _ => rfl, fun _ => rfl, rfl, fun _ => rfl, fun _ => rfl, fun _ => rfl, fun _ => rfl⟩
theorem AgR_r {X : Mem} : AgR X X := ⟨rfl, rfl, rfl, rfl, rfl, fun _ => rfl, fun _ => rfl, fun _ => rfl, fun _ => rfl⟩
def ZB (X R : Mem) (n : Nat) : Prop := ZG X R ∧ ZC X R n ∧ ZL X R
theorem onN_a {R S : Mem} (h : AgR R S) {l c : Int} : onN S l c ↔ onN R l c := onN_c ⟨h.1, h.2.1, h.2.2.2.2.2.1⟩
theorem ZB_a {X Y R S : Mem} {n : Nat} (hx : AgX X Y) (hr : AgR R S) (h : ZB X R n) : ZB Y S n := by
  obtain ⟨a1, a2, a3, a4, a5, a6, a7, a8, a9, a10, a11, a12⟩ := hx
  obtain ⟨b1, b2, b3, b4, b5, b6, b7, b8, b9⟩ := hr
  obtain ⟨⟨g1, g2, g3, g4⟩, ⟨c1, c2, c3, c4, c5, c6⟩, l⟩ := h
  refine ⟨⟨?_, ?_, fun i hi => ?_, fun i hi => ?_⟩, ⟨?_, ?_, ?_, fun p hp => ?_, fun p i hp hi => ?_, fun p hp => ?_⟩, ?_⟩
  · rw [a1]; show _ = (S.1 162 2).toInt; rw [b1]; exact g1
  · rw [a2]; show _ = (S.1 162 2).toInt * (S.1 162 3).toInt; rw [b1, b2]; exact g2
  · rw [a3, b6]; exact g3 i hi
  · rw [b6]; exact g4 i hi
  · rw [b3]; exact c1
  · rw [a4, b3]; exact c2
  · rw [a5, b4]; exact c3
  · rw [a7, b8]; exact c4 p hp
  · rw [b8] at hi; rw [a6, b7]; exact c5 p i hp hi
  · rw [b4]; exact c6 p hp
  · have rl : rlx S = rlx R := by funext p; unfold rlx; rw [b5, b9]
    unfold ZL at l ⊢
    rw [rl, b5, a8]
    rcases l with l | ⟨l1, l40, l2, Sx, l3, l4, l5, l6, l7, l8, l9⟩
    · exact .inl l
    · exact .inr ⟨l1, l40, fun p hp => by rw [b9]; exact l2 p hp, Sx, l3, l4, l5, l6, l7, l8, stk_c l9 (fun i _ => a9 i)⟩
theorem ZW_a {X Y R S : Mem} {a a' : Nat} (hx : AgX X Y) (hr : AgR R S) (hp : ∀ c d, plk S a' c d ↔ plk R a c d) (h : ZW X R a) : ZW Y S a' := by
  have w : xw S = xw R := congrArg Int32.toInt hr.1
  have hh : xh S = xh R := congrArg Int32.toInt hr.2.1
  have on : onA S = onA R := by funext l d; exact propext (by unfold onA; rw [onN_a hr])
  have pk : (fun c d => plk S a' c d) = (fun c d => plk R a c d) := by funext c d; exact propext (hp c d)
  obtain ⟨h1, h2, h3⟩ := h
  unfold ZW ZX NXT NRD LKn lk
  rw [on, pk, w, hh]
  refine ⟨fun l d hl => ?_, fun l c s hl hc hs => ?_, fun l c hl hc => ?_⟩
  · rw [hx.2.2.2.2.2.2.2.2.2.2.1]; exact h1 l d hl
  · rw [hx.2.2.2.2.2.2.2.2.2.1]; exact h2 l c s hl hc hs
  · rw [hx.2.2.2.2.2.2.2.2.2.2.2]; exact h3 l c hl hc
theorem ZV_a {R S : Mem} {g g' : Nat → Int32} {n : Nat} (n8 : n ≤ 8) (hr : AgR R S) (hg : ∀ i, i < 96 → g' i = g i) (h : ZV R g n) : ZV S g' n := by
  have w : xw S = xw R := congrArg Int32.toInt hr.1
  have hh : xh S = xh R := congrArg Int32.toInt hr.2.1
  obtain ⟨h1, h2, h3, h4⟩ := h
  refine ⟨fun p hp => ?_, by rw [hg 92 (by omega)]; exact h2, by rw [hg 94 (by omega)]; exact h3, fun j hj => ?_⟩
  · rw [hg p (by omega), hg (8 + p) (by omega), hr.2.2.2.1, hr.2.2.2.2.2.2.2.1 p]
    obtain ⟨q1, q2⟩ := h1 p hp
    exact ⟨⟨q1.1, q1.2.1, (onN_a hr).mpr q1.2.2⟩, q2⟩
  · rw [hg 92 (by omega)] at hj
    rw [hg (80 + 2 * j) (by omega), hg (81 + 2 * j) (by omega), w, hh]
    obtain ⟨q1, q2, s, q3, q4, q5⟩ := h4 j hj
    exact ⟨(onN_a hr).mpr q1, (onN_a hr).mpr q2, s, q3, q4, fun h => q5 ((onN_a hr).mp h)⟩
