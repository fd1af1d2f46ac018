/-! the feast -/
theorem CS_r {X R : Mem} {n : Nat} (zq : ZQ X R n) : CS X R n X R := ⟨zq, HFx_r, HFr_r, AgR_r⟩
/-- where one stands, both sides -/
theorem whr {X R : Mem} {n p : Nat} (zq : ZQ X R n) (hp : p < n) : (∀ x, f_Mod_cellOf (R.1 163 p) = some x → x = X.1 12 p) ∧ (∀ x, f_Mod_levelOf (R.1 163 p) = some x → x = X.1 13 p) ∧ (0 ≤ (X.1 12 p).toInt ∧ (X.1 12 p).toInt ≤ 35 ∧ (X.1 12 p).toInt < xw R * xh R) ∧ (0 ≤ (X.1 13 p).toInt ∧ (X.1 13 p).toInt ≤ 1) ∧ onN R (X.1 13 p).toInt (X.1 12 p).toInt := by
  obtain ⟨n8, jR, zb, zs, zv, zw⟩ := zq
  obtain ⟨a1, a2, a3, a4, a5, _⟩ := zs.1 p hp
  have a1 : (R.1 163 p).toInt = (X.1 12 p).toInt + 36 * (X.1 13 p).toInt := a1
  have a2 : 0 ≤ (X.1 12 p).toInt := a2
  have a3 : (X.1 12 p).toInt ≤ 35 := a3
  have a4 : 0 ≤ (X.1 13 p).toInt := a4
  have a5 : (X.1 13 p).toInt ≤ 1 := a5
  obtain ⟨⟨o1, o2, o3⟩, _⟩ := zv.1 p hp
  have e1 : (R.1 163 p).toInt % 36 = (X.1 12 p).toInt := by omega
  have e2 : (R.1 163 p).toInt / 36 = (X.1 13 p).toInt := by omega
  rw [e1, e2] at o3
  refine ⟨fun x e => Int32.toInt_inj.mp ?_, fun x e => Int32.toInt_inj.mp ?_, ⟨a2, a3, o3.2.1⟩, ⟨a4, a5⟩, o3⟩
  · rw [(place_i (by omega) (by omega)).1 e, e1]
  · rw [(place_i (by omega) (by omega)).2 e, e2]
theorem stair_r {X R : Mem} {n p : Nat} {x : Int32} (zq : ZQ X R n) (hp : p < n) (ex : f_Ground_isStair (X.1 12 p) X = some x) : (x = 1 ∧ R.1 164 (X.1 12 p).toNatClampNeg = 3) ∨ (x = 0 ∧ R.1 164 (X.1 12 p).toNatClampNeg ≠ 3) := by
  obtain ⟨_, _, ⟨c0, c1, c2⟩, _, _⟩ := whr zq hp
  obtain ⟨c, hc⟩ := ti_ofn c0
  have z3 := o3
  rw [q_nat hc]
  rcases stairC zq.2.2.1.1 zq.2.1 ex with ⟨h, s1, s2, s3⟩ | ⟨h, s⟩
  · rw [hc] at s3
    exact .inl ⟨h, Int32.toInt_inj.mp s3⟩
  · refine .inr ⟨h, fun e => s ⟨c0, c2, ?_⟩⟩
    rw [hc]
    show (R.1 164 c).toInt = 3
    rw [e]; rfl
theorem astray_2 {X R : Mem} {n : Nat} {x y : Int32} (zq : ZQ X R n) (ex : f_Top_womenAreAstray X = some x) (ey : Option.bind (iter (lb_Mod_canFeast_31 R) FU (0 : Int32)) (Sum.elim (fun _ => some (1 : Int32)) (fun _ => some (0 : Int32))) = some y) : (x = 0 ∧ y = 1) ∨ (x = 1 ∧ y = 0) := by
  have n8 := zq.1
  have zc := zq.2.2.1.2.1
  have e65 : X.1 6 5 = R.1 162 5 := zc.2.2.1
  unfold f_Top_womenAreAstray at ex
  obtain ⟨x1, ex1, ex⟩ := bo ex
  obtain ⟨y1, ey1, ey⟩ := bo ey
  have Q : (x1 = .inl () ∧ y1 = .inl ()) ∨ (x1 = .inr () ∧ y1 = .inr ()) := by
    refine it_2 (I := fun s t => s = t ∧ ∃ p : Nat, p ≤ n ∧ s.toInt = (p : Int)) (Q := fun x1 y1 : Unit ⊕ Unit => (x1 = .inl () ∧ y1 = .inl ()) ∨ (x1 = .inr () ∧ y1 = .inr ())) ?_ ex1 ey1 ⟨rfl, 0, by omega, rfl⟩
    rintro s t a b ⟨rfl, p, lp, hp⟩ ea eb
    unfold lb_Top_womenAreAstray_2 at ea
    unfold lb_Mod_canFeast_31 at eb
    rw [zc.2.1] at ea
    rcases io ea with ⟨g, ea⟩ | ⟨g, ea⟩
    · rw [if_pos g] at eb
      exact .inr ⟨_, _, (Option.some.inj ea).symm, (Option.some.inj eb).symm, .inl ⟨rfl, rfl⟩⟩
    rw [if_neg g] at eb
    have g1 := q_ng g
    rw [zc.1] at g1
    have pn : p < n := by omega
    have nx : (s + (1 : Int32)).toInt = ((p + 1 : Nat) : Int) := add_ti hp o1 (by omega) (by omega)
    have next : a = .inl (s + (1 : Int32)) → b = .inl (s + (1 : Int32)) → (∃ s' t', a = .inl s' ∧ b = .inl t' ∧ (s' = t' ∧ ∃ p : Nat, p ≤ n ∧ s'.toInt = (p : Int))) ∨ (∃ x y, a = .inr x ∧ b = .inr y ∧ ((x = .inl () ∧ y = .inl ()) ∨ (x = .inr () ∧ y = (.inr () : Unit ⊕ Unit)))) := fun h1 h2 => .inl ⟨_, _, h1, h2, rfl, p + 1, by omega, nx⟩
    obtain ⟨x2, ex2, ea⟩ := bo ea
    obtain ⟨y2, ey2, eb⟩ := bo eb
    have w1 := womanC hp (by omega) ex2
    have w2 := hasR hp (by omega) ey2
    rw [e65] at w1
    have w : x2 = 0 ↔ y2 = 0 := w1.trans w2.symm
    rcases io ea with ⟨g, ea⟩ | ⟨g, ea⟩
    · rw [if_pos (w.mp g)] at eb
      exact next (Option.some.inj ea).symm (Option.some.inj eb).symm
    rw [if_neg (fun h => g (w.mpr h))] at eb
    obtain ⟨_, ea⟩ := io_n ea
    obtain ⟨_, eb⟩ := io_n eb
    rw [q_nat hp] at ea eb
    obtain ⟨y3, ey3, eb⟩ := bo eb
    obtain ⟨h1, h2, _, _, _⟩ := whr zq pn
    obtain rfl := h2 _ ey3
    rcases io ea with ⟨g, ea⟩ | ⟨g, ea⟩
    · rw [if_pos g] at eb
      obtain ⟨_, ea⟩ := io_n ea
      obtain ⟨_, eb⟩ := io_n eb
      obtain ⟨x4, ex4, ea⟩ := bo ea
      obtain ⟨y4, ey4, eb⟩ := bo eb
      obtain rfl := h1 _ ey4
      obtain ⟨_, eb⟩ := io_n eb
      rcases stair_r zq pn ex4 with ⟨k, l⟩ | ⟨k, l⟩
      · rw [k, if_neg (by decide)] at ea
        rw [if_pos l] at eb
        exact next (Option.some.inj ea).symm (Option.some.inj eb).symm
      · rw [k, if_pos rfl] at ea
        rw [if_neg l] at eb
        exact .inr ⟨_, _, (Option.some.inj ea).symm, (Option.some.inj eb).symm, .inr ⟨rfl, rfl⟩⟩
    · rw [if_neg g] at eb
      exact next (Option.some.inj ea).symm (Option.some.inj eb).symm
  rcases Q with ⟨rfl, rfl⟩ | ⟨rfl, rfl⟩
  · exact .inl ⟨(Option.some.inj ex).symm, (Option.some.inj ey).symm⟩
  · exact .inr ⟨(Option.some.inj ex).symm, (Option.some.inj ey).symm⟩
theorem below_2 {X R : Mem} {n : Nat} {x y : Int32} (zq : ZQ X R n) (ex : f_Top_womenBelow X = some x) (ey : f_Mod_womenBelow R = some y) : x = y := by
  have n8 := zq.1
  have zc := zq.2.2.1.2.1
  have e65 : X.1 6 5 = R.1 162 5 := zc.2.2.1
  unfold f_Top_womenBelow at ex
  unfold f_Mod_womenBelow at ey
  obtain ⟨x1, ex1, ex⟩ := bo ex
  obtain ⟨y1, ey1, ey⟩ := bo ey
  obtain rfl := Option.some.inj ex
  obtain rfl := Option.some.inj ey
  refine it_2 (I := fun s t : Int32 × Int32 => s = t ∧ ∃ p : Nat, p ≤ n ∧ s.2.toInt = (p : Int)) (Q := fun x1 y1 : Int32 => x1 = y1) ?_ ex1 ey1 ⟨rfl, 0, by omega, rfl⟩
  rintro ⟨u, s⟩ t a b ⟨rfl, p, lp, hp⟩ ea eb
  unfold lb_Top_womenBelow_4 at ea
  unfold lb_Mod_womenBelow_4 at eb
  dsimp only at ea eb hp
  rw [zc.2.1] at ea
  rw [Int32.add_zero] at eb
  rcases io ea with ⟨g, ea⟩ | ⟨g, ea⟩
  · rw [if_pos g] at eb
    exact .inr ⟨_, _, (Option.some.inj ea).symm, (Option.some.inj eb).symm, rfl⟩
  rw [if_neg g] at eb
  have g1 := q_ng g
  rw [zc.1] at g1
  have pn : p < n := by omega
  have nx : (s + (1 : Int32)).toInt = ((p + 1 : Nat) : Int) := add_ti hp o1 (by omega) (by omega)
  have next : ∀ w : Int32, some (Sum.inl (w, s + (1 : Int32))) = some a → some (Sum.inl (w, s + (1 : Int32))) = some b → (∃ s' t' : Int32 × Int32, a = .inl s' ∧ b = .inl t' ∧ (s' = t' ∧ ∃ p : Nat, p ≤ n ∧ s'.2.toInt = (p : Int))) ∨ (∃ x y : Int32, a = .inr x ∧ b = .inr y ∧ x = y) := fun w h1 h2 => .inl ⟨_, _, (Option.some.inj h1).symm, (Option.some.inj h2).symm, rfl, p + 1, by omega, nx⟩
  obtain ⟨x2, ex2, ea⟩ := bo ea
  obtain ⟨y2, ey2, eb⟩ := bo eb
  have w1 := womanC hp (by omega) ex2
  have w2 := hasR hp (by omega) ey2
  rw [e65] at w1
  have w : x2 = 0 ↔ y2 = 0 := w1.trans w2.symm
  rcases io ea with ⟨g, ea⟩ | ⟨g, ea⟩
  · rw [if_pos (w.mp g)] at eb
    exact next _ ea eb
  rw [if_neg (fun h => g (w.mpr h))] at eb
  obtain ⟨_, ea⟩ := io_n ea
  obtain ⟨_, eb⟩ := io_n eb
  rw [q_nat hp] at ea eb
  obtain ⟨y3, ey3, eb⟩ := bo eb
  obtain ⟨h1, h2, _, _, _⟩ := whr zq pn
  obtain rfl := h2 _ ey3
  rcases io ea with ⟨g, ea⟩ | ⟨g, ea⟩
  · rw [if_pos g] at eb; exact next _ ea eb
  · rw [if_neg g] at eb; exact next _ ea eb
/-- a level, or the feast's flag, changed on both sides -/
theorem lev_q {X R x r : Mem} {n p : Nat} {l v : Int32} (zq : ZQ X R n) (hp : p < n) (hl : 0 ≤ l.toInt ∧ l.toInt ≤ 1) (hv : v.toInt = (X.1 12 p).toInt + 36 * l.toInt) (ho : onN R l.toInt (X.1 12 p).toInt) (hw : bt (R.1 162 5) p = true) (jr : J r) (hx : x = s_i X 13 p l) (hr : r = s_i R 163 p v) : CS X R n x r := by
  have wq := whr zq hp
  obtain ⟨n8, jR, zb, zs, zv, zw⟩ := zq
  have fx : ∀ kx i, ¬ (kx = 13 ∧ i = p) → x.1 kx i = X.1 kx i := fun kx i h => by rw [hx, si_ne h]
  have fr : ∀ kx i, ¬ (kx = 163 ∧ i = p) → r.1 kx i = R.1 kx i := fun kx i h => by rw [hr, si_ne h]
  have x13 : x.1 13 p = l := by rw [hx, si_eq]
  have r13 : r.1 163 p = v := by rw [hr, si_eq]
  have x2 : x.2 = X.2 := by rw [hx]; rfl
  have agx : AgX X x := ⟨fx 3 2 (by omega), fx 3 3 (by omega), fun i => fx 4 i (by omega), fx 6 4 (by omega), fx 6 5 (by omega), fun i => fx 7 i (by omega), fun i => fx 8 i (by omega), fx 40 4 (by omega), fun i => fx 41 i (by omega), fun i => fx 35 i (by omega), fun i => by rw [x2], fun i => by rw [x2]⟩
  have agr : AgR R r := ⟨fr 162 2 (by omega), fr 162 3 (by omega), fr 162 4 (by omega), fr 162 5 (by omega), fr 162 23 (by omega), fun i => fr 164 i (by omega), fun i => fr 165 i (by omega), fun i => fr 166 i (by omega), fun i => fr 172 i (by omega)⟩
  have sc : ∀ j i, j < 10 → (j = 1 → i ≠ p) → scn x 11 j i = scn X 11 j i := by
    intro j i h10 hj
    unfold scn
    by_cases g : j < 6
    · rw [if_pos g, if_pos g]; exact fx _ _ (by omega)
    · rw [if_neg g, if_neg g]; exact fx _ _ (by omega)
  have zs' : ZS (scn x 11) (r.1 163) n := by
    obtain ⟨h1, h2, h3, h4, h5, h6, h7, h8⟩ := zs
    refine ⟨fun q hq => ?_, fun q u hq hu => ?_, fun q u hq hu hh => ?_, ?_, fun j hj hl => ?_, ?_, ?_, ?_⟩
    · by_cases g : q = p
      · subst g
        obtain ⟨_, b2, b3, _, _, b6⟩ := h1 q hq
        rw [r13, fr 163 (8 + q) (by omega), sc 0 q (by omega) (by omega), sc 2 q (by omega) (by omega), show scn x 11 1 q = l from x13]
        exact ⟨hv, b2, b3, hl.1, hl.2, b6⟩
      · rw [fr 163 q (by omega), fr 163 (8 + q) (by omega), sc 0 q (by omega) (by omega), sc 1 q (by omega) (by omega), sc 2 q (by omega) (by omega)]; exact h1 q hq
    · rw [fr 163 _ (by omega), sc 3 _ (by omega) (by omega), sc 3 _ (by omega) (by omega)]; exact h2 q u hq hu
    · rw [sc 3 _ (by omega) (by omega)]; exact h3 q u hq hu hh
    · rw [sc 6 0 (by omega) (by omega), fr 163 92 (by omega)]; exact h4
    · rw [fr 163 92 (by omega)] at hl
      rw [sc 4 j (by omega) (by omega), sc 5 j (by omega) (by omega), fr 163 _ (by omega), fr 163 _ (by omega)]; exact h5 j hj hl
    · rw [sc 7 0 (by omega) (by omega), fr 163 95 (by omega)]; exact h6
    · rw [sc 8 0 (by omega) (by omega), fr 163 93 (by omega)]; exact h7
    · rw [sc 9 0 (by omega) (by omega), fr 163 94 (by omega)]; exact h8
  have zv' : ZV r (r.1 163) n := by
    have w1 : xw r = xw R := congrArg Int32.toInt agr.1
    have w2 : xh r = xh R := congrArg Int32.toInt agr.2.1
    obtain ⟨h1, h2, h3, h4⟩ := zv
    refine ⟨fun q hq => ?_, by rw [fr 163 92 (by omega)]; exact h2, by rw [fr 163 94 (by omega)]; exact h3, fun j hj => ?_⟩
    · obtain ⟨q1, q2, q3⟩ := h1 q hq
      by_cases g : q = p
      · subst g
        rw [r13, fr 163 (8 + q) (by omega), agr.2.2.2.1, agr.2.2.2.2.2.2.2.1 q, hw]
        refine ⟨⟨by omega, by omega, ?_⟩, fun h => (by cases h), q3⟩
        rw [show v.toInt / 36 = l.toInt by omega, show v.toInt % 36 = (X.1 12 q).toInt by omega]
        exact (onN_a agr).mpr ho
      · rw [fr 163 q (by omega), fr 163 (8 + q) (by omega), agr.2.2.2.1, agr.2.2.2.2.2.2.2.1 q]
        exact ⟨⟨q1.1, q1.2.1, (onN_a agr).mpr q1.2.2⟩, q2, q3⟩
    · rw [fr 163 92 (by omega)] at hj
      rw [fr 163 _ (by omega), fr 163 _ (by omega), w1, w2]
      obtain ⟨q1, q2, s, q3, q4, q5⟩ := h4 j hj
      exact ⟨(onN_a agr).mpr q1, (onN_a agr).mpr q2, s, q3, q4, fun h => q5 ((onN_a agr).mp h)⟩
  exact ⟨⟨n8, jr, ZB_a agx agr zb, zs', zv', ZW_a agx agr (plk_c (fun i a b => fr 163 i (by omega)) zv.2.1.2) zw⟩, ⟨⟨fun kx i h => fx kx i (by omega), fx 46 2 (by omega), fx 46 3 (by omega)⟩, fun i => by rw [x2], fun i => by rw [x2]⟩, ⟨fr 162 27 (by omega), fr 162 48 (by omega), fun i => fr 173 i (by omega), fun i => fr 189 i (by omega), fun i => fr 190 i (by omega), fun i => fr 191 i (by omega)⟩, agr⟩
theorem flag_q {X R x r : Mem} {n : Nat} {v : Int32} (zq : ZQ X R n) (hl : 0 ≤ v.toInt ∧ v.toInt ≤ 1) (hx : x = s_i X 11 9 v) (hr : r = s_i R 163 94 v) : CS X R n x r := by
  obtain ⟨n8, jR, zb, zs, zv, zw⟩ := zq
  have jr : J r := by rw [hr]; exact Jws94 jR (.inl rfl) v hl.1 hl.2
  have fx : ∀ kx i, ¬ (kx = 11 ∧ i = 9) → x.1 kx i = X.1 kx i := fun kx i h => by rw [hx, si_ne h]
  have fr : ∀ kx i, ¬ (kx = 163 ∧ i = 94) → r.1 kx i = R.1 kx i := fun kx i h => by rw [hr, si_ne h]
  have x9 : x.1 11 9 = v := by rw [hx, si_eq]
  have r9 : r.1 163 94 = v := by rw [hr, si_eq]
  have x2 : x.2 = X.2 := by rw [hx]; rfl
  have agx : AgX X x := ⟨fx 3 2 (by omega), fx 3 3 (by omega), fun i => fx 4 i (by omega), fx 6 4 (by omega), fx 6 5 (by omega), fun i => fx 7 i (by omega), fun i => fx 8 i (by omega), fx 40 4 (by omega), fun i => fx 41 i (by omega), fun i => fx 35 i (by omega), fun i => by rw [x2], fun i => by rw [x2]⟩
  have agr : AgR R r := ⟨fr 162 2 (by omega), fr 162 3 (by omega), fr 162 4 (by omega), fr 162 5 (by omega), fr 162 23 (by omega), fun i => fr 164 i (by omega), fun i => fr 165 i (by omega), fun i => fr 166 i (by omega), fun i => fr 172 i (by omega)⟩
  have sc : ∀ j i, j < 9 → scn x 11 j i = scn X 11 j i := by
    intro j i h10
    unfold scn
    by_cases g : j < 6
    · rw [if_pos g, if_pos g]; exact fx _ _ (by omega)
    · rw [if_neg g, if_neg g]; exact fx _ _ (by omega)
  have zs' : ZS (scn x 11) (r.1 163) n := by
    obtain ⟨h1, h2, h3, h4, h5, h6, h7, h8⟩ := zs
    refine ⟨fun q hq => ?_, fun q u hq hu => ?_, fun q u hq hu hh => ?_, ?_, fun j hj hl => ?_, ?_, ?_, ?_⟩
    · rw [fr 163 q (by omega), fr 163 (8 + q) (by omega), sc 0 q (by omega), sc 1 q (by omega), sc 2 q (by omega)]; exact h1 q hq
    · rw [fr 163 _ (by omega), sc 3 _ (by omega), sc 3 _ (by omega)]; exact h2 q u hq hu
    · rw [sc 3 _ (by omega)]; exact h3 q u hq hu hh
    · rw [sc 6 0 (by omega), fr 163 92 (by omega)]; exact h4
    · rw [fr 163 92 (by omega)] at hl
      rw [sc 4 j (by omega), sc 5 j (by omega), fr 163 _ (by omega), fr 163 _ (by omega)]; exact h5 j hj hl
    · rw [sc 7 0 (by omega), fr 163 95 (by omega)]; exact h6
    · rw [sc 8 0 (by omega), fr 163 93 (by omega)]; exact h7
    · show x.1 11 9 = r.1 163 94
      rw [x9, r9]
  have zv' : ZV r (r.1 163) n := by
    have w1 : xw r = xw R := congrArg Int32.toInt agr.1
    have w2 : xh r = xh R := congrArg Int32.toInt agr.2.1
    obtain ⟨h1, h2, h3, h4⟩ := zv
    refine ⟨fun q hq => ?_, by rw [fr 163 92 (by omega)]; exact h2, by rw [r9]; exact hl, fun j hj => ?_⟩
    · obtain ⟨q1, q2, q3⟩ := h1 q hq
      rw [fr 163 q (by omega), fr 163 (8 + q) (by omega), agr.2.2.2.1, agr.2.2.2.2.2.2.2.1 q]
      exact ⟨⟨q1.1, q1.2.1, (onN_a agr).mpr q1.2.2⟩, q2, q3⟩
    · rw [fr 163 92 (by omega)] at hj
      rw [fr 163 _ (by omega), fr 163 _ (by omega), w1, w2]
      obtain ⟨q1, q2, s, q3, q4, q5⟩ := h4 j hj
      exact ⟨(onN_a agr).mpr q1, (onN_a agr).mpr q2, s, q3, q4, fun h => q5 ((onN_a agr).mp h)⟩
  exact ⟨⟨n8, jr, ZB_a agx agr zb, zs', zv', ZW_a agx agr (plk_c (fun i a b => fr 163 i (by omega)) zv.2.1.2) zw⟩, ⟨⟨fun kx i h => fx kx i (by omega), fx 46 2 (by omega), fx 46 3 (by omega)⟩, fun i => by rw [x2], fun i => by rw [x2]⟩, ⟨fr 162 27 (by omega), fr 162 48 (by omega), fun i => fr 173 i (by omega), fun i => fr 189 i (by omega), fun i => fr 190 i (by omega), fun i => fr 191 i (by omega)⟩, agr⟩
