/-! pieces: counted alike -/
def pcs (P : Nat → Bool) (Rc : Nat → Nat → Bool) : Nat → (Nat → Bool) × Int
  | 0 => (fun _ => false, 0)
  | k + 1 => if P k = true ∧ (pcs P Rc k).1 k = false then (fun c => (pcs P Rc k).1 c || Rc k c, (pcs P Rc k).2 + 1) else pcs P Rc k
theorem pcs_p {P : Nat → Bool} {Rc : Nat → Nat → Bool} {k : Nat} (h : P k = true ∧ (pcs P Rc k).1 k = false) : pcs P Rc (k + 1) = (fun c => (pcs P Rc k).1 c || Rc k c, (pcs P Rc k).2 + 1) := if_pos h
theorem pcs_n {P : Nat → Bool} {Rc : Nat → Nat → Bool} {k : Nat} (h : ¬ (P k = true ∧ (pcs P Rc k).1 k = false)) : pcs P Rc (k + 1) = pcs P Rc k := if_neg h
theorem pcs_b {P : Nat → Bool} {Rc : Nat → Nat → Bool} : ∀ k, 0 ≤ (pcs P Rc k).2 ∧ (pcs P Rc k).2 ≤ (k : Int) := by
  intro k
  induction k with
  | zero => exact ⟨by show (0 : Int) ≤ 0; decide, by show (0 : Int) ≤ ((0 : Nat) : Int); decide⟩
  | succ k ih =>
    by_cases g : P k = true ∧ (pcs P Rc k).1 k = false
    · rw [pcs_p g]; dsimp only; omega
    · rw [pcs_n g]; omega
theorem pcs_s {P : Nat → Bool} {Rc : Nat → Nat → Bool} {k : Nat} (j : Nat) (h : ∀ c, k ≤ c → P c = false) : pcs P Rc (k + j) = pcs P Rc k := by
  induction j with
  | zero => rfl
  | succ j ih =>
    rw [show k + (j + 1) = (k + j) + 1 by omega, pcs_n (fun w => by rw [h (k + j) (by omega)] at w; cases w.1)]
    exact ih
/-- what the class's flood from a cell reaches -/
def rcX (v1 : Int32) (X : Mem) (k c : Nat) : Bool := match f_Nets_flood 32 v1 (Int32.ofNat k) (0 : Int64) X with
  | some y => bl y c
  | none => false
theorem rcX_i {v1 i : Int32} {X : Mem} {k : Nat} {y : Int64} (hk : i.toInt = (k : Int)) (k36 : k < 36) (e : f_Nets_flood 32 v1 i (0 : Int64) X = some y) (c : Nat) : rcX v1 X k c = bl y c := by
  unfold rcX
  rw [← ofn_eq hk (by omega), e]
theorem pcs_c {X : Mem} {v1 : Int32} {net : Int64} {x : Int32 × Int32 × Int32} (e : iter (lb_Top_pieces_33 v1 X) FU (net, (0 : Int32), (0 : Int32), (-1 : Int32), (0 : Int32)) = some x) : x.1.toInt = (pcs (fun c => bl net c) (rcX v1 X) 36).2 := by
  have k36 : (36 : Int32).toInt = 36 := rfl
  refine it_r (I := fun s : Int64 × Int32 × Int32 × Int32 × Int32 => ∃ k : Nat, k ≤ 36 ∧ s.2.2.2.2.toInt = (k : Int) ∧ s.2.1.toInt = (pcs (fun c => bl net c) (rcX v1 X) k).2 ∧ ∀ c, c < 64 → bl s.1 c = (bl net c && !(pcs (fun c => bl net c) (rcX v1 X) k).1 c)) (Q := fun x : Int32 × Int32 × Int32 => x.1.toInt = (pcs (fun c => bl net c) (rcX v1 X) 36).2) ?_ e ⟨0, by omega, rfl, rfl, fun c _ => by show bl net c = (bl net c && !false); rw [Bool.not_false, Bool.and_true]⟩
  rintro ⟨left, cn, best, cell, i⟩ r ⟨k, k36', hk, h1, h2⟩ e
  dsimp only at hk h1 h2
  unfold lb_Top_pieces_33 at e
  dsimp only at e
  rcases io e with ⟨g, e⟩ | ⟨g, e⟩
  · have := q_le g
    obtain rfl := Option.some.inj e
    have : k = 36 := by omega
    subst this
    exact h1
  have g1 := q_ng g
  have i1 : (i + (1 : Int32)).toInt = ((k + 1 : Nat) : Int) := add_ti hk o1 (by omega) (by omega)
  have bk := h2 k (by omega)
  have pb := pcs_b (P := fun c => bl net c) (Rc := rcX v1 X) k
  rcases io e with ⟨g, e⟩ | ⟨g, e⟩
  · have gb := (bl_cmp hk (by omega)).mp g
    obtain rfl := Option.some.inj e
    refine ⟨k + 1, by omega, i1, ?_⟩
    rw [pcs_n (P := fun c => bl net c) (Rc := rcX v1 X) (fun w => by
      have w1 : bl net k = true := w.1
      rw [gb, w1, w.2] at bk; cases bk)]
    exact ⟨h1, h2⟩
  · have gb : bl left k = true := by
      cases hb : bl left k with
      | true => rfl
      | false => exact absurd ((bl_cmp hk (by omega)).mpr hb) g
    rw [gb] at bk
    have bk := bk.symm
    rw [Bool.and_eq_true, Bool.not_eq_true'] at bk
    obtain ⟨x1, e1, e⟩ := bo e
    obtain ⟨x2, e2, e⟩ := bo e
    have rc := rcX_i hk (by omega) e1
    have c1 : (cn + (1 : Int32)).toInt = (pcs (fun c => bl net c) (rcX v1 X) k).2 + 1 := by
      rw [add_ti h1 o1 (by omega) (by omega)]
    have L : ∀ c, c < 64 → bl (left &&& (x1 ^^^ (-1 : Int64))) c = (bl net c && !(pcs (fun c => bl net c) (rcX v1 X) (k + 1)).1 c) := by
      intro c hc
      rw [pcs_p (P := fun c => bl net c) (Rc := rcX v1 X) ⟨bk.1, bk.2⟩, bl_and, bl_not hc, h2 c hc]
      dsimp only
      rw [rc c]
      cases bl net c <;> cases (pcs (fun c => bl net c) (rcX v1 X) k).1 c <;> cases bl x1 c <;> rfl
    have C : (cn + (1 : Int32)).toInt = (pcs (fun c => bl net c) (rcX v1 X) (k + 1)).2 := by
      rw [pcs_p (P := fun c => bl net c) (Rc := rcX v1 X) ⟨bk.1, bk.2⟩]; exact c1
    rcases io e with ⟨_, e⟩ | ⟨_, e⟩
    · obtain rfl := Option.some.inj e
      exact ⟨k + 1, by omega, i1, C, L⟩
    · obtain ⟨x3, _, e⟩ := bo e
      obtain rfl := Option.some.inj e
      exact ⟨k + 1, by omega, i1, C, L⟩
theorem vb_0 : vp_nar .boolean (0 : Int32) = 0 := by decide +kernel
theorem vb_o0 {a : Int32} (h : a = 0 ∨ a = 1) : vp_nar .boolean (a ||| (0 : Int32)) = a := by
  rcases h with rfl | rfl <;> decide +kernel
theorem vb_o1 {a : Int32} (h : a = 0 ∨ a = 1) : vp_nar .boolean (a ||| (1 : Int32)) = 1 := by
  rcases h with rfl | rfl <;> decide +kernel
theorem b179 {N : Mem} (h : J N) (i : Nat) : N.1 179 i = 0 ∨ N.1 179 i = 1 := by
  have := Jr_179 h i
  by_cases c : (N.1 179 i).toInt = 0
  · exact .inl (Int32.toInt_inj.mp c)
  · exact .inr (Int32.toInt_inj.mp (by show (N.1 179 i).toInt = 1; omega))
theorem wipe_r {a b c d : Int32} {N x : Mem} (jN : J N) (e : iter (lb_Mod_pieces_26 a b c d) FU ((0 : Int32), N) = some x) : J x ∧ (∀ kx i, kx ≠ 179 → x.1 kx i = N.1 kx i) ∧ ∀ c, c < 36 → x.1 179 c = 0 := by
  have k36 : (36 : Int32).toInt = 36 := rfl
  refine it_r (I := fun s : Int32 × Mem => ∃ q : Nat, q ≤ 36 ∧ s.1.toInt = (q : Int) ∧ J s.2 ∧ (∀ kx i, kx ≠ 179 → s.2.1 kx i = N.1 kx i) ∧ ∀ c, c < q → s.2.1 179 c = 0) (Q := fun x : Mem => J x ∧ (∀ kx i, kx ≠ 179 → x.1 kx i = N.1 kx i) ∧ ∀ c, c < 36 → x.1 179 c = 0) ?_ e ⟨0, by omega, rfl, jN, fun _ _ _ => rfl, fun c h => by omega⟩
  rintro ⟨i, T⟩ r ⟨q, q36, hq, jT, hf, hd⟩ e
  dsimp only at hq jT hf hd
  unfold lb_Mod_pieces_26 at e
  dsimp only at e
  rcases io e with ⟨g, e⟩ | ⟨g, e⟩
  · have := q_le g
    obtain rfl := Option.some.inj e
    exact ⟨jT, hf, fun c hc => hd c (by omega)⟩
  have g1 := q_ng g
  have i1 : (i + (1 : Int32)).toInt = ((q + 1 : Nat) : Int) := add_ti hq o1 (by omega) (by omega)
  obtain ⟨_, e⟩ := io_n e
  obtain ⟨M3, m3, e⟩ := mo e
  obtain rfl := Option.some.inj e
  rw [q_nat hq, vb_0] at m3
  refine ⟨q + 1, by omega, i1, by rw [m3]; exact Jw_179 jT q 0 (by decide) (by decide), fun kx j h => by rw [m3, si_ne (by omega)]; exact hf kx j h, fun c hc => ?_⟩
  rw [m3]
  by_cases w : c = q
  · subst w; exact si_eq
  · rw [si_ne (by omega)]; exact hd c (by omega)
theorem mark_r {v1 a b c d : Int32} {l : Nat} {N x : Mem} (h1 : v1.toInt = (l : Int)) (l2 : l < 2) (jN : J N) (e : iter (lb_Mod_pieces_98 v1 a b c d) FU ((0 : Int32), N) = some x) : J x ∧ (∀ kx i, kx ≠ 179 → x.1 kx i = N.1 kx i) ∧ ∀ c, c < 36 → x.1 179 c = if (N.1 177 (36 * l + c)).toInt < 1000000 then 1 else N.1 179 c := by
  have k36 : (36 : Int32).toInt = 36 := rfl
  have km : (1000000 : Int32).toInt = 1000000 := rfl
  refine it_r (I := fun s : Int32 × Mem => ∃ q : Nat, q ≤ 36 ∧ s.1.toInt = (q : Int) ∧ J s.2 ∧ (∀ kx i, kx ≠ 179 → s.2.1 kx i = N.1 kx i) ∧ (∀ c, q ≤ c → s.2.1 179 c = N.1 179 c) ∧ ∀ c, c < q → s.2.1 179 c = if (N.1 177 (36 * l + c)).toInt < 1000000 then 1 else N.1 179 c) (Q := fun x : Mem => J x ∧ (∀ kx i, kx ≠ 179 → x.1 kx i = N.1 kx i) ∧ ∀ c, c < 36 → x.1 179 c = if (N.1 177 (36 * l + c)).toInt < 1000000 then 1 else N.1 179 c) ?_ e ⟨0, by omega, rfl, jN, fun _ _ _ => rfl, fun _ _ => rfl, fun c h => by omega⟩
  rintro ⟨i, T⟩ r ⟨q, q36, hq, jT, hf, hu, hd⟩ e
  dsimp only at hq jT hf hu hd
  unfold lb_Mod_pieces_98 at e
  dsimp only at e
  rcases io e with ⟨g, e⟩ | ⟨g, e⟩
  · have := q_le g
    obtain rfl := Option.some.inj e
    exact ⟨jT, hf, fun c hc => hd c (by omega)⟩
  have g1 := q_ng g
  have i1 : (i + (1 : Int32)).toInt = ((q + 1 : Nat) : Int) := add_ti hq o1 (by omega) (by omega)
  obtain ⟨_, e⟩ := io_n e
  obtain ⟨x10, e10, e⟩ := bo e
  obtain ⟨_, e⟩ := io_n e
  have p10 := place_c h1 hq l2 (by omega) e10
  rw [q_nat p10, hf 177 _ (by omega), q_nat hq, hu q (Nat.le_refl _)] at e
  have b := b179 jN q
  rcases io e with ⟨g, e⟩ | ⟨g, e⟩
  · have gg := q_le g
    obtain ⟨_, e⟩ := io_n e
    obtain ⟨M3, m3, e⟩ := mo e
    obtain rfl := Option.some.inj e
    rw [vb_o0 b] at m3
    have jb := Jr_179 jN q
    refine ⟨q + 1, by omega, i1, by rw [m3]; exact Jw_179 jT q _ jb.1 jb.2, fun kx j h => by rw [m3, si_ne (by omega)]; exact hf kx j h, fun c hc => by rw [m3, si_ne (by omega)]; exact hu c (by omega), fun c hc => ?_⟩
    rw [m3]
    by_cases w : c = q
    · subst w; rw [si_eq, if_neg (by omega)]
    · rw [si_ne (by omega)]; exact hd c (by omega)
  · have gg := q_ng g
    obtain ⟨_, e⟩ := io_n e
    obtain ⟨M3, m3, e⟩ := mo e
    obtain rfl := Option.some.inj e
    rw [vb_o1 b] at m3
    refine ⟨q + 1, by omega, i1, by rw [m3]; exact Jw_179 jT q _ (by decide) (by decide), fun kx j h => by rw [m3, si_ne (by omega)]; exact hf kx j h, fun c hc => by rw [m3, si_ne (by omega)]; exact hu c (by omega), fun c hc => ?_⟩
    rw [m3]
    by_cases w : c = q
    · subst w; rw [si_eq, if_pos (by omega)]
    · rw [si_ne (by omega)]; exact hd c (by omega)
theorem pieces_q {X R : Mem} {n : Nat} {v1 : Int32} {x r : Int32 × Mem} (hJ : J X) (za : ZA X R n) (ex : f_Top_pieces v1 X = some x) (er : f_Mod_pieces v1 R = some r) : x.1 = r.1 := by
  have z0 := o0
  unfold f_Mod_pieces at er
  obtain ⟨M1, m1, er⟩ := mo er
  obtain ⟨zaM, fqM⟩ := ZA_M1 za m1
  obtain ⟨n8, jM, ⟨zg, zc, zl⟩, zs, zv, zw⟩ := zaM.1
  have wh := awh jM
  have jM1 : J M1 := jM
  unfold f_Top_pieces at ex
  obtain ⟨y2, ey2, er⟩ := bo er
  have hin := some_of (sp_in v1 0 1) ey2
  rw [o0, o1] at hin
  rcases io ex with ⟨g, ex⟩ | ⟨g, ex⟩
  · have g := q_lt g
    rcases hin with ⟨a, b⟩ | ⟨a, b⟩
    · omega
    rw [a, if_pos rfl] at er
    obtain rfl := Option.some.inj ex
    obtain rfl := Option.some.inj er
    rfl
  have g1 := q_nl g
  rcases io ex with ⟨g, ex⟩ | ⟨g, ex⟩
  rotate_left
  · have g := q_ng g
    rcases hin with ⟨a, b⟩ | ⟨a, b⟩
    · have := o1; omega
    rw [a, if_pos rfl] at er
    obtain rfl := Option.some.inj ex
    obtain rfl := Option.some.inj er
    rfl
  have g2 := q_le g
  have k1 := o1
  rcases hin with ⟨a, _⟩ | ⟨_, b⟩
  rotate_left
  · exact absurd ⟨by omega, by omega⟩ b
  rw [a, if_neg (by decide)] at er
  obtain ⟨l, hl⟩ := ti_ofn (v := v1) (by omega)
  have l2 : l < 2 := by omega
  obtain ⟨_, ex⟩ := io_n ex
  obtain ⟨x7, e7, ex⟩ := bo ex
  obtain ⟨x8, _, ex⟩ := bo ex
  obtain ⟨x9, _, ex⟩ := bo ex
  obtain ⟨x10, _, ex⟩ := bo ex
  obtain rfl := Option.some.inj ex
  obtain ⟨y5, ey5, er⟩ := bo er
  obtain ⟨y22, ey22, er⟩ := bo er
  obtain ⟨M23, _, er⟩ := mo er
  obtain ⟨y24, _, er⟩ := bo er
  obtain ⟨y25, _, er⟩ := bo er
  obtain rfl := Option.some.inj er
  rw [q_nat hl] at e7
  have C := pcs_c e7
  have nb : ∀ d, bl (X.2.1 33 l) d = true ↔ (d < 36 ∧ onN M1 l d) := fun d => by
    have := zw.1 l d l2
    rw [this, onA_i jM]
  obtain ⟨j5, f5, w5⟩ := wipe_r jM1 ey5
  obtain ⟨W, hW⟩ : ∃ W : Nat, xw M1 * xh M1 = (W : Int) := ⟨(xw M1 * xh M1).toNat, by omega⟩
  have W36 : W ≤ 36 := by omega
  have K : y22.1.toInt = (pcs (fun c => bl (X.2.1 33 l) c) (rcX v1 X) W).2 := by
    refine it_r (I := fun s : Int32 × Int32 × Int32 × Int32 × Mem => ∃ k : Nat, k ≤ W ∧ s.2.2.2.1.toInt = (k : Int) ∧ s.1.toInt = (pcs (fun c => bl (X.2.1 33 l) c) (rcX v1 X) k).2 ∧ (∀ c, c < 36 → s.2.2.2.2.1 179 c = if (pcs (fun c => bl (X.2.1 33 l) c) (rcX v1 X) k).1 c = true then 1 else 0) ∧ J s.2.2.2.2 ∧ (∀ kx i, kx ≠ 177 → kx ≠ 179 → s.2.2.2.2.1 kx i = M1.1 kx i)) (Q := fun y : Int32 × Int32 × Int32 × Mem => y.1.toInt = (pcs (fun c => bl (X.2.1 33 l) c) (rcX v1 X) W).2) ?_ ey22 ⟨0, by omega, rfl, rfl, fun c hc => by show y5.1 179 c = if false = true then 1 else 0; rw [w5 c hc, if_neg (by decide)], j5, fun kx i _ h => f5 kx i h⟩
    rintro ⟨cn, best, cell, i, T⟩ u ⟨k, kW, hk, h1, h2, jT, hf⟩ e
    dsimp only at hk h1 h2 jT hf
    unfold lb_Mod_pieces_50 at e
    dsimp only at e
    obtain ⟨x6, e6, e⟩ := bo e
    have h6 : x6.toInt = (W : Int) := by
      unfold f_Mod_cells at e6
      obtain rfl := Option.some.inj e6
      rw [hf 162 2 (by omega) (by omega), hf 162 3 (by omega) (by omega)]
      rw [wh_ti jM]; exact hW
    rcases io e with ⟨g, e⟩ | ⟨g, e⟩
    · have := q_le g
      obtain rfl := Option.some.inj e
      have : k = W := by omega
      subst this
      exact h1
    have g1 := q_ng g
    have i1 : (i + (1 : Int32)).toInt = ((k + 1 : Nat) : Int) := add_ti hk o1 (by omega) (by omega)
    have zT : ZA X T n := ZA_z zaM jT (fun _ _ _ => rfl) (fun _ => rfl) (fun _ => rfl) (fun _ => rfl) (fun _ => rfl) (fun kx i h => hf kx i (by unfold CRr CR at h; omega) (by unfold CRr CR at h; omega))
    obtain ⟨_, _, _, _, zvT, zwT⟩ := zT.1
    have nbT : bl (X.2.1 33 l) k = true ↔ (k < 36 ∧ onN T l k) := by
      have := zwT.1 l k l2
      rw [this, onA_i jT]
    obtain ⟨x7', e7', e⟩ := bo e
    have hof := some_of (fs_isOf jT v1 i) e7'
    rw [hl, hk] at hof
    rcases hof with ⟨a, on⟩ | ⟨a, on⟩
    rotate_left
    · rw [a, if_pos rfl] at e
      obtain rfl := Option.some.inj e
      refine ⟨k + 1, by omega, i1, ?_⟩
      rw [pcs_n (P := fun c => bl (X.2.1 33 l) c) (Rc := rcX v1 X) (fun w => on (nbT.mp w.1).2)]
      exact ⟨h1, h2, jT, hf⟩
    rw [a, if_neg (by decide)] at e
    have P1 : bl (X.2.1 33 l) k = true := nbT.mpr ⟨by omega, on⟩
    obtain ⟨_, e⟩ := io_n e
    rw [q_nat hk, h2 k (by omega)] at e
    rcases io e with ⟨g, e⟩ | ⟨g, e⟩
    rotate_left
    · obtain rfl := Option.some.inj e
      refine ⟨k + 1, by omega, i1, ?_⟩
      rw [pcs_n (P := fun c => bl (X.2.1 33 l) c) (Rc := rcX v1 X) (fun w => g (by rw [w.2, if_neg (by decide)]))]
      exact ⟨h1, h2, jT, hf⟩
    have seen : (pcs (fun c => bl (X.2.1 33 l) c) (rcX v1 X) k).1 k = false := by
      cases hs : (pcs (fun c => bl (X.2.1 33 l) c) (rcX v1 X) k).1 k with
      | false => rfl
      | true => rw [hs, if_pos rfl] at g; exact absurd g (by decide)
    have E := pcs_p (P := fun c => bl (X.2.1 33 l) c) (Rc := rcX v1 X) ⟨P1, seen⟩
    have pb := pcs_b (P := fun c => bl (X.2.1 33 l) c) (Rc := rcX v1 X) k
    obtain ⟨x8', e8', e⟩ := bo e
    obtain ⟨x9', e9', e⟩ := bo e
    obtain ⟨x15, e15, e⟩ := bo e
    obtain ⟨x16, _, e⟩ := bo e
    obtain ⟨y, ey, _⟩ := sf_Nets_flood 32 v1 i (0 : Int64) X kd_32 ⟨by omega, by omega⟩ hJ
    obtain ⟨F1, F2, F3⟩ := flood_2 hJ jT zvT zwT hl l2 hk (by omega) on (place_c hl hk l2 (by omega) e8') ey e9'
    obtain ⟨A1, A2, A3⟩ := mark_r hl l2 F2 e15
    have rc := rcX_i hk (by omega) ey
    have c1 : (cn + (1 : Int32)).toInt = (pcs (fun c => bl (X.2.1 33 l) c) (rcX v1 X) (k + 1)).2 := by
      rw [add_ti h1 o1 (by omega) (by omega), E]
    have S : ∀ c, c < 36 → x15.1 179 c = if (pcs (fun c => bl (X.2.1 33 l) c) (rcX v1 X) (k + 1)).1 c = true then 1 else 0 := by
      intro c hc
      have E1 : (pcs (fun c => bl (X.2.1 33 l) c) (rcX v1 X) (k + 1)).1 c = ((pcs (fun c => bl (X.2.1 33 l) c) (rcX v1 X) k).1 c || bl y c) := by
        rw [← rc c]
        exact congrArg (fun z : (Nat → Bool) × Int => z.1 c) E
      rw [A3 c hc, F3 179 c (by omega), h2 c hc, E1]
      by_cases w : (x9'.1 177 (36 * l + c)).toInt < 1000000
      · rw [if_pos w, (F1 c).mpr ⟨hc, w⟩, Bool.or_true, if_pos rfl]
      · rw [if_neg w]
        have : bl y c = false := by
          cases hb : bl y c with
          | false => rfl
          | true => exact absurd ((F1 c).mp hb).2 w
        rw [this, Bool.or_false]
    have fr : ∀ kx i, kx ≠ 177 → kx ≠ 179 → x15.1 kx i = M1.1 kx i := fun kx i h h' => by rw [A2 kx i h', F3 kx i h]; exact hf kx i h h'
    rcases io e with ⟨_, e⟩ | ⟨_, e⟩
    · obtain ⟨x17, _, e⟩ := bo e
      obtain rfl := Option.some.inj e
      exact ⟨k + 1, by omega, i1, c1, S, A1, fr⟩
    · obtain rfl := Option.some.inj e
      exact ⟨k + 1, by omega, i1, c1, S, A1, fr⟩
  have tail := pcs_s (P := fun c => bl (X.2.1 33 l) c) (Rc := rcX v1 X) (k := W) (36 - W) (fun c hc => by
    cases hb : bl (X.2.1 33 l) c with
    | false => rfl
    | true =>
      have on := ((nb c).mp hb).2
      have := on.2.1
      omega)
  rw [show W + (36 - W) = 36 by omega] at tail
  refine Int32.toInt_inj.mp ?_
  show x7.1.toInt = y22.1.toInt
  rw [C, K, tail]
