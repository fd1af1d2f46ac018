section
/-! the row told last, asked for; the invariant with the row -/
def mR4 : Nat := 2 ^ 400 - 1 - 2 ^ sl 0 15 - 2 ^ 161 - 2 ^ 212 - 2 ^ 168
def mR2 : Nat := 2 ^ 400 - 1 - 2 ^ sl 0 15 - 2 ^ 161
theorem RRx_B {x r : Mem} (fr : Fx mR2 [] x r) (h : RR x r) : RR r r :=
  RR_f (fr 0 15 (by decide +kernel) (by simp)).1 (fun i => (fr 161 i (by rw [show sl 161 i = 161 from rfl]; decide +kernel) (by simp)).1) rfl (fun _ => rfl) h
theorem RRx_A {M x r : Mem} (fx : Fx mR4 [] M x) (fr : Fx mR4 [] x r) (h : RR M M) : RR r r :=
  RR_f ((fr 0 15 (by decide +kernel) (by simp)).1.trans (fx 0 15 (by decide +kernel) (by simp)).1) (fun i => (fr 161 i (by rw [show sl 161 i = 161 from rfl]; decide +kernel) (by simp)).1.trans (fx 161 i (by rw [show sl 161 i = 161 from rfl]; decide +kernel) (by simp)).1) ((fr 162 12 (by decide +kernel) (by simp)).1.trans (fx 162 12 (by decide +kernel) (by simp)).1) (fun i => (fr 168 i (by rw [show sl 168 i = 168 from rfl]; decide +kernel) (by simp)).1.trans (fx 168 i (by rw [show sl 168 i = 168 from rfl]; decide +kernel) (by simp)).1) h
theorem hv_1 (y : Option Int32) (M : Mem) : (hv y M).2.1 = M.1 := by
  cases y with
  | none => rfl
  | some r => rfl
/-- a call of the law's own: only the long in cell 192 is another -/
theorem RRx_L {M N x r : Mem} (h1 : x.1 = N.1) (fx : Fx mR4 [] M N) (fr : Fx mR4 [] x r) (h : RR M M) : RR r r :=
  RR_f ((fr 0 15 (by decide +kernel) (by simp)).1.trans (by rw [h1]; exact (fx 0 15 (by decide +kernel) (by simp)).1)) (fun i => (fr 161 i (by rw [show sl 161 i = 161 from rfl]; decide +kernel) (by simp)).1.trans (by rw [h1]; exact (fx 161 i (by rw [show sl 161 i = 161 from rfl]; decide +kernel) (by simp)).1)) ((fr 162 12 (by decide +kernel) (by simp)).1.trans (by rw [h1]; exact (fx 162 12 (by decide +kernel) (by simp)).1)) (fun i => (fr 168 i (by rw [show sl 168 i = 168 from rfl]; decide +kernel) (by simp)).1.trans (by rw [h1]; exact (fx 168 i (by rw [show sl 168 i = 168 from rfl]; decide +kernel) (by simp)).1)) h
theorem RR_g {M x : Mem} (g : ∀ kx i, 162 ≤ kx → x.1 kx i = M.1 kx i) (h : RR M M) : RR M x :=
  RR_f rfl (fun _ => rfl) (g 162 12 (by decide)) (fun i => g 168 i (by decide)) h
def IX (n : Int) (M : Mem) : Prop := IY n M ∧ RR M M
theorem IX_up {n : Int} {M : Mem} (h : IX n M) : IX (n + 1) M := ⟨IY_up h.1, h.2⟩
theorem RR_M0 : RR M0 M0 := ⟨0, by omega, by decide +kernel, by decide +kernel, fun i h => absurd h (by omega)⟩
theorem IX_0 (h : Inv 0 M0) : IX 0 M0 := ⟨IY_0 h, RR_M0⟩
theorem row_q {X R : Mem} {a : Int32} {y : Option Int32} {r : Int32 × Mem} (hr : RR X R) (ey : f_Top_row a X = some y) (er : f_Mod_row a R = some r) : LwA y r := by
  obtain ⟨k, k10, h1, h2, h3⟩ := hr
  have z0 := o0
  have z10 : (10 : Int32).toInt = 10 := rfl
  unfold f_Mod_row at er
  obtain ⟨M1, m1, er⟩ := mo er
  have f1 : ∀ kx i, ¬ (kx = 162 ∧ i = 13) → M1.1 kx i = R.1 kx i := fun kx i h => by rw [m1, si_ne h]
  have h13 : M1.1 162 13 = 0 := by rw [m1, si_eq]
  obtain ⟨x2, ex2, er⟩ := bo er
  have hin := some_of (sp_in a 0 ((M1.1 162 12) - (1 : Int32))) ex2
  rw [o0, f1 162 12 (by omega), sub_ti h2 o1 (by omega) (by omega)] at hin
  have out : ¬ (0 ≤ a.toInt ∧ a.toInt ≤ (k : Int) - 1) → y = none → LwA y r := by
    intro hn hy
    rcases hin with ⟨_, h⟩ | ⟨h, _⟩
    · exact absurd h hn
    rw [h, if_pos rfl] at er
    obtain ⟨x3, e3, er⟩ := bo er
    obtain rfl := Option.some.inj er
    unfold f_Mod_lost at e3
    obtain ⟨M3, m3, e3⟩ := mo e3
    obtain rfl := Option.some.inj e3
    exact .inl ⟨hy, by show M3.1 162 13 = 1; rw [m3, si_eq]⟩
  unfold f_Top_row at ey
  rcases io ey with ⟨g, ey⟩ | ⟨g, ey⟩
  · have := q_lt g
    exact out (by omega) (Option.some.inj ey).symm
  have g1 := q_nl g
  rcases io ey with ⟨g, ey⟩ | ⟨g, ey⟩
  · have := q_le g
    exact out (by omega) (Option.some.inj ey).symm
  have g2 := q_ng g
  rcases io ey with ⟨g, ey⟩ | ⟨g, _⟩
  rotate_left
  · have := q_nl g; omega
  obtain ⟨_, ey⟩ := io_n ey
  rcases hin with ⟨h, _⟩ | ⟨_, h⟩
  rotate_left
  · exact absurd ⟨by omega, by omega⟩ h
  rw [h, if_neg (by decide)] at er
  obtain ⟨_, er⟩ := io_n er
  obtain rfl := Option.some.inj er
  obtain ⟨i, hi⟩ := ti_ofn (v := a) (by omega)
  refine .inr ⟨?_, h13⟩
  rw [← Option.some.inj ey, q_nat hi, f1 168 i (by omega), h3 i (by omega)]
theorem lwe_row {M : Mem} {a : Int32} {x r : Int32 × Mem} (h : RR M M) (ex : f_Lw_row a M = some x) (er : f_Mod_row a x.2 = some r) (fr : r.2.2.1 192 0 = x.2.2.1 192 0) : LwE x.1 x.2 r := by
  unfold f_Lw_row at ex
  obtain ⟨y, ey, ex⟩ := bo ex
  obtain rfl := Option.some.inj ex
  refine lwe_of (row_q (RR_f rfl (fun _ => rfl) ?_ (fun i => ?_) h) ey er) fr
  · rw [hv_1]
  · rw [hv_1]
end
section
/-! MEETINGS: none of their numbers is too large -/
def MBc (kx : Nat) : Prop := kx = 15 ∨ kx = 22 ∨ ∃ u, u < 14 ∧ kx = 53 + 7 * u
def MB (b : Int) (X : Mem) : Prop := ∀ kx, MBc kx → ∀ i, i < 64 → 0 ≤ (X.1 kx i).toInt ∧ (X.1 kx i).toInt ≤ b
theorem MB_le {b c : Int} {X : Mem} (h : MB b X) (hb : b ≤ c) : MB c X := fun kx hk i hi => by
  have := h kx hk i hi
  omega
theorem MB_f {b : Int} {X Y : Mem} (h : MB b X) (f : ∀ kx, MBc kx → ∀ i, Y.1 kx i = X.1 kx i) : MB b Y := fun kx hk i hi => by rw [f kx hk i]; exact h kx hk i hi
def mbl : List Nat := [15, 22] ++ (List.range 14).map (fun u => 53 + 7 * u)
def mbS : Nat := mbl.foldl (fun a s => a + 2 ^ s) 0
/-- all but the meetings; all but these, the past's length and the scenes' places, how many people -/
def mB : Nat := 2 ^ 400 - 1 - mbS
def mNb : Nat := 2 ^ 400 - 1 - mbS - 2 ^ sl 46 2 - 2 ^ 47 - 2 ^ 48 - 2 ^ sl 6 4
theorem mb_pl : mbl.all (fun s => pl s) = true := by decide +kernel
theorem mB_t : mbl.all (fun s => !Nat.testBit mB s) = true := by decide +kernel
theorem mNb_t : mbl.all (fun s => !Nat.testBit mNb s) = true := by decide +kernel
theorem MBc_l {kx : Nat} (h : MBc kx) : kx ∈ mbl := by
  rcases h with rfl | rfl | ⟨u, hu, rfl⟩
  · decide
  · decide
  · exact List.mem_append.mpr (.inr (List.mem_map.mpr ⟨u, List.mem_range.mpr hu, rfl⟩))
theorem mb_x {C : Nat} {X x : Mem} (b : mbl.all (fun s => !Nat.testBit C s) = true) (f : Fx C [] X x) : ∀ kx, MBc kx → ∀ i, x.1 kx i = X.1 kx i := by
  intro kx h i
  have m := MBc_l h
  have hp := List.all_eq_true.mp mb_pl kx m
  have ht := List.all_eq_true.mp b kx m
  exact (f kx i (by rw [sl_pl hp]; simpa using ht) (by simp)).1
theorem MB_m {b : Int} {X x : Mem} (h : MB b X) (f : Fx mB [] X x) : MB b x := MB_f h (mb_x mB_t f)
def MSk (k : Nat) : Prop := k = 11 ∨ k = 18 ∨ ∃ u, u < 14 ∧ k = 49 + 7 * u
theorem MSk_c {k : Nat} (h : MSk k) : MBc (k + 4) := by
  rcases h with rfl | rfl | ⟨u, hu, rfl⟩
  · exact .inl rfl
  · exact .inr (.inl rfl)
  · exact .inr (.inr ⟨u, hu, by omega⟩)
theorem MBc_o {kx : Nat} (h : MBc kx) : 15 ≤ kx ∧ kx ≠ 46 ∧ kx ≠ 45 ∧ kx ≠ 0 ∧ kx < 162 := by
  rcases h with rfl | rfl | ⟨u, hu, rfl⟩ <;> omega
theorem mb_copy {b : Int} {X x : Mem} {v0 v1 : Nat} (h0 : MSk v0) (h1 : MSk v1) (hne : v0 ≠ v1) (h : MB b X) (e : f_Scene_copy v0 v1 X = some x) : MB b x ∧ x.2 = X.2 ∧ ∀ kx i, (kx < v0 ∨ v0 + 7 ≤ kx) → x.1 kx i = X.1 kx i := by
  have hd : v0 + 7 ≤ v1 ∨ v1 + 7 ≤ v0 := by
    rcases h0 with rfl | rfl | ⟨u, hu, rfl⟩ <;> rcases h1 with rfl | rfl | ⟨w, hw, rfl⟩ <;> omega
  obtain ⟨c1, c2, c3⟩ := copy_i hd e
  refine ⟨fun kx hk i hi => ?_, c3, c2⟩
  by_cases g : kx = v0 + 4
  · have src : X.1 (v1 + 4) i = x.1 (v0 + 4) i := c1.2.2.2.1 i hi
    rw [g, ← src]
    exact h (v1 + 4) (MSk_c h1) i hi
  · rw [c2 kx i (by
      rcases h0 with rfl | rfl | ⟨u, hu, rfl⟩ <;> rcases hk with rfl | rfl | ⟨w, hw, rfl⟩ <;> omega)]
    exact h kx hk i hi
/-- what goes with it: the past, the shelves -/
def MG (b : Int) (X : Mem) : Prop := MB b X ∧ HX X ∧ (∃ m : Nat, m ≤ 12 ∧ (X.1 46 2).toInt = (m : Int)) ∧ (∀ t : Nat, t < 2 → X.2.2 48 t = some (133 + 7 * t)) ∧ (X.1 6 4).toInt ≤ 8
theorem MG_za {b : Int} {X R : Mem} {n : Nat} (za : ZA X R n) (h : MB b X) : MG b X := by
  obtain ⟨⟨n8, _, ⟨_, zc, _⟩, _⟩, ⟨hx, m, m12, h1, _⟩, zk⟩ := za
  exact ⟨h, hx, ⟨m, m12, h1⟩, zk.1, by rw [zc.2.1, zc.1]; omega⟩
theorem MG_g {b c : Int} {X x : Mem} (h : MG b X) (hb : MB c x) (f47 : ∀ i, x.2.2 47 i = X.2.2 47 i) (f48 : ∀ i, x.2.2 48 i = X.2.2 48 i) (f46 : x.1 46 2 = X.1 46 2) (f6 : x.1 6 4 = X.1 6 4) : MG c x := by
  obtain ⟨_, hx, hm, hs, h6⟩ := h
  refine ⟨hb, ⟨fun i hi => by rw [f47]; exact hx.1 i hi, fun i j hi hj e => by rw [f47, f47] at e; exact hx.2 i j hi hj e⟩, by rw [f46]; exact hm, fun t ht => by rw [f48]; exact hs t ht, by rw [f6]; exact h6⟩
theorem MG_m {b : Int} {X x : Mem} (h : MG b X) (f : Fx mNb [] X x) : MG b x :=
  MG_g h (MB_f h.1 (mb_x mNb_t f)) (fun i => (f 47 i (by rw [show sl 47 i = 47 from rfl]; decide +kernel) (by simp)).2.2) (fun i => (f 48 i (by rw [show sl 48 i = 48 from rfl]; decide +kernel) (by simp)).2.2) (f 46 2 (by decide +kernel) (by simp)).1 (f 6 4 (by decide +kernel) (by simp)).1
theorem MG_copy {b : Int} {X x : Mem} {v0 v1 : Nat} (h0 : MSk v0) (h1 : MSk v1) (hne : v0 ≠ v1) (h : MG b X) (e : f_Scene_copy v0 v1 X = some x) : MG b x := by
  obtain ⟨c1, c2, c3⟩ := mb_copy h0 h1 hne h.1 e
  have o : (46 < v0 ∨ v0 + 7 ≤ 46) ∧ (6 < v0 ∨ v0 + 7 ≤ 6) := by rcases h0 with rfl | rfl | ⟨u, hu, rfl⟩ <;> omega
  exact MG_g h c1 (fun i => by rw [c2]) (fun i => by rw [c2]) (c3 46 2 o.1) (c3 6 4 o.2)
theorem mb_58 {b : Int} {X x : Mem} {m j : Nat} (hm : (X.1 46 2).toInt = (m : Int)) (hj : j < 12) (hq : X.2.2 47 m = some (49 + 7 * j)) (h : MB b X) (e : j_History_add_58 18 X = some x) : MB b x := by
  unfold j_History_add_58 at e
  obtain ⟨_, e⟩ := io_n e
  rw [q_nat hm] at e
  obtain ⟨a1, ea1, e⟩ := bo e
  rw [hq] at ea1
  obtain rfl := Option.some.inj ea1
  obtain ⟨_, e⟩ := io_n e
  obtain ⟨x2, e2, e⟩ := bo e
  obtain ⟨M3, e3, e⟩ := mo e
  obtain rfl := Option.some.inj e
  exact MB_f (mb_copy (.inr (.inr ⟨j, by omega, rfl⟩)) (.inr (.inl rfl)) (by omega) h e2).1 (fun kx hk i => by rw [e3, si_ne (by have := MBc_o hk; omega)])
theorem mb_add {b : Int} {X x : Mem} (h : MG b X) (e : f_History_add 18 X = some x) : MB b x := by
  obtain ⟨hb, hx, ⟨m, m12, hm⟩, _, _⟩ := h
  have z12 : (12 : Int32).toInt = 12 := rfl
  unfold f_History_add at e
  obtain ⟨_, e⟩ := io_n e
  rcases io e with ⟨c, e⟩ | ⟨c, e⟩
  · have := q_lt c
    obtain ⟨j, hj, hq⟩ := hx.1 m (by omega)
    exact mb_58 hm hj hq hb e
  · obtain ⟨_, e⟩ := io_n e
    obtain ⟨a4, ea4, e⟩ := bo e
    obtain ⟨_, e⟩ := io_n e
    obtain ⟨x8, e8, e⟩ := bo e
    obtain ⟨M9, m9, e⟩ := mo e
    obtain ⟨M10, m10, eL⟩ := mo e
    obtain ⟨j, hj, hq⟩ := hx.1 0 (by omega)
    have ea4 : X.2.2 47 0 = some a4 := ea4
    rw [hq] at ea4
    obtain rfl := Option.some.inj ea4
    have k8 : x8.1 = X.1 := by
      refine it_r (I := fun s : Int32 × Mem => s.2.1 = X.1) (Q := fun x : Mem => x.1 = X.1) ?_ e8 rfl
      rintro ⟨i, N⟩ r hN e
      dsimp only at hN
      unfold lb_History_add_18 at e
      dsimp only at e
      rcases io e with ⟨_, e⟩ | ⟨_, e⟩
      · obtain rfl := Option.some.inj e; exact hN
      obtain ⟨_, e⟩ := io_n e
      obtain ⟨a5, _, e⟩ := bo e
      obtain ⟨_, e⟩ := io_n e
      obtain ⟨_, e⟩ := io_n e
      obtain ⟨M6, m6, e⟩ := mo e
      obtain rfl := Option.some.inj e
      show M6.1 = X.1
      rw [m6]; exact hN
    have k9 : M9.1 = X.1 := by rw [m9]; exact k8
    have b10 : MB b M10 := MB_f hb (fun kx hk i => by rw [m10, si_ne (by have := MBc_o hk; omega), k9])
    refine mb_58 (m := 11) (by rw [m10, si_eq]; rfl) hj ?_ b10 eL
    rw [m10]
    show M9.2.2 47 11 = _
    rw [m9]
    exact sq_eq
/-- copied, changed, added -/
theorem mb_op {C : Nat} {b : Int} {M X1 X2 : Mem} (hC : sb C mNb) (h : MG b M) (e1 : f_Scene_copy 18 11 M = some X1) (f : Fx C [] X1 X2) : MG b X2 ∧ ∀ x, f_History_add 18 X2 = some x → MB b x := by
  have g : MG b X2 := MG_m (MG_copy (.inr (.inl rfl)) (.inl rfl) (by omega) h e1) (fun k i a c => f k i (by
    cases hb : Nat.testBit C (sl k i) with
    | false => rfl
    | true => rw [sbb hC hb] at a; cases a) c)
  exact ⟨g, fun x e => mb_add g e⟩
/-! a minute: one more for each pair at most -/
def GB (b : Int) (X0 : Mem) (t : Nat) (N : Mem) : Prop := (∀ i, i < 64 → 0 ≤ (N.1 15 i).toInt ∧ (N.1 15 i).toInt ≤ b + 1 ∧ (t ≤ i → (N.1 15 i).toInt ≤ b)) ∧ (∀ kx, kx ≠ 15 → kx ≠ 45 → ∀ i, N.1 kx i = X0.1 kx i) ∧ N.2 = X0.2
theorem GB_le {b : Int} {X0 N : Mem} {t u : Nat} (h : GB b X0 t N) (l : t ≤ u) : GB b X0 u N := ⟨fun i hi => ⟨(h.1 i hi).1, (h.1 i hi).2.1, fun w => (h.1 i hi).2.2 (by omega)⟩, h.2⟩
theorem greet_b {b : Int} {X0 N x : Mem} {m n : Nat} {v : Int32} (hb : b ≤ 1000000000) (hn : (X0.1 6 4).toInt = (n : Int)) (n8 : n ≤ 8) (hm : v.toInt = (m : Int)) (mn : m < n) (h : GB b X0 (8 * m) N) (e : f_Clock_greet v 11 N = some x) : GB b X0 (8 * m + 8) x := by
  have r3 : rf 11 3 = 15 := by decide +kernel
  unfold f_Clock_greet at e
  obtain ⟨_, e⟩ := io_n e
  obtain ⟨x1, _, e⟩ := bo e
  rcases io e with ⟨_, e⟩ | ⟨_, e⟩
  rotate_left
  · obtain rfl := Option.some.inj e
    exact GB_le h (by omega)
  obtain ⟨_, e⟩ := io_n e
  obtain ⟨x2, _, e⟩ := bo e
  rcases io e with ⟨_, e⟩ | ⟨_, e⟩
  · obtain rfl := Option.some.inj e
    exact GB_le h (by omega)
  obtain ⟨x9, e9, e⟩ := bo e
  obtain rfl := Option.some.inj e
  refine it_r (I := fun s : Int32 × Mem => ∃ w : Nat, w ≤ n ∧ s.1.toInt = (w : Int) ∧ GB b X0 (8 * m + w) s.2) (Q := fun x : Mem => GB b X0 (8 * m + 8) x) ?_ e9 ⟨0, by omega, rfl, h⟩
  rintro ⟨wv, P⟩ r ⟨w, wn, hw, hP⟩ e
  dsimp only at hw hP
  unfold lb_Clock_greet_26 at e
  dsimp only at e
  rw [hP.2.1 6 (by omega) (by omega) 4] at e
  rcases io e with ⟨g, e⟩ | ⟨g, e⟩
  · obtain rfl := Option.some.inj e
    exact GB_le hP (by omega)
  have g1 := q_ng g
  have w1 : (wv + (1 : Int32)).toInt = ((w + 1 : Nat) : Int) := add_ti hw o1 (by omega) (by omega)
  obtain ⟨x3, _, e⟩ := bo e
  rcases io e with ⟨_, e⟩ | ⟨_, e⟩
  · obtain rfl := Option.some.inj e
    exact ⟨w + 1, by omega, w1, GB_le hP (by omega)⟩
  obtain ⟨_, e⟩ := io_n e
  obtain ⟨_, e⟩ := io_n e
  rcases io e with ⟨_, e⟩ | ⟨_, e⟩
  rotate_left
  · obtain rfl := Option.some.inj e
    exact ⟨w + 1, by omega, w1, GB_le hP (by omega)⟩
  obtain ⟨x4, e4, e⟩ := bo e
  obtain ⟨M5, m5, e⟩ := mo e
  obtain rfl := Option.some.inj e
  unfold f_Scene_addMeeting at e4
  obtain ⟨_, e4⟩ := io_n e4
  obtain ⟨_, e4⟩ := io_n e4
  obtain ⟨_, e4⟩ := io_n e4
  obtain ⟨M4, m4, e4⟩ := mo e4
  obtain rfl := Option.some.inj e4
  have z8 : (8 : Int32).toInt = 8 := rfl
  have ix : (v * (8 : Int32) + wv).toInt = ((8 * m + w : Nat) : Int) := by rw [add_ti (mul_ti hm z8 (by omega) (by omega)) hw (by omega) (by omega)]; omega
  rw [r3, q_nat ix] at m4
  obtain ⟨p0, p1, p2⟩ := hP.1 (8 * m + w) (by omega)
  have p3 := p2 (Nat.le_refl _)
  have pl1 : (P.1 15 (8 * m + w) + (1 : Int32)).toInt = (P.1 15 (8 * m + w)).toInt + 1 := add_ti rfl o1 (by omega) (by omega)
  refine ⟨w + 1, by omega, w1, ⟨fun i hi => ?_, fun kx h1 h2 i => ?_, ?_⟩⟩
  · show 0 ≤ (M5.1 15 i).toInt ∧ (M5.1 15 i).toInt ≤ b + 1 ∧ _
    have e5 : M5.1 15 i = M4.1 15 i := by rw [m5, si_ne (by omega)]
    rw [show (M5.1 15 i).toInt = (M4.1 15 i).toInt by rw [e5]]
    by_cases q : i = 8 * m + w
    · subst q
      rw [m4, si_eq, pl1]
      exact ⟨by omega, by omega, fun l => absurd l (by omega)⟩
    · rw [m4, si_ne (by omega)]
      have := hP.1 i hi
      exact ⟨this.1, this.2.1, fun l => by have : (M5.1 15 i).toInt = (P.1 15 i).toInt := (by rw [e5, m4, si_ne (by omega)]); have := (hP.1 i hi).2.2 (by omega); omega⟩
  · show M5.1 kx i = _
    rw [m5, si_ne (by omega), m4, si_ne (by omega)]
    exact hP.2.1 kx h1 h2 i
  · show M5.2 = _
    rw [m5, si_2, m4, si_2]; exact hP.2.2
theorem MG_pass {b : Int} {X x : Mem} (hb : b ≤ 1000000000) (h : MG b X) (e : f_Clock_pass 11 32 X = some x) : MG (b + 1) x := by
  unfold f_Clock_pass at e
  obtain ⟨_, e⟩ := io_n e
  obtain ⟨_, e⟩ := io_n e
  obtain ⟨M1, m1, e⟩ := mo e
  obtain ⟨x6, e6, e⟩ := bo e
  obtain ⟨M7, m7, e⟩ := mo e
  obtain ⟨x10, e10, e⟩ := bo e
  obtain ⟨x15, e15, e⟩ := bo e
  obtain ⟨M16, m16, e⟩ := mo e
  obtain ⟨M17, m17, e⟩ := mo e
  obtain ⟨x18, _, e⟩ := bo e
  obtain ⟨M19, m19, e⟩ := mo e
  obtain ⟨M20, m20, e⟩ := mo e
  obtain rfl := Option.some.inj e
  have f1 : Fx mNb [] X M1 := wi1 Fx_r m1 (by decide +kernel)
  have f6 : Fx mNb [] X x6 := it_r (I := fun s : Int32 × Mem => Fx mNb [] X s.2) (Q := fun r : Mem => Fx mNb [] X r) (fun s_ r_ hs_ er_ => wl_Clock_pass_8 11 32 s_ (by decide +kernel) (oc_c (sb_r _) (by decide +kernel)) (oc_c (sb_r _) (by decide +kernel)) hs_ er_) e6 f1
  have f7 : Fx mNb [] X M7 := wi1 f6 m7 (by decide +kernel)
  have g7 : MG b M7 := MG_m h f7
  obtain ⟨n, hn⟩ : ∃ n : Nat, (M7.1 6 4).toInt = (n : Int) ∨ (M7.1 6 4).toInt ≤ 0 ∧ n = 0 := by
    rcases Int.lt_or_le (M7.1 6 4).toInt 0 with q | q
    · exact ⟨0, .inr ⟨by omega, rfl⟩⟩
    · exact ⟨(M7.1 6 4).toInt.toNat, .inl (by omega)⟩
  have n8 : n ≤ 8 := by have := g7.2.2.2.2; omega
  have L : GB b M7 64 x10 := by
    refine it_r (I := fun s : Int32 × Mem => ∃ m : Nat, m ≤ n ∧ s.1.toInt = (m : Int) ∧ GB b M7 (8 * m) s.2) (Q := fun x : Mem => GB b M7 64 x) ?_ e10 ⟨0, by omega, rfl, fun i hi => ?_, fun _ _ _ _ => rfl, rfl⟩
    · rintro ⟨v, N⟩ r ⟨m, mn, hm, hN⟩ e
      dsimp only at hm hN
      unfold lb_Clock_pass_54 at e
      dsimp only at e
      rw [hN.2.1 6 (by omega) (by omega) 4] at e
      rcases io e with ⟨g, e⟩ | ⟨g, e⟩
      · obtain rfl := Option.some.inj e
        exact GB_le hN (by omega)
      have g1 := q_ng g
      obtain ⟨x8, e8, e⟩ := bo e
      obtain rfl := Option.some.inj e
      exact ⟨m + 1, by omega, add_ti hm o1 (by omega) (by omega), GB_le (greet_b hb (n := n) (by omega) n8 hm (by omega) hN e8) (by omega)⟩
    · have := g7.1 15 (.inl rfl) i hi
      refine ⟨this.1, ?_, fun _ => this.2⟩
      show (M7.1 15 i).toInt ≤ b + 1
      omega
  have g10 : MG (b + 1) x10 := by
    refine MG_g g7 (fun kx hk i hi => ?_) (fun i => by rw [L.2.2]) (fun i => by rw [L.2.2]) (L.2.1 46 (by omega) (by omega) 2) (L.2.1 6 (by omega) (by omega) 4)
    by_cases q : kx = 15
    · subst q
      exact ⟨(L.1 i hi).1, (L.1 i hi).2.1⟩
    · rw [L.2.1 kx q (MBc_o hk).2.2.1 i]
      have := g7.1 kx hk i hi
      omega
  have k15 : Fx mNb [] x10 x15 := it_r (I := fun s : Int32 × Mem => Fx mNb [] x10 s.2) (Q := fun r : Mem => Fx mNb [] x10 r) (fun s_ r_ hs_ er_ => wl_Clock_pass_87 11 _ s_ (by decide +kernel) (oc_c (sb_r _) (by decide +kernel)) hs_ er_) e15 Fx_r
  exact MG_m g10 (wi1 (wi1 (wi1 (wi1 k15 m16 (by decide +kernel)) m17 (by decide +kernel)) m19 (by decide +kernel)) m20 (by decide +kernel))
end
section
/-! MEETINGS: each call of the class -/
theorem lay_N {X x : Mem} (e : f_Nets_lay 32 11 (-1 : Int32) X = some x) : Fx mNb [] X x :=
  wf_Nets_lay 32 11 (-1 : Int32) X (by decide +kernel) (oc_c (sb_r _) (by decide +kernel)) (oc_c (sb_r _) (by decide +kernel)) (oc_c (sb_r _) (by decide +kernel)) Fx_r e
theorem mb_tell {b : Int} {M : Mem} {v : Int32} {x : Int32 × Mem} (h : MG b M) (e : f_Top_tell v M = some x) : MB b x.2 := by
  unfold f_Top_tell at e
  obtain ⟨X1, e1, e⟩ := bo e
  obtain ⟨x2, e2, e⟩ := bo e
  obtain ⟨p, q⟩ := mb_op (by decide +kernel) h e1 (wf_Top_give v X1 (L := []) (sb_r _) Fx_r e2)
  rcases io e with ⟨_, e⟩ | ⟨_, e⟩
  · obtain rfl := Option.some.inj e; exact p.1
  obtain ⟨x3, e3, e⟩ := bo e
  obtain ⟨x4, _, e⟩ := bo e
  obtain rfl := Option.some.inj e
  exact q x3 e3
theorem mb_feast {b : Int} {M : Mem} {v : Int32} {x : Int32 × Mem} (h : MG b M) (e : f_Top_feast v M = some x) : MB b x.2 := by
  unfold f_Top_feast at e
  obtain ⟨X1, e1, e⟩ := bo e
  have c1 := (MG_copy (.inr (.inl rfl)) (.inl rfl) (by omega) h e1).1
  rcases io e with ⟨_, e⟩ | ⟨_, e⟩
  · obtain rfl := Option.some.inj e; exact c1
  rcases io e with ⟨_, e⟩ | ⟨_, e⟩
  · obtain rfl := Option.some.inj e; exact c1
  obtain ⟨x2, e2, e⟩ := bo e
  obtain ⟨p, q⟩ := mb_op (by decide +kernel) h e1 (wf_Top_celebrate v X1 (L := []) (sb_r _) Fx_r e2)
  rcases io e with ⟨_, e⟩ | ⟨_, e⟩
  · obtain rfl := Option.some.inj e; exact p.1
  obtain ⟨x3, e3, e⟩ := bo e
  obtain ⟨x4, _, e⟩ := bo e
  obtain rfl := Option.some.inj e
  exact q x3 e3
theorem mb_plank {b : Int} {M : Mem} {v w : Int32} {x : Int32 × Mem} (h : MG b M) (e : f_Top_plank v w M = some x) : MB b x.2 := by
  unfold f_Top_plank at e
  obtain ⟨X1, e1, e⟩ := bo e
  obtain ⟨x2, e2, e⟩ := bo e
  obtain ⟨p, q⟩ := mb_op (by decide +kernel) h e1 (wf_Top_lay v w X1 (L := []) (sb_r _) Fx_r e2)
  rcases io e with ⟨_, e⟩ | ⟨_, e⟩
  · obtain rfl := Option.some.inj e; exact p.1
  obtain ⟨x3, e3, e⟩ := bo e
  obtain rfl := Option.some.inj e
  exact q x3 e3
theorem mb_take {b : Int} {M : Mem} {x : Int32 × Mem} (h : MG b M) (e : f_Top_take M = some x) : MB b x.2 := by
  unfold f_Top_take at e
  obtain ⟨X1, e1, e⟩ := bo e
  obtain ⟨x2, e2, e⟩ := bo e
  obtain ⟨p, q⟩ := mb_op (by decide +kernel) h e1 (wf_Top_lift X1 (L := []) (sb_r _) Fx_r e2)
  rcases io e with ⟨_, e⟩ | ⟨_, e⟩
  · obtain rfl := Option.some.inj e; exact p.1
  obtain ⟨x3, e3, e⟩ := bo e
  obtain rfl := Option.some.inj e
  exact q x3 e3
theorem emp_B {X x : Mem} (e : f_Top_emptyRow X = some x) : ∀ kx, MBc kx → ∀ i, x.1 kx i = X.1 kx i := fun kx hk i => (empty_i e).1 kx i (by have := MBc_o hk; omega)
theorem not_B {X x : Mem} {v : Int32} (e : f_Top_note v X = some x) : ∀ kx, MBc kx → ∀ i, x.1 kx i = X.1 kx i := fun kx hk i => (note_i e).1 kx i (by have := MBc_o hk; rcases hk with rfl | rfl | ⟨u, hu, rfl⟩ <;> omega) (by have := MBc_o hk; omega)
theorem mb_minute {b : Int} {M : Mem} {x : Int32 × Mem} (hb : b ≤ 1000000000) (h : MG b M) (e : f_Top_minute M = some x) : MB (b + 1) x.2 := by
  unfold f_Top_minute at e
  obtain ⟨X1, e1, e⟩ := bo e
  obtain ⟨x2, e2, e⟩ := bo e
  obtain ⟨x3, e3, e⟩ := bo e
  obtain ⟨x4, e4, e⟩ := bo e
  obtain ⟨x5, e5, e⟩ := bo e
  obtain ⟨x6, e6, e⟩ := bo e
  obtain rfl := Option.some.inj e
  have g2 := MG_pass hb (MG_copy (.inr (.inl rfl)) (.inl rfl) (by omega) h e1) e2
  exact MB_f (MB_f (MB_f (mb_add g2 e3) (emp_B e4)) (not_B e5)) (not_B e6)
/-- so many minutes -/
theorem mb_mins {b : Int} {X x : Mem} {v : Int32} (hb : b ≤ 900000000) (v60 : v.toInt ≤ 60) (h : MG b X) (e : iter (lb_Top_minutes_32 v) FU ((0 : Int32), X) = some x) : MG (b + 60) x := by
  refine it_r (I := fun s : Int32 × Mem => ∃ i : Nat, i ≤ 60 ∧ s.1.toInt = (i : Int) ∧ MG (b + (i : Int)) s.2) (Q := fun x : Mem => MG (b + 60) x) ?_ e ⟨0, by omega, rfl, by rw [show b + ((0 : Nat) : Int) = b by omega]; exact h⟩
  rintro ⟨iv, N⟩ r ⟨i, i60, hi, hN⟩ e
  dsimp only at hi hN
  unfold lb_Top_minutes_32 at e
  dsimp only at e
  rcases io e with ⟨g, e⟩ | ⟨g, e⟩
  · obtain rfl := Option.some.inj e
    exact ⟨MB_le hN.1 (by omega), hN.2⟩
  have g1 := q_ng g
  obtain ⟨x3, e3, e⟩ := bo e
  obtain rfl := Option.some.inj e
  refine ⟨i + 1, by omega, add_ti hi o1 (by omega) (by omega), ?_⟩
  have := MG_pass (by omega) hN e3
  rw [show b + ((i + 1 : Nat) : Int) = b + (i : Int) + 1 by omega]; exact this
theorem mb_mins2 {b : Int} {X x : Mem} {v : Int32} (hb : b ≤ 900000000) (v60 : v.toInt ≤ 60) (h : MG b X) (e : iter (lb_Top_lasts_10 v) FU ((0 : Int32), X) = some x) : MG (b + 60) x := by
  refine it_r (I := fun s : Int32 × Mem => ∃ i : Nat, i ≤ 60 ∧ s.1.toInt = (i : Int) ∧ MG (b + (i : Int)) s.2) (Q := fun x : Mem => MG (b + 60) x) ?_ e ⟨0, by omega, rfl, by rw [show b + ((0 : Nat) : Int) = b by omega]; exact h⟩
  rintro ⟨iv, N⟩ r ⟨i, i60, hi, hN⟩ e
  dsimp only at hi hN
  unfold lb_Top_lasts_10 at e
  dsimp only at e
  rcases io e with ⟨g, e⟩ | ⟨g, e⟩
  · obtain rfl := Option.some.inj e
    exact ⟨MB_le hN.1 (by omega), hN.2⟩
  have g1 := q_ng g
  obtain ⟨x3, e3, e⟩ := bo e
  obtain rfl := Option.some.inj e
  refine ⟨i + 1, by omega, add_ti hi o1 (by omega) (by omega), ?_⟩
  have := MG_pass (by omega) hN e3
  rw [show b + ((i + 1 : Nat) : Int) = b + (i : Int) + 1 by omega]; exact this
theorem rst_N {X x : Mem} (e : f_Clock_reset X = some x) : Fx mNb [] X x := wf_Clock_reset X (by decide +kernel) Fx_r e
theorem mb_minutes {b : Int} {M : Mem} {v : Int32} {x : Int32 × Mem} (hb : b ≤ 900000000) (h : MG b M) (e : f_Top_minutes v M = some x) : MB (b + 60) x.2 := by
  have z60 : (60 : Int32).toInt = 60 := rfl
  have b0 : MB (b + 60) M := MB_le h.1 (by omega)
  unfold f_Top_minutes at e
  rcases io e with ⟨_, e⟩ | ⟨_, e⟩
  · obtain rfl := Option.some.inj e; exact b0
  rcases io e with ⟨g, e⟩ | ⟨_, e⟩
  rotate_left
  · obtain rfl := Option.some.inj e; exact b0
  have g1 := q_le g
  obtain ⟨X1, e1, e⟩ := bo e
  obtain ⟨X2, e2, e⟩ := bo e
  obtain ⟨x5, e5, e⟩ := bo e
  have g5 := mb_mins hb (by omega) (MG_m (MG_copy (.inr (.inl rfl)) (.inl rfl) (by omega) h e1) (rst_N e2)) e5
  have fin : ∀ A : Mem, MB (b + 60) A → j_Top_minutes_85 A = some x → MB (b + 60) x.2 := by
    intro A hA e
    unfold j_Top_minutes_85 at e
    obtain ⟨u6, eu6, e⟩ := bo e
    obtain ⟨u7, eu7, e⟩ := bo e
    obtain ⟨u8, eu8, e⟩ := bo e
    obtain rfl := Option.some.inj e
    exact MB_f (MB_f (MB_f hA (emp_B eu6)) (not_B eu7)) (not_B eu8)
  rcases io e with ⟨_, e⟩ | ⟨_, e⟩
  · exact fin x5 g5.1 e
  · obtain ⟨x9, e9, e⟩ := bo e
    exact fin x9 (mb_add g5 e9) e
theorem mb_does {b : Int} {X : Mem} {v : Int32} {x : Int32 × Mem} (hb : b ≤ 900000000) (h : MG b X) (e : f_Top_does v X = some x) : MG (b + 60) x.2 ∧ (x.1 = 0 ∨ v.toInt < 32) := by
  have z60 : (60 : Int32).toInt = 60 := rfl
  have z32 : (32 : Int32).toInt = 32 := rfl
  have up : ∀ {Y : Mem}, MG b Y → MG (b + 60) Y := fun g => ⟨MB_le g.1 (by omega), g.2⟩
  unfold f_Top_does at e
  rcases io e with ⟨_, e⟩ | ⟨_, e⟩
  · obtain rfl := Option.some.inj e; exact ⟨up h, .inl rfl⟩
  rcases io e with ⟨g, e⟩ | ⟨_, e⟩
  rotate_left
  · obtain rfl := Option.some.inj e; exact ⟨up h, .inl rfl⟩
  have g1 := q_lt g
  refine ⟨?_, .inr (by omega)⟩
  obtain ⟨_, e⟩ := io_n e
  rcases io e with ⟨_, e⟩ | ⟨_, e⟩
  · obtain ⟨x1, e1, e⟩ := bo e
    obtain ⟨_, e⟩ := io_n e
    obtain rfl := Option.some.inj e
    exact up (MG_m h (wf_Top_celebrate _ X (by decide +kernel) Fx_r e1))
  rcases io e with ⟨_, e⟩ | ⟨_, e⟩
  · obtain ⟨_, e⟩ := io_n e
    obtain ⟨x3, e3, e⟩ := bo e
    obtain ⟨_, e⟩ := io_n e
    obtain rfl := Option.some.inj e
    unfold f_Top_lasts at e3
    rcases io e3 with ⟨q, e3⟩ | ⟨_, e3⟩
    · have := q_le q
      obtain ⟨y3, ey3, e3⟩ := bo e3
      obtain rfl := Option.some.inj e3
      exact mb_mins2 hb (by omega) h ey3
    · obtain rfl := Option.some.inj e3
      exact up h
  rcases io e with ⟨_, e⟩ | ⟨_, e⟩
  · obtain ⟨_, e⟩ := io_n e
    obtain ⟨x5, e5, e⟩ := bo e
    obtain ⟨_, e⟩ := io_n e
    obtain rfl := Option.some.inj e
    exact up (MG_m h (wf_Top_give _ X (by decide +kernel) Fx_r e5))
  rcases io e with ⟨_, e⟩ | ⟨_, e⟩
  · obtain ⟨_, e⟩ := io_n e
    obtain ⟨_, e⟩ := io_n e
    obtain ⟨x7, e7, e⟩ := bo e
    have k := up (MG_m h (wf_Top_lay _ _ X (by decide +kernel) Fx_r e7))
    rcases io e with ⟨_, e⟩ | ⟨_, e⟩
    · obtain rfl := Option.some.inj e; exact k
    · obtain rfl := Option.some.inj e; exact k
  rcases io e with ⟨_, e⟩ | ⟨_, e⟩
  · obtain ⟨x10, e10, e⟩ := bo e
    obtain ⟨_, e⟩ := io_n e
    obtain rfl := Option.some.inj e
    exact up (MG_m h (wf_Top_lift X (by decide +kernel) Fx_r e10))
  · obtain rfl := Option.some.inj e; exact up h
theorem mb_evening {b : Int} {M : Mem} {x : Int32 × Mem} (hb : b ≤ 800000000) (h : MG b M) (e : f_Top_evening M = some x) : MB (b + 2000) x.2 := by
  unfold f_Top_evening at e
  obtain ⟨x1, e1, e⟩ := bo e
  obtain ⟨M2, m2, e⟩ := mo e
  have f1 : Fx mNb [] M x1.2 := wf_Acts_read M (by decide +kernel) Fx_r e1
  have g2 : MG b M2 := MG_m h (wi1 f1 m2 (by decide +kernel))
  rcases io e with ⟨_, e⟩ | ⟨_, e⟩
  rotate_left
  · obtain rfl := Option.some.inj e
    exact MB_le g2.1 (by omega)
  obtain ⟨X3, e3, e⟩ := bo e
  obtain ⟨x4, e4, e⟩ := bo e
  obtain ⟨x9, e9, e⟩ := bo e
  have g4 : MG b x4 := MG_m (MG_copy (.inr (.inl rfl)) (.inl rfl) (by omega) g2 e3) (rst_N e4)
  have g9 : MG (b + 2000) x9.2 := by
    refine it_r (I := fun s : Int32 × Int32 × Mem => ∃ i : Nat, i ≤ 33 ∧ s.2.1.toInt = (i : Int) ∧ (s.1 = s.2.1 → i ≤ 32) ∧ MG (b + 60 * (i : Int)) s.2.2) (Q := fun x : Int32 × Mem => MG (b + 2000) x.2) ?_ e9 ⟨0, by omega, rfl, fun _ => by omega, by rw [show b + 60 * ((0 : Nat) : Int) = b by omega]; exact g4⟩
    rintro ⟨d, iv, N⟩ r ⟨i, i33, hi, hd, hN⟩ e
    dsimp only at hi hd hN
    have stop : MG (b + 2000) N := ⟨MB_le hN.1 (by omega), hN.2⟩
    unfold lb_Top_evening_48 at e
    dsimp only at e
    rcases io e with ⟨_, e⟩ | ⟨_, e⟩
    · obtain rfl := Option.some.inj e; exact stop
    rcases io e with ⟨g, e⟩ | ⟨_, e⟩
    rotate_left
    · obtain rfl := Option.some.inj e; exact stop
    have i32 := hd g
    obtain ⟨x5, e5, e⟩ := bo e
    obtain ⟨k1, k2⟩ := mb_does (by omega) hN e5
    have i1 : (iv + (1 : Int32)).toInt = ((i + 1 : Nat) : Int) := add_ti hi o1 (by omega) (by omega)
    have k3 : MG (b + 60 * ((i + 1 : Nat) : Int)) x5.2 := by rw [show b + 60 * ((i + 1 : Nat) : Int) = b + 60 * (i : Int) + 60 by omega]; exact k1
    rcases io e with ⟨_, e⟩ | ⟨g5, e⟩
    · obtain rfl := Option.some.inj e
      refine ⟨i + 1, by omega, i1, fun h9 => ?_, k3⟩
      dsimp only at h9
      rw [g] at h9
      have : iv.toInt = (iv + (1 : Int32)).toInt := congrArg Int32.toInt h9
      omega
    · obtain rfl := Option.some.inj e
      refine ⟨i + 1, by omega, i1, fun _ => ?_, k3⟩
      rcases k2 with k2 | k2
      · exact absurd k2 g5
      · omega
  have fin : ∀ A : Mem, MB (b + 2000) A → j_Top_evening_90 x1.1 x9.1 A = some x → MB (b + 2000) x.2 := by
    intro A hA e
    unfold j_Top_evening_90 at e
    obtain ⟨u6, eu6, e⟩ := bo e
    have fin2 : ∀ w0 : Int32, j_Top_evening_105 x9.1 w0 u6 = some x → MB (b + 2000) x.2 := by
      intro w0 e
      unfold j_Top_evening_105 at e
      obtain ⟨u7, eu7, e⟩ := bo e
      obtain ⟨u8, eu8, e⟩ := bo e
      obtain rfl := Option.some.inj e
      exact MB_f (MB_f (MB_f hA (emp_B eu6)) (not_B eu7)) (not_B eu8)
    rcases io e with ⟨_, e⟩ | ⟨_, e⟩
    · exact fin2 _ e
    · exact fin2 _ e
  unfold j_Top_evening_75 at e
  rcases io e with ⟨_, e⟩ | ⟨_, e⟩
  · exact fin _ g9.1 e
  · obtain ⟨x14, e14, e⟩ := bo e
    exact fin x14 (mb_add g9 e14) e
theorem mb_undo {b : Int} {M : Mem} {x : Int32 × Mem} (h : MG b M) (e : f_Top_undo M = some x) : MB b x.2 := by
  obtain ⟨hb, hx, ⟨m, m12, hm⟩, hs, h6⟩ := h
  unfold f_Top_undo at e
  obtain ⟨x1, e1, e⟩ := bo e
  have k : MB b x1.2 := by
    unfold f_History_back at e1
    obtain ⟨_, e1⟩ := io_n e1
    rcases io e1 with ⟨_, e1⟩ | ⟨g, e1⟩
    · obtain rfl := Option.some.inj e1; exact hb
    have g1 := q_nl g
    have y1 := o1
    rcases io e1 with ⟨_, e1⟩ | ⟨_, e1⟩
    rotate_left
    · obtain rfl := Option.some.inj e1; exact hb
    obtain ⟨M1, m1, e1⟩ := mo e1
    obtain ⟨_, e1⟩ := io_n e1
    have hm1 : (M1.1 46 2).toInt = ((m - 1 : Nat) : Int) := by rw [m1, si_eq, sub_ti hm o1 (by omega) (by omega)]; omega
    rw [q_nat hm1] at e1
    obtain ⟨a2, ea2, e1⟩ := bo e1
    obtain ⟨_, e1⟩ := io_n e1
    obtain ⟨x3, e3, e1⟩ := bo e1
    obtain rfl := Option.some.inj e1
    obtain ⟨j, hj, hq⟩ := hx.1 (m - 1) (by omega)
    have ea2 : M.2.2 47 (m - 1) = some a2 := by rw [m1] at ea2; exact ea2
    rw [hq] at ea2
    obtain rfl := Option.some.inj ea2
    have b1 : MB b M1 := MB_f hb (fun kx hk i => by rw [m1, si_ne (by have := MBc_o hk; omega)])
    exact (mb_copy (.inl rfl) (.inr (.inr ⟨j, by omega, rfl⟩)) (by omega) b1 e3).1
  rcases io e with ⟨_, e⟩ | ⟨_, e⟩
  · obtain rfl := Option.some.inj e; exact k
  obtain ⟨x2, e2, e⟩ := bo e
  obtain rfl := Option.some.inj e
  exact MB_f k (mb_x mNb_t (lay_N e2))
theorem mb_keep {b : Int} {M : Mem} {v : Int32} {x : Int32 × Mem} (h : MG b M) (e : f_Top_keep v M = some x) : MB b x.2 := by
  obtain ⟨hb, hx, _, hs, h6⟩ := h
  have z2 := o2
  unfold f_Top_keep at e
  obtain ⟨x1, e1, e⟩ := bo e
  have k : MB b x1.2 := by
    unfold f_History_store at e1
    obtain ⟨_, e1⟩ := io_n e1
    rcases io e1 with ⟨_, e1⟩ | ⟨g, e1⟩
    · obtain rfl := Option.some.inj e1; exact hb
    have g1 := q_nl g
    have y0 := o0
    rcases io e1 with ⟨g2, e1⟩ | ⟨_, e1⟩
    rotate_left
    · obtain rfl := Option.some.inj e1; exact hb
    have g3 := q_lt g2
    obtain ⟨_, e1⟩ := io_n e1
    obtain ⟨t, ht⟩ := ti_ofn (v := v) (by omega)
    rw [q_nat ht] at e1
    obtain ⟨a1, ea1, e1⟩ := bo e1
    obtain ⟨_, e1⟩ := io_n e1
    obtain ⟨x2, e2, e1⟩ := bo e1
    obtain ⟨M3, m3, e1⟩ := mo e1
    obtain rfl := Option.some.inj e1
    rw [hs t (by omega)] at ea1
    obtain rfl := Option.some.inj ea1
    exact MB_f (mb_copy (.inr (.inr ⟨12 + t, by omega, by omega⟩)) (.inl rfl) (by omega) hb e2).1 (fun kx hk i => by rw [m3, si_ne (by have := MBc_o hk; omega)])
  obtain ⟨_, e⟩ := io_n e
  obtain rfl := Option.some.inj e
  exact k
theorem mb_again {b : Int} {M : Mem} {v : Int32} {x : Int32 × Mem} (h : MG b M) (e : f_Top_again v M = some x) : MB b x.2 := by
  obtain ⟨hb, hx, _, hs, h6⟩ := h
  have z2 := o2
  unfold f_Top_again at e
  obtain ⟨x1, e1, e⟩ := bo e
  have k : MB b x1.2 := by
    unfold f_History_restore at e1
    obtain ⟨_, e1⟩ := io_n e1
    rcases io e1 with ⟨_, e1⟩ | ⟨g, e1⟩
    · obtain rfl := Option.some.inj e1; exact hb
    have g1 := q_nl g
    have y0 := o0
    rcases io e1 with ⟨_, e1⟩ | ⟨g2, e1⟩
    · obtain rfl := Option.some.inj e1; exact hb
    have g3 := q_ng g2
    rcases io e1 with ⟨_, e1⟩ | ⟨_, e1⟩
    · obtain rfl := Option.some.inj e1; exact hb
    obtain ⟨_, e1⟩ := io_n e1
    obtain ⟨t, ht⟩ := ti_ofn (v := v) (by omega)
    rw [q_nat ht] at e1
    obtain ⟨a1, ea1, e1⟩ := bo e1
    obtain ⟨_, e1⟩ := io_n e1
    obtain ⟨x2, e2, e1⟩ := bo e1
    obtain rfl := Option.some.inj e1
    rw [hs t (by omega)] at ea1
    obtain rfl := Option.some.inj ea1
    exact (mb_copy (.inl rfl) (.inr (.inr ⟨12 + t, by omega, by omega⟩)) (by omega) hb e2).1
  rcases io e with ⟨_, e⟩ | ⟨_, e⟩
  · obtain rfl := Option.some.inj e; exact k
  obtain ⟨x2, e2, e⟩ := bo e
  obtain ⟨x3, e3, e⟩ := bo e
  obtain rfl := Option.some.inj e
  exact MB_f (MB_m k (wf_History_forget x1.2 (by decide +kernel) Fx_r e2)) (mb_x mNb_t (lay_N e3))
theorem mb_town {b : Int} {M : Mem} {x : Int32 × Mem} (b0 : 0 ≤ b) (h : MB b M) (e : f_Top_town M = some x) : MB b x.2 := by
  unfold f_Top_town at e
  obtain ⟨x1, e1, e⟩ := bo e
  obtain ⟨M2, m2, e⟩ := mo e
  have f1 : Fx mB [] M x1.2 := wf_Ground_read M (by decide +kernel) Fx_r e1
  have g2 : MB b M2 := MB_m h (wi1 f1 m2 (by decide +kernel))
  rcases io e with ⟨_, e⟩ | ⟨_, e⟩
  rotate_left
  · obtain rfl := Option.some.inj e; exact g2
  obtain ⟨x3, e3, e⟩ := bo e
  obtain ⟨x4, e4, e⟩ := bo e
  obtain ⟨x5, e5, e⟩ := bo e
  obtain ⟨M6, m6, e⟩ := mo e
  obtain ⟨x7, e7, e⟩ := bo e
  obtain rfl := Option.some.inj e
  have g3 : MB b x3 := MB_m g2 (wf_Crowd_clear M2 (by decide +kernel) Fx_r e3)
  have f4 : Fx 63488 [] x3 x4 := wf_Scene_clear 11 x3 (by decide +kernel) (oc_c (sb_r _) (by decide +kernel)) (oc_c (sb_r _) (by decide +kernel)) (oc_c (sb_r _) (by decide +kernel)) (oc_c (sb_r _) (by decide +kernel)) (oc_c (sb_r _) (by decide +kernel)) Fx_r e4
  have c15 := (clr_i e4).1
  have rest : (mbl.all fun s => s == 15 || !Nat.testBit 63488 s) = true := by decide +kernel
  have g4 : MB b x4 := by
    intro kx hk i hi
    by_cases q : kx = 15
    · subst q
      rw [c15 i hi]
      exact ⟨by decide, by have : (0 : Int32).toInt = 0 := rfl; omega⟩
    · have m := MBc_l hk
      have hp := List.all_eq_true.mp mb_pl kx m
      have ht := List.all_eq_true.mp rest kx m
      rw [Bool.or_eq_true] at ht
      have ht2 : Nat.testBit 63488 kx = false := by
        rcases ht with ht | ht
        · exact absurd (by simpa using ht) q
        · simpa using ht
      rw [(f4 kx i (by rw [sl_pl hp]; exact ht2) (by simp)).1]
      exact g3 kx hk i hi
  have g5 : MB b x5 := MB_m g4 (wf_History_clear x4 (by decide +kernel) Fx_r e5)
  have g6 : MB b M6 := MB_f g5 (fun kx hk i => by rw [m6, si_ne (by have := MBc_o hk; omega)])
  exact MB_f g6 (mb_x mNb_t (lay_N e7))
end
section
/-! count: MEETINGS of all -/
def sMm (f : Nat → Int) : Nat → Int
  | 0 => 0
  | k + 1 => sMm f k + f k
theorem sm_b {f : Nat → Int} {b : Int} {k : Nat} (h : ∀ i, i < k → 0 ≤ f i ∧ f i ≤ b) : 0 ≤ sMm f k ∧ sMm f k ≤ (k : Int) * b := by
  induction k with
  | zero => exact ⟨Int.le_refl _, by show (0 : Int) ≤ ((0 : Nat) : Int) * b; rw [Int.natCast_zero, Int.zero_mul]; exact Int.le_refl _⟩
  | succ k ih =>
    have i := ih (fun i hi => h i (by omega))
    have j := h k (by omega)
    refine ⟨by show 0 ≤ sMm f k + f k; omega, ?_⟩
    show sMm f k + f k ≤ _
    rw [show ((k + 1 : Nat) : Int) = (k : Int) + 1 by omega, Int.add_mul, Int.one_mul]
    omega
theorem sm_c {f g : Nat → Int} {k : Nat} (h : ∀ i, i < k → f i = g i) : sMm f k = sMm g k := by
  induction k with
  | zero => rfl
  | succ k ih => show sMm f k + f k = sMm g k + g k; rw [ih (fun i hi => h i (by omega)), h k (by omega)]
theorem sm_a (f g : Nat → Int) (k : Nat) : sMm (fun i => f i + g i) k = sMm f k + sMm g k := by
  induction k with
  | zero => rfl
  | succ k ih => show sMm _ k + (f k + g k) = (sMm f k + f k) + (sMm g k + g k); rw [ih]; omega
theorem sm_0 {f : Nat → Int} {k : Nat} (h : ∀ i, i < k → f i = 0) : sMm f k = 0 := by
  induction k with
  | zero => rfl
  | succ k ih => show sMm f k + f k = 0; rw [ih (fun i hi => h i (by omega)), h k (by omega)]; rfl
theorem sm_p (f : Nat → Int) (a b : Nat) : sMm f (a + b) = sMm f a + sMm (fun i => f (a + i)) b := by
  induction b with
  | zero => show sMm f a = sMm f a + 0; omega
  | succ b ih => show sMm f (a + b) + f (a + b) = sMm f a + (sMm _ b + f (a + b)); rw [ih]; omega
theorem sm_s (f : Nat → Nat → Int) (a b : Nat) : sMm (fun p => sMm (fun q => f p q) b) a = sMm (fun q => sMm (fun p => f p q) a) b := by
  induction a with
  | zero => exact (sm_0 (fun i _ => rfl)).symm
  | succ a ih =>
    show sMm (fun p => sMm (fun q => f p q) b) a + sMm (fun q => f a q) b = sMm (fun q => sMm (fun p => f p q) a + f a q) b
    rw [ih, sm_a]
theorem sm_f (F : Nat → Int) (k : Nat) : sMm (fun p => sMm (fun q => F (8 * p + q)) 8) k = sMm F (8 * k) := by
  induction k with
  | zero => rfl
  | succ k ih =>
    show sMm _ k + sMm (fun q => F (8 * k + q)) 8 = _
    rw [ih, show 8 * (k + 1) = 8 * k + 8 by omega, sm_p]
/-- pairs of n of eight, both ways: twice the sum of all -/
theorem sm_2 {F : Nat → Int} {n : Nat} (n8 : n ≤ 8) (h0 : ∀ p q, p < 8 → q < 8 → (n ≤ p ∨ n ≤ q) → F (8 * p + q) = 0) : sMm (fun p => sMm (fun q => F (8 * p + q) + F (8 * q + p)) n) n = 2 * sMm F 64 := by
  have row : ∀ p, p < 8 → sMm (fun q => F (8 * p + q)) 8 = sMm (fun q => F (8 * p + q)) n := fun p hp => by
    rw [show (8 : Nat) = n + (8 - n) by omega, sm_p, sm_0 (k := 8 - n) (fun i hi => ?_)]
    · rw [show n + (8 - n) = 8 by omega]; omega
    · rw [show n + (8 - n) = 8 by omega]; exact h0 p (n + i) hp (by omega) (.inr (by omega))
  have one : sMm F 64 = sMm (fun p => sMm (fun q => F (8 * p + q)) n) n := by
    rw [show (64 : Nat) = 8 * 8 from rfl, ← sm_f, sm_c row]
    have : sMm (fun p => sMm (fun q => F (8 * p + q)) n) (n + (8 - n)) = sMm (fun p => sMm (fun q => F (8 * p + q)) n) n := by
      rw [sm_p, sm_0 (k := 8 - n) (fun i hi => sm_0 (fun q hq => h0 (n + i) q (by omega) (by omega) (.inl (by omega))))]
      omega
    rw [show n + (8 - n) = 8 by omega] at this
    exact this
  have e : sMm (fun p => sMm (fun q => F (8 * p + q) + F (8 * q + p)) n) n = sMm (fun p => sMm (fun q => F (8 * p + q)) n) n + sMm (fun p => sMm (fun q => F (8 * q + p)) n) n := by
    rw [← sm_a]
    exact sm_c (fun p _ => sm_a _ _ n)
  rw [e, sm_s (fun p q => F (8 * q + p)) n n, ← one]
  omega
theorem all_c {M : Mem} {b : Int} {x : Int32} (hb : b ≤ 10000000) (h : ∀ i, i < 64 → 0 ≤ (M.1 15 i).toInt ∧ (M.1 15 i).toInt ≤ b) (e : f_Scene_allMeetings 11 M = some x) : x.toInt = sMm (fun i => (M.1 15 i).toInt) 64 := by
  have k64 : (64 : Int32).toInt = 64 := rfl
  have r3 : rf 11 3 = 15 := by decide +kernel
  unfold f_Scene_allMeetings at e
  obtain ⟨_, e⟩ := io_n e
  obtain ⟨x2, e2, e⟩ := bo e
  obtain rfl := Option.some.inj e
  refine it_r (I := fun s : Int32 × Int32 => ∃ k : Nat, k ≤ 64 ∧ s.2.toInt = (k : Int) ∧ s.1.toInt = sMm (fun i => (M.1 15 i).toInt) k) (Q := fun x : Int32 => x.toInt = sMm (fun i => (M.1 15 i).toInt) 64) ?_ e2 ⟨0, by omega, rfl, rfl⟩
  rintro ⟨sv, iv⟩ r ⟨k, k64', hk, hs⟩ e
  dsimp only at hk hs
  unfold lb_Scene_allMeetings_4 at e
  dsimp only at e
  rw [r3] at e
  rcases io e with ⟨g, e⟩ | ⟨g, e⟩
  · have := q_le g
    obtain rfl := Option.some.inj e
    have : k = 64 := by omega
    subst this
    exact hs
  have g1 := q_ng g
  obtain ⟨_, e⟩ := io_n e
  obtain rfl := Option.some.inj e
  rw [q_nat hk]
  have B := sm_b (f := fun i => (M.1 15 i).toInt) (b := b) (k := k) (fun i hi => h i (by omega))
  have C := h k (by omega)
  have kb : (k : Int) * b ≤ 64 * b := Int.mul_le_mul_of_nonneg_right (by omega) (by omega)
  refine ⟨k + 1, by omega, add_ti hk o1 (by omega) (by omega), ?_⟩
  show (sv + M.1 15 k).toInt = sMm (fun i => (M.1 15 i).toInt) k + (M.1 15 k).toInt
  exact add_ti hs rfl (by omega) (by omega)
theorem of_r {R : Mem} {b : Int} {n p : Nat} {v x : Int32} (n8 : n ≤ 8) (hn : (R.1 162 4).toInt = (n : Int)) (hv : v.toInt = (p : Int)) (pn : p < n) (hb : b ≤ 20000000) (h : ∀ q, q < n → 0 ≤ (R.1 163 (16 + 8 * p + q)).toInt ∧ (R.1 163 (16 + 8 * p + q)).toInt ≤ b) (e : f_Mod_meetingsOf v R = some x) : x.toInt = sMm (fun q => (R.1 163 (16 + 8 * p + q)).toInt) n := by
  have z16 : (16 : Int32).toInt = 16 := rfl
  have z8 : (8 : Int32).toInt = 8 := rfl
  unfold f_Mod_meetingsOf at e
  obtain ⟨x2, e2, e⟩ := bo e
  obtain rfl := Option.some.inj e
  refine it_r (I := fun s : Int32 × Int32 => ∃ k : Nat, k ≤ n ∧ s.2.toInt = (k : Int) ∧ s.1.toInt = sMm (fun q => (R.1 163 (16 + 8 * p + q)).toInt) k) (Q := fun x : Int32 => x.toInt = sMm (fun q => (R.1 163 (16 + 8 * p + q)).toInt) n) ?_ e2 ⟨0, by omega, rfl, rfl⟩
  rintro ⟨sv, iv⟩ r ⟨k, kn, hk, hs⟩ e
  dsimp only at hk hs
  unfold lb_Mod_meetingsOf_4 at e
  dsimp only at e
  rcases io e with ⟨g, e⟩ | ⟨g, e⟩
  · have := q_le g
    obtain rfl := Option.some.inj e
    have : k = n := by omega
    subst this
    exact hs
  have g1 := q_ng g
  obtain ⟨_, e⟩ := io_n e
  obtain rfl := Option.some.inj e
  have ix : (((16 : Int32) + (8 : Int32) * v) + iv).toInt = ((16 + 8 * p + k : Nat) : Int) := by
    have a1 : ((8 : Int32) * v).toInt = 8 * (p : Int) := mul_ti z8 hv (by omega) (by omega)
    rw [add_ti (add_ti z16 a1 (by omega) (by omega)) hk (by omega) (by omega)]; omega
  rw [q_nat ix]
  have B := sm_b (f := fun q => (R.1 163 (16 + 8 * p + q)).toInt) (b := b) (k := k) (fun i hi => h i (by omega))
  have C := h k (by omega)
  have kb : (k : Int) * b ≤ 8 * b := Int.mul_le_mul_of_nonneg_right (by omega) (by omega)
  refine ⟨k + 1, by omega, add_ti hk o1 (by omega) (by omega), ?_⟩
  show (sv + R.1 163 (16 + 8 * p + k)).toInt = sMm (fun q => (R.1 163 (16 + 8 * p + q)).toInt) k + (R.1 163 (16 + 8 * p + k)).toInt
  exact add_ti hs rfl (by omega) (by omega)
theorem all_r {R : Mem} {b : Int} {n : Nat} {x : Int32} (n8 : n ≤ 8) (hn : (R.1 162 4).toInt = (n : Int)) (hb : b ≤ 20000000) (h : ∀ p q, p < n → q < n → 0 ≤ (R.1 163 (16 + 8 * p + q)).toInt ∧ (R.1 163 (16 + 8 * p + q)).toInt ≤ b) (e : iter (lb_Mod_count_130 R) FU ((0 : Int32), (0 : Int32)) = some x) : x.toInt = sMm (fun p => sMm (fun q => (R.1 163 (16 + 8 * p + q)).toInt) n) n := by
  refine it_r (I := fun s : Int32 × Int32 => ∃ k : Nat, k ≤ n ∧ s.2.toInt = (k : Int) ∧ s.1.toInt = sMm (fun p => sMm (fun q => (R.1 163 (16 + 8 * p + q)).toInt) n) k) (Q := fun x : Int32 => x.toInt = sMm (fun p => sMm (fun q => (R.1 163 (16 + 8 * p + q)).toInt) n) n) ?_ e ⟨0, by omega, rfl, rfl⟩
  rintro ⟨sv, iv⟩ r ⟨k, kn, hk, hs⟩ e
  dsimp only at hk hs
  unfold lb_Mod_count_130 at e
  dsimp only at e
  rcases io e with ⟨g, e⟩ | ⟨g, e⟩
  · have := q_le g
    obtain rfl := Option.some.inj e
    have : k = n := by omega
    subst this
    exact hs
  have g1 := q_ng g
  obtain ⟨x11, e11, e⟩ := bo e
  obtain rfl := Option.some.inj e
  have row : ∀ p, p < n → 0 ≤ sMm (fun q => (R.1 163 (16 + 8 * p + q)).toInt) n ∧ sMm (fun q => (R.1 163 (16 + 8 * p + q)).toInt) n ≤ 8 * b := fun p hp => by
    have B := sm_b (f := fun q => (R.1 163 (16 + 8 * p + q)).toInt) (b := b) (k := n) (fun i hi => h p i hp hi)
    have C := h p p hp hp
    have kb : (n : Int) * b ≤ 8 * b := Int.mul_le_mul_of_nonneg_right (by omega) (by omega)
    exact ⟨B.1, by omega⟩
  have h11 := of_r n8 hn hk (by omega) hb (fun q hq => h k q (by omega) hq) e11
  have B := sm_b (f := fun p => sMm (fun q => (R.1 163 (16 + 8 * p + q)).toInt) n) (b := 8 * b) (k := k) (fun i hi => row i (by omega))
  have C := row k (by omega)
  have kb : (k : Int) * (8 * b) ≤ 8 * (8 * b) := Int.mul_le_mul_of_nonneg_right (by omega) (by omega)
  refine ⟨k + 1, by omega, add_ti hk o1 (by omega) (by omega), ?_⟩
  show (sv + x11).toInt = sMm (fun p => sMm (fun q => (R.1 163 (16 + 8 * p + q)).toInt) n) k + sMm (fun q => (R.1 163 (16 + 8 * k + q)).toInt) n
  exact add_ti hs h11 (by omega) (by omega)
def IZ (n : Int) (M : Mem) : Prop := IX n M ∧ MB (2000 * n) M
theorem IZ_up {n : Int} {M : Mem} (h : IZ n M) : IZ (n + 1) M := ⟨IX_up h.1, MB_le h.2 (by omega)⟩
theorem MB_M0 : MB 0 M0 := by
  have k : ∀ s ∈ mbl, ∀ i : Fin 64, M0.1 s i.val = 0 := by decide +kernel
  intro kx hk i hi
  rw [k kx (MBc_l hk) ⟨i, hi⟩]
  exact ⟨by decide, by decide⟩
theorem IZ_0 (h : Inv 0 M0) : IZ 0 M0 := ⟨IX_0 h, MB_M0⟩
theorem IZ_n {n : Int} {M : Mem} (h : IZ n M) : 0 ≤ n := by
  have := h.1.1.1.1.1.1.2.2
  omega
theorem IZ_g {n : Int} {M : Mem} (h : IZ n M) : MG (2000 * n) M := by
  obtain ⟨m, z⟩ := h.1.1.1.2
  exact MG_za z h.2
theorem count_q {n : Int} {M : Mem} {v x : Int32} {r : Int32 × Mem} (hn : n ≤ 2566) (h : IZ n M) (ex : f_Top_count v M = some x) (er : f_Mod_count v M = some r) : x = r.1 := by
  have n0 := IZ_n h
  obtain ⟨m, za⟩ := h.1.1.1.2
  have RLh := h.1.1.1.1.2
  have tl : M.1 1 1 = M.1 162 10 := h.1.1.1.1.1.2
  obtain ⟨rk, rk10, rr1, rr2, rr3⟩ := h.1.2
  obtain ⟨⟨n8, jM, ⟨zg, zc, _⟩, zs, zv, _⟩, ⟨_, um, _, u1, u2, _⟩, _⟩ := za
  have wh := awh jM
  unfold f_Mod_count at er
  obtain ⟨M1, m1, er⟩ := mo er
  have f1 : ∀ kx i, ¬ (kx = 162 ∧ i = 13) → M1.1 kx i = M.1 kx i := fun kx i w => by rw [m1, si_ne w]
  unfold f_Top_count at ex
  rcases io ex with ⟨g, ex⟩ | ⟨g, ex⟩
  · rw [if_pos g] at er
    obtain ⟨x2, e2, er⟩ := bo er
    obtain rfl := Option.some.inj ex
    obtain rfl := Option.some.inj er
    unfold f_Mod_cells at e2
    obtain rfl := Option.some.inj e2
    refine Int32.toInt_inj.mp ?_
    show (M.1 3 3).toInt = (M1.1 162 2 * M1.1 162 3).toInt
    rw [f1 162 2 (by omega), f1 162 3 (by omega), wh_ti jM, zg.2.1]
  rw [if_neg g] at er
  rcases io ex with ⟨g, ex⟩ | ⟨g, ex⟩
  · rw [if_pos g] at er
    obtain rfl := Option.some.inj ex
    obtain rfl := Option.some.inj er
    refine Int32.toInt_inj.mp ?_
    show (M.1 3 2).toInt = (M1.1 162 2).toInt
    rw [f1 162 2 (by omega), zg.1]
  rw [if_neg g] at er
  rcases io ex with ⟨g, ex⟩ | ⟨g, ex⟩
  · rw [if_pos g] at er
    obtain rfl := Option.some.inj ex
    obtain rfl := Option.some.inj er
    show M.1 6 4 = M1.1 162 4
    rw [f1 162 4 (by omega)]; exact zc.2.1
  rw [if_neg g] at er
  rcases io ex with ⟨g, ex⟩ | ⟨g, ex⟩
  · rw [if_pos g] at er
    obtain rfl := Option.some.inj ex
    obtain rfl := Option.some.inj er
    show M.1 11 7 = M1.1 163 95
    rw [f1 163 95 (by omega)]; exact zs.2.2.2.2.2.1
  rw [if_neg g] at er
  rcases io ex with ⟨g, ex⟩ | ⟨g, ex⟩
  · rw [if_pos g] at er
    obtain rfl := Option.some.inj ex
    obtain rfl := Option.some.inj er
    show M.1 11 6 = M1.1 163 92
    rw [f1 163 92 (by omega)]; exact zs.2.2.2.1
  rw [if_neg g] at er
  rcases io ex with ⟨g, ex⟩ | ⟨g, ex⟩
  · rw [if_pos g] at er
    obtain rfl := Option.some.inj ex
    obtain rfl := Option.some.inj er
    show M.1 6 5 = M1.1 162 5
    rw [f1 162 5 (by omega)]; exact zc.2.2.1
  rw [if_neg g] at er
  rcases io ex with ⟨g, ex⟩ | ⟨g, ex⟩
  · rw [if_pos g] at er
    obtain rfl := Option.some.inj ex
    obtain rfl := Option.some.inj er
    show M.1 11 8 = M1.1 163 93
    rw [f1 163 93 (by omega)]; exact zs.2.2.2.2.2.2.1
  rw [if_neg g] at er
  rcases io ex with ⟨g, ex⟩ | ⟨g, ex⟩
  · rw [if_pos g] at er
    obtain rfl := Option.some.inj ex
    obtain rfl := Option.some.inj er
    show M.1 11 9 = M1.1 163 94
    rw [f1 163 94 (by omega)]; exact zs.2.2.2.2.2.2.2
  rw [if_neg g] at er
  rcases io ex with ⟨g, ex⟩ | ⟨g, ex⟩
  · rw [if_pos g] at er
    obtain ⟨x9, e9, ex⟩ := bo ex
    obtain ⟨x13, e13, er⟩ := bo er
    obtain rfl := Option.some.inj ex
    obtain rfl := Option.some.inj er
    have F : ∀ i, i < 64 → 0 ≤ (M.1 15 i).toInt ∧ (M.1 15 i).toInt ≤ 2000 * n := h.2 15 (.inl rfl)
    have C := all_c (b := 2000 * n) (by omega) F e9
    have G : ∀ p q, p < m → q < m → (M1.1 163 (16 + 8 * p + q)).toInt = (M.1 15 (8 * p + q)).toInt + (M.1 15 (8 * q + p)).toInt := by
      intro p q hp hq
      have e : M.1 163 (16 + 8 * p + q) = M.1 15 (8 * p + q) + M.1 15 (8 * q + p) := zs.2.1 p q hp hq
      have a1 := F (8 * p + q) (by omega)
      have a2 := F (8 * q + p) (by omega)
      rw [f1 163 _ (by omega), e]
      exact add_ti rfl rfl (by omega) (by omega)
    have D := all_r (b := 4000 * n) n8 (by rw [f1 162 4 (by omega)]; exact zc.1) (by omega) (fun p q hp hq => by
      rw [G p q hp hq]
      have a1 := F (8 * p + q) (by omega)
      have a2 := F (8 * q + p) (by omega)
      omega) e13
    have S : sMm (fun p => sMm (fun q => (M1.1 163 (16 + 8 * p + q)).toInt) m) m = 2 * sMm (fun i => (M.1 15 i).toInt) 64 := by
      rw [← sm_2 (F := fun i => (M.1 15 i).toInt) n8 (fun p q hp hq w => by
        have e : M.1 15 (8 * p + q) = 0 := zs.2.2.1 p q hp hq w
        show (M.1 15 (8 * p + q)).toInt = 0
        rw [e]; rfl)]
      exact sm_c (fun p hp => sm_c (fun q hq => G p q hp hq))
    have B := sm_b (f := fun i => (M.1 15 i).toInt) (b := 2000 * n) (k := 64) F
    have z2 := o2
    refine Int32.toInt_inj.mp ?_
    show x9.toInt = (x13 / (2 : Int32)).toInt
    rw [S] at D
    rw [div_ti D z2 (by omega) (by omega), C]
    omega
  rw [if_neg g] at er
  rcases io ex with ⟨g, ex⟩ | ⟨g, ex⟩
  · rw [if_pos g] at er
    obtain rfl := Option.some.inj ex
    obtain rfl := Option.some.inj er
    show M.1 0 16 = M1.1 162 8
    rw [f1 162 8 (by omega)]; exact RLh.2.2
  rw [if_neg g] at er
  rcases io ex with ⟨g, ex⟩ | ⟨g, ex⟩
  · rw [if_pos g] at er
    obtain rfl := Option.some.inj ex
    obtain rfl := Option.some.inj er
    refine Int32.toInt_inj.mp ?_
    show (M.1 46 2).toInt = (M1.1 162 27).toInt
    rw [f1 162 27 (by omega), u1, u2]
  rw [if_neg g] at er
  rcases io ex with ⟨g, ex⟩ | ⟨g, ex⟩
  · rw [if_pos g] at er
    obtain rfl := Option.some.inj ex
    obtain rfl := Option.some.inj er
    refine Int32.toInt_inj.mp ?_
    show (M.1 0 15).toInt = (M1.1 162 12).toInt
    rw [f1 162 12 (by omega), rr1, rr2]
  rw [if_neg g] at er
  rcases io ex with ⟨g, ex⟩ | ⟨g, ex⟩
  · rw [if_pos g] at er
    obtain rfl := Option.some.inj ex
    obtain rfl := Option.some.inj er
    show M.1 1 1 = M1.1 162 10
    rw [f1 162 10 (by omega)]; exact tl
  rw [if_neg g] at er
  obtain rfl := Option.some.inj ex
  obtain rfl := Option.some.inj er
  rfl
end
