/-! the row told last, asked for; the invariant with the row -/
def mR4 : Nat := 2 ^ 400 - 1 - 2 ^ sl 0 15 - 2 ^ 161 - 2 ^ 212 - 2 ^ 168
def mR2 : Nat := 2 ^ 400 - 1 - 2 ^ sl 0 15 - 2 ^ 161
theorem RRx_B {x r : Mem} (fr : Fx mR2 [] x r) (h : RR x r) : RR r r :=
  RR_f (fr 0 15 (by decide +kernel) (by simp)).1 (fun i => (fr 161 i (by rw [show sl 161 i = 161 from rfl]; decide +kernel) (by simp)).1) rfl (fun _ => rfl) h
theorem RRx_A {M x r : Mem} (fx : Fx mR4 [] M x) (fr : Fx mR4 [] x r) (h : RR M M) : RR r r :=
  RR_f ((fr 0 15 (by decide +kernel) (by simp)).1.trans (fx 0 15 (by decide +kernel) (by simp)).1) (fun i => (fr 161 i (by rw [show sl 161 i = 161 from rfl]; decide +kernel) (by simp)).1.trans (fx 161 i (by rw [show sl 161 i = 161 from rfl]; decide +kernel) (by simp)).1) ((fr 162 12 (by decide +kernel) (by simp)).1.trans (fx 162 12 (by decide +kernel) (by simp)).1) (fun i => (fr 168 i (by rw [show sl 168 i = 168 from rfl]; decide +kernel) (by simp)).1.trans (fx 168 i (by rw [show sl 168 i = 168 from rfl]; decide +kernel) (by simp)).1) h
theorem hv_1 (y : Option Int32) (M : Mem) : (hv y M).2.1 = M.1 := by
  cases y with
  | none => rfl
  | some r => rfl
/-- a call of the law's own: only the long in cell 192 is another -/
theorem RRx_L {M N x r : Mem} (h1 : x.1 = N.1) (fx : Fx mR4 [] M N) (fr : Fx mR4 [] x r) (h : RR M M) : RR r r :=
  RR_f ((fr 0 15 (by decide +kernel) (by simp)).1.trans (by rw [h1]; exact (fx 0 15 (by decide +kernel) (by simp)).1)) (fun i => (fr 161 i (by rw [show sl 161 i = 161 from rfl]; decide +kernel) (by simp)).1.trans (by rw [h1]; exact (fx 161 i (by rw [show sl 161 i = 161 from rfl]; decide +kernel) (by simp)).1)) ((fr 162 12 (by decide +kernel) (by simp)).1.trans (by rw [h1]; exact (fx 162 12 (by decide +kernel) (by simp)).1)) (fun i => (fr 168 i (by rw [show sl 168 i = 168 from rfl]; decide +kernel) (by simp)).1.trans (by rw [h1]; exact (fx 168 i (by rw [show sl 168 i = 168 from rfl]; decide +kernel) (by simp)).1)) h
theorem RR_g {M x : Mem} (g : ∀ kx i, 162 ≤ kx → x.1 kx i = M.1 kx i) (h : RR M M) : RR M x :=
  RR_f rfl (fun _ => rfl) (g 162 12 (by decide)) (fun i => g 168 i (by decide)) h
def IX (n : Int) (M : Mem) : Prop := IY n M ∧ RR M M
theorem IX_up {n : Int} {M : Mem} (h : IX n M) : IX (n + 1) M := ⟨IY_up h.1, h.2⟩
theorem RR_M0 : RR M0 M0 := ⟨0, by omega, by decide +kernel, by decide +kernel, fun i h => absurd h (by omega)⟩
theorem IX_0 (h : Inv 0 M0) : IX 0 M0 := ⟨IY_0 h, RR_M0⟩
theorem row_q {X R : Mem} {a : Int32} {y : Option Int32} {r : Int32 × Mem} (hr : RR X R) (ey : f_Top_row a X = some y) (er : f_Mod_row a R = some r) : LwA y r := by
  obtain ⟨k, k10, h1, h2, h3⟩ := hr
  have z0 := o0
  have z10 : (10 : Int32).toInt = 10 := rfl
  unfold f_Mod_row at er
  obtain ⟨M1, m1, er⟩ := mo er
  have f1 : ∀ kx i, ¬ (kx = 162 ∧ i = 13) → M1.1 kx i = R.1 kx i := fun kx i h => by rw [m1, si_ne h]
  have h13 : M1.1 162 13 = 0 := by rw [m1, si_eq]
  obtain ⟨x2, ex2, er⟩ := bo er
  have hin := some_of (sp_in a 0 ((M1.1 162 12) - (1 : Int32))) ex2
  rw [o0, f1 162 12 (by omega), sub_ti h2 o1 (by omega) (by omega)] at hin
  have out : ¬ (0 ≤ a.toInt ∧ a.toInt ≤ (k : Int) - 1) → y = none → LwA y r := by
    intro hn hy
    rcases hin with ⟨_, h⟩ | ⟨h, _⟩
    · exact absurd h hn
    rw [h, if_pos rfl] at er
    obtain ⟨x3, e3, er⟩ := bo er
    obtain rfl := Option.some.inj er
    unfold f_Mod_lost at e3
    obtain ⟨M3, m3, e3⟩ := mo e3
    obtain rfl := Option.some.inj e3
    exact .inl ⟨hy, by show M3.1 162 13 = 1; rw [m3, si_eq]⟩
  unfold f_Top_row at ey
  rcases io ey with ⟨g, ey⟩ | ⟨g, ey⟩
  · have := q_lt g
    exact out (by omega) (Option.some.inj ey).symm
  have g1 := q_nl g
  rcases io ey with ⟨g, ey⟩ | ⟨g, ey⟩
  · have := q_le g
    exact out (by omega) (Option.some.inj ey).symm
  have g2 := q_ng g
  rcases io ey with ⟨g, ey⟩ | ⟨g, _⟩
  rotate_left
  · have := q_nl g; omega
  obtain ⟨_, ey⟩ := io_n ey
  rcases hin with ⟨h, _⟩ | ⟨_, h⟩
  rotate_left
  · exact absurd ⟨by omega, by omega⟩ h
  rw [h, if_neg (by decide)] at er
  obtain ⟨_, er⟩ := io_n er
  obtain rfl := Option.some.inj er
  obtain ⟨i, hi⟩ := ti_ofn (v := a) (by omega)
  refine .inr ⟨?_, h13⟩
  rw [← Option.some.inj ey, q_nat hi, f1 168 i (by omega), h3 i (by omega)]
theorem lwe_row {M : Mem} {a : Int32} {x r : Int32 × Mem} (h : RR M M) (ex : f_Lw_row a M = some x) (er : f_Mod_row a x.2 = some r) (fr : r.2.2.1 192 0 = x.2.2.1 192 0) : LwE x.1 x.2 r := by
  unfold f_Lw_row at ex
  obtain ⟨y, ey, ex⟩ := bo ex
  obtain rfl := Option.some.inj ex
  refine lwe_of (row_q (RR_f rfl (fun _ => rfl) ?_ (fun i => ?_) h) ey er) fr
  · rw [hv_1]
  · rw [hv_1]
