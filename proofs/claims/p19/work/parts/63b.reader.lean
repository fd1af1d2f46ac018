/-! the reference's reader -/
def okC (C : Nat) : Bool := !C.testBit 214 && !C.testBit 215 && !C.testBit 216 && !C.testBit 167 && !C.testBit 172
def Rd (t : Nat → Int) (N : Mem) : Prop := ∃ b, N.2.2 162 14 = some b ∧ (b = 167 ∨ b = 172) ∧ (N.1 162 15).toInt ≤ 80 ∧ ∀ p : Nat, t p = (if (p : Int) < (N.1 162 15).toInt ∧ (p : Int) < (N.1 162 16).toInt then (N.1 b p).toInt % 256 else -1) ∧ ((p : Int) < (N.1 162 15).toInt → (p : Int) < (N.1 162 16).toInt → -128 ≤ (N.1 b p).toInt ∧ (N.1 b p).toInt ≤ 127)
theorem Rd_fx {C : Nat} {B N : Mem} {t : Nat → Int} (hC : okC C = true) (fx : Fx C [] B N) (h : Rd t B) : Rd t N := by
  simp only [okC, Bool.and_eq_true, Bool.not_eq_true'] at hC
  obtain ⟨⟨⟨⟨c1, c2⟩, c3⟩, c4⟩, c5⟩ := hC
  obtain ⟨b, h1, h2, h3, h4⟩ := h
  have f14 := (fx 162 14 c1 (by simp)).2.2
  have f15 := (fx 162 15 c2 (by simp)).1
  have f16 := (fx 162 16 c3 (by simp)).1
  have fb : ∀ p, N.1 b p = B.1 b p := by
    intro p
    rcases h2 with rfl | rfl
    · exact (fx 167 p c4 (by simp)).1
    · exact (fx 172 p c5 (by simp)).1
  refine ⟨b, by rw [f14]; exact h1, h2, by rw [f15]; exact h3, fun p => ?_⟩
  rw [f15, f16, fb]; exact h4 p
theorem Rd_rng {t : Nat → Int} {N : Mem} (h : Rd t N) (p : Nat) : -1 ≤ t p ∧ t p ≤ 255 ∧ (t p ≠ -1 → p < 80) := by
  obtain ⟨b, h1, h2, h3, h4⟩ := h
  have := (h4 p).1
  split at this <;> omega
theorem here_i {t : Nat → Int} {N : Mem} (h : Rd t N) {p : Nat} (hp : (N.1 162 17).toInt = (p : Int)) {x : Int32} (e : f_Mod_here N = some x) : (t p = x.toInt ∧ -1 ≤ x.toInt ∧ x.toInt ≤ 127) ∨ (x.toInt < 0 ∧ 128 ≤ t p) := by
  obtain ⟨b, h1, h2, h3, h4⟩ := h
  obtain ⟨h4, h5⟩ := h4 p
  unfold f_Mod_here at e
  have zm : (-1 : Int32).toInt = -1 := rfl
  rcases io e with ⟨c, e⟩ | ⟨c, e⟩
  · have := q_le c
    obtain rfl := Option.some.inj e
    rw [if_neg (by omega)] at h4
    exact .inl ⟨h4, by omega, by omega⟩
  have c1 := q_ng c
  rcases io e with ⟨c, e⟩ | ⟨c, e⟩
  · have := q_le c
    obtain rfl := Option.some.inj e
    rw [if_neg (by omega)] at h4
    exact .inl ⟨h4, by omega, by omega⟩
  have c2 := q_ng c
  obtain ⟨a, ea, e⟩ := bo e
  rw [h1] at ea
  obtain rfl := Option.some.inj ea
  obtain ⟨_, e⟩ := io_n e
  obtain ⟨_, e⟩ := io_n e
  obtain rfl := Option.some.inj e
  rw [if_pos (by omega)] at h4
  have h5 := h5 (by omega) (by omega)
  rw [q_nat hp]
  omega
theorem here_c {t : Nat → Int} {N : Mem} (h : Rd t N) {p : Nat} (hp : (N.1 162 17).toInt = (p : Int)) {x c : Int32} (e : f_Mod_here N = some x) (c0 : 0 ≤ c.toInt) (c1 : c.toInt ≤ 127) : x = c ↔ t p = c.toInt := by
  have k := here_i h hp e
  constructor
  · intro h; subst h; omega
  · intro h; exact Int32.toInt_inj.mp (by omega)
theorem passes_i {t : Nat → Int} {N : Mem} (h : Rd t N) {p : Nat} (hp : (N.1 162 17).toInt = (p : Int)) (hw : (N.1 162 18).toInt = -1) {c : Int32} (c0 : 0 ≤ c.toInt) (c1 : c.toInt ≤ 127) {x : Int32 × Mem} (e : f_Mod_passes c N = some x) : (t p = c.toInt ∧ ¬ x.1 = 0 ∧ (x.2.1 162 17).toInt = ((p + 1 : Nat) : Int) ∧ (x.2.1 162 18).toInt = -1) ∨ (t p ≠ c.toInt ∧ x.1 = 0 ∧ x.2 = N) := by
  unfold f_Mod_passes at e
  obtain ⟨x1, e1, e⟩ := bo e
  rcases fine_i e1 with ⟨_, b⟩ | ⟨a, _⟩
  · exact absurd hw b
  rw [a, if_neg (by decide)] at e
  obtain ⟨x2, e2, e⟩ := bo e
  have k := here_c h hp e2 c0 c1
  rcases io e with ⟨c, e⟩ | ⟨c, e⟩
  · obtain ⟨M3, e3, e⟩ := mo e
    obtain rfl := Option.some.inj e
    have tp := k.mp c
    have := (Rd_rng h p).2.2 (by omega)
    refine .inl ⟨tp, (by show ¬ (1 : Int32) = 0; decide), ?_, ?_⟩
    · show (M3.1 162 17).toInt = _
      rw [e3, si_eq]; exact add_ti hp o1 (by omega) (by omega)
    · show (M3.1 162 18).toInt = _
      rw [e3, si_ne (by omega)]; exact hw
  · obtain rfl := Option.some.inj e
    exact .inr ⟨fun h => c (k.mpr h), rfl, rfl⟩
theorem number_l {t : Nat → Int} {A : Mem} {K : Nat} {v1 v2 : Int32} {p : Nat} (hA : Rd t A) (k3 : K ≤ 3) (h1 : v1.toInt = (K : Int)) (h2 : v2.toInt = (p : Int)) (hp : (A.1 162 17).toInt = (p : Int)) (p80 : p ≤ 80) {x} (e : iter (lb_Mod_number_16 v1 v2) FU ((0 : Int32), A) = some x) : Fx (2 ^ 217) [] A x.2 ∧ x.1.toInt = dgv t K p 0 ∧ (x.2.1 162 17).toInt = ((p + dgn t K p : Nat) : Int) ∧ 0 ≤ x.1.toInt ∧ x.1.toInt < 1000 := by
  refine it_r (I := fun s : Int32 × Mem => Fx (2 ^ 217) [] A s.2 ∧ ∃ j : Nat, j ≤ K ∧ (s.2.1 162 17).toInt = ((p + j : Nat) : Int) ∧ dgv t K p 0 = dgv t (K - j) (p + j) s.1.toInt ∧ dgn t K p = j + dgn t (K - j) (p + j) ∧ 0 ≤ s.1.toInt ∧ s.1.toInt < (10 : Int) ^ j) (Q := fun x : Int32 × Mem => Fx (2 ^ 217) [] A x.2 ∧ x.1.toInt = dgv t K p 0 ∧ (x.2.1 162 17).toInt = ((p + dgn t K p : Nat) : Int) ∧ 0 ≤ x.1.toInt ∧ x.1.toInt < 1000) ?_ e ⟨Fx_r, 0, by omega, hp, rfl, by simp, (by show (0 : Int) ≤ (0 : Int32).toInt; decide), (by show (0 : Int32).toInt < 1; decide)⟩
  rintro ⟨v, N⟩ r ⟨fx, j, lj, ha, hv, hn, v0, v9⟩ e
  have fr := wl_Mod_number_16 v1 v2 _ (by decide +kernel) fx e
  have hN := Rd_fx (by decide +kernel) fx hA
  dsimp only at ha hv hn v0 v9 fr
  have z48 : (48 : Int32).toInt = 48 := rfl
  have z57 : (57 : Int32).toInt = 57 := rfl
  have z10 : (10 : Int32).toInt = 10 := rfl
  have pw : (10 : Int) ^ j ≤ 1000 ∧ (j < K → (10 : Int) ^ j ≤ 100 ∧ (10 : Int) ^ (j + 1) = 10 * (10 : Int) ^ j) := by
    have : j = 0 ∨ j = 1 ∨ j = 2 ∨ j = 3 := by omega
    rcases this with rfl | rfl | rfl | rfl
    · exact ⟨by decide, fun _ => by decide⟩
    · exact ⟨by decide, fun _ => by decide⟩
    · exact ⟨by decide, fun _ => by decide⟩
    · exact ⟨by decide, fun h => by omega⟩
  have lim : (v2 + v1).toInt = ((p + K : Nat) : Int) := add_ti h2 h1 (by omega) (by omega)
  have stop : dgn t (K - j) (p + j) = 0 → dgv t (K - j) (p + j) v.toInt = v.toInt → Fx (2 ^ 217) [] A N → Fx (2 ^ 217) [] A N ∧ v.toInt = dgv t K p 0 ∧ (N.1 162 17).toInt = ((p + dgn t K p : Nat) : Int) ∧ 0 ≤ v.toInt ∧ v.toInt < 1000 := by
    intro a b f
    exact ⟨f, by rw [hv, b], by rw [ha, hn, a]; omega, v0, by omega⟩
  unfold lb_Mod_number_16 at e
  dsimp only at e
  rcases io e with ⟨c, e⟩ | ⟨c, e⟩
  · have := q_le c
    obtain rfl := Option.some.inj e
    have : K - j = 0 := by omega
    exact stop (by rw [this]; rfl) (by rw [this]; rfl) fr
  have c1 := q_ng c
  have kj : K - j = (K - (j + 1)) + 1 := by omega
  obtain ⟨x2, e2, e⟩ := bo e
  obtain ⟨x3, e3, e⟩ := bo e
  have k := here_i hN ha e2
  obtain ⟨r3, er3, h3⟩ := sp_in x2 48 57
  rw [er3] at e3
  obtain rfl := Option.some.inj e3
  rcases io e with ⟨c, e⟩ | ⟨c, e⟩
  · obtain rfl := Option.some.inj e
    have nd : ¬ (48 ≤ t (p + j) ∧ t (p + j) ≤ 57) := by
      rcases h3 with ⟨a, _⟩ | ⟨_, b⟩
      · rw [a] at c; cases c
      · omega
    exact stop (by rw [kj]; unfold dgn; rw [if_neg nd]) (by rw [kj]; unfold dgv; rw [if_neg nd]) fr
  · obtain ⟨x4, e4, e⟩ := bo e
    rw [e2] at e4
    obtain rfl := Option.some.inj e4
    obtain ⟨M5, e5, e⟩ := mo e
    obtain rfl := Option.some.inj e
    have dg : 48 ≤ t (p + j) ∧ t (p + j) ≤ 57 ∧ t (p + j) = x2.toInt := by
      rcases h3 with ⟨_, b⟩ | ⟨a, _⟩
      · omega
      · exact absurd a c
    obtain ⟨pw1, pw2⟩ := pw.2 (by omega)
    have m1 : ((10 : Int32) * v).toInt = 10 * v.toInt := mul_ti z10 rfl (by omega) (by omega)
    have m2 : ((10 : Int32) * v + x2).toInt = 10 * v.toInt + x2.toInt := add_ti m1 rfl (by omega) (by omega)
    have m3 : ((10 : Int32) * v + x2 - (48 : Int32)).toInt = 10 * v.toInt + x2.toInt - 48 := sub_ti m2 z48 (by omega) (by omega)
    refine ⟨fr, j + 1, by omega, ?_, ?_, ?_, ?_, ?_⟩
    · show (M5.1 162 17).toInt = _
      rw [e5, si_eq]; exact add_ti ha o1 (by omega) (by omega)
    · show _ = dgv t (K - (j + 1)) (p + (j + 1)) ((10 : Int32) * v + x2 - (48 : Int32)).toInt
      rw [hv, kj]
      rw [show dgv t (K - (j + 1) + 1) (p + j) v.toInt = dgv t (K - (j + 1)) (p + j + 1) (10 * v.toInt + t (p + j) - 48) by rw [dgv, if_pos ⟨dg.1, dg.2.1⟩], m3, dg.2.2]
      rfl
    · rw [hn, kj]
      rw [show dgn t (K - (j + 1) + 1) (p + j) = dgn t (K - (j + 1)) (p + j + 1) + 1 by rw [dgn, if_pos ⟨dg.1, dg.2.1⟩]]
      rw [show p + (j + 1) = p + j + 1 by omega]; omega
    · show 0 ≤ ((10 : Int32) * v + x2 - (48 : Int32)).toInt
      omega
    · show ((10 : Int32) * v + x2 - (48 : Int32)).toInt < (10 : Int) ^ (j + 1)
      rw [pw2]; omega
theorem number_i {t : Nat → Int} {A : Mem} {K : Nat} {v1 : Int32} {p : Nat} (hA : Rd t A) (k3 : K ≤ 3) (h1 : v1.toInt = (K : Int)) (hp : (A.1 162 17).toInt = (p : Int)) (p80 : p ≤ 80) (hw : (A.1 162 18).toInt = -1) {x} (e : f_Mod_number v1 A = some x) : Fx (2 ^ 217 ||| 2 ^ 218) [] A x.2 ∧ x.1.toInt = dgv t K p 0 ∧ 0 ≤ x.1.toInt ∧ x.1.toInt < 1000 ∧ (x.2.1 162 17).toInt = ((p + dgn t K p : Nat) : Int) ∧ ((dgn t K p = 0 ∧ (x.2.1 162 18).toInt = (p : Int)) ∨ (0 < dgn t K p ∧ (x.2.1 162 18).toInt = -1)) := by
  have fr := wf_Mod_number v1 A (C := 2 ^ 217 ||| 2 ^ 218) (L := []) (by decide +kernel) Fx_r e
  unfold f_Mod_number at e
  obtain ⟨x1, e1, e⟩ := bo e
  rcases fine_i e1 with ⟨_, b⟩ | ⟨a, _⟩
  · exact absurd hw b
  rw [a, if_neg (by decide)] at e
  obtain ⟨x8, e8, e⟩ := bo e
  obtain ⟨f8, h8, h17, v0, v9⟩ := number_l hA k3 h1 hp hp p80 e8
  have w8 : (x8.2.1 162 18).toInt = -1 := by rw [(f8 162 18 (by decide +kernel) (by simp)).1]; exact hw
  unfold j_Mod_number_66 at e
  rcases io e with ⟨c, e⟩ | ⟨c, e⟩
  · obtain ⟨x9, e9, e⟩ := bo e
    obtain rfl := Option.some.inj e
    have := q_eq c
    rcases fault_i e9 with ⟨c9, _⟩ | ⟨_, rfl⟩
    · exact absurd w8 c9
    · refine ⟨fr, h8, v0, v9, ?_, .inl ⟨by omega, ?_⟩⟩
      · dsimp only; rw [si_ne (by omega)]; exact h17
      · dsimp only; rw [si_eq, c]; exact hp
  · obtain rfl := Option.some.inj e
    have := q_ne c
    exact ⟨fr, h8, v0, v9, h17, .inr ⟨by omega, w8⟩⟩
