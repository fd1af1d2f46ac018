/-! rule(): both sides -/
def Acc (t : Nat → Int) (l : Int) (S : MS) : Prop := t S.1 = -1 ∧ l ≤ 40 ∧ S.2.2.2.2 = true ∧ S.2.2.1 = 0
def m41 : Nat := 2582249878086908589620923160406483683539745757195341570985008645646356223034028864927086105292947816664326958941355376639
theorem r130_i {A N : Mem} {S : MS} (rep : RepL S N) (wf : WfL S) (l40 : S.1 ≤ 40) {x : Int32 × Mem} (e : j_Law_read_130 N = some x) : x.1 = 0 ∧ (x.2.1 40 4).toInt = ((stl 0 S.2.1.1 S.2.1.2).1.length : Int) ∧ stk (x.2.1 41) (stl 0 S.2.1.1 S.2.1.2).1 := by
  unfold j_Law_read_130 at e
  obtain ⟨x16, e16, e⟩ := bo e
  obtain ⟨M17, e17, e⟩ := mo e
  obtain ⟨M18, e18, e⟩ := mo e
  obtain rfl := Option.some.inj e
  obtain ⟨s1, s2, s3⟩ := settle_i (K := 0) o0 rep.1 rep.2.1 (by have := wf.1; omega) e16
  have sl := stl_len 0 S.2.1.1 S.2.1.2
  have w1 := wf.1
  refine ⟨rfl, ?_, stk_c s1.2 (fun i hi => ?_)⟩
  · show (M18.1 40 4).toInt = _
    rw [e18, si_eq, e17]
    have : (s_c x16 42 41 0 0 40).1 40 5 = x16.1 40 5 := by simp [s_c]
    rw [this]; exact s1.1
  · show M18.1 41 i = _
    rw [e18, si_ne (by omega), e17]
    have : i < 40 := by omega
    simp [s_c, va_cpy, this]
theorem rule_c {A : Mem} (hJ : J A) {x} (e : f_Top_rule A = some x) : ((A.1 1 1).toInt = 0 ∧ x.1 = 0 ∧ (x.2.1 40 4).toInt = 0) ∨ (0 < (A.1 1 1).toInt ∧ ∃ S, Rch (cx A 40) S0 S ∧ rdS (cx A 40) S = none ∧ S.1 ≤ 40 ∧ ((Acc (cx A 40) (A.1 1 1).toInt S ∧ x.1 = 0 ∧ (x.2.1 40 4).toInt = ((stl 0 S.2.1.1 S.2.1.2).1.length : Int) ∧ stk (x.2.1 41) (stl 0 S.2.1.1 S.2.1.2).1) ∨ (¬ Acc (cx A 40) (A.1 1 1).toInt S ∧ x.1.toInt = -1 - (S.1 : Int) ∧ x.2.1 40 4 = A.1 40 4 ∧ ∀ i, x.2.1 41 i = A.1 41 i))) := by
  have z0 := o0
  have z40 : (40 : Int32).toInt = 40 := rfl
  unfold f_Top_rule at e
  obtain ⟨x1, e1, e⟩ := bo e
  obtain ⟨M2, e2, e⟩ := mo e
  have e := Option.some.inj e
  subst e
  unfold f_Law_read at e1
  obtain ⟨N1, n1, e1⟩ := mo e1
  obtain ⟨N2, n2, e1⟩ := mo e1
  obtain ⟨N3, n3, e1⟩ := mo e1
  obtain ⟨N4, n4, e1⟩ := mo e1
  obtain ⟨N5, n5, e1⟩ := mo e1
  have j1 : J N1 := by rw [n1]; exact Jw_any ok_40 hJ 5 _
  have j2 : J N2 := by rw [n2]; exact Jw_any ok_40 j1 6 _
  have j3 : J N3 := by rw [n3]; exact Jw_any ok_40 j2 8 _
  have j4 : J N4 := by rw [n4]; exact Jw_any ok_40 j3 9 _
  have j5 : J N5 := by rw [n5]; exact Jw_any ok_40 j4 10 _
  have f5 : ∀ k i, ¬ (k = 40 ∧ (i = 5 ∨ i = 6 ∨ i = 8 ∨ i = 9 ∨ i = 10)) → N5.1 k i = A.1 k i := fun k i n => by
    rw [n5, si_ne (by omega), n4, si_ne (by omega), n3, si_ne (by omega), n2, si_ne (by omega), n1, si_ne (by omega)]
  have rep : RepL S0 N5 := by
    refine ⟨⟨?_, trivial⟩, ⟨?_, trivial⟩, ?_, fun d _ => ?_, ?_⟩
    · rw [n5, si_ne (by omega), n4, si_ne (by omega), n3, si_ne (by omega), n2, si_ne (by omega), n1, si_eq]; rfl
    · rw [n5, si_ne (by omega), n4, si_ne (by omega), n3, si_ne (by omega), n2, si_eq]; rfl
    · rw [n5, si_ne (by omega), n4, si_ne (by omega), n3, si_eq]; rfl
    · rw [n5, si_ne (by omega), n4, si_eq]; exact bt_0 d
    · rw [n5, si_eq]; rfl
  have wf0 : WfL S0 := ⟨Nat.le_refl _, rfl, (fun s hs => by cases hs), (by show 0 ≤ 4; omega)⟩
  have l11 : N5.1 1 1 = A.1 1 1 := f5 1 1 (by omega)
  have cxe : cx N5 40 = cx A 40 := cx_c l11 (fun i => f5 2 i (by omega)) 40
  obtain ⟨y, ey, e1⟩ := bo e1
  have ln := Jr_1_1 hJ
  have g4 : M2.1 40 4 = x1.2.1 40 4 := by rw [e2, si_ne (by omega)]
  have g41 : ∀ i, M2.1 41 i = x1.2.1 41 i := fun i => by rw [e2, si_ne (by omega)]
  rcases Int.lt_or_le 0 (A.1 1 1).toInt with hl | hl
  · right
    refine ⟨hl, ?_⟩
    have q := read_l j5 (by rw [l11]; exact hl) rep ey
    have fr := it_r (I := fun s : Int32 × Int32 × Mem => Fx m41 [] N5 s.2.2) (Q := Sum.elim (fun r : Mem => Fx m41 [] N5 r) (Sum.elim (fun r : Int32 × Mem => Fx m41 [] N5 r.2) (fun r : Int32 × Mem => Fx m41 [] N5 r.2))) (fun s r hs er => wl_Law_read_29 s (by decide +kernel) hs er) ey Fx_r
    rw [cxe] at q
    rcases y with y | y | y
    · exact q.elim
    · obtain ⟨S, ⟨k1, k2, k3, k4, k5, k6, k7⟩, tm⟩ := q
      rw [cxe] at k1 k2
      have fr : Fx m41 [] N5 y.2 := fr
      replace e1 := el_l (el_r e1)
      have l11' : y.2.1 1 1 = A.1 1 1 := k7.1.trans l11
      have ref : ¬ Acc (cx A 40) (A.1 1 1).toInt S → some (((-1 : Int32) - y.1), y.2) = some x1 → x1.1.toInt = -1 - (S.1 : Int) ∧ M2.1 40 4 = A.1 40 4 ∧ ∀ i, M2.1 41 i = A.1 41 i := by
        intro _ e1
        have e1 := Option.some.inj e1
        rw [← e1] at g4 g41
        rw [← e1]
        refine ⟨sub_ti om k6 (by omega) (by omega), ?_, fun i => ?_⟩
        · rw [g4]; show y.2.1 40 4 = _
          rw [(fr 40 4 (by decide +kernel) (by simp)).1, f5 40 4 (by omega)]
        · rw [g41]; show y.2.1 41 i = _
          rw [(fr 41 i (by rw [show sl 41 i = 41 from rfl]; decide +kernel) (by simp)).1, f5 41 i (by omega)]
      refine ⟨S, k1, k2, k5, ?_⟩
      rcases io e1 with ⟨c, e1⟩ | ⟨c, e1⟩
      · have := q_lt c
        rw [l11'] at this
        have na : ¬ Acc (cx A 40) (A.1 1 1).toInt S := fun h => by have := h.2.1; omega
        exact .inr ⟨na, ref na e1⟩
      have c1 := q_nl c
      rw [l11'] at c1
      rcases io e1 with ⟨c, e1⟩ | ⟨c, e1⟩
      · have na : ¬ Acc (cx A 40) (A.1 1 1).toInt S := fun h => by
          have h10 := k3.2.2.2.2
          rw [h.2.2.1, if_pos rfl] at h10
          rw [h10] at c; cases c
        exact .inr ⟨na, ref na e1⟩
      have hb : S.2.2.2.2 = true := by
        cases hh : S.2.2.2.2 with
        | true => rfl
        | false =>
          have h10 := k3.2.2.2.2
          rw [hh, if_neg (by decide)] at h10
          exact absurd h10 c
      rcases io e1 with ⟨c, e1⟩ | ⟨c, e1⟩
      · have c3 := q_le c
        have h8 := k3.2.2.1
        obtain ⟨a1, a2, a3⟩ := r130_i (A := A) k3 k4 k5 e1
        refine .inl ⟨⟨tm, by omega, hb, by omega⟩, a1, ?_, stk_c a3 (fun i _ => g41 i)⟩
        show (M2.1 40 4).toInt = _
        rw [g4]; exact a2
      · have c3 := q_ng c
        have h8 := k3.2.2.1
        have na : ¬ Acc (cx A 40) (A.1 1 1).toInt S := fun h => by have := h.2.2.2; omega
        exact .inr ⟨na, ref na e1⟩
    · obtain ⟨S, ⟨k1, k2, k3, k4, k5, k6, k7⟩, tm⟩ := q
      rw [cxe] at k1 k2
      have fr : Fx m41 [] N5 y.2 := fr
      replace e1 := el_r (el_r e1)
      have e1 := Option.some.inj e1
      rw [← e1] at g4 g41
      refine ⟨S, k1, k2, k5, .inr ⟨fun h => tm h.1, ?_, ?_, fun i => ?_⟩⟩
      · rw [← e1]; exact sub_ti om k6 (by omega) (by omega)
      · show M2.1 40 4 = _
        rw [g4]; show y.2.1 40 4 = _
        rw [(fr 40 4 (by decide +kernel) (by simp)).1, f5 40 4 (by omega)]
      · show M2.1 41 i = _
        rw [g41]; show y.2.1 41 i = _
        rw [(fr 41 i (by rw [show sl 41 i = 41 from rfl]; decide +kernel) (by simp)).1, f5 41 i (by omega)]
  · left
    have yq : y = Sum.inl N5 := by
      refine it_r (I := fun s : Int32 × Int32 × Mem => s = ((0 : Int32), (0 : Int32), N5)) (Q := fun x => x = Sum.inl N5) ?_ ey rfl
      rintro s r rfl e
      unfold lb_Law_read_29 at e
      dsimp only at e
      rw [if_neg (by decide), if_pos (lei.mpr (by rw [l11]; omega))] at e
      obtain rfl := Option.some.inj e
      rfl
    subst yq
    replace e1 := el_l e1
    obtain ⟨a1, a2, a3⟩ := r130_i (A := A) rep wf0 (by show 0 ≤ 40; omega) e1
    refine ⟨by omega, a1, ?_⟩
    show (M2.1 40 4).toInt = 0
    rw [g4, a2]; rfl
theorem fol_st {t : Nat → Int} {S : MS} (r : -1 ≤ t S.1 ∧ t S.1 ≤ 255) (hb : S.2.2.2.2 = true) (hd : S.2.2.1 = 0) (kf : Fol 0 t S) : rdS t S = none := by
  unfold rdS rdB
  by_cases m1 : t S.1 = -1
  · rw [if_pos m1]
  · rw [if_neg m1, if_pos hb, if_neg (by omega)]
    by_cases m2 : t S.1 = 60 ∨ t S.1 = 61 ∨ t S.1 = 62
    · have r2 : rk (sg t S.1) = 2 := by
        rcases m2 with h | h | h
        · rw [sg_eq (c := 60) h]; decide
        · rw [sg_eq (c := 61) h]; decide
        · rw [sg_eq (c := 62) h]; decide
      rw [if_pos (.inr ⟨r2, kf.2.2 rfl m2⟩)]
    · rw [if_pos (.inl (rk_0 r (kf.1 (by omega)) (kf.2.1 (by omega)) (by omega)))]
theorem cpy_r {A : Mem} {v : Int32} {n : Nat} (hv : v.toInt = (n : Int)) {x} (e : iter (lb_Mod_rule_73 v) FU ((0 : Int32), A) = some x) : (∀ k i, k ≠ 172 → x.1 k i = A.1 k i) ∧ ∀ i, i < n → x.1 172 i = vp_nar .byte (A.1 167 i) := by
  refine it_r (I := fun s : Int32 × Mem => (∀ k i, k ≠ 172 → s.2.1 k i = A.1 k i) ∧ ∃ p : Nat, s.1.toInt = (p : Int) ∧ ∀ i, i < p → s.2.1 172 i = vp_nar .byte (A.1 167 i)) (Q := fun x : Mem => (∀ k i, k ≠ 172 → x.1 k i = A.1 k i) ∧ ∀ i, i < n → x.1 172 i = vp_nar .byte (A.1 167 i)) ?_ e ⟨fun _ _ _ => rfl, 0, rfl, fun i hi => absurd hi (by omega)⟩
  rintro ⟨k, N⟩ r ⟨fx, p, hp, hk⟩ e
  dsimp only at fx hp hk
  unfold lb_Mod_rule_73 at e
  dsimp only at e
  rcases io e with ⟨c, e⟩ | ⟨c, e⟩
  · have := q_le c
    obtain rfl := Option.some.inj e
    exact ⟨fx, fun i hi => hk i (by omega)⟩
  have c1 := q_ng c
  obtain ⟨c2, e⟩ := io_n e
  have c2 := q_in c2
  obtain ⟨_, e⟩ := io_n e
  obtain ⟨M5, e5, e⟩ := mo e
  obtain rfl := Option.some.inj e
  refine ⟨fun a i n => ?_, p + 1, add_ti hp o1 (by omega) (by omega), fun i hi => ?_⟩
  · show M5.1 a i = _
    rw [e5, si_ne (fun h => n h.1)]; exact fx a i n
  · show M5.1 172 i = _
    rw [e5, q_nat hp]
    rcases Nat.lt_or_ge i p with g | g
    · rw [si_ne (by omega)]; exact hk i g
    · have : i = p := by omega
      subst this
      rw [si_eq, fx 167 i (by omega)]
/-- the text that rule() reads -/
def rx (A : Mem) (K p : Nat) : Int := if (p : Int) < (A.1 162 10).toInt ∧ p < K then (A.1 167 p).toInt % 256 else -1
theorem rule_r {A : Mem} (hl : 0 ≤ (A.1 162 10).toInt ∧ (A.1 162 10).toInt ≤ 80) (hb : ∀ p : Nat, (p : Int) < (A.1 162 10).toInt → -128 ≤ (A.1 167 p).toInt ∧ (A.1 167 p).toInt ≤ 127) {r} (e : f_Mod_rule A = some r) : ((A.1 162 10).toInt = 0 ∧ r.1 = 0 ∧ (r.2.1 162 23).toInt = 0) ∨ (0 < (A.1 162 10).toInt ∧ ∃ S, Rch (rx A 40) S0 S ∧ rdS (rx A 40) S = none ∧ (((A.1 162 10).toInt ≤ (S.1 : Int) ∧ S.2.2.2.2 = true ∧ S.2.2.1 = 0 ∧ r.1 = 0 ∧ r.2.1 162 23 = A.1 162 10 ∧ ∀ i : Nat, (i : Int) < (A.1 162 10).toInt → r.2.1 172 i = vp_nar .byte (A.1 167 i)) ∨ (((S.1 : Int) < (A.1 162 10).toInt ∨ ¬ (S.2.2.2.2 = true ∧ S.2.2.1 = 0)) ∧ r.1.toInt = -1 - (S.1 : Int) ∧ r.2.1 162 23 = A.1 162 23 ∧ ∀ i, r.2.1 172 i = A.1 172 i))) := by
  have z0 := o0
  have z40 : (40 : Int32).toInt = 40 := rfl
  unfold f_Mod_rule at e
  obtain ⟨M1, e1, ea⟩ := mo e
  obtain ⟨x2, e2, eb⟩ := bo ea
  obtain ⟨M3, e3, ec⟩ := mo eb
  obtain ⟨M4, e4, ed⟩ := mo ec
  unfold f_Mod_begin at e2
  obtain ⟨_, e2⟩ := io_n e2
  obtain ⟨N1, n1, e2⟩ := mo e2
  obtain ⟨N2, n2, e2⟩ := mo e2
  obtain ⟨N3, n3, e2⟩ := mo e2
  obtain ⟨N4, n4, e2⟩ := mo e2
  obtain ⟨N5, n5, e2⟩ := mo e2
  have e2 := Option.some.inj e2
  subst e2
  have t1 : M1.1 162 10 = A.1 162 10 := by rw [e1, si_ne (by omega)]
  rw [t1] at ed
  have q1 : N1.1 = M1.1 := by rw [n1]; rfl
  have q4 : M4.1 = M3.1 := by rw [e4]; rfl
  have hf : ∀ k i, ¬ (k = 162 ∧ (i = 10 ∨ i = 13 ∨ i = 15 ∨ i = 16 ∨ i = 17 ∨ i = 18)) → M4.1 k i = A.1 k i := by
    intro k i h
    rw [q4, e3, si_ne (by omega), n5, si_ne (by omega), n4, si_ne (by omega), n3, si_ne (by omega), n2, si_ne (by omega), q1, e1, si_ne (by omega)]
  have b15 : M4.1 162 15 = A.1 162 10 := by
    rw [q4, e3, si_ne (by omega), n5, si_ne (by omega), n4, si_ne (by omega), n3, si_ne (by omega), n2, si_eq, t1]
  have b16 : (M4.1 162 16).toInt = 40 := by
    rw [q4, e3, si_ne (by omega), n5, si_ne (by omega), n4, si_ne (by omega), n3, si_eq]; rfl
  have b17 : (M4.1 162 17).toInt = 0 := by
    rw [q4, e3, si_ne (by omega), n5, si_ne (by omega), n4, si_eq]; rfl
  have b18 : (M4.1 162 18).toInt = -1 := by
    rw [q4, e3, si_ne (by omega), n5, si_eq]; rfl
  have b24 : M4.2.2 162 24 = none := by rw [e4]; simp [s_q]
  have b14 : M4.2.2 162 14 = some 167 := by
    rw [e4]; simp only [s_q]
    rw [if_neg (by omega), e3]; show N5.2.2 162 14 = _
    rw [n5]; show N4.2.2 162 14 = _
    rw [n4]; show N3.2.2 162 14 = _
    rw [n3]; show N2.2.2 162 14 = _
    rw [n2]; show N1.2.2 162 14 = _
    rw [n1]; simp [s_q]
  have h167 : ∀ i, M4.1 167 i = A.1 167 i := fun i => hf 167 i (by omega)
  obtain ⟨n, hn⟩ : ∃ n : Nat, (A.1 162 10).toInt = (n : Int) := ⟨(A.1 162 10).toInt.toNat, by omega⟩
  rcases io ed with ⟨c, e⟩ | ⟨c, e⟩
  · have c1 := q_le c
    left
    obtain ⟨x7, e7, e⟩ := bo e
    obtain ⟨M8, e8, e⟩ := mo e
    obtain rfl := Option.some.inj e
    refine ⟨by omega, rfl, ?_⟩
    show (M8.1 162 23).toInt = 0
    rw [e8, si_eq]; omega
  · have c1 := q_ng c
    right
    refine ⟨by omega, ?_⟩
    obtain ⟨x9, e9, e⟩ := bo e
    have hB : Rd (rx A 40) M4 := by
      refine ⟨167, b14, .inl rfl, by rw [b15]; exact hl.2, fun p => ?_⟩
      rw [b15, b16, h167]
      refine ⟨?_, fun h _ => hb p h⟩
      unfold rx
      by_cases g : (p : Int) < (A.1 162 10).toInt ∧ p < 40
      · rw [if_pos g, if_pos (by omega)]
      · rw [if_neg g, if_neg (by omega)]
    have hE : HE (fun _ => 0) M4 := by
      intro rc v N r _ fx e
      unfold j_Mod_thing_142 at e
      obtain ⟨M5, e5, e⟩ := mo e
      have h24 : M5.2.2 162 24 = none := by
        rw [e5]; show N.2.2 162 24 = _
        rw [(fx 162 24 (by decide +kernel) (by simp)).2.2]; exact b24
      rw [if_pos h24] at e
      obtain rfl := Option.some.inj e
      rfl
    have pre : Pre (rx A 40) 0 S0 M4 0 := ⟨hB, b18, b17, rfl, rfl, (by show 0 ≤ 4; omega), (by show 0 ≤ 80; omega), fun _ => trivial, fun _ => rfl⟩
    obtain ⟨f9, g⟩ := expr_i hE hB 100 0 0 M4 x9 S0 (by omega) Fx_r pre e9
    have c23 : x9.2.1 162 23 = A.1 162 23 := by rw [(f9 162 23 (by decide +kernel) (by simp)).1]; exact hf 162 23 (by omega)
    have c172 : ∀ i, x9.2.1 172 i = A.1 172 i := fun i => by rw [(f9 172 i (by rw [show sl 172 i = 172 from rfl]; decide +kernel) (by simp)).1]; exact hf 172 i (by omega)
    have c167 : ∀ i, x9.2.1 167 i = A.1 167 i := fun i => by rw [(f9 167 i (by rw [show sl 167 i = 167 from rfl]; decide +kernel) (by simp)).1]; exact h167 i
    have ref : ∀ {N : Mem} {p : Nat}, p ≤ 80 → (N.1 162 18).toInt = (p : Int) → N.1 162 23 = A.1 162 23 → (∀ i, N.1 172 i = A.1 172 i) → j_Mod_rule_57 (A.1 162 10) N = some r → r.1.toInt = -1 - (p : Int) ∧ r.2.1 162 23 = A.1 162 23 ∧ ∀ i, r.2.1 172 i = A.1 172 i := by
      intro N p p80 hw h23 h172 e
      unfold j_Mod_rule_57 at e
      obtain ⟨x10, e10, e⟩ := bo e
      rw [if_pos (not_fine (by omega) e10)] at e
      obtain rfl := Option.some.inj e
      exact ⟨sub_ti om hw (by omega) (by omega), h23, h172⟩
    rcases g with ⟨S', h, kf⟩ | ⟨S', k1, k2, k3, s80, k4⟩
    · have hN := Rd_fx okE f9 hB
      have rg := Rd_rng hN S'.1
      have d0 : S'.2.2.1 = 0 := h.2.2.2.2.1
      have hb' := h.2.2.2.1
      refine ⟨S', h.2.2.1, fol_st ⟨rg.1, rg.2.1⟩ hb' d0 kf, ?_⟩
      rcases io e with ⟨c, e⟩ | ⟨c, e⟩
      · have c2 := q_le c
        rw [h.2.1] at c2
        left
        unfold j_Mod_rule_57 at e
        obtain ⟨x10, e10, e⟩ := bo e
        rw [if_neg (is_fine h.1 e10)] at e
        obtain ⟨x11, e11, e⟩ := bo e
        obtain ⟨M12, e12, e⟩ := mo e
        obtain rfl := Option.some.inj e
        obtain ⟨g1, g2⟩ := cpy_r hn e11
        refine ⟨c2, hb', d0, rfl, ?_, fun i hi => ?_⟩
        · show M12.1 162 23 = _
          rw [e12, si_eq]
        · show M12.1 172 i = _
          rw [e12, si_ne (by omega), g2 i (by omega), c167]
      · have c2 := q_ng c
        rw [h.2.1] at c2
        right
        obtain ⟨x14, e14, e⟩ := bo e
        refine ⟨.inl c2, ?_⟩
        rcases fault_i e14 with ⟨g, _⟩ | ⟨_, rfl⟩
        · exact absurd h.1 g
        · exact ref h.2.2.2.2.2.1 (by rw [si_eq]; exact h.2.1) (by rw [si_ne (by omega)]; exact c23) (fun i => by rw [si_ne (by omega)]; exact c172 i) e
    · refine ⟨S', k1, k2, .inr ⟨.inr k3, ?_⟩⟩
      rcases io e with ⟨c, e⟩ | ⟨c, e⟩
      · exact ref s80 k4 c23 c172 e
      · obtain ⟨x14, e14, e⟩ := bo e
        rcases fault_i e14 with ⟨_, rfl⟩ | ⟨g, _⟩
        · exact ref s80 k4 c23 c172 e
        · omega
theorem cx_rx {M N : Mem} (t : TX M) (l : M.1 1 1 = M.1 162 10) (g : ∀ k i, 162 ≤ k → N.1 k i = M.1 k i) (K : Nat) : cx M K = rx N K := by
  funext p
  unfold cx rx
  rw [l, g 162 10 (by decide), g 167 p (by decide)]
  by_cases c : (p : Int) < (M.1 162 10).toInt ∧ p < K
  · rw [if_pos c, if_pos c]; exact t p c.1
  · rw [if_neg c, if_neg c]
theorem tw_rule {n : Int} {M : Mem} (h : IV n M) : ∃ x, f_Top_rule M = some x ∧ ∃ r, f_Mod_rule x.2 = some r ∧ x.1 = r.1 ∧ IV (n + 1) r.2 := by
  obtain ⟨x, ex, q⟩ := sf_Top_rule M h.1.1.1
  obtain ⟨r, er, o⟩ := mr_rule (RI_Gc h.1.1 q.1 q.2.1)
  have g : ∀ k i, 162 ≤ k → x.2.1 k i = M.1 k i := fun k i w => q.2.1 k i (.inl w)
  refine ⟨x, ex, r, er, ?_, fin1 (q.2.2.2.2) o, RL_keep h.2 (wf_Top_rule M (by decide +kernel) Fx_r ex) (wf_Mod_rule x.2 (by decide +kernel) Fx_r er) ?_⟩
  · have l2 := Jr_162_10 h.1.1.1
    have c := rule_c h.1.1.1 ex
    have d := rule_r (A := x.2) (by rw [g 162 10 (by decide)]; exact l2) (fun p hp => by rw [g 167 p (by decide)]; rw [g 162 10 (by decide)] at hp; exact h.2.1.2 p hp) er
    rw [← cx_rx h.2.1.1 h.1.2 g, g 162 10 (by decide), ← h.1.2] at d
    rcases c with ⟨c1, c2, _⟩ | ⟨c1, S, c2, c3, c4, c5⟩
    · rcases d with ⟨_, d2, _⟩ | ⟨d1, _⟩
      · rw [c2, d2]
      · omega
    · rcases d with ⟨d1, _⟩ | ⟨_, S', d2, d3, d4⟩
      · omega
      · have e := Rch_u c2 d2 c3 d3
        subst e
        have end_ : (M.1 1 1).toInt ≤ (S.1 : Int) → cx M 40 S.1 = -1 := by
          intro h; unfold cx; rw [if_neg (by omega)]
        rcases c5 with ⟨⟨a1, a2, a3, a4⟩, b1, _⟩ | ⟨a, b, _⟩ <;> rcases d4 with ⟨e1, e2, e3, e4, _⟩ | ⟨e1, e2, _⟩
        · rw [b1, e4]
        · exfalso
          rcases e1 with e1 | e1
          · have : 0 ≤ cx M 40 S.1 := by
              unfold cx
              rw [if_pos (by omega)]
              exact (h.1.1.1.1 2 S.1).1
            omega
          · exact e1 ⟨a3, a4⟩
        · exact absurd ⟨end_ e1, by omega, e2, e3⟩ a
        · exact Int32.toInt_inj.mp (b.trans e2.symm)
  · rw [o.2.2]; have := Jr_162_10 h.1.1.1; have z : (0 : Int32).toInt = 0 := rfl; omega
