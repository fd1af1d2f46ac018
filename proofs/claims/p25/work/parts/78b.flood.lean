/-! the class's flood: the least set that holds the first cell and is closed under steps to cells not barred -/
theorem flood_i {v0 l f : Nat} {v1 v2 : Int32} {bar y : Int64} {M : Mem} (hv : isN v0) (h1 : v1.toInt = (l : Int)) (l2 : l < 2) (h2 : v2.toInt = (f : Int)) (f36 : f < 36) (hN : ∀ c d, c < 36 → bl (M.2.1 (v0 + 2) (l * 36 + c)) d = true → d < 36) (e : f_Nets_flood v0 v1 v2 bar M = some y) : bl y f = true ∧ (∀ c, bl y c = true → c < 36) ∧ (∀ c d, bl y c = true → bl (M.2.1 (v0 + 2) (l * 36 + c)) d = true → bl bar d = false → bl y d = true) ∧ (∀ P : Nat → Prop, P f → (∀ c d, c < 36 → P c → bl (M.2.1 (v0 + 2) (l * 36 + c)) d = true → bl bar d = false → P d) → ∀ c, bl y c = true → P c) := by
  have k36 : (36 : Int32).toInt = 36 := rfl
  unfold f_Nets_flood at e
  obtain ⟨_, e⟩ := io_n e
  obtain ⟨x5, e5, e⟩ := bo e
  obtain rfl := Option.some.inj e
  have b1 := bl_one h2 (show f < 64 by omega)
  refine it_r (I := fun s : Int64 × Int64 × Int32 => ∃ q : Nat, q ≤ 36 ∧ s.2.2.toInt = (q : Int) ∧ bl s.1 f = true ∧ (∀ c, bl s.1 c = true → c < 36) ∧ (∀ c, bl s.2.1 c = true → bl s.1 c = true) ∧ (∀ c d, bl s.1 c = true → bl s.2.1 c = false → bl (M.2.1 (v0 + 2) (l * 36 + c)) d = true → bl bar d = false → bl s.1 d = true) ∧ (∀ P : Nat → Prop, P f → (∀ c d, c < 36 → P c → bl (M.2.1 (v0 + 2) (l * 36 + c)) d = true → bl bar d = false → P d) → ∀ c, bl s.1 c = true → P c) ∧ q ≤ (List.range 36).countP (fun c => bl s.1 c && !bl s.2.1 c)) (Q := fun y : Int64 => bl y f = true ∧ (∀ c, bl y c = true → c < 36) ∧ (∀ c d, bl y c = true → bl (M.2.1 (v0 + 2) (l * 36 + c)) d = true → bl bar d = false → bl y d = true) ∧ (∀ P : Nat → Prop, P f → (∀ c d, c < 36 → P c → bl (M.2.1 (v0 + 2) (l * 36 + c)) d = true → bl bar d = false → P d) → ∀ c, bl y c = true → P c)) ?_ e5 ⟨0, by omega, rfl, ?_⟩
  · rintro ⟨S, F, k⟩ r ⟨q, q36, hk, a1, a2, a3, a4, a5, a6⟩ e
    dsimp only at hk a1 a2 a3 a4 a5 a6
    unfold lb_Nets_flood_12 at e
    dsimp only at e
    rcases io e with ⟨g, e⟩ | ⟨g, e⟩
    · have g := q_le g
      obtain rfl := Option.some.inj e
      have all := cnt_all (P := fun c => bl S c && !bl F c) (n := 36) (by omega)
      refine ⟨a1, a2, fun c d hc hd hb => a4 c d hc ?_ hd hb, a5⟩
      have := all c (a2 c hc)
      cases hF : bl F c with
      | false => rfl
      | true => simp [hF] at this
    have g1 := q_ng g
    rcases io e with ⟨g, e⟩ | ⟨g, e⟩
    · have z := lc_0.mp g
      obtain rfl := Option.some.inj e
      exact ⟨a1, a2, fun c d hc hd hb => a4 c d hc (by rw [z, bl_0]) hd hb, a5⟩
    have nz : ¬ F = 0 := fun h => g (lc_0.mpr h)
    have ex : ∃ d, bl F d = true := by
      refine Classical.byContradiction (fun h => nz (bl_0i (fun d => ?_)))
      cases hF : bl F d with
      | false => rfl
      | true => exact absurd ⟨d, hF⟩ h
    obtain ⟨d0, hd0⟩ := ex
    obtain ⟨t, ht, hl⟩ := low_ex (P := fun d => bl F d) d0 hd0
    have ht : bl F t = true := ht
    have t36 := a2 t (a3 t ht)
    obtain ⟨x1, e1, e⟩ := bo e
    have n1 := ntz_l ht hl e1
    rw [if_neg (fun h => by have := q_le h; omega)] at e
    obtain ⟨_, e⟩ := io_n e
    unfold j_Nets_flood_78_12 at e
    obtain rfl := Option.some.inj e
    have i2 : (v1 * (36 : Int32) + x1).toInt = ((l * 36 + t : Nat) : Int) := by rw [add_ti (mul_ti h1 k36 (by omega) (by omega)) n1 (by omega) (by omega)]; omega
    have i1 : (k + (1 : Int32)).toInt = ((q + 1 : Nat) : Int) := add_ti hk o1 (by omega) (by omega)
    rw [(isN_r hv).2.1, q_nat i2]
    have hw : ∀ d, bl ((M.2.1 (v0 + 2) (l * 36 + t) &&& (S ^^^ (-1 : Int64))) &&& (bar ^^^ (-1 : Int64))) d = true ↔ (bl (M.2.1 (v0 + 2) (l * 36 + t)) d = true ∧ bl S d = false ∧ bl bar d = false) := by
      intro d
      rw [bl_and, bl_and, Bool.and_eq_true, Bool.and_eq_true]
      rcases Nat.lt_or_ge d 64 with h | h
      · rw [bl_not h, bl_not h, Bool.not_eq_true', Bool.not_eq_true', and_assoc]
      · rw [bl_hi (x := M.2.1 (v0 + 2) (l * 36 + t)) h]
        constructor
        · rintro ⟨⟨w, _⟩, _⟩; cases w
        · rintro ⟨w, _⟩; cases w
    generalize ((M.2.1 (v0 + 2) (l * 36 + t) &&& (S ^^^ (-1 : Int64))) &&& (bar ^^^ (-1 : Int64))) = w0 at hw ⊢
    have hS : ∀ d, bl (S ||| w0) d = true ↔ (bl S d = true ∨ bl w0 d = true) := fun d => by rw [bl_or, Bool.or_eq_true]
    have hF : ∀ d, bl ((F &&& (F - (1 : Int64))) ||| w0) d = true ↔ ((bl F d = true ∧ d ≠ t) ∨ bl w0 d = true) := fun d => by rw [bl_or, Bool.or_eq_true, bl_pop ht hl]
    have nF : ∀ d, bl ((F &&& (F - (1 : Int64))) ||| w0) d = false → ¬ bl w0 d = true ∧ (bl F d = false ∨ d = t) := by
      intro d h
      have n : ¬ bl ((F &&& (F - (1 : Int64))) ||| w0) d = true := by rw [h]; decide
      rw [hF] at n
      refine ⟨fun w => n (.inr w), ?_⟩
      cases hd : bl F d with
      | false => exact .inl rfl
      | true =>
        refine .inr (Classical.byContradiction (fun w => n (.inl ⟨hd, w⟩)))
    refine ⟨q + 1, by omega, i1, (hS f).mpr (.inl a1), ?_, ?_, ?_, ?_, ?_⟩
    · intro c hc
      rcases (hS c).mp hc with h | h
      · exact a2 c h
      · exact hN t c t36 ((hw c).mp h).1
    · intro c hc
      rcases (hF c).mp hc with h | h
      · exact (hS c).mpr (.inl (a3 c h.1))
      · exact (hS c).mpr (.inr h)
    · intro c d hc hf hd hb
      obtain ⟨n1', n2⟩ := nF c hf
      have hc' : bl S c = true := by
        rcases (hS c).mp hc with h | h
        · exact h
        · exact absurd h n1'
      rcases n2 with h | h
      · exact (hS d).mpr (.inl (a4 c d hc' h hd hb))
      · subst h
        cases hs : bl S d with
        | true => exact (hS d).mpr (.inl hs)
        | false => exact (hS d).mpr (.inr ((hw d).mpr ⟨hd, hs, hb⟩))
    · intro P pf pc c hc
      rcases (hS c).mp hc with h | h
      · exact a5 P pf pc c h
      · have w := (hw c).mp h
        exact pc t c t36 (a5 P pf pc t (a3 t ht)) w.1 w.2.2
    · have lt := cnt_lt (P := fun c => bl S c && !bl F c) (Q := fun c => bl (S ||| w0) c && !bl ((F &&& (F - (1 : Int64))) ||| w0) c) (n := 36) (c := t) t36 ?_ ?_ ?_
      · exact Nat.le_trans (Nat.succ_le_succ a6) lt
      · intro i _ h
        rw [Bool.and_eq_true, Bool.not_eq_true'] at h ⊢
        refine ⟨(hS i).mpr (.inl h.1), ?_⟩
        cases hb : bl ((F &&& (F - (1 : Int64))) ||| w0) i with
        | false => rfl
        | true =>
          rcases (hF i).mp hb with w | w
          · rw [h.2] at w; cases w.1
          · have := ((hw i).mp w).2.1
            rw [h.1] at this; cases this
      · rw [ht]; simp
      · rw [Bool.and_eq_true, Bool.not_eq_true']
        refine ⟨(hS t).mpr (.inl (a3 t ht)), ?_⟩
        cases hb : bl ((F &&& (F - (1 : Int64))) ||| w0) t with
        | false => rfl
        | true =>
          rcases (hF t).mp hb with w | w
          · exact absurd rfl w.2
          · have := ((hw t).mp w).2.1
            rw [a3 t ht] at this; cases this
  · dsimp only
    have one : ∀ c, bl ((1 : Int64) <<< (v2.toInt64 &&& 63)) c = true ↔ c = f := fun c => by rw [b1, decide_eq_true_eq]
    refine ⟨(one f).mpr rfl, fun c h => by have := (one c).mp h; omega, fun c h => h, fun c d h1 h2 => ?_, fun P pf pc c h => by rw [(one c).mp h]; exact pf, Nat.zero_le _⟩
    rw [h1] at h2; cases h2
/-- flooded from a cell: what a measure from it reaches -/
theorem flood_m {v0 l f : Nat} {v1 v2 : Int32} {y : Int64} {M : Mem} {D : Nat → Int} (hv : isN v0) (h1 : v1.toInt = (l : Int)) (l2 : l < 2) (h2 : v2.toInt = (f : Int)) (f36 : f < 36) (hN : ∀ c d, c < 36 → bl (M.2.1 (v0 + 2) (l * 36 + c)) d = true → d < 36) (e : f_Nets_flood v0 v1 v2 (0 : Int64) M = some y) (ms : MSR (fun c d => bl (M.2.1 (v0 + 2) (l * 36 + c)) d = true) f D) : ∀ c, bl y c = true ↔ (c < 36 ∧ D c < 1000000) := by
  obtain ⟨b1, b2, b3, b4⟩ := flood_i hv h1 l2 h2 f36 hN e
  obtain ⟨m1, m2, m3, m4⟩ := ms
  intro c
  constructor
  · intro h
    refine ⟨b2 c h, (b4 (fun c => c < 36 ∧ D c < 1000000) ⟨f36, by rw [m1]; decide⟩ ?_ c h).2⟩
    rintro c d hc ⟨_, hD⟩ hd _
    have k := m4 c hc hD d hd
    have k1 := (m2 c hc).2
    have k2 := (m2 d k.1).2
    exact ⟨k.1, by omega⟩
  · rintro ⟨hc, hD⟩
    have key : ∀ (m : Nat) (c : Nat), c < 36 → D c < 1000000 → (D c).toNat ≤ m → bl y c = true := by
      intro m
      induction m with
      | zero =>
        intro c hc hd hm
        rcases m3 c hc hd with h | ⟨c', hc', h1, h2⟩
        · subst h; exact b1
        · have := (m2 c' hc').1; omega
      | succ m ih =>
        intro c hc hd hm
        rcases m3 c hc hd with h | ⟨c', hc', h1, h2⟩
        · subst h; exact b1
        · have := (m2 c' hc').1
          exact b3 c' c (ih c' hc' (by omega) (by omega)) h2 (bl_0 c)
    exact key (D c).toNat c hc hD (Nat.le_refl _)
/-- the class floods, the reference finds -/
theorem flood_2 {X R r : Mem} {n l f : Nat} {v1 v2 p : Int32} {y : Int64} (hJ : J X) (jR : J R) (zv : ZV R (R.1 163) n) (zw : ZW X R 163) (h1 : v1.toInt = (l : Int)) (l2 : l < 2) (h2 : v2.toInt = (f : Int)) (f36 : f < 36) (onf : onN R l f) (hp : p.toInt = ((36 * l + f : Nat) : Int)) (ex : f_Nets_flood 32 v1 v2 (0 : Int64) X = some y) (er : f_Mod_findFar p R = some r) : (∀ c, bl y c = true ↔ (c < 36 ∧ (r.1 177 (36 * l + c)).toInt < 1000000)) ∧ J r ∧ (∀ kx i, kx ≠ 177 → r.1 kx i = R.1 kx i) := by
  have near : ∀ c d, c < 36 → bl (X.2.1 (32 + 2) (l * 36 + c)) d = true → d < 36 := fun c d hc h => ((near_go jR zv zw.2 l2 hc).mp h).2.1
  have ff := some_of (fs_findFar jR p (by omega)) er
  rw [hp] at ff
  have jr : J r := ff.1.1
  obtain ⟨x, ex2, _⟩ := sf_Nets_measure 32 v1 v2 155 X kd_32 ⟨by omega, by omega⟩ ⟨by omega, by omega⟩ FA_155 hJ
  obtain ⟨ms, _, _⟩ := meas_i (.inl rfl) h1 l2 h2 f36 near ex2
  have E := far_eq jR jr zv zw.2 l2 f36 onf ms ff
  refine ⟨fun c => ?_, jr, fun kx i h => ff.1.2.1 kx i h⟩
  rw [flood_m (.inl rfl) h1 l2 h2 f36 near ex ms c]
  constructor
  · rintro ⟨a, b⟩; exact ⟨a, by rw [← E c a]; exact b⟩
  · rintro ⟨a, b⟩; exact ⟨a, by rw [E c a]; exact b⟩
