section
/-! bits: the lowest one -/
theorem pred_bits : ∀ (t N : Nat), N.testBit t = true → (∀ j, j < t → N.testBit j = false) → ∀ j, (N - 1).testBit j = if j < t then true else if j = t then false else N.testBit j := by
  intro t
  induction t with
  | zero =>
    intro N ht _ j
    rw [Nat.testBit_zero, decide_eq_true_eq] at ht
    cases j with
    | zero =>
      rw [if_neg (by omega), if_pos rfl, Nat.testBit_zero]
      exact decide_eq_false (by omega)
    | succ i =>
      rw [if_neg (by omega), if_neg (by omega), Nat.testBit_add_one, Nat.testBit_add_one, show (N - 1) / 2 = N / 2 by omega]
  | succ t ih =>
    intro N ht hl j
    have h0 := hl 0 (by omega)
    rw [Nat.testBit_zero, decide_eq_false_iff_not] at h0
    rw [Nat.testBit_add_one] at ht
    have pos : N / 2 ≠ 0 := by
      intro h
      rw [h, Nat.zero_testBit] at ht
      cases ht
    have hl2 : ∀ j, j < t → (N / 2).testBit j = false := fun j hj => by rw [← Nat.testBit_add_one]; exact hl (j + 1) (by omega)
    cases j with
    | zero =>
      rw [if_pos (by omega), Nat.testBit_zero]
      exact decide_eq_true (by omega)
    | succ i =>
      rw [Nat.testBit_add_one, show (N - 1) / 2 = N / 2 - 1 by omega, ih (N / 2) ht hl2 i, Nat.testBit_add_one]
      by_cases c : i < t
      · rw [if_pos c, if_pos (show i + 1 < t + 1 by omega)]
      · rw [if_neg c, if_neg (show ¬ i + 1 < t + 1 by omega)]
        by_cases g : i = t
        · rw [if_pos g, if_pos (show i + 1 = t + 1 by omega)]
        · rw [if_neg g, if_neg (show ¬ i + 1 = t + 1 by omega)]
theorem pred_bv {w : Nat} (hw : w ≠ 0) {v : BitVec w} {t : Nat} (ht : v.getLsbD t = true) (hl : ∀ j, j < t → v.getLsbD j = false) (j : Nat) : (v - 1#w).getLsbD j = if j < t then true else if j = t then false else v.getLsbD j := by
  have n0 : v.toNat ≠ 0 := by
    intro h
    have g : v.toNat.testBit t = true := ht
    rw [h, Nat.zero_testBit] at g
    cases g
  have e : (v - 1#w).toNat = v.toNat - 1 := by
    have k := v.isLt
    have p := Nat.one_lt_two_pow hw
    rw [BitVec.toNat_sub, BitVec.toNat_ofNat, Nat.mod_eq_of_lt p, show 2 ^ w - 1 + v.toNat = (v.toNat - 1) + 2 ^ w by omega, Nat.add_mod_right, Nat.mod_eq_of_lt (by omega)]
  show (v - 1#w).toNat.testBit j = _
  rw [e]
  exact pred_bits t v.toNat ht hl j
theorem bl_pop {x : Int64} {t : Nat} (ht : bl x t = true) (hl : ∀ j, j < t → bl x j = false) (d : Nat) : bl (x &&& (x - 1)) d = true ↔ (bl x d = true ∧ d ≠ t) := by
  have p : bl (x - 1) d = if d < t then true else if d = t then false else bl x d := pred_bv (w := 64) (by decide) ht hl d
  rw [bl_and, Bool.and_eq_true, p]
  constructor
  · rintro ⟨a, b⟩
    refine ⟨a, ?_⟩
    rintro rfl
    rw [if_neg (by omega), if_pos rfl] at b
    cases b
  · rintro ⟨a, b⟩
    refine ⟨a, ?_⟩
    by_cases c : d < t
    · rw [if_pos c]
    · rw [if_neg c, if_neg b]; exact a
theorem low_ex {P : Nat → Bool} : ∀ d, P d = true → ∃ t, P t = true ∧ ∀ j, j < t → P j = false := by
  intro d
  induction d using Nat.strongRecOn with
  | ind d ih =>
    intro h
    by_cases c : ∃ j, j < d ∧ P j = true
    · obtain ⟨j, hj, hp⟩ := c
      exact ih j hj hp
    · refine ⟨d, h, fun j hj => ?_⟩
      cases hp : P j with
      | false => rfl
      | true => exact absurd ⟨j, hj, hp⟩ c
def ntzX (X : Int32) : Option Int32 :=
  if 0 < X then
  if X ≤ (65536 : Int32) then j_JInteger_numberOfTrailingZeros_34 X (1 : Int32)
  else j_JInteger_numberOfTrailingZeros_34 ((X.toUInt32 >>> ((16 : Int32).toUInt32 &&& Int32.toUInt32 31)).toInt32) ((1 : Int32) + (16 : Int32))
  else some (X &&& (32 : Int32))
theorem ntzX_t : ∀ t : Fin 32, ntzX (Int32.ofBitVec (BitVec.ofNat 32 (2 ^ t.val - 1))) = some (Int32.ofNat t.val) := by decide +kernel
theorem ntz_i {v : Int32} {t : Nat} (t32 : t < 32) (ht : v.toBitVec.getLsbD t = true) (hl : ∀ j, j < t → v.toBitVec.getLsbD j = false) : f_JInteger_numberOfTrailingZeros v = some (Int32.ofNat t) := by
  have m1 : ∀ j : Fin 32, (-1 : Int32).toBitVec.getLsbD j.val = true := by decide +kernel
  have e : ((v ^^^ (-1 : Int32)) &&& (v - (1 : Int32))) = Int32.ofBitVec (BitVec.ofNat 32 (2 ^ t - 1)) := by
    refine Int32.toBitVec_inj.mp (BitVec.eq_of_getLsbD_eq ?_)
    intro j hj
    have p : (v - (1 : Int32)).toBitVec.getLsbD j = if j < t then true else if j = t then false else v.toBitVec.getLsbD j := pred_bv (w := 32) (by decide) ht hl j
    rw [Int32.toBitVec_and, Int32.toBitVec_xor, BitVec.getLsbD_and, BitVec.getLsbD_xor, m1 ⟨j, hj⟩, p]
    show _ = (BitVec.ofNat 32 (2 ^ t - 1)).getLsbD j
    rw [BitVec.getLsbD_ofNat, Nat.testBit_two_pow_sub_one]
    by_cases c : j < t
    · rw [if_pos c, hl j c, decide_eq_true c, decide_eq_true hj]; rfl
    · rw [if_neg c, decide_eq_false c, Bool.and_false]
      by_cases g : j = t
      · rw [if_pos g, Bool.and_false]
      · rw [if_neg g]; cases v.toBitVec.getLsbD j <;> rfl
  show ntzX ((v ^^^ (-1 : Int32)) &&& (v - (1 : Int32))) = _
  rw [e]
  exact ntzX_t ⟨t, t32⟩
theorem ti_ofNat {t : Nat} (h : t < 64) : (Int32.ofNat t).toInt = (t : Int) := by
  have : ∀ t : Fin 64, (Int32.ofNat t.val).toInt = (t.val : Int) := by decide +kernel
  exact this ⟨t, h⟩
theorem ntz_l {x : Int64} {y : Int32} {t : Nat} (ht : bl x t = true) (hl : ∀ j, j < t → bl x j = false) (e : f_JLong_numberOfTrailingZeros x = some y) : y.toInt = (t : Int) := by
  have t64 : t < 64 := by
    rcases Nat.lt_or_ge t 64 with h | h
    · exact h
    · rw [bl_hi h] at ht; cases ht
  have lo : ∀ j, j < 32 → x.toInt32.toBitVec.getLsbD j = bl x j := by
    intro j hj
    rw [Int64.toBitVec_toInt32, BitVec.getLsbD_signExtend, decide_eq_true hj, if_pos (by omega), Bool.true_and]
    rfl
  unfold f_JLong_numberOfTrailingZeros at e
  rcases Nat.lt_or_ge t 32 with c | c
  · have nz : ¬ x.toInt32 = 0 := by
      intro h
      have := lo t c
      rw [h, ht] at this
      have z : (0 : Int32).toBitVec.getLsbD t = false := BitVec.getLsbD_zero
      rw [z] at this; cases this
    rw [if_neg nz, ntz_i c (by rw [lo t c]; exact ht) (fun j hj => by rw [lo j (by omega)]; exact hl j hj)] at e
    have e : some (Int32.ofNat t) = some y := e
    obtain rfl := Option.some.inj e
    exact ti_ofNat t64
  · have z0 : x.toInt32 = 0 := by
      refine Int32.toBitVec_inj.mp (BitVec.eq_of_getLsbD_eq ?_)
      intro j hj
      rw [lo j hj, hl j (by omega)]
      exact BitVec.getLsbD_zero.symm
    have hi : ∀ j, j < 32 → (((x.toUInt64 >>> ((32 : Int32).toInt64.toUInt64 &&& Int64.toUInt64 63)).toInt64).toInt32).toBitVec.getLsbD j = bl x (32 + j) := by
      intro j hj
      rw [Int64.toBitVec_toInt32, BitVec.getLsbD_signExtend, decide_eq_true hj, if_pos (by omega), Bool.true_and, UInt64.toBitVec_toInt64, UInt64.toBitVec_shiftRight, BitVec.ushiftRight_eq']
      have s : (((32 : Int32).toInt64.toUInt64 &&& Int64.toUInt64 63).toBitVec % 64).toNat = 32 := by decide +kernel
      rw [s, BitVec.getLsbD_ushiftRight]
      rfl
    rw [if_pos z0, ntz_i (t := t - 32) (by omega) (by rw [hi _ (by omega), show 32 + (t - 32) = t by omega]; exact ht) (fun j hj => by rw [hi j (by omega)]; exact hl _ (by omega))] at e
    have e : some ((32 : Int32) + Int32.ofNat (t - 32)) = some y := e
    obtain rfl := Option.some.inj e
    have k32 : (32 : Int32).toInt = 32 := rfl
    rw [add_ti k32 (ti_ofNat (by omega)) (by omega) (by omega)]
    omega
end
section
/-! the class's flood: the least set that holds the first cell and is closed under steps to cells not barred -/
theorem flood_i {v0 l f : Nat} {v1 v2 : Int32} {bar y : Int64} {M : Mem} (hv : isN v0) (h1 : v1.toInt = (l : Int)) (l2 : l < 2) (h2 : v2.toInt = (f : Int)) (f36 : f < 36) (hN : ∀ c d, c < 36 → bl (M.2.1 (v0 + 2) (l * 36 + c)) d = true → d < 36) (e : f_Nets_flood v0 v1 v2 bar M = some y) : bl y f = true ∧ (∀ c, bl y c = true → c < 36) ∧ (∀ c d, bl y c = true → bl (M.2.1 (v0 + 2) (l * 36 + c)) d = true → bl bar d = false → bl y d = true) ∧ (∀ P : Nat → Prop, P f → (∀ c d, c < 36 → P c → bl (M.2.1 (v0 + 2) (l * 36 + c)) d = true → bl bar d = false → P d) → ∀ c, bl y c = true → P c) := by
  have k36 : (36 : Int32).toInt = 36 := rfl
  unfold f_Nets_flood at e
  obtain ⟨_, e⟩ := io_n e
  obtain ⟨x5, e5, e⟩ := bo e
  obtain rfl := Option.some.inj e
  have b1 := bl_one h2 (show f < 64 by omega)
  refine it_r (I := fun s : Int64 × Int64 × Int32 => ∃ q : Nat, q ≤ 36 ∧ s.2.2.toInt = (q : Int) ∧ bl s.1 f = true ∧ (∀ c, bl s.1 c = true → c < 36) ∧ (∀ c, bl s.2.1 c = true → bl s.1 c = true) ∧ (∀ c d, bl s.1 c = true → bl s.2.1 c = false → bl (M.2.1 (v0 + 2) (l * 36 + c)) d = true → bl bar d = false → bl s.1 d = true) ∧ (∀ P : Nat → Prop, P f → (∀ c d, c < 36 → P c → bl (M.2.1 (v0 + 2) (l * 36 + c)) d = true → bl bar d = false → P d) → ∀ c, bl s.1 c = true → P c) ∧ q ≤ (List.range 36).countP (fun c => bl s.1 c && !bl s.2.1 c)) (Q := fun y : Int64 => bl y f = true ∧ (∀ c, bl y c = true → c < 36) ∧ (∀ c d, bl y c = true → bl (M.2.1 (v0 + 2) (l * 36 + c)) d = true → bl bar d = false → bl y d = true) ∧ (∀ P : Nat → Prop, P f → (∀ c d, c < 36 → P c → bl (M.2.1 (v0 + 2) (l * 36 + c)) d = true → bl bar d = false → P d) → ∀ c, bl y c = true → P c)) ?_ e5 ⟨0, by omega, rfl, ?_⟩
  · rintro ⟨S, F, k⟩ r ⟨q, q36, hk, a1, a2, a3, a4, a5, a6⟩ e
    dsimp only at hk a1 a2 a3 a4 a5 a6
    unfold lb_Nets_flood_12 at e
    dsimp only at e
    rcases io e with ⟨g, e⟩ | ⟨g, e⟩
    · have g := q_le g
      obtain rfl := Option.some.inj e
      have all := cnt_all (P := fun c => bl S c && !bl F c) (n := 36) (by omega)
      refine ⟨a1, a2, fun c d hc hd hb => a4 c d hc ?_ hd hb, a5⟩
      have := all c (a2 c hc)
      cases hF : bl F c with
      | false => rfl
      | true => simp [hF] at this
    have g1 := q_ng g
    rcases io e with ⟨g, e⟩ | ⟨g, e⟩
    · have z := lc_0.mp g
      obtain rfl := Option.some.inj e
      exact ⟨a1, a2, fun c d hc hd hb => a4 c d hc (by rw [z, bl_0]) hd hb, a5⟩
    have nz : ¬ F = 0 := fun h => g (lc_0.mpr h)
    have ex : ∃ d, bl F d = true := by
      refine Classical.byContradiction (fun h => nz (bl_0i (fun d => ?_)))
      cases hF : bl F d with
      | false => rfl
      | true => exact absurd ⟨d, hF⟩ h
    obtain ⟨d0, hd0⟩ := ex
    obtain ⟨t, ht, hl⟩ := low_ex (P := fun d => bl F d) d0 hd0
    have ht : bl F t = true := ht
    have t36 := a2 t (a3 t ht)
    obtain ⟨x1, e1, e⟩ := bo e
    have n1 := ntz_l ht hl e1
    rw [if_neg (fun h => by have := q_le h; omega)] at e
    obtain ⟨_, e⟩ := io_n e
    unfold j_Nets_flood_78_12 at e
    obtain rfl := Option.some.inj e
    have i2 : (v1 * (36 : Int32) + x1).toInt = ((l * 36 + t : Nat) : Int) := by rw [add_ti (mul_ti h1 k36 (by omega) (by omega)) n1 (by omega) (by omega)]; omega
    have i1 : (k + (1 : Int32)).toInt = ((q + 1 : Nat) : Int) := add_ti hk o1 (by omega) (by omega)
    rw [(isN_r hv).2.1, q_nat i2]
    have hw : ∀ d, bl ((M.2.1 (v0 + 2) (l * 36 + t) &&& (S ^^^ (-1 : Int64))) &&& (bar ^^^ (-1 : Int64))) d = true ↔ (bl (M.2.1 (v0 + 2) (l * 36 + t)) d = true ∧ bl S d = false ∧ bl bar d = false) := by
      intro d
      rw [bl_and, bl_and, Bool.and_eq_true, Bool.and_eq_true]
      rcases Nat.lt_or_ge d 64 with h | h
      · rw [bl_not h, bl_not h, Bool.not_eq_true', Bool.not_eq_true', and_assoc]
      · rw [bl_hi (x := M.2.1 (v0 + 2) (l * 36 + t)) h]
        constructor
        · rintro ⟨⟨w, _⟩, _⟩; cases w
        · rintro ⟨w, _⟩; cases w
    generalize ((M.2.1 (v0 + 2) (l * 36 + t) &&& (S ^^^ (-1 : Int64))) &&& (bar ^^^ (-1 : Int64))) = w0 at hw ⊢
    have hS : ∀ d, bl (S ||| w0) d = true ↔ (bl S d = true ∨ bl w0 d = true) := fun d => by rw [bl_or, Bool.or_eq_true]
    have hF : ∀ d, bl ((F &&& (F - (1 : Int64))) ||| w0) d = true ↔ ((bl F d = true ∧ d ≠ t) ∨ bl w0 d = true) := fun d => by rw [bl_or, Bool.or_eq_true, bl_pop ht hl]
    have nF : ∀ d, bl ((F &&& (F - (1 : Int64))) ||| w0) d = false → ¬ bl w0 d = true ∧ (bl F d = false ∨ d = t) := by
      intro d h
      have n : ¬ bl ((F &&& (F - (1 : Int64))) ||| w0) d = true := by rw [h]; decide
      rw [hF] at n
      refine ⟨fun w => n (.inr w), ?_⟩
      cases hd : bl F d with
      | false => exact .inl rfl
      | true =>
        refine .inr (Classical.byContradiction (fun w => n (.inl ⟨hd, w⟩)))
    refine ⟨q + 1, by omega, i1, (hS f).mpr (.inl a1), ?_, ?_, ?_, ?_, ?_⟩
    · intro c hc
      rcases (hS c).mp hc with h | h
      · exact a2 c h
      · exact hN t c t36 ((hw c).mp h).1
    · intro c hc
      rcases (hF c).mp hc with h | h
      · exact (hS c).mpr (.inl (a3 c h.1))
      · exact (hS c).mpr (.inr h)
    · intro c d hc hf hd hb
      obtain ⟨n1', n2⟩ := nF c hf
      have hc' : bl S c = true := by
        rcases (hS c).mp hc with h | h
        · exact h
        · exact absurd h n1'
      rcases n2 with h | h
      · exact (hS d).mpr (.inl (a4 c d hc' h hd hb))
      · subst h
        cases hs : bl S d with
        | true => exact (hS d).mpr (.inl hs)
        | false => exact (hS d).mpr (.inr ((hw d).mpr ⟨hd, hs, hb⟩))
    · intro P pf pc c hc
      rcases (hS c).mp hc with h | h
      · exact a5 P pf pc c h
      · have w := (hw c).mp h
        exact pc t c t36 (a5 P pf pc t (a3 t ht)) w.1 w.2.2
    · have lt := cnt_lt (P := fun c => bl S c && !bl F c) (Q := fun c => bl (S ||| w0) c && !bl ((F &&& (F - (1 : Int64))) ||| w0) c) (n := 36) (c := t) t36 ?_ ?_ ?_
      · exact Nat.le_trans (Nat.succ_le_succ a6) lt
      · intro i _ h
        rw [Bool.and_eq_true, Bool.not_eq_true'] at h ⊢
        refine ⟨(hS i).mpr (.inl h.1), ?_⟩
        cases hb : bl ((F &&& (F - (1 : Int64))) ||| w0) i with
        | false => rfl
        | true =>
          rcases (hF i).mp hb with w | w
          · rw [h.2] at w; cases w.1
          · have := ((hw i).mp w).2.1
            rw [h.1] at this; cases this
      · rw [ht]; simp
      · rw [Bool.and_eq_true, Bool.not_eq_true']
        refine ⟨(hS t).mpr (.inl (a3 t ht)), ?_⟩
        cases hb : bl ((F &&& (F - (1 : Int64))) ||| w0) t with
        | false => rfl
        | true =>
          rcases (hF t).mp hb with w | w
          · exact absurd rfl w.2
          · have := ((hw t).mp w).2.1
            rw [a3 t ht] at this; cases this
  · dsimp only
    have one : ∀ c, bl ((1 : Int64) <<< (v2.toInt64 &&& 63)) c = true ↔ c = f := fun c => by rw [b1, decide_eq_true_eq]
    refine ⟨(one f).mpr rfl, fun c h => by have := (one c).mp h; omega, fun c h => h, fun c d h1 h2 => ?_, fun P pf pc c h => by rw [(one c).mp h]; exact pf, Nat.zero_le _⟩
    rw [h1] at h2; cases h2
/-- flooded from a cell: what a measure from it reaches -/
theorem flood_m {v0 l f : Nat} {v1 v2 : Int32} {y : Int64} {M : Mem} {D : Nat → Int} (hv : isN v0) (h1 : v1.toInt = (l : Int)) (l2 : l < 2) (h2 : v2.toInt = (f : Int)) (f36 : f < 36) (hN : ∀ c d, c < 36 → bl (M.2.1 (v0 + 2) (l * 36 + c)) d = true → d < 36) (e : f_Nets_flood v0 v1 v2 (0 : Int64) M = some y) (ms : MSR (fun c d => bl (M.2.1 (v0 + 2) (l * 36 + c)) d = true) f D) : ∀ c, bl y c = true ↔ (c < 36 ∧ D c < 1000000) := by
  obtain ⟨b1, b2, b3, b4⟩ := flood_i hv h1 l2 h2 f36 hN e
  obtain ⟨m1, m2, m3, m4⟩ := ms
  intro c
  constructor
  · intro h
    refine ⟨b2 c h, (b4 (fun c => c < 36 ∧ D c < 1000000) ⟨f36, by rw [m1]; decide⟩ ?_ c h).2⟩
    rintro c d hc ⟨_, hD⟩ hd _
    have k := m4 c hc hD d hd
    have k1 := (m2 c hc).2
    have k2 := (m2 d k.1).2
    exact ⟨k.1, by omega⟩
  · rintro ⟨hc, hD⟩
    have key : ∀ (m : Nat) (c : Nat), c < 36 → D c < 1000000 → (D c).toNat ≤ m → bl y c = true := by
      intro m
      induction m with
      | zero =>
        intro c hc hd hm
        rcases m3 c hc hd with h | ⟨c', hc', h1, h2⟩
        · subst h; exact b1
        · have := (m2 c' hc').1; omega
      | succ m ih =>
        intro c hc hd hm
        rcases m3 c hc hd with h | ⟨c', hc', h1, h2⟩
        · subst h; exact b1
        · have := (m2 c' hc').1
          exact b3 c' c (ih c' hc' (by omega) (by omega)) h2 (bl_0 c)
    exact key (D c).toNat c hc hD (Nat.le_refl _)
/-- the class floods, the reference finds -/
theorem flood_2 {X R r : Mem} {n l f : Nat} {v1 v2 p : Int32} {y : Int64} (hJ : J X) (jR : J R) (zv : ZV R (R.1 163) n) (zw : ZW X R 163) (h1 : v1.toInt = (l : Int)) (l2 : l < 2) (h2 : v2.toInt = (f : Int)) (f36 : f < 36) (onf : onN R l f) (hp : p.toInt = ((36 * l + f : Nat) : Int)) (ex : f_Nets_flood 32 v1 v2 (0 : Int64) X = some y) (er : f_Mod_findFar p R = some r) : (∀ c, bl y c = true ↔ (c < 36 ∧ (r.1 177 (36 * l + c)).toInt < 1000000)) ∧ J r ∧ (∀ kx i, kx ≠ 177 → r.1 kx i = R.1 kx i) := by
  have near : ∀ c d, c < 36 → bl (X.2.1 (32 + 2) (l * 36 + c)) d = true → d < 36 := fun c d hc h => ((near_go jR zv zw.2 l2 hc).mp h).2.1
  have ff := some_of (fs_findFar jR p (by omega)) er
  rw [hp] at ff
  have jr : J r := ff.1.1
  obtain ⟨x, ex2, _⟩ := sf_Nets_measure 32 v1 v2 155 X kd_32 ⟨by omega, by omega⟩ ⟨by omega, by omega⟩ FA_155 hJ
  obtain ⟨ms, _, _⟩ := meas_i (.inl rfl) h1 l2 h2 f36 near ex2
  have E := far_eq jR jr zv zw.2 l2 f36 onf ms ff
  refine ⟨fun c => ?_, jr, fun kx i h => ff.1.2.1 kx i h⟩
  rw [flood_m (.inl rfl) h1 l2 h2 f36 near ex ms c]
  constructor
  · rintro ⟨a, b⟩; exact ⟨a, by rw [← E c a]; exact b⟩
  · rintro ⟨a, b⟩; exact ⟨a, by rw [E c a]; exact b⟩
end
section
/-! pieces: counted alike -/
def pcs (P : Nat → Bool) (Rc : Nat → Nat → Bool) : Nat → (Nat → Bool) × Int
  | 0 => (fun _ => false, 0)
  | k + 1 => if P k = true ∧ (pcs P Rc k).1 k = false then (fun c => (pcs P Rc k).1 c || Rc k c, (pcs P Rc k).2 + 1) else pcs P Rc k
theorem pcs_p {P : Nat → Bool} {Rc : Nat → Nat → Bool} {k : Nat} (h : P k = true ∧ (pcs P Rc k).1 k = false) : pcs P Rc (k + 1) = (fun c => (pcs P Rc k).1 c || Rc k c, (pcs P Rc k).2 + 1) := if_pos h
theorem pcs_n {P : Nat → Bool} {Rc : Nat → Nat → Bool} {k : Nat} (h : ¬ (P k = true ∧ (pcs P Rc k).1 k = false)) : pcs P Rc (k + 1) = pcs P Rc k := if_neg h
theorem pcs_b {P : Nat → Bool} {Rc : Nat → Nat → Bool} : ∀ k, 0 ≤ (pcs P Rc k).2 ∧ (pcs P Rc k).2 ≤ (k : Int) := by
  intro k
  induction k with
  | zero => exact ⟨by show (0 : Int) ≤ 0; decide, by show (0 : Int) ≤ ((0 : Nat) : Int); decide⟩
  | succ k ih =>
    by_cases g : P k = true ∧ (pcs P Rc k).1 k = false
    · rw [pcs_p g]; dsimp only; omega
    · rw [pcs_n g]; omega
theorem pcs_s {P : Nat → Bool} {Rc : Nat → Nat → Bool} {k : Nat} (j : Nat) (h : ∀ c, k ≤ c → P c = false) : pcs P Rc (k + j) = pcs P Rc k := by
  induction j with
  | zero => rfl
  | succ j ih =>
    rw [show k + (j + 1) = (k + j) + 1 by omega, pcs_n (fun w => by rw [h (k + j) (by omega)] at w; cases w.1)]
    exact ih
/-- what the class's flood from a cell reaches -/
def rcX (v1 : Int32) (X : Mem) (k c : Nat) : Bool := match f_Nets_flood 32 v1 (Int32.ofNat k) (0 : Int64) X with
  | some y => bl y c
  | none => false
theorem rcX_i {v1 i : Int32} {X : Mem} {k : Nat} {y : Int64} (hk : i.toInt = (k : Int)) (k36 : k < 36) (e : f_Nets_flood 32 v1 i (0 : Int64) X = some y) (c : Nat) : rcX v1 X k c = bl y c := by
  unfold rcX
  rw [← ofn_eq hk (by omega), e]
theorem pcs_c {X : Mem} {v1 : Int32} {net : Int64} {x : Int32 × Int32 × Int32} (e : iter (lb_Top_pieces_33 v1 X) FU (net, (0 : Int32), (0 : Int32), (-1 : Int32), (0 : Int32)) = some x) : x.1.toInt = (pcs (fun c => bl net c) (rcX v1 X) 36).2 := by
  have k36 : (36 : Int32).toInt = 36 := rfl
  refine it_r (I := fun s : Int64 × Int32 × Int32 × Int32 × Int32 => ∃ k : Nat, k ≤ 36 ∧ s.2.2.2.2.toInt = (k : Int) ∧ s.2.1.toInt = (pcs (fun c => bl net c) (rcX v1 X) k).2 ∧ ∀ c, c < 64 → bl s.1 c = (bl net c && !(pcs (fun c => bl net c) (rcX v1 X) k).1 c)) (Q := fun x : Int32 × Int32 × Int32 => x.1.toInt = (pcs (fun c => bl net c) (rcX v1 X) 36).2) ?_ e ⟨0, by omega, rfl, rfl, fun c _ => by show bl net c = (bl net c && !false); rw [Bool.not_false, Bool.and_true]⟩
  rintro ⟨left, cn, best, cell, i⟩ r ⟨k, k36', hk, h1, h2⟩ e
  dsimp only at hk h1 h2
  unfold lb_Top_pieces_33 at e
  dsimp only at e
  rcases io e with ⟨g, e⟩ | ⟨g, e⟩
  · have := q_le g
    obtain rfl := Option.some.inj e
    have : k = 36 := by omega
    subst this
    exact h1
  have g1 := q_ng g
  have i1 : (i + (1 : Int32)).toInt = ((k + 1 : Nat) : Int) := add_ti hk o1 (by omega) (by omega)
  have bk := h2 k (by omega)
  have pb := pcs_b (P := fun c => bl net c) (Rc := rcX v1 X) k
  rcases io e with ⟨g, e⟩ | ⟨g, e⟩
  · have gb := (bl_cmp hk (by omega)).mp g
    obtain rfl := Option.some.inj e
    refine ⟨k + 1, by omega, i1, ?_⟩
    rw [pcs_n (P := fun c => bl net c) (Rc := rcX v1 X) (fun w => by
      have w1 : bl net k = true := w.1
      rw [gb, w1, w.2] at bk; cases bk)]
    exact ⟨h1, h2⟩
  · have gb : bl left k = true := by
      cases hb : bl left k with
      | true => rfl
      | false => exact absurd ((bl_cmp hk (by omega)).mpr hb) g
    rw [gb] at bk
    have bk := bk.symm
    rw [Bool.and_eq_true, Bool.not_eq_true'] at bk
    obtain ⟨x1, e1, e⟩ := bo e
    obtain ⟨x2, e2, e⟩ := bo e
    have rc := rcX_i hk (by omega) e1
    have c1 : (cn + (1 : Int32)).toInt = (pcs (fun c => bl net c) (rcX v1 X) k).2 + 1 := by
      rw [add_ti h1 o1 (by omega) (by omega)]
    have L : ∀ c, c < 64 → bl (left &&& (x1 ^^^ (-1 : Int64))) c = (bl net c && !(pcs (fun c => bl net c) (rcX v1 X) (k + 1)).1 c) := by
      intro c hc
      rw [pcs_p (P := fun c => bl net c) (Rc := rcX v1 X) ⟨bk.1, bk.2⟩, bl_and, bl_not hc, h2 c hc]
      dsimp only
      rw [rc c]
      cases bl net c <;> cases (pcs (fun c => bl net c) (rcX v1 X) k).1 c <;> cases bl x1 c <;> rfl
    have C : (cn + (1 : Int32)).toInt = (pcs (fun c => bl net c) (rcX v1 X) (k + 1)).2 := by
      rw [pcs_p (P := fun c => bl net c) (Rc := rcX v1 X) ⟨bk.1, bk.2⟩]; exact c1
    rcases io e with ⟨_, e⟩ | ⟨_, e⟩
    · obtain rfl := Option.some.inj e
      exact ⟨k + 1, by omega, i1, C, L⟩
    · obtain ⟨x3, _, e⟩ := bo e
      obtain rfl := Option.some.inj e
      exact ⟨k + 1, by omega, i1, C, L⟩
theorem vb_0 : vp_nar .boolean (0 : Int32) = 0 := by decide +kernel
theorem vb_o0 {a : Int32} (h : a = 0 ∨ a = 1) : vp_nar .boolean (a ||| (0 : Int32)) = a := by
  rcases h with rfl | rfl <;> decide +kernel
theorem vb_o1 {a : Int32} (h : a = 0 ∨ a = 1) : vp_nar .boolean (a ||| (1 : Int32)) = 1 := by
  rcases h with rfl | rfl <;> decide +kernel
theorem b179 {N : Mem} (h : J N) (i : Nat) : N.1 179 i = 0 ∨ N.1 179 i = 1 := by
  have := Jr_179 h i
  by_cases c : (N.1 179 i).toInt = 0
  · exact .inl (Int32.toInt_inj.mp c)
  · exact .inr (Int32.toInt_inj.mp (by show (N.1 179 i).toInt = 1; omega))
theorem wipe_r {a b c d : Int32} {N x : Mem} (jN : J N) (e : iter (lb_Mod_pieces_26 a b c d) FU ((0 : Int32), N) = some x) : J x ∧ (∀ kx i, kx ≠ 179 → x.1 kx i = N.1 kx i) ∧ ∀ c, c < 36 → x.1 179 c = 0 := by
  have k36 : (36 : Int32).toInt = 36 := rfl
  refine it_r (I := fun s : Int32 × Mem => ∃ q : Nat, q ≤ 36 ∧ s.1.toInt = (q : Int) ∧ J s.2 ∧ (∀ kx i, kx ≠ 179 → s.2.1 kx i = N.1 kx i) ∧ ∀ c, c < q → s.2.1 179 c = 0) (Q := fun x : Mem => J x ∧ (∀ kx i, kx ≠ 179 → x.1 kx i = N.1 kx i) ∧ ∀ c, c < 36 → x.1 179 c = 0) ?_ e ⟨0, by omega, rfl, jN, fun _ _ _ => rfl, fun c h => by omega⟩
  rintro ⟨i, T⟩ r ⟨q, q36, hq, jT, hf, hd⟩ e
  dsimp only at hq jT hf hd
  unfold lb_Mod_pieces_26 at e
  dsimp only at e
  rcases io e with ⟨g, e⟩ | ⟨g, e⟩
  · have := q_le g
    obtain rfl := Option.some.inj e
    exact ⟨jT, hf, fun c hc => hd c (by omega)⟩
  have g1 := q_ng g
  have i1 : (i + (1 : Int32)).toInt = ((q + 1 : Nat) : Int) := add_ti hq o1 (by omega) (by omega)
  obtain ⟨_, e⟩ := io_n e
  obtain ⟨M3, m3, e⟩ := mo e
  obtain rfl := Option.some.inj e
  rw [q_nat hq, vb_0] at m3
  refine ⟨q + 1, by omega, i1, by rw [m3]; exact Jw_179 jT q 0 (by decide) (by decide), fun kx j h => by rw [m3, si_ne (by omega)]; exact hf kx j h, fun c hc => ?_⟩
  rw [m3]
  by_cases w : c = q
  · subst w; exact si_eq
  · rw [si_ne (by omega)]; exact hd c (by omega)
theorem mark_r {v1 a b c d : Int32} {l : Nat} {N x : Mem} (h1 : v1.toInt = (l : Int)) (l2 : l < 2) (jN : J N) (e : iter (lb_Mod_pieces_98 v1 a b c d) FU ((0 : Int32), N) = some x) : J x ∧ (∀ kx i, kx ≠ 179 → x.1 kx i = N.1 kx i) ∧ ∀ c, c < 36 → x.1 179 c = if (N.1 177 (36 * l + c)).toInt < 1000000 then 1 else N.1 179 c := by
  have k36 : (36 : Int32).toInt = 36 := rfl
  have km : (1000000 : Int32).toInt = 1000000 := rfl
  refine it_r (I := fun s : Int32 × Mem => ∃ q : Nat, q ≤ 36 ∧ s.1.toInt = (q : Int) ∧ J s.2 ∧ (∀ kx i, kx ≠ 179 → s.2.1 kx i = N.1 kx i) ∧ (∀ c, q ≤ c → s.2.1 179 c = N.1 179 c) ∧ ∀ c, c < q → s.2.1 179 c = if (N.1 177 (36 * l + c)).toInt < 1000000 then 1 else N.1 179 c) (Q := fun x : Mem => J x ∧ (∀ kx i, kx ≠ 179 → x.1 kx i = N.1 kx i) ∧ ∀ c, c < 36 → x.1 179 c = if (N.1 177 (36 * l + c)).toInt < 1000000 then 1 else N.1 179 c) ?_ e ⟨0, by omega, rfl, jN, fun _ _ _ => rfl, fun _ _ => rfl, fun c h => by omega⟩
  rintro ⟨i, T⟩ r ⟨q, q36, hq, jT, hf, hu, hd⟩ e
  dsimp only at hq jT hf hu hd
  unfold lb_Mod_pieces_98 at e
  dsimp only at e
  rcases io e with ⟨g, e⟩ | ⟨g, e⟩
  · have := q_le g
    obtain rfl := Option.some.inj e
    exact ⟨jT, hf, fun c hc => hd c (by omega)⟩
  have g1 := q_ng g
  have i1 : (i + (1 : Int32)).toInt = ((q + 1 : Nat) : Int) := add_ti hq o1 (by omega) (by omega)
  obtain ⟨_, e⟩ := io_n e
  obtain ⟨x10, e10, e⟩ := bo e
  obtain ⟨_, e⟩ := io_n e
  have p10 := place_c h1 hq l2 (by omega) e10
  rw [q_nat p10, hf 177 _ (by omega), q_nat hq, hu q (Nat.le_refl _)] at e
  have b := b179 jN q
  rcases io e with ⟨g, e⟩ | ⟨g, e⟩
  · have gg := q_le g
    obtain ⟨_, e⟩ := io_n e
    obtain ⟨M3, m3, e⟩ := mo e
    obtain rfl := Option.some.inj e
    rw [vb_o0 b] at m3
    have jb := Jr_179 jN q
    refine ⟨q + 1, by omega, i1, by rw [m3]; exact Jw_179 jT q _ jb.1 jb.2, fun kx j h => by rw [m3, si_ne (by omega)]; exact hf kx j h, fun c hc => by rw [m3, si_ne (by omega)]; exact hu c (by omega), fun c hc => ?_⟩
    rw [m3]
    by_cases w : c = q
    · subst w; rw [si_eq, if_neg (by omega)]
    · rw [si_ne (by omega)]; exact hd c (by omega)
  · have gg := q_ng g
    obtain ⟨_, e⟩ := io_n e
    obtain ⟨M3, m3, e⟩ := mo e
    obtain rfl := Option.some.inj e
    rw [vb_o1 b] at m3
    refine ⟨q + 1, by omega, i1, by rw [m3]; exact Jw_179 jT q _ (by decide) (by decide), fun kx j h => by rw [m3, si_ne (by omega)]; exact hf kx j h, fun c hc => by rw [m3, si_ne (by omega)]; exact hu c (by omega), fun c hc => ?_⟩
    rw [m3]
    by_cases w : c = q
    · subst w; rw [si_eq, if_pos (by omega)]
    · rw [si_ne (by omega)]; exact hd c (by omega)
theorem pieces_q {X R : Mem} {n : Nat} {v1 : Int32} {x r : Int32 × Mem} (hJ : J X) (za : ZA X R n) (ex : f_Top_pieces v1 X = some x) (er : f_Mod_pieces v1 R = some r) : x.1 = r.1 := by
  have z0 := o0
  unfold f_Mod_pieces at er
  obtain ⟨M1, m1, er⟩ := mo er
  obtain ⟨zaM, fqM⟩ := ZA_M1 za m1
  obtain ⟨n8, jM, ⟨zg, zc, zl⟩, zs, zv, zw⟩ := zaM.1
  have wh := awh jM
  have jM1 : J M1 := jM
  unfold f_Top_pieces at ex
  obtain ⟨y2, ey2, er⟩ := bo er
  have hin := some_of (sp_in v1 0 1) ey2
  rw [o0, o1] at hin
  rcases io ex with ⟨g, ex⟩ | ⟨g, ex⟩
  · have g := q_lt g
    rcases hin with ⟨a, b⟩ | ⟨a, b⟩
    · omega
    rw [a, if_pos rfl] at er
    obtain rfl := Option.some.inj ex
    obtain rfl := Option.some.inj er
    rfl
  have g1 := q_nl g
  rcases io ex with ⟨g, ex⟩ | ⟨g, ex⟩
  rotate_left
  · have g := q_ng g
    rcases hin with ⟨a, b⟩ | ⟨a, b⟩
    · have := o1; omega
    rw [a, if_pos rfl] at er
    obtain rfl := Option.some.inj ex
    obtain rfl := Option.some.inj er
    rfl
  have g2 := q_le g
  have k1 := o1
  rcases hin with ⟨a, _⟩ | ⟨_, b⟩
  rotate_left
  · exact absurd ⟨by omega, by omega⟩ b
  rw [a, if_neg (by decide)] at er
  obtain ⟨l, hl⟩ := ti_ofn (v := v1) (by omega)
  have l2 : l < 2 := by omega
  obtain ⟨_, ex⟩ := io_n ex
  obtain ⟨x7, e7, ex⟩ := bo ex
  obtain ⟨x8, _, ex⟩ := bo ex
  obtain ⟨x9, _, ex⟩ := bo ex
  obtain ⟨x10, _, ex⟩ := bo ex
  obtain rfl := Option.some.inj ex
  obtain ⟨y5, ey5, er⟩ := bo er
  obtain ⟨y22, ey22, er⟩ := bo er
  obtain ⟨M23, _, er⟩ := mo er
  obtain ⟨y24, _, er⟩ := bo er
  obtain ⟨y25, _, er⟩ := bo er
  obtain rfl := Option.some.inj er
  rw [q_nat hl] at e7
  have C := pcs_c e7
  have nb : ∀ d, bl (X.2.1 33 l) d = true ↔ (d < 36 ∧ onN M1 l d) := fun d => by
    have := zw.1 l d l2
    rw [this, onA_i jM]
  obtain ⟨j5, f5, w5⟩ := wipe_r jM1 ey5
  obtain ⟨W, hW⟩ : ∃ W : Nat, xw M1 * xh M1 = (W : Int) := ⟨(xw M1 * xh M1).toNat, by omega⟩
  have W36 : W ≤ 36 := by omega
  have K : y22.1.toInt = (pcs (fun c => bl (X.2.1 33 l) c) (rcX v1 X) W).2 := by
    refine it_r (I := fun s : Int32 × Int32 × Int32 × Int32 × Mem => ∃ k : Nat, k ≤ W ∧ s.2.2.2.1.toInt = (k : Int) ∧ s.1.toInt = (pcs (fun c => bl (X.2.1 33 l) c) (rcX v1 X) k).2 ∧ (∀ c, c < 36 → s.2.2.2.2.1 179 c = if (pcs (fun c => bl (X.2.1 33 l) c) (rcX v1 X) k).1 c = true then 1 else 0) ∧ J s.2.2.2.2 ∧ (∀ kx i, kx ≠ 177 → kx ≠ 179 → s.2.2.2.2.1 kx i = M1.1 kx i)) (Q := fun y : Int32 × Int32 × Int32 × Mem => y.1.toInt = (pcs (fun c => bl (X.2.1 33 l) c) (rcX v1 X) W).2) ?_ ey22 ⟨0, by omega, rfl, rfl, fun c hc => by show y5.1 179 c = if false = true then 1 else 0; rw [w5 c hc, if_neg (by decide)], j5, fun kx i _ h => f5 kx i h⟩
    rintro ⟨cn, best, cell, i, T⟩ u ⟨k, kW, hk, h1, h2, jT, hf⟩ e
    dsimp only at hk h1 h2 jT hf
    unfold lb_Mod_pieces_50 at e
    dsimp only at e
    obtain ⟨x6, e6, e⟩ := bo e
    have h6 : x6.toInt = (W : Int) := by
      unfold f_Mod_cells at e6
      obtain rfl := Option.some.inj e6
      rw [hf 162 2 (by omega) (by omega), hf 162 3 (by omega) (by omega)]
      rw [wh_ti jM]; exact hW
    rcases io e with ⟨g, e⟩ | ⟨g, e⟩
    · have := q_le g
      obtain rfl := Option.some.inj e
      have : k = W := by omega
      subst this
      exact h1
    have g1 := q_ng g
    have i1 : (i + (1 : Int32)).toInt = ((k + 1 : Nat) : Int) := add_ti hk o1 (by omega) (by omega)
    have zT : ZA X T n := ZA_z zaM jT (fun _ _ _ => rfl) (fun _ => rfl) (fun _ => rfl) (fun _ => rfl) (fun _ => rfl) (fun kx i h => hf kx i (by unfold CRr CR at h; omega) (by unfold CRr CR at h; omega))
    obtain ⟨_, _, _, _, zvT, zwT⟩ := zT.1
    have nbT : bl (X.2.1 33 l) k = true ↔ (k < 36 ∧ onN T l k) := by
      have := zwT.1 l k l2
      rw [this, onA_i jT]
    obtain ⟨x7', e7', e⟩ := bo e
    have hof := some_of (fs_isOf jT v1 i) e7'
    rw [hl, hk] at hof
    rcases hof with ⟨a, on⟩ | ⟨a, on⟩
    rotate_left
    · rw [a, if_pos rfl] at e
      obtain rfl := Option.some.inj e
      refine ⟨k + 1, by omega, i1, ?_⟩
      rw [pcs_n (P := fun c => bl (X.2.1 33 l) c) (Rc := rcX v1 X) (fun w => on (nbT.mp w.1).2)]
      exact ⟨h1, h2, jT, hf⟩
    rw [a, if_neg (by decide)] at e
    have P1 : bl (X.2.1 33 l) k = true := nbT.mpr ⟨by omega, on⟩
    obtain ⟨_, e⟩ := io_n e
    rw [q_nat hk, h2 k (by omega)] at e
    rcases io e with ⟨g, e⟩ | ⟨g, e⟩
    rotate_left
    · obtain rfl := Option.some.inj e
      refine ⟨k + 1, by omega, i1, ?_⟩
      rw [pcs_n (P := fun c => bl (X.2.1 33 l) c) (Rc := rcX v1 X) (fun w => g (by rw [w.2, if_neg (by decide)]))]
      exact ⟨h1, h2, jT, hf⟩
    have seen : (pcs (fun c => bl (X.2.1 33 l) c) (rcX v1 X) k).1 k = false := by
      cases hs : (pcs (fun c => bl (X.2.1 33 l) c) (rcX v1 X) k).1 k with
      | false => rfl
      | true => rw [hs, if_pos rfl] at g; exact absurd g (by decide)
    have E := pcs_p (P := fun c => bl (X.2.1 33 l) c) (Rc := rcX v1 X) ⟨P1, seen⟩
    have pb := pcs_b (P := fun c => bl (X.2.1 33 l) c) (Rc := rcX v1 X) k
    obtain ⟨x8', e8', e⟩ := bo e
    obtain ⟨x9', e9', e⟩ := bo e
    obtain ⟨x15, e15, e⟩ := bo e
    obtain ⟨x16, _, e⟩ := bo e
    obtain ⟨y, ey, _⟩ := sf_Nets_flood 32 v1 i (0 : Int64) X kd_32 ⟨by omega, by omega⟩ hJ
    obtain ⟨F1, F2, F3⟩ := flood_2 hJ jT zvT zwT hl l2 hk (by omega) on (place_c hl hk l2 (by omega) e8') ey e9'
    obtain ⟨A1, A2, A3⟩ := mark_r hl l2 F2 e15
    have rc := rcX_i hk (by omega) ey
    have c1 : (cn + (1 : Int32)).toInt = (pcs (fun c => bl (X.2.1 33 l) c) (rcX v1 X) (k + 1)).2 := by
      rw [add_ti h1 o1 (by omega) (by omega), E]
    have S : ∀ c, c < 36 → x15.1 179 c = if (pcs (fun c => bl (X.2.1 33 l) c) (rcX v1 X) (k + 1)).1 c = true then 1 else 0 := by
      intro c hc
      have E1 : (pcs (fun c => bl (X.2.1 33 l) c) (rcX v1 X) (k + 1)).1 c = ((pcs (fun c => bl (X.2.1 33 l) c) (rcX v1 X) k).1 c || bl y c) := by
        rw [← rc c]
        exact congrArg (fun z : (Nat → Bool) × Int => z.1 c) E
      rw [A3 c hc, F3 179 c (by omega), h2 c hc, E1]
      by_cases w : (x9'.1 177 (36 * l + c)).toInt < 1000000
      · rw [if_pos w, (F1 c).mpr ⟨hc, w⟩, Bool.or_true, if_pos rfl]
      · rw [if_neg w]
        have : bl y c = false := by
          cases hb : bl y c with
          | false => rfl
          | true => exact absurd ((F1 c).mp hb).2 w
        rw [this, Bool.or_false]
    have fr : ∀ kx i, kx ≠ 177 → kx ≠ 179 → x15.1 kx i = M1.1 kx i := fun kx i h h' => by rw [A2 kx i h', F3 kx i h]; exact hf kx i h h'
    rcases io e with ⟨_, e⟩ | ⟨_, e⟩
    · obtain ⟨x17, _, e⟩ := bo e
      obtain rfl := Option.some.inj e
      exact ⟨k + 1, by omega, i1, c1, S, A1, fr⟩
    · obtain rfl := Option.some.inj e
      exact ⟨k + 1, by omega, i1, c1, S, A1, fr⟩
  have tail := pcs_s (P := fun c => bl (X.2.1 33 l) c) (Rc := rcX v1 X) (k := W) (36 - W) (fun c hc => by
    cases hb : bl (X.2.1 33 l) c with
    | false => rfl
    | true =>
      have on := ((nb c).mp hb).2
      have := on.2.1
      omega)
  rw [show W + (36 - W) = 36 by omega] at tail
  refine Int32.toInt_inj.mp ?_
  show x7.1.toInt = y22.1.toInt
  rw [C, K, tail]
end
section
/-! Long.bitCount counts the bits -/
theorem and_byte (X Y : Nat) : X &&& Y = 256 * ((X / 256) &&& (Y / 256)) + ((X % 256) &&& (Y % 256)) := by
  have a : (X &&& Y) / 2 ^ 8 = X / 2 ^ 8 &&& Y / 2 ^ 8 := Nat.and_div_two_pow
  have b : (X &&& Y) % 2 ^ 8 = (X % 2 ^ 8) &&& (Y % 2 ^ 8) := Nat.and_mod_two_pow
  rw [show (2 : Nat) ^ 8 = 256 from rfl] at a b
  rw [← a, ← b]
  exact (Nat.div_add_mod (X &&& Y) 256).symm
def g1 (m x : Nat) : Nat := x - (x / 2 &&& m)
def g2 (m x : Nat) : Nat := (x &&& m) + (x / 4 &&& m)
def g3 (m x : Nat) : Nat := (x + x / 16) &&& m
def mk (d : Nat) : Nat → Nat
  | 0 => 0
  | n + 1 => 256 * mk d n + d
def pcB (b : Nat) : Nat := (List.range 8).countP (fun i => b.testBit i)
theorem tb1_t : ∀ b : Fin 256, ∀ e : Fin 2, ((128 * e.val + b.val / 2) &&& 85) = (b.val / 2 &&& 85) ∧ (b.val / 2 &&& 85) ≤ b.val := by decide +kernel
theorem tb2_t : ∀ b : Fin 256, ∀ e : Fin 4, ((64 * e.val + b.val / 4) &&& 51) = (b.val / 4 &&& 51) := by decide +kernel
theorem tb3_t : ∀ b : Fin 256, ∀ e : Fin 16, ((16 * e.val + b.val + b.val / 16) &&& 15) = ((b.val + b.val / 16) &&& 15) := by decide +kernel
theorem tb4_t : ∀ b : Fin 256, g1 85 b.val < 256 ∧ g2 51 (g1 85 b.val) ≤ 68 ∧ g2 51 (g1 85 b.val) % 16 ≤ 4 ∧ g3 15 (g2 51 (g1 85 b.val)) = pcB b.val ∧ g3 15 (g2 51 (g1 85 b.val)) ≤ 8 := by decide +kernel
theorem g1_b {m q b : Nat} (hb : b < 256) : g1 (256 * m + 85) (256 * q + b) = 256 * g1 m q + g1 85 b := by
  unfold g1
  obtain ⟨t1, t2⟩ := tb1_t ⟨b, hb⟩ ⟨q % 2, by omega⟩
  dsimp only at t1 t2
  have le : (q / 2 &&& m) ≤ q / 2 := Nat.and_le_left
  have e : ((256 * q + b) / 2 &&& (256 * m + 85)) = 256 * (q / 2 &&& m) + (b / 2 &&& 85) := by
    rw [and_byte, show (256 * q + b) / 2 / 256 = q / 2 by omega, show (256 * q + b) / 2 % 256 = 128 * (q % 2) + b / 2 by omega, show (256 * m + 85) / 256 = m by omega, show (256 * m + 85) % 256 = 85 by omega, t1]
  rw [e]
  generalize (q / 2 &&& m) = u at le ⊢
  generalize (b / 2 &&& 85) = w at t2 ⊢
  omega
theorem g2_b {m q b : Nat} (hb : b < 256) : g2 (256 * m + 51) (256 * q + b) = 256 * g2 m q + g2 51 b := by
  unfold g2
  have t1 := tb2_t ⟨b, hb⟩ ⟨q % 4, by omega⟩
  dsimp only at t1
  have e1 : ((256 * q + b) &&& (256 * m + 51)) = 256 * (q &&& m) + (b &&& 51) := by
    rw [and_byte, show (256 * q + b) / 256 = q by omega, show (256 * q + b) % 256 = b by omega, show (256 * m + 51) / 256 = m by omega, show (256 * m + 51) % 256 = 51 by omega]
  have e2 : ((256 * q + b) / 4 &&& (256 * m + 51)) = 256 * (q / 4 &&& m) + (b / 4 &&& 51) := by
    rw [and_byte, show (256 * q + b) / 4 / 256 = q / 4 by omega, show (256 * q + b) / 4 % 256 = 64 * (q % 4) + b / 4 by omega, show (256 * m + 51) / 256 = m by omega, show (256 * m + 51) % 256 = 51 by omega, t1]
  rw [e1, e2]
  omega
theorem g3_b {m q b : Nat} (hb : b ≤ 68) (hq : q % 16 ≤ 4) : g3 (256 * m + 15) (256 * q + b) = 256 * g3 m q + g3 15 b := by
  unfold g3
  have t1 := tb3_t ⟨b, by omega⟩ ⟨q % 16, by omega⟩
  dsimp only at t1
  rw [and_byte, show (256 * q + b + (256 * q + b) / 16) / 256 = q + q / 16 by omega, show (256 * q + b + (256 * q + b) / 16) % 256 = 16 * (q % 16) + b + b / 16 by omega, show (256 * m + 15) / 256 = m by omega, show (256 * m + 15) % 256 = 15 by omega, t1]
def pcS : Nat → Nat → Nat
  | 0, _ => 0
  | n + 1, x => 256 * pcS n (x / 256) + pcB (x % 256)
def pcC : Nat → Nat → Nat
  | 0, _ => 0
  | n + 1, x => pcC n (x / 256) + pcB (x % 256)
theorem pcS_s (n x : Nat) : pcS (n + 1) x = 256 * pcS n (x / 256) + pcB (x % 256) := rfl
theorem pcC_s (n x : Nat) : pcC (n + 1) x = pcC n (x / 256) + pcB (x % 256) := rfl
theorem pcS_z (x : Nat) : pcS 0 x = 0 := rfl
theorem pcC_z (x : Nat) : pcC 0 x = 0 := rfl
theorem q2_16 : ∀ (n x : Nat), x < 256 ^ n → g2 (mk 51 n) (g1 (mk 85 n) x) % 16 ≤ 4 := by
  intro n x hx
  cases n with
  | zero =>
    have : x = 0 := by rw [Nat.pow_zero] at hx; omega
    subst this
    decide
  | succ n =>
    have hb : x % 256 < 256 := Nat.mod_lt _ (by decide)
    have t := tb4_t ⟨x % 256, hb⟩
    dsimp only at t
    rw [← Nat.div_add_mod x 256]
    show g2 (256 * mk 51 n + 51) (g1 (256 * mk 85 n + 85) (256 * (x / 256) + x % 256)) % 16 ≤ 4
    rw [g1_b hb, g2_b t.1]
    omega
theorem pc_n : ∀ (n x : Nat), x < 256 ^ n → g3 (mk 15 n) (g2 (mk 51 n) (g1 (mk 85 n) x)) = pcS n x := by
  intro n
  induction n with
  | zero =>
    intro x hx
    have : x = 0 := by rw [Nat.pow_zero] at hx; omega
    subst this
    decide
  | succ n ih =>
    intro x hx
    have hb : x % 256 < 256 := Nat.mod_lt _ (by decide)
    have hq : x / 256 < 256 ^ n := by rw [Nat.pow_succ] at hx; omega
    have t := tb4_t ⟨x % 256, hb⟩
    dsimp only at t
    have k : g3 (256 * mk 15 n + 15) (g2 (256 * mk 51 n + 51) (g1 (256 * mk 85 n + 85) (256 * (x / 256) + x % 256))) = 256 * pcS n (x / 256) + pcB (x % 256) := by
      rw [g1_b hb, g2_b t.1, g3_b t.2.1 (q2_16 n _ hq), ih _ hq, t.2.2.2.1]
    rw [Nat.div_add_mod] at k
    exact k
theorem cnt_add (P : Nat → Bool) (a b : Nat) : (List.range (a + b)).countP P = (List.range a).countP P + (List.range b).countP (fun i => P (a + i)) := by
  induction b with
  | zero => rfl
  | succ b ih => rw [← Nat.add_assoc, cnt_s, cnt_s, ih]; omega
theorem pcC_n : ∀ (n x : Nat), pcC n x = (List.range (8 * n)).countP (fun i => x.testBit i) := by
  intro n
  induction n with
  | zero => intro x; rfl
  | succ n ih =>
    intro x
    show pcC n (x / 256) + pcB (x % 256) = _
    rw [show 8 * (n + 1) = 8 + 8 * n by omega, cnt_add, ih, Nat.add_comm]
    congr 1
    · unfold pcB
      refine List.countP_congr (fun i hi => ?_)
      have := List.mem_range.mp hi
      rw [show (256 : Nat) = 2 ^ 8 from rfl, Nat.testBit_mod_two_pow, decide_eq_true this, Bool.true_and]
    · refine List.countP_congr (fun i _ => ?_)
      rw [show (256 : Nat) = 2 ^ 8 from rfl, Nat.testBit_div_two_pow, Nat.add_comm]
theorem pcB_8 (b : Nat) : pcB b ≤ 8 := by
  unfold pcB
  have := List.countP_le_length (p := fun i => b.testBit i) (l := List.range 8)
  rwa [List.length_range] at this
end
section
/-! Long.bitCount counts the bits: the end -/
def uN6 (x : Int64) : Nat := x.toBitVec.toNat
theorem uN6_lt (x : Int64) : uN6 x < 2 ^ 64 := x.toBitVec.isLt
theorem uN6_and (a b : Int64) : uN6 (a &&& b) = (uN6 a &&& uN6 b) := by
  unfold uN6
  rw [Int64.toBitVec_and, BitVec.toNat_and]
theorem uN6_add {a b : Int64} (h : uN6 a + uN6 b < 2 ^ 64) : uN6 (a + b) = uN6 a + uN6 b := by
  show (a.toBitVec + b.toBitVec).toNat = _
  rw [BitVec.toNat_add]
  exact Nat.mod_eq_of_lt h
theorem uN6_sub {a b : Int64} (h : uN6 b ≤ uN6 a) : uN6 (a - b) = uN6 a - uN6 b := by
  have l := uN6_lt a
  have l2 := uN6_lt b
  show (a.toBitVec - b.toBitVec).toNat = _
  rw [BitVec.toNat_sub]
  show (2 ^ 64 - uN6 b + uN6 a) % 2 ^ 64 = _
  rw [show 2 ^ 64 - uN6 b + uN6 a = (uN6 a - uN6 b) + 2 ^ 64 by omega, Nat.add_mod_right, Nat.mod_eq_of_lt (by omega)]
theorem uN6_shr {v : Int64} {s : Int32} {k : Nat} (hs : ((s.toInt64.toUInt64 &&& Int64.toUInt64 63).toBitVec % 64).toNat = k) : uN6 ((v.toUInt64 >>> (s.toInt64.toUInt64 &&& Int64.toUInt64 63)).toInt64) = uN6 v / 2 ^ k := by
  unfold uN6
  rw [UInt64.toBitVec_toInt64, UInt64.toBitVec_shiftRight, BitVec.ushiftRight_eq', hs, BitVec.toNat_ushiftRight, Nat.shiftRight_eq_div_pow]
  rfl
def bc1 (v : Int64) : Int64 := v - (((v.toUInt64 >>> ((1 : Int32).toInt64.toUInt64 &&& Int64.toUInt64 63)).toInt64) &&& (6148914691236517205 : Int64))
def bc2 (v : Int64) : Int64 := (v &&& (3689348814741910323 : Int64)) + (((v.toUInt64 >>> ((2 : Int32).toInt64.toUInt64 &&& Int64.toUInt64 63)).toInt64) &&& (3689348814741910323 : Int64))
def bc3 (v : Int64) : Int64 := (v + ((v.toUInt64 >>> ((4 : Int32).toInt64.toUInt64 &&& Int64.toUInt64 63)).toInt64)) &&& (1085102592571150095 : Int64)
def bcs (s : Int32) (v : Int64) : Int64 := v + ((v.toUInt64 >>> (s.toInt64.toUInt64 &&& Int64.toUInt64 63)).toInt64)
theorem bc_eq (v : Int64) : f_JLong_bitCount v = some ((bcs 32 (bcs 16 (bcs 8 (bc3 (bc2 (bc1 v)))))).toInt32 &&& (127 : Int32)) := by
  unfold f_JLong_bitCount
  generalize h1 : v - (((v.toUInt64 >>> ((1 : Int32).toInt64.toUInt64 &&& Int64.toUInt64 63)).toInt64) &&& (6148914691236517205 : Int64)) = a
  rw [show bc1 v = a from h1]
  generalize h2 : (a &&& (3689348814741910323 : Int64)) + (((a.toUInt64 >>> ((2 : Int32).toInt64.toUInt64 &&& Int64.toUInt64 63)).toInt64) &&& (3689348814741910323 : Int64)) = b
  rw [show bc2 a = b from h2]
  generalize h3 : (b + ((b.toUInt64 >>> ((4 : Int32).toInt64.toUInt64 &&& Int64.toUInt64 63)).toInt64)) &&& (1085102592571150095 : Int64) = c
  rw [show bc3 b = c from h3]
  unfold bcs
  rfl
theorem low7 (y : Int64) : (y.toInt32 &&& (127 : Int32)).toInt = ((uN6 y % 128 : Nat) : Int) := by
  have e : (y.toInt32 &&& (127 : Int32)).toBitVec.toNat = uN6 y % 128 := by
    rw [Int32.toBitVec_and, BitVec.toNat_and, Int64.toBitVec_toInt32, BitVec.signExtend_eq_setWidth_of_le _ (by decide), BitVec.toNat_setWidth]
    show (uN6 y % 2 ^ 32 &&& 127) = _
    have k : (uN6 y % 2 ^ 32) &&& (2 ^ 7 - 1) = uN6 y % 2 ^ 32 % 2 ^ 7 := Nat.and_two_pow_sub_one_eq_mod _ _
    rw [show (2 : Nat) ^ 7 - 1 = 127 from rfl] at k
    rw [k]
    omega
  show (y.toInt32 &&& (127 : Int32)).toBitVec.toInt = _
  rw [BitVec.toInt_eq_toNat_of_lt (by rw [e]; omega), e]
theorem bc1_n (v : Int64) : uN6 (bc1 v) = g1 (mk 85 8) (uN6 v) := by
  unfold bc1 g1
  have m : uN6 (6148914691236517205 : Int64) = mk 85 8 := by decide +kernel
  have s := uN6_shr (v := v) (s := 1) (k := 1) (by decide +kernel)
  have le : (uN6 v / 2 ^ 1 &&& mk 85 8) ≤ uN6 v / 2 ^ 1 := Nat.and_le_left
  have le2 : uN6 v / 2 ^ 1 ≤ uN6 v := Nat.div_le_self _ _
  rw [uN6_sub (by rw [uN6_and, s, m]; exact Nat.le_trans le le2), uN6_and, s, m]
theorem bc2_n (v : Int64) : uN6 (bc2 v) = g2 (mk 51 8) (uN6 v) ∧ g2 (mk 51 8) (uN6 v) ≤ 7378697629483820646 := by
  unfold bc2 g2
  have m : uN6 (3689348814741910323 : Int64) = 3689348814741910323 := by decide +kernel
  have mv : mk 51 8 = 3689348814741910323 := by decide +kernel
  have s := uN6_shr (v := v) (s := 2) (k := 2) (by decide +kernel)
  have l1 : (uN6 v &&& 3689348814741910323) ≤ 3689348814741910323 := Nat.and_le_right
  have l2 : (uN6 v / 4 &&& 3689348814741910323) ≤ 3689348814741910323 := Nat.and_le_right
  rw [show (2 : Nat) ^ 2 = 4 from rfl] at s
  rw [mv]
  refine ⟨?_, Nat.add_le_add l1 l2⟩
  have a1 : uN6 (v &&& (3689348814741910323 : Int64)) = (uN6 v &&& 3689348814741910323) := by rw [uN6_and, m]
  have a2 : uN6 (((v.toUInt64 >>> ((2 : Int32).toInt64.toUInt64 &&& Int64.toUInt64 63)).toInt64) &&& (3689348814741910323 : Int64)) = (uN6 v / 4 &&& 3689348814741910323) := by rw [uN6_and, s, m]
  rw [uN6_add (by rw [a1, a2]; exact Nat.lt_of_le_of_lt (Nat.add_le_add l1 l2) (by decide +kernel)), a1, a2]
theorem bc3_n (v : Int64) (h : uN6 v ≤ 7378697629483820646) : uN6 (bc3 v) = g3 (mk 15 8) (uN6 v) := by
  unfold bc3 g3
  have m : uN6 (1085102592571150095 : Int64) = mk 15 8 := by decide +kernel
  have s := uN6_shr (v := v) (s := 4) (k := 4) (by decide +kernel)
  rw [show (2 : Nat) ^ 4 = 16 from rfl] at s
  have le2 : uN6 v / 16 ≤ uN6 v := Nat.div_le_self _ _
  rw [uN6_and, uN6_add (by rw [s]; exact Nat.lt_of_le_of_lt (Nat.add_le_add h (Nat.le_trans le2 h)) (by decide +kernel)), s, m]
theorem bcs_n {v : Int64} {s : Int32} {k : Nat} (hs : ((s.toInt64.toUInt64 &&& Int64.toUInt64 63).toBitVec % 64).toNat = k) (h : uN6 v + uN6 v / 2 ^ k < 2 ^ 64) : uN6 (bcs s v) = uN6 v + uN6 v / 2 ^ k := by
  unfold bcs
  have e := uN6_shr (v := v) hs
  rw [uN6_add (by rw [e]; exact h), e]
theorem dvq {k T r : Nat} (h : r < k) : (k * T + r) / k = T := by
  rw [Nat.mul_add_div (by omega), Nat.div_eq_of_lt h, Nat.add_zero]
theorem fo1 {a n7 S u : Nat} (ha : a ≤ 8) (eS : S = 256 * n7 + a) (hu : u = S + S / 256) : u = 257 * n7 + a := by
  have q : S / 256 = n7 := by
    rw [eS]
    exact dvq (by omega)
  rw [q] at hu
  omega
theorem fo2 {a b c n5 n6 n7 u : Nat} (ha : a ≤ 8) (hb : b ≤ 8) (hc : c ≤ 8) (e7 : n7 = 256 * n6 + b) (e6 : n6 = 256 * n5 + c) (hu : u = 257 * n7 + a) : u / 65536 = n6 + n5 := by
  have e : u = 65536 * (n6 + n5) + (256 * c + 257 * b + a) := by omega
  rw [e]
  exact dvq (by omega)
theorem fo3 {a b c n5 n6 n7 w : Nat} (e7 : n7 = 256 * n6 + b) (e6 : n6 = 256 * n5 + c) (hw : w = 257 * n7 + a + (n6 + n5)) : w = 16843009 * n5 + (65793 * c + 257 * b + a) := by omega
theorem fo4 {d e f g h n2 n3 n4 n5 : Nat} (e5 : n5 = 256 * n4 + d) (e4 : n4 = 256 * n3 + e) (e3 : n3 = 256 * n2 + f) (e2 : n2 = 256 * h + g) : 16843009 * n5 = 4294967296 * (n4 + n3 + n2 + h) + (16777216 * g + 16842752 * f + 16843008 * e + 16843009 * d) := by omega
theorem fo5 {a b c d e f g h r : Nat} (ha : a ≤ 8) (hb : b ≤ 8) (hc : c ≤ 8) (hd : d ≤ 8) (he : e ≤ 8) (hf : f ≤ 8) (hg : g ≤ 8) (hr : r = (16777216 * g + 16842752 * f + 16843008 * e + 16843009 * d) + (65793 * c + 257 * b + a)) : r < 4294967296 := by
  have a1 : 16777216 * g ≤ 134217728 := by omega
  have a2 : 16842752 * f ≤ 134742016 := by omega
  have a3 : 16843008 * e ≤ 134744064 := by omega
  have a4 : 16843009 * d ≤ 134744072 := by omega
  have a5 : 65793 * c ≤ 526344 := by omega
  have a6 : 257 * b ≤ 2056 := by omega
  generalize 16777216 * g = x1 at hr a1
  generalize 16842752 * f = x2 at hr a2
  generalize 16843008 * e = x3 at hr a3
  generalize 16843009 * d = x4 at hr a4
  generalize 65793 * c = x5 at hr a5
  generalize 257 * b = x6 at hr a6
  clear hb hc hd he hf hg
  omega
theorem fo6 {a b c d e f g h n2 n3 n4 n5 n6 n7 z : Nat} (e7 : n7 = 256 * n6 + b) (e6 : n6 = 256 * n5 + c) (e5 : n5 = 256 * n4 + d) (e4 : n4 = 256 * n3 + e) (e3 : n3 = 256 * n2 + f) (e2 : n2 = 256 * h + g) (hz : z = 257 * n7 + a + (n6 + n5) + (n4 + n3 + n2 + h)) : z = 128 * (2 * (n7 + n6 + n5 + n4 + n3 + n2 + h)) + (a + b + c + d + e + f + g + h) := by
  have : z = 256 * n7 + n7 + a + n6 + n5 + n4 + n3 + n2 + h := by clear e7 e6 e5 e4 e3 e2; omega
  rw [this]
  clear this hz
  have x7 : 256 * n6 = n7 - b ∧ b ≤ n7 := by clear e6 e5 e4 e3 e2; omega
  have x6 : 256 * n5 = n6 - c ∧ c ≤ n6 := by clear e7 e5 e4 e3 e2 x7; omega
  have x5 : 256 * n4 = n5 - d ∧ d ≤ n5 := by clear e7 e6 e4 e3 e2 x7 x6; omega
  have x4 : 256 * n3 = n4 - e ∧ e ≤ n4 := by clear e7 e6 e5 e3 e2 x7 x6 x5; omega
  have x3 : 256 * n2 = n3 - f ∧ f ≤ n3 := by clear e7 e6 e5 e4 e2 x7 x6 x5 x4; omega
  have x2 : 256 * h = n2 - g ∧ g ≤ n2 := by clear e7 e6 e5 e4 e3 x7 x6 x5 x4 x3; omega
  clear e7 e6 e5 e4 e3 e2
  omega
theorem fold8 {S a b c d e f g h n2 n3 n4 n5 n6 n7 u w z : Nat} (ha : a ≤ 8) (hb : b ≤ 8) (hc : c ≤ 8) (hd : d ≤ 8) (he : e ≤ 8) (hf : f ≤ 8) (hg : g ≤ 8) (hh : h ≤ 8) (e2 : n2 = 256 * h + g) (e3 : n3 = 256 * n2 + f) (e4 : n4 = 256 * n3 + e) (e5 : n5 = 256 * n4 + d) (e6 : n6 = 256 * n5 + c) (e7 : n7 = 256 * n6 + b) (hS : S = 256 * n7 + a) (hu : u = S + S / 256) (hw : w = u + u / 65536) (hz : z = w + w / 4294967296) : z % 128 = a + b + c + d + e + f + g + h := by
  have u1 := fo1 ha hS hu
  rw [fo2 ha hb hc e7 e6 u1, u1] at hw
  have w1 := fo3 e7 e6 hw
  rw [fo4 e5 e4 e3 e2, Nat.add_assoc] at w1
  have q : w / 4294967296 = n4 + n3 + n2 + h := by
    rw [w1]
    exact dvq (fo5 ha hb hc hd he hf hg rfl (h := h))
  rw [q, hw] at hz
  rw [fo6 e7 e6 e5 e4 e3 e2 hz, Nat.mul_add_mod]
  refine Nat.mod_eq_of_lt ?_
  clear e2 e3 e4 e5 e6 e7 hS hu hw hz u1 w1 q
  omega
theorem mk_1 {N a B : Nat} (ha : a ≤ 8) (hN : N ≤ B) : 256 * N + a ≤ 256 * B + 8 := Nat.add_le_add (Nat.mul_le_mul_left 256 hN) ha
theorem mk_le {S : Nat} {a b c d e f g h : Nat} (ha : a ≤ 8) (hb : b ≤ 8) (hc : c ≤ 8) (hd : d ≤ 8) (he : e ≤ 8) (hf : f ≤ 8) (hg : g ≤ 8) (hh : h ≤ 8) (hS : S = 256 * (256 * (256 * (256 * (256 * (256 * (256 * h + g) + f) + e) + d) + c) + b) + a) : S ≤ 578721382704613384 := by
  rw [hS]
  exact mk_1 ha (mk_1 hb (mk_1 hc (mk_1 hd (mk_1 he (mk_1 hf (mk_1 hg hh))))))
theorem pc_8 (x : Nat) : ∃ a b c d e f g h : Nat, a ≤ 8 ∧ b ≤ 8 ∧ c ≤ 8 ∧ d ≤ 8 ∧ e ≤ 8 ∧ f ≤ 8 ∧ g ≤ 8 ∧ h ≤ 8 ∧ pcS 8 x = 256 * (256 * (256 * (256 * (256 * (256 * (256 * h + g) + f) + e) + d) + c) + b) + a ∧ pcC 8 x = a + b + c + d + e + f + g + h := by
  refine ⟨pcB (x % 256), pcB (x / 256 % 256), pcB (x / 256 / 256 % 256), pcB (x / 256 / 256 / 256 % 256), pcB (x / 256 / 256 / 256 / 256 % 256), pcB (x / 256 / 256 / 256 / 256 / 256 % 256), pcB (x / 256 / 256 / 256 / 256 / 256 / 256 % 256), pcB (x / 256 / 256 / 256 / 256 / 256 / 256 / 256 % 256), pcB_8 _, pcB_8 _, pcB_8 _, pcB_8 _, pcB_8 _, pcB_8 _, pcB_8 _, pcB_8 _, ?_, ?_⟩
  · rw [pcS_s, pcS_s, pcS_s, pcS_s, pcS_s, pcS_s, pcS_s, pcS_s, pcS_z, Nat.mul_zero, Nat.zero_add]
  · rw [pcC_s, pcC_s, pcC_s, pcC_s, pcC_s, pcC_s, pcC_s, pcC_s, pcC_z]
    omega
/-- Long.bitCount -/
theorem bitc {v : Int64} {x : Int32} (e : f_JLong_bitCount v = some x) : x.toInt = (((List.range 64).countP (fun d => bl v d) : Nat) : Int) := by
  rw [bc_eq] at e
  obtain rfl := Option.some.inj e
  rw [low7]
  have lt := uN6_lt v
  have n2 := bc2_n (bc1 v)
  have n3 := bc3_n (bc2 (bc1 v)) (by rw [n2.1]; exact n2.2)
  rw [n2.1, bc1_n, pc_n 8 (uN6 v) (by rw [show (256 : Nat) ^ 8 = 2 ^ 64 by decide +kernel]; exact lt)] at n3
  have c : pcC 8 (uN6 v) = (List.range 64).countP (fun d => bl v d) := pcC_n 8 (uN6 v)
  obtain ⟨b1, b2, b3, b4, b5, b6, b7, b8, h1, h2, h3, h4, h5, h6, h7, h8, hS, hC⟩ := pc_8 (uN6 v)
  have L := mk_le h1 h2 h3 h4 h5 h6 h7 h8 hS
  generalize bc3 (bc2 (bc1 v)) = y at n3 ⊢
  rw [← n3] at hS L
  have p64 : (2 : Nat) ^ 64 = 18446744073709551616 := by decide +kernel
  have e1 := bcs_n (v := y) (s := 8) (k := 8) (by decide +kernel) (by rw [p64, show (2 : Nat) ^ 8 = 256 from rfl]; omega)
  rw [show (2 : Nat) ^ 8 = 256 from rfl] at e1
  have e2 := bcs_n (v := bcs 8 y) (s := 16) (k := 16) (by decide +kernel) (by rw [p64, show (2 : Nat) ^ 16 = 65536 by decide +kernel]; omega)
  rw [show (2 : Nat) ^ 16 = 65536 by decide +kernel] at e2
  have e3 := bcs_n (v := bcs 16 (bcs 8 y)) (s := 32) (k := 32) (by decide +kernel) (by rw [p64, show (2 : Nat) ^ 32 = 4294967296 by decide +kernel]; omega)
  rw [show (2 : Nat) ^ 32 = 4294967296 by decide +kernel] at e3
  have F := fold8 h1 h2 h3 h4 h5 h6 h7 h8 rfl rfl rfl rfl rfl rfl hS e1 e2 e3
  rw [F, ← c, hC]
end
section
/-! sets of cells as two numbers; reach -/
theorem bl_18 : ∀ d : Fin 64, bl (262143 : Int64) d.val = decide (d.val < 18) := by decide +kernel
theorem t32_b {y : Int64} {j : Nat} (hj : j < 32) : bt y.toInt32 j = bl y j := by
  unfold bt bl
  rw [Int64.toBitVec_toInt32, BitVec.getLsbD_signExtend, decide_eq_true hj, if_pos (by omega), Bool.true_and]
theorem set_a {y : Int64} (j : Nat) : bt (y &&& (262143 : Int64)).toInt32 j = (decide (j < 18) && bl y j) := by
  by_cases h : j < 32
  · rw [t32_b h, bl_and, bl_18 ⟨j, by omega⟩, Bool.and_comm]
  · rw [bt_hi (by omega), decide_eq_false (by omega), Bool.false_and]
theorem set_b {y : Int64} (hy : ∀ c, bl y c = true → c < 36) (j : Nat) : bt (y >>> ((18 : Int32).toInt64 &&& 63)).toInt32 j = (decide (j < 18) && bl y (18 + j)) := by
  have k18 : (18 : Int32).toInt = ((18 : Nat) : Int) := rfl
  by_cases h : j < 32
  · rw [t32_b h, bl_sr k18 (by omega) (by omega)]
    by_cases g : j < 18
    · rw [decide_eq_true g, Bool.true_and]
    · rw [decide_eq_false g, Bool.false_and]
      cases hb : bl y (18 + j) with
      | false => rfl
      | true => have := hy _ hb; omega
  · rw [bt_hi (by omega), decide_eq_false (by omega), Bool.false_and]
/-- two numbers that say of which cells P holds -/
def LW (P : Nat → Bool) (q : Nat) (a b : Int32) : Prop := (∀ j, bt a j = (decide (j < 18) && decide (j < q) && P j)) ∧ (∀ j, bt b j = (decide (j < 18) && decide (18 + j < q) && P (18 + j)))
theorem LW_set {P : Nat → Bool} {y : Int64} {a b : Int32} (hy : ∀ c, bl y c = true ↔ (c < 36 ∧ P c = true)) (h : LW P 36 a b) : (y &&& (262143 : Int64)).toInt32 = a ∧ (y >>> ((18 : Int32).toInt64 &&& 63)).toInt32 = b := by
  have e : ∀ c, c < 36 → bl y c = P c := fun c hc => by
    cases hp : P c with
    | true => exact (hy c).mpr ⟨hc, hp⟩
    | false =>
      cases hb : bl y c with
      | false => rfl
      | true => have := ((hy c).mp hb).2; rw [hp] at this; cases this
  constructor
  · refine bt_ext (fun j _ => ?_)
    rw [set_a, h.1]
    by_cases g : j < 18
    · rw [e j (by omega), decide_eq_true g, decide_eq_true (show j < 36 by omega)]; rfl
    · rw [decide_eq_false g]; rfl
  · refine bt_ext (fun j _ => ?_)
    rw [set_b (fun c hc => ((hy c).mp hc).1), h.2]
    by_cases g : j < 18
    · rw [e (18 + j) (by omega), decide_eq_true g, decide_eq_true (show 18 + j < 36 by omega)]; rfl
    · rw [decide_eq_false g]; rfl
theorem LW_0 {P : Nat → Bool} : LW P 0 (0 : Int32) (0 : Int32) := ⟨fun j => by rw [bt_0, decide_eq_false (show ¬ j < 0 by omega), Bool.and_false, Bool.false_and], fun j => by rw [bt_0, decide_eq_false (show ¬ 18 + j < 0 by omega), Bool.and_false, Bool.false_and]⟩
theorem LW_n {P : Nat → Bool} {q : Nat} {a b : Int32} (h : LW P q a b) (hp : P q = false) : LW P (q + 1) a b := by
  have key : ∀ j, (decide (j < q) && P j) = (decide (j < q + 1) && P j) := fun j => by
    by_cases g : j = q
    · subst g; rw [hp, Bool.and_false, Bool.and_false]
    · by_cases k : j < q
      · rw [decide_eq_true k, decide_eq_true (show j < q + 1 by omega)]
      · rw [decide_eq_false k, decide_eq_false (show ¬ j < q + 1 by omega)]
  exact ⟨fun j => by rw [h.1, Bool.and_assoc, Bool.and_assoc, key], fun j => by rw [h.2, Bool.and_assoc, Bool.and_assoc, key]⟩
theorem LW_a {P : Nat → Bool} {q : Nat} {a b v : Int32} (h : LW P q a b) (hp : P q = true) (q18 : q < 18) (hv : v.toInt = (q : Int)) : LW P (q + 1) (a ||| ((1 : Int32) <<< (v &&& 31))) b := by
  refine ⟨fun j => ?_, fun j => ?_⟩
  · rw [bt_b1 a hv (by omega), h.1]
    by_cases g : j = q
    · subst g; rw [hp, decide_eq_true q18, decide_eq_true (show j < j + 1 by omega), decide_eq_true (rfl : j = j)]; simp
    · rw [decide_eq_false g, Bool.or_false]
      by_cases k : j < q
      · rw [decide_eq_true k, decide_eq_true (show j < q + 1 by omega)]
      · rw [decide_eq_false k, decide_eq_false (show ¬ j < q + 1 by omega)]
  · rw [h.2, decide_eq_false (show ¬ 18 + j < q by omega), decide_eq_false (show ¬ 18 + j < q + 1 by omega)]
theorem LW_b {P : Nat → Bool} {q : Nat} {a b v : Int32} (h : LW P q a b) (hp : P q = true) (q18 : 18 ≤ q) (q36 : q < 36) (hv : v.toInt = ((q - 18 : Nat) : Int)) : LW P (q + 1) a (b ||| ((1 : Int32) <<< (v &&& 31))) := by
  refine ⟨fun j => ?_, fun j => ?_⟩
  · rw [h.1]
    by_cases g : j < 18
    · rw [decide_eq_true g, decide_eq_true (show j < q by omega), decide_eq_true (show j < q + 1 by omega)]
    · rw [decide_eq_false g, Bool.false_and, Bool.false_and, Bool.false_and, Bool.false_and]
  · rw [bt_b1 b hv (by omega), h.2]
    by_cases g : 18 + j = q
    · have : j = q - 18 := by omega
      rw [g, hp, decide_eq_true this, decide_eq_true (show j < 18 by omega), decide_eq_true (show q < q + 1 by omega)]; simp
    · rw [decide_eq_false (show ¬ j = q - 18 by omega), Bool.or_false]
      by_cases k : 18 + j < q
      · rw [decide_eq_true k, decide_eq_true (show 18 + j < q + 1 by omega)]
      · rw [decide_eq_false k, decide_eq_false (show ¬ 18 + j < q + 1 by omega)]
/-- c / 18 and c % 18 -/
theorem lw_ix {v : Int32} {q : Nat} (hv : v.toInt = (q : Int)) (q36 : q < 36) : (q < 18 → (v / (18 : Int32)).toNatClampNeg = 0 ∧ (v - v / (18 : Int32) * (18 : Int32)).toInt = (q : Int)) ∧ (18 ≤ q → (v / (18 : Int32)).toNatClampNeg = 1 ∧ (v - v / (18 : Int32) * (18 : Int32)).toInt = ((q - 18 : Nat) : Int)) := by
  have k18 : (18 : Int32).toInt = 18 := rfl
  have d := div_ti hv k18 (by omega) (by omega)
  constructor
  · intro h
    have d0 : (v / (18 : Int32)).toInt = ((0 : Nat) : Int) := by rw [d]; omega
    refine ⟨q_nat d0, ?_⟩
    rw [sub_ti hv (mul_ti d0 k18 (by omega) (by omega)) (by omega) (by omega)]; omega
  · intro h
    have d0 : (v / (18 : Int32)).toInt = ((1 : Nat) : Int) := by rw [d]; omega
    refine ⟨q_nat d0, ?_⟩
    rw [sub_ti hv (mul_ti d0 k18 (by omega) (by omega)) (by omega) (by omega)]; omega
def farB (N : Mem) (l c : Nat) : Bool := decide ((N.1 177 (36 * l + c)).toInt < 1000000)
theorem low_r {v1 : Int32} {l : Nat} {N x : Mem} (h1 : v1.toInt = (l : Int)) (l2 : l < 2) (h0 : N.1 178 0 = 0 ∧ N.1 178 1 = 0) (e : iter (lb_Mod_putCells_16 v1) FU ((0 : Int32), N) = some x) : LW (farB N l) 36 (x.1 178 0) (x.1 178 1) ∧ (∀ kx i, kx ≠ 178 → x.1 kx i = N.1 kx i) ∧ x.2 = N.2 := by
  have k36 : (36 : Int32).toInt = 36 := rfl
  have km : (1000000 : Int32).toInt = 1000000 := rfl
  refine it_r (I := fun s : Int32 × Mem => ∃ q : Nat, q ≤ 36 ∧ s.1.toInt = (q : Int) ∧ LW (farB N l) q (s.2.1 178 0) (s.2.1 178 1) ∧ (∀ kx i, kx ≠ 178 → s.2.1 kx i = N.1 kx i) ∧ s.2.2 = N.2) (Q := fun x : Mem => LW (farB N l) 36 (x.1 178 0) (x.1 178 1) ∧ (∀ kx i, kx ≠ 178 → x.1 kx i = N.1 kx i) ∧ x.2 = N.2) ?_ e ⟨0, by omega, rfl, by rw [h0.1, h0.2]; exact LW_0, fun _ _ _ => rfl, rfl⟩
  rintro ⟨i, T⟩ r ⟨q, q36, hq, h, hf, h2⟩ e
  dsimp only at hq h hf h2
  unfold lb_Mod_putCells_16 at e
  dsimp only at e
  rcases io e with ⟨g, e⟩ | ⟨g, e⟩
  · have := q_le g
    obtain rfl := Option.some.inj e
    have : q = 36 := by omega
    subst this
    exact ⟨h, hf, h2⟩
  have g1 := q_ng g
  have i1 : (i + (1 : Int32)).toInt = ((q + 1 : Nat) : Int) := add_ti hq o1 (by omega) (by omega)
  obtain ⟨x3, e3, e⟩ := bo e
  obtain ⟨_, e⟩ := io_n e
  have p3 := place_c h1 hq l2 (by omega) e3
  rw [q_nat p3, hf 177 _ (by omega)] at e
  rcases io e with ⟨g, e⟩ | ⟨g, e⟩
  · have gg := q_le g
    obtain rfl := Option.some.inj e
    exact ⟨q + 1, by omega, i1, LW_n h (decide_eq_false (by omega)), hf, h2⟩
  have gg := q_ng g
  have pq : farB N l q = true := decide_eq_true (by omega)
  obtain ⟨_, e⟩ := io_n e
  obtain ⟨_, e⟩ := io_n e
  obtain ⟨M4, m4, e⟩ := mo e
  obtain rfl := Option.some.inj e
  obtain ⟨ia, ib⟩ := lw_ix hq (show q < 36 by omega)
  refine ⟨q + 1, by omega, i1, ?_, fun kx j hk => by rw [m4, si_ne (by omega)]; exact hf kx j hk, by rw [m4, si_2]; exact h2⟩
  rcases Nat.lt_or_ge q 18 with c | c
  · obtain ⟨i0, iv⟩ := ia c
    rw [i0] at m4
    rw [m4, si_eq, si_ne (by omega)]
    exact LW_a h pq c iv
  · obtain ⟨i0, iv⟩ := ib c
    rw [i0] at m4
    rw [m4, si_eq, si_ne (by omega)]
    exact LW_b h pq c (by omega) iv
/-- a set is told: the class's two numbers and the reference's -/
theorem sets_2 {X x R S r : Mem} {k : Nat} {y : Int64} {P : Nat → Bool} (hy : ∀ c, bl y c = true ↔ (c < 36 ∧ P c = true)) (ex : f_Top_noteSet y X = some x) (h : LW P 36 (R.1 178 0) (R.1 178 1)) (h1 : f_Mod_put (R.1 178 0) R = some S) (h2 : f_Mod_put (S.1 178 1) S = some r) : (RRn k X R → k ≤ 8 → RRn (k + 2) x r) ∧ (∀ kx i, kx ≠ 161 → ¬ (kx = 0 ∧ i = 15) → x.1 kx i = X.1 kx i) ∧ x.2 = X.2 ∧ (∀ kx i, kx ≠ 168 → ¬ (kx = 162 ∧ i = 12) → r.1 kx i = R.1 kx i) := by
  obtain ⟨a, b⟩ := LW_set hy h
  unfold f_Top_noteSet at ex
  obtain ⟨x1, e1, ex⟩ := bo ex
  obtain ⟨x2, e2, ex⟩ := bo ex
  obtain rfl := Option.some.inj ex
  have p1 := put_i h1
  have p2 := put_i h2
  have n1 := note_i e1
  have n2 := note_i e2
  refine ⟨fun rr k8 => ?_, fun kx i u w => by rw [n2.1 kx i u w]; exact n1.1 kx i u w, by rw [n2.2, n1.2], fun kx i u w => by rw [p2 kx i u w]; exact p1 kx i u w⟩
  exact RR_n (RR_n rr (by omega) a e1 h1) (by omega) (by rw [b, p1 178 1 (by omega) (by omega)]) e2 h2
theorem putC_r {v1 : Int32} {l : Nat} {N r : Mem} (h1 : v1.toInt = (l : Int)) (l2 : l < 2) (e : f_Mod_putCells v1 N = some r) : ∃ T S : Mem, LW (farB N l) 36 (T.1 178 0) (T.1 178 1) ∧ (∀ kx i, kx ≠ 178 → T.1 kx i = N.1 kx i) ∧ T.2 = N.2 ∧ f_Mod_put (T.1 178 0) T = some S ∧ f_Mod_put (S.1 178 1) S = some r := by
  unfold f_Mod_putCells at e
  rw [show (0 : Int32).toNatClampNeg = 0 from rfl, show (1 : Int32).toNatClampNeg = 1 from rfl] at e
  obtain ⟨M1, m1, e⟩ := mo e
  obtain ⟨M2, m2, e⟩ := mo e
  obtain ⟨x7, e7, e⟩ := bo e
  obtain ⟨x8, e8, e⟩ := bo e
  obtain ⟨x9, e9, e⟩ := bo e
  obtain rfl := Option.some.inj e
  have f2 : ∀ kx i, kx ≠ 178 → M2.1 kx i = N.1 kx i := fun kx i h => by rw [m2, si_ne (by omega), m1, si_ne (by omega)]
  obtain ⟨a, b, c⟩ := low_r h1 l2 ⟨by rw [m2, si_ne (by omega), m1, si_eq], by rw [m2, si_eq]⟩ e7
  have fb : farB M2 l = farB N l := by funext j; unfold farB; rw [f2 177 _ (by omega)]
  rw [fb] at a
  exact ⟨x7, x8, a, fun kx i h => by rw [b kx i h]; exact f2 kx i h, by rw [c, m2, si_2, m1, si_2], e8, e9⟩
theorem reached_i {v1 : Int32} {l : Nat} {N : Mem} {x : Int32} (h1 : v1.toInt = (l : Int)) (l2 : l < 2) (e : f_Mod_reached v1 N = some x) : x.toInt = (((List.range 36).countP (farB N l) : Nat) : Int) := by
  have k36 : (36 : Int32).toInt = 36 := rfl
  have km : (1000000 : Int32).toInt = 1000000 := rfl
  unfold f_Mod_reached at e
  obtain ⟨x4, e4, e⟩ := bo e
  obtain rfl := Option.some.inj e
  refine it_r (I := fun s : Int32 × Int32 => ∃ k : Nat, k ≤ 36 ∧ s.2.toInt = (k : Int) ∧ s.1.toInt = (((List.range k).countP (farB N l) : Nat) : Int)) (Q := fun x : Int32 => x.toInt = (((List.range 36).countP (farB N l) : Nat) : Int)) ?_ e4 ⟨0, by omega, rfl, rfl⟩
  rintro ⟨cn, i⟩ r ⟨k, k36', hk, h⟩ e
  dsimp only at hk h
  unfold lb_Mod_reached_4 at e
  dsimp only at e
  rcases io e with ⟨g, e⟩ | ⟨g, e⟩
  · have := q_le g
    obtain rfl := Option.some.inj e
    have : k = 36 := by omega
    subst this
    exact h
  have g1 := q_ng g
  have i1 : (i + (1 : Int32)).toInt = ((k + 1 : Nat) : Int) := add_ti hk o1 (by omega) (by omega)
  have le := cnt_le (farB N l) k
  obtain ⟨x1, e1, e⟩ := bo e
  obtain ⟨_, e⟩ := io_n e
  rw [q_nat (place_c h1 hk l2 (by omega) e1)] at e
  rcases io e with ⟨g, e⟩ | ⟨g, e⟩
  · have gg := q_le g
    obtain rfl := Option.some.inj e
    have n : farB N l k = false := decide_eq_false (by omega)
    refine ⟨k + 1, by omega, i1, ?_⟩
    rw [cnt_s, n, if_neg (by decide)]
    show (cn + (0 : Int32)).toInt = _
    rw [add_ti h o0 (by omega) (by omega)]; omega
  · have gg := q_ng g
    obtain rfl := Option.some.inj e
    have n : farB N l k = true := decide_eq_true (by omega)
    refine ⟨k + 1, by omega, i1, ?_⟩
    rw [cnt_s, n, if_pos rfl]
    show (cn + (1 : Int32)).toInt = _
    rw [add_ti h o1 (by omega) (by omega)]; omega
theorem cnt_64 {P Q : Nat → Bool} (h : ∀ c, c < 64 → (P c = true ↔ (c < 36 ∧ Q c = true))) : (List.range 64).countP P = (List.range 36).countP Q := by
  have e : ∀ c, c < 36 → P c = Q c := fun c hc => by
    cases hq : Q c with
    | true => exact (h c (by omega)).mpr ⟨hc, hq⟩
    | false =>
      cases hp : P c with
      | false => rfl
      | true => have := ((h c (by omega)).mp hp).2; rw [hq] at this; cases this
  rw [show 64 = 36 + 28 by rfl, cnt_add]
  have z : (List.range 28).countP (fun i => P (36 + i)) = 0 := by
    rw [List.countP_eq_zero]
    intro i hi
    have := List.mem_range.mp hi
    intro w
    have := ((h (36 + i) (by omega)).mp w).1
    omega
  rw [z, Nat.add_zero]
  refine List.countP_congr (fun c hc => ?_)
  rw [e c (List.mem_range.mp hc)]
theorem reach_q {X R : Mem} {n : Nat} {v1 v2 : Int32} {x r : Int32 × Mem} (hJ : J X) (za : ZA X R n) (ex : f_Top_reach v1 v2 X = some x) (er : f_Mod_reach v1 v2 R = some r) : x.1 = r.1 ∧ (RR X R → RR x.2 r.2) := by
  have z0 := o0
  have z1 := o1
  unfold f_Mod_reach at er
  obtain ⟨M1, m1, er⟩ := mo er
  obtain ⟨zaM, fqM⟩ := ZA_M1 za m1
  obtain ⟨n8, jM, ⟨zg, zc, zl⟩, zs, zv, zw⟩ := zaM.1
  have wh := awh jM
  unfold f_Top_reach at ex
  obtain ⟨y2, ey2, er⟩ := bo er
  have hin := some_of (sp_in v1 0 1) ey2
  rw [o0, o1] at hin
  have out : y2 = 0 → some ((-1 : Int32), X) = some x → x.1 = r.1 ∧ (RR X R → RR x.2 r.2) := by
    intro a ex
    rw [a, if_pos rfl] at er
    obtain rfl := Option.some.inj ex
    obtain rfl := Option.some.inj er
    exact ⟨rfl, FQ2_RR fqM⟩
  rcases io ex with ⟨g, ex⟩ | ⟨g, ex⟩
  · have g := q_lt g
    rcases hin with ⟨a, b⟩ | ⟨a, b⟩
    · omega
    exact out a ex
  have g1 := q_nl g
  rcases io ex with ⟨g, ex⟩ | ⟨g, ex⟩
  · have g := q_lt g
    rcases hin with ⟨a, b⟩ | ⟨a, b⟩
    · omega
    exact out a ex
  have g2 := q_nl g
  rcases hin with ⟨a, _⟩ | ⟨_, b⟩
  rotate_left
  · exact absurd ⟨by omega, by omega⟩ b
  rw [a, if_neg (by decide)] at er
  obtain ⟨l, hl⟩ := ti_ofn (v := v1) (by omega)
  have l2 : l < 2 := by omega
  obtain ⟨x1, ex1, ex⟩ := bo ex
  obtain ⟨y3, ey3, er⟩ := bo er
  have hx := has_j zg jM ex1
  have hy := some_of (sp_isCell jM v2) ey3
  rcases hx with ⟨a, b1, b2⟩ | ⟨a, b⟩
  rotate_left
  · rcases hy with ⟨c, d⟩ | ⟨c, _⟩
    · exact absurd ⟨d.1, d.2.2⟩ b
    rw [a, if_pos rfl] at ex
    rw [c, if_pos rfl] at er
    obtain rfl := Option.some.inj ex
    obtain rfl := Option.some.inj er
    exact ⟨rfl, FQ2_RR fqM⟩
  rcases hy with ⟨c, _⟩ | ⟨_, d⟩
  rotate_left
  · exact absurd ⟨b1, b2⟩ d
  rw [a, if_neg (by decide)] at ex
  rw [c, if_neg (by decide)] at er
  obtain ⟨f, hf⟩ := ti_ofn b1
  obtain ⟨x2, ex2, ex⟩ := bo ex
  obtain ⟨y4, ey4, er⟩ := bo er
  have ho := holdsC zg jM ex2
  have hr := some_of (fs_isOf jM v1 v2) ey4
  rcases ho with ⟨a, _, _, on⟩ | ⟨a, nn⟩
  rotate_left
  · rcases hr with ⟨c, on⟩ | ⟨c, _⟩
    · exact absurd ⟨by omega, by omega, on⟩ nn
    rw [a, if_pos rfl] at ex
    rw [c, if_pos rfl] at er
    obtain rfl := Option.some.inj ex
    obtain rfl := Option.some.inj er
    exact ⟨rfl, FQ2_RR fqM⟩
  rcases hr with ⟨c, _⟩ | ⟨_, nn⟩
  rotate_left
  · exact absurd on nn
  rw [a, if_neg (by decide)] at ex
  rw [c, if_neg (by decide)] at er
  rw [hl, hf] at on
  obtain ⟨y, ey, ex⟩ := bo ex
  obtain ⟨X4, e4, ex⟩ := bo ex
  obtain ⟨X5, e5, ex⟩ := bo ex
  obtain ⟨x6, e6, ex⟩ := bo ex
  obtain rfl := Option.some.inj ex
  obtain ⟨p5, ep5, er⟩ := bo er
  obtain ⟨R6, er6, er⟩ := bo er
  obtain ⟨M7, m7, er⟩ := mo er
  obtain ⟨R8, er8, er⟩ := bo er
  obtain ⟨x9, er9, er⟩ := bo er
  obtain rfl := Option.some.inj er
  obtain ⟨F1, F2, F3⟩ := flood_2 hJ jM zv zw hl l2 hf (by omega) on (place_c hl hf l2 (by omega) ep5) ey er6
  have f7 : ∀ kx i, ¬ (kx = 162 ∧ i = 12) → M7.1 kx i = R6.1 kx i := fun kx i h => by rw [m7, si_ne h]
  obtain ⟨T, S, t1, t2, _, t4, t5⟩ := putC_r hl l2 er8
  have fb7 : farB M7 l = farB R6 l := by funext j; unfold farB; rw [f7 177 _ (by omega)]
  have hyb : ∀ c, bl y c = true ↔ (c < 36 ∧ farB M7 l c = true) := fun c => by
    rw [fb7, F1 c]
    unfold farB
    rw [decide_eq_true_eq]
  obtain ⟨s1, s2, _, s4⟩ := sets_2 (k := 0) hyb e5 t1 t4 t5
  have R0 := RR_0 e4 m7
  refine ⟨?_, fun _ => RRn_r (k := 2) (by omega) (s1 ⟨R0.1, ?_, fun i hi => by omega⟩ (by omega))⟩
  · have B := bitc e6
    have C := reached_i hl l2 er9
    have fb8 : farB R8 l = farB M7 l := by funext j; unfold farB; rw [s4 177 _ (by omega) (by omega), t2 177 _ (by omega)]
    rw [fb8] at C
    refine Int32.toInt_inj.mp ?_
    show x6.toInt = x9.toInt
    rw [B, C, cnt_64 (fun c _ => hyb c)]
  · rw [t2 162 12 (by omega)]; exact R0.2.1
end
section
/-! open: a cell looked at as a stair -/
theorem onS_c {R S : Mem} {c : Nat} (f2 : S.1 162 2 = R.1 162 2) (f3 : S.1 162 3 = R.1 162 3) (fk : ∀ i, i ≠ c → S.1 164 i = R.1 164 i) (rc : S.1 164 c = 3) (c0 : (c : Int) < xw R * xh R) (l d : Nat) : onN S l d ↔ ((c : Int) = (d : Int) ∨ onN R l d) := by
  have w1 : xw S = xw R := congrArg Int32.toInt f2
  have w2 : xh S = xh R := congrArg Int32.toInt f3
  have hd : ((d : Int)).toNat = d := by omega
  by_cases h : d = c
  · subst h
    constructor
    · intro _; exact .inl rfl
    · intro _
      unfold onN
      rw [w1, w2, hd, rc]
      refine ⟨by omega, c0, ?_⟩
      split
      · exact .inr rfl
      · exact .inr rfl
  · unfold onN
    rw [w1, w2, hd, fk d h]
    constructor
    · intro g; exact .inr g
    · rintro (g | g)
      · omega
      · exact g
theorem lay_36 {X R S x : Mem} {n c : Nat} {v3 : Int32} (jR : J R) (zg : ZG X R) (zs : ZS (scn X 11) (R.1 163) n) (zv : ZV R (R.1 163) n) (hv3 : v3.toInt = (c : Int)) (c0 : (c : Int) < xw R * xh R) (f2 : S.1 162 2 = R.1 162 2) (f3 : S.1 162 3 = R.1 162 3) (fk : ∀ i, i ≠ c → S.1 164 i = R.1 164 i) (rc : S.1 164 c = 3) (f163 : ∀ i, S.1 163 i = R.1 163 i) (e : f_Nets_lay 36 11 v3 X = some x) : NB 36 (onA S) 36 x ∧ ZX 36 S (onA S) (fun c d => plk S 163 c d) x ∧ (∀ k i, k ≠ 39 → x.1 k i = X.1 k i) ∧ (∀ k i, k ≠ 37 → k ≠ 38 → x.2.1 k i = X.2.1 k i) ∧ x.2.2 = X.2.2 := by
  obtain ⟨m, hm⟩ := ti_ofn zv.2.1.1
  have m6 : m ≤ 6 := by have := zv.2.1.2; omega
  have wh := awh jR
  have lai : X.1 11 6 = R.1 163 92 := zs.2.2.2.1
  have pl : ∀ j, j < m → 0 ≤ (X.1 16 j).toInt ∧ (X.1 16 j).toInt < xw R * xh R ∧ 0 ≤ (X.1 17 j).toInt ∧ (X.1 17 j).toInt < xw R * xh R := by
    intro j hj
    have s := zs.2.2.2.2.1 j (by omega) (by omega)
    have e4 : X.1 16 j = R.1 163 (80 + 2 * j) := s.1
    have e5 : X.1 17 j = R.1 163 (81 + 2 * j) := s.2
    obtain ⟨a, b, _⟩ := zv.2.2.2 j (by omega)
    rw [e4, e5]
    exact ⟨a.1, a.2.1, b.1, b.2.1⟩
  obtain ⟨l1, l2, l3, l4, l5⟩ := lay_i (v0 := 36) (.inr rfl) jR zg (v3 := v3) (by rw [hv3]; exact c0) (n := m) (by rw [lai]; exact hm) m6 pl e
  have on : (fun l d : Nat => d < 36 ∧ (v3.toInt = (d : Int) ∨ onN R l d)) = onA S := by
    funext l d
    refine propext ?_
    unfold onA
    rw [onS_c f2 f3 fk rc c0 l d, hv3]
    constructor
    · rintro ⟨g, h⟩; exact ⟨g, .inr h⟩
    · rintro ⟨g, h | h⟩
      · rw [om] at h; omega
      · exact ⟨g, h⟩
  have w1 : xw S = xw R := congrArg Int32.toInt f2
  have w2 : xh S = xh R := congrArg Int32.toInt f3
  rw [on] at l1 l2
  refine ⟨l1, ?_, l3, l4, l5⟩
  have l2' := ZX_e (pd_plk zs hm m6) l2
  have pk : (fun c d => plk S 163 c d) = (fun c d => plk R 163 c d) := by funext c d; exact propext (plk_c (fun i _ _ => f163 i) zv.2.1.2 c d)
  unfold ZX NXT NRD LKn lk at l2' ⊢
  rw [pk, w1, w2]
  exact l2'
theorem twith_2 {X R S : Mem} {n p q c : Nat} {v a b : Int32} {x r : Int32 × Mem} (zq : ZQ X R n) (jS : J S) (hv : v.toInt = (c : Int)) (c0 : (c : Int) < xw R * xh R) (nu : ∀ j : Nat, (j : Int) < (R.1 163 92).toInt → (R.1 163 (80 + 2 * j)).toInt + (R.1 163 (81 + 2 * j)).toInt ≠ 2 * (c : Int)) (fS : ∀ kx i, ¬ (kx = 164 ∧ i = c) → S.1 kx i = R.1 kx i) (rc : S.1 164 c = 3) (hp : a.toInt = (p : Int)) (hq : b.toInt = (q : Int)) (pn : p < n) (qn : q < n) (ex : f_Top_trystWith v a b X = some x) (er : f_Mod_findTryst a b S = some r) : x.1 = r.1 ∧ r.1.toInt ≤ 1000000 ∧ (∀ kx i, kx ≠ 39 → kx ≠ 155 → kx ≠ 156 → x.2.1 kx i = X.1 kx i) ∧ (∀ k i, k ≠ 37 → k ≠ 38 → x.2.2.1 k i = X.2.1 k i) ∧ x.2.2.2 = X.2.2 ∧ (∀ kx i, kx ≠ 177 → kx ≠ 183 → ¬ (kx = 162 ∧ i = 42) → r.2.1 kx i = S.1 kx i) := by
  have wh := awh zq.2.1
  obtain ⟨n8, jR, ⟨zg, zc, zl⟩, zs, zv, zw⟩ := zq
  have vc := of_s hv
  have b30 : bt (3 : Int32) 0 = true := by decide +kernel
  have b31 : bt (3 : Int32) 1 = true := by decide +kernel
  have cb : CB R n (Int32.ofInt (c : Int)) 3 := by
    rw [vc]
    refine ⟨fun h => ?_, fun h => ?_, fun h => ?_, fun _ j hj => ?_⟩
    · rw [b30] at h; cases h
    · rw [b31] at h; cases h
    · rw [b31] at h; cases h
    · rw [hv]; exact nu j hj
  obtain ⟨_, _, zvS⟩ := built_q (c := c) (v := 3) (Y := s_i X 4 c 3) (S := S) ⟨n8, jR, ⟨zg, zc, zl⟩, zs, zv, zw⟩ jS (by omega) c0 (by decide) cb (by rw [vc]; exact hv) (fun kx i h _ => si_ne h) si_eq rfl (fun kx i h _ => fS kx i h) rc
  unfold f_Top_trystWith at ex
  obtain ⟨x1, e1, ex⟩ := bo ex
  obtain ⟨x2, e2, ex⟩ := bo ex
  obtain ⟨L1, L2, L3, L4, L5⟩ := lay_36 jR zg zs zv hv c0 (fS 162 2 (by omega)) (fS 162 3 (by omega)) (fun i h => fS 164 i (by omega)) rc (fun i => fS 163 i (by omega)) e1
  have zs1 : ZS (scn x1 11) (S.1 163) n := ZS_c n8 (scn_f (fun kx i a b => L3 kx i (by omega))) (fun i _ => (fS 163 i (by omega)).symm) zs
  have kr : ∀ i, i < 36 → 0 ≤ (S.1 164 i).toInt ∧ (S.1 164 i).toInt ≤ 3 := fun i hi => by
    by_cases h : i = c
    · subst h; rw [rc]; decide
    · rw [fS 164 i (by omega)]; exact zg.2.2.2 i hi
  obtain ⟨pk, s1, s2, s3, s4, _, s6, s7, s8⟩ := soon_2 (.inr rfl) n8 jS kr zs1 zvS L1 L2 hp hq pn qn e2 er
  have km : (1000000 : Int32).toInt = 1000000 := rfl
  have fr : (∀ kx i, kx ≠ 39 → kx ≠ 155 → kx ≠ 156 → x2.2.1 kx i = X.1 kx i) ∧ (∀ k i, k ≠ 37 → k ≠ 38 → x2.2.2.1 k i = X.2.1 k i) ∧ x2.2.2.2 = X.2.2 := ⟨fun kx i h1 h2 h3 => by rw [s7.1 kx i h2 h3]; exact L3 kx i h1, fun k i h1 h2 => by rw [s7.2]; exact L4 k i h1 h2, by rw [s7.2]; exact L5⟩
  rcases io ex with ⟨g, ex⟩ | ⟨g, ex⟩
  · have gg := q_eq g
    have ym := om
    obtain rfl := Option.some.inj ex
    exact ⟨Int32.toInt_inj.mp (by show (1000000 : Int32).toInt = _; rw [s2, s3.mpr (by omega)]; rfl), by omega, fr.1, fr.2.1, fr.2.2, s8⟩
  · have gg := q_ne g
    have ym := om
    obtain ⟨x3, e3, ex⟩ := bo ex
    obtain rfl := Option.some.inj ex
    have pos : 0 ≤ pk.2 := by
      have : pk.2 ≠ -1 := by omega
      omega
    obtain ⟨cc, hcc⟩ : ∃ cc : Nat, pk.2 = (cc : Int) := ⟨pk.2.toNat, by omega⟩
    have l := later_i (c := cc) (by rw [s1]; exact hcc) e3
    exact ⟨Int32.toInt_inj.mp (by show x3.toInt = _; rw [l, s2, s6 cc hcc]), by omega, fr.1, fr.2.1, fr.2.2, s8⟩
theorem open_q {X R : Mem} {n : Nat} {a b : Int32} {x r : Int32 × Mem} (za : ZA X R n) (ex : f_Top_open a b X = some x) (er : f_Mod_open a b R = some r) : x.1 = r.1 ∧ (RR X R → RR x.2 r.2) := by
  have n8 := za.1.1
  have ym := om
  have y0 := o0
  have y1 := o1
  have y2 := o2
  have y3 := o3
  have m2 : (-2 : Int32).toInt = -2 := rfl
  have km : (1000000 : Int32).toInt = 1000000 := rfl
  unfold f_Mod_open at er
  obtain ⟨M1, m1, er⟩ := mo er
  obtain ⟨zaM, fqM⟩ := ZA_M1 za m1
  unfold f_Top_open at ex
  obtain ⟨x1, ex1, ex⟩ := bo ex
  obtain ⟨y2', ey2, er⟩ := bo er
  rcases mw_2 zaM.1.2.2.1.2.1 n8 ex1 ey2 with ⟨h1, h2⟩ | ⟨h1, h2, p, q, hp, hq, pn, qn⟩
  · rw [h1, if_pos rfl] at ex
    rw [h2, if_pos rfl] at er
    obtain rfl := Option.some.inj ex
    obtain rfl := Option.some.inj er
    exact ⟨rfl, FQ2_RR fqM⟩
  rw [h1, if_neg (by decide)] at ex
  rw [h2, if_neg (by decide)] at er
  obtain ⟨x7, e7, ex⟩ := bo ex
  obtain ⟨y13, f13, er⟩ := bo er
  have K : x7.2.1 = y13.2.1 ∧ ((x7.1 = -1 ∧ y13.1 = -2) ∨ (x7.1 = y13.1 ∧ 0 ≤ x7.1.toInt)) ∧ FQ2 X M1 x7.2.2 y13.2.2 := by
    refine it_2 (I := fun (s t : Int32 × Int32 × Int32 × Mem) => s.2.2.1 = t.2.2.1 ∧ (∃ k : Nat, s.2.2.1.toInt = (k : Int)) ∧ s.2.1 = t.2.1 ∧ s.2.1.toInt ≤ 1000000 ∧ ((s.1 = -1 ∧ t.1 = -2) ∨ (s.1 = t.1 ∧ 0 ≤ s.1.toInt)) ∧ FQ2 X M1 s.2.2.2 t.2.2.2 ∧ J t.2.2.2) (Q := fun (x y : Int32 × Int32 × Mem) => x.2.1 = y.2.1 ∧ ((x.1 = -1 ∧ y.1 = -2) ∨ (x.1 = y.1 ∧ 0 ≤ x.1.toInt)) ∧ FQ2 X M1 x.2.2 y.2.2) ?_ e7 f13 ⟨rfl, ⟨0, rfl⟩, rfl, (by show (1000000 : Int32).toInt ≤ 1000000; decide), .inl ⟨rfl, rfl⟩, FQ2_r, zaM.1.2.1⟩
    rintro ⟨bs, so, i, N⟩ ⟨bs', so', i', T⟩ A B ⟨hi, ⟨k, hk⟩, hs, hm, hb, hF, jT⟩ eA eB
    dsimp only at hi hk hs hm hb hF jT
    subst hi hs
    have zaN : ZA N T n := FQ2_ZA hF jT zaM
    have zqN := zaN.1
    obtain ⟨_, _, ⟨zg, zc, zl⟩, zs, zv, zw⟩ := zaN.1
    have wh := awh jT
    unfold lb_Top_open_21 at eA
    unfold lb_Mod_open_27 at eB
    dsimp only at eA eB
    obtain ⟨y3', ey3, eB⟩ := bo eB
    have h3 : y3' = N.1 3 3 := by
      unfold f_Mod_cells at ey3
      obtain rfl := Option.some.inj ey3
      exact Int32.toInt_inj.mp (by rw [wh_ti jT, zg.2.1])
    rw [h3] at eB
    rcases io eA with ⟨g, eA⟩ | ⟨g, eA⟩
    · rw [if_pos g] at eB
      obtain rfl := Option.some.inj eA
      obtain rfl := Option.some.inj eB
      exact .inr ⟨_, _, rfl, rfl, rfl, hb, hF⟩
    rw [if_neg g] at eB
    have g1 := q_ng g
    rw [zg.2.1] at g1
    have k36 : k < 36 := by omega
    obtain ⟨_, eB⟩ := io_n eB
    obtain ⟨x2, ex2, eA⟩ := bo eA
    have i1 : (i + (1 : Int32)).toInt = ((k + 1 : Nat) : Int) := add_ti hk o1 (by omega) (by omega)
    have kk := zg.2.2.2 k k36
    unfold f_Top_canOpen at ex2
    obtain ⟨_, ex2⟩ := io_n ex2
    rw [q_nat hk, zg.2.2.1 k k36] at ex2
    rw [q_nat hk] at eB
    have keep : x2 = 0 → some (Sum.inl (bs', so, i + (1 : Int32), T)) = some B → (∃ s' t', A = .inl s' ∧ B = .inl t' ∧ s'.2.2.1 = t'.2.2.1 ∧ (∃ k : Nat, s'.2.2.1.toInt = (k : Int)) ∧ s'.2.1 = t'.2.1 ∧ s'.2.1.toInt ≤ 1000000 ∧ ((s'.1 = -1 ∧ t'.1 = -2) ∨ (s'.1 = t'.1 ∧ 0 ≤ s'.1.toInt)) ∧ FQ2 X M1 s'.2.2.2 t'.2.2.2 ∧ J t'.2.2.2) := by
      intro h0 hB
      rw [h0, if_pos rfl] at eA
      unfold j_Top_open_56_21 at eA
      rw [if_pos (Int32.le_iff_toInt_le.mpr (by rw [km]; exact hm))] at eA
      obtain rfl := Option.some.inj eA
      obtain rfl := Option.some.inj hB
      exact ⟨_, _, rfl, rfl, rfl, ⟨k + 1, i1⟩, rfl, hm, hb, hF, jT⟩
    have go : (T.1 164 k = 1 ∨ T.1 164 k = 2) → j_Mod_open_57_27 a b bs' so i (T.1 164 k) T = some B → (∃ s' t', A = .inl s' ∧ B = .inl t' ∧ s'.2.2.1 = t'.2.2.1 ∧ (∃ k : Nat, s'.2.2.1.toInt = (k : Int)) ∧ s'.2.1 = t'.2.1 ∧ s'.2.1.toInt ≤ 1000000 ∧ ((s'.1 = -1 ∧ t'.1 = -2) ∨ (s'.1 = t'.1 ∧ 0 ≤ s'.1.toInt)) ∧ FQ2 X M1 s'.2.2.2 t'.2.2.2 ∧ J t'.2.2.2) := by
      intro hK eB
      rw [if_neg (by rcases hK with h | h <;> rw [h] <;> decide), if_neg (by rcases hK with h | h <;> rw [h] <;> decide)] at ex2
      obtain ⟨u, eu, ex2⟩ := bo ex2
      unfold j_Mod_open_57_27 at eB
      obtain ⟨w, ew, eB⟩ := bo eB
      have U := under_c zqN eu
      have V := under_r zv (c := i) (by omega) wh.2 ew
      rw [hk] at U V
      rcases U with ⟨hu, hU⟩ | ⟨hu, hU⟩
      · rcases V with ⟨hw, _⟩ | ⟨_, hV⟩
        rotate_left
        · obtain ⟨j, hj, hh⟩ := hU
          exact absurd hh (hV j hj)
        rw [hu, if_neg (by decide)] at ex2
        rw [hw, if_neg (by decide)] at eB
        exact keep (Option.some.inj ex2).symm eB
      · rcases V with ⟨_, j, hj, hh⟩ | ⟨hw, _⟩
        · exact absurd hh (hU j hj)
        rw [hu, if_pos rfl] at ex2
        rw [hw, if_pos rfl] at eB
        have h2 : x2 = 1 := (Option.some.inj ex2).symm
        rw [h2, if_neg (by decide)] at eA
        obtain ⟨x4, ex4, eA⟩ := bo eA
        obtain ⟨_, eB⟩ := io_n eB
        obtain ⟨M5, m5, eB⟩ := mo eB
        obtain ⟨x6, ex6, eB⟩ := bo eB
        obtain ⟨_, eB⟩ := io_n eB
        obtain ⟨M7, m7, eB⟩ := mo eB
        rw [q_nat hk] at m5 m7
        have j5 : J M5 := by rw [m5]; exact Jw_any ok_164 jT _ _
        obtain ⟨t1, t2, t3, t4, t5, t6⟩ := twith_2 zqN j5 hk (by omega) hU (fun kx i h => by rw [m5, si_ne h]) (by rw [m5, si_eq]) hp hq pn qn ex4 ex6
        have j6 : J x6.2 := (some_of (sf_Mod_findTryst a b M5 ⟨by omega, by omega⟩ ⟨by omega, by omega⟩ j5) ex6).1
        have j7 : J M7 := by rw [m7]; exact Jw_any ok_164 j6 _ _
        have eqR : ∀ kx j, kx ≠ 177 → kx ≠ 183 → ¬ (kx = 162 ∧ j = 42) → M7.1 kx j = T.1 kx j := fun kx j h1 h2 h3 => by
          rw [m7]
          by_cases e : kx = 164 ∧ j = k
          · obtain ⟨rfl, rfl⟩ := e
            rw [si_eq]
          · rw [si_ne e, t6 kx j h1 h2 h3, m5, si_ne e]
        have hF' : FQ2 X M1 x4.2 M7 := FQ2_t hF ⟨⟨fun kx i h => t3 kx i (by unfold CXr CX at h; omega) (by unfold CXr CX at h; omega) (by unfold CXr CX at h; omega), fun i => t4 33 i (by omega) (by omega), fun i => t4 34 i (by omega) (by omega), fun i => by rw [t5], fun i => by rw [t5]⟩, fun kx j h => eqR kx j (by unfold CRr CR at h; omega) (by unfold CRr CR at h; omega) (by unfold CRr CR at h; omega), ⟨t3 0 15 (by omega) (by omega) (by omega), fun i => t3 161 i (by omega) (by omega) (by omega)⟩, eqR 162 12 (by omega) (by omega) (by omega), fun i => eqR 168 i (by omega) (by omega) (by omega)⟩
        unfold j_Top_open_56_21 at eA
        rw [t1] at eA
        rcases io eB with ⟨gl, eB⟩ | ⟨gl, eB⟩
        · have gl' := q_lt gl
          rw [if_neg (fun h => by have := q_le h; omega)] at eA
          obtain rfl := Option.some.inj eA
          obtain rfl := Option.some.inj eB
          exact ⟨_, _, rfl, rfl, rfl, ⟨k + 1, i1⟩, rfl, t2, .inr ⟨rfl, by show 0 ≤ i.toInt; omega⟩, hF', j7⟩
        · have gl' := q_nl gl
          rw [if_pos (Int32.le_iff_toInt_le.mpr gl')] at eA
          obtain rfl := Option.some.inj eA
          obtain rfl := Option.some.inj eB
          exact ⟨_, _, rfl, rfl, rfl, ⟨k + 1, i1⟩, rfl, hm, hb, hF', j7⟩
    rcases io eB with ⟨h, eB⟩ | ⟨h, eB⟩
    · exact .inl (go (.inl h) eB)
    rcases io eB with ⟨h', eB⟩ | ⟨h', eB⟩
    · exact .inl (go (.inr h') eB)
    refine .inl (keep ?_ eB)
    rcases io ex2 with ⟨_, ex2⟩ | ⟨n0, ex2⟩
    · exact (Option.some.inj ex2).symm
    rcases io ex2 with ⟨_, ex2⟩ | ⟨n3, ex2⟩
    · exact (Option.some.inj ex2).symm
    have a0 := q_ne n0
    have a1 := q_ne h
    have a2 := q_ne h'
    have a3 := q_ne n3
    omega
  rcases K.2.1 with ⟨h1, h2⟩ | ⟨h1, h2⟩
  · rw [h1, if_pos rfl] at ex
    rw [h2, if_neg (by decide)] at er
    obtain rfl := Option.some.inj ex
    obtain rfl := Option.some.inj er
    exact ⟨rfl, fun h => FQ2_RR K.2.2 (FQ2_RR fqM h)⟩
  · rw [if_neg (fun h => by have := q_eq h; omega)] at ex
    rw [if_pos (Int32.le_iff_toInt_le.mpr (by rw [← h1, y0]; exact h2))] at er
    obtain ⟨x8, e8, ex⟩ := bo ex
    obtain ⟨x9, e9, ex⟩ := bo ex
    obtain rfl := Option.some.inj ex
    obtain ⟨M14, m14, er⟩ := mo er
    obtain ⟨x15, e15, er⟩ := bo er
    obtain rfl := Option.some.inj er
    exact ⟨h1, fun _ => RRn_r (k := 1) (by omega) (RR_n (RR_0 e8 m14) (by omega) K.1 e9 e15)⟩
end
section
/-! errand -/
theorem note_k {X x : Mem} {v : Int32} {k : Nat} (h : (X.1 0 15).toInt = (k : Int)) (k10 : k < 10) (e : f_Top_note v X = some x) : (x.1 0 15).toInt = ((k + 1 : Nat) : Int) ∧ x.1 161 k = v ∧ ∀ i, i ≠ k → x.1 161 i = X.1 161 i := by
  have z0 := o0
  have z10 : (10 : Int32).toInt = 10 := rfl
  unfold f_Top_note at e
  rcases io e with ⟨c, _⟩ | ⟨_, e⟩
  · have := q_lt c; omega
  rcases io e with ⟨c, _⟩ | ⟨_, e⟩
  · have := q_le c; omega
  obtain ⟨_, e⟩ := io_n e
  obtain ⟨M1, m1, e⟩ := mo e
  obtain ⟨M2, m2, e⟩ := mo e
  obtain rfl := Option.some.inj e
  rw [q_nat h] at m1
  refine ⟨?_, ?_, fun i hi => ?_⟩
  · rw [m2, si_eq, m1, si_ne (by omega)]; exact add_ti h o1 (by omega) (by omega)
  · rw [m2, si_ne (by omega), m1, si_eq]
  · rw [m2, si_ne (by omega), m1, si_ne (by omega)]
theorem put_k {R r : Mem} {v : Int32} {k : Nat} (h : (R.1 162 12).toInt = (k : Int)) (k10 : k < 10) (e : f_Mod_put v R = some r) : (r.1 162 12).toInt = ((k + 1 : Nat) : Int) ∧ r.1 168 k = v ∧ ∀ i, i ≠ k → r.1 168 i = R.1 168 i := by
  unfold f_Mod_put at e
  obtain ⟨_, e⟩ := io_n e
  obtain ⟨N1, n1, e⟩ := mo e
  obtain ⟨N2, n2, e⟩ := mo e
  obtain rfl := Option.some.inj e
  rw [q_nat h] at n1
  refine ⟨?_, ?_, fun i hi => ?_⟩
  · rw [n2, si_eq, n1, si_ne (by omega)]; exact add_ti h o1 (by omega) (by omega)
  · rw [n2, si_ne (by omega), n1, si_eq]
  · rw [n2, si_ne (by omega), n1, si_ne (by omega)]
theorem row3 {X a b c d : Mem} {v w u : Int32} (e0 : f_Top_emptyRow X = some a) (e1 : f_Top_note v a = some b) (e2 : f_Top_note w b = some c) (e3 : f_Top_note u c = some d) : (d.1 0 15).toInt = 3 ∧ d.1 161 0 = v ∧ d.1 161 1 = w ∧ d.1 161 2 = u ∧ (∀ kx i, kx ≠ 161 → ¬ (kx = 0 ∧ i = 15) → d.1 kx i = X.1 kx i) ∧ d.2 = X.2 := by
  have em := empty_i e0
  have a0 : (a.1 0 15).toInt = ((0 : Nat) : Int) := by
    unfold f_Top_emptyRow at e0
    obtain ⟨M1, m1, e0⟩ := mo e0
    obtain rfl := Option.some.inj e0
    rw [m1, si_eq]; rfl
  obtain ⟨b0, b1, b2⟩ := note_k a0 (by omega) e1
  obtain ⟨c0, c1, c2⟩ := note_k b0 (by omega) e2
  obtain ⟨d0, d1, d2⟩ := note_k c0 (by omega) e3
  have n1 := note_i e1
  have n2 := note_i e2
  have n3 := note_i e3
  exact ⟨by omega, by rw [d2 0 (by omega), c2 0 (by omega), b1], by rw [d2 1 (by omega), c1], d1, fun kx i h1 h2 => by rw [n3.1 kx i h1 h2, n2.1 kx i h1 h2, n1.1 kx i h1 h2, em.1 kx i h2], by rw [n3.2, n2.2, n1.2, em.2]⟩
theorem errV {F A C B : Int32} (f : 0 ≤ F.toInt ∧ F.toInt ≤ 1000000) (a : 0 ≤ A.toInt ∧ A.toInt ≤ 1000000) (c : 0 ≤ C.toInt ∧ C.toInt ≤ 1000000) (b : 0 ≤ B.toInt ∧ B.toInt ≤ 1000000) : ∃ v : Int, ((if F + A < C then C else F + A) + B).toInt = v + B.toInt ∧ F.toInt + A.toInt ≤ v ∧ C.toInt ≤ v := by
  have s : (F + A).toInt = F.toInt + A.toInt := add_ti rfl rfl (by omega) (by omega)
  by_cases g : F + A < C
  · have := q_lt g
    rw [if_pos g]
    exact ⟨C.toInt, add_ti rfl rfl (by omega) (by omega), by omega, by omega⟩
  · have := q_nl g
    rw [if_neg g]
    exact ⟨F.toInt + A.toInt, add_ti s rfl (by omega) (by omega), by omega, by omega⟩
def RWe (X : Mem) (so m w s : Int32) (N : Mem) : Prop := 0 ≤ so.toInt ∧ so.toInt ≤ 1000000 ∧ ((so.toInt = 1000000 ∧ N.1 0 15 = X.1 0 15 ∧ ∀ i, N.1 161 i = X.1 161 i) ∨ (so.toInt < 1000000 ∧ (N.1 0 15).toInt = 3 ∧ N.1 161 0 = m ∧ N.1 161 1 = w ∧ N.1 161 2 = s))
theorem RWe_f {X N N' : Mem} {so m w s : Int32} (h : RWe X so m w s N) (a : N'.1 0 15 = N.1 0 15) (b : ∀ i, N'.1 161 i = N.1 161 i) : RWe X so m w s N' := by
  obtain ⟨h0, h1, h⟩ := h
  refine ⟨h0, h1, ?_⟩
  rw [a, b 0, b 1, b 2]
  rcases h with ⟨c, d, e⟩ | h
  · exact .inl ⟨c, d, fun i => (b i).trans (e i)⟩
  · exact .inr h
theorem stair_2 {N0 N T : Mem} {n : Nat} {v1 v2 v5 so m w s : Int32} {y : Int32 × Mem} {z : Int32 × Int32 × Int32 × Int32} (za : ZA N T n) (r0 : RWe N0 so m w s N) (h1 : ∀ c, c < 36 → N.1 155 c = T.1 181 c) (h2 : ∀ c, c < 36 → N.1 156 c = T.1 182 (36 * 1 + c)) (h3 : ∀ c, c < 36 → N.1 157 c = T.1 177 (36 * 1 + c)) (hF : T.1 181 (T.1 163 v1.toNatClampNeg).toNatClampNeg = v5) (ex : iter (lb_Top_handOver_49 v1 v2 v5) FU (so, (0 : Int32), N) = some y) (er : iter (lb_Mod_errand_177 v1 v2 T) FU (so, m, w, s, (0 : Int32)) = some z) : y.1 = z.1 ∧ RWe N0 z.1 z.2.1 z.2.2.1 z.2.2.2 y.2 ∧ (∀ kx i, kx ≠ 161 → ¬ (kx = 0 ∧ i = 15) → y.2.1 kx i = N.1 kx i) ∧ y.2.2 = N.2 := by
  have km : (1000000 : Int32).toInt = 1000000 := rfl
  have jT := za.1.2.1
  have wh := awh jT
  refine it_2 (I := fun (s : Int32 × Int32 × Mem) (t : Int32 × Int32 × Int32 × Int32 × Int32) => (∃ k : Nat, s.2.1.toInt = (k : Int)) ∧ t.2.2.2.2 = s.2.1 ∧ t.1 = s.1 ∧ RWe N0 s.1 t.2.1 t.2.2.1 t.2.2.2.1 s.2.2 ∧ (∀ kx i, kx ≠ 161 → ¬ (kx = 0 ∧ i = 15) → s.2.2.1 kx i = N.1 kx i) ∧ s.2.2.2 = N.2) (Q := fun (y : Int32 × Mem) (z : Int32 × Int32 × Int32 × Int32) => y.1 = z.1 ∧ RWe N0 z.1 z.2.1 z.2.2.1 z.2.2.2 y.2 ∧ (∀ kx i, kx ≠ 161 → ¬ (kx = 0 ∧ i = 15) → y.2.1 kx i = N.1 kx i) ∧ y.2.2 = N.2) ?_ ex er ⟨⟨0, rfl⟩, rfl, rfl, r0, fun _ _ _ _ => rfl, rfl⟩
  rintro ⟨so, i, P⟩ ⟨so', m, w, s, i'⟩ A B ⟨⟨k, hk⟩, hi, hs, hr, hf, hq⟩ eA eB
  dsimp only at hk hi hs hr hf hq
  subst hi hs
  have zaP : ZA P T n := ZA_z za jT (fun kx i h => hf kx i (by unfold CXr CX at h; omega) (by unfold CXr CX at h; omega)) (fun i => by rw [hq]) (fun i => by rw [hq]) (fun i => by rw [hq]) (fun i => by rw [hq]) (fun _ _ _ => rfl)
  have zg := zaP.1.2.2.1.1
  unfold lb_Top_handOver_49 at eA
  unfold lb_Mod_errand_177 at eB
  dsimp only at eA eB
  obtain ⟨x14, e14, eB⟩ := bo eB
  have h14 : x14 = P.1 3 3 := by
    unfold f_Mod_cells at e14
    obtain rfl := Option.some.inj e14
    exact Int32.toInt_inj.mp (by rw [wh_ti jT, zg.2.1])
  rw [h14] at eB
  rcases io eA with ⟨g, eA⟩ | ⟨g, eA⟩
  · rw [if_pos g] at eB
    obtain rfl := Option.some.inj eA
    obtain rfl := Option.some.inj eB
    exact .inr ⟨_, _, rfl, rfl, rfl, hr, hf, hq⟩
  rw [if_neg g] at eB
  have g1 := q_ng g
  rw [zg.2.1] at g1
  have k36 : k < 36 := by omega
  have i1 : ∃ k : Nat, (i' + (1 : Int32)).toInt = (k : Int) := ⟨k + 1, add_ti hk o1 (by omega) (by omega)⟩
  obtain ⟨x2, ex2, eA⟩ := bo eA
  obtain ⟨x15, e15, eB⟩ := bo eB
  have p15 := place_c (l := 1) (c := k) rfl hk (by omega) k36 e15
  obtain ⟨_, eB⟩ := io_n eB
  rw [q_nat hk] at eA eB
  have keep : some (Sum.inl (so', i' + (1 : Int32), P)) = some A → some (Sum.inl (so', m, w, s, i' + (1 : Int32))) = some B → (∃ s' t', A = .inl s' ∧ B = .inl t' ∧ (∃ k : Nat, s'.2.1.toInt = (k : Int)) ∧ t'.2.2.2.2 = s'.2.1 ∧ t'.1 = s'.1 ∧ RWe N0 s'.1 t'.2.1 t'.2.2.1 t'.2.2.2.1 s'.2.2 ∧ (∀ kx i, kx ≠ 161 → ¬ (kx = 0 ∧ i = 15) → s'.2.2.1 kx i = N.1 kx i) ∧ s'.2.2.2 = N.2) := by
    intro a b
    obtain rfl := Option.some.inj a
    obtain rfl := Option.some.inj b
    exact ⟨_, _, rfl, rfl, i1, rfl, rfl, hr, hf, hq⟩
  rcases stairC zg jT ex2 with ⟨hx, st⟩ | ⟨hx, st⟩
  rotate_left
  · rw [hx, if_pos rfl] at eA
    rw [if_neg (fun h => st ⟨by omega, by omega, by rw [hk, show ((k : Int)).toNat = k by omega, h]; rfl⟩)] at eB
    exact .inl (keep eA eB)
  rw [hx, if_neg (by decide)] at eA
  have s3 : T.1 164 k = 3 := Int32.toInt_inj.mp (by
    have := st.2.2
    rw [hk, show ((k : Int)).toNat = k by omega] at this
    exact this)
  rw [if_pos s3] at eB
  obtain ⟨_, eA⟩ := io_n eA
  obtain ⟨_, eA⟩ := io_n eA
  obtain ⟨_, eA⟩ := io_n eA
  rw [hf 155 k (by omega) (by omega), h1 k k36, hf 157 k (by omega) (by omega), h3 k k36, hf 156 k (by omega) (by omega), h2 k k36] at eA
  obtain ⟨_, eB⟩ := io_n eB
  have bA := Jr_181 jT k
  have bC := Jr_177 jT (36 * 1 + k)
  have bB := Jr_182 jT (36 * 1 + k)
  have bF : 0 ≤ v5.toInt ∧ v5.toInt ≤ 1000000 := by rw [← hF]; exact Jr_181 jT _
  obtain ⟨V, hV, v1', v2'⟩ := errV bF bA bC bB
  rw [q_nat p15, hF] at eB
  rcases io eB with ⟨c, eB⟩ | ⟨c, eB⟩
  · have := q_le c
    rw [if_pos (Int32.le_iff_toInt_le.mpr (by rw [hV]; have := hr.2.1; omega))] at eA
    exact .inl (keep eA eB)
  have c1 := q_ng c
  obtain ⟨_, eB⟩ := io_n eB
  rcases io eB with ⟨c, eB⟩ | ⟨c, eB⟩
  · have := q_le c
    rw [if_pos (Int32.le_iff_toInt_le.mpr (by rw [hV]; have := hr.2.1; omega))] at eA
    exact .inl (keep eA eB)
  have c2 := q_ng c
  obtain ⟨_, eB⟩ := io_n eB
  rcases io eB with ⟨c, eB⟩ | ⟨c, eB⟩
  rotate_left
  · have := q_nl c
    rw [if_pos (Int32.le_iff_toInt_le.mpr (by rw [hV]; have := hr.2.1; omega))] at eA
    exact .inl (keep eA eB)
  obtain ⟨_, eB⟩ := io_n eB
  obtain ⟨_, eB⟩ := io_n eB
  obtain ⟨_, eB⟩ := io_n eB
  obtain ⟨_, eB⟩ := io_n eB
  obtain ⟨_, eB⟩ := io_n eB
  rcases io eB with ⟨c, eB⟩ | ⟨c, eB⟩
  rotate_left
  · rw [if_pos (Int32.le_iff_toInt_le.mpr (q_nl c))] at eA
    exact .inl (keep eA eB)
  have cl := q_lt c
  rw [if_neg (fun h => by have := q_le h; omega)] at eA
  obtain ⟨x3, e3, eA⟩ := bo eA
  obtain ⟨x4, e4, eA⟩ := bo eA
  obtain ⟨x5, e5, eA⟩ := bo eA
  obtain ⟨x6, e6, eA⟩ := bo eA
  obtain rfl := Option.some.inj eA
  obtain rfl := Option.some.inj eB
  obtain ⟨q1, q2, q3, q4, q5, q6⟩ := row3 e3 e4 e5 e6
  have so1 := hr.2.1
  refine .inl ⟨_, _, rfl, rfl, i1, rfl, rfl, ⟨?_, ?_, .inr ⟨?_, q1, q2, q3, q4⟩⟩, fun kx i a b => ?_, ?_⟩
  · dsimp only; omega
  · dsimp only; omega
  · dsimp only; omega
  · show x6.1 kx i = _
    rw [q5 kx i a b]; exact hf kx i a b
  · show x6.2 = _
    rw [q6]; exact hq
theorem stair_far {N : Mem} {v1 v2 v5 so : Int32} {y : Int32 × Mem} (hW : (N.1 3 3).toInt ≤ 36) (b : ∀ c, c < 36 → (0 ≤ (N.1 155 c).toInt ∧ (N.1 155 c).toInt ≤ 1000000) ∧ (0 ≤ (N.1 157 c).toInt ∧ (N.1 157 c).toInt ≤ 1000000) ∧ (0 ≤ (N.1 156 c).toInt ∧ (N.1 156 c).toInt ≤ 1000000)) (h5 : v5.toInt = 1000000) (hs : so.toInt ≤ 1000000) (eI : iter (lb_Top_handOver_49 v1 v2 v5) FU (so, (0 : Int32), N) = some y) : y = (so, N) := by
  refine it_r (I := fun s : Int32 × Int32 × Mem => s.1 = so ∧ s.2.2 = N ∧ ∃ k : Nat, s.2.1.toInt = (k : Int)) (Q := fun y => y = (so, N)) ?_ eI ⟨rfl, rfl, 0, rfl⟩
  rintro ⟨so', i, P⟩ r ⟨hso, hP, k, hk⟩ e
  dsimp only at hso hP hk
  subst hso hP
  unfold lb_Top_handOver_49 at e
  dsimp only at e
  rcases io e with ⟨g, e⟩ | ⟨g, e⟩
  · obtain rfl := Option.some.inj e
    rfl
  have g1 := q_ng g
  have i1 : ∃ k : Nat, (i + (1 : Int32)).toInt = (k : Int) := ⟨k + 1, add_ti hk o1 (by omega) (by omega)⟩
  obtain ⟨x2, _, e⟩ := bo e
  rcases io e with ⟨_, e⟩ | ⟨_, e⟩
  · obtain rfl := Option.some.inj e
    exact ⟨rfl, rfl, i1⟩
  obtain ⟨_, e⟩ := io_n e
  obtain ⟨_, e⟩ := io_n e
  obtain ⟨_, e⟩ := io_n e
  obtain ⟨b1, b2, b3⟩ := b k (by omega)
  rw [q_nat hk] at e
  obtain ⟨V, hV, v1', v2'⟩ := errV (F := v5) ⟨by omega, by omega⟩ b1 b2 b3
  rw [if_pos (Int32.le_iff_toInt_le.mpr (by rw [hV]; omega))] at e
  obtain rfl := Option.some.inj e
  exact ⟨rfl, rfl, i1⟩
def EN (N0 T0 N T : Mem) : Prop := (∀ kx i, kx ≠ 157 → kx ≠ 161 → ¬ (kx = 0 ∧ i = 15) → N.1 kx i = N0.1 kx i) ∧ N.2 = N0.2 ∧ (∀ kx i, kx ≠ 177 → T.1 kx i = T0.1 kx i) ∧ J T
theorem EN_ZA {N0 T0 N T : Mem} {n : Nat} (za : ZA N0 T0 n) (h : EN N0 T0 N T) : ZA N T n :=
  ZA_z za h.2.2.2 (fun kx i w => h.1 kx i (by unfold CXr CX at w; omega) (by unfold CXr CX at w; omega) (by unfold CXr CX at w; omega)) (fun i => by rw [h.2.1]) (fun i => by rw [h.2.1]) (fun i => by rw [h.2.1]) (fun i => by rw [h.2.1]) (fun kx i w => h.2.2.1 kx i (by unfold CRr CR at w; omega))
/-- women with a man who gets there -/
theorem women_2 {N0 T0 N T : Mem} {n p : Nat} {v4 so m w s : Int32} {y : Int32 × Mem} {z : Int32 × Int32 × Int32 × Int32 × Mem} (za : ZA N0 T0 n) (h1 : ∀ c, c < 36 → N0.1 155 c = T0.1 181 c) (h2 : ∀ c, c < 36 → N0.1 156 c = T0.1 182 (36 * 1 + c)) (en : EN N0 T0 N T) (r0 : RWe N0 so m w s N) (hp : v4.toInt = (p : Int)) (pn : p < n) (man : bt (T0.1 162 5) p = false) (ex : iter (lb_Top_errand_80 v4) FU (so, (0 : Int32), N) = some y) (er : iter (lb_Mod_errand_126 v4) FU (so, m, w, s, (0 : Int32), T) = some z) : y.1 = z.1 ∧ RWe N0 z.1 z.2.1 z.2.2.1 z.2.2.2.1 y.2 ∧ EN N0 T0 y.2 z.2.2.2.2 := by
  have n8 := za.1.1
  refine it_2 (I := fun (s : Int32 × Int32 × Mem) (t : Int32 × Int32 × Int32 × Int32 × Int32 × Mem) => (∃ k : Nat, s.2.1.toInt = (k : Int)) ∧ t.2.2.2.2.1 = s.2.1 ∧ t.1 = s.1 ∧ RWe N0 s.1 t.2.1 t.2.2.1 t.2.2.2.1 s.2.2 ∧ EN N0 T0 s.2.2 t.2.2.2.2.2) (Q := fun (y : Int32 × Mem) (z : Int32 × Int32 × Int32 × Int32 × Mem) => y.1 = z.1 ∧ RWe N0 z.1 z.2.1 z.2.2.1 z.2.2.2.1 y.2 ∧ EN N0 T0 y.2 z.2.2.2.2) ?_ ex er ⟨⟨0, rfl⟩, rfl, rfl, r0, en⟩
  rintro ⟨so, i, P⟩ ⟨so', m, w, s, i', S⟩ A B ⟨⟨k, hk⟩, hi, hs, hr, he⟩ eA eB
  dsimp only at hk hi hs hr he
  subst hi hs
  have zaP : ZA P S n := EN_ZA za he
  obtain ⟨_, jS, ⟨zg, zc, zl⟩, zs, zv, zw⟩ := zaP.1
  have wh := awh jS
  unfold lb_Top_errand_80 at eA
  unfold lb_Mod_errand_126 at eB
  dsimp only at eA eB
  rw [zc.2.1] at eA
  rcases io eA with ⟨g, eA⟩ | ⟨g, eA⟩
  · rw [if_pos g] at eB
    obtain rfl := Option.some.inj eA
    obtain rfl := Option.some.inj eB
    exact .inr ⟨_, _, rfl, rfl, rfl, hr, he⟩
  rw [if_neg g] at eB
  have g1 := q_ng g
  have cn := zc.1
  have kn : k < n := by omega
  have i1 : ∃ k : Nat, (i' + (1 : Int32)).toInt = (k : Int) := ⟨k + 1, add_ti hk o1 (by omega) (by omega)⟩
  obtain ⟨x5, e5, eA⟩ := bo eA
  have w5 := womanC hp (by omega) e5
  have wom : P.1 6 5 = T0.1 162 5 := by rw [zc.2.2.1]; exact he.2.2.1 162 5 (by omega)
  rw [wom] at w5
  rw [if_pos (w5.mpr man)] at eA
  obtain ⟨x6, e6, eA⟩ := bo eA
  obtain ⟨x11, e11, eB⟩ := bo eB
  have w6 := womanC hk (by omega) e6
  have w11 := hasR hk (by omega) e11
  rw [zc.2.2.1] at w6
  have keep : some (Sum.inl (so', i' + (1 : Int32), P)) = some A → some (Sum.inl (so', m, w, s, i' + (1 : Int32), S)) = some B → (∃ s' t', A = .inl s' ∧ B = .inl t' ∧ (∃ k : Nat, s'.2.1.toInt = (k : Int)) ∧ t'.2.2.2.2.1 = s'.2.1 ∧ t'.1 = s'.1 ∧ RWe N0 s'.1 t'.2.1 t'.2.2.1 t'.2.2.2.1 s'.2.2 ∧ EN N0 T0 s'.2.2 t'.2.2.2.2.2) := by
    intro a b
    obtain rfl := Option.some.inj a
    obtain rfl := Option.some.inj b
    exact ⟨_, _, rfl, rfl, i1, rfl, rfl, hr, he⟩
  rcases io eA with ⟨g6, eA⟩ | ⟨g6, eA⟩
  · rw [if_pos (w11.mpr (w6.mp g6))] at eB
    exact .inl (keep eA eB)
  rw [if_neg (fun h => g6 (w6.mpr (w11.mp h)))] at eB
  obtain ⟨_, eA⟩ := io_n eA
  obtain ⟨_, eB⟩ := io_n eB
  obtain ⟨x12, e12, eB⟩ := bo eB
  obtain ⟨l, c, l2, c36, hl, hc, hP, onc⟩ := at_2 n8 zs zv kn
  rw [q_nat hk] at eA eB e12
  have v12 : x12.toInt = (l : Int) := by rw [(place_i (v := S.1 163 k) (by omega) (by omega)).2 e12]; omega
  rcases io eA with ⟨g7, eA⟩ | ⟨g7, eA⟩
  rotate_left
  · have l0 : l = 0 := by
      rcases Nat.lt_or_ge l 1 with h | h
      · omega
      · have l1' : l = 1 := by omega
        exact absurd (Int32.toInt_inj.mp (by rw [hl, l1']; rfl)) g7
    rw [if_pos (Int32.toInt_inj.mp (by rw [v12, l0]; rfl))] at eB
    exact .inl (keep eA eB)
  have l1 : l = 1 := by
    rw [g7] at hl
    have := o1
    omega
  subst l1
  rw [if_neg (fun h => by rw [h] at v12; have := o0; omega)] at eB
  obtain ⟨x7, e7, eA⟩ := bo eA
  obtain rfl := Option.some.inj eA
  obtain ⟨_, eB⟩ := io_n eB
  obtain ⟨S13, e13, eB⟩ := bo eB
  obtain ⟨x22, e22, eB⟩ := bo eB
  obtain rfl := Option.some.inj eB
  unfold f_Top_handOver at e7
  obtain ⟨_, e7⟩ := io_n e7
  obtain ⟨P1, eP1, e7⟩ := bo e7
  obtain ⟨_, e7⟩ := io_n e7
  obtain ⟨_, e7⟩ := io_n e7
  obtain ⟨x10, e10, e7⟩ := bo e7
  obtain rfl := Option.some.inj e7
  rw [q_nat hk] at eP1
  obtain ⟨E, fx, fq, jr, fr, _⟩ := meas_2 jS zv zw (l := 1) (f := c) rfl (by omega) hc c36 onc hP eP1 e13
  have he' : EN N0 T0 P1 S13 := ⟨fun kx i a b d => by rw [fx kx i a]; exact he.1 kx i a b d, by rw [fq]; exact he.2.1, fun kx i a => by rw [fr kx i a]; exact he.2.2.1 kx i a, jr⟩
  obtain ⟨lp, cp, lp2, cp36, hlp, hcp, hPp, onp⟩ := at_2 n8 zs zv pn
  have hF : S13.1 181 (S13.1 163 v4.toNatClampNeg).toNatClampNeg = P1.1 155 (P1.1 12 v4.toNatClampNeg).toNatClampNeg := by
    have lp0 : lp = 0 := by
      have := (zv.1 p pn).2.1 (by rw [he.2.2.1 162 5 (by omega)]; exact man)
      omega
    rw [q_nat hp, fr 163 p (by omega), fx 12 p (by omega), q_nat hcp, q_nat (show (S.1 163 p).toInt = ((cp : Nat) : Int) by omega), fr 181 _ (by omega), fx 155 _ (by omega), he.1 155 cp (by omega) (by omega) (by omega), he.2.2.1 181 cp (by omega)]
    exact (h1 cp cp36).symm
  have st := stair_2 (EN_ZA za he') (RWe_f hr (fx 0 15 (by omega)) (fun i => fx 161 i (by omega))) (fun c hc => by rw [he'.1 155 c (by omega) (by omega) (by omega), he'.2.2.1 181 c (by omega)]; exact h1 c hc) (fun c hc => by rw [he'.1 156 c (by omega) (by omega) (by omega), he'.2.2.1 182 _ (by omega)]; exact h2 c hc) E hF e10 e22
  obtain ⟨s1, s2, s3, s4⟩ := st
  exact .inl ⟨_, _, rfl, rfl, i1, rfl, s1.symm, by rw [s1]; exact s2, fun kx i a b d => by show x10.2.1 kx i = _; rw [s3 kx i b d]; exact he'.1 kx i a b d, by show x10.2.2 = _; rw [s4]; exact he'.2.1, he'.2.2.1, he'.2.2.2⟩
/-- women with one who is no man, or who doesn't get there: nothing is sooner -/
theorem women_0 {N0 T0 N T : Mem} {n p : Nat} {v4 so m w s : Int32} {y : Int32 × Mem} (za : ZA N0 T0 n) (h1 : ∀ c, c < 36 → N0.1 155 c = T0.1 181 c) (h2 : ∀ c, c < 36 → N0.1 156 c = T0.1 182 (36 * 1 + c)) (en : EN N0 T0 N T) (r0 : RWe N0 so m w s N) (hp : v4.toInt = (p : Int)) (pn : p < n) (no : bt (T0.1 162 5) p = true ∨ (N0.1 155 (N0.1 12 p).toNatClampNeg).toInt = 1000000) (ex : iter (lb_Top_errand_80 v4) FU (so, (0 : Int32), N) = some y) : y.1 = so ∧ RWe N0 so m w s y.2 ∧ EN N0 T0 y.2 T := by
  have n8 := za.1.1
  refine it_r (I := fun (s' : Int32 × Int32 × Mem) => (∃ k : Nat, s'.2.1.toInt = (k : Int)) ∧ s'.1 = so ∧ RWe N0 so m w s s'.2.2 ∧ EN N0 T0 s'.2.2 T) (Q := fun (y : Int32 × Mem) => y.1 = so ∧ RWe N0 so m w s y.2 ∧ EN N0 T0 y.2 T) ?_ ex ⟨⟨0, rfl⟩, rfl, r0, en⟩
  rintro ⟨so', i, P⟩ r ⟨⟨k, hk⟩, hs, hr, he⟩ eA
  dsimp only at hk hs hr he
  subst hs
  have zaP : ZA P T n := EN_ZA za he
  obtain ⟨_, jS, ⟨zg, zc, zl⟩, zs, zv, zw⟩ := zaP.1
  have wh := awh jS
  unfold lb_Top_errand_80 at eA
  dsimp only at eA
  rw [zc.2.1] at eA
  rcases io eA with ⟨g, eA⟩ | ⟨g, eA⟩
  · obtain rfl := Option.some.inj eA
    exact ⟨rfl, hr, he⟩
  have g1 := q_ng g
  have cn := zc.1
  have kn : k < n := by omega
  have i1 : ∃ k : Nat, (i + (1 : Int32)).toInt = (k : Int) := ⟨k + 1, add_ti hk o1 (by omega) (by omega)⟩
  obtain ⟨x5, e5, eA⟩ := bo eA
  have w5 := womanC hp (by omega) e5
  have wom : P.1 6 5 = T0.1 162 5 := by rw [zc.2.2.1]; exact he.2.2.1 162 5 (by omega)
  rw [wom] at w5
  rcases io eA with ⟨g5, eA⟩ | ⟨g5, eA⟩
  rotate_left
  · obtain rfl := Option.some.inj eA
    exact ⟨i1, rfl, hr, he⟩
  have far : (N0.1 155 (N0.1 12 p).toNatClampNeg).toInt = 1000000 := by
    rcases no with h | h
    · rw [w5.mp g5] at h; cases h
    · exact h
  obtain ⟨x6, e6, eA⟩ := bo eA
  rcases io eA with ⟨_, eA⟩ | ⟨_, eA⟩
  · obtain rfl := Option.some.inj eA
    exact ⟨i1, rfl, hr, he⟩
  obtain ⟨_, eA⟩ := io_n eA
  rcases io eA with ⟨g7, eA⟩ | ⟨_, eA⟩
  rotate_left
  · obtain rfl := Option.some.inj eA
    exact ⟨i1, rfl, hr, he⟩
  obtain ⟨x7, e7, eA⟩ := bo eA
  obtain rfl := Option.some.inj eA
  obtain ⟨l, c, l2, c36, hl, hc, hP, onc⟩ := at_2 n8 zs zv kn
  unfold f_Top_handOver at e7
  obtain ⟨_, e7⟩ := io_n e7
  obtain ⟨P1, eP1, e7⟩ := bo e7
  obtain ⟨_, e7⟩ := io_n e7
  obtain ⟨_, e7⟩ := io_n e7
  obtain ⟨x10, e10, e7⟩ := bo e7
  obtain rfl := Option.some.inj e7
  rw [q_nat hk] at eP1
  obtain ⟨ms, fx, fq⟩ := meas_i (.inl rfl) (l := 1) (f := c) rfl (by omega) hc c36 (fun c d hc h => ((near_go jS zv zw.2 (show 1 < 2 by omega) hc).mp h).2.1) eP1
  have he' : EN N0 T0 P1 T := ⟨fun kx i a b d => by rw [fx kx i a]; exact he.1 kx i a b d, by rw [fq]; exact he.2.1, he.2.2.1, he.2.2.2⟩
  have zg1 := (EN_ZA za he').1.2.2.1.1
  have sf := stair_far (by rw [zg1.2.1]; exact wh.2) (fun c hc => by
    have b : 0 ≤ (P1.1 157 c).toInt ∧ ((P1.1 157 c).toInt < 36 ∨ (P1.1 157 c).toInt = 1000000) := ms.2.1 c hc
    have q1 := he'.1 155 c (by omega) (by omega) (by omega)
    have q2 := he'.1 156 c (by omega) (by omega) (by omega)
    have j0 := za.1.2.1
    refine ⟨by rw [q1, h1 c hc]; exact Jr_181 j0 c, ⟨b.1, ?_⟩, by rw [q2, h2 c hc]; exact Jr_182 j0 _⟩
    rcases b.2 with h | h
    · omega
    · omega) (by rw [q_nat hp, he'.1 12 p (by omega) (by omega) (by omega), he'.1 155 _ (by omega) (by omega) (by omega)]; exact far) hr.2.1 e10
  obtain rfl := sf
  exact ⟨i1, rfl, RWe_f hr (fx 0 15 (by omega)) (fun i => fx 161 i (by omega)), he'⟩
theorem errand_q {X R : Mem} {n : Nat} {v1 v2 : Int32} {x r : Int32 × Mem} (za : ZA X R n) (ex : f_Top_errand v1 v2 X = some x) (er : f_Mod_errand v1 v2 R = some r) : x.1 = r.1 ∧ (RR X R → RR x.2 r.2) := by
  have km : (1000000 : Int32).toInt = 1000000 := rfl
  unfold f_Mod_errand at er
  obtain ⟨M1, m1, er⟩ := mo er
  obtain ⟨zaM, fqM⟩ := ZA_M1 za m1
  obtain ⟨n8, jM, ⟨zg, zc, zl⟩, zs, zv, zw⟩ := zaM.1
  have wh := awh jM
  unfold f_Top_errand at ex
  obtain ⟨x1, ex1, ex⟩ := bo ex
  obtain ⟨y2, ey2, er⟩ := bo er
  rcases plc_2 zg jM ex1 ey2 with ⟨a, b⟩ | ⟨a, b, l, f, l2, f36, hl, hf, onf⟩
  · rw [a, if_pos rfl] at ex
    rw [b, if_pos rfl] at er
    obtain rfl := Option.some.inj ex
    obtain rfl := Option.some.inj er
    exact ⟨rfl, FQ2_RR fqM⟩
  have l0 : l = 0 := by have := o0; omega
  subst l0
  rw [a, if_neg (by decide)] at ex
  rw [b, if_neg (by decide)] at er
  obtain ⟨x2, ex2, ex⟩ := bo ex
  obtain ⟨y3, ey3, er⟩ := bo er
  rcases plc_2 zg jM ex2 ey3 with ⟨a, b⟩ | ⟨a, b, l', t, l2', t36, hl', ht, ont⟩
  · rw [a, if_pos rfl] at ex
    rw [b, if_pos rfl] at er
    obtain rfl := Option.some.inj ex
    obtain rfl := Option.some.inj er
    exact ⟨rfl, FQ2_RR fqM⟩
  have l1 : l' = 1 := by have := o1; omega
  subst l1
  rw [a, if_neg (by decide)] at ex
  rw [b, if_neg (by decide)] at er
  obtain ⟨X3, e3, ex⟩ := bo ex
  obtain ⟨X4, e4, ex⟩ := bo ex
  obtain ⟨x14, e14, ex⟩ := bo ex
  obtain ⟨p4, f4, er⟩ := bo er
  obtain ⟨R5, f5, er⟩ := bo er
  obtain ⟨R6, f6, er⟩ := bo er
  obtain ⟨p7, f7, er⟩ := bo er
  obtain ⟨R8, f8, er⟩ := bo er
  obtain ⟨R9, f9, er⟩ := bo er
  obtain ⟨x30, f30, er⟩ := bo er
  obtain ⟨E1, fx1, qx1, jr1, fr1, _⟩ := meas_2 jM zv zw hl l2 hf f36 onf (place_c hl hf l2 f36 f4) e3 f5
  obtain ⟨g1, g2, g3⟩ := copy_r (by omega) f6
  have j6 := (some_of (sf_Mod_copy 177 181 R5 (.inl rfl) (by unfold FR; omega) jr1) f6).1
  have en6 : ZA X3 R6 n := ZA_z zaM j6 (fun kx i h => fx1 kx i (by unfold CXr CX at h; omega)) (fun i => by rw [qx1]) (fun i => by rw [qx1]) (fun i => by rw [qx1]) (fun i => by rw [qx1]) (fun kx i h => by rw [g2 kx i (by unfold CRr CR at h; omega)]; exact fr1 kx i (by unfold CRr CR at h; omega))
  obtain ⟨_, _, ⟨zg6, zc6, zl6⟩, zs6, zv6, zw6⟩ := en6.1
  have mE : MapEq R6 M1 := ⟨by rw [g2 162 2 (by omega)]; exact fr1 162 2 (by omega), by rw [g2 162 3 (by omega)]; exact fr1 162 3 (by omega), fun i => by rw [g2 164 i (by omega)]; exact fr1 164 i (by omega)⟩
  obtain ⟨E2, fx2, qx2, jr2, fr2, _⟩ := meas_2 j6 zv6 zw6 hl' l2' ht t36 ((onN_c mE).mpr ont) (place_c hl' ht l2' t36 f7) e4 f8
  obtain ⟨k1, k2, k3⟩ := copy_r (by omega) f9
  have j9 := (some_of (sf_Mod_copy 177 182 R8 (.inl rfl) (by unfold FR; omega) jr2) f9).1
  have za9 : ZA X4 R9 n := ZA_z en6 j9 (fun kx i h => fx2 kx i (by unfold CXr CX at h; omega)) (fun i => by rw [qx2]) (fun i => by rw [qx2]) (fun i => by rw [qx2]) (fun i => by rw [qx2]) (fun kx i h => by rw [k2 kx i (by unfold CRr CR at h; omega)]; exact fr2 kx i (by unfold CRr CR at h; omega))
  have H1 : ∀ c, c < 36 → X4.1 155 c = R9.1 181 c := fun c hc => by rw [fx2 155 c (by omega), E1 c hc, k2 181 c (by omega), fr2 181 c (by omega), ← g1 (36 * 0 + c) (by omega), show 36 * 0 + c = c by omega]
  have H2 : ∀ c, c < 36 → X4.1 156 c = R9.1 182 (36 * 1 + c) := fun c hc => by rw [E2 c hc, k1 _ (by omega)]
  have b0 : RWe X4 (1000000 : Int32) 0 0 0 X4 := ⟨by decide, by decide, .inl ⟨rfl, rfl, fun _ => rfl⟩⟩
  have K : x14.1 = x30.1 ∧ RWe X4 x30.1 x30.2.1 x30.2.2.1 x30.2.2.2.1 x14.2 ∧ EN X4 R9 x14.2 x30.2.2.2.2 := by
    refine it_2 (I := fun (s : Int32 × Int32 × Mem) (t : Int32 × Int32 × Int32 × Int32 × Int32 × Mem) => (∃ k : Nat, s.2.1.toInt = (k : Int)) ∧ t.2.2.2.2.1 = s.2.1 ∧ t.1 = s.1 ∧ RWe X4 s.1 t.2.1 t.2.2.1 t.2.2.2.1 s.2.2 ∧ EN X4 R9 s.2.2 t.2.2.2.2.2) (Q := fun (y : Int32 × Mem) (z : Int32 × Int32 × Int32 × Int32 × Mem) => y.1 = z.1 ∧ RWe X4 z.1 z.2.1 z.2.2.1 z.2.2.2.1 y.2 ∧ EN X4 R9 y.2 z.2.2.2.2) ?_ e14 f30 ⟨⟨0, rfl⟩, rfl, rfl, b0, fun _ _ _ _ _ => rfl, rfl, fun _ _ _ => rfl, j9⟩
    rintro ⟨so, i, P⟩ ⟨so', m, w, s, i', S⟩ A B ⟨⟨k, hk⟩, hi, hs, hr, he⟩ eA eB
    dsimp only at hk hi hs hr he
    subst hi hs
    have zaP : ZA P S n := EN_ZA za9 he
    obtain ⟨_, jS, ⟨zgP, zcP, zlP⟩, zsP, zvP, zwP⟩ := zaP.1
    unfold lb_Top_errand_65 at eA
    unfold lb_Mod_errand_81 at eB
    dsimp only at eA eB
    rw [zcP.2.1] at eA
    rcases io eA with ⟨g, eA⟩ | ⟨g, eA⟩
    · rw [if_pos g] at eB
      obtain rfl := Option.some.inj eA
      obtain rfl := Option.some.inj eB
      exact .inr ⟨_, _, rfl, rfl, rfl, hr, he⟩
    rw [if_neg g] at eB
    have g1 := q_ng g
    have cn := zcP.1
    have kn : k < n := by omega
    have i1 : ∃ k : Nat, (i' + (1 : Int32)).toInt = (k : Int) := ⟨k + 1, add_ti hk o1 (by omega) (by omega)⟩
    obtain ⟨x12, e12, eA⟩ := bo eA
    obtain rfl := Option.some.inj eA
    obtain ⟨x10, e10, eB⟩ := bo eB
    have w10 := hasR hk (by omega) e10
    rw [he.2.2.1 162 5 (by omega)] at w10
    obtain ⟨lp, cp, lp2, cp36, hlp, hcp, hPp, onp⟩ := at_2 n8 zsP zvP kn
    rcases io eB with ⟨g10, eB⟩ | ⟨g10, eB⟩
    rotate_left
    · obtain rfl := Option.some.inj eB
      have isW : bt (R9.1 162 5) k = true := by
        cases hb : bt (R9.1 162 5) k with
        | true => rfl
        | false => exact absurd (w10.mpr hb) g10
      obtain ⟨q1, q2, q3⟩ := women_0 za9 H1 H2 he hr hk kn (.inl isW) e12
      exact .inl ⟨_, _, rfl, rfl, i1, rfl, q1.symm, by rw [q1]; exact q2, q3⟩
    have man := w10.mp g10
    have lp0 : lp = 0 := by
      have := (zvP.1 k kn).2.1 (by rw [he.2.2.1 162 5 (by omega)]; exact man)
      omega
    obtain ⟨_, eB⟩ := io_n eB
    obtain ⟨_, eB⟩ := io_n eB
    have fe : S.1 181 (S.1 163 i'.toNatClampNeg).toNatClampNeg = X4.1 155 (X4.1 12 k).toNatClampNeg := by
      rw [q_nat hk, q_nat (show (S.1 163 k).toInt = ((cp : Nat) : Int) by omega), he.2.2.1 181 cp (by omega), ← he.1 12 k (by omega) (by omega) (by omega), q_nat hcp, H1 cp cp36]
    rcases io eB with ⟨g11, eB⟩ | ⟨g11, eB⟩
    · obtain ⟨x26, e26, eB⟩ := bo eB
      obtain rfl := Option.some.inj eB
      obtain ⟨q1, q2, q3⟩ := women_2 za9 H1 H2 he hr hk kn man e12 e26
      exact .inl ⟨_, _, rfl, rfl, i1, rfl, q1.symm, by rw [q1]; exact q2, q3⟩
    · have := q_nl g11
      obtain rfl := Option.some.inj eB
      have b := Jr_181 jS (S.1 163 i'.toNatClampNeg).toNatClampNeg
      obtain ⟨q1, q2, q3⟩ := women_0 za9 H1 H2 he hr hk kn (.inr (by rw [← fe]; omega)) e12
      exact .inl ⟨_, _, rfl, rfl, i1, rfl, q1.symm, by rw [q1]; exact q2, q3⟩
  obtain ⟨K1, ⟨K0, KF, K2⟩, K3⟩ := K
  have rx : ∀ kx i, kx ≠ 155 → kx ≠ 156 → X4.1 kx i = X.1 kx i := fun kx i a b => by rw [fx2 kx i b]; exact fx1 kx i a
  have rr : ∀ kx i, kx ≠ 177 → kx ≠ 181 → kx ≠ 182 → x30.2.2.2.2.1 kx i = M1.1 kx i := fun kx i a b c => by rw [K3.2.2.1 kx i a, k2 kx i c, fr2 kx i a, g2 kx i b]; exact fr1 kx i a
  rw [K1] at ex
  rcases K2 with ⟨s1, s2, s3⟩ | ⟨s1, s2, s3, s4, s5⟩
  · rw [if_neg (fun h => by have := q_lt h; omega)] at ex
    rw [if_pos (Int32.toInt_inj.mp s1)] at er
    obtain rfl := Option.some.inj ex
    obtain rfl := Option.some.inj er
    refine ⟨rfl, fun h => RR_f ?_ (fun i => ?_) (rr 162 12 (by omega) (by omega) (by omega)) (fun i => rr 168 i (by omega) (by omega) (by omega)) (FQ2_RR fqM h)⟩
    · rw [s2]; exact rx 0 15 (by omega) (by omega)
    · rw [s3]; exact rx 161 i (by omega) (by omega)
  · rw [if_pos (Int32.lt_iff_toInt_lt.mpr (by rw [km]; exact s1))] at ex
    rw [if_neg (fun h => by have := q_eq h; omega)] at er
    obtain rfl := Option.some.inj ex
    obtain ⟨M31, m31, er⟩ := mo er
    obtain ⟨x32, e32, er⟩ := bo er
    obtain ⟨x33, e33, er⟩ := bo er
    obtain ⟨x34, e34, er⟩ := bo er
    obtain rfl := Option.some.inj er
    have a0 : (M31.1 162 12).toInt = ((0 : Nat) : Int) := by rw [m31, si_eq]; rfl
    obtain ⟨b0, b1, b2⟩ := put_k a0 (by omega) e32
    obtain ⟨c0, c1, c2⟩ := put_k b0 (by omega) e33
    obtain ⟨d0, d1, d2⟩ := put_k c0 (by omega) e34
    refine ⟨rfl, fun _ => ⟨3, by omega, s2, d0, fun i hi => ?_⟩⟩
    have : i = 0 ∨ i = 1 ∨ i = 2 := by omega
    rcases this with rfl | rfl | rfl
    · rw [s3, d2 0 (by omega), c2 0 (by omega), b1]
    · rw [s4, d2 1 (by omega), c1]
    · rw [s5, d1]
end
section
/-! weighted walks: two scales, one meaning -/
def wk (E : Nat → Nat → Nat → Nat → Prop) (f : Nat) : Nat → Nat → Nat → Nat → Prop
  | 0, u, s, a => u = f ∧ s = 0 ∧ a = 0
  | n + 1, u, s, a => ∃ v s' a' ds da, wk E f n v s' a' ∧ E v u ds da ∧ s = s' + ds ∧ a = a' + da
def cw (W : Int) (s a : Nat) : Int := W * (s : Int) + (a : Int)
theorem cw_add (W : Int) (s a ds da : Nat) : cw W (s + ds) (a + da) = cw W s a + cw W ds da := by
  unfold cw
  rw [Int.natCast_add, Int.natCast_add, Int.mul_add]
  omega
theorem cw_0 (W : Int) : cw W 0 0 = 0 := by
  unfold cw
  rw [show ((0 : Nat) : Int) = 0 from rfl, Int.mul_zero]; rfl
theorem cw_1 (W : Int) (a : Nat) : cw W 1 a = W + a := by
  unfold cw
  rw [show ((1 : Nat) : Int) = 1 from rfl, Int.mul_one]
theorem cw_z (W : Int) (a : Nat) : cw W 0 a = a := by
  unfold cw
  rw [show ((0 : Nat) : Int) = 0 from rfl, Int.mul_zero, Int.zero_add]
def Eok (E : Nat → Nat → Nat → Nat → Prop) : Prop := ∀ v u ds da, E v u ds da → v < 72 ∧ u < 72 ∧ ds ≤ 1 ∧ da ≤ 1
def RZw (W : Int) (E : Nat → Nat → Nat → Nat → Prop) (f : Nat) (P : Nat → Int) : Prop := ∀ u, u < 72 → P u < 1000000 → ∃ n s a, wk E f n u s a ∧ P u = cw W s a
def CLO (W : Int) (E : Nat → Nat → Nat → Nat → Prop) (P : Nat → Int) : Prop := ∀ v u ds da, E v u ds da → P u ≤ P v + cw W ds da
theorem wk_lt {E : Nat → Nat → Nat → Nat → Prop} {f : Nat} (hE : Eok E) (hf : f < 72) : ∀ n u s a, wk E f n u s a → u < 72 := by
  intro n u s a h
  cases n with
  | zero => obtain ⟨rfl, _⟩ := h; exact hf
  | succ n => obtain ⟨v, s', a', ds, da, _, e, _⟩ := h; exact (hE _ _ _ _ e).2.1
theorem wk_le {E : Nat → Nat → Nat → Nat → Prop} {f : Nat} {W : Int} {P : Nat → Int} (hf : P f ≤ 0) (hc : CLO W E P) : ∀ n u s a, wk E f n u s a → P u ≤ cw W s a := by
  intro n
  induction n with
  | zero =>
    rintro u s a ⟨rfl, rfl, rfl⟩
    rw [cw_0]; exact hf
  | succ n ih =>
    rintro u s a ⟨v, s', a', ds, da, h, e, rfl, rfl⟩
    have := ih v s' a' h
    have := hc v u ds da e
    rw [cw_add]; omega
def Cnw (P : Nat → Int) (t : Int) : Nat := (List.range 72).countP (fun v => decide (P v < t))
theorem Cnw_le (P : Nat → Int) (t : Int) : Cnw P t ≤ 72 := cnt_le _ _
theorem wk_c {E : Nat → Nat → Nat → Nat → Prop} {f : Nat} {W : Int} {P : Nat → Int} (hE : Eok E) (hW : 1 ≤ W) (hf : P f ≤ 0) (hc : CLO W E P) : ∀ n u s a, wk E f n u s a → P u = cw W s a → s ≤ Cnw P (P u) ∧ a ≤ Cnw P (P u) := by
  intro n
  induction n with
  | zero =>
    rintro u s a ⟨rfl, rfl, rfl⟩ _
    exact ⟨Nat.zero_le _, Nat.zero_le _⟩
  | succ n ih =>
    rintro u s a ⟨v, s', a', ds, da, h, e, rfl, rfl⟩ hu
    have l := wk_le hf hc n v s' a' h
    have c := hc v u ds da e
    rw [cw_add] at hu
    have hv : P v = cw W s' a' := by omega
    obtain ⟨i1, i2⟩ := ih v s' a' h hv
    obtain ⟨v72, _, hs, ha⟩ := hE v u ds da e
    by_cases z : ds = 0 ∧ da = 0
    · obtain ⟨rfl, rfl⟩ := z
      rw [cw_0] at hu
      have : P u = P v := by omega
      rw [this]; exact ⟨i1, i2⟩
    · have pos : 1 ≤ cw W ds da := by
        have : ds = 0 ∨ ds = 1 := by omega
        rcases this with rfl | rfl
        · rw [cw_z]; omega
        · rw [cw_1]; omega
      have lt : P v < P u := by omega
      have k := cnt_lt (P := fun i => decide (P i < P v)) (Q := fun i => decide (P i < P u)) (n := 72) (c := v) v72 (fun i _ h => decide_eq_true (by have := of_decide_eq_true h; omega)) (decide_eq_false (by omega)) (decide_eq_true lt)
      unfold Cnw at i1 i2 ⊢
      omega
/-- what is realized and closed: its two parts -/
theorem rz_2 {E : Nat → Nat → Nat → Nat → Prop} {f : Nat} {W : Int} {P : Nat → Int} (hE : Eok E) (hW : 1 ≤ W) (hf : P f ≤ 0) (hc : CLO W E P) (hr : RZw W E f P) {u : Nat} (hu : u < 72) (hp : P u < 1000000) : ∃ n s a, wk E f n u s a ∧ P u = cw W s a ∧ s ≤ 72 ∧ a ≤ 72 := by
  obtain ⟨n, s, a, h, e⟩ := hr u hu hp
  obtain ⟨i1, i2⟩ := wk_c hE hW hf hc n u s a h e
  have := Cnw_le P (P u)
  exact ⟨n, s, a, h, e, by omega, by omega⟩
/-- the same in hundreds -/
def Oh (Q : Nat → Int) (u : Nat) : Int := if Q u < 1000000 then 100 * (Q u / 1000) + Q u % 1000 else 1000000
theorem Oh_i {Q : Nat → Int} {u s a : Nat} (hs : s ≤ 72) (ha : a ≤ 72) (h : Q u = cw 1000 s a) : Q u < 1000000 ∧ Oh Q u = cw 100 s a := by
  unfold cw at h ⊢
  unfold Oh
  rw [if_pos (by omega)]
  exact ⟨by omega, by omega⟩
theorem Oh_clo {E : Nat → Nat → Nat → Nat → Prop} {f : Nat} {Q : Nat → Int} (hE : Eok E) (hf : Q f ≤ 0) (hc : CLO 1000 E Q) (hr : RZw 1000 E f Q) (hb : ∀ u, Q u ≤ 1000000) : CLO 100 E (Oh Q) ∧ RZw 100 E f (Oh Q) ∧ (∀ u, Oh Q u ≤ 1000000) := by
  have up : ∀ u, u < 72 → Oh Q u ≤ 1000000 := by
    intro u hu
    by_cases g : Q u < 1000000
    · obtain ⟨n, s, a, h, e, hs, ha⟩ := rz_2 hE (by omega) hf hc hr hu g
      rw [(Oh_i hs ha e).2]
      unfold cw; omega
    · unfold Oh; rw [if_neg g]; omega
  refine ⟨?_, ?_, ?_⟩
  · intro v u ds da e
    obtain ⟨v72, u72, h1, h2⟩ := hE v u ds da e
    have pos : 0 ≤ cw 100 ds da := by unfold cw; omega
    by_cases g : Q v < 1000000
    · obtain ⟨n, s, a, h, e1, hs, ha⟩ := rz_2 hE (by omega) hf hc hr v72 g
      have c := hc v u ds da e
      rw [e1] at c
      have g2 : Q u < 1000000 := by unfold cw at c; omega
      obtain ⟨n', s', a', h', e2, hs', ha'⟩ := rz_2 hE (by omega) hf hc hr u72 g2
      rw [e2] at c
      rw [(Oh_i hs ha e1).2, (Oh_i hs' ha' e2).2]
      unfold cw at c ⊢
      omega
    · have : Oh Q v = 1000000 := by unfold Oh; rw [if_neg g]
      have := up u u72
      omega
  · intro u hu h
    by_cases g : Q u < 1000000
    · obtain ⟨n, s, a, h, e, hs, ha⟩ := rz_2 hE (by omega) hf hc hr hu g
      exact ⟨n, s, a, h, (Oh_i hs ha e).2⟩
    · unfold Oh at h; rw [if_neg g] at h; omega
  · intro u
    by_cases g : Q u < 1000000
    · unfold Oh; rw [if_pos g]; omega
    · unfold Oh; rw [if_neg g]; omega
/-- settled: how many have their last price -/
def Sn (P O : Nat → Int) : Nat := (List.range 72).countP (fun v => decide (P v ≤ O v))
/-- a round settles one more -/
theorem round_1 {E : Nat → Nat → Nat → Nat → Prop} {f : Nat} {P P' O : Nat → Int} (hE : Eok E) (hf : P f ≤ 0) (f72 : f < 72) (Of : O f ≤ 0) (oc : CLO 100 E O) (orz : RZw 100 E f O) (mono : ∀ u, u < 72 → P' u ≤ P u) (step : ∀ v u ds da, E v u ds da → P v < 1000000 → P' u ≤ P v + cw 100 ds da) (hb : ∀ u, u < 72 → P u ≤ 1000000) (O0 : 0 ≤ O f) : Sn P O = 72 ∨ Sn P O < Sn P' O := by
  by_cases all : ∀ u, u < 72 → P u ≤ O u
  · refine .inl ?_
    unfold Sn
    have : (List.range 72).countP (fun v => decide (P v ≤ O v)) = (List.range 72).length := List.countP_eq_length.mpr (fun u hu => decide_eq_true (all u (List.mem_range.mp hu)))
    rw [this, List.length_range]
  · refine .inr ?_
    have ex : ∃ u, u < 72 ∧ ¬ P u ≤ O u := Classical.byContradiction (fun h => all (fun u hu => Classical.byContradiction (fun g => h ⟨u, hu, g⟩)))
    obtain ⟨u, hu, hn⟩ := ex
    have key : ∀ n u s a, wk E f n u s a → O u = cw 100 s a → O u < 1000000 → ¬ P u ≤ O u → ∃ w, w < 72 ∧ ¬ P w ≤ O w ∧ P' w ≤ O w := by
      intro n
      induction n with
      | zero =>
        rintro u s a ⟨rfl, rfl, rfl⟩ _ _ h
        exact absurd (by omega) h
      | succ n ih =>
        rintro u s a ⟨v, s', a', ds, da, h, e, rfl, rfl⟩ hu hl hn
        have l := wk_le Of oc n v s' a' h
        have c := oc v u ds da e
        rw [cw_add] at hu
        have hv : O v = cw 100 s' a' := by omega
        have pos : 0 ≤ cw 100 ds da := by unfold cw; omega
        by_cases g : P v ≤ O v
        · have := step v u ds da e (by omega)
          exact ⟨u, (hE v u ds da e).2.1, hn, by omega⟩
        · exact ih v s' a' h hv (by omega) g
    have hl : O u < 1000000 := by have := hb u hu; omega
    obtain ⟨n, s, a, h, e⟩ := orz u hu hl
    obtain ⟨w, w72, w1, w2⟩ := key n u s a h e hl hn
    exact cnt_lt (P := fun v => decide (P v ≤ O v)) (Q := fun v => decide (P' v ≤ O v)) w72 (fun i hi h => decide_eq_true (by have := of_decide_eq_true h; have := mono i hi; omega)) (decide_eq_false w1) (decide_eq_true w2)
theorem Sn_all {P O : Nat → Int} (h : 72 ≤ Sn P O) : ∀ u, u < 72 → P u ≤ O u := fun u hu => of_decide_eq_true (cnt_all (P := fun v => decide (P v ≤ O v)) h u hu)
theorem Sn_m {P P' O : Nat → Int} (mono : ∀ u, u < 72 → P' u ≤ P u) (h : Sn P O = 72) : Sn P' O = 72 := by
  have a := Sn_all (P := P) (O := O) (by omega)
  unfold Sn
  have : (List.range 72).countP (fun v => decide (P' v ≤ O v)) = (List.range 72).length := List.countP_eq_length.mpr (fun u hu => decide_eq_true (by
    have h72 := List.mem_range.mp hu
    have := a u h72
    have := mono u h72
    omega))
  rw [this, List.length_range]
end
