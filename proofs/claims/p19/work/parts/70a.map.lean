/-! two memories side by side; the class's map -/
theorem it_2 {S T X Y : Type} {f : S → Option (S ⊕ X)} {g : T → Option (T ⊕ Y)} {I : S → T → Prop} {Q : X → Y → Prop} (hs : ∀ s t a b, I s t → f s = some a → g t = some b → (∃ s' t', a = .inl s' ∧ b = .inl t' ∧ I s' t') ∨ (∃ x y, a = .inr x ∧ b = .inr y ∧ Q x y)) {n m : Nat} {s : S} {t : T} {x : X} {y : Y} (e : iter f n s = some x) (d : iter g m t = some y) (h : I s t) : Q x y := by
  induction n generalizing s t m with
  | zero => cases e
  | succ n ih =>
    cases m with
    | zero => cases d
    | succ m =>
      simp only [iter] at e d
      cases hf : f s with
      | none => rw [hf] at e; cases e
      | some a =>
        cases hg : g t with
        | none => rw [hg] at d; cases d
        | some b =>
          rw [hf] at e
          rw [hg] at d
          rcases hs s t a b h hf hg with ⟨s', t', rfl, rfl, k⟩ | ⟨x', y', rfl, rfl, k⟩
          · exact ih e d k
          · obtain rfl := Option.some.inj e
            obtain rfl := Option.some.inj d
            exact k
def ZG (X R : Mem) : Prop := (X.1 3 2).toInt = xw R ∧ (X.1 3 3).toInt = xw R * xh R ∧ (∀ i, i < 36 → X.1 4 i = R.1 164 i) ∧ (∀ i, i < 36 → 0 ≤ (R.1 164 i).toInt ∧ (R.1 164 i).toInt ≤ 3)
def bec (w h c s : Int) : Int := if s = 0 then (if c < w then -1 else c - w) else if s = 1 then (if w ≤ c % w + 1 then -1 else c + 1) else if s = 2 then (if w * h ≤ c + w then -1 else c + w) else if s = 3 then (if c % w ≤ 0 then -1 else c - 1) else -1
def becT : Bool := (List.range 6).all fun w => (List.range 6).all fun h => (List.range 36).all fun c => (List.range 4).all fun s =>
  (((c : Int) < ((w : Int) + 1) * ((h : Int) + 1)) → bec (w + 1) (h + 1) c s = bes (w + 1) (h + 1) c s : Bool)
theorem becT_t : becT = true := by decide +kernel
theorem rngs {w h c s : Int} (hw : 1 ≤ w ∧ w ≤ 6) (hh : 1 ≤ h ∧ h ≤ 6) (hc : 0 ≤ c) (hc2 : c < w * h) (hs : 0 ≤ s ∧ s ≤ 3) : ∃ w' h' c' s' : Nat, w' < 6 ∧ h' < 6 ∧ c' < 36 ∧ s' < 4 ∧ w = (w' : Int) + 1 ∧ h = (h' : Int) + 1 ∧ c = (c' : Int) ∧ s = (s' : Int) := by
  have : w * h ≤ 6 * 6 := Int.mul_le_mul hw.2 hh.2 (by omega) (by omega)
  exact ⟨(w - 1).toNat, (h - 1).toNat, c.toNat, s.toNat, by omega, by omega, by omega, by omega, by omega, by omega, by omega, by omega⟩
theorem bec_eq {w h c s : Int} (hw : 1 ≤ w ∧ w ≤ 6) (hh : 1 ≤ h ∧ h ≤ 6) (hc : 0 ≤ c) (hc2 : c < w * h) (hs : 0 ≤ s ∧ s ≤ 3) : bec w h c s = bes w h c s := by
  obtain ⟨w', h', c', s', lw, lh, lc, ls, rfl, rfl, rfl, rfl⟩ := rngs hw hh hc hc2 hs
  have k := List.all_eq_true.mp (List.all_eq_true.mp (List.all_eq_true.mp (List.all_eq_true.mp becT_t w' (List.mem_range.mpr lw)) h' (List.mem_range.mpr lh)) c' (List.mem_range.mpr lc)) s' (List.mem_range.mpr ls)
  exact of_decide_eq_true k hc2
/-- two steps the same way -/
def bb (w h c s : Int) : Int := if bes w h c s = -1 then -1 else bes w h (bes w h c s) s
def btw (w h a b : Int) : Int := if ((a % w - b % w).natAbs = 2 ∧ (a / w - b / w).natAbs = 0) ∨ ((a % w - b % w).natAbs = 0 ∧ (a / w - b / w).natAbs = 2) then (a + b) / 2 else -1
def bbT : Bool := (List.range 6).all fun w => (List.range 6).all fun h => (List.range 36).all fun a => !(decide ((a : Int) < ((w : Int) + 1) * ((h : Int) + 1))) ||
  ((List.range 4).all fun s => (bb (w + 1) (h + 1) a s == -1) || (btw (w + 1) (h + 1) a (bb (w + 1) (h + 1) a s) == bes (w + 1) (h + 1) a s && (bb (w + 1) (h + 1) (bb (w + 1) (h + 1) a s) (opp s) == a) && ((List.range 4).all fun r => r == s || !(bb (w + 1) (h + 1) a r == bb (w + 1) (h + 1) a s))))
theorem bbT_t : bbT = true := by decide +kernel
theorem bb_i {w h c s : Int} (hw : 1 ≤ w ∧ w ≤ 6) (hh : 1 ≤ h ∧ h ≤ 6) (hc : 0 ≤ c) (hc2 : c < w * h) (hs : 0 ≤ s ∧ s ≤ 3) (hb : bb w h c s ≠ -1) : btw w h c (bb w h c s) = bes w h c s ∧ bb w h (bb w h c s) (opp s) = c ∧ ∀ r, 0 ≤ r → r ≤ 3 → bb w h c r = bb w h c s → r = s := by
  obtain ⟨w', h', c', s', lw, lh, lc, ls, rfl, rfl, rfl, rfl⟩ := rngs hw hh hc hc2 hs
  have k := List.all_eq_true.mp (List.all_eq_true.mp (List.all_eq_true.mp bbT_t w' (List.mem_range.mpr lw)) h' (List.mem_range.mpr lh)) c' (List.mem_range.mpr lc)
  rw [decide_eq_true hc2, Bool.not_true, Bool.false_or] at k
  have k := List.all_eq_true.mp k s' (List.mem_range.mpr ls)
  rw [Bool.or_eq_true] at k
  rcases k with k | k
  · exact absurd (by simpa using k) hb
  · simp only [Bool.and_eq_true, beq_iff_eq] at k
    refine ⟨k.1.1, k.1.2, fun r r0 r3 e => ?_⟩
    obtain ⟨r', rfl⟩ : ∃ r' : Nat, r = (r' : Int) := ⟨r.toNat, by omega⟩
    have k2 := List.all_eq_true.mp k.2 r' (List.mem_range.mpr (by omega))
    rw [Bool.or_eq_true] at k2
    rcases k2 with k2 | k2
    · have : r' = s' := by simpa using k2
      rw [this]
    · simp only [Bool.not_eq_true', beq_eq_false_iff_ne] at k2
      exact absurd e k2
def btT : Bool := (List.range 6).all fun w => (List.range 6).all fun h => (List.range 36).all fun a => !(decide ((a : Int) < ((w : Int) + 1) * ((h : Int) + 1))) ||
  ((List.range 36).all fun b => !(decide ((b : Int) < ((w : Int) + 1) * ((h : Int) + 1))) || (btw (w + 1) (h + 1) a b == -1) || ((List.range 4).any fun s => bb (w + 1) (h + 1) a s == b))
theorem btT_t : btT = true := by decide +kernel
theorem bt_i {w h a b : Int} (hw : 1 ≤ w ∧ w ≤ 6) (hh : 1 ≤ h ∧ h ≤ 6) (ha : 0 ≤ a) (ha2 : a < w * h) (hb : 0 ≤ b) (hb2 : b < w * h) (hn : btw w h a b ≠ -1) : ∃ s, 0 ≤ s ∧ s ≤ 3 ∧ bb w h a s = b := by
  obtain ⟨w', h', c', s', lw, lh, lc, ls, rfl, rfl, rfl, _⟩ := rngs (s := 0) hw hh ha ha2 (by omega)
  have : ((w' : Int) + 1) * ((h' : Int) + 1) ≤ 6 * 6 := Int.mul_le_mul hw.2 hh.2 (by omega) (by omega)
  obtain ⟨b', rfl⟩ : ∃ b' : Nat, b = (b' : Int) := ⟨b.toNat, by omega⟩
  have k := List.all_eq_true.mp (List.all_eq_true.mp (List.all_eq_true.mp btT_t w' (List.mem_range.mpr lw)) h' (List.mem_range.mpr lh)) c' (List.mem_range.mpr lc)
  rw [decide_eq_true ha2, Bool.not_true, Bool.false_or] at k
  have k := List.all_eq_true.mp k b' (List.mem_range.mpr (by omega))
  rw [decide_eq_true hb2, Bool.not_true, Bool.false_or, Bool.or_eq_true] at k
  rcases k with k | k
  · exact absurd (by simpa using k) hn
  · obtain ⟨s, hs, k⟩ := List.any_eq_true.mp k
    exact ⟨s, by omega, by have := List.mem_range.mp hs; omega, by simpa using k⟩
section ZC
variable {X R : Mem}
theorem besC (z : ZG X R) (jR : J R) {c s x : Int32} (e : f_Ground_beside c s X = some x) : (0 ≤ c.toInt → c.toInt < xw R * xh R → 0 ≤ s.toInt → s.toInt ≤ 3 → x.toInt = bes (xw R) (xh R) c.toInt s.toInt) ∧ (¬ (0 ≤ c.toInt ∧ c.toInt < xw R * xh R ∧ 0 ≤ s.toInt ∧ s.toInt ≤ 3) → x.toInt = -1) := by
  obtain ⟨z1, z2, z3, z4⟩ := z
  have hw := aw jR
  have hh := ah jR
  have wh := awh jR
  have z0 := o0
  have y1 := o1
  have y2 := o2
  have y3 := o3
  have ym := om
  have key : x.toInt = if 0 ≤ c.toInt ∧ c.toInt < xw R * xh R then bec (xw R) (xh R) c.toInt s.toInt else -1 := by
    unfold f_Ground_beside at e
    rcases io e with ⟨k, e⟩ | ⟨k, e⟩
    · obtain rfl := Option.some.inj e
      have := q_lt k
      rw [if_neg (by omega)]; exact om
    have k1 := q_nl k
    rcases io e with ⟨k, e⟩ | ⟨k, e⟩
    · obtain rfl := Option.some.inj e
      have := q_le k
      rw [if_neg (by omega)]; exact om
    have k2 := q_ng k
    rw [if_pos (by omega)]
    rcases io e with ⟨k, e⟩ | ⟨k, e⟩
    · obtain ⟨_, e⟩ := io_m e
      have rm : (c - c / (X.1 3 2) * (X.1 3 2)).toInt = c.toInt % xw R := rem_ti rfl z1 (by omega) (by omega)
      have rb := Int.emod_nonneg c.toInt (show xw R ≠ 0 by omega)
      have rl := Int.emod_lt_of_pos c.toInt (show 0 < xw R by omega)
      unfold bec
      rcases io e with ⟨k, e⟩ | ⟨k, e⟩
      · rw [if_pos (by have := q_eq k; omega)]
        rcases io e with ⟨k, e⟩ | ⟨k, e⟩
        · obtain rfl := Option.some.inj e
          have := q_lt k
          rw [if_pos (by omega)]; exact om
        · obtain rfl := Option.some.inj e
          have := q_nl k
          rw [if_neg (by omega)]; exact sub_ti rfl z1 (by omega) (by omega)
      rw [if_neg (by have := q_ne k; omega)]
      rcases io e with ⟨k, e⟩ | ⟨k, e⟩
      · rw [if_pos (by have := q_eq k; omega)]
        have ra : ((c - c / (X.1 3 2) * (X.1 3 2)) + (1 : Int32)).toInt = c.toInt % xw R + 1 := add_ti rm o1 (by omega) (by omega)
        rcases io e with ⟨k, e⟩ | ⟨k, e⟩
        · obtain rfl := Option.some.inj e
          have := q_le k
          rw [if_pos (by omega)]; exact om
        · obtain rfl := Option.some.inj e
          have := q_ng k
          rw [if_neg (by omega)]; exact add_ti rfl o1 (by omega) (by omega)
      rw [if_neg (by have := q_ne k; omega)]
      rcases io e with ⟨k, e⟩ | ⟨k, e⟩
      · rw [if_pos (by have := q_eq k; omega)]
        have ra : (c + (X.1 3 2)).toInt = c.toInt + xw R := add_ti rfl z1 (by omega) (by omega)
        rcases io e with ⟨k, e⟩ | ⟨k, e⟩
        · obtain rfl := Option.some.inj e
          have := q_le k
          rw [if_pos (by omega)]; exact om
        · obtain rfl := Option.some.inj e
          have := q_ng k
          rw [if_neg (by omega)]; exact ra
      rw [if_neg (by have := q_ne k; omega)]
      rcases io e with ⟨k, e⟩ | ⟨k, e⟩
      · rw [if_pos (by have := q_eq k; omega)]
        rcases io e with ⟨k, e⟩ | ⟨k, e⟩
        · obtain rfl := Option.some.inj e
          have := q_le k
          rw [if_pos (by omega)]; exact om
        · obtain rfl := Option.some.inj e
          have := q_ng k
          rw [if_neg (by omega)]; exact sub_ti rfl o1 (by omega) (by omega)
      rw [if_neg (by have := q_ne k; omega)]
      obtain rfl := Option.some.inj e
      exact om
    · have := q_ng k; omega
  constructor
  · intro a b c1 d
    rw [key, if_pos ⟨a, b⟩, bec_eq hw hh a b ⟨c1, d⟩]
  · intro h
    rw [key]
    by_cases g : 0 ≤ c.toInt ∧ c.toInt < xw R * xh R
    · rw [if_pos g]
      unfold bec
      rw [if_neg (by omega), if_neg (by omega), if_neg (by omega), if_neg (by omega)]
    · rw [if_neg g]
theorem bes_in {w h c s : Int} (hw : 1 ≤ w ∧ w ≤ 6) (hh : 1 ≤ h ∧ h ≤ 6) (hc : 0 ≤ c) (hc2 : c < w * h) (hs : 0 ≤ s ∧ s ≤ 3) : bes w h c s = -1 ∨ (0 ≤ bes w h c s ∧ bes w h c s < w * h) := by
  by_cases k : bes w h c s = -1
  · exact .inl k
  · have := bes_sym hw hh hc hc2 hs k
    exact .inr ⟨this.1, this.2.1⟩
theorem holdsC (z : ZG X R) (jR : J R) {l c x : Int32} (e : f_Ground_holds l c X = some x) : (x = 1 ∧ 0 ≤ l.toInt ∧ l.toInt ≤ 1 ∧ onN R l.toInt c.toInt) ∨ (x = 0 ∧ ¬ (0 ≤ l.toInt ∧ l.toInt ≤ 1 ∧ onN R l.toInt c.toInt)) := by
  obtain ⟨z1, z2, z3, z4⟩ := z
  have wh := awh jR
  have z0 := o0
  have y1 := o1
  have z36 : (36 : Int32).toInt = 36 := rfl
  unfold f_Ground_holds at e
  rcases io e with ⟨k, e⟩ | ⟨k, e⟩
  · obtain rfl := Option.some.inj e; have := q_lt k; exact .inr ⟨rfl, by omega⟩
  have k1 := q_nl k
  rcases io e with ⟨k, e⟩ | ⟨k, e⟩
  · obtain rfl := Option.some.inj e; have := q_lt k; exact .inr ⟨rfl, by omega⟩
  have k2 := q_nl k
  rcases io e with ⟨k, e⟩ | ⟨k, e⟩
  · obtain rfl := Option.some.inj e; have := q_lt k; exact .inr ⟨rfl, fun h => by have := h.2.2.1; omega⟩
  have k3 := q_nl k
  rcases io e with ⟨k, e⟩ | ⟨k, e⟩
  · obtain rfl := Option.some.inj e; have := q_le k; exact .inr ⟨rfl, fun h => by have := h.2.2.2.1; omega⟩
  have k4 := q_ng k
  rcases io e with ⟨k, e⟩ | ⟨k, e⟩
  · have := q_le k; omega
  have k5 := q_ng k
  obtain ⟨_, e⟩ := io_n e
  obtain ⟨c', hc'⟩ : ∃ c' : Nat, c.toInt = (c' : Int) := ⟨c.toInt.toNat, by omega⟩
  have kk : X.1 4 c.toNatClampNeg = R.1 164 c' := by rw [q_nat hc']; exact z3 c' (by omega)
  have kr := z4 c' (by omega)
  obtain ⟨l', hl'⟩ : ∃ l' : Nat, l.toInt = (l' : Int) := ⟨l.toInt.toNat, by omega⟩
  rw [bt_shr hl' (by omega), kk] at e
  have tab : bt (R.1 164 c') l' = true ↔ (if l.toInt = 0 then (R.1 164 c').toInt = 1 ∨ (R.1 164 c').toInt = 3 else (R.1 164 c').toInt = 2 ∨ (R.1 164 c').toInt = 3) := by
    generalize R.1 164 c' = v at kr
    have hl : l' = 0 ∨ l' = 1 := by omega
    have hv : v = 0 ∨ v = 1 ∨ v = 2 ∨ v = 3 := by
      have : v.toInt = 0 ∨ v.toInt = 1 ∨ v.toInt = 2 ∨ v.toInt = 3 := by omega
      rcases this with h | h | h | h
      · exact .inl (Int32.toInt_inj.mp h)
      · exact .inr (.inl (Int32.toInt_inj.mp h))
      · exact .inr (.inr (.inl (Int32.toInt_inj.mp h)))
      · exact .inr (.inr (.inr (Int32.toInt_inj.mp h)))
    rcases hl with rfl | rfl
    · rw [if_pos (by omega)]
      rcases hv with rfl | rfl | rfl | rfl <;> decide
    · rw [if_neg (by omega)]
      rcases hv with rfl | rfl | rfl | rfl <;> decide
  have on : onN R l.toInt c.toInt ↔ bt (R.1 164 c') l' = true := by
    unfold onN
    rw [tab, show c.toInt.toNat = c' by omega]
    constructor
    · intro h; exact h.2.2
    · intro h; exact ⟨by omega, by omega, h⟩
  cases hb : bt (R.1 164 c') l' with
  | true =>
    rw [hb, if_pos rfl, if_neg (by decide)] at e
    obtain rfl := Option.some.inj e
    exact .inl ⟨rfl, by omega, by omega, on.mpr hb⟩
  | false =>
    rw [hb, if_neg (show ¬ (false = true) by decide), if_pos rfl] at e
    obtain rfl := Option.some.inj e
    exact .inr ⟨rfl, fun h => by have := on.mp h.2.2; rw [hb] at this; cases this⟩
def stN (R : Mem) (c : Int) : Prop := 0 ≤ c ∧ c < xw R * xh R ∧ (R.1 164 c.toNat).toInt = 3
theorem stairC (z : ZG X R) (jR : J R) {c x : Int32} (e : f_Ground_isStair c X = some x) : (x = 1 ∧ stN R c.toInt) ∨ (x = 0 ∧ ¬ stN R c.toInt) := by
  obtain ⟨z1, z2, z3, z4⟩ := z
  have wh := awh jR
  have z0 := o0
  have z36 : (36 : Int32).toInt = 36 := rfl
  unfold f_Ground_isStair at e
  rcases io e with ⟨k, e⟩ | ⟨k, e⟩
  · obtain rfl := Option.some.inj e; have := q_lt k; exact .inr ⟨rfl, fun h => by have := h.1; omega⟩
  have k3 := q_nl k
  rcases io e with ⟨k, e⟩ | ⟨k, e⟩
  · obtain rfl := Option.some.inj e; have := q_le k; exact .inr ⟨rfl, fun h => by have := h.2.1; omega⟩
  have k4 := q_ng k
  rcases io e with ⟨k, e⟩ | ⟨k, e⟩
  · have := q_le k; omega
  obtain ⟨_, e⟩ := io_n e
  have kk : X.1 4 c.toNatClampNeg = R.1 164 c.toInt.toNat := by rw [tcn']; exact z3 _ (by omega)
  rw [kk] at e
  rcases io e with ⟨k, e⟩ | ⟨k, e⟩
  · obtain rfl := Option.some.inj e
    exact .inl ⟨rfl, by omega, by omega, q_eq k⟩
  · obtain rfl := Option.some.inj e
    exact .inr ⟨rfl, fun h => q_ne k h.2.2⟩
/-- across: the side on which it is the next but one -/
theorem acrossC (z : ZG X R) (jR : J R) {a b x : Int32} (ha : 0 ≤ a.toInt) (ha2 : a.toInt < xw R * xh R) (hb : 0 ≤ b.toInt) (e : f_Ground_across a b X = some x) : (∃ s : Nat, s < 4 ∧ x.toInt = (s : Int) ∧ bb (xw R) (xh R) a.toInt s = b.toInt) ∨ (x.toInt = -1 ∧ ∀ s : Nat, s < 4 → bb (xw R) (xh R) a.toInt s ≠ b.toInt) := by
  have hw := aw jR
  have hh := ah jR
  unfold f_Ground_across at e
  obtain ⟨y, ey, e⟩ := bo e
  have key : Sum.elim (fun _ : Unit => ∀ s : Nat, s < 4 → bb (xw R) (xh R) a.toInt s ≠ b.toInt) (fun v : Int32 => ∃ s : Nat, s < 4 ∧ v.toInt = (s : Int) ∧ bb (xw R) (xh R) a.toInt s = b.toInt) y := by
    refine it_r (I := fun v : Int32 => ∃ s : Nat, s ≤ 4 ∧ v.toInt = (s : Int) ∧ ∀ r : Nat, r < s → bb (xw R) (xh R) a.toInt r ≠ b.toInt) (Q := Sum.elim (fun _ : Unit => ∀ s : Nat, s < 4 → bb (xw R) (xh R) a.toInt s ≠ b.toInt) (fun v : Int32 => ∃ s : Nat, s < 4 ∧ v.toInt = (s : Int) ∧ bb (xw R) (xh R) a.toInt s = b.toInt)) ?_ ey ⟨0, by omega, rfl, fun r hr => absurd hr (by omega)⟩
    rintro v r ⟨s, ls, hs, hr⟩ e
    have y4 := o4
    have ym := om
    unfold lb_Ground_across_2 at e
    rcases io e with ⟨k, e⟩ | ⟨k, e⟩
    · have := q_le k
      obtain rfl := Option.some.inj e
      exact fun r h => hr r (by omega)
    have k1 := q_ng k
    rcases io e with ⟨k, e⟩ | ⟨k, e⟩
    · have := q_eq k; omega
    obtain ⟨x1, e1, e⟩ := bo e
    obtain ⟨x2, e2, e⟩ := bo e
    have b1 := (besC z jR e1).1 ha ha2 (by omega) (by omega)
    have b2 : x2.toInt = bb (xw R) (xh R) a.toInt v.toInt := by
      unfold bb
      have q := besC z jR e2
      by_cases g : bes (xw R) (xh R) a.toInt v.toInt = -1
      · rw [if_pos g]; exact q.2 (by omega)
      · rw [if_neg g]
        have := bes_in hw hh ha ha2 (s := v.toInt) (by omega)
        rw [q.1 (by omega) (by omega) (by omega) (by omega), b1]
    rcases io e with ⟨k, e⟩ | ⟨k, e⟩
    · have := q_eq k
      obtain rfl := Option.some.inj e
      exact ⟨s, by omega, hs, by rw [← hs, ← b2, this]⟩
    · have := q_ne k
      obtain rfl := Option.some.inj e
      refine ⟨s + 1, by omega, add_ti hs o1 (by omega) (by omega), fun r h => ?_⟩
      rcases Nat.lt_or_ge r s with g | g
      · exact hr r g
      · have : r = s := by omega
        subst this
        rw [← hs, ← b2]; omega
  rcases y with y | y
  · replace e := el_l e
    obtain rfl := Option.some.inj e
    exact .inr ⟨om, key⟩
  · replace e := el_r e
    obtain rfl := Option.some.inj e
    exact .inl key
end ZC
