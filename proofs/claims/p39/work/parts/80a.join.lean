section
/-! weighted walks: two scales, one meaning -/
def wk (E : Nat → Nat → Nat → Nat → Prop) (f : Nat) : Nat → Nat → Nat → Nat → Prop
  | 0, u, s, a => u = f ∧ s = 0 ∧ a = 0
  | n + 1, u, s, a => ∃ v s' a' ds da, wk E f n v s' a' ∧ E v u ds da ∧ s = s' + ds ∧ a = a' + da
def cw (W : Int) (s a : Nat) : Int := W * (s : Int) + (a : Int)
theorem cw_add (W : Int) (s a ds da : Nat) : cw W (s + ds) (a + da) = cw W s a + cw W ds da := by
  unfold cw
  rw [Int.natCast_add, Int.natCast_add, Int.mul_add]
  omega
theorem cw_0 (W : Int) : cw W 0 0 = 0 := by
  unfold cw
  rw [show ((0 : Nat) : Int) = 0 from rfl, Int.mul_zero]; rfl
theorem cw_1 (W : Int) (a : Nat) : cw W 1 a = W + a := by
  unfold cw
  rw [show ((1 : Nat) : Int) = 1 from rfl, Int.mul_one]
theorem cw_z (W : Int) (a : Nat) : cw W 0 a = a := by
  unfold cw
  rw [show ((0 : Nat) : Int) = 0 from rfl, Int.mul_zero, Int.zero_add]
def Eok (E : Nat → Nat → Nat → Nat → Prop) : Prop := ∀ v u ds da, E v u ds da → v < 72 ∧ u < 72 ∧ ds ≤ 1 ∧ da ≤ 1
def RZw (W : Int) (E : Nat → Nat → Nat → Nat → Prop) (f : Nat) (P : Nat → Int) : Prop := ∀ u, u < 72 → P u < 1000000 → ∃ n s a, wk E f n u s a ∧ P u = cw W s a
def CLO (W : Int) (E : Nat → Nat → Nat → Nat → Prop) (P : Nat → Int) : Prop := ∀ v u ds da, E v u ds da → P u ≤ P v + cw W ds da
theorem wk_lt {E : Nat → Nat → Nat → Nat → Prop} {f : Nat} (hE : Eok E) (hf : f < 72) : ∀ n u s a, wk E f n u s a → u < 72 := by
  intro n u s a h
  cases n with
  | zero => obtain ⟨rfl, _⟩ := h; exact hf
  | succ n => obtain ⟨v, s', a', ds, da, _, e, _⟩ := h; exact (hE _ _ _ _ e).2.1
theorem wk_le {E : Nat → Nat → Nat → Nat → Prop} {f : Nat} {W : Int} {P : Nat → Int} (hf : P f ≤ 0) (hc : CLO W E P) : ∀ n u s a, wk E f n u s a → P u ≤ cw W s a := by
  intro n
  induction n with
  | zero =>
    rintro u s a ⟨rfl, rfl, rfl⟩
    rw [cw_0]; exact hf
  | succ n ih =>
    rintro u s a ⟨v, s', a', ds, da, h, e, rfl, rfl⟩
    have := ih v s' a' h
    have := hc v u ds da e
    rw [cw_add]; omega
def Cnw (P : Nat → Int) (t : Int) : Nat := (List.range 72).countP (fun v => decide (P v < t))
theorem Cnw_le (P : Nat → Int) (t : Int) : Cnw P t ≤ 72 := cnt_le _ _
theorem wk_c {E : Nat → Nat → Nat → Nat → Prop} {f : Nat} {W : Int} {P : Nat → Int} (hE : Eok E) (hW : 1 ≤ W) (hf : P f ≤ 0) (hc : CLO W E P) : ∀ n u s a, wk E f n u s a → P u = cw W s a → s ≤ Cnw P (P u) ∧ a ≤ Cnw P (P u) := by
  intro n
  induction n with
  | zero =>
    rintro u s a ⟨rfl, rfl, rfl⟩ _
    exact ⟨Nat.zero_le _, Nat.zero_le _⟩
  | succ n ih =>
    rintro u s a ⟨v, s', a', ds, da, h, e, rfl, rfl⟩ hu
    have l := wk_le hf hc n v s' a' h
    have c := hc v u ds da e
    rw [cw_add] at hu
    have hv : P v = cw W s' a' := by omega
    obtain ⟨i1, i2⟩ := ih v s' a' h hv
    obtain ⟨v72, _, hs, ha⟩ := hE v u ds da e
    by_cases z : ds = 0 ∧ da = 0
    · obtain ⟨rfl, rfl⟩ := z
      rw [cw_0] at hu
      have : P u = P v := by omega
      rw [this]; exact ⟨i1, i2⟩
    · have pos : 1 ≤ cw W ds da := by
        have : ds = 0 ∨ ds = 1 := by omega
        rcases this with rfl | rfl
        · rw [cw_z]; omega
        · rw [cw_1]; omega
      have lt : P v < P u := by omega
      have k := cnt_lt (P := fun i => decide (P i < P v)) (Q := fun i => decide (P i < P u)) (n := 72) (c := v) v72 (fun i _ h => decide_eq_true (by have := of_decide_eq_true h; omega)) (decide_eq_false (by omega)) (decide_eq_true lt)
      unfold Cnw at i1 i2 ⊢
      omega
/-- what is realized and closed: its two parts -/
theorem rz_2 {E : Nat → Nat → Nat → Nat → Prop} {f : Nat} {W : Int} {P : Nat → Int} (hE : Eok E) (hW : 1 ≤ W) (hf : P f ≤ 0) (hc : CLO W E P) (hr : RZw W E f P) {u : Nat} (hu : u < 72) (hp : P u < 1000000) : ∃ n s a, wk E f n u s a ∧ P u = cw W s a ∧ s ≤ 72 ∧ a ≤ 72 := by
  obtain ⟨n, s, a, h, e⟩ := hr u hu hp
  obtain ⟨i1, i2⟩ := wk_c hE hW hf hc n u s a h e
  have := Cnw_le P (P u)
  exact ⟨n, s, a, h, e, by omega, by omega⟩
/-- the same in hundreds -/
def Oh (Q : Nat → Int) (u : Nat) : Int := if Q u < 1000000 then 100 * (Q u / 1000) + Q u % 1000 else 1000000
theorem Oh_i {Q : Nat → Int} {u s a : Nat} (hs : s ≤ 72) (ha : a ≤ 72) (h : Q u = cw 1000 s a) : Q u < 1000000 ∧ Oh Q u = cw 100 s a := by
  unfold cw at h ⊢
  unfold Oh
  rw [if_pos (by omega)]
  exact ⟨by omega, by omega⟩
theorem Oh_clo {E : Nat → Nat → Nat → Nat → Prop} {f : Nat} {Q : Nat → Int} (hE : Eok E) (hf : Q f ≤ 0) (hc : CLO 1000 E Q) (hr : RZw 1000 E f Q) (hb : ∀ u, Q u ≤ 1000000) : CLO 100 E (Oh Q) ∧ RZw 100 E f (Oh Q) ∧ (∀ u, Oh Q u ≤ 1000000) := by
  have up : ∀ u, u < 72 → Oh Q u ≤ 1000000 := by
    intro u hu
    by_cases g : Q u < 1000000
    · obtain ⟨n, s, a, h, e, hs, ha⟩ := rz_2 hE (by omega) hf hc hr hu g
      rw [(Oh_i hs ha e).2]
      unfold cw; omega
    · unfold Oh; rw [if_neg g]; omega
  refine ⟨?_, ?_, ?_⟩
  · intro v u ds da e
    obtain ⟨v72, u72, h1, h2⟩ := hE v u ds da e
    have pos : 0 ≤ cw 100 ds da := by unfold cw; omega
    by_cases g : Q v < 1000000
    · obtain ⟨n, s, a, h, e1, hs, ha⟩ := rz_2 hE (by omega) hf hc hr v72 g
      have c := hc v u ds da e
      rw [e1] at c
      have g2 : Q u < 1000000 := by unfold cw at c; omega
      obtain ⟨n', s', a', h', e2, hs', ha'⟩ := rz_2 hE (by omega) hf hc hr u72 g2
      rw [e2] at c
      rw [(Oh_i hs ha e1).2, (Oh_i hs' ha' e2).2]
      unfold cw at c ⊢
      omega
    · have : Oh Q v = 1000000 := by unfold Oh; rw [if_neg g]
      have := up u u72
      omega
  · intro u hu h
    by_cases g : Q u < 1000000
    · obtain ⟨n, s, a, h, e, hs, ha⟩ := rz_2 hE (by omega) hf hc hr hu g
      exact ⟨n, s, a, h, (Oh_i hs ha e).2⟩
    · unfold Oh at h; rw [if_neg g] at h; omega
  · intro u
    by_cases g : Q u < 1000000
    · unfold Oh; rw [if_pos g]; omega
    · unfold Oh; rw [if_neg g]; omega
/-- settled: how many have their last price -/
def Sn (P O : Nat → Int) : Nat := (List.range 72).countP (fun v => decide (P v ≤ O v))
/-- a round settles one more -/
theorem round_1 {E : Nat → Nat → Nat → Nat → Prop} {f : Nat} {P P' O : Nat → Int} (hE : Eok E) (hf : P f ≤ 0) (f72 : f < 72) (Of : O f ≤ 0) (oc : CLO 100 E O) (orz : RZw 100 E f O) (mono : ∀ u, u < 72 → P' u ≤ P u) (step : ∀ v u ds da, E v u ds da → P v < 1000000 → P' u ≤ P v + cw 100 ds da) (hb : ∀ u, u < 72 → P u ≤ 1000000) (O0 : 0 ≤ O f) : Sn P O = 72 ∨ Sn P O < Sn P' O := by
  by_cases all : ∀ u, u < 72 → P u ≤ O u
  · refine .inl ?_
    unfold Sn
    have : (List.range 72).countP (fun v => decide (P v ≤ O v)) = (List.range 72).length := List.countP_eq_length.mpr (fun u hu => decide_eq_true (all u (List.mem_range.mp hu)))
    rw [this, List.length_range]
  · refine .inr ?_
    have ex : ∃ u, u < 72 ∧ ¬ P u ≤ O u := Classical.byContradiction (fun h => all (fun u hu => Classical.byContradiction (fun g => h ⟨u, hu, g⟩)))
    obtain ⟨u, hu, hn⟩ := ex
    have key : ∀ n u s a, wk E f n u s a → O u = cw 100 s a → O u < 1000000 → ¬ P u ≤ O u → ∃ w, w < 72 ∧ ¬ P w ≤ O w ∧ P' w ≤ O w := by
      intro n
      induction n with
      | zero =>
        rintro u s a ⟨rfl, rfl, rfl⟩ _ _ h
        exact absurd (by omega) h
      | succ n ih =>
        rintro u s a ⟨v, s', a', ds, da, h, e, rfl, rfl⟩ hu hl hn
        have l := wk_le Of oc n v s' a' h
        have c := oc v u ds da e
        rw [cw_add] at hu
        have hv : O v = cw 100 s' a' := by omega
        have pos : 0 ≤ cw 100 ds da := by unfold cw; omega
        by_cases g : P v ≤ O v
        · have := step v u ds da e (by omega)
          exact ⟨u, (hE v u ds da e).2.1, hn, by omega⟩
        · exact ih v s' a' h hv (by omega) g
    have hl : O u < 1000000 := by have := hb u hu; omega
    obtain ⟨n, s, a, h, e⟩ := orz u hu hl
    obtain ⟨w, w72, w1, w2⟩ := key n u s a h e hl hn
    exact cnt_lt (P := fun v => decide (P v ≤ O v)) (Q := fun v => decide (P' v ≤ O v)) w72 (fun i hi h => decide_eq_true (by have := of_decide_eq_true h; have := mono i hi; omega)) (decide_eq_false w1) (decide_eq_true w2)
theorem Sn_all {P O : Nat → Int} (h : 72 ≤ Sn P O) : ∀ u, u < 72 → P u ≤ O u := fun u hu => of_decide_eq_true (cnt_all (P := fun v => decide (P v ≤ O v)) h u hu)
theorem Sn_m {P P' O : Nat → Int} (mono : ∀ u, u < 72 → P' u ≤ P u) (h : Sn P O = 72) : Sn P' O = 72 := by
  have a := Sn_all (P := P) (O := O) (by omega)
  unfold Sn
  have : (List.range 72).countP (fun v => decide (P' v ≤ O v)) = (List.range 72).length := List.countP_eq_length.mpr (fun u hu => decide_eq_true (by
    have h72 := List.mem_range.mp hu
    have := a u h72
    have := mono u h72
    omega))
  rw [this, List.length_range]
end
section
/-! both: the reference relaxes -/
def EB (R : Mem) (v u ds da : Nat) : Prop := v < 72 ∧ u < 72 ∧ onP R (v : Int) ∧ onP R (u : Int) ∧ ((ds = 1 ∧ da = v / 36 ∧ ∃ s : Int, 0 ≤ s ∧ s ≤ 3 ∧ goR R 163 (v : Int) s (u : Int)) ∨ (ds = 0 ∧ da = 0 ∧ (R.1 164 (v % 36)).toInt = 3 ∧ u = 36 * (1 - v / 36) + v % 36))
theorem EB_ok {R : Mem} : Eok (EB R) := by
  rintro v u ds da ⟨h1, h2, _, _, h⟩
  refine ⟨h1, h2, ?_⟩
  rcases h with ⟨rfl, rfl, _⟩ | ⟨rfl, rfl, _⟩
  · omega
  · omega
theorem wk_on {R : Mem} {E : Nat → Nat → Nat → Nat → Prop} (hE : ∀ v u ds da, E v u ds da → onP R (u : Int)) {f : Nat} (hf : onP R (f : Int)) {n u s a : Nat} (h : wk E f n u s a) : onP R (u : Int) := by
  cases n with
  | zero => obtain ⟨rfl, _⟩ := h; exact hf
  | succ n => obtain ⟨v, s', a', ds, da, _, e, _⟩ := h; exact hE _ _ _ _ e
def Vk (k : Nat) (M : Mem) : Nat → Int := fun u => (M.1 k u).toInt
theorem Vk_eq {k q : Nat} {M : Mem} {v : Int32} : Vk k (s_i M k q v) q = v.toInt := congrArg Int32.toInt si_eq
theorem Vk_ne {k q x : Nat} {M : Mem} {v : Int32} (h : x ≠ q) : Vk k (s_i M k q v) x = Vk k M x := congrArg Int32.toInt (si_ne (by omega))
theorem RZw_up {W : Int} {E : Nat → Nat → Nat → Nat → Prop} {f u v ds da : Nat} {P P' : Nat → Int} {c : Int} (hr : RZw W E f P) (hw : ∃ n s a, wk E f n v s a ∧ c = cw W s a) (e : E v u ds da) (h : ∀ x, x ≠ u → P' x = P x) (hu : P' u = c + cw W ds da) : RZw W E f P' := by
  intro x hx hp
  by_cases g : x = u
  · subst g
    obtain ⟨n, s, a, h1, h2⟩ := hw
    exact ⟨n + 1, s + ds, a + da, ⟨v, s, a, ds, da, h1, e, rfl, rfl⟩, by rw [hu, cw_add, h2]⟩
  · rw [h x g] at hp ⊢
    exact hr x hx hp
theorem or01w {a b : Int32} (ha : a = 0 ∨ a = 1) (hb : b = 0 ∨ b = 1) : ((a ||| b) = 0 ∨ (a ||| b) = 1) ∧ ((a ||| b) = 0 → a = 0 ∧ b = 0) := by
  rcases ha with rfl | rfl <;> rcases hb with rfl | rfl
  · exact ⟨.inl (by decide), fun _ => ⟨rfl, rfl⟩⟩
  · exact ⟨.inr (by decide), fun h => absurd h (by decide)⟩
  · exact ⟨.inr (by decide), fun h => absurd h (by decide)⟩
  · exact ⟨.inr (by decide), fun h => absurd h (by decide)⟩
theorem lowB {v1 v2 : Int32} {M : Mem} {x : Int32 × Mem} (e : f_Mod_lowerBoth v1 v2 M = some x) : (v1.toInt = -1 ∧ x = (0, M)) ∨ (v1.toInt ≠ -1 ∧ ((v2.toInt < (M.1 180 v1.toNatClampNeg).toInt ∧ x = (1, s_i M 180 v1.toNatClampNeg v2)) ∨ ((M.1 180 v1.toNatClampNeg).toInt ≤ v2.toInt ∧ x = (0, M)))) := by
  have ym := om
  unfold f_Mod_lowerBoth at e
  rcases io e with ⟨g, e⟩ | ⟨g, e⟩
  · have := q_eq g
    obtain rfl := Option.some.inj e
    exact .inl ⟨by omega, rfl⟩
  have := q_ne g
  obtain ⟨_, e⟩ := io_n e
  refine .inr ⟨by omega, ?_⟩
  rcases io e with ⟨g, e⟩ | ⟨g, e⟩
  · obtain ⟨_, e⟩ := io_n e
    obtain ⟨M1, m1, e⟩ := mo e
    obtain rfl := Option.some.inj e
    exact .inl ⟨q_lt g, by rw [m1]⟩
  · obtain rfl := Option.some.inj e
    exact .inr ⟨q_nl g, rfl⟩
def RIw (E : Nat → Nat → Nat → Nat → Prop) (f : Nat) (R T : Mem) : Prop := J T ∧ (∀ kx i, kx ≠ 180 → T.1 kx i = R.1 kx i) ∧ Vk 180 T f ≤ 0 ∧ RZw 1000 E f (Vk 180 T)
theorem RIw_map {E : Nat → Nat → Nat → Nat → Prop} {f : Nat} {R T : Mem} (h : RIw E f R T) : MapEq T R := ⟨h.2.1 162 2 (by omega), h.2.1 162 3 (by omega), fun i => h.2.1 164 i (by omega)⟩
theorem relax_r {E : Nat → Nat → Nat → Nat → Prop} {f u v ds da : Nat} {R T : Mem} {v1 v2 : Int32} {x : Int32 × Mem} (h : RIw E f R T) (v72 : v < 72) (hv : Vk 180 T v < 1000000) (he : E v u ds da) (h1 : v1.toInt = (u : Int)) (h2 : v2.toInt = Vk 180 T v + cw 1000 ds da) (e : f_Mod_lowerBoth v1 v2 T = some x) : RIw E f R x.2 ∧ (x.1 = 0 ∨ x.1 = 1) ∧ Vk 180 x.2 u ≤ v2.toInt ∧ (x.1 = 0 → x.2 = T) ∧ ∀ w, Vk 180 x.2 w ≤ Vk 180 T w := by
  obtain ⟨jT, fT, p0, rz⟩ := h
  have pos : 0 ≤ cw 1000 ds da := by unfold cw; omega
  have b := Jr_180 jT v
  have b0 : 0 ≤ v2.toInt := by
    have : 0 ≤ Vk 180 T v := b.1
    omega
  rcases lowB e with ⟨g, _⟩ | ⟨_, g⟩
  · omega
  rw [q_nat h1] at g
  rcases g with ⟨lt, rfl⟩ | ⟨le, rfl⟩
  · have bu := Jr_180 jT u
    have fu : u ≠ f := by
      rintro rfl
      have : Vk 180 T u = (T.1 180 u).toInt := rfl
      omega
    refine ⟨⟨Jw_180 jT u v2 b0 (by omega), fun kx i hk => by rw [si_ne (by omega)]; exact fT kx i hk, by rw [Vk_ne (fun hh => fu hh.symm)]; exact p0, RZw_up rz (rz v v72 hv) he (fun x hx => Vk_ne hx) (by rw [Vk_eq]; exact h2)⟩, .inr rfl, ?_, fun h => absurd (show (1 : Int32) = 0 from h) (by decide), fun w => ?_⟩
    · show Vk 180 (s_i T 180 u v2) u ≤ _
      rw [Vk_eq]; omega
    · show Vk 180 (s_i T 180 u v2) w ≤ _
      by_cases g : w = u
      · subst g
        rw [Vk_eq]
        have : Vk 180 T w = (T.1 180 w).toInt := rfl
        omega
      · rw [Vk_ne g]; omega
  · exact ⟨⟨jT, fT, p0, rz⟩, .inl rfl, le, fun _ => rfl, fun w => Int.le_refl _⟩
/-- one place's steps -/
theorem bothS_r {R T : Mem} {f v : Nat} {v3 v4 v6 more : Int32} {y : Int32 × Mem} (jR : J R) (kp : KP R 163 0) (hf : onP R (f : Int)) (h : RIw (EB R) f R T) (hv6 : v6.toInt = (v : Int)) (v72 : v < 72) (hv : Vk 180 T v < 1000000) (hm : more = 0 ∨ more = 1) (e : iter (lb_Mod_both_103 v3 v4 v6) FU (more, (0 : Int32), T) = some y) : RIw (EB R) f R y.2 ∧ (y.1 = 0 ∨ y.1 = 1) ∧ Vk 180 y.2 v < 1000000 ∧ (y.1 = 0 → y.2 = T ∧ more = 0 ∧ ∀ (s : Int) (u : Nat), 0 ≤ s → s ≤ 3 → u < 72 → goR R 163 (v : Int) s (u : Int) → Vk 180 T u ≤ Vk 180 T v + cw 1000 1 (v / 36)) := by
  have k4 : (4 : Int32).toInt = 4 := rfl
  refine it_r (I := fun s : Int32 × Int32 × Mem => ∃ q : Nat, q ≤ 4 ∧ s.2.1.toInt = (q : Int) ∧ RIw (EB R) f R s.2.2 ∧ (s.1 = 0 ∨ s.1 = 1) ∧ Vk 180 s.2.2 v < 1000000 ∧ (s.1 = 0 → s.2.2 = T ∧ more = 0 ∧ ∀ (s : Int) (u : Nat), 0 ≤ s → s < (q : Int) → u < 72 → goR R 163 (v : Int) s (u : Int) → Vk 180 T u ≤ Vk 180 T v + cw 1000 1 (v / 36))) (Q := fun y : Int32 × Mem => RIw (EB R) f R y.2 ∧ (y.1 = 0 ∨ y.1 = 1) ∧ Vk 180 y.2 v < 1000000 ∧ (y.1 = 0 → y.2 = T ∧ more = 0 ∧ ∀ (s : Int) (u : Nat), 0 ≤ s → s ≤ 3 → u < 72 → goR R 163 (v : Int) s (u : Int) → Vk 180 T u ≤ Vk 180 T v + cw 1000 1 (v / 36))) ?_ e ⟨0, by omega, rfl, h, hm, hv, fun h => ⟨rfl, h, fun s u a b => by omega⟩⟩
  rintro ⟨mo', i, S⟩ r ⟨q, q4, hq, hS, hmo, hvS, hz⟩ e
  dsimp only at hq hS hmo hvS hz
  unfold lb_Mod_both_103 at e
  dsimp only at e
  rcases io e with ⟨g, e⟩ | ⟨g, e⟩
  · have := q_le g
    obtain rfl := Option.some.inj e
    exact ⟨hS, hmo, hvS, fun h => by
      obtain ⟨a, b, c⟩ := hz h
      exact ⟨a, b, fun s u s0 s3 hu hg => c s u s0 (by omega) hu hg⟩⟩
  have g1 := q_ng g
  have i1 : (i + (1 : Int32)).toInt = ((q + 1 : Nat) : Int) := add_ti hq o1 (by omega) (by omega)
  obtain ⟨x9, e9, e⟩ := bo e
  obtain ⟨_, e⟩ := io_n e
  obtain ⟨x10, e10, e⟩ := bo e
  obtain ⟨x11, e11, e⟩ := bo e
  obtain rfl := Option.some.inj e
  have jS := hS.1
  obtain ⟨gg, gl, gh⟩ := some_of (fs_go jS 163 (.inl rfl) v6 i (by omega)) e9
  rw [hv6, hq, goR_c (RIw_map hS) (fun i => hS.2.1 163 i (by omega))] at gg
  have l10 : x10.toInt = ((v / 36 : Nat) : Int) := by rw [(place_i (v := v6) (by omega) (by omega)).2 e10, hv6]; omega
  have onv : onP R (v : Int) := by
    obtain ⟨n, s, a, w, _⟩ := hS.2.2.2 v v72 hvS
    exact wk_on (fun v u ds da e => e.2.2.2.1) hf w
  rw [q_nat hv6] at e11
  have bv := Jr_180 jS v
  have hval : (((S.1 180 v) + (1000 : Int32)) + x10).toInt = Vk 180 S v + cw 1000 1 (v / 36) := by
    have k1000 : (1000 : Int32).toInt = 1000 := rfl
    have : Vk 180 S v = (S.1 180 v).toInt := rfl
    rw [cw_1, add_ti (add_ti rfl k1000 (by omega) (by omega)) l10 (by omega) (by omega)]
    omega
  by_cases gm : x9.toInt = -1
  · rcases lowB e11 with ⟨_, rfl⟩ | ⟨g, _⟩
    · obtain ⟨oa, ob⟩ := or01w hmo (.inl (rfl : (0 : Int32) = 0))
      refine ⟨q + 1, by omega, i1, hS, oa, hvS, fun h => ?_⟩
      obtain ⟨a, b, c⟩ := hz (ob h).1
      refine ⟨a, b, fun s u s0 s3 hu hg => ?_⟩
      by_cases k : s = (q : Int)
      · subst k
        have := goR_fun gg hg
        omega
      · exact c s u s0 (by omega) hu hg
    · exact absurd gm g
  · obtain ⟨u, hu⟩ : ∃ u : Nat, x9.toInt = (u : Int) := ⟨x9.toInt.toNat, by omega⟩
    rw [hu] at gg
    obtain ⟨onu, _⟩ := go_sym jR kp onv (s := (q : Int)) ⟨by omega, by omega⟩ gg (by omega)
    have edge : EB R v u 1 (v / 36) := ⟨v72, by omega, onv, onu, .inl ⟨rfl, rfl, q, by omega, by omega, gg⟩⟩
    obtain ⟨r1, r2, r3, r4, r5⟩ := relax_r hS v72 hvS edge hu hval e11
    obtain ⟨oa, ob⟩ := or01w hmo r2
    have rv := r5 v
    refine ⟨q + 1, by omega, i1, r1, oa, by dsimp only; omega, fun h => ?_⟩
    obtain ⟨h1, h2⟩ := ob h
    obtain ⟨a, b, c⟩ := hz h1
    have eS := r4 h2
    refine ⟨by dsimp only; rw [eS, a], b, fun s u' s0 s3 hu' hg => ?_⟩
    by_cases k : s = (q : Int)
    · subst k
      have := goR_fun gg hg
      have : u' = u := by omega
      subst this
      rw [eS, hval, a] at r3
      exact r3
    · exact c s u' s0 (by omega) hu' hg
/-- a round -/
theorem bothR_r {R T : Mem} {f : Nat} {v3 v4 : Int32} {y : Int32 × Mem} (jR : J R) (kp : KP R 163 0) (hf : onP R (f : Int)) (h : RIw (EB R) f R T) (e : iter (lb_Mod_both_77 v3 v4) FU ((0 : Int32), (0 : Int32), T) = some y) : RIw (EB R) f R y.2 ∧ (y.1 = 0 ∨ y.1 = 1) ∧ (y.1 = 0 → CLO 1000 (EB R) (Vk 180 y.2)) := by
  have k72 : (72 : Int32).toInt = 72 := rfl
  have km : (1000000 : Int32).toInt = 1000000 := rfl
  refine it_r (I := fun s : Int32 × Int32 × Mem => ∃ k : Nat, k ≤ 72 ∧ s.2.1.toInt = (k : Int) ∧ RIw (EB R) f R s.2.2 ∧ (s.1 = 0 ∨ s.1 = 1) ∧ (s.1 = 0 → s.2.2 = T ∧ ∀ v u ds da, v < k → EB R v u ds da → Vk 180 T u ≤ Vk 180 T v + cw 1000 ds da)) (Q := fun y : Int32 × Mem => RIw (EB R) f R y.2 ∧ (y.1 = 0 ∨ y.1 = 1) ∧ (y.1 = 0 → CLO 1000 (EB R) (Vk 180 y.2))) ?_ e ⟨0, by omega, rfl, h, .inl rfl, fun _ => ⟨rfl, fun v u ds da h => by omega⟩⟩
  rintro ⟨mo', i, S⟩ r ⟨k, k72', hk, hS, hmo, hz⟩ e
  dsimp only at hk hS hmo hz
  unfold lb_Mod_both_77 at e
  dsimp only at e
  rcases io e with ⟨g, e⟩ | ⟨g, e⟩
  · have := q_le g
    obtain rfl := Option.some.inj e
    refine ⟨hS, hmo, fun h => ?_⟩
    obtain ⟨a, b⟩ := hz h
    dsimp only
    rw [a]
    intro v u ds da hE
    exact b v u ds da (by have := hE.1; omega) hE
  have g1 := q_ng g
  have i1 : (i + (1 : Int32)).toInt = ((k + 1 : Nat) : Int) := add_ti hk o1 (by omega) (by omega)
  have jS := hS.1
  have pos : ∀ ds da : Nat, 0 ≤ cw 1000 ds da := fun ds da => by unfold cw; omega
  obtain ⟨_, e⟩ := io_n e
  rw [q_nat hk] at e
  rcases io e with ⟨g, e⟩ | ⟨g, e⟩
  rotate_left
  · have gl := q_nl g
    obtain rfl := Option.some.inj e
    refine ⟨k + 1, by omega, i1, hS, hmo, fun h => ?_⟩
    obtain ⟨a, b⟩ := hz h
    refine ⟨a, fun v u ds da hv hE => ?_⟩
    by_cases c : v = k
    · subst c
      rw [a] at gl
      have jT := h
      have bu := Jr_180 (by rw [← a]; exact jS : J T) u
      have := pos ds da
      have e1 : Vk 180 T u = (T.1 180 u).toInt := rfl
      have e2 : Vk 180 T v = (T.1 180 v).toInt := rfl
      omega
    · exact b v u ds da (by omega) hE
  have gl := q_lt g
  have hv : Vk 180 S k < 1000000 := by
    have e2 : Vk 180 S k = (S.1 180 k).toInt := rfl
    omega
  obtain ⟨x13, e13, e⟩ := bo e
  obtain ⟨x14, e14, e⟩ := bo e
  obtain ⟨_, e⟩ := io_n e
  obtain ⟨s1, s2, s3, s4⟩ := bothS_r jR kp hf hS hk (by omega) hv hmo e13
  have c14 : x14.toInt = ((k % 36 : Nat) : Int) := by rw [(place_i (v := i) (by omega) (by omega)).1 e14, hk]; omega
  rw [q_nat c14, s1.2.1 164 (k % 36) (by omega)] at e
  have onv : onP R (k : Int) := by
    obtain ⟨n, s, a, w, _⟩ := hS.2.2.2 k (by omega) hv
    exact wk_on (fun v u ds da e => e.2.2.2.1) hf w
  rcases io e with ⟨gs, e⟩ | ⟨gs, e⟩
  rotate_left
  · obtain rfl := Option.some.inj e
    refine ⟨k + 1, by omega, i1, s1, s2, fun h => ?_⟩
    obtain ⟨a, b, c⟩ := s4 h
    obtain ⟨a', d⟩ := hz b
    refine ⟨by dsimp only; rw [a, a'], fun v u ds da hv hE => ?_⟩
    by_cases w : v = k
    · subst w
      rcases hE.2.2.2.2 with ⟨rfl, rfl, s, t0, t3, hg⟩ | ⟨_, _, h3, _⟩
      · rw [← a']; exact c s u t0 t3 hE.2.1 hg
      · exact absurd (Int32.toInt_inj.mp h3) gs
    · exact d v u ds da (by omega) hE
  obtain ⟨x15, e15, e⟩ := bo e
  obtain ⟨x16, e16, e⟩ := bo e
  obtain ⟨x17, e17, e⟩ := bo e
  obtain ⟨_, e⟩ := io_n e
  obtain ⟨x18, e18, e⟩ := bo e
  obtain rfl := Option.some.inj e
  have c15 : x15.toInt = ((k / 36 : Nat) : Int) := by rw [(place_i (v := i) (by omega) (by omega)).2 e15, hk]; omega
  have c16 : x16.toInt = ((k % 36 : Nat) : Int) := by rw [(place_i (v := i) (by omega) (by omega)).1 e16, hk]; omega
  have c17 := place_c (l := 1 - k / 36) (c := k % 36) (by rw [sub_ti o1 c15 (by omega) (by omega)]; omega) c16 (by omega) (by omega) e17
  have s3' : (R.1 164 (k % 36)).toInt = 3 := by rw [gs]; rfl
  have onu : onP R ((36 * (1 - k / 36) + k % 36 : Nat) : Int) := by
    have o := onv.2.2
    rw [show ((k : Int)) % 36 = ((k % 36 : Nat) : Int) by omega] at o
    refine (onP_lc (by omega) (by omega)).mpr ⟨o.1, o.2.1, ?_⟩
    rw [show (((k % 36 : Nat) : Int)).toNat = k % 36 by omega, s3']
    split
    · exact .inr rfl
    · exact .inr rfl
  have edge : EB R k (36 * (1 - k / 36) + k % 36) 0 0 := ⟨by omega, by omega, onv, onu, .inr ⟨rfl, rfl, s3', rfl⟩⟩
  obtain ⟨r1, r2, r3, r4, r5⟩ := relax_r s1 (show k < 72 by omega) s3 edge c17 (by rw [cw_0, Int.add_zero]; rfl) e18
  obtain ⟨oa, ob⟩ := or01w s2 r2
  refine ⟨k + 1, by omega, i1, r1, oa, fun h => ?_⟩
  obtain ⟨h1, h2⟩ := ob h
  obtain ⟨a, b, c⟩ := s4 h1
  obtain ⟨a', d⟩ := hz b
  have e8 := r4 h2
  refine ⟨by dsimp only; rw [e8, a, a'], fun v u ds da hv hE => ?_⟩
  by_cases w : v = k
  · subst w
    rcases hE.2.2.2.2 with ⟨rfl, rfl, s, t0, t3, hg⟩ | ⟨rfl, rfl, _, rfl⟩
    · rw [← a']; exact c s u t0 t3 hE.2.1 hg
    · rw [e8, a, a'] at r3
      rw [cw_0, Int.add_zero]
      exact r3
  · exact d v u ds da (by omega) hE
theorem bothF_r {a b c d : Int32} {N x : Mem} (jN : J N) (e : iter (lb_Mod_both_29 a b c d) FU ((0 : Int32), N) = some x) : J x ∧ (∀ kx i, kx ≠ 180 → x.1 kx i = N.1 kx i) ∧ ∀ c, c < 72 → x.1 180 c = 1000000 := by
  have k72 : (72 : Int32).toInt = 72 := rfl
  refine it_r (I := fun s : Int32 × Mem => ∃ q : Nat, q ≤ 72 ∧ s.1.toInt = (q : Int) ∧ J s.2 ∧ (∀ kx i, kx ≠ 180 → s.2.1 kx i = N.1 kx i) ∧ ∀ c, c < q → s.2.1 180 c = 1000000) (Q := fun x : Mem => J x ∧ (∀ kx i, kx ≠ 180 → x.1 kx i = N.1 kx i) ∧ ∀ c, c < 72 → x.1 180 c = 1000000) ?_ e ⟨0, by omega, rfl, jN, fun _ _ _ => rfl, fun c h => by omega⟩
  rintro ⟨i, T⟩ r ⟨q, q72, hq, jT, hf, hd⟩ e
  dsimp only at hq jT hf hd
  unfold lb_Mod_both_29 at e
  dsimp only at e
  rcases io e with ⟨g, e⟩ | ⟨g, e⟩
  · have := q_le g
    obtain rfl := Option.some.inj e
    exact ⟨jT, hf, fun c hc => hd c (by omega)⟩
  have g1 := q_ng g
  have i1 : (i + (1 : Int32)).toInt = ((q + 1 : Nat) : Int) := add_ti hq o1 (by omega) (by omega)
  obtain ⟨_, e⟩ := io_n e
  obtain ⟨M3, m3, e⟩ := mo e
  obtain rfl := Option.some.inj e
  rw [q_nat hq] at m3
  refine ⟨q + 1, by omega, i1, by rw [m3]; exact Jw_180 jT q _ (by decide) (by decide), fun kx j h => by rw [m3, si_ne (by omega)]; exact hf kx j h, fun c hc => ?_⟩
  rw [m3]
  by_cases w : c = q
  · subst w; exact si_eq
  · rw [si_ne (by omega)]; exact hd c (by omega)
theorem RZw_1 {W : Int} {E : Nat → Nat → Nat → Nat → Prop} {f : Nat} {P : Nat → Int} (hf : P f = 0) (h : ∀ u, u < 72 → u ≠ f → P u = 1000000) : RZw W E f P := by
  intro u hu hp
  by_cases g : u = f
  · subst g
    exact ⟨0, 0, 0, ⟨rfl, rfl, rfl⟩, by rw [cw_0]; exact hf⟩
  · rw [h u hu g] at hp; omega
end
section
/-! thieves: where one may be, the class's side -/
def EA (R : Mem) (a v u : Nat) : Prop := v < 72 ∧ u < 72 ∧ onP R (v : Int) ∧ onP R (u : Int) ∧ ((∃ s : Int, 0 ≤ s ∧ s ≤ 3 ∧ goR R a (v : Int) s (u : Int)) ∨ ((R.1 164 (v % 36)).toInt = 3 ∧ u = 36 * (1 - v / 36) + v % 36))
def TBq (N : Mem) (u : Nat) : Prop := bl (N.2.1 151 (2 + u / 36)) (u % 36) = true
theorem TBq_lc {N : Mem} {l c : Nat} (l2 : l < 2) (c36 : c < 36) : TBq N (36 * l + c) ↔ bl (N.2.1 151 (2 + l)) c = true := by
  unfold TBq
  rw [show (36 * l + c) / 36 = l by omega, show (36 * l + c) % 36 = c by omega]
/-- bits of places of the nets alone -/
def TN (R N : Mem) : Prop := ∀ l c, l < 2 → bl (N.2.1 151 (2 + l)) c = true → c < 36 ∧ onP R ((36 * l + c : Nat) : Int)
theorem TN_b {R N : Mem} (h : TN R N) {u : Nat} (hu : u < 72) (t : TBq N u) : onP R (u : Int) := by
  have e : u = 36 * (u / 36) + u % 36 := by omega
  have := (h (u / 36) (u % 36) (by omega) t).2
  rw [← e] at this
  exact this
theorem stair_on {R : Mem} {l c : Nat} (l2 : l < 2) (c36 : c < 36) (cw : (c : Int) < xw R * xh R) (h3 : (R.1 164 c).toInt = 3) : onP R ((36 * l + c : Nat) : Int) := by
  refine (onP_lc l2 c36).mpr ⟨by omega, cw, ?_⟩
  rw [show ((c : Int)).toNat = c by omega, h3]
  split
  · exact .inr rfl
  · exact .inr rfl
/-- one level of the stir -/
theorem stir_l {X R : Mem} {n a l : Nat} {new x1 sv : Int64} (jR : J R) (kp : KP R a 0) (zv : ZV R (R.1 a) n) (zw : ZW X R a) (kr : ∀ i, i < 36 → 0 ≤ (R.1 164 i).toInt ∧ (R.1 164 i).toInt ≤ 3) (tn : TN R X) (l2 : l < 2) (e1 : ∀ d, bl x1 d = true ↔ ∃ c, c < 36 ∧ bl (X.2.1 151 (2 + l)) c = true ∧ bl (X.2.1 (32 + 2) (l * 36 + c)) d = true) (es : f_Nets_stairs 32 X = some sv) (hn : ∀ d, bl new d = true ↔ (bl (X.2.1 151 (2 + l)) d = true ∨ bl x1 d = true) ∨ (bl (X.2.1 151 (2 + (1 - l))) d = true ∧ bl sv d = true)) : (∀ c, bl new c = true → c < 36 ∧ onP R ((36 * l + c : Nat) : Int)) ∧ ∀ c, c < 36 → (bl new c = true ↔ TBq X (36 * l + c) ∨ ∃ v, TBq X v ∧ EA R a v (36 * l + c)) := by
  have st := stairs_i (.inl rfl) jR kr zw.1 es
  have fw : ∀ c, bl new c = true → (c < 36 ∧ onP R ((36 * l + c : Nat) : Int)) ∧ (TBq X (36 * l + c) ∨ ∃ v, TBq X v ∧ EA R a v (36 * l + c)) := by
    intro c h
    rcases (hn c).mp h with (h | h) | ⟨h, hs⟩
    · have t := tn l c l2 h
      exact ⟨t, .inl ((TBq_lc l2 t.1).mpr h)⟩
    · obtain ⟨c', c36', h1, h2⟩ := (e1 c).mp h
      obtain ⟨on1, c36, s, s0, s3, g⟩ := (near_go jR zv zw.2 l2 c36').mp h2
      have onv : onP R ((36 * l + c' : Nat) : Int) := (onP_lc l2 c36').mpr on1
      have onu := (go_sym jR kp onv ⟨s0, s3⟩ g (by omega)).1
      exact ⟨⟨c36, onu⟩, .inr ⟨36 * l + c', (TBq_lc l2 c36').mpr h1, by omega, by omega, onv, onu, .inl ⟨s, s0, s3, g⟩⟩⟩
    · have t := tn (1 - l) c (by omega) h
      obtain ⟨cw, h3⟩ := (st c).mp hs
      have onu := stair_on (R := R) l2 t.1 cw h3
      refine ⟨⟨t.1, onu⟩, .inr ⟨36 * (1 - l) + c, (TBq_lc (by omega) t.1).mpr h, by omega, by omega, t.2, onu, .inr ⟨?_, by omega⟩⟩⟩
      rw [show (36 * (1 - l) + c) % 36 = c by omega]; exact h3
  refine ⟨fun c h => (fw c h).1, fun c c36 => ⟨fun h => (fw c h).2, ?_⟩⟩
  rintro (h | ⟨v, hv, v72, u72, onv, onu, g | ⟨h3, hu⟩⟩)
  · exact (hn c).mpr (.inl (.inl ((TBq_lc l2 c36).mp h)))
  · obtain ⟨s, s0, s3, g⟩ := g
    obtain ⟨d, d36, hd⟩ := go_lev jR (by omega) ⟨s0, s3⟩ g (by omega)
    have ev : v = 36 * l + v % 36 := by omega
    rw [ev] at hv onv g
    have h1 := (TBq_lc l2 (by omega)).mp hv
    have on1 := (onP_lc l2 (by omega)).mp onv
    exact (hn c).mpr (.inl (.inr ((e1 c).mpr ⟨v % 36, by omega, h1, (near_go jR zv zw.2 l2 (by omega)).mpr ⟨on1, c36, s, s0, s3, g⟩⟩)))
  · have ev : v = 36 * (1 - l) + c := by omega
    rw [ev] at hv h3
    rw [show (36 * (1 - l) + c) % 36 = c by omega] at h3
    have h1 := (TBq_lc (by omega) c36).mp hv
    exact (hn c).mpr (.inr ⟨h1, (st c).mpr ⟨((onP_lc l2 c36).mp onu).2.1, h3⟩⟩)
theorem stir_c {X R x : Mem} {n a : Nat} (jR : J R) (kp : KP R a 0) (zv : ZV R (R.1 a) n) (zw : ZW X R a) (kr : ∀ i, i < 36 → 0 ≤ (R.1 164 i).toInt ∧ (R.1 164 i).toInt ≤ 3) (tn : TN R X) (e : f_Thief_stir 32 X = some x) : x.1 = X.1 ∧ x.2.2 = X.2.2 ∧ (∀ k i, ¬ (k = 151 ∧ (i = 2 ∨ i = 3)) → x.2.1 k i = X.2.1 k i) ∧ TN R x ∧ ∀ u, u < 72 → (TBq x u ↔ TBq X u ∨ ∃ v, TBq X v ∧ EA R a v u) := by
  unfold f_Thief_stir at e
  obtain ⟨_, e⟩ := io_n e
  obtain ⟨x1, e1, e⟩ := bo e
  obtain ⟨x2, e2, e⟩ := bo e
  obtain ⟨x3, e3, e⟩ := bo e
  obtain ⟨x4, e4, e⟩ := bo e
  obtain ⟨M5, m5, e⟩ := mo e
  obtain ⟨M6, m6, e⟩ := mo e
  obtain rfl := Option.some.inj e
  have a1 := around_i (v0 := 32) (.inl rfl) (l := 0) rfl (by omega) e1
  have a3 := around_i (v0 := 32) (.inl rfl) (l := 1) rfl (by omega) e3
  have n2 : M6.2.1 151 2 = ((X.2.1 151 2) ||| x1) ||| ((X.2.1 151 3) &&& x2) := by rw [m6, sl_ne (by omega), m5, sl_eq]
  have n3 : M6.2.1 151 3 = ((X.2.1 151 3) ||| x3) ||| ((X.2.1 151 2) &&& x4) := by rw [m6, sl_eq]
  have b2 : ∀ d, bl (M6.2.1 151 2) d = true ↔ (bl (X.2.1 151 (2 + 0)) d = true ∨ bl x1 d = true) ∨ (bl (X.2.1 151 (2 + (1 - 0))) d = true ∧ bl x2 d = true) := fun d => by rw [n2, bl_or, bl_or, bl_and, Bool.or_eq_true, Bool.or_eq_true, Bool.and_eq_true]
  have b3 : ∀ d, bl (M6.2.1 151 3) d = true ↔ (bl (X.2.1 151 (2 + 1)) d = true ∨ bl x3 d = true) ∨ (bl (X.2.1 151 (2 + (1 - 1))) d = true ∧ bl x4 d = true) := fun d => by rw [n3, bl_or, bl_or, bl_and, Bool.or_eq_true, Bool.or_eq_true, Bool.and_eq_true]
  obtain ⟨p1, p2⟩ := stir_l jR kp zv zw kr tn (l := 0) (by omega) a1 e2 b2
  obtain ⟨q1, q2⟩ := stir_l jR kp zv zw kr tn (l := 1) (by omega) a3 e4 b3
  refine ⟨by rw [m6, sl_1, m5, sl_1], by rw [m6]; show M5.2.2 = _; rw [m5]; rfl, fun k i h => by rw [m6, sl_ne (by omega), m5, sl_ne (by omega)], ?_, ?_⟩
  · intro l c l2 h
    have : l = 0 ∨ l = 1 := by omega
    rcases this with rfl | rfl
    · exact p1 c h
    · exact q1 c h
  · intro u hu
    rcases Nat.lt_or_ge u 36 with g | g
    · have e : u = 36 * 0 + u := by omega
      rw [e]
      exact (TBq_lc (by omega) g).trans (p2 u g)
    · have e : u = 36 * 1 + (u - 36) := by omega
      rw [e]
      exact (TBq_lc (by omega) (by omega)).trans (q2 (u - 36) (by omega))
theorem start_c {X x : Mem} {l c : Nat} {v1 v2 : Int32} (hl : v1.toInt = (l : Int)) (hc : v2.toInt = (c : Int)) (l2 : l < 2) (c36 : c < 36) (e : f_Thief_start v1 v2 X = some x) : x.1 = X.1 ∧ x.2.2 = X.2.2 ∧ (∀ k i, k ≠ 151 → x.2.1 k i = X.2.1 k i) ∧ (∀ l' d, l' < 2 → (bl (x.2.1 151 (2 + l')) d = true ↔ l' = l ∧ d = c)) ∧ ∀ u, u < 72 → (TBq x u ↔ u = 36 * l + c) := by
  have b := bl_one hc (show c < 64 by omega)
  have z0 := o0
  have z1 := o1
  have key : x.1 = X.1 ∧ x.2.2 = X.2.2 ∧ (∀ k i, k ≠ 151 → x.2.1 k i = X.2.1 k i) ∧ (∀ l' d, l' < 2 → (bl (x.2.1 151 (2 + l')) d = true ↔ l' = l ∧ d = c)) := by
    unfold f_Thief_start at e
    rcases io e with ⟨g, e⟩ | ⟨g, e⟩
    · have gg := q_eq g
      unfold j_Thief_start_12 at e
      obtain ⟨M1, m1, e⟩ := mo e
      rw [if_neg (fun h => by have := q_eq h; omega)] at e
      obtain ⟨M2, m2, e⟩ := mo e
      obtain rfl := Option.some.inj e
      refine ⟨by rw [m2, sl_1, m1, sl_1], by rw [m2]; show M1.2.2 = _; rw [m1]; rfl, fun k i h => by rw [m2, sl_ne (by omega), m1, sl_ne (by omega)], fun l' d h' => ?_⟩
      have : l' = 0 ∨ l' = 1 := by omega
      rcases this with rfl | rfl
      · rw [m2, sl_ne (by omega), m1, sl_eq, b, decide_eq_true_eq]
        constructor
        · intro h; exact ⟨by omega, h⟩
        · intro h; exact h.2
      · rw [m2, sl_eq, bl_0]
        constructor
        · intro h; cases h
        · intro h; omega
    · have gg := q_ne g
      unfold j_Thief_start_12 at e
      obtain ⟨M1, m1, e⟩ := mo e
      rw [if_pos (Int32.toInt_inj.mp (by omega))] at e
      obtain ⟨M2, m2, e⟩ := mo e
      obtain rfl := Option.some.inj e
      refine ⟨by rw [m2, sl_1, m1, sl_1], by rw [m2]; show M1.2.2 = _; rw [m1]; rfl, fun k i h => by rw [m2, sl_ne (by omega), m1, sl_ne (by omega)], fun l' d h' => ?_⟩
      have : l' = 0 ∨ l' = 1 := by omega
      rcases this with rfl | rfl
      · rw [m2, sl_ne (by omega), m1, sl_eq, bl_0]
        constructor
        · intro h; cases h
        · intro h; omega
      · rw [m2, sl_eq, b, decide_eq_true_eq]
        constructor
        · intro h; exact ⟨by omega, h⟩
        · intro h; exact h.2
  obtain ⟨k1, k2, k3, k4⟩ := key
  refine ⟨k1, k2, k3, k4, fun u hu => ?_⟩
  unfold TBq
  rw [k4 (u / 36) (u % 36) (by omega)]
  constructor
  · intro h; omega
  · intro h; omega
theorem gone_c {R N : Mem} {y : Int32} (tn : TN R N) (e : f_Thief_gone N = some y) : (y = 1 ∧ ∀ u, u < 72 → ¬ TBq N u) ∨ (y = 0 ∧ ∃ u, u < 72 ∧ TBq N u) := by
  unfold f_Thief_gone at e
  rcases io e with ⟨g, e⟩ | ⟨g, e⟩
  · obtain rfl := Option.some.inj e
    have z := lc_0.mp g
    refine .inl ⟨rfl, fun u hu h => ?_⟩
    have n : bl ((N.2.1 151 2) ||| (N.2.1 151 3)) (u % 36) = true := by
      rw [bl_or, Bool.or_eq_true]
      unfold TBq at h
      have : u / 36 = 0 ∨ u / 36 = 1 := by omega
      rcases this with k | k
      · rw [k] at h; exact .inl h
      · rw [k] at h; exact .inr h
    rw [z, bl_0] at n; cases n
  · obtain rfl := Option.some.inj e
    refine .inr ⟨rfl, ?_⟩
    have ex : ∃ d, bl ((N.2.1 151 2) ||| (N.2.1 151 3)) d = true := by
      refine Classical.byContradiction (fun h => g (lc_0.mpr (bl_0i (fun d => ?_))))
      cases hF : bl ((N.2.1 151 2) ||| (N.2.1 151 3)) d with
      | false => rfl
      | true => exact absurd ⟨d, hF⟩ h
    obtain ⟨d, hd⟩ := ex
    rw [bl_or, Bool.or_eq_true] at hd
    rcases hd with h | h
    · have t := tn 0 d (by omega) h
      exact ⟨36 * 0 + d, by omega, (TBq_lc (by omega) t.1).mpr h⟩
    · have t := tn 1 d (by omega) h
      exact ⟨36 * 1 + d, by omega, (TBq_lc (by omega) t.1).mpr h⟩
/-- cells of a level on which some of a set are -/
theorem guard_c {k : Nat} {M : Mem} {lev set : Int32} {y : Int64} (ha : ∀ p, p < 8 → bt set p = true → 0 ≤ (M.1 (k + 1) p).toInt ∧ (M.1 (k + 1) p).toInt ≤ 35) (e : f_Scene_guarded k lev set M = some y) : ∀ c, bl y c = true ↔ ∃ p, p < 8 ∧ bt set p = true ∧ M.1 (k + 2) p = lev ∧ (M.1 (k + 1) p).toInt = (c : Int) := by
  have k8 : (8 : Int32).toInt = 8 := rfl
  unfold f_Scene_guarded at e
  obtain ⟨hk, e⟩ := io_n e
  obtain ⟨x4, e4, e⟩ := bo e
  obtain rfl := Option.some.inj e
  have r0 : rf k 0 = k + 1 := scn_rf hk (by omega)
  have r1 : rf k 1 = k + 2 := scn_rf hk (by omega)
  refine it_r (I := fun s : Int64 × Int32 => ∃ i : Nat, i ≤ 8 ∧ s.2.toInt = (i : Int) ∧ ∀ c, bl s.1 c = true ↔ ∃ p, p < i ∧ bt set p = true ∧ M.1 (k + 2) p = lev ∧ (M.1 (k + 1) p).toInt = (c : Int)) (Q := fun y : Int64 => ∀ c, bl y c = true ↔ ∃ p, p < 8 ∧ bt set p = true ∧ M.1 (k + 2) p = lev ∧ (M.1 (k + 1) p).toInt = (c : Int)) ?_ e4 ⟨0, by omega, rfl, fun c => ?_⟩
  · rintro ⟨acc, i⟩ r ⟨q, q8, hq, ha'⟩ e
    dsimp only at hq ha'
    unfold lb_Scene_guarded_5 at e
    dsimp only at e
    rw [r0, r1] at e
    rcases io e with ⟨g, e⟩ | ⟨g, e⟩
    · have := q_le g
      obtain rfl := Option.some.inj e
      have : q = 8 := by omega
      subst this
      exact ha'
    have g1 := q_ng g
    have i1 : (i + (1 : Int32)).toInt = ((q + 1 : Nat) : Int) := add_ti hq o1 (by omega) (by omega)
    have keep : ¬ (bt set q = true ∧ M.1 (k + 2) q = lev) → ∃ j : Nat, j ≤ 8 ∧ (i + (1 : Int32)).toInt = (j : Int) ∧ ∀ c, bl acc c = true ↔ ∃ p, p < j ∧ bt set p = true ∧ M.1 (k + 2) p = lev ∧ (M.1 (k + 1) p).toInt = (c : Int) := by
      intro hn
      refine ⟨q + 1, by omega, i1, fun c => (ha' c).trans ⟨?_, ?_⟩⟩
      · rintro ⟨p, h1, h2⟩; exact ⟨p, by omega, h2⟩
      · rintro ⟨p, h1, h2, h3, h4⟩
        refine ⟨p, ?_, h2, h3, h4⟩
        rcases Nat.lt_or_ge p q with w | w
        · exact w
        · have : p = q := by omega
          subst this
          exact absurd ⟨h2, h3⟩ hn
    rw [bt_shr hq (by omega)] at e
    rcases io e with ⟨g, e⟩ | ⟨g, e⟩
    · obtain rfl := Option.some.inj e
      refine keep (fun h => ?_)
      rw [h.1, if_pos rfl] at g
      exact absurd g (by decide)
    have hb : bt set q = true := by
      cases hb : bt set q with
      | true => rfl
      | false => rw [hb, if_neg (by decide)] at g; exact absurd rfl g
    obtain ⟨_, e⟩ := io_n e
    rw [q_nat hq] at e
    rcases io e with ⟨g, e⟩ | ⟨g, e⟩
    rotate_left
    · obtain rfl := Option.some.inj e
      exact keep (fun h => g h.2)
    obtain ⟨_, e⟩ := io_n e
    obtain rfl := Option.some.inj e
    have rg := ha q (by omega) hb
    obtain ⟨d, hd⟩ := ti_ofn rg.1
    refine ⟨q + 1, by omega, i1, fun c => ?_⟩
    dsimp only
    rw [bl_or, Bool.or_eq_true, ha' c, bl_one hd (by omega), decide_eq_true_eq]
    constructor
    · rintro (⟨p, h1, h2⟩ | h)
      · exact ⟨p, by omega, h2⟩
      · exact ⟨q, by omega, hb, g, by omega⟩
    · rintro ⟨p, h1, h2, h3, h4⟩
      rcases Nat.lt_or_ge p q with w | w
      · exact .inl ⟨p, w, h2, h3, h4⟩
      · have : p = q := by omega
        subst this
        exact .inr (by omega)
  · dsimp only
    rw [bl_0]
    constructor
    · intro h; cases h
    · rintro ⟨p, h, _⟩; omega
theorem ones_t : ∀ n : Fin 9, ∀ p : Fin 32, bt (((1 : Int32) <<< ((Int32.ofNat n.val) &&& 31)) - (1 : Int32)) p.val = decide (p.val < n.val) := by decide +kernel
theorem occ_c {k n l : Nat} {M : Mem} {lev v : Int32} {y : Int64} (hv : v.toInt = (n : Int)) (n8 : n ≤ 8) (hl : lev.toInt = (l : Int)) (ha : ∀ p, p < n → 0 ≤ (M.1 (k + 1) p).toInt ∧ (M.1 (k + 1) p).toInt ≤ 35) (e : f_Scene_occupied k lev v M = some y) : ∀ c, bl y c = true ↔ ∃ p, p < n ∧ (M.1 (k + 2) p).toInt = (l : Int) ∧ (M.1 (k + 1) p).toInt = (c : Int) := by
  unfold f_Scene_occupied at e
  obtain ⟨_, e⟩ := io_n e
  obtain ⟨x1, e1, e⟩ := bo e
  obtain rfl := Option.some.inj e
  have bb : ∀ p, p < 32 → bt (((1 : Int32) <<< (v &&& 31)) - (1 : Int32)) p = decide (p < n) := fun p hp => by
    rw [ofn_eq hv (by omega)]
    exact ones_t ⟨n, by omega⟩ ⟨p, hp⟩
  have G := guard_c (fun p p8 hb => by
    rw [bb p (by omega)] at hb
    exact ha p (of_decide_eq_true hb)) e1
  intro c
  rw [G c]
  constructor
  · rintro ⟨p, p8, h1, h2, h3⟩
    rw [bb p (by omega)] at h1
    exact ⟨p, of_decide_eq_true h1, by rw [h2]; exact hl, h3⟩
  · rintro ⟨p, pn, h2, h3⟩
    exact ⟨p, by omega, by rw [bb p (by omega)]; exact decide_eq_true pn, Int32.toInt_inj.mp (by omega), h3⟩
end
section
/-! thieves: the reference's side -/
theorem vb_1 : vp_nar .boolean (1 : Int32) = 1 := by decide +kernel
theorem b186 {N : Mem} (h : J N) (i : Nat) : N.1 186 i = 0 ∨ N.1 186 i = 1 := by
  have := Jr_186 h i
  by_cases c : (N.1 186 i).toInt = 0
  · exact .inl (Int32.toInt_inj.mp c)
  · exact .inr (Int32.toInt_inj.mp (by show (N.1 186 i).toInt = 1; omega))
theorem b187 {N : Mem} (h : J N) (i : Nat) : N.1 187 i = 0 ∨ N.1 187 i = 1 := by
  have := Jr_187 h i
  by_cases c : (N.1 187 i).toInt = 0
  · exact .inl (Int32.toInt_inj.mp c)
  · exact .inr (Int32.toInt_inj.mp (by show (N.1 187 i).toInt = 1; omega))
def mayb (k : Nat) (T : Mem) (u : Nat) : Prop := T.1 k u ≠ 0
def occR (T : Mem) (a n u : Nat) : Prop := ∃ p, p < n ∧ (T.1 a p).toInt = (u : Int)
/-- a place's steps are marked -/
theorem thS_r {T x : Mem} {v : Nat} {v1 : Int32} {P : Nat → Prop} (jT : J T) (kp : KP T 176 0) (hv : v1.toInt = (v : Int)) (v72 : v < 72) (onv : onP T (v : Int)) (hP : ∀ u, u < 72 → (mayb 187 T u ↔ P u)) (e : iter (lb_Mod_goThief_43 v1) FU ((0 : Int32), T) = some x) : J x ∧ (∀ kx i, kx ≠ 187 → x.1 kx i = T.1 kx i) ∧ x.2 = T.2 ∧ ∀ u, u < 72 → (mayb 187 x u ↔ P u ∨ u = v ∨ ∃ s : Int, 0 ≤ s ∧ s ≤ 3 ∧ goR T 176 (v : Int) s (u : Int)) := by
  have k4 : (4 : Int32).toInt = 4 := rfl
  refine it_r (I := fun s : Int32 × Mem => ∃ q : Nat, q ≤ 5 ∧ s.1.toInt = (q : Int) ∧ J s.2 ∧ (∀ kx i, kx ≠ 187 → s.2.1 kx i = T.1 kx i) ∧ s.2.2 = T.2 ∧ ∀ u, u < 72 → (mayb 187 s.2 u ↔ P u ∨ ∃ t : Int, 0 ≤ t ∧ t < (q : Int) ∧ goR T 176 (v : Int) t (u : Int))) (Q := fun x : Mem => J x ∧ (∀ kx i, kx ≠ 187 → x.1 kx i = T.1 kx i) ∧ x.2 = T.2 ∧ ∀ u, u < 72 → (mayb 187 x u ↔ P u ∨ u = v ∨ ∃ s : Int, 0 ≤ s ∧ s ≤ 3 ∧ goR T 176 (v : Int) s (u : Int))) ?_ e ⟨0, by omega, rfl, jT, fun _ _ _ => rfl, rfl, fun u hu => (hP u hu).trans ⟨.inl, fun h => h.elim id (fun ⟨t, t0, t1, _⟩ => by omega)⟩⟩
  rintro ⟨i, S⟩ r ⟨q, q5, hq, jS, fS, f2, hm⟩ e
  dsimp only at hq jS fS f2 hm
  unfold lb_Mod_goThief_43 at e
  dsimp only at e
  rcases io e with ⟨g, e⟩ | ⟨g, e⟩
  · have := q_lt g
    obtain rfl := Option.some.inj e
    refine ⟨jS, fS, f2, fun u hu => (hm u hu).trans ⟨?_, ?_⟩⟩
    · rintro (h | ⟨t, t0, t5, h⟩)
      · exact .inl h
      · by_cases k : t = 4
        · subst k
          rcases h with ⟨_, h⟩ | ⟨h, _⟩
          · exact .inr (.inl (by omega))
          · omega
        · exact .inr (.inr ⟨t, t0, by omega, h⟩)
    · rintro (h | h | ⟨t, t0, t3, h⟩)
      · exact .inl h
      · exact .inr ⟨4, by omega, by omega, .inl ⟨rfl, by omega⟩⟩
      · exact .inr ⟨t, t0, by omega, h⟩
  have g1 := q_nl g
  have i1 : (i + (1 : Int32)).toInt = ((q + 1 : Nat) : Int) := add_ti hq o1 (by omega) (by omega)
  obtain ⟨x4, e4, e⟩ := bo e
  obtain ⟨gg, gl, gh⟩ := some_of (fs_go jS 176 (.inr (.inr rfl)) v1 i (by omega)) e4
  have mE : MapEq S T := ⟨fS 162 2 (by omega), fS 162 3 (by omega), fun i => fS 164 i (by omega)⟩
  rw [hv, hq, goR_c mE (fun i => fS 176 i (by omega))] at gg
  have ym := om
  rcases io e with ⟨g, e⟩ | ⟨g, e⟩
  · have gm := q_eq g
    obtain rfl := Option.some.inj e
    refine ⟨q + 1, by omega, i1, jS, fS, f2, fun u hu => (hm u hu).trans ⟨?_, ?_⟩⟩
    · rintro (h | ⟨t, t0, t1, h⟩)
      · exact .inl h
      · exact .inr ⟨t, t0, by omega, h⟩
    · rintro (h | ⟨t, t0, t1, h⟩)
      · exact .inl h
      · by_cases k : t = (q : Int)
        · subst k
          have := goR_fun gg h
          omega
        · exact .inr ⟨t, t0, by omega, h⟩
  have gm := q_ne g
  obtain ⟨x5, e5, e⟩ := bo e
  rw [e4] at e5
  obtain rfl := Option.some.inj e5
  obtain ⟨_, e⟩ := io_n e
  obtain ⟨M6, m6, e⟩ := mo e
  obtain rfl := Option.some.inj e
  obtain ⟨w, hw⟩ : ∃ w : Nat, x4.toInt = (w : Int) := ⟨x4.toInt.toNat, by omega⟩
  rw [q_nat hw, vb_1] at m6
  rw [hw] at gg
  refine ⟨q + 1, by omega, i1, by rw [m6]; exact Jw_187 jS w 1 (by decide) (by decide), fun kx j h => by rw [m6, si_ne (by omega)]; exact fS kx j h, by rw [m6, si_2]; exact f2, fun u hu => ?_⟩
  by_cases c : u = w
  · subst c
    constructor
    · intro _; exact .inr ⟨q, by omega, by omega, gg⟩
    · intro _
      show M6.1 187 u ≠ 0
      rw [m6, si_eq]; decide
  · have same : mayb 187 M6 u ↔ mayb 187 S u := by
      unfold mayb
      rw [m6, si_ne (by omega)]
    refine same.trans ((hm u hu).trans ⟨?_, ?_⟩)
    · rintro (h | ⟨t, t0, t1, h⟩)
      · exact .inl h
      · exact .inr ⟨t, t0, by omega, h⟩
    · rintro (h | ⟨t, t0, t1, h⟩)
      · exact .inl h
      · by_cases k : t = (q : Int)
        · subst k
          have := goR_fun gg h
          omega
        · exact .inr ⟨t, t0, by omega, h⟩
theorem thief_r {T : Mem} {n : Nat} {r : Int32 × Mem} (jT : J T) (kp : KP T 176 0) (hm : (T.1 162 4).toInt = (n : Int)) (n8 : n ≤ 8) (on : ∀ v, v < 72 → mayb 186 T v → onP T (v : Int)) (e : f_Mod_goThief T = some r) : J r.2 ∧ (∀ kx i, kx ≠ 186 → kx ≠ 187 → r.2.1 kx i = T.1 kx i) ∧ (∀ u, u < 72 → (mayb 186 r.2 u ↔ (mayb 186 T u ∨ ∃ v, mayb 186 T v ∧ EA T 176 v u) ∧ ¬ occR T 176 n u)) ∧ (r.1 = 0 ↔ ∀ u, u < 72 → ¬ mayb 186 r.2 u) := by
  have k72 : (72 : Int32).toInt = 72 := rfl
  have jr := (some_of (sf_Mod_goThief T jT) e).1
  unfold f_Mod_goThief at e
  obtain ⟨x3, e3, e⟩ := bo e
  obtain ⟨x18, e18, e⟩ := bo e
  obtain ⟨x24, e24, e⟩ := bo e
  obtain ⟨_, e⟩ := io_n e
  obtain rfl := Option.some.inj e
  -- all are wiped
  have K3 : J x3 ∧ (∀ kx i, kx ≠ 187 → x3.1 kx i = T.1 kx i) ∧ ∀ u, u < 72 → ¬ mayb 187 x3 u := by
    refine it_r (I := fun s : Int32 × Mem => ∃ q : Nat, q ≤ 72 ∧ s.1.toInt = (q : Int) ∧ J s.2 ∧ (∀ kx i, kx ≠ 187 → s.2.1 kx i = T.1 kx i) ∧ ∀ u, u < q → ¬ mayb 187 s.2 u) (Q := fun x : Mem => J x ∧ (∀ kx i, kx ≠ 187 → x.1 kx i = T.1 kx i) ∧ ∀ u, u < 72 → ¬ mayb 187 x u) ?_ e3 ⟨0, by omega, rfl, jT, fun _ _ _ => rfl, fun u h => by omega⟩
    rintro ⟨i, S⟩ r ⟨q, q72, hq, jS, fS, hd⟩ e
    dsimp only at hq jS fS hd
    unfold lb_Mod_goThief_2 at e
    dsimp only at e
    rcases io e with ⟨g, e⟩ | ⟨g, e⟩
    · have := q_le g
      obtain rfl := Option.some.inj e
      exact ⟨jS, fS, fun u hu => hd u (by omega)⟩
    have g1 := q_ng g
    have i1 : (i + (1 : Int32)).toInt = ((q + 1 : Nat) : Int) := add_ti hq o1 (by omega) (by omega)
    obtain ⟨_, e⟩ := io_n e
    obtain ⟨M1, m1, e⟩ := mo e
    obtain rfl := Option.some.inj e
    rw [q_nat hq, vb_0] at m1
    refine ⟨q + 1, by omega, i1, by rw [m1]; exact Jw_187 jS q 0 (by decide) (by decide), fun kx j h => by rw [m1, si_ne (by omega)]; exact fS kx j h, fun u hu => ?_⟩
    show ¬ (M1.1 187 u ≠ 0)
    rw [m1]
    by_cases w : u = q
    · subst w; rw [si_eq]; exact fun h => h rfl
    · rw [si_ne (by omega)]; exact hd u (by omega)
  obtain ⟨j3, f3, z3⟩ := K3
  -- where it may be next
  have K18 : J x18 ∧ (∀ kx i, kx ≠ 187 → x18.1 kx i = T.1 kx i) ∧ ∀ u, u < 72 → (mayb 187 x18 u ↔ ∃ v, v < 72 ∧ mayb 186 T v ∧ (u = v ∨ EA T 176 v u)) := by
    refine it_r (I := fun s : Int32 × Mem => ∃ k : Nat, k ≤ 72 ∧ s.1.toInt = (k : Int) ∧ J s.2 ∧ (∀ kx i, kx ≠ 187 → s.2.1 kx i = T.1 kx i) ∧ ∀ u, u < 72 → (mayb 187 s.2 u ↔ ∃ v, v < k ∧ mayb 186 T v ∧ (u = v ∨ EA T 176 v u))) (Q := fun x : Mem => J x ∧ (∀ kx i, kx ≠ 187 → x.1 kx i = T.1 kx i) ∧ ∀ u, u < 72 → (mayb 187 x u ↔ ∃ v, v < 72 ∧ mayb 186 T v ∧ (u = v ∨ EA T 176 v u))) ?_ e18 ⟨0, by omega, rfl, j3, f3, fun u hu => ⟨fun h => absurd h (z3 u hu), fun ⟨v, h, _⟩ => by omega⟩⟩
    rintro ⟨i, S⟩ r ⟨k, k72', hk, jS, fS, hd⟩ e
    dsimp only at hk jS fS hd
    unfold lb_Mod_goThief_23 at e
    dsimp only at e
    rcases io e with ⟨g, e⟩ | ⟨g, e⟩
    · have := q_le g
      obtain rfl := Option.some.inj e
      have : k = 72 := by omega
      subst this
      exact ⟨jS, fS, hd⟩
    have g1 := q_ng g
    have i1 : (i + (1 : Int32)).toInt = ((k + 1 : Nat) : Int) := add_ti hk o1 (by omega) (by omega)
    obtain ⟨_, e⟩ := io_n e
    rw [q_nat hk, fS 186 k (by omega)] at e
    rcases io e with ⟨g, e⟩ | ⟨g, e⟩
    · obtain rfl := Option.some.inj e
      refine ⟨k + 1, by omega, i1, jS, fS, fun u hu => (hd u hu).trans ⟨?_, ?_⟩⟩
      · rintro ⟨v, h1, h2⟩; exact ⟨v, by omega, h2⟩
      · rintro ⟨v, h1, h2, h3⟩
        refine ⟨v, ?_, h2, h3⟩
        rcases Nat.lt_or_ge v k with w | w
        · exact w
        · have : v = k := by omega
          subst this
          exact absurd g h2
    have onk := on k (by omega) g
    have mE : MapEq S T := ⟨fS 162 2 (by omega), fS 162 3 (by omega), fun i => fS 164 i (by omega)⟩
    have onS : onP S (k : Int) := ⟨onk.1, onk.2.1, (onN_c mE).mpr onk.2.2⟩
    have kpS : KP S 176 0 := by
      intro j hj
      have := kp j (by rw [← fS 176 _ (by omega)]; exact hj)
      rw [fS 176 _ (by omega), fS 176 _ (by omega)]
      exact ⟨(onN_c mE).mpr this.1, (onN_c mE).mpr this.2⟩
    obtain ⟨x9, e9, e⟩ := bo e
    obtain ⟨x10, e10, e⟩ := bo e
    obtain ⟨_, e⟩ := io_n e
    obtain ⟨j9, f9, _, h9⟩ := thS_r jS kpS hk (by omega) onS hd e9
    have c10 : x10.toInt = ((k % 36 : Nat) : Int) := by rw [(place_i (v := i) (by omega) (by omega)).1 e10, hk]; omega
    rw [q_nat c10, f9 164 _ (by omega), fS 164 _ (by omega)] at e
    have f9T : ∀ kx i, kx ≠ 187 → x9.1 kx i = T.1 kx i := fun kx i h => by rw [f9 kx i h]; exact fS kx i h
    have goT : ∀ (s : Int) (u : Nat), goR S 176 (k : Int) s (u : Int) ↔ goR T 176 (k : Int) s (u : Int) := fun s u => goR_c mE (fun i => fS 176 i (by omega))
    -- steps lead to places of the net
    have ea : ∀ (s : Int) (u : Nat), 0 ≤ s → s ≤ 3 → u < 72 → goR T 176 (k : Int) s (u : Int) → EA T 176 k u := fun s u s0 s3 hu hg => ⟨by omega, hu, onk, (go_sym jT kp onk ⟨s0, s3⟩ hg (by omega)).1, .inl ⟨s, s0, s3, hg⟩⟩
    rcases io e with ⟨gs, e⟩ | ⟨gs, e⟩
    rotate_left
    · obtain rfl := Option.some.inj e
      refine ⟨k + 1, by omega, i1, j9, f9T, fun u hu => (h9 u hu).trans ⟨?_, ?_⟩⟩
      · rintro (⟨v, h1, h2⟩ | h | ⟨s, s0, s3, hg⟩)
        · exact ⟨v, by omega, h2⟩
        · exact ⟨k, by omega, g, .inl h⟩
        · exact ⟨k, by omega, g, .inr (ea s u s0 s3 hu ((goT s u).mp hg))⟩
      · rintro ⟨v, h1, h2, h3⟩
        by_cases w : v = k
        · subst w
          rcases h3 with h3 | ⟨_, _, _, _, ⟨s, s0, s3, hg⟩ | ⟨h4, _⟩⟩
          · exact .inr (.inl h3)
          · exact .inr (.inr ⟨s, s0, s3, (goT s u).mpr hg⟩)
          · exact absurd (Int32.toInt_inj.mp h4) gs
        · exact .inl ⟨v, by omega, h2, h3⟩
    obtain ⟨x11, e11, e⟩ := bo e
    obtain ⟨x12, e12, e⟩ := bo e
    obtain ⟨x13, e13, e⟩ := bo e
    obtain ⟨_, e⟩ := io_n e
    obtain ⟨M14, m14, e⟩ := mo e
    obtain rfl := Option.some.inj e
    have c11 : x11.toInt = ((k / 36 : Nat) : Int) := by rw [(place_i (v := i) (by omega) (by omega)).2 e11, hk]; omega
    have c12 : x12.toInt = ((k % 36 : Nat) : Int) := by rw [(place_i (v := i) (by omega) (by omega)).1 e12, hk]; omega
    have c13 := place_c (l := 1 - k / 36) (c := k % 36) (by rw [sub_ti o1 c11 (by omega) (by omega)]; omega) c12 (by omega) (by omega) e13
    rw [q_nat c13, vb_1] at m14
    have s3' : (T.1 164 (k % 36)).toInt = 3 := by rw [gs]; rfl
    have cwk : ((k % 36 : Nat) : Int) < xw T * xh T := by
      have o := onk.2.2
      rw [show ((k : Int)) % 36 = ((k % 36 : Nat) : Int) by omega] at o
      exact o.2.1
    have est : EA T 176 k (36 * (1 - k / 36) + k % 36) := ⟨by omega, by omega, onk, stair_on (by omega) (by omega) cwk s3', .inr ⟨s3', rfl⟩⟩
    refine ⟨k + 1, by omega, i1, by rw [m14]; exact Jw_187 j9 _ 1 (by decide) (by decide), fun kx j h => by rw [m14, si_ne (by omega)]; exact f9T kx j h, fun u hu => ?_⟩
    by_cases c : u = 36 * (1 - k / 36) + k % 36
    · subst c
      constructor
      · intro _; exact ⟨k, by omega, g, .inr est⟩
      · intro _
        show M14.1 187 _ ≠ 0
        rw [m14, si_eq]; decide
    · have same : mayb 187 M14 u ↔ mayb 187 x9 u := by
        unfold mayb
        rw [m14, si_ne (by omega)]
      refine same.trans ((h9 u hu).trans ⟨?_, ?_⟩)
      · rintro (⟨v, h1, h2⟩ | h | ⟨s, s0, s3, hg⟩)
        · exact ⟨v, by omega, h2⟩
        · exact ⟨k, by omega, g, .inl h⟩
        · exact ⟨k, by omega, g, .inr (ea s u s0 s3 hu ((goT s u).mp hg))⟩
      · rintro ⟨v, h1, h2, h3⟩
        by_cases w : v = k
        · subst w
          rcases h3 with h3 | ⟨_, _, _, _, ⟨s, s0, s3, hg⟩ | ⟨_, h4⟩⟩
          · exact .inr (.inl h3)
          · exact .inr (.inr ⟨s, s0, s3, (goT s u).mpr hg⟩)
          · exact absurd h4 c
        · exact .inl ⟨v, by omega, h2, h3⟩
  obtain ⟨j18, f18, h18⟩ := K18
  -- whoever is there catches it
  have K24 : (∀ kx i, kx ≠ 186 → x24.2.1 kx i = x18.1 kx i) ∧ (∀ u, u < 72 → (mayb 186 x24.2 u ↔ mayb 187 x18 u ∧ ¬ occR T 176 n u)) ∧ (x24.1 = 0 ↔ ∀ u, u < 72 → ¬ mayb 186 x24.2 u) := by
    refine it_r (I := fun s : Int32 × Int32 × Mem => ∃ k : Nat, k ≤ 72 ∧ s.2.1.toInt = (k : Int) ∧ (∀ kx i, kx ≠ 186 → s.2.2.1 kx i = x18.1 kx i) ∧ (∀ u, u < k → (mayb 186 s.2.2 u ↔ mayb 187 x18 u ∧ ¬ occR T 176 n u)) ∧ (s.1 = 0 ∨ s.1 = 1) ∧ (s.1 = 0 ↔ ∀ u, u < k → ¬ mayb 186 s.2.2 u)) (Q := fun x24 : Int32 × Mem => (∀ kx i, kx ≠ 186 → x24.2.1 kx i = x18.1 kx i) ∧ (∀ u, u < 72 → (mayb 186 x24.2 u ↔ mayb 187 x18 u ∧ ¬ occR T 176 n u)) ∧ (x24.1 = 0 ↔ ∀ u, u < 72 → ¬ mayb 186 x24.2 u)) ?_ e24 ⟨0, by omega, rfl, fun _ _ _ => rfl, fun u h => by omega, .inl rfl, ⟨fun _ u h => by omega, fun _ => rfl⟩⟩
    rintro ⟨any, i, S⟩ r ⟨k, k72', hk, fS, hd, h01, ha⟩ e
    dsimp only at hk fS hd h01 ha
    unfold lb_Mod_goThief_126 at e
    dsimp only at e
    rcases io e with ⟨g, e⟩ | ⟨g, e⟩
    · have := q_le g
      obtain rfl := Option.some.inj e
      have : k = 72 := by omega
      subst this
      exact ⟨fS, hd, ha⟩
    have g1 := q_ng g
    have i1 : (i + (1 : Int32)).toInt = ((k + 1 : Nat) : Int) := add_ti hk o1 (by omega) (by omega)
    obtain ⟨_, e⟩ := io_n e
    rw [q_nat hk, fS 187 k (by omega)] at e
    have body : ∀ w : Int32, (w = 0 ∨ w = 1) → (w ≠ 0 ↔ mayb 187 x18 k ∧ ¬ occR T 176 n k) → j_Mod_goThief_163_126 any i w i S = some r → Sum.elim (fun s : Int32 × Int32 × Mem => ∃ k : Nat, k ≤ 72 ∧ s.2.1.toInt = (k : Int) ∧ (∀ kx i, kx ≠ 186 → s.2.2.1 kx i = x18.1 kx i) ∧ (∀ u, u < k → (mayb 186 s.2.2 u ↔ mayb 187 x18 u ∧ ¬ occR T 176 n u)) ∧ (s.1 = 0 ∨ s.1 = 1) ∧ (s.1 = 0 ↔ ∀ u, u < k → ¬ mayb 186 s.2.2 u)) (fun x24 : Int32 × Mem => (∀ kx i, kx ≠ 186 → x24.2.1 kx i = x18.1 kx i) ∧ (∀ u, u < 72 → (mayb 186 x24.2 u ↔ mayb 187 x18 u ∧ ¬ occR T 176 n u)) ∧ (x24.1 = 0 ↔ ∀ u, u < 72 → ¬ mayb 186 x24.2 u)) r := by
      intro w hw hq e
      unfold j_Mod_goThief_163_126 at e
      obtain ⟨_, e⟩ := io_n e
      obtain ⟨M19, m19, e⟩ := mo e
      obtain ⟨_, e⟩ := io_n e
      obtain rfl := Option.some.inj e
      have wn : vp_nar .boolean w = w := by
        rcases hw with rfl | rfl
        · exact vb_0
        · exact vb_1
      rw [q_nat hk, wn] at m19
      have ek : M19.1 186 k = w := by rw [m19, si_eq]
      have en : ∀ u, u ≠ k → M19.1 186 u = S.1 186 u := fun u h => by rw [m19, si_ne (by omega)]
      rw [q_nat hk, ek]
      obtain ⟨oa, ob⟩ := or01w h01 hw
      refine ⟨k + 1, by omega, i1, fun kx j h => by show M19.1 kx j = _; rw [m19, si_ne (by omega)]; exact fS kx j h, fun u hu => ?_, oa, ⟨fun h u hu => ?_, fun h => ?_⟩⟩
      · show M19.1 186 u ≠ 0 ↔ _
        by_cases c : u = k
        · subst c; rw [ek]; exact hq
        · rw [en u c]; exact hd u (by omega)
      · obtain ⟨h1, h2⟩ := ob h
        show ¬ (M19.1 186 u ≠ 0)
        by_cases c : u = k
        · subst c; rw [ek]; exact fun hh => hh h2
        · rw [en u c]; exact ha.mp h1 u (by omega)
      · have h1 : any = 0 := ha.mpr (fun u hu hh => h u (by omega) (by show M19.1 186 u ≠ 0; rw [en u (by omega)]; exact hh))
        have h2 : w = 0 := Classical.byContradiction (fun hh => h k (by omega) (by show M19.1 186 k ≠ 0; rw [ek]; exact hh))
        show (any ||| w) = 0
        rw [h1, h2]; decide
    rcases io e with ⟨g, e⟩ | ⟨g, e⟩
    · exact body 0 (.inl rfl) ⟨fun h => absurd rfl h, fun h => absurd g h.1⟩ e
    obtain ⟨x20, e20, e⟩ := bo e
    have op := onPlace_i (n := n) (by rw [fS 162 4 (by omega), f18 162 4 (by omega)]; exact hm) n8 e20
    have f176 : ∀ p, S.1 176 p = T.1 176 p := fun p => by rw [fS 176 p (by omega), f18 176 p (by omega)]
    rcases io e with ⟨g2, e⟩ | ⟨g2, e⟩
    · refine body 1 (.inr rfl) ⟨fun _ => ⟨g, ?_⟩, fun _ => by decide⟩ e
      rintro ⟨p, pn, hp⟩
      have := op p
      rw [g2, bt_0] at this
      have := of_decide_eq_false this.symm
      exact this ⟨pn, Int32.toInt_inj.mp (by rw [f176, hp, hk])⟩
    · refine body 0 (.inl rfl) ⟨fun h => absurd rfl h, fun h => absurd ?_ h.2⟩ e
      have ex : ∃ p, bt x20 p = true := by
        refine Classical.byContradiction (fun h => g2 (bt_ext (fun d _ => ?_)))
        rw [bt_0]
        cases hb : bt x20 d with
        | false => rfl
        | true => exact absurd ⟨d, hb⟩ h
      obtain ⟨p, hp⟩ := ex
      rw [op p] at hp
      obtain ⟨pn, hp⟩ := of_decide_eq_true hp
      exact ⟨p, pn, by rw [← f176, hp, hk]⟩
  obtain ⟨f24, h24, a24⟩ := K24
  refine ⟨jr, fun kx i h1 h2 => by rw [f24 kx i h1]; exact f18 kx i h2, fun u hu => (h24 u hu).trans ?_, a24⟩
  rw [h18 u hu]
  constructor
  · rintro ⟨⟨v, hv, h1, h2⟩, h3⟩
    refine ⟨?_, h3⟩
    rcases h2 with rfl | h2
    · exact .inl h1
    · exact .inr ⟨v, h1, h2⟩
  · rintro ⟨h | ⟨v, h1, h2⟩, h3⟩
    · exact ⟨⟨u, hu, h, .inl rfl⟩, h3⟩
    · exact ⟨⟨v, h2.1, h1, .inr h2⟩, h3⟩
end
section
/-! thieves: a minute of both; flees, caught -/
theorem onP_c {A B : Mem} (h : MapEq A B) {p : Int} : onP A p ↔ onP B p := by
  unfold onP
  rw [onN_c h]
theorem TN_m {A B N : Mem} (h : MapEq B A) (t : TN A N) : TN B N := fun l c l2 hb => ⟨(t l c l2 hb).1, (onP_c h).mpr (t l c l2 hb).2⟩
theorem TN_2 {A N N' : Mem} (h2 : N'.2.1 151 2 = N.2.1 151 2) (h3 : N'.2.1 151 3 = N.2.1 151 3) (t : TN A N) : TN A N' := by
  intro l c l2 hb
  have : l = 0 ∨ l = 1 := by omega
  rcases this with rfl | rfl
  · exact t 0 c l2 (by rw [← h2]; exact hb)
  · exact t 1 c l2 (by rw [← h3]; exact hb)
theorem TBq_2 {N N' : Mem} (h2 : N'.2.1 151 2 = N.2.1 151 2) (h3 : N'.2.1 151 3 = N.2.1 151 3) {u : Nat} (hu : u < 72) : TBq N' u ↔ TBq N u := by
  unfold TBq
  have : u / 36 = 0 ∨ u / 36 = 1 := by omega
  rcases this with k | k
  · rw [k, show 2 + 0 = 2 from rfl, h2]
  · rw [k, show 2 + 1 = 3 from rfl, h3]
/-- recorded first and struck: who is there catches it -/
theorem struck_c {X x5 x : Mem} {a b : Int64} (e5 : f_Thief_record (0 : Int32) a b X = some x5) (e : f_Thief_strike (0 : Int32) x5 = some x) : x.1 = X.1 ∧ x.2.2 = X.2.2 ∧ (∀ k i, k ≠ 151 → k ≠ 152 → k ≠ 153 → x.2.1 k i = X.2.1 k i) ∧ (∀ c, c < 64 → bl (x.2.1 151 2) c = (bl (X.2.1 151 2) c && !bl a c)) ∧ (∀ c, c < 64 → bl (x.2.1 151 3) c = (bl (X.2.1 151 3) c && !bl b c)) := by
  unfold f_Thief_record at e5
  rw [if_neg (by decide), if_neg (by decide), show (0 : Int32).toNatClampNeg = 0 from rfl] at e5
  obtain ⟨_, e5⟩ := io_n e5
  obtain ⟨M1, m1, e5⟩ := mo e5
  obtain ⟨_, e5⟩ := io_n e5
  obtain ⟨M2, m2, e5⟩ := mo e5
  obtain rfl := Option.some.inj e5
  unfold f_Thief_strike at e
  rw [if_neg (by decide), if_neg (by decide), show (0 : Int32).toNatClampNeg = 0 from rfl] at e
  obtain ⟨_, e⟩ := io_n e
  obtain ⟨M3, m3, e⟩ := mo e
  obtain ⟨_, e⟩ := io_n e
  obtain ⟨M4, m4, e⟩ := mo e
  obtain rfl := Option.some.inj e
  have a152 : M2.2.1 152 0 = a := by rw [m2, sl_ne (by omega), m1, sl_eq]
  have a153 : M3.2.1 153 0 = b := by rw [m3, sl_ne (by omega), m2, sl_eq]
  have c2 : M2.2.1 151 2 = X.2.1 151 2 := by rw [m2, sl_ne (by omega), m1, sl_ne (by omega)]
  have c3 : M3.2.1 151 3 = X.2.1 151 3 := by rw [m3, sl_ne (by omega), m2, sl_ne (by omega), m1, sl_ne (by omega)]
  refine ⟨by rw [m4, sl_1, m3, sl_1, m2, sl_1, m1, sl_1], ?_, fun k i h1 h2 h3 => by rw [m4, sl_ne (by omega), m3, sl_ne (by omega), m2, sl_ne (by omega), m1, sl_ne (by omega)], fun c hc => ?_, fun c hc => ?_⟩
  · rw [m4]; show M3.2.2 = _
    rw [m3]; show M2.2.2 = _
    rw [m2]; show M1.2.2 = _
    rw [m1]; rfl
  · rw [m4, sl_ne (by omega), m3, sl_eq, a152, c2, bl_and, bl_not hc]
  · rw [m4, sl_eq, a153, c3, bl_and, bl_not hc]
def HR (n : Nat) (X R x r : Mem) : Prop := ZT x r n ∧ TN r x ∧ (∀ u, u < 72 → (TBq x u ↔ mayb 186 r u)) ∧ FQ2 X R x r
theorem hunt_2 {X0 R0 X R x r1 : Mem} {n : Nat} {r : Int32 × Mem} (h : HR n X0 R0 X R) (ex : f_Top_hunt X = some x) (e1 : f_Mod_goMinute 176 R = some r1) (e2 : f_Mod_goThief r1 = some r) : HR n X0 R0 x r.2 ∧ (r.1 = 0 ↔ ∀ u, u < 72 → ¬ TBq x u) ∧ ((∀ u, u < 72 → ¬ TBq X u) → ∀ u, u < 72 → ¬ TBq x u) := by
  obtain ⟨zt, tn, tm, fq⟩ := h
  unfold f_Top_hunt at ex
  obtain ⟨x1, h1, ex⟩ := bo ex
  obtain ⟨x2, h2, ex⟩ := bo ex
  obtain ⟨x3, h3, ex⟩ := bo ex
  obtain ⟨x4, h4, ex⟩ := bo ex
  obtain ⟨x5, h5, ex⟩ := bo ex
  obtain ⟨x6, h6, ex⟩ := bo ex
  obtain rfl := Option.some.inj ex
  obtain ⟨zt1, pp, fq1⟩ := pass_t zt h1 e1
  have fx : Fx mP25 [] X x1 := wf_Clock_pass 25 32 X (by decide +kernel) (oc_c (sb_r _) (by decide +kernel)) (oc_c (sb_r _) (by decide +kernel)) (oc_c (sb_r _) (by decide +kernel)) (oc_c (sb_r _) (by decide +kernel)) Fx_r h1
  have fr : Fx mG176 [] R r1 := wf_Mod_goMinute 176 R (by decide +kernel) (oc_c (sb_r _) (by decide +kernel)) Fx_r e1
  have a2 : x1.2.1 151 2 = X.2.1 151 2 := (fx 151 2 (by decide +kernel) (by simp)).2.1
  have a3 : x1.2.1 151 3 = X.2.1 151 3 := (fx 151 3 (by decide +kernel) (by simp)).2.1
  have a186 : ∀ u, r1.1 186 u = R.1 186 u := fun u => (fr 186 u (by rw [show sl 186 u = 186 from rfl]; decide +kernel) (by simp)).1
  obtain ⟨n8, j1, ⟨zg1, zc1, zl1⟩, zs1, zv1, zw1⟩ := zt1
  have wh := awh j1
  have mE : MapEq r1 R := ⟨fq1.2.1 162 2 (by unfold CRr CR; omega), fq1.2.1 162 3 (by unfold CRr CR; omega), fun i => fq1.2.1 164 i (by unfold CRr CR; omega)⟩
  have tn1 : TN r1 x1 := TN_2 a2 a3 (TN_m mE tn)
  have tm1 : ∀ u, u < 72 → (TBq x1 u ↔ mayb 186 r1 u) := fun u hu => (TBq_2 a2 a3 hu).trans ((tm u hu).trans (by unfold mayb; rw [a186]))
  have kp1 := KP_v zv1
  obtain ⟨s1, s2, s3, s4, s5⟩ := stir_c j1 kp1 zv1 zw1 zg1.2.2.2 tn1 h2
  -- who is where
  have at26 : ∀ p, p < n → 0 ≤ (x2.1 26 p).toInt ∧ (x2.1 26 p).toInt ≤ 35 := fun p pn => by
    have w := (whr_t ⟨n8, j1, ⟨zg1, zc1, zl1⟩, zs1, zv1, zw1⟩ pn).2
    rw [s1]; exact ⟨w.1, w.2.1⟩
  have hn : (x2.1 6 4).toInt = (n : Int) := by rw [s1, zc1.2.1]; exact zc1.1
  have o3 := occ_c (k := 25) (l := 0) hn n8 rfl at26 h3
  have o4 := occ_c (k := 25) (l := 1) hn n8 rfl at26 h4
  have occ : ∀ l c : Nat, l < 2 → c < 36 → ((∃ p, p < n ∧ (x2.1 (25 + 2) p).toInt = (l : Int) ∧ (x2.1 (25 + 1) p).toInt = (c : Int)) ↔ occR r1 176 n (36 * l + c)) := by
    intro l c l2 c36
    rw [s1]
    unfold occR
    constructor
    · rintro ⟨p, pn, hl, hc⟩
      obtain ⟨q1, _⟩ := zs1.1 p pn
      have e0 : scn x1 25 0 p = x1.1 26 p := rfl
      have e1' : scn x1 25 1 p = x1.1 27 p := rfl
      rw [e0, e1'] at q1
      have hl : (x1.1 27 p).toInt = (l : Int) := hl
      have hc : (x1.1 26 p).toInt = (c : Int) := hc
      exact ⟨p, pn, by omega⟩
    · rintro ⟨p, pn, hp⟩
      obtain ⟨q1, q2, q3, q4, q5, _⟩ := zs1.1 p pn
      have e0 : scn x1 25 0 p = x1.1 26 p := rfl
      have e1' : scn x1 25 1 p = x1.1 27 p := rfl
      rw [e0, e1'] at q1
      rw [e0] at q2 q3
      rw [e1'] at q4 q5
      refine ⟨p, pn, ?_, ?_⟩
      · show (x1.1 27 p).toInt = _
        omega
      · show (x1.1 26 p).toInt = _
        omega
  obtain ⟨k1, k2, k3, k4, k5⟩ := struck_c h5 h6
  have st : ∀ l c : Nat, l < 2 → c < 36 → (bl (x6.2.1 151 (2 + l)) c = true ↔ bl (x2.2.1 151 (2 + l)) c = true ∧ ¬ occR r1 176 n (36 * l + c)) := by
    intro l c l2 c36
    rw [← occ l c l2 c36]
    have : l = 0 ∨ l = 1 := by omega
    rcases this with rfl | rfl
    · rw [show 2 + 0 = 2 from rfl, k4 c (by omega), Bool.and_eq_true, Bool.not_eq_true', ← Bool.not_eq_true, o3 c]
    · rw [show 2 + 1 = 3 from rfl, k5 c (by omega), Bool.and_eq_true, Bool.not_eq_true', ← Bool.not_eq_true, o4 c]
  have tb6 : ∀ u, u < 72 → (TBq x6 u ↔ TBq x2 u ∧ ¬ occR r1 176 n u) := by
    intro u hu
    have eu : u = 36 * (u / 36) + u % 36 := by omega
    have := st (u / 36) (u % 36) (by omega) (by omega)
    rw [← eu] at this
    exact this
  obtain ⟨t1, t2, t3, t4⟩ := thief_r j1 kp1 zc1.1 n8 (fun v hv hm => TN_b tn1 hv ((tm1 v hv).mpr hm)) e2
  have tm6 : ∀ u, u < 72 → (TBq x6 u ↔ mayb 186 r.2 u) := by
    intro u hu
    rw [tb6 u hu, t3 u hu, s5 u hu, tm1 u hu]
    constructor
    · rintro ⟨h | ⟨v, h, g⟩, o⟩
      · exact ⟨.inl h, o⟩
      · exact ⟨.inr ⟨v, (tm1 v g.1).mp h, g⟩, o⟩
    · rintro ⟨h | ⟨v, h, g⟩, o⟩
      · exact ⟨.inl h, o⟩
      · exact ⟨.inr ⟨v, (tm1 v g.1).mpr h, g⟩, o⟩
  have f61 : ∀ kx i, x6.1 kx i = x1.1 kx i := fun kx i => by rw [k1, s1]
  have l61 : ∀ k i, k ≠ 151 → k ≠ 152 → k ≠ 153 → x6.2.1 k i = x1.2.1 k i := fun k i a b c => by rw [k3 k i a b c]; exact s3 k i (by omega)
  have q61 : x6.2.2 = x1.2.2 := by rw [k2, s2]
  have agx : AgX x1 x6 := ⟨f61 3 2, f61 3 3, fun q => f61 4 q, f61 6 4, f61 6 5, fun q => f61 7 q, fun q => f61 8 q, f61 40 4, fun q => f61 41 q, fun q => f61 35 q, fun q => l61 33 q (by omega) (by omega) (by omega), fun q => l61 34 q (by omega) (by omega) (by omega)⟩
  have agr : AgR r1 r.2 := ⟨t2 162 2 (by omega) (by omega), t2 162 3 (by omega) (by omega), t2 162 4 (by omega) (by omega), t2 162 5 (by omega) (by omega), t2 162 23 (by omega) (by omega), fun i => t2 164 i (by omega) (by omega), fun i => t2 165 i (by omega) (by omega), fun i => t2 166 i (by omega) (by omega), fun i => t2 172 i (by omega) (by omega)⟩
  have mE2 : MapEq r.2 r1 := ⟨t2 162 2 (by omega) (by omega), t2 162 3 (by omega) (by omega), fun i => t2 164 i (by omega) (by omega)⟩
  have tn6 : TN r.2 x6 := by
    refine TN_m mE2 (fun l c l2 hb => ?_)
    have : l = 0 ∨ l = 1 := by omega
    rcases this with rfl | rfl
    · refine s4 0 c l2 ?_
      have hc : c < 64 := by
        rcases Nat.lt_or_ge c 64 with h | h
        · exact h
        · rw [bl_hi h] at hb; cases hb
      rw [show 2 + 0 = 2 from rfl, k4 c hc, Bool.and_eq_true] at hb
      exact hb.1
    · refine s4 1 c l2 ?_
      have hc : c < 64 := by
        rcases Nat.lt_or_ge c 64 with h | h
        · exact h
        · rw [bl_hi h] at hb; cases hb
      rw [show 2 + 1 = 3 from rfl, k5 c hc, Bool.and_eq_true] at hb
      exact hb.1
  refine ⟨⟨⟨n8, t1, ZB_a agx agr ⟨zg1, zc1, zl1⟩, ZS_c n8 (scn_f (fun kx i _ _ => f61 kx i)) (fun i _ => (t2 176 i (by omega) (by omega)).symm) zs1, ZV_a n8 agr (fun i _ => t2 176 i (by omega) (by omega)) zv1, ZW_a agx agr (plk_c (fun i _ _ => t2 176 i (by omega) (by omega)) zv1.2.1.2) zw1⟩, tn6, tm6, FQ2_t fq (FQ2_t fq1 ⟨⟨fun kx i _ => f61 kx i, fun i => l61 33 i (by omega) (by omega) (by omega), fun i => l61 34 i (by omega) (by omega) (by omega), fun i => by rw [q61], fun i => by rw [q61]⟩, fun kx i w => t2 kx i (by unfold CRr CR at w; omega) (by unfold CRr CR at w; omega), ⟨f61 0 15, fun i => f61 161 i⟩, t2 162 12 (by omega) (by omega), fun i => t2 168 i (by omega) (by omega)⟩)⟩, t4.trans ⟨fun h u hu hh => h u hu ((tm6 u hu).mp hh), fun h u hu hh => h u hu ((tm6 u hu).mpr hh)⟩, fun hno u hu hh => ?_⟩
  have := ((tb6 u hu).mp hh).1
  rcases (s5 u hu).mp this with h | ⟨v, h, g⟩
  · exact hno u hu ((TBq_2 a2 a3 hu).mp h)
  · exact hno v g.1 ((TBq_2 a2 a3 g.1).mp h)
/-- two loops, the second of which may end first -/
theorem it_s {S T X Y : Type} {f : S → Option (S ⊕ X)} {g : T → Option (T ⊕ Y)} {I : S → T → Prop} {K : S → Y → Prop} {Q : X → Y → Prop} (hs : ∀ s t a b, I s t → f s = some a → g t = some b → (∃ s' t', a = .inl s' ∧ b = .inl t' ∧ I s' t') ∨ (∃ x y, a = .inr x ∧ b = .inr y ∧ Q x y) ∨ (∃ s' y, a = .inl s' ∧ b = .inr y ∧ K s' y)) (hk : ∀ s y a, K s y → f s = some a → (∃ s', a = .inl s' ∧ K s' y) ∨ (∃ x, a = .inr x ∧ Q x y)) {n m : Nat} {s : S} {t : T} {x : X} {y : Y} (e : iter f n s = some x) (d : iter g m t = some y) (h : I s t) : Q x y := by
  have kk : ∀ (n : Nat) (s : S) (y : Y), iter f n s = some x → K s y → Q x y := by
    intro n
    induction n with
    | zero => intro s y e _; cases e
    | succ n ih =>
      intro s y e k
      simp only [iter] at e
      cases hf : f s with
      | none => rw [hf] at e; cases e
      | some a =>
        rw [hf] at e
        rcases hk s y a k hf with ⟨s', rfl, k'⟩ | ⟨x', rfl, q⟩
        · exact ih s' y e k'
        · obtain rfl := Option.some.inj e
          exact q
  induction n generalizing s t m with
  | zero => cases e
  | succ n ih =>
    cases m with
    | zero => cases d
    | succ m =>
      simp only [iter] at e d
      cases hf : f s with
      | none => rw [hf] at e; cases e
      | some a =>
        cases hg : g t with
        | none => rw [hg] at d; cases d
        | some b =>
          rw [hf] at e
          rw [hg] at d
          rcases hs s t a b h hf hg with ⟨s', t', rfl, rfl, k⟩ | ⟨x', y', rfl, rfl, k⟩ | ⟨s', y', rfl, rfl, k⟩
          · exact ih e d k
          · obtain rfl := Option.some.inj e
            obtain rfl := Option.some.inj d
            exact k
          · obtain rfl := Option.some.inj d
            exact kk n s' y' e k
theorem it_u {S X : Type} {f : S → Option (S ⊕ X)} {n : Nat} {s : S} {x : X} (e : iter f n s = some x) : ∃ m r, f s = some r ∧ (∀ s', r = .inl s' → iter f m s' = some x) ∧ (∀ y, r = .inr y → y = x) := by
  cases n with
  | zero => cases e
  | succ n =>
    simp only [iter] at e
    cases hf : f s with
    | none => rw [hf] at e; cases e
    | some a =>
      rw [hf] at e
      refine ⟨n, a, rfl, fun s' h => ?_, fun y h => ?_⟩
      · subst h; exact e
      · subst h; exact Option.some.inj e
/-- a thief's first place -/
theorem place1_r {N x : Mem} {f : Nat} {v1 v2 : Int32} (jN : J N) (h1 : v1.toInt = (f : Int)) (e : iter (lb_Mod_thiefIn_14 v1 v2) FU ((0 : Int32), N) = some x) : J x ∧ (∀ kx i, kx ≠ 186 → x.1 kx i = N.1 kx i) ∧ ∀ u, u < 72 → (mayb 186 x u ↔ u = f) := by
  have k72 : (72 : Int32).toInt = 72 := rfl
  refine it_r (I := fun s : Int32 × Mem => ∃ q : Nat, q ≤ 72 ∧ s.1.toInt = (q : Int) ∧ J s.2 ∧ (∀ kx i, kx ≠ 186 → s.2.1 kx i = N.1 kx i) ∧ ∀ u, u < q → (mayb 186 s.2 u ↔ u = f)) (Q := fun x : Mem => J x ∧ (∀ kx i, kx ≠ 186 → x.1 kx i = N.1 kx i) ∧ ∀ u, u < 72 → (mayb 186 x u ↔ u = f)) ?_ e ⟨0, by omega, rfl, jN, fun _ _ _ => rfl, fun u h => by omega⟩
  rintro ⟨i, S⟩ r ⟨q, q72, hq, jS, fS, hd⟩ e
  dsimp only at hq jS fS hd
  unfold lb_Mod_thiefIn_14 at e
  dsimp only at e
  rcases io e with ⟨g, e⟩ | ⟨g, e⟩
  · have := q_le g
    obtain rfl := Option.some.inj e
    exact ⟨jS, fS, fun u hu => hd u (by omega)⟩
  have g1 := q_ng g
  have i1 : (i + (1 : Int32)).toInt = ((q + 1 : Nat) : Int) := add_ti hq o1 (by omega) (by omega)
  rcases io e with ⟨g, e⟩ | ⟨g, e⟩
  · have gg := q_eq g
    obtain ⟨_, e⟩ := io_n e
    obtain ⟨M1, m1, e⟩ := mo e
    obtain rfl := Option.some.inj e
    rw [q_nat hq, vb_1] at m1
    refine ⟨q + 1, by omega, i1, by rw [m1]; exact Jw_186 jS q 1 (by decide) (by decide), fun kx j h => by rw [m1, si_ne (by omega)]; exact fS kx j h, fun u hu => ?_⟩
    show M1.1 186 u ≠ 0 ↔ _
    rw [m1]
    by_cases w : u = q
    · subst w
      rw [si_eq]
      exact ⟨fun _ => by omega, fun _ => by decide⟩
    · rw [si_ne (by omega)]; exact hd u (by omega)
  · have gg := q_ne g
    obtain ⟨_, e⟩ := io_n e
    obtain ⟨M1, m1, e⟩ := mo e
    obtain rfl := Option.some.inj e
    rw [q_nat hq, vb_0] at m1
    refine ⟨q + 1, by omega, i1, by rw [m1]; exact Jw_186 jS q 0 (by decide) (by decide), fun kx j h => by rw [m1, si_ne (by omega)]; exact fS kx j h, fun u hu => ?_⟩
    show M1.1 186 u ≠ 0 ↔ _
    rw [m1]
    by_cases w : u = q
    · subst w
      rw [si_eq]
      exact ⟨fun h => absurd rfl h, fun h => by omega⟩
    · rw [si_ne (by omega)]; exact hd u (by omega)
/-- both begin -/
theorem begin_h {X R X1 X2 R1 R2 : Mem} {n l c : Nat} {v1 v2 p w : Int32} (zq : ZQ X R n) (hl : v2.toInt = (l : Int)) (hc : v1.toInt = (c : Int)) (l2 : l < 2) (c36 : c < 36) (on : onN R l c) (hp : p.toInt = ((36 * l + c : Nat) : Int)) (e1 : f_Scene_copy 25 11 X = some X1) (e2 : f_Thief_start v2 v1 X1 = some X2) (f1 : f_Mod_lay 163 176 (0 : Int32) R = some R1) (f2 : iter (lb_Mod_thiefIn_14 p w) FU ((0 : Int32), R1) = some R2) : HR n X R X2 R2 := by
  obtain ⟨zt1, fq1⟩ := begin_t zq e1 f1
  obtain ⟨n8, j1, zb1, zs1, zv1, zw1⟩ := zt1
  obtain ⟨s1, s2, s3, s4, s5⟩ := start_c hl hc l2 c36 e2
  obtain ⟨p1, p2, p3⟩ := place1_r j1 hp f2
  have agx : AgX X1 X2 := ⟨by rw [s1], by rw [s1], fun q => by rw [s1], by rw [s1], by rw [s1], fun q => by rw [s1], fun q => by rw [s1], by rw [s1], fun q => by rw [s1], fun q => by rw [s1], fun q => s3 33 q (by omega), fun q => s3 34 q (by omega)⟩
  have agr : AgR R1 R2 := ⟨p2 162 2 (by omega), p2 162 3 (by omega), p2 162 4 (by omega), p2 162 5 (by omega), p2 162 23 (by omega), fun i => p2 164 i (by omega), fun i => p2 165 i (by omega), fun i => p2 166 i (by omega), fun i => p2 172 i (by omega)⟩
  have mE : MapEq R2 R := ⟨by rw [p2 162 2 (by omega)]; exact fq1.2.1 162 2 (by unfold CRr CR; omega), by rw [p2 162 3 (by omega)]; exact fq1.2.1 162 3 (by unfold CRr CR; omega), fun i => by rw [p2 164 i (by omega)]; exact fq1.2.1 164 i (by unfold CRr CR; omega)⟩
  refine ⟨⟨n8, p1, ZB_a agx agr zb1, ZS_c n8 (scn_f (fun kx i _ _ => by rw [s1])) (fun i _ => (p2 176 i (by omega)).symm) zs1, ZV_a n8 agr (fun i _ => p2 176 i (by omega)) zv1, ZW_a agx agr (plk_c (fun i _ _ => p2 176 i (by omega)) zv1.2.1.2) zw1⟩, ?_, fun u hu => (s5 u hu).trans (p3 u hu).symm, FQ2_t fq1 ⟨⟨fun kx i _ => by rw [s1], fun i => s3 33 i (by omega), fun i => s3 34 i (by omega), fun i => by rw [s2], fun i => by rw [s2]⟩, fun kx i h => p2 kx i (by unfold CRr CR at h; omega), ⟨by rw [s1], fun i => by rw [s1]⟩, p2 162 12 (by omega), fun i => p2 168 i (by omega)⟩⟩
  intro l' d l2' hb
  obtain ⟨rfl, rfl⟩ := (s4 l' d l2').mp hb
  exact ⟨c36, (onP_c mE).mpr ((onP_lc l2 c36).mpr on)⟩
/-- caught -/
theorem caught_q {X R : Mem} {n : Nat} {v1 v2 : Int32} {x r : Int32 × Mem} (za : ZA X R n) (ex : f_Top_caught v1 v2 X = some x) (er : f_Mod_caught v1 v2 R = some r) : x.1 = r.1 ∧ (RR X R → RR x.2 r.2) := by
  have k30 : (30 : Int32).toInt = 30 := rfl
  have km : (1000000 : Int32).toInt = 1000000 := rfl
  unfold f_Mod_caught at er
  obtain ⟨M1, m1, er⟩ := mo er
  obtain ⟨zaM, fqM⟩ := ZA_M1 za m1
  obtain ⟨n8, jM, ⟨zg, zc, zl⟩, zs, zv, zw⟩ := zaM.1
  unfold f_Top_caught at ex
  obtain ⟨x1, ex1, ex⟩ := bo ex
  obtain ⟨y2, ey2, er⟩ := bo er
  rcases plc_2 zg jM ex1 ey2 with ⟨a, b⟩ | ⟨a, b, l, c, l2, c36, hl, hc, onc⟩
  · rw [a, if_pos rfl] at ex
    rw [b, if_pos rfl] at er
    obtain rfl := Option.some.inj ex
    obtain rfl := Option.some.inj er
    exact ⟨rfl, FQ2_RR fqM⟩
  rw [a, if_neg (by decide)] at ex
  rw [b, if_neg (by decide)] at er
  obtain ⟨X2, e2, ex⟩ := bo ex
  obtain ⟨X3, e3, ex⟩ := bo ex
  obtain ⟨s, es, ex⟩ := bo ex
  obtain ⟨p3, f3, er⟩ := bo er
  obtain ⟨t4, f4, er⟩ := bo er
  unfold f_Mod_thiefIn at f4
  obtain ⟨R1, g1, f4⟩ := bo f4
  obtain ⟨R6, g6, f4⟩ := bo f4
  obtain ⟨t, gt, f4⟩ := bo f4
  have h0 := begin_h zaM.1 hl hc l2 c36 onc (place_c hl hc l2 c36 f3) e2 e3 g1 g6
  have K : (∃ A B, s = .inl A ∧ t = .inl B ∧ FQ2 X M1 A B) ∨ (∃ k A B, s = .inr (k, A) ∧ t = .inr (k, B) ∧ k.toInt ≤ 30 ∧ FQ2 X M1 A B) := by
    refine it_2 (I := fun (s t : Int32 × Mem) => s.1 = t.1 ∧ HR n X M1 s.2 t.2 ∧ ∃ k : Nat, s.1.toInt = (k : Int)) (Q := fun (s t : Mem ⊕ (Int32 × Mem)) => (∃ A B, s = .inl A ∧ t = .inl B ∧ FQ2 X M1 A B) ∨ (∃ k A B, s = .inr (k, A) ∧ t = .inr (k, B) ∧ k.toInt ≤ 30 ∧ FQ2 X M1 A B)) ?_ es gt ⟨rfl, h0, 1, rfl⟩
    rintro ⟨i, N⟩ ⟨i', T⟩ A B ⟨hi, hh, k, hk⟩ eA eB
    dsimp only at hi hh hk
    subst hi
    unfold lb_Top_caught_36 at eA
    unfold lb_Mod_thiefIn_44 at eB
    dsimp only at eA eB
    rcases io eA with ⟨g, eA⟩ | ⟨g, eA⟩
    · rw [if_pos g] at eB
      obtain rfl := Option.some.inj eA
      obtain rfl := Option.some.inj eB
      exact .inr ⟨_, _, rfl, rfl, .inl ⟨_, _, rfl, rfl, hh.2.2.2⟩⟩
    rw [if_neg g] at eB
    have gl := q_nl g
    obtain ⟨x4, e4, eA⟩ := bo eA
    obtain ⟨x5, e5, eA⟩ := bo eA
    obtain ⟨x7, e7, eB⟩ := bo eB
    obtain ⟨x8, e8, eB⟩ := bo eB
    obtain ⟨hh', z1, _⟩ := hunt_2 hh e4 e7 e8
    rcases gone_c hh'.2.1 e5 with ⟨hx, hno⟩ | ⟨hx, u, hu, hub⟩
    · rw [hx, if_neg (by decide)] at eA
      rw [if_pos (z1.mpr hno)] at eB
      obtain rfl := Option.some.inj eA
      obtain rfl := Option.some.inj eB
      exact .inr ⟨_, _, rfl, rfl, .inr ⟨_, _, _, rfl, rfl, by omega, hh'.2.2.2⟩⟩
    · rw [hx, if_pos rfl] at eA
      rw [if_neg (fun h => z1.mp h u hu hub)] at eB
      obtain rfl := Option.some.inj eA
      obtain rfl := Option.some.inj eB
      exact .inl ⟨_, _, rfl, rfl, rfl, hh', k + 1, add_ti hk o1 (by omega) (by omega)⟩
  rcases K with ⟨A, B, rfl, rfl, fq⟩ | ⟨k, A, B, rfl, rfl, hk, fq⟩
  · have ex := el_l ex
    have f4 := el_l f4
    obtain rfl := Option.some.inj ex
    obtain rfl := Option.some.inj f4
    rw [if_pos rfl] at er
    obtain rfl := Option.some.inj er
    exact ⟨rfl, fun h => FQ2_RR fq (FQ2_RR fqM h)⟩
  · have ex := el_r ex
    have f4 := el_r f4
    obtain rfl := Option.some.inj ex
    obtain rfl := Option.some.inj f4
    dsimp only at er
    rw [if_neg (fun h => by have := q_eq h; omega)] at er
    obtain rfl := Option.some.inj er
    exact ⟨rfl, fun h => FQ2_RR fq (FQ2_RR fqM h)⟩
end
section
/-! flees: the row told of both sets -/
def mayB (k : Nat) (N : Mem) (l c : Nat) : Bool := decide (N.1 k (36 * l + c) ≠ 0)
theorem lowM_r {k l : Nat} {v2 : Int32} {N x : Mem} (hk : k ≠ 178) (hl : v2.toInt = (l : Int)) (l2 : l < 2) (h0 : N.1 178 0 = 0 ∧ N.1 178 1 = 0) (e : iter (lb_Mod_putMay_23 k v2) FU ((0 : Int32), N) = some x) : LW (mayB k N l) 36 (x.1 178 0) (x.1 178 1) ∧ (∀ kx i, kx ≠ 178 → x.1 kx i = N.1 kx i) ∧ x.2 = N.2 := by
  have k36 : (36 : Int32).toInt = 36 := rfl
  refine it_r (I := fun s : Int32 × Mem => ∃ q : Nat, q ≤ 36 ∧ s.1.toInt = (q : Int) ∧ LW (mayB k N l) q (s.2.1 178 0) (s.2.1 178 1) ∧ (∀ kx i, kx ≠ 178 → s.2.1 kx i = N.1 kx i) ∧ s.2.2 = N.2) (Q := fun x : Mem => LW (mayB k N l) 36 (x.1 178 0) (x.1 178 1) ∧ (∀ kx i, kx ≠ 178 → x.1 kx i = N.1 kx i) ∧ x.2 = N.2) ?_ e ⟨0, by omega, rfl, by rw [h0.1, h0.2]; exact LW_0, fun _ _ _ => rfl, rfl⟩
  rintro ⟨i, T⟩ r ⟨q, q36, hq, h, hf, h2⟩ e
  dsimp only at hq h hf h2
  unfold lb_Mod_putMay_23 at e
  dsimp only at e
  rcases io e with ⟨g, e⟩ | ⟨g, e⟩
  · have := q_le g
    obtain rfl := Option.some.inj e
    have : q = 36 := by omega
    subst this
    exact ⟨h, hf, h2⟩
  have g1 := q_ng g
  have i1 : (i + (1 : Int32)).toInt = ((q + 1 : Nat) : Int) := add_ti hq o1 (by omega) (by omega)
  obtain ⟨x3, e3, e⟩ := bo e
  obtain ⟨_, e⟩ := io_n e
  have p3 := place_c hl hq l2 (by omega) e3
  rw [q_nat p3, hf k _ hk] at e
  rcases io e with ⟨g, e⟩ | ⟨g, e⟩
  · obtain rfl := Option.some.inj e
    exact ⟨q + 1, by omega, i1, LW_n h (decide_eq_false (fun hh => hh g)), hf, h2⟩
  have pq : mayB k N l q = true := decide_eq_true g
  obtain ⟨_, e⟩ := io_n e
  obtain ⟨_, e⟩ := io_n e
  obtain ⟨M4, m4, e⟩ := mo e
  obtain rfl := Option.some.inj e
  obtain ⟨ia, ib⟩ := lw_ix hq (show q < 36 by omega)
  refine ⟨q + 1, by omega, i1, ?_, fun kx j hk => by rw [m4, si_ne (by omega)]; exact hf kx j hk, by rw [m4, si_2]; exact h2⟩
  rcases Nat.lt_or_ge q 18 with c | c
  · obtain ⟨i0, iv⟩ := ia c
    rw [i0] at m4
    rw [m4, si_eq, si_ne (by omega)]
    exact LW_a h pq c iv
  · obtain ⟨i0, iv⟩ := ib c
    rw [i0] at m4
    rw [m4, si_eq, si_ne (by omega)]
    exact LW_b h pq c (by omega) iv
/-- one level of putMay: its two numbers are put -/
theorem putL_r {k l : Nat} {v : Int32} {N : Mem} {r : (Int32 × Mem) ⊕ Mem} (hk : k ≠ 178) (hl : v.toInt = (l : Int)) (l2 : l < 2) (e : lb_Mod_putMay_2 k (v, N) = some r) : ∃ T S R : Mem, LW (mayB k N l) 36 (T.1 178 0) (T.1 178 1) ∧ (∀ kx i, kx ≠ 178 → T.1 kx i = N.1 kx i) ∧ T.2 = N.2 ∧ f_Mod_put (T.1 178 0) T = some S ∧ f_Mod_put (S.1 178 1) S = some R ∧ r = .inl (v + (1 : Int32), R) := by
  have k2 : (2 : Int32).toInt = 2 := rfl
  unfold lb_Mod_putMay_2 at e
  dsimp only at e
  rw [if_neg (fun h => by have := q_le h; omega)] at e
  rw [show (0 : Int32).toNatClampNeg = 0 from rfl, show (1 : Int32).toNatClampNeg = 1 from rfl] at e
  obtain ⟨M1, m1, e⟩ := mo e
  obtain ⟨M2, m2, e⟩ := mo e
  obtain ⟨x7, e7, e⟩ := bo e
  obtain ⟨x8, e8, e⟩ := bo e
  obtain ⟨x9, e9, e⟩ := bo e
  obtain rfl := Option.some.inj e
  have f2 : ∀ kx i, kx ≠ 178 → M2.1 kx i = N.1 kx i := fun kx i h => by rw [m2, si_ne (by omega), m1, si_ne (by omega)]
  obtain ⟨a, b, c⟩ := lowM_r hk hl l2 ⟨by rw [m2, si_ne (by omega), m1, si_eq], by rw [m2, si_eq]⟩ e7
  have fb : mayB k M2 l = mayB k N l := by funext j; unfold mayB; rw [f2 k _ hk]
  rw [fb] at a
  exact ⟨x7, x8, x9, a, fun kx i h => by rw [b kx i h]; exact f2 kx i h, by rw [c, m2, si_2, m1, si_2], e8, e9, rfl⟩
/-- both sets told, the class's and the reference's -/
theorem told_2 {X7 x8 x9 R r : Mem} {k : Nat} {S : Mem} (hk : k ≠ 178 ∧ k ≠ 168 ∧ k ≠ 162) (hb : ∀ l c : Nat, l < 2 → (bl (S.2.1 151 (2 + l)) c = true ↔ (c < 36 ∧ mayB k R l c = true))) (e8 : f_Top_noteSet (S.2.1 151 2) X7 = some x8) (e9 : f_Top_noteSet (S.2.1 151 3) x8 = some x9) (r0 : RRn 0 X7 R) (er : f_Mod_putMay k R = some r) : RR x9 r := by
  unfold f_Mod_putMay at er
  obtain ⟨_, er⟩ := io_n er
  obtain ⟨x11, e11, er⟩ := bo er
  obtain rfl := Option.some.inj er
  obtain ⟨m, a, ea, hl, _⟩ := it_u e11
  obtain ⟨T0, S0, R0, w0, f0, _, p0, p0', rfl⟩ := putL_r (l := 0) hk.1 rfl (by omega) ea
  have e12 := hl _ rfl
  obtain ⟨m2, a2, ea2, hl2, _⟩ := it_u e12
  have o1' : ((0 : Int32) + (1 : Int32)).toInt = ((1 : Nat) : Int) := rfl
  obtain ⟨T1, S1, R1, w1, f1, _, p1, p1', rfl⟩ := putL_r (l := 1) hk.1 o1' (by omega) ea2
  have e13 := hl2 _ rfl
  obtain ⟨m3, a3, ea3, _, hr3⟩ := it_u e13
  unfold lb_Mod_putMay_2 at ea3
  dsimp only at ea3
  rw [if_pos (by decide)] at ea3
  have ea3 := Option.some.inj ea3
  have fin := hr3 _ ea3.symm
  subst fin
  have kk0 : ∀ i, R0.1 k i = R.1 k i := fun i => by rw [put_i p0' k i hk.2.1 (by omega), put_i p0 k i hk.2.1 (by omega), f0 k i hk.1]
  have mb : mayB k R0 1 = mayB k R 1 := by funext j; unfold mayB; rw [kk0]
  rw [mb] at w1
  obtain ⟨s1, _, _, s4⟩ := sets_2 (k := 0) (P := mayB k R 0) (fun c => hb 0 c (by omega)) e8 w0 p0 p0'
  have q0 := s1 ⟨r0.1, by rw [f0 162 12 (by omega)]; exact r0.2.1, fun i hi => by omega⟩ (by omega)
  obtain ⟨t1, _⟩ := sets_2 (k := 2) (P := mayB k R 1) (fun c => hb 1 c (by omega)) e9 w1 p1 p1'
  have q1 := t1 ⟨q0.1, by rw [f1 162 12 (by omega)]; exact q0.2.1, fun i hi => by rw [f1 168 i (by omega)]; exact q0.2.2 i hi⟩ (by omega)
  exact RRn_r (k := 4) (by omega) q1
theorem noteSet_2 {y : Int64} {X x : Mem} (e : f_Top_noteSet y X = some x) : x.2 = X.2 := by
  unfold f_Top_noteSet at e
  obtain ⟨x1, e1, e⟩ := bo e
  obtain ⟨x2, e2, e⟩ := bo e
  obtain rfl := Option.some.inj e
  rw [(note_i e2).2, (note_i e1).2]
theorem flees_q {X R : Mem} {n : Nat} {v1 v2 v3 : Int32} {x r : Int32 × Mem} (za : ZA X R n) (ex : f_Top_flees v1 v2 v3 X = some x) (er : f_Mod_flees v1 v2 v3 R = some r) : x.1 = r.1 ∧ (RR X R → RR x.2 r.2) := by
  have k30 : (30 : Int32).toInt = 30 := rfl
  have k1 := o1
  have km : (1000000 : Int32).toInt = 1000000 := rfl
  unfold f_Mod_flees at er
  obtain ⟨M1, m1, er⟩ := mo er
  obtain ⟨zaM, fqM⟩ := ZA_M1 za m1
  obtain ⟨n8, jM, ⟨zg, zc, zl⟩, zs, zv, zw⟩ := zaM.1
  unfold f_Top_flees at ex
  obtain ⟨x1, ex1, ex⟩ := bo ex
  obtain ⟨y2, ey2, er⟩ := bo er
  rcases plc_2 zg jM ex1 ey2 with ⟨a, b⟩ | ⟨a, b, l, c, l2, c36, hl, hc, onc⟩
  · rw [a, if_pos rfl] at ex
    rw [b, if_pos rfl] at er
    obtain rfl := Option.some.inj ex
    obtain rfl := Option.some.inj er
    exact ⟨rfl, FQ2_RR fqM⟩
  rw [a, if_neg (by decide)] at ex
  rw [b, if_neg (by decide)] at er
  obtain ⟨y3, ey3, er⟩ := bo er
  have hin := some_of (sp_in v3 1 30) ey3
  rw [o1, k30] at hin
  have out : y3 = 0 → some ((-1 : Int32), X) = some x → x.1 = r.1 ∧ (RR X R → RR x.2 r.2) := by
    intro a ex
    rw [a, if_pos rfl] at er
    obtain rfl := Option.some.inj ex
    obtain rfl := Option.some.inj er
    exact ⟨rfl, FQ2_RR fqM⟩
  rcases io ex with ⟨g, ex⟩ | ⟨g, ex⟩
  · have g := q_lt g
    rcases hin with ⟨a, b⟩ | ⟨a, b⟩
    · omega
    exact out a ex
  have g1 := q_nl g
  rcases io ex with ⟨g, ex⟩ | ⟨g, ex⟩
  rotate_left
  · have g := q_ng g
    rcases hin with ⟨a, b⟩ | ⟨a, b⟩
    · omega
    exact out a ex
  have g2 := q_le g
  rcases hin with ⟨a, _⟩ | ⟨_, b⟩
  rotate_left
  · exact absurd ⟨by omega, by omega⟩ b
  rw [a, if_neg (by decide)] at er
  obtain ⟨X2, e2, ex⟩ := bo ex
  obtain ⟨X3, e3, ex⟩ := bo ex
  obtain ⟨x6, e6, ex⟩ := bo ex
  obtain ⟨x7, e7, ex⟩ := bo ex
  obtain ⟨x8, e8, ex⟩ := bo ex
  obtain ⟨x9, e9, ex⟩ := bo ex
  obtain ⟨x10, e10, ex⟩ := bo ex
  obtain ⟨p3, f3, er⟩ := bo er
  obtain ⟨t4, f4, er⟩ := bo er
  unfold f_Mod_thiefIn at f4
  obtain ⟨R1, g1', f4⟩ := bo f4
  obtain ⟨R6, g6, f4⟩ := bo f4
  obtain ⟨t, gt, f4⟩ := bo f4
  have h0 := begin_h zaM.1 hl hc l2 c36 onc (place_c hl hc l2 c36 f3) e2 e3 g1' g6
  have K : ∃ T : Mem, ((t = .inl T ∧ ∃ u, u < 72 ∧ TBq x6 u) ∨ (∃ k, t = .inr (k, T) ∧ k.toInt ≤ 30 ∧ ∀ u, u < 72 → ¬ TBq x6 u)) ∧ (∃ A, TN A x6) ∧ ∀ u, u < 72 → (TBq x6 u ↔ mayb 186 T u) := by
    refine it_s (I := fun (s t : Int32 × Mem) => t.1 = s.1 + (1 : Int32) ∧ HR n X M1 s.2 t.2 ∧ (∃ k : Nat, s.1.toInt = (k : Int) ∧ k ≤ 30 ∧ (0 < k → ∃ u, u < 72 ∧ TBq s.2 u))) (K := fun (s : Int32 × Mem) (t : Mem ⊕ (Int32 × Mem)) => (∃ T, HR n X M1 s.2 T) ∧ (∃ k : Nat, s.1.toInt = (k : Int)) ∧ (∀ u, u < 72 → ¬ TBq s.2 u) ∧ ∃ k T, t = .inr (k, T) ∧ k.toInt ≤ 30 ∧ ∀ u, u < 72 → ¬ mayb 186 T u) (Q := fun (x6 : Mem) (t : Mem ⊕ (Int32 × Mem)) => ∃ T : Mem, ((t = .inl T ∧ ∃ u, u < 72 ∧ TBq x6 u) ∨ (∃ k, t = .inr (k, T) ∧ k.toInt ≤ 30 ∧ ∀ u, u < 72 → ¬ TBq x6 u)) ∧ (∃ A, TN A x6) ∧ ∀ u, u < 72 → (TBq x6 u ↔ mayb 186 T u)) ?_ ?_ e6 gt ⟨rfl, h0, 0, rfl, by omega, fun h => by omega⟩
    · rintro ⟨i, N⟩ ⟨i', T⟩ A B ⟨hi, hh, k, hk, kle, hne⟩ eA eB
      dsimp only at hi hh hk kle hne
      subst hi
      unfold lb_Top_flees_48 at eA
      unfold lb_Mod_thiefIn_44 at eB
      dsimp only at eA eB
      rcases io eA with ⟨g, eA⟩ | ⟨g, eA⟩
      · have gl := q_le g
        rcases io eB with ⟨g', eB⟩ | ⟨g', eB⟩
        · obtain rfl := Option.some.inj eA
          obtain rfl := Option.some.inj eB
          exact .inr (.inl ⟨_, _, rfl, rfl, T, .inl ⟨rfl, hne (by omega)⟩, ⟨_, hh.2.1⟩, hh.2.2.1⟩)
        · have gl' := q_nl g'
          have ad : (i + (1 : Int32)).toInt = ((k + 1 : Nat) : Int) := add_ti hk o1 (by omega) (by omega)
          omega
      have gl := q_ng g
      have ad : (i + (1 : Int32)).toInt = ((k + 1 : Nat) : Int) := add_ti hk o1 (by omega) (by omega)
      rw [if_neg (fun h => by have := q_lt h; omega)] at eB
      obtain ⟨x4, e4, eA⟩ := bo eA
      obtain rfl := Option.some.inj eA
      obtain ⟨r7, e7', eB⟩ := bo eB
      obtain ⟨r8, e8', eB⟩ := bo eB
      obtain ⟨hh', z1, _⟩ := hunt_2 hh e4 e7' e8'
      rcases io eB with ⟨g', eB⟩ | ⟨g', eB⟩
      · obtain rfl := Option.some.inj eB
        have no := z1.mp g'
        exact .inr (.inr ⟨_, _, rfl, rfl, ⟨_, hh'⟩, ⟨k + 1, ad⟩, no, _, _, rfl, by omega, fun u hu h => no u hu ((hh'.2.2.1 u hu).mpr h)⟩)
      · obtain rfl := Option.some.inj eB
        refine .inl ⟨_, _, rfl, rfl, rfl, hh', k + 1, ad, by omega, fun _ => ?_⟩
        exact Classical.byContradiction (fun h => g' (z1.mpr (fun u hu hb => h ⟨u, hu, hb⟩)))
    · rintro ⟨i, N⟩ y A ⟨⟨T, hh⟩, ⟨k, hk⟩, no, k', T', rfl, hk', no'⟩ eA
      dsimp only at hh hk no
      unfold lb_Top_flees_48 at eA
      dsimp only at eA
      rcases io eA with ⟨g, eA⟩ | ⟨g, eA⟩
      · obtain rfl := Option.some.inj eA
        exact .inr ⟨_, rfl, T', .inr ⟨k', rfl, hk', no⟩, ⟨_, hh.2.1⟩, fun u hu => ⟨fun h => absurd h (no u hu), fun h => absurd h (no' u hu)⟩⟩
      have gl := q_ng g
      have ad : (i + (1 : Int32)).toInt = ((k + 1 : Nat) : Int) := add_ti hk o1 (by omega) (by omega)
      obtain ⟨x4, e4, eA⟩ := bo eA
      obtain rfl := Option.some.inj eA
      obtain ⟨r1, er1, j1, _⟩ := sf_Mod_goMinute 176 T (.inr (.inr rfl)) hh.1.2.1
      obtain ⟨r2, er2, _⟩ := sf_Mod_goThief r1 j1
      obtain ⟨hh', _, z2⟩ := hunt_2 hh e4 er1 er2
      exact .inl ⟨_, rfl, ⟨_, hh'⟩, ⟨k + 1, ad⟩, z2 no, k', T', rfl, hk', no'⟩
  obtain ⟨T, K1, ⟨A, tn⟩, tm⟩ := K
  -- what is told
  have em := empty_i e7
  have s7 : x7.2 = x6.2 := em.2
  have s8 : x8.2 = x7.2 := noteSet_2 e8
  have s9 : x9.2 = x8.2 := noteSet_2 e9
  rw [s8, s7] at e9
  rw [s7] at e8
  have tb : ∀ l c : Nat, l < 2 → (bl (x6.2.1 151 (2 + l)) c = true ↔ (c < 36 ∧ mayB 186 T l c = true)) := by
    intro l c l2
    constructor
    · intro h
      have c36 := (tn l c l2 h).1
      refine ⟨c36, decide_eq_true ?_⟩
      exact (tm _ (by omega)).mp ((TBq_lc l2 c36).mpr h)
    · rintro ⟨c36, h⟩
      have h' : T.1 186 (36 * l + c) ≠ 0 := of_decide_eq_true h
      exact (TBq_lc l2 c36).mp ((tm _ (by omega)).mpr h')
  have tn9 : TN A x9 := TN_2 (by rw [s9, s8, s7]) (by rw [s9, s8, s7]) tn
  have t9 : ∀ u, u < 72 → (TBq x9 u ↔ TBq x6 u) := fun u hu => TBq_2 (by rw [s9, s8, s7]) (by rw [s9, s8, s7]) hu
  have gn := gone_c tn9 e10
  have row : ∀ {w : Int32} {r : Int32 × Mem}, j_Mod_flees_47 w T = some r → r.1 = (if w = 0 then 0 else 1) ∧ RR x9 r.2 := by
    intro w r er
    unfold j_Mod_flees_47 at er
    obtain ⟨M6, m6, er⟩ := mo er
    obtain ⟨x7', e7', er⟩ := bo er
    have mb : ∀ l, mayB 186 M6 l = mayB 186 T l := fun l => by funext j; unfold mayB; rw [m6, si_ne (by omega)]
    have rr := told_2 (k := 186) (R := M6) ⟨by omega, by omega, by omega⟩ (fun l c l2 => by rw [mb]; exact tb l c l2) e8 e9 (RR_0 e7 m6) e7'
    rcases io er with ⟨g, er⟩ | ⟨g, er⟩
    · obtain rfl := Option.some.inj er
      exact ⟨by rw [if_pos g], rr⟩
    · obtain rfl := Option.some.inj er
      exact ⟨by rw [if_neg g], rr⟩
  rcases K1 with ⟨rfl, u, hu, hub⟩ | ⟨k, rfl, hk, no⟩
  · have f4 := el_l f4
    obtain rfl := Option.some.inj f4
    rw [if_pos rfl] at er
    obtain ⟨r1, r2⟩ := row er
    rcases gn with ⟨_, h⟩ | ⟨h, _⟩
    · exact absurd ((t9 u hu).mpr hub) (h u hu)
    rw [h, if_pos rfl] at ex
    obtain rfl := Option.some.inj ex
    exact ⟨r1.symm, fun _ => r2⟩
  · have f4 := el_r f4
    obtain rfl := Option.some.inj f4
    dsimp only at er
    rw [if_neg (fun h => by have := q_eq h; omega)] at er
    obtain ⟨r1, r2⟩ := row er
    rcases gn with ⟨h, _⟩ | ⟨_, u, hu, h⟩
    · rw [h, if_neg (by decide)] at ex
      obtain rfl := Option.some.inj ex
      exact ⟨r1.symm, fun _ => r2⟩
    · exact absurd ((t9 u hu).mp h) (no u hu)
end
section
/-! lairs: forward from each place, backward from all -/
def Fw (E : Nat → Nat → Prop) (O : Nat → Nat → Prop) (f : Nat) : Nat → Nat → Prop
  | 0, u => u = f
  | i + 1, u => (Fw E O f i u ∨ ∃ v, Fw E O f i v ∧ E v u) ∧ ¬ O i u
def Bk (E : Nat → Nat → Prop) (O : Nat → Nat → Prop) (A : Nat → Prop) (N : Nat) : Nat → Nat → Prop
  | 0, u => A u
  | j + 1, u => (Bk E O A N j u ∧ ¬ O (N - 1 - j) u) ∨ ∃ v, (Bk E O A N j v ∧ ¬ O (N - 1 - j) v) ∧ E v u
theorem Fw_A {E : Nat → Nat → Prop} {O : Nat → Nat → Prop} {A : Nat → Prop} {f : Nat} (hf : A f) (hE : ∀ v u, E v u → A u) : ∀ i u, Fw E O f i u → A u := by
  intro i
  induction i with
  | zero => rintro u rfl; exact hf
  | succ i ih =>
    rintro u ⟨h | ⟨v, h, e⟩, _⟩
    · exact ih u h
    · exact hE v u e
theorem fb_j {E : Nat → Nat → Prop} {O : Nat → Nat → Prop} {A : Nat → Prop} {f N : Nat} (hf : A f) (hE : ∀ v u, E v u → A u) (sym : ∀ v u, E v u → E u v) : ∀ j, j ≤ N → ((∃ u, Fw E O f N u) ↔ ∃ u, Fw E O f (N - j) u ∧ Bk E O A N j u) := by
  intro j
  induction j with
  | zero =>
    intro _
    constructor
    · rintro ⟨u, h⟩; exact ⟨u, h, Fw_A hf hE N u h⟩
    · rintro ⟨u, h, _⟩; exact ⟨u, h⟩
  | succ j ih =>
    intro hj
    rw [ih (by omega)]
    have e1 : N - j = (N - 1 - j) + 1 := by omega
    have e2 : N - (j + 1) = N - 1 - j := by omega
    rw [e1, e2]
    constructor
    · rintro ⟨u, ⟨h | ⟨v, h, e⟩, o⟩, b⟩
      · exact ⟨u, h, .inl ⟨b, o⟩⟩
      · exact ⟨v, h, .inr ⟨u, ⟨b, o⟩, sym v u e⟩⟩
    · rintro ⟨v, h, ⟨b, o⟩ | ⟨u, ⟨b, o⟩, e⟩⟩
      · exact ⟨v, ⟨.inl h, o⟩, b⟩
      · exact ⟨u, ⟨.inr ⟨v, h, sym u v e⟩, o⟩, b⟩
theorem fb_i {E : Nat → Nat → Prop} {O : Nat → Nat → Prop} {A : Nat → Prop} {f N : Nat} (hf : A f) (hE : ∀ v u, E v u → A u) (sym : ∀ v u, E v u → E u v) : (∃ u, Fw E O f N u) ↔ Bk E O A N N f := by
  rw [fb_j hf hE sym N (Nat.le_refl N), Nat.sub_self]
  constructor
  · rintro ⟨u, rfl, b⟩; exact b
  · intro b; exact ⟨f, rfl, b⟩
theorem Bk_A {E : Nat → Nat → Prop} {O : Nat → Nat → Prop} {A : Nat → Prop} {N : Nat} (hE : ∀ v u, E v u → A u) : ∀ j u, Bk E O A N j u → A u := by
  intro j
  induction j with
  | zero => intro u h; exact h
  | succ j ih =>
    rintro u (⟨h, _⟩ | ⟨v, _, e⟩)
    · exact ih u h
    · exact hE v u e
theorem EA_sym {R : Mem} {a v u : Nat} (jR : J R) (kp : KP R a 0) (h : EA R a v u) : EA R a u v := by
  obtain ⟨v72, u72, onv, onu, ⟨s, s0, s3, g⟩ | ⟨h3, hu⟩⟩ := h
  · obtain ⟨_, g'⟩ := go_sym jR kp onv ⟨s0, s3⟩ g (by omega)
    have o : 0 ≤ opp s ∧ opp s ≤ 3 := by
      have : s = 0 ∨ s = 1 ∨ s = 2 ∨ s = 3 := by omega
      rcases this with rfl | rfl | rfl | rfl <;> decide
    exact ⟨u72, v72, onu, onv, .inl ⟨opp s, o.1, o.2, g'⟩⟩
  · refine ⟨u72, v72, onu, onv, .inr ⟨?_, by omega⟩⟩
    rw [show u % 36 = v % 36 by omega]; exact h3
def NE (X R : Mem) (v u : Nat) : Prop := v < 72 ∧ u < 72 ∧ onP R (v : Int) ∧ onP R (u : Int) ∧ ((v / 36 = u / 36 ∧ bl (X.2.1 34 (v / 36 * 36 + v % 36)) (u % 36) = true) ∨ ((R.1 164 (v % 36)).toInt = 3 ∧ u = 36 * (1 - v / 36) + v % 36))
theorem EA_near {X R : Mem} {a n v u : Nat} (jR : J R) (zv : ZV R (R.1 a) n) (zw : ZW X R a) : EA R a v u ↔ NE X R v u := by
  have ev : v = 36 * (v / 36) + v % 36 := by omega
  have eu : u = 36 * (u / 36) + u % 36 := by omega
  constructor
  · rintro ⟨v72, u72, onv, onu, ⟨s, s0, s3, g⟩ | h⟩
    · obtain ⟨d, d36, hd⟩ := go_lev jR (by omega) ⟨s0, s3⟩ g (by omega)
      have e1 : v / 36 = u / 36 := by omega
      refine ⟨v72, u72, onv, onu, .inl ⟨e1, ?_⟩⟩
      have on := onv
      rw [ev] at on
      refine (near_go (v0 := 32) jR zv zw.2 (by omega) (by omega)).mpr ⟨(onP_lc (by omega) (by omega)).mp on, by omega, s, s0, s3, ?_⟩
      rw [← ev, show 36 * (v / 36) + u % 36 = u by omega]
      exact g
    · exact ⟨v72, u72, onv, onu, .inr h⟩
  · rintro ⟨v72, u72, onv, onu, ⟨e1, hb⟩ | h⟩
    · obtain ⟨_, _, s, s0, s3, g⟩ := (near_go (v0 := 32) jR zv zw.2 (by omega) (by omega)).mp hb
      rw [← ev, show 36 * (v / 36) + u % 36 = u by omega] at g
      exact ⟨v72, u72, onv, onu, .inl ⟨s, s0, s3, g⟩⟩
    · exact ⟨v72, u72, onv, onu, .inr h⟩
theorem NE_m {X Y R S : Mem} (m : MapEq S R) (h : ∀ i, Y.2.1 34 i = X.2.1 34 i) {v u : Nat} : NE Y S v u ↔ NE X R v u := by
  unfold NE
  rw [onP_c m, onP_c m, h, m.2.2]
/-- who is where, in the class's spare scene -/
def OX (N : Mem) (n u : Nat) : Prop := ∃ p, p < n ∧ (N.1 27 p).toInt = ((u / 36 : Nat) : Int) ∧ (N.1 26 p).toInt = ((u % 36 : Nat) : Int)
theorem OX_R {X R : Mem} {n u : Nat} (zs : ZS (scn X 25) (R.1 176) n) (hu : u < 72) : OX X n u ↔ occR R 176 n u := by
  unfold OX occR
  constructor
  · rintro ⟨p, pn, hl, hc⟩
    obtain ⟨q1, _⟩ := zs.1 p pn
    have e0 : scn X 25 0 p = X.1 26 p := rfl
    have e1' : scn X 25 1 p = X.1 27 p := rfl
    rw [e0, e1'] at q1
    exact ⟨p, pn, by omega⟩
  · rintro ⟨p, pn, hp⟩
    obtain ⟨q1, q2, q3, q4, q5, _⟩ := zs.1 p pn
    have e0 : scn X 25 0 p = X.1 26 p := rfl
    have e1' : scn X 25 1 p = X.1 27 p := rfl
    rw [e0, e1'] at q1
    rw [e0] at q2 q3
    rw [e1'] at q4 q5
    exact ⟨p, pn, by omega, by omega⟩
/-- the class's minutes, gone through once, each with who was where -/
def TR (X R : Mem) (n i : Nat) (sq : Nat → Mem) (S : Mem) : Prop := sq 0 = X ∧ (∀ j, j ≤ i → ∃ T, ZT (sq j) T n ∧ FQ2 X R (sq j) T) ∧ (∀ j, j < i → ∃ y, f_Clock_pass 25 32 (sq j) = some y ∧ (sq (j + 1)).1 = y.1 ∧ (sq (j + 1)).2.2 = y.2.2 ∧ ∀ k q, k ≠ 152 → k ≠ 153 → (sq (j + 1)).2.1 k q = y.2.1 k q) ∧ S = sq i ∧ ∀ j, j < i → ∀ l c : Nat, l < 2 → c < 36 → (bl (S.2.1 (152 + l) j) c = true ↔ OX (sq (j + 1)) n (36 * l + c))
theorem trace_c {X R x : Mem} {n N : Nat} {v1 : Int32} (zt : ZT X R n) (hN : v1.toInt = (N : Int)) (N30 : N ≤ 30) (e : iter (lb_Top_lairs_26 v1) FU ((0 : Int32), X) = some x) : ∃ sq, TR X R n N sq x := by
  refine it_r (I := fun s : Int32 × Mem => ∃ i : Nat, i ≤ N ∧ s.1.toInt = (i : Int) ∧ ∃ sq, TR X R n i sq s.2) (Q := fun x : Mem => ∃ sq, TR X R n N sq x) ?_ e ⟨0, by omega, rfl, fun _ => X, rfl, fun j hj => ⟨R, zt, FQ2_r⟩, fun j hj => by omega, rfl, fun j hj => by omega⟩
  rintro ⟨i, S⟩ r ⟨k, kN, hk, sq, t1, t2, t3, t4, t5⟩ e
  dsimp only at hk t4 t5
  unfold lb_Top_lairs_26 at e
  dsimp only at e
  rcases io e with ⟨g, e⟩ | ⟨g, e⟩
  · have gl := q_le g
    obtain rfl := Option.some.inj e
    have : k = N := by omega
    subst this
    exact ⟨sq, t1, t2, t3, t4, t5⟩
  have gl := q_ng g
  have i1 : (i + (1 : Int32)).toInt = ((k + 1 : Nat) : Int) := add_ti hk o1 (by omega) (by omega)
  obtain ⟨x2, e2, e⟩ := bo e
  obtain ⟨x3, e3, e⟩ := bo e
  obtain ⟨x4, e4, e⟩ := bo e
  obtain ⟨x5, e5, e⟩ := bo e
  obtain rfl := Option.some.inj e
  obtain ⟨T, ztk, fqk⟩ := t2 k (Nat.le_refl k)
  rw [t4] at e2
  obtain ⟨r1, er1, _⟩ := sf_Mod_goMinute 176 T (.inr (.inr rfl)) ztk.2.1
  obtain ⟨zt2, pp, fq2⟩ := pass_t ztk e2 er1
  have fx : Fx mP25 [] (sq k) x2 := wf_Clock_pass 25 32 (sq k) (by decide +kernel) (oc_c (sb_r _) (by decide +kernel)) (oc_c (sb_r _) (by decide +kernel)) (oc_c (sb_r _) (by decide +kernel)) (oc_c (sb_r _) (by decide +kernel)) Fx_r e2
  have f152 : ∀ q, x2.2.1 152 q = (sq k).2.1 152 q := fun q => (fx 152 q (by rw [show sl 152 q = 152 from rfl]; decide +kernel) (by simp)).2.1
  have f153 : ∀ q, x2.2.1 153 q = (sq k).2.1 153 q := fun q => (fx 153 q (by rw [show sl 153 q = 153 from rfl]; decide +kernel) (by simp)).2.1
  obtain ⟨n8, j2, ⟨zg2, zc2, zl2⟩, zs2, zv2, zw2⟩ := zt2
  have at26 : ∀ p, p < n → 0 ≤ (x2.1 26 p).toInt ∧ (x2.1 26 p).toInt ≤ 35 := fun p pn => by
    have w := (whr_t ⟨n8, j2, ⟨zg2, zc2, zl2⟩, zs2, zv2, zw2⟩ pn).2
    exact ⟨w.1, w.2.1⟩
  have hn : (x2.1 6 4).toInt = (n : Int) := by rw [zc2.2.1]; exact zc2.1
  have o3 := occ_c (k := 25) (l := 0) hn n8 rfl at26 e3
  have o4 := occ_c (k := 25) (l := 1) hn n8 rfl at26 e4
  unfold f_Thief_record at e5
  have z0 := o0
  have k30 : (30 : Int32).toInt = 30 := rfl
  rw [if_neg (fun h => by have := q_lt h; omega), if_neg (fun h => by have := q_le h; omega), q_nat hk] at e5
  obtain ⟨_, e5⟩ := io_n e5
  obtain ⟨M1, m1, e5⟩ := mo e5
  obtain ⟨_, e5⟩ := io_n e5
  obtain ⟨M2, m2, e5⟩ := mo e5
  obtain rfl := Option.some.inj e5
  have g1 : M2.1 = x2.1 := by rw [m2, sl_1, m1, sl_1]
  have g2 : M2.2.2 = x2.2.2 := by
    rw [m2]; show M1.2.2 = _
    rw [m1]; rfl
  have g3 : ∀ kk q, ¬ (kk = 152 ∧ q = k) → ¬ (kk = 153 ∧ q = k) → M2.2.1 kk q = x2.2.1 kk q := fun kk q h1 h2 => by rw [m2, sl_ne h2, m1, sl_ne h1]
  have k152 : M2.2.1 152 k = x3 := by rw [m2, sl_ne (by omega), m1, sl_eq]
  have k153 : M2.2.1 153 k = x4 := by rw [m2, sl_eq]
  have sqo : ∀ j, j ≤ k → (fun j => if j ≤ k then sq j else M2) j = sq j := fun j hj => if_pos hj
  have sqn : (fun j => if j ≤ k then sq j else M2) (k + 1) = M2 := if_neg (by omega)
  have ztM : ZT M2 r1 n := by
    have agx : AgX x2 M2 := ⟨by rw [g1], by rw [g1], fun q => by rw [g1], by rw [g1], by rw [g1], fun q => by rw [g1], fun q => by rw [g1], by rw [g1], fun q => by rw [g1], fun q => by rw [g1], fun q => g3 33 q (by omega) (by omega), fun q => g3 34 q (by omega) (by omega)⟩
    exact ⟨n8, j2, ZB_a agx AgR_r ⟨zg2, zc2, zl2⟩, ZS_c n8 (scn_f (fun kx i _ _ => by rw [g1])) (fun _ _ => rfl) zs2, zv2, ZW_a agx AgR_r (fun _ _ => Iff.rfl) zw2⟩
  refine ⟨k + 1, by omega, i1, fun j => if j ≤ k then sq j else M2, ?_, fun j hj => ?_, fun j hj => ?_, ?_, fun j hj l c l2 c36 => ?_⟩
  · rw [sqo 0 (by omega)]; exact t1
  · by_cases h : j ≤ k
    · rw [sqo j h]; exact t2 j h
    · have : j = k + 1 := by omega
      subst this
      rw [sqn]
      exact ⟨r1, ztM, FQ2_t fqk (FQ2_t fq2 ⟨⟨fun kx i _ => by rw [g1], fun i => g3 33 i (by omega) (by omega), fun i => g3 34 i (by omega) (by omega), fun i => by rw [g2], fun i => by rw [g2]⟩, fun _ _ _ => rfl, ⟨by rw [g1], fun i => by rw [g1]⟩, rfl, fun _ => rfl⟩)⟩
  · by_cases h : j < k
    · rw [sqo j (by omega), sqo (j + 1) (by omega)]; exact t3 j h
    · have : j = k := by omega
      subst this
      rw [sqo j (by omega), sqn]
      exact ⟨x2, e2, g1, g2, fun kk q a b => g3 kk q (by omega) (by omega)⟩
  · rw [sqn]
  · by_cases h : j < k
    · rw [sqo (j + 1) (by omega), ← t5 j h l c l2 c36, t4]
      have : l = 0 ∨ l = 1 := by omega
      rcases this with rfl | rfl
      · rw [show 152 + 0 = 152 from rfl, g3 152 j (by omega) (by omega), f152]
      · rw [show 152 + 1 = 153 from rfl, g3 153 j (by omega) (by omega), f153]
    · have : j = k := by omega
      subst this
      rw [sqn]
      have u1 : (36 * l + c) / 36 = l := by omega
      have u2 : (36 * l + c) % 36 = c := by omega
      unfold OX
      rw [u1, u2, g1]
      have : l = 0 ∨ l = 1 := by omega
      rcases this with rfl | rfl
      · rw [show 152 + 0 = 152 from rfl, k152]; exact o3 c
      · rw [show 152 + 1 = 153 from rfl, k153]; exact o4 c
end
