section
/-! weighted walks: two scales, one meaning -/
def wk (E : Nat → Nat → Nat → Nat → Prop) (f : Nat) : Nat → Nat → Nat → Nat → Prop
  | 0, u, s, a => u = f ∧ s = 0 ∧ a = 0
  | n + 1, u, s, a => ∃ v s' a' ds da, wk E f n v s' a' ∧ E v u ds da ∧ s = s' + ds ∧ a = a' + da
def cw (W : Int) (s a : Nat) : Int := W * (s : Int) + (a : Int)
theorem cw_add (W : Int) (s a ds da : Nat) : cw W (s + ds) (a + da) = cw W s a + cw W ds da := by
  unfold cw
  rw [Int.natCast_add, Int.natCast_add, Int.mul_add]
  omega
theorem cw_0 (W : Int) : cw W 0 0 = 0 := by
  unfold cw
  rw [show ((0 : Nat) : Int) = 0 from rfl, Int.mul_zero]; rfl
theorem cw_1 (W : Int) (a : Nat) : cw W 1 a = W + a := by
  unfold cw
  rw [show ((1 : Nat) : Int) = 1 from rfl, Int.mul_one]
theorem cw_z (W : Int) (a : Nat) : cw W 0 a = a := by
  unfold cw
  rw [show ((0 : Nat) : Int) = 0 from rfl, Int.mul_zero, Int.zero_add]
def Eok (E : Nat → Nat → Nat → Nat → Prop) : Prop := ∀ v u ds da, E v u ds da → v < 72 ∧ u < 72 ∧ ds ≤ 1 ∧ da ≤ 1
def RZw (W : Int) (E : Nat → Nat → Nat → Nat → Prop) (f : Nat) (P : Nat → Int) : Prop := ∀ u, u < 72 → P u < 1000000 → ∃ n s a, wk E f n u s a ∧ P u = cw W s a
def CLO (W : Int) (E : Nat → Nat → Nat → Nat → Prop) (P : Nat → Int) : Prop := ∀ v u ds da, E v u ds da → P u ≤ P v + cw W ds da
theorem wk_lt {E : Nat → Nat → Nat → Nat → Prop} {f : Nat} (hE : Eok E) (hf : f < 72) : ∀ n u s a, wk E f n u s a → u < 72 := by
  intro n u s a h
  cases n with
  | zero => obtain ⟨rfl, _⟩ := h; exact hf
  | succ n => obtain ⟨v, s', a', ds, da, _, e, _⟩ := h; exact (hE _ _ _ _ e).2.1
theorem wk_le {E : Nat → Nat → Nat → Nat → Prop} {f : Nat} {W : Int} {P : Nat → Int} (hf : P f ≤ 0) (hc : CLO W E P) : ∀ n u s a, wk E f n u s a → P u ≤ cw W s a := by
  intro n
  induction n with
  | zero =>
    rintro u s a ⟨rfl, rfl, rfl⟩
    rw [cw_0]; exact hf
  | succ n ih =>
    rintro u s a ⟨v, s', a', ds, da, h, e, rfl, rfl⟩
    have := ih v s' a' h
    have := hc v u ds da e
    rw [cw_add]; omega
def Cnw (P : Nat → Int) (t : Int) : Nat := (List.range 72).countP (fun v => decide (P v < t))
theorem Cnw_le (P : Nat → Int) (t : Int) : Cnw P t ≤ 72 := cnt_le _ _
theorem wk_c {E : Nat → Nat → Nat → Nat → Prop} {f : Nat} {W : Int} {P : Nat → Int} (hE : Eok E) (hW : 1 ≤ W) (hf : P f ≤ 0) (hc : CLO W E P) : ∀ n u s a, wk E f n u s a → P u = cw W s a → s ≤ Cnw P (P u) ∧ a ≤ Cnw P (P u) := by
  intro n
  induction n with
  | zero =>
    rintro u s a ⟨rfl, rfl, rfl⟩ _
    exact ⟨Nat.zero_le _, Nat.zero_le _⟩
  | succ n ih =>
    rintro u s a ⟨v, s', a', ds, da, h, e, rfl, rfl⟩ hu
    have l := wk_le hf hc n v s' a' h
    have c := hc v u ds da e
    rw [cw_add] at hu
    have hv : P v = cw W s' a' := by omega
    obtain ⟨i1, i2⟩ := ih v s' a' h hv
    obtain ⟨v72, _, hs, ha⟩ := hE v u ds da e
    by_cases z : ds = 0 ∧ da = 0
    · obtain ⟨rfl, rfl⟩ := z
      rw [cw_0] at hu
      have : P u = P v := by omega
      rw [this]; exact ⟨i1, i2⟩
    · have pos : 1 ≤ cw W ds da := by
        have : ds = 0 ∨ ds = 1 := by omega
        rcases this with rfl | rfl
        · rw [cw_z]; omega
        · rw [cw_1]; omega
      have lt : P v < P u := by omega
      have k := cnt_lt (P := fun i => decide (P i < P v)) (Q := fun i => decide (P i < P u)) (n := 72) (c := v) v72 (fun i _ h => decide_eq_true (by have := of_decide_eq_true h; omega)) (decide_eq_false (by omega)) (decide_eq_true lt)
      unfold Cnw at i1 i2 ⊢
      omega
/-- what is realized and closed: its two parts -/
theorem rz_2 {E : Nat → Nat → Nat → Nat → Prop} {f : Nat} {W : Int} {P : Nat → Int} (hE : Eok E) (hW : 1 ≤ W) (hf : P f ≤ 0) (hc : CLO W E P) (hr : RZw W E f P) {u : Nat} (hu : u < 72) (hp : P u < 1000000) : ∃ n s a, wk E f n u s a ∧ P u = cw W s a ∧ s ≤ 72 ∧ a ≤ 72 := by
  obtain ⟨n, s, a, h, e⟩ := hr u hu hp
  obtain ⟨i1, i2⟩ := wk_c hE hW hf hc n u s a h e
  have := Cnw_le P (P u)
  exact ⟨n, s, a, h, e, by omega, by omega⟩
/-- the same in hundreds -/
def Oh (Q : Nat → Int) (u : Nat) : Int := if Q u < 1000000 then 100 * (Q u / 1000) + Q u % 1000 else 1000000
theorem Oh_i {Q : Nat → Int} {u s a : Nat} (hs : s ≤ 72) (ha : a ≤ 72) (h : Q u = cw 1000 s a) : Q u < 1000000 ∧ Oh Q u = cw 100 s a := by
  unfold cw at h ⊢
  unfold Oh
  rw [if_pos (by omega)]
  exact ⟨by omega, by omega⟩
theorem Oh_clo {E : Nat → Nat → Nat → Nat → Prop} {f : Nat} {Q : Nat → Int} (hE : Eok E) (hf : Q f ≤ 0) (hc : CLO 1000 E Q) (hr : RZw 1000 E f Q) (hb : ∀ u, Q u ≤ 1000000) : CLO 100 E (Oh Q) ∧ RZw 100 E f (Oh Q) ∧ (∀ u, Oh Q u ≤ 1000000) := by
  have up : ∀ u, u < 72 → Oh Q u ≤ 1000000 := by
    intro u hu
    by_cases g : Q u < 1000000
    · obtain ⟨n, s, a, h, e, hs, ha⟩ := rz_2 hE (by omega) hf hc hr hu g
      rw [(Oh_i hs ha e).2]
      unfold cw; omega
    · unfold Oh; rw [if_neg g]; omega
  refine ⟨?_, ?_, ?_⟩
  · intro v u ds da e
    obtain ⟨v72, u72, h1, h2⟩ := hE v u ds da e
    have pos : 0 ≤ cw 100 ds da := by unfold cw; omega
    by_cases g : Q v < 1000000
    · obtain ⟨n, s, a, h, e1, hs, ha⟩ := rz_2 hE (by omega) hf hc hr v72 g
      have c := hc v u ds da e
      rw [e1] at c
      have g2 : Q u < 1000000 := by unfold cw at c; omega
      obtain ⟨n', s', a', h', e2, hs', ha'⟩ := rz_2 hE (by omega) hf hc hr u72 g2
      rw [e2] at c
      rw [(Oh_i hs ha e1).2, (Oh_i hs' ha' e2).2]
      unfold cw at c ⊢
      omega
    · have : Oh Q v = 1000000 := by unfold Oh; rw [if_neg g]
      have := up u u72
      omega
  · intro u hu h
    by_cases g : Q u < 1000000
    · obtain ⟨n, s, a, h, e, hs, ha⟩ := rz_2 hE (by omega) hf hc hr hu g
      exact ⟨n, s, a, h, (Oh_i hs ha e).2⟩
    · unfold Oh at h; rw [if_neg g] at h; omega
  · intro u
    by_cases g : Q u < 1000000
    · unfold Oh; rw [if_pos g]; omega
    · unfold Oh; rw [if_neg g]; omega
/-- settled: how many have their last price -/
def Sn (P O : Nat → Int) : Nat := (List.range 72).countP (fun v => decide (P v ≤ O v))
/-- a round settles one more -/
theorem round_1 {E : Nat → Nat → Nat → Nat → Prop} {f : Nat} {P P' O : Nat → Int} (hE : Eok E) (hf : P f ≤ 0) (f72 : f < 72) (Of : O f ≤ 0) (oc : CLO 100 E O) (orz : RZw 100 E f O) (mono : ∀ u, u < 72 → P' u ≤ P u) (step : ∀ v u ds da, E v u ds da → P v < 1000000 → P' u ≤ P v + cw 100 ds da) (hb : ∀ u, u < 72 → P u ≤ 1000000) (O0 : 0 ≤ O f) : Sn P O = 72 ∨ Sn P O < Sn P' O := by
  by_cases all : ∀ u, u < 72 → P u ≤ O u
  · refine .inl ?_
    unfold Sn
    have : (List.range 72).countP (fun v => decide (P v ≤ O v)) = (List.range 72).length := List.countP_eq_length.mpr (fun u hu => decide_eq_true (all u (List.mem_range.mp hu)))
    rw [this, List.length_range]
  · refine .inr ?_
    have ex : ∃ u, u < 72 ∧ ¬ P u ≤ O u := Classical.byContradiction (fun h => all (fun u hu => Classical.byContradiction (fun g => h ⟨u, hu, g⟩)))
    obtain ⟨u, hu, hn⟩ := ex
    have key : ∀ n u s a, wk E f n u s a → O u = cw 100 s a → O u < 1000000 → ¬ P u ≤ O u → ∃ w, w < 72 ∧ ¬ P w ≤ O w ∧ P' w ≤ O w := by
      intro n
      induction n with
      | zero =>
        rintro u s a ⟨rfl, rfl, rfl⟩ _ _ h
        exact absurd (by omega) h
      | succ n ih =>
        rintro u s a ⟨v, s', a', ds, da, h, e, rfl, rfl⟩ hu hl hn
        have l := wk_le Of oc n v s' a' h
        have c := oc v u ds da e
        rw [cw_add] at hu
        have hv : O v = cw 100 s' a' := by omega
        have pos : 0 ≤ cw 100 ds da := by unfold cw; omega
        by_cases g : P v ≤ O v
        · have := step v u ds da e (by omega)
          exact ⟨u, (hE v u ds da e).2.1, hn, by omega⟩
        · exact ih v s' a' h hv (by omega) g
    have hl : O u < 1000000 := by have := hb u hu; omega
    obtain ⟨n, s, a, h, e⟩ := orz u hu hl
    obtain ⟨w, w72, w1, w2⟩ := key n u s a h e hl hn
    exact cnt_lt (P := fun v => decide (P v ≤ O v)) (Q := fun v => decide (P' v ≤ O v)) w72 (fun i hi h => decide_eq_true (by have := of_decide_eq_true h; have := mono i hi; omega)) (decide_eq_false w1) (decide_eq_true w2)
theorem Sn_all {P O : Nat → Int} (h : 72 ≤ Sn P O) : ∀ u, u < 72 → P u ≤ O u := fun u hu => of_decide_eq_true (cnt_all (P := fun v => decide (P v ≤ O v)) h u hu)
theorem Sn_m {P P' O : Nat → Int} (mono : ∀ u, u < 72 → P' u ≤ P u) (h : Sn P O = 72) : Sn P' O = 72 := by
  have a := Sn_all (P := P) (O := O) (by omega)
  unfold Sn
  have : (List.range 72).countP (fun v => decide (P' v ≤ O v)) = (List.range 72).length := List.countP_eq_length.mpr (fun u hu => decide_eq_true (by
    have h72 := List.mem_range.mp hu
    have := a u h72
    have := mono u h72
    omega))
  rw [this, List.length_range]
end
section
/-! both: the reference relaxes -/
def EB (R : Mem) (v u ds da : Nat) : Prop := v < 72 ∧ u < 72 ∧ onP R (v : Int) ∧ onP R (u : Int) ∧ ((ds = 1 ∧ da = v / 36 ∧ ∃ s : Int, 0 ≤ s ∧ s ≤ 3 ∧ goR R 163 (v : Int) s (u : Int)) ∨ (ds = 0 ∧ da = 0 ∧ (R.1 164 (v % 36)).toInt = 3 ∧ u = 36 * (1 - v / 36) + v % 36))
theorem EB_ok {R : Mem} : Eok (EB R) := by
  rintro v u ds da ⟨h1, h2, _, _, h⟩
  refine ⟨h1, h2, ?_⟩
  rcases h with ⟨rfl, rfl, _⟩ | ⟨rfl, rfl, _⟩
  · omega
  · omega
theorem wk_on {R : Mem} {E : Nat → Nat → Nat → Nat → Prop} (hE : ∀ v u ds da, E v u ds da → onP R (u : Int)) {f : Nat} (hf : onP R (f : Int)) {n u s a : Nat} (h : wk E f n u s a) : onP R (u : Int) := by
  cases n with
  | zero => obtain ⟨rfl, _⟩ := h; exact hf
  | succ n => obtain ⟨v, s', a', ds, da, _, e, _⟩ := h; exact hE _ _ _ _ e
def Vk (k : Nat) (M : Mem) : Nat → Int := fun u => (M.1 k u).toInt
theorem Vk_eq {k q : Nat} {M : Mem} {v : Int32} : Vk k (s_i M k q v) q = v.toInt := congrArg Int32.toInt si_eq
theorem Vk_ne {k q x : Nat} {M : Mem} {v : Int32} (h : x ≠ q) : Vk k (s_i M k q v) x = Vk k M x := congrArg Int32.toInt (si_ne (by omega))
theorem RZw_up {W : Int} {E : Nat → Nat → Nat → Nat → Prop} {f u v ds da : Nat} {P P' : Nat → Int} {c : Int} (hr : RZw W E f P) (hw : ∃ n s a, wk E f n v s a ∧ c = cw W s a) (e : E v u ds da) (h : ∀ x, x ≠ u → P' x = P x) (hu : P' u = c + cw W ds da) : RZw W E f P' := by
  intro x hx hp
  by_cases g : x = u
  · subst g
    obtain ⟨n, s, a, h1, h2⟩ := hw
    exact ⟨n + 1, s + ds, a + da, ⟨v, s, a, ds, da, h1, e, rfl, rfl⟩, by rw [hu, cw_add, h2]⟩
  · rw [h x g] at hp ⊢
    exact hr x hx hp
theorem or01w {a b : Int32} (ha : a = 0 ∨ a = 1) (hb : b = 0 ∨ b = 1) : ((a ||| b) = 0 ∨ (a ||| b) = 1) ∧ ((a ||| b) = 0 → a = 0 ∧ b = 0) := by
  rcases ha with rfl | rfl <;> rcases hb with rfl | rfl
  · exact ⟨.inl (by decide), fun _ => ⟨rfl, rfl⟩⟩
  · exact ⟨.inr (by decide), fun h => absurd h (by decide)⟩
  · exact ⟨.inr (by decide), fun h => absurd h (by decide)⟩
  · exact ⟨.inr (by decide), fun h => absurd h (by decide)⟩
theorem lowB {v1 v2 : Int32} {M : Mem} {x : Int32 × Mem} (e : f_Mod_lowerBoth v1 v2 M = some x) : (v1.toInt = -1 ∧ x = (0, M)) ∨ (v1.toInt ≠ -1 ∧ ((v2.toInt < (M.1 180 v1.toNatClampNeg).toInt ∧ x = (1, s_i M 180 v1.toNatClampNeg v2)) ∨ ((M.1 180 v1.toNatClampNeg).toInt ≤ v2.toInt ∧ x = (0, M)))) := by
  have ym := om
  unfold f_Mod_lowerBoth at e
  rcases io e with ⟨g, e⟩ | ⟨g, e⟩
  · have := q_eq g
    obtain rfl := Option.some.inj e
    exact .inl ⟨by omega, rfl⟩
  have := q_ne g
  obtain ⟨_, e⟩ := io_n e
  refine .inr ⟨by omega, ?_⟩
  rcases io e with ⟨g, e⟩ | ⟨g, e⟩
  · obtain ⟨_, e⟩ := io_n e
    obtain ⟨M1, m1, e⟩ := mo e
    obtain rfl := Option.some.inj e
    exact .inl ⟨q_lt g, by rw [m1]⟩
  · obtain rfl := Option.some.inj e
    exact .inr ⟨q_nl g, rfl⟩
def RIw (E : Nat → Nat → Nat → Nat → Prop) (f : Nat) (R T : Mem) : Prop := J T ∧ (∀ kx i, kx ≠ 180 → T.1 kx i = R.1 kx i) ∧ Vk 180 T f ≤ 0 ∧ RZw 1000 E f (Vk 180 T)
theorem RIw_map {E : Nat → Nat → Nat → Nat → Prop} {f : Nat} {R T : Mem} (h : RIw E f R T) : MapEq T R := ⟨h.2.1 162 2 (by omega), h.2.1 162 3 (by omega), fun i => h.2.1 164 i (by omega)⟩
theorem relax_r {E : Nat → Nat → Nat → Nat → Prop} {f u v ds da : Nat} {R T : Mem} {v1 v2 : Int32} {x : Int32 × Mem} (h : RIw E f R T) (v72 : v < 72) (hv : Vk 180 T v < 1000000) (he : E v u ds da) (h1 : v1.toInt = (u : Int)) (h2 : v2.toInt = Vk 180 T v + cw 1000 ds da) (e : f_Mod_lowerBoth v1 v2 T = some x) : RIw E f R x.2 ∧ (x.1 = 0 ∨ x.1 = 1) ∧ Vk 180 x.2 u ≤ v2.toInt ∧ (x.1 = 0 → x.2 = T) ∧ ∀ w, Vk 180 x.2 w ≤ Vk 180 T w := by
  obtain ⟨jT, fT, p0, rz⟩ := h
  have pos : 0 ≤ cw 1000 ds da := by unfold cw; omega
  have b := Jr_180 jT v
  have b0 : 0 ≤ v2.toInt := by
    have : 0 ≤ Vk 180 T v := b.1
    omega
  rcases lowB e with ⟨g, _⟩ | ⟨_, g⟩
  · omega
  rw [q_nat h1] at g
  rcases g with ⟨lt, rfl⟩ | ⟨le, rfl⟩
  · have bu := Jr_180 jT u
    have fu : u ≠ f := by
      rintro rfl
      have : Vk 180 T u = (T.1 180 u).toInt := rfl
      omega
    refine ⟨⟨Jw_180 jT u v2 b0 (by omega), fun kx i hk => by rw [si_ne (by omega)]; exact fT kx i hk, by rw [Vk_ne (fun hh => fu hh.symm)]; exact p0, RZw_up rz (rz v v72 hv) he (fun x hx => Vk_ne hx) (by rw [Vk_eq]; exact h2)⟩, .inr rfl, ?_, fun h => absurd (show (1 : Int32) = 0 from h) (by decide), fun w => ?_⟩
    · show Vk 180 (s_i T 180 u v2) u ≤ _
      rw [Vk_eq]; omega
    · show Vk 180 (s_i T 180 u v2) w ≤ _
      by_cases g : w = u
      · subst g
        rw [Vk_eq]
        have : Vk 180 T w = (T.1 180 w).toInt := rfl
        omega
      · rw [Vk_ne g]; omega
  · exact ⟨⟨jT, fT, p0, rz⟩, .inl rfl, le, fun _ => rfl, fun w => Int.le_refl _⟩
/-- one place's steps -/
theorem bothS_r {R T : Mem} {f v : Nat} {v3 v4 v6 more : Int32} {y : Int32 × Mem} (jR : J R) (kp : KP R 163 0) (hf : onP R (f : Int)) (h : RIw (EB R) f R T) (hv6 : v6.toInt = (v : Int)) (v72 : v < 72) (hv : Vk 180 T v < 1000000) (hm : more = 0 ∨ more = 1) (e : iter (lb_Mod_both_103 v3 v4 v6) FU (more, (0 : Int32), T) = some y) : RIw (EB R) f R y.2 ∧ (y.1 = 0 ∨ y.1 = 1) ∧ Vk 180 y.2 v < 1000000 ∧ (y.1 = 0 → y.2 = T ∧ more = 0 ∧ ∀ (s : Int) (u : Nat), 0 ≤ s → s ≤ 3 → u < 72 → goR R 163 (v : Int) s (u : Int) → Vk 180 T u ≤ Vk 180 T v + cw 1000 1 (v / 36)) := by
  have k4 : (4 : Int32).toInt = 4 := rfl
  refine it_r (I := fun s : Int32 × Int32 × Mem => ∃ q : Nat, q ≤ 4 ∧ s.2.1.toInt = (q : Int) ∧ RIw (EB R) f R s.2.2 ∧ (s.1 = 0 ∨ s.1 = 1) ∧ Vk 180 s.2.2 v < 1000000 ∧ (s.1 = 0 → s.2.2 = T ∧ more = 0 ∧ ∀ (s : Int) (u : Nat), 0 ≤ s → s < (q : Int) → u < 72 → goR R 163 (v : Int) s (u : Int) → Vk 180 T u ≤ Vk 180 T v + cw 1000 1 (v / 36))) (Q := fun y : Int32 × Mem => RIw (EB R) f R y.2 ∧ (y.1 = 0 ∨ y.1 = 1) ∧ Vk 180 y.2 v < 1000000 ∧ (y.1 = 0 → y.2 = T ∧ more = 0 ∧ ∀ (s : Int) (u : Nat), 0 ≤ s → s ≤ 3 → u < 72 → goR R 163 (v : Int) s (u : Int) → Vk 180 T u ≤ Vk 180 T v + cw 1000 1 (v / 36))) ?_ e ⟨0, by omega, rfl, h, hm, hv, fun h => ⟨rfl, h, fun s u a b => by omega⟩⟩
  rintro ⟨mo', i, S⟩ r ⟨q, q4, hq, hS, hmo, hvS, hz⟩ e
  dsimp only at hq hS hmo hvS hz
  unfold lb_Mod_both_103 at e
  dsimp only at e
  rcases io e with ⟨g, e⟩ | ⟨g, e⟩
  · have := q_le g
    obtain rfl := Option.some.inj e
    exact ⟨hS, hmo, hvS, fun h => by
      obtain ⟨a, b, c⟩ := hz h
      exact ⟨a, b, fun s u s0 s3 hu hg => c s u s0 (by omega) hu hg⟩⟩
  have g1 := q_ng g
  have i1 : (i + (1 : Int32)).toInt = ((q + 1 : Nat) : Int) := add_ti hq o1 (by omega) (by omega)
  obtain ⟨x9, e9, e⟩ := bo e
  obtain ⟨_, e⟩ := io_n e
  obtain ⟨x10, e10, e⟩ := bo e
  obtain ⟨x11, e11, e⟩ := bo e
  obtain rfl := Option.some.inj e
  have jS := hS.1
  obtain ⟨gg, gl, gh⟩ := some_of (fs_go jS 163 (.inl rfl) v6 i (by omega)) e9
  rw [hv6, hq, goR_c (RIw_map hS) (fun i => hS.2.1 163 i (by omega))] at gg
  have l10 : x10.toInt = ((v / 36 : Nat) : Int) := by rw [(place_i (v := v6) (by omega) (by omega)).2 e10, hv6]; omega
  have onv : onP R (v : Int) := by
    obtain ⟨n, s, a, w, _⟩ := hS.2.2.2 v v72 hvS
    exact wk_on (fun v u ds da e => e.2.2.2.1) hf w
  rw [q_nat hv6] at e11
  have bv := Jr_180 jS v
  have hval : (((S.1 180 v) + (1000 : Int32)) + x10).toInt = Vk 180 S v + cw 1000 1 (v / 36) := by
    have k1000 : (1000 : Int32).toInt = 1000 := rfl
    have : Vk 180 S v = (S.1 180 v).toInt := rfl
    rw [cw_1, add_ti (add_ti rfl k1000 (by omega) (by omega)) l10 (by omega) (by omega)]
    omega
  by_cases gm : x9.toInt = -1
  · rcases lowB e11 with ⟨_, rfl⟩ | ⟨g, _⟩
    · obtain ⟨oa, ob⟩ := or01w hmo (.inl (rfl : (0 : Int32) = 0))
      refine ⟨q + 1, by omega, i1, hS, oa, hvS, fun h => ?_⟩
      obtain ⟨a, b, c⟩ := hz (ob h).1
      refine ⟨a, b, fun s u s0 s3 hu hg => ?_⟩
      by_cases k : s = (q : Int)
      · subst k
        have := goR_fun gg hg
        omega
      · exact c s u s0 (by omega) hu hg
    · exact absurd gm g
  · obtain ⟨u, hu⟩ : ∃ u : Nat, x9.toInt = (u : Int) := ⟨x9.toInt.toNat, by omega⟩
    rw [hu] at gg
    obtain ⟨onu, _⟩ := go_sym jR kp onv (s := (q : Int)) ⟨by omega, by omega⟩ gg (by omega)
    have edge : EB R v u 1 (v / 36) := ⟨v72, by omega, onv, onu, .inl ⟨rfl, rfl, q, by omega, by omega, gg⟩⟩
    obtain ⟨r1, r2, r3, r4, r5⟩ := relax_r hS v72 hvS edge hu hval e11
    obtain ⟨oa, ob⟩ := or01w hmo r2
    have rv := r5 v
    refine ⟨q + 1, by omega, i1, r1, oa, by dsimp only; omega, fun h => ?_⟩
    obtain ⟨h1, h2⟩ := ob h
    obtain ⟨a, b, c⟩ := hz h1
    have eS := r4 h2
    refine ⟨by dsimp only; rw [eS, a], b, fun s u' s0 s3 hu' hg => ?_⟩
    by_cases k : s = (q : Int)
    · subst k
      have := goR_fun gg hg
      have : u' = u := by omega
      subst this
      rw [eS, hval, a] at r3
      exact r3
    · exact c s u' s0 (by omega) hu' hg
/-- a round -/
theorem bothR_r {R T : Mem} {f : Nat} {v3 v4 : Int32} {y : Int32 × Mem} (jR : J R) (kp : KP R 163 0) (hf : onP R (f : Int)) (h : RIw (EB R) f R T) (e : iter (lb_Mod_both_77 v3 v4) FU ((0 : Int32), (0 : Int32), T) = some y) : RIw (EB R) f R y.2 ∧ (y.1 = 0 ∨ y.1 = 1) ∧ (y.1 = 0 → CLO 1000 (EB R) (Vk 180 y.2)) := by
  have k72 : (72 : Int32).toInt = 72 := rfl
  have km : (1000000 : Int32).toInt = 1000000 := rfl
  refine it_r (I := fun s : Int32 × Int32 × Mem => ∃ k : Nat, k ≤ 72 ∧ s.2.1.toInt = (k : Int) ∧ RIw (EB R) f R s.2.2 ∧ (s.1 = 0 ∨ s.1 = 1) ∧ (s.1 = 0 → s.2.2 = T ∧ ∀ v u ds da, v < k → EB R v u ds da → Vk 180 T u ≤ Vk 180 T v + cw 1000 ds da)) (Q := fun y : Int32 × Mem => RIw (EB R) f R y.2 ∧ (y.1 = 0 ∨ y.1 = 1) ∧ (y.1 = 0 → CLO 1000 (EB R) (Vk 180 y.2))) ?_ e ⟨0, by omega, rfl, h, .inl rfl, fun _ => ⟨rfl, fun v u ds da h => by omega⟩⟩
  rintro ⟨mo', i, S⟩ r ⟨k, k72', hk, hS, hmo, hz⟩ e
  dsimp only at hk hS hmo hz
  unfold lb_Mod_both_77 at e
  dsimp only at e
  rcases io e with ⟨g, e⟩ | ⟨g, e⟩
  · have := q_le g
    obtain rfl := Option.some.inj e
    refine ⟨hS, hmo, fun h => ?_⟩
    obtain ⟨a, b⟩ := hz h
    dsimp only
    rw [a]
    intro v u ds da hE
    exact b v u ds da (by have := hE.1; omega) hE
  have g1 := q_ng g
  have i1 : (i + (1 : Int32)).toInt = ((k + 1 : Nat) : Int) := add_ti hk o1 (by omega) (by omega)
  have jS := hS.1
  have pos : ∀ ds da : Nat, 0 ≤ cw 1000 ds da := fun ds da => by unfold cw; omega
  obtain ⟨_, e⟩ := io_n e
  rw [q_nat hk] at e
  rcases io e with ⟨g, e⟩ | ⟨g, e⟩
  rotate_left
  · have gl := q_nl g
    obtain rfl := Option.some.inj e
    refine ⟨k + 1, by omega, i1, hS, hmo, fun h => ?_⟩
    obtain ⟨a, b⟩ := hz h
    refine ⟨a, fun v u ds da hv hE => ?_⟩
    by_cases c : v = k
    · subst c
      rw [a] at gl
      have jT := h
      have bu := Jr_180 (by rw [← a]; exact jS : J T) u
      have := pos ds da
      have e1 : Vk 180 T u = (T.1 180 u).toInt := rfl
      have e2 : Vk 180 T v = (T.1 180 v).toInt := rfl
      omega
    · exact b v u ds da (by omega) hE
  have gl := q_lt g
  have hv : Vk 180 S k < 1000000 := by
    have e2 : Vk 180 S k = (S.1 180 k).toInt := rfl
    omega
  obtain ⟨x13, e13, e⟩ := bo e
  obtain ⟨x14, e14, e⟩ := bo e
  obtain ⟨_, e⟩ := io_n e
  obtain ⟨s1, s2, s3, s4⟩ := bothS_r jR kp hf hS hk (by omega) hv hmo e13
  have c14 : x14.toInt = ((k % 36 : Nat) : Int) := by rw [(place_i (v := i) (by omega) (by omega)).1 e14, hk]; omega
  rw [q_nat c14, s1.2.1 164 (k % 36) (by omega)] at e
  have onv : onP R (k : Int) := by
    obtain ⟨n, s, a, w, _⟩ := hS.2.2.2 k (by omega) hv
    exact wk_on (fun v u ds da e => e.2.2.2.1) hf w
  rcases io e with ⟨gs, e⟩ | ⟨gs, e⟩
  rotate_left
  · obtain rfl := Option.some.inj e
    refine ⟨k + 1, by omega, i1, s1, s2, fun h => ?_⟩
    obtain ⟨a, b, c⟩ := s4 h
    obtain ⟨a', d⟩ := hz b
    refine ⟨by dsimp only; rw [a, a'], fun v u ds da hv hE => ?_⟩
    by_cases w : v = k
    · subst w
      rcases hE.2.2.2.2 with ⟨rfl, rfl, s, t0, t3, hg⟩ | ⟨_, _, h3, _⟩
      · rw [← a']; exact c s u t0 t3 hE.2.1 hg
      · exact absurd (Int32.toInt_inj.mp h3) gs
    · exact d v u ds da (by omega) hE
  obtain ⟨x15, e15, e⟩ := bo e
  obtain ⟨x16, e16, e⟩ := bo e
  obtain ⟨x17, e17, e⟩ := bo e
  obtain ⟨_, e⟩ := io_n e
  obtain ⟨x18, e18, e⟩ := bo e
  obtain rfl := Option.some.inj e
  have c15 : x15.toInt = ((k / 36 : Nat) : Int) := by rw [(place_i (v := i) (by omega) (by omega)).2 e15, hk]; omega
  have c16 : x16.toInt = ((k % 36 : Nat) : Int) := by rw [(place_i (v := i) (by omega) (by omega)).1 e16, hk]; omega
  have c17 := place_c (l := 1 - k / 36) (c := k % 36) (by rw [sub_ti o1 c15 (by omega) (by omega)]; omega) c16 (by omega) (by omega) e17
  have s3' : (R.1 164 (k % 36)).toInt = 3 := by rw [gs]; rfl
  have onu : onP R ((36 * (1 - k / 36) + k % 36 : Nat) : Int) := by
    have o := onv.2.2
    rw [show ((k : Int)) % 36 = ((k % 36 : Nat) : Int) by omega] at o
    refine (onP_lc (by omega) (by omega)).mpr ⟨o.1, o.2.1, ?_⟩
    rw [show (((k % 36 : Nat) : Int)).toNat = k % 36 by omega, s3']
    split
    · exact .inr rfl
    · exact .inr rfl
  have edge : EB R k (36 * (1 - k / 36) + k % 36) 0 0 := ⟨by omega, by omega, onv, onu, .inr ⟨rfl, rfl, s3', rfl⟩⟩
  obtain ⟨r1, r2, r3, r4, r5⟩ := relax_r s1 (show k < 72 by omega) s3 edge c17 (by rw [cw_0, Int.add_zero]; rfl) e18
  obtain ⟨oa, ob⟩ := or01w s2 r2
  refine ⟨k + 1, by omega, i1, r1, oa, fun h => ?_⟩
  obtain ⟨h1, h2⟩ := ob h
  obtain ⟨a, b, c⟩ := s4 h1
  obtain ⟨a', d⟩ := hz b
  have e8 := r4 h2
  refine ⟨by dsimp only; rw [e8, a, a'], fun v u ds da hv hE => ?_⟩
  by_cases w : v = k
  · subst w
    rcases hE.2.2.2.2 with ⟨rfl, rfl, s, t0, t3, hg⟩ | ⟨rfl, rfl, _, rfl⟩
    · rw [← a']; exact c s u t0 t3 hE.2.1 hg
    · rw [e8, a, a'] at r3
      rw [cw_0, Int.add_zero]
      exact r3
  · exact d v u ds da (by omega) hE
theorem bothF_r {a b c d : Int32} {N x : Mem} (jN : J N) (e : iter (lb_Mod_both_29 a b c d) FU ((0 : Int32), N) = some x) : J x ∧ (∀ kx i, kx ≠ 180 → x.1 kx i = N.1 kx i) ∧ ∀ c, c < 72 → x.1 180 c = 1000000 := by
  have k72 : (72 : Int32).toInt = 72 := rfl
  refine it_r (I := fun s : Int32 × Mem => ∃ q : Nat, q ≤ 72 ∧ s.1.toInt = (q : Int) ∧ J s.2 ∧ (∀ kx i, kx ≠ 180 → s.2.1 kx i = N.1 kx i) ∧ ∀ c, c < q → s.2.1 180 c = 1000000) (Q := fun x : Mem => J x ∧ (∀ kx i, kx ≠ 180 → x.1 kx i = N.1 kx i) ∧ ∀ c, c < 72 → x.1 180 c = 1000000) ?_ e ⟨0, by omega, rfl, jN, fun _ _ _ => rfl, fun c h => by omega⟩
  rintro ⟨i, T⟩ r ⟨q, q72, hq, jT, hf, hd⟩ e
  dsimp only at hq jT hf hd
  unfold lb_Mod_both_29 at e
  dsimp only at e
  rcases io e with ⟨g, e⟩ | ⟨g, e⟩
  · have := q_le g
    obtain rfl := Option.some.inj e
    exact ⟨jT, hf, fun c hc => hd c (by omega)⟩
  have g1 := q_ng g
  have i1 : (i + (1 : Int32)).toInt = ((q + 1 : Nat) : Int) := add_ti hq o1 (by omega) (by omega)
  obtain ⟨_, e⟩ := io_n e
  obtain ⟨M3, m3, e⟩ := mo e
  obtain rfl := Option.some.inj e
  rw [q_nat hq] at m3
  refine ⟨q + 1, by omega, i1, by rw [m3]; exact Jw_180 jT q _ (by decide) (by decide), fun kx j h => by rw [m3, si_ne (by omega)]; exact hf kx j h, fun c hc => ?_⟩
  rw [m3]
  by_cases w : c = q
  · subst w; exact si_eq
  · rw [si_ne (by omega)]; exact hd c (by omega)
theorem RZw_1 {W : Int} {E : Nat → Nat → Nat → Nat → Prop} {f : Nat} {P : Nat → Int} (hf : P f = 0) (h : ∀ u, u < 72 → u ≠ f → P u = 1000000) : RZw W E f P := by
  intro u hu hp
  by_cases g : u = f
  · subst g
    exact ⟨0, 0, 0, ⟨rfl, rfl, rfl⟩, by rw [cw_0]; exact hf⟩
  · rw [h u hu g] at hp; omega
end
section
/-! thieves: where one may be, the class's side -/
def EA (R : Mem) (a v u : Nat) : Prop := v < 72 ∧ u < 72 ∧ onP R (v : Int) ∧ onP R (u : Int) ∧ ((∃ s : Int, 0 ≤ s ∧ s ≤ 3 ∧ goR R a (v : Int) s (u : Int)) ∨ ((R.1 164 (v % 36)).toInt = 3 ∧ u = 36 * (1 - v / 36) + v % 36))
def TBq (N : Mem) (u : Nat) : Prop := bl (N.2.1 151 (2 + u / 36)) (u % 36) = true
theorem TBq_lc {N : Mem} {l c : Nat} (l2 : l < 2) (c36 : c < 36) : TBq N (36 * l + c) ↔ bl (N.2.1 151 (2 + l)) c = true := by
  unfold TBq
  rw [show (36 * l + c) / 36 = l by omega, show (36 * l + c) % 36 = c by omega]
/-- bits of places of the nets alone -/
def TN (R N : Mem) : Prop := ∀ l c, l < 2 → bl (N.2.1 151 (2 + l)) c = true → c < 36 ∧ onP R ((36 * l + c : Nat) : Int)
theorem TN_b {R N : Mem} (h : TN R N) {u : Nat} (hu : u < 72) (t : TBq N u) : onP R (u : Int) := by
  have e : u = 36 * (u / 36) + u % 36 := by omega
  have := (h (u / 36) (u % 36) (by omega) t).2
  rw [← e] at this
  exact this
theorem stair_on {R : Mem} {l c : Nat} (l2 : l < 2) (c36 : c < 36) (cw : (c : Int) < xw R * xh R) (h3 : (R.1 164 c).toInt = 3) : onP R ((36 * l + c : Nat) : Int) := by
  refine (onP_lc l2 c36).mpr ⟨by omega, cw, ?_⟩
  rw [show ((c : Int)).toNat = c by omega, h3]
  split
  · exact .inr rfl
  · exact .inr rfl
/-- one level of the stir -/
theorem stir_l {X R : Mem} {n a l : Nat} {new x1 sv : Int64} (jR : J R) (kp : KP R a 0) (zv : ZV R (R.1 a) n) (zw : ZW X R a) (kr : ∀ i, i < 36 → 0 ≤ (R.1 164 i).toInt ∧ (R.1 164 i).toInt ≤ 3) (tn : TN R X) (l2 : l < 2) (e1 : ∀ d, bl x1 d = true ↔ ∃ c, c < 36 ∧ bl (X.2.1 151 (2 + l)) c = true ∧ bl (X.2.1 (32 + 2) (l * 36 + c)) d = true) (es : f_Nets_stairs 32 X = some sv) (hn : ∀ d, bl new d = true ↔ (bl (X.2.1 151 (2 + l)) d = true ∨ bl x1 d = true) ∨ (bl (X.2.1 151 (2 + (1 - l))) d = true ∧ bl sv d = true)) : (∀ c, bl new c = true → c < 36 ∧ onP R ((36 * l + c : Nat) : Int)) ∧ ∀ c, c < 36 → (bl new c = true ↔ TBq X (36 * l + c) ∨ ∃ v, TBq X v ∧ EA R a v (36 * l + c)) := by
  have st := stairs_i (.inl rfl) jR kr zw.1 es
  have fw : ∀ c, bl new c = true → (c < 36 ∧ onP R ((36 * l + c : Nat) : Int)) ∧ (TBq X (36 * l + c) ∨ ∃ v, TBq X v ∧ EA R a v (36 * l + c)) := by
    intro c h
    rcases (hn c).mp h with (h | h) | ⟨h, hs⟩
    · have t := tn l c l2 h
      exact ⟨t, .inl ((TBq_lc l2 t.1).mpr h)⟩
    · obtain ⟨c', c36', h1, h2⟩ := (e1 c).mp h
      obtain ⟨on1, c36, s, s0, s3, g⟩ := (near_go jR zv zw.2 l2 c36').mp h2
      have onv : onP R ((36 * l + c' : Nat) : Int) := (onP_lc l2 c36').mpr on1
      have onu := (go_sym jR kp onv ⟨s0, s3⟩ g (by omega)).1
      exact ⟨⟨c36, onu⟩, .inr ⟨36 * l + c', (TBq_lc l2 c36').mpr h1, by omega, by omega, onv, onu, .inl ⟨s, s0, s3, g⟩⟩⟩
    · have t := tn (1 - l) c (by omega) h
      obtain ⟨cw, h3⟩ := (st c).mp hs
      have onu := stair_on (R := R) l2 t.1 cw h3
      refine ⟨⟨t.1, onu⟩, .inr ⟨36 * (1 - l) + c, (TBq_lc (by omega) t.1).mpr h, by omega, by omega, t.2, onu, .inr ⟨?_, by omega⟩⟩⟩
      rw [show (36 * (1 - l) + c) % 36 = c by omega]; exact h3
  refine ⟨fun c h => (fw c h).1, fun c c36 => ⟨fun h => (fw c h).2, ?_⟩⟩
  rintro (h | ⟨v, hv, v72, u72, onv, onu, g | ⟨h3, hu⟩⟩)
  · exact (hn c).mpr (.inl (.inl ((TBq_lc l2 c36).mp h)))
  · obtain ⟨s, s0, s3, g⟩ := g
    obtain ⟨d, d36, hd⟩ := go_lev jR (by omega) ⟨s0, s3⟩ g (by omega)
    have ev : v = 36 * l + v % 36 := by omega
    rw [ev] at hv onv g
    have h1 := (TBq_lc l2 (by omega)).mp hv
    have on1 := (onP_lc l2 (by omega)).mp onv
    exact (hn c).mpr (.inl (.inr ((e1 c).mpr ⟨v % 36, by omega, h1, (near_go jR zv zw.2 l2 (by omega)).mpr ⟨on1, c36, s, s0, s3, g⟩⟩)))
  · have ev : v = 36 * (1 - l) + c := by omega
    rw [ev] at hv h3
    rw [show (36 * (1 - l) + c) % 36 = c by omega] at h3
    have h1 := (TBq_lc (by omega) c36).mp hv
    exact (hn c).mpr (.inr ⟨h1, (st c).mpr ⟨((onP_lc l2 c36).mp onu).2.1, h3⟩⟩)
theorem stir_c {X R x : Mem} {n a : Nat} (jR : J R) (kp : KP R a 0) (zv : ZV R (R.1 a) n) (zw : ZW X R a) (kr : ∀ i, i < 36 → 0 ≤ (R.1 164 i).toInt ∧ (R.1 164 i).toInt ≤ 3) (tn : TN R X) (e : f_Thief_stir 32 X = some x) : x.1 = X.1 ∧ x.2.2 = X.2.2 ∧ (∀ k i, ¬ (k = 151 ∧ (i = 2 ∨ i = 3)) → x.2.1 k i = X.2.1 k i) ∧ TN R x ∧ ∀ u, u < 72 → (TBq x u ↔ TBq X u ∨ ∃ v, TBq X v ∧ EA R a v u) := by
  unfold f_Thief_stir at e
  obtain ⟨_, e⟩ := io_n e
  obtain ⟨x1, e1, e⟩ := bo e
  obtain ⟨x2, e2, e⟩ := bo e
  obtain ⟨x3, e3, e⟩ := bo e
  obtain ⟨x4, e4, e⟩ := bo e
  obtain ⟨M5, m5, e⟩ := mo e
  obtain ⟨M6, m6, e⟩ := mo e
  obtain rfl := Option.some.inj e
  have a1 := around_i (v0 := 32) (.inl rfl) (l := 0) rfl (by omega) e1
  have a3 := around_i (v0 := 32) (.inl rfl) (l := 1) rfl (by omega) e3
  have n2 : M6.2.1 151 2 = ((X.2.1 151 2) ||| x1) ||| ((X.2.1 151 3) &&& x2) := by rw [m6, sl_ne (by omega), m5, sl_eq]
  have n3 : M6.2.1 151 3 = ((X.2.1 151 3) ||| x3) ||| ((X.2.1 151 2) &&& x4) := by rw [m6, sl_eq]
  have b2 : ∀ d, bl (M6.2.1 151 2) d = true ↔ (bl (X.2.1 151 (2 + 0)) d = true ∨ bl x1 d = true) ∨ (bl (X.2.1 151 (2 + (1 - 0))) d = true ∧ bl x2 d = true) := fun d => by rw [n2, bl_or, bl_or, bl_and, Bool.or_eq_true, Bool.or_eq_true, Bool.and_eq_true]
  have b3 : ∀ d, bl (M6.2.1 151 3) d = true ↔ (bl (X.2.1 151 (2 + 1)) d = true ∨ bl x3 d = true) ∨ (bl (X.2.1 151 (2 + (1 - 1))) d = true ∧ bl x4 d = true) := fun d => by rw [n3, bl_or, bl_or, bl_and, Bool.or_eq_true, Bool.or_eq_true, Bool.and_eq_true]
  obtain ⟨p1, p2⟩ := stir_l jR kp zv zw kr tn (l := 0) (by omega) a1 e2 b2
  obtain ⟨q1, q2⟩ := stir_l jR kp zv zw kr tn (l := 1) (by omega) a3 e4 b3
  refine ⟨by rw [m6, sl_1, m5, sl_1], by rw [m6]; show M5.2.2 = _; rw [m5]; rfl, fun k i h => by rw [m6, sl_ne (by omega), m5, sl_ne (by omega)], ?_, ?_⟩
  · intro l c l2 h
    have : l = 0 ∨ l = 1 := by omega
    rcases this with rfl | rfl
    · exact p1 c h
    · exact q1 c h
  · intro u hu
    rcases Nat.lt_or_ge u 36 with g | g
    · have e : u = 36 * 0 + u := by omega
      rw [e]
      exact (TBq_lc (by omega) g).trans (p2 u g)
    · have e : u = 36 * 1 + (u - 36) := by omega
      rw [e]
      exact (TBq_lc (by omega) (by omega)).trans (q2 (u - 36) (by omega))
theorem start_c {X x : Mem} {l c : Nat} {v1 v2 : Int32} (hl : v1.toInt = (l : Int)) (hc : v2.toInt = (c : Int)) (l2 : l < 2) (c36 : c < 36) (e : f_Thief_start v1 v2 X = some x) : x.1 = X.1 ∧ x.2.2 = X.2.2 ∧ (∀ k i, k ≠ 151 → x.2.1 k i = X.2.1 k i) ∧ (∀ l' d, l' < 2 → (bl (x.2.1 151 (2 + l')) d = true ↔ l' = l ∧ d = c)) ∧ ∀ u, u < 72 → (TBq x u ↔ u = 36 * l + c) := by
  have b := bl_one hc (show c < 64 by omega)
  have z0 := o0
  have z1 := o1
  have key : x.1 = X.1 ∧ x.2.2 = X.2.2 ∧ (∀ k i, k ≠ 151 → x.2.1 k i = X.2.1 k i) ∧ (∀ l' d, l' < 2 → (bl (x.2.1 151 (2 + l')) d = true ↔ l' = l ∧ d = c)) := by
    unfold f_Thief_start at e
    rcases io e with ⟨g, e⟩ | ⟨g, e⟩
    · have gg := q_eq g
      unfold j_Thief_start_12 at e
      obtain ⟨M1, m1, e⟩ := mo e
      rw [if_neg (fun h => by have := q_eq h; omega)] at e
      obtain ⟨M2, m2, e⟩ := mo e
      obtain rfl := Option.some.inj e
      refine ⟨by rw [m2, sl_1, m1, sl_1], by rw [m2]; show M1.2.2 = _; rw [m1]; rfl, fun k i h => by rw [m2, sl_ne (by omega), m1, sl_ne (by omega)], fun l' d h' => ?_⟩
      have : l' = 0 ∨ l' = 1 := by omega
      rcases this with rfl | rfl
      · rw [m2, sl_ne (by omega), m1, sl_eq, b, decide_eq_true_eq]
        constructor
        · intro h; exact ⟨by omega, h⟩
        · intro h; exact h.2
      · rw [m2, sl_eq, bl_0]
        constructor
        · intro h; cases h
        · intro h; omega
    · have gg := q_ne g
      unfold j_Thief_start_12 at e
      obtain ⟨M1, m1, e⟩ := mo e
      rw [if_pos (Int32.toInt_inj.mp (by omega))] at e
      obtain ⟨M2, m2, e⟩ := mo e
      obtain rfl := Option.some.inj e
      refine ⟨by rw [m2, sl_1, m1, sl_1], by rw [m2]; show M1.2.2 = _; rw [m1]; rfl, fun k i h => by rw [m2, sl_ne (by omega), m1, sl_ne (by omega)], fun l' d h' => ?_⟩
      have : l' = 0 ∨ l' = 1 := by omega
      rcases this with rfl | rfl
      · rw [m2, sl_ne (by omega), m1, sl_eq, bl_0]
        constructor
        · intro h; cases h
        · intro h; omega
      · rw [m2, sl_eq, b, decide_eq_true_eq]
        constructor
        · intro h; exact ⟨by omega, h⟩
        · intro h; exact h.2
  obtain ⟨k1, k2, k3, k4⟩ := key
  refine ⟨k1, k2, k3, k4, fun u hu => ?_⟩
  unfold TBq
  rw [k4 (u / 36) (u % 36) (by omega)]
  constructor
  · intro h; omega
  · intro h; omega
theorem gone_c {R N : Mem} {y : Int32} (tn : TN R N) (e : f_Thief_gone N = some y) : (y = 1 ∧ ∀ u, u < 72 → ¬ TBq N u) ∨ (y = 0 ∧ ∃ u, u < 72 ∧ TBq N u) := by
  unfold f_Thief_gone at e
  rcases io e with ⟨g, e⟩ | ⟨g, e⟩
  · obtain rfl := Option.some.inj e
    have z := lc_0.mp g
    refine .inl ⟨rfl, fun u hu h => ?_⟩
    have n : bl ((N.2.1 151 2) ||| (N.2.1 151 3)) (u % 36) = true := by
      rw [bl_or, Bool.or_eq_true]
      unfold TBq at h
      have : u / 36 = 0 ∨ u / 36 = 1 := by omega
      rcases this with k | k
      · rw [k] at h; exact .inl h
      · rw [k] at h; exact .inr h
    rw [z, bl_0] at n; cases n
  · obtain rfl := Option.some.inj e
    refine .inr ⟨rfl, ?_⟩
    have ex : ∃ d, bl ((N.2.1 151 2) ||| (N.2.1 151 3)) d = true := by
      refine Classical.byContradiction (fun h => g (lc_0.mpr (bl_0i (fun d => ?_))))
      cases hF : bl ((N.2.1 151 2) ||| (N.2.1 151 3)) d with
      | false => rfl
      | true => exact absurd ⟨d, hF⟩ h
    obtain ⟨d, hd⟩ := ex
    rw [bl_or, Bool.or_eq_true] at hd
    rcases hd with h | h
    · have t := tn 0 d (by omega) h
      exact ⟨36 * 0 + d, by omega, (TBq_lc (by omega) t.1).mpr h⟩
    · have t := tn 1 d (by omega) h
      exact ⟨36 * 1 + d, by omega, (TBq_lc (by omega) t.1).mpr h⟩
/-- cells of a level on which some of a set are -/
theorem guard_c {k : Nat} {M : Mem} {lev set : Int32} {y : Int64} (ha : ∀ p, p < 8 → bt set p = true → 0 ≤ (M.1 (k + 1) p).toInt ∧ (M.1 (k + 1) p).toInt ≤ 35) (e : f_Scene_guarded k lev set M = some y) : ∀ c, bl y c = true ↔ ∃ p, p < 8 ∧ bt set p = true ∧ M.1 (k + 2) p = lev ∧ (M.1 (k + 1) p).toInt = (c : Int) := by
  have k8 : (8 : Int32).toInt = 8 := rfl
  unfold f_Scene_guarded at e
  obtain ⟨hk, e⟩ := io_n e
  obtain ⟨x4, e4, e⟩ := bo e
  obtain rfl := Option.some.inj e
  have r0 : rf k 0 = k + 1 := scn_rf hk (by omega)
  have r1 : rf k 1 = k + 2 := scn_rf hk (by omega)
  refine it_r (I := fun s : Int64 × Int32 => ∃ i : Nat, i ≤ 8 ∧ s.2.toInt = (i : Int) ∧ ∀ c, bl s.1 c = true ↔ ∃ p, p < i ∧ bt set p = true ∧ M.1 (k + 2) p = lev ∧ (M.1 (k + 1) p).toInt = (c : Int)) (Q := fun y : Int64 => ∀ c, bl y c = true ↔ ∃ p, p < 8 ∧ bt set p = true ∧ M.1 (k + 2) p = lev ∧ (M.1 (k + 1) p).toInt = (c : Int)) ?_ e4 ⟨0, by omega, rfl, fun c => ?_⟩
  · rintro ⟨acc, i⟩ r ⟨q, q8, hq, ha'⟩ e
    dsimp only at hq ha'
    unfold lb_Scene_guarded_5 at e
    dsimp only at e
    rw [r0, r1] at e
    rcases io e with ⟨g, e⟩ | ⟨g, e⟩
    · have := q_le g
      obtain rfl := Option.some.inj e
      have : q = 8 := by omega
      subst this
      exact ha'
    have g1 := q_ng g
    have i1 : (i + (1 : Int32)).toInt = ((q + 1 : Nat) : Int) := add_ti hq o1 (by omega) (by omega)
    have keep : ¬ (bt set q = true ∧ M.1 (k + 2) q = lev) → ∃ j : Nat, j ≤ 8 ∧ (i + (1 : Int32)).toInt = (j : Int) ∧ ∀ c, bl acc c = true ↔ ∃ p, p < j ∧ bt set p = true ∧ M.1 (k + 2) p = lev ∧ (M.1 (k + 1) p).toInt = (c : Int) := by
      intro hn
      refine ⟨q + 1, by omega, i1, fun c => (ha' c).trans ⟨?_, ?_⟩⟩
      · rintro ⟨p, h1, h2⟩; exact ⟨p, by omega, h2⟩
      · rintro ⟨p, h1, h2, h3, h4⟩
        refine ⟨p, ?_, h2, h3, h4⟩
        rcases Nat.lt_or_ge p q with w | w
        · exact w
        · have : p = q := by omega
          subst this
          exact absurd ⟨h2, h3⟩ hn
    rw [bt_shr hq (by omega)] at e
    rcases io e with ⟨g, e⟩ | ⟨g, e⟩
    · obtain rfl := Option.some.inj e
      refine keep (fun h => ?_)
      rw [h.1, if_pos rfl] at g
      exact absurd g (by decide)
    have hb : bt set q = true := by
      cases hb : bt set q with
      | true => rfl
      | false => rw [hb, if_neg (by decide)] at g; exact absurd rfl g
    obtain ⟨_, e⟩ := io_n e
    rw [q_nat hq] at e
    rcases io e with ⟨g, e⟩ | ⟨g, e⟩
    rotate_left
    · obtain rfl := Option.some.inj e
      exact keep (fun h => g h.2)
    obtain ⟨_, e⟩ := io_n e
    obtain rfl := Option.some.inj e
    have rg := ha q (by omega) hb
    obtain ⟨d, hd⟩ := ti_ofn rg.1
    refine ⟨q + 1, by omega, i1, fun c => ?_⟩
    dsimp only
    rw [bl_or, Bool.or_eq_true, ha' c, bl_one hd (by omega), decide_eq_true_eq]
    constructor
    · rintro (⟨p, h1, h2⟩ | h)
      · exact ⟨p, by omega, h2⟩
      · exact ⟨q, by omega, hb, g, by omega⟩
    · rintro ⟨p, h1, h2, h3, h4⟩
      rcases Nat.lt_or_ge p q with w | w
      · exact .inl ⟨p, w, h2, h3, h4⟩
      · have : p = q := by omega
        subst this
        exact .inr (by omega)
  · dsimp only
    rw [bl_0]
    constructor
    · intro h; cases h
    · rintro ⟨p, h, _⟩; omega
theorem ones_t : ∀ n : Fin 9, ∀ p : Fin 32, bt (((1 : Int32) <<< ((Int32.ofNat n.val) &&& 31)) - (1 : Int32)) p.val = decide (p.val < n.val) := by decide +kernel
theorem occ_c {k n l : Nat} {M : Mem} {lev v : Int32} {y : Int64} (hv : v.toInt = (n : Int)) (n8 : n ≤ 8) (hl : lev.toInt = (l : Int)) (ha : ∀ p, p < n → 0 ≤ (M.1 (k + 1) p).toInt ∧ (M.1 (k + 1) p).toInt ≤ 35) (e : f_Scene_occupied k lev v M = some y) : ∀ c, bl y c = true ↔ ∃ p, p < n ∧ (M.1 (k + 2) p).toInt = (l : Int) ∧ (M.1 (k + 1) p).toInt = (c : Int) := by
  unfold f_Scene_occupied at e
  obtain ⟨_, e⟩ := io_n e
  obtain ⟨x1, e1, e⟩ := bo e
  obtain rfl := Option.some.inj e
  have bb : ∀ p, p < 32 → bt (((1 : Int32) <<< (v &&& 31)) - (1 : Int32)) p = decide (p < n) := fun p hp => by
    rw [ofn_eq hv (by omega)]
    exact ones_t ⟨n, by omega⟩ ⟨p, hp⟩
  have G := guard_c (fun p p8 hb => by
    rw [bb p (by omega)] at hb
    exact ha p (of_decide_eq_true hb)) e1
  intro c
  rw [G c]
  constructor
  · rintro ⟨p, p8, h1, h2, h3⟩
    rw [bb p (by omega)] at h1
    exact ⟨p, of_decide_eq_true h1, by rw [h2]; exact hl, h3⟩
  · rintro ⟨p, pn, h2, h3⟩
    exact ⟨p, by omega, by rw [bb p (by omega)]; exact decide_eq_true pn, Int32.toInt_inj.mp (by omega), h3⟩
end
section
/-! thieves: the reference's side -/
theorem vb_1 : vp_nar .boolean (1 : Int32) = 1 := by decide +kernel
theorem b186 {N : Mem} (h : J N) (i : Nat) : N.1 186 i = 0 ∨ N.1 186 i = 1 := by
  have := Jr_186 h i
  by_cases c : (N.1 186 i).toInt = 0
  · exact .inl (Int32.toInt_inj.mp c)
  · exact .inr (Int32.toInt_inj.mp (by show (N.1 186 i).toInt = 1; omega))
theorem b187 {N : Mem} (h : J N) (i : Nat) : N.1 187 i = 0 ∨ N.1 187 i = 1 := by
  have := Jr_187 h i
  by_cases c : (N.1 187 i).toInt = 0
  · exact .inl (Int32.toInt_inj.mp c)
  · exact .inr (Int32.toInt_inj.mp (by show (N.1 187 i).toInt = 1; omega))
def mayb (k : Nat) (T : Mem) (u : Nat) : Prop := T.1 k u ≠ 0
def occR (T : Mem) (a n u : Nat) : Prop := ∃ p, p < n ∧ (T.1 a p).toInt = (u : Int)
/-- a place's steps are marked -/
theorem thS_r {T x : Mem} {v : Nat} {v1 : Int32} {P : Nat → Prop} (jT : J T) (kp : KP T 176 0) (hv : v1.toInt = (v : Int)) (v72 : v < 72) (onv : onP T (v : Int)) (hP : ∀ u, u < 72 → (mayb 187 T u ↔ P u)) (e : iter (lb_Mod_goThief_43 v1) FU ((0 : Int32), T) = some x) : J x ∧ (∀ kx i, kx ≠ 187 → x.1 kx i = T.1 kx i) ∧ x.2 = T.2 ∧ ∀ u, u < 72 → (mayb 187 x u ↔ P u ∨ u = v ∨ ∃ s : Int, 0 ≤ s ∧ s ≤ 3 ∧ goR T 176 (v : Int) s (u : Int)) := by
  have k4 : (4 : Int32).toInt = 4 := rfl
  refine it_r (I := fun s : Int32 × Mem => ∃ q : Nat, q ≤ 5 ∧ s.1.toInt = (q : Int) ∧ J s.2 ∧ (∀ kx i, kx ≠ 187 → s.2.1 kx i = T.1 kx i) ∧ s.2.2 = T.2 ∧ ∀ u, u < 72 → (mayb 187 s.2 u ↔ P u ∨ ∃ t : Int, 0 ≤ t ∧ t < (q : Int) ∧ goR T 176 (v : Int) t (u : Int))) (Q := fun x : Mem => J x ∧ (∀ kx i, kx ≠ 187 → x.1 kx i = T.1 kx i) ∧ x.2 = T.2 ∧ ∀ u, u < 72 → (mayb 187 x u ↔ P u ∨ u = v ∨ ∃ s : Int, 0 ≤ s ∧ s ≤ 3 ∧ goR T 176 (v : Int) s (u : Int))) ?_ e ⟨0, by omega, rfl, jT, fun _ _ _ => rfl, rfl, fun u hu => (hP u hu).trans ⟨.inl, fun h => h.elim id (fun ⟨t, t0, t1, _⟩ => by omega)⟩⟩
  rintro ⟨i, S⟩ r ⟨q, q5, hq, jS, fS, f2, hm⟩ e
  dsimp only at hq jS fS f2 hm
  unfold lb_Mod_goThief_43 at e
  dsimp only at e
  rcases io e with ⟨g, e⟩ | ⟨g, e⟩
  · have := q_lt g
    obtain rfl := Option.some.inj e
    refine ⟨jS, fS, f2, fun u hu => (hm u hu).trans ⟨?_, ?_⟩⟩
    · rintro (h | ⟨t, t0, t5, h⟩)
      · exact .inl h
      · by_cases k : t = 4
        · subst k
          rcases h with ⟨_, h⟩ | ⟨h, _⟩
          · exact .inr (.inl (by omega))
          · omega
        · exact .inr (.inr ⟨t, t0, by omega, h⟩)
    · rintro (h | h | ⟨t, t0, t3, h⟩)
      · exact .inl h
      · exact .inr ⟨4, by omega, by omega, .inl ⟨rfl, by omega⟩⟩
      · exact .inr ⟨t, t0, by omega, h⟩
  have g1 := q_nl g
  have i1 : (i + (1 : Int32)).toInt = ((q + 1 : Nat) : Int) := add_ti hq o1 (by omega) (by omega)
  obtain ⟨x4, e4, e⟩ := bo e
  obtain ⟨gg, gl, gh⟩ := some_of (fs_go jS 176 (.inr (.inr rfl)) v1 i (by omega)) e4
  have mE : MapEq S T := ⟨fS 162 2 (by omega), fS 162 3 (by omega), fun i => fS 164 i (by omega)⟩
  rw [hv, hq, goR_c mE (fun i => fS 176 i (by omega))] at gg
  have ym := om
  rcases io e with ⟨g, e⟩ | ⟨g, e⟩
  · have gm := q_eq g
    obtain rfl := Option.some.inj e
    refine ⟨q + 1, by omega, i1, jS, fS, f2, fun u hu => (hm u hu).trans ⟨?_, ?_⟩⟩
    · rintro (h | ⟨t, t0, t1, h⟩)
      · exact .inl h
      · exact .inr ⟨t, t0, by omega, h⟩
    · rintro (h | ⟨t, t0, t1, h⟩)
      · exact .inl h
      · by_cases k : t = (q : Int)
        · subst k
          have := goR_fun gg h
          omega
        · exact .inr ⟨t, t0, by omega, h⟩
  have gm := q_ne g
  obtain ⟨x5, e5, e⟩ := bo e
  rw [e4] at e5
  obtain rfl := Option.some.inj e5
  obtain ⟨_, e⟩ := io_n e
  obtain ⟨M6, m6, e⟩ := mo e
  obtain rfl := Option.some.inj e
  obtain ⟨w, hw⟩ : ∃ w : Nat, x4.toInt = (w : Int) := ⟨x4.toInt.toNat, by omega⟩
  rw [q_nat hw, vb_1] at m6
  rw [hw] at gg
  refine ⟨q + 1, by omega, i1, by rw [m6]; exact Jw_187 jS w 1 (by decide) (by decide), fun kx j h => by rw [m6, si_ne (by omega)]; exact fS kx j h, by rw [m6, si_2]; exact f2, fun u hu => ?_⟩
  by_cases c : u = w
  · subst c
    constructor
    · intro _; exact .inr ⟨q, by omega, by omega, gg⟩
    · intro _
      show M6.1 187 u ≠ 0
      rw [m6, si_eq]; decide
  · have same : mayb 187 M6 u ↔ mayb 187 S u := by
      unfold mayb
      rw [m6, si_ne (by omega)]
    refine same.trans ((hm u hu).trans ⟨?_, ?_⟩)
    · rintro (h | ⟨t, t0, t1, h⟩)
      · exact .inl h
      · exact .inr ⟨t, t0, by omega, h⟩
    · rintro (h | ⟨t, t0, t1, h⟩)
      · exact .inl h
      · by_cases k : t = (q : Int)
        · subst k
          have := goR_fun gg h
          omega
        · exact .inr ⟨t, t0, by omega, h⟩
theorem thief_r {T : Mem} {n : Nat} {r : Int32 × Mem} (jT : J T) (kp : KP T 176 0) (hm : (T.1 162 4).toInt = (n : Int)) (n8 : n ≤ 8) (on : ∀ v, v < 72 → mayb 186 T v → onP T (v : Int)) (e : f_Mod_goThief T = some r) : J r.2 ∧ (∀ kx i, kx ≠ 186 → kx ≠ 187 → r.2.1 kx i = T.1 kx i) ∧ (∀ u, u < 72 → (mayb 186 r.2 u ↔ (mayb 186 T u ∨ ∃ v, mayb 186 T v ∧ EA T 176 v u) ∧ ¬ occR T 176 n u)) ∧ (r.1 = 0 ↔ ∀ u, u < 72 → ¬ mayb 186 r.2 u) := by
  have k72 : (72 : Int32).toInt = 72 := rfl
  have jr := (some_of (sf_Mod_goThief T jT) e).1
  unfold f_Mod_goThief at e
  obtain ⟨x3, e3, e⟩ := bo e
  obtain ⟨x18, e18, e⟩ := bo e
  obtain ⟨x24, e24, e⟩ := bo e
  obtain ⟨_, e⟩ := io_n e
  obtain rfl := Option.some.inj e
  -- all are wiped
  have K3 : J x3 ∧ (∀ kx i, kx ≠ 187 → x3.1 kx i = T.1 kx i) ∧ ∀ u, u < 72 → ¬ mayb 187 x3 u := by
    refine it_r (I := fun s : Int32 × Mem => ∃ q : Nat, q ≤ 72 ∧ s.1.toInt = (q : Int) ∧ J s.2 ∧ (∀ kx i, kx ≠ 187 → s.2.1 kx i = T.1 kx i) ∧ ∀ u, u < q → ¬ mayb 187 s.2 u) (Q := fun x : Mem => J x ∧ (∀ kx i, kx ≠ 187 → x.1 kx i = T.1 kx i) ∧ ∀ u, u < 72 → ¬ mayb 187 x u) ?_ e3 ⟨0, by omega, rfl, jT, fun _ _ _ => rfl, fun u h => by omega⟩
    rintro ⟨i, S⟩ r ⟨q, q72, hq, jS, fS, hd⟩ e
    dsimp only at hq jS fS hd
    unfold lb_Mod_goThief_2 at e
    dsimp only at e
    rcases io e with ⟨g, e⟩ | ⟨g, e⟩
    · have := q_le g
      obtain rfl := Option.some.inj e
      exact ⟨jS, fS, fun u hu => hd u (by omega)⟩
    have g1 := q_ng g
    have i1 : (i + (1 : Int32)).toInt = ((q + 1 : Nat) : Int) := add_ti hq o1 (by omega) (by omega)
    obtain ⟨_, e⟩ := io_n e
    obtain ⟨M1, m1, e⟩ := mo e
    obtain rfl := Option.some.inj e
    rw [q_nat hq, vb_0] at m1
    refine ⟨q + 1, by omega, i1, by rw [m1]; exact Jw_187 jS q 0 (by decide) (by decide), fun kx j h => by rw [m1, si_ne (by omega)]; exact fS kx j h, fun u hu => ?_⟩
    show ¬ (M1.1 187 u ≠ 0)
    rw [m1]
    by_cases w : u = q
    · subst w; rw [si_eq]; exact fun h => h rfl
    · rw [si_ne (by omega)]; exact hd u (by omega)
  obtain ⟨j3, f3, z3⟩ := K3
  -- where it may be next
  have K18 : J x18 ∧ (∀ kx i, kx ≠ 187 → x18.1 kx i = T.1 kx i) ∧ ∀ u, u < 72 → (mayb 187 x18 u ↔ ∃ v, v < 72 ∧ mayb 186 T v ∧ (u = v ∨ EA T 176 v u)) := by
    refine it_r (I := fun s : Int32 × Mem => ∃ k : Nat, k ≤ 72 ∧ s.1.toInt = (k : Int) ∧ J s.2 ∧ (∀ kx i, kx ≠ 187 → s.2.1 kx i = T.1 kx i) ∧ ∀ u, u < 72 → (mayb 187 s.2 u ↔ ∃ v, v < k ∧ mayb 186 T v ∧ (u = v ∨ EA T 176 v u))) (Q := fun x : Mem => J x ∧ (∀ kx i, kx ≠ 187 → x.1 kx i = T.1 kx i) ∧ ∀ u, u < 72 → (mayb 187 x u ↔ ∃ v, v < 72 ∧ mayb 186 T v ∧ (u = v ∨ EA T 176 v u))) ?_ e18 ⟨0, by omega, rfl, j3, f3, fun u hu => ⟨fun h => absurd h (z3 u hu), fun ⟨v, h, _⟩ => by omega⟩⟩
    rintro ⟨i, S⟩ r ⟨k, k72', hk, jS, fS, hd⟩ e
    dsimp only at hk jS fS hd
    unfold lb_Mod_goThief_23 at e
    dsimp only at e
    rcases io e with ⟨g, e⟩ | ⟨g, e⟩
    · have := q_le g
      obtain rfl := Option.some.inj e
      have : k = 72 := by omega
      subst this
      exact ⟨jS, fS, hd⟩
    have g1 := q_ng g
    have i1 : (i + (1 : Int32)).toInt = ((k + 1 : Nat) : Int) := add_ti hk o1 (by omega) (by omega)
    obtain ⟨_, e⟩ := io_n e
    rw [q_nat hk, fS 186 k (by omega)] at e
    rcases io e with ⟨g, e⟩ | ⟨g, e⟩
    · obtain rfl := Option.some.inj e
      refine ⟨k + 1, by omega, i1, jS, fS, fun u hu => (hd u hu).trans ⟨?_, ?_⟩⟩
      · rintro ⟨v, h1, h2⟩; exact ⟨v, by omega, h2⟩
      · rintro ⟨v, h1, h2, h3⟩
        refine ⟨v, ?_, h2, h3⟩
        rcases Nat.lt_or_ge v k with w | w
        · exact w
        · have : v = k := by omega
          subst this
          exact absurd g h2
    have onk := on k (by omega) g
    have mE : MapEq S T := ⟨fS 162 2 (by omega), fS 162 3 (by omega), fun i => fS 164 i (by omega)⟩
    have onS : onP S (k : Int) := ⟨onk.1, onk.2.1, (onN_c mE).mpr onk.2.2⟩
    have kpS : KP S 176 0 := by
      intro j hj
      have := kp j (by rw [← fS 176 _ (by omega)]; exact hj)
      rw [fS 176 _ (by omega), fS 176 _ (by omega)]
      exact ⟨(onN_c mE).mpr this.1, (onN_c mE).mpr this.2⟩
    obtain ⟨x9, e9, e⟩ := bo e
    obtain ⟨x10, e10, e⟩ := bo e
    obtain ⟨_, e⟩ := io_n e
    obtain ⟨j9, f9, _, h9⟩ := thS_r jS kpS hk (by omega) onS hd e9
    have c10 : x10.toInt = ((k % 36 : Nat) : Int) := by rw [(place_i (v := i) (by omega) (by omega)).1 e10, hk]; omega
    rw [q_nat c10, f9 164 _ (by omega), fS 164 _ (by omega)] at e
    have f9T : ∀ kx i, kx ≠ 187 → x9.1 kx i = T.1 kx i := fun kx i h => by rw [f9 kx i h]; exact fS kx i h
    have goT : ∀ (s : Int) (u : Nat), goR S 176 (k : Int) s (u : Int) ↔ goR T 176 (k : Int) s (u : Int) := fun s u => goR_c mE (fun i => fS 176 i (by omega))
    -- steps lead to places of the net
    have ea : ∀ (s : Int) (u : Nat), 0 ≤ s → s ≤ 3 → u < 72 → goR T 176 (k : Int) s (u : Int) → EA T 176 k u := fun s u s0 s3 hu hg => ⟨by omega, hu, onk, (go_sym jT kp onk ⟨s0, s3⟩ hg (by omega)).1, .inl ⟨s, s0, s3, hg⟩⟩
    rcases io e with ⟨gs, e⟩ | ⟨gs, e⟩
    rotate_left
    · obtain rfl := Option.some.inj e
      refine ⟨k + 1, by omega, i1, j9, f9T, fun u hu => (h9 u hu).trans ⟨?_, ?_⟩⟩
      · rintro (⟨v, h1, h2⟩ | h | ⟨s, s0, s3, hg⟩)
        · exact ⟨v, by omega, h2⟩
        · exact ⟨k, by omega, g, .inl h⟩
        · exact ⟨k, by omega, g, .inr (ea s u s0 s3 hu ((goT s u).mp hg))⟩
      · rintro ⟨v, h1, h2, h3⟩
        by_cases w : v = k
        · subst w
          rcases h3 with h3 | ⟨_, _, _, _, ⟨s, s0, s3, hg⟩ | ⟨h4, _⟩⟩
          · exact .inr (.inl h3)
          · exact .inr (.inr ⟨s, s0, s3, (goT s u).mpr hg⟩)
          · exact absurd (Int32.toInt_inj.mp h4) gs
        · exact .inl ⟨v, by omega, h2, h3⟩
    obtain ⟨x11, e11, e⟩ := bo e
    obtain ⟨x12, e12, e⟩ := bo e
    obtain ⟨x13, e13, e⟩ := bo e
    obtain ⟨_, e⟩ := io_n e
    obtain ⟨M14, m14, e⟩ := mo e
    obtain rfl := Option.some.inj e
    have c11 : x11.toInt = ((k / 36 : Nat) : Int) := by rw [(place_i (v := i) (by omega) (by omega)).2 e11, hk]; omega
    have c12 : x12.toInt = ((k % 36 : Nat) : Int) := by rw [(place_i (v := i) (by omega) (by omega)).1 e12, hk]; omega
    have c13 := place_c (l := 1 - k / 36) (c := k % 36) (by rw [sub_ti o1 c11 (by omega) (by omega)]; omega) c12 (by omega) (by omega) e13
    rw [q_nat c13, vb_1] at m14
    have s3' : (T.1 164 (k % 36)).toInt = 3 := by rw [gs]; rfl
    have cwk : ((k % 36 : Nat) : Int) < xw T * xh T := by
      have o := onk.2.2
      rw [show ((k : Int)) % 36 = ((k % 36 : Nat) : Int) by omega] at o
      exact o.2.1
    have est : EA T 176 k (36 * (1 - k / 36) + k % 36) := ⟨by omega, by omega, onk, stair_on (by omega) (by omega) cwk s3', .inr ⟨s3', rfl⟩⟩
    refine ⟨k + 1, by omega, i1, by rw [m14]; exact Jw_187 j9 _ 1 (by decide) (by decide), fun kx j h => by rw [m14, si_ne (by omega)]; exact f9T kx j h, fun u hu => ?_⟩
    by_cases c : u = 36 * (1 - k / 36) + k % 36
    · subst c
      constructor
      · intro _; exact ⟨k, by omega, g, .inr est⟩
      · intro _
        show M14.1 187 _ ≠ 0
        rw [m14, si_eq]; decide
    · have same : mayb 187 M14 u ↔ mayb 187 x9 u := by
        unfold mayb
        rw [m14, si_ne (by omega)]
      refine same.trans ((h9 u hu).trans ⟨?_, ?_⟩)
      · rintro (⟨v, h1, h2⟩ | h | ⟨s, s0, s3, hg⟩)
        · exact ⟨v, by omega, h2⟩
        · exact ⟨k, by omega, g, .inl h⟩
        · exact ⟨k, by omega, g, .inr (ea s u s0 s3 hu ((goT s u).mp hg))⟩
      · rintro ⟨v, h1, h2, h3⟩
        by_cases w : v = k
        · subst w
          rcases h3 with h3 | ⟨_, _, _, _, ⟨s, s0, s3, hg⟩ | ⟨_, h4⟩⟩
          · exact .inr (.inl h3)
          · exact .inr (.inr ⟨s, s0, s3, (goT s u).mpr hg⟩)
          · exact absurd h4 c
        · exact .inl ⟨v, by omega, h2, h3⟩
  obtain ⟨j18, f18, h18⟩ := K18
  -- whoever is there catches it
  have K24 : (∀ kx i, kx ≠ 186 → x24.2.1 kx i = x18.1 kx i) ∧ (∀ u, u < 72 → (mayb 186 x24.2 u ↔ mayb 187 x18 u ∧ ¬ occR T 176 n u)) ∧ (x24.1 = 0 ↔ ∀ u, u < 72 → ¬ mayb 186 x24.2 u) := by
    refine it_r (I := fun s : Int32 × Int32 × Mem => ∃ k : Nat, k ≤ 72 ∧ s.2.1.toInt = (k : Int) ∧ (∀ kx i, kx ≠ 186 → s.2.2.1 kx i = x18.1 kx i) ∧ (∀ u, u < k → (mayb 186 s.2.2 u ↔ mayb 187 x18 u ∧ ¬ occR T 176 n u)) ∧ (s.1 = 0 ∨ s.1 = 1) ∧ (s.1 = 0 ↔ ∀ u, u < k → ¬ mayb 186 s.2.2 u)) (Q := fun x24 : Int32 × Mem => (∀ kx i, kx ≠ 186 → x24.2.1 kx i = x18.1 kx i) ∧ (∀ u, u < 72 → (mayb 186 x24.2 u ↔ mayb 187 x18 u ∧ ¬ occR T 176 n u)) ∧ (x24.1 = 0 ↔ ∀ u, u < 72 → ¬ mayb 186 x24.2 u)) ?_ e24 ⟨0, by omega, rfl, fun _ _ _ => rfl, fun u h => by omega, .inl rfl, ⟨fun _ u h => by omega, fun _ => rfl⟩⟩
    rintro ⟨any, i, S⟩ r ⟨k, k72', hk, fS, hd, h01, ha⟩ e
    dsimp only at hk fS hd h01 ha
    unfold lb_Mod_goThief_126 at e
    dsimp only at e
    rcases io e with ⟨g, e⟩ | ⟨g, e⟩
    · have := q_le g
      obtain rfl := Option.some.inj e
      have : k = 72 := by omega
      subst this
      exact ⟨fS, hd, ha⟩
    have g1 := q_ng g
    have i1 : (i + (1 : Int32)).toInt = ((k + 1 : Nat) : Int) := add_ti hk o1 (by omega) (by omega)
    obtain ⟨_, e⟩ := io_n e
    rw [q_nat hk, fS 187 k (by omega)] at e
    have body : ∀ w : Int32, (w = 0 ∨ w = 1) → (w ≠ 0 ↔ mayb 187 x18 k ∧ ¬ occR T 176 n k) → j_Mod_goThief_163_126 any i w i S = some r → Sum.elim (fun s : Int32 × Int32 × Mem => ∃ k : Nat, k ≤ 72 ∧ s.2.1.toInt = (k : Int) ∧ (∀ kx i, kx ≠ 186 → s.2.2.1 kx i = x18.1 kx i) ∧ (∀ u, u < k → (mayb 186 s.2.2 u ↔ mayb 187 x18 u ∧ ¬ occR T 176 n u)) ∧ (s.1 = 0 ∨ s.1 = 1) ∧ (s.1 = 0 ↔ ∀ u, u < k → ¬ mayb 186 s.2.2 u)) (fun x24 : Int32 × Mem => (∀ kx i, kx ≠ 186 → x24.2.1 kx i = x18.1 kx i) ∧ (∀ u, u < 72 → (mayb 186 x24.2 u ↔ mayb 187 x18 u ∧ ¬ occR T 176 n u)) ∧ (x24.1 = 0 ↔ ∀ u, u < 72 → ¬ mayb 186 x24.2 u)) r := by
      intro w hw hq e
      unfold j_Mod_goThief_163_126 at e
      obtain ⟨_, e⟩ := io_n e
      obtain ⟨M19, m19, e⟩ := mo e
      obtain ⟨_, e⟩ := io_n e
      obtain rfl := Option.some.inj e
      have wn : vp_nar .boolean w = w := by
        rcases hw with rfl | rfl
        · exact vb_0
        · exact vb_1
      rw [q_nat hk, wn] at m19
      have ek : M19.1 186 k = w := by rw [m19, si_eq]
      have en : ∀ u, u ≠ k → M19.1 186 u = S.1 186 u := fun u h => by rw [m19, si_ne (by omega)]
      rw [q_nat hk, ek]
      obtain ⟨oa, ob⟩ := or01w h01 hw
      refine ⟨k + 1, by omega, i1, fun kx j h => by show M19.1 kx j = _; rw [m19, si_ne (by omega)]; exact fS kx j h, fun u hu => ?_, oa, ⟨fun h u hu => ?_, fun h => ?_⟩⟩
      · show M19.1 186 u ≠ 0 ↔ _
        by_cases c : u = k
        · subst c; rw [ek]; exact hq
        · rw [en u c]; exact hd u (by omega)
      · obtain ⟨h1, h2⟩ := ob h
        show ¬ (M19.1 186 u ≠ 0)
        by_cases c : u = k
        · subst c; rw [ek]; exact fun hh => hh h2
        · rw [en u c]; exact ha.mp h1 u (by omega)
      · have h1 : any = 0 := ha.mpr (fun u hu hh => h u (by omega) (by show M19.1 186 u ≠ 0; rw [en u (by omega)]; exact hh))
        have h2 : w = 0 := Classical.byContradiction (fun hh => h k (by omega) (by show M19.1 186 k ≠ 0; rw [ek]; exact hh))
        show (any ||| w) = 0
        rw [h1, h2]; decide
    rcases io e with ⟨g, e⟩ | ⟨g, e⟩
    · exact body 0 (.inl rfl) ⟨fun h => absurd rfl h, fun h => absurd g h.1⟩ e
    obtain ⟨x20, e20, e⟩ := bo e
    have op := onPlace_i (n := n) (by rw [fS 162 4 (by omega), f18 162 4 (by omega)]; exact hm) n8 e20
    have f176 : ∀ p, S.1 176 p = T.1 176 p := fun p => by rw [fS 176 p (by omega), f18 176 p (by omega)]
    rcases io e with ⟨g2, e⟩ | ⟨g2, e⟩
    · refine body 1 (.inr rfl) ⟨fun _ => ⟨g, ?_⟩, fun _ => by decide⟩ e
      rintro ⟨p, pn, hp⟩
      have := op p
      rw [g2, bt_0] at this
      have := of_decide_eq_false this.symm
      exact this ⟨pn, Int32.toInt_inj.mp (by rw [f176, hp, hk])⟩
    · refine body 0 (.inl rfl) ⟨fun h => absurd rfl h, fun h => absurd ?_ h.2⟩ e
      have ex : ∃ p, bt x20 p = true := by
        refine Classical.byContradiction (fun h => g2 (bt_ext (fun d _ => ?_)))
        rw [bt_0]
        cases hb : bt x20 d with
        | false => rfl
        | true => exact absurd ⟨d, hb⟩ h
      obtain ⟨p, hp⟩ := ex
      rw [op p] at hp
      obtain ⟨pn, hp⟩ := of_decide_eq_true hp
      exact ⟨p, pn, by rw [← f176, hp, hk]⟩
  obtain ⟨f24, h24, a24⟩ := K24
  refine ⟨jr, fun kx i h1 h2 => by rw [f24 kx i h1]; exact f18 kx i h2, fun u hu => (h24 u hu).trans ?_, a24⟩
  rw [h18 u hu]
  constructor
  · rintro ⟨⟨v, hv, h1, h2⟩, h3⟩
    refine ⟨?_, h3⟩
    rcases h2 with rfl | h2
    · exact .inl h1
    · exact .inr ⟨v, h1, h2⟩
  · rintro ⟨h | ⟨v, h1, h2⟩, h3⟩
    · exact ⟨⟨u, hu, h, .inl rfl⟩, h3⟩
    · exact ⟨⟨v, h2.1, h1, .inr h2⟩, h3⟩
end
section
/-! thieves: a minute of both; flees, caught -/
theorem onP_c {A B : Mem} (h : MapEq A B) {p : Int} : onP A p ↔ onP B p := by
  unfold onP
  rw [onN_c h]
theorem TN_m {A B N : Mem} (h : MapEq B A) (t : TN A N) : TN B N := fun l c l2 hb => ⟨(t l c l2 hb).1, (onP_c h).mpr (t l c l2 hb).2⟩
theorem TN_2 {A N N' : Mem} (h2 : N'.2.1 151 2 = N.2.1 151 2) (h3 : N'.2.1 151 3 = N.2.1 151 3) (t : TN A N) : TN A N' := by
  intro l c l2 hb
  have : l = 0 ∨ l = 1 := by omega
  rcases this with rfl | rfl
  · exact t 0 c l2 (by rw [← h2]; exact hb)
  · exact t 1 c l2 (by rw [← h3]; exact hb)
theorem TBq_2 {N N' : Mem} (h2 : N'.2.1 151 2 = N.2.1 151 2) (h3 : N'.2.1 151 3 = N.2.1 151 3) {u : Nat} (hu : u < 72) : TBq N' u ↔ TBq N u := by
  unfold TBq
  have : u / 36 = 0 ∨ u / 36 = 1 := by omega
  rcases this with k | k
  · rw [k, show 2 + 0 = 2 from rfl, h2]
  · rw [k, show 2 + 1 = 3 from rfl, h3]
/-- recorded first and struck: who is there catches it -/
theorem struck_c {X x5 x : Mem} {a b : Int64} (e5 : f_Thief_record (0 : Int32) a b X = some x5) (e : f_Thief_strike (0 : Int32) x5 = some x) : x.1 = X.1 ∧ x.2.2 = X.2.2 ∧ (∀ k i, k ≠ 151 → k ≠ 152 → k ≠ 153 → x.2.1 k i = X.2.1 k i) ∧ (∀ c, c < 64 → bl (x.2.1 151 2) c = (bl (X.2.1 151 2) c && !bl a c)) ∧ (∀ c, c < 64 → bl (x.2.1 151 3) c = (bl (X.2.1 151 3) c && !bl b c)) := by
  unfold f_Thief_record at e5
  rw [if_neg (by decide), if_neg (by decide), show (0 : Int32).toNatClampNeg = 0 from rfl] at e5
  obtain ⟨_, e5⟩ := io_n e5
  obtain ⟨M1, m1, e5⟩ := mo e5
  obtain ⟨_, e5⟩ := io_n e5
  obtain ⟨M2, m2, e5⟩ := mo e5
  obtain rfl := Option.some.inj e5
  unfold f_Thief_strike at e
  rw [if_neg (by decide), if_neg (by decide), show (0 : Int32).toNatClampNeg = 0 from rfl] at e
  obtain ⟨_, e⟩ := io_n e
  obtain ⟨M3, m3, e⟩ := mo e
  obtain ⟨_, e⟩ := io_n e
  obtain ⟨M4, m4, e⟩ := mo e
  obtain rfl := Option.some.inj e
  have a152 : M2.2.1 152 0 = a := by rw [m2, sl_ne (by omega), m1, sl_eq]
  have a153 : M3.2.1 153 0 = b := by rw [m3, sl_ne (by omega), m2, sl_eq]
  have c2 : M2.2.1 151 2 = X.2.1 151 2 := by rw [m2, sl_ne (by omega), m1, sl_ne (by omega)]
  have c3 : M3.2.1 151 3 = X.2.1 151 3 := by rw [m3, sl_ne (by omega), m2, sl_ne (by omega), m1, sl_ne (by omega)]
  refine ⟨by rw [m4, sl_1, m3, sl_1, m2, sl_1, m1, sl_1], ?_, fun k i h1 h2 h3 => by rw [m4, sl_ne (by omega), m3, sl_ne (by omega), m2, sl_ne (by omega), m1, sl_ne (by omega)], fun c hc => ?_, fun c hc => ?_⟩
  · rw [m4]; show M3.2.2 = _
    rw [m3]; show M2.2.2 = _
    rw [m2]; show M1.2.2 = _
    rw [m1]; rfl
  · rw [m4, sl_ne (by omega), m3, sl_eq, a152, c2, bl_and, bl_not hc]
  · rw [m4, sl_eq, a153, c3, bl_and, bl_not hc]
def HR (n : Nat) (X R x r : Mem) : Prop := ZT x r n ∧ TN r x ∧ (∀ u, u < 72 → (TBq x u ↔ mayb 186 r u)) ∧ FQ2 X R x r
theorem hunt_2 {X0 R0 X R x r1 : Mem} {n : Nat} {r : Int32 × Mem} (h : HR n X0 R0 X R) (ex : f_Top_hunt X = some x) (e1 : f_Mod_goMinute 176 R = some r1) (e2 : f_Mod_goThief r1 = some r) : HR n X0 R0 x r.2 ∧ (r.1 = 0 ↔ ∀ u, u < 72 → ¬ TBq x u) ∧ ((∀ u, u < 72 → ¬ TBq X u) → ∀ u, u < 72 → ¬ TBq x u) := by
  obtain ⟨zt, tn, tm, fq⟩ := h
  unfold f_Top_hunt at ex
  obtain ⟨x1, h1, ex⟩ := bo ex
  obtain ⟨x2, h2, ex⟩ := bo ex
  obtain ⟨x3, h3, ex⟩ := bo ex
  obtain ⟨x4, h4, ex⟩ := bo ex
  obtain ⟨x5, h5, ex⟩ := bo ex
  obtain ⟨x6, h6, ex⟩ := bo ex
  obtain rfl := Option.some.inj ex
  obtain ⟨zt1, pp, fq1⟩ := pass_t zt h1 e1
  have fx : Fx mP25 [] X x1 := wf_Clock_pass 25 32 X (by decide +kernel) (oc_c (sb_r _) (by decide +kernel)) (oc_c (sb_r _) (by decide +kernel)) (oc_c (sb_r _) (by decide +kernel)) (oc_c (sb_r _) (by decide +kernel)) Fx_r h1
  have fr : Fx mG176 [] R r1 := wf_Mod_goMinute 176 R (by decide +kernel) (oc_c (sb_r _) (by decide +kernel)) Fx_r e1
  have a2 : x1.2.1 151 2 = X.2.1 151 2 := (fx 151 2 (by decide +kernel) (by simp)).2.1
  have a3 : x1.2.1 151 3 = X.2.1 151 3 := (fx 151 3 (by decide +kernel) (by simp)).2.1
  have a186 : ∀ u, r1.1 186 u = R.1 186 u := fun u => (fr 186 u (by rw [show sl 186 u = 186 from rfl]; decide +kernel) (by simp)).1
  obtain ⟨n8, j1, ⟨zg1, zc1, zl1⟩, zs1, zv1, zw1⟩ := zt1
  have wh := awh j1
  have mE : MapEq r1 R := ⟨fq1.2.1 162 2 (by unfold CRr CR; omega), fq1.2.1 162 3 (by unfold CRr CR; omega), fun i => fq1.2.1 164 i (by unfold CRr CR; omega)⟩
  have tn1 : TN r1 x1 := TN_2 a2 a3 (TN_m mE tn)
  have tm1 : ∀ u, u < 72 → (TBq x1 u ↔ mayb 186 r1 u) := fun u hu => (TBq_2 a2 a3 hu).trans ((tm u hu).trans (by unfold mayb; rw [a186]))
  have kp1 := KP_v zv1
  obtain ⟨s1, s2, s3, s4, s5⟩ := stir_c j1 kp1 zv1 zw1 zg1.2.2.2 tn1 h2
  -- who is where
  have at26 : ∀ p, p < n → 0 ≤ (x2.1 26 p).toInt ∧ (x2.1 26 p).toInt ≤ 35 := fun p pn => by
    have w := (whr_t ⟨n8, j1, ⟨zg1, zc1, zl1⟩, zs1, zv1, zw1⟩ pn).2
    rw [s1]; exact ⟨w.1, w.2.1⟩
  have hn : (x2.1 6 4).toInt = (n : Int) := by rw [s1, zc1.2.1]; exact zc1.1
  have o3 := occ_c (k := 25) (l := 0) hn n8 rfl at26 h3
  have o4 := occ_c (k := 25) (l := 1) hn n8 rfl at26 h4
  have occ : ∀ l c : Nat, l < 2 → c < 36 → ((∃ p, p < n ∧ (x2.1 (25 + 2) p).toInt = (l : Int) ∧ (x2.1 (25 + 1) p).toInt = (c : Int)) ↔ occR r1 176 n (36 * l + c)) := by
    intro l c l2 c36
    rw [s1]
    unfold occR
    constructor
    · rintro ⟨p, pn, hl, hc⟩
      obtain ⟨q1, _⟩ := zs1.1 p pn
      have e0 : scn x1 25 0 p = x1.1 26 p := rfl
      have e1' : scn x1 25 1 p = x1.1 27 p := rfl
      rw [e0, e1'] at q1
      have hl : (x1.1 27 p).toInt = (l : Int) := hl
      have hc : (x1.1 26 p).toInt = (c : Int) := hc
      exact ⟨p, pn, by omega⟩
    · rintro ⟨p, pn, hp⟩
      obtain ⟨q1, q2, q3, q4, q5, _⟩ := zs1.1 p pn
      have e0 : scn x1 25 0 p = x1.1 26 p := rfl
      have e1' : scn x1 25 1 p = x1.1 27 p := rfl
      rw [e0, e1'] at q1
      rw [e0] at q2 q3
      rw [e1'] at q4 q5
      refine ⟨p, pn, ?_, ?_⟩
      · show (x1.1 27 p).toInt = _
        omega
      · show (x1.1 26 p).toInt = _
        omega
  obtain ⟨k1, k2, k3, k4, k5⟩ := struck_c h5 h6
  have st : ∀ l c : Nat, l < 2 → c < 36 → (bl (x6.2.1 151 (2 + l)) c = true ↔ bl (x2.2.1 151 (2 + l)) c = true ∧ ¬ occR r1 176 n (36 * l + c)) := by
    intro l c l2 c36
    rw [← occ l c l2 c36]
    have : l = 0 ∨ l = 1 := by omega
    rcases this with rfl | rfl
    · rw [show 2 + 0 = 2 from rfl, k4 c (by omega), Bool.and_eq_true, Bool.not_eq_true', ← Bool.not_eq_true, o3 c]
    · rw [show 2 + 1 = 3 from rfl, k5 c (by omega), Bool.and_eq_true, Bool.not_eq_true', ← Bool.not_eq_true, o4 c]
  have tb6 : ∀ u, u < 72 → (TBq x6 u ↔ TBq x2 u ∧ ¬ occR r1 176 n u) := by
    intro u hu
    have eu : u = 36 * (u / 36) + u % 36 := by omega
    have := st (u / 36) (u % 36) (by omega) (by omega)
    rw [← eu] at this
    exact this
  obtain ⟨t1, t2, t3, t4⟩ := thief_r j1 kp1 zc1.1 n8 (fun v hv hm => TN_b tn1 hv ((tm1 v hv).mpr hm)) e2
  have tm6 : ∀ u, u < 72 → (TBq x6 u ↔ mayb 186 r.2 u) := by
    intro u hu
    rw [tb6 u hu, t3 u hu, s5 u hu, tm1 u hu]
    constructor
    · rintro ⟨h | ⟨v, h, g⟩, o⟩
      · exact ⟨.inl h, o⟩
      · exact ⟨.inr ⟨v, (tm1 v g.1).mp h, g⟩, o⟩
    · rintro ⟨h | ⟨v, h, g⟩, o⟩
      · exact ⟨.inl h, o⟩
      · exact ⟨.inr ⟨v, (tm1 v g.1).mpr h, g⟩, o⟩
  have f61 : ∀ kx i, x6.1 kx i = x1.1 kx i := fun kx i => by rw [k1, s1]
  have l61 : ∀ k i, k ≠ 151 → k ≠ 152 → k ≠ 153 → x6.2.1 k i = x1.2.1 k i := fun k i a b c => by rw [k3 k i a b c]; exact s3 k i (by omega)
  have q61 : x6.2.2 = x1.2.2 := by rw [k2, s2]
  have agx : AgX x1 x6 := ⟨f61 3 2, f61 3 3, fun q => f61 4 q, f61 6 4, f61 6 5, fun q => f61 7 q, fun q => f61 8 q, f61 40 4, fun q => f61 41 q, fun q => f61 35 q, fun q => l61 33 q (by omega) (by omega) (by omega), fun q => l61 34 q (by omega) (by omega) (by omega)⟩
  have agr : AgR r1 r.2 := ⟨t2 162 2 (by omega) (by omega), t2 162 3 (by omega) (by omega), t2 162 4 (by omega) (by omega), t2 162 5 (by omega) (by omega), t2 162 23 (by omega) (by omega), fun i => t2 164 i (by omega) (by omega), fun i => t2 165 i (by omega) (by omega), fun i => t2 166 i (by omega) (by omega), fun i => t2 172 i (by omega) (by omega)⟩
  have mE2 : MapEq r.2 r1 := ⟨t2 162 2 (by omega) (by omega), t2 162 3 (by omega) (by omega), fun i => t2 164 i (by omega) (by omega)⟩
  have tn6 : TN r.2 x6 := by
    refine TN_m mE2 (fun l c l2 hb => ?_)
    have : l = 0 ∨ l = 1 := by omega
    rcases this with rfl | rfl
    · refine s4 0 c l2 ?_
      have hc : c < 64 := by
        rcases Nat.lt_or_ge c 64 with h | h
        · exact h
        · rw [bl_hi h] at hb; cases hb
      rw [show 2 + 0 = 2 from rfl, k4 c hc, Bool.and_eq_true] at hb
      exact hb.1
    · refine s4 1 c l2 ?_
      have hc : c < 64 := by
        rcases Nat.lt_or_ge c 64 with h | h
        · exact h
        · rw [bl_hi h] at hb; cases hb
      rw [show 2 + 1 = 3 from rfl, k5 c hc, Bool.and_eq_true] at hb
      exact hb.1
  refine ⟨⟨⟨n8, t1, ZB_a agx agr ⟨zg1, zc1, zl1⟩, ZS_c n8 (scn_f (fun kx i _ _ => f61 kx i)) (fun i _ => (t2 176 i (by omega) (by omega)).symm) zs1, ZV_a n8 agr (fun i _ => t2 176 i (by omega) (by omega)) zv1, ZW_a agx agr (plk_c (fun i _ _ => t2 176 i (by omega) (by omega)) zv1.2.1.2) zw1⟩, tn6, tm6, FQ2_t fq (FQ2_t fq1 ⟨⟨fun kx i _ => f61 kx i, fun i => l61 33 i (by omega) (by omega) (by omega), fun i => l61 34 i (by omega) (by omega) (by omega), fun i => by rw [q61], fun i => by rw [q61]⟩, fun kx i w => t2 kx i (by unfold CRr CR at w; omega) (by unfold CRr CR at w; omega), ⟨f61 0 15, fun i => f61 161 i⟩, t2 162 12 (by omega) (by omega), fun i => t2 168 i (by omega) (by omega)⟩)⟩, t4.trans ⟨fun h u hu hh => h u hu ((tm6 u hu).mp hh), fun h u hu hh => h u hu ((tm6 u hu).mpr hh)⟩, fun hno u hu hh => ?_⟩
  have := ((tb6 u hu).mp hh).1
  rcases (s5 u hu).mp this with h | ⟨v, h, g⟩
  · exact hno u hu ((TBq_2 a2 a3 hu).mp h)
  · exact hno v g.1 ((TBq_2 a2 a3 g.1).mp h)
/-- two loops, the second of which may end first -/
theorem it_s {S T X Y : Type} {f : S → Option (S ⊕ X)} {g : T → Option (T ⊕ Y)} {I : S → T → Prop} {K : S → Y → Prop} {Q : X → Y → Prop} (hs : ∀ s t a b, I s t → f s = some a → g t = some b → (∃ s' t', a = .inl s' ∧ b = .inl t' ∧ I s' t') ∨ (∃ x y, a = .inr x ∧ b = .inr y ∧ Q x y) ∨ (∃ s' y, a = .inl s' ∧ b = .inr y ∧ K s' y)) (hk : ∀ s y a, K s y → f s = some a → (∃ s', a = .inl s' ∧ K s' y) ∨ (∃ x, a = .inr x ∧ Q x y)) {n m : Nat} {s : S} {t : T} {x : X} {y : Y} (e : iter f n s = some x) (d : iter g m t = some y) (h : I s t) : Q x y := by
  have kk : ∀ (n : Nat) (s : S) (y : Y), iter f n s = some x → K s y → Q x y := by
    intro n
    induction n with
    | zero => intro s y e _; cases e
    | succ n ih =>
      intro s y e k
      simp only [iter] at e
      cases hf : f s with
      | none => rw [hf] at e; cases e
      | some a =>
        rw [hf] at e
        rcases hk s y a k hf with ⟨s', rfl, k'⟩ | ⟨x', rfl, q⟩
        · exact ih s' y e k'
        · obtain rfl := Option.some.inj e
          exact q
  induction n generalizing s t m with
  | zero => cases e
  | succ n ih =>
    cases m with
    | zero => cases d
    | succ m =>
      simp only [iter] at e d
      cases hf : f s with
      | none => rw [hf] at e; cases e
      | some a =>
        cases hg : g t with
        | none => rw [hg] at d; cases d
        | some b =>
          rw [hf] at e
          rw [hg] at d
          rcases hs s t a b h hf hg with ⟨s', t', rfl, rfl, k⟩ | ⟨x', y', rfl, rfl, k⟩ | ⟨s', y', rfl, rfl, k⟩
          · exact ih e d k
          · obtain rfl := Option.some.inj e
            obtain rfl := Option.some.inj d
            exact k
          · obtain rfl := Option.some.inj d
            exact kk n s' y' e k
theorem it_u {S X : Type} {f : S → Option (S ⊕ X)} {n : Nat} {s : S} {x : X} (e : iter f n s = some x) : ∃ m r, f s = some r ∧ (∀ s', r = .inl s' → iter f m s' = some x) ∧ (∀ y, r = .inr y → y = x) := by
  cases n with
  | zero => cases e
  | succ n =>
    simp only [iter] at e
    cases hf : f s with
    | none => rw [hf] at e; cases e
    | some a =>
      rw [hf] at e
      refine ⟨n, a, rfl, fun s' h => ?_, fun y h => ?_⟩
      · subst h; exact e
      · subst h; exact Option.some.inj e
/-- a thief's first place -/
theorem place1_r {N x : Mem} {f : Nat} {v1 v2 : Int32} (jN : J N) (h1 : v1.toInt = (f : Int)) (e : iter (lb_Mod_thiefIn_14 v1 v2) FU ((0 : Int32), N) = some x) : J x ∧ (∀ kx i, kx ≠ 186 → x.1 kx i = N.1 kx i) ∧ ∀ u, u < 72 → (mayb 186 x u ↔ u = f) := by
  have k72 : (72 : Int32).toInt = 72 := rfl
  refine it_r (I := fun s : Int32 × Mem => ∃ q : Nat, q ≤ 72 ∧ s.1.toInt = (q : Int) ∧ J s.2 ∧ (∀ kx i, kx ≠ 186 → s.2.1 kx i = N.1 kx i) ∧ ∀ u, u < q → (mayb 186 s.2 u ↔ u = f)) (Q := fun x : Mem => J x ∧ (∀ kx i, kx ≠ 186 → x.1 kx i = N.1 kx i) ∧ ∀ u, u < 72 → (mayb 186 x u ↔ u = f)) ?_ e ⟨0, by omega, rfl, jN, fun _ _ _ => rfl, fun u h => by omega⟩
  rintro ⟨i, S⟩ r ⟨q, q72, hq, jS, fS, hd⟩ e
  dsimp only at hq jS fS hd
  unfold lb_Mod_thiefIn_14 at e
  dsimp only at e
  rcases io e with ⟨g, e⟩ | ⟨g, e⟩
  · have := q_le g
    obtain rfl := Option.some.inj e
    exact ⟨jS, fS, fun u hu => hd u (by omega)⟩
  have g1 := q_ng g
  have i1 : (i + (1 : Int32)).toInt = ((q + 1 : Nat) : Int) := add_ti hq o1 (by omega) (by omega)
  rcases io e with ⟨g, e⟩ | ⟨g, e⟩
  · have gg := q_eq g
    obtain ⟨_, e⟩ := io_n e
    obtain ⟨M1, m1, e⟩ := mo e
    obtain rfl := Option.some.inj e
    rw [q_nat hq, vb_1] at m1
    refine ⟨q + 1, by omega, i1, by rw [m1]; exact Jw_186 jS q 1 (by decide) (by decide), fun kx j h => by rw [m1, si_ne (by omega)]; exact fS kx j h, fun u hu => ?_⟩
    show M1.1 186 u ≠ 0 ↔ _
    rw [m1]
    by_cases w : u = q
    · subst w
      rw [si_eq]
      exact ⟨fun _ => by omega, fun _ => by decide⟩
    · rw [si_ne (by omega)]; exact hd u (by omega)
  · have gg := q_ne g
    obtain ⟨_, e⟩ := io_n e
    obtain ⟨M1, m1, e⟩ := mo e
    obtain rfl := Option.some.inj e
    rw [q_nat hq, vb_0] at m1
    refine ⟨q + 1, by omega, i1, by rw [m1]; exact Jw_186 jS q 0 (by decide) (by decide), fun kx j h => by rw [m1, si_ne (by omega)]; exact fS kx j h, fun u hu => ?_⟩
    show M1.1 186 u ≠ 0 ↔ _
    rw [m1]
    by_cases w : u = q
    · subst w
      rw [si_eq]
      exact ⟨fun h => absurd rfl h, fun h => by omega⟩
    · rw [si_ne (by omega)]; exact hd u (by omega)
/-- both begin -/
theorem begin_h {X R X1 X2 R1 R2 : Mem} {n l c : Nat} {v1 v2 p w : Int32} (zq : ZQ X R n) (hl : v2.toInt = (l : Int)) (hc : v1.toInt = (c : Int)) (l2 : l < 2) (c36 : c < 36) (on : onN R l c) (hp : p.toInt = ((36 * l + c : Nat) : Int)) (e1 : f_Scene_copy 25 11 X = some X1) (e2 : f_Thief_start v2 v1 X1 = some X2) (f1 : f_Mod_lay 163 176 (0 : Int32) R = some R1) (f2 : iter (lb_Mod_thiefIn_14 p w) FU ((0 : Int32), R1) = some R2) : HR n X R X2 R2 := by
  obtain ⟨zt1, fq1⟩ := begin_t zq e1 f1
  obtain ⟨n8, j1, zb1, zs1, zv1, zw1⟩ := zt1
  obtain ⟨s1, s2, s3, s4, s5⟩ := start_c hl hc l2 c36 e2
  obtain ⟨p1, p2, p3⟩ := place1_r j1 hp f2
  have agx : AgX X1 X2 := ⟨by rw [s1], by rw [s1], fun q => by rw [s1], by rw [s1], by rw [s1], fun q => by rw [s1], fun q => by rw [s1], by rw [s1], fun q => by rw [s1], fun q => by rw [s1], fun q => s3 33 q (by omega), fun q => s3 34 q (by omega)⟩
  have agr : AgR R1 R2 := ⟨p2 162 2 (by omega), p2 162 3 (by omega), p2 162 4 (by omega), p2 162 5 (by omega), p2 162 23 (by omega), fun i => p2 164 i (by omega), fun i => p2 165 i (by omega), fun i => p2 166 i (by omega), fun i => p2 172 i (by omega)⟩
  have mE : MapEq R2 R := ⟨by rw [p2 162 2 (by omega)]; exact fq1.2.1 162 2 (by unfold CRr CR; omega), by rw [p2 162 3 (by omega)]; exact fq1.2.1 162 3 (by unfold CRr CR; omega), fun i => by rw [p2 164 i (by omega)]; exact fq1.2.1 164 i (by unfold CRr CR; omega)⟩
  refine ⟨⟨n8, p1, ZB_a agx agr zb1, ZS_c n8 (scn_f (fun kx i _ _ => by rw [s1])) (fun i _ => (p2 176 i (by omega)).symm) zs1, ZV_a n8 agr (fun i _ => p2 176 i (by omega)) zv1, ZW_a agx agr (plk_c (fun i _ _ => p2 176 i (by omega)) zv1.2.1.2) zw1⟩, ?_, fun u hu => (s5 u hu).trans (p3 u hu).symm, FQ2_t fq1 ⟨⟨fun kx i _ => by rw [s1], fun i => s3 33 i (by omega), fun i => s3 34 i (by omega), fun i => by rw [s2], fun i => by rw [s2]⟩, fun kx i h => p2 kx i (by unfold CRr CR at h; omega), ⟨by rw [s1], fun i => by rw [s1]⟩, p2 162 12 (by omega), fun i => p2 168 i (by omega)⟩⟩
  intro l' d l2' hb
  obtain ⟨rfl, rfl⟩ := (s4 l' d l2').mp hb
  exact ⟨c36, (onP_c mE).mpr ((onP_lc l2 c36).mpr on)⟩
/-- caught -/
theorem caught_q {X R : Mem} {n : Nat} {v1 v2 : Int32} {x r : Int32 × Mem} (za : ZA X R n) (ex : f_Top_caught v1 v2 X = some x) (er : f_Mod_caught v1 v2 R = some r) : x.1 = r.1 ∧ (RR X R → RR x.2 r.2) := by
  have k30 : (30 : Int32).toInt = 30 := rfl
  have km : (1000000 : Int32).toInt = 1000000 := rfl
  unfold f_Mod_caught at er
  obtain ⟨M1, m1, er⟩ := mo er
  obtain ⟨zaM, fqM⟩ := ZA_M1 za m1
  obtain ⟨n8, jM, ⟨zg, zc, zl⟩, zs, zv, zw⟩ := zaM.1
  unfold f_Top_caught at ex
  obtain ⟨x1, ex1, ex⟩ := bo ex
  obtain ⟨y2, ey2, er⟩ := bo er
  rcases plc_2 zg jM ex1 ey2 with ⟨a, b⟩ | ⟨a, b, l, c, l2, c36, hl, hc, onc⟩
  · rw [a, if_pos rfl] at ex
    rw [b, if_pos rfl] at er
    obtain rfl := Option.some.inj ex
    obtain rfl := Option.some.inj er
    exact ⟨rfl, FQ2_RR fqM⟩
  rw [a, if_neg (by decide)] at ex
  rw [b, if_neg (by decide)] at er
  obtain ⟨X2, e2, ex⟩ := bo ex
  obtain ⟨X3, e3, ex⟩ := bo ex
  obtain ⟨s, es, ex⟩ := bo ex
  obtain ⟨p3, f3, er⟩ := bo er
  obtain ⟨t4, f4, er⟩ := bo er
  unfold f_Mod_thiefIn at f4
  obtain ⟨R1, g1, f4⟩ := bo f4
  obtain ⟨R6, g6, f4⟩ := bo f4
  obtain ⟨t, gt, f4⟩ := bo f4
  have h0 := begin_h zaM.1 hl hc l2 c36 onc (place_c hl hc l2 c36 f3) e2 e3 g1 g6
  have K : (∃ A B, s = .inl A ∧ t = .inl B ∧ FQ2 X M1 A B) ∨ (∃ k A B, s = .inr (k, A) ∧ t = .inr (k, B) ∧ k.toInt ≤ 30 ∧ FQ2 X M1 A B) := by
    refine it_2 (I := fun (s t : Int32 × Mem) => s.1 = t.1 ∧ HR n X M1 s.2 t.2 ∧ ∃ k : Nat, s.1.toInt = (k : Int)) (Q := fun (s t : Mem ⊕ (Int32 × Mem)) => (∃ A B, s = .inl A ∧ t = .inl B ∧ FQ2 X M1 A B) ∨ (∃ k A B, s = .inr (k, A) ∧ t = .inr (k, B) ∧ k.toInt ≤ 30 ∧ FQ2 X M1 A B)) ?_ es gt ⟨rfl, h0, 1, rfl⟩
    rintro ⟨i, N⟩ ⟨i', T⟩ A B ⟨hi, hh, k, hk⟩ eA eB
    dsimp only at hi hh hk
    subst hi
    unfold lb_Top_caught_36 at eA
    unfold lb_Mod_thiefIn_44 at eB
    dsimp only at eA eB
    rcases io eA with ⟨g, eA⟩ | ⟨g, eA⟩
    · rw [if_pos g] at eB
      obtain rfl := Option.some.inj eA
      obtain rfl := Option.some.inj eB
      exact .inr ⟨_, _, rfl, rfl, .inl ⟨_, _, rfl, rfl, hh.2.2.2⟩⟩
    rw [if_neg g] at eB
    have gl := q_nl g
    obtain ⟨x4, e4, eA⟩ := bo eA
    obtain ⟨x5, e5, eA⟩ := bo eA
    obtain ⟨x7, e7, eB⟩ := bo eB
    obtain ⟨x8, e8, eB⟩ := bo eB
    obtain ⟨hh', z1, _⟩ := hunt_2 hh e4 e7 e8
    rcases gone_c hh'.2.1 e5 with ⟨hx, hno⟩ | ⟨hx, u, hu, hub⟩
    · rw [hx, if_neg (by decide)] at eA
      rw [if_pos (z1.mpr hno)] at eB
      obtain rfl := Option.some.inj eA
      obtain rfl := Option.some.inj eB
      exact .inr ⟨_, _, rfl, rfl, .inr ⟨_, _, _, rfl, rfl, by omega, hh'.2.2.2⟩⟩
    · rw [hx, if_pos rfl] at eA
      rw [if_neg (fun h => z1.mp h u hu hub)] at eB
      obtain rfl := Option.some.inj eA
      obtain rfl := Option.some.inj eB
      exact .inl ⟨_, _, rfl, rfl, rfl, hh', k + 1, add_ti hk o1 (by omega) (by omega)⟩
  rcases K with ⟨A, B, rfl, rfl, fq⟩ | ⟨k, A, B, rfl, rfl, hk, fq⟩
  · have ex := el_l ex
    have f4 := el_l f4
    obtain rfl := Option.some.inj ex
    obtain rfl := Option.some.inj f4
    rw [if_pos rfl] at er
    obtain rfl := Option.some.inj er
    exact ⟨rfl, fun h => FQ2_RR fq (FQ2_RR fqM h)⟩
  · have ex := el_r ex
    have f4 := el_r f4
    obtain rfl := Option.some.inj ex
    obtain rfl := Option.some.inj f4
    dsimp only at er
    rw [if_neg (fun h => by have := q_eq h; omega)] at er
    obtain rfl := Option.some.inj er
    exact ⟨rfl, fun h => FQ2_RR fq (FQ2_RR fqM h)⟩
end
section
/-! watch: the least set that one gets to, both sides -/
def SL (ed : Nat → Nat → Prop) (bar : Nat → Prop) (f t : Nat) : Prop := ∀ P : Nat → Prop, P f → (∀ v u, P v → ed v u → ¬ bar u → P u) → P t
theorem SL_i {ed : Nat → Nat → Prop} {bar : Nat → Prop} {f t : Nat} {S : Nat → Prop} (t72 : t < 72) (hed : ∀ v u, ed v u → v < 72 ∧ u < 72) (f72 : f < 72) (hf : S f) (hc : ∀ v u, v < 72 → S v → ed v u → ¬ bar u → S u) (hm : ∀ P : Nat → Prop, P f → (∀ v u, P v → ed v u → ¬ bar u → P u) → ∀ u, u < 72 → S u → P u) : S t ↔ SL ed bar f t := by
  constructor
  · intro h P pf pc
    exact hm P pf pc t t72 h
  · intro h
    exact h S hf (fun v u hv e b => hc v u (hed v u e).1 hv e b)
def barR (R : Mem) (n : Nat) (set : Int32) (u : Nat) : Prop := ∃ p, p < n ∧ bt set p = true ∧ (R.1 163 p).toInt = (u : Int)
theorem EA_lt {R : Mem} {a v u : Nat} (h : EA R a v u) : v < 72 ∧ u < 72 := ⟨h.1, h.2.1⟩
/-- the class roams -/
theorem roam_c {X R x : Mem} {n f : Nat} {bar : Nat → Prop} (jR : J R) (kp : KP R 163 0) (zv : ZV R (R.1 163) n) (zw : ZW X R 163) (kr : ∀ i, i < 36 → 0 ≤ (R.1 164 i).toInt ∧ (R.1 164 i).toInt ≤ 3) (tn : TN R X) (f72 : f < 72) (hf : ∀ u, u < 72 → (TBq X u ↔ u = f)) (hb : ∀ l c : Nat, l < 2 → c < 36 → (bl (X.2.1 (152 + l) 0) c = true ↔ bar (36 * l + c))) (e : f_Thief_roam 32 X = some x) : x.1 = X.1 ∧ x.2.2 = X.2.2 ∧ (∀ k i, ¬ (k = 151 ∧ (i = 2 ∨ i = 3)) → x.2.1 k i = X.2.1 k i) ∧ ∀ t, t < 72 → (TBq x t ↔ SL (EA R 163) bar f t) := by
  have k72 : (72 : Int32).toInt = 72 := rfl
  unfold f_Thief_roam at e
  obtain ⟨_, e⟩ := io_n e
  obtain ⟨y, ey, e⟩ := bo e
  have key : Sum.elim (fun N : Mem => False) (fun N : Mem => N.1 = X.1 ∧ N.2.2 = X.2.2 ∧ (∀ k i, ¬ (k = 151 ∧ (i = 2 ∨ i = 3)) → N.2.1 k i = X.2.1 k i) ∧ ∀ t, t < 72 → (TBq N t ↔ SL (EA R 163) bar f t)) y := by
    refine it_r (I := fun s : Int32 × Mem => ∃ q : Nat, q ≤ 72 ∧ s.1.toInt = (q : Int) ∧ s.2.1 = X.1 ∧ s.2.2.2 = X.2.2 ∧ (∀ k i, ¬ (k = 151 ∧ (i = 2 ∨ i = 3)) → s.2.2.1 k i = X.2.1 k i) ∧ TN R s.2 ∧ TBq s.2 f ∧ (∀ P : Nat → Prop, P f → (∀ v u, P v → EA R 163 v u → ¬ bar u → P u) → ∀ u, u < 72 → TBq s.2 u → P u) ∧ q + 1 ≤ (List.range 72).countP (fun u => bl (s.2.2.1 151 (2 + u / 36)) (u % 36))) (Q := fun y : Mem ⊕ Mem => Sum.elim (fun N : Mem => False) (fun N : Mem => N.1 = X.1 ∧ N.2.2 = X.2.2 ∧ (∀ k i, ¬ (k = 151 ∧ (i = 2 ∨ i = 3)) → N.2.1 k i = X.2.1 k i) ∧ ∀ t, t < 72 → (TBq N t ↔ SL (EA R 163) bar f t)) y) ?_ ey ⟨0, by omega, rfl, rfl, rfl, fun _ _ _ => rfl, tn, (hf f f72).mpr rfl, fun P pf _ u hu h => by rw [(hf u hu).mp h]; exact pf, ?_⟩
    · rintro ⟨i, S⟩ r ⟨q, q72, hq, s1, s2, s3, s4, s5, s6, s7⟩ e
      dsimp only at hq s1 s2 s3 s4 s5 s6 s7
      unfold lb_Thief_roam_2 at e
      dsimp only at e
      rcases io e with ⟨g, e⟩ | ⟨g, e⟩
      · have gg := q_le g
        have := cnt_le (fun u => bl (S.2.1 151 (2 + u / 36)) (u % 36)) 72
        omega
      have g1 := q_ng g
      have i1 : (i + (1 : Int32)).toInt = ((q + 1 : Nat) : Int) := add_ti hq o1 (by omega) (by omega)
      obtain ⟨x1, e1, e⟩ := bo e
      obtain ⟨M2, m2, e⟩ := mo e
      obtain ⟨M3, m3, e⟩ := mo e
      have zwS : ZW S R 163 := by
        refine ZW_a ⟨by rw [s1], by rw [s1], fun q => by rw [s1], by rw [s1], by rw [s1], fun q => by rw [s1], fun q => by rw [s1], by rw [s1], fun q => by rw [s1], fun q => by rw [s1], fun q => s3 33 q (by omega), fun q => s3 34 q (by omega)⟩ AgR_r (fun _ _ => Iff.rfl) zw
      obtain ⟨t1, t2, t3, t4, t5⟩ := stir_c jR kp zv zwS kr s4 e1
      rw [show (0 : Int32).toNatClampNeg = 0 from rfl] at m2 m3
      have k152 : x1.2.1 152 0 = X.2.1 152 0 := by rw [t3 152 0 (by omega)]; exact s3 152 0 (by omega)
      have k153 : M2.2.1 153 0 = X.2.1 153 0 := by rw [m2, sl_ne (by omega), t3 153 0 (by omega)]; exact s3 153 0 (by omega)
      have v2 : M3.2.1 151 2 = ((x1.2.1 151 2) &&& ((X.2.1 152 0) ^^^ (-1 : Int64))) ||| (S.2.1 151 2) := by rw [m3, sl_ne (by omega), m2, sl_eq, k152]
      have v3 : M3.2.1 151 3 = ((x1.2.1 151 3) &&& ((X.2.1 153 0) ^^^ (-1 : Int64))) ||| (S.2.1 151 3) := by rw [m3, sl_eq, k153, m2, sl_ne (by omega)]
      have bits : ∀ l c : Nat, l < 2 → c < 64 → bl (M3.2.1 151 (2 + l)) c = ((bl (x1.2.1 151 (2 + l)) c && !bl (X.2.1 (152 + l) 0) c) || bl (S.2.1 151 (2 + l)) c) := by
        intro l c l2 c64
        have : l = 0 ∨ l = 1 := by omega
        rcases this with rfl | rfl
        · rw [show 2 + 0 = 2 from rfl, show 152 + 0 = 152 from rfl, v2, bl_or, bl_and, bl_not c64]
        · rw [show 2 + 1 = 3 from rfl, show 152 + 1 = 153 from rfl, v3, bl_or, bl_and, bl_not c64]
      have tb : ∀ u, u < 72 → (TBq M3 u ↔ (TBq x1 u ∧ ¬ bar u) ∨ TBq S u) := by
        intro u hu
        have b := bits (u / 36) (u % 36) (by omega) (by omega)
        have h := hb (u / 36) (u % 36) (by omega) (by omega)
        rw [show 36 * (u / 36) + u % 36 = u by omega] at h
        unfold TBq
        rw [b, Bool.or_eq_true, Bool.and_eq_true, Bool.not_eq_true', ← h]
        constructor
        · rintro (⟨a, b⟩ | a)
          · exact .inl ⟨a, by rw [b]; decide⟩
          · exact .inr a
        · rintro (⟨a, b⟩ | a)
          · refine .inl ⟨a, ?_⟩
            cases hc : bl (X.2.1 (152 + u / 36) 0) (u % 36) with
            | false => rfl
            | true => exact absurd hc b
          · exact .inr a
      have tnM : TN R M3 := by
        intro l c l2 h
        have c64 : c < 64 := by
          rcases Nat.lt_or_ge c 64 with w | w
          · exact w
          · rw [bl_hi w] at h; cases h
        rw [bits l c l2 c64, Bool.or_eq_true, Bool.and_eq_true] at h
        rcases h with ⟨h, _⟩ | h
        · exact t4 l c l2 h
        · exact s4 l c l2 h
      have f1 : M3.1 = X.1 := by rw [m3, sl_1, m2, sl_1, t1, s1]
      have f2 : M3.2.2 = X.2.2 := by
        rw [m3]; show M2.2.2 = _
        rw [m2]; show x1.2.2 = _
        rw [t2, s2]
      have f3 : ∀ k i, ¬ (k = 151 ∧ (i = 2 ∨ i = 3)) → M3.2.1 k i = X.2.1 k i := fun k i h => by rw [m3, sl_ne (by omega), m2, sl_ne (by omega), t3 k i h]; exact s3 k i h
      have mn : ∀ P : Nat → Prop, P f → (∀ v u, P v → EA R 163 v u → ¬ bar u → P u) → ∀ u, u < 72 → TBq M3 u → P u := by
        intro P pf pc u hu h
        rcases (tb u hu).mp h with ⟨h, hbn⟩ | h
        · rcases (t5 u hu).mp h with h | ⟨v, h, g⟩
          · exact s6 P pf pc u hu h
          · exact pc v u (s6 P pf pc v g.1 h) g hbn
        · exact s6 P pf pc u hu h
      have up : ∀ u, u < 72 → TBq S u → TBq M3 u := fun u hu h => (tb u hu).mpr (.inr h)
      have fin : (∀ u, u < 72 → (TBq M3 u → TBq S u)) → ∀ t, t < 72 → (TBq M3 t ↔ SL (EA R 163) bar f t) := by
        intro same t t72
        refine SL_i (S := fun u => TBq M3 u) t72 (fun v u h => EA_lt h) f72 (up f f72 s5) (fun v u v72 hv he hn => ?_) mn
        exact (tb u he.2.1).mpr (.inl ⟨(t5 u he.2.1).mpr (.inr ⟨v, same v v72 hv, he⟩), hn⟩)
      have more : ¬ (∀ u, u < 72 → (TBq M3 u → TBq S u)) → q + 1 + 1 ≤ (List.range 72).countP (fun u => bl (M3.2.1 151 (2 + u / 36)) (u % 36)) := by
        intro h
        have ex : ∃ u, u < 72 ∧ TBq M3 u ∧ ¬ TBq S u := Classical.byContradiction (fun hh => h (fun u hu a => Classical.byContradiction (fun b => hh ⟨u, hu, a, b⟩)))
        obtain ⟨u, hu, a, b⟩ := ex
        have b' : bl (S.2.1 151 (2 + u / 36)) (u % 36) = false := by
          cases hc : bl (S.2.1 151 (2 + u / 36)) (u % 36) with
          | false => rfl
          | true => exact absurd hc b
        have := cnt_lt (P := fun u => bl (S.2.1 151 (2 + u / 36)) (u % 36)) (Q := fun u => bl (M3.2.1 151 (2 + u / 36)) (u % 36)) hu (fun i hi h => up i hi h) b' a
        omega
      have ne2 : ∀ l : Nat, l < 2 → ¬ M3.2.1 151 (2 + l) = S.2.1 151 (2 + l) → ¬ (∀ u, u < 72 → (TBq M3 u → TBq S u)) := by
        intro l l2 hne all
        refine hne (bl_ext (fun c c64 => ?_))
        cases ha : bl (M3.2.1 151 (2 + l)) c with
        | true =>
          have c36 := (tnM l c l2 ha).1
          have := all (36 * l + c) (by omega) ((TBq_lc l2 c36).mpr ha)
          exact ((TBq_lc l2 c36).mp this).symm
        | false =>
          cases hb : bl (S.2.1 151 (2 + l)) c with
          | false => rfl
          | true => rw [bits l c l2 c64, hb, Bool.or_true] at ha; cases ha
      have lce : ∀ {a b : Int64}, lg_cmp a b = 0 ↔ a = b := by
        intro a b
        unfold lg_cmp
        by_cases h1 : a > b
        · rw [if_pos h1]
          constructor
          · intro h; exact absurd h (by decide)
          · intro h; subst h; exact absurd h1 Int64.lt_irrefl
        · rw [if_neg h1]
          by_cases h2 : a = b
          · rw [if_pos h2]; exact ⟨fun _ => h2, fun _ => rfl⟩
          · rw [if_neg h2]
            constructor
            · intro h; exact absurd h (by decide)
            · intro h; exact absurd h h2
      have next : ∀ l : Nat, l < 2 → ¬ M3.2.1 151 (2 + l) = S.2.1 151 (2 + l) → some (Sum.inl (i + (1 : Int32), M3)) = some r → Sum.elim (fun s : Int32 × Mem => ∃ q : Nat, q ≤ 72 ∧ s.1.toInt = (q : Int) ∧ s.2.1 = X.1 ∧ s.2.2.2 = X.2.2 ∧ (∀ k i, ¬ (k = 151 ∧ (i = 2 ∨ i = 3)) → s.2.2.1 k i = X.2.1 k i) ∧ TN R s.2 ∧ TBq s.2 f ∧ (∀ P : Nat → Prop, P f → (∀ v u, P v → EA R 163 v u → ¬ bar u → P u) → ∀ u, u < 72 → TBq s.2 u → P u) ∧ q + 1 ≤ (List.range 72).countP (fun u => bl (s.2.2.1 151 (2 + u / 36)) (u % 36))) (fun y : Mem ⊕ Mem => Sum.elim (fun N : Mem => False) (fun N : Mem => N.1 = X.1 ∧ N.2.2 = X.2.2 ∧ (∀ k i, ¬ (k = 151 ∧ (i = 2 ∨ i = 3)) → N.2.1 k i = X.2.1 k i) ∧ ∀ t, t < 72 → (TBq N t ↔ SL (EA R 163) bar f t)) y) r := by
        intro l l2 hne he
        obtain rfl := Option.some.inj he
        exact ⟨q + 1, by omega, i1, f1, f2, f3, tnM, up f f72 s5, mn, more (ne2 l l2 hne)⟩
      rcases io e with ⟨g, e⟩ | ⟨g, e⟩
      rotate_left
      · exact next 0 (by omega) (fun h => g (lce.mpr h)) e
      rcases io e with ⟨g', e⟩ | ⟨g', e⟩
      rotate_left
      · exact next 1 (by omega) (fun h => g' (lce.mpr h)) e
      obtain rfl := Option.some.inj e
      exact ⟨f1, f2, f3, fin (fun u hu h => (TBq_2 (lce.mp g) (lce.mp g') hu).mp h)⟩
    · have := cnt_lt (P := fun _ : Nat => false) (Q := fun u => bl (X.2.1 151 (2 + u / 36)) (u % 36)) (n := 72) f72 (fun i _ h => by cases h) rfl ((hf f f72).mpr rfl)
      show 0 + 1 ≤ (List.range 72).countP (fun u => bl (X.2.1 151 (2 + u / 36)) (u % 36))
      omega
  cases y with
  | inl N => exact key.elim
  | inr N =>
    have e := el_r e
    obtain rfl := Option.some.inj e
    exact key
/-- a thief slips by those who stand -/
theorem slips_c {X R : Mem} {n l c l' t s : Nat} {v1 v2 v3 v4 v5 : Int32} {x : Int32 × Mem} (za : ZA X R n) (hs : v1.toInt = (s : Int)) (s2 : s < 2 ^ n) (hl : v2.toInt = (l : Int)) (hc : v3.toInt = (c : Int)) (l2 : l < 2) (c36 : c < 36) (on : onN R l c) (hl' : v4.toInt = (l' : Int)) (ht : v5.toInt = (t : Int)) (l2' : l' < 2) (t36 : t < 36) (e : f_Top_slipsBy v1 v2 v3 v4 v5 X = some x) : (x.1 = 0 ↔ ¬ SL (EA R 163) (barR R n v1) (36 * l + c) (36 * l' + t)) ∧ x.2.1 = X.1 ∧ x.2.2.2 = X.2.2 ∧ (∀ k i, k ≠ 151 → k ≠ 152 → k ≠ 153 → x.2.2.1 k i = X.2.1 k i) := by
  obtain ⟨n8, jR, ⟨zg, zc, zl⟩, zs, zv, zw⟩ := za.1
  have wh := awh jR
  unfold f_Top_slipsBy at e
  obtain ⟨x1, e1, e⟩ := bo e
  obtain ⟨x2, e2, e⟩ := bo e
  obtain ⟨x3, e3, e⟩ := bo e
  obtain ⟨x4, e4, e⟩ := bo e
  obtain ⟨x5, e5, e⟩ := bo e
  obtain ⟨x6, e6, e⟩ := bo e
  obtain ⟨_, e⟩ := io_n e
  obtain rfl := Option.some.inj e
  obtain ⟨a1, a2, a3, a4, a5⟩ := start_c hl hc l2 c36 e1
  -- who stands
  have small : ∀ p, bt v1 p = true → p < n := by
    intro p hb
    refine Classical.byContradiction (fun h => ?_)
    have p2 : (2 : Nat) ^ n ≤ 2 ^ p := Nat.pow_le_pow_right (by omega) (by omega)
    have : v1.toBitVec.toNat = s := by
      have c := ti_c v1
      have l32 := v1.toBitVec.isLt
      have n8' : (2 : Nat) ^ n ≤ 2 ^ 8 := Nat.pow_le_pow_right (by omega) n8
      rw [hs] at c
      split at c <;> omega
    unfold bt at hb
    have : v1.toBitVec.toNat.testBit p = true := hb
    rw [Nat.testBit_lt_two_pow (by omega)] at this
    cases this
  have rng : ∀ p, p < n → 0 ≤ (x1.1 12 p).toInt ∧ (x1.1 12 p).toInt ≤ 35 := fun p pn => by
    obtain ⟨_, q2, q3, _⟩ := zs.1 p pn
    rw [a1]; exact ⟨q2, q3⟩
  have g0 := guard_c (k := 11) (fun p _ hb => rng p (small p hb)) e2
  have g1 := guard_c (k := 11) (fun p _ hb => rng p (small p hb)) e3
  have who : ∀ (l c : Nat) (lev : Int32), lev.toInt = (l : Int) → l < 2 → c < 36 → ((∃ p, p < 8 ∧ bt v1 p = true ∧ x1.1 (11 + 2) p = lev ∧ (x1.1 (11 + 1) p).toInt = (c : Int)) ↔ barR R n v1 (36 * l + c)) := by
    intro l c lev hlev l2 c36
    unfold barR
    constructor
    · rintro ⟨p, p8, hb, h1, h2⟩
      have pn := small p hb
      obtain ⟨q1, _⟩ := zs.1 p pn
      have q1 : (R.1 163 p).toInt = (X.1 12 p).toInt + 36 * (X.1 13 p).toInt := q1
      have h1 : X.1 13 p = lev := by rw [← a1]; exact h1
      have h2 : (X.1 12 p).toInt = (c : Int) := by rw [← a1]; exact h2
      exact ⟨p, pn, hb, by rw [q1, h1, h2, hlev]; omega⟩
    · rintro ⟨p, pn, hb, hp⟩
      obtain ⟨q1, q2, q3, q4, q5, _⟩ := zs.1 p pn
      have q1 : (R.1 163 p).toInt = (X.1 12 p).toInt + 36 * (X.1 13 p).toInt := q1
      have q2 : 0 ≤ (X.1 12 p).toInt := q2
      have q3 : (X.1 12 p).toInt ≤ 35 := q3
      have q4 : 0 ≤ (X.1 13 p).toInt := q4
      have q5 : (X.1 13 p).toInt ≤ 1 := q5
      refine ⟨p, by omega, hb, ?_, ?_⟩
      · rw [a1]; exact Int32.toInt_inj.mp (by show (X.1 13 p).toInt = _; omega)
      · rw [a1]; show (X.1 12 p).toInt = _; omega
  unfold f_Thief_record at e4
  rw [if_neg (by decide), if_neg (by decide), show (0 : Int32).toNatClampNeg = 0 from rfl] at e4
  obtain ⟨_, e4⟩ := io_n e4
  obtain ⟨M1, m1, e4⟩ := mo e4
  obtain ⟨_, e4⟩ := io_n e4
  obtain ⟨M2, m2, e4⟩ := mo e4
  obtain rfl := Option.some.inj e4
  have c1 : M2.1 = X.1 := by rw [m2, sl_1, m1, sl_1, a1]
  have c2 : M2.2.2 = X.2.2 := by
    rw [m2]; show M1.2.2 = _
    rw [m1]; show x1.2.2 = _
    rw [a2]
  have c151 : ∀ i, M2.2.1 151 i = x1.2.1 151 i := fun i => by rw [m2, sl_ne (by omega), m1, sl_ne (by omega)]
  have c3 : ∀ k i, k ≠ 151 → k ≠ 152 → k ≠ 153 → M2.2.1 k i = X.2.1 k i := fun k i h1 h2 h3 => by rw [m2, sl_ne (by omega), m1, sl_ne (by omega)]; exact a3 k i h1
  have k152 : M2.2.1 152 0 = x2 := by rw [m2, sl_ne (by omega), m1, sl_eq]
  have k153 : M2.2.1 153 0 = x3 := by rw [m2, sl_eq]
  have zwM : ZW M2 R 163 := ZW_a ⟨by rw [c1], by rw [c1], fun q => by rw [c1], by rw [c1], by rw [c1], fun q => by rw [c1], fun q => by rw [c1], by rw [c1], fun q => by rw [c1], fun q => by rw [c1], fun q => c3 33 q (by omega) (by omega) (by omega), fun q => c3 34 q (by omega) (by omega) (by omega)⟩ AgR_r (fun _ _ => Iff.rfl) zw
  have tnM : TN R M2 := by
    intro l'' d l2'' hb
    rw [c151] at hb
    obtain ⟨rfl, rfl⟩ := (a4 l'' d l2'').mp hb
    exact ⟨c36, (onP_lc l2 c36).mpr on⟩
  obtain ⟨r1, r2, r3, r4⟩ := roam_c (f := 36 * l + c) (bar := barR R n v1) jR (KP_v zv) zv zwM zg.2.2.2 tnM (by omega) (fun u hu => (TBq_2 (c151 2) (c151 3) hu).trans (a5 u hu)) (fun l c l2 c36 => by
    have : l = 0 ∨ l = 1 := by omega
    rcases this with rfl | rfl
    · rw [show 152 + 0 = 152 from rfl, k152, g0 c]
      exact who 0 c 0 rfl l2 c36
    · rw [show 152 + 1 = 153 from rfl, k153, g1 c]
      exact who 1 c 1 rfl l2 c36) e5
  refine ⟨?_, by rw [r1]; exact c1, by rw [r2]; exact c2, fun k i h1 h2 h3 => by show x5.2.1 k i = _; rw [r3 k i (by omega)]; exact c3 k i h1 h2 h3⟩
  rw [← r4 (36 * l' + t) (by omega), TBq_lc l2' t36]
  have isin : ∀ w0 : Int64, j_Thief_isIn_16 v5 w0 x5 = some x6 → (x6 = 0 ↔ ¬ bl w0 t = true) := by
    intro w0 e6
    unfold j_Thief_isIn_16 at e6
    rcases io e6 with ⟨g, e6⟩ | ⟨g, e6⟩
    · have hb := (bl_cmp ht (by omega)).mp g
      obtain rfl := Option.some.inj e6
      exact ⟨fun _ h => (by rw [hb] at h; cases h), fun _ => rfl⟩
    · obtain rfl := Option.some.inj e6
      have hb : bl w0 t = true := by
        cases hb : bl w0 t with
        | true => rfl
        | false => exact absurd ((bl_cmp ht (by omega)).mpr hb) g
      exact ⟨fun h => absurd h (by decide), fun h => absurd hb h⟩
  unfold f_Thief_isIn at e6
  have z0 := o0
  have z1 := o1
  rcases io e6 with ⟨g, e6⟩ | ⟨g, e6⟩
  · have gg := q_eq g
    have : l' = 1 := by omega
    subst this
    exact isin _ e6
  · have gg := q_ne g
    have : l' = 0 := by omega
    subst this
    exact isin _ e6
end
section
/-! watch: the reference -/
theorem enter_r {R T : Mem} {n : Nat} {v1 v3 : Int32} {x : Int32 × Mem} (hm : (R.1 162 4).toInt = (n : Int)) (n8 : n ≤ 8) (jT : J T) (fT : ∀ kx i, kx ≠ 186 → T.1 kx i = R.1 kx i) (hv : -1 ≤ v1.toInt ∧ v1.toInt ≤ 71) (e : f_Mod_enter v1 v3 T = some x) : (x = (0, T) ∧ (∀ u : Nat, v1.toInt = (u : Int) → mayb 186 T u ∨ barR R n v3 u)) ∨ (∃ u : Nat, v1.toInt = (u : Int) ∧ ¬ mayb 186 T u ∧ ¬ barR R n v3 u ∧ x = (1, s_i T 186 u 1)) := by
  have ym := om
  unfold f_Mod_enter at e
  rcases io e with ⟨g, e⟩ | ⟨g, e⟩
  · have gg := q_eq g
    obtain rfl := Option.some.inj e
    exact .inl ⟨rfl, fun u hu => by omega⟩
  have gg := q_ne g
  obtain ⟨u, hu⟩ : ∃ u : Nat, v1.toInt = (u : Int) := ⟨v1.toInt.toNat, by omega⟩
  obtain ⟨_, e⟩ := io_n e
  rw [q_nat hu] at e
  rcases io e with ⟨g2, e⟩ | ⟨g2, e⟩
  rotate_left
  · obtain rfl := Option.some.inj e
    exact .inl ⟨rfl, fun w hw => .inl (by have : w = u := by omega
                                          subst this; exact g2)⟩
  obtain ⟨x1, e1, e⟩ := bo e
  have op := onPlace_i (n := n) (by rw [fT 162 4 (by omega)]; exact hm) n8 e1
  have bar : barR R n v3 u ↔ ¬ (x1 &&& v3) = 0 := by
    unfold barR
    constructor
    · rintro ⟨p, pn, hb, hp⟩ h
      have : bt (x1 &&& v3) p = true := by
        rw [bt_and, hb, op p, decide_eq_true ⟨pn, Int32.toInt_inj.mp (by rw [fT 163 p (by omega), hp, hu])⟩]; rfl
      rw [h, bt_0] at this
      cases this
    · intro h
      have ex : ∃ p, bt (x1 &&& v3) p = true := by
        refine Classical.byContradiction (fun hh => h (bt_ext (fun d _ => ?_)))
        rw [bt_0]
        cases hb : bt (x1 &&& v3) d with
        | false => rfl
        | true => exact absurd ⟨d, hb⟩ hh
      obtain ⟨p, hp⟩ := ex
      rw [bt_and, Bool.and_eq_true, op p, decide_eq_true_eq] at hp
      exact ⟨p, hp.1.1, hp.2, by rw [← fT 163 p (by omega), hp.1.2, hu]⟩
  rcases io e with ⟨g3, e⟩ | ⟨g3, e⟩
  · obtain ⟨_, e⟩ := io_n e
    obtain ⟨M2, m2, e⟩ := mo e
    obtain rfl := Option.some.inj e
    rw [vb_1] at m2
    exact .inr ⟨u, hu, fun h => h g2, fun h => (bar.mp h) g3, by rw [m2]⟩
  · obtain rfl := Option.some.inj e
    exact .inl ⟨rfl, fun w hw => .inr (by have : w = u := by omega
                                          subst this; exact bar.mpr g3)⟩
def GI (R : Mem) (n f : Nat) (v3 : Int32) (T : Mem) : Prop := J T ∧ (∀ kx i, kx ≠ 186 → T.1 kx i = R.1 kx i) ∧ mayb 186 T f ∧ (∀ P : Nat → Prop, P f → (∀ v u, P v → EA R 163 v u → ¬ barR R n v3 u → P u) → ∀ u, u < 72 → mayb 186 T u → P u) ∧ ∀ u, u < 72 → mayb 186 T u → onP R (u : Int)
theorem grow_r {R T : Mem} {n f v : Nat} {v1 v3 : Int32} {x : Int32 × Mem} (hm : (R.1 162 4).toInt = (n : Int)) (n8 : n ≤ 8) (h : GI R n f v3 T) (v72 : v < 72) (hv : mayb 186 T v) (hr : -1 ≤ v1.toInt ∧ v1.toInt ≤ 71) (he : ∀ u : Nat, v1.toInt = (u : Int) → EA R 163 v u) (e : f_Mod_enter v1 v3 T = some x) : GI R n f v3 x.2 ∧ (x.1 = 0 ∨ x.1 = 1) ∧ mayb 186 x.2 v ∧ (x.1 = 0 → x.2 = T ∧ ∀ u : Nat, v1.toInt = (u : Int) → mayb 186 T u ∨ barR R n v3 u) := by
  obtain ⟨jT, fT, hf, mn, on⟩ := h
  rcases enter_r hm n8 jT fT hr e with ⟨rfl, hu⟩ | ⟨u, hu, nm, nb, rfl⟩
  · exact ⟨⟨jT, fT, hf, mn, on⟩, .inl rfl, hv, fun _ => ⟨rfl, hu⟩⟩
  · have up : ∀ w, mayb 186 (s_i T 186 u 1) w ↔ mayb 186 T w ∨ w = u := by
      intro w
      unfold mayb
      by_cases c : w = u
      · subst c
        rw [si_eq]
        exact ⟨fun _ => .inr rfl, fun _ => by decide⟩
      · rw [si_ne (by omega)]
        exact ⟨.inl, fun h => h.elim id (fun h => absurd h c)⟩
    have ed := he u hu
    refine ⟨⟨Jw_186 jT u 1 (by decide) (by decide), fun kx i h => by rw [si_ne (by omega)]; exact fT kx i h, (up f).mpr (.inl hf), fun P pf pc w hw h => ?_, fun w hw h => ?_⟩, .inr rfl, (up v).mpr (.inl hv), fun h => absurd (show (1 : Int32) = 0 from h) (by decide)⟩
    · rcases (up w).mp h with h | rfl
      · exact mn P pf pc w hw h
      · exact pc v w (mn P pf pc v v72 hv) ed nb
    · rcases (up w).mp h with h | rfl
      · exact on w hw h
      · exact ed.2.2.2.1
theorem getsS_r {R T : Mem} {n f v : Nat} {v2 v3 v5 more : Int32} {y : Int32 × Mem} (jR : J R) (kp : KP R 163 0) (hm : (R.1 162 4).toInt = (n : Int)) (n8 : n ≤ 8) (h : GI R n f v3 T) (hv5 : v5.toInt = (v : Int)) (v72 : v < 72) (hv : mayb 186 T v) (h01 : more = 0 ∨ more = 1) (e : iter (lb_Mod_gets_71 v2 v3 v5) FU (more, (0 : Int32), T) = some y) : GI R n f v3 y.2 ∧ (y.1 = 0 ∨ y.1 = 1) ∧ mayb 186 y.2 v ∧ (y.1 = 0 → y.2 = T ∧ more = 0 ∧ ∀ (s : Int) (u : Nat), 0 ≤ s → s ≤ 3 → u < 72 → goR R 163 (v : Int) s (u : Int) → mayb 186 T u ∨ barR R n v3 u) := by
  have k4 : (4 : Int32).toInt = 4 := rfl
  refine it_r (I := fun s : Int32 × Int32 × Mem => ∃ q : Nat, q ≤ 4 ∧ s.2.1.toInt = (q : Int) ∧ GI R n f v3 s.2.2 ∧ (s.1 = 0 ∨ s.1 = 1) ∧ mayb 186 s.2.2 v ∧ (s.1 = 0 → s.2.2 = T ∧ more = 0 ∧ ∀ (s : Int) (u : Nat), 0 ≤ s → s < (q : Int) → u < 72 → goR R 163 (v : Int) s (u : Int) → mayb 186 T u ∨ barR R n v3 u)) (Q := fun y : Int32 × Mem => GI R n f v3 y.2 ∧ (y.1 = 0 ∨ y.1 = 1) ∧ mayb 186 y.2 v ∧ (y.1 = 0 → y.2 = T ∧ more = 0 ∧ ∀ (s : Int) (u : Nat), 0 ≤ s → s ≤ 3 → u < 72 → goR R 163 (v : Int) s (u : Int) → mayb 186 T u ∨ barR R n v3 u)) ?_ e ⟨0, by omega, rfl, h, h01, hv, fun h => ⟨rfl, h, fun s u a b => by omega⟩⟩
  rintro ⟨mo', i, S⟩ r ⟨q, q4, hq, hS, hmo, hvS, hz⟩ e
  dsimp only at hq hS hmo hvS hz
  unfold lb_Mod_gets_71 at e
  dsimp only at e
  rcases io e with ⟨g, e⟩ | ⟨g, e⟩
  · have := q_le g
    obtain rfl := Option.some.inj e
    exact ⟨hS, hmo, hvS, fun h => by
      obtain ⟨a, b, c⟩ := hz h
      exact ⟨a, b, fun s u s0 s3 hu hg => c s u s0 (by omega) hu hg⟩⟩
  have g1 := q_ng g
  have i1 : (i + (1 : Int32)).toInt = ((q + 1 : Nat) : Int) := add_ti hq o1 (by omega) (by omega)
  obtain ⟨x6, e6, e⟩ := bo e
  obtain ⟨x7, e7, e⟩ := bo e
  obtain rfl := Option.some.inj e
  obtain ⟨gg, gl, gh⟩ := some_of (fs_go hS.1 163 (.inl rfl) v5 i (by omega)) e6
  have mE : MapEq S R := ⟨hS.2.1 162 2 (by omega), hS.2.1 162 3 (by omega), fun i => hS.2.1 164 i (by omega)⟩
  rw [hv5, hq, goR_c mE (fun i => hS.2.1 163 i (by omega))] at gg
  have onv := hS.2.2.2.2 v v72 hvS
  obtain ⟨r1, r2, r3, r4⟩ := grow_r hm n8 hS v72 hvS ⟨gl, gh⟩ (fun u hu => by
    rw [hu] at gg
    exact ⟨v72, by omega, onv, (go_sym jR kp onv (s := (q : Int)) ⟨by omega, by omega⟩ gg (by omega)).1, .inl ⟨q, by omega, by omega, gg⟩⟩) e7
  obtain ⟨oa, ob⟩ := or01w hmo r2
  refine ⟨q + 1, by omega, i1, r1, oa, r3, fun h => ?_⟩
  obtain ⟨h1, h2⟩ := ob h
  obtain ⟨a, b, c⟩ := hz h1
  obtain ⟨eS, hh⟩ := r4 h2
  refine ⟨by show x7.2 = T; rw [eS, a], b, fun s u s0 s3 hu hg => ?_⟩
  by_cases k : s = (q : Int)
  · subst k
    have := goR_fun gg hg
    rw [← a]
    exact hh u this
  · exact c s u s0 (by omega) hu hg
theorem getsR_r {R T : Mem} {n f : Nat} {v2 v3 : Int32} {y : Int32 × Mem} (jR : J R) (kp : KP R 163 0) (hm : (R.1 162 4).toInt = (n : Int)) (n8 : n ≤ 8) (h : GI R n f v3 T) (e : iter (lb_Mod_gets_48 v2 v3) FU ((0 : Int32), (0 : Int32), T) = some y) : GI R n f v3 y.2 ∧ (y.1 = 0 → ∀ v u, v < 72 → mayb 186 y.2 v → EA R 163 v u → ¬ barR R n v3 u → mayb 186 y.2 u) := by
  have k72 : (72 : Int32).toInt = 72 := rfl
  refine it_r (I := fun s : Int32 × Int32 × Mem => ∃ k : Nat, k ≤ 72 ∧ s.2.1.toInt = (k : Int) ∧ GI R n f v3 s.2.2 ∧ (s.1 = 0 ∨ s.1 = 1) ∧ (s.1 = 0 → s.2.2 = T ∧ ∀ v u, v < k → mayb 186 T v → EA R 163 v u → ¬ barR R n v3 u → mayb 186 T u)) (Q := fun y : Int32 × Mem => GI R n f v3 y.2 ∧ (y.1 = 0 → ∀ v u, v < 72 → mayb 186 y.2 v → EA R 163 v u → ¬ barR R n v3 u → mayb 186 y.2 u)) ?_ e ⟨0, by omega, rfl, h, .inl rfl, fun _ => ⟨rfl, fun v u h => by omega⟩⟩
  rintro ⟨mo', i, S⟩ r ⟨k, k72', hk, hS, hmo, hz⟩ e
  dsimp only at hk hS hmo hz
  unfold lb_Mod_gets_48 at e
  dsimp only at e
  rcases io e with ⟨g, e⟩ | ⟨g, e⟩
  · have := q_le g
    obtain rfl := Option.some.inj e
    refine ⟨hS, fun h => ?_⟩
    obtain ⟨a, b⟩ := hz h
    dsimp only
    rw [a]
    exact fun v u hv => b v u (by omega)
  have g1 := q_ng g
  have i1 : (i + (1 : Int32)).toInt = ((k + 1 : Nat) : Int) := add_ti hk o1 (by omega) (by omega)
  obtain ⟨_, e⟩ := io_n e
  rw [q_nat hk] at e
  rcases io e with ⟨g, e⟩ | ⟨g, e⟩
  · obtain rfl := Option.some.inj e
    refine ⟨k + 1, by omega, i1, hS, hmo, fun h => ?_⟩
    obtain ⟨a, b⟩ := hz h
    refine ⟨a, fun v u hv h1 => ?_⟩
    by_cases c : v = k
    · subst c
      rw [a] at g
      exact absurd g h1
    · exact b v u (by omega) h1
  have hv : mayb 186 S k := g
  obtain ⟨x9, e9, e⟩ := bo e
  obtain ⟨x10, e10, e⟩ := bo e
  obtain ⟨_, e⟩ := io_n e
  obtain ⟨s1, s2, s3, s4⟩ := getsS_r jR kp hm n8 hS hk (by omega) hv hmo e9
  have c10 : x10.toInt = ((k % 36 : Nat) : Int) := by rw [(place_i (v := i) (by omega) (by omega)).1 e10, hk]; omega
  rw [q_nat c10, s1.2.1 164 (k % 36) (by omega)] at e
  have onv := hS.2.2.2.2 k (by omega) hv
  rcases io e with ⟨gs, e⟩ | ⟨gs, e⟩
  rotate_left
  · obtain rfl := Option.some.inj e
    refine ⟨k + 1, by omega, i1, s1, s2, fun h => ?_⟩
    obtain ⟨a, b, c⟩ := s4 h
    obtain ⟨a', d⟩ := hz b
    refine ⟨by show x9.2 = T; rw [a, a'], fun v u hv h1 hE hb => ?_⟩
    by_cases w : v = k
    · subst w
      rcases hE.2.2.2.2 with ⟨s, t0, t3, hg⟩ | ⟨h3, _⟩
      · have := c s u t0 t3 hE.2.1 hg
        rw [a'] at this
        exact this.elim id (fun h => absurd h hb)
      · exact absurd (Int32.toInt_inj.mp h3) gs
    · exact d v u (by omega) h1 hE hb
  obtain ⟨x11, e11, e⟩ := bo e
  obtain ⟨x12, e12, e⟩ := bo e
  obtain ⟨x13, e13, e⟩ := bo e
  obtain ⟨x14, e14, e⟩ := bo e
  obtain rfl := Option.some.inj e
  have c11 : x11.toInt = ((k / 36 : Nat) : Int) := by rw [(place_i (v := i) (by omega) (by omega)).2 e11, hk]; omega
  have c12 : x12.toInt = ((k % 36 : Nat) : Int) := by rw [(place_i (v := i) (by omega) (by omega)).1 e12, hk]; omega
  have c13 := place_c (l := 1 - k / 36) (c := k % 36) (by rw [sub_ti o1 c11 (by omega) (by omega)]; omega) c12 (by omega) (by omega) e13
  have s3' : (R.1 164 (k % 36)).toInt = 3 := by rw [gs]; rfl
  have cwk : ((k % 36 : Nat) : Int) < xw R * xh R := by
    have o := onv.2.2
    rw [show ((k : Int)) % 36 = ((k % 36 : Nat) : Int) by omega] at o
    exact o.2.1
  have est : EA R 163 k (36 * (1 - k / 36) + k % 36) := ⟨by omega, by omega, onv, stair_on (by omega) (by omega) cwk s3', .inr ⟨s3', rfl⟩⟩
  obtain ⟨r1, r2, _, r4⟩ := grow_r hm n8 s1 (show k < 72 by omega) s3 ⟨by omega, by omega⟩ (fun u hu => by
    have : u = 36 * (1 - k / 36) + k % 36 := by omega
    subst this
    exact est) e14
  obtain ⟨oa, ob⟩ := or01w s2 r2
  refine ⟨k + 1, by omega, i1, r1, oa, fun h => ?_⟩
  obtain ⟨h1, h2⟩ := ob h
  obtain ⟨a, b, c⟩ := s4 h1
  obtain ⟨a', d⟩ := hz b
  obtain ⟨e8, hh⟩ := r4 h2
  refine ⟨by show x14.2 = T; rw [e8, a, a'], fun v u hv h1 hE hb => ?_⟩
  by_cases w : v = k
  · subst w
    rcases hE.2.2.2.2 with ⟨s, t0, t3, hg⟩ | ⟨_, hu⟩
    · have := c s u t0 t3 hE.2.1 hg
      rw [a'] at this
      exact this.elim id (fun h => absurd h hb)
    · have := hh u (by rw [c13, hu])
      rw [a, a'] at this
      exact this.elim id (fun h => absurd h hb)
  · exact d v u (by omega) h1 hE hb
theorem gets_r {R T : Mem} {n f t : Nat} {v1 v2 v3 : Int32} {r : Int32 × Mem} (jR : J R) (kp : KP R 163 0) (hm : (R.1 162 4).toInt = (n : Int)) (n8 : n ≤ 8) (jT : J T) (fT : ∀ kx i, kx ≠ 186 → T.1 kx i = R.1 kx i) (hf : v1.toInt = (f : Int)) (f72 : f < 72) (onf : onP R (f : Int)) (ht : v2.toInt = (t : Int)) (t72 : t < 72) (e : f_Mod_gets v1 v2 v3 T = some r) : (r.1 = 0 ↔ ¬ SL (EA R 163) (barR R n v3) f t) ∧ J r.2 ∧ (∀ kx i, kx ≠ 186 → r.2.1 kx i = R.1 kx i) := by
  have k72 : (72 : Int32).toInt = 72 := rfl
  unfold f_Mod_gets at e
  obtain ⟨x5, e5, e⟩ := bo e
  obtain ⟨x20, e20, e⟩ := bo e
  obtain ⟨_, e⟩ := io_n e
  obtain ⟨_, e⟩ := io_n e
  obtain rfl := Option.some.inj e
  have K5 : J x5 ∧ (∀ kx i, kx ≠ 186 → x5.1 kx i = T.1 kx i) ∧ ∀ u, u < 72 → (mayb 186 x5 u ↔ u = f) := by
    refine it_r (I := fun s : Int32 × Mem => ∃ q : Nat, q ≤ 72 ∧ s.1.toInt = (q : Int) ∧ J s.2 ∧ (∀ kx i, kx ≠ 186 → s.2.1 kx i = T.1 kx i) ∧ ∀ u, u < q → (mayb 186 s.2 u ↔ u = f)) (Q := fun x : Mem => J x ∧ (∀ kx i, kx ≠ 186 → x.1 kx i = T.1 kx i) ∧ ∀ u, u < 72 → (mayb 186 x u ↔ u = f)) ?_ e5 ⟨0, by omega, rfl, jT, fun _ _ _ => rfl, fun u h => by omega⟩
    rintro ⟨i, S⟩ r ⟨q, q72, hq, jS, fS, hd⟩ e
    dsimp only at hq jS fS hd
    unfold lb_Mod_gets_3 at e
    dsimp only at e
    rcases io e with ⟨g, e⟩ | ⟨g, e⟩
    · have := q_le g
      obtain rfl := Option.some.inj e
      exact ⟨jS, fS, fun u hu => hd u (by omega)⟩
    have g1 := q_ng g
    have i1 : (i + (1 : Int32)).toInt = ((q + 1 : Nat) : Int) := add_ti hq o1 (by omega) (by omega)
    rcases io e with ⟨g, e⟩ | ⟨g, e⟩
    · have gg := q_eq g
      obtain ⟨_, e⟩ := io_n e
      obtain ⟨M1, m1, e⟩ := mo e
      obtain rfl := Option.some.inj e
      rw [q_nat hq, vb_1] at m1
      refine ⟨q + 1, by omega, i1, by rw [m1]; exact Jw_186 jS q 1 (by decide) (by decide), fun kx j h => by rw [m1, si_ne (by omega)]; exact fS kx j h, fun u hu => ?_⟩
      show M1.1 186 u ≠ 0 ↔ _
      rw [m1]
      by_cases w : u = q
      · subst w
        rw [si_eq]
        exact ⟨fun _ => by omega, fun _ => by decide⟩
      · rw [si_ne (by omega)]; exact hd u (by omega)
    · have gg := q_ne g
      obtain ⟨_, e⟩ := io_n e
      obtain ⟨M1, m1, e⟩ := mo e
      obtain rfl := Option.some.inj e
      rw [q_nat hq, vb_0] at m1
      refine ⟨q + 1, by omega, i1, by rw [m1]; exact Jw_186 jS q 0 (by decide) (by decide), fun kx j h => by rw [m1, si_ne (by omega)]; exact fS kx j h, fun u hu => ?_⟩
      show M1.1 186 u ≠ 0 ↔ _
      rw [m1]
      by_cases w : u = q
      · subst w
        rw [si_eq]
        exact ⟨fun h => absurd rfl h, fun h => by omega⟩
      · rw [si_ne (by omega)]; exact hd u (by omega)
  obtain ⟨j5, f5, h5⟩ := K5
  have gi0 : GI R n f v3 x5 := ⟨j5, fun kx i h => by rw [f5 kx i h]; exact fT kx i h, (h5 f f72).mpr rfl, fun P pf _ u hu h => by rw [(h5 u hu).mp h]; exact pf, fun u hu h => by rw [(h5 u hu).mp h]; exact onf⟩
  have K : GI R n f v3 x20 ∧ ∀ v u, v < 72 → mayb 186 x20 v → EA R 163 v u → ¬ barR R n v3 u → mayb 186 x20 u := by
    refine it_r (I := fun s : Int32 × Mem => GI R n f v3 s.2 ∧ (s.1 = 0 → ∀ v u, v < 72 → mayb 186 s.2 v → EA R 163 v u → ¬ barR R n v3 u → mayb 186 s.2 u)) (Q := fun x : Mem => GI R n f v3 x ∧ ∀ v u, v < 72 → mayb 186 x v → EA R 163 v u → ¬ barR R n v3 u → mayb 186 x u) ?_ e20 ⟨gi0, fun h => absurd (show (1 : Int32) = 0 from h) (by decide)⟩
    rintro ⟨mo', S⟩ r ⟨hS, hz⟩ e
    dsimp only at hS hz
    unfold lb_Mod_gets_37 at e
    dsimp only at e
    rcases io e with ⟨g, e⟩ | ⟨g, e⟩
    · obtain rfl := Option.some.inj e
      exact ⟨hS, hz g⟩
    obtain ⟨x18, e18, e⟩ := bo e
    obtain rfl := Option.some.inj e
    exact getsR_r jR kp hm n8 hS e18
  obtain ⟨⟨j20, f20, hf20, mn, on⟩, cl⟩ := K
  refine ⟨?_, j20, f20⟩
  have S := SL_i (S := fun u => mayb 186 x20 u) t72 (fun v u h => EA_lt h) f72 hf20 cl mn
  rw [q_nat ht, ← S]
  unfold mayb
  exact ⟨fun h g => g h, fun h => Classical.byContradiction h⟩
end
section
/-! watch: both sides -/
theorem bt_sm {v : Int32} {s n : Nat} (hs : v.toInt = (s : Int)) (s2 : s < 2 ^ n) (n8 : n ≤ 8) : ∀ p, bt v p = true → p < n := by
  intro p hb
  refine Classical.byContradiction (fun h => ?_)
  have p2 : (2 : Nat) ^ n ≤ 2 ^ p := Nat.pow_le_pow_right (by omega) (by omega)
  have : v.toBitVec.toNat = s := by
    have c := ti_c v
    have l32 := v.toBitVec.isLt
    have n8' : (2 : Nat) ^ n ≤ 2 ^ 8 := Nat.pow_le_pow_right (by omega) n8
    rw [hs] at c
    split at c <;> omega
  unfold bt at hb
  have : v.toBitVec.toNat.testBit p = true := hb
  rw [Nat.testBit_lt_two_pow (by omega)] at this
  cases this
theorem pc_n8 {v : Int32} {n : Nat} (n8 : n ≤ 8) (h : ∀ p, bt v p = true → p < n) : pc v ≤ n := by
  unfold pc
  have e : 8 = n + (8 - n) := by omega
  rw [e, cnt_add]
  have z : (List.range (8 - n)).countP (fun i => bt v (n + i)) = 0 := by
    rw [List.countP_eq_zero]
    intro i _ w
    have := h _ w
    omega
  rw [z]
  exact cnt_le _ n
theorem bcn {v b : Int32} {s n : Nat} (hs : v.toInt = (s : Int)) (s2 : s < 2 ^ n) (n8 : n ≤ 8) (e : f_JInteger_bitCount v = some b) : b.toInt = (pc v : Int) := by
  have sm := bt_sm hs s2 n8
  rw [bc_i (fun d hd => by
    cases hb : bt v d with
    | false => rfl
    | true => have := sm d hb; omega)] at e
  obtain rfl := Option.some.inj e
  exact ti_ofNat (by have := pc_n8 n8 sm; omega)
theorem pw_t : ∀ n : Fin 9, ((1 : Int32) <<< ((Int32.ofNat n.val) &&& 31)).toInt = ((2 ^ n.val : Nat) : Int) := by decide +kernel
theorem pw_i {v : Int32} {n : Nat} (hv : v.toInt = (n : Int)) (n8 : n ≤ 8) : ((1 : Int32) <<< (v &&& 31)).toInt = ((2 ^ n : Nat) : Int) := by
  rw [ofn_eq hv (by omega)]
  exact pw_t ⟨n, by omega⟩
def WFr (X S : Mem) : Prop := S.1 = X.1 ∧ S.2.2 = X.2.2 ∧ ∀ k i, k ≠ 151 → k ≠ 152 → k ≠ 153 → S.2.1 k i = X.2.1 k i
theorem WFr_ZA {X S R : Mem} {n : Nat} (za : ZA X R n) (h : WFr X S) : ZA S R n :=
  ZA_z za za.1.2.1 (fun kx i _ => by rw [h.1]) (fun i => h.2.2 33 i (by omega) (by omega) (by omega)) (fun i => h.2.2 34 i (by omega) (by omega) (by omega)) (fun i => by rw [h.2.1]) (fun i => by rw [h.2.1]) (fun _ _ _ => rfl)
/-- nobody slips by this set -/
def HH (R : Mem) (n f t k : Nat) : Prop := ¬ SL (EA R 163) (barR R n (Int32.ofNat k)) f t
def pcn (k : Nat) : Nat := pc (Int32.ofNat k)
theorem watchI_c {X R S : Mem} {n m l c l' t : Nat} {v1 v2 v3 v4 v5 : Int32} {y : Mem ⊕ (Int32 × Mem)} (za : ZA X R n) (wf : WFr X S) (hl : v2.toInt = (l : Int)) (hc : v1.toInt = (c : Int)) (l2 : l < 2) (c36 : c < 36) (on : onN R l c) (hl' : v4.toInt = (l' : Int)) (ht : v3.toInt = (t : Int)) (l2' : l' < 2) (t36 : t < 36) (h5 : v5.toInt = (m : Int)) (e : iter (lb_Top_watch_45 v1 v2 v3 v4 v5) FU ((0 : Int32), S) = some y) : (∃ N, y = .inl N ∧ WFr X N ∧ ∀ k, k < 2 ^ n → pcn k = m → ¬ HH R n (36 * l + c) (36 * l' + t) k) ∨ (∃ k v N, y = .inr (v, N) ∧ v.toInt = ((k : Nat) : Int) ∧ k < 2 ^ n ∧ WFr X N ∧ pcn k = m ∧ HH R n (36 * l + c) (36 * l' + t) k ∧ ∀ j, j < k → pcn j = m → ¬ HH R n (36 * l + c) (36 * l' + t) j) := by
  have n8 := za.1.1
  have n8' : (2 : Nat) ^ n ≤ 2 ^ 8 := Nat.pow_le_pow_right (by omega) n8
  refine it_r (I := fun s : Int32 × Mem => ∃ k : Nat, k ≤ 2 ^ n ∧ s.1.toInt = (k : Int) ∧ WFr X s.2 ∧ ∀ j, j < k → pcn j = m → ¬ HH R n (36 * l + c) (36 * l' + t) j) (Q := fun y : Mem ⊕ (Int32 × Mem) => (∃ N, y = .inl N ∧ WFr X N ∧ ∀ k, k < 2 ^ n → pcn k = m → ¬ HH R n (36 * l + c) (36 * l' + t) k) ∨ (∃ k v N, y = .inr (v, N) ∧ v.toInt = ((k : Nat) : Int) ∧ k < 2 ^ n ∧ WFr X N ∧ pcn k = m ∧ HH R n (36 * l + c) (36 * l' + t) k ∧ ∀ j, j < k → pcn j = m → ¬ HH R n (36 * l + c) (36 * l' + t) j)) ?_ e ⟨0, Nat.zero_le _, rfl, wf, fun j h => by omega⟩
  rintro ⟨i, N⟩ r ⟨k, kle, hk, hw, hno⟩ e
  dsimp only at hk hw hno
  have zaN := WFr_ZA za hw
  have hn : (N.1 6 4).toInt = (n : Int) := by rw [zaN.1.2.2.1.2.1.2.1]; exact zaN.1.2.2.1.2.1.1
  have pw := pw_i hn n8
  unfold lb_Top_watch_45 at e
  dsimp only at e
  rcases io e with ⟨g, e⟩ | ⟨g, e⟩
  · have gl := q_le g
    obtain rfl := Option.some.inj e
    exact .inl ⟨_, rfl, hw, fun j hj => hno j (by omega)⟩
  have gl := q_ng g
  have kl : k < 2 ^ n := by omega
  have i1 : (i + (1 : Int32)).toInt = ((k + 1 : Nat) : Int) := add_ti hk o1 (by omega) (by omega)
  have vk : i = Int32.ofNat k := ofn_eq hk (by omega)
  obtain ⟨x3, e3, e⟩ := bo e
  have b3 := bcn hk kl n8 e3
  have keep : (pcn k = m → ¬ HH R n (36 * l + c) (36 * l' + t) k) → ∀ j, j < k + 1 → pcn j = m → ¬ HH R n (36 * l + c) (36 * l' + t) j := by
    intro h j hj
    by_cases c : j = k
    · subst c; exact h
    · exact hno j (by omega)
  rcases io e with ⟨g3, e⟩ | ⟨g3, e⟩
  · have gg := q_eq g3
    have pk : pcn k = m := by unfold pcn; rw [← vk]; omega
    obtain ⟨x4, e4, e⟩ := bo e
    obtain ⟨s1, s2, s3, s4⟩ := slips_c zaN hk kl hl hc l2 c36 on hl' ht l2' t36 e4
    have hw4 : WFr X x4.2 := ⟨by rw [s2]; exact hw.1, by rw [s3]; exact hw.2.1, fun k i a b c => by rw [s4 k i a b c]; exact hw.2.2 k i a b c⟩
    rcases io e with ⟨g4, e⟩ | ⟨g4, e⟩
    · obtain rfl := Option.some.inj e
      refine .inr ⟨k, _, _, rfl, hk, kl, hw4, pk, ?_, hno⟩
      unfold HH
      rw [← vk]
      exact s1.mp g4
    · obtain rfl := Option.some.inj e
      refine ⟨k + 1, by omega, i1, hw4, keep (fun _ h => g4 (s1.mpr ?_))⟩
      unfold HH at h
      rw [← vk] at h
      exact h
  · have gg := q_ne g3
    obtain rfl := Option.some.inj e
    exact ⟨k + 1, by omega, i1, hw, keep (fun h => by unfold pcn at h; rw [← vk] at h; omega)⟩
theorem watch_q {X R : Mem} {n : Nat} {v1 v2 v3 v4 : Int32} {x r : Int32 × Mem} (za : ZA X R n) (ex : f_Top_watch v1 v2 v3 v4 X = some x) (er : f_Mod_watch v1 v2 v3 v4 R = some r) : x.1 = r.1 ∧ (RR X R → RR x.2 r.2) := by
  have ym := om
  unfold f_Mod_watch at er
  obtain ⟨M1, m1, er⟩ := mo er
  obtain ⟨zaM, fqM⟩ := ZA_M1 za m1
  obtain ⟨n8, jM, ⟨zg, zc, zl⟩, zs, zv, zw⟩ := zaM.1
  have n8' : (2 : Nat) ^ n ≤ 2 ^ 8 := Nat.pow_le_pow_right (by omega) n8
  unfold f_Top_watch at ex
  obtain ⟨x1, ex1, ex⟩ := bo ex
  obtain ⟨y2, ey2, er⟩ := bo er
  rcases plc_2 zg jM ex1 ey2 with ⟨a, b⟩ | ⟨a, b, l, c, l2, c36, hl, hc, onc⟩
  · rw [a, if_pos rfl] at ex
    rw [b, if_pos rfl] at er
    obtain rfl := Option.some.inj ex
    obtain rfl := Option.some.inj er
    exact ⟨rfl, FQ2_RR fqM⟩
  rw [a, if_neg (by decide)] at ex
  rw [b, if_neg (by decide)] at er
  obtain ⟨x2, ex2, ex⟩ := bo ex
  obtain ⟨y3, ey3, er⟩ := bo er
  rcases plc_2 zg jM ex2 ey3 with ⟨a, b⟩ | ⟨a, b, l', t, l2', t36, hl', ht, ont⟩
  · rw [a, if_pos rfl] at ex
    rw [b, if_pos rfl] at er
    obtain rfl := Option.some.inj ex
    obtain rfl := Option.some.inj er
    exact ⟨rfl, FQ2_RR fqM⟩
  rw [a, if_neg (by decide)] at ex
  rw [b, if_neg (by decide)] at er
  obtain ⟨s, es, ex⟩ := bo ex
  obtain ⟨x13, e13, er⟩ := bo er
  have A : (∃ N, s = .inl N ∧ WFr X N ∧ ∀ k, k < 2 ^ n → ¬ HH M1 n (36 * l + c) (36 * l' + t) k) ∨ (∃ k w v N, s = .inr (w, v, N) ∧ w.toInt = ((pcn k : Nat) : Int) ∧ v.toInt = ((k : Nat) : Int) ∧ k < 2 ^ n ∧ WFr X N ∧ HH M1 n (36 * l + c) (36 * l' + t) k ∧ (∀ j, j < 2 ^ n → pcn j < pcn k → ¬ HH M1 n (36 * l + c) (36 * l' + t) j) ∧ ∀ j, j < k → pcn j = pcn k → ¬ HH M1 n (36 * l + c) (36 * l' + t) j) := by
    refine it_r (I := fun s : Int32 × Mem => ∃ m : Nat, m ≤ n + 1 ∧ s.1.toInt = (m : Int) ∧ WFr X s.2 ∧ ∀ j, j < 2 ^ n → pcn j < m → ¬ HH M1 n (36 * l + c) (36 * l' + t) j) (Q := fun s : Mem ⊕ (Int32 × Int32 × Mem) => (∃ N, s = .inl N ∧ WFr X N ∧ ∀ k, k < 2 ^ n → ¬ HH M1 n (36 * l + c) (36 * l' + t) k) ∨ (∃ k w v N, s = .inr (w, v, N) ∧ w.toInt = ((pcn k : Nat) : Int) ∧ v.toInt = ((k : Nat) : Int) ∧ k < 2 ^ n ∧ WFr X N ∧ HH M1 n (36 * l + c) (36 * l' + t) k ∧ (∀ j, j < 2 ^ n → pcn j < pcn k → ¬ HH M1 n (36 * l + c) (36 * l' + t) j) ∧ ∀ j, j < k → pcn j = pcn k → ¬ HH M1 n (36 * l + c) (36 * l' + t) j)) ?_ es ⟨0, by omega, rfl, ⟨rfl, rfl, fun _ _ _ _ _ => rfl⟩, fun j _ h => by omega⟩
    rintro ⟨i, N⟩ r ⟨m, mle, hm, hw, hno⟩ e
    dsimp only at hm hw hno
    have zaN := WFr_ZA zaM hw
    have hn : (N.1 6 4).toInt = (n : Int) := by rw [zaN.1.2.2.1.2.1.2.1]; exact zaN.1.2.2.1.2.1.1
    unfold lb_Top_watch_30 at e
    dsimp only at e
    rcases io e with ⟨g, e⟩ | ⟨g, e⟩
    · have gl := q_lt g
      obtain rfl := Option.some.inj e
      refine .inl ⟨_, rfl, hw, fun k hk => hno k hk ?_⟩
      have := pc_n8 n8 (bt_sm (ofn_ti (n := k) (by omega)) hk n8)
      unfold pcn
      omega
    have gl := q_nl g
    obtain ⟨y, ey, e⟩ := bo e
    rcases watchI_c zaM hw hl hc l2 c36 onc hl' ht l2' t36 hm ey with ⟨N', rfl, hw', hno'⟩ | ⟨k, v, N', rfl, hv, kl, hw', pk, hk, hj⟩
    · have e := el_l e
      obtain rfl := Option.some.inj e
      refine ⟨m + 1, by omega, add_ti hm o1 (by omega) (by omega), hw', fun j hj hp => ?_⟩
      by_cases c : pcn j = m
      · exact hno' j hj c
      · exact hno j hj (by omega)
    · have e := el_r e
      obtain rfl := Option.some.inj e
      exact .inr ⟨k, _, _, _, rfl, by rw [pk]; exact hm, hv, kl, hw', hk, fun j hj' hp => hno j hj' (by omega), fun j hj' hp => hj j hj' (by omega)⟩
  have B : (∀ kx i, kx ≠ 186 → x13.2.1 kx i = M1.1 kx i) ∧ ((x13.1 = -1 ∧ ∀ j, j < 2 ^ n → ¬ HH M1 n (36 * l + c) (36 * l' + t) j) ∨ (∃ b : Nat, x13.1.toInt = (b : Int) ∧ b < 2 ^ n ∧ HH M1 n (36 * l + c) (36 * l' + t) b ∧ ∀ j, j < 2 ^ n → HH M1 n (36 * l + c) (36 * l' + t) j → pcn b < pcn j ∨ (pcn b = pcn j ∧ b ≤ j))) := by
    refine it_r (I := fun s : Int32 × Int32 × Mem => ∃ k : Nat, k ≤ 2 ^ n ∧ s.2.1.toInt = (k : Int) ∧ J s.2.2 ∧ (∀ kx i, kx ≠ 186 → s.2.2.1 kx i = M1.1 kx i) ∧ ((s.1 = -1 ∧ ∀ j, j < k → ¬ HH M1 n (36 * l + c) (36 * l' + t) j) ∨ (∃ b : Nat, s.1.toInt = (b : Int) ∧ b < k ∧ HH M1 n (36 * l + c) (36 * l' + t) b ∧ ∀ j, j < k → HH M1 n (36 * l + c) (36 * l' + t) j → pcn b < pcn j ∨ (pcn b = pcn j ∧ b ≤ j)))) (Q := fun x13 : Int32 × Mem => (∀ kx i, kx ≠ 186 → x13.2.1 kx i = M1.1 kx i) ∧ ((x13.1 = -1 ∧ ∀ j, j < 2 ^ n → ¬ HH M1 n (36 * l + c) (36 * l' + t) j) ∨ (∃ b : Nat, x13.1.toInt = (b : Int) ∧ b < 2 ^ n ∧ HH M1 n (36 * l + c) (36 * l' + t) b ∧ ∀ j, j < 2 ^ n → HH M1 n (36 * l + c) (36 * l' + t) j → pcn b < pcn j ∨ (pcn b = pcn j ∧ b ≤ j)))) ?_ e13 ⟨0, Nat.zero_le _, rfl, jM, fun _ _ _ => rfl, .inl ⟨rfl, fun j h => by omega⟩⟩
    rintro ⟨bs, i, T⟩ r ⟨k, kle, hk, jT, fT, hb⟩ e
    dsimp only at hk jT fT hb
    unfold lb_Mod_watch_32 at e
    dsimp only at e
    have pw := pw_i (v := T.1 162 4) (by rw [fT 162 4 (by omega)]; exact zc.1) n8
    rcases io e with ⟨g, e⟩ | ⟨g, e⟩
    · have gl := q_le g
      obtain rfl := Option.some.inj e
      have : k = 2 ^ n := by omega
      subst this
      exact ⟨fT, hb⟩
    have gl := q_ng g
    have kl : k < 2 ^ n := by omega
    have i1 : (i + (1 : Int32)).toInt = ((k + 1 : Nat) : Int) := add_ti hk o1 (by omega) (by omega)
    have vk : i = Int32.ofNat k := ofn_eq hk (by omega)
    -- this set is tried
    have body : (∀ b : Nat, bs.toInt = (b : Int) → b < 2 ^ n → pcn k < pcn b) → j_Mod_watch_65_32 v1 v2 v3 v4 bs i T = some r → Sum.elim (fun s : Int32 × Int32 × Mem => ∃ k : Nat, k ≤ 2 ^ n ∧ s.2.1.toInt = (k : Int) ∧ J s.2.2 ∧ (∀ kx i, kx ≠ 186 → s.2.2.1 kx i = M1.1 kx i) ∧ ((s.1 = -1 ∧ ∀ j, j < k → ¬ HH M1 n (36 * l + c) (36 * l' + t) j) ∨ (∃ b : Nat, s.1.toInt = (b : Int) ∧ b < k ∧ HH M1 n (36 * l + c) (36 * l' + t) b ∧ ∀ j, j < k → HH M1 n (36 * l + c) (36 * l' + t) j → pcn b < pcn j ∨ (pcn b = pcn j ∧ b ≤ j)))) (fun x13 : Int32 × Mem => (∀ kx i, kx ≠ 186 → x13.2.1 kx i = M1.1 kx i) ∧ ((x13.1 = -1 ∧ ∀ j, j < 2 ^ n → ¬ HH M1 n (36 * l + c) (36 * l' + t) j) ∨ (∃ b : Nat, x13.1.toInt = (b : Int) ∧ b < 2 ^ n ∧ HH M1 n (36 * l + c) (36 * l' + t) b ∧ ∀ j, j < 2 ^ n → HH M1 n (36 * l + c) (36 * l' + t) j → pcn b < pcn j ∨ (pcn b = pcn j ∧ b ≤ j)))) r := by
      intro hlt e
      unfold j_Mod_watch_65_32 at e
      obtain ⟨x4, e4, e⟩ := bo e
      obtain ⟨x5, e5, e⟩ := bo e
      obtain ⟨x6, e6, e⟩ := bo e
      have p4 := place_c hl hc l2 c36 e4
      have p5 := place_c hl' ht l2' t36 e5
      obtain ⟨g1, g2, g3⟩ := gets_r jM (KP_v zv) zc.1 n8 jT fT p4 (by omega) ((onP_lc l2 c36).mpr onc) p5 (by omega) e6
      rw [vk] at g1
      rcases io e with ⟨g, e⟩ | ⟨g, e⟩
      · obtain rfl := Option.some.inj e
        have h := g1.mp g
        refine ⟨k + 1, by omega, i1, g2, g3, .inr ⟨k, hk, by omega, h, fun j hj hh => ?_⟩⟩
        by_cases c : j = k
        · subst c; exact .inr ⟨rfl, Nat.le_refl _⟩
        · rcases hb with ⟨_, hb⟩ | ⟨b, hb1, hb2, _, hb4⟩
          · exact absurd hh (hb j (by omega))
          · have lt := hlt b hb1 (by omega)
            rcases hb4 j (by omega) hh with h | h
            · exact .inl (by omega)
            · exact .inl (by omega)
      · obtain rfl := Option.some.inj e
        have h : ¬ HH M1 n (36 * l + c) (36 * l' + t) k := fun h => g (g1.mpr h)
        refine ⟨k + 1, by omega, i1, g2, g3, ?_⟩
        rcases hb with ⟨hb0, hb⟩ | ⟨b, hb1, hb2, hb3, hb4⟩
        · refine .inl ⟨hb0, fun j hj => ?_⟩
          by_cases c : j = k
          · subst c; exact h
          · exact hb j (by omega)
        · refine .inr ⟨b, hb1, by omega, hb3, fun j hj hh => ?_⟩
          by_cases c : j = k
          · subst c; exact absurd hh h
          · exact hb4 j (by omega) hh
    rcases io e with ⟨g, e⟩ | ⟨g, e⟩
    · have gg := q_eq g
      exact body (fun b h _ => by omega) e
    obtain ⟨x8, e8, e⟩ := bo e
    obtain ⟨x9, e9, e⟩ := bo e
    have b8 := bcn hk kl n8 e8
    have nb : ∃ b : Nat, bs.toInt = (b : Int) ∧ b < k ∧ HH M1 n (36 * l + c) (36 * l' + t) b ∧ ∀ j, j < k → HH M1 n (36 * l + c) (36 * l' + t) j → pcn b < pcn j ∨ (pcn b = pcn j ∧ b ≤ j) := by
      rcases hb with ⟨h, _⟩ | h
      · exact absurd h g
      · exact h
    obtain ⟨b, hb1, hb2, hb3, hb4⟩ := nb
    have b9 := bcn hb1 (show b < 2 ^ n by omega) n8 e9
    have vb : bs = Int32.ofNat b := ofn_eq hb1 (by omega)
    have pk : pcn k = pc i := by unfold pcn; rw [← vk]
    have pb : pcn b = pc bs := by unfold pcn; rw [← vb]
    rcases io e with ⟨g', e⟩ | ⟨g', e⟩
    · have gl' := q_lt g'
      exact body (fun b' h _ => by
        have : b' = b := by omega
        subst this
        omega) e
    · have gl' := q_nl g'
      obtain rfl := Option.some.inj e
      refine ⟨k + 1, by omega, i1, jT, fT, .inr ⟨b, hb1, by omega, hb3, fun j hj hh => ?_⟩⟩
      by_cases c : j = k
      · subst c
        by_cases w : pcn b = pcn j
        · exact .inr ⟨w, by omega⟩
        · exact .inl (by omega)
      · exact hb4 j (by omega) hh
  obtain ⟨fB, B⟩ := B
  rcases A with ⟨N, rfl, wN, hno⟩ | ⟨k, w, v, N, rfl, hw, hv, kl, wN, hk, hlt, heq⟩
  · have ex := el_l ex
    obtain rfl := Option.some.inj ex
    rcases B with ⟨hb, _⟩ | ⟨b, _, b2, b3, _⟩
    rotate_left
    · exact absurd b3 (hno b b2)
    rw [hb, if_pos rfl] at er
    obtain rfl := Option.some.inj er
    exact ⟨rfl, fun h => RR_f (by rw [wN.1]) (fun i => by rw [wN.1]) (fB 162 12 (by omega)) (fun i => fB 168 i (by omega)) (FQ2_RR fqM h)⟩
  · have ex := el_r ex
    rcases B with ⟨_, hb⟩ | ⟨b, b1, b2, b3, b4⟩
    · exact absurd hk (hb k kl)
    have bk : b = k := by
      rcases b4 k kl hk with h | ⟨h1, h2⟩
      · exact absurd b3 (hlt b b2 h)
      · by_cases c : b = k
        · exact c
        · exact absurd b3 (heq b (by omega) h1)
    subst bk
    rw [if_neg (fun h => by have := q_eq h; omega)] at er
    obtain ⟨x15, e15, ex⟩ := bo ex
    obtain ⟨x16, e16, ex⟩ := bo ex
    obtain rfl := Option.some.inj ex
    obtain ⟨M14, m14, er⟩ := mo er
    obtain ⟨y15, f15, er⟩ := bo er
    obtain ⟨y16, f16, er⟩ := bo er
    obtain rfl := Option.some.inj er
    have bc := bcn b1 b2 n8 f16
    have vb : x13.1 = Int32.ofNat b := ofn_eq b1 (by omega)
    exact ⟨Int32.toInt_inj.mp (by show w.toInt = y16.toInt; rw [hw, bc, vb]; rfl), fun _ => RRn_r (k := 1) (by omega) (RR_n (RR_0 e15 m14) (by omega) (Int32.toInt_inj.mp (by show v.toInt = x13.1.toInt; omega)) e16 f15)⟩
end
