/-! lines of the folk: both readers -/
def lvt (t : Nat → Int) (p : Nat) : Int := if t p = 119 then 1 else 0
def dgl (t : Nat → Int) (p : Nat) : Nat := dgn t 2 (p + 1)
def cel (t : Nat → Int) (p : Nat) : Int := dgv t 2 (p + 1) 0
def rst (t : Nat → Int) (p : Nat) : Nat := p + 2 + dgl t p
def LnOk (t : Nat → Int) (on : Int → Int → Prop) (p : Nat) : Prop := (t p = 109 ∨ t p = 119) ∧ 0 < dgl t p ∧ on (lvt t p) (cel t p) ∧ t (p + 1 + dgl t p) = 58 ∧ 0 < rtn t 9 (rst t p)
theorem rtn_le (t : Nat → Int) : ∀ K q, rtn t K q ≤ K := by
  intro K
  induction K with
  | zero => intro q; exact Nat.le_refl 0
  | succ K ih =>
    intro q
    unfold rtn
    split
    · omega
    · have := ih (q + 1); omega
theorem dgn_le (t : Nat → Int) : ∀ K q, dgn t K q ≤ K := by
  intro K
  induction K with
  | zero => intro q; exact Nat.le_refl 0
  | succ K ih =>
    intro q
    unfold dgn
    split
    · have := ih (q + 1); omega
    · omega
theorem bt_lev {w v : Int32} {l d : Nat} (hw : w.toInt = (l : Int)) (hl : l ≤ 1) (hv : v.toInt = (d : Int)) (hd : d < 32) (i : Nat) : bt (w <<< (v &&& 31)) i = (decide (l = 1) && decide (i = d)) := by
  rcases Nat.lt_or_ge l 1 with g | g
  · have l0 : l = 0 := by omega
    subst l0
    have : w = 0 := Int32.toInt_inj.mp hw
    subst this
    rw [show ((0 : Int32) <<< (v &&& 31)) = 0 by
      refine Int32.toBitVec_inj.mp ?_
      rw [Int32.toBitVec_shiftLeft]
      simp]
    rw [bt_0]; simp
  · have l1 : l = 1 := by omega
    subst l1
    have : w = 1 := Int32.toInt_inj.mp hw
    subst this
    rw [bt_one hv hd]; simp
theorem dig_q {A : Mem} {v1 v2 v3 : Int32} {x} (e : f_Signs_digits v1 v2 v3 A = some x) : x.2.2 = A.2 := by
  unfold f_Signs_digits at e
  obtain ⟨M1, e1, e⟩ := mo e
  obtain ⟨x8, e8, e⟩ := bo e
  obtain rfl := Option.some.inj e
  refine it_r (I := fun s : Int32 × Int32 × Mem => s.2.2.2 = A.2) (Q := fun x : Int32 × Mem => x.2.2 = A.2) ?_ e8 (by rw [e1]; rfl)
  rintro ⟨a, b, N⟩ r h e
  dsimp only at h
  unfold lb_Signs_digits_11 at e
  dsimp only at e
  rcases io e with ⟨_, e⟩ | ⟨_, e⟩
  · obtain rfl := Option.some.inj e; exact h
  rcases io e with ⟨_, e⟩ | ⟨_, e⟩
  · obtain ⟨x2, _, e⟩ := bo e
    rcases io e with ⟨_, e⟩ | ⟨_, e⟩
    · obtain rfl := Option.some.inj e; exact h
    rcases io e with ⟨_, e⟩ | ⟨_, e⟩
    · obtain rfl := Option.some.inj e; exact h
    · obtain ⟨M3, m3, e⟩ := mo e
      obtain rfl := Option.some.inj e
      show M3.2 = _
      rw [m3, si_2]; exact h
  · obtain rfl := Option.some.inj e; exact h
theorem line_c {A R : Mem} (zg : ZG A R) (jR : J R) (hl : (A.1 1 1).toInt ≤ 80) {v3 v4 : Int32} {m p : Nat} (h3 : v3.toInt = (m : Int)) (h4 : v4.toInt = (p : Int)) (p80 : p ≤ 80) {x} (e : f_Crowd_readLine v3 v4 A = some x) : (∀ kx i, ¬ (kx = 1 ∧ i = 2) → kx ≠ 9 → ¬ (kx = 6 ∧ i = 6) → ¬ (kx = 7 ∧ 9 * m ≤ i) → ¬ (kx = 8 ∧ m ≤ i) → x.2.1 kx i = A.1 kx i) ∧ x.2.2 = A.2 ∧ ((m < 8 ∧ LnOk (cx A 76) (onN R) p ∧ x.1.toInt = ((rst (cx A 76) p + rtn (cx A 76) 9 (rst (cx A 76) p) : Nat) : Int) ∧ (x.2.1 9 m).toInt = cel (cx A 76) p ∧ (∀ i, i ≠ m → x.2.1 9 i = A.1 9 i) ∧ (∀ d, bt (x.2.1 6 6) d = (bt (A.1 6 6) d || (decide (lvt (cx A 76) p = 1) && decide (d = m)))) ∧ (x.2.1 8 m).toInt = (rtn (cx A 76) 9 (rst (cx A 76) p) : Int) ∧ (∀ i, i < rtn (cx A 76) 9 (rst (cx A 76) p) → (x.2.1 7 (9 * m + i)).toInt = stp (cx A 76 (rst (cx A 76) p + i)) ∧ stp (cx A 76 (rst (cx A 76) p + i)) ≠ -1)) ∨ (¬ (m < 8 ∧ LnOk (cx A 76) (onN R) p) ∧ x.1.toInt < 0)) := by
  have z0 := o0
  have ym := om
  have y1 := o1
  have k76 : (76 : Int32).toInt = ((76 : Nat) : Int) := rfl
  have k119 : (119 : Int32).toInt = 119 := rfl
  have k109 : (109 : Int32).toInt = 109 := rfl
  have k58 : (58 : Int32).toInt = 58 := rfl
  have k8 : (8 : Int32).toInt = 8 := rfl
  have k9 : (9 : Int32).toInt = 9 := rfl
  have h51 : ∀ w0 : Int32, w0.toInt = lvt (cx A 76) p → m < 8 → (cx A 76 p = 109 ∨ cx A 76 p = 119) → j_Crowd_readLine_51 v3 v4 w0 A = some x → (∀ kx i, ¬ (kx = 1 ∧ i = 2) → kx ≠ 9 → ¬ (kx = 6 ∧ i = 6) → ¬ (kx = 7 ∧ 9 * m ≤ i) → ¬ (kx = 8 ∧ m ≤ i) → x.2.1 kx i = A.1 kx i) ∧ x.2.2 = A.2 ∧ ((m < 8 ∧ LnOk (cx A 76) (onN R) p ∧ x.1.toInt = ((rst (cx A 76) p + rtn (cx A 76) 9 (rst (cx A 76) p) : Nat) : Int) ∧ (x.2.1 9 m).toInt = cel (cx A 76) p ∧ (∀ i, i ≠ m → x.2.1 9 i = A.1 9 i) ∧ (∀ d, bt (x.2.1 6 6) d = (bt (A.1 6 6) d || (decide (lvt (cx A 76) p = 1) && decide (d = m)))) ∧ (x.2.1 8 m).toInt = (rtn (cx A 76) 9 (rst (cx A 76) p) : Int) ∧ (∀ i, i < rtn (cx A 76) 9 (rst (cx A 76) p) → (x.2.1 7 (9 * m + i)).toInt = stp (cx A 76 (rst (cx A 76) p + i)) ∧ stp (cx A 76 (rst (cx A 76) p + i)) ≠ -1)) ∨ (¬ (m < 8 ∧ LnOk (cx A 76) (onN R) p) ∧ x.1.toInt < 0)) := by
    intro w0 hw m8 hmw e
    have p76 : p < 76 := by
      have : cx A 76 p ≠ -1 := by omega
      unfold cx at this
      by_cases g : ((p : Nat) : Int) < (A.1 1 1).toInt ∧ p < 76
      · exact g.2
      · exact absurd (if_neg g) this
    have rse : rst (cx A 76) p = p + 2 + dgl (cx A 76) p := rfl
    have dlb : dgl (cx A 76) p ≤ 2 := dgn_le _ 2 (p + 1)
    unfold j_Crowd_readLine_51 at e
    obtain ⟨x2, e2, e⟩ := bo e
    have hv4 : (v4 + (1 : Int32)).toInt = ((p + 1 : Nat) : Int) := add_ti h4 o1 (by omega) (by omega)
    obtain ⟨d1, d2, d3, d4, d5⟩ := dig_i (K := 76) (n := 2) hl hv4 k76 rfl (by omega) (by omega) e2
    have d2q : x2.2.2 = A.2 := dig_q e2
    have dl : dgn (cx A 76) 2 (p + 1) ≤ 2 := dgn_le _ 2 (p + 1)
    have hbeh : ((v4 + (1 : Int32)) + x2.1).toInt = ((p + 1 + dgl (cx A 76) p : Nat) : Int) := by
      rw [add_ti hv4 d2 (by omega) (by omega)]; unfold dgl; omega
    have fr0 : ∀ kx i, ¬ (kx = 1 ∧ i = 2) → kx ≠ 9 → ¬ (kx = 6 ∧ i = 6) → ¬ (kx = 7 ∧ 9 * m ≤ i) → ¬ (kx = 8 ∧ m ≤ i) → x2.2.1 kx i = A.1 kx i := fun kx i h _ _ _ _ => d1 kx i h
    rcases io e with ⟨c, e⟩ | ⟨c, e⟩
    · obtain rfl := Option.some.inj e
      have cc := q_eq c
      refine ⟨fr0, d2q, .inr ⟨fun h => ?_, ?_⟩⟩
      · have := h.2.2.1
        unfold dgl at this
        omega
      · show ((-1 : Int32) - ((v4 + (1 : Int32)) + x2.1)).toInt < 0
        rw [sub_ti om hbeh (by omega) (by omega)]; omega
    have cc := q_ne c
    have dpos : 0 < dgl (cx A 76) p := by unfold dgl; omega
    obtain ⟨x3, e3, e⟩ := bo e
    have zg2 : ZG x2.2 R := ZG_f (d1 3 2 (by omega)) (d1 3 3 (by omega)) (fun i => d1 4 i (by omega)) rfl rfl (fun _ => rfl) zg
    have hh := holdsC zg2 jR e3
    have lb : 0 ≤ w0.toInt ∧ w0.toInt ≤ 1 := by rw [hw]; unfold lvt; split <;> omega
    have hcel : (x2.2.1 1 2).toInt = cel (cx A 76) p := d3
    rw [hw, hcel] at hh
    rcases hh with ⟨hx3, _, _, hon⟩ | ⟨hx3, hon⟩
    rotate_left
    · rw [hx3, if_pos rfl] at e
      obtain ⟨x11, e11, e⟩ := bo e
      have no : ¬ (m < 8 ∧ LnOk (cx A 76) (onN R) p) := fun h => hon ⟨by rw [← hw]; omega, by rw [← hw]; omega, h.2.2.2.1⟩
      rcases io e with ⟨c, e⟩ | ⟨c, e⟩
      · obtain rfl := Option.some.inj e
        refine ⟨fr0, d2q, .inr ⟨no, ?_⟩⟩
        show (-((v4 + (1 : Int32)) + x2.1)).toInt < 0
        rw [neg_ti hbeh (by omega) (by omega)]; omega
      · obtain rfl := Option.some.inj e
        refine ⟨fr0, d2q, .inr ⟨no, ?_⟩⟩
        show ((-1 : Int32) - ((v4 + (1 : Int32)) + x2.1)).toInt < 0
        rw [sub_ti om hbeh (by omega) (by omega)]; omega
    rw [hx3, if_neg (by decide)] at e
    obtain ⟨x4, e4, e⟩ := bo e
    have cx2 : cx x2.2 76 = cx A 76 := cx_c (d1 1 1 (by omega)) (fun i => d1 2 i (by omega)) 76
    have h4' := at_i (K := 76) hbeh k76 (by rw [d1 1 1 (by omega)]; exact hl) e4
    rw [cx2] at h4'
    rcases io e with ⟨c, e⟩ | ⟨c, e⟩
    rotate_left
    · have c2 := q_ne c
      obtain rfl := Option.some.inj e
      refine ⟨fr0, d2q, .inr ⟨fun h => ?_, ?_⟩⟩
      · have := h.2.2.2.2.1; omega
      · show ((-1 : Int32) - ((v4 + (1 : Int32)) + x2.1)).toInt < 0
        rw [sub_ti om hbeh (by omega) (by omega)]; omega
    have c2 := q_eq c
    have colon : cx A 76 (p + 1 + dgl (cx A 76) p) = 58 := by omega
    obtain ⟨_, e⟩ := io_n e
    obtain ⟨M5, m5, e⟩ := mo e
    obtain ⟨M6, m6, e⟩ := mo e
    obtain ⟨x7, e7, e⟩ := bo e
    rw [q_nat h3] at m5
    have p78 : p + 1 + dgl (cx A 76) p < 76 := by
      have : cx A 76 (p + 1 + dgl (cx A 76) p) ≠ -1 := by omega
      unfold cx at this
      by_cases g : ((p + 1 + dgl (cx A 76) p : Nat) : Int) < (A.1 1 1).toInt ∧ p + 1 + dgl (cx A 76) p < 76
      · exact g.2
      · exact absurd (if_neg g) this
    have hrs : (((v4 + (1 : Int32)) + x2.1) + (1 : Int32)).toInt = ((rst (cx A 76) p : Nat) : Int) := by
      rw [add_ti hbeh o1 (by omega) (by omega)]; omega
    have h39 : (v3 * (9 : Int32)).toInt = ((9 * m : Nat) : Int) := by
      rw [mul_ti h3 k9 (by omega) (by omega)]; omega
    have hlr := ln_rt
    have f6 : ∀ kx i, ¬ (kx = 1 ∧ i = 2) → ¬ (kx = 9 ∧ i = m) → ¬ (kx = 6 ∧ i = 6) → M6.1 kx i = A.1 kx i := fun kx i g1 g2 g3 => by
      rw [m6, si_ne g3, m5, si_ne g2]; exact d1 kx i g1
    have q6 : M6.2 = A.2 := by rw [m6, si_2, m5, si_2, d2q]
    obtain ⟨s1, s2, s3, s4⟩ := steps_i (A := M6) (K := 76) (o := 9 * m) (p := rst (cx A 76) p) (by rw [f6 1 1 (by omega) (by omega) (by omega)]; exact hl) hrs (by omega) k76 (.inr rfl) h39 (by omega) e7
    have cx6 : cx M6 76 = cx A 76 := cx_c (f6 1 1 (by omega) (by omega) (by omega)) (fun i => f6 2 i (by omega) (by omega) (by omega)) 76
    rw [cx6] at s1 s2
    obtain ⟨_, e⟩ := io_n e
    obtain ⟨M8, m8', e⟩ := mo e
    rw [q_nat h3] at m8'
    obtain ⟨_, e⟩ := io_n e
    obtain ⟨_, e⟩ := io_n e
    rw [q_nat h3] at e
    have x8 : M8.1 8 m = x7.1 := by rw [m8', si_eq]
    rw [x8] at e
    have f8 : ∀ kx i, ¬ (kx = 1 ∧ i = 2) → ¬ (kx = 9 ∧ i = m) → ¬ (kx = 6 ∧ i = 6) → ¬ (kx = 7 ∧ 9 * m ≤ i) → ¬ (kx = 8 ∧ m ≤ i) → M8.1 kx i = A.1 kx i := fun kx i g1 g2 g3 g4 g5 => by
      rw [m8', si_ne (by omega), s3 kx i (by omega)]; exact f6 kx i g1 g2 g3
    have q8 : M8.2 = A.2 := by rw [m8', si_2, s4, q6]
    have rl := rtn_le (cx A 76) 9 (rst (cx A 76) p)
    have tot : ((((v4 + (1 : Int32)) + x2.1) + (1 : Int32)) + x7.1).toInt = ((rst (cx A 76) p + rtn (cx A 76) 9 (rst (cx A 76) p) : Nat) : Int) := by
      rw [add_ti hrs s1 (by omega) (by omega)]; omega
    rcases io e with ⟨c, e⟩ | ⟨c, e⟩
    · have c3 := q_eq c
      obtain rfl := Option.some.inj e
      refine ⟨fun kx i g1 g2 g3 g4 g5 => f8 kx i g1 (by omega) g3 g4 g5, q8, .inr ⟨fun h => ?_, ?_⟩⟩
      · have := h.2.2.2.2.2; omega
      · show ((-1 : Int32) - ((((v4 + (1 : Int32)) + x2.1) + (1 : Int32)) + x7.1)).toInt < 0
        rw [sub_ti om tot (by omega) (by omega)]; omega
    · have c3 := q_ne c
      obtain rfl := Option.some.inj e
      refine ⟨fun kx i g1 g2 g3 g4 g5 => f8 kx i g1 (by omega) g3 g4 g5, q8, .inl ⟨m8, ⟨hmw, dpos, hon, colon, by omega⟩, tot, ?_, fun i hi => ?_, fun d => ?_, ?_, fun i hi => ?_⟩⟩
      · show (M8.1 9 m).toInt = _
        rw [m8', si_ne (by omega), s3 9 m (by omega), m6, si_ne (by omega), m5, si_eq]; exact hcel
      · show M8.1 9 i = _
        exact f8 9 i (by omega) (by omega) (by omega) (by omega) (by omega)
      · show bt (M8.1 6 6) d = _
        obtain ⟨lw, hlw⟩ := ti_ofn lb.1
        rw [m8', si_ne (by omega), s3 6 6 (by omega), m6, si_eq, bt_or, bt_lev hlw (by omega) h3 (by omega), m5, si_ne (by omega), d1 6 6 (by omega)]
        have : (lw = 1) ↔ (lvt (cx A 76) p = 1) := by omega
        rw [decide_eq_decide.mpr this]
      · show (M8.1 8 m).toInt = _
        rw [x8]; exact s1
      · show (M8.1 7 (9 * m + i)).toInt = _ ∧ _
        rw [m8', si_ne (by omega)]; exact s2 i hi
  unfold f_Crowd_readLine at e
  obtain ⟨x1, e1, e⟩ := bo e
  have h1 := at_i (K := 76) h4 k76 hl e1
  have neg : ((-1 : Int32) - v4).toInt < 0 := by rw [sub_ti om h4 (by omega) (by omega)]; omega
  rcases io e with ⟨c, e⟩ | ⟨c, e⟩
  · have := q_lt c; omega
  rcases io e with ⟨c, e⟩ | ⟨c, e⟩
  · have := q_le c
    obtain rfl := Option.some.inj e
    exact ⟨fun _ _ _ _ _ _ _ => rfl, rfl, .inr ⟨fun h => by have := h.1; omega, neg⟩⟩
  have m8 := q_ng c
  unfold j_Crowd_readLine_39 at e
  rcases io e with ⟨c, e⟩ | ⟨c, e⟩
  · have c1 := q_eq c
    rcases io e with ⟨c, e⟩ | ⟨c, e⟩
    · have := q_eq c; omega
    · exact h51 0 (by unfold lvt; rw [if_neg (by omega)]; exact o0) (by omega) (.inl (by omega)) e
  have c1 := q_ne c
  rcases io e with ⟨c, e⟩ | ⟨c, e⟩
  · have c2 := q_eq c
    rcases io e with ⟨c, e⟩ | ⟨c, e⟩
    · exact h51 1 (by unfold lvt; rw [if_pos (by omega)]; exact o1) (by omega) (.inr (by omega)) e
    · have := q_ne c; omega
  have c2 := q_ne c
  obtain rfl := Option.some.inj e
  exact ⟨fun _ _ _ _ _ _ _ => rfl, rfl, .inr ⟨fun h => by have := h.2.1; omega, neg⟩⟩
