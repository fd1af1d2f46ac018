/-! what both sides share: text, size, fire -/
def RL (M : Mem) : Prop := TB M ∧ (M.1 3 3).toInt = (M.1 162 2).toInt * (M.1 162 3).toInt ∧ M.1 0 16 = M.1 162 8
def IV (n : Int) (M : Mem) : Prop := Inv n M ∧ RL M
def mK : Nat := 2582249878086908589655919171986588271770508998758684169467428085721308561626854759412570509258083594120000965339917582331
theorem RL_keep {M x r : Mem} (h : RL M) (fx : Fx mK [] M x) (fr : Fx mK [] x r) (c : (r.1 162 10).toInt ≤ (M.1 162 10).toInt) : RL r := by
  have f : ∀ k i, Nat.testBit mK (sl k i) = false → r.1 k i = M.1 k i := fun k i b => (fr k i b (by simp)).1.trans (fx k i b (by simp)).1
  refine ⟨TB_le h.1 (fun i => f 2 i (by rw [show sl 2 i = 2 from rfl]; decide +kernel)) (fun i => f 167 i (by rw [show sl 167 i = 167 from rfl]; decide +kernel)) c, ?_, ?_⟩
  · rw [f 3 3 (by decide +kernel), f 162 2 (by decide +kernel), f 162 3 (by decide +kernel)]; exact h.2.1
  · rw [f 0 16 (by decide +kernel), f 162 8 (by decide +kernel)]; exact h.2.2
theorem ct_ra {M N : Mem} (t : TX M) (l : M.1 1 1 = M.1 162 10) (g : ∀ k i, 162 ≤ k → N.1 k i = M.1 k i) : ct M = ra N := by
  funext p
  unfold ct ra
  rw [l, g 162 10 (by decide), g 167 p (by decide)]
  by_cases c : (p : Int) < (M.1 162 10).toInt
  · rw [if_pos c, if_pos c]; exact t p c
  · rw [if_neg c, if_neg c]
theorem tup_e {t : Nat → Int} {p q : Nat} (hp : tup t p) (hq : tup t q) (ep : t p = -1) (eq : t q = -1) : p = q := by
  rcases Nat.lt_trichotomy p q with c | c | c
  · exact absurd ep (hq p c).2
  · exact c
  · exact absurd eq (hp q c).2
theorem tup_m {t : Nat → Int} {p q : Nat} (hp : tup t p) (hq : tup t q) (np : ¬ tok (t p) (trun t p)) (oq : tok (t q) (trun t q)) (eq : t q = -1) : False := by
  rcases Nat.lt_trichotomy p q with c | c | c
  · exact np (hq p c).1
  · subst c; exact np oq
  · exact (hp q c).2 eq
theorem tw_town {n : Int} {M : Mem} (h : IV n M) : ∃ x, f_Top_town M = some x ∧ ∃ r, f_Mod_town x.2 = some r ∧ x.1 = r.1 ∧ IV (n + 1) r.2 := by
  obtain ⟨x, ex, q1, q2, q3, q4, q5⟩ := sf_Top_town M h.1.1.1
  obtain ⟨r, er, o⟩ := mr_town (RI_Gc h.1.1 q1 q2)
  have g : ∀ k i, 162 ≤ k → x.2.1 k i = M.1 k i := fun k i w => q2 k i (.inl w)
  have l1 := Jr_1_1 h.1.1.1
  have l2 := Jr_162_10 h.1.1.1
  have c := town_c l1.2 ex
  have d := town_r (A := x.2) (by rw [g 162 10 (by decide)]; exact l2.2) (fun p hp => by rw [g 167 p (by decide)]; rw [g 162 10 (by decide)] at hp; exact h.2.1.2 p hp) er
  rw [show CT M x = CT M x from rfl] at c
  unfold CT at c
  unfold RT2 at d
  rw [← ct_ra h.2.1.1 h.1.2 g] at d
  have f : ∀ k i, k < 162 → r.2.1 k i = x.2.1 k i := o.2.1
  have z10 : r.2.1 162 10 = 0 := o.2.2
  have tb : TB r.2 := ⟨fun i hi => by rw [z10] at hi; have : (0 : Int32).toInt = 0 := rfl; omega, fun i hi => by rw [z10] at hi; have : (0 : Int32).toInt = 0 := rfl; omega⟩
  refine ⟨x, ex, r, er, ?_⟩
  rcases c with ⟨p, up, nt, a, c1, c2, c3, c4⟩ | ⟨p, up, ok, tm, a, c1, c2, ⟨fc, k1, k2⟩, c4⟩
  · rcases d with ⟨p', up', nt', a', d1⟩ | ⟨p', W, Y, up', ok', tm', _⟩
    · have e := tup_u up up' nt nt'
      subst e
      refine ⟨Int32.toInt_inj.mp (a.trans a'.symm), fin1 q5 o, tb, ?_, ?_⟩
      · rw [f 3 3 (by decide), c2, d1 162 2 (by decide) (by decide) (by decide), d1 162 3 (by decide) (by decide) (by decide), g 162 2 (by decide), g 162 3 (by decide)]; exact h.2.2.1
      · rw [f 0 16 (by decide), c4, d1 162 8 (by decide) (by decide) (by decide), g 162 8 (by decide)]; exact h.2.2.2
    · exact (tup_m up up' nt ok' tm').elim
  · rcases d with ⟨p', up', nt', _⟩ | ⟨p', W, Y, up', ok', tm', y6, w0, w6, t1, t2, a', d1, d2, ⟨fr, k3, k4⟩, d3, _⟩
    · exact (tup_m up' up nt' ok tm).elim
    · have e := tup_e up up' tm tm'
      subst e
      refine ⟨Int32.toInt_inj.mp (a.trans (by rw [a', t1])), fin1 q5 o, tb, ?_, ?_⟩
      · rw [f 3 3 (by decide), c2, d1, d2, t1]; push_cast; rw [Int.mul_add]; omega
      · rw [f 0 16 (by decide)]; exact Int32.toInt_inj.mp (c4.trans d3.symm)
theorem has_i {v : Int32} {M : Mem} {x : Int32} (h36 : (M.1 3 3).toInt ≤ 36) (e : f_Ground_has v M = some x) : (x = 1 ∧ 0 ≤ v.toInt ∧ v.toInt < (M.1 3 3).toInt) ∨ (x = 0 ∧ ¬ (0 ≤ v.toInt ∧ v.toInt < (M.1 3 3).toInt)) := by
  have z0 : (0 : Int32).toInt = 0 := rfl
  have z36 : (36 : Int32).toInt = 36 := rfl
  unfold f_Ground_has at e
  rcases io e with ⟨c, e⟩ | ⟨c, e⟩
  · obtain rfl := Option.some.inj e; have := q_lt c; exact .inr ⟨rfl, by omega⟩
  have c1 := q_nl c
  rcases io e with ⟨c, e⟩ | ⟨c, e⟩
  · obtain rfl := Option.some.inj e; have := q_le c; exact .inr ⟨rfl, by omega⟩
  have c2 := q_ng c
  rcases io e with ⟨c, e⟩ | ⟨c, e⟩
  · have := q_le c; omega
  · obtain rfl := Option.some.inj e; exact .inl ⟨rfl, by omega, c2⟩
theorem wh_b {M : Mem} (h : J M) : 1 ≤ (M.1 162 2).toInt * (M.1 162 3).toInt ∧ (M.1 162 2).toInt * (M.1 162 3).toInt ≤ 36 := by
  have a := Jr_162_2 h
  have b := Jr_162_3 h
  have l := Int.mul_le_mul a.2 b.2 (by omega) (by omega)
  have u := Int.mul_le_mul a.1 b.1 (by omega) (by omega)
  omega
theorem cells_i {M : Mem} (h : J M) : ((M.1 162 2) * (M.1 162 3)).toInt = (M.1 162 2).toInt * (M.1 162 3).toInt := by
  have := wh_b h
  exact mul_ti rfl rfl (by omega) (by omega)
theorem isCell_i {v : Int32} {M : Mem} {x : Int32} (h : J M) (e : f_Mod_isCell v M = some x) : (x = 1 ∧ 0 ≤ v.toInt ∧ v.toInt < (M.1 162 2).toInt * (M.1 162 3).toInt) ∨ (x = 0 ∧ ¬ (0 ≤ v.toInt ∧ v.toInt < (M.1 162 2).toInt * (M.1 162 3).toInt)) := by
  unfold f_Mod_isCell f_Mod_cells at e
  obtain ⟨x1, e1, e⟩ := bo e
  obtain rfl := Option.some.inj e1
  obtain ⟨x2, e2, e⟩ := bo e
  obtain ⟨_, e⟩ := io_n e
  obtain rfl := Option.some.inj e
  obtain ⟨r, er, h2⟩ := sp_in v 0 (((M.1 162 2) * (M.1 162 3)) - (1 : Int32))
  rw [er] at e2
  obtain rfl := Option.some.inj e2
  have b := wh_b h
  have ec := cells_i h
  have es : (((M.1 162 2) * (M.1 162 3)) - (1 : Int32)).toInt = (M.1 162 2).toInt * (M.1 162 3).toInt - 1 := sub_ti ec rfl (by omega) (by omega)
  have z0 : (0 : Int32).toInt = 0 := rfl
  rcases h2 with ⟨a, b, c⟩ | ⟨a, b⟩
  · exact .inl ⟨a, by omega, by omega⟩
  · exact .inr ⟨a, by omega⟩
theorem tw_fire {n : Int} {M : Mem} (h : IV n M) (v : Int32) : ∃ x, f_Top_fire v M = some x ∧ ∃ r, f_Mod_fire v x.2 = some r ∧ x.1 = r.1 ∧ IV (n + 1) r.2 := by
  obtain ⟨x, ex, q1, q2⟩ := sf_Top_fire v M h.1.1.1
  obtain ⟨r, er, o⟩ := mr_fire (RI_Gc h.1.1 q1 q2) v
  have g : ∀ k i, 162 ≤ k → x.2.1 k i = M.1 k i := fun k i w => q2 k i (.inl w)
  have f : ∀ k i, k < 162 → r.2.1 k i = x.2.1 k i := o.2.1
  have iv : Inv (n + 1) r.2 := fin0 h.1 q2 o
  have hs := h.2.2.1
  have c : (x.1 = (-2 : Int32) ∧ x.2 = M ∧ ¬ v = -1 ∧ ¬ (0 ≤ v.toInt ∧ v.toInt < (M.1 3 3).toInt)) ∨ (x.1 = M.1 0 16 ∧ x.2 = s_i M 0 16 v ∧ (v = -1 ∨ (0 ≤ v.toInt ∧ v.toInt < (M.1 3 3).toInt))) := by
    unfold f_Top_fire j_Top_fire_19 at ex
    rcases io ex with ⟨c, e⟩ | ⟨c, e⟩
    · obtain ⟨M1, e1, e⟩ := mo e
      obtain rfl := Option.some.inj e
      exact .inr ⟨rfl, e1, .inl c⟩
    · obtain ⟨x2, e2, e⟩ := bo e
      rcases has_i (Jr_3_3 h.1.1.1).2 e2 with ⟨a, b⟩ | ⟨a, b⟩
      · rw [a, if_neg (by decide)] at e
        obtain ⟨M1, e1, e⟩ := mo e
        obtain rfl := Option.some.inj e
        exact .inr ⟨rfl, e1, .inr b⟩
      · rw [a, if_pos rfl] at e
        obtain rfl := Option.some.inj e
        exact .inl ⟨rfl, rfl, c, b⟩
  have d : (r.1 = (-2 : Int32) ∧ r.2 = s_i x.2 162 13 0 ∧ ¬ v = -1 ∧ ¬ (0 ≤ v.toInt ∧ v.toInt < (M.1 3 3).toInt)) ∨ (r.1 = M.1 162 8 ∧ r.2 = s_i (s_i x.2 162 13 0) 162 8 v ∧ (v = -1 ∨ (0 ≤ v.toInt ∧ v.toInt < (M.1 3 3).toInt))) := by
    unfold f_Mod_fire j_Mod_fire_21 at er
    obtain ⟨N1, n1, e⟩ := mo er
    have n8 : N1.1 162 8 = M.1 162 8 := by rw [n1, si_ne (by omega)]; exact g 162 8 (by decide)
    have j1 : J N1 := by rw [n1]; exact Jw_fld okf_162_13 q1 _
    have n2 : (N1.1 162 2).toInt * (N1.1 162 3).toInt = (M.1 3 3).toInt := by
      rw [n1, si_ne (by omega), si_ne (by omega), g 162 2 (by decide), g 162 3 (by decide)]; exact hs.symm
    rcases io e with ⟨c, e⟩ | ⟨c, e⟩
    · obtain ⟨M1, e1, e⟩ := mo e
      obtain rfl := Option.some.inj e
      exact .inr ⟨n8, by rw [e1, n1], .inl c⟩
    · obtain ⟨x2, e2, e⟩ := bo e
      have := isCell_i j1 e2
      rw [n2] at this
      rcases this with ⟨a, b⟩ | ⟨a, b⟩
      · rw [a, if_neg (by decide)] at e
        obtain ⟨M1, e1, e⟩ := mo e
        obtain rfl := Option.some.inj e
        exact .inr ⟨n8, by rw [e1, n1], .inr b⟩
      · rw [a, if_pos rfl] at e
        obtain rfl := Option.some.inj e
        exact .inl ⟨rfl, n1, c, b⟩
  refine ⟨x, ex, r, er, ?_⟩
  rcases c with ⟨a1, a2, a3, a4⟩ | ⟨a1, a2, a3⟩ <;> rcases d with ⟨b1, b2, b3, b4⟩ | ⟨b1, b2, b3⟩
  · refine ⟨a1.trans b1.symm, iv, TB_le h.2.1 (fun i => ?_) (fun i => ?_) ?_, ?_, ?_⟩
    · rw [b2, si_ne (by omega), a2]
    · rw [b2, si_ne (by omega), a2]
    · rw [b2, si_ne (by omega), a2]; exact Int.le_refl _
    · rw [b2, si_ne (by omega), si_ne (by omega), si_ne (by omega), a2]; exact hs
    · rw [b2, si_ne (by omega), si_ne (by omega), a2]; exact h.2.2.2
  · exact absurd b3 (fun h => h.elim a3 a4)
  · exact absurd a3 (fun h => h.elim b3 b4)
  · refine ⟨a1.trans (h.2.2.2.trans b1.symm), iv, TB_le h.2.1 (fun i => ?_) (fun i => ?_) ?_, ?_, ?_⟩
    · rw [b2, si_ne (by omega), si_ne (by omega), a2, si_ne (by omega)]
    · rw [b2, si_ne (by omega), si_ne (by omega), a2, si_ne (by omega)]
    · rw [b2, si_ne (by omega), si_ne (by omega), a2, si_ne (by omega)]; exact Int.le_refl _
    · rw [b2, si_ne (by omega), si_ne (by omega), a2, si_ne (by omega), si_ne (by omega), si_ne (by omega), si_ne (by omega), si_ne (by omega), si_ne (by omega), si_ne (by omega)]; exact hs
    · rw [b2, si_ne (by omega), si_ne (by omega), a2, si_eq, si_eq]
theorem tw_sign {n : Int} {M : Mem} (h : IV n M) (v : Int32) : ∃ x, f_Top_sign v M = some x ∧ ∃ r, f_Mod_sign v x.2 = some r ∧ x.1 = r.1 ∧ IV (n + 1) r.2 := by
  obtain ⟨x, ex, r, er, eq, iv⟩ := two_sign h.1 v
  obtain ⟨x', ex', a1, a2, a3⟩ := ct_sign h.1.1.1 v
  rw [ex] at ex'
  obtain rfl := Option.some.inj ex'
  obtain ⟨r', er', b1, b2, b3⟩ := mr_sign (RI_ge h.1.1 a1 a2) v
  rw [er] at er'
  obtain rfl := Option.some.inj er'
  have e10 : x.2.1 162 10 = M.1 162 10 := a2 162 10 (by decide)
  refine ⟨x, ex, r, er, eq, iv, TB_sign h.1 h.2.1 ex er a2 b2 (fun hc => ?_), ?_, ?_⟩
  · rw [e10] at b3
    rcases b3 with b3 | b3
    · exact b3.2.1
    · omega
  · have fx := wf_Top_sign v M (C := mK ||| (2 ^ 2 ||| 2 ^ 167)) (L := []) (by decide +kernel) Fx_r ex
    have fr := wf_Mod_sign v x.2 (C := mK ||| (2 ^ 2 ||| 2 ^ 167)) (L := []) (by decide +kernel) Fx_r er
    have f : ∀ k i, Nat.testBit (mK ||| (2 ^ 2 ||| 2 ^ 167)) (sl k i) = false → r.2.1 k i = M.1 k i := fun k i b => (fr k i b (by simp)).1.trans (fx k i b (by simp)).1
    rw [f 3 3 (by decide +kernel), f 162 2 (by decide +kernel), f 162 3 (by decide +kernel)]; exact h.2.2.1
  · have fx := wf_Top_sign v M (C := mK ||| (2 ^ 2 ||| 2 ^ 167)) (L := []) (by decide +kernel) Fx_r ex
    have fr := wf_Mod_sign v x.2 (C := mK ||| (2 ^ 2 ||| 2 ^ 167)) (L := []) (by decide +kernel) Fx_r er
    have f : ∀ k i, Nat.testBit (mK ||| (2 ^ 2 ||| 2 ^ 167)) (sl k i) = false → r.2.1 k i = M.1 k i := fun k i b => (fr k i b (by simp)).1.trans (fx k i b (by simp)).1
    rw [f 0 16 (by decide +kernel), f 162 8 (by decide +kernel)]; exact h.2.2.2
theorem tw_end {n : Int} {M : Mem} (h : IV n M) (v : Int32) : ∃ x, f_Top_end v M = some x ∧ ∃ r, f_Mod_end v x.2 = some r ∧ x.1 = r.1 ∧ IV (n + 1) r.2 := by
  obtain ⟨x, ex, r, er, eq, iv⟩ := two_end h.1 v
  obtain ⟨x', ex', a1, a2, a3⟩ := ct_end h.1.1.1 v
  rw [ex] at ex'
  obtain rfl := Option.some.inj ex'
  obtain ⟨r', er', b1, b2, b3⟩ := mr_end (RI_ge h.1.1 a1 a2) v
  rw [er] at er'
  obtain rfl := Option.some.inj er'
  have e10 : x.2.1 162 10 = M.1 162 10 := a2 162 10 (by decide)
  refine ⟨x, ex, r, er, eq, iv, RL_keep h.2 (wf_Top_end v M (by decide +kernel) Fx_r ex) (wf_Mod_end v x.2 (by decide +kernel) Fx_r er) ?_⟩
  rw [e10] at b3
  rcases b3 with ⟨b3, b4, _⟩ | ⟨_, b4, _⟩
  · rw [b4]; exact b3.2
  · rw [b4]; exact Int.le_refl _
theorem IV_0 (h : Inv 0 M0) : IV 0 M0 := by
  have z : (M0.1 162 10).toInt = 0 := by decide +kernel
  exact ⟨h, ⟨fun i hi => by omega, fun i hi => by omega⟩, by decide +kernel, by decide +kernel⟩
