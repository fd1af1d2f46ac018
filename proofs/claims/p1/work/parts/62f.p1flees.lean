/-! p1: flees, lairs -/
theorem z_pin {M : Mem} {v : Nat} (hv : v = 186 ∨ v = 188) {l : Int32} (h1 : 0 ≤ l.toInt) (h2 : l.toInt ≤ 1) : ∃ M', iter (lb_Mod_putMay_23 v l) FU (0, M) = some M' ∧ M'.1 162 12 = M.1 162 12 := by
  refine iter_rule (f := lb_Mod_putMay_23 v l) (fun s : Int32 × Mem => 0 ≤ s.1.toInt ∧ s.1.toInt ≤ 36 ∧ s.2.1 162 12 = M.1 162 12) (fun s => (36 - s.1.toInt).toNat) _ ?_ FU (0, M) ⟨show (0 : Int) ≤ (0 : Int32).toInt by decide, show (0 : Int32).toInt ≤ 36 by decide, rfl⟩ (show (36 - (0 : Int32).toInt).toNat < FU by decide)
  rintro ⟨k, N⟩ ⟨a1, a2, a3⟩
  dsimp only at a1 a2 a3
  unfold lb_Mod_putMay_23
  dsimp only
  have h36 : (36 : Int32).toInt = 36 := rfl
  by_cases hc : (36 : Int32) ≤ k
  · right
    exact ⟨N, by rw [if_pos hc], a3⟩
  · left
    have hk : k.toInt < 36 := by have := nlei.mp hc; omega
    have hadd : (k + 1).toInt = k.toInt + 1 := add1 (by omega)
    have hl : ln v = 72 := by rcases hv with rfl | rfl <;> decide +kernel
    have hi : inb (36 * l + k) 72 = true := by
      have hl2 : l = 0 ∨ l = 1 := by
        by_cases e : l.toInt = 0
        · exact .inl (Int32.toInt_inj.mp (e.trans rfl))
        · exact .inr (Int32.toInt_inj.mp ((show l.toInt = 1 by omega).trans rfl))
      rcases hl2 with rfl | rfl
      · exact fin_all (P := fun k => inb (36 * 0 + k) 72 = true) 0 35 36 (by decide) a1 (by omega) (by decide +kernel)
      · exact fin_all (P := fun k => inb (36 * 1 + k) 72 = true) 0 35 36 (by decide) a1 (by omega) (by decide +kernel)
    have hd : inb (k / 18) 2 = true := fin_all (P := fun k => inb (k / 18) 2 = true) 0 35 36 (by decide) a1 (by omega) (by decide +kernel)
    simp only [f_Mod_placeOf, Option.bind_some]
    rw [if_neg hc, hl, if_pos hi]
    by_cases h0 : N.1 v (36 * l + k).toNatClampNeg = 0
    · rw [if_pos h0]
      refine ⟨_, rfl, ⟨?_, ?_, a3⟩, ?_⟩
      · dsimp only; omega
      · dsimp only; omega
      · dsimp only; omega
    · rw [if_neg h0, if_pos hd, if_pos hd]
      refine ⟨_, rfl, ⟨?_, ?_, ?_⟩, ?_⟩
      · dsimp only; omega
      · dsimp only; omega
      · dsimp only; rw [rdk (by decide)]; exact a3
      · dsimp only; omega
theorem z_put {M : Mem} (v : Int32) (h1 : 0 ≤ (M.1 162 12).toInt) (h2 : (M.1 162 12).toInt < 16) : ∃ M', f_Mod_put v M = some M' ∧ (M'.1 162 12).toInt = (M.1 162 12).toInt + 1 := by
  refine ⟨_, by unfold f_Mod_put; rw [if_pos (inb_of h1 (by omega))]; rfl, ?_⟩
  rw [rde, rdk (by decide), add1 (by omega)]
theorem z_putMay {M : Mem} {v : Nat} (hv : v = 186 ∨ v = 188) (h : M.1 162 12 = 0) : ∃ M', f_Mod_putMay v M = some M' := by
  obtain ⟨x, e, -⟩ := iter_rule (f := lb_Mod_putMay_2 v) (fun s : Int32 × Mem => 0 ≤ s.1.toInt ∧ s.1.toInt ≤ 2 ∧ (s.2.1 162 12).toInt = 2 * s.1.toInt) (fun s => (2 - s.1.toInt).toNat) (fun _ => True) (by
    rintro ⟨k, N⟩ ⟨a1, a2, a3⟩
    dsimp only at a1 a2 a3
    unfold lb_Mod_putMay_2
    dsimp only
    have h2 : (2 : Int32).toInt = 2 := rfl
    by_cases hc : (2 : Int32) ≤ k
    · right
      exact ⟨N, by rw [if_pos hc], trivial⟩
    · left
      have hk : k.toInt < 2 := by have := nlei.mp hc; omega
      have hadd : (k + 1).toInt = k.toInt + 1 := add1 (by omega)
      simp only [mem_]
      rw [if_neg hc]
      obtain ⟨M1, e1, b1⟩ := z_pin (M := s_i (s_i N 178 (0 : Int32).toNatClampNeg 0) 178 (1 : Int32).toNatClampNeg 0) hv a1 (by omega)
      rw [rdk (by decide), rdk (by decide)] at b1
      obtain ⟨M2, e2, b2⟩ := z_put (M := M1) (M1.1 178 (0 : Int32).toNatClampNeg) (by rw [b1]; omega) (by rw [b1]; omega)
      obtain ⟨M3, e3, b3⟩ := z_put (M := M2) (M2.1 178 (1 : Int32).toNatClampNeg) (by rw [b2, b1]; omega) (by rw [b2, b1]; omega)
      rw [e1, Option.bind_some, e2, Option.bind_some, e3, Option.bind_some]
      refine ⟨_, rfl, ⟨?_, ?_, ?_⟩, ?_⟩
      · dsimp only; omega
      · dsimp only; omega
      · dsimp only; rw [b3, b2, b1]; omega
      · dsimp only; omega) FU (0, M) ⟨show (0 : Int) ≤ (0 : Int32).toInt by decide, show (0 : Int32).toInt ≤ 2 by decide, by dsimp only; rw [h]; rfl⟩ (show (2 - (0 : Int32).toInt).toNat < FU by decide)
  refine ⟨x, ?_⟩
  unfold f_Mod_putMay
  rw [if_pos (by rcases hv with rfl | rfl <;> decide +kernel), e]
  rfl
theorem z_pl {M : Mem} (h : Zt M) {l : Int32} (hl : l = 0 ∨ l = 1) : f_Mod_isPlaceOf l 0 M = some 1 := by
  have h4 : M.1 164 (0 : Int32).toNatClampNeg = 3 := h.2.2.2
  simp only [f_Mod_isPlaceOf, f_Mod_in, f_Mod_isOf, f_Mod_isCell, f_Mod_cells, h.2.1, h.2.2.1, h4]
  rcases hl with rfl | rfl <;> decide +kernel
theorem z_flees {M : Mem} (h : Zt M) {l n : Int32} (hl : l = 0 ∨ l = 1) (h1 : 1 ≤ n.toInt) (h2 : n.toInt ≤ 30) : ∃ M', f_Mod_flees 0 l n M = some (1, M') := by
  have hz : Zt (s_i M 162 13 0) := h.w (.inr (by decide)) (by decide)
  have hp : f_Mod_placeOf l 0 = some 0 ∨ f_Mod_placeOf l 0 = some 36 := hl.elim (fun e => .inl (by rw [e]; decide +kernel)) (fun e => .inr (by rw [e]; decide +kernel))
  have hin : f_Mod_in n 1 30 = some 1 := inyes (fun e => by have := lti.mp e; have h7 : (1 : Int32).toInt = 1 := rfl; omega) (fun e => by have := lti.mp e; have h7 : (30 : Int32).toInt = 30 := rfl; omega)
  have key : ∀ p : Int32, (p = 0 ∨ p = 36) → f_Mod_placeOf l 0 = some p → ∃ M', f_Mod_flees 0 l n M = some (1, M') := by
    intro p hp ep
    obtain ⟨M1, e1, b1, b2⟩ := z_thief hz hp h1 h2
    obtain ⟨M2, e2⟩ := z_putMay (M := s_i M1 162 12 0) (v := 186) (.inl rfl) rde
    refine ⟨M2, ?_⟩
    unfold f_Mod_flees
    simp only [mem_]
    rw [z_pl hz hl, Option.bind_some, if_neg (by decide), hin, Option.bind_some, if_neg (by decide), ep, Option.bind_some, e1, Option.bind_some]
    simp only [if_true]
    unfold j_Mod_flees_47
    simp only [mem_]
    rw [e2, Option.bind_some, if_neg (by decide)]
  rcases hp with e | e
  · exact key 0 (.inl rfl) e
  · exact key 36 (.inr rfl) e
-- the class: one course of 30 steps serves all
def zb (M : Mem) : Bool := decide (M.1 162 4 = 0) && decide (M.1 162 2 = 1) && decide (M.1 162 3 = 1) && decide (M.1 164 0 = 3)
theorem zb_ok {M : Mem} (h : zb M = true) : Zt M := by
  simp only [zb, Bool.and_eq_true, decide_eq_true_eq] at h
  exact ⟨h.1.1.1, h.1.1.2, h.1.2, h.2⟩
def optB {α : Type} (o : Option α) (p : α → Bool) : Bool := match o with
  | some a => p a
  | none => false
theorem optB_ok {α : Type} {o : Option α} {p : α → Bool} (h : optB o p = true) : ∃ a, o = some a ∧ p a = true := by
  cases o with
  | none => cases h
  | some a => exact ⟨a, rfl, h⟩
def runT (f : Mem → Option Mem) (p : Mem → Bool) : Nat → Mem → Bool
  | 0, M => p M
  | k + 1, M => p M && optB (f M) (runT f p k)
theorem runT_flees {p : Mem → Bool} {n : Int32} (hn : n.toInt ≤ 30) : ∀ (d : Nat) (M : Mem) (k : Int32), runT f_Top_hunt p d M = true → 0 ≤ k.toInt → k.toInt ≤ n.toInt → n.toInt - k.toInt ≤ d → ∀ g : Nat, d < g → ∃ x, iter (lb_Top_flees_48 n) g (k, M) = some x ∧ p x = true := by
  intro d
  induction d with
  | zero =>
    intro M k h h1 h2 h3 g hg
    obtain ⟨g, rfl⟩ : ∃ g', g = g' + 1 := ⟨g - 1, by omega⟩
    have e : lb_Top_flees_48 n (k, M) = some (.inr M) := by
      unfold lb_Top_flees_48
      dsimp only
      rw [if_pos (lei.mpr (by omega))]
    exact ⟨M, by simp only [iter, e], h⟩
  | succ d ih =>
    intro M k h h1 h2 h3 g hg
    obtain ⟨g, rfl⟩ : ∃ g', g = g' + 1 := ⟨g - 1, by omega⟩
    simp only [runT, Bool.and_eq_true] at h
    by_cases hc : n ≤ k
    · have e : lb_Top_flees_48 n (k, M) = some (.inr M) := by
        unfold lb_Top_flees_48
        dsimp only
        rw [if_pos hc]
      exact ⟨M, by simp only [iter, e], h.1⟩
    · have hk := nlei.mp hc
      obtain ⟨M', e1, q⟩ := optB_ok h.2
      have hadd : (k + 1).toInt = k.toInt + 1 := add1 (by omega)
      have e : lb_Top_flees_48 n (k, M) = some (.inl (k + 1, M')) := by
        unfold lb_Top_flees_48
        dsimp only
        rw [if_neg hc, e1]
        rfl
      obtain ⟨x, ex, px⟩ := ih M' (k + 1) q (by omega) (by omega) (by omega) g (by omega)
      exact ⟨x, by simp only [iter, e, ex], px⟩
def flT (x6 : Mem) : Option (Int32 × Mem) :=
  Option.bind (f_Top_emptyRow x6) fun x7 =>
  Option.bind (f_Top_noteSet (x7.2.1 151 2) x7) fun x8 =>
  Option.bind (f_Top_noteSet (x8.2.1 151 3) x8) fun x9 =>
  Option.bind (f_Thief_gone x9) fun x10 =>
  if x10 = 0 then
  some ((1 : Int32), x9)
  else
  some ((0 : Int32), x9)
def flS (l : Int32) : Option Mem := Option.bind (f_Scene_copy 25 11 M0) fun x2 => f_Thief_start l 0 x2
def flP (x : Mem) : Bool := optB (flT x) fun r => decide (r.1 = 1) && zb r.2
theorem fl_0 : optB (flS 0) (runT f_Top_hunt flP 30) = true := by decide +kernel
theorem fl_1 : optB (flS 1) (runT f_Top_hunt flP 30) = true := by decide +kernel
theorem t_flees {l n : Int32} (hl : l = 0 ∨ l = 1) (h1 : 1 ≤ n.toInt) (h2 : n.toInt ≤ 30) : ∃ M', f_Top_flees 0 l n M0 = some (1, M') ∧ Zt M' := by
  have h : optB (flS l) (runT f_Top_hunt flP 30) = true := hl.elim (fun e => by rw [e]; exact fl_0) (fun e => by rw [e]; exact fl_1)
  obtain ⟨X, e1, q1⟩ := optB_ok h
  obtain ⟨x, e2, q2⟩ := runT_flees h2 30 X 0 q1 (show (0 : Int) ≤ (0 : Int32).toInt by decide) (show (0 : Int32).toInt ≤ n.toInt by have : (0 : Int32).toInt = 0 := rfl; omega) (by have : (0 : Int32).toInt = 0 := rfl; omega) FU (by decide)
  obtain ⟨⟨r, M'⟩, e3, q3⟩ := optB_ok q2
  simp only [Bool.and_eq_true, decide_eq_true_eq] at q3
  obtain ⟨rfl, q4⟩ := q3
  refine ⟨M', ?_, zb_ok q4⟩
  have hg : f_Ground_holds l 0 M0 = some 1 := hl.elim (fun e => by rw [e]; exact gl_yes0) (fun e => by rw [e]; exact gl_yes1)
  unfold f_Top_flees
  rw [hg, Option.bind_some, if_neg (by decide), if_neg (fun e => by have := lti.mp e; have h7 : (1 : Int32).toInt = 1 := rfl; omega), if_pos (lei.mpr (by show n.toInt ≤ 30; exact h2))]
  unfold flS at e1
  cases hc : f_Scene_copy 25 11 M0 with
  | none => rw [hc] at e1; cases e1
  | some Y =>
    rw [hc, Option.bind_some] at e1
    rw [Option.bind_some, e1, Option.bind_some, e2, Option.bind_some]
    exact e3
theorem g_flees0 : ∀ i : Fin 30, agr (f_Top_flees 0 0 (Int32.ofInt (1 + i.val)) M0) (f_Mod_flees 0 0 (Int32.ofInt (1 + i.val))) = true := by
  intro i
  have hn : (Int32.ofInt (1 + i.val)).toInt = 1 + i.val := (show ∀ i : Fin 30, (Int32.ofInt (1 + i.val)).toInt = 1 + i.val by decide +kernel) i
  have hi := i.isLt
  obtain ⟨M', e, hz⟩ := t_flees (l := 0) (n := Int32.ofInt (1 + i.val)) (.inl rfl) (by rw [hn]; omega) (by rw [hn]; omega)
  obtain ⟨M2, e2⟩ := z_flees hz (l := 0) (n := Int32.ofInt (1 + i.val)) (.inl rfl) (by rw [hn]; omega) (by rw [hn]; omega)
  exact agr_some _ _ e e2 rfl
theorem g_flees1 : ∀ i : Fin 30, agr (f_Top_flees 0 1 (Int32.ofInt (1 + i.val)) M0) (f_Mod_flees 0 1 (Int32.ofInt (1 + i.val))) = true := by
  intro i
  have hn : (Int32.ofInt (1 + i.val)).toInt = 1 + i.val := (show ∀ i : Fin 30, (Int32.ofInt (1 + i.val)).toInt = 1 + i.val by decide +kernel) i
  have hi := i.isLt
  obtain ⟨M', e, hz⟩ := t_flees (l := 1) (n := Int32.ofInt (1 + i.val)) (.inr rfl) (by rw [hn]; omega) (by rw [hn]; omega)
  obtain ⟨M2, e2⟩ := z_flees hz (l := 1) (n := Int32.ofInt (1 + i.val)) (.inr rfl) (by rw [hn]; omega) (by rw [hn]; omega)
  exact agr_some _ _ e e2 rfl
-- lairs
theorem z_lev {k : Int32} (h1 : 0 ≤ k.toInt) (h2 : k.toInt ≤ 71) : (k = 0 ∨ k = 36) ∨ (k ≠ 0 ∧ k ≠ 36 ∧ k - k / 36 * 36 ≠ 0) :=
  fin_all (P := fun k => (k = 0 ∨ k = 36) ∨ (k ≠ 0 ∧ k ≠ 36 ∧ k - k / 36 * 36 ≠ 0)) 0 71 72 (by decide) h1 h2 (by decide +kernel)
theorem z_lairs {M : Mem} (h : Zt M) {n : Int32} (h1 : 1 ≤ n.toInt) (h2 : n.toInt ≤ 30) : ∃ M', f_Mod_lairs n M = some (2, M') := by
  have hz : Zt (s_i M 162 13 0) := h.w (.inr (by decide)) (by decide)
  have hin : f_Mod_in n 1 30 = some 1 := inyes (fun e => by have := lti.mp e; have h7 : (1 : Int32).toInt = 1 := rfl; omega) (fun e => by have := lti.mp e; have h7 : (30 : Int32).toInt = 30 := rfl; omega)
  obtain ⟨⟨r, X⟩, e, q⟩ := iter_rule (f := lb_Mod_lairs_21 n) (fun s : Int32 × Int32 × Mem => 0 ≤ s.2.1.toInt ∧ s.2.1.toInt ≤ 72 ∧ Zt s.2.2 ∧ s.1 = (if 36 < s.2.1.toInt then 2 else if 0 < s.2.1.toInt then 1 else 0)) (fun s => (72 - s.2.1.toInt).toNat) (fun x => x.1 = 2) (by
    rintro ⟨v, k, N⟩ ⟨a1, a2, a3, a4⟩
    dsimp only at a1 a2 a3 a4
    unfold lb_Mod_lairs_21
    dsimp only
    have h72 : (72 : Int32).toInt = 72 := rfl
    by_cases hc : (72 : Int32) ≤ k
    · right
      have := lei.mp hc
      refine ⟨(v, N), by rw [if_pos hc], ?_⟩
      dsimp only
      rw [a4, if_pos (by omega)]
    · left
      have hk : k.toInt < 72 := by have := nlei.mp hc; omega
      have hadd : (k + 1).toInt = k.toInt + 1 := add1 (by omega)
      have key : ∀ (w : Int32) (N' : Mem), Zt N' → (w = 0 ∨ w = 1) → v + w = (if 36 < (k + 1).toInt then 2 else if 0 < (k + 1).toInt then 1 else 0) → ∃ s' : Int32 × Int32 × Mem, j_Mod_lairs_64_21 n v k w k N' = some (.inl s') ∧ (0 ≤ s'.2.1.toInt ∧ s'.2.1.toInt ≤ 72 ∧ Zt s'.2.2 ∧ s'.1 = (if 36 < s'.2.1.toInt then 2 else if 0 < s'.2.1.toInt then 1 else 0)) ∧ (72 - s'.2.1.toInt).toNat < (72 - k.toInt).toNat := by
        intro w N' hN hw hv
        have hvp : vp_nar .boolean w = w := by rcases hw with rfl | rfl <;> rfl
        unfold j_Mod_lairs_64_21
        simp only [mem_]
        rw [hvp, if_pos (inb_of a1 (by omega)), if_pos (inb_of a1 (by omega)), rde]
        have hz' : Zt (s_i N' 188 k.toNatClampNeg w) := hN.w (.inl (by decide)) (by decide)
        rcases hw with rfl | rfl
        · rw [if_pos rfl]
          refine ⟨_, rfl, ⟨?_, ?_, hz', hv⟩, ?_⟩
          · dsimp only; omega
          · dsimp only; omega
          · dsimp only; omega
        · rw [if_neg (by decide)]
          refine ⟨_, rfl, ⟨?_, ?_, hz', hv⟩, ?_⟩
          · dsimp only; omega
          · dsimp only; omega
          · dsimp only; omega
      rw [if_neg hc]
      simp only [f_Mod_levelOf, f_Mod_cellOf, Option.bind_some]
      rcases z_lev a1 (by omega) with hk2 | ⟨k1, k2, k3⟩
      · have ho : f_Mod_isOf (k / 36) (k - k / 36 * 36) N = some 1 := by
          have h4 : N.1 164 (0 : Int32).toNatClampNeg = 3 := a3.2.2.2
          have e0 : k - k / 36 * 36 = 0 := by rcases hk2 with rfl | rfl <;> decide
          rw [e0]
          simp only [f_Mod_in, f_Mod_isOf, f_Mod_isCell, f_Mod_cells, a3.2.1, a3.2.2.1, h4]
          rcases hk2 with rfl | rfl <;> decide +kernel
        obtain ⟨N', e1, b1, -⟩ := z_thief a3 hk2 h1 h2
        rw [ho, Option.bind_some, if_neg (by decide), e1, Option.bind_some]
        simp only [if_true]
        refine key 1 N' b1 (.inr rfl) ?_
        rw [a4]
        rcases hk2 with rfl | rfl
        · rw [if_neg (by decide), if_neg (by decide), if_neg (by decide), if_pos (by decide)]; rfl
        · rw [if_neg (by decide), if_pos (by decide), if_pos (by decide)]; rfl
      · rw [mo_no a3.2.1 a3.2.2.1 k3, Option.bind_some, if_pos rfl]
        refine key 0 N a3 (.inl rfl) ?_
        have t0 : k.toInt ≠ 0 := fun e => k1 (Int32.toInt_inj.mp (e.trans rfl))
        have t36 : k.toInt ≠ 36 := fun e => k2 (Int32.toInt_inj.mp (e.trans rfl))
        rw [a4, hadd]
        by_cases c1 : 36 < k.toInt
        · rw [if_pos c1, if_pos (by omega)]; decide
        · rw [if_neg c1, if_pos (by omega), if_neg (by omega), if_pos (by omega)]; decide) FU (0, 0, s_i M 162 13 0) ⟨show (0 : Int) ≤ (0 : Int32).toInt by decide, show (0 : Int32).toInt ≤ 72 by decide, hz, rfl⟩ (show (72 - (0 : Int32).toInt).toNat < FU by decide)
  dsimp only at q
  subst q
  obtain ⟨M2, e2⟩ := z_putMay (M := s_i X 162 12 0) (v := 188) (.inr rfl) rde
  refine ⟨M2, ?_⟩
  unfold f_Mod_lairs
  simp only [mem_]
  rw [hin, Option.bind_some, if_neg (by decide), e, Option.bind_some, e2, Option.bind_some]
theorem t_lairs : ∀ i : Fin 30, optB (f_Top_lairs (Int32.ofInt (1 + i.val)) M0) (fun r => decide (r.1 = 2) && zb r.2) = true := by decide +kernel
theorem g_lairs : ∀ i : Fin 30, agr (f_Top_lairs (Int32.ofInt (1 + i.val)) M0) (f_Mod_lairs (Int32.ofInt (1 + i.val))) = true := by
  intro i
  have hn : (Int32.ofInt (1 + i.val)).toInt = 1 + i.val := (show ∀ i : Fin 30, (Int32.ofInt (1 + i.val)).toInt = 1 + i.val by decide +kernel) i
  have hi := i.isLt
  obtain ⟨⟨r, M'⟩, e, q⟩ := optB_ok (t_lairs i)
  simp only [Bool.and_eq_true, decide_eq_true_eq] at q
  obtain ⟨rfl, hz⟩ := q
  obtain ⟨M2, e2⟩ := z_lairs (zb_ok hz) (n := Int32.ofInt (1 + i.val)) (by rw [hn]; omega) (by rw [hn]; omega)
  exact agr_some _ _ e e2 rfl
