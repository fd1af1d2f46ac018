/-! an evening: the whole command -/
theorem it_2f {S T X Y : Type} {f : S → Option (S ⊕ X)} {g : T → Option (T ⊕ Y)} {I : S → T → Prop} {Q : X → Y → Prop} (hs : ∀ s t a b, I s t → f s = some a → g t = some b → (∃ s' t', a = .inl s' ∧ b = .inl t' ∧ I s' t') ∨ (∃ x y, a = .inr x ∧ b = .inr y ∧ Q x y) ∨ (∃ x t', a = .inr x ∧ b = .inl t' ∧ ∀ c, g t' = some c → ∃ y, c = .inr y ∧ Q x y)) {n m : Nat} {s : S} {t : T} {x : X} {y : Y} (e : iter f n s = some x) (d : iter g m t = some y) (h : I s t) : Q x y := by
  induction n generalizing s t m with
  | zero => cases e
  | succ n ih =>
    cases m with
    | zero => cases d
    | succ m =>
      simp only [iter] at e d
      cases hf : f s with
      | none => rw [hf] at e; cases e
      | some a =>
        cases hg : g t with
        | none => rw [hg] at d; cases d
        | some b =>
          rw [hf] at e
          rw [hg] at d
          rcases hs s t a b h hf hg with ⟨s', t', rfl, rfl, k⟩ | ⟨x', y', rfl, rfl, k⟩ | ⟨x', t', rfl, rfl, k⟩
          · exact ih e d k
          · obtain rfl := Option.some.inj e
            obtain rfl := Option.some.inj d
            exact k
          · obtain rfl := Option.some.inj e
            cases m with
            | zero => cases d
            | succ m =>
              simp only [iter] at d
              cases hg2 : g t' with
              | none => rw [hg2] at d; cases d
              | some c =>
                rw [hg2] at d
                obtain ⟨y', rfl, q⟩ := k c hg2
                obtain rfl := Option.some.inj d
                exact q
theorem hist_end {X R x r : Mem} {n v : Nat} (hv : v = 163 ∨ v = 174) (za : ZA X R n) (jr : J r) (zs18 : ZS (scn X 18) (R.1 v) n) (zv18 : ZV R (R.1 v) n) (e3 : f_History_add 18 X = some x) (er1 : f_Mod_remember v R = some r) : ZA x r n := by
  obtain ⟨⟨n8, jR, zb, zs, zv, zw⟩, zh, zk⟩ := za
  have zh' := zh
  obtain ⟨hx, m, m12, h1, h2, h3⟩ := zh
  have H := hist_2 n8 hv zh' zs18 zv18 e3 er1
  have B := rem_i (v := v) (by omega) h2 m12 er1
  have A := add_i hx (m := m) h1 m12 e3
  have rf1 : ∀ kx i, kx ≠ 173 → ¬ (kx = 162 ∧ i = 27) → r.1 kx i = R.1 kx i := by
    by_cases g : m < 12
    · rw [if_pos g] at B; exact B.2.2.2
    · rw [if_neg g] at B; exact B.2.2.2
  have ag1 : AgR R r := ⟨rf1 162 2 (by omega) (by omega), rf1 162 3 (by omega) (by omega), rf1 162 4 (by omega) (by omega), rf1 162 5 (by omega) (by omega), rf1 162 23 (by omega) (by omega), fun i => rf1 164 i (by omega) (by omega), fun i => rf1 165 i (by omega) (by omega), fun i => rf1 166 i (by omega) (by omega), fun i => rf1 172 i (by omega) (by omega)⟩
  have xf : (∀ kx i, ¬ (49 ≤ kx ∧ kx < 133) → ¬ (kx = 46 ∧ i = 2) → x.1 kx i = X.1 kx i) ∧ x.2.1 = X.2.1 ∧ (∀ kx i, kx ≠ 47 → x.2.2 kx i = X.2.2 kx i) := by
    by_cases g : m < 12
    · rw [if_pos g] at A; exact A.2.2.2.2
    · rw [if_neg g] at A; exact A.2.2.2.2
  have agx : AgX X x := ⟨xf.1 3 2 (by omega) (by omega), xf.1 3 3 (by omega) (by omega), fun i => xf.1 4 i (by omega) (by omega), xf.1 6 4 (by omega) (by omega), xf.1 6 5 (by omega) (by omega), fun i => xf.1 7 i (by omega) (by omega), fun i => xf.1 8 i (by omega) (by omega), xf.1 40 4 (by omega) (by omega), fun i => xf.1 41 i (by omega) (by omega), fun i => xf.1 35 i (by omega) (by omega), fun i => by rw [xf.2.1], fun i => by rw [xf.2.1]⟩
  refine ⟨⟨n8, jr, ZB_a agx ag1 zb, ZS_c n8 (scn_f (fun kx i a b => xf.1 kx i (by omega) (by omega))) (fun i _ => (rf1 163 i (by omega) (by omega)).symm) zs, ZV_a n8 ag1 (fun i _ => rf1 163 i (by omega) (by omega)) zv, ZW_a agx ag1 (plk_c (fun i _ _ => rf1 163 i (by omega) (by omega)) zv.2.1.2) zw⟩, H, ?_⟩
  refine ZK_a n8 (xf.1 46 3 (by omega) (by omega)) (fun kx i a b => xf.1 kx i (by omega) (by omega)) (fun i => xf.2.2 48 i (by omega)) ag1 (rf1 162 48 (by omega) (by omega)) (fun i => rf1 189 i (by omega) (by omega)) (fun i => rf1 190 i (by omega) (by omega)) (fun i => rf1 191 i (by omega) (by omega)) zk
theorem eve_do {X R X3 x4 : Mem} {n L : Nat} {v1 : Int32} {x9 : Int32 × Mem} {x11 M12 : Mem} {x16 : Int32 × Mem} (za : ZA X R n) (kk : KK R) (ad : AD L X R) (hv : v1.toInt = (L : Int)) (L31 : L ≤ 31) (e3 : f_Scene_copy 18 11 X = some X3) (e4 : f_Clock_reset X3 = some x4) (e9 : iter (lb_Top_evening_48 v1) FU ((0 : Int32), (0 : Int32), x4) = some x9) (r11 : f_Mod_lay 163 174 (0 : Int32) R = some x11) (m12 : M12 = s_i x11 162 33 (0 : Int32)) (r16 : iter (lb_Mod_evening_122 v1) FU ((0 : Int32), M12) = some x16) : x9.1 = x16.1 ∧ x9.2.1 45 4 = x16.2.1 162 33 ∧ ZA x9.2 x16.2 n ∧ ZS (scn x9.2 18) (x16.2.1 174) n ∧ ZV x16.2 (x16.2.1 174) n ∧ KK x16.2 := by
  have z0 := o0
  have k3 := o3
  have hz0 : (0 : Int32).toNatClampNeg = 0 := rfl
  obtain ⟨n8, jR, zb, zs, zv, zw⟩ := za.1
  obtain ⟨c1, c2, c3⟩ := copy_i (v0 := 18) (v1 := 11) (by omega) e3
  have FL := fs_lay 163 174 (0 : Int32) jR (.inl rfl) (by decide) (by decide +kernel) (by decide) (by decide) (by decide +kernel) (by decide +kernel) (by decide)
  obtain ⟨jL, l1, l2⟩ := some_of FL r11
  have l1' : ∀ i, i < 96 → x11.1 174 i = R.1 163 i := fun i hi => by
    have := l1 i hi
    rw [show (0 : Int32).toInt.toNat + i = i by rw [o0]; simp] at this
    exact this
  have l2' : ∀ kx i, kx ≠ 174 → x11.1 kx i = R.1 kx i := fun kx i h => l2 kx i (fun w => h w.1)
  have fM : ∀ kx i, kx ≠ 174 → ¬ (kx = 162 ∧ i = 33) → M12.1 kx i = R.1 kx i := fun kx i h1 h2 => by rw [m12, si_ne h2]; exact l2' kx i h1
  have jM : J M12 := by rw [m12]; exact Jw_fld okf_162_33 jL _
  have agM : AgR R M12 := ⟨fM 162 2 (by omega) (by omega), fM 162 3 (by omega) (by omega), fM 162 4 (by omega) (by omega), fM 162 5 (by omega) (by omega), fM 162 23 (by omega) (by omega), fun i => fM 164 i (by omega) (by omega), fun i => fM 165 i (by omega) (by omega), fun i => fM 166 i (by omega) (by omega), fun i => fM 172 i (by omega) (by omega)⟩
  unfold f_Clock_reset at e4
  obtain ⟨C1, d1, e4⟩ := mo e4
  obtain ⟨C2, d2, e4⟩ := mo e4
  have e4 := Option.some.inj e4
  subst e4
  have fX : ∀ kx i, ¬ (18 ≤ kx ∧ kx < 25) → kx ≠ 45 → C2.1 kx i = X.1 kx i := fun kx i h1 h2 => by rw [d2, si_ne (by omega), d1, si_ne (by omega)]; exact c2 kx i (by omega)
  have fC : ∀ kx i, kx ≠ 45 → C2.1 kx i = X3.1 kx i := fun kx i h => by rw [d2, si_ne (by omega), d1, si_ne (by omega)]
  have fX2 : C2.2 = X.2 := by rw [d2, si_2, d1, si_2, c3]
  have zaC : ZA C2 M12 n := ZA_z za jM (fun kx i h => fX kx i (by unfold CXr CX at h; omega) (by unfold CXr CX at h; omega)) (fun i => by rw [fX2]) (fun i => by rw [fX2]) (fun i => by rw [fX2]) (fun i => by rw [fX2]) (fun kx i h => fM kx i (by unfold CRr CR at h; omega) (by unfold CRr CR at h; omega))
  have zs18 : ZS (scn C2 18) (M12.1 174) n := ZS_c n8 (SEq_t c1 (scn_f (fun kx i a b => fC kx i (by omega)))) (fun i hi => by rw [m12, si_ne (by omega)]; exact (l1' i hi).symm) zs
  have zv18 : ZV M12 (M12.1 174) n := ZV_a n8 agM (fun i hi => by rw [m12, si_ne (by omega)]; exact l1' i hi) zv
  have adC : AD L C2 M12 := by
    intro i hi
    rw [fX 148 i (by omega) (by omega), fX 149 i (by omega) (by omega), fX 150 i (by omega) (by omega), fM 175 _ (by omega) (by omega), fM 175 _ (by omega) (by omega), fM 175 _ (by omega) (by omega)]
    exact ad i hi
  have kkM : KK M12 := KK_c jR ⟨⟨fM 162 2 (by omega) (by omega), fM 162 3 (by omega) (by omega), fun i => fM 164 i (by omega) (by omega)⟩, fM 162 27 (by omega) (by omega), fM 162 48 (by omega) (by omega), fun i _ _ => fM 163 i (by omega) (by omega), fun i => fM 173 i (by omega) (by omega), fun i => fM 189 i (by omega) (by omega), fun i => fM 190 i (by omega) (by omega), fun i => fM 191 i (by omega) (by omega)⟩ kk
  have h45 : C2.1 45 4 = M12.1 162 33 := by rw [d2, si_eq, m12, si_eq]
  have key : (fun (u : Int32 × Mem) (s : Int32 × Mem) => s.1 = u.1 ∧ CS C2 M12 n s.2 u.2 ∧ s.2.1 45 4 = u.2.1 162 33 ∧ (∀ i, u.2.1 174 i = M12.1 174 i) ∧ Rx M12 u.2) x16 x9 := by
    refine it_2f (I := fun (u : Int32 × Mem) (s : Int32 × Int32 × Mem) => ∃ d : Nat, d ≤ L ∧ s.1.toInt = (d : Int) ∧ s.2.1.toInt = (d : Int) ∧ u.1.toInt = (d : Int) ∧ CS C2 M12 n s.2.2 u.2 ∧ s.2.2.1 45 4 = u.2.1 162 33 ∧ (∀ i, u.2.1 174 i = M12.1 174 i) ∧ AD L s.2.2 u.2 ∧ Rx M12 u.2) (Q := fun (u : Int32 × Mem) (s : Int32 × Mem) => s.1 = u.1 ∧ CS C2 M12 n s.2 u.2 ∧ s.2.1 45 4 = u.2.1 162 33 ∧ (∀ i, u.2.1 174 i = M12.1 174 i) ∧ Rx M12 u.2) ?_ r16 e9 ⟨0, by omega, rfl, rfl, rfl, CS_r zaC.1, h45, fun _ => rfl, adC, Rx_r jM kkM⟩
    rintro ⟨ud, U⟩ ⟨sd, si, S⟩ a b ⟨d, dL, h1, h2, h3, cs, h4, h174, had, hrx⟩ ea eb
    dsimp only at h1 h2 h3 cs h4 h174 had hrx
    unfold lb_Mod_evening_122 at ea
    unfold lb_Top_evening_48 at eb
    dsimp only at ea eb
    rcases io ea with ⟨g, ea⟩ | ⟨g, ea⟩
    · have g1 := q_le g
      rw [if_pos (Int32.le_iff_toInt_le.mpr (by omega))] at eb
      obtain rfl := Option.some.inj ea
      obtain rfl := Option.some.inj eb
      exact .inr (.inl ⟨_, _, rfl, rfl, Int32.toInt_inj.mp (h1.trans h3.symm), cs, h4, h174, hrx⟩)
    have g1 := q_ng g
    rw [if_neg (fun h => by have := q_le h; omega), if_pos (Int32.toInt_inj.mp (h1.trans h2.symm))] at eb
    obtain ⟨x13, e13, ea⟩ := bo ea
    obtain ⟨x5, e5, eb⟩ := bo eb
    have i3 : ((3 : Int32) * ud).toInt = ((3 * d : Nat) : Int) := by rw [mul_ti k3 h3 (by omega) (by omega)]; omega
    obtain ⟨D1, D2, D3⟩ := does_2 cs.1 h4 h2 (by omega) i3 had (by omega) e5 e13
    have rx13 := (some_of (Rx_act hrx _ (by omega)) e13).1
    have fr := wf_Mod_act _ U (L := []) (sb_r _) Fx_r e13
    have fx := wf_Top_does _ S (L := []) (sb_r _) Fx_r e5
    have f174 : ∀ i, x13.2.1 174 i = M12.1 174 i := fun i => by rw [(fr 174 i (by rw [show sl 174 i = 174 from rfl]; decide +kernel) (by simp)).1]; exact h174 i
    have f175 : ∀ i, x13.2.1 175 i = U.1 175 i := fun i => (fr 175 i (by rw [show sl 175 i = 175 from rfl]; decide +kernel) (by simp)).1
    have f148 : ∀ i, x5.2.1 148 i = S.1 148 i := fun i => (fx 148 i (by rw [show sl 148 i = 148 from rfl]; decide +kernel) (by simp)).1
    have f149 : ∀ i, x5.2.1 149 i = S.1 149 i := fun i => (fx 149 i (by rw [show sl 149 i = 149 from rfl]; decide +kernel) (by simp)).1
    have f150 : ∀ i, x5.2.1 150 i = S.1 150 i := fun i => (fx 150 i (by rw [show sl 150 i = 150 from rfl]; decide +kernel) (by simp)).1
    have had' : AD L x5.2 x13.2 := by
      unfold AD at had ⊢
      simp only [f175, f148, f149, f150]
      exact had
    have s1 : (si + (1 : Int32)).toInt = ((d + 1 : Nat) : Int) := add_ti h2 o1 (by omega) (by omega)
    rcases D1 with ⟨w1, w2⟩ | ⟨w1, w2⟩
    · rw [if_pos w2] at ea
      rw [if_pos w1] at eb
      obtain rfl := Option.some.inj ea
      obtain rfl := Option.some.inj eb
      refine .inr (.inr ⟨_, _, rfl, rfl, fun c hc => ?_⟩)
      unfold lb_Top_evening_48 at hc
      dsimp only at hc
      have fin : c = .inr (sd, x5.2) := by
        rcases io hc with ⟨_, hc⟩ | ⟨_, hc⟩
        · exact (Option.some.inj hc).symm
        · rw [if_neg (fun h => by have := q_eq h; omega)] at hc
          exact (Option.some.inj hc).symm
      subst fin
      exact ⟨_, rfl, Int32.toInt_inj.mp (h1.trans h3.symm), CS_t cs D2, D3, f174, rx13⟩
    · rw [if_neg w2] at ea
      rw [if_neg w1] at eb
      obtain rfl := Option.some.inj ea
      obtain rfl := Option.some.inj eb
      exact .inl ⟨_, _, rfl, rfl, d + 1, by omega, add_ti h1 o1 (by omega) (by omega), s1, add_ti h3 o1 (by omega) (by omega), CS_t cs D2, D3, f174, had', rx13⟩
  obtain ⟨k1, k2, k4, k5, k6⟩ := key
  refine ⟨k1, k4, ZA_cs zaC k2, ?_, ?_, k6.2.1⟩
  · exact ZS_c n8 (scn_f (fun kx i a b => k2.2.1.1.1 kx i (.inl (by omega)))) (fun i _ => (k5 i).symm) zs18
  · exact ZV_a n8 k2.2.2.2 (fun i _ => k5 i) zv18
theorem row_x {X R x r : Mem} {n : Nat} (za : ZA X R n) (jr : J r) (fx : ∀ kx i, kx ≠ 161 → ¬ (kx = 0 ∧ i = 15) → x.1 kx i = X.1 kx i) (x2 : x.2 = X.2) (fr : ∀ kx i, kx ≠ 168 → ¬ (kx = 162 ∧ i = 12) → r.1 kx i = R.1 kx i) : ZA x r n :=
  ZA_z za jr (fun kx i h => fx kx i (by unfold CXr CX at h; omega) (by unfold CXr CX at h; omega)) (fun i => by rw [x2]) (fun i => by rw [x2]) (fun i => by rw [x2]) (fun i => by rw [x2]) (fun kx i h => fr kx i (by unfold CRr CR at h; omega) (by unfold CRr CR at h; omega))
theorem eve_row {X R : Mem} {n : Nat} {v1 v2 w1 w2 : Int32} {x r : Int32 × Mem} (za : ZA X R n) (jr : J r.2) (e2 : v2 = w2) (ex : j_Top_evening_90 v1 v2 X = some x) (er : j_Mod_evening_155 w1 w2 R = some r) : x.1 = r.1 ∧ ZA x.2 r.2 n := by
  have fin : ∀ (a b : Int32) (A B : Mem), (∀ kx i, kx ≠ 161 → ¬ (kx = 0 ∧ i = 15) → A.1 kx i = X.1 kx i) → A.2 = X.2 → (∀ kx i, kx ≠ 168 → ¬ (kx = 162 ∧ i = 12) → B.1 kx i = R.1 kx i) → j_Top_evening_105 v2 a A = some x → j_Mod_evening_171 w2 b B = some r → x.1 = r.1 ∧ ZA x.2 r.2 n := by
    intro a b A B fA qA fB ea eb
    unfold j_Top_evening_105 at ea
    obtain ⟨x11, e11, ea⟩ := bo ea
    obtain ⟨x12, e12, ea⟩ := bo ea
    obtain rfl := Option.some.inj ea
    unfold j_Mod_evening_171 at eb
    obtain ⟨y18, ey18, eb⟩ := bo eb
    obtain ⟨y19, ey19, eb⟩ := bo eb
    obtain rfl := Option.some.inj eb
    have n1 := note_i e11
    have n2 := note_i e12
    have p1 := put_i ey18
    have p2 := put_i ey19
    exact ⟨e2, row_x za jr (fun kx i h1 h2 => by show x12.1 kx i = _; rw [n2.1 kx i h1 h2, n1.1 kx i h1 h2]; exact fA kx i h1 h2) (by show x12.2 = _; rw [n2.2, n1.2, qA]) (fun kx i h1 h2 => by show y19.1 kx i = _; rw [p2 kx i h1 h2, p1 kx i h1 h2]; exact fB kx i h1 h2)⟩
  unfold j_Top_evening_90 at ex
  obtain ⟨x10, e10, ex⟩ := bo ex
  have em := empty_i e10
  unfold j_Mod_evening_155 at er
  obtain ⟨M17, m17, er⟩ := mo er
  have fA : ∀ kx i, kx ≠ 161 → ¬ (kx = 0 ∧ i = 15) → x10.1 kx i = X.1 kx i := fun kx i _ h => em.1 kx i h
  have fB : ∀ kx i, kx ≠ 168 → ¬ (kx = 162 ∧ i = 12) → M17.1 kx i = R.1 kx i := fun kx i _ h => by rw [m17, si_ne h]
  rcases io ex with ⟨_, ex⟩ | ⟨_, ex⟩ <;> rcases io er with ⟨_, er⟩ | ⟨_, er⟩
  · exact fin _ _ _ _ fA em.2 fB ex er
  · exact fin _ _ _ _ fA em.2 fB ex er
  · exact fin _ _ _ _ fA em.2 fB ex er
  · exact fin _ _ _ _ fA em.2 fB ex er
theorem evening_2 {X R : Mem} {n : Nat} {x r : Int32 × Mem} (za : ZA X R n) (kk : KK R) (tx : cx X 60 = rx R 60) (l : X.1 1 1 = R.1 162 10) (hJ : J X) (hb : ∀ p : Nat, (p : Int) < (R.1 162 10).toInt → -128 ≤ (R.1 167 p).toInt ∧ (R.1 167 p).toInt ≤ 127) (jr : J r.2) (ex : f_Top_evening X = some x) (er : f_Mod_evening R = some r) : x.1 = r.1 ∧ ZA x.2 r.2 n := by
  have l2 := Jr_162_10 za.1.2.1
  have hl : (X.1 1 1).toInt ≤ 80 := by rw [l]; exact l2.2
  have jR := za.1.2.1
  have z0 := o0
  have ym := om
  have k60 : (60 : Int32).toInt = 60 := rfl
  unfold f_Mod_evening at er
  obtain ⟨M1, m1, er⟩ := mo er
  obtain ⟨x2, e2, er⟩ := bo er
  obtain ⟨M3, m3, er⟩ := mo er
  obtain ⟨rd, b15, b17, b18, bf, bq, bq2⟩ := beg_i (K := 60) rfl l2.2 hb m1 e2 m3
  rw [← tx] at rd
  have jM3 : J M3 := by
    have j1 : J M1 := by rw [m1]; exact Jw_fld okf_162_13 jR _
    have q10 : M1.1 162 10 = R.1 162 10 := by rw [m1, si_ne (by omega)]
    have j2 := some_of (sp_begin j1 167 (M1.1 162 10) (60 : Int32) (.inl ⟨rfl, by rw [q10]; exact l2.1, by rw [q10]; exact l2.2, by omega, by omega⟩)) e2
    rw [m3]; exact Jw_162_10 j2.1.1 _ (by decide) (by decide)
  unfold f_Top_evening at ex
  obtain ⟨x1, ex1, ex⟩ := bo ex
  obtain ⟨M2, m2, ex⟩ := mo ex
  -- the end, when both go on
  have doit : ∀ (A S : Mem) (L : Nat) (v1 : Int32), EAf X M3 A S → J S → AD L A S → v1.toInt = (L : Int) → x1.1 = v1 → x1.2 = A → L ≤ 31 → (S.1 162 18).toInt = -1 → j_Mod_evening_89 v1 S = some r → x.1 = r.1 ∧ ZA x.2 r.2 n := by
    intro A S L v1 fa jS ad hv hx1 hx2 L31 hw e89
    subst hx2
    have zaS : ZA M2 S n := ZA_z za jS (fun kx i h => by
      have hh : kx ≠ 1 ∧ kx ≠ 147 ∧ kx ≠ 148 ∧ kx ≠ 149 ∧ kx ≠ 150 := by unfold CXr CX at h; omega
      rw [m2, si_ne (by omega)]; exact fa.1 kx i (by omega) (by omega) (by omega)) (fun i => by rw [m2, si_2, fa.2.1]) (fun i => by rw [m2, si_2, fa.2.1]) (fun i => by rw [m2, si_2, fa.2.1]) (fun i => by rw [m2, si_2, fa.2.1]) (fun kx i h => by rw [fa.2.2.1 kx i (by unfold CRr CR at h; omega) (by unfold CRr CR at h; omega)]; exact bf kx i (by unfold CRr CR at h; omega))
    have adM : AD L M2 S := by
      intro i hi
      rw [m2, si_ne (by omega), si_ne (by omega), si_ne (by omega)]; exact ad i hi
    rw [hx1] at ex
    rw [if_pos (Int32.le_iff_toInt_le.mpr (by omega))] at ex
    obtain ⟨X3, e3, ex⟩ := bo ex
    obtain ⟨x4, e4, ex⟩ := bo ex
    obtain ⟨x9, e9, ex⟩ := bo ex
    unfold j_Mod_evening_89 at e89
    obtain ⟨y10, ey10, e89⟩ := bo e89
    rcases fine_i ey10 with ⟨_, h⟩ | ⟨h, _⟩
    · exact absurd hw h
    rw [h, if_neg (by decide)] at e89
    obtain ⟨x11, r11, e89⟩ := bo e89
    obtain ⟨M12, m12, e89⟩ := mo e89
    obtain ⟨x16, r16, e89⟩ := bo e89
    have fS : ∀ kx i, kx ≠ 175 → ¬ (kx = 162 ∧ (i = 10 ∨ i = 13 ∨ i = 15 ∨ i = 16 ∨ i = 17 ∨ i = 18)) → S.1 kx i = R.1 kx i := fun kx i h1 h2 => by rw [fa.2.2.1 kx i h1 (by omega)]; exact bf kx i h2
    have kkS : KK S := KK_c jR ⟨⟨fS 162 2 (by omega) (by omega), fS 162 3 (by omega) (by omega), fun i => fS 164 i (by omega) (by omega)⟩, fS 162 27 (by omega) (by omega), fS 162 48 (by omega) (by omega), fun i _ _ => fS 163 i (by omega) (by omega), fun i => fS 173 i (by omega) (by omega), fun i => fS 189 i (by omega) (by omega), fun i => fS 190 i (by omega) (by omega), fun i => fS 191 i (by omega) (by omega)⟩ kk
    obtain ⟨D1, D2, D3, D4, D5, D6⟩ := eve_do zaS kkS adM hv L31 e3 e4 e9 r11 m12 r16
    unfold j_Top_evening_75 at ex
    unfold j_Mod_evening_143 at e89
    rw [D1] at ex
    rcases io ex with ⟨g, ex⟩ | ⟨g, ex⟩
    · rw [if_pos g] at e89
      exact eve_row D3 jr rfl ex e89
    · rw [if_neg g] at e89
      obtain ⟨x14, e14, ex⟩ := bo ex
      obtain ⟨y21, ey21, e89⟩ := bo e89
      have jy : J y21 := (some_of (fs_remember 174 D3.1.2.1 D6 (.inr (.inl rfl)) (KP_v D5)) ey21).1
      exact eve_row (hist_end (.inr rfl) D3 jy D4 D5 e14 ey21) jr rfl ex e89
  -- both refuse
  have refuse : ∀ (A S : Mem) (w : Nat), EAf X M3 A S → J S → x1.1.toInt = -1 - (w : Int) → w ≤ 1000 → x1.2 = A → (S.1 162 18).toInt = (w : Int) → (∀ v1, j_Mod_evening_89 v1 S = some r → x.1 = r.1 ∧ ZA x.2 r.2 n) := by
    intro A S w fa jS hx1 w1000 hx2 hw v1 e89
    subst hx2
    rw [if_neg (fun h => by have := q_le h; omega)] at ex
    obtain rfl := Option.some.inj ex
    unfold j_Mod_evening_89 at e89
    obtain ⟨y10, ey10, e89⟩ := bo e89
    rcases fine_i ey10 with ⟨h, _⟩ | ⟨_, h⟩
    rotate_left
    · omega
    rw [h, if_pos rfl] at e89
    obtain rfl := Option.some.inj e89
    refine ⟨Int32.toInt_inj.mp ?_, ?_⟩
    · show x1.1.toInt = ((-1 : Int32) - (S.1 162 18)).toInt
      rw [hx1, sub_ti om hw (by omega) (by omega)]
    · show ZA M2 S n
      exact ZA_z za jS (fun kx i h => by
        have hh : kx ≠ 1 ∧ kx ≠ 147 ∧ kx ≠ 148 ∧ kx ≠ 149 ∧ kx ≠ 150 := by unfold CXr CX at h; omega
        rw [m2, si_ne (by omega)]; exact fa.1 kx i (by omega) (by omega) (by omega)) (fun i => by rw [m2, si_2, fa.2.1]) (fun i => by rw [m2, si_2, fa.2.1]) (fun i => by rw [m2, si_2, fa.2.1]) (fun i => by rw [m2, si_2, fa.2.1]) (fun kx i h => by rw [fa.2.2.1 kx i (by unfold CRr CR at h; omega) (by unfold CRr CR at h; omega)]; exact bf kx i (by unfold CRr CR at h; omega))
  unfold f_Acts_read at ex1
  obtain ⟨X1, x1e, ex1⟩ := mo ex1
  have x111 : X1.1 1 1 = X.1 1 1 := by rw [x1e, si_ne (by omega)]
  rcases io er with ⟨g15, er⟩ | ⟨g15, er⟩
  · have g1 := q_le g15
    rw [b15, ← l] at g1
    have len0 : X.1 1 1 = 0 := Int32.toInt_inj.mp (by have := (Jr_1_1 hJ).1; omega)
    rw [x111, if_pos len0] at ex1
    obtain rfl := Option.some.inj ex1
    obtain ⟨y9, ey9, er⟩ := bo er
    have h9 : y9 = (0, M3) := by
      refine it_r (I := fun s : Int32 × Int32 × Mem => s = (0, 0, M3)) (Q := fun y : Int32 × Mem => y = (0, M3)) ?_ ey9 rfl
      rintro s q rfl e
      unfold lb_Mod_evening_39 at e
      dsimp only at e
      rw [if_pos rfl] at e
      obtain rfl := Option.some.inj e
      rfl
    subst h9
    unfold j_Mod_evening_70 at er
    dsimp only at er
    rw [if_pos (Int32.le_iff_toInt_le.mpr (by rw [b15, ← l, b17]; omega))] at er
    exact doit X1 M3 0 0 ⟨fun kx i _ h2 _ => by rw [x1e, si_ne h2], by rw [x1e, si_2], fun _ _ _ _ => rfl, rfl⟩ jM3 (fun i hi => by omega) rfl rfl rfl (by omega) b18 er
  have g1 := q_ng g15
  rw [b15, ← l] at g1
  rw [x111, if_neg (fun h => by rw [h] at g1; omega)] at ex1
  obtain ⟨y, ey, ex1⟩ := bo ex1
  obtain ⟨z, ez, er⟩ := bo er
  have Q := eve_l hl rd b17 b18 x1e ey ez
  have jz : J z.2 := by
    have piM : PI M3 := by
      refine ⟨jM3, fun _ => ?_⟩
      show (M3.1 162 17).toInt ≤ (M3.1 162 15).toInt
      rw [b17, b15]; exact l2.1
    exact (some_of (sl_evening39 piM b17 (1 : Int32)) ez).1.1
  rcases y with y | y | y | y
  · exact Q.elim
  · replace ex1 := el_l (el_r ex1)
    obtain rfl := Option.some.inj ex1
    obtain ⟨⟨w, w1000, q1, q2⟩, fa⟩ := Q
    unfold j_Mod_evening_70 at er
    rcases io er with ⟨_, er⟩ | ⟨_, er⟩
    · exact refuse y.2 z.2 w fa jz q1 w1000 rfl q2 _ er
    · obtain ⟨y24, ey24, er⟩ := bo er
      have := fault_n (by rw [q2]; omega) ey24
      rw [this] at er
      exact refuse y.2 z.2 w fa jz q1 w1000 rfl q2 _ er
  · replace ex1 := el_l (el_r (el_r ex1))
    obtain ⟨⟨j, q, j31, hj3, hz, ha, hw, tq, q60, ad⟩, fa⟩ := Q
    have y11 : y.1 1 1 = X.1 1 1 := fa.1 1 1 (by omega) (by omega) (by omega)
    have z15 : z.2.1 162 15 = X.1 1 1 := by rw [fa.2.2.1 162 15 (by omega) (by omega), b15]; exact l.symm
    unfold j_Mod_evening_70 at er
    rcases io ex1 with ⟨c, ex1⟩ | ⟨c, ex1⟩
    · have c1 := q_le c
      rw [y11] at c1
      have lp : (X.1 1 1).toInt ≤ (q : Int) := by
        by_cases g : ((q : Nat) : Int) < (X.1 1 1).toInt ∧ q < 60
        · unfold cx at tq
          rw [if_pos g] at tq
          have := (Jr_2 hJ q).1
          omega
        · omega
      rw [if_pos (Int32.le_iff_toInt_le.mpr (by rw [z15, ha]; exact lp))] at er
      obtain rfl := Option.some.inj ex1
      exact doit y z.2 (j + 1) z.1 fa jz ad hz (Int32.toInt_inj.mp (hj3.trans hz.symm)) rfl j31 hw er
    · have c1 := q_ng c
      rw [y11] at c1
      obtain rfl := Option.some.inj ex1
      rcases io er with ⟨g, _⟩ | ⟨_, er⟩
      · have := q_le g
        rw [z15, ha] at this
        omega
      obtain ⟨y24, ey24, er⟩ := bo er
      rcases fault_i ey24 with ⟨h, _⟩ | ⟨_, h⟩
      · exact absurd hw h
      have q0 : q = 60 := by
        by_cases g : q < 60
        · unfold cx at tq
          rw [if_pos ⟨by omega, g⟩] at tq
          have := (Jr_2 hJ q).1
          omega
        · omega
      have ff := fault_f ey24
      have k61 : (-61 : Int32).toInt = -61 := rfl
      refine refuse y y24 60 ⟨fa.1, fa.2.1, fun kx i h1 h2 => by rw [ff.1 kx i h2]; exact fa.2.2.1 kx i h1 h2, by rw [ff.2, fa.2.2.2]⟩ (some_of (sp_faultA jz) ey24).1.1 (by show (-61 : Int32).toInt = _; rw [k61]; rfl) (by omega) rfl (by rw [h, si_eq, ha, q0]) _ er
  · replace ex1 := el_r (el_r (el_r ex1))
    obtain rfl := Option.some.inj ex1
    obtain ⟨⟨q, q60, hy, ha, hw, hq⟩, fa⟩ := Q
    have z15 : z.2.1 162 15 = X.1 1 1 := by rw [fa.2.2.1 162 15 (by omega) (by omega), b15]; exact l.symm
    unfold j_Mod_evening_70 at er
    rcases io er with ⟨g, _⟩ | ⟨_, er⟩
    · have := q_le g
      rw [z15, ha] at this
      omega
    obtain ⟨y24, ey24, er⟩ := bo er
    rcases fault_i ey24 with ⟨h, _⟩ | ⟨_, h⟩
    · exact absurd hw h
    have ff := fault_f ey24
    exact refuse y.2 y24 q ⟨fa.1, fa.2.1, fun kx i h1 h2 => by rw [ff.1 kx i h2]; exact fa.2.2.1 kx i h1 h2, by rw [ff.2, fa.2.2.2]⟩ (some_of (sp_faultA jz) ey24).1.1 (by show ((-1 : Int32) - y.1).toInt = _; rw [sub_ti om hy (by omega) (by omega)]) (by omega) rfl (by rw [h, si_eq]; exact ha) _ er
