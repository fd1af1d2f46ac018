/-! minutes, planks taken, undone, kept -/
def okH (C : Nat) : Bool := ((List.range 147).all (fun k => decide (k < 18 ∨ (25 ≤ k ∧ k < 47)) || !C.testBit k)) && !C.testBit 312 && !C.testBit 313
theorem HFx_f {C : Nat} {X Y : Mem} (h : okH C = true) (fx : Fx C [] X Y) : HFx X Y := by
  simp only [okH, Bool.and_eq_true, Bool.not_eq_true'] at h
  obtain ⟨⟨h1, h2⟩, h3⟩ := h
  have t : ∀ k, k < 147 → ¬ (k < 18 ∨ (25 ≤ k ∧ k < 47)) → C.testBit k = false := by
    intro k hk hn
    have := List.all_eq_true.mp h1 k (List.mem_range.mpr hk)
    rw [decide_eq_false hn, Bool.false_or] at this
    simpa using this
  have s : ∀ kx i, ((18 ≤ kx ∧ kx < 25) ∨ (47 ≤ kx ∧ kx < 147)) → sl kx i = kx := by
    intro kx i h
    unfold sl
    repeat' split
    all_goals omega
  exact ⟨⟨fun kx i w => (fx kx i (by rw [s kx i w]; exact t kx (by omega) (by omega)) (by simp)).1, (fx 46 2 h2 (by simp)).1, (fx 46 3 h3 (by simp)).1⟩, fun i => (fx 47 i (by rw [s 47 i (by omega)]; exact t 47 (by omega) (by omega)) (by simp)).2.2, fun i => (fx 48 i (by rw [s 48 i (by omega)]; exact t 48 (by omega) (by omega)) (by simp)).2.2⟩
def okHr (C : Nat) : Bool := ([227, 248, 173, 189, 190, 191].all (fun b => !C.testBit b))
theorem HFr_f {C : Nat} {X Y : Mem} (h : okHr C = true) (fx : Fx C [] X Y) : HFr X Y := by
  have t : ∀ b, b ∈ [227, 248, 173, 189, 190, 191] → C.testBit b = false := fun b hb => ok_of h hb
  exact ⟨(fx 162 27 (t 227 (by simp)) (by simp)).1, (fx 162 48 (t 248 (by simp)) (by simp)).1, fun i => (fx 173 i (t 173 (by simp)) (by simp)).1, fun i => (fx 189 i (t 189 (by simp)) (by simp)).1, fun i => (fx 190 i (t 190 (by simp)) (by simp)).1, fun i => (fx 191 i (t 191 (by simp)) (by simp)).1⟩
def mP11 : Nat := 71098737063784989085461767434649766220228279869903869167057116519632229632726926570288747756118147420182528
def mG163 : Nat := 6120724063703626551598013302566651832111732699567794472979987896991744
theorem pass_q {X R x r : Mem} {n : Nat} (zq : ZQ X R n) (ex : f_Clock_pass 11 32 X = some x) (er : f_Mod_goMinute 163 R = some r) : CS X R n x r ∧ PP X R 11 163 n x r := by
  obtain ⟨n8, jR, zb, zs, zv, zw⟩ := zq
  have P := pass_2 (.inl rfl) (.inl rfl) jR n8 zb zs zv zw ex er
  have fx : Fx mP11 [] X x := wf_Clock_pass 11 32 X (by decide +kernel) (oc_c (sb_r _) (by decide +kernel)) (oc_c (sb_r _) (by decide +kernel)) (oc_c (sb_r _) (by decide +kernel)) (oc_c (sb_r _) (by decide +kernel)) Fx_r ex
  have fr : Fx mG163 [] R r := wf_Mod_goMinute 163 R (by decide +kernel) (oc_c (sb_r _) (by decide +kernel)) Fx_r er
  have P' := P
  obtain ⟨p1, p2, p3, p4, p5, p6, p7, p8, p9, p10, p11⟩ := P
  exact ⟨⟨⟨n8, p1, ZB_a p2 p3 zb, p4, p5, ZW_a p2 p3 (plk_c p9 zv.2.1.2) zw⟩, HFx_f (by decide +kernel) fx, HFr_f (by decide +kernel) fr, p3⟩, P'⟩
theorem note_i {X x : Mem} {v : Int32} (e : f_Top_note v X = some x) : (∀ kx i, kx ≠ 161 → ¬ (kx = 0 ∧ i = 15) → x.1 kx i = X.1 kx i) ∧ x.2 = X.2 := by
  unfold f_Top_note at e
  rcases io e with ⟨c, e⟩ | ⟨c, e⟩
  · obtain rfl := Option.some.inj e; exact ⟨fun _ _ _ _ => rfl, rfl⟩
  rcases io e with ⟨c, e⟩ | ⟨c, e⟩
  · obtain rfl := Option.some.inj e; exact ⟨fun _ _ _ _ => rfl, rfl⟩
  obtain ⟨_, e⟩ := io_n e
  obtain ⟨M1, e1, e⟩ := mo e
  obtain ⟨M2, e2, e⟩ := mo e
  obtain rfl := Option.some.inj e
  exact ⟨fun kx i h1 h2 => by rw [e2, si_ne h2, e1, si_ne (fun h => h1 h.1)], by rw [e2]; show M1.2 = _; rw [e1]; rfl⟩
theorem empty_i {X x : Mem} (e : f_Top_emptyRow X = some x) : (∀ kx i, ¬ (kx = 0 ∧ i = 15) → x.1 kx i = X.1 kx i) ∧ x.2 = X.2 := by
  unfold f_Top_emptyRow at e
  obtain ⟨M1, e1, e⟩ := mo e
  obtain rfl := Option.some.inj e
  exact ⟨fun kx i h => by rw [e1, si_ne h], by rw [e1]; rfl⟩
theorem put_i {R r : Mem} {v : Int32} (e : f_Mod_put v R = some r) : ∀ kx i, kx ≠ 168 → ¬ (kx = 162 ∧ i = 12) → r.1 kx i = R.1 kx i := by
  unfold f_Mod_put at e
  obtain ⟨_, e⟩ := io_n e
  obtain ⟨M1, e1, e⟩ := mo e
  obtain ⟨M2, e2, e⟩ := mo e
  obtain rfl := Option.some.inj e
  exact fun kx i h1 h2 => by rw [e2, si_ne h2, e1, si_ne (fun h => h1 h.1)]
theorem minute_2 {X R : Mem} {n : Nat} {x r : Int32 × Mem} (za : ZA X R n) (kk : KK R) (jr : J r.2) (ex : f_Top_minute X = some x) (er : f_Mod_minute R = some r) : x.1 = r.1 ∧ ZA x.2 r.2 n := by
  have jR := za.1.2.1
  unfold f_Top_minute at ex
  unfold f_Mod_minute at er
  obtain ⟨X1, ex1, exa⟩ := bo ex
  obtain ⟨x2, ex2, exb⟩ := bo exa
  obtain ⟨x3, ex3, exc⟩ := bo exb
  obtain ⟨x4, ex4, exd⟩ := bo exc
  obtain ⟨x5, ex5, exe⟩ := bo exd
  obtain ⟨x6, ex6, exf⟩ := bo exe
  have exf := Option.some.inj exf
  obtain ⟨M1, m1, era⟩ := mo er
  obtain ⟨R1, er1, erb⟩ := bo era
  obtain ⟨y3, ey3, erc⟩ := bo erb
  obtain ⟨M4, m4, erd⟩ := mo erc
  obtain ⟨y5, ey5, ere⟩ := bo erd
  obtain ⟨y6, ey6, erf⟩ := bo ere
  have erf := Option.some.inj erf
  have j1 : J M1 := by rw [m1]; exact Jw_fld okf_162_13 jR _
  have zaM : ZA X M1 n := ZA_13 j1 (fun kx i h _ _ => by rw [m1, si_ne (by omega)]) za
  obtain ⟨zq', _, _⟩ := rem_q zaM (KK_13 jR kk m1) er1
  have zq1' : ZQ X1 R1 n := (copy_q (.inl rfl) zq' ex1).1
  obtain ⟨cs, pp⟩ := pass_q zq1' ex2 ey3
  have W := with_hist zaM ex1 er1 cs ex3
  obtain ⟨a4, b4⟩ := empty_i ex4
  obtain ⟨a5, b5⟩ := note_i ex5
  obtain ⟨a6, b6⟩ := note_i ex6
  have p5 := put_i ey5
  have p6 := put_i ey6
  have xf : ∀ kx i, kx ≠ 161 → ¬ (kx = 0 ∧ i = 15) → x6.1 kx i = x3.1 kx i := fun kx i h1 h2 => by rw [a6 kx i h1 h2, a5 kx i h1 h2, a4 kx i h2]
  have rf' : ∀ kx i, kx ≠ 168 → ¬ (kx = 162 ∧ i = 12) → y6.1 kx i = y3.1 kx i := fun kx i h1 h2 => by rw [p6 kx i h1 h2, p5 kx i h1 h2, m4, si_ne h2]
  have ff : Fx (2 ^ 400 - 1 - 2 ^ 352) [] x2 x3 := wf_History_add 18 x2 (by decide +kernel) Fx_r ex3
  rw [← exf, ← erf]
  refine ⟨?_, ?_⟩
  · show x6.1 45 2 = y6.1 162 31
    rw [xf 45 2 (by omega) (by omega), rf' 162 31 (by omega) (by omega), (ff 45 2 (by decide +kernel) (by simp)).1]
    exact pp.2.2.2.2.2.2.2.1
  · show ZA x6 y6 n
    refine ZA_x (fun kx i h1 h2 _ => xf kx i (by omega) (by omega)) (by rw [b6, b5, b4]) (ZA_13 (R := y3) ?_ (fun kx i h1 h2 h3 => rf' kx i h2 (by omega)) W)
    rw [← erf] at jr; exact jr
theorem minutes_2 {X R : Mem} {n : Nat} {v : Int32} {x r : Int32 × Mem} (za : ZA X R n) (kk : KK R) (jr : J r.2) (ex : f_Top_minutes v X = some x) (er : f_Mod_minutes v R = some r) : x.1 = r.1 ∧ ZA x.2 r.2 n := by
  have jR := za.1.2.1
  have z0 := o0
  have z60 : (60 : Int32).toInt = 60 := rfl
  unfold f_Mod_minutes at er
  obtain ⟨M1, m1, era⟩ := mo er
  obtain ⟨y2, ey2, erb⟩ := bo era
  have h2 := some_of (sp_in v 0 60) ey2
  rw [o0, z60] at h2
  have j1 : J M1 := by rw [m1]; exact Jw_fld okf_162_13 jR _
  have zaM : ZA X M1 n := ZA_13 j1 (fun kx i h _ _ => by rw [m1, si_ne (by omega)]) za
  unfold f_Top_minutes at ex
  have out : ¬ (0 ≤ v.toInt ∧ v.toInt ≤ 60) → some ((-1 : Int32), X) = some x → x.1 = r.1 ∧ ZA x.2 r.2 n := by
    intro hn e
    obtain rfl := Option.some.inj e
    rcases h2 with ⟨_, h⟩ | ⟨h, _⟩
    · exact absurd h hn
    · rw [h, if_pos rfl] at erb
      obtain rfl := Option.some.inj erb
      exact ⟨rfl, zaM⟩
  rcases io ex with ⟨c, ex⟩ | ⟨c, ex⟩
  · exact out (by have := q_lt c; omega) ex
  have c1 := q_nl c
  rcases io ex with ⟨c, ex⟩ | ⟨c, ex⟩
  · have c2 := q_le c
    rcases h2 with ⟨h, _⟩ | ⟨_, h⟩
    · rw [h, if_neg (by decide)] at erb
      obtain ⟨X1, ex1, exa⟩ := bo ex
      obtain ⟨X2, ex2, exb⟩ := bo exa
      obtain ⟨x5, ex5, exc⟩ := bo exb
      unfold f_Clock_reset at ex2
      obtain ⟨C1, d1, ex2⟩ := mo ex2
      obtain ⟨C2, d2, ex2⟩ := mo ex2
      have ex2 := Option.some.inj ex2
      subst ex2
      have fC : ∀ kx i, kx ≠ 45 → C2.1 kx i = X1.1 kx i := fun kx i h => by rw [d2, si_ne (by omega), d1, si_ne (by omega)]
      have fC2 : C2.2 = X1.2 := by rw [d2]; show C1.2 = _; rw [d1]; rfl
      have agC : AgX X1 C2 := ⟨fC 3 2 (by omega), fC 3 3 (by omega), fun q => fC 4 q (by omega), fC 6 4 (by omega), fC 6 5 (by omega), fun q => fC 7 q (by omega), fun q => fC 8 q (by omega), fC 40 4 (by omega), fun q => fC 41 q (by omega), fun q => fC 35 q (by omega), fun q => by rw [fC2], fun q => by rw [fC2]⟩
      have loop : ∀ (T0 : Mem), ZQ X1 T0 n → ∀ y, iter (lb_Mod_minutes_36 v) FU ((0 : Int32), (0 : Int32), (0 : Int32), T0) = some y → CS X1 T0 n x5 y.2.2 ∧ y.1 = x5.1 45 4 ∧ y.2.1 = x5.1 45 3 := by
        intro T0 zq0 y ey
        have zqC : ZQ C2 T0 n := by
          obtain ⟨n8, j0, zb, zs, zv, zw⟩ := zq0
          exact ⟨n8, j0, ZB_a agC AgR_r zb, ZS_c n8 (scn_f (fun kx i a b => fC kx i (by omega))) (fun _ _ => rfl) zs, zv, ZW_a agC AgR_r (fun _ _ => Iff.rfl) zw⟩
        have hC : HFx X1 C2 := ⟨⟨fun kx i w => fC kx i (by omega), fC 46 2 (by omega), fC 46 3 (by omega)⟩, fun i => by rw [fC2], fun i => by rw [fC2]⟩
        refine it_2 (I := fun (s : Int32 × Mem) (t : Int32 × Int32 × Int32 × Mem) => s.1 = t.2.2.1 ∧ CS X1 T0 n s.2 t.2.2.2 ∧ t.1 = s.2.1 45 4 ∧ t.2.1 = s.2.1 45 3) (Q := fun (x : Mem) (y : Int32 × Int32 × Mem) => CS X1 T0 n x y.2.2 ∧ y.1 = x.1 45 4 ∧ y.2.1 = x.1 45 3) ?_ ex5 ey ⟨rfl, ⟨zqC, hC, HFr_r, AgR_r⟩, ?_, ?_⟩
        · rintro ⟨i, N⟩ ⟨m, st, i', T⟩ A B ⟨hi, cs, h4, h3⟩ eA eB
          dsimp only at hi cs h4 h3
          subst hi
          unfold lb_Top_minutes_32 at eA
          unfold lb_Mod_minutes_36 at eB
          dsimp only at eA eB
          rcases io eA with ⟨g, eA⟩ | ⟨g, eA⟩
          · rw [if_pos g] at eB
            obtain rfl := Option.some.inj eA
            obtain rfl := Option.some.inj eB
            exact .inr ⟨_, _, rfl, rfl, cs, h4, h3⟩
          · rw [if_neg g] at eB
            obtain ⟨z3, ez3, eA⟩ := bo eA
            obtain rfl := Option.some.inj eA
            obtain ⟨w3, ew3, eB⟩ := bo eB
            obtain ⟨w4, ew4, eB⟩ := bo eB
            obtain rfl := Option.some.inj eB
            obtain ⟨cs2, pp⟩ := pass_q cs.1 ez3 ew3
            obtain ⟨b, hb1, hb2⟩ := pp.2.2.2.2.2.2.2.2.2.1
            refine .inl ⟨_, _, rfl, rfl, rfl, CS_t cs cs2, ?_, ?_⟩
            · show m + w3.1 162 31 = z3.1 45 4
              rw [pp.2.2.2.2.2.2.2.2.2.2, ← pp.2.2.2.2.2.2.2.1, h4]
            · show st + w4 = z3.1 45 3
              rw [hb2, h3]
              rw [pp.2.2.2.2.2.1, ew4] at hb1
              rw [Option.some.inj hb1]
        · show (0 : Int32) = C2.1 45 4
          rw [d2, si_eq]
        · show (0 : Int32) = C2.1 45 3
          rw [d2, si_ne (by omega), d1, si_eq]
      have fin : ∀ (A B : Mem) (y6 : Int32), ZA A B n → j_Top_minutes_85 A = some x → (∀ M7 x8 x9, M7 = s_i B 162 12 (0 : Int32) → f_Mod_put y6 M7 = some x8 → ∀ w : Int32, f_Mod_put w x8 = some x9 → r.2 = x9 → ZA x.2 r.2 n) ∧ x.1 = A.1 45 4 := by
        intro A B y6 zab e
        unfold j_Top_minutes_85 at e
        obtain ⟨u6, eu6, e⟩ := bo e
        obtain ⟨u7, eu7, e⟩ := bo e
        obtain ⟨u8, eu8, e⟩ := bo e
        have e := Option.some.inj e
        obtain ⟨a4, b4⟩ := empty_i eu6
        obtain ⟨a5, b5⟩ := note_i eu7
        obtain ⟨a6, b6⟩ := note_i eu8
        have xf : ∀ kx i, kx ≠ 161 → ¬ (kx = 0 ∧ i = 15) → u8.1 kx i = A.1 kx i := fun kx i h1 h2 => by rw [a6 kx i h1 h2, a5 kx i h1 h2, a4 kx i h2]
        refine ⟨fun M7 x8 x9 hm h8 w h9 hr => ?_, ?_⟩
        · have p5 := put_i h8
          have p6 := put_i h9
          have rf' : ∀ kx i, kx ≠ 168 → ¬ (kx = 162 ∧ i = 12) → x9.1 kx i = B.1 kx i := fun kx i h1 h2 => by rw [p6 kx i h1 h2, p5 kx i h1 h2, hm, si_ne h2]
          rw [← e]
          show ZA u8 r.2 n
          rw [hr] at jr ⊢
          exact ZA_x (fun kx i h1 h2 _ => xf kx i (by omega) (by omega)) (by rw [b6, b5, b4]) (ZA_13 jr (fun kx i h1 h2 h3 => rf' kx i h2 (by omega)) zab)
        · rw [← e]; exact xf 45 4 (by omega) (by omega)
      rcases io erb with ⟨g, erb⟩ | ⟨g, erb⟩
      · rw [if_pos g] at exc
        have v0 : v = 0 := Int32.toInt_inj.mp (by have := q_le g; omega)
        obtain ⟨y6, ey6, erc⟩ := bo erb
        obtain ⟨M7, m7, erd⟩ := mo erc
        obtain ⟨y8, ey8, ere⟩ := bo erd
        obtain ⟨y9, ey9, erf⟩ := bo ere
        have erf := Option.some.inj erf
        obtain ⟨L1, L2, L3⟩ := loop M1 (copy_q (.inl rfl) zaM.1 ex1).1 y6 ey6
        -- nothing has gone by
        have same : x5 = C2 ∧ y6.2.2 = M1 := by
          refine ⟨?_, ?_⟩
          · refine it_r (I := fun s : Int32 × Mem => s = ((0 : Int32), C2)) (Q := fun x => x = C2) ?_ ex5 rfl
            rintro s r rfl e
            unfold lb_Top_minutes_32 at e
            dsimp only at e
            rw [if_pos g] at e
            obtain rfl := Option.some.inj e
            rfl
          · refine it_r (I := fun s : Int32 × Int32 × Int32 × Mem => s = ((0 : Int32), (0 : Int32), (0 : Int32), M1)) (Q := fun y : Int32 × Int32 × Mem => y.2.2 = M1) ?_ ey6 rfl
            rintro s r rfl e
            unfold lb_Mod_minutes_36 at e
            dsimp only at e
            rw [if_pos g] at e
            obtain rfl := Option.some.inj e
            rfl
        obtain ⟨c1', c2', c3'⟩ := copy_i (v0 := 18) (v1 := 11) (by omega) ex1
        have zab : ZA x5 y6.2.2 n := by
          rw [same.1, same.2]
          exact ZA_x (fun kx i h1 h2 _ => by rw [fC kx i (by omega)]; exact c2' kx i (by omega)) (by rw [fC2, c3']) zaM
        obtain ⟨F1, F2⟩ := fin x5 y6.2.2 y6.2.1 zab exc
        refine ⟨?_, F1 M7 y8 y9 m7 ey8 _ ey9 (by rw [← erf])⟩
        rw [F2, ← erf]; exact L2.symm
      · rw [if_neg g] at exc
        obtain ⟨x9, ex9, exd⟩ := bo exc
        obtain ⟨R1, er1, erc⟩ := bo erb
        obtain ⟨y6, ey6, erd⟩ := bo erc
        obtain ⟨M7, m7, ere⟩ := mo erd
        obtain ⟨y8, ey8, erf⟩ := bo ere
        obtain ⟨y9, ey9, erg⟩ := bo erf
        have erg := Option.some.inj erg
        obtain ⟨zq', _, _⟩ := rem_q zaM (KK_13 jR kk m1) er1
        obtain ⟨L1, L2, L3⟩ := loop R1 (copy_q (.inl rfl) zq' ex1).1 y6 ey6
        have W := with_hist zaM ex1 er1 L1 ex9
        obtain ⟨F1, F2⟩ := fin x9 y6.2.2 y6.2.1 W exd
        refine ⟨?_, F1 M7 y8 y9 m7 ey8 _ ey9 (by rw [← erg])⟩
        have ff : Fx (2 ^ 400 - 1 - 2 ^ 354) [] x5 x9 := wf_History_add 18 x5 (by decide +kernel) Fx_r ex9
        rw [F2, ← erg, (ff 45 4 (by decide +kernel) (by simp)).1]; exact L2.symm
    · exact absurd (⟨by omega, by omega⟩ : 0 ≤ v.toInt ∧ v.toInt ≤ 60) h
  · exact out (by have := q_ng c; omega) ex
