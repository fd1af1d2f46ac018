/-! the feast, the whole command -/
theorem loopF {X R x r : Mem} {n : Nat} {v : Int32} (zq : ZQ X R n) (hv : 0 ≤ v.toInt ∧ v.toInt ≤ 1) (ex : iter (lb_Top_celebrate_34 v) FU ((0 : Int32), X) = some x) (er : iter (lb_Mod_goFeast_10 v) FU ((0 : Int32), R) = some r) : CS X R n x r := by
  have n8 := zq.1
  have z0 := o0
  have z1 := o1
  have z36 : (36 : Int32).toInt = 36 := rfl
  refine it_2 (I := fun s t : Int32 × Mem => s.1 = t.1 ∧ (∃ p : Nat, p ≤ n ∧ s.1.toInt = (p : Int)) ∧ CS X R n s.2 t.2) (Q := fun x r : Mem => CS X R n x r) ?_ ex er ⟨rfl, ⟨0, by omega, rfl⟩, CS_r zq⟩
  rintro ⟨s, N⟩ ⟨t, K⟩ a b ⟨hst, ⟨p, lp, hp⟩, cs⟩ ea eb
  dsimp only at hst hp cs
  subst hst
  have zq' := cs.1
  have zc := zq'.2.2.1.2.1
  have e65 : N.1 6 5 = K.1 162 5 := zc.2.2.1
  unfold lb_Top_celebrate_34 at ea
  unfold lb_Mod_goFeast_10 at eb
  dsimp only at ea eb
  rw [zc.2.1] at ea
  rcases io ea with ⟨g, ea⟩ | ⟨g, ea⟩
  · rw [if_pos g] at eb
    exact .inr ⟨_, _, (Option.some.inj ea).symm, (Option.some.inj eb).symm, cs⟩
  rw [if_neg g] at eb
  have g1 := q_ng g
  rw [zc.1] at g1
  have pn : p < n := by omega
  have nx : (s + (1 : Int32)).toInt = ((p + 1 : Nat) : Int) := add_ti hp o1 (by omega) (by omega)
  have next : ∀ A B : Mem, CS X R n A B → some (Sum.inl (s + (1 : Int32), A)) = some a → some (Sum.inl (s + (1 : Int32), B)) = some b → (∃ s' t' : Int32 × Mem, a = .inl s' ∧ b = .inl t' ∧ (s'.1 = t'.1 ∧ (∃ p : Nat, p ≤ n ∧ s'.1.toInt = (p : Int)) ∧ CS X R n s'.2 t'.2)) ∨ (∃ x y : Mem, a = .inr x ∧ b = .inr y ∧ CS X R n x y) := fun A B h h1 h2 => .inl ⟨_, _, (Option.some.inj h1).symm, (Option.some.inj h2).symm, rfl, ⟨p + 1, by omega, nx⟩, h⟩
  obtain ⟨x2, ex2, ea⟩ := bo ea
  obtain ⟨y2, ey2, eb⟩ := bo eb
  have w1 := womanC hp (by omega) ex2
  have w2 := hasR hp (by omega) ey2
  rw [e65] at w1
  have w : x2 = 0 ↔ y2 = 0 := w1.trans w2.symm
  rcases io ea with ⟨g, ea⟩ | ⟨g, ea⟩
  · rw [if_pos (w.mp g)] at eb
    exact next _ _ cs ea eb
  rw [if_neg (fun h => g (w.mpr h))] at eb
  have hw : bt (K.1 162 5) p = true := by
    cases hb : bt (K.1 162 5) p with
    | true => rfl
    | false => exact absurd (w1.mpr hb) g
  obtain ⟨_, ea⟩ := io_n ea
  obtain ⟨_, eb⟩ := io_n eb
  rw [q_nat hp] at ea eb
  obtain ⟨y3, ey3, eb⟩ := bo eb
  obtain ⟨h1, h2, ⟨c0, c1, c2⟩, _, _⟩ := whr zq' pn
  obtain rfl := h1 _ ey3
  obtain ⟨_, eb⟩ := io_n eb
  obtain ⟨x4, ex4, ea⟩ := bo ea
  rcases stair_r zq' pn ex4 with ⟨k, l⟩ | ⟨k, l⟩
  rotate_left
  · rw [k, if_pos rfl] at ea
    rw [if_neg l] at eb
    exact next _ _ cs ea eb
  rw [k, if_neg (by decide)] at ea
  rw [if_pos l] at eb
  obtain ⟨_, eb⟩ := io_n eb
  obtain ⟨y5, ey5, eb⟩ := bo eb
  obtain rfl := h1 _ ey5
  obtain ⟨y6, ey6, eb⟩ := bo eb
  obtain ⟨_, eb⟩ := io_n eb
  obtain ⟨B, hB, eb⟩ := mo eb
  unfold f_Mod_placeOf at ey6
  have ey6 := Option.some.inj ey6
  have u1 : ((1 : Int32) - v).toInt = 1 - v.toInt := sub_ti o1 rfl (by omega) (by omega)
  have u2 : ((36 : Int32) * ((1 : Int32) - v)).toInt = 36 * (1 - v.toInt) := mul_ti z36 u1 (by omega) (by omega)
  have u3 : y6.toInt = 36 * (1 - v.toInt) + (N.1 12 p).toInt := by rw [← ey6]; exact add_ti u2 rfl (by omega) (by omega)
  have hst : ∀ q : Int, onN K q (N.1 12 p).toInt := by
    intro q
    obtain ⟨c, hc⟩ := ti_ofn c0
    rw [q_nat hc] at l
    have l3 : (K.1 164 (N.1 12 p).toInt.toNat).toInt = 3 := by rw [hc]; show (K.1 164 c).toInt = 3; rw [l]; rfl
    refine ⟨c0, c2, ?_⟩
    split
    · exact .inr l3
    · exact .inr l3
  have jB : J B := by
    have := Jws0 (i := s) zq'.2.1 (k := 163) (.inl rfl) (by omega) (by omega) y6 (by omega) (by omega)
    rw [q_nat hp] at this
    rw [hB]; exact this
  have fin : ∀ (lv : Int32) (A : Mem), lv.toInt = 1 - v.toInt → A = s_i N 13 p lv → CS X R n A B := by
    intro lv A hlv hA
    exact CS_t cs (lev_q zq' pn (by omega) (by omega) (hst _) hw jB hA hB)
  rcases io ea with ⟨g, ea⟩ | ⟨g, ea⟩
  · obtain ⟨_, ea⟩ := io_n ea
    obtain ⟨A, hA, ea⟩ := mo ea
    exact next _ _ (fin 0 A (by rw [g]; rfl) hA) ea eb
  · obtain ⟨_, ea⟩ := io_n ea
    obtain ⟨A, hA, ea⟩ := mo ea
    have v0 : v.toInt ≠ 1 := fun h => g (Int32.toInt_inj.mp h)
    exact next _ _ (fin 1 A (by omega) hA) ea eb
theorem feast_2 {X R : Mem} {n : Nat} {v : Int32} {x r : Int32 × Mem} (za : ZA X R n) (kk : KK R) (ex : f_Top_feast v X = some x) (er : f_Mod_feast v R = some r) : x.1 = r.1 ∧ ZA x.2 r.2 n := by
  have jR := za.1.2.1
  have z0 := o0
  have z1 := o1
  unfold f_Top_feast at ex
  unfold f_Mod_feast at er
  obtain ⟨X1, ex1, exa⟩ := bo ex
  obtain ⟨M1, m1, era⟩ := mo er
  obtain ⟨y, ey, erb⟩ := bo era
  have j1 : J M1 := by rw [m1]; exact Jw_fld okf_162_13 jR _
  have zaM : ZA X M1 n := ZA_13 j1 (fun kx i h _ _ => by rw [m1, si_ne (by omega)]) za
  obtain ⟨zq1, _, _⟩ := copy_q (.inl rfl) zaM.1 ex1
  obtain ⟨c1, c2, c3⟩ := copy_i (v0 := 18) (v1 := 11) (by omega) ex1
  have no : some ((-1 : Int32), X1) = some x → some (0 : Int32) = some y → x.1 = r.1 ∧ ZA x.2 r.2 n := by
    intro e1 e2
    rw [← Option.some.inj e2, if_pos rfl] at erb
    rw [← Option.some.inj e1, ← Option.some.inj erb]
    exact ⟨rfl, ZA_x (fun kx i h _ _ => c2 kx i (by omega)) c3 zaM⟩
  unfold f_Mod_canFeast at ey
  rw [show (94 : Int32).toNatClampNeg = 94 from rfl] at ey
  obtain ⟨y2, ey2, ey⟩ := bo ey
  have h2 := some_of (sp_in v 0 1) ey2
  rw [o0, o1] at h2
  have out : ¬ (0 ≤ v.toInt ∧ v.toInt ≤ 1) → some ((-1 : Int32), X1) = some x → x.1 = r.1 ∧ ZA x.2 r.2 n := by
    intro hn e
    rcases h2 with ⟨_, h⟩ | ⟨h, _⟩
    · exact absurd h hn
    · rw [h, if_pos rfl] at ey
      exact no e ey
  rcases io exa with ⟨g, exa⟩ | ⟨g, exa⟩
  · exact out (by have := q_lt g; omega) exa
  have g1 := q_nl g
  rcases io exa with ⟨g, exa⟩ | ⟨g, exa⟩
  · exact out (by have := q_lt g; omega) exa
  have g2 := q_nl g
  have hv : 0 ≤ v.toInt ∧ v.toInt ≤ 1 := by omega
  rcases h2 with ⟨h, _⟩ | ⟨_, h⟩
  rotate_left
  · exact absurd hv h
  rw [h, if_neg (by decide)] at ey
  obtain ⟨x2, ex2, exb⟩ := bo exa
  unfold f_Top_celebrate at ex2
  have fl : X1.1 11 9 = M1.1 163 94 := zq1.2.2.2.1.2.2.2.2.2.2.2
  rw [fl] at ex2
  have no2 : some ((0 : Int32), X1) = some x2 → some (0 : Int32) = some y → x.1 = r.1 ∧ ZA x.2 r.2 n := by
    intro e1 e2
    rw [← Option.some.inj e1, if_pos rfl] at exb
    exact no exb e2
  have go : ∀ A B : Mem, A = s_i X1 11 9 v → iter (lb_Top_celebrate_34 v) FU ((0 : Int32), A) = some B → some ((1 : Int32), B) = some x2 → some (1 : Int32) = some y → x.1 = r.1 ∧ ZA x.2 r.2 n := by
    intro A B hA eB e2 ey
    rw [← Option.some.inj e2, if_neg (by show ¬ (1 : Int32) = 0; decide)] at exb
    rw [← Option.some.inj ey, if_neg (by decide)] at erb
    obtain ⟨x3, ex3, exc⟩ := bo exb
    obtain ⟨x4, ex4, exd⟩ := bo exc
    obtain ⟨R1, er1, erc⟩ := bo erb
    obtain ⟨r4, er4, erd⟩ := bo erc
    obtain ⟨r5, er5, ere⟩ := bo erd
    obtain ⟨zq', agr1, rf1⟩ := rem_q zaM (KK_13 jR kk m1) er1
    have zq1' : ZQ X1 R1 n := (copy_q (.inl rfl) zq' ex1).1
    unfold f_Mod_goFeast at er4
    obtain ⟨N, hN, er4⟩ := mo er4
    obtain ⟨K, eK, er4⟩ := bo er4
    have er4 := Option.some.inj er4
    subst er4
    have f1 := flag_q zq1' hv hA hN
    have cs := CS_t f1 (loopF f1.1 hv eB eK)
    have W := with_hist zaM ex1 er1 cs ex3
    rw [← Option.some.inj exd, ← Option.some.inj ere]
    exact ⟨below_2 W.1 ex4 er5, W⟩
  rcases io ex2 with ⟨g, ex2⟩ | ⟨g, ex2⟩
  · rw [if_pos g] at ey
    exact no2 ex2 ey
  rw [if_neg g] at ey
  rcases io ex2 with ⟨g0, ex2⟩ | ⟨g0, ex2⟩
  · rw [if_neg (by rw [g0]; decide)] at ey
    obtain ⟨a, ea, ex2⟩ := bo ex2
    rcases astray_2 zq1 ea ey with ⟨ha, hy⟩ | ⟨ha, hy⟩
    · rw [ha, if_pos rfl] at ex2
      obtain ⟨A, hA, ex2⟩ := mo ex2
      obtain ⟨B, eB, ex2⟩ := bo ex2
      exact go A B hA eB ex2 (by rw [hy])
    · rw [ha, if_neg (by decide)] at ex2
      exact no2 ex2 (by rw [hy])
  · have v0 : v.toInt ≠ 0 := fun h => g0 (Int32.toInt_inj.mp h)
    have v1 : v = 1 := Int32.toInt_inj.mp (by omega)
    rw [if_pos v1] at ey
    obtain ⟨A, hA, ex2⟩ := mo ex2
    obtain ⟨B, eB, ex2⟩ := bo ex2
    exact go A B hA eB ex2 ey
