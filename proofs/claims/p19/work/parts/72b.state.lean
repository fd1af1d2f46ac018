/-! the whole state, side by side; calls that change the scene -/
def ZK (X R : Mem) (n : Nat) : Prop := (∀ t : Nat, t < 2 → X.2.2 48 t = some (133 + 7 * t)) ∧ ∀ t : Nat, t < 2 → (bt (X.1 46 3) t = true ↔ ((R.1 190 t).toInt ≠ 0 ∧ R.1 191 t = R.1 162 48)) ∧ (bt (X.1 46 3) t = true → ZS (scn X (133 + 7 * t)) (fun i => R.1 189 (96 * t + i)) n ∧ ZV R (fun i => R.1 189 (96 * t + i)) n)
def HFx (X Y : Mem) : Prop := ((∀ kx i, ((18 ≤ kx ∧ kx < 25) ∨ (47 ≤ kx ∧ kx < 147)) → Y.1 kx i = X.1 kx i) ∧ Y.1 46 2 = X.1 46 2 ∧ Y.1 46 3 = X.1 46 3) ∧ (∀ i, Y.2.2 47 i = X.2.2 47 i) ∧ (∀ i, Y.2.2 48 i = X.2.2 48 i)
def HFr (R S : Mem) : Prop := S.1 162 27 = R.1 162 27 ∧ S.1 162 48 = R.1 162 48 ∧ (∀ i, S.1 173 i = R.1 173 i) ∧ (∀ i, S.1 189 i = R.1 189 i) ∧ (∀ i, S.1 190 i = R.1 190 i) ∧ (∀ i, S.1 191 i = R.1 191 i)
theorem HFx_r {X : Mem} : HFx X X := ⟨⟨fun _ _ _ => rfl, rfl, rfl⟩, fun _ => rfl, fun _ => rfl⟩
theorem HFr_r {X : Mem} : HFr X X := ⟨rfl, rfl, fun _ => rfl, fun _ => rfl, fun _ => rfl, fun _ => rfl⟩
theorem HFx_t {X Y Z : Mem} (h : HFx X Y) (g : HFx Y Z) : HFx X Z := ⟨⟨fun kx i w => (g.1.1 kx i w).trans (h.1.1 kx i w), g.1.2.1.trans h.1.2.1, g.1.2.2.trans h.1.2.2⟩, fun i => (g.2.1 i).trans (h.2.1 i), fun i => (g.2.2 i).trans (h.2.2 i)⟩
theorem HFr_t {X Y Z : Mem} (h : HFr X Y) (g : HFr Y Z) : HFr X Z := ⟨g.1.trans h.1, g.2.1.trans h.2.1, fun i => (g.2.2.1 i).trans (h.2.2.1 i), fun i => (g.2.2.2.1 i).trans (h.2.2.2.1 i), fun i => (g.2.2.2.2.1 i).trans (h.2.2.2.2.1 i), fun i => (g.2.2.2.2.2 i).trans (h.2.2.2.2.2 i)⟩
theorem ZH_a {X Y R S : Mem} {n : Nat} (n8 : n ≤ 8) (h46 : Y.1 46 2 = X.1 46 2) (hs : ∀ kx i, 49 ≤ kx → kx < 133 → Y.1 kx i = X.1 kx i) (hq : ∀ i, Y.2.2 47 i = X.2.2 47 i) (hr : AgR R S) (h27 : S.1 162 27 = R.1 162 27) (h173 : ∀ i, S.1 173 i = R.1 173 i) (h : ZH X R n) : ZH Y S n := by
  obtain ⟨⟨a1, a2⟩, m, m12, b1, b2, b3⟩ := h
  refine ⟨⟨fun i hi => by rw [hq]; exact a1 i hi, fun i j hi hj e => by rw [hq, hq] at e; exact a2 i j hi hj e⟩, m, m12, by rw [h46]; exact b1, by rw [h27]; exact b2, fun u hu => ?_⟩
  obtain ⟨k, c1, c2, c3⟩ := b3 u hu
  obtain ⟨j, hj, hqj⟩ := a1 u (by omega)
  have jk : k = 49 + 7 * j := Option.some.inj (c1.symm.trans hqj)
  exact ⟨k, by rw [hq]; exact c1, ZS_c n8 (scn_f (fun kx i h1 h2 => hs kx i (by omega) (by omega))) (fun i _ => (h173 _).symm) c2, ZV_a n8 hr (fun i _ => h173 _) c3⟩
theorem ZK_a {X Y R S : Mem} {n : Nat} (n8 : n ≤ 8) (h46 : Y.1 46 3 = X.1 46 3) (hs : ∀ kx i, 133 ≤ kx → kx < 147 → Y.1 kx i = X.1 kx i) (hq : ∀ i, Y.2.2 48 i = X.2.2 48 i) (hr : AgR R S) (h48 : S.1 162 48 = R.1 162 48) (h189 : ∀ i, S.1 189 i = R.1 189 i) (h190 : ∀ i, S.1 190 i = R.1 190 i) (h191 : ∀ i, S.1 191 i = R.1 191 i) (h : ZK X R n) : ZK Y S n := by
  refine ⟨fun t ht => by rw [hq]; exact h.1 t ht, fun t ht => ?_⟩
  obtain ⟨a, b⟩ := h.2 t ht
  rw [h46, h190, h191, h48]
  refine ⟨a, fun hb => ?_⟩
  obtain ⟨c1, c2⟩ := b hb
  exact ⟨ZS_c n8 (scn_f (fun kx i h1 h2 => hs kx i (by omega) (by omega))) (fun i _ => (h189 _).symm) c1, ZV_a n8 hr (fun i _ => h189 _) c2⟩
/-- the town as it stands now, on both sides -/
def ZQ (X R : Mem) (n : Nat) : Prop := n ≤ 8 ∧ J R ∧ ZB X R n ∧ ZS (scn X 11) (R.1 163) n ∧ ZV R (R.1 163) n ∧ ZW X R 163
def ZA (X R : Mem) (n : Nat) : Prop := ZQ X R n ∧ ZH X R n ∧ ZK X R n
def CS (X R : Mem) (n : Nat) (x r : Mem) : Prop := ZQ x r n ∧ HFx X x ∧ HFr R r ∧ AgR R r
theorem CS_t {X R x r y s : Mem} {n : Nat} (h : CS X R n x r) (g : CS x r n y s) : CS X R n y s := ⟨g.1, HFx_t h.2.1 g.2.1, HFr_t h.2.2.1 g.2.2.1, AgR_t h.2.2.2 g.2.2.2⟩
/-- a change with its past: copied, changed, added; remembered, changed -/
theorem with_hist {X X1 X2 x R R1 r : Mem} {n : Nat} (za : ZA X R n) (e1 : f_Scene_copy 18 11 X = some X1) (er1 : f_Mod_remember 163 R = some R1) (cs : CS X1 R1 n X2 r) (e3 : f_History_add 18 X2 = some x) : ZA x r n := by
  obtain ⟨⟨n8, jR, zb, zs, zv, zw⟩, zh, zk⟩ := za
  obtain ⟨⟨_, jr, zb2, zs2, zv2, zw2⟩, hfx, hfr, agr⟩ := cs
  obtain ⟨c1, c2, c3⟩ := copy_i (v0 := 18) (v1 := 11) (by omega) e1
  have zh' := zh
  obtain ⟨hx, m, m12, h1, h2, h3⟩ := zh
  have f2 : ∀ kx i, (47 ≤ kx ∧ kx < 147) → X2.1 kx i = X.1 kx i := fun kx i h => by rw [hfx.1.1 kx i (.inr h)]; exact c2 kx i (by omega)
  have f462 : X2.1 46 2 = X.1 46 2 := by rw [hfx.1.2.1]; exact c2 46 2 (by omega)
  have f463 : X2.1 46 3 = X.1 46 3 := by rw [hfx.1.2.2]; exact c2 46 3 (by omega)
  have q2 : ∀ i, X2.2.2 47 i = X.2.2 47 i := fun i => by rw [hfx.2.1 i, c3]
  have zh2 : ZH X2 R n := ZH_a n8 f462 (fun kx i a b => f2 kx i (by omega)) q2 AgR_r rfl (fun _ => rfl) zh'
  have zs18 : ZS (scn X2 18) (R.1 163) n := ZS_c n8 (SEq_t c1 (scn_f (fun kx i a b => hfx.1.1 kx i (.inl (by omega))))) (fun _ _ => rfl) zs
  have H := hist_2 n8 (.inl rfl) zh2 zs18 zv e3 er1
  have B := rem_i (v := 163) (by omega) h2 m12 er1
  have A := add_i zh2.1 (m := m) (by rw [f462]; exact h1) m12 e3
  have rf1 : ∀ kx i, kx ≠ 173 → ¬ (kx = 162 ∧ i = 27) → R1.1 kx i = R.1 kx i := by
    by_cases g : m < 12
    · rw [if_pos g] at B; exact B.2.2.2
    · rw [if_neg g] at B; exact B.2.2.2
  have ag1 : AgR R R1 := ⟨rf1 162 2 (by omega) (by omega), rf1 162 3 (by omega) (by omega), rf1 162 4 (by omega) (by omega), rf1 162 5 (by omega) (by omega), rf1 162 23 (by omega) (by omega), fun i => rf1 164 i (by omega) (by omega), fun i => rf1 165 i (by omega) (by omega), fun i => rf1 166 i (by omega) (by omega), fun i => rf1 172 i (by omega) (by omega)⟩
  have xf : (∀ kx i, ¬ (49 ≤ kx ∧ kx < 133) → ¬ (kx = 46 ∧ i = 2) → x.1 kx i = X2.1 kx i) ∧ x.2.1 = X2.2.1 ∧ (∀ kx i, kx ≠ 47 → x.2.2 kx i = X2.2.2 kx i) := by
    by_cases g : m < 12
    · rw [if_pos g] at A; exact A.2.2.2.2
    · rw [if_neg g] at A; exact A.2.2.2.2
  have agx : AgX X2 x := ⟨xf.1 3 2 (by omega) (by omega), xf.1 3 3 (by omega) (by omega), fun i => xf.1 4 i (by omega) (by omega), xf.1 6 4 (by omega) (by omega), xf.1 6 5 (by omega) (by omega), fun i => xf.1 7 i (by omega) (by omega), fun i => xf.1 8 i (by omega) (by omega), xf.1 40 4 (by omega) (by omega), fun i => xf.1 41 i (by omega) (by omega), fun i => xf.1 35 i (by omega) (by omega), fun i => by rw [xf.2.1], fun i => by rw [xf.2.1]⟩
  refine ⟨⟨n8, jr, ZB_a agx AgR_r zb2, ZS_c n8 (scn_f (fun kx i a b => xf.1 kx i (by omega) (by omega))) (fun _ _ => rfl) zs2, zv2, ZW_a agx AgR_r (fun _ _ => Iff.rfl) zw2⟩, ZH_a n8 rfl (fun _ _ _ _ => rfl) (fun _ => rfl) agr hfr.1 hfr.2.2.1 H, ?_⟩
  refine ZK_a n8 ?_ (fun kx i a b => ?_) (fun i => ?_) (AgR_t ag1 agr) ?_ (fun i => ?_) (fun i => ?_) (fun i => ?_) zk
  · rw [xf.1 46 3 (by omega) (by omega)]; exact f463
  · rw [xf.1 kx i (by omega) (by omega)]; exact f2 kx i (by omega)
  · rw [xf.2.2 48 i (by omega), hfx.2.2 i, c3]
  · rw [hfr.2.1]; exact rf1 162 48 (by omega) (by omega)
  · rw [hfr.2.2.2.1]; exact rf1 189 i (by omega) (by omega)
  · rw [hfr.2.2.2.2.1]; exact rf1 190 i (by omega) (by omega)
  · rw [hfr.2.2.2.2.2]; exact rf1 191 i (by omega) (by omega)
/-- the scratch scene is copied: nothing that both sides share changes -/
theorem copy_q {X X1 R : Mem} {n v0 : Nat} (hv : v0 = 18 ∨ v0 = 25) (zq : ZQ X R n) (e : f_Scene_copy v0 11 X = some X1) : ZQ X1 R n ∧ AgX X X1 ∧ ZS (scn X1 v0) (R.1 163) n := by
  obtain ⟨n8, jR, zb, zs, zv, zw⟩ := zq
  obtain ⟨c1, c2, c3⟩ := copy_i (v0 := v0) (v1 := 11) (by omega) e
  have agx : AgX X X1 := ⟨c2 3 2 (by omega), c2 3 3 (by omega), fun i => c2 4 i (by omega), c2 6 4 (by omega), c2 6 5 (by omega), fun i => c2 7 i (by omega), fun i => c2 8 i (by omega), c2 40 4 (by omega), fun i => c2 41 i (by omega), fun i => c2 35 i (by omega), fun i => by rw [c3], fun i => by rw [c3]⟩
  exact ⟨⟨n8, jR, ZB_a agx AgR_r zb, ZS_c n8 (scn_f (fun kx i a b => c2 kx i (by omega))) (fun _ _ => rfl) zs, zv, ZW_a agx AgR_r (fun _ _ => Iff.rfl) zw⟩, agx, ZS_c n8 c1 (fun _ _ => rfl) zs⟩
theorem ZA_x {X Y R : Mem} {n : Nat} (h : ∀ kx i, (kx < 18 ∨ 25 ≤ kx) → ¬ (kx = 1 ∨ kx = 0 ∨ kx = 45 ∨ kx = 161 ∨ kx = 2) → kx ≠ 25 + 0 ∨ True → Y.1 kx i = X.1 kx i) (h2 : Y.2 = X.2) (za : ZA X R n) : ZA Y R n := by
  obtain ⟨⟨n8, jR, zb, zs, zv, zw⟩, zh, zk⟩ := za
  have g : ∀ kx i, (kx < 18 ∨ 25 ≤ kx) → ¬ (kx = 1 ∨ kx = 0 ∨ kx = 45 ∨ kx = 161 ∨ kx = 2) → Y.1 kx i = X.1 kx i := fun kx i a b => h kx i a b (.inr trivial)
  have agx : AgX X Y := ⟨g 3 2 (by omega) (by omega), g 3 3 (by omega) (by omega), fun i => g 4 i (by omega) (by omega), g 6 4 (by omega) (by omega), g 6 5 (by omega) (by omega), fun i => g 7 i (by omega) (by omega), fun i => g 8 i (by omega) (by omega), g 40 4 (by omega) (by omega), fun i => g 41 i (by omega) (by omega), fun i => g 35 i (by omega) (by omega), fun i => by rw [h2], fun i => by rw [h2]⟩
  exact ⟨⟨n8, jR, ZB_a agx AgR_r zb, ZS_c n8 (scn_f (fun kx i a b => g kx i (by omega) (by omega))) (fun _ _ => rfl) zs, zv, ZW_a agx AgR_r (fun _ _ => Iff.rfl) zw⟩, ZH_a n8 (g 46 2 (by omega) (by omega)) (fun kx i a b => g kx i (by omega) (by omega)) (fun i => by rw [h2]) AgR_r rfl (fun _ => rfl) zh, ZK_a n8 (g 46 3 (by omega) (by omega)) (fun kx i a b => g kx i (by omega) (by omega)) (fun i => by rw [h2]) AgR_r rfl (fun _ => rfl) (fun _ => rfl) (fun _ => rfl) zk⟩
/-! tell -/
theorem isOne_i {R : Mem} {v x : Int32} {n : Nat} (hn : (R.1 162 4).toInt = (n : Int)) (n8 : n ≤ 8) (e : f_Mod_isOne v R = some x) : (x = 1 ∧ 0 ≤ v.toInt ∧ v.toInt < n) ∨ (x = 0 ∧ ¬ (0 ≤ v.toInt ∧ v.toInt < n)) := by
  unfold f_Mod_isOne at e
  obtain ⟨x1, e1, e⟩ := bo e
  obtain ⟨_, e⟩ := io_n e
  obtain rfl := Option.some.inj e
  have h := some_of (sp_in v 0 ((R.1 162 4) - (1 : Int32))) e1
  have s : ((R.1 162 4) - (1 : Int32)).toInt = (n : Int) - 1 := sub_ti hn o1 (by omega) (by omega)
  rw [o0, s] at h
  rcases h with ⟨a, b, c⟩ | ⟨a, b⟩
  · exact .inl ⟨a, b, by omega⟩
  · exact .inr ⟨a, by omega⟩
theorem crowd_has {X : Mem} {v x : Int32} {n : Nat} (hn : (X.1 6 4).toInt = (n : Int)) (n8 : n ≤ 8) (e : f_Crowd_has v X = some x) : (x = 1 ∧ 0 ≤ v.toInt ∧ v.toInt < n) ∨ (x = 0 ∧ ¬ (0 ≤ v.toInt ∧ v.toInt < n)) := by
  have z0 := o0
  have z8 : (8 : Int32).toInt = 8 := rfl
  unfold f_Crowd_has at e
  rcases io e with ⟨c, e⟩ | ⟨c, e⟩
  · obtain rfl := Option.some.inj e; have := q_lt c; exact .inr ⟨rfl, by omega⟩
  have c1 := q_nl c
  rcases io e with ⟨c, e⟩ | ⟨c, e⟩
  · obtain rfl := Option.some.inj e; have := q_le c; exact .inr ⟨rfl, by omega⟩
  have c2 := q_ng c
  rcases io e with ⟨c, e⟩ | ⟨c, e⟩
  · have := q_le c; omega
  · obtain rfl := Option.some.inj e; exact .inl ⟨rfl, by omega, by omega⟩
theorem ZQ_n {X R x r : Mem} {n : Nat} (zq : ZQ X R n) (jr : J r) (fx : ∀ kx i, ¬ (kx = 11 ∧ i = 8) → x.1 kx i = X.1 kx i) (x2 : x.2 = X.2) (fr : ∀ kx i, ¬ (kx = 163 ∧ i = 93) → r.1 kx i = R.1 kx i) (hn : x.1 11 8 = r.1 163 93) : CS X R n x r := by
  obtain ⟨n8, jR, zb, zs, zv, zw⟩ := zq
  have agx : AgX X x := ⟨fx 3 2 (by omega), fx 3 3 (by omega), fun i => fx 4 i (by omega), fx 6 4 (by omega), fx 6 5 (by omega), fun i => fx 7 i (by omega), fun i => fx 8 i (by omega), fx 40 4 (by omega), fun i => fx 41 i (by omega), fun i => fx 35 i (by omega), fun i => by rw [x2], fun i => by rw [x2]⟩
  have agr : AgR R r := ⟨fr 162 2 (by omega), fr 162 3 (by omega), fr 162 4 (by omega), fr 162 5 (by omega), fr 162 23 (by omega), fun i => fr 164 i (by omega), fun i => fr 165 i (by omega), fun i => fr 166 i (by omega), fun i => fr 172 i (by omega)⟩
  have zs' : ZS (scn x 11) (r.1 163) n := ZS_n n8 (fun j i h1 h2 => by
    unfold scn
    by_cases g : j < 6
    · rw [if_pos g, if_pos g]; exact fx _ _ (by omega)
    · rw [if_neg g, if_neg g]; exact fx _ _ (by omega)) hn (fun i hi => fr 163 i (by omega)) zs
  refine ⟨⟨n8, jr, ZB_a agx agr zb, zs', ZV_b n8 agr (fun i hi => fr 163 i (by omega)) zv, ZW_a agx agr (plk_c (fun i a b => fr 163 i (by omega)) zv.2.1.2) zw⟩, ⟨⟨fun kx i h => fx kx i (by omega), fx 46 2 (by omega), fx 46 3 (by omega)⟩, fun i => by rw [x2], fun i => by rw [x2]⟩, ⟨fr 162 27 (by omega), fr 162 48 (by omega), fun i => fr 173 i (by omega), fun i => fr 189 i (by omega), fun i => fr 190 i (by omega), fun i => fr 191 i (by omega)⟩, agr⟩
theorem give_2 {X R : Mem} {n : Nat} {v y : Int32} {x : Int32 × Mem} (zq : ZQ X R n) (ex : f_Top_give v X = some x) (er : f_Mod_canTell v R = some y) : (x.1 = 0 ∧ y = 0 ∧ x.2 = X) ∨ (¬ x.1 = 0 ∧ ¬ y = 0 ∧ x.2 = s_i X 11 8 ((X.1 11 8) ||| ((1 : Int32) <<< (v &&& 31)))) := by
  obtain ⟨n8, jR, ⟨zg, zc, zl⟩, zs, zv, zw⟩ := zq
  have news : X.1 11 8 = R.1 163 93 := zs.2.2.2.2.2.2.1
  unfold f_Top_give at ex
  unfold f_Mod_canTell at er
  rw [show (93 : Int32).toNatClampNeg = 93 from rfl] at er
  obtain ⟨x1, ex1, ex⟩ := bo ex
  obtain ⟨y1, ey1, er⟩ := bo er
  have hx := crowd_has (n := n) (by rw [zc.2.1]; exact zc.1) n8 ex1
  have hy := isOne_i zc.1 n8 ey1
  rcases hx with ⟨a, a1, a2⟩ | ⟨a, a1⟩
  · rcases hy with ⟨b, _⟩ | ⟨_, b⟩
    · rw [a, if_neg (by decide)] at ex
      rw [b, if_neg (by decide)] at er
      obtain ⟨p, hp⟩ := ti_ofn a1
      obtain ⟨y2, ey2, er⟩ := bo er
      have h2 := hasR hp (by omega) ey2
      rw [bt_shr hp (by omega)] at ex
      rw [news] at ex
      cases hb : bt (R.1 163 93) p with
      | true =>
        rw [hb, if_pos rfl, if_neg (by decide)] at ex
        rw [if_neg (fun h => by rw [h2.mp h] at hb; cases hb)] at er
        obtain rfl := Option.some.inj ex
        obtain rfl := Option.some.inj er
        exact .inl ⟨rfl, rfl, rfl⟩
      | false =>
        rw [hb, if_neg (show ¬ (false = true) by decide), if_pos rfl] at ex
        rw [if_pos (h2.mpr hb)] at er
        obtain ⟨M2, e2, ex⟩ := mo ex
        obtain rfl := Option.some.inj ex
        obtain rfl := Option.some.inj er
        exact .inr ⟨by show ¬ (1 : Int32) = 0; decide, by decide, by show M2 = _; rw [e2, news]⟩
    · exact absurd ⟨a1, a2⟩ b
  · rcases hy with ⟨_, b⟩ | ⟨b, _⟩
    · exact absurd b a1
    · rw [a, if_pos rfl] at ex
      rw [b, if_pos rfl] at er
      obtain rfl := Option.some.inj ex
      obtain rfl := Option.some.inj er
      exact .inl ⟨rfl, rfl, rfl⟩
/-- the reference's own scratch changes -/
theorem ZA_13 {X R S : Mem} {n : Nat} (jS : J S) (h : ∀ kx i, ¬ (kx = 162 ∧ (i = 13 ∨ i = 12 ∨ i = 10)) → kx ≠ 168 → kx ≠ 167 → S.1 kx i = R.1 kx i) (za : ZA X R n) : ZA X S n := by
  obtain ⟨⟨n8, jR, zb, zs, zv, zw⟩, zh, zk⟩ := za
  have agr : AgR R S := ⟨h 162 2 (by omega) (by omega) (by omega), h 162 3 (by omega) (by omega) (by omega), h 162 4 (by omega) (by omega) (by omega), h 162 5 (by omega) (by omega) (by omega), h 162 23 (by omega) (by omega) (by omega), fun i => h 164 i (by omega) (by omega) (by omega), fun i => h 165 i (by omega) (by omega) (by omega), fun i => h 166 i (by omega) (by omega) (by omega), fun i => h 172 i (by omega) (by omega) (by omega)⟩
  exact ⟨⟨n8, jS, ZB_a AgX_r agr zb, ZS_c n8 SEq_r (fun i _ => (h 163 i (by omega) (by omega) (by omega)).symm) zs, ZV_a n8 agr (fun i _ => h 163 i (by omega) (by omega) (by omega)) zv, ZW_a AgX_r agr (plk_c (fun i _ _ => h 163 i (by omega) (by omega) (by omega)) zv.2.1.2) zw⟩, ZH_a n8 rfl (fun _ _ _ _ => rfl) (fun _ => rfl) agr (h 162 27 (by omega) (by omega) (by omega)) (fun i => h 173 i (by omega) (by omega) (by omega)) zh, ZK_a n8 rfl (fun _ _ _ _ => rfl) (fun _ => rfl) agr (h 162 48 (by omega) (by omega) (by omega)) (fun i => h 189 i (by omega) (by omega) (by omega)) (fun i => h 190 i (by omega) (by omega) (by omega)) (fun i => h 191 i (by omega) (by omega) (by omega)) zk⟩
theorem KK_13 {R M1 : Mem} {w : Int32} (jR : J R) (kk : KK R) (m1 : M1 = s_i R 162 13 w) : KK M1 := by
  have f : ∀ kx i, ¬ (kx = 162 ∧ i = 13) → M1.1 kx i = R.1 kx i := fun kx i h => by rw [m1, si_ne h]
  exact KK_c jR ⟨⟨f 162 2 (by omega), f 162 3 (by omega), fun i => f 164 i (by omega)⟩, f 162 27 (by omega), f 162 48 (by omega), fun i _ _ => f 163 i (by omega), fun i => f 173 i (by omega), fun i => f 189 i (by omega), fun i => f 190 i (by omega), fun i => f 191 i (by omega)⟩ kk
theorem rem_q {X R R1 : Mem} {n : Nat} (za : ZA X R n) (kk : KK R) (er : f_Mod_remember 163 R = some R1) : ZQ X R1 n ∧ AgR R R1 ∧ (∀ kx i, kx ≠ 173 → ¬ (kx = 162 ∧ i = 27) → R1.1 kx i = R.1 kx i) := by
  obtain ⟨⟨n8, jR, zb, zs, zv, zw⟩, zh, zk⟩ := za
  obtain ⟨hx, m, m12, h1, h2, h3⟩ := zh
  have B := rem_i (v := 163) (by omega) h2 m12 er
  have rf1 : ∀ kx i, kx ≠ 173 → ¬ (kx = 162 ∧ i = 27) → R1.1 kx i = R.1 kx i := by
    by_cases g : m < 12
    · rw [if_pos g] at B; exact B.2.2.2
    · rw [if_neg g] at B; exact B.2.2.2
  have ag1 : AgR R R1 := ⟨rf1 162 2 (by omega) (by omega), rf1 162 3 (by omega) (by omega), rf1 162 4 (by omega) (by omega), rf1 162 5 (by omega) (by omega), rf1 162 23 (by omega) (by omega), fun i => rf1 164 i (by omega) (by omega), fun i => rf1 165 i (by omega) (by omega), fun i => rf1 166 i (by omega) (by omega), fun i => rf1 172 i (by omega) (by omega)⟩
  obtain ⟨j1, _⟩ := some_of (fs_remember 163 jR kk (.inl rfl) (KP_v zv)) er
  have r163 : ∀ i, R1.1 163 i = R.1 163 i := fun i => rf1 163 i (by omega) (by omega)
  exact ⟨⟨n8, j1, ZB_a AgX_r ag1 zb, ZS_c n8 SEq_r (fun i _ => (r163 i).symm) zs, ZV_a n8 ag1 (fun i _ => r163 i) zv, ZW_a AgX_r ag1 (plk_c (fun i _ _ => r163 i) zv.2.1.2) zw⟩, ag1, rf1⟩
theorem give_q {X R : Mem} {n : Nat} {v : Int32} (zq : ZQ X R n) : CS X R n (s_i X 11 8 ((X.1 11 8) ||| ((1 : Int32) <<< (v &&& 31)))) (s_i R 163 93 ((R.1 163 93) ||| ((1 : Int32) <<< (v &&& 31)))) := by
  have news : X.1 11 8 = R.1 163 93 := zq.2.2.2.1.2.2.2.2.2.2.1
  exact ZQ_n zq (Jws93 zq.2.1 (.inl rfl) _) (fun kx i h => si_ne h) rfl (fun kx i h => si_ne h) (by rw [si_eq, si_eq, news])
theorem tell_2 {X R : Mem} {n : Nat} {v : Int32} {x r : Int32 × Mem} (za : ZA X R n) (kk : KK R) (ex : f_Top_tell v X = some x) (er : f_Mod_tell v R = some r) : x.1 = r.1 ∧ ZA x.2 r.2 n := by
  have jR := za.1.2.1
  unfold f_Top_tell at ex
  unfold f_Mod_tell at er
  obtain ⟨X1, ex1, ex⟩ := bo ex
  obtain ⟨x2, ex2, ex⟩ := bo ex
  obtain ⟨M1, m1, er⟩ := mo er
  obtain ⟨y2, ey2, er⟩ := bo er
  have j1 : J M1 := by rw [m1]; exact Jw_fld okf_162_13 jR _
  have zaM : ZA X M1 n := ZA_13 j1 (fun kx i h _ _ => by rw [m1, si_ne (by omega)]) za
  obtain ⟨zq1, agx1, _⟩ := copy_q (.inl rfl) zaM.1 ex1
  rw [show (93 : Int32).toNatClampNeg = 93 from rfl] at er
  rcases give_2 zq1 ex2 ey2 with ⟨a, b, c⟩ | ⟨a, b, c⟩
  · rw [if_pos a] at ex
    rw [if_pos b] at er
    obtain rfl := Option.some.inj ex
    obtain rfl := Option.some.inj er
    refine ⟨rfl, ?_⟩
    show ZA x2.2 M1 n
    rw [c]
    obtain ⟨c1, c2, c3⟩ := copy_i (v0 := 18) (v1 := 11) (by omega) ex1
    exact ZA_x (fun kx i h _ _ => c2 kx i (by omega)) c3 zaM
  · rw [if_neg a] at ex
    rw [if_neg b] at er
    obtain ⟨x3, ex3, ex⟩ := bo ex
    obtain ⟨x4, ex4, ex⟩ := bo ex
    obtain rfl := Option.some.inj ex
    obtain ⟨R1, er1, er⟩ := bo er
    obtain ⟨M4, m4, er⟩ := mo er
    obtain ⟨y5, ey5, er⟩ := bo er
    obtain rfl := Option.some.inj er
    obtain ⟨zq', _, _⟩ := rem_q zaM (KK_13 za.1.2.1 kk m1) er1
    have zq1' : ZQ X1 R1 n := (copy_q (.inl rfl) zq' ex1).1
    have cs := give_q (v := v) zq1'
    rw [← c, ← m4] at cs
    have W := with_hist zaM ex1 er1 cs ex3
    refine ⟨?_, W⟩
    have nw : x3.1 11 8 = M4.1 163 93 := W.1.2.2.2.1.2.2.2.2.2.2.1
    rw [nw] at ex4
    show x4 = y5
    rw [ex4] at ey5
    exact Option.some.inj ey5
