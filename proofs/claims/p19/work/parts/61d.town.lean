/-! the reference: lines one behind another -/
theorem pass_r {B N : Mem} (hB : RB B) (fx : Fx mRt [] B N) {p : Nat} (hp : (N.1 162 17).toInt = (p : Int)) (hw : (N.1 162 18).toInt = -1) {x : Int32 × Mem} (e : f_Mod_passes (47 : Int32) N = some x) : (rt B p = 47 ∧ x.1 = 1 ∧ x.2 = s_i N 162 17 (N.1 162 17 + (1 : Int32))) ∨ (rt B p ≠ 47 ∧ x.1 = 0 ∧ x.2 = N) := by
  unfold f_Mod_passes at e
  obtain ⟨x1, e1, e⟩ := bo e
  rcases fine_i e1 with ⟨_, b⟩ | ⟨a, _⟩
  · exact absurd hw b
  rw [a, if_neg (by decide)] at e
  obtain ⟨x2, e2, e⟩ := bo e
  have z : (47 : Int32).toInt = 47 := rfl
  have h := rt_here hB fx hp e2
  rcases io e with ⟨c, e⟩ | ⟨c, e⟩
  · have := q_eq c
    obtain ⟨M3, e3, e⟩ := mo e
    obtain rfl := Option.some.inj e
    refine .inl ⟨by omega, rfl, e3⟩
  · have := q_ne c
    obtain rfl := Option.some.inj e
    exact .inr ⟨by omega, rfl, rfl⟩
theorem pass_b {N : Mem} (hw : (N.1 162 18).toInt ≠ -1) {v : Int32} {x : Int32 × Mem} (e : f_Mod_passes v N = some x) : x.1 = 0 ∧ x.2 = N := by
  unfold f_Mod_passes at e
  obtain ⟨x1, e1, e⟩ := bo e
  rcases fine_i e1 with ⟨a, _⟩ | ⟨_, b⟩
  · rw [a, if_pos rfl] at e
    obtain rfl := Option.some.inj e
    exact ⟨rfl, rfl⟩
  · exact absurd b hw
theorem Bad_w {t : Nat → Int} {N : Mem} (h : Bad t N) : (N.1 162 18).toInt ≠ -1 := by
  obtain ⟨p, a, _⟩ := h
  omega
/-- a line has been read, and no '/' is behind it -/
def RE (B : Mem) (v1 v2 : Int32) (N : Mem) : Prop := (N.1 162 18).toInt = -1 ∧ ∃ p W Y : Nat, (N.1 162 17).toInt = (p : Int) ∧ tup (rt B) p ∧ tkd (rt B) (N.1 169) p ∧ v1.toInt = (W : Int) ∧ v2.toInt = ((Y + 1 : Nat) : Int) ∧ Y < 6 ∧ 0 < W ∧ W ≤ 6 ∧ trun (rt B) p = (W * Y + W, W, Y, if Y = 0 then 6 else W) ∧ tk (rt B p) = -1 ∧ rt B p ≠ 47
def RJ (B : Mem) (s : Int32 × Int32 × Int32 × Mem) : Prop := Fx mRt [] B s.2.2.2 ∧ (Bad (rt B) s.2.2.2 ∨ (s.2.2.1 = 0 ∧ RE B s.1 s.2.1 s.2.2.2) ∨ (¬ s.2.2.1 = 0 ∧ ∃ W Y : Nat, s.1.toInt = (W : Int) ∧ s.2.1.toInt = (Y : Int) ∧ W ≤ 6 ∧ Y ≤ 6 ∧ RI1 B W Y 0 s.2.2.2))
def RZ (B : Mem) (s : Int32 × Int32 × Mem) : Prop := Fx mRt [] B s.2.2 ∧ (Bad (rt B) s.2.2 ∨ RE B s.1 s.2.1 s.2.2)
theorem lnn_166 {B N : Mem} {v1 v2 : Int32} {W Y p : Nat} (hB : RB B) (fx : Fx mRt [] B N) (hv1 : v1.toInt = (W : Int)) (hv2 : v2.toInt = (Y : Int)) (y6 : Y < 6) (w0 : 0 < W) (w6 : W ≤ 6) (hw : (N.1 162 18).toInt = -1) (hp : (N.1 162 17).toInt = (p : Int)) (up : tup (rt B) p) (kk : tkd (rt B) (N.1 169) p) (hr : trun (rt B) p = (W * Y + W, W, Y, if Y = 0 then 6 else W)) (hk : tk (rt B p) = -1) {r} (e : j_Mod_town_166_30 v1 v2 N = some r) : Sum.elim (RJ B) (RZ B) r := by
  have fr := wj_Mod_town_166_30 v1 v2 N (by decide +kernel) fx e
  unfold j_Mod_town_166_30 at e
  obtain ⟨x, e1, e⟩ := bo e
  obtain rfl := Option.some.inj e
  have hv3 : (v2 + (1 : Int32)).toInt = ((Y + 1 : Nat) : Int) := add_ti hv2 o1 (by omega) (by omega)
  have fr : Fx mRt [] B x.2 := fr
  rcases pass_r hB fx hp hw e1 with ⟨a, b, c⟩ | ⟨a, b, c⟩
  · refine ⟨fr, .inr (.inr ⟨?_, W, Y + 1, hv1, hv3, w6, by omega, ?_, ?_⟩)⟩
    · show ¬ x.1 = 0
      rw [b]; decide
    · show (x.2.1 162 18).toInt = -1
      rw [c, si_ne (by omega)]; exact hw
    · have ok : tok (rt B p) (trun (rt B) p) := by
        rw [hr]
        refine ⟨y6, fun _ => ?_, fun h => absurd (.inl a) h⟩
        dsimp only
        split <;> omega
      have lp := rt_len up hB
      refine ⟨p + 1, ?_, tup_s up ok (by omega), ?_, ?_⟩
      · show (x.2.1 162 17).toInt = _
        rw [c, si_eq]
        exact add_ti hp o1 (by omega) (by omega)
      · intro q hq q47
        show (x.2.1 169 _).toInt = _
        rw [c, si_ne (by omega)]
        rcases Nat.lt_or_ge q p with g | g
        · exact kk q g q47
        · have : q = p := by omega
          subst this
          exact absurd a q47
      · simp only [trun, tst, if_pos (Or.inl a : rt B p = 47 ∨ rt B p = -1), hr]
        unfold wd
        rw [if_neg (by omega), Nat.mul_add, Nat.mul_one]; rfl
  · refine ⟨fr, .inr (.inl ⟨b, ?_⟩)⟩
    show RE B v1 (v2 + (1 : Int32)) x.2
    rw [c]
    exact ⟨hw, p, W, Y, hp, up, kk, hv1, hv3, y6, w0, w6, hr, hk, a⟩
theorem lnn_166b {B N : Mem} {v1 v2 : Int32} (fx : Fx mRt [] B N) (bad : Bad (rt B) N) {r} (e : j_Mod_town_166_30 v1 v2 N = some r) : Sum.elim (RJ B) (RZ B) r := by
  unfold j_Mod_town_166_30 at e
  obtain ⟨x, e1, e⟩ := bo e
  obtain rfl := Option.some.inj e
  have := pass_b (Bad_w bad) e1
  refine ⟨?_, .inl ?_⟩
  · show Fx mRt [] B x.2
    rw [this.2]; exact fx
  · show Bad (rt B) x.2
    rw [this.2]; exact bad
theorem lnn_159b {B N : Mem} {v1 v2 v4 : Int32} (fx : Fx mRt [] B N) (bad : Bad (rt B) N) {r} (e : j_Mod_town_159_30 v1 v2 v4 N = some r) : Sum.elim (RJ B) (RZ B) r := by
  unfold j_Mod_town_159_30 at e
  rcases io e with ⟨_, e⟩ | ⟨_, e⟩
  · exact lnn_166b fx bad e
  · exact lnn_166b fx bad e
theorem lnn_151b {B N : Mem} {v1 v2 v4 : Int32} (fx : Fx mRt [] B N) (bad : ∀ r, f_Mod_fault (N.1 162 17) N = some r → Bad (rt B) r) {r} (e : j_Mod_town_151_30 v1 v2 v4 N = some r) : Sum.elim (RJ B) (RZ B) r := by
  unfold j_Mod_town_151_30 at e
  obtain ⟨x, e1, e⟩ := bo e
  exact lnn_159b (wf_Mod_fault _ _ (by decide +kernel) fx e1) (bad x e1) e
/-- behind the inner loop -/
theorem lnn_136 {B N : Mem} {v1 v2 v4 : Int32} {W Y : Nat} (hB : RB B) (fx : Fx mRt [] B N) (hv1 : v1.toInt = (W : Int)) (hv2 : v2.toInt = (Y : Int)) (hW : W ≤ 6) (h : (∃ n : Nat, v4.toInt = (n : Int) ∧ n ≤ wd W Y ∧ RI1 B W Y n N ∧ Y < 6 ∧ ∀ p : Nat, (N.1 162 17).toInt = (p : Int) → tk (rt B p) = -1) ∨ Bad (rt B) N) {r} (e : j_Mod_town_136_30 v1 v2 v4 N = some r) : Sum.elim (RJ B) (RZ B) r := by
  have z0 : (0 : Int32).toInt = 0 := rfl
  rcases h with ⟨n, hn, ln, ⟨hw, p, hp, up, kk, hr⟩, y6, hk⟩ | bad
  · have hk := hk p hp
    have tb := trun_b up
    have t1 : (trun (rt B) p).1 = W * Y + n := by rw [hr]
    have t2 : (trun (rt B) p).2.1 = n := by rw [hr]
    have t3 : (trun (rt B) p).2.2.1 = Y := by rw [hr]
    have t4 : (trun (rt B) p).2.2.2 = wd W Y := by rw [hr]
    have less : (n = 0 ∨ (0 < Y ∧ n < W)) → ∀ r, f_Mod_fault (N.1 162 17) N = some r → Bad (rt B) r := by
      intro hh r e
      refine Bad_new hp e hw up (fun ok => ?_)
      by_cases c : rt B p = 47 ∨ rt B p = -1
      · have k := ok.2.1 c
        rw [t3, t4, t2] at k
        rcases Nat.eq_zero_or_pos Y with y | y
        · rw [if_pos y] at k; omega
        · rw [if_neg (by omega)] at k
          have := (tb.2.2.2.2.2 (by omega)).2
          have : wd W Y = W := by unfold wd; rw [if_neg (by omega)]
          omega
      · exact (ok.2.2 c).1 hk
    have full : ∀ {w1 : Int32}, ¬ n = 0 → w1.toInt = (n : Int) → (Y = 0 ∨ W = n) → j_Mod_town_166_30 w1 v2 N = some r → Sum.elim (RJ B) (RZ B) r := by
      intro w1 n0 hw1 hh e
      have hn6 : n ≤ 6 := by unfold wd at ln; split at ln <;> omega
      refine lnn_166 (W := n) (Y := Y) hB fx hw1 hv2 y6 (by omega) hn6 hw hp up kk ?_ hk e
      rw [hr]
      unfold wd
      rcases Nat.eq_zero_or_pos Y with y | y
      · subst y; simp
      · have : W = n := by omega
        subst this
        rfl
    unfold j_Mod_town_136_30 at e
    rcases io e with ⟨c, e⟩ | ⟨c, e⟩
    · exact lnn_151b fx (less (.inl (by have := q_eq c; omega))) e
    have n0 : ¬ n = 0 := by have := q_ne c; omega
    rcases io e with ⟨c, e⟩ | ⟨c, e⟩
    · have y0 : Y = 0 := by have := q_le c; omega
      unfold j_Mod_town_159_30 at e
      rcases io e with ⟨_, e⟩ | ⟨c, e⟩
      · exact full n0 hn (.inl y0) e
      · have := q_ne c; omega
    have y0 : 0 < Y := by have := q_ng c; omega
    have w1 : wd W Y = W := by unfold wd; rw [if_neg (by omega)]
    rcases io e with ⟨c, e⟩ | ⟨c, e⟩
    · have := q_le c
      unfold j_Mod_town_159_30 at e
      rcases io e with ⟨c, e⟩ | ⟨c, e⟩
      · have := q_eq c; omega
      · exact full n0 (by omega) (.inr (by omega)) e
    · have := q_ng c
      exact lnn_151b fx (less (.inr ⟨y0, by omega⟩)) e
  · unfold j_Mod_town_136_30 at e
    rcases io e with ⟨_, e⟩ | ⟨_, e⟩
    · exact lnn_151b fx (fun r e => Bad_fault e bad) e
    rcases io e with ⟨_, e⟩ | ⟨_, e⟩
    · exact lnn_159b fx bad e
    rcases io e with ⟨_, e⟩ | ⟨_, e⟩
    · exact lnn_159b fx bad e
    · exact lnn_151b fx (fun r e => Bad_fault e bad) e
theorem rd_r30 {B : Mem} (hB : RB B) (h17 : (B.1 162 17).toInt = 0) (h18 : (B.1 162 18).toInt = -1) {x} (e : iter lb_Mod_town_30 FU ((0 : Int32), (0 : Int32), (1 : Int32), B) = some x) : RZ B x := by
  refine it_r (I := RJ B) (Q := RZ B) ?_ e ⟨Fx_r, .inr (.inr ⟨(by show ¬ (1 : Int32) = 0; decide), 0, 0, rfl, rfl, by omega, by omega, h18, 0, h17, (fun q hq => absurd hq (by omega)), (fun q hq => absurd hq (by omega)), rfl⟩)⟩
  rintro ⟨w, y, m, N⟩ r ⟨fx, h⟩ e
  dsimp only at fx h
  unfold lb_Mod_town_30 at e
  dsimp only at e
  rcases io e with ⟨c, e⟩ | ⟨c, e⟩
  · obtain rfl := Option.some.inj e
    refine ⟨fx, ?_⟩
    rcases h with h | h | h
    · exact .inl h
    · exact .inr h.2
    · exact absurd c h.1
  obtain ⟨x4, e4, e⟩ := bo e
  rcases io e with ⟨c4, e⟩ | ⟨c4, e⟩
  · obtain rfl := Option.some.inj e
    refine ⟨fx, ?_⟩
    rcases h with h | h | h
    · exact .inl h
    · exact .inr h.2
    · obtain ⟨_, W, Y, _, _, _, _, hw, _⟩ := h
      rcases fine_i e4 with ⟨_, b⟩ | ⟨a, _⟩
      · exact absurd hw b
      · rw [a] at c4; cases c4
  rcases h with h | h | ⟨_, W, Y, hw, hy, lw, ly, hI⟩
  · rcases fine_i e4 with ⟨a, _⟩ | ⟨_, b⟩
    · exact absurd a c4
    · exact absurd b (Bad_w h)
  · exact absurd h.1 c
  have z6 : (6 : Int32).toInt = 6 := rfl
  rcases io e with ⟨c6, e⟩ | ⟨c6, e⟩
  · obtain ⟨x24, e24, e⟩ := bo e
    obtain ⟨x25, e25, e⟩ := bo e
    have y6 : Y = 6 := by have := q_eq c6; omega
    obtain ⟨hw1, p, hp, up, kk, hr⟩ := hI
    have bad : Bad (rt B) x24 := Bad_new hp e24 hw1 up (fun ok => by have := ok.1; rw [hr] at this; dsimp only at this; omega)
    have fx24 : Fx mRt [] B x24 := wf_Mod_fault _ _ (by decide +kernel) fx e24
    obtain ⟨g1, g2⟩ := rd_r58 hB hw hy lw ly (.inr bad) fx24 (.inr bad) e25
    exact lnn_136 hB g1 hw hy lw g2 e
  · obtain ⟨x17, e17, e⟩ := bo e
    have y6 : Y < 6 := by have := q_ne c6; omega
    obtain ⟨g1, g2⟩ := rd_r58 hB hw hy lw ly (.inl y6) fx (.inl hI) e17
    exact lnn_136 hB g1 hw hy lw g2 e
