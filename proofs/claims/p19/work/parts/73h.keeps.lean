/-! what both sides keep, though the rule be told anew -/
def CX (kx i : Nat) : Prop := (kx = 3 ∧ (i = 2 ∨ i = 3)) ∨ kx = 4 ∨ (kx = 6 ∧ (i = 4 ∨ i = 5)) ∨ kx = 7 ∨ kx = 8 ∨ (11 ≤ kx ∧ kx < 18) ∨ kx = 35 ∨ (kx = 46 ∧ (i = 2 ∨ i = 3)) ∨ (49 ≤ kx ∧ kx < 147)
def CR (kx i : Nat) : Prop := (kx = 162 ∧ (i = 2 ∨ i = 3 ∨ i = 4 ∨ i = 5 ∨ i = 27 ∨ i = 48)) ∨ kx = 163 ∨ kx = 164 ∨ kx = 165 ∨ kx = 166 ∨ kx = 173 ∨ kx = 189 ∨ kx = 190 ∨ kx = 191
theorem ZA_y {X Y R S : Mem} {n : Nat} (za : ZA X R n) (jS : J S) (zl : ZL Y S) (fx : ∀ kx i, CX kx i → Y.1 kx i = X.1 kx i) (f33 : ∀ i, Y.2.1 33 i = X.2.1 33 i) (f34 : ∀ i, Y.2.1 34 i = X.2.1 34 i) (f47 : ∀ i, Y.2.2 47 i = X.2.2 47 i) (f48 : ∀ i, Y.2.2 48 i = X.2.2 48 i) (fr : ∀ kx i, CR kx i → S.1 kx i = R.1 kx i) : ZA Y S n := by
  unfold CX at fx
  unfold CR at fr
  let Y0 : Mem := (fun kx i => if kx = 40 ∧ i = 4 then X.1 40 4 else if kx = 41 then X.1 41 i else Y.1 kx i, Y.2)
  let S0 : Mem := (fun kx i => if kx = 162 ∧ i = 23 then R.1 162 23 else if kx = 172 then R.1 172 i else S.1 kx i, S.2)
  have agx : AgX X Y0 := ⟨fx 3 2 (by omega), fx 3 3 (by omega), fun i => fx 4 i (by omega), fx 6 4 (by omega), fx 6 5 (by omega), fun i => fx 7 i (by omega), fun i => fx 8 i (by omega), rfl, fun i => rfl, fun i => fx 35 i (by omega), f33, f34⟩
  have agr : AgR R S0 := ⟨fr 162 2 (by omega), fr 162 3 (by omega), fr 162 4 (by omega), fr 162 5 (by omega), rfl, fun i => fr 164 i (by omega), fun i => fr 165 i (by omega), fun i => fr 166 i (by omega), fun i => rfl⟩
  obtain ⟨⟨n8, jR, zb, zs, zv, zw⟩, zh, zk⟩ := za
  have zb0 := ZB_a agx agr zb
  have g : ZG Y S := zb0.1
  have c : ZC Y S n := zb0.2.1
  have v : ZV S (S.1 163) n := ZV_a (S := S0) n8 agr (fun i _ => fr 163 i (by omega)) zv
  have w : ZW Y S 163 := by
    have w1 : xw S = xw R := congrArg Int32.toInt (fr 162 2 (by omega))
    have w2 : xh S = xh R := congrArg Int32.toInt (fr 162 3 (by omega))
    have on : onA S = onA R := by funext l d; exact propext (by unfold onA; rw [onN_c ⟨fr 162 2 (by omega), fr 162 3 (by omega), fun i => fr 164 i (by omega)⟩])
    have pk : (fun c d => plk S 163 c d) = (fun c d => plk R 163 c d) := by funext c d; exact propext (plk_c (fun i _ _ => fr 163 i (by omega)) zv.2.1.2 c d)
    obtain ⟨h1, h2, h3⟩ := zw
    unfold ZW ZX NXT NRD LKn lk
    rw [on, pk, w1, w2]
    refine ⟨fun l d hl => ?_, fun l c s hl hc hs => ?_, fun l c hl hc => ?_⟩
    · rw [f33]; exact h1 l d hl
    · rw [fx 35 _ (by omega)]; exact h2 l c s hl hc hs
    · rw [f34]; exact h3 l c hl hc
  have h : ZH Y S n := ZH_a (Y := Y) (S := S0) n8 (fx 46 2 (by omega)) (fun kx i a b => fx kx i (by omega)) f47 agr (fr 162 27 (by omega)) (fun i => fr 173 i (by omega)) zh
  have k : ZK Y S n := ZK_a (Y := Y) (S := S0) n8 (fx 46 3 (by omega)) (fun kx i a b => fx kx i (by omega)) f48 agr (fr 162 48 (by omega)) (fun i => fr 189 i (by omega)) (fun i => fr 190 i (by omega)) (fun i => fr 191 i (by omega)) zk
  exact ⟨⟨n8, jS, ⟨g, c, zl⟩, ZS_c n8 (scn_f (fun kx i a b => fx kx i (by omega))) (fun i _ => (fr 163 i (by omega)).symm) zs, v, w⟩, h, k⟩
