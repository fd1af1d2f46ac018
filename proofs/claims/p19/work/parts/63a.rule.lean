/-! THE RULE: a machine that both sides follow -/
def rk (s : Int32) : Nat := if s = 42 then 4 else if s = 47 then 4 else if s = 43 then 3 else if s = 45 then 3 else if s = 60 then 2 else if s = 61 then 2 else if s = 62 then 2 else if s = 256 then 5 else 0
def isq (s : Int32) : Bool := s == 105 || s == 107 || s == 109 || s == 110 || s == 115 || s == 119 || s == 120 || s == 121
/-- what waits and binds at least so tightly comes out (both rows: the newest first) -/
def stl (k : Nat) : List Int32 → List Int32 → List Int32 × List Int32
  | o, [] => (o, [])
  | o, s :: w => if s = 40 ∨ rk s < k then (o, s :: w) else stl k (-s :: o) w
def tp (k : Nat) : List Int32 → Prop
  | [] => True
  | s :: _ => s = 40 ∨ rk s < k
theorem stl_id {k : Nat} {o w : List Int32} (h : tp k w) : stl k o w = (o, w) := by
  cases w with
  | nil => rfl
  | cons s w => unfold stl; rw [if_pos (show s = 40 ∨ rk s < k from h)]
theorem stl_tp (k : Nat) (o w : List Int32) : tp k (stl k o w).2 := by
  induction w generalizing o with
  | nil => trivial
  | cons s w ih =>
    unfold stl
    by_cases c : s = 40 ∨ rk s < k
    · rw [if_pos c]; exact c
    · rw [if_neg c]; exact ih _
theorem stl_stl {j k : Nat} (h : j ≤ k) (o w : List Int32) : stl j (stl k o w).1 (stl k o w).2 = stl j o w := by
  induction w generalizing o with
  | nil => rfl
  | cons s w ih =>
    by_cases c : s = 40 ∨ rk s < k
    · rw [show stl k o (s :: w) = (o, s :: w) by rw [stl, if_pos c]]
    · rw [show stl k o (s :: w) = stl k (-s :: o) w by rw [stl, if_neg c], ih, show stl j o (s :: w) = stl j (-s :: o) w by rw [stl, if_neg (fun h => c (h.elim .inl (fun g => .inr (by omega))))]]
theorem stl_len (k : Nat) (o w : List Int32) : (stl k o w).1.length + (stl k o w).2.length = o.length + w.length ∧ (stl k o w).2.length ≤ w.length := by
  induction w generalizing o with
  | nil => exact ⟨rfl, Nat.le_refl _⟩
  | cons s w ih =>
    unfold stl
    by_cases c : s = 40 ∨ rk s < k
    · rw [if_pos c]; exact ⟨rfl, Nat.le_refl _⟩
    · rw [if_neg c]
      have := ih (-s :: o)
      simp only [List.length_cons] at this ⊢
      omega
theorem stl_cnt (k : Nat) (o w : List Int32) : (stl k o w).2.count 40 = w.count 40 := by
  induction w generalizing o with
  | nil => rfl
  | cons s w ih =>
    unfold stl
    by_cases c : s = 40 ∨ rk s < k
    · rw [if_pos c]
    · rw [if_neg c, ih, List.count_cons_of_ne (by intro h; exact c (.inl h))]
theorem stl_all {P : Int32 → Prop} (k : Nat) (o w : List Int32) (h : ∀ s, s ∈ w → P s) : ∀ s, s ∈ (stl k o w).2 → P s := by
  induction w generalizing o with
  | nil => exact h
  | cons s w ih =>
    unfold stl
    by_cases c : s = 40 ∨ rk s < k
    · rw [if_pos c]; exact h
    · rw [if_neg c]; exact ih _ (fun x hx => h x (List.mem_cons_of_mem _ hx))
/-- digits from a place on -/
def dgn (t : Nat → Int) : Nat → Nat → Nat
  | 0, _ => 0
  | k + 1, p => if 48 ≤ t p ∧ t p ≤ 57 then dgn t k (p + 1) + 1 else 0
def dgv (t : Nat → Int) : Nat → Nat → Int → Int
  | 0, _, v => v
  | k + 1, p, v => if 48 ≤ t p ∧ t p ≤ 57 then dgv t k (p + 1) (10 * v + t p - 48) else v
abbrev MS := Nat × (List Int32 × List Int32) × Nat × (Nat → Bool) × Bool
def up (f : Nat → Bool) (d : Nat) (b : Bool) (i : Nat) : Bool := if i = d then b else f i
def sg (t : Nat → Int) (p : Nat) : Int32 := Int32.ofInt (t p)
def rdT (t : Nat → Int) (p : Nat) (z : List Int32 × List Int32) (d : Nat) (c : Nat → Bool) : Option MS :=
  if t p = 45 then some (p + 1, (z.1, 256 :: z.2), d, c, false)
  else if t p = 40 ∧ d < 4 then some (p + 1, (z.1, 40 :: z.2), d + 1, up c (d + 1) false, false)
  else if 0 < dgn t 3 p then some (p + dgn t 3 p, (Int32.ofInt (dgv t 3 p 0) :: z.1, z.2), d, c, true)
  else if isq (sg t p) = true then some (p + 1, (-(sg t p) :: z.1, z.2), d, c, true)
  else none
def rdB (t : Nat → Int) (p : Nat) (z : List Int32 × List Int32) (d : Nat) (c : Nat → Bool) : Option MS :=
  if t p = 41 ∧ 0 < d then some (p + 1, ((stl 1 z.1 z.2).1, (stl 1 z.1 z.2).2.tail), d - 1, c, true)
  else if rk (sg t p) = 0 ∨ (rk (sg t p) = 2 ∧ c d = true) then none
  else some (p + 1, ((stl (rk (sg t p)) z.1 z.2).1, sg t p :: (stl (rk (sg t p)) z.1 z.2).2), d, (if rk (sg t p) = 2 then up c d true else c), false)
def rdS (t : Nat → Int) (S : MS) : Option MS :=
  if t S.1 = -1 then none else if S.2.2.2.2 = true then rdB t S.1 S.2.1 S.2.2.1 S.2.2.2.1 else rdT t S.1 S.2.1 S.2.2.1 S.2.2.2.1
def rit (t : Nat → Int) : Nat → MS → Option MS
  | 0, S => some S
  | k + 1, S => Option.bind (rdS t S) (rit t k)
def Rch (t : Nat → Int) (S S' : MS) : Prop := ∃ k, rit t k S = some S'
theorem Rch_r {t : Nat → Int} {S : MS} : Rch t S S := ⟨0, rfl⟩
theorem Rch_s {t : Nat → Int} {S S1 S' : MS} (h : rdS t S = some S1) (g : Rch t S1 S') : Rch t S S' := by
  obtain ⟨k, g⟩ := g
  exact ⟨k + 1, by unfold rit; rw [h]; exact g⟩
theorem Rch_t {t : Nat → Int} {S S1 S' : MS} (h : Rch t S S1) (g : Rch t S1 S') : Rch t S S' := by
  obtain ⟨k, h⟩ := h
  induction k generalizing S with
  | zero => obtain rfl := Option.some.inj h; exact g
  | succ k ih =>
    unfold rit at h
    obtain ⟨S2, e, h⟩ := bo h
    exact Rch_s e (ih h)
/-- where it can't go on is one place -/
theorem Rch_u {t : Nat → Int} {S A B : MS} (h : Rch t S A) (g : Rch t S B) (ha : rdS t A = none) (hb : rdS t B = none) : A = B := by
  obtain ⟨k, h⟩ := h
  induction k generalizing S with
  | zero =>
    obtain rfl := Option.some.inj h
    obtain ⟨m, g⟩ := g
    cases m with
    | zero => exact Option.some.inj g
    | succ m => unfold rit at g; rw [ha] at g; cases g
  | succ k ih =>
    unfold rit at h
    obtain ⟨S2, e, h⟩ := bo h
    obtain ⟨m, g⟩ := g
    cases m with
    | zero => obtain rfl := Option.some.inj g; rw [hb] at e; cases e
    | succ m =>
      unfold rit at g
      rw [e] at g
      exact ih ⟨m, g⟩ h
/-- what a part does to the values -/
def pp (st : List Int32) : Int32 × List Int32 := match st with
  | [] => (0, [])
  | x :: s => (x, s)
def jn (l s r : Int32) : Int32 := if s = 42 then l * r else if s = 43 then l + r else if s = 45 then l - r else if s = 47 then (if r = 0 then 0 else l / r) else if s = 60 then (if r ≤ l then 0 else 1) else if s = 61 then (if l = r then 1 else 0) else if s = 62 then (if l ≤ r then 0 else 1) else 0
def opx (env : Int32 → Int32) (c : Int32) (st : List Int32) : List Int32 :=
  if c < 0 then
    if isq (-c) = true then env (-c) :: st
    else if -c = 256 then -(pp st).1 :: (pp st).2
    else jn (pp (pp st).2).1 (-c) (pp st).1 :: (pp (pp st).2).2
  else c :: st
def rv (env : Int32 → Int32) : List Int32 → List Int32 → List Int32
  | [], st => st
  | c :: r, st => opx env c (rv env r st)
theorem rv_app (env : Int32 → Int32) (a b st : List Int32) : rv env (a ++ b) st = rv env a (rv env b st) := by
  induction a with
  | nil => rfl
  | cons c a ih => show opx env c (rv env (a ++ b) st) = _; rw [ih]; rfl
