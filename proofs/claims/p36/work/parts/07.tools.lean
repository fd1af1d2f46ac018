/-! the pure side's words: loops, bounds, memory named; and rows that use them -/
def FU : Nat := 1000000000
def iter {S X : Type} (f : S → Option (S ⊕ X)) : Nat → S → Option X
  | 0, _ => none
  | n + 1, s => match f s with
    | none => none
    | some (.inl s') => iter f n s'
    | some (.inr x) => some x
theorem iter_P {S X : Type} {f : S → Option (S ⊕ X)} {P : S → Prop} {x : X} (hb : ∀ s o, f s = some o → (∀ s', o = .inl s' → P s') → (∀ y, o = .inr y → y = x) → P s) : ∀ (n : Nat) (s : S), iter f n s = some x → P s := by
  intro n
  induction n with
  | zero => intro s h; cases h
  | succ n ih =>
    intro s h
    unfold iter at h
    cases ho : f s with
    | none => rw [ho] at h; cases h
    | some o =>
      rw [ho] at h
      cases o with
      | inl s' => exact hb s _ ho (fun s'' e => by cases e; exact ih s' h) (fun y e => by cases e)
      | inr y => exact hb s _ ho (fun s'' e => by cases e) (fun y' e => by cases e; exact Option.some.inj h)
def mem_ {α β : Type} (e : α) (f : α → Option β) : Option β := f e
theorem memS {α β : Type} {e : α} {f : α → Option β} {o : β} (h : mem_ e f = some o) : ∃ m, m = e ∧ f m = some o := ⟨e, rfl, h⟩
theorem ob_s {α β : Type} {e : Option α} {f : α → Option β} {o : β} (h : Option.bind e f = some o) : ∃ a, e = some a ∧ f a = some o := by
  cases e with
  | none => cases h
  | some a => exact ⟨a, rfl, h⟩
theorem ifn {c : Prop} [Decidable c] {β : Type} {a : Option β} {o : β} (h : (if c then a else none) = some o) : c ∧ a = some o := by
  by_cases hc : c
  · rw [if_pos hc] at h; exact ⟨hc, h⟩
  · rw [if_neg hc] at h; cases h
theorem ifz {c : Prop} [Decidable c] {β : Type} {a : Option β} {o : β} (h : (if c then none else a) = some o) : ¬ c ∧ a = some o := by
  by_cases hc : c
  · rw [if_pos hc] at h; cases h
  · rw [if_neg hc] at h; exact ⟨hc, h⟩
def inb (i : Int32) (n : Nat) : Bool := !(decide (i < 0) || decide (n ≤ i.toNatClampNeg))
theorem inb_in {k n : Nat} {i : Int32} (h : ln k = n) (hb : inb i n = true) : vp_in i (ln k) := by
  rw [h]
  intro hc
  rcases hc with hc | hc <;> simp [inb, hc] at hb
theorem neT {x v : Int32} {z : Int} (h : ¬ x = v) (hv : v.toInt = z) : x.toInt ≠ z := fun e => h (Int32.toInt_inj.mp (e.trans hv.symm))
section VT
variable {E : Ev} {cs : Nat × Nat} {G : Gw} {cc : ByteArray} {own : String} {nL d : Nat} {ret : Option FieldType} {Q : State → Prop} {M : Mem} {pc pc' : Nat} {lv lv' : List (Nat × Value)} {st : List Value}
theorem V_tbl {dflt lo hi : Int} {offs : Array Int} {len : Nat} {x v : Int32} {off : Int} (X : Cx E G cc own nL d ret) (hd : decode cc pc = .ok (.tableswitch dflt lo hi offs, len)) (hx : x = v) (h1 : ¬ v.toInt < lo) (h2 : ¬ hi < v.toInt) (ho : offs[(v.toInt - lo).toNat]? = some off) (ht : (pc : Int) + off = (pc' : Int)) (k : V E cs G nL Q M pc' lv st) : V E cs G nL Q M pc lv (.int x :: st) := by
  subst hx
  exact V_tableIn X hd h1 h2 ho ht k
theorem V_lku {dflt : Int} {ps : Array (Int × Int)} {len : Nat} {x v : Int32} {off : Int} (X : Cx E G cc own nL d ret) (hd : decode cc pc = .ok (.lookupswitch dflt ps, len)) (hx : x = v) (hq : (ps.toList.zip (ps.toList.drop 1)).all (fun (a, next) => a.1 < next.1) = true) (ho : Op.lookupswitch.offset ps.toList dflt v.toInt = off) (ht : (pc : Int) + off = (pc' : Int)) (k : V E cs G nL Q M pc' lv st) : V E cs G nL Q M pc lv (.int x :: st) := by
  subst hx
  exact V_lookup X hd hq ho ht k
theorem V_getn {k c j idx n : Nat} (X : Cx E G cc own nL d ret) (hF : fOk own idx c j) (hk : kd k = 10 + c) (hf : fc c j = 3) (hq : M.2.2 k j = some n) (hd : decode cc pc = .ok (.getfield idx, 3)) (hp : pc + 3 = pc') (kk : V E cs G nL Q M pc' lv (.ref (G.2.2 + n) :: st)) : V E cs G nL Q M pc lv (.ref (G.2.2 + k) :: st) := V_get X hF hk (by simp [fv, hf, hq, va_rf]) hd hp kk
theorem V_getN {k c j idx : Nat} (X : Cx E G cc own nL d ret) (hF : fOk own idx c j) (hk : kd k = 10 + c) (hf : fc c j = 3) (hq : M.2.2 k j = none) (hd : decode cc pc = .ok (.getfield idx, 3)) (hp : pc + 3 = pc') (kk : V E cs G nL Q M pc' lv (.null :: st)) : V E cs G nL Q M pc lv (.ref (G.2.2 + k) :: st) := V_get X hF hk (by simp [fv, hf, hq, va_rf]) hd hp kk
theorem V_aaldn {k n : Nat} {i : Int32} (X : Cx E G cc own nL d ret) (hk : kd k = 5) (hi : vp_in i (ln k)) (hq : M.2.2 k i.toNatClampNeg = some n) (hd : decode cc pc = .ok (.aaload, 1)) (hp : pc + 1 = pc') (kk : V E cs G nL Q M pc' lv (.ref (G.2.2 + n) :: st)) : V E cs G nL Q M pc lv (.int i :: .ref (G.2.2 + k) :: st) := V_aald X hk hi hd hp (by rw [hq]; exact kk)
end VT
