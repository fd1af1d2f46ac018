/-! decoding by opcode: how an instruction reads when its bytes are these -/
def byq (c : ByteArray) (p v : Nat) : Bool := match c.data.toList[p]? with
  | some b => Nat.beq b.toNat v
  | none => false
theorem byq_i {c : ByteArray} {p v : Nat} (h : byq c p v = true) : ∃ hp : p < c.size, (c[p]'hp).toNat = v := by
  unfold byq at h
  cases g : c.data.toList[p]? with
  | none => rw [g] at h; cases h
  | some b =>
    rw [g] at h
    have e : b.toNat = v := Nat.eq_of_beq_eq_true h
    obtain ⟨hp, hb⟩ := List.getElem?_eq_some_iff.mp g
    exact ⟨hp, by rw [← e, ← hb]; rfl⟩
theorem u1_q {c : ByteArray} {p v : Nat} (h : byq c p v = true) : (Reader.u1 : Decoder Nat) c p = .ok (v, p + 1) := by
  obtain ⟨hp, e⟩ := byq_i h
  have k : (Reader.u1 : Decoder Nat) c p = (if h : p < c.size then (do set (p + 1); pure (c[p]'h).toNat : Decoder Nat) else throw (HasTruncated.truncated p)) c p := rfl
  rw [k, dif_pos hp, ← e]; rfl
theorem b_q {α β : Type} {m : Decoder α} {f : α → Decoder β} {c : ByteArray} {p s : Nat} {v : α} (h : m c p = .ok (v, s)) : (m >>= f) c p = f v c s := by
  show Except.bind (m c p) _ = _
  rw [h]; rfl
theorem m_q {α β : Type} {m : Decoder α} {f : α → β} {c : ByteArray} {p s : Nat} {v : α} (h : m c p = .ok (v, s)) : (f <$> m : Decoder β) c p = .ok (f v, s) := by
  show Except.bind (m c p) _ = _
  rw [h]; rfl
theorem s1_q {c : ByteArray} {p b : Nat} (h : byq c p b = true) : (Reader.s1 : Decoder Int) c p = .ok (Reader.signed 8 b, p + 1) := m_q (u1_q h)
theorem u2_q {c : ByteArray} {p a b : Nat} (h1 : byq c p a = true) (h2 : byq c (p + 1) b = true) : (Reader.u2 : Decoder Nat) c p = .ok (a * 256 + b, p + 2) := by
  unfold Reader.u2
  rw [b_q (u1_q h1), b_q (u1_q h2)]; rfl
theorem s2_q {c : ByteArray} {p a b : Nat} (h1 : byq c p a = true) (h2 : byq c (p + 1) b = true) : (Reader.s2 : Decoder Int) c p = .ok (Reader.signed 16 (a * 256 + b), p + 2) := m_q (u2_q h1 h2)
theorem de_q {c : ByteArray} {pc s : Nat} {i : Instr} (h : Decoder.instr pc c pc = .ok (i, s)) : decode c pc = .ok (i, s - pc) := by
  show Except.bind (Decoder.instr pc c pc) _ = _
  rw [h]; rfl
theorem byq_r {c : ByteArray} : ∀ p v, byq c p v = true → byq c p v = true := fun _ _ h => h
theorem an_q {a b : Bool} (h : (a && b) = true) : a = true ∧ b = true := by rwa [Bool.and_eq_true] at h
theorem kq_1 {c : ByteArray} {pc : Nat} {L : Nat → Nat → Bool} (hL : ∀ p v, L p v = true → byq c p v = true) (h : L pc 1 = true) : decode c pc = .ok (.aconst_null, 1) := by
  have e : Decoder.instr pc c pc = .ok (.aconst_null, pc + 1) := by
    unfold Decoder.instr
    exact (b_q (u1_q (hL _ _ h))).trans rfl
  rw [de_q e, Nat.add_sub_cancel_left]
theorem kq_2 {c : ByteArray} {pc : Nat} {L : Nat → Nat → Bool} (hL : ∀ p v, L p v = true → byq c p v = true) (h : L pc 2 = true) : decode c pc = .ok (.iconst (-1), 1) := by
  have e : Decoder.instr pc c pc = .ok (.iconst (-1), pc + 1) := by
    unfold Decoder.instr
    exact (b_q (u1_q (hL _ _ h))).trans rfl
  rw [de_q e, Nat.add_sub_cancel_left]
theorem kq_3 {c : ByteArray} {pc : Nat} {L : Nat → Nat → Bool} (hL : ∀ p v, L p v = true → byq c p v = true) (h : L pc 3 = true) : decode c pc = .ok (.iconst 0, 1) := by
  have e : Decoder.instr pc c pc = .ok (.iconst 0, pc + 1) := by
    unfold Decoder.instr
    exact (b_q (u1_q (hL _ _ h))).trans rfl
  rw [de_q e, Nat.add_sub_cancel_left]
theorem kq_4 {c : ByteArray} {pc : Nat} {L : Nat → Nat → Bool} (hL : ∀ p v, L p v = true → byq c p v = true) (h : L pc 4 = true) : decode c pc = .ok (.iconst 1, 1) := by
  have e : Decoder.instr pc c pc = .ok (.iconst 1, pc + 1) := by
    unfold Decoder.instr
    exact (b_q (u1_q (hL _ _ h))).trans rfl
  rw [de_q e, Nat.add_sub_cancel_left]
theorem kq_5 {c : ByteArray} {pc : Nat} {L : Nat → Nat → Bool} (hL : ∀ p v, L p v = true → byq c p v = true) (h : L pc 5 = true) : decode c pc = .ok (.iconst 2, 1) := by
  have e : Decoder.instr pc c pc = .ok (.iconst 2, pc + 1) := by
    unfold Decoder.instr
    exact (b_q (u1_q (hL _ _ h))).trans rfl
  rw [de_q e, Nat.add_sub_cancel_left]
theorem kq_6 {c : ByteArray} {pc : Nat} {L : Nat → Nat → Bool} (hL : ∀ p v, L p v = true → byq c p v = true) (h : L pc 6 = true) : decode c pc = .ok (.iconst 3, 1) := by
  have e : Decoder.instr pc c pc = .ok (.iconst 3, pc + 1) := by
    unfold Decoder.instr
    exact (b_q (u1_q (hL _ _ h))).trans rfl
  rw [de_q e, Nat.add_sub_cancel_left]
theorem kq_7 {c : ByteArray} {pc : Nat} {L : Nat → Nat → Bool} (hL : ∀ p v, L p v = true → byq c p v = true) (h : L pc 7 = true) : decode c pc = .ok (.iconst 4, 1) := by
  have e : Decoder.instr pc c pc = .ok (.iconst 4, pc + 1) := by
    unfold Decoder.instr
    exact (b_q (u1_q (hL _ _ h))).trans rfl
  rw [de_q e, Nat.add_sub_cancel_left]
theorem kq_8 {c : ByteArray} {pc : Nat} {L : Nat → Nat → Bool} (hL : ∀ p v, L p v = true → byq c p v = true) (h : L pc 8 = true) : decode c pc = .ok (.iconst 5, 1) := by
  have e : Decoder.instr pc c pc = .ok (.iconst 5, pc + 1) := by
    unfold Decoder.instr
    exact (b_q (u1_q (hL _ _ h))).trans rfl
  rw [de_q e, Nat.add_sub_cancel_left]
theorem kq_9 {c : ByteArray} {pc : Nat} {L : Nat → Nat → Bool} (hL : ∀ p v, L p v = true → byq c p v = true) (h : L pc 9 = true) : decode c pc = .ok (.lconst 0, 1) := by
  have e : Decoder.instr pc c pc = .ok (.lconst 0, pc + 1) := by
    unfold Decoder.instr
    exact (b_q (u1_q (hL _ _ h))).trans rfl
  rw [de_q e, Nat.add_sub_cancel_left]
theorem kq_10 {c : ByteArray} {pc : Nat} {L : Nat → Nat → Bool} (hL : ∀ p v, L p v = true → byq c p v = true) (h : L pc 10 = true) : decode c pc = .ok (.lconst 1, 1) := by
  have e : Decoder.instr pc c pc = .ok (.lconst 1, pc + 1) := by
    unfold Decoder.instr
    exact (b_q (u1_q (hL _ _ h))).trans rfl
  rw [de_q e, Nat.add_sub_cancel_left]
theorem kq_16 {c : ByteArray} {pc b : Nat} {x : Int} {L : Nat → Nat → Bool} (hL : ∀ p v, L p v = true → byq c p v = true) (h : (L pc 16 && (L (pc + 1) b && decide (Reader.signed 8 b = x))) = true) : decode c pc = .ok (.bipush x, 2) := by
  obtain ⟨h1, h⟩ := an_q h
  obtain ⟨h2, h3⟩ := an_q h
  have h1 := hL _ _ h1
  have h2 := hL _ _ h2
  have h3 := of_decide_eq_true h3
  have e : Decoder.instr pc c pc = .ok (.bipush x, pc + 2) := by
    unfold Decoder.instr
    refine (b_q (u1_q h1)).trans ?_
    show ((do return (.bipush (← Reader.s1)) : Decoder Instr)) c (pc + 1) = _
    rw [← h3]
    rw [b_q (s1_q h2)]
    rfl
  rw [de_q e, Nat.add_sub_cancel_left]
theorem kq_17 {c : ByteArray} {pc a b : Nat} {x : Int} {L : Nat → Nat → Bool} (hL : ∀ p v, L p v = true → byq c p v = true) (h : (L pc 17 && (L (pc + 1) a && (L (pc + 1 + 1) b && decide (Reader.signed 16 (a * 256 + b) = x)))) = true) : decode c pc = .ok (.sipush x, 3) := by
  obtain ⟨h1, h⟩ := an_q h
  obtain ⟨h2, h⟩ := an_q h
  obtain ⟨h3, h4⟩ := an_q h
  have h1 := hL _ _ h1
  have h2 := hL _ _ h2
  have h3 := hL _ _ h3
  have h4 := of_decide_eq_true h4
  have e : Decoder.instr pc c pc = .ok (.sipush x, pc + 3) := by
    unfold Decoder.instr
    refine (b_q (u1_q h1)).trans ?_
    show ((do return (.sipush (← Reader.s2)) : Decoder Instr)) c (pc + 1) = _
    rw [← h4]
    rw [b_q (s2_q h2 h3)]
    rfl
  rw [de_q e, Nat.add_sub_cancel_left]
theorem kq_18 {c : ByteArray} {pc x : Nat} {L : Nat → Nat → Bool} (hL : ∀ p v, L p v = true → byq c p v = true) (h : (L pc 18 && L (pc + 1) x) = true) : decode c pc = .ok (.ldc x, 2) := by
  obtain ⟨h1, h2⟩ := an_q h
  have h1 := hL _ _ h1
  have h2 := hL _ _ h2
  have e : Decoder.instr pc c pc = .ok (.ldc x, pc + 2) := by
    unfold Decoder.instr
    refine (b_q (u1_q h1)).trans ?_
    show ((do return (.ldc (← Reader.u1)) : Decoder Instr)) c (pc + 1) = _
    rw [b_q (u1_q h2)]
    rfl
  rw [de_q e, Nat.add_sub_cancel_left]
theorem kq_19 {c : ByteArray} {pc a b x : Nat} {L : Nat → Nat → Bool} (hL : ∀ p v, L p v = true → byq c p v = true) (h : (L pc 19 && (L (pc + 1) a && (L (pc + 1 + 1) b && Nat.beq (a * 256 + b) x))) = true) : decode c pc = .ok (.ldc_w x, 3) := by
  obtain ⟨h1, h⟩ := an_q h
  obtain ⟨h2, h⟩ := an_q h
  obtain ⟨h3, h4⟩ := an_q h
  have h1 := hL _ _ h1
  have h2 := hL _ _ h2
  have h3 := hL _ _ h3
  have h4 := Nat.eq_of_beq_eq_true h4
  have e : Decoder.instr pc c pc = .ok (.ldc_w x, pc + 3) := by
    unfold Decoder.instr
    refine (b_q (u1_q h1)).trans ?_
    show ((do return (.ldc_w (← Reader.u2)) : Decoder Instr)) c (pc + 1) = _
    rw [← h4]
    rw [b_q (u2_q h2 h3)]
    rfl
  rw [de_q e, Nat.add_sub_cancel_left]
theorem kq_20 {c : ByteArray} {pc a b x : Nat} {L : Nat → Nat → Bool} (hL : ∀ p v, L p v = true → byq c p v = true) (h : (L pc 20 && (L (pc + 1) a && (L (pc + 1 + 1) b && Nat.beq (a * 256 + b) x))) = true) : decode c pc = .ok (.ldc2_w x, 3) := by
  obtain ⟨h1, h⟩ := an_q h
  obtain ⟨h2, h⟩ := an_q h
  obtain ⟨h3, h4⟩ := an_q h
  have h1 := hL _ _ h1
  have h2 := hL _ _ h2
  have h3 := hL _ _ h3
  have h4 := Nat.eq_of_beq_eq_true h4
  have e : Decoder.instr pc c pc = .ok (.ldc2_w x, pc + 3) := by
    unfold Decoder.instr
    refine (b_q (u1_q h1)).trans ?_
    show ((do return (.ldc2_w (← Reader.u2)) : Decoder Instr)) c (pc + 1) = _
    rw [← h4]
    rw [b_q (u2_q h2 h3)]
    rfl
  rw [de_q e, Nat.add_sub_cancel_left]
theorem kq_21 {c : ByteArray} {pc x : Nat} {L : Nat → Nat → Bool} (hL : ∀ p v, L p v = true → byq c p v = true) (h : (L pc 21 && L (pc + 1) x) = true) : decode c pc = .ok (.iload x, 2) := by
  obtain ⟨h1, h2⟩ := an_q h
  have h1 := hL _ _ h1
  have h2 := hL _ _ h2
  have e : Decoder.instr pc c pc = .ok (.iload x, pc + 2) := by
    unfold Decoder.instr
    refine (b_q (u1_q h1)).trans ?_
    show ((do return (.iload (← Reader.u1)) : Decoder Instr)) c (pc + 1) = _
    rw [b_q (u1_q h2)]
    rfl
  rw [de_q e, Nat.add_sub_cancel_left]
theorem kq_22 {c : ByteArray} {pc x : Nat} {L : Nat → Nat → Bool} (hL : ∀ p v, L p v = true → byq c p v = true) (h : (L pc 22 && L (pc + 1) x) = true) : decode c pc = .ok (.lload x, 2) := by
  obtain ⟨h1, h2⟩ := an_q h
  have h1 := hL _ _ h1
  have h2 := hL _ _ h2
  have e : Decoder.instr pc c pc = .ok (.lload x, pc + 2) := by
    unfold Decoder.instr
    refine (b_q (u1_q h1)).trans ?_
    show ((do return (.lload (← Reader.u1)) : Decoder Instr)) c (pc + 1) = _
    rw [b_q (u1_q h2)]
    rfl
  rw [de_q e, Nat.add_sub_cancel_left]
theorem kq_25 {c : ByteArray} {pc x : Nat} {L : Nat → Nat → Bool} (hL : ∀ p v, L p v = true → byq c p v = true) (h : (L pc 25 && L (pc + 1) x) = true) : decode c pc = .ok (.aload x, 2) := by
  obtain ⟨h1, h2⟩ := an_q h
  have h1 := hL _ _ h1
  have h2 := hL _ _ h2
  have e : Decoder.instr pc c pc = .ok (.aload x, pc + 2) := by
    unfold Decoder.instr
    refine (b_q (u1_q h1)).trans ?_
    show ((do return (.aload (← Reader.u1)) : Decoder Instr)) c (pc + 1) = _
    rw [b_q (u1_q h2)]
    rfl
  rw [de_q e, Nat.add_sub_cancel_left]
theorem kq_26 {c : ByteArray} {pc : Nat} {L : Nat → Nat → Bool} (hL : ∀ p v, L p v = true → byq c p v = true) (h : L pc 26 = true) : decode c pc = .ok (.iload_n 0, 1) := by
  have e : Decoder.instr pc c pc = .ok (.iload_n 0, pc + 1) := by
    unfold Decoder.instr
    exact (b_q (u1_q (hL _ _ h))).trans rfl
  rw [de_q e, Nat.add_sub_cancel_left]
theorem kq_27 {c : ByteArray} {pc : Nat} {L : Nat → Nat → Bool} (hL : ∀ p v, L p v = true → byq c p v = true) (h : L pc 27 = true) : decode c pc = .ok (.iload_n 1, 1) := by
  have e : Decoder.instr pc c pc = .ok (.iload_n 1, pc + 1) := by
    unfold Decoder.instr
    exact (b_q (u1_q (hL _ _ h))).trans rfl
  rw [de_q e, Nat.add_sub_cancel_left]
theorem kq_28 {c : ByteArray} {pc : Nat} {L : Nat → Nat → Bool} (hL : ∀ p v, L p v = true → byq c p v = true) (h : L pc 28 = true) : decode c pc = .ok (.iload_n 2, 1) := by
  have e : Decoder.instr pc c pc = .ok (.iload_n 2, pc + 1) := by
    unfold Decoder.instr
    exact (b_q (u1_q (hL _ _ h))).trans rfl
  rw [de_q e, Nat.add_sub_cancel_left]
theorem kq_29 {c : ByteArray} {pc : Nat} {L : Nat → Nat → Bool} (hL : ∀ p v, L p v = true → byq c p v = true) (h : L pc 29 = true) : decode c pc = .ok (.iload_n 3, 1) := by
  have e : Decoder.instr pc c pc = .ok (.iload_n 3, pc + 1) := by
    unfold Decoder.instr
    exact (b_q (u1_q (hL _ _ h))).trans rfl
  rw [de_q e, Nat.add_sub_cancel_left]
theorem kq_30 {c : ByteArray} {pc : Nat} {L : Nat → Nat → Bool} (hL : ∀ p v, L p v = true → byq c p v = true) (h : L pc 30 = true) : decode c pc = .ok (.lload_n 0, 1) := by
  have e : Decoder.instr pc c pc = .ok (.lload_n 0, pc + 1) := by
    unfold Decoder.instr
    exact (b_q (u1_q (hL _ _ h))).trans rfl
  rw [de_q e, Nat.add_sub_cancel_left]
theorem kq_31 {c : ByteArray} {pc : Nat} {L : Nat → Nat → Bool} (hL : ∀ p v, L p v = true → byq c p v = true) (h : L pc 31 = true) : decode c pc = .ok (.lload_n 1, 1) := by
  have e : Decoder.instr pc c pc = .ok (.lload_n 1, pc + 1) := by
    unfold Decoder.instr
    exact (b_q (u1_q (hL _ _ h))).trans rfl
  rw [de_q e, Nat.add_sub_cancel_left]
theorem kq_32 {c : ByteArray} {pc : Nat} {L : Nat → Nat → Bool} (hL : ∀ p v, L p v = true → byq c p v = true) (h : L pc 32 = true) : decode c pc = .ok (.lload_n 2, 1) := by
  have e : Decoder.instr pc c pc = .ok (.lload_n 2, pc + 1) := by
    unfold Decoder.instr
    exact (b_q (u1_q (hL _ _ h))).trans rfl
  rw [de_q e, Nat.add_sub_cancel_left]
theorem kq_33 {c : ByteArray} {pc : Nat} {L : Nat → Nat → Bool} (hL : ∀ p v, L p v = true → byq c p v = true) (h : L pc 33 = true) : decode c pc = .ok (.lload_n 3, 1) := by
  have e : Decoder.instr pc c pc = .ok (.lload_n 3, pc + 1) := by
    unfold Decoder.instr
    exact (b_q (u1_q (hL _ _ h))).trans rfl
  rw [de_q e, Nat.add_sub_cancel_left]
theorem kq_42 {c : ByteArray} {pc : Nat} {L : Nat → Nat → Bool} (hL : ∀ p v, L p v = true → byq c p v = true) (h : L pc 42 = true) : decode c pc = .ok (.aload_n 0, 1) := by
  have e : Decoder.instr pc c pc = .ok (.aload_n 0, pc + 1) := by
    unfold Decoder.instr
    exact (b_q (u1_q (hL _ _ h))).trans rfl
  rw [de_q e, Nat.add_sub_cancel_left]
theorem kq_43 {c : ByteArray} {pc : Nat} {L : Nat → Nat → Bool} (hL : ∀ p v, L p v = true → byq c p v = true) (h : L pc 43 = true) : decode c pc = .ok (.aload_n 1, 1) := by
  have e : Decoder.instr pc c pc = .ok (.aload_n 1, pc + 1) := by
    unfold Decoder.instr
    exact (b_q (u1_q (hL _ _ h))).trans rfl
  rw [de_q e, Nat.add_sub_cancel_left]
theorem kq_44 {c : ByteArray} {pc : Nat} {L : Nat → Nat → Bool} (hL : ∀ p v, L p v = true → byq c p v = true) (h : L pc 44 = true) : decode c pc = .ok (.aload_n 2, 1) := by
  have e : Decoder.instr pc c pc = .ok (.aload_n 2, pc + 1) := by
    unfold Decoder.instr
    exact (b_q (u1_q (hL _ _ h))).trans rfl
  rw [de_q e, Nat.add_sub_cancel_left]
theorem kq_45 {c : ByteArray} {pc : Nat} {L : Nat → Nat → Bool} (hL : ∀ p v, L p v = true → byq c p v = true) (h : L pc 45 = true) : decode c pc = .ok (.aload_n 3, 1) := by
  have e : Decoder.instr pc c pc = .ok (.aload_n 3, pc + 1) := by
    unfold Decoder.instr
    exact (b_q (u1_q (hL _ _ h))).trans rfl
  rw [de_q e, Nat.add_sub_cancel_left]
theorem kq_46 {c : ByteArray} {pc : Nat} {L : Nat → Nat → Bool} (hL : ∀ p v, L p v = true → byq c p v = true) (h : L pc 46 = true) : decode c pc = .ok (.iaload, 1) := by
  have e : Decoder.instr pc c pc = .ok (.iaload, pc + 1) := by
    unfold Decoder.instr
    exact (b_q (u1_q (hL _ _ h))).trans rfl
  rw [de_q e, Nat.add_sub_cancel_left]
theorem kq_47 {c : ByteArray} {pc : Nat} {L : Nat → Nat → Bool} (hL : ∀ p v, L p v = true → byq c p v = true) (h : L pc 47 = true) : decode c pc = .ok (.laload, 1) := by
  have e : Decoder.instr pc c pc = .ok (.laload, pc + 1) := by
    unfold Decoder.instr
    exact (b_q (u1_q (hL _ _ h))).trans rfl
  rw [de_q e, Nat.add_sub_cancel_left]
theorem kq_50 {c : ByteArray} {pc : Nat} {L : Nat → Nat → Bool} (hL : ∀ p v, L p v = true → byq c p v = true) (h : L pc 50 = true) : decode c pc = .ok (.aaload, 1) := by
  have e : Decoder.instr pc c pc = .ok (.aaload, pc + 1) := by
    unfold Decoder.instr
    exact (b_q (u1_q (hL _ _ h))).trans rfl
  rw [de_q e, Nat.add_sub_cancel_left]
theorem kq_51 {c : ByteArray} {pc : Nat} {L : Nat → Nat → Bool} (hL : ∀ p v, L p v = true → byq c p v = true) (h : L pc 51 = true) : decode c pc = .ok (.baload, 1) := by
  have e : Decoder.instr pc c pc = .ok (.baload, pc + 1) := by
    unfold Decoder.instr
    exact (b_q (u1_q (hL _ _ h))).trans rfl
  rw [de_q e, Nat.add_sub_cancel_left]
theorem kq_54 {c : ByteArray} {pc x : Nat} {L : Nat → Nat → Bool} (hL : ∀ p v, L p v = true → byq c p v = true) (h : (L pc 54 && L (pc + 1) x) = true) : decode c pc = .ok (.istore x, 2) := by
  obtain ⟨h1, h2⟩ := an_q h
  have h1 := hL _ _ h1
  have h2 := hL _ _ h2
  have e : Decoder.instr pc c pc = .ok (.istore x, pc + 2) := by
    unfold Decoder.instr
    refine (b_q (u1_q h1)).trans ?_
    show ((do return (.istore (← Reader.u1)) : Decoder Instr)) c (pc + 1) = _
    rw [b_q (u1_q h2)]
    rfl
  rw [de_q e, Nat.add_sub_cancel_left]
theorem kq_55 {c : ByteArray} {pc x : Nat} {L : Nat → Nat → Bool} (hL : ∀ p v, L p v = true → byq c p v = true) (h : (L pc 55 && L (pc + 1) x) = true) : decode c pc = .ok (.lstore x, 2) := by
  obtain ⟨h1, h2⟩ := an_q h
  have h1 := hL _ _ h1
  have h2 := hL _ _ h2
  have e : Decoder.instr pc c pc = .ok (.lstore x, pc + 2) := by
    unfold Decoder.instr
    refine (b_q (u1_q h1)).trans ?_
    show ((do return (.lstore (← Reader.u1)) : Decoder Instr)) c (pc + 1) = _
    rw [b_q (u1_q h2)]
    rfl
  rw [de_q e, Nat.add_sub_cancel_left]
theorem kq_58 {c : ByteArray} {pc x : Nat} {L : Nat → Nat → Bool} (hL : ∀ p v, L p v = true → byq c p v = true) (h : (L pc 58 && L (pc + 1) x) = true) : decode c pc = .ok (.astore x, 2) := by
  obtain ⟨h1, h2⟩ := an_q h
  have h1 := hL _ _ h1
  have h2 := hL _ _ h2
  have e : Decoder.instr pc c pc = .ok (.astore x, pc + 2) := by
    unfold Decoder.instr
    refine (b_q (u1_q h1)).trans ?_
    show ((do return (.astore (← Reader.u1)) : Decoder Instr)) c (pc + 1) = _
    rw [b_q (u1_q h2)]
    rfl
  rw [de_q e, Nat.add_sub_cancel_left]
theorem kq_59 {c : ByteArray} {pc : Nat} {L : Nat → Nat → Bool} (hL : ∀ p v, L p v = true → byq c p v = true) (h : L pc 59 = true) : decode c pc = .ok (.istore_n 0, 1) := by
  have e : Decoder.instr pc c pc = .ok (.istore_n 0, pc + 1) := by
    unfold Decoder.instr
    exact (b_q (u1_q (hL _ _ h))).trans rfl
  rw [de_q e, Nat.add_sub_cancel_left]
theorem kq_60 {c : ByteArray} {pc : Nat} {L : Nat → Nat → Bool} (hL : ∀ p v, L p v = true → byq c p v = true) (h : L pc 60 = true) : decode c pc = .ok (.istore_n 1, 1) := by
  have e : Decoder.instr pc c pc = .ok (.istore_n 1, pc + 1) := by
    unfold Decoder.instr
    exact (b_q (u1_q (hL _ _ h))).trans rfl
  rw [de_q e, Nat.add_sub_cancel_left]
theorem kq_61 {c : ByteArray} {pc : Nat} {L : Nat → Nat → Bool} (hL : ∀ p v, L p v = true → byq c p v = true) (h : L pc 61 = true) : decode c pc = .ok (.istore_n 2, 1) := by
  have e : Decoder.instr pc c pc = .ok (.istore_n 2, pc + 1) := by
    unfold Decoder.instr
    exact (b_q (u1_q (hL _ _ h))).trans rfl
  rw [de_q e, Nat.add_sub_cancel_left]
theorem kq_62 {c : ByteArray} {pc : Nat} {L : Nat → Nat → Bool} (hL : ∀ p v, L p v = true → byq c p v = true) (h : L pc 62 = true) : decode c pc = .ok (.istore_n 3, 1) := by
  have e : Decoder.instr pc c pc = .ok (.istore_n 3, pc + 1) := by
    unfold Decoder.instr
    exact (b_q (u1_q (hL _ _ h))).trans rfl
  rw [de_q e, Nat.add_sub_cancel_left]
theorem kq_63 {c : ByteArray} {pc : Nat} {L : Nat → Nat → Bool} (hL : ∀ p v, L p v = true → byq c p v = true) (h : L pc 63 = true) : decode c pc = .ok (.lstore_n 0, 1) := by
  have e : Decoder.instr pc c pc = .ok (.lstore_n 0, pc + 1) := by
    unfold Decoder.instr
    exact (b_q (u1_q (hL _ _ h))).trans rfl
  rw [de_q e, Nat.add_sub_cancel_left]
theorem kq_65 {c : ByteArray} {pc : Nat} {L : Nat → Nat → Bool} (hL : ∀ p v, L p v = true → byq c p v = true) (h : L pc 65 = true) : decode c pc = .ok (.lstore_n 2, 1) := by
  have e : Decoder.instr pc c pc = .ok (.lstore_n 2, pc + 1) := by
    unfold Decoder.instr
    exact (b_q (u1_q (hL _ _ h))).trans rfl
  rw [de_q e, Nat.add_sub_cancel_left]
theorem kq_66 {c : ByteArray} {pc : Nat} {L : Nat → Nat → Bool} (hL : ∀ p v, L p v = true → byq c p v = true) (h : L pc 66 = true) : decode c pc = .ok (.lstore_n 3, 1) := by
  have e : Decoder.instr pc c pc = .ok (.lstore_n 3, pc + 1) := by
    unfold Decoder.instr
    exact (b_q (u1_q (hL _ _ h))).trans rfl
  rw [de_q e, Nat.add_sub_cancel_left]
theorem kq_76 {c : ByteArray} {pc : Nat} {L : Nat → Nat → Bool} (hL : ∀ p v, L p v = true → byq c p v = true) (h : L pc 76 = true) : decode c pc = .ok (.astore_n 1, 1) := by
  have e : Decoder.instr pc c pc = .ok (.astore_n 1, pc + 1) := by
    unfold Decoder.instr
    exact (b_q (u1_q (hL _ _ h))).trans rfl
  rw [de_q e, Nat.add_sub_cancel_left]
theorem kq_77 {c : ByteArray} {pc : Nat} {L : Nat → Nat → Bool} (hL : ∀ p v, L p v = true → byq c p v = true) (h : L pc 77 = true) : decode c pc = .ok (.astore_n 2, 1) := by
  have e : Decoder.instr pc c pc = .ok (.astore_n 2, pc + 1) := by
    unfold Decoder.instr
    exact (b_q (u1_q (hL _ _ h))).trans rfl
  rw [de_q e, Nat.add_sub_cancel_left]
theorem kq_78 {c : ByteArray} {pc : Nat} {L : Nat → Nat → Bool} (hL : ∀ p v, L p v = true → byq c p v = true) (h : L pc 78 = true) : decode c pc = .ok (.astore_n 3, 1) := by
  have e : Decoder.instr pc c pc = .ok (.astore_n 3, pc + 1) := by
    unfold Decoder.instr
    exact (b_q (u1_q (hL _ _ h))).trans rfl
  rw [de_q e, Nat.add_sub_cancel_left]
theorem kq_79 {c : ByteArray} {pc : Nat} {L : Nat → Nat → Bool} (hL : ∀ p v, L p v = true → byq c p v = true) (h : L pc 79 = true) : decode c pc = .ok (.iastore, 1) := by
  have e : Decoder.instr pc c pc = .ok (.iastore, pc + 1) := by
    unfold Decoder.instr
    exact (b_q (u1_q (hL _ _ h))).trans rfl
  rw [de_q e, Nat.add_sub_cancel_left]
theorem kq_80 {c : ByteArray} {pc : Nat} {L : Nat → Nat → Bool} (hL : ∀ p v, L p v = true → byq c p v = true) (h : L pc 80 = true) : decode c pc = .ok (.lastore, 1) := by
  have e : Decoder.instr pc c pc = .ok (.lastore, pc + 1) := by
    unfold Decoder.instr
    exact (b_q (u1_q (hL _ _ h))).trans rfl
  rw [de_q e, Nat.add_sub_cancel_left]
theorem kq_83 {c : ByteArray} {pc : Nat} {L : Nat → Nat → Bool} (hL : ∀ p v, L p v = true → byq c p v = true) (h : L pc 83 = true) : decode c pc = .ok (.aastore, 1) := by
  have e : Decoder.instr pc c pc = .ok (.aastore, pc + 1) := by
    unfold Decoder.instr
    exact (b_q (u1_q (hL _ _ h))).trans rfl
  rw [de_q e, Nat.add_sub_cancel_left]
theorem kq_84 {c : ByteArray} {pc : Nat} {L : Nat → Nat → Bool} (hL : ∀ p v, L p v = true → byq c p v = true) (h : L pc 84 = true) : decode c pc = .ok (.bastore, 1) := by
  have e : Decoder.instr pc c pc = .ok (.bastore, pc + 1) := by
    unfold Decoder.instr
    exact (b_q (u1_q (hL _ _ h))).trans rfl
  rw [de_q e, Nat.add_sub_cancel_left]
theorem kq_87 {c : ByteArray} {pc : Nat} {L : Nat → Nat → Bool} (hL : ∀ p v, L p v = true → byq c p v = true) (h : L pc 87 = true) : decode c pc = .ok (.pop, 1) := by
  have e : Decoder.instr pc c pc = .ok (.pop, pc + 1) := by
    unfold Decoder.instr
    exact (b_q (u1_q (hL _ _ h))).trans rfl
  rw [de_q e, Nat.add_sub_cancel_left]
theorem kq_89 {c : ByteArray} {pc : Nat} {L : Nat → Nat → Bool} (hL : ∀ p v, L p v = true → byq c p v = true) (h : L pc 89 = true) : decode c pc = .ok (.dup, 1) := by
  have e : Decoder.instr pc c pc = .ok (.dup, pc + 1) := by
    unfold Decoder.instr
    exact (b_q (u1_q (hL _ _ h))).trans rfl
  rw [de_q e, Nat.add_sub_cancel_left]
theorem kq_90 {c : ByteArray} {pc : Nat} {L : Nat → Nat → Bool} (hL : ∀ p v, L p v = true → byq c p v = true) (h : L pc 90 = true) : decode c pc = .ok (.dup_x1, 1) := by
  have e : Decoder.instr pc c pc = .ok (.dup_x1, pc + 1) := by
    unfold Decoder.instr
    exact (b_q (u1_q (hL _ _ h))).trans rfl
  rw [de_q e, Nat.add_sub_cancel_left]
theorem kq_92 {c : ByteArray} {pc : Nat} {L : Nat → Nat → Bool} (hL : ∀ p v, L p v = true → byq c p v = true) (h : L pc 92 = true) : decode c pc = .ok (.dup2, 1) := by
  have e : Decoder.instr pc c pc = .ok (.dup2, pc + 1) := by
    unfold Decoder.instr
    exact (b_q (u1_q (hL _ _ h))).trans rfl
  rw [de_q e, Nat.add_sub_cancel_left]
theorem kq_96 {c : ByteArray} {pc : Nat} {L : Nat → Nat → Bool} (hL : ∀ p v, L p v = true → byq c p v = true) (h : L pc 96 = true) : decode c pc = .ok (.iadd, 1) := by
  have e : Decoder.instr pc c pc = .ok (.iadd, pc + 1) := by
    unfold Decoder.instr
    exact (b_q (u1_q (hL _ _ h))).trans rfl
  rw [de_q e, Nat.add_sub_cancel_left]
theorem kq_97 {c : ByteArray} {pc : Nat} {L : Nat → Nat → Bool} (hL : ∀ p v, L p v = true → byq c p v = true) (h : L pc 97 = true) : decode c pc = .ok (.ladd, 1) := by
  have e : Decoder.instr pc c pc = .ok (.ladd, pc + 1) := by
    unfold Decoder.instr
    exact (b_q (u1_q (hL _ _ h))).trans rfl
  rw [de_q e, Nat.add_sub_cancel_left]
theorem kq_100 {c : ByteArray} {pc : Nat} {L : Nat → Nat → Bool} (hL : ∀ p v, L p v = true → byq c p v = true) (h : L pc 100 = true) : decode c pc = .ok (.isub, 1) := by
  have e : Decoder.instr pc c pc = .ok (.isub, pc + 1) := by
    unfold Decoder.instr
    exact (b_q (u1_q (hL _ _ h))).trans rfl
  rw [de_q e, Nat.add_sub_cancel_left]
theorem kq_101 {c : ByteArray} {pc : Nat} {L : Nat → Nat → Bool} (hL : ∀ p v, L p v = true → byq c p v = true) (h : L pc 101 = true) : decode c pc = .ok (.lsub, 1) := by
  have e : Decoder.instr pc c pc = .ok (.lsub, pc + 1) := by
    unfold Decoder.instr
    exact (b_q (u1_q (hL _ _ h))).trans rfl
  rw [de_q e, Nat.add_sub_cancel_left]
theorem kq_104 {c : ByteArray} {pc : Nat} {L : Nat → Nat → Bool} (hL : ∀ p v, L p v = true → byq c p v = true) (h : L pc 104 = true) : decode c pc = .ok (.imul, 1) := by
  have e : Decoder.instr pc c pc = .ok (.imul, pc + 1) := by
    unfold Decoder.instr
    exact (b_q (u1_q (hL _ _ h))).trans rfl
  rw [de_q e, Nat.add_sub_cancel_left]
theorem kq_108 {c : ByteArray} {pc : Nat} {L : Nat → Nat → Bool} (hL : ∀ p v, L p v = true → byq c p v = true) (h : L pc 108 = true) : decode c pc = .ok (.idiv, 1) := by
  have e : Decoder.instr pc c pc = .ok (.idiv, pc + 1) := by
    unfold Decoder.instr
    exact (b_q (u1_q (hL _ _ h))).trans rfl
  rw [de_q e, Nat.add_sub_cancel_left]
theorem kq_112 {c : ByteArray} {pc : Nat} {L : Nat → Nat → Bool} (hL : ∀ p v, L p v = true → byq c p v = true) (h : L pc 112 = true) : decode c pc = .ok (.irem, 1) := by
  have e : Decoder.instr pc c pc = .ok (.irem, pc + 1) := by
    unfold Decoder.instr
    exact (b_q (u1_q (hL _ _ h))).trans rfl
  rw [de_q e, Nat.add_sub_cancel_left]
theorem kq_116 {c : ByteArray} {pc : Nat} {L : Nat → Nat → Bool} (hL : ∀ p v, L p v = true → byq c p v = true) (h : L pc 116 = true) : decode c pc = .ok (.ineg, 1) := by
  have e : Decoder.instr pc c pc = .ok (.ineg, pc + 1) := by
    unfold Decoder.instr
    exact (b_q (u1_q (hL _ _ h))).trans rfl
  rw [de_q e, Nat.add_sub_cancel_left]
theorem kq_120 {c : ByteArray} {pc : Nat} {L : Nat → Nat → Bool} (hL : ∀ p v, L p v = true → byq c p v = true) (h : L pc 120 = true) : decode c pc = .ok (.ishl, 1) := by
  have e : Decoder.instr pc c pc = .ok (.ishl, pc + 1) := by
    unfold Decoder.instr
    exact (b_q (u1_q (hL _ _ h))).trans rfl
  rw [de_q e, Nat.add_sub_cancel_left]
theorem kq_121 {c : ByteArray} {pc : Nat} {L : Nat → Nat → Bool} (hL : ∀ p v, L p v = true → byq c p v = true) (h : L pc 121 = true) : decode c pc = .ok (.lshl, 1) := by
  have e : Decoder.instr pc c pc = .ok (.lshl, pc + 1) := by
    unfold Decoder.instr
    exact (b_q (u1_q (hL _ _ h))).trans rfl
  rw [de_q e, Nat.add_sub_cancel_left]
theorem kq_122 {c : ByteArray} {pc : Nat} {L : Nat → Nat → Bool} (hL : ∀ p v, L p v = true → byq c p v = true) (h : L pc 122 = true) : decode c pc = .ok (.ishr, 1) := by
  have e : Decoder.instr pc c pc = .ok (.ishr, pc + 1) := by
    unfold Decoder.instr
    exact (b_q (u1_q (hL _ _ h))).trans rfl
  rw [de_q e, Nat.add_sub_cancel_left]
theorem kq_123 {c : ByteArray} {pc : Nat} {L : Nat → Nat → Bool} (hL : ∀ p v, L p v = true → byq c p v = true) (h : L pc 123 = true) : decode c pc = .ok (.lshr, 1) := by
  have e : Decoder.instr pc c pc = .ok (.lshr, pc + 1) := by
    unfold Decoder.instr
    exact (b_q (u1_q (hL _ _ h))).trans rfl
  rw [de_q e, Nat.add_sub_cancel_left]
theorem kq_124 {c : ByteArray} {pc : Nat} {L : Nat → Nat → Bool} (hL : ∀ p v, L p v = true → byq c p v = true) (h : L pc 124 = true) : decode c pc = .ok (.iushr, 1) := by
  have e : Decoder.instr pc c pc = .ok (.iushr, pc + 1) := by
    unfold Decoder.instr
    exact (b_q (u1_q (hL _ _ h))).trans rfl
  rw [de_q e, Nat.add_sub_cancel_left]
theorem kq_125 {c : ByteArray} {pc : Nat} {L : Nat → Nat → Bool} (hL : ∀ p v, L p v = true → byq c p v = true) (h : L pc 125 = true) : decode c pc = .ok (.lushr, 1) := by
  have e : Decoder.instr pc c pc = .ok (.lushr, pc + 1) := by
    unfold Decoder.instr
    exact (b_q (u1_q (hL _ _ h))).trans rfl
  rw [de_q e, Nat.add_sub_cancel_left]
theorem kq_126 {c : ByteArray} {pc : Nat} {L : Nat → Nat → Bool} (hL : ∀ p v, L p v = true → byq c p v = true) (h : L pc 126 = true) : decode c pc = .ok (.iand, 1) := by
  have e : Decoder.instr pc c pc = .ok (.iand, pc + 1) := by
    unfold Decoder.instr
    exact (b_q (u1_q (hL _ _ h))).trans rfl
  rw [de_q e, Nat.add_sub_cancel_left]
theorem kq_127 {c : ByteArray} {pc : Nat} {L : Nat → Nat → Bool} (hL : ∀ p v, L p v = true → byq c p v = true) (h : L pc 127 = true) : decode c pc = .ok (.land, 1) := by
  have e : Decoder.instr pc c pc = .ok (.land, pc + 1) := by
    unfold Decoder.instr
    exact (b_q (u1_q (hL _ _ h))).trans rfl
  rw [de_q e, Nat.add_sub_cancel_left]
theorem kq_128 {c : ByteArray} {pc : Nat} {L : Nat → Nat → Bool} (hL : ∀ p v, L p v = true → byq c p v = true) (h : L pc 128 = true) : decode c pc = .ok (.ior, 1) := by
  have e : Decoder.instr pc c pc = .ok (.ior, pc + 1) := by
    unfold Decoder.instr
    exact (b_q (u1_q (hL _ _ h))).trans rfl
  rw [de_q e, Nat.add_sub_cancel_left]
theorem kq_129 {c : ByteArray} {pc : Nat} {L : Nat → Nat → Bool} (hL : ∀ p v, L p v = true → byq c p v = true) (h : L pc 129 = true) : decode c pc = .ok (.lor, 1) := by
  have e : Decoder.instr pc c pc = .ok (.lor, pc + 1) := by
    unfold Decoder.instr
    exact (b_q (u1_q (hL _ _ h))).trans rfl
  rw [de_q e, Nat.add_sub_cancel_left]
theorem kq_130 {c : ByteArray} {pc : Nat} {L : Nat → Nat → Bool} (hL : ∀ p v, L p v = true → byq c p v = true) (h : L pc 130 = true) : decode c pc = .ok (.ixor, 1) := by
  have e : Decoder.instr pc c pc = .ok (.ixor, pc + 1) := by
    unfold Decoder.instr
    exact (b_q (u1_q (hL _ _ h))).trans rfl
  rw [de_q e, Nat.add_sub_cancel_left]
theorem kq_131 {c : ByteArray} {pc : Nat} {L : Nat → Nat → Bool} (hL : ∀ p v, L p v = true → byq c p v = true) (h : L pc 131 = true) : decode c pc = .ok (.lxor, 1) := by
  have e : Decoder.instr pc c pc = .ok (.lxor, pc + 1) := by
    unfold Decoder.instr
    exact (b_q (u1_q (hL _ _ h))).trans rfl
  rw [de_q e, Nat.add_sub_cancel_left]
theorem kq_132 {c : ByteArray} {pc b x : Nat} {y : Int} {L : Nat → Nat → Bool} (hL : ∀ p v, L p v = true → byq c p v = true) (h : (L pc 132 && (L (pc + 1) x && (L (pc + 1 + 1) b && decide (Reader.signed 8 b = y)))) = true) : decode c pc = .ok (.iinc x y, 3) := by
  obtain ⟨h1, h⟩ := an_q h
  obtain ⟨h2, h⟩ := an_q h
  obtain ⟨h3, h4⟩ := an_q h
  have h1 := hL _ _ h1
  have h2 := hL _ _ h2
  have h3 := hL _ _ h3
  have h4 := of_decide_eq_true h4
  have e : Decoder.instr pc c pc = .ok (.iinc x y, pc + 3) := by
    unfold Decoder.instr
    refine (b_q (u1_q h1)).trans ?_
    show ((do return (.iinc (← Reader.u1) (← Reader.s1)) : Decoder Instr)) c (pc + 1) = _
    rw [← h4]
    rw [b_q (u1_q h2), b_q (s1_q h3)]
    rfl
  rw [de_q e, Nat.add_sub_cancel_left]
theorem kq_133 {c : ByteArray} {pc : Nat} {L : Nat → Nat → Bool} (hL : ∀ p v, L p v = true → byq c p v = true) (h : L pc 133 = true) : decode c pc = .ok (.i2l, 1) := by
  have e : Decoder.instr pc c pc = .ok (.i2l, pc + 1) := by
    unfold Decoder.instr
    exact (b_q (u1_q (hL _ _ h))).trans rfl
  rw [de_q e, Nat.add_sub_cancel_left]
theorem kq_136 {c : ByteArray} {pc : Nat} {L : Nat → Nat → Bool} (hL : ∀ p v, L p v = true → byq c p v = true) (h : L pc 136 = true) : decode c pc = .ok (.l2i, 1) := by
  have e : Decoder.instr pc c pc = .ok (.l2i, pc + 1) := by
    unfold Decoder.instr
    exact (b_q (u1_q (hL _ _ h))).trans rfl
  rw [de_q e, Nat.add_sub_cancel_left]
theorem kq_145 {c : ByteArray} {pc : Nat} {L : Nat → Nat → Bool} (hL : ∀ p v, L p v = true → byq c p v = true) (h : L pc 145 = true) : decode c pc = .ok (.i2b, 1) := by
  have e : Decoder.instr pc c pc = .ok (.i2b, pc + 1) := by
    unfold Decoder.instr
    exact (b_q (u1_q (hL _ _ h))).trans rfl
  rw [de_q e, Nat.add_sub_cancel_left]
theorem kq_147 {c : ByteArray} {pc : Nat} {L : Nat → Nat → Bool} (hL : ∀ p v, L p v = true → byq c p v = true) (h : L pc 147 = true) : decode c pc = .ok (.i2s, 1) := by
  have e : Decoder.instr pc c pc = .ok (.i2s, pc + 1) := by
    unfold Decoder.instr
    exact (b_q (u1_q (hL _ _ h))).trans rfl
  rw [de_q e, Nat.add_sub_cancel_left]
theorem kq_148 {c : ByteArray} {pc : Nat} {L : Nat → Nat → Bool} (hL : ∀ p v, L p v = true → byq c p v = true) (h : L pc 148 = true) : decode c pc = .ok (.lcmp, 1) := by
  have e : Decoder.instr pc c pc = .ok (.lcmp, pc + 1) := by
    unfold Decoder.instr
    exact (b_q (u1_q (hL _ _ h))).trans rfl
  rw [de_q e, Nat.add_sub_cancel_left]
theorem kq_153 {c : ByteArray} {pc a b : Nat} {x : Int} {L : Nat → Nat → Bool} (hL : ∀ p v, L p v = true → byq c p v = true) (h : (L pc 153 && (L (pc + 1) a && (L (pc + 1 + 1) b && decide (Reader.signed 16 (a * 256 + b) = x)))) = true) : decode c pc = .ok (.ifCond .eq x, 3) := by
  obtain ⟨h1, h⟩ := an_q h
  obtain ⟨h2, h⟩ := an_q h
  obtain ⟨h3, h4⟩ := an_q h
  have h1 := hL _ _ h1
  have h2 := hL _ _ h2
  have h3 := hL _ _ h3
  have h4 := of_decide_eq_true h4
  have e : Decoder.instr pc c pc = .ok (.ifCond .eq x, pc + 3) := by
    unfold Decoder.instr
    refine (b_q (u1_q h1)).trans ?_
    show ((do return (.ifCond .eq (← Reader.s2)) : Decoder Instr)) c (pc + 1) = _
    rw [← h4]
    rw [b_q (s2_q h2 h3)]
    rfl
  rw [de_q e, Nat.add_sub_cancel_left]
theorem kq_154 {c : ByteArray} {pc a b : Nat} {x : Int} {L : Nat → Nat → Bool} (hL : ∀ p v, L p v = true → byq c p v = true) (h : (L pc 154 && (L (pc + 1) a && (L (pc + 1 + 1) b && decide (Reader.signed 16 (a * 256 + b) = x)))) = true) : decode c pc = .ok (.ifCond .ne x, 3) := by
  obtain ⟨h1, h⟩ := an_q h
  obtain ⟨h2, h⟩ := an_q h
  obtain ⟨h3, h4⟩ := an_q h
  have h1 := hL _ _ h1
  have h2 := hL _ _ h2
  have h3 := hL _ _ h3
  have h4 := of_decide_eq_true h4
  have e : Decoder.instr pc c pc = .ok (.ifCond .ne x, pc + 3) := by
    unfold Decoder.instr
    refine (b_q (u1_q h1)).trans ?_
    show ((do return (.ifCond .ne (← Reader.s2)) : Decoder Instr)) c (pc + 1) = _
    rw [← h4]
    rw [b_q (s2_q h2 h3)]
    rfl
  rw [de_q e, Nat.add_sub_cancel_left]
theorem kq_155 {c : ByteArray} {pc a b : Nat} {x : Int} {L : Nat → Nat → Bool} (hL : ∀ p v, L p v = true → byq c p v = true) (h : (L pc 155 && (L (pc + 1) a && (L (pc + 1 + 1) b && decide (Reader.signed 16 (a * 256 + b) = x)))) = true) : decode c pc = .ok (.ifCond .lt x, 3) := by
  obtain ⟨h1, h⟩ := an_q h
  obtain ⟨h2, h⟩ := an_q h
  obtain ⟨h3, h4⟩ := an_q h
  have h1 := hL _ _ h1
  have h2 := hL _ _ h2
  have h3 := hL _ _ h3
  have h4 := of_decide_eq_true h4
  have e : Decoder.instr pc c pc = .ok (.ifCond .lt x, pc + 3) := by
    unfold Decoder.instr
    refine (b_q (u1_q h1)).trans ?_
    show ((do return (.ifCond .lt (← Reader.s2)) : Decoder Instr)) c (pc + 1) = _
    rw [← h4]
    rw [b_q (s2_q h2 h3)]
    rfl
  rw [de_q e, Nat.add_sub_cancel_left]
theorem kq_156 {c : ByteArray} {pc a b : Nat} {x : Int} {L : Nat → Nat → Bool} (hL : ∀ p v, L p v = true → byq c p v = true) (h : (L pc 156 && (L (pc + 1) a && (L (pc + 1 + 1) b && decide (Reader.signed 16 (a * 256 + b) = x)))) = true) : decode c pc = .ok (.ifCond .ge x, 3) := by
  obtain ⟨h1, h⟩ := an_q h
  obtain ⟨h2, h⟩ := an_q h
  obtain ⟨h3, h4⟩ := an_q h
  have h1 := hL _ _ h1
  have h2 := hL _ _ h2
  have h3 := hL _ _ h3
  have h4 := of_decide_eq_true h4
  have e : Decoder.instr pc c pc = .ok (.ifCond .ge x, pc + 3) := by
    unfold Decoder.instr
    refine (b_q (u1_q h1)).trans ?_
    show ((do return (.ifCond .ge (← Reader.s2)) : Decoder Instr)) c (pc + 1) = _
    rw [← h4]
    rw [b_q (s2_q h2 h3)]
    rfl
  rw [de_q e, Nat.add_sub_cancel_left]
theorem kq_157 {c : ByteArray} {pc a b : Nat} {x : Int} {L : Nat → Nat → Bool} (hL : ∀ p v, L p v = true → byq c p v = true) (h : (L pc 157 && (L (pc + 1) a && (L (pc + 1 + 1) b && decide (Reader.signed 16 (a * 256 + b) = x)))) = true) : decode c pc = .ok (.ifCond .gt x, 3) := by
  obtain ⟨h1, h⟩ := an_q h
  obtain ⟨h2, h⟩ := an_q h
  obtain ⟨h3, h4⟩ := an_q h
  have h1 := hL _ _ h1
  have h2 := hL _ _ h2
  have h3 := hL _ _ h3
  have h4 := of_decide_eq_true h4
  have e : Decoder.instr pc c pc = .ok (.ifCond .gt x, pc + 3) := by
    unfold Decoder.instr
    refine (b_q (u1_q h1)).trans ?_
    show ((do return (.ifCond .gt (← Reader.s2)) : Decoder Instr)) c (pc + 1) = _
    rw [← h4]
    rw [b_q (s2_q h2 h3)]
    rfl
  rw [de_q e, Nat.add_sub_cancel_left]
theorem kq_158 {c : ByteArray} {pc a b : Nat} {x : Int} {L : Nat → Nat → Bool} (hL : ∀ p v, L p v = true → byq c p v = true) (h : (L pc 158 && (L (pc + 1) a && (L (pc + 1 + 1) b && decide (Reader.signed 16 (a * 256 + b) = x)))) = true) : decode c pc = .ok (.ifCond .le x, 3) := by
  obtain ⟨h1, h⟩ := an_q h
  obtain ⟨h2, h⟩ := an_q h
  obtain ⟨h3, h4⟩ := an_q h
  have h1 := hL _ _ h1
  have h2 := hL _ _ h2
  have h3 := hL _ _ h3
  have h4 := of_decide_eq_true h4
  have e : Decoder.instr pc c pc = .ok (.ifCond .le x, pc + 3) := by
    unfold Decoder.instr
    refine (b_q (u1_q h1)).trans ?_
    show ((do return (.ifCond .le (← Reader.s2)) : Decoder Instr)) c (pc + 1) = _
    rw [← h4]
    rw [b_q (s2_q h2 h3)]
    rfl
  rw [de_q e, Nat.add_sub_cancel_left]
theorem kq_159 {c : ByteArray} {pc a b : Nat} {x : Int} {L : Nat → Nat → Bool} (hL : ∀ p v, L p v = true → byq c p v = true) (h : (L pc 159 && (L (pc + 1) a && (L (pc + 1 + 1) b && decide (Reader.signed 16 (a * 256 + b) = x)))) = true) : decode c pc = .ok (.if_icmp .eq x, 3) := by
  obtain ⟨h1, h⟩ := an_q h
  obtain ⟨h2, h⟩ := an_q h
  obtain ⟨h3, h4⟩ := an_q h
  have h1 := hL _ _ h1
  have h2 := hL _ _ h2
  have h3 := hL _ _ h3
  have h4 := of_decide_eq_true h4
  have e : Decoder.instr pc c pc = .ok (.if_icmp .eq x, pc + 3) := by
    unfold Decoder.instr
    refine (b_q (u1_q h1)).trans ?_
    show ((do return (.if_icmp .eq (← Reader.s2)) : Decoder Instr)) c (pc + 1) = _
    rw [← h4]
    rw [b_q (s2_q h2 h3)]
    rfl
  rw [de_q e, Nat.add_sub_cancel_left]
theorem kq_160 {c : ByteArray} {pc a b : Nat} {x : Int} {L : Nat → Nat → Bool} (hL : ∀ p v, L p v = true → byq c p v = true) (h : (L pc 160 && (L (pc + 1) a && (L (pc + 1 + 1) b && decide (Reader.signed 16 (a * 256 + b) = x)))) = true) : decode c pc = .ok (.if_icmp .ne x, 3) := by
  obtain ⟨h1, h⟩ := an_q h
  obtain ⟨h2, h⟩ := an_q h
  obtain ⟨h3, h4⟩ := an_q h
  have h1 := hL _ _ h1
  have h2 := hL _ _ h2
  have h3 := hL _ _ h3
  have h4 := of_decide_eq_true h4
  have e : Decoder.instr pc c pc = .ok (.if_icmp .ne x, pc + 3) := by
    unfold Decoder.instr
    refine (b_q (u1_q h1)).trans ?_
    show ((do return (.if_icmp .ne (← Reader.s2)) : Decoder Instr)) c (pc + 1) = _
    rw [← h4]
    rw [b_q (s2_q h2 h3)]
    rfl
  rw [de_q e, Nat.add_sub_cancel_left]
theorem kq_161 {c : ByteArray} {pc a b : Nat} {x : Int} {L : Nat → Nat → Bool} (hL : ∀ p v, L p v = true → byq c p v = true) (h : (L pc 161 && (L (pc + 1) a && (L (pc + 1 + 1) b && decide (Reader.signed 16 (a * 256 + b) = x)))) = true) : decode c pc = .ok (.if_icmp .lt x, 3) := by
  obtain ⟨h1, h⟩ := an_q h
  obtain ⟨h2, h⟩ := an_q h
  obtain ⟨h3, h4⟩ := an_q h
  have h1 := hL _ _ h1
  have h2 := hL _ _ h2
  have h3 := hL _ _ h3
  have h4 := of_decide_eq_true h4
  have e : Decoder.instr pc c pc = .ok (.if_icmp .lt x, pc + 3) := by
    unfold Decoder.instr
    refine (b_q (u1_q h1)).trans ?_
    show ((do return (.if_icmp .lt (← Reader.s2)) : Decoder Instr)) c (pc + 1) = _
    rw [← h4]
    rw [b_q (s2_q h2 h3)]
    rfl
  rw [de_q e, Nat.add_sub_cancel_left]
theorem kq_162 {c : ByteArray} {pc a b : Nat} {x : Int} {L : Nat → Nat → Bool} (hL : ∀ p v, L p v = true → byq c p v = true) (h : (L pc 162 && (L (pc + 1) a && (L (pc + 1 + 1) b && decide (Reader.signed 16 (a * 256 + b) = x)))) = true) : decode c pc = .ok (.if_icmp .ge x, 3) := by
  obtain ⟨h1, h⟩ := an_q h
  obtain ⟨h2, h⟩ := an_q h
  obtain ⟨h3, h4⟩ := an_q h
  have h1 := hL _ _ h1
  have h2 := hL _ _ h2
  have h3 := hL _ _ h3
  have h4 := of_decide_eq_true h4
  have e : Decoder.instr pc c pc = .ok (.if_icmp .ge x, pc + 3) := by
    unfold Decoder.instr
    refine (b_q (u1_q h1)).trans ?_
    show ((do return (.if_icmp .ge (← Reader.s2)) : Decoder Instr)) c (pc + 1) = _
    rw [← h4]
    rw [b_q (s2_q h2 h3)]
    rfl
  rw [de_q e, Nat.add_sub_cancel_left]
theorem kq_163 {c : ByteArray} {pc a b : Nat} {x : Int} {L : Nat → Nat → Bool} (hL : ∀ p v, L p v = true → byq c p v = true) (h : (L pc 163 && (L (pc + 1) a && (L (pc + 1 + 1) b && decide (Reader.signed 16 (a * 256 + b) = x)))) = true) : decode c pc = .ok (.if_icmp .gt x, 3) := by
  obtain ⟨h1, h⟩ := an_q h
  obtain ⟨h2, h⟩ := an_q h
  obtain ⟨h3, h4⟩ := an_q h
  have h1 := hL _ _ h1
  have h2 := hL _ _ h2
  have h3 := hL _ _ h3
  have h4 := of_decide_eq_true h4
  have e : Decoder.instr pc c pc = .ok (.if_icmp .gt x, pc + 3) := by
    unfold Decoder.instr
    refine (b_q (u1_q h1)).trans ?_
    show ((do return (.if_icmp .gt (← Reader.s2)) : Decoder Instr)) c (pc + 1) = _
    rw [← h4]
    rw [b_q (s2_q h2 h3)]
    rfl
  rw [de_q e, Nat.add_sub_cancel_left]
theorem kq_164 {c : ByteArray} {pc a b : Nat} {x : Int} {L : Nat → Nat → Bool} (hL : ∀ p v, L p v = true → byq c p v = true) (h : (L pc 164 && (L (pc + 1) a && (L (pc + 1 + 1) b && decide (Reader.signed 16 (a * 256 + b) = x)))) = true) : decode c pc = .ok (.if_icmp .le x, 3) := by
  obtain ⟨h1, h⟩ := an_q h
  obtain ⟨h2, h⟩ := an_q h
  obtain ⟨h3, h4⟩ := an_q h
  have h1 := hL _ _ h1
  have h2 := hL _ _ h2
  have h3 := hL _ _ h3
  have h4 := of_decide_eq_true h4
  have e : Decoder.instr pc c pc = .ok (.if_icmp .le x, pc + 3) := by
    unfold Decoder.instr
    refine (b_q (u1_q h1)).trans ?_
    show ((do return (.if_icmp .le (← Reader.s2)) : Decoder Instr)) c (pc + 1) = _
    rw [← h4]
    rw [b_q (s2_q h2 h3)]
    rfl
  rw [de_q e, Nat.add_sub_cancel_left]
theorem kq_167 {c : ByteArray} {pc a b : Nat} {x : Int} {L : Nat → Nat → Bool} (hL : ∀ p v, L p v = true → byq c p v = true) (h : (L pc 167 && (L (pc + 1) a && (L (pc + 1 + 1) b && decide (Reader.signed 16 (a * 256 + b) = x)))) = true) : decode c pc = .ok (.goto x, 3) := by
  obtain ⟨h1, h⟩ := an_q h
  obtain ⟨h2, h⟩ := an_q h
  obtain ⟨h3, h4⟩ := an_q h
  have h1 := hL _ _ h1
  have h2 := hL _ _ h2
  have h3 := hL _ _ h3
  have h4 := of_decide_eq_true h4
  have e : Decoder.instr pc c pc = .ok (.goto x, pc + 3) := by
    unfold Decoder.instr
    refine (b_q (u1_q h1)).trans ?_
    show ((do return (.goto (← Reader.s2)) : Decoder Instr)) c (pc + 1) = _
    rw [← h4]
    rw [b_q (s2_q h2 h3)]
    rfl
  rw [de_q e, Nat.add_sub_cancel_left]
theorem kq_172 {c : ByteArray} {pc : Nat} {L : Nat → Nat → Bool} (hL : ∀ p v, L p v = true → byq c p v = true) (h : L pc 172 = true) : decode c pc = .ok (.ireturn, 1) := by
  have e : Decoder.instr pc c pc = .ok (.ireturn, pc + 1) := by
    unfold Decoder.instr
    exact (b_q (u1_q (hL _ _ h))).trans rfl
  rw [de_q e, Nat.add_sub_cancel_left]
theorem kq_173 {c : ByteArray} {pc : Nat} {L : Nat → Nat → Bool} (hL : ∀ p v, L p v = true → byq c p v = true) (h : L pc 173 = true) : decode c pc = .ok (.lreturn, 1) := by
  have e : Decoder.instr pc c pc = .ok (.lreturn, pc + 1) := by
    unfold Decoder.instr
    exact (b_q (u1_q (hL _ _ h))).trans rfl
  rw [de_q e, Nat.add_sub_cancel_left]
theorem kq_177 {c : ByteArray} {pc : Nat} {L : Nat → Nat → Bool} (hL : ∀ p v, L p v = true → byq c p v = true) (h : L pc 177 = true) : decode c pc = .ok (.return_, 1) := by
  have e : Decoder.instr pc c pc = .ok (.return_, pc + 1) := by
    unfold Decoder.instr
    exact (b_q (u1_q (hL _ _ h))).trans rfl
  rw [de_q e, Nat.add_sub_cancel_left]
theorem kq_180 {c : ByteArray} {pc a b x : Nat} {L : Nat → Nat → Bool} (hL : ∀ p v, L p v = true → byq c p v = true) (h : (L pc 180 && (L (pc + 1) a && (L (pc + 1 + 1) b && Nat.beq (a * 256 + b) x))) = true) : decode c pc = .ok (.getfield x, 3) := by
  obtain ⟨h1, h⟩ := an_q h
  obtain ⟨h2, h⟩ := an_q h
  obtain ⟨h3, h4⟩ := an_q h
  have h1 := hL _ _ h1
  have h2 := hL _ _ h2
  have h3 := hL _ _ h3
  have h4 := Nat.eq_of_beq_eq_true h4
  have e : Decoder.instr pc c pc = .ok (.getfield x, pc + 3) := by
    unfold Decoder.instr
    refine (b_q (u1_q h1)).trans ?_
    show ((do return (.getfield (← Reader.u2)) : Decoder Instr)) c (pc + 1) = _
    rw [← h4]
    rw [b_q (u2_q h2 h3)]
    rfl
  rw [de_q e, Nat.add_sub_cancel_left]
theorem kq_181 {c : ByteArray} {pc a b x : Nat} {L : Nat → Nat → Bool} (hL : ∀ p v, L p v = true → byq c p v = true) (h : (L pc 181 && (L (pc + 1) a && (L (pc + 1 + 1) b && Nat.beq (a * 256 + b) x))) = true) : decode c pc = .ok (.putfield x, 3) := by
  obtain ⟨h1, h⟩ := an_q h
  obtain ⟨h2, h⟩ := an_q h
  obtain ⟨h3, h4⟩ := an_q h
  have h1 := hL _ _ h1
  have h2 := hL _ _ h2
  have h3 := hL _ _ h3
  have h4 := Nat.eq_of_beq_eq_true h4
  have e : Decoder.instr pc c pc = .ok (.putfield x, pc + 3) := by
    unfold Decoder.instr
    refine (b_q (u1_q h1)).trans ?_
    show ((do return (.putfield (← Reader.u2)) : Decoder Instr)) c (pc + 1) = _
    rw [← h4]
    rw [b_q (u2_q h2 h3)]
    rfl
  rw [de_q e, Nat.add_sub_cancel_left]
theorem kq_182 {c : ByteArray} {pc a b x : Nat} {L : Nat → Nat → Bool} (hL : ∀ p v, L p v = true → byq c p v = true) (h : (L pc 182 && (L (pc + 1) a && (L (pc + 1 + 1) b && Nat.beq (a * 256 + b) x))) = true) : decode c pc = .ok (.invokevirtual x, 3) := by
  obtain ⟨h1, h⟩ := an_q h
  obtain ⟨h2, h⟩ := an_q h
  obtain ⟨h3, h4⟩ := an_q h
  have h1 := hL _ _ h1
  have h2 := hL _ _ h2
  have h3 := hL _ _ h3
  have h4 := Nat.eq_of_beq_eq_true h4
  have e : Decoder.instr pc c pc = .ok (.invokevirtual x, pc + 3) := by
    unfold Decoder.instr
    refine (b_q (u1_q h1)).trans ?_
    show ((do return (.invokevirtual (← Reader.u2)) : Decoder Instr)) c (pc + 1) = _
    rw [← h4]
    rw [b_q (u2_q h2 h3)]
    rfl
  rw [de_q e, Nat.add_sub_cancel_left]
theorem kq_183 {c : ByteArray} {pc a b x : Nat} {L : Nat → Nat → Bool} (hL : ∀ p v, L p v = true → byq c p v = true) (h : (L pc 183 && (L (pc + 1) a && (L (pc + 1 + 1) b && Nat.beq (a * 256 + b) x))) = true) : decode c pc = .ok (.invokespecial x, 3) := by
  obtain ⟨h1, h⟩ := an_q h
  obtain ⟨h2, h⟩ := an_q h
  obtain ⟨h3, h4⟩ := an_q h
  have h1 := hL _ _ h1
  have h2 := hL _ _ h2
  have h3 := hL _ _ h3
  have h4 := Nat.eq_of_beq_eq_true h4
  have e : Decoder.instr pc c pc = .ok (.invokespecial x, pc + 3) := by
    unfold Decoder.instr
    refine (b_q (u1_q h1)).trans ?_
    show ((do return (.invokespecial (← Reader.u2)) : Decoder Instr)) c (pc + 1) = _
    rw [← h4]
    rw [b_q (u2_q h2 h3)]
    rfl
  rw [de_q e, Nat.add_sub_cancel_left]
theorem kq_184 {c : ByteArray} {pc a b x : Nat} {L : Nat → Nat → Bool} (hL : ∀ p v, L p v = true → byq c p v = true) (h : (L pc 184 && (L (pc + 1) a && (L (pc + 1 + 1) b && Nat.beq (a * 256 + b) x))) = true) : decode c pc = .ok (.invokestatic x, 3) := by
  obtain ⟨h1, h⟩ := an_q h
  obtain ⟨h2, h⟩ := an_q h
  obtain ⟨h3, h4⟩ := an_q h
  have h1 := hL _ _ h1
  have h2 := hL _ _ h2
  have h3 := hL _ _ h3
  have h4 := Nat.eq_of_beq_eq_true h4
  have e : Decoder.instr pc c pc = .ok (.invokestatic x, pc + 3) := by
    unfold Decoder.instr
    refine (b_q (u1_q h1)).trans ?_
    show ((do return (.invokestatic (← Reader.u2)) : Decoder Instr)) c (pc + 1) = _
    rw [← h4]
    rw [b_q (u2_q h2 h3)]
    rfl
  rw [de_q e, Nat.add_sub_cancel_left]
theorem kq_187 {c : ByteArray} {pc a b x : Nat} {L : Nat → Nat → Bool} (hL : ∀ p v, L p v = true → byq c p v = true) (h : (L pc 187 && (L (pc + 1) a && (L (pc + 1 + 1) b && Nat.beq (a * 256 + b) x))) = true) : decode c pc = .ok (.new x, 3) := by
  obtain ⟨h1, h⟩ := an_q h
  obtain ⟨h2, h⟩ := an_q h
  obtain ⟨h3, h4⟩ := an_q h
  have h1 := hL _ _ h1
  have h2 := hL _ _ h2
  have h3 := hL _ _ h3
  have h4 := Nat.eq_of_beq_eq_true h4
  have e : Decoder.instr pc c pc = .ok (.new x, pc + 3) := by
    unfold Decoder.instr
    refine (b_q (u1_q h1)).trans ?_
    show ((do return (.new (← Reader.u2)) : Decoder Instr)) c (pc + 1) = _
    rw [← h4]
    rw [b_q (u2_q h2 h3)]
    rfl
  rw [de_q e, Nat.add_sub_cancel_left]
theorem kq_189 {c : ByteArray} {pc a b x : Nat} {L : Nat → Nat → Bool} (hL : ∀ p v, L p v = true → byq c p v = true) (h : (L pc 189 && (L (pc + 1) a && (L (pc + 1 + 1) b && Nat.beq (a * 256 + b) x))) = true) : decode c pc = .ok (.anewarray x, 3) := by
  obtain ⟨h1, h⟩ := an_q h
  obtain ⟨h2, h⟩ := an_q h
  obtain ⟨h3, h4⟩ := an_q h
  have h1 := hL _ _ h1
  have h2 := hL _ _ h2
  have h3 := hL _ _ h3
  have h4 := Nat.eq_of_beq_eq_true h4
  have e : Decoder.instr pc c pc = .ok (.anewarray x, pc + 3) := by
    unfold Decoder.instr
    refine (b_q (u1_q h1)).trans ?_
    show ((do return (.anewarray (← Reader.u2)) : Decoder Instr)) c (pc + 1) = _
    rw [← h4]
    rw [b_q (u2_q h2 h3)]
    rfl
  rw [de_q e, Nat.add_sub_cancel_left]
theorem kq_190 {c : ByteArray} {pc : Nat} {L : Nat → Nat → Bool} (hL : ∀ p v, L p v = true → byq c p v = true) (h : L pc 190 = true) : decode c pc = .ok (.arraylength, 1) := by
  have e : Decoder.instr pc c pc = .ok (.arraylength, pc + 1) := by
    unfold Decoder.instr
    exact (b_q (u1_q (hL _ _ h))).trans rfl
  rw [de_q e, Nat.add_sub_cancel_left]
theorem kq_191 {c : ByteArray} {pc : Nat} {L : Nat → Nat → Bool} (hL : ∀ p v, L p v = true → byq c p v = true) (h : L pc 191 = true) : decode c pc = .ok (.athrow, 1) := by
  have e : Decoder.instr pc c pc = .ok (.athrow, pc + 1) := by
    unfold Decoder.instr
    exact (b_q (u1_q (hL _ _ h))).trans rfl
  rw [de_q e, Nat.add_sub_cancel_left]
theorem kq_199 {c : ByteArray} {pc a b : Nat} {x : Int} {L : Nat → Nat → Bool} (hL : ∀ p v, L p v = true → byq c p v = true) (h : (L pc 199 && (L (pc + 1) a && (L (pc + 1 + 1) b && decide (Reader.signed 16 (a * 256 + b) = x)))) = true) : decode c pc = .ok (.ifnonnull x, 3) := by
  obtain ⟨h1, h⟩ := an_q h
  obtain ⟨h2, h⟩ := an_q h
  obtain ⟨h3, h4⟩ := an_q h
  have h1 := hL _ _ h1
  have h2 := hL _ _ h2
  have h3 := hL _ _ h3
  have h4 := of_decide_eq_true h4
  have e : Decoder.instr pc c pc = .ok (.ifnonnull x, pc + 3) := by
    unfold Decoder.instr
    refine (b_q (u1_q h1)).trans ?_
    show ((do return (.ifnonnull (← Reader.s2)) : Decoder Instr)) c (pc + 1) = _
    rw [← h4]
    rw [b_q (s2_q h2 h3)]
    rfl
  rw [de_q e, Nat.add_sub_cancel_left]
