/-! A DECODER OF OUR OWN: what a row of 'decode' says, found out by one walk along the code. -/
theorem fd_lt {l : List UInt8} {pc : Nat} {b : UInt8} {r : List UInt8} (h : l.drop pc = b :: r) : pc < l.length := by
  have h2 := congrArg List.length h
  rw [List.length_drop, List.length_cons] at h2
  omega
theorem fd_hd {l : List UInt8} {pc : Nat} {b : UInt8} {r : List UInt8} (h : l.drop pc = b :: r) : l[pc]'(fd_lt h) = b := by
  have h2 := List.drop_eq_getElem_cons (fd_lt h)
  rw [h] at h2
  exact (List.cons.inj h2).1.symm
theorem fd_tl {l : List UInt8} {pc : Nat} {b : UInt8} {r : List UInt8} (h : l.drop pc = b :: r) : l.drop (pc + 1) = r := by
  have h2 := List.drop_eq_getElem_cons (fd_lt h)
  rw [h] at h2
  exact (List.cons.inj h2).2.symm
theorem fd_u1 {l : List UInt8} {pc : Nat} {b : UInt8} {r : List UInt8} (h : l.drop pc = b :: r) :
    (Jvm.ClassFile.Reader.u1 : Jvm.ClassFile.Decoder Nat) ⟨⟨l⟩⟩ pc = .ok (b.toNat, pc + 1) := by
  have e : (Jvm.ClassFile.Reader.u1 : Jvm.ClassFile.Decoder Nat) ⟨⟨l⟩⟩ pc = (dite (pc < l.length) (fun q => ((do set (pc + 1); pure ((l[pc]'q).toNat)) : Jvm.ClassFile.Decoder Nat)) (fun _ => throw (Jvm.ClassFile.HasTruncated.truncated pc)) : Jvm.ClassFile.Decoder Nat) ⟨⟨l⟩⟩ pc := rfl
  rw [e, dif_pos (fd_lt h), fd_hd h]
  rfl
theorem fd_k {α β : Type} {rd : Jvm.ClassFile.Decoder β} {f : β → Jvm.ClassFile.Decoder α} {l : List UInt8} {pc q : Nat} {v : β} {x : Except Jvm.ClassFile.DecodeError (α × Nat)}
    (h : rd ⟨⟨l⟩⟩ pc = .ok (v, q)) (hf : f v ⟨⟨l⟩⟩ q = x) : (rd >>= f : Jvm.ClassFile.Decoder α) ⟨⟨l⟩⟩ pc = x := by
  have e : (rd >>= f : Jvm.ClassFile.Decoder α) ⟨⟨l⟩⟩ pc = Except.bind (rd ⟨⟨l⟩⟩ pc) (fun p => f p.1 ⟨⟨l⟩⟩ p.2) := rfl
  rw [e, h]
  exact hf
theorem fd_s1 {l : List UInt8} {pc : Nat} {b : UInt8} {r : List UInt8} (h : l.drop pc = b :: r) :
    (Jvm.ClassFile.Reader.s1 : Jvm.ClassFile.Decoder Int) ⟨⟨l⟩⟩ pc = .ok (Jvm.ClassFile.Reader.signed 8 b.toNat, pc + 1) := by
  have e : (Jvm.ClassFile.Reader.s1 : Jvm.ClassFile.Decoder Int) ⟨⟨l⟩⟩ pc = Except.bind ((Jvm.ClassFile.Reader.u1 : Jvm.ClassFile.Decoder Nat) ⟨⟨l⟩⟩ pc) (fun p => .ok (Jvm.ClassFile.Reader.signed 8 p.1, p.2)) := rfl
  rw [e, fd_u1 h]
  rfl
theorem fd_u2 {l : List UInt8} {pc : Nat} {a b : UInt8} {r : List UInt8} (h : l.drop pc = a :: b :: r) :
    (Jvm.ClassFile.Reader.u2 : Jvm.ClassFile.Decoder Nat) ⟨⟨l⟩⟩ pc = .ok (a.toNat * 256 + b.toNat, pc + 2) := by
  delta Jvm.ClassFile.Reader.u2
  exact fd_k (fd_u1 h) (fd_k (fd_u1 (fd_tl h)) rfl)
theorem fd_s2 {l : List UInt8} {pc : Nat} {a b : UInt8} {r : List UInt8} (h : l.drop pc = a :: b :: r) :
    (Jvm.ClassFile.Reader.s2 : Jvm.ClassFile.Decoder Int) ⟨⟨l⟩⟩ pc = .ok (Jvm.ClassFile.Reader.signed 16 (a.toNat * 256 + b.toNat), pc + 2) := by
  have e : (Jvm.ClassFile.Reader.s2 : Jvm.ClassFile.Decoder Int) ⟨⟨l⟩⟩ pc = Except.bind ((Jvm.ClassFile.Reader.u2 : Jvm.ClassFile.Decoder Nat) ⟨⟨l⟩⟩ pc) (fun p => .ok (Jvm.ClassFile.Reader.signed 16 p.1, p.2)) := rfl
  rw [e, fd_u2 h]
  rfl
theorem fd_z {l : List UInt8} {pc n n' : Nat} {i i' : Jvm.ClassFile.Instr} (e : some (i', n') = some (i, n))
    (hi : Jvm.ClassFile.Decoder.instr pc ⟨⟨l⟩⟩ pc = .ok (i', pc + n')) : decode ⟨⟨l⟩⟩ pc = .ok (i, n) := by
  have e1 : i' = i := congrArg Prod.fst (Option.some.inj e)
  have e2 : n' = n := congrArg Prod.snd (Option.some.inj e)
  subst e1
  subst e2
  have e3 : decode ⟨⟨l⟩⟩ pc = Except.bind (Jvm.ClassFile.Decoder.instr pc ⟨⟨l⟩⟩ pc) (fun p => .ok (p.1, p.2 - pc)) := rfl
  rw [e3, hi]
  show Except.ok (i', pc + n' - pc) = _
  rw [Nat.add_sub_cancel_left]
def fd_P (o : Nat) (ev : List UInt8 → Option (Jvm.ClassFile.Instr × Nat)) : Prop :=
  ∀ (l : List UInt8) (pc : Nat) (b : UInt8) (r : List UInt8) (i : Jvm.ClassFile.Instr) (n : Nat), l.drop pc = b :: r → b.toNat = o → ev r = some (i, n) → decode ⟨⟨l⟩⟩ pc = .ok (i, n)
def fd_E : Type := {e : Nat × (List UInt8 → Option (Jvm.ClassFile.Instr × Nat)) // fd_P e.1 e.2}
def fd_u1e (f : Nat → Jvm.ClassFile.Instr) (r : List UInt8) : Option (Jvm.ClassFile.Instr × Nat) :=
  match r with
  | a :: _ => some (f a.toNat, 2)
  | [] => none
def fd_s1e (f : Int → Jvm.ClassFile.Instr) (r : List UInt8) : Option (Jvm.ClassFile.Instr × Nat) :=
  match r with
  | a :: _ => some (f (Jvm.ClassFile.Reader.signed 8 a.toNat), 2)
  | [] => none
def fd_u2e (f : Nat → Jvm.ClassFile.Instr) (r : List UInt8) : Option (Jvm.ClassFile.Instr × Nat) :=
  match r with
  | a :: b :: _ => some (f (a.toNat * 256 + b.toNat), 3)
  | _ => none
def fd_s2e (f : Int → Jvm.ClassFile.Instr) (r : List UInt8) : Option (Jvm.ClassFile.Instr × Nat) :=
  match r with
  | a :: b :: _ => some (f (Jvm.ClassFile.Reader.signed 16 (a.toNat * 256 + b.toNat)), 3)
  | _ => none
def fd_ie (f : Nat → Int → Jvm.ClassFile.Instr) (r : List UInt8) : Option (Jvm.ClassFile.Instr × Nat) :=
  match r with
  | a :: b :: _ => some (f a.toNat (Jvm.ClassFile.Reader.signed 8 b.toNat), 3)
  | _ => none
theorem fd_u1p {f : Nat → Jvm.ClassFile.Instr} {l : List UInt8} {pc n : Nat} {b : UInt8} {r : List UInt8} {i : Jvm.ClassFile.Instr} (h : l.drop pc = b :: r) (e : fd_u1e f r = some (i, n))
    (k : ∀ x, (((Jvm.ClassFile.Reader.u1 : Jvm.ClassFile.Decoder Nat) >>= fun v => pure (f v)) : Jvm.ClassFile.Decoder Jvm.ClassFile.Instr) ⟨⟨l⟩⟩ (pc + 1) = x → Jvm.ClassFile.Decoder.instr pc ⟨⟨l⟩⟩ pc = x) : decode ⟨⟨l⟩⟩ pc = .ok (i, n) := by
  cases r with
  | nil => cases e
  | cons a t => exact fd_z (n' := 2) e (k _ (fd_k (fd_u1 (fd_tl h)) rfl))
theorem fd_s1p {f : Int → Jvm.ClassFile.Instr} {l : List UInt8} {pc n : Nat} {b : UInt8} {r : List UInt8} {i : Jvm.ClassFile.Instr} (h : l.drop pc = b :: r) (e : fd_s1e f r = some (i, n))
    (k : ∀ x, (((Jvm.ClassFile.Reader.s1 : Jvm.ClassFile.Decoder Int) >>= fun v => pure (f v)) : Jvm.ClassFile.Decoder Jvm.ClassFile.Instr) ⟨⟨l⟩⟩ (pc + 1) = x → Jvm.ClassFile.Decoder.instr pc ⟨⟨l⟩⟩ pc = x) : decode ⟨⟨l⟩⟩ pc = .ok (i, n) := by
  cases r with
  | nil => cases e
  | cons a t => exact fd_z (n' := 2) e (k _ (fd_k (fd_s1 (fd_tl h)) rfl))
theorem fd_u2p {f : Nat → Jvm.ClassFile.Instr} {l : List UInt8} {pc n : Nat} {b : UInt8} {r : List UInt8} {i : Jvm.ClassFile.Instr} (h : l.drop pc = b :: r) (e : fd_u2e f r = some (i, n))
    (k : ∀ x, (((Jvm.ClassFile.Reader.u2 : Jvm.ClassFile.Decoder Nat) >>= fun v => pure (f v)) : Jvm.ClassFile.Decoder Jvm.ClassFile.Instr) ⟨⟨l⟩⟩ (pc + 1) = x → Jvm.ClassFile.Decoder.instr pc ⟨⟨l⟩⟩ pc = x) : decode ⟨⟨l⟩⟩ pc = .ok (i, n) := by
  cases r with
  | nil => cases e
  | cons a t =>
    cases t with
    | nil => cases e
    | cons a2 t => exact fd_z (n' := 3) e (k _ (fd_k (fd_u2 (fd_tl h)) rfl))
theorem fd_s2p {f : Int → Jvm.ClassFile.Instr} {l : List UInt8} {pc n : Nat} {b : UInt8} {r : List UInt8} {i : Jvm.ClassFile.Instr} (h : l.drop pc = b :: r) (e : fd_s2e f r = some (i, n))
    (k : ∀ x, (((Jvm.ClassFile.Reader.s2 : Jvm.ClassFile.Decoder Int) >>= fun v => pure (f v)) : Jvm.ClassFile.Decoder Jvm.ClassFile.Instr) ⟨⟨l⟩⟩ (pc + 1) = x → Jvm.ClassFile.Decoder.instr pc ⟨⟨l⟩⟩ pc = x) : decode ⟨⟨l⟩⟩ pc = .ok (i, n) := by
  cases r with
  | nil => cases e
  | cons a t =>
    cases t with
    | nil => cases e
    | cons a2 t => exact fd_z (n' := 3) e (k _ (fd_k (fd_s2 (fd_tl h)) rfl))
theorem fd_ip {f : Nat → Int → Jvm.ClassFile.Instr} {l : List UInt8} {pc n : Nat} {b : UInt8} {r : List UInt8} {i : Jvm.ClassFile.Instr} (h : l.drop pc = b :: r) (e : fd_ie f r = some (i, n))
    (k : ∀ x, (((Jvm.ClassFile.Reader.u1 : Jvm.ClassFile.Decoder Nat) >>= fun v => (Jvm.ClassFile.Reader.s1 : Jvm.ClassFile.Decoder Int) >>= fun w => pure (f v w)) : Jvm.ClassFile.Decoder Jvm.ClassFile.Instr) ⟨⟨l⟩⟩ (pc + 1) = x → Jvm.ClassFile.Decoder.instr pc ⟨⟨l⟩⟩ pc = x) : decode ⟨⟨l⟩⟩ pc = .ok (i, n) := by
  cases r with
  | nil => cases e
  | cons a t =>
    cases t with
    | nil => cases e
    | cons a2 t => exact fd_z (n' := 3) e (k _ (fd_k (fd_u1 (fd_tl h)) (fd_k (fd_s1 (fd_tl (fd_tl h))) rfl)))
theorem fp_2 : fd_P 2 (fun _ => some ((Jvm.ClassFile.Instr.iconst (-1)), 1)) := by
  intro l pc b r i n h hb e
  have h1 := fd_u1 h
  rw [hb] at h1
  exact fd_z e (by delta Jvm.ClassFile.Decoder.instr; exact fd_k h1 rfl)
def fe_2 : fd_E := ⟨(2, fun _ => some ((Jvm.ClassFile.Instr.iconst (-1)), 1)), fp_2⟩
theorem fp_3 : fd_P 3 (fun _ => some ((Jvm.ClassFile.Instr.iconst 0), 1)) := by
  intro l pc b r i n h hb e
  have h1 := fd_u1 h
  rw [hb] at h1
  exact fd_z e (by delta Jvm.ClassFile.Decoder.instr; exact fd_k h1 rfl)
def fe_3 : fd_E := ⟨(3, fun _ => some ((Jvm.ClassFile.Instr.iconst 0), 1)), fp_3⟩
theorem fp_4 : fd_P 4 (fun _ => some ((Jvm.ClassFile.Instr.iconst 1), 1)) := by
  intro l pc b r i n h hb e
  have h1 := fd_u1 h
  rw [hb] at h1
  exact fd_z e (by delta Jvm.ClassFile.Decoder.instr; exact fd_k h1 rfl)
def fe_4 : fd_E := ⟨(4, fun _ => some ((Jvm.ClassFile.Instr.iconst 1), 1)), fp_4⟩
theorem fp_5 : fd_P 5 (fun _ => some ((Jvm.ClassFile.Instr.iconst 2), 1)) := by
  intro l pc b r i n h hb e
  have h1 := fd_u1 h
  rw [hb] at h1
  exact fd_z e (by delta Jvm.ClassFile.Decoder.instr; exact fd_k h1 rfl)
def fe_5 : fd_E := ⟨(5, fun _ => some ((Jvm.ClassFile.Instr.iconst 2), 1)), fp_5⟩
theorem fp_6 : fd_P 6 (fun _ => some ((Jvm.ClassFile.Instr.iconst 3), 1)) := by
  intro l pc b r i n h hb e
  have h1 := fd_u1 h
  rw [hb] at h1
  exact fd_z e (by delta Jvm.ClassFile.Decoder.instr; exact fd_k h1 rfl)
def fe_6 : fd_E := ⟨(6, fun _ => some ((Jvm.ClassFile.Instr.iconst 3), 1)), fp_6⟩
theorem fp_7 : fd_P 7 (fun _ => some ((Jvm.ClassFile.Instr.iconst 4), 1)) := by
  intro l pc b r i n h hb e
  have h1 := fd_u1 h
  rw [hb] at h1
  exact fd_z e (by delta Jvm.ClassFile.Decoder.instr; exact fd_k h1 rfl)
def fe_7 : fd_E := ⟨(7, fun _ => some ((Jvm.ClassFile.Instr.iconst 4), 1)), fp_7⟩
theorem fp_8 : fd_P 8 (fun _ => some ((Jvm.ClassFile.Instr.iconst 5), 1)) := by
  intro l pc b r i n h hb e
  have h1 := fd_u1 h
  rw [hb] at h1
  exact fd_z e (by delta Jvm.ClassFile.Decoder.instr; exact fd_k h1 rfl)
def fe_8 : fd_E := ⟨(8, fun _ => some ((Jvm.ClassFile.Instr.iconst 5), 1)), fp_8⟩
theorem fp_9 : fd_P 9 (fun _ => some ((Jvm.ClassFile.Instr.lconst 0), 1)) := by
  intro l pc b r i n h hb e
  have h1 := fd_u1 h
  rw [hb] at h1
  exact fd_z e (by delta Jvm.ClassFile.Decoder.instr; exact fd_k h1 rfl)
def fe_9 : fd_E := ⟨(9, fun _ => some ((Jvm.ClassFile.Instr.lconst 0), 1)), fp_9⟩
theorem fp_10 : fd_P 10 (fun _ => some ((Jvm.ClassFile.Instr.lconst 1), 1)) := by
  intro l pc b r i n h hb e
  have h1 := fd_u1 h
  rw [hb] at h1
  exact fd_z e (by delta Jvm.ClassFile.Decoder.instr; exact fd_k h1 rfl)
def fe_10 : fd_E := ⟨(10, fun _ => some ((Jvm.ClassFile.Instr.lconst 1), 1)), fp_10⟩
theorem fp_16 : fd_P 16 (fd_s1e Jvm.ClassFile.Instr.bipush) := by
  intro l pc b r i n h hb e
  have h1 := fd_u1 h
  rw [hb] at h1
  exact fd_s1p (f := Jvm.ClassFile.Instr.bipush) h e (fun x w => by delta Jvm.ClassFile.Decoder.instr; exact fd_k h1 w)
def fe_16 : fd_E := ⟨(16, fd_s1e Jvm.ClassFile.Instr.bipush), fp_16⟩
theorem fp_17 : fd_P 17 (fd_s2e Jvm.ClassFile.Instr.sipush) := by
  intro l pc b r i n h hb e
  have h1 := fd_u1 h
  rw [hb] at h1
  exact fd_s2p (f := Jvm.ClassFile.Instr.sipush) h e (fun x w => by delta Jvm.ClassFile.Decoder.instr; exact fd_k h1 w)
def fe_17 : fd_E := ⟨(17, fd_s2e Jvm.ClassFile.Instr.sipush), fp_17⟩
theorem fp_18 : fd_P 18 (fd_u1e Jvm.ClassFile.Instr.ldc) := by
  intro l pc b r i n h hb e
  have h1 := fd_u1 h
  rw [hb] at h1
  exact fd_u1p (f := Jvm.ClassFile.Instr.ldc) h e (fun x w => by delta Jvm.ClassFile.Decoder.instr; exact fd_k h1 w)
def fe_18 : fd_E := ⟨(18, fd_u1e Jvm.ClassFile.Instr.ldc), fp_18⟩
theorem fp_20 : fd_P 20 (fd_u2e Jvm.ClassFile.Instr.ldc2_w) := by
  intro l pc b r i n h hb e
  have h1 := fd_u1 h
  rw [hb] at h1
  exact fd_u2p (f := Jvm.ClassFile.Instr.ldc2_w) h e (fun x w => by delta Jvm.ClassFile.Decoder.instr; exact fd_k h1 w)
def fe_20 : fd_E := ⟨(20, fd_u2e Jvm.ClassFile.Instr.ldc2_w), fp_20⟩
theorem fp_21 : fd_P 21 (fd_u1e Jvm.ClassFile.Instr.iload) := by
  intro l pc b r i n h hb e
  have h1 := fd_u1 h
  rw [hb] at h1
  exact fd_u1p (f := Jvm.ClassFile.Instr.iload) h e (fun x w => by delta Jvm.ClassFile.Decoder.instr; exact fd_k h1 w)
def fe_21 : fd_E := ⟨(21, fd_u1e Jvm.ClassFile.Instr.iload), fp_21⟩
theorem fp_22 : fd_P 22 (fd_u1e Jvm.ClassFile.Instr.lload) := by
  intro l pc b r i n h hb e
  have h1 := fd_u1 h
  rw [hb] at h1
  exact fd_u1p (f := Jvm.ClassFile.Instr.lload) h e (fun x w => by delta Jvm.ClassFile.Decoder.instr; exact fd_k h1 w)
def fe_22 : fd_E := ⟨(22, fd_u1e Jvm.ClassFile.Instr.lload), fp_22⟩
theorem fp_25 : fd_P 25 (fd_u1e Jvm.ClassFile.Instr.aload) := by
  intro l pc b r i n h hb e
  have h1 := fd_u1 h
  rw [hb] at h1
  exact fd_u1p (f := Jvm.ClassFile.Instr.aload) h e (fun x w => by delta Jvm.ClassFile.Decoder.instr; exact fd_k h1 w)
def fe_25 : fd_E := ⟨(25, fd_u1e Jvm.ClassFile.Instr.aload), fp_25⟩
theorem fp_26 : fd_P 26 (fun _ => some ((Jvm.ClassFile.Instr.iload_n 0), 1)) := by
  intro l pc b r i n h hb e
  have h1 := fd_u1 h
  rw [hb] at h1
  exact fd_z e (by delta Jvm.ClassFile.Decoder.instr; exact fd_k h1 rfl)
def fe_26 : fd_E := ⟨(26, fun _ => some ((Jvm.ClassFile.Instr.iload_n 0), 1)), fp_26⟩
theorem fp_27 : fd_P 27 (fun _ => some ((Jvm.ClassFile.Instr.iload_n 1), 1)) := by
  intro l pc b r i n h hb e
  have h1 := fd_u1 h
  rw [hb] at h1
  exact fd_z e (by delta Jvm.ClassFile.Decoder.instr; exact fd_k h1 rfl)
def fe_27 : fd_E := ⟨(27, fun _ => some ((Jvm.ClassFile.Instr.iload_n 1), 1)), fp_27⟩
theorem fp_28 : fd_P 28 (fun _ => some ((Jvm.ClassFile.Instr.iload_n 2), 1)) := by
  intro l pc b r i n h hb e
  have h1 := fd_u1 h
  rw [hb] at h1
  exact fd_z e (by delta Jvm.ClassFile.Decoder.instr; exact fd_k h1 rfl)
def fe_28 : fd_E := ⟨(28, fun _ => some ((Jvm.ClassFile.Instr.iload_n 2), 1)), fp_28⟩
theorem fp_29 : fd_P 29 (fun _ => some ((Jvm.ClassFile.Instr.iload_n 3), 1)) := by
  intro l pc b r i n h hb e
  have h1 := fd_u1 h
  rw [hb] at h1
  exact fd_z e (by delta Jvm.ClassFile.Decoder.instr; exact fd_k h1 rfl)
def fe_29 : fd_E := ⟨(29, fun _ => some ((Jvm.ClassFile.Instr.iload_n 3), 1)), fp_29⟩
theorem fp_32 : fd_P 32 (fun _ => some ((Jvm.ClassFile.Instr.lload_n 2), 1)) := by
  intro l pc b r i n h hb e
  have h1 := fd_u1 h
  rw [hb] at h1
  exact fd_z e (by delta Jvm.ClassFile.Decoder.instr; exact fd_k h1 rfl)
def fe_32 : fd_E := ⟨(32, fun _ => some ((Jvm.ClassFile.Instr.lload_n 2), 1)), fp_32⟩
theorem fp_42 : fd_P 42 (fun _ => some ((Jvm.ClassFile.Instr.aload_n 0), 1)) := by
  intro l pc b r i n h hb e
  have h1 := fd_u1 h
  rw [hb] at h1
  exact fd_z e (by delta Jvm.ClassFile.Decoder.instr; exact fd_k h1 rfl)
def fe_42 : fd_E := ⟨(42, fun _ => some ((Jvm.ClassFile.Instr.aload_n 0), 1)), fp_42⟩
theorem fp_43 : fd_P 43 (fun _ => some ((Jvm.ClassFile.Instr.aload_n 1), 1)) := by
  intro l pc b r i n h hb e
  have h1 := fd_u1 h
  rw [hb] at h1
  exact fd_z e (by delta Jvm.ClassFile.Decoder.instr; exact fd_k h1 rfl)
def fe_43 : fd_E := ⟨(43, fun _ => some ((Jvm.ClassFile.Instr.aload_n 1), 1)), fp_43⟩
theorem fp_44 : fd_P 44 (fun _ => some ((Jvm.ClassFile.Instr.aload_n 2), 1)) := by
  intro l pc b r i n h hb e
  have h1 := fd_u1 h
  rw [hb] at h1
  exact fd_z e (by delta Jvm.ClassFile.Decoder.instr; exact fd_k h1 rfl)
def fe_44 : fd_E := ⟨(44, fun _ => some ((Jvm.ClassFile.Instr.aload_n 2), 1)), fp_44⟩
theorem fp_46 : fd_P 46 (fun _ => some (Jvm.ClassFile.Instr.iaload, 1)) := by
  intro l pc b r i n h hb e
  have h1 := fd_u1 h
  rw [hb] at h1
  exact fd_z e (by delta Jvm.ClassFile.Decoder.instr; exact fd_k h1 rfl)
def fe_46 : fd_E := ⟨(46, fun _ => some (Jvm.ClassFile.Instr.iaload, 1)), fp_46⟩
theorem fp_50 : fd_P 50 (fun _ => some (Jvm.ClassFile.Instr.aaload, 1)) := by
  intro l pc b r i n h hb e
  have h1 := fd_u1 h
  rw [hb] at h1
  exact fd_z e (by delta Jvm.ClassFile.Decoder.instr; exact fd_k h1 rfl)
def fe_50 : fd_E := ⟨(50, fun _ => some (Jvm.ClassFile.Instr.aaload, 1)), fp_50⟩
theorem fp_51 : fd_P 51 (fun _ => some (Jvm.ClassFile.Instr.baload, 1)) := by
  intro l pc b r i n h hb e
  have h1 := fd_u1 h
  rw [hb] at h1
  exact fd_z e (by delta Jvm.ClassFile.Decoder.instr; exact fd_k h1 rfl)
def fe_51 : fd_E := ⟨(51, fun _ => some (Jvm.ClassFile.Instr.baload, 1)), fp_51⟩
theorem fp_54 : fd_P 54 (fd_u1e Jvm.ClassFile.Instr.istore) := by
  intro l pc b r i n h hb e
  have h1 := fd_u1 h
  rw [hb] at h1
  exact fd_u1p (f := Jvm.ClassFile.Instr.istore) h e (fun x w => by delta Jvm.ClassFile.Decoder.instr; exact fd_k h1 w)
def fe_54 : fd_E := ⟨(54, fd_u1e Jvm.ClassFile.Instr.istore), fp_54⟩
theorem fp_55 : fd_P 55 (fd_u1e Jvm.ClassFile.Instr.lstore) := by
  intro l pc b r i n h hb e
  have h1 := fd_u1 h
  rw [hb] at h1
  exact fd_u1p (f := Jvm.ClassFile.Instr.lstore) h e (fun x w => by delta Jvm.ClassFile.Decoder.instr; exact fd_k h1 w)
def fe_55 : fd_E := ⟨(55, fd_u1e Jvm.ClassFile.Instr.lstore), fp_55⟩
theorem fp_60 : fd_P 60 (fun _ => some ((Jvm.ClassFile.Instr.istore_n 1), 1)) := by
  intro l pc b r i n h hb e
  have h1 := fd_u1 h
  rw [hb] at h1
  exact fd_z e (by delta Jvm.ClassFile.Decoder.instr; exact fd_k h1 rfl)
def fe_60 : fd_E := ⟨(60, fun _ => some ((Jvm.ClassFile.Instr.istore_n 1), 1)), fp_60⟩
theorem fp_61 : fd_P 61 (fun _ => some ((Jvm.ClassFile.Instr.istore_n 2), 1)) := by
  intro l pc b r i n h hb e
  have h1 := fd_u1 h
  rw [hb] at h1
  exact fd_z e (by delta Jvm.ClassFile.Decoder.instr; exact fd_k h1 rfl)
def fe_61 : fd_E := ⟨(61, fun _ => some ((Jvm.ClassFile.Instr.istore_n 2), 1)), fp_61⟩
theorem fp_62 : fd_P 62 (fun _ => some ((Jvm.ClassFile.Instr.istore_n 3), 1)) := by
  intro l pc b r i n h hb e
  have h1 := fd_u1 h
  rw [hb] at h1
  exact fd_z e (by delta Jvm.ClassFile.Decoder.instr; exact fd_k h1 rfl)
def fe_62 : fd_E := ⟨(62, fun _ => some ((Jvm.ClassFile.Instr.istore_n 3), 1)), fp_62⟩
theorem fp_79 : fd_P 79 (fun _ => some (Jvm.ClassFile.Instr.iastore, 1)) := by
  intro l pc b r i n h hb e
  have h1 := fd_u1 h
  rw [hb] at h1
  exact fd_z e (by delta Jvm.ClassFile.Decoder.instr; exact fd_k h1 rfl)
def fe_79 : fd_E := ⟨(79, fun _ => some (Jvm.ClassFile.Instr.iastore, 1)), fp_79⟩
theorem fp_87 : fd_P 87 (fun _ => some (Jvm.ClassFile.Instr.pop, 1)) := by
  intro l pc b r i n h hb e
  have h1 := fd_u1 h
  rw [hb] at h1
  exact fd_z e (by delta Jvm.ClassFile.Decoder.instr; exact fd_k h1 rfl)
def fe_87 : fd_E := ⟨(87, fun _ => some (Jvm.ClassFile.Instr.pop, 1)), fp_87⟩
theorem fp_89 : fd_P 89 (fun _ => some (Jvm.ClassFile.Instr.dup, 1)) := by
  intro l pc b r i n h hb e
  have h1 := fd_u1 h
  rw [hb] at h1
  exact fd_z e (by delta Jvm.ClassFile.Decoder.instr; exact fd_k h1 rfl)
def fe_89 : fd_E := ⟨(89, fun _ => some (Jvm.ClassFile.Instr.dup, 1)), fp_89⟩
theorem fp_96 : fd_P 96 (fun _ => some (Jvm.ClassFile.Instr.iadd, 1)) := by
  intro l pc b r i n h hb e
  have h1 := fd_u1 h
  rw [hb] at h1
  exact fd_z e (by delta Jvm.ClassFile.Decoder.instr; exact fd_k h1 rfl)
def fe_96 : fd_E := ⟨(96, fun _ => some (Jvm.ClassFile.Instr.iadd, 1)), fp_96⟩
theorem fp_100 : fd_P 100 (fun _ => some (Jvm.ClassFile.Instr.isub, 1)) := by
  intro l pc b r i n h hb e
  have h1 := fd_u1 h
  rw [hb] at h1
  exact fd_z e (by delta Jvm.ClassFile.Decoder.instr; exact fd_k h1 rfl)
def fe_100 : fd_E := ⟨(100, fun _ => some (Jvm.ClassFile.Instr.isub, 1)), fp_100⟩
theorem fp_104 : fd_P 104 (fun _ => some (Jvm.ClassFile.Instr.imul, 1)) := by
  intro l pc b r i n h hb e
  have h1 := fd_u1 h
  rw [hb] at h1
  exact fd_z e (by delta Jvm.ClassFile.Decoder.instr; exact fd_k h1 rfl)
def fe_104 : fd_E := ⟨(104, fun _ => some (Jvm.ClassFile.Instr.imul, 1)), fp_104⟩
theorem fp_120 : fd_P 120 (fun _ => some (Jvm.ClassFile.Instr.ishl, 1)) := by
  intro l pc b r i n h hb e
  have h1 := fd_u1 h
  rw [hb] at h1
  exact fd_z e (by delta Jvm.ClassFile.Decoder.instr; exact fd_k h1 rfl)
def fe_120 : fd_E := ⟨(120, fun _ => some (Jvm.ClassFile.Instr.ishl, 1)), fp_120⟩
theorem fp_122 : fd_P 122 (fun _ => some (Jvm.ClassFile.Instr.ishr, 1)) := by
  intro l pc b r i n h hb e
  have h1 := fd_u1 h
  rw [hb] at h1
  exact fd_z e (by delta Jvm.ClassFile.Decoder.instr; exact fd_k h1 rfl)
def fe_122 : fd_E := ⟨(122, fun _ => some (Jvm.ClassFile.Instr.ishr, 1)), fp_122⟩
theorem fp_126 : fd_P 126 (fun _ => some (Jvm.ClassFile.Instr.iand, 1)) := by
  intro l pc b r i n h hb e
  have h1 := fd_u1 h
  rw [hb] at h1
  exact fd_z e (by delta Jvm.ClassFile.Decoder.instr; exact fd_k h1 rfl)
def fe_126 : fd_E := ⟨(126, fun _ => some (Jvm.ClassFile.Instr.iand, 1)), fp_126⟩
theorem fp_128 : fd_P 128 (fun _ => some (Jvm.ClassFile.Instr.ior, 1)) := by
  intro l pc b r i n h hb e
  have h1 := fd_u1 h
  rw [hb] at h1
  exact fd_z e (by delta Jvm.ClassFile.Decoder.instr; exact fd_k h1 rfl)
def fe_128 : fd_E := ⟨(128, fun _ => some (Jvm.ClassFile.Instr.ior, 1)), fp_128⟩
theorem fp_132 : fd_P 132 (fd_ie Jvm.ClassFile.Instr.iinc) := by
  intro l pc b r i n h hb e
  have h1 := fd_u1 h
  rw [hb] at h1
  exact fd_ip (f := Jvm.ClassFile.Instr.iinc) h e (fun x w => by delta Jvm.ClassFile.Decoder.instr; exact fd_k h1 w)
def fe_132 : fd_E := ⟨(132, fd_ie Jvm.ClassFile.Instr.iinc), fp_132⟩
theorem fp_133 : fd_P 133 (fun _ => some (Jvm.ClassFile.Instr.i2l, 1)) := by
  intro l pc b r i n h hb e
  have h1 := fd_u1 h
  rw [hb] at h1
  exact fd_z e (by delta Jvm.ClassFile.Decoder.instr; exact fd_k h1 rfl)
def fe_133 : fd_E := ⟨(133, fun _ => some (Jvm.ClassFile.Instr.i2l, 1)), fp_133⟩
theorem fp_153 : fd_P 153 (fd_s2e (Jvm.ClassFile.Instr.ifCond .eq)) := by
  intro l pc b r i n h hb e
  have h1 := fd_u1 h
  rw [hb] at h1
  exact fd_s2p (f := (Jvm.ClassFile.Instr.ifCond .eq)) h e (fun x w => by delta Jvm.ClassFile.Decoder.instr; exact fd_k h1 w)
def fe_153 : fd_E := ⟨(153, fd_s2e (Jvm.ClassFile.Instr.ifCond .eq)), fp_153⟩
theorem fp_154 : fd_P 154 (fd_s2e (Jvm.ClassFile.Instr.ifCond .ne)) := by
  intro l pc b r i n h hb e
  have h1 := fd_u1 h
  rw [hb] at h1
  exact fd_s2p (f := (Jvm.ClassFile.Instr.ifCond .ne)) h e (fun x w => by delta Jvm.ClassFile.Decoder.instr; exact fd_k h1 w)
def fe_154 : fd_E := ⟨(154, fd_s2e (Jvm.ClassFile.Instr.ifCond .ne)), fp_154⟩
theorem fp_155 : fd_P 155 (fd_s2e (Jvm.ClassFile.Instr.ifCond .lt)) := by
  intro l pc b r i n h hb e
  have h1 := fd_u1 h
  rw [hb] at h1
  exact fd_s2p (f := (Jvm.ClassFile.Instr.ifCond .lt)) h e (fun x w => by delta Jvm.ClassFile.Decoder.instr; exact fd_k h1 w)
def fe_155 : fd_E := ⟨(155, fd_s2e (Jvm.ClassFile.Instr.ifCond .lt)), fp_155⟩
theorem fp_159 : fd_P 159 (fd_s2e (Jvm.ClassFile.Instr.if_icmp .eq)) := by
  intro l pc b r i n h hb e
  have h1 := fd_u1 h
  rw [hb] at h1
  exact fd_s2p (f := (Jvm.ClassFile.Instr.if_icmp .eq)) h e (fun x w => by delta Jvm.ClassFile.Decoder.instr; exact fd_k h1 w)
def fe_159 : fd_E := ⟨(159, fd_s2e (Jvm.ClassFile.Instr.if_icmp .eq)), fp_159⟩
theorem fp_160 : fd_P 160 (fd_s2e (Jvm.ClassFile.Instr.if_icmp .ne)) := by
  intro l pc b r i n h hb e
  have h1 := fd_u1 h
  rw [hb] at h1
  exact fd_s2p (f := (Jvm.ClassFile.Instr.if_icmp .ne)) h e (fun x w => by delta Jvm.ClassFile.Decoder.instr; exact fd_k h1 w)
def fe_160 : fd_E := ⟨(160, fd_s2e (Jvm.ClassFile.Instr.if_icmp .ne)), fp_160⟩
theorem fp_161 : fd_P 161 (fd_s2e (Jvm.ClassFile.Instr.if_icmp .lt)) := by
  intro l pc b r i n h hb e
  have h1 := fd_u1 h
  rw [hb] at h1
  exact fd_s2p (f := (Jvm.ClassFile.Instr.if_icmp .lt)) h e (fun x w => by delta Jvm.ClassFile.Decoder.instr; exact fd_k h1 w)
def fe_161 : fd_E := ⟨(161, fd_s2e (Jvm.ClassFile.Instr.if_icmp .lt)), fp_161⟩
theorem fp_162 : fd_P 162 (fd_s2e (Jvm.ClassFile.Instr.if_icmp .ge)) := by
  intro l pc b r i n h hb e
  have h1 := fd_u1 h
  rw [hb] at h1
  exact fd_s2p (f := (Jvm.ClassFile.Instr.if_icmp .ge)) h e (fun x w => by delta Jvm.ClassFile.Decoder.instr; exact fd_k h1 w)
def fe_162 : fd_E := ⟨(162, fd_s2e (Jvm.ClassFile.Instr.if_icmp .ge)), fp_162⟩
theorem fp_163 : fd_P 163 (fd_s2e (Jvm.ClassFile.Instr.if_icmp .gt)) := by
  intro l pc b r i n h hb e
  have h1 := fd_u1 h
  rw [hb] at h1
  exact fd_s2p (f := (Jvm.ClassFile.Instr.if_icmp .gt)) h e (fun x w => by delta Jvm.ClassFile.Decoder.instr; exact fd_k h1 w)
def fe_163 : fd_E := ⟨(163, fd_s2e (Jvm.ClassFile.Instr.if_icmp .gt)), fp_163⟩
theorem fp_164 : fd_P 164 (fd_s2e (Jvm.ClassFile.Instr.if_icmp .le)) := by
  intro l pc b r i n h hb e
  have h1 := fd_u1 h
  rw [hb] at h1
  exact fd_s2p (f := (Jvm.ClassFile.Instr.if_icmp .le)) h e (fun x w => by delta Jvm.ClassFile.Decoder.instr; exact fd_k h1 w)
def fe_164 : fd_E := ⟨(164, fd_s2e (Jvm.ClassFile.Instr.if_icmp .le)), fp_164⟩
theorem fp_167 : fd_P 167 (fd_s2e Jvm.ClassFile.Instr.goto) := by
  intro l pc b r i n h hb e
  have h1 := fd_u1 h
  rw [hb] at h1
  exact fd_s2p (f := Jvm.ClassFile.Instr.goto) h e (fun x w => by delta Jvm.ClassFile.Decoder.instr; exact fd_k h1 w)
def fe_167 : fd_E := ⟨(167, fd_s2e Jvm.ClassFile.Instr.goto), fp_167⟩
theorem fp_172 : fd_P 172 (fun _ => some (Jvm.ClassFile.Instr.ireturn, 1)) := by
  intro l pc b r i n h hb e
  have h1 := fd_u1 h
  rw [hb] at h1
  exact fd_z e (by delta Jvm.ClassFile.Decoder.instr; exact fd_k h1 rfl)
def fe_172 : fd_E := ⟨(172, fun _ => some (Jvm.ClassFile.Instr.ireturn, 1)), fp_172⟩
theorem fp_173 : fd_P 173 (fun _ => some (Jvm.ClassFile.Instr.lreturn, 1)) := by
  intro l pc b r i n h hb e
  have h1 := fd_u1 h
  rw [hb] at h1
  exact fd_z e (by delta Jvm.ClassFile.Decoder.instr; exact fd_k h1 rfl)
def fe_173 : fd_E := ⟨(173, fun _ => some (Jvm.ClassFile.Instr.lreturn, 1)), fp_173⟩
theorem fp_177 : fd_P 177 (fun _ => some (Jvm.ClassFile.Instr.return_, 1)) := by
  intro l pc b r i n h hb e
  have h1 := fd_u1 h
  rw [hb] at h1
  exact fd_z e (by delta Jvm.ClassFile.Decoder.instr; exact fd_k h1 rfl)
def fe_177 : fd_E := ⟨(177, fun _ => some (Jvm.ClassFile.Instr.return_, 1)), fp_177⟩
theorem fp_180 : fd_P 180 (fd_u2e Jvm.ClassFile.Instr.getfield) := by
  intro l pc b r i n h hb e
  have h1 := fd_u1 h
  rw [hb] at h1
  exact fd_u2p (f := Jvm.ClassFile.Instr.getfield) h e (fun x w => by delta Jvm.ClassFile.Decoder.instr; exact fd_k h1 w)
def fe_180 : fd_E := ⟨(180, fd_u2e Jvm.ClassFile.Instr.getfield), fp_180⟩
theorem fp_181 : fd_P 181 (fd_u2e Jvm.ClassFile.Instr.putfield) := by
  intro l pc b r i n h hb e
  have h1 := fd_u1 h
  rw [hb] at h1
  exact fd_u2p (f := Jvm.ClassFile.Instr.putfield) h e (fun x w => by delta Jvm.ClassFile.Decoder.instr; exact fd_k h1 w)
def fe_181 : fd_E := ⟨(181, fd_u2e Jvm.ClassFile.Instr.putfield), fp_181⟩
theorem fp_182 : fd_P 182 (fd_u2e Jvm.ClassFile.Instr.invokevirtual) := by
  intro l pc b r i n h hb e
  have h1 := fd_u1 h
  rw [hb] at h1
  exact fd_u2p (f := Jvm.ClassFile.Instr.invokevirtual) h e (fun x w => by delta Jvm.ClassFile.Decoder.instr; exact fd_k h1 w)
def fe_182 : fd_E := ⟨(182, fd_u2e Jvm.ClassFile.Instr.invokevirtual), fp_182⟩
theorem fp_183 : fd_P 183 (fd_u2e Jvm.ClassFile.Instr.invokespecial) := by
  intro l pc b r i n h hb e
  have h1 := fd_u1 h
  rw [hb] at h1
  exact fd_u2p (f := Jvm.ClassFile.Instr.invokespecial) h e (fun x w => by delta Jvm.ClassFile.Decoder.instr; exact fd_k h1 w)
def fe_183 : fd_E := ⟨(183, fd_u2e Jvm.ClassFile.Instr.invokespecial), fp_183⟩
theorem fp_184 : fd_P 184 (fd_u2e Jvm.ClassFile.Instr.invokestatic) := by
  intro l pc b r i n h hb e
  have h1 := fd_u1 h
  rw [hb] at h1
  exact fd_u2p (f := Jvm.ClassFile.Instr.invokestatic) h e (fun x w => by delta Jvm.ClassFile.Decoder.instr; exact fd_k h1 w)
def fe_184 : fd_E := ⟨(184, fd_u2e Jvm.ClassFile.Instr.invokestatic), fp_184⟩
theorem fp_187 : fd_P 187 (fd_u2e Jvm.ClassFile.Instr.new) := by
  intro l pc b r i n h hb e
  have h1 := fd_u1 h
  rw [hb] at h1
  exact fd_u2p (f := Jvm.ClassFile.Instr.new) h e (fun x w => by delta Jvm.ClassFile.Decoder.instr; exact fd_k h1 w)
def fe_187 : fd_E := ⟨(187, fd_u2e Jvm.ClassFile.Instr.new), fp_187⟩
def fd_look (o : Nat) : Option fd_E := (bif Nat.ble o 61 then (bif Nat.ble o 22 then (bif Nat.ble o 8 then (bif Nat.ble o 4 then (bif Nat.ble o 2 then some fe_2 else (bif Nat.ble o 3 then some fe_3 else some fe_4)) else (bif Nat.ble o 6 then (bif Nat.ble o 5 then some fe_5 else some fe_6) else (bif Nat.ble o 7 then some fe_7 else some fe_8))) else (bif Nat.ble o 17 then (bif Nat.ble o 10 then (bif Nat.ble o 9 then some fe_9 else some fe_10) else (bif Nat.ble o 16 then some fe_16 else some fe_17)) else (bif Nat.ble o 20 then (bif Nat.ble o 18 then some fe_18 else some fe_20) else (bif Nat.ble o 21 then some fe_21 else some fe_22)))) else (bif Nat.ble o 43 then (bif Nat.ble o 28 then (bif Nat.ble o 26 then (bif Nat.ble o 25 then some fe_25 else some fe_26) else (bif Nat.ble o 27 then some fe_27 else some fe_28)) else (bif Nat.ble o 32 then (bif Nat.ble o 29 then some fe_29 else some fe_32) else (bif Nat.ble o 42 then some fe_42 else some fe_43))) else (bif Nat.ble o 51 then (bif Nat.ble o 46 then (bif Nat.ble o 44 then some fe_44 else some fe_46) else (bif Nat.ble o 50 then some fe_50 else some fe_51)) else (bif Nat.ble o 55 then (bif Nat.ble o 54 then some fe_54 else some fe_55) else (bif Nat.ble o 60 then some fe_60 else some fe_61))))) else (bif Nat.ble o 155 then (bif Nat.ble o 120 then (bif Nat.ble o 89 then (bif Nat.ble o 79 then (bif Nat.ble o 62 then some fe_62 else some fe_79) else (bif Nat.ble o 87 then some fe_87 else some fe_89)) else (bif Nat.ble o 100 then (bif Nat.ble o 96 then some fe_96 else some fe_100) else (bif Nat.ble o 104 then some fe_104 else some fe_120))) else (bif Nat.ble o 132 then (bif Nat.ble o 126 then (bif Nat.ble o 122 then some fe_122 else some fe_126) else (bif Nat.ble o 128 then some fe_128 else some fe_132)) else (bif Nat.ble o 153 then (bif Nat.ble o 133 then some fe_133 else some fe_153) else (bif Nat.ble o 154 then some fe_154 else some fe_155)))) else (bif Nat.ble o 172 then (bif Nat.ble o 162 then (bif Nat.ble o 160 then (bif Nat.ble o 159 then some fe_159 else some fe_160) else (bif Nat.ble o 161 then some fe_161 else some fe_162)) else (bif Nat.ble o 164 then (bif Nat.ble o 163 then some fe_163 else some fe_164) else (bif Nat.ble o 167 then some fe_167 else some fe_172))) else (bif Nat.ble o 181 then (bif Nat.ble o 177 then (bif Nat.ble o 173 then some fe_173 else some fe_177) else (bif Nat.ble o 180 then some fe_180 else some fe_181)) else (bif Nat.ble o 183 then (bif Nat.ble o 182 then some fe_182 else some fe_183) else (bif Nat.ble o 184 then some fe_184 else some fe_187))))))
def fd_A (b : UInt8) (r : List UInt8) (i : Jvm.ClassFile.Instr) (n : Nat) : Bool :=
  match fd_look b.toNat with
  | none => false
  | some e => Nat.beq b.toNat e.1.1 && decide (e.1.2 r = some (i, n))
def fd_W (s : List UInt8) (pc : Nat) (L : List (Nat × Jvm.ClassFile.Instr × Nat)) : Bool :=
  match L with
  | [] => true
  | (p, i, n) :: rs =>
    match s.drop (p - pc) with
    | [] => false
    | b :: r => fd_A b r i n && (Nat.ble pc p && fd_W (b :: r) p rs)
theorem fd_Aok {l : List UInt8} {p n : Nat} {b : UInt8} {r : List UInt8} {i : Jvm.ClassFile.Instr} (h : l.drop p = b :: r) (hA : fd_A b r i n = true) : decode ⟨⟨l⟩⟩ p = .ok (i, n) := by
  unfold fd_A at hA
  split at hA
  · cases hA
  · rename_i e he
    rw [Bool.and_eq_true] at hA
    exact e.2 l p b r i n h (Nat.eq_of_beq_eq_true hA.1) (of_decide_eq_true hA.2)
theorem fd_Wok (l : List UInt8) (L : List (Nat × Jvm.ClassFile.Instr × Nat)) : ∀ (pc : Nat) (s : List UInt8), l.drop pc = s → fd_W s pc L = true → ∀ x ∈ L, decode ⟨⟨l⟩⟩ x.1 = .ok (x.2.1, x.2.2) := by
  induction L with
  | nil => intro pc s _ _ x hx; cases hx
  | cons y rs ih =>
    obtain ⟨p, i, n⟩ := y
    intro pc s hs hW
    unfold fd_W at hW
    split at hW
    · cases hW
    · rename_i b r hb
      rw [Bool.and_eq_true, Bool.and_eq_true] at hW
      obtain ⟨hA, hle, hW⟩ := hW
      have hle2 := Nat.le_of_ble_eq_true hle
      have hd : l.drop p = b :: r := by
        rw [← hb, ← hs, List.drop_drop]
        congr 1
        omega
      intro x hx
      cases hx with
      | head => exact fd_Aok hd hA
      | tail _ hx => exact ih p (b :: r) hd hW x hx
def fd_G (c : ByteArray) (m : Nat) (L : List (Nat × Jvm.ClassFile.Instr × Nat)) : Bool := fd_W (c.data.toList.drop m) m L
theorem fd_at {c : ByteArray} {m p n : Nat} {i : Jvm.ClassFile.Instr} {L : List (Nat × Jvm.ClassFile.Instr × Nat)} (h : fd_G c m L = true) (hx : (p, i, n) ∈ L) : decode c p = .ok (i, n) := by
  obtain ⟨⟨l⟩⟩ := c
  exact fd_Wok l L m _ rfl h (p, i, n) hx
theorem dk_0 {c : ByteArray} {m p n : Nat} {i : Jvm.ClassFile.Instr} {R : List (Nat × Jvm.ClassFile.Instr × Nat)} (h : fd_G c m ((p, i, n) :: R) = true) : decode c p = .ok (i, n) :=
  fd_at h (List.mem_of_getElem? (i := 0) rfl)
theorem dk_1 {c : ByteArray} {m p n : Nat} {i : Jvm.ClassFile.Instr} {x0 : Nat × Jvm.ClassFile.Instr × Nat} {R : List (Nat × Jvm.ClassFile.Instr × Nat)} (h : fd_G c m (x0 :: (p, i, n) :: R) = true) : decode c p = .ok (i, n) :=
  fd_at h (List.mem_of_getElem? (i := 1) rfl)
theorem dk_2 {c : ByteArray} {m p n : Nat} {i : Jvm.ClassFile.Instr} {x0 x1 : Nat × Jvm.ClassFile.Instr × Nat} {R : List (Nat × Jvm.ClassFile.Instr × Nat)} (h : fd_G c m (x0 :: x1 :: (p, i, n) :: R) = true) : decode c p = .ok (i, n) :=
  fd_at h (List.mem_of_getElem? (i := 2) rfl)
theorem dk_3 {c : ByteArray} {m p n : Nat} {i : Jvm.ClassFile.Instr} {x0 x1 x2 : Nat × Jvm.ClassFile.Instr × Nat} {R : List (Nat × Jvm.ClassFile.Instr × Nat)} (h : fd_G c m (x0 :: x1 :: x2 :: (p, i, n) :: R) = true) : decode c p = .ok (i, n) :=
  fd_at h (List.mem_of_getElem? (i := 3) rfl)
theorem dk_4 {c : ByteArray} {m p n : Nat} {i : Jvm.ClassFile.Instr} {x0 x1 x2 x3 : Nat × Jvm.ClassFile.Instr × Nat} {R : List (Nat × Jvm.ClassFile.Instr × Nat)} (h : fd_G c m (x0 :: x1 :: x2 :: x3 :: (p, i, n) :: R) = true) : decode c p = .ok (i, n) :=
  fd_at h (List.mem_of_getElem? (i := 4) rfl)
theorem dk_5 {c : ByteArray} {m p n : Nat} {i : Jvm.ClassFile.Instr} {x0 x1 x2 x3 x4 : Nat × Jvm.ClassFile.Instr × Nat} {R : List (Nat × Jvm.ClassFile.Instr × Nat)} (h : fd_G c m (x0 :: x1 :: x2 :: x3 :: x4 :: (p, i, n) :: R) = true) : decode c p = .ok (i, n) :=
  fd_at h (List.mem_of_getElem? (i := 5) rfl)
theorem dk_6 {c : ByteArray} {m p n : Nat} {i : Jvm.ClassFile.Instr} {x0 x1 x2 x3 x4 x5 : Nat × Jvm.ClassFile.Instr × Nat} {R : List (Nat × Jvm.ClassFile.Instr × Nat)} (h : fd_G c m (x0 :: x1 :: x2 :: x3 :: x4 :: x5 :: (p, i, n) :: R) = true) : decode c p = .ok (i, n) :=
  fd_at h (List.mem_of_getElem? (i := 6) rfl)
theorem dk_7 {c : ByteArray} {m p n : Nat} {i : Jvm.ClassFile.Instr} {x0 x1 x2 x3 x4 x5 x6 : Nat × Jvm.ClassFile.Instr × Nat} {R : List (Nat × Jvm.ClassFile.Instr × Nat)} (h : fd_G c m (x0 :: x1 :: x2 :: x3 :: x4 :: x5 :: x6 :: (p, i, n) :: R) = true) : decode c p = .ok (i, n) :=
  fd_at h (List.mem_of_getElem? (i := 7) rfl)
theorem dk_8 {c : ByteArray} {m p n : Nat} {i : Jvm.ClassFile.Instr} {x0 x1 x2 x3 x4 x5 x6 x7 : Nat × Jvm.ClassFile.Instr × Nat} {R : List (Nat × Jvm.ClassFile.Instr × Nat)} (h : fd_G c m (x0 :: x1 :: x2 :: x3 :: x4 :: x5 :: x6 :: x7 :: (p, i, n) :: R) = true) : decode c p = .ok (i, n) :=
  fd_at h (List.mem_of_getElem? (i := 8) rfl)
theorem dk_9 {c : ByteArray} {m p n : Nat} {i : Jvm.ClassFile.Instr} {x0 x1 x2 x3 x4 x5 x6 x7 x8 : Nat × Jvm.ClassFile.Instr × Nat} {R : List (Nat × Jvm.ClassFile.Instr × Nat)} (h : fd_G c m (x0 :: x1 :: x2 :: x3 :: x4 :: x5 :: x6 :: x7 :: x8 :: (p, i, n) :: R) = true) : decode c p = .ok (i, n) :=
  fd_at h (List.mem_of_getElem? (i := 9) rfl)
theorem dk_10 {c : ByteArray} {m p n : Nat} {i : Jvm.ClassFile.Instr} {x0 x1 x2 x3 x4 x5 x6 x7 x8 x9 : Nat × Jvm.ClassFile.Instr × Nat} {R : List (Nat × Jvm.ClassFile.Instr × Nat)} (h : fd_G c m (x0 :: x1 :: x2 :: x3 :: x4 :: x5 :: x6 :: x7 :: x8 :: x9 :: (p, i, n) :: R) = true) : decode c p = .ok (i, n) :=
  fd_at h (List.mem_of_getElem? (i := 10) rfl)
theorem dk_11 {c : ByteArray} {m p n : Nat} {i : Jvm.ClassFile.Instr} {x0 x1 x2 x3 x4 x5 x6 x7 x8 x9 x10 : Nat × Jvm.ClassFile.Instr × Nat} {R : List (Nat × Jvm.ClassFile.Instr × Nat)} (h : fd_G c m (x0 :: x1 :: x2 :: x3 :: x4 :: x5 :: x6 :: x7 :: x8 :: x9 :: x10 :: (p, i, n) :: R) = true) : decode c p = .ok (i, n) :=
  fd_at h (List.mem_of_getElem? (i := 11) rfl)
theorem dk_12 {c : ByteArray} {m p n : Nat} {i : Jvm.ClassFile.Instr} {x0 x1 x2 x3 x4 x5 x6 x7 x8 x9 x10 x11 : Nat × Jvm.ClassFile.Instr × Nat} {R : List (Nat × Jvm.ClassFile.Instr × Nat)} (h : fd_G c m (x0 :: x1 :: x2 :: x3 :: x4 :: x5 :: x6 :: x7 :: x8 :: x9 :: x10 :: x11 :: (p, i, n) :: R) = true) : decode c p = .ok (i, n) :=
  fd_at h (List.mem_of_getElem? (i := 12) rfl)
theorem dk_13 {c : ByteArray} {m p n : Nat} {i : Jvm.ClassFile.Instr} {x0 x1 x2 x3 x4 x5 x6 x7 x8 x9 x10 x11 x12 : Nat × Jvm.ClassFile.Instr × Nat} {R : List (Nat × Jvm.ClassFile.Instr × Nat)} (h : fd_G c m (x0 :: x1 :: x2 :: x3 :: x4 :: x5 :: x6 :: x7 :: x8 :: x9 :: x10 :: x11 :: x12 :: (p, i, n) :: R) = true) : decode c p = .ok (i, n) :=
  fd_at h (List.mem_of_getElem? (i := 13) rfl)
theorem dk_14 {c : ByteArray} {m p n : Nat} {i : Jvm.ClassFile.Instr} {x0 x1 x2 x3 x4 x5 x6 x7 x8 x9 x10 x11 x12 x13 : Nat × Jvm.ClassFile.Instr × Nat} {R : List (Nat × Jvm.ClassFile.Instr × Nat)} (h : fd_G c m (x0 :: x1 :: x2 :: x3 :: x4 :: x5 :: x6 :: x7 :: x8 :: x9 :: x10 :: x11 :: x12 :: x13 :: (p, i, n) :: R) = true) : decode c p = .ok (i, n) :=
  fd_at h (List.mem_of_getElem? (i := 14) rfl)
theorem dk_15 {c : ByteArray} {m p n : Nat} {i : Jvm.ClassFile.Instr} {x0 x1 x2 x3 x4 x5 x6 x7 x8 x9 x10 x11 x12 x13 x14 : Nat × Jvm.ClassFile.Instr × Nat} {R : List (Nat × Jvm.ClassFile.Instr × Nat)} (h : fd_G c m (x0 :: x1 :: x2 :: x3 :: x4 :: x5 :: x6 :: x7 :: x8 :: x9 :: x10 :: x11 :: x12 :: x13 :: x14 :: (p, i, n) :: R) = true) : decode c p = .ok (i, n) :=
  fd_at h (List.mem_of_getElem? (i := 15) rfl)
