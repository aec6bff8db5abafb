-- THE READER, ABSTRACT: tokens (start, end, sort), numbers, lines; each with what to do at a fault (E) and behind (O)
abbrev aK3 : Type := Nat × Nat × Nat
def sortN (c : Nat) : Nat := if 97 ≤ c ∧ c ≤ 122 then 1 else if 48 ≤ c ∧ c ≤ 57 then 2 else if c = 59 then 3 else 4
def runE (f : Nat → Bool) : Nat → Nat → Nat
  | 0, s => s
  | m + 1, s => if f s then runE f m (s + 1) else s
def vAt (t : Nat → Nat) (h e : Nat) : Nat := if e = h then 0 else if e = h + 1 then t h - 48 else 10 * (t h - 48) + (t (h + 1) - 48)
def tokB (t : Nat → Nat) (len h : Nat) : aK3 := if h < len then (if sortN (t h) = 1 ∨ sortN (t h) = 2 then (h, runE (fun i => sortN (t i) == sortN (t h)) (len - h) h, sortN (t h)) else (h, h + 1, sortN (t h))) else (h, h, 0)
def tokA (x : aK3) : aK3 := if x.2.2 = 2 ∧ x.1 + 2 < x.2.1 then (x.1, x.2.1, 4) else x
def tokF (t : Nat → Nat) (len p : Nat) : aK3 := tokA (tokB t len (runE (fun i => t i == 32) (len - p) p))
section TXA
variable {β : Type} (t : Nat → Nat) (len : Nat)
def tkC (p : Nat) (E : Nat → Nat → β) (O : aK3 → β) : β := if (tokF t len p).2.2 = 4 then E 1 (tokF t len p).1 else O (tokF t len p)
def numC (lo hi : Nat) (x : aK3) (E : Nat → Nat → β) (O : Nat → aK3 → β) : β := if x.2.2 = 2 then (if lo ≤ vAt t x.1 x.2.1 ∧ vAt t x.1 x.2.1 ≤ hi then tkC t len x.2.1 E (O (vAt t x.1 x.2.1)) else E 3 x.1) else E 2 x.1
def semC (x : aK3) (E : Nat → Nat → β) (O : aK3 → β) : β := if x.2.2 = 3 then tkC t len x.2.1 E O else E 2 x.1
def planC : Nat → aE → aK3 → (Nat → Nat → β) → (aE → aK3 → β) → β
  | 0, A, x, _, O => O A x
  | m + 1, A, x, E, O => if x.2.2 = 2 then (if aC A = 8 then E 5 x.1 else numC t len 0 6 x E (fun v x' => planC m (planA A v) x' E O)) else O A x
def nameB (h e n : Nat) : Bool := decide (e - h = tq_cuts.getD (n + 1) 0 - tq_cuts.getD n 0) && (List.range (e - h)).all (fun i => t (h + i) == tq_lets.getD (tq_cuts.getD n 0 + i) 0)
def nmF (h e : Nat) : Nat := fa_first (nameB t h e) 7
def lineC (told : Nat) (A : aE) (x : aK3) (E : Nat → Nat → β) (O : Nat → aE → aK3 → β) : β :=
  if x.2.2 = 1 then (if nmF t x.1 x.2.1 = 7 then E 2 x.1 else if nmF t x.1 x.2.1 < 4 then (if aN A = 5 then E 5 x.1 else tkC t len x.2.1 E (fun x1 => if x1.2.2 = 2 then numC t len 0 40 x1 E (fun v x2 => semC t len x2 E (O told (addO A (nmF t x.1 x.2.1) v))) else semC t len x1 E (O told (addO A (nmF t x.1 x.2.1) 0)))) else if told.testBit (nmF t x.1 x.2.1) then E 4 x.1 else tkC t len x.2.1 E (fun x1 => if nmF t x.1 x.2.1 = 4 then numC t len 1 5 x1 E (fun v x2 => semC t len x2 E (O (told ||| 2 ^ nmF t x.1 x.2.1) (uR A v))) else if nmF t x.1 x.2.1 = 5 then numC t len 1 9 x1 E (fun v x2 => semC t len x2 E (O (told ||| 2 ^ nmF t x.1 x.2.1) (uT A v))) else planC t len 9 A x1 E (fun A' x2 => semC t len x2 E (O (told ||| 2 ^ nmF t x.1 x.2.1) A')))) else E 2 x.1
def linesC : Nat → Nat → Nat → aE → aK3 → (Nat → Nat → β) → (Nat → aE → β) → β
  | 0, l, _, A, _, _, O => O l A
  | m + 1, l, told, A, x, E, O => if x.2.2 = 0 then O l A else lineC t len told A x E (fun told' A' x' => linesC m (l + 1) told' A' x' E O)
end TXA
abbrev e0A : aE := (0, fun _ => 0, fun _ => 0, fun _ => 0, 0, 0, 2, 4, 0, fun _ => 0)
def fitB (A : aE) : Bool := decide (∀ i, i < aC A → aA A i < aN A ∨ aA A i = 5 ∨ aA A i = 6)
def textR (t : Nat → Nat) (len : Nat) : (Nat × Nat) ⊕ (Nat × aE) := tkC t len 0 (fun y w => .inl (y, w)) (fun x => linesC t len 161 0 0 e0A x (fun y w => .inl (y, w)) (fun l A => if fitB A then .inr (l, A) else .inl (6, len)))
/-- what is always so of a token -/
def tkOk (t : Nat → Nat) (len : Nat) (x : aK3) : Prop := x.1 ≤ x.2.1 ∧ x.2.1 ≤ len ∧ x.2.2 ≤ 4 ∧ (x.2.2 = 0 ↔ x.1 = len) ∧ (x.2.2 ≠ 0 → x.1 < x.2.1) ∧ (x.2.2 = 2 → x.2.1 ≤ x.1 + 2 ∧ ∀ i, x.1 ≤ i → i < x.2.1 → 48 ≤ t i ∧ t i ≤ 57)
theorem runE_ge (f : Nat → Bool) : ∀ (m s : Nat), s ≤ runE f m s ∧ runE f m s ≤ s + m
  | 0, s => ⟨Nat.le_refl _, Nat.le_refl _⟩
  | m + 1, s => by
    unfold runE
    have := runE_ge f m (s + 1)
    split <;> omega
theorem runE_in (f : Nat → Bool) : ∀ (m s i : Nat), s ≤ i → i < runE f m s → f i = true
  | 0, s, i, h1, h2 => by
    have : i < s := h2
    omega
  | m + 1, s, i, h1, h2 => by
    unfold runE at h2
    split at h2
    · rename_i hf
      rcases Nat.lt_or_ge s i with c | c
      · exact runE_in f m (s + 1) i c h2
      · rw [(by omega : i = s)]; exact hf
    · omega
theorem runE_pos {f : Nat → Bool} {m s : Nat} (hm : 0 < m) (h : f s = true) : s < runE f m s := by
  obtain ⟨m, rfl⟩ : ∃ k, m = k + 1 := ⟨m - 1, by omega⟩
  unfold runE
  rw [if_pos h]
  have := runE_ge f m (s + 1)
  omega
theorem sortN_le (c : Nat) : 1 ≤ sortN c ∧ sortN c ≤ 4 := by
  unfold sortN
  split
  · omega
  · split
    · omega
    · split <;> omega
theorem sortN_2 {c : Nat} (h : sortN c = 2) : 48 ≤ c ∧ c ≤ 57 := by
  unfold sortN at h
  split at h
  · omega
  · split at h
    · assumption
    · split at h <;> omega
theorem tokF_ok (t : Nat → Nat) {len p : Nat} (hp : p ≤ len) : tkOk t len (tokF t len p) ∧ p ≤ (tokF t len p).1 := by
  have hh := runE_ge (fun i => t i == 32) (len - p) p
  unfold tokF
  generalize runE (fun i => t i == 32) (len - p) p = h at hh ⊢
  unfold tokB
  have hs := sortN_le (t h)
  by_cases c : h < len
  · rw [if_pos c]
    by_cases c1 : sortN (t h) = 1 ∨ sortN (t h) = 2
    · rw [if_pos c1]
      have he := runE_ge (fun i => sortN (t i) == sortN (t h)) (len - h) h
      have hi := runE_in (fun i => sortN (t i) == sortN (t h)) (len - h) h
      have hq : h < runE (fun i => sortN (t i) == sortN (t h)) (len - h) h := runE_pos (by omega) (by simp)
      generalize runE (fun i => sortN (t i) == sortN (t h)) (len - h) h = e at he hi hq ⊢
      unfold tokA
      by_cases c2 : sortN (t h) = 2 ∧ h + 2 < e
      · rw [if_pos c2]
        refine ⟨⟨by show h ≤ e; omega, by show e ≤ len; omega, by show 4 ≤ 4; omega, ⟨fun z => absurd (show 4 = 0 from z) (by decide), fun z => absurd (show h = len from z) (by omega)⟩, fun _ => hq, fun z => absurd (show 4 = 2 from z) (by decide)⟩, by show p ≤ h; omega⟩
      · rw [if_neg c2]
        refine ⟨⟨by show h ≤ e; omega, by show e ≤ len; omega, by show sortN (t h) ≤ 4; omega, ⟨fun z => absurd (show sortN (t h) = 0 from z) (by omega), fun z => absurd (show h = len from z) (by omega)⟩, fun _ => hq, fun z => ?_⟩, by show p ≤ h; omega⟩
        have z : sortN (t h) = 2 := z
        refine ⟨by show e ≤ h + 2; omega, fun i h1 h2 => ?_⟩
        have := hi i h1 h2
        have this : sortN (t i) = sortN (t h) := by simpa using this
        exact sortN_2 (this.trans z)
    · rw [if_neg c1]
      unfold tokA
      rw [if_neg (by intro z; exact c1 (Or.inr z.1))]
      refine ⟨⟨by show h ≤ h + 1; omega, by show h + 1 ≤ len; omega, by show sortN (t h) ≤ 4; omega, ⟨fun z => absurd (show sortN (t h) = 0 from z) (by omega), fun z => absurd (show h = len from z) (by omega)⟩, fun _ => by show h < h + 1; omega, fun z => absurd (Or.inr z) c1⟩, by show p ≤ h; omega⟩
  · rw [if_neg c]
    unfold tokA
    rw [if_neg (by intro z; exact absurd (show 0 = 2 from z.1) (by decide))]
    exact ⟨⟨Nat.le_refl _, by show h ≤ len; omega, by show 0 ≤ 4; omega, ⟨fun _ => by show h = len; omega, fun _ => rfl⟩, fun z => absurd rfl z, fun z => absurd (show 0 = 2 from z) (by decide)⟩, by show p ≤ h; omega⟩
theorem vAt_le {t : Nat → Nat} {len : Nat} {x : aK3} (h : tkOk t len x) (h2 : x.2.2 = 2) : vAt t x.1 x.2.1 ≤ 99 := by
  obtain ⟨a1, a2, a3, a4, a5, a6⟩ := h
  obtain ⟨b1, b2⟩ := a6 h2
  have a5 := a5 (by omega)
  unfold vAt
  have c1 := b2 x.1 (Nat.le_refl _) a5
  split
  · omega
  · split
    · omega
    · have c2 := b2 (x.1 + 1) (by omega) (by omega)
      omega
