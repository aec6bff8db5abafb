section TXH
variable {S S0 : tq_St} {G : aQ} {K : Int32 → tq_St → Prop} {KV : tq_St → Prop} {t : Nat → Nat} {len tz : Nat} {P : (Nat → Int32) × Int32 × Int32} {A : aE} {β : Type} {E : Nat → Nat → β} {R : β}
theorem ZL.a (h : ZL P S0 S len tz) (i : Nat) (v : Int32) : ZL (upd P.1 i v, P.2.1, P.2.2) S0 (sA S 28 3 i v) len tz := ⟨h.1.a i v, h.2.1, h.2.2⟩
theorem ZL.i4 (h : ZL P S0 S len tz) (v : Int32) : ZL (P.1, v, P.2.2) S0 (sI S 28 4 v) len tz := ⟨h.1.i4 v, by rw [sI_1, if_neg (by decide)]; exact h.2.1, by rw [sI_1, if_neg (by decide)]; exact h.2.2⟩
theorem ZL.i6 (h : ZL P S0 S len tz) (v : Int32) : ZL (P.1, P.2.1, v) S0 (sI S 28 6 v) len tz := ⟨h.1.i6 v, by rw [sI_1, if_neg (by decide)]; exact h.2.1, by rw [sI_1, if_neg (by decide)]; exact h.2.2⟩
theorem ZL.tz5 (h : ZL P S0 S len tz) (v : Nat) : ZL P S0 (sI S 28 5 (nI v)) len v := ⟨h.1.i (Or.inl rfl) _, by rw [sI_1, if_neg (by decide)]; exact h.2.1, by rw [sI_1, if_pos rfl]⟩
theorem ZD.a {y w : Nat} (h : ZD P S0 S len y w) (i : Nat) (v : Int32) : ZD (upd P.1 i v, P.2.1, P.2.2) S0 (sA S 28 3 i v) len y w := ⟨h.1.a i v, h.2.1, h.2.2.1, h.2.2.2⟩
theorem ZD.i4 {y w : Nat} (h : ZD P S0 S len y w) (v : Int32) : ZD (P.1, v, P.2.2) S0 (sI S 28 4 v) len y w := ⟨h.1.i4 v, h.2.1, by rw [sI_1, if_neg (by decide)]; exact h.2.2.1, by rw [sI_1, if_neg (by decide)]; exact h.2.2.2⟩
theorem ZD.i5 {y w : Nat} (h : ZD P S0 S len y w) (v : Int32) : ZD P S0 (sI S 28 5 v) len y w := ⟨h.1.i (Or.inl rfl) _, h.2.1, by rw [sI_1, if_neg (by decide)]; exact h.2.2.1, by rw [sI_1, if_neg (by decide)]; exact h.2.2.2⟩
theorem ZD.i6 {y w : Nat} (h : ZD P S0 S len y w) (v : Int32) : ZD (P.1, P.2.1, v) S0 (sI S 28 6 v) len y w := ⟨h.1.i6 v, h.2.1, by rw [sI_1, if_neg (by decide)]; exact h.2.2.1, by rw [sI_1, if_neg (by decide)]; exact h.2.2.2⟩
theorem ZK.a {x : aK3} (h : ZK S t x) (k i : Nat) (v : Int32) : ZK (sA S 28 k i v) t x := h
theorem ZK.i {x : aK3} (h : ZK S t x) {k : Nat} (hk : k = 4 ∨ k = 5 ∨ k = 6) (v : Int32) : ZK (sI S 28 k v) t x := by
  obtain ⟨h1, h2, h3, h4⟩ := h
  exact ⟨by rw [sI_1, if_neg (by omega)]; exact h1, by rw [sI_1, if_neg (by omega)]; exact h2, by rw [sI_1, if_neg (by omega)]; exact h3, fun z => by rw [sI_1, if_neg (by omega)]; exact h4 z⟩
theorem r_num {lo hi : Nat} {x : aK3} {O : Nat → aK3 → β} (hl : len ≤ 160) (ht : ∀ i, i < len → S0.2.1 28 7 i = nI (t i)) (htb : ∀ i, t i < 128) (hhi : hi ≤ 100) (hlh : lo ≤ hi) (hc : ZL P S0 S len tz) (hx : ZK S t x) (hok : tkOk t len x) (hR : numC t len lo hi x E O = R) (hd : ∀ y w v S', lo ≤ v → v ≤ hi → ZD P S0 S' len y w → E y w = R → K (nI v) S') (hK : ∀ v x' S', lo ≤ v → v ≤ hi → x.2.1 ≤ x'.1 → tkOk t len x' → x'.2.2 ≠ 4 → ZL P S0 S' len tz → ZK S' t x' → O v x' = R → K (nI v) S') : wp_X7_number (nI lo) (nI hi) S K := by
  obtain ⟨x13, x12, x14, x15⟩ := hx
  have hk4 := hok.2.2.1
  unfold numC at hR
  have h47d : ∀ y w S', ZD P S0 S' len y w → E y w = R → wp_X7_number_47 K (nI lo) S' := by
    intro y w S' d e
    refine ⟨fun _ => ?_, fun z => absurd z d.ne⟩
    exact r_stepD d (hd y w lo S' (Nat.le_refl _) hlh d e)
  unfold wp_X7_number
  refine ⟨fun z => absurd hc.2.1 z, fun _ => ?_⟩
  rw [x14]
  refine pk_eq x.2.2 2 (fun z => ?_) (fun z => ?_)
  · rw [if_pos z] at hR
    have hv := vAt_le hok z
    unfold wp_X7_number_20
    refine ⟨fun z => absurd hc.2.1 z, fun _ => ?_⟩
    rw [x15 z]
    refine m_inC lo hi (by rw [Int32.toInt_toInt64, nI_toInt (by omega)]) (by rw [Int32.toInt_toInt64, nI_toInt (by omega)]) (by omega) (by omega) (fun v1 v2 => ⟨fun _ => ?_, fun z => absurd z (by decide)⟩) (fun hno => ⟨fun z => absurd rfl z, fun _ => ?_⟩)
    · rw [if_pos ⟨v1, v2⟩] at hR
      unfold wp_X7_number_47
      refine ⟨fun z => absurd hc.2.1 z, fun _ => ?_⟩
      rw [x15 z]
      exact r_step hl ht htb hok.2.1 hc x12 hR (fun y w S' d e => hd y w _ S' v1 v2 d e) (fun x' S' a1 a2 a3 a4 a5 a6 => hK _ x' S' v1 v2 a2 a1 a3 a4 a5 a6)
    · rw [if_neg hno] at hR
      exact r_fails (y := 3) hc (by decide) x13 (fun S' d => h47d 3 x.1 S' d hR)
  · rw [if_neg z] at hR
    refine r_fails (y := 2) hc (by decide) x13 (fun S' d => ?_)
    unfold wp_X7_number_20
    exact ⟨fun _ => h47d 2 x.1 S' d hR, fun z => absurd z d.ne⟩
end TXH
