section TXE
variable {S S0 : tq_St} {K : Int32 → tq_St → Prop} {KV : tq_St → Prop} {t : Nat → Nat} {len told : Nat} {A : aE} {β : Type} {E : Nat → Nat → β} {R : β}
theorem s_one {n : Nat} {x : aK3} {O : aE → aK3 → β} (hl : len ≤ 160) (ht : ∀ i, i < len → S0.2.1 19 0 i = nI (t i)) (htb : ∀ i, t i < 128) (hn : n < 4) (hc : CL S0 S len told A) (hx : CK S t x) (hok : tkOk t len x) (hR : (if aN A = 5 then E 5 x.1 else tkC t len x.2.1 E (fun x1 => if x1.2.2 = 2 then numC t len 0 40 x1 E (fun v x2 => O (addO A n v) x2) else O (addO A n 0) x1)) = R) (hd : ∀ y w S', CD S0 S' len y w → E y w = R → KV S') (hK : ∀ v x' S', x.2.1 ≤ x'.1 → tkOk t len x' → x'.2.2 ≠ 4 → CL S0 S' len told (addO A n v) → CK S' t x' → O (addO A n v) x' = R → KV S') : wp_X5_tellOne (nI n) S KV := by
  have hw := hc.2.2.2.2.2.2.1
  have hRC := hc.2.2.2.2.2.2.2
  have hN := hw.1
  have h49 : ∀ v x' S', v ≤ 40 → x.2.1 ≤ x'.1 → tkOk t len x' → x'.2.2 ≠ 4 → aN A < 5 → CL S0 S' len told A → CK S' t x' → O (addO A n v) x' = R → wp_X5_tellOne_49 KV (nI n) (nI v) S' := by
    intro v x' S' hv a1 a2 a3 a4 b1 b2 b3
    unfold wp_X5_tellOne_49
    exact c_addOne b1.2.2.2.2.2.2.2 hN (fun _ S2 c1 c2 => hK v x' S2 a1 a2 a3 (b1.dr c2 (addO_wf hw a4 hn hv) c1) (b2.dr c2) b3) (fun z => absurd z (by omega))
  have h49d : ∀ y w v S', v ≤ 40 → CD S0 S' len y w → E y w = R → wp_X5_tellOne_49 KV (nI n) (nI v) S' := by
    intro y w v S' hv b1 b2
    obtain ⟨B, c1, c2⟩ := b1.2.2.2.2.2.2.2
    unfold wp_X5_tellOne_49
    exact c_addOne c2 c1.1 (fun hB S2 d1 d2 => hd y w S2 (b1.dr d2 (addO_wf c1 hB hn hv) d1) b2) (fun _ => hd y w S' b1 b2)
  unfold wp_X5_tellOne
  rw [hRC.1, hx.1]
  refine pk_lt (aN A) 5 (fun z => ?_) (fun z => ?_)
  · rw [if_neg (by omega)] at hR
    refine s_tok hl ht htb hc hx.2.1 hok.2.1 hR (fun y w S' d e => ?_) (fun x1 S' a1 a2 a3 a4 a5 a6 => ?_)
    · have hgo := h49d y w 0 S' (by omega) d e
      refine ⟨fun _ => hgo, fun _ => ?_⟩
      unfold wp_X5_takeNumber
      exact ⟨fun z => absurd z d.ne, fun _ => hgo⟩
    · have hk4 := a1.2.2.1
      rw [a5.2.2.1]
      have := pk_eq (A := wp_X5_takeNumber 0 40 S' (fun r9 S10 => wp_X5_tellOne_49 KV (nI n) r9 S10)) (B := wp_X5_tellOne_49 KV (nI n) 0 S') (x := nI x1.2.2) (y := 2) x1.2.2 2 (fun z2 => ?_) (fun z2 => ?_)
      · exact ⟨this.2, this.1⟩
      · rw [if_pos z2] at a6
        exact s_num (lo := 0) (hi := 40) hl ht htb (by decide) a4 a5 a1 a6 (by decide) (fun y w v S2 _ hv d e => h49d y w v S2 hv d e) (fun v x2 S2 _ hv b1 b2 b3 b4 b5 b6 => h49 v x2 S2 hv (by have := a1.1; omega) b2 b3 z b4 b5 b6)
      · rw [if_neg z2] at a6
        exact h49 0 x1 S' (by omega) a2 a1 a3 z a4 a5 a6
  · rw [if_pos (by omega)] at hR
    exact s_fail (y := 5) hc (by decide) (fun S' d => hd 5 x.1 S' d hR)
theorem s_planD {y w i f : Nat} (h : CD S0 S len y w) (hi : i ≤ 100) (hf : 0 < f) (hK : KV S) : wp_X5_tellPlan_2 KV f (nI i) S := by
  obtain ⟨f, rfl⟩ : ∃ k, f = k + 1 := ⟨f - 1, by omega⟩
  unfold wp_X5_tellPlan_2
  exact ⟨fun _ => hK, fun _ => ⟨fun _ => hK, fun z => absurd z h.ne⟩⟩
theorem s_plan {O : aE → aK3 → β} (hl : len ≤ 160) (ht : ∀ i, i < len → S0.2.1 19 0 i = nI (t i)) (htb : ∀ i, t i < 128) {p : Nat} (hd : ∀ y w S', CD S0 S' len y w → E y w = R → KV S') (hK : ∀ B x' S', p ≤ x'.1 → tkOk t len x' → x'.2.2 ≠ 4 → CL S0 S' len told B → CK S' t x' → O B x' = R → KV S') : ∀ (m f : Nat) (S : tq_St) (A : aE) (x : aK3), aC A + m = 9 → 0 < m → m < f → p ≤ x.1 → x.2.2 ≠ 4 → CL S0 S len told A → CK S t x → tkOk t len x → planC t len m A x E O = R → wp_X5_tellPlan_2 KV f (nI (aC A)) S := by
  intro m
  induction m with
  | zero =>
    intro f S A x h1 h0
    omega
  | succ m ih =>
    intro f S A x h1 h0 h2 hp hx4 hc hx hok hR
    obtain ⟨f, rfl⟩ : ∃ k, f = k + 1 := ⟨f - 1, by omega⟩
    have hw := hc.2.2.2.2.2.2.1
    have hk4 := hok.2.2.1
    have hC := hw.2.2.2.2.2.2.2.2.1
    unfold planC at hR
    unfold wp_X5_tellPlan_2
    refine pk_lt 8 (aC A) (fun z => absurd z (by omega)) (fun _ => ⟨fun z => absurd hc.2.2.2.2.1 z, fun _ => ?_⟩)
    rw [hx.2.2.1, hx.1]
    have := pk_eq (A := (¬ nI (aC A) = 8 → wp_X5_takeNumber 0 6 S (fun r5 S6 => (wp_X1_addAct 2 r5 S6 (fun r8 S9 => ∀ x11 : Int32, x11 = nI (aC A) + 1 → wp_X5_tellPlan_2 KV f x11 S9)))) ∧ (nI (aC A) = 8 → wp_X5_fail 5 (nI x.1) S (fun S14 => ∀ x16 : Int32, x16 = nI (aC A) + 1 → wp_X5_tellPlan_2 KV f x16 S14))) (B := KV S) (x := nI x.2.2) (y := 2) x.2.2 2 (fun z => ?_) (fun z => ?_)
    · exact ⟨this.2, this.1⟩
    · rw [if_pos z] at hR
      have p8 := pk_eq (A := wp_X5_fail 5 (nI x.1) S (fun S14 => ∀ x16 : Int32, x16 = nI (aC A) + 1 → wp_X5_tellPlan_2 KV f x16 S14)) (B := wp_X5_takeNumber 0 6 S (fun r5 S6 => (wp_X1_addAct 2 r5 S6 (fun r8 S9 => ∀ x11 : Int32, x11 = nI (aC A) + 1 → wp_X5_tellPlan_2 KV f x11 S9)))) (x := nI (aC A)) (y := 8) (aC A) 8 (fun z8 => ?_) (fun z8 => ?_)
      · exact ⟨p8.2, p8.1⟩
      · rw [if_pos z8] at hR
        exact s_fail (y := 5) hc (by decide) (fun S' d => nm_r (nI_1 (aC A)) (s_planD d (by omega) (by omega) (hd 5 x.1 S' d hR)))
      · rw [if_neg z8] at hR
        refine s_num (lo := 0) (hi := 6) hl ht htb (by decide) hc hx hok hR (by decide) (fun y w v S2 _ hv d e => ?_) (fun v x2 S2 _ hv b1 b2 b3 b4 b5 b6 => ?_)
        · obtain ⟨B, c1, c2⟩ := d.2.2.2.2.2.2.2
          refine c_addAct c2 c1.2.2.2.2.2.2.2.2.1 (fun hB S3 d1 d2 _ _ => nm_r (nI_1 (aC A)) ?_) (fun _ => nm_r (nI_1 (aC A)) ?_)
          · have d' := d.dr d2 (planA_wfD c1 hB hv) d1
            exact s_planD d' (by omega) (by omega) (hd y w S3 d' e)
          · exact s_planD d (by omega) (by omega) (hd y w S2 d e)
        · refine c_addAct b4.2.2.2.2.2.2.2 hC (fun hB S3 d1 d2 _ _ => nm_r (nI_1 (aC A)) ?_) (fun z9 => absurd z9 z8)
          exact ih f S3 (planA A v) x2 (by show aC A + 1 + m = 9; omega) (by omega) (by omega) (by have := hok.1; omega) b3 (b4.dr d2 (planA_wfD hw hB hv) d1) (b5.dr d2) b2 b6
    · rw [if_neg z] at hR
      exact hK A x S hp hok hx4 hc hx hR
end TXE
