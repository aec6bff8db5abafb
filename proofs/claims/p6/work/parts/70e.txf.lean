section TXF
variable {S S0 : tq_St} {G : aQ} {K : Int32 → tq_St → Prop} {KV : tq_St → Prop} {t : Nat → Nat} {len told : Nat} {A : aE} {β : Type} {E : Nat → Nat → β} {R : β}
theorem s_line {x : aK3} {O : Nat → aE → aK3 → β} (hl : len ≤ 160) (ht : ∀ i, i < len → S0.2.1 19 0 i = nI (t i)) (htb : ∀ i, t i < 128) (htold : told < 128) (hinv : told.testBit 6 = false → aC A = 0) (hc : CL S0 S len told A) (hx : CK S t x) (hok : tkOk t len x) (hx0 : x.2.2 ≠ 0) (hR : lineC t len told A x E O = R) (hd : ∀ y w S', CD S0 S' len y w → E y w = R → KV S') (hK : ∀ told' B x' S', x.1 < x'.1 → tkOk t len x' → x'.2.2 ≠ 4 → told' < 128 → (told'.testBit 6 = false → aC B = 0) → CL S0 S' len told' B → CK S' t x' → O told' B x' = R → KV S') : wp_X5_tellLine S KV := by
  have hw := hc.2.2.2.2.2.2.1
  have hlt := hok.2.2.2.2.1 hx0
  have h123 : ∀ told' B x' S', x.2.1 ≤ x'.1 → tkOk t len x' → told' < 128 → (told'.testBit 6 = false → aC B = 0) → CL S0 S' len told' B → CK S' t x' → semC t len x' E (O told' B) = R → wp_X5_tellLine_123 KV S' := by
    intro told' B x' S' a1 a2 a3 a4 b1 b2 b3
    unfold wp_X5_tellLine_123
    exact s_semi hl ht htb b1 b2 a2 b3 hd (fun x2 S2 c1 c2 c3 c4 c5 c6 => hK told' B x2 S2 (by have := a2.1; omega) c2 c3 a3 a4 c4 c5 c6)
  have h123d : ∀ y w S', CD S0 S' len y w → E y w = R → wp_X5_tellLine_123 KV S' := fun y w S' d e => s_semiD d (hd y w S' d e)
  unfold lineC at hR
  unfold wp_X5_tellLine
  have hle := nmF_le (t := t) (h := x.1) (e := x.2.1)
  refine s_begun hl ht htb hc hx hok (fun z1 => ?_) (fun z1 => ?_)
  · rw [if_pos z1] at hR
    generalize nmF t x.1 x.2.1 = n at hR hle
    have p7 := pk_eq (A := wp_X5_fail 2 (S.1 19 8) S (fun S37 => wp_X5_tellLine_123 KV S37)) (B := ((4 : Int32) ≤ nI n → (¬ (((S.1 19 5 : Int32) >>> ((nI n : Int32) &&& 31)) &&& 1 : Int32) = 1 → ∀ S7 : tq_St, S7 = sI S 19 5 ((S.1 19 5) ||| ((1 : Int32) <<< ((nI n : Int32) &&& 31))) → (wp_X5_takeToken S7 (fun S10 => (¬ (nI n : Int32) = 4 → (¬ (nI n : Int32) = 5 → (wp_X5_tellPlan S10 (fun S15 => wp_X5_tellLine_123 KV S15))) ∧ ((nI n : Int32) = 5 → (wp_X5_takeNumber 1 9 S10 (fun r20 S21 => ∀ S23 : tq_St, S23 = sI S21 2 9 r20 → wp_X5_tellLine_123 KV S23)))) ∧ ((nI n : Int32) = 4 → (wp_X5_takeNumber 1 5 S10 (fun r25 S26 => ∀ S28 : tq_St, S28 = sI S26 2 8 r25 → wp_X5_tellLine_123 KV S28)))))) ∧ ((((S.1 19 5 : Int32) >>> ((nI n : Int32) &&& 31)) &&& 1 : Int32) = 1 → (wp_X5_fail 4 (S.1 19 8) S (fun S31 => wp_X5_tellLine_123 KV S31)))) ∧ (¬ (4 : Int32) ≤ nI n → (wp_X5_tellOne (nI n) S (fun S34 => wp_X5_tellLine_123 KV S34)))) (x := nI n) (y := 7) n 7 (fun z7 => ?_) (fun z7 => ?_)
    · exact ⟨p7.2, p7.1⟩
    · rw [if_pos z7] at hR
      rw [hx.1]
      exact s_fail (y := 2) hc (by decide) (fun S' d => h123d 2 x.1 S' d hR)
    · rw [if_neg z7] at hR
      refine pk_le 4 n (fun z4 => ?_) (fun z4 => ?_)
      · rw [if_neg (by omega)] at hR
        rw [hc.2.2.2.2.2.1, hx.1, zb_or (by omega)]
        have ht31 : told < 2 ^ 31 := by omega
        refine ⟨fun q => nm_e ?_, fun q => ?_⟩
        · have hb : told.testBit n = false := by
            cases hq : told.testBit n with
            | false => rfl
            | true => exact absurd ((zb_1 ht31 (by omega)).mpr hq) q
          rw [if_neg (by rw [hb]; decide)] at hR
          have hc' := hc.i5 (told ||| 2 ^ n)
          have htold' : told ||| 2 ^ n < 128 := zb_orlt (k := 7) htold (by omega)
          have hx6 : (sI S 19 5 (nI (told ||| 2 ^ n))).1 19 6 = nI x.2.1 := by rw [sI_1, if_neg (by decide)]; exact hx.2.1
          have hinv' : n ≠ 6 → (told ||| 2 ^ n).testBit 6 = false → aC A = 0 := by
            intro hn6 hb6
            refine hinv ?_
            rw [Nat.testBit_or] at hb6
            exact (Bool.or_eq_false_iff.mp hb6).1
          refine s_tok hl ht htb hc' hx6 hok.2.1 hR (fun y w S' d e => ?_) (fun x1 S' a1 a2 a3 a4 a5 a6 => ?_)
          · have hnum : ∀ (lo hi : Nat) (k : Nat), (1 ≤ lo ∧ lo ≤ 1) → (k = 8 ∨ k = 9) → wp_X5_takeNumber (nI lo) (nI hi) S' (fun r20 S21 => ∀ S23 : tq_St, S23 = sI S21 2 k r20 → wp_X5_tellLine_123 KV S23) := by
              intro lo hi k hlo hk
              unfold wp_X5_takeNumber
              refine ⟨fun z => absurd z d.ne, fun _ => nm_e ?_⟩
              obtain ⟨B, c1, c2⟩ := d.2.2.2.2.2.2.2
              rcases hk with hk | hk
              · subst hk
                exact h123d y w _ (d.dr (Fr.rf.I _ _) (B := uR B lo) ⟨c1.1, c1.2.1, c1.2.2.1, c1.2.2.2.1, c1.2.2.2.2.1, c1.2.2.2.2.2.1, ⟨hlo.1, Nat.le_trans hlo.2 (by decide)⟩, c1.2.2.2.2.2.2.2⟩ (c2.r lo)) e
              · subst hk
                exact h123d y w _ (d.dr (Fr.rf.I _ _) (B := uT B lo) ⟨c1.1, c1.2.1, c1.2.2.1, c1.2.2.2.1, c1.2.2.2.2.1, c1.2.2.2.2.2.1, c1.2.2.2.2.2.2.1, ⟨hlo.1, Nat.le_trans hlo.2 (by decide)⟩, c1.2.2.2.2.2.2.2.2⟩ (c2.h lo)) e
            refine ⟨fun _ => ⟨fun _ => ?_, fun _ => hnum 1 9 9 (by decide) (Or.inr rfl)⟩, fun _ => hnum 1 5 8 (by decide) (Or.inl rfl)⟩
            unfold wp_X5_tellPlan
            exact s_planD (i := 0) d (by omega) (by omega) (h123d y w S' d e)
          · have p4 := pk_eq (A := wp_X5_takeNumber 1 5 S' (fun r25 S26 => ∀ S28 : tq_St, S28 = sI S26 2 8 r25 → wp_X5_tellLine_123 KV S28)) (B := (¬ (nI n : Int32) = 5 → (wp_X5_tellPlan S' (fun S15 => wp_X5_tellLine_123 KV S15))) ∧ ((nI n : Int32) = 5 → (wp_X5_takeNumber 1 9 S' (fun r20 S21 => ∀ S23 : tq_St, S23 = sI S21 2 9 r20 → wp_X5_tellLine_123 KV S23)))) (x := nI n) (y := 4) n 4 (fun q4 => ?_) (fun q4 => ?_)
            · exact ⟨p4.2, p4.1⟩
            · rw [if_pos q4] at a6
              refine s_num (lo := 1) (hi := 5) hl ht htb (by decide) a4 a5 a1 a6 (by decide) (fun y w v S2 hv1 hv d e => nm_e ?_) (fun v x2 S2 hv1 hv b1 b2 b3 b4 b5 b6 => nm_e ?_)
              · obtain ⟨B, c1, c2⟩ := d.2.2.2.2.2.2.2
                exact h123d y w _ (d.dr (Fr.rf.I _ _) (B := uR B v) ⟨c1.1, c1.2.1, c1.2.2.1, c1.2.2.2.1, c1.2.2.2.2.1, c1.2.2.2.2.2.1, ⟨hv1, hv⟩, c1.2.2.2.2.2.2.2⟩ (c2.r v)) e
              · exact h123 (told ||| 2 ^ n) (uR A v) x2 _ (by have := a1.1; omega) b2 htold' (hinv' (by omega)) (b4.dr (Fr.rf.I _ _) ⟨hw.1, hw.2.1, hw.2.2.1, hw.2.2.2.1, hw.2.2.2.2.1, hw.2.2.2.2.2.1, ⟨hv1, hv⟩, hw.2.2.2.2.2.2.2⟩ (b4.2.2.2.2.2.2.2.r v)) (b5.dr (Fr.rf.I _ _)) b6
            · rw [if_neg q4] at a6
              have p5 := pk_eq (A := wp_X5_takeNumber 1 9 S' (fun r20 S21 => ∀ S23 : tq_St, S23 = sI S21 2 9 r20 → wp_X5_tellLine_123 KV S23)) (B := wp_X5_tellPlan S' (fun S15 => wp_X5_tellLine_123 KV S15)) (x := nI n) (y := 5) n 5 (fun q5 => ?_) (fun q5 => ?_)
              · exact ⟨p5.2, p5.1⟩
              · rw [if_pos q5] at a6
                refine s_num (lo := 1) (hi := 9) hl ht htb (by decide) a4 a5 a1 a6 (by decide) (fun y w v S2 hv1 hv d e => nm_e ?_) (fun v x2 S2 hv1 hv b1 b2 b3 b4 b5 b6 => nm_e ?_)
                · obtain ⟨B, c1, c2⟩ := d.2.2.2.2.2.2.2
                  exact h123d y w _ (d.dr (Fr.rf.I _ _) (B := uT B v) ⟨c1.1, c1.2.1, c1.2.2.1, c1.2.2.2.1, c1.2.2.2.2.1, c1.2.2.2.2.2.1, c1.2.2.2.2.2.2.1, ⟨hv1, hv⟩, c1.2.2.2.2.2.2.2.2⟩ (c2.h v)) e
                · exact h123 (told ||| 2 ^ n) (uT A v) x2 _ (by have := a1.1; omega) b2 htold' (hinv' (by omega)) (b4.dr (Fr.rf.I _ _) ⟨hw.1, hw.2.1, hw.2.2.1, hw.2.2.2.1, hw.2.2.2.2.1, hw.2.2.2.2.2.1, hw.2.2.2.2.2.2.1, ⟨hv1, hv⟩, hw.2.2.2.2.2.2.2.2⟩ (b4.2.2.2.2.2.2.2.h v)) (b5.dr (Fr.rf.I _ _)) b6
              · rw [if_neg q5] at a6
                have h6 : n = 6 := by omega
                have hA0 : aC A = 0 := hinv (by rw [← h6]; exact hb)
                unfold wp_X5_tellPlan
                have hgo := s_plan (E := E) (R := R) (KV := fun S15 => wp_X5_tellLine_123 KV S15) (told := told ||| 2 ^ n) hl ht htb (p := x.2.1) h123d (fun B x2 S2 b1 b2 b3 b4 b5 b6 => h123 (told ||| 2 ^ n) B x2 S2 b1 b2 htold' (fun hb6 => absurd hb6 (by rw [h6, Nat.testBit_or, Nat.testBit_two_pow_self]; simp)) b4 b5 b6) 9 2000 S' A x1 (by omega) (by omega) (by omega) a2 a3 a4 a5 a1 a6
                rw [hA0] at hgo
                exact hgo
        · have hb : told.testBit n = true := (zb_1 ht31 (by omega)).mp q
          rw [if_pos hb] at hR
          exact s_fail (y := 4) hc (by decide) (fun S' d => h123d 4 x.1 S' d hR)
      · rw [if_pos z4] at hR
        exact s_one (O := fun B x2 => semC t len x2 E (O told B)) hl ht htb z4 hc hx hok hR h123d (fun v x2 S2 b1 b2 b3 b4 b5 b6 => h123 told (addO A n v) x2 S2 b1 b2 htold (fun hb6 => hinv hb6) b4 b5 b6)
  · rw [if_neg z1] at hR
    refine ⟨fun z => absurd rfl z, fun _ => ?_⟩
    rw [hx.1]
    exact s_fail (y := 2) hc (by decide) (fun S' d => h123d 2 x.1 S' d hR)
/-- behind the text: told (lines, evening), or a fault (number, place) -/
def CY (S0 S : tq_St) (R : (Nat × Nat) ⊕ (Nat × aE)) (r : Int32) : Prop := (∀ o, o ≠ 19 → o ≠ 2 → S.1 o = S0.1 o ∧ S.2.1 o = S0.2.1 o) ∧ S.2.1 19 = S0.2.1 19 ∧ S.1 19 2 = 0 ∧ match R with
  | .inl (y, w) => (0 < y ∧ y ≤ 6) ∧ S.1 19 3 = nI y ∧ r = -10 - nI w
  | .inr (l, A) => S.1 19 3 = 0 ∧ r = nI l ∧ wfE A ∧ RC S 2 A
theorem s_91d {y w : Nat} {v : Int32} (h : CD S0 S len y w) (hK : ∀ r S', CY S0 S' (.inl (y, w)) r → K r S') : wp_X5_tellAll_91 K v S := by
  obtain ⟨h1, h2, h3, h4, h5, h6, h7, -⟩ := h
  unfold wp_X5_tellAll_91
  refine nm_e ?_
  have e3 : (sI S 19 2 0).1 19 3 = nI y := by rw [sI_1, if_neg (by decide)]; exact h6
  have e4 : (sI S 19 2 0).1 19 4 = nI w := by rw [sI_1, if_neg (by decide)]; exact h7
  rw [e3, e4]
  refine ⟨fun _ => hK _ _ ⟨fun o a b => ⟨(sI_1n S a).trans (h1 o a b).1, (h1 o a b).2⟩, h3, by rw [sI_1, if_pos rfl], h5, e3, rfl⟩, fun z => absurd z (nI_ne0 h5.1 (by omega))⟩
theorem s_64 {l : Nat} {R' : (Nat × Nat) ⊕ (Nat × aE)} (hc : CL S0 S len told A) (hR : (if fitB A then Sum.inr (l, A) else Sum.inl (6, len)) = R') (hK : ∀ r S', CY S0 S' R' r → K r S') : wp_X5_tellAll_64 K (nI l) S := by
  obtain ⟨h1, h2, h3, h4, h5, h6, h7, h8⟩ := id hc
  unfold wp_X5_tellAll_64
  refine ⟨fun z => absurd h5 z, fun _ => c_fit h7 h8 (fun hall => ⟨fun _ => ?_, fun z => absurd z (by decide)⟩) (fun hno => ⟨fun z => absurd rfl z, fun _ => ?_⟩)⟩
  · rw [if_pos (by unfold fitB; exact decide_eq_true hall)] at hR
    subst hR
    unfold wp_X5_tellAll_91
    refine nm_e ?_
    have e3 : (sI S 19 2 0).1 19 3 = 0 := by rw [sI_1, if_neg (by decide)]; exact h5
    rw [e3]
    refine ⟨fun z => absurd rfl z, fun _ => hK _ _ ⟨fun o a b => ⟨(sI_1n S a).trans (h1 o a b).1, (h1 o a b).2⟩, h3, by rw [sI_1, if_pos rfl], e3, rfl, h7.e hall, h8.fr ((Fr.rf (o := 19)).I _ _) (by decide)⟩⟩
  · rw [if_neg (by unfold fitB; intro z; have z' := of_decide_eq_true z; exact hno z')] at hR
    subst hR
    rw [h4]
    exact s_fail (y := 6) hc (by decide) (fun S' d => s_91d d hK)
theorem s_33 {R : (Nat × Nat) ⊕ (Nat × aE)} (hl : len ≤ 160) (ht : ∀ i, i < len → S0.2.1 19 0 i = nI (t i)) (htb : ∀ i, t i < 128) (hK : ∀ r S', CY S0 S' R r → K r S') : ∀ (m l f told : Nat) (A : aE) (x : aK3) (S : tq_St), len - x.1 < m → m < f → l ≤ x.1 → told < 128 → (told.testBit 6 = false → aC A = 0) → tkOk t len x → x.2.2 ≠ 4 → CL S0 S len told A → CK S t x → linesC t len m l told A x (fun y w => Sum.inl (y, w)) (fun l A => if fitB A then Sum.inr (l, A) else Sum.inl (6, len)) = R → wp_X5_tellAll_33 K f (nI l) S := by
  intro m
  induction m with
  | zero =>
    intro l f told A x S h1
    omega
  | succ m ih =>
    intro l f told A x S h1 h2 h3 h4 h5 hok hx4 hc hx hR
    obtain ⟨f, rfl⟩ : ∃ k, f = k + 1 + 1 := ⟨f - 2, by omega⟩
    have hk4 := hok.2.2.1
    have hel := hok.2.1
    unfold linesC at hR
    rw [wp_X5_tellAll_33]
    refine ⟨fun z => absurd hc.2.2.2.2.1 z, fun _ => ?_⟩
    rw [hx.2.2.1]
    refine pk_eq x.2.2 0 (fun z => ?_) (fun z => ?_)
    · rw [if_pos z] at hR
      exact s_64 hc hR hK
    · rw [if_neg z] at hR
      have hlt := hok.2.2.2.2.1 z
      refine pk_le 160 l (fun z2 => absurd z2 (by omega)) (fun _ => ?_)
      refine s_line hl ht htb h4 h5 hc hx hok z hR (fun y w S' d e => nm_r (nI_1 l) ?_) (fun told' B x' S' a1 a2 a3 a4 a5 a6 a7 a8 => nm_r (nI_1 l) ?_)
      · rw [wp_X5_tellAll_33]
        refine ⟨fun _ => ?_, fun z => absurd z d.ne⟩
        unfold wp_X5_tellAll_64
        refine ⟨fun _ => s_91d d (fun r S2 y2 => hK r S2 (e ▸ y2)), fun z => absurd z d.ne⟩
      · exact ih (l + 1) (f + 1) told' B x' S' (by omega) (by omega) (by omega) a4 a5 a2 a3 a6 a7 a8
theorem s_all (hG : RQ S G) (hw : wfQ G) (hK : ∀ r S', CY S S' (textR (qT G).2 (qT G).1) r → K r S') : wp_X5_tellAll S K := by
  have hl := hw.2.2.1.1
  have htb := hw.2.2.1.2
  have h2 := hG.2.2.1.1
  have ht := hG.2.2.1.2
  unfold wp_X5_tellAll
  refine c_clear (fun S1 a1 a2 => nm_e (nm_e (nm_e (nm_e ?_))))
  have f := ((((Fr.rf (o := 19) (S := S1)).I 3 0).I 4 0).I 5 0).I 6 0
  have f19 := a2.1 19 (by decide)
  have hc : CL S (sI (sI (sI (sI S1 19 3 0) 19 4 0) 19 5 0) 19 6 0) (qT G).1 0 e0A := by
    refine ⟨fun o b c => ⟨((f.1 o b).1).trans (a2.1 o c).1, ((f.1 o b).2).trans (a2.1 o c).2⟩, a2.2, f19.2, ?_, ?_, ?_, e0_wfD, a1.fr f (by decide)⟩
    · simp only [sI_1, f19.1]; simp [h2]
    · simp [sI_1]
    · simp [sI_1]; rfl
  refine s_tok (p := 0) (R := textR (qT G).2 (qT G).1) (t := (qT G).2) hl ht htb hc (by rw [sI_1, if_pos rfl]; rfl) (Nat.zero_le _) rfl (fun y w S' d e => ?_) (fun x S' b1 b2 b3 b4 b5 b6 => ?_)
  · rw [wp_X5_tellAll_33]
    refine ⟨fun _ => ?_, fun z => absurd z d.ne⟩
    unfold wp_X5_tellAll_64
    refine ⟨fun _ => s_91d d (fun r S2 y2 => hK r S2 (e ▸ y2)), fun z => absurd z d.ne⟩
  · exact s_33 hl ht htb hK 161 0 2000 0 e0A x S' (by omega) (by omega) (Nat.zero_le _) (by omega) (fun _ => rfl) b1 b3 b4 b5 b6
end TXF
