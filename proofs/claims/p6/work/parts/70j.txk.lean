section TXK
variable {S S0 : tq_St} {G : aQ} {K : Int32 → tq_St → Prop} {KV : tq_St → Prop} {t : Nat → Nat} {len tz told : Nat} {P : (Nat → Int32) × Int32 × Int32} {A : aE} {β : Type} {E : Nat → Nat → β} {R : β}
theorem r_line {x : aK3} {O : Nat → aE → aK3 → β} (hl : len ≤ 160) (ht : ∀ i, i < len → S0.2.1 28 7 i = nI (t i)) (htb : ∀ i, t i < 128) (hcut : ∀ i, i < 8 → S0.2.1 28 16 i = nI (tq_cuts.getD i 0)) (hlet : ∀ i, i < 29 → S0.2.1 28 17 i = nI (tq_lets.getD i 0)) (htz : tz < 128) (hbits : ∀ j, 4 ≤ j → j ≤ 6 → tz.testBit j = told.testBit j) (hinv : told.testBit 6 = false → aC A = 0) (hc : ZL P S0 S len tz) (hx : ZK S t x) (hok : tkOk t len x) (hx0 : x.2.2 ≠ 0) (x2 : RD P A) (x3 : wfD A) (hR : lineC t len told A x E O = R) (hd : ∀ y w P' B S', ZD P' S0 S' len y w → RD P' B → wfD B → E y w = R → KV S') (hK : ∀ tz' told' P' B x' S', x.1 < x'.1 → tkOk t len x' → x'.2.2 ≠ 4 → tz' < 128 → (∀ j, 4 ≤ j → j ≤ 6 → tz'.testBit j = told'.testBit j) → (told'.testBit 6 = false → aC B = 0) → ZL P' S0 S' len tz' → ZK S' t x' → RD P' B → wfD B → O told' B x' = R → KV S') : wp_X7_readLine S KV := by
  have hlt := hok.2.2.2.2.1 hx0
  have hle := nmF_le (t := t) (h := x.1) (e := x.2.1)
  have e4 : S.1 28 4 = nI (aN A) := by rw [hc.1.2.2.2.2.2.2.1]; exact x2.1
  have hN := x3.1
  unfold lineC at hR
  unfold wp_X7_readLine
  have h63d : ∀ (n y w : Nat) (S2 : tq_St), ZD P S0 S2 len y w → E y w = R → wp_X7_readLine_63 KV (nI n) S2 := by
    intro n y w S2 d e
    unfold wp_X7_readLine_63
    refine nm_e ?_
    have d' := d.i5 ((S2.1 28 5) ||| ((1 : Int32) <<< ((nI n : Int32) &&& 31)))
    exact r_stepD d' ⟨fun z => absurd z d'.nle, fun _ => hd y w P A _ d' x2 x3 e⟩
  refine r_name hl ht htb hcut hlet hc.1 hx hok (fun z1 z7 => ?_) (fun hno => ?_)
  · rw [if_pos z1, if_neg (by omega)] at hR
    generalize nmF t x.1 x.2.1 = n at hR hle z7
    have h63 : (n < 4 → aN A ≠ 5) → (4 ≤ n → told.testBit n = false) → wp_X7_readLine_63 KV (nI n) S := by
      intro hn5 hnb
      unfold wp_X7_readLine_63
      rw [hc.2.2, zb_or (by omega)]
      refine nm_e ?_
      have hc' := hc.tz5 (tz ||| 2 ^ n)
      have htz' : tz ||| 2 ^ n < 128 := zb_orlt (k := 7) htz (by omega)
      have h12' : (sI S 28 5 (nI (tz ||| 2 ^ n))).1 28 12 = nI x.2.1 := by rw [sI_1, if_neg (by decide)]; exact hx.2.1
      -- what is told behind this line
      have hR' : tkC t len x.2.1 E (fun x1 => if n < 4 then (if x1.2.2 = 2 then numC t len 0 40 x1 E (fun v x2 => semC t len x2 E (O (if n < 4 then told else told ||| 2 ^ n) (addO A n v))) else semC t len x1 E (O (if n < 4 then told else told ||| 2 ^ n) (addO A n 0))) else if n = 4 then numC t len 1 5 x1 E (fun v x2 => semC t len x2 E (O (if n < 4 then told else told ||| 2 ^ n) (uR A v))) else if n = 5 then numC t len 1 9 x1 E (fun v x2 => semC t len x2 E (O (if n < 4 then told else told ||| 2 ^ n) (uT A v))) else planC t len 9 A x1 E (fun A' x2 => semC t len x2 E (O (if n < 4 then told else told ||| 2 ^ n) A'))) = R := by
        by_cases c4 : n < 4
        · rw [if_pos c4, if_neg (hn5 c4)] at hR
          simp only [if_pos c4]
          exact hR
        · rw [if_neg c4, if_neg (by rw [hnb (by omega)]; decide)] at hR
          simp only [if_neg c4]
          exact hR
      refine r_step hl ht htb hok.2.1 hc' h12' hR' (fun y w S2 d e => ⟨fun z => absurd z d.nle, fun _ => hd y w P A S2 d x2 x3 e⟩) (fun x1 S2 a1 a2 a3 a4 a5 a6 => ⟨fun _ => ?_, fun z => absurd (by rw [a4.2.1]; decide) z⟩)
      have h112 : ∀ P' B x' S3, x.1 < x'.1 → tkOk t len x' → x'.2.2 ≠ 4 → ZL P' S0 S3 len (tz ||| 2 ^ n) → ZK S3 t x' → RD P' B → wfD B → (n = 6 ∨ aC B = aC A) → semC t len x' E (O (if n < 4 then told else told ||| 2 ^ n) B) = R → (¬ (S3.1 28 10 : Int32) = 0 → wp_X7_readLine_112 KV S3) ∧ ((S3.1 28 10 : Int32) = 0 → ((S3.1 28 14 : Int32) = 3 → wp_X7_readLine_112 KV S3) ∧ (¬ (S3.1 28 14 : Int32) = 3 → (wp_X7_fails 2 S3 (fun S25 => wp_X7_readLine_112 KV S25)))) := by
        intro P' B x' S3 b1 b2 b3 b4 b5 b6 b7 b8 b9
        have hk4 := b2.2.2.1
        refine ⟨fun z => absurd b4.2.1 z, fun _ => ?_⟩
        unfold semC at b9
        rw [b5.2.2.1]
        refine pk_eq x'.2.2 3 (fun z => ?_) (fun z => ?_)
        · rw [if_pos z] at b9
          unfold wp_X7_readLine_112
          refine r_step hl ht htb b2.2.1 b4 b5.2.1 b9 (fun y w S4 d e => hd y w P' B S4 d b6 b7 e) (fun x'' S4 c1 c2 c3 c4 c5 c6 => ?_)
          refine hK (tz ||| 2 ^ n) (if n < 4 then told else told ||| 2 ^ n) P' B x'' S4 (by have := b2.1; omega) c1 c3 htz' (fun j hj1 hj2 => ?_) (fun hb6 => ?_) c4 c5 b6 b7 c6
          · rw [Nat.testBit_or, hbits j hj1 hj2, Nat.testBit_two_pow]
            by_cases c4 : n < 4
            · rw [if_pos c4, decide_eq_false (by omega), Bool.or_false]
            · rw [if_neg c4, Nat.testBit_or, Nat.testBit_two_pow]
          · rcases b8 with b8 | b8
            · rw [if_neg (by omega), Nat.testBit_or, Nat.testBit_two_pow, decide_eq_true b8, Bool.or_true] at hb6
              exact absurd hb6 (by decide)
            · rw [b8]
              refine hinv ?_
              by_cases c4 : n < 4
              · rw [if_pos c4] at hb6; exact hb6
              · rw [if_neg c4, Nat.testBit_or] at hb6
                exact (Bool.or_eq_false_iff.mp hb6).1
        · rw [if_neg z] at b9
          refine r_fails (y := 2) b4 (by decide) b5.1 (fun S4 d => ?_)
          unfold wp_X7_readLine_112
          exact r_stepD d (hd 2 x'.1 P' B S4 d b6 b7 b9)
      have h112d : ∀ y w P' B S3, ZD P' S0 S3 len y w → RD P' B → wfD B → E y w = R → (¬ (S3.1 28 10 : Int32) = 0 → wp_X7_readLine_112 KV S3) ∧ ((S3.1 28 10 : Int32) = 0 → ((S3.1 28 14 : Int32) = 3 → wp_X7_readLine_112 KV S3) ∧ (¬ (S3.1 28 14 : Int32) = 3 → (wp_X7_fails 2 S3 (fun S25 => wp_X7_readLine_112 KV S25)))) := by
        intro y w P' B S3 d b6 b7 e
        refine ⟨fun _ => ?_, fun z => absurd z d.ne⟩
        unfold wp_X7_readLine_112
        exact r_stepD d (hd y w P' B S3 d b6 b7 e)
      refine r_more (O := fun B x2 => semC t len x2 E (O (if n < 4 then told else told ||| 2 ^ n) B)) hl ht htb (by omega) (fun h3 => ?_) (fun h6 => ?_) a4 a5 a1 a3 x2 x3 a6 h112d (fun P' B x' S3 b1 b2 b3 b4 b5 b6 b7 b8 b9 => h112 P' B x' S3 (by omega) b2 b3 b4 b5 b6 b7 b8 b9)
      · have := hn5 (by omega); omega
      · exact hinv (by rw [← h6]; exact hnb (by omega))
    have h41 : (n < 4 → aN A ≠ 5) → wp_X7_readLine_41 KV (nI n) S := by
      intro hn5
      unfold wp_X7_readLine_41
      refine pk_lt n 4 (fun c => h63 hn5 (fun c2 => absurd c (by omega))) (fun c => ?_)
      rw [hc.2.2]
      refine ⟨fun q => h63 hn5 (fun _ => ?_), fun q => ?_⟩
      · rw [← hbits n c (by omega)]
        cases hq : tz.testBit n with
        | false => rfl
        | true => exact absurd ((zb_1 (by omega) (by omega)).mpr hq) q
      · have hb : told.testBit n = true := by
          rw [← hbits n c (by omega)]
          exact (zb_1 (by omega) (by omega)).mp q
        rw [if_neg (by omega), if_pos hb] at hR
        exact r_fails (y := 4) hc (by decide) hx.1 (fun S2 d => h63d n 4 x.1 S2 d hR)
    refine m_inC 0 6 (by decide) (by decide) (by decide) (by omega) (fun _ _ => ⟨fun _ => ?_, fun z => absurd z (by decide)⟩) (fun hno => absurd ⟨Nat.zero_le _, by omega⟩ hno)
    refine pk_lt 3 n (fun c => h41 (fun c2 => absurd c (by omega))) (fun c => ?_)
    rw [e4]
    have p5 := pk_eq (A := wp_X7_fails 5 S (fun S33 => wp_X7_readLine_41 KV (nI n) S33)) (B := wp_X7_readLine_41 KV (nI n) S) (x := nI (aN A)) (y := 5) (aN A) 5 (fun z5 => ?_) (fun z5 => h41 (fun _ => z5))
    · exact ⟨p5.2, p5.1⟩
    · rw [if_pos (by omega), if_pos z5] at hR
      refine r_fails (y := 5) hc (by decide) hx.1 (fun S2 d => ?_)
      unfold wp_X7_readLine_41
      exact pk_lt n 4 (fun _ => h63d n 5 x.1 S2 d hR) (fun c2 => absurd c2 (by omega))
  · have hR2 : E 2 x.1 = R := by
      by_cases c1 : x.2.2 = 1
      · rw [if_pos c1, if_pos (hno c1)] at hR; exact hR
      · rw [if_neg c1] at hR; exact hR
    refine m_inX 0 6 (by decide) (by decide) (by decide) ⟨fun z => absurd rfl z, fun _ => ?_⟩
    exact r_fails (y := 2) hc (by decide) hx.1 (fun S2 d => hd 2 x.1 P A S2 d x2 x3 hR2)
/-- what the text leaves, of all that there is -/
def textG (G : aQ) : aQ := match textR (qT G).2 (qT G).1 with
  | .inl (y, _) => vF (vT G (0, (qT G).2)) y
  | .inr (_, A) => (A, fun _ => none, (0, (qT G).2), 0, (0, (qS G).2), qH G, qO G)
def textI (G : aQ) : Int32 := match textR (qT G).2 (qT G).1 with
  | .inl (_, w) => -10 - nI w
  | .inr (l, _) => nI l
end TXK
