section TXI
variable {S S0 : tq_St} {G : aQ} {K : Int32 → tq_St → Prop} {KV : tq_St → Prop} {t : Nat → Nat} {len tz : Nat} {P : (Nat → Int32) × Int32 × Int32} {A : aE} {β : Type} {E : Nat → Nat → β} {R : β}
theorem r_65 {rec0 : tq_St → Prop} {v : Nat} {w : Int32} (x2 : RD P A) (hc8 : aC A < 8) (hS3 : S.2.1 28 3 = P.1) (hK : rec0 (sA (sA (sI S 28 6 w) 28 3 (19 + aC A) (nI v)) 28 3 27 (nI (aC A + 1)))) : wp_X7_readPlan_65 KV rec0 (nI v) w S := by
  unfold wp_X7_readPlan_65
  refine nm_e ⟨vp_in_nI (n := 27) (by decide) (by decide), ?_⟩
  have e27' : (sI S 28 6 w).2.1 28 3 (27 : Int32).toNatClampNeg = nI (aC A) := by
    show S.2.1 28 3 27 = _
    rw [hS3]; exact x2.2.2.2.2.2.2.2.2.1
  have e19 : (19 : Int32) + nI (aC A) = nI (19 + aC A) := nI_add 19 (aC A)
  rw [e27', e19]
  refine ⟨vp_in_nI (by omega) (by decide), nm_e ⟨vp_in_nI (n := 27) (by decide) (by decide), vp_in_nI (n := 27) (by decide) (by decide), ?_⟩⟩
  rw [nI_clamp (by omega)]
  have e27'' : (sA (sI S 28 6 w) 28 3 (19 + aC A) (nI v)).2.1 28 3 (27 : Int32).toNatClampNeg = nI (aC A) := by
    show (sA (sI S 28 6 w) 28 3 (19 + aC A) (nI v)).2.1 28 3 27 = _
    rw [sA_at, if_neg (by omega)]
    exact e27'
  rw [e27'', nI_1]
  exact nm_e hK
/-- an act is written on the page that is read -/
theorem r_act {rec0 : tq_St → Prop} {v : Nat} (hv : v ≤ 6) (x2 : RD P A) (x3 : wfD A) (hc8 : aC A < 8) (hS3 : S.2.1 28 3 = P.1) (hS6 : S.1 28 6 = P.2.2) (hK : ∀ w, RD (upd (upd P.1 (19 + aC A) (nI v)) 27 (nI (aC A + 1)), P.2.1, w) (planA A v) → rec0 (sA (sA (sI S 28 6 w) 28 3 (19 + aC A) (nI v)) 28 3 27 (nI (aC A + 1)))) : ((5 : Int32) ≤ nI v → wp_X7_readPlan_61 KV rec0 (nI v) S) ∧ (¬ (5 : Int32) ≤ nI v → (nI v ≤ (S.1 28 6) → wp_X7_readPlan_61 KV rec0 (nI v) S) ∧ (¬ nI v ≤ (S.1 28 6) → wp_X7_readPlan_65 KV rec0 (nI v) (nI v) S)) := by
  obtain ⟨g, g1, g2, g3⟩ := x2.2.2.2.2.2.2.2.2.2.2.2
  have e6 : S.1 28 6 = nI g - 1 := by rw [hS6]; exact g2
  have h61 : (5 ≤ v ∨ v < g) → wp_X7_readPlan_61 KV rec0 (nI v) S := fun hg => r_65 x2 hc8 hS3 (hK _ (x2.plan x3 hc8 g1 e6 g3.1 (fun z => by omega) (g3.2.imp id Or.inl)))
  refine pk_le 5 v (fun z => h61 (Or.inl z)) (fun z => ?_)
  rw [e6]
  refine ⟨fun q => h61 (Or.inr ((le_high (by omega) (by omega)).mp q)), fun q => ?_⟩
  have q' : ¬ v < g := fun c => q ((le_high (by omega) (by omega)).mpr c)
  exact r_65 x2 hc8 hS3 (hK _ (x2.plan x3 hc8 (g := v + 1) (by omega) (nI_pred v).symm (fun i hi h5 => by have := g3.1 i hi h5; omega) (fun _ => by omega) (Or.inr (Or.inr rfl))))
theorem r_planD {y w f : Nat} (h : ZD P S0 S len y w) (hf : 0 < f) (hK : KV S) : wp_X7_readPlan_0 KV f S := by
  obtain ⟨f, rfl⟩ : ∃ k, f = k + 1 := ⟨f - 1, by omega⟩
  rw [wp_X7_readPlan_0]
  exact ⟨fun _ => hK, fun z => absurd z h.ne⟩
theorem r_plan {O : aE → aK3 → β} {p : Nat} (hl : len ≤ 160) (ht : ∀ i, i < len → S0.2.1 28 7 i = nI (t i)) (htb : ∀ i, t i < 128) (hd : ∀ y w P' B S', ZD P' S0 S' len y w → RD P' B → wfD B → E y w = R → KV S') (hK : ∀ P' B x' S', p ≤ x'.1 → tkOk t len x' → x'.2.2 ≠ 4 → ZL P' S0 S' len tz → ZK S' t x' → RD P' B → wfD B → O B x' = R → KV S') : ∀ (m f : Nat) (S : tq_St) (P : (Nat → Int32) × Int32 × Int32) (A : aE) (x : aK3), aC A + m = 9 → 0 < m → m < f → p ≤ x.1 → x.2.2 ≠ 4 → ZL P S0 S len tz → ZK S t x → tkOk t len x → RD P A → wfD A → planC t len m A x E O = R → wp_X7_readPlan_0 KV f S := by
  intro m
  induction m with
  | zero =>
    intro f S P A x h1 h0
    omega
  | succ m ih =>
    intro f S P A x h1 h0 h2 hp hx4 hc hx hok x2 x3 hR
    obtain ⟨f, rfl⟩ : ∃ k, f = k + 1 := ⟨f - 1, by omega⟩
    have hk4 := hok.2.2.1
    have hC := x3.2.2.2.2.2.2.2.2.1
    have e27 : S.2.1 28 3 (27 : Int32).toNatClampNeg = nI (aC A) := by
      show S.2.1 28 3 27 = _
      rw [hc.1.2.2.2.2.2.1]; exact x2.2.2.2.2.2.2.2.2.1
    unfold planC at hR
    rw [wp_X7_readPlan_0]
    refine ⟨fun z => absurd hc.2.1 z, fun _ => ?_⟩
    rw [hx.2.2.1, e27]
    have p2 := pk_eq (A := vp_in 27 28 ∧ (¬ (nI (aC A) : Int32) = 8 → (wp_X7_number 0 6 S (fun r4 S5 => ((5 : Int32) ≤ r4 → wp_X7_readPlan_61 KV (wp_X7_readPlan_0 KV f) r4 S5) ∧ (¬ (5 : Int32) ≤ r4 → ((r4 : Int32) ≤ (S5.1 28 6) → wp_X7_readPlan_61 KV (wp_X7_readPlan_0 KV f) r4 S5) ∧ (¬ (r4 : Int32) ≤ (S5.1 28 6) → wp_X7_readPlan_65 KV (wp_X7_readPlan_0 KV f) r4 r4 S5))))) ∧ ((nI (aC A) : Int32) = 8 → (wp_X7_fails 5 S (fun S16 => wp_X7_readPlan_0 KV f S16)))) (B := KV S) (x := nI x.2.2) (y := 2) x.2.2 2 (fun z => ?_) (fun z => ?_)
    · exact ⟨p2.2, p2.1⟩
    · rw [if_pos z] at hR
      refine ⟨vp_in_nI (n := 27) (by decide) (by decide), ?_⟩
      have p8 := pk_eq (A := wp_X7_fails 5 S (fun S16 => wp_X7_readPlan_0 KV f S16)) (B := wp_X7_number 0 6 S (fun r4 S5 => ((5 : Int32) ≤ r4 → wp_X7_readPlan_61 KV (wp_X7_readPlan_0 KV f) r4 S5) ∧ (¬ (5 : Int32) ≤ r4 → ((r4 : Int32) ≤ (S5.1 28 6) → wp_X7_readPlan_61 KV (wp_X7_readPlan_0 KV f) r4 S5) ∧ (¬ (r4 : Int32) ≤ (S5.1 28 6) → wp_X7_readPlan_65 KV (wp_X7_readPlan_0 KV f) r4 r4 S5)))) (x := nI (aC A)) (y := 8) (aC A) 8 (fun z8 => ?_) (fun z8 => ?_)
      · exact ⟨p8.2, p8.1⟩
      · rw [if_pos z8] at hR
        exact r_fails (y := 5) hc (by decide) hx.1 (fun S' d => r_planD d (by omega) (hd 5 x.1 P A S' d x2 x3 hR))
      · rw [if_neg z8] at hR
        refine r_num (lo := 0) (hi := 6) hl ht htb (by decide) (by decide) hc hx hok hR (fun y w v S2 _ hv d e => ?_) (fun v x' S2 _ hv b1 b2 b3 b4 b5 b6 => ?_)
        · refine r_act hv x2 x3 (by omega) d.1.2.2.2.2.2.1 d.1.2.2.2.2.2.2.2 (fun w' hRD => ?_)
          have d' := ((d.i6 w').a (19 + aC A) (nI v)).a 27 (nI (aC A + 1))
          exact r_planD d' (by omega) (hd y w _ (planA A v) _ d' hRD (plan_wfD x3 (by omega) hv) e)
        · refine r_act hv x2 x3 (by omega) b4.1.2.2.2.2.2.1 b4.1.2.2.2.2.2.2.2 (fun w' hRD => ?_)
          have c' := ((b4.i6 w').a (19 + aC A) (nI v)).a 27 (nI (aC A + 1))
          exact ih f _ _ (planA A v) x' (by show aC A + 1 + m = 9; omega) (by omega) (by omega) (by have := hok.1; omega) b3 c' (((b5.i (k := 6) (by omega) w').a 3 _ _).a 3 _ _) b2 hRD (plan_wfD x3 (by omega) hv) b6
    · rw [if_neg z] at hR
      exact hK P A x S hp hok hx4 hc hx x2 x3 hR
end TXI
