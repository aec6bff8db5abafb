section JJ
variable {S S' : tq_St} {G : aQ} {K : Int32 → tq_St → Prop}
theorem RZ.fc (h : RZ S G) (f : FC S S') : RZ S' G := by
  unfold RZ ZI ZH RM pg at h ⊢
  rw [f.1, f.2]
  exact h
theorem RC.f28 {o : Nat} {A : aE} (h : RC S o A) (f : Fr 28 S S') (ho : o ≠ 28) : RC S' o A := by
  have := f.1 o ho
  unfold RC
  rw [this.1, this.2]
  exact h
theorem RQ.f28 (h : RQ S G) (f : Fr 28 S S') : RQ S' G := by
  obtain ⟨h1, h2, h3, h4, h5, h6, h7⟩ := h
  have f19 := f.1 19 (by decide)
  have f20 := f.1 20 (by decide)
  have f27 := f.1 27 (by decide)
  refine ⟨h1.f28 f (by decide), fun k hk => ?_, by rw [f19.1, f19.2]; exact h3, by rw [f19.1]; exact h4, by rw [f20.1, f20.2]; exact h5, fun k hk => ?_, by rw [f27.1]; exact h7⟩
  · have := h2 k hk
    unfold CI at this ⊢
    rw [f27.2]
    split at this
    · exact this
    · exact ⟨this.1, this.2.f28 f (by omega)⟩
  · have := h6 k hk
    have f23 := f.1 (23 + k) (by omega)
    unfold CH at this ⊢
    rw [f23.1, f23.2]
    exact this
theorem uT_wf {A : aE} (hw : wfE A) {v : Nat} (h : 1 ≤ v ∧ v ≤ 9) : wfE (uT A v) := ⟨hw.1, hw.2.1, hw.2.2.1, hw.2.2.2.1, hw.2.2.2.2.1, hw.2.2.2.2.2.1, hw.2.2.2.2.2.2.1, h, hw.2.2.2.2.2.2.2.2⟩
theorem cutP_wf {A : aE} (hw : wfE A) {n : Nat} (h : n ≤ aC A) : wfE (uP A n (aA A)) := ⟨hw.1, hw.2.1, hw.2.2.1, hw.2.2.2.1, hw.2.2.2.2.1, hw.2.2.2.2.2.1, hw.2.2.2.2.2.2.1, hw.2.2.2.2.2.2.2.1, Nat.le_trans h hw.2.2.2.2.2.2.2.2.1, fun i hi => hw.2.2.2.2.2.2.2.2.2 i (Nat.lt_of_lt_of_le hi h)⟩
theorem uG0_wf {A : aE} (hw : wfE A) : wfE (uG A 0) := ⟨hw.1, hw.2.1, hw.2.2.1, hw.2.2.2.1, Nat.two_pow_pos _, hw.2.2.2.2.2⟩
theorem forgetF_wf (hw : wfQ G) {n : Nat} (h : n ≤ (qS G).1) : wfQ (forgetF G n) := ⟨hw.1, hw.2.1, hw.2.2.1, hw.2.2.2.1, ⟨Nat.le_trans h hw.2.2.2.2.1.1, hw.2.2.2.2.1.2⟩, hw.2.2.2.2.2⟩
theorem readF_wf (hw : wfQ G) {A : aE} {y : Nat} (w1 : wfE A) (w2 : aN A = aN (qA G)) (w3 : y ≤ 3) : wfQ (vO (vA G A) y) := by
  have h := hw.now w1 w2
  exact ⟨h.1, h.2.1, h.2.2.1, h.2.2.2.1, h.2.2.2.2.1, h.2.2.2.2.2.1, h.2.2.2.2.2.2.1, w3⟩
theorem w6_fault {K : Int32 → tq_St → Prop} (hG : RQ S G) (hw : wfQ G) (hK : ∀ r S' G', wfQ G' → RQ S' G' → (qT G').1 = (qT G).1 → FC S S' → K r S') : wp_X6_fault S K := by
  have k0 : ∀ r, K r S := fun r => hK r S G hw hG rfl FC.rf
  have k1 : ∀ r S', RQ S' G → FC S S' → K r S' := fun r S' a f => hK r S' G hw a rfl f
  have kA : ∀ r S' A, wfE A → aN A = aN (qA G) → RQ S' (vA G A) → FC S S' → K r S' := fun r S' A w1 w2 a f => hK r S' (vA G A) (hw.now w1 w2) a rfl f
  exact q_fault hG (k0 _)
theorem w7_fault {K : Int32 → tq_St → Prop} (hG : RZ S G) (hw : wfQ G) (hK : ∀ r S' G', wfQ G' → RZ S' G' → (qT G').1 = (qT G).1 → Fr 28 S S' → K r S') : wp_X7_fault S K := by
  have k0 : ∀ r, K r S := fun r => hK r S G hw hG rfl Fr.rf
  have k1 : ∀ r S', RZ S' G → Fr 28 S S' → K r S' := fun r S' a f => hK r S' G hw a rfl f
  have kA : ∀ r S' A, wfE A → aN A = aN (qA G) → RZ S' (vA G A) → Fr 28 S S' → K r S' := fun r S' A w1 w2 a f => hK r S' (vA G A) (hw.now w1 w2) a rfl f
  exact z_fault hG (k0 _)
theorem w6_rule {a0 : Int32} {K : Int32 → tq_St → Prop} (hG : RQ S G) (hw : wfQ G) (hK : ∀ r S' G', wfQ G' → RQ S' G' → (qT G').1 = (qT G).1 → FC S S' → K r S') : wp_X6_rule a0 S K := by
  have k0 : ∀ r, K r S := fun r => hK r S G hw hG rfl FC.rf
  have k1 : ∀ r S', RQ S' G → FC S S' → K r S' := fun r S' a f => hK r S' G hw a rfl f
  have kA : ∀ r S' A, wfE A → aN A = aN (qA G) → RQ S' (vA G A) → FC S S' → K r S' := fun r S' A w1 w2 a f => hK r S' (vA G A) (hw.now w1 w2) a rfl f
  exact q_rule hG hw (fun _ => k0 _) (fun _ => k0 _) (fun _ => k0 _) (fun _ => k0 _) (fun _ => k0 _) (fun _ => k0 _) (fun _ => k0 _) (fun _ => k0 _)
theorem w7_rule {a0 : Int32} {K : Int32 → tq_St → Prop} (hG : RZ S G) (hw : wfQ G) (hK : ∀ r S' G', wfQ G' → RZ S' G' → (qT G').1 = (qT G).1 → Fr 28 S S' → K r S') : wp_X7_rule a0 S K := by
  have k0 : ∀ r, K r S := fun r => hK r S G hw hG rfl Fr.rf
  have k1 : ∀ r S', RZ S' G → Fr 28 S S' → K r S' := fun r S' a f => hK r S' G hw a rfl f
  have kA : ∀ r S' A, wfE A → aN A = aN (qA G) → RZ S' (vA G A) → Fr 28 S S' → K r S' := fun r S' A w1 w2 a f => hK r S' (vA G A) (hw.now w1 w2) a rfl f
  exact z_rule hG hw (fun _ => k0 _) (fun _ => k0 _) (fun _ => k0 _) (fun _ => k0 _) (fun _ => k0 _) (fun _ => k0 _) (fun _ => k0 _) (fun _ => k0 _)
theorem w6_one {a0 a1 : Int32} {K : Int32 → tq_St → Prop} (hG : RQ S G) (hw : wfQ G) (hK : ∀ r S' G', wfQ G' → RQ S' G' → (qT G').1 = (qT G).1 → FC S S' → K r S') : wp_X6_one a0 a1 S K := by
  have k0 : ∀ r, K r S := fun r => hK r S G hw hG rfl FC.rf
  have k1 : ∀ r S', RQ S' G → FC S S' → K r S' := fun r S' a f => hK r S' G hw a rfl f
  have kA : ∀ r S' A, wfE A → aN A = aN (qA G) → RQ S' (vA G A) → FC S S' → K r S' := fun r S' A w1 w2 a f => hK r S' (vA G A) (hw.now w1 w2) a rfl f
  exact q_one hG hw (fun _ => k0 _) (fun _ _ _ _ => k0 _) (fun _ _ _ _ => k0 _) (fun _ _ _ _ => k0 _) (fun _ _ _ _ => k0 _) (fun _ _ _ _ => k0 _)
theorem w7_one {a0 a1 : Int32} {K : Int32 → tq_St → Prop} (hG : RZ S G) (hw : wfQ G) (hK : ∀ r S' G', wfQ G' → RZ S' G' → (qT G').1 = (qT G).1 → Fr 28 S S' → K r S') : wp_X7_one a0 a1 S K := by
  have k0 : ∀ r, K r S := fun r => hK r S G hw hG rfl Fr.rf
  have k1 : ∀ r S', RZ S' G → Fr 28 S S' → K r S' := fun r S' a f => hK r S' G hw a rfl f
  have kA : ∀ r S' A, wfE A → aN A = aN (qA G) → RZ S' (vA G A) → Fr 28 S S' → K r S' := fun r S' A w1 w2 a f => hK r S' (vA G A) (hw.now w1 w2) a rfl f
  exact z_one hG hw (fun _ => k0 _) (fun _ _ _ _ => k0 _) (fun _ _ _ _ => k0 _) (fun _ _ _ _ => k0 _) (fun _ _ _ _ => k0 _) (fun _ _ _ _ => k0 _)
theorem w6_act {a0 : Int32} {K : Int32 → tq_St → Prop} (hG : RQ S G) (hw : wfQ G) (hK : ∀ r S' G', wfQ G' → RQ S' G' → (qT G').1 = (qT G).1 → FC S S' → K r S') : wp_X6_act a0 S K := by
  have k0 : ∀ r, K r S := fun r => hK r S G hw hG rfl FC.rf
  have k1 : ∀ r S', RQ S' G → FC S S' → K r S' := fun r S' a f => hK r S' G hw a rfl f
  have kA : ∀ r S' A, wfE A → aN A = aN (qA G) → RQ S' (vA G A) → FC S S' → K r S' := fun r S' A w1 w2 a f => hK r S' (vA G A) (hw.now w1 w2) a rfl f
  exact q_act hG hw (fun _ => k0 _) (fun _ _ _ => k0 _)
theorem w7_act {a0 : Int32} {K : Int32 → tq_St → Prop} (hG : RZ S G) (hw : wfQ G) (hK : ∀ r S' G', wfQ G' → RZ S' G' → (qT G').1 = (qT G).1 → Fr 28 S S' → K r S') : wp_X7_act a0 S K := by
  have k0 : ∀ r, K r S := fun r => hK r S G hw hG rfl Fr.rf
  have k1 : ∀ r S', RZ S' G → Fr 28 S S' → K r S' := fun r S' a f => hK r S' G hw a rfl f
  have kA : ∀ r S' A, wfE A → aN A = aN (qA G) → RZ S' (vA G A) → Fr 28 S S' → K r S' := fun r S' A w1 w2 a f => hK r S' (vA G A) (hw.now w1 w2) a rfl f
  exact z_act hG hw (fun _ => k0 _) (fun _ _ _ => k0 _)
theorem w6_queue {a0 : Int32} {K : Int32 → tq_St → Prop} (hG : RQ S G) (hw : wfQ G) (hK : ∀ r S' G', wfQ G' → RQ S' G' → (qT G').1 = (qT G).1 → FC S S' → K r S') : wp_X6_queue a0 S K := by
  have k0 : ∀ r, K r S := fun r => hK r S G hw hG rfl FC.rf
  have k1 : ∀ r S', RQ S' G → FC S S' → K r S' := fun r S' a f => hK r S' G hw a rfl f
  have kA : ∀ r S' A, wfE A → aN A = aN (qA G) → RQ S' (vA G A) → FC S S' → K r S' := fun r S' A w1 w2 a f => hK r S' (vA G A) (hw.now w1 w2) a rfl f
  exact q_queue hG hw (fun _ => k0 _) (fun _ _ _ S' a f => k1 _ S' a f)
theorem w7_queue {a0 : Int32} {K : Int32 → tq_St → Prop} (hG : RZ S G) (hw : wfQ G) (hK : ∀ r S' G', wfQ G' → RZ S' G' → (qT G').1 = (qT G).1 → Fr 28 S S' → K r S') : wp_X7_queue a0 S K := by
  have k0 : ∀ r, K r S := fun r => hK r S G hw hG rfl Fr.rf
  have k1 : ∀ r S', RZ S' G → Fr 28 S S' → K r S' := fun r S' a f => hK r S' G hw a rfl f
  have kA : ∀ r S' A, wfE A → aN A = aN (qA G) → RZ S' (vA G A) → Fr 28 S S' → K r S' := fun r S' A w1 w2 a f => hK r S' (vA G A) (hw.now w1 w2) a rfl f
  exact z_queue hG hw (fun _ => k0 _) (fun _ _ _ => k0 _)
theorem w6_alter {a0 a1 a2 : Int32} {K : Int32 → tq_St → Prop} (hG : RQ S G) (hw : wfQ G) (hK : ∀ r S' G', wfQ G' → RQ S' G' → (qT G').1 = (qT G).1 → FC S S' → K r S') : wp_X6_alter a0 a1 a2 S K := by
  have k0 : ∀ r, K r S := fun r => hK r S G hw hG rfl FC.rf
  have k1 : ∀ r S', RQ S' G → FC S S' → K r S' := fun r S' a f => hK r S' G hw a rfl f
  have kA : ∀ r S' A, wfE A → aN A = aN (qA G) → RQ S' (vA G A) → FC S S' → K r S' := fun r S' A w1 w2 a f => hK r S' (vA G A) (hw.now w1 w2) a rfl f
  exact q_alter hG hw (fun _ => k0 _) (fun p k hp e y h v S' a f => kA _ S' _ (alterK_wf hw.1 h) rfl a f) (fun p k hp e y h v S' a f => kA _ S' _ (alterS_wf hw.1 h) rfl a f)
theorem w7_alter {a0 a1 a2 : Int32} {K : Int32 → tq_St → Prop} (hG : RZ S G) (hw : wfQ G) (hK : ∀ r S' G', wfQ G' → RZ S' G' → (qT G').1 = (qT G).1 → Fr 28 S S' → K r S') : wp_X7_alter a0 a1 a2 S K := by
  have k0 : ∀ r, K r S := fun r => hK r S G hw hG rfl Fr.rf
  have k1 : ∀ r S', RZ S' G → Fr 28 S S' → K r S' := fun r S' a f => hK r S' G hw a rfl f
  have kA : ∀ r S' A, wfE A → aN A = aN (qA G) → RZ S' (vA G A) → Fr 28 S S' → K r S' := fun r S' A w1 w2 a f => hK r S' (vA G A) (hw.now w1 w2) a rfl f
  exact z_alter hG hw (fun _ => k0 _) (fun p k hp e y h v S' a f => kA _ S' _ (alterK_wf hw.1 h) rfl a f) (fun p k hp e y h v S' a f => kA _ S' _ (alterS_wf hw.1 h) rfl a f)
theorem w6_room {a0 : Int32} {K : Int32 → tq_St → Prop} (hG : RQ S G) (hw : wfQ G) (hK : ∀ r S' G', wfQ G' → RQ S' G' → (qT G').1 = (qT G).1 → FC S S' → K r S') : wp_X6_room a0 S K := by
  have k0 : ∀ r, K r S := fun r => hK r S G hw hG rfl FC.rf
  have k1 : ∀ r S', RQ S' G → FC S S' → K r S' := fun r S' a f => hK r S' G hw a rfl f
  have kA : ∀ r S' A, wfE A → aN A = aN (qA G) → RQ S' (vA G A) → FC S S' → K r S' := fun r S' A w1 w2 a f => hK r S' (vA G A) (hw.now w1 w2) a rfl f
  exact q_room hG (fun _ => k0 _) (fun v h e S' a f => kA _ S' _ (uR_wf hw.1 h) rfl a f)
theorem w7_room {a0 : Int32} {K : Int32 → tq_St → Prop} (hG : RZ S G) (hw : wfQ G) (hK : ∀ r S' G', wfQ G' → RZ S' G' → (qT G').1 = (qT G).1 → Fr 28 S S' → K r S') : wp_X7_room a0 S K := by
  have k0 : ∀ r, K r S := fun r => hK r S G hw hG rfl Fr.rf
  have k1 : ∀ r S', RZ S' G → Fr 28 S S' → K r S' := fun r S' a f => hK r S' G hw a rfl f
  have kA : ∀ r S' A, wfE A → aN A = aN (qA G) → RZ S' (vA G A) → Fr 28 S S' → K r S' := fun r S' A w1 w2 a f => hK r S' (vA G A) (hw.now w1 w2) a rfl f
  exact z_room hG hw (fun _ => k0 _) (fun v h1 h2 e S' a f => kA _ S' _ (uR_wf hw.1 ⟨h1, h2⟩) rfl a f)
theorem w6_think {a0 : Int32} {K : Int32 → tq_St → Prop} (hG : RQ S G) (hw : wfQ G) (hK : ∀ r S' G', wfQ G' → RQ S' G' → (qT G').1 = (qT G).1 → FC S S' → K r S') : wp_X6_think a0 S K := by
  have k0 : ∀ r, K r S := fun r => hK r S G hw hG rfl FC.rf
  have k1 : ∀ r S', RQ S' G → FC S S' → K r S' := fun r S' a f => hK r S' G hw a rfl f
  have kA : ∀ r S' A, wfE A → aN A = aN (qA G) → RQ S' (vA G A) → FC S S' → K r S' := fun r S' A w1 w2 a f => hK r S' (vA G A) (hw.now w1 w2) a rfl f
  exact q_think hG (fun _ => k0 _) (fun v h e S' a f => kA _ S' _ (uT_wf hw.1 h) rfl a f)
theorem w7_think {a0 : Int32} {K : Int32 → tq_St → Prop} (hG : RZ S G) (hw : wfQ G) (hK : ∀ r S' G', wfQ G' → RZ S' G' → (qT G').1 = (qT G).1 → Fr 28 S S' → K r S') : wp_X7_think a0 S K := by
  have k0 : ∀ r, K r S := fun r => hK r S G hw hG rfl Fr.rf
  have k1 : ∀ r S', RZ S' G → Fr 28 S S' → K r S' := fun r S' a f => hK r S' G hw a rfl f
  have kA : ∀ r S' A, wfE A → aN A = aN (qA G) → RZ S' (vA G A) → Fr 28 S S' → K r S' := fun r S' A w1 w2 a f => hK r S' (vA G A) (hw.now w1 w2) a rfl f
  exact z_think hG hw (fun _ => k0 _) (fun v h1 h2 e S' a f => kA _ S' _ (uT_wf hw.1 ⟨h1, h2⟩) rfl a f)
theorem w6_plan {a0 : Int32} {K : Int32 → tq_St → Prop} (hG : RQ S G) (hw : wfQ G) (hK : ∀ r S' G', wfQ G' → RQ S' G' → (qT G').1 = (qT G).1 → FC S S' → K r S') : wp_X6_plan a0 S K := by
  have k0 : ∀ r, K r S := fun r => hK r S G hw hG rfl FC.rf
  have k1 : ∀ r S', RQ S' G → FC S S' → K r S' := fun r S' a f => hK r S' G hw a rfl f
  have kA : ∀ r S' A, wfE A → aN A = aN (qA G) → RQ S' (vA G A) → FC S S' → K r S' := fun r S' A w1 w2 a f => hK r S' (vA G A) (hw.now w1 w2) a rfl f
  exact q_plan hG hw (fun _ => k0 _) (fun v h e hc S' a f => kA _ S' _ (planA_wf hw.1 hc h) rfl a f) (fun _ _ _ _ => k0 _)
theorem w7_plan {a0 : Int32} {K : Int32 → tq_St → Prop} (hG : RZ S G) (hw : wfQ G) (hK : ∀ r S' G', wfQ G' → RZ S' G' → (qT G').1 = (qT G).1 → Fr 28 S S' → K r S') : wp_X7_plan a0 S K := by
  have k0 : ∀ r, K r S := fun r => hK r S G hw hG rfl Fr.rf
  have k1 : ∀ r S', RZ S' G → Fr 28 S S' → K r S' := fun r S' a f => hK r S' G hw a rfl f
  have kA : ∀ r S' A, wfE A → aN A = aN (qA G) → RZ S' (vA G A) → Fr 28 S S' → K r S' := fun r S' A w1 w2 a f => hK r S' (vA G A) (hw.now w1 w2) a rfl f
  exact z_plan hG hw (fun _ => k0 _) (fun v h e hc S' a f => kA _ S' _ (planA_wf hw.1 hc h) rfl a f) (fun _ _ _ _ => k0 _)
theorem w6_cut {a0 : Int32} {K : Int32 → tq_St → Prop} (hG : RQ S G) (hw : wfQ G) (hK : ∀ r S' G', wfQ G' → RQ S' G' → (qT G').1 = (qT G).1 → FC S S' → K r S') : wp_X6_cut a0 S K := by
  have k0 : ∀ r, K r S := fun r => hK r S G hw hG rfl FC.rf
  have k1 : ∀ r S', RQ S' G → FC S S' → K r S' := fun r S' a f => hK r S' G hw a rfl f
  have kA : ∀ r S' A, wfE A → aN A = aN (qA G) → RQ S' (vA G A) → FC S S' → K r S' := fun r S' A w1 w2 a f => hK r S' (vA G A) (hw.now w1 w2) a rfl f
  exact q_cut hG hw (fun _ => k0 _) (fun n h e S' a f => kA _ S' _ (cutP_wf hw.1 h) rfl a f)
theorem w7_cut {a0 : Int32} {K : Int32 → tq_St → Prop} (hG : RZ S G) (hw : wfQ G) (hK : ∀ r S' G', wfQ G' → RZ S' G' → (qT G').1 = (qT G).1 → Fr 28 S S' → K r S') : wp_X7_cut a0 S K := by
  have k0 : ∀ r, K r S := fun r => hK r S G hw hG rfl Fr.rf
  have k1 : ∀ r S', RZ S' G → Fr 28 S S' → K r S' := fun r S' a f => hK r S' G hw a rfl f
  have kA : ∀ r S' A, wfE A → aN A = aN (qA G) → RZ S' (vA G A) → Fr 28 S S' → K r S' := fun r S' A w1 w2 a f => hK r S' (vA G A) (hw.now w1 w2) a rfl f
  exact z_cut hG hw (fun _ => k0 _) (fun n h e S' a f => kA _ S' _ (cutP_wf hw.1 h) rfl a f)
theorem w6_thinks {a0 : Int32} {K : Int32 → tq_St → Prop} (hG : RQ S G) (hw : wfQ G) (hK : ∀ r S' G', wfQ G' → RQ S' G' → (qT G').1 = (qT G).1 → FC S S' → K r S') : wp_X6_thinks a0 S K := by
  have k0 : ∀ r, K r S := fun r => hK r S G hw hG rfl FC.rf
  have k1 : ∀ r S', RQ S' G → FC S S' → K r S' := fun r S' a f => hK r S' G hw a rfl f
  have kA : ∀ r S' A, wfE A → aN A = aN (qA G) → RQ S' (vA G A) → FC S S' → K r S' := fun r S' A w1 w2 a f => hK r S' (vA G A) (hw.now w1 w2) a rfl f
  exact q_thinks hG hw (fun _ => k0 _) (fun _ _ _ _ => k0 _) (fun p hp e b S' a f => kA _ S' _ (thinkF_wf hw.1 p).1 rfl a f)
theorem w7_thinks {a0 : Int32} {K : Int32 → tq_St → Prop} (hG : RZ S G) (hw : wfQ G) (hK : ∀ r S' G', wfQ G' → RZ S' G' → (qT G').1 = (qT G).1 → Fr 28 S S' → K r S') : wp_X7_thinks a0 S K := by
  have k0 : ∀ r, K r S := fun r => hK r S G hw hG rfl Fr.rf
  have k1 : ∀ r S', RZ S' G → Fr 28 S S' → K r S' := fun r S' a f => hK r S' G hw a rfl f
  have kA : ∀ r S' A, wfE A → aN A = aN (qA G) → RZ S' (vA G A) → Fr 28 S S' → K r S' := fun r S' A w1 w2 a f => hK r S' (vA G A) (hw.now w1 w2) a rfl f
  exact z_thinks hG hw (fun _ => k0 _) (fun _ _ _ _ => k0 _) (fun p hp e b S' a f => kA _ S' _ (thinkF_wf hw.1 p).1 rfl a f)
theorem w6_minutes {a0 : Int32} {K : Int32 → tq_St → Prop} (hG : RQ S G) (hw : wfQ G) (hK : ∀ r S' G', wfQ G' → RQ S' G' → (qT G').1 = (qT G).1 → FC S S' → K r S') : wp_X6_minutes a0 S K := by
  have k0 : ∀ r, K r S := fun r => hK r S G hw hG rfl FC.rf
  have k1 : ∀ r S', RQ S' G → FC S S' → K r S' := fun r S' a f => hK r S' G hw a rfl f
  have kA : ∀ r S' A, wfE A → aN A = aN (qA G) → RQ S' (vA G A) → FC S S' → K r S' := fun r S' A w1 w2 a f => hK r S' (vA G A) (hw.now w1 w2) a rfl f
  exact q_minutes hG hw (fun _ => k0 _) (fun n h e S' a f => kA _ S' _ (dryN_ok n _ hw.1).1 (dryN_ok n _ hw.1).2 a f)
theorem w7_minutes {a0 : Int32} {K : Int32 → tq_St → Prop} (hG : RZ S G) (hw : wfQ G) (hK : ∀ r S' G', wfQ G' → RZ S' G' → (qT G').1 = (qT G).1 → Fr 28 S S' → K r S') : wp_X7_minutes a0 S K := by
  have k0 : ∀ r, K r S := fun r => hK r S G hw hG rfl Fr.rf
  have k1 : ∀ r S', RZ S' G → Fr 28 S S' → K r S' := fun r S' a f => hK r S' G hw a rfl f
  have kA : ∀ r S' A, wfE A → aN A = aN (qA G) → RZ S' (vA G A) → Fr 28 S S' → K r S' := fun r S' A w1 w2 a f => hK r S' (vA G A) (hw.now w1 w2) a rfl f
  exact z_minutes hG hw (fun _ => k0 _) (fun n h e S' a f => kA _ S' _ (dryN_ok n _ hw.1).1 (dryN_ok n _ hw.1).2 a f)
theorem w6_tram {K : Int32 → tq_St → Prop} (hG : RQ S G) (hw : wfQ G) (hK : ∀ r S' G', wfQ G' → RQ S' G' → (qT G').1 = (qT G).1 → FC S S' → K r S') : wp_X6_tram S K := by
  have k0 : ∀ r, K r S := fun r => hK r S G hw hG rfl FC.rf
  have k1 : ∀ r S', RQ S' G → FC S S' → K r S' := fun r S' a f => hK r S' G hw a rfl f
  have kA : ∀ r S' A, wfE A → aN A = aN (qA G) → RQ S' (vA G A) → FC S S' → K r S' := fun r S' A w1 w2 a f => hK r S' (vA G A) (hw.now w1 w2) a rfl f
  exact q_tram hG hw (fun S' a f => kA _ S' _ (boardF_wf hw.1) rfl a f)
theorem w7_tram {K : Int32 → tq_St → Prop} (hG : RZ S G) (hw : wfQ G) (hK : ∀ r S' G', wfQ G' → RZ S' G' → (qT G').1 = (qT G).1 → Fr 28 S S' → K r S') : wp_X7_tram S K := by
  have k0 : ∀ r, K r S := fun r => hK r S G hw hG rfl Fr.rf
  have k1 : ∀ r S', RZ S' G → Fr 28 S S' → K r S' := fun r S' a f => hK r S' G hw a rfl f
  have kA : ∀ r S' A, wfE A → aN A = aN (qA G) → RZ S' (vA G A) → Fr 28 S S' → K r S' := fun r S' A w1 w2 a f => hK r S' (vA G A) (hw.now w1 w2) a rfl f
  exact z_tram hG hw (fun S' a f => kA _ S' _ (boardF_wf hw.1) rfl a f)
theorem w6_joy {a0 : Int32} {K : Int32 → tq_St → Prop} (hG : RQ S G) (hw : wfQ G) (hK : ∀ r S' G', wfQ G' → RQ S' G' → (qT G').1 = (qT G).1 → FC S S' → K r S') : wp_X6_joy a0 S K := by
  have k0 : ∀ r, K r S := fun r => hK r S G hw hG rfl FC.rf
  have k1 : ∀ r S', RQ S' G → FC S S' → K r S' := fun r S' a f => hK r S' G hw a rfl f
  have kA : ∀ r S' A, wfE A → aN A = aN (qA G) → RQ S' (vA G A) → FC S S' → K r S' := fun r S' A w1 w2 a f => hK r S' (vA G A) (hw.now w1 w2) a rfl f
  exact q_joy hG hw (fun _ => k0 _) (fun _ _ _ _ => k0 _) (fun p hp e b S' a f => kA _ S' _ (joyF_wf hw.1 p) rfl a f)
theorem w7_joy {a0 : Int32} {K : Int32 → tq_St → Prop} (hG : RZ S G) (hw : wfQ G) (hK : ∀ r S' G', wfQ G' → RZ S' G' → (qT G').1 = (qT G).1 → Fr 28 S S' → K r S') : wp_X7_joy a0 S K := by
  have k0 : ∀ r, K r S := fun r => hK r S G hw hG rfl Fr.rf
  have k1 : ∀ r S', RZ S' G → Fr 28 S S' → K r S' := fun r S' a f => hK r S' G hw a rfl f
  have kA : ∀ r S' A, wfE A → aN A = aN (qA G) → RZ S' (vA G A) → Fr 28 S S' → K r S' := fun r S' A w1 w2 a f => hK r S' (vA G A) (hw.now w1 w2) a rfl f
  exact z_joy hG hw (fun _ => k0 _) (fun _ _ _ _ => k0 _) (fun p hp e b S' a f => kA _ S' _ (joyF_wf hw.1 p) rfl a f)
theorem w6_second {K : Int32 → tq_St → Prop} (hG : RQ S G) (hw : wfQ G) (hK : ∀ r S' G', wfQ G' → RQ S' G' → (qT G').1 = (qT G).1 → FC S S' → K r S') : wp_X6_second S K := by
  have k0 : ∀ r, K r S := fun r => hK r S G hw hG rfl FC.rf
  have k1 : ∀ r S', RQ S' G → FC S S' → K r S' := fun r S' a f => hK r S' G hw a rfl f
  have kA : ∀ r S' A, wfE A → aN A = aN (qA G) → RQ S' (vA G A) → FC S S' → K r S' := fun r S' A w1 w2 a f => hK r S' (vA G A) (hw.now w1 w2) a rfl f
  exact q_second hG hw (fun S' a f => kA _ S' _ (uG0_wf hw.1) rfl a f)
theorem w7_second {K : Int32 → tq_St → Prop} (hG : RZ S G) (hw : wfQ G) (hK : ∀ r S' G', wfQ G' → RZ S' G' → (qT G').1 = (qT G).1 → Fr 28 S S' → K r S') : wp_X7_second S K := by
  have k0 : ∀ r, K r S := fun r => hK r S G hw hG rfl Fr.rf
  have k1 : ∀ r S', RZ S' G → Fr 28 S S' → K r S' := fun r S' a f => hK r S' G hw a rfl f
  have kA : ∀ r S' A, wfE A → aN A = aN (qA G) → RZ S' (vA G A) → Fr 28 S S' → K r S' := fun r S' A w1 w2 a f => hK r S' (vA G A) (hw.now w1 w2) a rfl f
  exact z_second hG hw (fun S' a f => kA _ S' _ (uG0_wf hw.1) rfl a f)
theorem w6_runs {a0 : Int32} {K : Int32 → tq_St → Prop} (hG : RQ S G) (hw : wfQ G) (hK : ∀ r S' G', wfQ G' → RQ S' G' → (qT G').1 = (qT G).1 → FC S S' → K r S') : wp_X6_runs a0 S K := by
  have k0 : ∀ r, K r S := fun r => hK r S G hw hG rfl FC.rf
  have k1 : ∀ r S', RQ S' G → FC S S' → K r S' := fun r S' a f => hK r S' G hw a rfl f
  have kA : ∀ r S' A, wfE A → aN A = aN (qA G) → RQ S' (vA G A) → FC S S' → K r S' := fun r S' A w1 w2 a f => hK r S' (vA G A) (hw.now w1 w2) a rfl f
  exact q_runs hG hw (fun _ => k0 _) (fun _ S' a f => k1 _ S' a f) (fun _ S' a f => k1 _ S' a f) (fun _ S' a f => k1 _ S' a f) (fun _ S' a f => k1 _ S' a f) (fun _ S' a f => k1 _ S' a f)
theorem w7_runs {a0 : Int32} {K : Int32 → tq_St → Prop} (hG : RZ S G) (hw : wfQ G) (hK : ∀ r S' G', wfQ G' → RZ S' G' → (qT G').1 = (qT G).1 → Fr 28 S S' → K r S') : wp_X7_runs a0 S K := by
  have k0 : ∀ r, K r S := fun r => hK r S G hw hG rfl Fr.rf
  have k1 : ∀ r S', RZ S' G → Fr 28 S S' → K r S' := fun r S' a f => hK r S' G hw a rfl f
  have kA : ∀ r S' A, wfE A → aN A = aN (qA G) → RZ S' (vA G A) → Fr 28 S S' → K r S' := fun r S' A w1 w2 a f => hK r S' (vA G A) (hw.now w1 w2) a rfl f
  exact z_runs hG hw (fun _ => k0 _) (fun _ S' a f => k1 _ S' a f) (fun _ S' a f => k1 _ S' a f) (fun _ S' a f => k1 _ S' a f) (fun _ S' a f => k1 _ S' a f) (fun _ S' a f => k1 _ S' a f)
theorem w6_ahead {a0 a1 : Int32} {K : Int32 → tq_St → Prop} (hG : RQ S G) (hw : wfQ G) (hK : ∀ r S' G', wfQ G' → RQ S' G' → (qT G').1 = (qT G).1 → FC S S' → K r S') : wp_X6_ahead a0 a1 S K := by
  have k0 : ∀ r, K r S := fun r => hK r S G hw hG rfl FC.rf
  have k1 : ∀ r S', RQ S' G → FC S S' → K r S' := fun r S' a f => hK r S' G hw a rfl f
  have kA : ∀ r S' A, wfE A → aN A = aN (qA G) → RQ S' (vA G A) → FC S S' → K r S' := fun r S' A w1 w2 a f => hK r S' (vA G A) (hw.now w1 w2) a rfl f
  exact q_ahead hG hw (fun _ => k0 _) (fun _ _ _ _ S' a f => k1 _ S' a f) (fun _ _ _ _ S' a f => k1 _ S' a f)
theorem w7_ahead {a0 a1 : Int32} {K : Int32 → tq_St → Prop} (hG : RZ S G) (hw : wfQ G) (hK : ∀ r S' G', wfQ G' → RZ S' G' → (qT G').1 = (qT G).1 → Fr 28 S S' → K r S') : wp_X7_ahead a0 a1 S K := by
  have k0 : ∀ r, K r S := fun r => hK r S G hw hG rfl Fr.rf
  have k1 : ∀ r S', RZ S' G → Fr 28 S S' → K r S' := fun r S' a f => hK r S' G hw a rfl f
  have kA : ∀ r S' A, wfE A → aN A = aN (qA G) → RZ S' (vA G A) → Fr 28 S S' → K r S' := fun r S' A w1 w2 a f => hK r S' (vA G A) (hw.now w1 w2) a rfl f
  exact z_ahead hG hw (fun _ => k0 _) (fun _ _ _ _ S' a f => k1 _ S' a f) (fun _ _ _ _ S' a f => k1 _ S' a f)
theorem w6_soon {a0 : Int32} {K : Int32 → tq_St → Prop} (hG : RQ S G) (hw : wfQ G) (hK : ∀ r S' G', wfQ G' → RQ S' G' → (qT G').1 = (qT G).1 → FC S S' → K r S') : wp_X6_soon a0 S K := by
  have k0 : ∀ r, K r S := fun r => hK r S G hw hG rfl FC.rf
  have k1 : ∀ r S', RQ S' G → FC S S' → K r S' := fun r S' a f => hK r S' G hw a rfl f
  have kA : ∀ r S' A, wfE A → aN A = aN (qA G) → RQ S' (vA G A) → FC S S' → K r S' := fun r S' A w1 w2 a f => hK r S' (vA G A) (hw.now w1 w2) a rfl f
  exact q_soon hG hw (fun _ => k0 _) (fun _ _ _ _ => k0 _) (fun _ _ _ _ S' a f => k1 _ S' a f)
theorem w7_soon {a0 : Int32} {K : Int32 → tq_St → Prop} (hG : RZ S G) (hw : wfQ G) (hK : ∀ r S' G', wfQ G' → RZ S' G' → (qT G').1 = (qT G).1 → Fr 28 S S' → K r S') : wp_X7_soon a0 S K := by
  have k0 : ∀ r, K r S := fun r => hK r S G hw hG rfl Fr.rf
  have k1 : ∀ r S', RZ S' G → Fr 28 S S' → K r S' := fun r S' a f => hK r S' G hw a rfl f
  have kA : ∀ r S' A, wfE A → aN A = aN (qA G) → RZ S' (vA G A) → Fr 28 S S' → K r S' := fun r S' A w1 w2 a f => hK r S' (vA G A) (hw.now w1 w2) a rfl f
  exact z_soon hG hw (fun _ => k0 _) (fun _ _ _ _ S' a f => k1 _ S' a f) (fun _ _ _ _ S' a f => k1 _ S' a f)
theorem w6_best {a0 a1 : Int32} {K : Int32 → tq_St → Prop} (hG : RQ S G) (hw : wfQ G) (hK : ∀ r S' G', wfQ G' → RQ S' G' → (qT G').1 = (qT G).1 → FC S S' → K r S') : wp_X6_best a0 a1 S K := by
  have k0 : ∀ r, K r S := fun r => hK r S G hw hG rfl FC.rf
  have k1 : ∀ r S', RQ S' G → FC S S' → K r S' := fun r S' a f => hK r S' G hw a rfl f
  have kA : ∀ r S' A, wfE A → aN A = aN (qA G) → RQ S' (vA G A) → FC S S' → K r S' := fun r S' A w1 w2 a f => hK r S' (vA G A) (hw.now w1 w2) a rfl f
  exact q_best hG hw (fun r S' a f => k1 r S' a f)
theorem w7_best {a0 a1 : Int32} {K : Int32 → tq_St → Prop} (hG : RZ S G) (hw : wfQ G) (hK : ∀ r S' G', wfQ G' → RZ S' G' → (qT G').1 = (qT G).1 → Fr 28 S S' → K r S') : wp_X7_best a0 a1 S K := by
  have k0 : ∀ r, K r S := fun r => hK r S G hw hG rfl Fr.rf
  have k1 : ∀ r S', RZ S' G → Fr 28 S S' → K r S' := fun r S' a f => hK r S' G hw a rfl f
  have kA : ∀ r S' A, wfE A → aN A = aN (qA G) → RZ S' (vA G A) → Fr 28 S S' → K r S' := fun r S' A w1 w2 a f => hK r S' (vA G A) (hw.now w1 w2) a rfl f
  exact z_best hG hw (fun r S' a f => k1 r S' a f)
theorem w6_home {a0 a1 : Int32} {K : Int32 → tq_St → Prop} (hG : RQ S G) (hw : wfQ G) (hK : ∀ r S' G', wfQ G' → RQ S' G' → (qT G').1 = (qT G).1 → FC S S' → K r S') : wp_X6_home a0 a1 S K := by
  have k0 : ∀ r, K r S := fun r => hK r S G hw hG rfl FC.rf
  have k1 : ∀ r S', RQ S' G → FC S S' → K r S' := fun r S' a f => hK r S' G hw a rfl f
  have kA : ∀ r S' A, wfE A → aN A = aN (qA G) → RQ S' (vA G A) → FC S S' → K r S' := fun r S' A w1 w2 a f => hK r S' (vA G A) (hw.now w1 w2) a rfl f
  exact q_home hG hw (fun r S' a f => k1 r S' a f)
theorem w7_home {a0 a1 : Int32} {K : Int32 → tq_St → Prop} (hG : RZ S G) (hw : wfQ G) (hK : ∀ r S' G', wfQ G' → RZ S' G' → (qT G').1 = (qT G).1 → Fr 28 S S' → K r S') : wp_X7_home a0 a1 S K := by
  have k0 : ∀ r, K r S := fun r => hK r S G hw hG rfl Fr.rf
  have k1 : ∀ r S', RZ S' G → Fr 28 S S' → K r S' := fun r S' a f => hK r S' G hw a rfl f
  have kA : ∀ r S' A, wfE A → aN A = aN (qA G) → RZ S' (vA G A) → Fr 28 S S' → K r S' := fun r S' A w1 w2 a f => hK r S' (vA G A) (hw.now w1 w2) a rfl f
  exact z_home hG hw (fun r S' a f => k1 r S' a f)
theorem w6_swap {a0 : Int32} {K : Int32 → tq_St → Prop} (hG : RQ S G) (hw : wfQ G) (hK : ∀ r S' G', wfQ G' → RQ S' G' → (qT G').1 = (qT G).1 → FC S S' → K r S') : wp_X6_swap a0 S K := by
  have k0 : ∀ r, K r S := fun r => hK r S G hw hG rfl FC.rf
  have k1 : ∀ r S', RQ S' G → FC S S' → K r S' := fun r S' a f => hK r S' G hw a rfl f
  have kA : ∀ r S' A, wfE A → aN A = aN (qA G) → RQ S' (vA G A) → FC S S' → K r S' := fun r S' A w1 w2 a f => hK r S' (vA G A) (hw.now w1 w2) a rfl f
  exact q_swap hG hw (fun _ => k0 _) (fun _ _ _ S' a f => k1 _ S' a f)
theorem w7_swap {a0 : Int32} {K : Int32 → tq_St → Prop} (hG : RZ S G) (hw : wfQ G) (hK : ∀ r S' G', wfQ G' → RZ S' G' → (qT G').1 = (qT G).1 → Fr 28 S S' → K r S') : wp_X7_swap a0 S K := by
  have k0 : ∀ r, K r S := fun r => hK r S G hw hG rfl Fr.rf
  have k1 : ∀ r S', RZ S' G → Fr 28 S S' → K r S' := fun r S' a f => hK r S' G hw a rfl f
  have kA : ∀ r S' A, wfE A → aN A = aN (qA G) → RZ S' (vA G A) → Fr 28 S S' → K r S' := fun r S' A w1 w2 a f => hK r S' (vA G A) (hw.now w1 w2) a rfl f
  exact z_swap hG hw (fun _ => k0 _) (fun _ _ _ S' a f => k1 _ S' a f)
theorem w6_enough {K : Int32 → tq_St → Prop} (hG : RQ S G) (hw : wfQ G) (hK : ∀ r S' G', wfQ G' → RQ S' G' → (qT G').1 = (qT G).1 → FC S S' → K r S') : wp_X6_enough S K := by
  have k0 : ∀ r, K r S := fun r => hK r S G hw hG rfl FC.rf
  have k1 : ∀ r S', RQ S' G → FC S S' → K r S' := fun r S' a f => hK r S' G hw a rfl f
  have kA : ∀ r S' A, wfE A → aN A = aN (qA G) → RQ S' (vA G A) → FC S S' → K r S' := fun r S' A w1 w2 a f => hK r S' (vA G A) (hw.now w1 w2) a rfl f
  exact q_enough hG hw (fun S' a f => k1 _ S' a f)
theorem w7_enough {K : Int32 → tq_St → Prop} (hG : RZ S G) (hw : wfQ G) (hK : ∀ r S' G', wfQ G' → RZ S' G' → (qT G').1 = (qT G).1 → Fr 28 S S' → K r S') : wp_X7_enough S K := by
  have k0 : ∀ r, K r S := fun r => hK r S G hw hG rfl Fr.rf
  have k1 : ∀ r S', RZ S' G → Fr 28 S S' → K r S' := fun r S' a f => hK r S' G hw a rfl f
  have kA : ∀ r S' A, wfE A → aN A = aN (qA G) → RZ S' (vA G A) → Fr 28 S S' → K r S' := fun r S' A w1 w2 a f => hK r S' (vA G A) (hw.now w1 w2) a rfl f
  exact z_enough hG hw (fun S' a f => k1 _ S' a f)
theorem w6_luck {a0 a1 a2 : Int32} {K : Int64 → tq_St → Prop} (hG : RQ S G) (hw : wfQ G) (hK : ∀ r S' G', wfQ G' → RQ S' G' → (qT G').1 = (qT G).1 → FC S S' → K r S') : wp_X6_luck a0 a1 a2 S K := by
  have k0 : ∀ r, K r S := fun r => hK r S G hw hG rfl FC.rf
  have k1 : ∀ r S', RQ S' G → FC S S' → K r S' := fun r S' a f => hK r S' G hw a rfl f
  have kA : ∀ r S' A, wfE A → aN A = aN (qA G) → RQ S' (vA G A) → FC S S' → K r S' := fun r S' A w1 w2 a f => hK r S' (vA G A) (hw.now w1 w2) a rfl f
  exact q_luck hG hw (fun r S' a f => k1 r S' a f)
theorem w7_luck {a0 a1 a2 : Int32} {K : Int64 → tq_St → Prop} (hG : RZ S G) (hw : wfQ G) (hK : ∀ r S' G', wfQ G' → RZ S' G' → (qT G').1 = (qT G).1 → Fr 28 S S' → K r S') : wp_X7_luck a0 a1 a2 S K := by
  have k0 : ∀ r, K r S := fun r => hK r S G hw hG rfl Fr.rf
  have k1 : ∀ r S', RZ S' G → Fr 28 S S' → K r S' := fun r S' a f => hK r S' G hw a rfl f
  have kA : ∀ r S' A, wfE A → aN A = aN (qA G) → RZ S' (vA G A) → Fr 28 S S' → K r S' := fun r S' A w1 w2 a f => hK r S' (vA G A) (hw.now w1 w2) a rfl f
  exact z_luck hG hw (fun r S' a f => k1 r S' a f)
theorem w6_mean {a0 a1 : Int32} {K : Int64 → tq_St → Prop} (hG : RQ S G) (hw : wfQ G) (hK : ∀ r S' G', wfQ G' → RQ S' G' → (qT G').1 = (qT G).1 → FC S S' → K r S') : wp_X6_mean a0 a1 S K := by
  have k0 : ∀ r, K r S := fun r => hK r S G hw hG rfl FC.rf
  have k1 : ∀ r S', RQ S' G → FC S S' → K r S' := fun r S' a f => hK r S' G hw a rfl f
  have kA : ∀ r S' A, wfE A → aN A = aN (qA G) → RQ S' (vA G A) → FC S S' → K r S' := fun r S' A w1 w2 a f => hK r S' (vA G A) (hw.now w1 w2) a rfl f
  exact q_mean hG hw (fun r S' a f => k1 r S' a f)
theorem w7_mean {a0 a1 : Int32} {K : Int64 → tq_St → Prop} (hG : RZ S G) (hw : wfQ G) (hK : ∀ r S' G', wfQ G' → RZ S' G' → (qT G').1 = (qT G).1 → Fr 28 S S' → K r S') : wp_X7_mean a0 a1 S K := by
  have k0 : ∀ r, K r S := fun r => hK r S G hw hG rfl Fr.rf
  have k1 : ∀ r S', RZ S' G → Fr 28 S S' → K r S' := fun r S' a f => hK r S' G hw a rfl f
  have kA : ∀ r S' A, wfE A → aN A = aN (qA G) → RZ S' (vA G A) → Fr 28 S S' → K r S' := fun r S' A w1 w2 a f => hK r S' (vA G A) (hw.now w1 w2) a rfl f
  exact z_mean hG hw (fun r S' a f => k1 r S' a f)
theorem w6_forget {a0 : Int32} {K : Int32 → tq_St → Prop} (hG : RQ S G) (hw : wfQ G) (hK : ∀ r S' G', wfQ G' → RQ S' G' → (qT G').1 = (qT G).1 → FC S S' → K r S') : wp_X6_forget a0 S K := by
  have k0 : ∀ r, K r S := fun r => hK r S G hw hG rfl FC.rf
  have k1 : ∀ r S', RQ S' G → FC S S' → K r S' := fun r S' a f => hK r S' G hw a rfl f
  have kA : ∀ r S' A, wfE A → aN A = aN (qA G) → RQ S' (vA G A) → FC S S' → K r S' := fun r S' A w1 w2 a f => hK r S' (vA G A) (hw.now w1 w2) a rfl f
  exact q_forget hG hw (fun _ => k0 _) (fun n h e S' a f => hK _ S' (forgetF G n) (forgetF_wf hw h) a rfl f)
theorem w7_forget {a0 : Int32} {K : Int32 → tq_St → Prop} (hG : RZ S G) (hw : wfQ G) (hK : ∀ r S' G', wfQ G' → RZ S' G' → (qT G').1 = (qT G).1 → Fr 28 S S' → K r S') : wp_X7_forget a0 S K := by
  have k0 : ∀ r, K r S := fun r => hK r S G hw hG rfl Fr.rf
  have k1 : ∀ r S', RZ S' G → Fr 28 S S' → K r S' := fun r S' a f => hK r S' G hw a rfl f
  have kA : ∀ r S' A, wfE A → aN A = aN (qA G) → RZ S' (vA G A) → Fr 28 S S' → K r S' := fun r S' A w1 w2 a f => hK r S' (vA G A) (hw.now w1 w2) a rfl f
  exact z_forget hG hw (fun _ => k0 _) (fun n h e S' a f => hK _ S' (forgetF G n) (forgetF_wf hw h) a rfl f)
theorem w6_kinds {a0 : Int32} {K : Int32 → tq_St → Prop} (hG : RQ S G) (hw : wfQ G) (hK : ∀ r S' G', wfQ G' → RQ S' G' → (qT G').1 = (qT G).1 → FC S S' → K r S') : wp_X6_kinds a0 S K := by
  have k0 : ∀ r, K r S := fun r => hK r S G hw hG rfl FC.rf
  have k1 : ∀ r S', RQ S' G → FC S S' → K r S' := fun r S' a f => hK r S' G hw a rfl f
  have kA : ∀ r S' A, wfE A → aN A = aN (qA G) → RQ S' (vA G A) → FC S S' → K r S' := fun r S' A w1 w2 a f => hK r S' (vA G A) (hw.now w1 w2) a rfl f
  exact q_kinds hG hw (fun _ => k0 _) (fun _ _ _ S' a f => k1 _ S' a f)
theorem w7_kinds {a0 : Int32} {K : Int32 → tq_St → Prop} (hG : RZ S G) (hw : wfQ G) (hK : ∀ r S' G', wfQ G' → RZ S' G' → (qT G').1 = (qT G).1 → Fr 28 S S' → K r S') : wp_X7_kinds a0 S K := by
  have k0 : ∀ r, K r S := fun r => hK r S G hw hG rfl Fr.rf
  have k1 : ∀ r S', RZ S' G → Fr 28 S S' → K r S' := fun r S' a f => hK r S' G hw a rfl f
  have kA : ∀ r S' A, wfE A → aN A = aN (qA G) → RZ S' (vA G A) → Fr 28 S S' → K r S' := fun r S' A w1 w2 a f => hK r S' (vA G A) (hw.now w1 w2) a rfl f
  exact z_kinds hG hw (fun _ => k0 _) (fun _ _ _ S' a f => k1 _ S' a f)
theorem w6_sorrows {a0 : Int32} {K : Int32 → tq_St → Prop} (hG : RQ S G) (hw : wfQ G) (hK : ∀ r S' G', wfQ G' → RQ S' G' → (qT G').1 = (qT G).1 → FC S S' → K r S') : wp_X6_sorrows a0 S K := by
  have k0 : ∀ r, K r S := fun r => hK r S G hw hG rfl FC.rf
  have k1 : ∀ r S', RQ S' G → FC S S' → K r S' := fun r S' a f => hK r S' G hw a rfl f
  have kA : ∀ r S' A, wfE A → aN A = aN (qA G) → RQ S' (vA G A) → FC S S' → K r S' := fun r S' A w1 w2 a f => hK r S' (vA G A) (hw.now w1 w2) a rfl f
  exact q_sorrows hG hw (fun _ => k0 _) (fun _ _ _ S' a f => k1 _ S' a f)
theorem w7_sorrows {a0 : Int32} {K : Int32 → tq_St → Prop} (hG : RZ S G) (hw : wfQ G) (hK : ∀ r S' G', wfQ G' → RZ S' G' → (qT G').1 = (qT G).1 → Fr 28 S S' → K r S') : wp_X7_sorrows a0 S K := by
  have k0 : ∀ r, K r S := fun r => hK r S G hw hG rfl Fr.rf
  have k1 : ∀ r S', RZ S' G → Fr 28 S S' → K r S' := fun r S' a f => hK r S' G hw a rfl f
  have kA : ∀ r S' A, wfE A → aN A = aN (qA G) → RZ S' (vA G A) → Fr 28 S S' → K r S' := fun r S' A w1 w2 a f => hK r S' (vA G A) (hw.now w1 w2) a rfl f
  exact z_sorrows hG hw (fun _ => k0 _) (fun _ _ _ S' a f => k1 _ S' a f)
theorem w6_ask {a0 a1 : Int32} {K : Int32 → tq_St → Prop} (hG : RQ S G) (hw : wfQ G) (hK : ∀ r S' G', wfQ G' → RQ S' G' → (qT G').1 = (qT G).1 → FC S S' → K r S') : wp_X6_ask a0 a1 S K := by
  have k0 : ∀ r, K r S := fun r => hK r S G hw hG rfl FC.rf
  have k1 : ∀ r S', RQ S' G → FC S S' → K r S' := fun r S' a f => hK r S' G hw a rfl f
  have kA : ∀ r S' A, wfE A → aN A = aN (qA G) → RQ S' (vA G A) → FC S S' → K r S' := fun r S' A w1 w2 a f => hK r S' (vA G A) (hw.now w1 w2) a rfl f
  exact q_ask hG hw (fun r S' a f => k1 r S' a f)
theorem w7_ask {a0 a1 : Int32} {K : Int32 → tq_St → Prop} (hG : RZ S G) (hw : wfQ G) (hK : ∀ r S' G', wfQ G' → RZ S' G' → (qT G').1 = (qT G).1 → Fr 28 S S' → K r S') : wp_X7_ask a0 a1 S K := by
  have k0 : ∀ r, K r S := fun r => hK r S G hw hG rfl Fr.rf
  have k1 : ∀ r S', RZ S' G → Fr 28 S S' → K r S' := fun r S' a f => hK r S' G hw a rfl f
  have kA : ∀ r S' A, wfE A → aN A = aN (qA G) → RZ S' (vA G A) → Fr 28 S S' → K r S' := fun r S' A w1 w2 a f => hK r S' (vA G A) (hw.now w1 w2) a rfl f
  exact z_ask hG hw (fun r S' a f => k1 r S' a f)
theorem w6_drift {a0 a1 a2 : Int32} {K : Int32 → tq_St → Prop} (hG : RQ S G) (hw : wfQ G) (hK : ∀ r S' G', wfQ G' → RQ S' G' → (qT G').1 = (qT G).1 → FC S S' → K r S') : wp_X6_drift a0 a1 a2 S K := by
  have k0 : ∀ r, K r S := fun r => hK r S G hw hG rfl FC.rf
  have k1 : ∀ r S', RQ S' G → FC S S' → K r S' := fun r S' a f => hK r S' G hw a rfl f
  have kA : ∀ r S' A, wfE A → aN A = aN (qA G) → RQ S' (vA G A) → FC S S' → K r S' := fun r S' A w1 w2 a f => hK r S' (vA G A) (hw.now w1 w2) a rfl f
  exact q_drift hG hw (fun _ => k0 _) (fun _ _ _ _ _ _ _ _ => k0 _) (fun _ _ _ _ _ _ S' a f => k1 _ S' a f) (fun _ _ _ _ _ _ S' a f => k1 _ S' a f)
theorem w7_drift {a0 a1 a2 : Int32} {K : Int32 → tq_St → Prop} (hG : RZ S G) (hw : wfQ G) (hK : ∀ r S' G', wfQ G' → RZ S' G' → (qT G').1 = (qT G).1 → Fr 28 S S' → K r S') : wp_X7_drift a0 a1 a2 S K := by
  have k0 : ∀ r, K r S := fun r => hK r S G hw hG rfl Fr.rf
  have k1 : ∀ r S', RZ S' G → Fr 28 S S' → K r S' := fun r S' a f => hK r S' G hw a rfl f
  have kA : ∀ r S' A, wfE A → aN A = aN (qA G) → RZ S' (vA G A) → Fr 28 S S' → K r S' := fun r S' A w1 w2 a f => hK r S' (vA G A) (hw.now w1 w2) a rfl f
  exact z_drift hG hw (fun _ => k0 _) (fun _ _ _ _ _ _ _ _ => k0 _) (fun _ _ _ _ _ _ S' a f => k1 _ S' a f) (fun _ _ _ _ _ _ S' a f => k1 _ S' a f)
theorem w6_keep {a0 : Int32} {K : Int32 → tq_St → Prop} (hG : RQ S G) (hw : wfQ G) (hK : ∀ r S' G', wfQ G' → RQ S' G' → (qT G').1 = (qT G).1 → FC S S' → K r S') : wp_X6_keep a0 S K := by
  have k0 : ∀ r, K r S := fun r => hK r S G hw hG rfl FC.rf
  have k1 : ∀ r S', RQ S' G → FC S S' → K r S' := fun r S' a f => hK r S' G hw a rfl f
  have kA : ∀ r S' A, wfE A → aN A = aN (qA G) → RQ S' (vA G A) → FC S S' → K r S' := fun r S' A w1 w2 a f => hK r S' (vA G A) (hw.now w1 w2) a rfl f
  exact q_keep hG hw (fun _ => k0 _) (fun k h e S' a f => hK _ S' (keepF G k) (keepF_wf hw k) a rfl f)
theorem w7_keep {a0 : Int32} {K : Int32 → tq_St → Prop} (hG : RZ S G) (hw : wfQ G) (hK : ∀ r S' G', wfQ G' → RZ S' G' → (qT G').1 = (qT G).1 → Fr 28 S S' → K r S') : wp_X7_keep a0 S K := by
  have k0 : ∀ r, K r S := fun r => hK r S G hw hG rfl Fr.rf
  have k1 : ∀ r S', RZ S' G → Fr 28 S S' → K r S' := fun r S' a f => hK r S' G hw a rfl f
  have kA : ∀ r S' A, wfE A → aN A = aN (qA G) → RZ S' (vA G A) → Fr 28 S S' → K r S' := fun r S' A w1 w2 a f => hK r S' (vA G A) (hw.now w1 w2) a rfl f
  exact z_keep hG hw (fun _ => k0 _) (fun k h e S' a f => hK _ S' (keepF G k) (keepF_wf hw k) a rfl f)
theorem w6_back {a0 : Int32} {K : Int32 → tq_St → Prop} (hG : RQ S G) (hw : wfQ G) (hK : ∀ r S' G', wfQ G' → RQ S' G' → (qT G').1 = (qT G).1 → FC S S' → K r S') : wp_X6_back a0 S K := by
  have k0 : ∀ r, K r S := fun r => hK r S G hw hG rfl FC.rf
  have k1 : ∀ r S', RQ S' G → FC S S' → K r S' := fun r S' a f => hK r S' G hw a rfl f
  have kA : ∀ r S' A, wfE A → aN A = aN (qA G) → RQ S' (vA G A) → FC S S' → K r S' := fun r S' A w1 w2 a f => hK r S' (vA G A) (hw.now w1 w2) a rfl f
  exact q_back hG hw (fun _ => k0 _) (fun _ _ _ _ => k0 _) (fun k B hk e eB S' a f => kA _ S' B (hw.2.1 k B eB).1 (hw.2.1 k B eB).2 a f)
theorem w7_back {a0 : Int32} {K : Int32 → tq_St → Prop} (hG : RZ S G) (hw : wfQ G) (hK : ∀ r S' G', wfQ G' → RZ S' G' → (qT G').1 = (qT G).1 → Fr 28 S S' → K r S') : wp_X7_back a0 S K := by
  have k0 : ∀ r, K r S := fun r => hK r S G hw hG rfl Fr.rf
  have k1 : ∀ r S', RZ S' G → Fr 28 S S' → K r S' := fun r S' a f => hK r S' G hw a rfl f
  have kA : ∀ r S' A, wfE A → aN A = aN (qA G) → RZ S' (vA G A) → Fr 28 S S' → K r S' := fun r S' A w1 w2 a f => hK r S' (vA G A) (hw.now w1 w2) a rfl f
  exact z_back hG hw (fun _ => k0 _) (fun _ _ _ _ => k0 _) (fun k B hk e eB S' a f => kA _ S' B (hw.2.1 k B eB).1 (hw.2.1 k B eB).2 a f)
theorem w6_sheet {a0 a1 a2 : Int32} {K : Int32 → tq_St → Prop} (hG : RQ S G) (hw : wfQ G) (hK : ∀ r S' G', wfQ G' → RQ S' G' → (qT G').1 = (qT G).1 → FC S S' → K r S') : wp_X6_sheet a0 a1 a2 S K := by
  have k0 : ∀ r, K r S := fun r => hK r S G hw hG rfl FC.rf
  have k1 : ∀ r S', RQ S' G → FC S S' → K r S' := fun r S' a f => hK r S' G hw a rfl f
  have kA : ∀ r S' A, wfE A → aN A = aN (qA G) → RQ S' (vA G A) → FC S S' → K r S' := fun r S' A w1 w2 a f => hK r S' (vA G A) (hw.now w1 w2) a rfl f
  exact q_sheet hG hw (fun _ => k0 _) (fun _ _ _ _ _ _ _ => k0 _) (fun k l n hk e hl e2 hn e3 S' a f => hK _ S' (sheetF G k l n) (sheetF_wf hw hl hn) a rfl f)
theorem w7_sheet {a0 a1 a2 : Int32} {K : Int32 → tq_St → Prop} (hG : RZ S G) (hw : wfQ G) (hK : ∀ r S' G', wfQ G' → RZ S' G' → (qT G').1 = (qT G).1 → Fr 28 S S' → K r S') : wp_X7_sheet a0 a1 a2 S K := by
  have k0 : ∀ r, K r S := fun r => hK r S G hw hG rfl Fr.rf
  have k1 : ∀ r S', RZ S' G → Fr 28 S S' → K r S' := fun r S' a f => hK r S' G hw a rfl f
  have kA : ∀ r S' A, wfE A → aN A = aN (qA G) → RZ S' (vA G A) → Fr 28 S S' → K r S' := fun r S' A w1 w2 a f => hK r S' (vA G A) (hw.now w1 w2) a rfl f
  exact z_sheet hG hw (fun _ => k0 _) (fun _ _ _ _ _ _ _ => k0 _) (fun k l n hk e hl e2 hn e3 S' a f => hK _ S' (sheetF G k l n) (sheetF_wf hw hl hn) a rfl f)
theorem w6_lay {a0 a1 a2 : Int32} {K : Int32 → tq_St → Prop} (hG : RQ S G) (hw : wfQ G) (hK : ∀ r S' G', wfQ G' → RQ S' G' → (qT G').1 = (qT G).1 → FC S S' → K r S') : wp_X6_lay a0 a1 a2 S K := by
  have k0 : ∀ r, K r S := fun r => hK r S G hw hG rfl FC.rf
  have k1 : ∀ r S', RQ S' G → FC S S' → K r S' := fun r S' a f => hK r S' G hw a rfl f
  have kA : ∀ r S' A, wfE A → aN A = aN (qA G) → RQ S' (vA G A) → FC S S' → K r S' := fun r S' A w1 w2 a f => hK r S' (vA G A) (hw.now w1 w2) a rfl f
  exact q_lay hG hw (fun _ => k0 _) (fun _ _ _ _ => k0 _) (fun _ _ _ _ _ _ => k0 _) (fun k l i hk e hs hi ei S' a f => hK _ S' (layF G k l i _) (layF_wf hw hs) a rfl f)
theorem w7_lay {a0 a1 a2 : Int32} {K : Int32 → tq_St → Prop} (hG : RZ S G) (hw : wfQ G) (hK : ∀ r S' G', wfQ G' → RZ S' G' → (qT G').1 = (qT G).1 → Fr 28 S S' → K r S') : wp_X7_lay a0 a1 a2 S K := by
  have k0 : ∀ r, K r S := fun r => hK r S G hw hG rfl Fr.rf
  have k1 : ∀ r S', RZ S' G → Fr 28 S S' → K r S' := fun r S' a f => hK r S' G hw a rfl f
  have kA : ∀ r S' A, wfE A → aN A = aN (qA G) → RZ S' (vA G A) → Fr 28 S S' → K r S' := fun r S' A w1 w2 a f => hK r S' (vA G A) (hw.now w1 w2) a rfl f
  exact z_lay hG hw (fun _ => k0 _) (fun _ _ _ _ => k0 _) (fun _ _ _ _ _ _ => k0 _) (fun k l i hk e hs hi ei S' a f => hK _ S' (layF G k l i _) (layF_wf hw hs) a rfl f)
theorem w6_read {a0 a1 a2 a3 : Int32} {K : Int32 → tq_St → Prop} (hG : RQ S G) (hw : wfQ G) (hK : ∀ r S' G', wfQ G' → RQ S' G' → (qT G').1 = (qT G).1 → FC S S' → K r S') : wp_X6_read a0 a1 a2 a3 S K := by
  have k0 : ∀ r, K r S := fun r => hK r S G hw hG rfl FC.rf
  have k1 : ∀ r S', RQ S' G → FC S S' → K r S' := fun r S' a f => hK r S' G hw a rfl f
  have kA : ∀ r S' A, wfE A → aN A = aN (qA G) → RQ S' (vA G A) → FC S S' → K r S' := fun r S' A w1 w2 a f => hK r S' (vA G A) (hw.now w1 w2) a rfl f
  exact q_read hG hw (fun r S' A y w1 w2 w3 a f => hK r S' (vO (vA G A) y) (readF_wf hw w1 w2 w3) a rfl f)
theorem w7_read {a0 a1 a2 a3 : Int32} {K : Int32 → tq_St → Prop} (hG : RZ S G) (hw : wfQ G) (hK : ∀ r S' G', wfQ G' → RZ S' G' → (qT G').1 = (qT G).1 → Fr 28 S S' → K r S') : wp_X7_read a0 a1 a2 a3 S K := by
  have k0 : ∀ r, K r S := fun r => hK r S G hw hG rfl Fr.rf
  have k1 : ∀ r S', RZ S' G → Fr 28 S S' → K r S' := fun r S' a f => hK r S' G hw a rfl f
  have kA : ∀ r S' A, wfE A → aN A = aN (qA G) → RZ S' (vA G A) → Fr 28 S S' → K r S' := fun r S' A w1 w2 a f => hK r S' (vA G A) (hw.now w1 w2) a rfl f
  exact z_read hG hw (fun r S' A y w1 w2 w3 a f => hK r S' (vO (vA G A) y) (readF_wf hw w1 w2 w3) a rfl f)
theorem w6_torn {K : Int32 → tq_St → Prop} (hG : RQ S G) (hw : wfQ G) (hK : ∀ r S' G', wfQ G' → RQ S' G' → (qT G').1 = (qT G).1 → FC S S' → K r S') : wp_X6_torn S K := by
  have k0 : ∀ r, K r S := fun r => hK r S G hw hG rfl FC.rf
  have k1 : ∀ r S', RQ S' G → FC S S' → K r S' := fun r S' a f => hK r S' G hw a rfl f
  have kA : ∀ r S' A, wfE A → aN A = aN (qA G) → RQ S' (vA G A) → FC S S' → K r S' := fun r S' A w1 w2 a f => hK r S' (vA G A) (hw.now w1 w2) a rfl f
  exact q_torn hG (k0 _)
theorem w7_torn {K : Int32 → tq_St → Prop} (hG : RZ S G) (hw : wfQ G) (hK : ∀ r S' G', wfQ G' → RZ S' G' → (qT G').1 = (qT G).1 → Fr 28 S S' → K r S') : wp_X7_torn S K := by
  have k0 : ∀ r, K r S := fun r => hK r S G hw hG rfl Fr.rf
  have k1 : ∀ r S', RZ S' G → Fr 28 S S' → K r S' := fun r S' a f => hK r S' G hw a rfl f
  have kA : ∀ r S' A, wfE A → aN A = aN (qA G) → RZ S' (vA G A) → Fr 28 S S' → K r S' := fun r S' A w1 w2 a f => hK r S' (vA G A) (hw.now w1 w2) a rfl f
  exact z_torn hG (k0 _)
theorem w6_count {a0 : Int32} {K : Int32 → tq_St → Prop} (hG : RQ S G) (hw : wfQ G) (hK : ∀ r S' G', wfQ G' → RQ S' G' → (qT G').1 = (qT G).1 → FC S S' → K r S') : wp_X6_count a0 S K := by
  have k0 : ∀ r, K r S := fun r => hK r S G hw hG rfl FC.rf
  have k1 : ∀ r S', RQ S' G → FC S S' → K r S' := fun r S' a f => hK r S' G hw a rfl f
  have kA : ∀ r S' A, wfE A → aN A = aN (qA G) → RQ S' (vA G A) → FC S S' → K r S' := fun r S' A w1 w2 a f => hK r S' (vA G A) (hw.now w1 w2) a rfl f
  exact q_count hG hw (fun _ => k0 _) (fun _ => k0 _) (fun _ => k0 _) (fun _ => k0 _) (fun _ => k0 _) (fun _ => k0 _) (fun _ => k0 _)
theorem w7_count {a0 : Int32} {K : Int32 → tq_St → Prop} (hG : RZ S G) (hw : wfQ G) (hK : ∀ r S' G', wfQ G' → RZ S' G' → (qT G').1 = (qT G).1 → Fr 28 S S' → K r S') : wp_X7_count a0 S K := by
  have k0 : ∀ r, K r S := fun r => hK r S G hw hG rfl Fr.rf
  have k1 : ∀ r S', RZ S' G → Fr 28 S S' → K r S' := fun r S' a f => hK r S' G hw a rfl f
  have kA : ∀ r S' A, wfE A → aN A = aN (qA G) → RZ S' (vA G A) → Fr 28 S S' → K r S' := fun r S' A w1 w2 a f => hK r S' (vA G A) (hw.now w1 w2) a rfl f
  exact z_count hG hw (fun _ => k0 _) (fun _ => k0 _) (fun _ => k0 _) (fun _ => k0 _) (fun _ => k0 _) (fun _ => k0 _) (fun _ => k0 _)
theorem w6_see {a0 a1 : Int32} (h01 : a1 = 0 ∨ a1 = 1) (hG : RQ S G) (hw : wfQ G) (hK : ∀ r S' G', wfQ G' → RQ S' G' → (qT G').1 = (qT G).1 → FC S S' → K r S') : wp_X6_see a0 a1 S K := by
  have k0 : ∀ r, K r S := fun r => hK r S G hw hG rfl FC.rf
  have hn := hw.1.1
  obtain ⟨b, hb⟩ : ∃ b, a1 = bI b := by
    rcases h01 with h | h
    · exact ⟨false, h⟩
    · exact ⟨true, h⟩
  subst hb
  exact q_see hG hw (fun _ => k0 _) (fun _ _ _ _ => k0 _) (fun p hp e hs S' a f => hK _ S' (seeF G p b) (seeF_wf hw hs (by omega) b) a rfl f)
theorem w7_see {a0 a1 : Int32} (h01 : a1 = 0 ∨ a1 = 1) (hG : RZ S G) (hw : wfQ G) (hK : ∀ r S' G', wfQ G' → RZ S' G' → (qT G').1 = (qT G).1 → Fr 28 S S' → K r S') : wp_X7_see a0 a1 S K := by
  have k0 : ∀ r, K r S := fun r => hK r S G hw hG rfl Fr.rf
  have hn := hw.1.1
  obtain ⟨b, hb⟩ : ∃ b, a1 = bI b := by
    rcases h01 with h | h
    · exact ⟨false, h⟩
    · exact ⟨true, h⟩
  subst hb
  exact z_see hG hw (fun _ => k0 _) (fun _ _ _ _ => k0 _) (fun p hp e hs S' a f => hK _ S' (seeF G p b) (seeF_wf hw hs (by omega) b) a rfl f)
def lwJ (S : tq_St) : Prop := ∃ G G', wfQ G ∧ RQ S G ∧ wfQ G' ∧ RZ S G' ∧ (qT G).1 = (qT G').1
theorem js_fault : st_fault lwJ := by
  intro S ⟨G, G', g1, g2, g3, g4, g5⟩
  exact w6_fault g2 g1 (fun r1 S1 G1 b1 b2 b3 b4 => w7_fault (g4.fc b4) g3 (fun r2 S2 G2 c1 c2 c3 c4 => ⟨G1, G2, b1, b2.f28 c4, c1, c2, b3.trans (g5.trans c3.symm)⟩))
theorem js_rule : st_rule lwJ := by
  intro a0 S ⟨G, G', g1, g2, g3, g4, g5⟩
  exact w6_rule g2 g1 (fun r1 S1 G1 b1 b2 b3 b4 => w7_rule (g4.fc b4) g3 (fun r2 S2 G2 c1 c2 c3 c4 => ⟨G1, G2, b1, b2.f28 c4, c1, c2, b3.trans (g5.trans c3.symm)⟩))
theorem js_one : st_one lwJ := by
  intro a0 a1 S ⟨G, G', g1, g2, g3, g4, g5⟩
  exact w6_one g2 g1 (fun r1 S1 G1 b1 b2 b3 b4 => w7_one (g4.fc b4) g3 (fun r2 S2 G2 c1 c2 c3 c4 => ⟨G1, G2, b1, b2.f28 c4, c1, c2, b3.trans (g5.trans c3.symm)⟩))
theorem js_act : st_act lwJ := by
  intro a0 S ⟨G, G', g1, g2, g3, g4, g5⟩
  exact w6_act g2 g1 (fun r1 S1 G1 b1 b2 b3 b4 => w7_act (g4.fc b4) g3 (fun r2 S2 G2 c1 c2 c3 c4 => ⟨G1, G2, b1, b2.f28 c4, c1, c2, b3.trans (g5.trans c3.symm)⟩))
theorem js_queue : st_queue lwJ := by
  intro a0 S ⟨G, G', g1, g2, g3, g4, g5⟩
  exact w6_queue g2 g1 (fun r1 S1 G1 b1 b2 b3 b4 => w7_queue (g4.fc b4) g3 (fun r2 S2 G2 c1 c2 c3 c4 => ⟨G1, G2, b1, b2.f28 c4, c1, c2, b3.trans (g5.trans c3.symm)⟩))
theorem js_alter : st_alter lwJ := by
  intro a0 a1 a2 S ⟨G, G', g1, g2, g3, g4, g5⟩
  exact w6_alter g2 g1 (fun r1 S1 G1 b1 b2 b3 b4 => w7_alter (g4.fc b4) g3 (fun r2 S2 G2 c1 c2 c3 c4 => ⟨G1, G2, b1, b2.f28 c4, c1, c2, b3.trans (g5.trans c3.symm)⟩))
theorem js_room : st_room lwJ := by
  intro a0 S ⟨G, G', g1, g2, g3, g4, g5⟩
  exact w6_room g2 g1 (fun r1 S1 G1 b1 b2 b3 b4 => w7_room (g4.fc b4) g3 (fun r2 S2 G2 c1 c2 c3 c4 => ⟨G1, G2, b1, b2.f28 c4, c1, c2, b3.trans (g5.trans c3.symm)⟩))
theorem js_think : st_think lwJ := by
  intro a0 S ⟨G, G', g1, g2, g3, g4, g5⟩
  exact w6_think g2 g1 (fun r1 S1 G1 b1 b2 b3 b4 => w7_think (g4.fc b4) g3 (fun r2 S2 G2 c1 c2 c3 c4 => ⟨G1, G2, b1, b2.f28 c4, c1, c2, b3.trans (g5.trans c3.symm)⟩))
theorem js_plan : st_plan lwJ := by
  intro a0 S ⟨G, G', g1, g2, g3, g4, g5⟩
  exact w6_plan g2 g1 (fun r1 S1 G1 b1 b2 b3 b4 => w7_plan (g4.fc b4) g3 (fun r2 S2 G2 c1 c2 c3 c4 => ⟨G1, G2, b1, b2.f28 c4, c1, c2, b3.trans (g5.trans c3.symm)⟩))
theorem js_cut : st_cut lwJ := by
  intro a0 S ⟨G, G', g1, g2, g3, g4, g5⟩
  exact w6_cut g2 g1 (fun r1 S1 G1 b1 b2 b3 b4 => w7_cut (g4.fc b4) g3 (fun r2 S2 G2 c1 c2 c3 c4 => ⟨G1, G2, b1, b2.f28 c4, c1, c2, b3.trans (g5.trans c3.symm)⟩))
theorem js_thinks : st_thinks lwJ := by
  intro a0 S ⟨G, G', g1, g2, g3, g4, g5⟩
  exact w6_thinks g2 g1 (fun r1 S1 G1 b1 b2 b3 b4 => w7_thinks (g4.fc b4) g3 (fun r2 S2 G2 c1 c2 c3 c4 => ⟨G1, G2, b1, b2.f28 c4, c1, c2, b3.trans (g5.trans c3.symm)⟩))
theorem js_minutes : st_minutes lwJ := by
  intro a0 S ⟨G, G', g1, g2, g3, g4, g5⟩
  exact w6_minutes g2 g1 (fun r1 S1 G1 b1 b2 b3 b4 => w7_minutes (g4.fc b4) g3 (fun r2 S2 G2 c1 c2 c3 c4 => ⟨G1, G2, b1, b2.f28 c4, c1, c2, b3.trans (g5.trans c3.symm)⟩))
theorem js_tram : st_tram lwJ := by
  intro S ⟨G, G', g1, g2, g3, g4, g5⟩
  exact w6_tram g2 g1 (fun r1 S1 G1 b1 b2 b3 b4 => w7_tram (g4.fc b4) g3 (fun r2 S2 G2 c1 c2 c3 c4 => ⟨G1, G2, b1, b2.f28 c4, c1, c2, b3.trans (g5.trans c3.symm)⟩))
theorem js_joy : st_joy lwJ := by
  intro a0 S ⟨G, G', g1, g2, g3, g4, g5⟩
  exact w6_joy g2 g1 (fun r1 S1 G1 b1 b2 b3 b4 => w7_joy (g4.fc b4) g3 (fun r2 S2 G2 c1 c2 c3 c4 => ⟨G1, G2, b1, b2.f28 c4, c1, c2, b3.trans (g5.trans c3.symm)⟩))
theorem js_second : st_second lwJ := by
  intro S ⟨G, G', g1, g2, g3, g4, g5⟩
  exact w6_second g2 g1 (fun r1 S1 G1 b1 b2 b3 b4 => w7_second (g4.fc b4) g3 (fun r2 S2 G2 c1 c2 c3 c4 => ⟨G1, G2, b1, b2.f28 c4, c1, c2, b3.trans (g5.trans c3.symm)⟩))
theorem js_runs : st_runs lwJ := by
  intro a0 S ⟨G, G', g1, g2, g3, g4, g5⟩
  exact w6_runs g2 g1 (fun r1 S1 G1 b1 b2 b3 b4 => w7_runs (g4.fc b4) g3 (fun r2 S2 G2 c1 c2 c3 c4 => ⟨G1, G2, b1, b2.f28 c4, c1, c2, b3.trans (g5.trans c3.symm)⟩))
theorem js_ahead : st_ahead lwJ := by
  intro a0 a1 S ⟨G, G', g1, g2, g3, g4, g5⟩
  exact w6_ahead g2 g1 (fun r1 S1 G1 b1 b2 b3 b4 => w7_ahead (g4.fc b4) g3 (fun r2 S2 G2 c1 c2 c3 c4 => ⟨G1, G2, b1, b2.f28 c4, c1, c2, b3.trans (g5.trans c3.symm)⟩))
theorem js_soon : st_soon lwJ := by
  intro a0 S ⟨G, G', g1, g2, g3, g4, g5⟩
  exact w6_soon g2 g1 (fun r1 S1 G1 b1 b2 b3 b4 => w7_soon (g4.fc b4) g3 (fun r2 S2 G2 c1 c2 c3 c4 => ⟨G1, G2, b1, b2.f28 c4, c1, c2, b3.trans (g5.trans c3.symm)⟩))
theorem js_best : st_best lwJ := by
  intro a0 a1 S ⟨G, G', g1, g2, g3, g4, g5⟩
  exact w6_best g2 g1 (fun r1 S1 G1 b1 b2 b3 b4 => w7_best (g4.fc b4) g3 (fun r2 S2 G2 c1 c2 c3 c4 => ⟨G1, G2, b1, b2.f28 c4, c1, c2, b3.trans (g5.trans c3.symm)⟩))
theorem js_home : st_home lwJ := by
  intro a0 a1 S ⟨G, G', g1, g2, g3, g4, g5⟩
  exact w6_home g2 g1 (fun r1 S1 G1 b1 b2 b3 b4 => w7_home (g4.fc b4) g3 (fun r2 S2 G2 c1 c2 c3 c4 => ⟨G1, G2, b1, b2.f28 c4, c1, c2, b3.trans (g5.trans c3.symm)⟩))
theorem js_swap : st_swap lwJ := by
  intro a0 S ⟨G, G', g1, g2, g3, g4, g5⟩
  exact w6_swap g2 g1 (fun r1 S1 G1 b1 b2 b3 b4 => w7_swap (g4.fc b4) g3 (fun r2 S2 G2 c1 c2 c3 c4 => ⟨G1, G2, b1, b2.f28 c4, c1, c2, b3.trans (g5.trans c3.symm)⟩))
theorem js_enough : st_enough lwJ := by
  intro S ⟨G, G', g1, g2, g3, g4, g5⟩
  exact w6_enough g2 g1 (fun r1 S1 G1 b1 b2 b3 b4 => w7_enough (g4.fc b4) g3 (fun r2 S2 G2 c1 c2 c3 c4 => ⟨G1, G2, b1, b2.f28 c4, c1, c2, b3.trans (g5.trans c3.symm)⟩))
theorem js_luck : st_luck lwJ := by
  intro a0 a1 a2 S ⟨G, G', g1, g2, g3, g4, g5⟩
  exact w6_luck g2 g1 (fun r1 S1 G1 b1 b2 b3 b4 => w7_luck (g4.fc b4) g3 (fun r2 S2 G2 c1 c2 c3 c4 => ⟨G1, G2, b1, b2.f28 c4, c1, c2, b3.trans (g5.trans c3.symm)⟩))
theorem js_mean : st_mean lwJ := by
  intro a0 a1 S ⟨G, G', g1, g2, g3, g4, g5⟩
  exact w6_mean g2 g1 (fun r1 S1 G1 b1 b2 b3 b4 => w7_mean (g4.fc b4) g3 (fun r2 S2 G2 c1 c2 c3 c4 => ⟨G1, G2, b1, b2.f28 c4, c1, c2, b3.trans (g5.trans c3.symm)⟩))
theorem js_see : st_see lwJ := by
  intro a0 a1 S h01 ⟨G, G', g1, g2, g3, g4, g5⟩
  exact w6_see h01 g2 g1 (fun r1 S1 G1 b1 b2 b3 b4 => w7_see h01 (g4.fc b4) g3 (fun r2 S2 G2 c1 c2 c3 c4 => ⟨G1, G2, b1, b2.f28 c4, c1, c2, b3.trans (g5.trans c3.symm)⟩))
theorem js_forget : st_forget lwJ := by
  intro a0 S ⟨G, G', g1, g2, g3, g4, g5⟩
  exact w6_forget g2 g1 (fun r1 S1 G1 b1 b2 b3 b4 => w7_forget (g4.fc b4) g3 (fun r2 S2 G2 c1 c2 c3 c4 => ⟨G1, G2, b1, b2.f28 c4, c1, c2, b3.trans (g5.trans c3.symm)⟩))
theorem js_kinds : st_kinds lwJ := by
  intro a0 S ⟨G, G', g1, g2, g3, g4, g5⟩
  exact w6_kinds g2 g1 (fun r1 S1 G1 b1 b2 b3 b4 => w7_kinds (g4.fc b4) g3 (fun r2 S2 G2 c1 c2 c3 c4 => ⟨G1, G2, b1, b2.f28 c4, c1, c2, b3.trans (g5.trans c3.symm)⟩))
theorem js_sorrows : st_sorrows lwJ := by
  intro a0 S ⟨G, G', g1, g2, g3, g4, g5⟩
  exact w6_sorrows g2 g1 (fun r1 S1 G1 b1 b2 b3 b4 => w7_sorrows (g4.fc b4) g3 (fun r2 S2 G2 c1 c2 c3 c4 => ⟨G1, G2, b1, b2.f28 c4, c1, c2, b3.trans (g5.trans c3.symm)⟩))
theorem js_ask : st_ask lwJ := by
  intro a0 a1 S ⟨G, G', g1, g2, g3, g4, g5⟩
  exact w6_ask g2 g1 (fun r1 S1 G1 b1 b2 b3 b4 => w7_ask (g4.fc b4) g3 (fun r2 S2 G2 c1 c2 c3 c4 => ⟨G1, G2, b1, b2.f28 c4, c1, c2, b3.trans (g5.trans c3.symm)⟩))
theorem js_drift : st_drift lwJ := by
  intro a0 a1 a2 S ⟨G, G', g1, g2, g3, g4, g5⟩
  exact w6_drift g2 g1 (fun r1 S1 G1 b1 b2 b3 b4 => w7_drift (g4.fc b4) g3 (fun r2 S2 G2 c1 c2 c3 c4 => ⟨G1, G2, b1, b2.f28 c4, c1, c2, b3.trans (g5.trans c3.symm)⟩))
theorem js_keep : st_keep lwJ := by
  intro a0 S ⟨G, G', g1, g2, g3, g4, g5⟩
  exact w6_keep g2 g1 (fun r1 S1 G1 b1 b2 b3 b4 => w7_keep (g4.fc b4) g3 (fun r2 S2 G2 c1 c2 c3 c4 => ⟨G1, G2, b1, b2.f28 c4, c1, c2, b3.trans (g5.trans c3.symm)⟩))
theorem js_back : st_back lwJ := by
  intro a0 S ⟨G, G', g1, g2, g3, g4, g5⟩
  exact w6_back g2 g1 (fun r1 S1 G1 b1 b2 b3 b4 => w7_back (g4.fc b4) g3 (fun r2 S2 G2 c1 c2 c3 c4 => ⟨G1, G2, b1, b2.f28 c4, c1, c2, b3.trans (g5.trans c3.symm)⟩))
theorem js_sheet : st_sheet lwJ := by
  intro a0 a1 a2 S ⟨G, G', g1, g2, g3, g4, g5⟩
  exact w6_sheet g2 g1 (fun r1 S1 G1 b1 b2 b3 b4 => w7_sheet (g4.fc b4) g3 (fun r2 S2 G2 c1 c2 c3 c4 => ⟨G1, G2, b1, b2.f28 c4, c1, c2, b3.trans (g5.trans c3.symm)⟩))
theorem js_lay : st_lay lwJ := by
  intro a0 a1 a2 S ⟨G, G', g1, g2, g3, g4, g5⟩
  exact w6_lay g2 g1 (fun r1 S1 G1 b1 b2 b3 b4 => w7_lay (g4.fc b4) g3 (fun r2 S2 G2 c1 c2 c3 c4 => ⟨G1, G2, b1, b2.f28 c4, c1, c2, b3.trans (g5.trans c3.symm)⟩))
theorem js_read : st_read lwJ := by
  intro a0 a1 a2 a3 S ⟨G, G', g1, g2, g3, g4, g5⟩
  exact w6_read g2 g1 (fun r1 S1 G1 b1 b2 b3 b4 => w7_read (g4.fc b4) g3 (fun r2 S2 G2 c1 c2 c3 c4 => ⟨G1, G2, b1, b2.f28 c4, c1, c2, b3.trans (g5.trans c3.symm)⟩))
theorem js_torn : st_torn lwJ := by
  intro S ⟨G, G', g1, g2, g3, g4, g5⟩
  exact w6_torn g2 g1 (fun r1 S1 G1 b1 b2 b3 b4 => w7_torn (g4.fc b4) g3 (fun r2 S2 G2 c1 c2 c3 c4 => ⟨G1, G2, b1, b2.f28 c4, c1, c2, b3.trans (g5.trans c3.symm)⟩))
theorem js_count : st_count lwJ := by
  intro a0 S ⟨G, G', g1, g2, g3, g4, g5⟩
  exact w6_count g2 g1 (fun r1 S1 G1 b1 b2 b3 b4 => w7_count (g4.fc b4) g3 (fun r2 S2 G2 c1 c2 c3 c4 => ⟨G1, G2, b1, b2.f28 c4, c1, c2, b3.trans (g5.trans c3.symm)⟩))
theorem js_text : st_text lwJ := by
  intro S ⟨G, G', g1, g2, g3, g4, g5⟩
  exact q_text g2 g1 (fun r1 S1 G1 b1 b2 b3 b4 => z_text (g4.fc b4) g3 (fun r2 S2 G2 c1 c2 c3 c4 => ⟨G1, G2, b1, b2.f28 c4, c1, c2, b3.trans c3.symm⟩))
theorem js_end : st_end lwJ := by
  intro a0 S ⟨G, G', g1, g2, g3, g4, g5⟩
  have l1 := g1.2.2.1.1
  have l3 := g3.2.2.1.1
  refine q_end g2 g1 (fun hno => ?_) (fun n hn e S1 b2 b4 => ?_)
  · refine z_end g4 g3 (fun _ => ⟨rfl, G, G', g1, g2, g3, g4, g5⟩) (fun n hn e => absurd e (hno n (by omega)))
  · refine z_end (g4.fc b4) g3 (fun hno => absurd e (hno n (by omega))) (fun n' hn' e' S2 c2 c4 => ⟨by rw [g5], endF G n, endF G' n', endF_wf g1 hn, b2.f28 c4, endF_wf g3 hn', c2, ?_⟩)
    show n = n'
    exact (nI_eq (by omega) (by omega)).mp (e.symm.trans e')
theorem feedF_len {c : Nat} (h : (qT G).1 < 160) : (qT (feedF G c)).1 = (qT G).1 + 1 := by
  unfold feedF
  rw [if_pos h]
theorem js_feed : st_feed lwJ := by
  intro a0 S ⟨G, G', g1, g2, g3, g4, g5⟩
  refine q_feed g2 g1 (fun hno => ?_) (fun c hc e ht S1 b2 b4 => ?_) (fun c hc e ht => ?_)
  · have hx : ∀ c, c ≤ 127 → a0 ≠ nI c := by
      intro c hc e
      subst e
      rcases hno with z | z
      · exact nI_pos (by omega) z
      · exact z (nI_le (b := 127) (by omega) (by decide))
    exact z_feed g4 g3 (fun _ => ⟨G, G', g1, g2, g3, g4, g5⟩) (fun c hc e => absurd e (hx c hc)) (fun c hc e => absurd e (hx c hc))
  · refine z_feed (g4.fc b4) g3 (fun hno => absurd e (hno c hc)) (fun c' hc' e' ht' S2 c2 c4 => ⟨feedF G c, feedF G' c', feedF_wf g1 hc, b2.f28 c4, feedF_wf g3 hc', c2, ?_⟩) (fun c' _ _ ht' => absurd ht' (by omega))
    rw [feedF_len ht, feedF_len ht', g5]
  · exact z_feed g4 g3 (fun hno => absurd e (hno c hc)) (fun c' _ _ ht' => absurd ht' (by omega)) (fun c' hc' e' ht' => ⟨G, G', g1, g2, g3, g4, g5⟩)
theorem js_all : st_all lwJ := ⟨js_feed, js_end, js_text, js_fault, js_rule, js_one, js_act, js_queue, js_alter, js_room, js_think, js_plan, js_cut, js_thinks, js_minutes, js_tram, js_joy, js_second, js_runs, js_ahead, js_soon, js_best, js_home, js_swap, js_enough, js_luck, js_mean, js_see, js_forget, js_kinds, js_sorrows, js_ask, js_drift, js_keep, js_back, js_sheet, js_lay, js_read, js_torn, js_count⟩
end JJ
