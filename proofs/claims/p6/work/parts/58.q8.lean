section Q8
variable {S : tq_St} {G : aQ} {K : Int32 → tq_St → Prop} {KL : Int64 → tq_St → Prop}
-- THOUGHTS THAT FAIL (what is safe; answers are free here)
theorem FX.W {S T : tq_St} (h : FX S T) (v : Int64) : FX S (sW T v) := h.tr ⟨fun _ _ _ _ _ => ⟨rfl, rfl⟩, rfl, fun _ _ => rfl⟩
theorem FX.gw {S T : tq_St} (h : FX S T) (i : Nat) (v : Int64) : FX S (sG T i v) := h.tr ⟨fun _ _ _ _ _ => ⟨rfl, rfl⟩, rfl, fun _ _ => rfl⟩
theorem FL.W {b d : Nat} {S T : tq_St} (h : FL b d S T) (v : Int64) : FL b d S (sW T v) := ⟨h.1.W v, h.2⟩
theorem FL.gw {b d : Nat} {S T : tq_St} (h : FL b d S T) (i : Nat) (v : Int64) : FL b d S (sG T i v) := ⟨h.1.gw i v, h.2⟩
theorem c_addW_13 {S0 : tq_St} {d : Nat} {A : aE} {w : Int64} {K : tq_St → Prop} (hw : wfE A) (hR0 : RC S0 (8 + d) A) (hK : ∀ S', FL 8 d S0 S' → K S') : ∀ (m p f : Nat) (S : tq_St), p + m = aN A → m < f → FL 8 d S0 S → wp_X0_addWeight_13 (8 + d) K f w (nI p) S
  | 0, p, f + 1, S, h1, h2, hF => by
    have hn := hw.1
    have hR := hR0.fl hF
    unfold wp_X0_addWeight_13
    rw [hR.1]
    exact pk_le (aN A) p (fun _ => hK S hF) (fun z => absurd z (by omega))
  | m + 1, p, f + 1, S, h1, h2, hF => by
    have hn := hw.1
    have hR := hR0.fl hF
    have hin : vp_in (nI p) 5 := vp_in_nI (by omega) (by decide)
    unfold wp_X0_addWeight_13
    rw [hR.1]
    refine pk_le (aN A) p (fun z => absurd z (by omega)) (fun hp => ?_)
    refine c_waitsN hR.1 hn hR.2.1 hw.g31 hp (fun _ => ⟨fun _ => nm_r (nI_1 p) ?_, fun z => absurd z (by decide)⟩) (fun _ => ⟨fun z => absurd rfl z, fun _ => ⟨hin, hin, nm_e (nm_r (nI_1 p) ?_)⟩⟩)
    · exact c_addW_13 hw hR0 hK m (p + 1) f S (by omega) (by omega) hF
    · exact c_addW_13 hw hR0 hK m (p + 1) f _ (by omega) (by omega) (hF.gw _ _)
theorem c_addW {d : Nat} {A : aE} {w : Int64} {K : tq_St → Prop} (hw : wfE A) (hR : RC S (8 + d) A) (hK : ∀ S', FL 8 d S S' → K S') : wp_X0_addWeight (8 + d) w S K := by
  unfold wp_X0_addWeight
  exact nm_e (c_addW_13 hw hR hK (aN A) 0 2000 _ (by omega) (by have := hw.1; omega) (FL.rf.W _))
theorem c_weigh {v : Int32} : ∀ (e d r : Nat) (A : aE) (w : Int64) (S : tq_St) (K : tq_St → Prop), d + e = 8 → e < r → RC S (8 + d) A → wfE A → (∀ S', FL 8 d S S' → K S') → wp_X0_weighFrom r (nI d) w v S K := by
  intro e
  induction e with
  | zero =>
    intro d r A w S K h1 h2 hR hw hK
    obtain ⟨r, rfl⟩ : ∃ k, r = k + 1 := ⟨r - 1, by omega⟩
    have hc := hw.2.2.2.2.2.2.2.2.1
    unfold wp_X0_weighFrom
    refine ⟨vp_in_nI (by omega) (by decide), nm_r (by rw [nI_clamp (by omega)]) ?_⟩
    rw [hR.2.2.2.2.2.1]
    exact pk_le (aC A) d (fun _ => c_addW hw hR hK) (fun z => absurd z (by omega))
  | succ e ih =>
    intro d r A w S K h1 h2 hR hw hK
    obtain ⟨r, rfl⟩ : ∃ k, r = k + 1 := ⟨r - 1, by omega⟩
    have hc := hw.2.2.2.2.2.2.2.2.1
    unfold wp_X0_weighFrom
    refine ⟨vp_in_nI (by omega) (by decide), nm_r (by rw [nI_clamp (by omega)]) ?_⟩
    rw [hR.2.2.2.2.2.1]
    refine pk_le (aC A) d (fun _ => c_addW hw hR hK) (fun hd => pk_lt d 8 (fun _ => ?_) (fun z => absurd z (by omega)))
    rw [nI_1]
    refine ⟨vp_in_nI (by omega) (by decide), nm_r (by rw [nI_clamp (by omega)]) ⟨vp_in_nI (by omega) (by decide), nm_r (by rw [nI_clamp (by omega), hR.2.2.2.2.2.2.2.2.2 d hd]) ?_⟩⟩
    have ha := hw.2.2.2.2.2.2.2.2.2 d hd
    -- a copy, an act on it, and on
    have hgo : ∀ (w' : Int64) (S1 : tq_St) (K' : tq_St → Prop), FL 8 d S S1 → (∀ S', FL 8 d S S' → K' S') → wp_X1_copyFrom (8 + (d + 1)) (8 + d) S1 (fun S2 => wp_X1_play (8 + (d + 1)) (nI (aA A d)) S2 (fun r3 S3 => wp_X0_weighFrom r (nI (d + 1)) w' v S3 K')) := by
      intro w' S1 K' hF hK'
      refine c_copyFrom (o := 8 + (d + 1)) (hR.fl hF) hw (by omega) (fun S2 a1 a2 _ _ _ => ?_)
      refine c_play a1 hw ha (fun S3 b1 b2 _ _ _ => ?_)
      refine ih (d + 1) r (playF A (aA A d)) w' S3 K' (by omega) (by omega) b1 (playF_wf hw _) (fun S4 f4 => hK' S4 ?_)
      exact ((hF.tr (a2.fl (Or.inl (by omega)) (Or.inr (by omega)))).tr (b2.fl (Or.inl (by omega)) (Or.inr (by omega)))).tr (f4.le (by omega))
    have h125 : ∀ S1, FL 8 d S S1 → wp_X0_weighFrom_125 (wp_X0_weighFrom r) K (nI d) w v (8 + d) (8 + (d + 1)) S1 := by
      intro S1 hF
      unfold wp_X0_weighFrom_125
      rw [nI_1]
      refine ⟨fun _ => hK S1 hF, fun _ => ?_⟩
      refine c_copyFrom (o := 8 + (d + 1)) (hR.fl hF) hw (by omega) (fun S2 a1 a2 _ _ _ => ?_)
      exact ih (d + 1) r A _ S2 _ (by omega) (by omega) a1 hw (fun S4 f4 => hK S4 ((hF.tr (a2.fl (Or.inl (by omega)) (Or.inr (by omega)))).tr (f4.le (by omega))))
    refine c_isThere hR.1 hw.1 (fun j hj e1 => ⟨fun _ => ⟨fun _ => h125 S FL.rf, fun _ => hgo _ S _ FL.rf h125⟩, fun z => absurd z (by decide)⟩) (fun _ => ⟨fun z => absurd rfl z, fun _ => hgo _ S _ FL.rf hK⟩)
theorem c_fillG {S0 : tq_St} {K : tq_St → Prop} {v : Int64} {d : Nat} (hK : ∀ S', FL 8 d S0 S' → K S') : ∀ (m i f : Nat) (S : tq_St), i + m = 5 → m < f → FL 8 d S0 S → wp_J7_fill_d0a16_6 K f v (nI i) (nI 5) S
  | 0, i, f + 1, S, h1, h2, hF => by
    unfold wp_J7_fill_d0a16_6
    exact pk_le 5 i (fun _ => hK S hF) (fun z => absurd z (by omega))
  | m + 1, i, f + 1, S, h1, h2, hF => by
    unfold wp_J7_fill_d0a16_6
    refine pk_le 5 i (fun z => absurd z (by omega)) (fun _ => ⟨vp_in_nI (by omega) (by decide), nm_e (nm_r (nI_1 i) ?_)⟩)
    exact c_fillG hK m (i + 1) f _ (by omega) (by omega) (hF.gw _ _)
theorem q_weigh {v : Int32} {K : tq_St → Prop} (hG : RQ S G) (hw : wfQ G) (hK : ∀ S', FX S S' → K S') : wp_X0_weighPlan 0 v S K := by
  unfold wp_X0_weighPlan
  have c0 : (0 : Int32).toNatClampNeg = 0 := by decide
  rw [c0]
  refine ⟨vp_in_nI (n := 0) (by decide) (by decide), ?_⟩
  refine c_startFrom (o := 8 + 0) hG.1 hw.1 (by decide) (fun S1 a1 a2 a3 => ?_)
  refine c_fillG (S0 := S1) (d := 0) (fun S2 f2 => nm_e ?_) 5 0 2000 S1 (by omega) (by omega) FL.rf
  have f3 := f2.W 0
  refine c_weigh 8 0 12 (qA G) 1 _ K (by omega) (by omega) (a1.fl f3) hw.1 (fun S' f => hK S' ?_)
  exact ((a2.fx (Or.inl (by decide))).tr f3.1).tr f.1
theorem c_weightOf {x : Int32} (hK : ∀ r, KL r S) : wp_X0_weightOf x S KL := by
  unfold wp_X0_weightOf
  refine ⟨fun _ => hK _, fun z => ⟨fun _ => hK _, fun z2 => ⟨?_, hK _⟩⟩⟩
  obtain ⟨j, hj, rfl⟩ := nI_of z
  have e5 : (5 : Int32) = nI 5 := rfl
  rw [e5, nI_leI (by decide) hj] at z2
  exact vp_in_nI (by omega) (by decide)
theorem lgc0 {x : Int64} (h : ¬ lg_cmp x 0 = 0) : ¬ x = 0 := by
  intro e
  subst e
  exact h (by decide)
theorem c_gd_3 (hK : ∀ r, KL r S) : ∀ (m i f : Nat) (a b : Int64), i + m = 200 → m < f → wp_X6_greatestDivisor_3 KL f a b (nI i) S
  | 0, i, f + 1, a, b, h1, h2 => by
    unfold wp_X6_greatestDivisor_3
    exact pk_le 200 i (fun _ => hK _) (fun z => absurd z (by omega))
  | m + 1, i, f + 1, a, b, h1, h2 => by
    unfold wp_X6_greatestDivisor_3
    refine pk_le 200 i (fun z => absurd z (by omega)) (fun _ => ⟨fun _ => hK _, fun z => ⟨lgc0 z, nm_e (nm_r (nI_1 i) ?_)⟩⟩)
    exact c_gd_3 hK m (i + 1) f _ _ (by omega) (by omega)
theorem c_part {a b : Int64} {y : Int32} (hK : ∀ r, KL r S) : wp_X6_partOfFraction a b y S KL := by
  have h17 : ∀ v w : Int64, wp_X6_partOfFraction_17 KL v w S := by
    intro v w
    unfold wp_X6_partOfFraction_17
    refine ⟨fun z => ⟨fun e => ?_, hK _⟩, fun _ => hK _⟩
    subst e
    exact absurd z (by decide)
  unfold wp_X6_partOfFraction wp_X6_greatestDivisor
  exact c_gd_3 (fun r => ⟨fun _ => h17 _ _, fun _ => h17 _ _⟩) 200 0 2000 _ _ (by omega) (by omega)
theorem q_luck {x y w : Int32} (hG : RQ S G) (hw : wfQ G) (hK : ∀ r S', RQ S' G → FC S S' → KL r S') : wp_X6_luck x y w S KL := by
  have hS := fun r => hK r S hG FC.rf
  unfold wp_X6_luck
  refine ⟨fun _ => hS _, fun _ => ⟨fun _ => hS _, fun _ => ?_⟩⟩
  refine c_isThere hG.1.1 hw.1.1 (fun p hp e => ⟨fun _ => hS _, fun _ => ?_⟩) (fun hno => ⟨fun _ => hS _, fun z => absurd rfl z⟩)
  refine q_01 (fun k hk e2 => ⟨fun _ => ?_, fun _ => hS _⟩) (fun hno => ⟨fun z => absurd rfl z, fun _ => hS _⟩)
  refine q_weigh hG hw (fun S' f => ?_)
  have hr := fun r => hK r S' (hG.fx f) f.fc
  exact c_weightOf (fun r => c_part hr)
theorem q_mean_38 {n : Nat} {y : Int32} (h5 : S.1 0 5 = nI n) (hn : n ≤ 5) (hK : ∀ r, KL r S) : ∀ (m p f : Nat) (v : Int64), p + m = n → m < f → wp_X6_mean_38 KL f y v (nI p) S
  | 0, p, f + 1, v, h1, h2 => by
    unfold wp_X6_mean_38
    rw [h5]
    exact pk_le n p (fun _ => c_part hK) (fun z => absurd z (by omega))
  | m + 1, p, f + 1, v, h1, h2 => by
    unfold wp_X6_mean_38
    rw [h5]
    refine pk_le n p (fun z => absurd z (by omega)) (fun _ => ?_)
    exact c_weightOf (fun r => nm_e (nm_r (nI_1 p) (q_mean_38 h5 hn hK m (p + 1) f _ (by omega) (by omega))))
theorem q_mean {x y : Int32} (hG : RQ S G) (hw : wfQ G) (hK : ∀ r S', RQ S' G → FC S S' → KL r S') : wp_X6_mean x y S KL := by
  have hS := fun r => hK r S hG FC.rf
  unfold wp_X6_mean
  refine ⟨fun _ => hS _, fun _ => ⟨fun _ => hS _, fun _ => ?_⟩⟩
  refine q_01 (fun k hk e2 => ⟨fun _ => ?_, fun _ => hS _⟩) (fun hno => ⟨fun z => absurd rfl z, fun _ => hS _⟩)
  refine q_weigh hG hw (fun S' f => ?_)
  have hG' := hG.fx f
  exact q_mean_38 hG'.1.1 hw.1.1 (fun r => hK r S' hG' f.fc) (aN (qA G)) 0 2000 _ (by omega) (by have := hw.1.1; omega)
-- READ
theorem RQ.rd {S' : tq_St} (hG : RQ S G) {y : Nat} (f : Fr 27 S S') (h10 : S'.1 27 10 = nI y) (h7 : S'.2.1 27 7 = S.2.1 27 7) : RQ S' (vO G y) := by
  obtain ⟨h1, h2, h3, h4, h5, h6, h7'⟩ := hG
  have f19 := f.1 19 (by decide)
  have f20 := f.1 20 (by decide)
  refine ⟨h1.fr f (by decide), fun k hk => ?_, by rw [f19.1, f19.2]; exact h3, by rw [f19.1]; exact h4, by rw [f20.1, f20.2]; exact h5, fun k hk => ?_, h10⟩
  · have h2 := h2 k hk
    show CI _ k (qI G k)
    unfold CI at h2 ⊢
    split at h2
    · rw [h7]; exact h2
    · rw [h7]; exact ⟨h2.1, h2.2.fr f (by omega)⟩
  · have h6 := h6 k hk
    have f23 := f.1 (23 + k) (by omega)
    show CH _ k (qH G k)
    unfold CH at h6 ⊢
    rw [f23.1, f23.2]
    exact h6
theorem q_rd128 {y i : Nat} {A : aE} {S0 : tq_St} (hG0 : RQ S0 G) (hw : wfQ G) (hwA : wfE A) (hF : Fr 1 S0 S) (hR : RC S 1 A) (hK : ∀ S', RQ S' (vO (vA G A) y) → FC S0 S' → K (nI i) S') : wp_X6_read_128 K (nI y) (nI i) S := by
  unfold wp_X6_read_128
  refine c_copyFrom (p := 1) hR hwA (by decide) (fun S1 a1 a2 _ _ _ => nm_e ?_)
  have hx := hF.fx (Or.inl (by decide))
  have f3 := (Fr.rf (o := 27) (S := S1)).I 10 (nI y)
  exact hK _ (((hG0.fx hx).now a2 a1).rd f3 (by rw [sI_1, if_pos rfl]) rfl) ((hx.fc.tr (a2.fc (by decide))).tr (f3.fc (by decide)))
theorem q_read_45 {S0 : tq_St} {k l n : Nat} {x : Int32} (hG0 : RQ S0 G) (hw : wfQ G) (hk : k < 4) (hn : n ≤ 20) (hK : ∀ r S' A y, wfE A → aN A = aN (qA G) → y ≤ 3 → RQ S' (vO (vA G A) y) → FC S0 S' → K r S') : ∀ (m i f : Nat) (A : aE) (S : tq_St), i + m = n → m < f → wfE A → aN A = aN (qA G) → RC S 1 A → Fr 1 S0 S → wp_X6_read_45 K f (nI k) (nI l) x (nI n) 0 (nI i) S
  | 0, i, f + 1, A, S, h1, h2, hwA, hA, hR, hF => by
    unfold wp_X6_read_45
    exact pk_le n i (fun _ => q_rd128 (y := 0) hG0 hw hwA hF hR (fun S' a b => hK _ S' A 0 hwA hA (by omega) a b)) (fun z => absurd z (by omega))
  | m + 1, i, f + 1, A, S, h1, h2, hwA, hA, hR, hF => by
    have hx := hF.fx (Or.inl (by decide))
    have hG := hG0.fx hx
    have hend : ∀ y, y ≤ 3 → wp_X6_read_128 K (nI y) (nI i) S := fun y hy => q_rd128 (y := y) hG0 hw hwA hF hR (fun S' a b => hK _ S' A y hwA hA hy a b)
    have hback : ∀ r S', Fr 1 S0 S' → K r S' := fun r S' f' => by
      have hx' := f'.fx (Or.inl (by decide))
      exact hK r S' (qA G) (qO G) hw.1 rfl hw.2.2.2.2.2.2.2 (hG0.fx hx') hx'.fc
    unfold wp_X6_read_45
    rw [nI_clamp (n := k) (by omega)]
    refine pk_le n i (fun z => absurd z (by omega)) (fun _ => ⟨vp_in_nI (by omega) (by decide), ?_⟩)
    refine c_faultAt hG hw hk (fun e => ⟨fun z => absurd z (by decide), fun _ => hend 1 (by omega)⟩) (fun l' e hne => ⟨fun z => absurd z (by decide), fun _ => hend 3 (by omega)⟩) (fun l' e _ hno => ⟨fun z => absurd z (by decide), fun _ => hend 2 (by omega)⟩) (fun l' j e _ hj ej => ⟨fun _ => ?_, fun z => absurd rfl z⟩)
    have hl40 := hw.2.2.2.2.2.2.1 k
    rw [ej]
    refine ⟨vp_in_nI (by omega) (by decide), vp_in_nI (by omega) (by decide), nm_e ?_⟩
    refine c_isAct hR hwA (fun a ha ea => ⟨fun z => absurd z (by decide), fun _ => ?_⟩) (fun hno => ⟨fun _ => hback _ S hF, fun z => absurd rfl z⟩)
    rw [ea]
    refine c_play hR hwA ha (fun S' a1 a2 _ _ _ => ⟨fun _ => nm_r (nI_1 i) ?_, fun _ => hback _ S' (hF.tr a2)⟩)
    exact q_read_45 hG0 hw hk hn hK m (i + 1) f _ S' (by omega) (by omega) (playF_wf hwA _) ((playF_same A _).1.trans hA) a1 (hF.tr a2)
theorem q_read {x y z w : Int32} (hG : RQ S G) (hw : wfQ G) (hK : ∀ r S' A y, wfE A → aN A = aN (qA G) → y ≤ 3 → RQ S' (vO (vA G A) y) → FC S S' → K r S') : wp_X6_read x y z w S K := by
  have hS := fun r => hK r S (qA G) (qO G) hw.1 rfl hw.2.2.2.2.2.2.2 hG FC.rf
  unfold wp_X6_read
  refine c_isSheet (fun k hk e => ⟨fun _ => hS _, fun _ => ?_⟩) (fun hno => ⟨fun _ => hS _, fun z => absurd rfl z⟩)
  subst e
  refine c_isLane (fun l hl e => ⟨fun _ => hS _, fun _ => ?_⟩) (fun hno => ⟨fun _ => hS _, fun z => absurd rfl z⟩)
  subst e
  refine ⟨fun _ => hS _, fun z1 => ⟨fun z2 => ?_, fun _ => hS _⟩⟩
  obtain ⟨n, hn, rfl⟩ := nI_of2 (n := 20) (by decide) z1 z2
  refine c_startFrom hG.1 hw.1 (by decide) (fun S1 a1 a2 a3 => ?_)
  exact q_read_45 (S0 := S) hG hw (by omega) hn hK n 0 2000 (qA G) S1 (by omega) (by omega) hw.1 rfl a1 a2
end Q8
