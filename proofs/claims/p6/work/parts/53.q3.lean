section Q3
variable {S : tq_St} {G : aQ} {K : Int32 → tq_St → Prop}
theorem q_01 {x : Int32} (h1 : ∀ w, w ≤ 1 → x = nI w → K 1 S) (h0 : (∀ w, w ≤ 1 → x ≠ nI w) → K 0 S) : wp_X6_isZeroOrOne x S K := by
  unfold wp_X6_isZeroOrOne
  refine ⟨fun e => h1 0 (by omega) e, fun e => ⟨fun e1 => h0 (fun w hw z => ?_), fun e1 => h1 1 (by omega) e1⟩⟩
  have h2 : w = 0 ∨ w = 1 := by omega
  rcases h2 with c | c
  · subst c; exact e z
  · subst c; exact e1 z
-- BY THE PLAN
theorem c_runPlan {A : aE} {K : tq_St → Prop} (hR : RC S 0 A) (hw : wfE A) (hK : ∀ S', RC S' 1 (planR A).1 → TC S' 1 (planR A).2 → Fr 1 S S' → K S') : wp_X1_startFrom 1 0 S (fun S1 => wp_X1_followPlan 1 S1 K) :=
  c_startFrom hR hw (by decide) (fun S1 a1 a2 a3 => c_follow a1 hw a3 (fun S2 b1 b2 b3 => hK S2 b1 b2 (a2.tr b3)))
theorem planR_ok {A : aE} (hw : wfE A) : wfE (planR A).1 ∧ aN (planR A).1 = aN A := by
  have := goP_ok (ac := aA A) (aC A) 0 A (0, 0, none) hw
  exact ⟨this.1, this.2.1⟩
theorem q_runs {x : Int32} (hG : RQ S G) (hw : wfQ G) (hbad : (x < 0 ∨ ¬ x ≤ 4) → K (-1) S) (h0 : x = 0 → ∀ S', RQ S' G → FC S S' → K (nI (aG (planR (qA G)).1)) S') (h1 : x = 1 → ∀ S', RQ S' G → FC S S' → K (nI (planR (qA G)).2.1) S') (h2 : x = 2 → ∀ S', RQ S' G → FC S S' → K (nI (planR (qA G)).2.2.1) S') (h3 : x = 3 → ∀ S', RQ S' G → FC S S' → K (oI (planR (qA G)).2.2.2) S') (h4 : x = 4 → ∀ S', RQ S' G → FC S S' → K (nI (sorF (planR (qA G)).1)) S') : wp_X6_runs x S K := by
  unfold wp_X6_runs
  refine ⟨fun z => hbad (Or.inl z), fun z => ⟨fun z2 => ?_, fun z2 => hbad (Or.inr z2)⟩⟩
  refine c_runPlan hG.1 hw.1 (fun S' a1 a2 a3 => ?_)
  have hx := a3.fx (Or.inl (by decide))
  have hG' := hG.fx hx
  have hF := hx.fc
  rw [a1.2.1, a2.1, a2.2.1, a2.2.2]
  refine ⟨fun c => c_allSorrow a1 (planR_ok hw.1).1 (h4 ?_ S' hG' hF), fun e => h0 e S' hG' hF, fun e => h1 e S' hG' hF, fun e => h2 e S' hG' hF, fun e => h3 e S' hG' hF⟩
  obtain ⟨j, hj, rfl⟩ := nI_of2 (n := 4) (by decide) z z2
  rw [nI_toInt (by omega)] at c
  rw [show j = 4 by omega]
  rfl
theorem q_ahead {x y : Int32} (hG : RQ S G) (hw : wfQ G) (hbad : (∀ p, p < aN (qA G) → x ≠ nI p) ∨ (∀ w, w ≤ 1 → y ≠ nI w) → K (-1) S) (h0 : ∀ p, p < aN (qA G) → x = nI p → y = 0 → ∀ S', RQ S' G → FC S S' → K (nI (aS (planR (qA G)).1 p)) S') (h1 : ∀ p, p < aN (qA G) → x = nI p → y = 1 → ∀ S', RQ S' G → FC S S' → K (oW (aW (planR (qA G)).1 p)) S') : wp_X6_ahead x y S K := by
  have hn := hw.1.1
  unfold wp_X6_ahead
  refine c_isThere hG.1.1 hn (fun p hp e => ⟨fun z => absurd z (by decide), fun _ => ?_⟩) (fun hno => ⟨fun _ => hbad (Or.inl hno), fun z => absurd rfl z⟩)
  subst e
  refine q_01 (fun w hw1 e => ⟨fun _ => ?_, fun z => absurd z (by decide)⟩) (fun hno => ⟨fun z => absurd rfl z, fun _ => hbad (Or.inr hno)⟩)
  subst e
  refine c_runPlan hG.1 hw.1 (fun S' a1 a2 a3 => ?_)
  have hx := a3.fx (Or.inl (by decide))
  have hp2 : p < aN (planR (qA G)).1 := by rw [(planR_ok hw.1).2]; exact hp
  have hw01 : w = 0 ∨ w = 1 := by omega
  refine ⟨fun z => ?_, fun z => ⟨vp_in_nI (by omega) (by decide), ?_⟩⟩
  · have e1 : w = 1 := by rcases hw01 with c | c; exact absurd (by rw [c]; rfl) z; exact c
    exact c_weptOrNone a1 (planR_ok hw.1).1 hp2 (h1 p hp rfl (by rw [e1]; rfl) S' (hG.fx hx) hx.fc)
  · rw [nI_clamp (by omega), a1.2.2.2.2.2.2.2.1 p hp2]
    exact h0 p hp rfl z S' (hG.fx hx) hx.fc
-- HOW SOON
def soonL (p : Nat) : Nat → Nat → aE → Option Nat
  | 0, _, _ => none
  | m + 1, i, A => if nextF A 0 = some p then some i else soonL p m (i + 1) (thinkF A p)
theorem q_soon_40 {p : Nat} {S0 : tq_St} : ∀ (m i f : Nat) (A : aE) (S : tq_St), i + m = 10 → m < f → wfE A → p < aN A → RC S 1 A → Fr 1 S0 S → (∀ S', Fr 1 S0 S' → K (oI (soonL p m i A)) S') → wp_X6_soon_40 K f (nI p) (nI i) S
  | 0, i, f + 1, A, S, h1, h2, hw, hp, hR, hF, hK => by
    unfold wp_X6_soon_40
    exact pk_lt 9 i (fun _ => hK S hF) (fun z => absurd z (by omega))
  | m + 1, i, f + 1, A, S, h1, h2, hw, hp, hR, hF, hK => by
    have hn := hw.1
    unfold wp_X6_soon_40
    refine pk_lt 9 i (fun z => absurd z (by omega)) (fun _ => ?_)
    refine c_inLine (i := 0) hR hw (by decide) (fun S' a1 a2 a3 => ?_)
    unfold soonL at hK
    show (¬ oI (nextF A 0) = nI p → _) ∧ (oI (nextF A 0) = nI p → _)
    refine ⟨fun z => ?_, fun z => ?_⟩
    · have hne : ¬ nextF A 0 = some p := fun e => z (by rw [e]; rfl)
      rw [if_neg hne] at hK
      refine c_think a1 hw hp (fun S2 b1 b2 _ _ _ => nm_r (nI_1 i) ?_)
      exact q_soon_40 m (i + 1) f (thinkF A p) S2 (by omega) (by omega) (thinkF_wf hw p).1 hp b1 ((hF.tr a2).tr b2) hK
    · have he : nextF A 0 = some p := by
        cases e : nextF A 0 with
        | none => rw [e] at z; exact absurd z.symm (oI_ne (by omega))
        | some q =>
          rw [e] at z
          have hq := (next_lt e).1
          have : q = p := (nI_eq (by omega) (by omega)).mp z
          rw [this]
      rw [if_pos he] at hK
      exact hK S' (hF.tr a2)
theorem q_soon {x : Int32} (hG : RQ S G) (hw : wfQ G) (hbad : (∀ p, p < aN (qA G) → x ≠ nI p) → K (-1) S) (hst : ∀ p, p < aN (qA G) → x = nI p → (aG (qA G)).testBit p = true → K (-4) S) (hok : ∀ p, p < aN (qA G) → x = nI p → (aG (qA G)).testBit p = false → ∀ S', RQ S' G → FC S S' → K (oI (soonL p 10 0 (qA G))) S') : wp_X6_soon x S K := by
  have hn := hw.1.1
  unfold wp_X6_soon
  refine c_isThere hG.1.1 hn (fun p hp e => ⟨fun _ => ?_, fun z => absurd z (by decide)⟩) (fun hno => ⟨fun z => absurd rfl z, fun _ => hbad hno⟩)
  subst e
  refine c_waitsN hG.1.1 hn hG.1.2.1 hw.1.g31 hp (fun hb => ⟨fun _ => ?_, fun z => absurd z (by decide)⟩) (fun hb => ⟨fun z => absurd rfl z, fun _ => hst p hp rfl hb⟩)
  refine c_startFrom hG.1 hw.1 (by decide) (fun S1 a1 a2 a3 => ?_)
  refine q_soon_40 (S0 := S) 10 0 2000 (qA G) S1 (by omega) (by omega) hw.1 hp a1 a2 (fun S' f => ?_)
  have hx := f.fx (Or.inl (by decide))
  exact hok p hp rfl hb S' (hG.fx hx) hx.fc
-- HOW MUCH ROOM IS ENOUGH
def enoL (A : aE) : Nat → Nat → Option Nat
  | 0, _ => none
  | m + 1, v => if wbI (aN A) (aG (planR (uR A v)).1) = 0 then some v else enoL A m (v + 1)
theorem uR_wf {A : aE} (hw : wfE A) {v : Nat} (h : 1 ≤ v ∧ v ≤ 5) : wfE (uR A v) := ⟨hw.1, hw.2.1, hw.2.2.1, hw.2.2.2.1, hw.2.2.2.2.1, hw.2.2.2.2.2.1, h, hw.2.2.2.2.2.2.2⟩
theorem q_enough_2 {S0 : tq_St} (hG0 : RQ S0 G) (hw : wfQ G) : ∀ (m v f : Nat) (S : tq_St), v + m = 6 → 1 ≤ v → m < f → Fr 1 S0 S → (∀ S', Fr 1 S0 S' → K (oI (enoL (qA G) m v)) S') → wp_X6_enough_2 K f (nI v) S
  | 0, v, f + 1, S, h1, h1b, h2, hF, hK => by
    unfold wp_X6_enough_2
    exact pk_lt 5 v (fun _ => hK S hF) (fun z => absurd z (by omega))
  | m + 1, v, f + 1, S, h1, h1b, h2, hF, hK => by
    have hn := hw.1.1
    unfold wp_X6_enough_2
    refine pk_lt 5 v (fun z => absurd z (by omega)) (fun _ => ?_)
    have hR : RC S 0 (qA G) := hG0.1.fr hF (by decide)
    refine c_startFrom hR hw.1 (by decide) (fun S1 a1 a2 a3 => nm_e ?_)
    have hw2 := uR_wf hw.1 (v := v) (by omega)
    refine c_follow (a1.r v) hw2 ⟨?_, ?_, ?_⟩ (fun S2 b1 b2 b3 => ?_)
    · rw [sI_1, if_neg (by decide)]; exact a3.1
    · rw [sI_1, if_neg (by decide)]; exact a3.2.1
    · rw [sI_1, if_neg (by decide)]; exact a3.2.2
    · refine c_waitingBits b1 ?_
      rw [(planR_ok hw2).2]
      have hF2 := ((hF.tr a2).tr (Fr.rf.I _ _)).tr b3
      unfold enoL at hK
      refine ⟨fun z => nm_r (nI_1 v) ?_, fun z => ?_⟩
      · rw [if_neg z] at hK
        exact q_enough_2 hG0 hw m (v + 1) f S2 (by omega) (by omega) (by omega) hF2 hK
      · rw [if_pos z] at hK
        exact hK S2 hF2
theorem q_enough (hG : RQ S G) (hw : wfQ G) (hok : ∀ S', RQ S' G → FC S S' → K (oI (enoL (qA G) 5 1)) S') : wp_X6_enough S K := by
  refine q_enough_2 hG hw 5 1 2000 S (by omega) (by omega) (by omega) Fr.rf (fun S' f => ?_)
  have hx := f.fx (Or.inl (by decide))
  exact hok S' (hG.fx hx) hx.fc
-- TWO ACTS CHANGED
def swpA (A : aE) (i j : Nat) : aE := uP A (aC A) (un (un (aA A) i (aA A j)) j (aA A i))
theorem swpA_wf {A : aE} (hw : wfE A) {i j : Nat} (hi : i < aC A) (hj : j < aC A) : wfE (swpA A i j) := by
  obtain ⟨h1, h2, h3, h4, h5, h6, h7, h8, h9, h10⟩ := hw
  refine ⟨h1, h2, h3, h4, h5, h6, h7, h8, h9, fun k hk => ?_⟩
  have hk : k < aC A := hk
  show okA (aN A) (un (un (aA A) i (aA A j)) j (aA A i) k)
  by_cases e : k = j
  · subst e; rw [un_s]; exact h10 i hi
  · rw [un_n _ _ e]
    by_cases e2 : k = i
    · subst e2; rw [un_s]; exact h10 j hj
    · rw [un_n _ _ e2]; exact h10 k hk
theorem RC.sw {S : tq_St} {o : Nat} {A : aE} (h : RC S o A) {i j : Nat} (hi : i < aC A) (hj : j < aC A) : RC (sA (sA S o 3 i (nI (aA A j))) o 3 j (nI (aA A i))) o (swpA A i j) := by
  obtain ⟨h5, h6, h7, h8, h9, h10, hk, hs, hw, ha⟩ := h
  refine ⟨h5, h6, h7, h8, h9, h10, fun q hq => ?_, fun q hq => ?_, fun q hq => ?_, fun k hk => ?_⟩
  · rw [sA_nk _ _ _ _ _ (by decide), sA_nk _ _ _ _ _ (by decide)]; exact hk q hq
  · rw [sA_nk _ _ _ _ _ (by decide), sA_nk _ _ _ _ _ (by decide)]; exact hs q hq
  · rw [sA_nk _ _ _ _ _ (by decide), sA_nk _ _ _ _ _ (by decide)]; exact hw q hq
  · have hk : k < aC A := hk
    show _ = nI (un (un (aA A) i (aA A j)) j (aA A i) k)
    rw [sA_at, sA_at]
    by_cases e : k = j
    · subst e; rw [if_pos rfl, un_s]
    · rw [if_neg e, un_n _ _ e]
      by_cases e2 : k = i
      · subst e2; rw [if_pos rfl, un_s]
      · rw [if_neg e2, un_n _ _ e2]; exact ha k hk
/-- the plan with two acts changed: as it is where there are no such acts -/
def chgA (A : aE) (i j : Nat) : aE := if i < aC A ∧ j < aC A then swpA A i j else A
theorem chgA_ok {A : aE} (hw : wfE A) (i j : Nat) : wfE (chgA A i j) ∧ aN (chgA A i j) = aN A ∧ aC (chgA A i j) = aC A := by
  unfold chgA
  split
  · rename_i h; exact ⟨swpA_wf hw h.1 h.2, rfl, rfl⟩
  · exact ⟨hw, rfl, rfl⟩
theorem c_changeActs {o i j : Nat} {A : aE} {K : tq_St → Prop} (hR : RC S o A) (hw : wfE A) (hi : i < 100) (hj : j < 100) (hK : ∀ S', RC S' o (chgA A i j) → Fr o S S' → S'.1 = S.1 → K S') : wp_X1_changeActs o (nI i) (nI j) S K := by
  have hc := hw.2.2.2.2.2.2.2.2.1
  unfold wp_X1_changeActs
  rw [hR.2.2.2.2.2.1]
  unfold chgA at hK
  have hno : ¬ (i < aC A ∧ j < aC A) → K S := fun h => by rw [if_neg h] at hK; exact hK S hR Fr.rf rfl
  refine ⟨fun z => absurd z (nI_pos (by omega)), fun _ => pk_le (aC A) i (fun z => hno (by omega)) (fun z1 => ⟨fun z => absurd z (nI_pos (by omega)), fun _ => pk_le (aC A) j (fun z => hno (by omega)) (fun z2 => ?_)⟩)⟩
  have i1 : vp_in (nI i) 8 := vp_in_nI (by omega) (by decide)
  have i2 : vp_in (nI j) 8 := vp_in_nI (by omega) (by decide)
  refine ⟨i1, nm_e ⟨i2, i1, nm_e ⟨i2, nm_e ?_⟩⟩⟩
  rw [nI_clamp (n := i) (by omega), nI_clamp (n := j) (by omega), hR.2.2.2.2.2.2.2.2.2 i z1, hR.2.2.2.2.2.2.2.2.2 j z2]
  rw [if_pos ⟨z1, z2⟩] at hK
  exact hK _ (hR.sw z1 z2) ((Fr.rf.A _ _ _).A _ _ _) rfl
def gcF (A : aE) (i j : Nat) : Nat := pcN (aG (planR (chgA A i j)).1)
theorem q_gone {i j : Nat} (hR : RC S 0 (qA G)) (hw : wfQ G) (hi : i < 100) (hj : j < 100) (hK : ∀ S', Fr 1 S S' → K (nI (gcF (qA G) i j)) S') : wp_X6_goneByChangedPlan (nI i) (nI j) S K := by
  unfold wp_X6_goneByChangedPlan
  refine c_startFrom hR hw.1 (by decide) (fun S1 a1 a2 a3 => ?_)
  refine c_changeActs a1 hw.1 hi hj (fun S2 b1 b2 b3 => ?_)
  have hc := chgA_ok hw.1 i j
  refine c_follow b1 hc.1 ⟨by rw [b3]; exact a3.1, by rw [b3]; exact a3.2.1, by rw [b3]; exact a3.2.2⟩ (fun S3 c1 c2 c3 => ?_)
  have hw3 := (planR_ok hc.1).1
  have h32 := zb_p31 hw3.1
  have hg := hw3.2.2.2.2.1
  rw [c1.2.1]
  exact c_bitCount32 (by omega) (hK S3 ((a2.tr b2).tr c3))
/-- the best so far: how many, and the places -/
def sw2 (A : aE) (i : Nat) : Nat → Nat → Nat → Int32 → Nat × Int32
  | 0, _, b, w => (b, w)
  | m + 1, j, b, w => if b < gcF A i j then sw2 A i m (j + 1) (gcF A i j) (nI (10 * i + j)) else sw2 A i m (j + 1) b w
def sw1 (A : aE) : Nat → Nat → Nat → Int32 → Nat × Int32
  | 0, _, b, w => (b, w)
  | m + 1, i, b, w => sw1 A m (i + 1) (sw2 A i (aC A - (i + 1)) (i + 1) b w).1 (sw2 A i (aC A - (i + 1)) (i + 1) b w).2
theorem pcN_le (w : Nat) : pcN w ≤ 31 := fb_ct_le _ 31
theorem q_swap_40 {S0 : tq_St} {y : Int32} {rec22 : Int32 → Int32 → Int32 → Int32 → tq_St → Prop} (hG0 : RQ S0 G) (hw : wfQ G) {i : Nat} (hi : i < 8) : ∀ (m j f b : Nat) (w : Int32) (S : tq_St), j + m = aC (qA G) → m < f → b ≤ 31 → Fr 1 S0 S → (∀ S', Fr 1 S0 S' → (sw2 (qA G) i m j b w).1 ≤ 31 → rec22 y (nI (sw2 (qA G) i m j b w).1) (sw2 (qA G) i m j b w).2 (nI (i + 1)) S') → wp_X6_swap_40 K rec22 f y (nI b) w (nI i) (nI j) S
  | 0, j, f + 1, b, w, S, h1, h2, hb, hF, hK => by
    have hc := hw.1.2.2.2.2.2.2.2.2.1
    have hR : RC S 0 (qA G) := hG0.1.fr hF (by decide)
    unfold wp_X6_swap_40
    rw [hR.2.2.2.2.2.1]
    exact pk_le (aC (qA G)) j (fun _ => nm_r (nI_1 i) (hK S hF hb)) (fun z => absurd z (by omega))
  | m + 1, j, f + 1, b, w, S, h1, h2, hb, hF, hK => by
    have hc := hw.1.2.2.2.2.2.2.2.2.1
    have hR : RC S 0 (qA G) := hG0.1.fr hF (by decide)
    unfold wp_X6_swap_40
    rw [hR.2.2.2.2.2.1]
    refine pk_le (aC (qA G)) j (fun z => absurd z (by omega)) (fun _ => ?_)
    refine q_gone hR hw (by omega) (by omega) (fun S' f' => ?_)
    have hp := pcN_le (aG (planR (chgA (qA G) i j)).1)
    have hg : gcF (qA G) i j ≤ 31 := hp
    unfold sw2 at hK
    have e10 : (10 : Int32) * nI i + nI j = nI (10 * i + j) := by
      have e10 : (10 : Int32) = nI 10 := rfl
      rw [e10, pk_mul, nI_add]
    refine pk_le (gcF (qA G) i j) b (fun z => nm_r (nI_1 j) ?_) (fun z => nm_r e10 (nm_r (nI_1 j) ?_))
    · rw [if_neg (by omega)] at hK
      exact q_swap_40 hG0 hw hi m (j + 1) f b w S' (by omega) (by omega) hb (hF.tr f') hK
    · rw [if_pos z] at hK
      exact q_swap_40 hG0 hw hi m (j + 1) f _ _ S' (by omega) (by omega) hg (hF.tr f') hK
def swR (y : Int32) (r : Nat × Int32) : Int32 := if y = 0 then r.2 else if r.2 = -4 then r.2 else nI r.1
theorem q_swap_22 {S0 : tq_St} {y : Int32} (hG0 : RQ S0 G) (hw : wfQ G) : ∀ (m i f b : Nat) (w : Int32) (S : tq_St), i + m = aC (qA G) → m < f → b ≤ 31 → Fr 1 S0 S → (∀ S', Fr 1 S0 S' → K (swR y (sw1 (qA G) m i b w)) S') → wp_X6_swap_22 K f y (nI b) w (nI i) S
  | 0, i, f + 1, b, w, S, h1, h2, hb, hF, hK => by
    have hc := hw.1.2.2.2.2.2.2.2.2.1
    have hR : RC S 0 (qA G) := hG0.1.fr hF (by decide)
    unfold wp_X6_swap_22
    rw [hR.2.2.2.2.2.1]
    have h9 := hK S hF
    unfold swR sw1 at h9
    refine pk_le (aC (qA G)) i (fun _ => ⟨fun z => ?_, fun z => ⟨fun z2 => ?_, fun z2 => ?_⟩⟩) (fun z => absurd z (by omega))
    · rw [if_pos z] at h9; exact h9
    · rw [if_neg z, if_neg z2] at h9; exact h9
    · rw [if_neg z, if_pos z2] at h9; exact h9
  | m + 1, i, f + 1, b, w, S, h1, h2, hb, hF, hK => by
    have hc := hw.1.2.2.2.2.2.2.2.2.1
    have hR : RC S 0 (qA G) := hG0.1.fr hF (by decide)
    unfold wp_X6_swap_22
    rw [hR.2.2.2.2.2.1]
    refine pk_le (aC (qA G)) i (fun z => absurd z (by omega)) (fun _ => nm_r (nI_1 i) ?_)
    refine q_swap_40 hG0 hw (by omega) (aC (qA G) - (i + 1)) (i + 1) 2000 b w S (by omega) (by omega) hb hF (fun S' f' hb' => ?_)
    exact q_swap_22 hG0 hw m (i + 1) f _ _ S' (by omega) (by omega) hb' f' hK
theorem q_swap {y : Int32} (hG : RQ S G) (hw : wfQ G) (hbad : (∀ w, w ≤ 1 → y ≠ nI w) → K (-1) S) (hok : ∀ w, w ≤ 1 → y = nI w → ∀ S', RQ S' G → FC S S' → K (swR y (sw1 (qA G) (aC (qA G)) 0 (gcF (qA G) 0 0) (-4))) S') : wp_X6_swap y S K := by
  have hc := hw.1.2.2.2.2.2.2.2.2.1
  unfold wp_X6_swap
  refine q_01 (fun w hw1 e => ⟨fun _ => ?_, fun z => absurd z (by decide)⟩) (fun hno => ⟨fun z => absurd rfl z, fun _ => hbad hno⟩)
  refine q_gone (i := 0) (j := 0) hG.1 hw (by decide) (by decide) (fun S1 f1 => ?_)
  have hp := pcN_le (aG (planR (chgA (qA G) 0 0)).1)
  refine q_swap_22 hG hw (aC (qA G)) 0 2000 _ _ S1 (by omega) (by omega) hp f1 (fun S' f => ?_)
  have hx := f.fx (Or.inl (by decide))
  exact hok w hw1 e S' (hG.fx hx) hx.fc
end Q3
