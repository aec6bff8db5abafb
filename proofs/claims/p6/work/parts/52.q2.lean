section Q2
variable {S : tq_St} {G : aQ} {K : Int32 → tq_St → Prop}
/-- which of 0 .. n an int is -/
theorem ix_le (x : Int32) (n : Nat) (hn : n < 2 ^ 30) : (∃ j, j ≤ n ∧ x = nI j) ∨ (∀ j, j ≤ n → x ≠ nI j) := by
  rcases pk_ix x (n := n + 1) (by omega) with h | h | ⟨j, hj, rfl⟩
  · exact Or.inr (fun j hj e => by subst e; exact nI_pos (by omega) h)
  · exact Or.inr (fun j hj e => by subst e; exact nI_ge (by omega) (by omega) h)
  · exact Or.inl ⟨j, by omega, rfl⟩
theorem ix_bad {x : Int32} {n : Nat} (hn : n < 2 ^ 30) (h : ∀ j, j ≤ n → x ≠ nI j) : x < 0 ∨ ¬ x ≤ nI n := by
  by_cases h0 : x < 0
  · exact Or.inl h0
  · refine Or.inr (fun z => ?_)
    obtain ⟨j, hj, rfl⟩ := nI_of h0
    rw [nI_leI hj (by omega)] at z
    exact h j z rfl
/-- which of lo .. hi -/
theorem ix_bd {x : Int32} {lo hi : Nat} (hlo : lo < 2 ^ 30) (hn : hi < 2 ^ 30) (h1 : ¬ x < nI lo) (h2 : x ≤ nI hi) : ∃ j, lo ≤ j ∧ j ≤ hi ∧ x = nI j := by
  have h0 : ¬ x < 0 := by
    intro z
    apply h1
    rw [Int32.lt_iff_toInt_lt] at z ⊢
    have e0 : (0 : Int32).toInt = 0 := by decide
    rw [nI_toInt (by omega)]
    omega
  obtain ⟨j, hj, rfl⟩ := nI_of h0
  rw [nI_leI hj (by omega)] at h2
  refine ⟨j, ?_, h2, rfl⟩
  rcases Nat.lt_or_ge j lo with c | c
  · exact absurd (nI_lt c (by omega)) h1
  · exact c
theorem q_room {x : Int32} (hG : RQ S G) (hbad : (x < 1 ∨ ¬ x ≤ 5) → K (-1) S) (hok : ∀ v, 1 ≤ v ∧ v ≤ 5 → x = nI v → ∀ S', RQ S' (vA G (uR (qA G) v)) → FC S S' → K (nI (aR (qA G))) S') : wp_X6_room x S K := by
  unfold wp_X6_room
  refine ⟨fun z => hbad (Or.inl z), fun z => ⟨fun z2 => nm_e (nm_e ?_), fun z2 => hbad (Or.inr z2)⟩⟩
  obtain ⟨v, hv, hv2, rfl⟩ := ix_bd (lo := 1) (hi := 5) (by decide) (by decide) z z2
  rw [hG.1.2.2.2.1]
  have f := (Fr.rf (o := 0) (S := S)).I 8 (nI v)
  exact hok v ⟨hv, hv2⟩ rfl _ (hG.now f (hG.1.r v)) (f.fc (by decide))
theorem q_think {x : Int32} (hG : RQ S G) (hbad : (x < 1 ∨ ¬ x ≤ 9) → K (-1) S) (hok : ∀ v, 1 ≤ v ∧ v ≤ 9 → x = nI v → ∀ S', RQ S' (vA G (uT (qA G) v)) → FC S S' → K (nI (aT (qA G))) S') : wp_X6_think x S K := by
  unfold wp_X6_think
  refine ⟨fun z => hbad (Or.inl z), fun z => ⟨fun z2 => nm_e (nm_e ?_), fun z2 => hbad (Or.inr z2)⟩⟩
  obtain ⟨v, hv, hv2, rfl⟩ := ix_bd (lo := 1) (hi := 9) (by decide) (by decide) z z2
  rw [hG.1.2.2.2.2.1]
  have f := (Fr.rf (o := 0) (S := S)).I 9 (nI v)
  exact hok v ⟨hv, hv2⟩ rfl _ (hG.now f (hG.1.h v)) (f.fc (by decide))
theorem RC.c {S : tq_St} {o : Nat} {A : aE} (h : RC S o A) {n : Nat} (hn : n ≤ aC A) : RC (sI S o 10 (nI n)) o (uP A n (aA A)) := by
  obtain ⟨h5, h6, h7, h8, h9, h10, hk, hs, hw, ha⟩ := h
  refine ⟨?_, ?_, ?_, ?_, ?_, ?_, hk, hs, hw, fun i hi => ha i (by have hi : i < n := hi; omega)⟩ <;> rw [sI_1] <;> simp <;> assumption
theorem q_cut {x : Int32} (hG : RQ S G) (hw : wfQ G) (hbad : (∀ n, n ≤ aC (qA G) → x ≠ nI n) → K (-1) S) (hok : ∀ n, n ≤ aC (qA G) → x = nI n → ∀ S', RQ S' (vA G (uP (qA G) n (aA (qA G)))) → FC S S' → K (nI (aC (qA G))) S') : wp_X6_cut x S K := by
  have hc := hw.1.2.2.2.2.2.2.2.2.1
  have h10 := hG.1.2.2.2.2.2.1
  unfold wp_X6_cut
  rw [h10]
  rcases ix_le x (aC (qA G)) (by omega) with ⟨n, hn, rfl⟩ | hb
  · refine ⟨fun z => absurd z (nI_pos (by omega)), fun _ => pk_le n (aC (qA G)) (fun _ => nm_e (nm_e ?_)) (fun z => absurd z (by omega))⟩
    have f := (Fr.rf (o := 0) (S := S)).I 10 (nI n)
    exact hok n hn rfl _ (hG.now f (hG.1.c hn)) (f.fc (by decide))
  · rcases ix_bad (by omega) hb with z | z
    · exact ⟨fun _ => hbad hb, fun z2 => absurd z z2⟩
    · exact ⟨fun _ => hbad hb, fun _ => ⟨fun z2 => absurd z2 z, fun _ => hbad hb⟩⟩
def planA (A : aE) (a : Nat) : aE := uP A (aC A + 1) (un (aA A) (aC A) a)
theorem RC.pl {S : tq_St} {o : Nat} {A : aE} (h : RC S o A) (hc : aC A < 8) (a : Nat) : RC (sI (sA S o 3 (aC A) (nI a)) o 10 (nI (aC A + 1))) o (planA A a) := by
  obtain ⟨h5, h6, h7, h8, h9, h10, hk, hs, hw, ha⟩ := h
  refine ⟨?_, ?_, ?_, ?_, ?_, ?_, fun q hq => ?_, fun q hq => ?_, fun q hq => ?_, fun i hi => ?_⟩
  · rw [sI_1, if_neg (by decide)]; exact h5
  · rw [sI_1, if_neg (by decide)]; exact h6
  · rw [sI_1, if_neg (by decide)]; exact h7
  · rw [sI_1, if_neg (by decide)]; exact h8
  · rw [sI_1, if_neg (by decide)]; exact h9
  · rw [sI_1, if_pos rfl]; rfl
  · show (sA S o 3 (aC A) (nI a)).2.1 o 0 q = _
    rw [sA_nk _ _ _ _ _ (by decide)]; exact hk q hq
  · show (sA S o 3 (aC A) (nI a)).2.1 o 1 q = _
    rw [sA_nk _ _ _ _ _ (by decide)]; exact hs q hq
  · show (sA S o 3 (aC A) (nI a)).2.1 o 2 q = _
    rw [sA_nk _ _ _ _ _ (by decide)]; exact hw q hq
  · show (sA S o 3 (aC A) (nI a)).2.1 o 3 i = nI (un (aA A) (aC A) a i)
    have hi : i < aC A + 1 := hi
    rw [sA_at]
    by_cases e : i = aC A
    · subst e; rw [if_pos rfl, un_s]
    · rw [if_neg e, un_n _ _ e]; exact ha i (by omega)
theorem planA_wf {A : aE} (hw : wfE A) (hc : aC A < 8) {a : Nat} (ha : okA (aN A) a) : wfE (planA A a) := by
  obtain ⟨h1, h2, h3, h4, h5, h6, h7, h8, h9, h10⟩ := hw
  refine ⟨h1, h2, h3, h4, h5, h6, h7, h8, by show aC A + 1 ≤ 8; omega, fun i hi => ?_⟩
  have hi : i < aC A + 1 := hi
  show okA (aN A) (un (aA A) (aC A) a i)
  by_cases e : i = aC A
  · subst e; rw [un_s]; exact ha
  · rw [un_n _ _ e]; exact h10 i (by omega)
theorem c_addAct {o a : Nat} {A : aE} (hR : RC S o A) (hc : aC A ≤ 8) (h1 : aC A < 8 → ∀ S', RC S' o (planA A a) → Fr o S S' → (∀ k, k ≠ 10 → S'.1 o k = S.1 o k) → S'.1 o 10 = nI (aC A + 1) → K 1 S') (h0 : aC A = 8 → K 0 S) : wp_X1_addAct o (nI a) S K := by
  unfold wp_X1_addAct
  rw [hR.2.2.2.2.2.1]
  refine pk_lt (aC A) 8 (fun hlt => ⟨vp_in_nI (by omega) (by decide), nm_e ?_⟩) (fun hge => h0 (by omega))
  rw [nI_clamp (by omega)]
  refine nm_r (by rw [sA_1, hR.2.2.2.2.2.1, nI_1]) ?_
  exact h1 hlt _ (hR.pl hlt a) ((Fr.rf.A _ _ _).I _ _) (fun k hk => by rw [sI_1, if_neg hk]; rfl) (by rw [sI_1, if_pos rfl])
theorem q_plan {x : Int32} (hG : RQ S G) (hw : wfQ G) (hbad : (∀ a, okA (aN (qA G)) a → x ≠ nI a) → K (-1) S) (hok : ∀ a, okA (aN (qA G)) a → x = nI a → aC (qA G) < 8 → ∀ S', RQ S' (vA G (planA (qA G) a)) → FC S S' → K (nI (aC (qA G) + 1)) S') (hfull : ∀ a, okA (aN (qA G)) a → x = nI a → aC (qA G) = 8 → K (-3) S) : wp_X6_plan x S K := by
  unfold wp_X6_plan
  refine c_isAct hG.1 hw.1 (fun a ha e => ⟨fun _ => ?_, fun z => absurd z (by decide)⟩) (fun hno => ⟨fun z => absurd rfl z, fun _ => hbad hno⟩)
  subst e
  refine c_addAct hG.1 hw.1.2.2.2.2.2.2.2.2.1 (fun hlt S' a1 a2 a3 a4 => ⟨fun z => absurd z (by decide), fun _ => ?_⟩) (fun h8 => ⟨fun _ => hfull a ha rfl h8, fun z => absurd rfl z⟩)
  rw [a4]
  exact hok a ha rfl hlt S' (hG.now a2 a1) (a2.fc (by decide))
theorem q_act {x : Int32} (hG : RQ S G) (hw : wfQ G) (hbad : (∀ i, i < aC (qA G) → x ≠ nI i) → K (-1) S) (hok : ∀ i, i < aC (qA G) → x = nI i → K (nI (aA (qA G) i)) S) : wp_X6_act x S K := by
  have hc := hw.1.2.2.2.2.2.2.2.2.1
  unfold wp_X6_act
  rw [hG.1.2.2.2.2.2.1]
  rcases pk_ix x (n := aC (qA G)) (by omega) with h | h | ⟨i, hi, rfl⟩
  · exact ⟨fun _ => hbad (fun n hn e => by subst e; exact nI_pos (by omega) h), fun z => absurd h z⟩
  · have hb : ∀ n, n < aC (qA G) → x ≠ nI n := fun n hn e => by subst e; exact nI_ge (by omega) (by omega) h
    refine ⟨fun _ => hbad hb, fun _ => ⟨fun z => ?_, fun _ => hbad hb⟩⟩
    rw [Int32.lt_iff_toInt_lt, nI_toInt (by omega)] at z
    rw [Int32.le_iff_toInt_le, nI_toInt (by omega)] at h
    omega
  · refine ⟨fun z => absurd z (nI_pos (by omega)), fun _ => pk_lt i (aC (qA G)) (fun _ => ⟨vp_in_nI (by omega) (by decide), ?_⟩) (fun z => absurd z (by omega))⟩
    rw [nI_clamp (by omega), hG.1.2.2.2.2.2.2.2.2.2 i hi]
    exact hok i hi rfl
theorem q_queue {x : Int32} (hG : RQ S G) (hw : wfQ G) (hbad : (x < 0 ∨ ¬ x < 5) → K (-1) S) (hok : ∀ i, i < 5 → x = nI i → ∀ S', RQ S' G → FC S S' → K (oI (nextF (qA G) (selB (qA G) i))) S') : wp_X6_queue x S K := by
  unfold wp_X6_queue
  refine ⟨fun z => hbad (Or.inl z), fun z => ⟨fun z2 => ?_, fun z2 => hbad (Or.inr z2)⟩⟩
  obtain ⟨i, hi, rfl⟩ := nI_of z
  have h5 : (5 : Int32) = nI 5 := rfl
  rw [h5, nI_ltI hi (by decide)] at z2
  refine c_inLine hG.1 hw.1 z2 (fun S' a1 a2 a3 => ?_)
  exact hok i z2 rfl S' (hG.now a2 a1) (a2.fc (by decide))
def alterK (A : aE) (p v : Nat) : aE := uK A (un (aK A) p v)
def alterS (A : aE) (p v : Nat) : aE := uS A (un (aS A) p v)
theorem alterK_wf {A : aE} (hw : wfE A) {p v : Nat} (hv : v < 4) : wfE (alterK A p v) := ⟨hw.1, fun q => by show un (aK A) p v q < 4; have := hw.2.1 q; unfold un; split <;> omega, hw.2.2⟩
theorem alterS_wf {A : aE} (hw : wfE A) {p v : Nat} (hv : v ≤ 40) : wfE (alterS A p v) := ⟨hw.1, hw.2.1, un_le hw.2.2.1 hv, hw.2.2.2⟩
theorem q_alter {x y v : Int32} (hG : RQ S G) (hw : wfQ G) (hbad : (∀ p k, p < aN (qA G) → x = nI p → v = nI k → ¬ (y = 0 ∧ k < 4) ∧ ¬ (y = 1 ∧ k ≤ 40)) → K (-1) S) (hk : ∀ p k, p < aN (qA G) → x = nI p → y = 0 → k < 4 → v = nI k → ∀ S', RQ S' (vA G (alterK (qA G) p k)) → FC S S' → K (nI (aK (qA G) p)) S') (hs : ∀ p k, p < aN (qA G) → x = nI p → y = 1 → k ≤ 40 → v = nI k → ∀ S', RQ S' (vA G (alterS (qA G) p k)) → FC S S' → K (nI (aS (qA G) p)) S') : wp_X6_alter x y v S K := by
  have hn := hw.1.1
  unfold wp_X6_alter
  refine c_isThere hG.1.1 hn (fun p hp e => ⟨fun z => absurd z (by decide), fun _ => ?_⟩) (fun hno => ⟨fun _ => hbad (fun p k hp e => absurd e (hno p hp)), fun z => absurd rfl z⟩)
  subst e
  have einj : ∀ p', p' < aN (qA G) → nI p = nI p' → p = p' := fun p' h e => (nI_eq (by omega) (by omega)).mp e
  by_cases hv : v < 0
  · refine ⟨fun z => ?_, fun _ => hbad (fun p' k hp' e e2 => ?_)⟩
    · rw [Int32.le_iff_toInt_le] at z
      rw [Int32.lt_iff_toInt_lt] at hv
      omega
    · subst e2
      have hk : ¬ k < 2 ^ 31 := fun c => nI_pos c hv
      exact ⟨fun c => by omega, fun c => by omega⟩
  · obtain ⟨k, hk31, rfl⟩ := nI_of hv
    have kinj : ∀ k', nI k = nI k' → k' < 2 ^ 31 → k = k' := fun k' e h => (nI_eq hk31 h).mp e
    refine ⟨fun _ => ?_, fun z => absurd (nI_pos' hk31) z⟩
    have h50 : (¬ (y = 0 ∧ k < 4)) → wp_X6_alter_50 K (nI p) y (nI k) S := by
      intro hno
      unfold wp_X6_alter_50
      refine ⟨fun z => hbad (fun p' k' hp' e e2 => ⟨fun c => ?_, fun c => z c.1⟩), fun z => ?_⟩
      · have := kinj k' e2 (by omega)
        subst this
        exact hno c
      · refine pk_lt 40 k (fun z2 => hbad (fun p' k' hp' e e2 => ⟨fun c => ?_, fun c => ?_⟩)) (fun z2 => ⟨vp_in_nI (by omega) (by decide), nm_e ⟨vp_in_nI (by omega) (by decide), nm_e ?_⟩⟩)
        · rw [z] at c; exact absurd c.1 (by decide)
        · have := kinj k' e2 (by omega)
          omega
        · rw [nI_clamp (by omega), hG.1.2.2.2.2.2.2.2.1 p hp]
          have f := (Fr.rf (o := 0) (S := S)).A 1 p (nI k)
          exact hs p k hp rfl z z2 rfl _ (hG.now f (hG.1.s p k)) (f.fc (by decide))
    refine ⟨fun z => h50 (fun c => z c.1), fun z => pk_le 4 k (fun z2 => h50 (fun c => by omega)) (fun z2 => ⟨vp_in_nI (by omega) (by decide), nm_e ⟨vp_in_nI (by omega) (by decide), nm_e ?_⟩⟩)⟩
    rw [nI_clamp (by omega), hG.1.2.2.2.2.2.2.1 p hp]
    have f := (Fr.rf (o := 0) (S := S)).A 0 p (nI k)
    exact hk p k hp rfl z z2 rfl _ (hG.now f (hG.1.k p k)) (f.fc (by decide))
theorem q_thinks {x : Int32} (hG : RQ S G) (hw : wfQ G) (hbad : (∀ p, p < aN (qA G) → x ≠ nI p) → K (-1) S) (hst : ∀ p, p < aN (qA G) → x = nI p → (aG (qA G)).testBit p = true → K (-2) S) (hok : ∀ p, p < aN (qA G) → x = nI p → (aG (qA G)).testBit p = false → ∀ S', RQ S' (vA G (thinkF (qA G) p)) → FC S S' → K (nI (tkF (qA G) p).2.2) S') : wp_X6_thinks x S K := by
  have hn := hw.1.1
  unfold wp_X6_thinks
  refine c_isThere hG.1.1 hn (fun p hp e => ⟨fun _ => ?_, fun z => absurd z (by decide)⟩) (fun hno => ⟨fun z => absurd rfl z, fun _ => hbad hno⟩)
  subst e
  refine c_waitsN hG.1.1 hn hG.1.2.1 hw.1.g31 hp (fun hb => ⟨fun z => absurd z (by decide), fun _ => ?_⟩) (fun hb => ⟨fun _ => hst p hp rfl hb, fun z => absurd rfl z⟩)
  exact c_think hG.1 hw.1 hp (fun S' a1 a2 _ _ _ => hok p hp rfl hb S' (hG.now a2 a1) (a2.fc (by decide)))
def dryN : Nat → aE → aE
  | 0, A => A
  | n + 1, A => dryN n (dryF A)
theorem dryN_ok : ∀ (n : Nat) (A : aE), wfE A → wfE (dryN n A) ∧ aN (dryN n A) = aN A
  | 0, A, hw => ⟨hw, rfl⟩
  | n + 1, A, hw => dryN_ok n (dryF A) (dryF_wf hw)
theorem q_minutes_14 {n : Nat} (hn : n ≤ 60) : ∀ (m i f : Nat) (G : aQ) (S S0 : tq_St), i + m = n → m < f → RQ S G → wfQ G → FC S0 S → (∀ S', RQ S' (vA G (dryN m (qA G))) → FC S0 S' → K (nI (sorF (dryN m (qA G)))) S') → wp_X6_minutes_14 K f (nI n) (nI i) S
  | 0, i, f + 1, G, S, S0, h1, h2, hG, hw, hF, hK => by
    unfold wp_X6_minutes_14
    exact pk_le n i (fun _ => c_allSorrow hG.1 hw.1 (hK S hG hF)) (fun z => absurd z (by omega))
  | m + 1, i, f + 1, G, S, S0, h1, h2, hG, hw, hF, hK => by
    unfold wp_X6_minutes_14
    refine pk_le n i (fun z => absurd z (by omega)) (fun _ => ?_)
    refine c_dry hG.1 hw.1 (fun S' a1 a2 _ => nm_r (nI_1 i) ?_)
    exact q_minutes_14 hn m (i + 1) f (vA G (dryF (qA G))) S' S0 (by omega) (by omega) (hG.now a2 a1) (hw.now (dryF_wf hw.1) rfl) (hF.tr (a2.fc (by decide))) hK
theorem q_minutes {x : Int32} (hG : RQ S G) (hw : wfQ G) (hbad : (x < 0 ∨ ¬ x ≤ 60) → K (-1) S) (hok : ∀ n, n ≤ 60 → x = nI n → ∀ S', RQ S' (vA G (dryN n (qA G))) → FC S S' → K (nI (sorF (dryN n (qA G)))) S') : wp_X6_minutes x S K := by
  unfold wp_X6_minutes
  refine ⟨fun z => hbad (Or.inl z), fun z => ⟨fun z2 => ?_, fun z2 => hbad (Or.inr z2)⟩⟩
  obtain ⟨n, hn, rfl⟩ := nI_of2 (n := 60) (by decide) z z2
  exact q_minutes_14 hn n 0 2000 G S S (by omega) (by omega) hG hw FC.rf (hok n hn rfl)
theorem q_tram (hG : RQ S G) (hw : wfQ G) (hok : ∀ S', RQ S' (vA G (boardF (qA G))) → FC S S' → K (nI (tramB (qA G))) S') : wp_X6_tram S K := by
  unfold wp_X6_tram
  exact c_board hG.1 hw.1 (fun S' a1 a2 _ => hok S' (hG.now a2 a1) (a2.fc (by decide)))
def joyF (A : aE) (p : Nat) : aE := uW (uS A (un (aS A) p 0)) (un (aW A) p 0)
theorem joyF_wf {A : aE} (hw : wfE A) (p : Nat) : wfE (joyF A p) := ⟨hw.1, hw.2.1, un_le hw.2.2.1 (by omega), un_le hw.2.2.2.1 (by omega), hw.2.2.2.2⟩
theorem q_joy {x : Int32} (hG : RQ S G) (hw : wfQ G) (hbad : (∀ p, p < aN (qA G) → x ≠ nI p) → K (-1) S) (hst : ∀ p, p < aN (qA G) → x = nI p → (aG (qA G)).testBit p = true → K (-2) S) (hok : ∀ p, p < aN (qA G) → x = nI p → (aG (qA G)).testBit p = false → ∀ S', RQ S' (vA G (joyF (qA G) p)) → FC S S' → K (nI (aS (qA G) p)) S') : wp_X6_joy x S K := by
  have hn := hw.1.1
  unfold wp_X6_joy
  refine c_isThere hG.1.1 hn (fun p hp e => ⟨fun _ => ?_, fun z => absurd z (by decide)⟩) (fun hno => ⟨fun z => absurd rfl z, fun _ => hbad hno⟩)
  subst e
  refine c_waitsN hG.1.1 hn hG.1.2.1 hw.1.g31 hp (fun hb => ⟨fun _ => ?_, fun z => absurd z (by decide)⟩) (fun hb => ⟨fun z => absurd rfl z, fun _ => hst p hp rfl hb⟩)
  have hin : vp_in (nI p) 5 := vp_in_nI (by omega) (by decide)
  refine ⟨hin, nm_e ⟨hin, nm_e ⟨hin, nm_e ?_⟩⟩⟩
  rw [nI_clamp (by omega), hG.1.2.2.2.2.2.2.2.1 p hp]
  have f := ((Fr.rf (o := 0) (S := S)).A 1 p 0).A 2 p (-1)
  exact hok p hp rfl hb _ (hG.now f ((hG.1.s p 0).w p 0 (by decide))) (f.fc (by decide))
theorem q_second (hG : RQ S G) (hw : wfQ G) (hok : ∀ S', RQ S' (vA G (uG (qA G) 0)) → FC S S' → K (nI (pcN (aG (qA G)))) S') : wp_X6_second S K := by
  have h32 := zb_p31 hw.1.1
  have hg := hw.1.2.2.2.2.1
  unfold wp_X6_second
  rw [hG.1.2.1]
  refine c_bitCount32 (by omega) (nm_e ?_)
  have f := (Fr.rf (o := 0) (S := S)).I 6 0
  exact hok _ (hG.now f (hG.1.g 0)) (f.fc (by decide))
theorem q_rule {x : Int32} (hG : RQ S G) (hw : wfQ G) (hbad : (∀ w, w ≤ 6 → x ≠ nI w) → K (-1) S) (h0 : x = 0 → K (nI (aN (qA G))) S) (h1 : x = 1 → K (nI (aM (qA G))) S) (h2 : x = 2 → K (nI (aR (qA G))) S) (h3 : x = 3 → K (nI (aT (qA G))) S) (h4 : x = 4 → K (nI (aC (qA G))) S) (h5 : x = 5 → K (wbI (aN (qA G)) (aG (qA G))) S) (h6 : x = 6 → K (nI (sorF (qA G))) S) : wp_X6_rule x S K := by
  obtain ⟨r5, r6, r7, r8, r9, r10, -⟩ := hG.1
  unfold wp_X6_rule
  rw [r5, r7, r8, r9, r10]
  refine ⟨fun z => hbad (fun w hw e => ?_), h0, h1, h2, h3, h4, fun e => c_waitingBits hG.1 (h5 e), fun e => c_allSorrow hG.1 hw.1 (h6 e)⟩
  rw [e, nI_toInt (by omega)] at z
  omega
theorem q_one {x y : Int32} (hG : RQ S G) (hw : wfQ G) (hbad : (∀ p, p < aN (qA G) → x ≠ nI p) ∨ (∀ w, w ≤ 4 → y ≠ nI w) → K (-1) S) (h0 : ∀ p, p < aN (qA G) → x = nI p → y = 0 → K (nI (aK (qA G) p)) S) (h1 : ∀ p, p < aN (qA G) → x = nI p → y = 1 → K (nI (aS (qA G) p)) S) (h2 : ∀ p, p < aN (qA G) → x = nI p → y = 2 → K (oW (aW (qA G) p)) S) (h3 : ∀ p, p < aN (qA G) → x = nI p → y = 3 → K (nI (brN (aK (qA G) p))) S) (h4 : ∀ p, p < aN (qA G) → x = nI p → y = 4 → K (nI (if (aG (qA G)).testBit p then 1 else 0)) S) : wp_X6_one x y S K := by
  have hn := hw.1.1
  unfold wp_X6_one
  refine c_isThere hG.1.1 hn (fun p hp e => ⟨fun _ => ?_, fun z => absurd z (by decide)⟩) (fun hno => ⟨fun z => absurd rfl z, fun _ => hbad (Or.inl hno)⟩)
  subst e
  have hin : vp_in (nI p) 5 := vp_in_nI (by omega) (by decide)
  rw [nI_clamp (by omega), hG.1.2.2.2.2.2.2.1 p hp, hG.1.2.2.2.2.2.2.2.1 p hp]
  refine ⟨fun z => hbad (Or.inr (fun w hw e => ?_)), fun z => ⟨hin, h0 p hp rfl z⟩, fun z => ⟨hin, h1 p hp rfl z⟩, fun z => c_weptOrNone hG.1 hw.1 hp (h2 p hp rfl z), fun z => c_brim hG.1 hw.1 hp (h3 p hp rfl z), fun z => ?_⟩
  · rw [e, nI_toInt (by omega)] at z
    omega
  · have h4 := h4 p hp rfl z
    refine c_waitsN hG.1.1 hn hG.1.2.1 hw.1.g31 hp (fun hb => ⟨fun z => absurd z (by decide), fun _ => ?_⟩) (fun hb => ⟨fun _ => ?_, fun z => absurd rfl z⟩)
    · rw [if_neg (by rw [hb]; decide)] at h4; exact h4
    · rw [if_pos hb] at h4; exact h4
end Q2
