section
section Q1
variable {S : tq_St} {G : aQ} {K : Int32 → tq_St → Prop}
-- THE CLASS'S CALLS: the text's tape, what there is
def feedF (G : aQ) (c : Nat) : aQ := if (qT G).1 < 160 then vT G ((qT G).1 + 1, un (qT G).2 (qT G).1 c) else G
theorem feedF_wf (hw : wfQ G) {c : Nat} (hc : c ≤ 127) : wfQ (feedF G c) := by
  unfold feedF
  split
  · rename_i h
    refine ⟨hw.1, hw.2.1, ⟨by show (qT G).1 + 1 ≤ 160; omega, fun i => ?_⟩, hw.2.2.2⟩
    show un (qT G).2 (qT G).1 c i < 128
    have := hw.2.2.1.2 i
    unfold un
    split <;> omega
  · exact hw
theorem q_feed {x : Int32} (hG : RQ S G) (hw : wfQ G) (hbad : (x < 0 ∨ ¬ x ≤ 127) → K (-1) S) (hok : ∀ c, c ≤ 127 → x = nI c → (qT G).1 < 160 → ∀ S', RQ S' (feedF G c) → FC S S' → K (nI ((qT G).1 + 1)) S') (hfull : ∀ c, c ≤ 127 → x = nI c → (qT G).1 = 160 → K (-3) S) : wp_X6_feed x S K := by
  obtain ⟨h1, h2, ⟨h3, h3b⟩, h4, h5, h6, h7⟩ := hG
  have hl := hw.2.2.1.1
  unfold wp_X6_feed
  refine ⟨fun z => hbad (Or.inl z), fun z => ⟨fun z2 => ?_, fun z2 => hbad (Or.inr z2)⟩⟩
  obtain ⟨c, hc, rfl⟩ := nI_of2 (n := 127) (by decide) z z2
  unfold wp_X5_append
  rw [h3]
  refine pk_lt (qT G).1 160 (fun hlt => ⟨vp_in_nI (by omega) (by decide), nm_e (nm_e ?_)⟩) (fun hge => ?_)
  · refine ⟨fun z => absurd z (by decide), fun _ => ?_⟩
    rw [nI_clamp (by omega), pk_vb, fa_byte_small (by omega)]
    have e1 : (sI (sA S 19 0 (qT G).1 (nI c)) 19 2 ((sA S 19 0 (qT G).1 (nI c)).1 19 2 + 1)).1 19 2 = nI ((qT G).1 + 1) := by
      rw [sI_1, if_pos rfl, sA_1, h3, nI_1]
    rw [e1]
    refine hok c hc rfl hlt _ ?_ ((((Fr.rf (o := 19)).A _ _ _).I _ _).fc (by decide))
    have f := ((Fr.rf (o := 19) (S := S)).A 0 (qT G).1 (nI c)).I 2 ((sA S 19 0 (qT G).1 (nI c)).1 19 2 + 1)
    have f20 := f.1 20 (by decide)
    have f27 := f.1 27 (by decide)
    unfold feedF
    rw [if_pos hlt]
    refine ⟨h1.fr f (by decide), fun k hk => ?_, ⟨e1, fun i hi => ?_⟩, ?_, by rw [f20.1, f20.2]; exact h5, fun k hk => ?_, by rw [f27.1]; exact h7⟩
    · have h2 := h2 k hk
      show CI _ k (qI G k)
      unfold CI at h2 ⊢
      split at h2
      · rw [f27.2]; exact h2
      · rw [f27.2]; exact ⟨h2.1, h2.2.fr f (by omega)⟩
    · show (sA S 19 0 (qT G).1 (nI c)).2.1 19 0 i = nI (un (qT G).2 (qT G).1 c i)
      rw [sA_at]
      have hi : i < (qT G).1 + 1 := hi
      by_cases e : i = (qT G).1
      · subst e; rw [if_pos rfl, un_s]
      · rw [if_neg e, un_n _ _ e]; exact h3b i (by omega)
    · rw [sI_1, if_neg (by decide)]; exact h4
    · have h6 := h6 k hk
      have f23 := f.1 (23 + k) (by omega)
      show CH _ k (qH G k)
      unfold CH at h6 ⊢
      rw [f23.1, f23.2]
      exact h6
  · refine ⟨fun _ => hfull c hc rfl (by omega), fun z => absurd rfl z⟩
/-- the tape's length or the fault is changed -/
theorem RQ.tape {S' : tq_St} (hG : RQ S G) (f : Fr 19 S S') {t : Nat × (Nat → Nat)} {y : Nat} (ht : S'.1 19 2 = nI t.1 ∧ ∀ i, i < t.1 → S'.2.1 19 0 i = nI (t.2 i)) (hy : S'.1 19 3 = nI y) : RQ S' (vF (vT G t) y) := by
  obtain ⟨h1, h2, h3, h4, h5, h6, h7⟩ := hG
  have f20 := f.1 20 (by decide)
  have f27 := f.1 27 (by decide)
  refine ⟨h1.fr f (by decide), fun k hk => ?_, ht, hy, by rw [f20.1, f20.2]; exact h5, fun k hk => ?_, by rw [f27.1]; exact h7⟩
  · have h2 := h2 k hk
    show CI _ k (qI G k)
    unfold CI at h2 ⊢
    split at h2
    · rw [f27.2]; exact h2
    · rw [f27.2]; exact ⟨h2.1, h2.2.fr f (by omega)⟩
  · have h6 := h6 k hk
    have f23 := f.1 (23 + k) (by omega)
    show CH _ k (qH G k)
    unfold CH at h6 ⊢
    rw [f23.1, f23.2]
    exact h6
def endF (G : aQ) (n : Nat) : aQ := vT G (n, (qT G).2)
theorem endF_wf (hw : wfQ G) {n : Nat} (hn : n ≤ (qT G).1) : wfQ (endF G n) := ⟨hw.1, hw.2.1, ⟨by show n ≤ 160; have := hw.2.2.1.1; omega, hw.2.2.1.2⟩, hw.2.2.2⟩
theorem q_end {x : Int32} (hG : RQ S G) (hw : wfQ G) (hbad : (∀ n, n ≤ (qT G).1 → x ≠ nI n) → K (-1) S) (hok : ∀ n, n ≤ (qT G).1 → x = nI n → ∀ S', RQ S' (endF G n) → FC S S' → K (nI (qT G).1) S') : wp_X6_end x S K := by
  have hl := hw.2.2.1.1
  have h3 := hG.2.2.1.1
  unfold wp_X6_end
  rw [h3]
  rcases pk_ix x (n := (qT G).1 + 1) (by omega) with h | h | ⟨n, hn, rfl⟩
  · exact ⟨fun _ => hbad (fun n hn e => by subst e; exact nI_pos (by omega) h), fun z => absurd h z⟩
  · have hb : ∀ n, n ≤ (qT G).1 → x ≠ nI n := fun n hn e => by subst e; exact nI_ge (by omega) (by omega) h
    refine ⟨fun _ => hbad hb, fun _ => ⟨fun z => ?_, fun _ => hbad hb⟩⟩
    rw [Int32.le_iff_toInt_le, nI_toInt (by omega)] at h z
    omega
  · refine ⟨fun z => absurd z (nI_pos (by omega)), fun _ => pk_le n (qT G).1 (fun _ => nm_e (nm_e ?_)) (fun z => absurd z (by omega))⟩
    refine hok n (by omega) rfl _ ?_ (((Fr.rf (o := 19)).I _ _).fc (by decide))
    exact RQ.tape hG ((Fr.rf (o := 19)).I _ _) (t := (n, (qT G).2)) (y := qF G) ⟨by rw [sI_1, if_pos rfl], fun i hi => hG.2.2.1.2 i (by have hi : i < n := hi; omega)⟩ (by rw [sI_1, if_neg (by decide)]; exact hG.2.2.2.1)
theorem q_fault (hG : RQ S G) (hK : K (nI (qF G)) S) : wp_X6_fault S K := by
  unfold wp_X6_fault
  rw [hG.2.2.2.1]
  exact hK
end Q1
end
section
section Q2
variable {S : tq_St} {G : aQ} {K : Int32 → tq_St → Prop}
/-- which of 0 .. n an int is -/
theorem ix_le (x : Int32) (n : Nat) (hn : n < 2 ^ 30) : (∃ j, j ≤ n ∧ x = nI j) ∨ (∀ j, j ≤ n → x ≠ nI j) := by
  rcases pk_ix x (n := n + 1) (by omega) with h | h | ⟨j, hj, rfl⟩
  · exact Or.inr (fun j hj e => by subst e; exact nI_pos (by omega) h)
  · exact Or.inr (fun j hj e => by subst e; exact nI_ge (by omega) (by omega) h)
  · exact Or.inl ⟨j, by omega, rfl⟩
theorem ix_bad {x : Int32} {n : Nat} (hn : n < 2 ^ 30) (h : ∀ j, j ≤ n → x ≠ nI j) : x < 0 ∨ ¬ x ≤ nI n := by
  by_cases h0 : x < 0
  · exact Or.inl h0
  · refine Or.inr (fun z => ?_)
    obtain ⟨j, hj, rfl⟩ := nI_of h0
    rw [nI_leI hj (by omega)] at z
    exact h j z rfl
/-- which of lo .. hi -/
theorem ix_bd {x : Int32} {lo hi : Nat} (hlo : lo < 2 ^ 30) (hn : hi < 2 ^ 30) (h1 : ¬ x < nI lo) (h2 : x ≤ nI hi) : ∃ j, lo ≤ j ∧ j ≤ hi ∧ x = nI j := by
  have h0 : ¬ x < 0 := by
    intro z
    apply h1
    rw [Int32.lt_iff_toInt_lt] at z ⊢
    have e0 : (0 : Int32).toInt = 0 := by decide
    rw [nI_toInt (by omega)]
    omega
  obtain ⟨j, hj, rfl⟩ := nI_of h0
  rw [nI_leI hj (by omega)] at h2
  refine ⟨j, ?_, h2, rfl⟩
  rcases Nat.lt_or_ge j lo with c | c
  · exact absurd (nI_lt c (by omega)) h1
  · exact c
theorem q_room {x : Int32} (hG : RQ S G) (hbad : (x < 1 ∨ ¬ x ≤ 5) → K (-1) S) (hok : ∀ v, 1 ≤ v ∧ v ≤ 5 → x = nI v → ∀ S', RQ S' (vA G (uR (qA G) v)) → FC S S' → K (nI (aR (qA G))) S') : wp_X6_room x S K := by
  unfold wp_X6_room
  refine ⟨fun z => hbad (Or.inl z), fun z => ⟨fun z2 => nm_e (nm_e ?_), fun z2 => hbad (Or.inr z2)⟩⟩
  obtain ⟨v, hv, hv2, rfl⟩ := ix_bd (lo := 1) (hi := 5) (by decide) (by decide) z z2
  rw [hG.1.2.2.2.1]
  have f := (Fr.rf (o := 0) (S := S)).I 8 (nI v)
  exact hok v ⟨hv, hv2⟩ rfl _ (hG.now f (hG.1.r v)) (f.fc (by decide))
theorem q_think {x : Int32} (hG : RQ S G) (hbad : (x < 1 ∨ ¬ x ≤ 9) → K (-1) S) (hok : ∀ v, 1 ≤ v ∧ v ≤ 9 → x = nI v → ∀ S', RQ S' (vA G (uT (qA G) v)) → FC S S' → K (nI (aT (qA G))) S') : wp_X6_think x S K := by
  unfold wp_X6_think
  refine ⟨fun z => hbad (Or.inl z), fun z => ⟨fun z2 => nm_e (nm_e ?_), fun z2 => hbad (Or.inr z2)⟩⟩
  obtain ⟨v, hv, hv2, rfl⟩ := ix_bd (lo := 1) (hi := 9) (by decide) (by decide) z z2
  rw [hG.1.2.2.2.2.1]
  have f := (Fr.rf (o := 0) (S := S)).I 9 (nI v)
  exact hok v ⟨hv, hv2⟩ rfl _ (hG.now f (hG.1.h v)) (f.fc (by decide))
theorem RC.c {S : tq_St} {o : Nat} {A : aE} (h : RC S o A) {n : Nat} (hn : n ≤ aC A) : RC (sI S o 10 (nI n)) o (uP A n (aA A)) := by
  obtain ⟨h5, h6, h7, h8, h9, h10, hk, hs, hw, ha⟩ := h
  refine ⟨?_, ?_, ?_, ?_, ?_, ?_, hk, hs, hw, fun i hi => ha i (by have hi : i < n := hi; omega)⟩ <;> rw [sI_1] <;> simp <;> assumption
theorem q_cut {x : Int32} (hG : RQ S G) (hw : wfQ G) (hbad : (∀ n, n ≤ aC (qA G) → x ≠ nI n) → K (-1) S) (hok : ∀ n, n ≤ aC (qA G) → x = nI n → ∀ S', RQ S' (vA G (uP (qA G) n (aA (qA G)))) → FC S S' → K (nI (aC (qA G))) S') : wp_X6_cut x S K := by
  have hc := hw.1.2.2.2.2.2.2.2.2.1
  have h10 := hG.1.2.2.2.2.2.1
  unfold wp_X6_cut
  rw [h10]
  rcases ix_le x (aC (qA G)) (by omega) with ⟨n, hn, rfl⟩ | hb
  · refine ⟨fun z => absurd z (nI_pos (by omega)), fun _ => pk_le n (aC (qA G)) (fun _ => nm_e (nm_e ?_)) (fun z => absurd z (by omega))⟩
    have f := (Fr.rf (o := 0) (S := S)).I 10 (nI n)
    exact hok n hn rfl _ (hG.now f (hG.1.c hn)) (f.fc (by decide))
  · rcases ix_bad (by omega) hb with z | z
    · exact ⟨fun _ => hbad hb, fun z2 => absurd z z2⟩
    · exact ⟨fun _ => hbad hb, fun _ => ⟨fun z2 => absurd z2 z, fun _ => hbad hb⟩⟩
def planA (A : aE) (a : Nat) : aE := uP A (aC A + 1) (un (aA A) (aC A) a)
theorem RC.pl {S : tq_St} {o : Nat} {A : aE} (h : RC S o A) (hc : aC A < 8) (a : Nat) : RC (sI (sA S o 3 (aC A) (nI a)) o 10 (nI (aC A + 1))) o (planA A a) := by
  obtain ⟨h5, h6, h7, h8, h9, h10, hk, hs, hw, ha⟩ := h
  refine ⟨?_, ?_, ?_, ?_, ?_, ?_, fun q hq => ?_, fun q hq => ?_, fun q hq => ?_, fun i hi => ?_⟩
  · rw [sI_1, if_neg (by decide)]; exact h5
  · rw [sI_1, if_neg (by decide)]; exact h6
  · rw [sI_1, if_neg (by decide)]; exact h7
  · rw [sI_1, if_neg (by decide)]; exact h8
  · rw [sI_1, if_neg (by decide)]; exact h9
  · rw [sI_1, if_pos rfl]; rfl
  · show (sA S o 3 (aC A) (nI a)).2.1 o 0 q = _
    rw [sA_nk _ _ _ _ _ (by decide)]; exact hk q hq
  · show (sA S o 3 (aC A) (nI a)).2.1 o 1 q = _
    rw [sA_nk _ _ _ _ _ (by decide)]; exact hs q hq
  · show (sA S o 3 (aC A) (nI a)).2.1 o 2 q = _
    rw [sA_nk _ _ _ _ _ (by decide)]; exact hw q hq
  · show (sA S o 3 (aC A) (nI a)).2.1 o 3 i = nI (un (aA A) (aC A) a i)
    have hi : i < aC A + 1 := hi
    rw [sA_at]
    by_cases e : i = aC A
    · subst e; rw [if_pos rfl, un_s]
    · rw [if_neg e, un_n _ _ e]; exact ha i (by omega)
theorem planA_wf {A : aE} (hw : wfE A) (hc : aC A < 8) {a : Nat} (ha : okA (aN A) a) : wfE (planA A a) := by
  obtain ⟨h1, h2, h3, h4, h5, h6, h7, h8, h9, h10⟩ := hw
  refine ⟨h1, h2, h3, h4, h5, h6, h7, h8, by show aC A + 1 ≤ 8; omega, fun i hi => ?_⟩
  have hi : i < aC A + 1 := hi
  show okA (aN A) (un (aA A) (aC A) a i)
  by_cases e : i = aC A
  · subst e; rw [un_s]; exact ha
  · rw [un_n _ _ e]; exact h10 i (by omega)
theorem c_addAct {o a : Nat} {A : aE} (hR : RC S o A) (hc : aC A ≤ 8) (h1 : aC A < 8 → ∀ S', RC S' o (planA A a) → Fr o S S' → (∀ k, k ≠ 10 → S'.1 o k = S.1 o k) → S'.1 o 10 = nI (aC A + 1) → K 1 S') (h0 : aC A = 8 → K 0 S) : wp_X1_addAct o (nI a) S K := by
  unfold wp_X1_addAct
  rw [hR.2.2.2.2.2.1]
  refine pk_lt (aC A) 8 (fun hlt => ⟨vp_in_nI (by omega) (by decide), nm_e ?_⟩) (fun hge => h0 (by omega))
  rw [nI_clamp (by omega)]
  refine nm_r (by rw [sA_1, hR.2.2.2.2.2.1, nI_1]) ?_
  exact h1 hlt _ (hR.pl hlt a) ((Fr.rf.A _ _ _).I _ _) (fun k hk => by rw [sI_1, if_neg hk]; rfl) (by rw [sI_1, if_pos rfl])
theorem q_plan {x : Int32} (hG : RQ S G) (hw : wfQ G) (hbad : (∀ a, okA (aN (qA G)) a → x ≠ nI a) → K (-1) S) (hok : ∀ a, okA (aN (qA G)) a → x = nI a → aC (qA G) < 8 → ∀ S', RQ S' (vA G (planA (qA G) a)) → FC S S' → K (nI (aC (qA G) + 1)) S') (hfull : ∀ a, okA (aN (qA G)) a → x = nI a → aC (qA G) = 8 → K (-3) S) : wp_X6_plan x S K := by
  unfold wp_X6_plan
  refine c_isAct hG.1 hw.1 (fun a ha e => ⟨fun _ => ?_, fun z => absurd z (by decide)⟩) (fun hno => ⟨fun z => absurd rfl z, fun _ => hbad hno⟩)
  subst e
  refine c_addAct hG.1 hw.1.2.2.2.2.2.2.2.2.1 (fun hlt S' a1 a2 a3 a4 => ⟨fun z => absurd z (by decide), fun _ => ?_⟩) (fun h8 => ⟨fun _ => hfull a ha rfl h8, fun z => absurd rfl z⟩)
  rw [a4]
  exact hok a ha rfl hlt S' (hG.now a2 a1) (a2.fc (by decide))
theorem q_act {x : Int32} (hG : RQ S G) (hw : wfQ G) (hbad : (∀ i, i < aC (qA G) → x ≠ nI i) → K (-1) S) (hok : ∀ i, i < aC (qA G) → x = nI i → K (nI (aA (qA G) i)) S) : wp_X6_act x S K := by
  have hc := hw.1.2.2.2.2.2.2.2.2.1
  unfold wp_X6_act
  rw [hG.1.2.2.2.2.2.1]
  rcases pk_ix x (n := aC (qA G)) (by omega) with h | h | ⟨i, hi, rfl⟩
  · exact ⟨fun _ => hbad (fun n hn e => by subst e; exact nI_pos (by omega) h), fun z => absurd h z⟩
  · have hb : ∀ n, n < aC (qA G) → x ≠ nI n := fun n hn e => by subst e; exact nI_ge (by omega) (by omega) h
    refine ⟨fun _ => hbad hb, fun _ => ⟨fun z => ?_, fun _ => hbad hb⟩⟩
    rw [Int32.lt_iff_toInt_lt, nI_toInt (by omega)] at z
    rw [Int32.le_iff_toInt_le, nI_toInt (by omega)] at h
    omega
  · refine ⟨fun z => absurd z (nI_pos (by omega)), fun _ => pk_lt i (aC (qA G)) (fun _ => ⟨vp_in_nI (by omega) (by decide), ?_⟩) (fun z => absurd z (by omega))⟩
    rw [nI_clamp (by omega), hG.1.2.2.2.2.2.2.2.2.2 i hi]
    exact hok i hi rfl
theorem q_queue {x : Int32} (hG : RQ S G) (hw : wfQ G) (hbad : (x < 0 ∨ ¬ x < 5) → K (-1) S) (hok : ∀ i, i < 5 → x = nI i → ∀ S', RQ S' G → FC S S' → K (oI (nextF (qA G) (selB (qA G) i))) S') : wp_X6_queue x S K := by
  unfold wp_X6_queue
  refine ⟨fun z => hbad (Or.inl z), fun z => ⟨fun z2 => ?_, fun z2 => hbad (Or.inr z2)⟩⟩
  obtain ⟨i, hi, rfl⟩ := nI_of z
  have h5 : (5 : Int32) = nI 5 := rfl
  rw [h5, nI_ltI hi (by decide)] at z2
  refine c_inLine hG.1 hw.1 z2 (fun S' a1 a2 a3 => ?_)
  exact hok i z2 rfl S' (hG.now a2 a1) (a2.fc (by decide))
def alterK (A : aE) (p v : Nat) : aE := uK A (un (aK A) p v)
def alterS (A : aE) (p v : Nat) : aE := uS A (un (aS A) p v)
theorem alterK_wf {A : aE} (hw : wfE A) {p v : Nat} (hv : v < 4) : wfE (alterK A p v) := ⟨hw.1, fun q => by show un (aK A) p v q < 4; have := hw.2.1 q; unfold un; split <;> omega, hw.2.2⟩
theorem alterS_wf {A : aE} (hw : wfE A) {p v : Nat} (hv : v ≤ 40) : wfE (alterS A p v) := ⟨hw.1, hw.2.1, un_le hw.2.2.1 hv, hw.2.2.2⟩
theorem q_alter {x y v : Int32} (hG : RQ S G) (hw : wfQ G) (hbad : (∀ p k, p < aN (qA G) → x = nI p → v = nI k → ¬ (y = 0 ∧ k < 4) ∧ ¬ (y = 1 ∧ k ≤ 40)) → K (-1) S) (hk : ∀ p k, p < aN (qA G) → x = nI p → y = 0 → k < 4 → v = nI k → ∀ S', RQ S' (vA G (alterK (qA G) p k)) → FC S S' → K (nI (aK (qA G) p)) S') (hs : ∀ p k, p < aN (qA G) → x = nI p → y = 1 → k ≤ 40 → v = nI k → ∀ S', RQ S' (vA G (alterS (qA G) p k)) → FC S S' → K (nI (aS (qA G) p)) S') : wp_X6_alter x y v S K := by
  have hn := hw.1.1
  unfold wp_X6_alter
  refine c_isThere hG.1.1 hn (fun p hp e => ⟨fun z => absurd z (by decide), fun _ => ?_⟩) (fun hno => ⟨fun _ => hbad (fun p k hp e => absurd e (hno p hp)), fun z => absurd rfl z⟩)
  subst e
  have einj : ∀ p', p' < aN (qA G) → nI p = nI p' → p = p' := fun p' h e => (nI_eq (by omega) (by omega)).mp e
  by_cases hv : v < 0
  · refine ⟨fun z => ?_, fun _ => hbad (fun p' k hp' e e2 => ?_)⟩
    · rw [Int32.le_iff_toInt_le] at z
      rw [Int32.lt_iff_toInt_lt] at hv
      omega
    · subst e2
      have hk : ¬ k < 2 ^ 31 := fun c => nI_pos c hv
      exact ⟨fun c => by omega, fun c => by omega⟩
  · obtain ⟨k, hk31, rfl⟩ := nI_of hv
    have kinj : ∀ k', nI k = nI k' → k' < 2 ^ 31 → k = k' := fun k' e h => (nI_eq hk31 h).mp e
    refine ⟨fun _ => ?_, fun z => absurd (nI_pos' hk31) z⟩
    have h50 : (¬ (y = 0 ∧ k < 4)) → wp_X6_alter_50 K (nI p) y (nI k) S := by
      intro hno
      unfold wp_X6_alter_50
      refine ⟨fun z => hbad (fun p' k' hp' e e2 => ⟨fun c => ?_, fun c => z c.1⟩), fun z => ?_⟩
      · have := kinj k' e2 (by omega)
        subst this
        exact hno c
      · refine pk_lt 40 k (fun z2 => hbad (fun p' k' hp' e e2 => ⟨fun c => ?_, fun c => ?_⟩)) (fun z2 => ⟨vp_in_nI (by omega) (by decide), nm_e ⟨vp_in_nI (by omega) (by decide), nm_e ?_⟩⟩)
        · rw [z] at c; exact absurd c.1 (by decide)
        · have := kinj k' e2 (by omega)
          omega
        · rw [nI_clamp (by omega), hG.1.2.2.2.2.2.2.2.1 p hp]
          have f := (Fr.rf (o := 0) (S := S)).A 1 p (nI k)
          exact hs p k hp rfl z z2 rfl _ (hG.now f (hG.1.s p k)) (f.fc (by decide))
    refine ⟨fun z => h50 (fun c => z c.1), fun z => pk_le 4 k (fun z2 => h50 (fun c => by omega)) (fun z2 => ⟨vp_in_nI (by omega) (by decide), nm_e ⟨vp_in_nI (by omega) (by decide), nm_e ?_⟩⟩)⟩
    rw [nI_clamp (by omega), hG.1.2.2.2.2.2.2.1 p hp]
    have f := (Fr.rf (o := 0) (S := S)).A 0 p (nI k)
    exact hk p k hp rfl z z2 rfl _ (hG.now f (hG.1.k p k)) (f.fc (by decide))
theorem q_thinks {x : Int32} (hG : RQ S G) (hw : wfQ G) (hbad : (∀ p, p < aN (qA G) → x ≠ nI p) → K (-1) S) (hst : ∀ p, p < aN (qA G) → x = nI p → (aG (qA G)).testBit p = true → K (-2) S) (hok : ∀ p, p < aN (qA G) → x = nI p → (aG (qA G)).testBit p = false → ∀ S', RQ S' (vA G (thinkF (qA G) p)) → FC S S' → K (nI (tkF (qA G) p).2.2) S') : wp_X6_thinks x S K := by
  have hn := hw.1.1
  unfold wp_X6_thinks
  refine c_isThere hG.1.1 hn (fun p hp e => ⟨fun _ => ?_, fun z => absurd z (by decide)⟩) (fun hno => ⟨fun z => absurd rfl z, fun _ => hbad hno⟩)
  subst e
  refine c_waitsN hG.1.1 hn hG.1.2.1 hw.1.g31 hp (fun hb => ⟨fun z => absurd z (by decide), fun _ => ?_⟩) (fun hb => ⟨fun _ => hst p hp rfl hb, fun z => absurd rfl z⟩)
  exact c_think hG.1 hw.1 hp (fun S' a1 a2 _ _ _ => hok p hp rfl hb S' (hG.now a2 a1) (a2.fc (by decide)))
def dryN : Nat → aE → aE
  | 0, A => A
  | n + 1, A => dryN n (dryF A)
theorem dryN_ok : ∀ (n : Nat) (A : aE), wfE A → wfE (dryN n A) ∧ aN (dryN n A) = aN A
  | 0, A, hw => ⟨hw, rfl⟩
  | n + 1, A, hw => dryN_ok n (dryF A) (dryF_wf hw)
theorem q_minutes_14 {n : Nat} (hn : n ≤ 60) : ∀ (m i f : Nat) (G : aQ) (S S0 : tq_St), i + m = n → m < f → RQ S G → wfQ G → FC S0 S → (∀ S', RQ S' (vA G (dryN m (qA G))) → FC S0 S' → K (nI (sorF (dryN m (qA G)))) S') → wp_X6_minutes_14 K f (nI n) (nI i) S
  | 0, i, f + 1, G, S, S0, h1, h2, hG, hw, hF, hK => by
    unfold wp_X6_minutes_14
    exact pk_le n i (fun _ => c_allSorrow hG.1 hw.1 (hK S hG hF)) (fun z => absurd z (by omega))
  | m + 1, i, f + 1, G, S, S0, h1, h2, hG, hw, hF, hK => by
    unfold wp_X6_minutes_14
    refine pk_le n i (fun z => absurd z (by omega)) (fun _ => ?_)
    refine c_dry hG.1 hw.1 (fun S' a1 a2 _ => nm_r (nI_1 i) ?_)
    exact q_minutes_14 hn m (i + 1) f (vA G (dryF (qA G))) S' S0 (by omega) (by omega) (hG.now a2 a1) (hw.now (dryF_wf hw.1) rfl) (hF.tr (a2.fc (by decide))) hK
theorem q_minutes {x : Int32} (hG : RQ S G) (hw : wfQ G) (hbad : (x < 0 ∨ ¬ x ≤ 60) → K (-1) S) (hok : ∀ n, n ≤ 60 → x = nI n → ∀ S', RQ S' (vA G (dryN n (qA G))) → FC S S' → K (nI (sorF (dryN n (qA G)))) S') : wp_X6_minutes x S K := by
  unfold wp_X6_minutes
  refine ⟨fun z => hbad (Or.inl z), fun z => ⟨fun z2 => ?_, fun z2 => hbad (Or.inr z2)⟩⟩
  obtain ⟨n, hn, rfl⟩ := nI_of2 (n := 60) (by decide) z z2
  exact q_minutes_14 hn n 0 2000 G S S (by omega) (by omega) hG hw FC.rf (hok n hn rfl)
theorem q_tram (hG : RQ S G) (hw : wfQ G) (hok : ∀ S', RQ S' (vA G (boardF (qA G))) → FC S S' → K (nI (tramB (qA G))) S') : wp_X6_tram S K := by
  unfold wp_X6_tram
  exact c_board hG.1 hw.1 (fun S' a1 a2 _ => hok S' (hG.now a2 a1) (a2.fc (by decide)))
def joyF (A : aE) (p : Nat) : aE := uW (uS A (un (aS A) p 0)) (un (aW A) p 0)
theorem joyF_wf {A : aE} (hw : wfE A) (p : Nat) : wfE (joyF A p) := ⟨hw.1, hw.2.1, un_le hw.2.2.1 (by omega), un_le hw.2.2.2.1 (by omega), hw.2.2.2.2⟩
theorem q_joy {x : Int32} (hG : RQ S G) (hw : wfQ G) (hbad : (∀ p, p < aN (qA G) → x ≠ nI p) → K (-1) S) (hst : ∀ p, p < aN (qA G) → x = nI p → (aG (qA G)).testBit p = true → K (-2) S) (hok : ∀ p, p < aN (qA G) → x = nI p → (aG (qA G)).testBit p = false → ∀ S', RQ S' (vA G (joyF (qA G) p)) → FC S S' → K (nI (aS (qA G) p)) S') : wp_X6_joy x S K := by
  have hn := hw.1.1
  unfold wp_X6_joy
  refine c_isThere hG.1.1 hn (fun p hp e => ⟨fun _ => ?_, fun z => absurd z (by decide)⟩) (fun hno => ⟨fun z => absurd rfl z, fun _ => hbad hno⟩)
  subst e
  refine c_waitsN hG.1.1 hn hG.1.2.1 hw.1.g31 hp (fun hb => ⟨fun _ => ?_, fun z => absurd z (by decide)⟩) (fun hb => ⟨fun z => absurd rfl z, fun _ => hst p hp rfl hb⟩)
  have hin : vp_in (nI p) 5 := vp_in_nI (by omega) (by decide)
  refine ⟨hin, nm_e ⟨hin, nm_e ⟨hin, nm_e ?_⟩⟩⟩
  rw [nI_clamp (by omega), hG.1.2.2.2.2.2.2.2.1 p hp]
  have f := ((Fr.rf (o := 0) (S := S)).A 1 p 0).A 2 p (-1)
  exact hok p hp rfl hb _ (hG.now f ((hG.1.s p 0).w p 0 (by decide))) (f.fc (by decide))
theorem q_second (hG : RQ S G) (hw : wfQ G) (hok : ∀ S', RQ S' (vA G (uG (qA G) 0)) → FC S S' → K (nI (pcN (aG (qA G)))) S') : wp_X6_second S K := by
  have h32 := zb_p31 hw.1.1
  have hg := hw.1.2.2.2.2.1
  unfold wp_X6_second
  rw [hG.1.2.1]
  refine c_bitCount32 (by omega) (nm_e ?_)
  have f := (Fr.rf (o := 0) (S := S)).I 6 0
  exact hok _ (hG.now f (hG.1.g 0)) (f.fc (by decide))
theorem q_rule {x : Int32} (hG : RQ S G) (hw : wfQ G) (hbad : (∀ w, w ≤ 6 → x ≠ nI w) → K (-1) S) (h0 : x = 0 → K (nI (aN (qA G))) S) (h1 : x = 1 → K (nI (aM (qA G))) S) (h2 : x = 2 → K (nI (aR (qA G))) S) (h3 : x = 3 → K (nI (aT (qA G))) S) (h4 : x = 4 → K (nI (aC (qA G))) S) (h5 : x = 5 → K (wbI (aN (qA G)) (aG (qA G))) S) (h6 : x = 6 → K (nI (sorF (qA G))) S) : wp_X6_rule x S K := by
  obtain ⟨r5, r6, r7, r8, r9, r10, -⟩ := hG.1
  unfold wp_X6_rule
  rw [r5, r7, r8, r9, r10]
  refine ⟨fun z => hbad (fun w hw e => ?_), h0, h1, h2, h3, h4, fun e => c_waitingBits hG.1 (h5 e), fun e => c_allSorrow hG.1 hw.1 (h6 e)⟩
  rw [e, nI_toInt (by omega)] at z
  omega
theorem q_one {x y : Int32} (hG : RQ S G) (hw : wfQ G) (hbad : (∀ p, p < aN (qA G) → x ≠ nI p) ∨ (∀ w, w ≤ 4 → y ≠ nI w) → K (-1) S) (h0 : ∀ p, p < aN (qA G) → x = nI p → y = 0 → K (nI (aK (qA G) p)) S) (h1 : ∀ p, p < aN (qA G) → x = nI p → y = 1 → K (nI (aS (qA G) p)) S) (h2 : ∀ p, p < aN (qA G) → x = nI p → y = 2 → K (oW (aW (qA G) p)) S) (h3 : ∀ p, p < aN (qA G) → x = nI p → y = 3 → K (nI (brN (aK (qA G) p))) S) (h4 : ∀ p, p < aN (qA G) → x = nI p → y = 4 → K (nI (if (aG (qA G)).testBit p then 1 else 0)) S) : wp_X6_one x y S K := by
  have hn := hw.1.1
  unfold wp_X6_one
  refine c_isThere hG.1.1 hn (fun p hp e => ⟨fun _ => ?_, fun z => absurd z (by decide)⟩) (fun hno => ⟨fun z => absurd rfl z, fun _ => hbad (Or.inl hno)⟩)
  subst e
  have hin : vp_in (nI p) 5 := vp_in_nI (by omega) (by decide)
  rw [nI_clamp (by omega), hG.1.2.2.2.2.2.2.1 p hp, hG.1.2.2.2.2.2.2.2.1 p hp]
  refine ⟨fun z => hbad (Or.inr (fun w hw e => ?_)), fun z => ⟨hin, h0 p hp rfl z⟩, fun z => ⟨hin, h1 p hp rfl z⟩, fun z => c_weptOrNone hG.1 hw.1 hp (h2 p hp rfl z), fun z => c_brim hG.1 hw.1 hp (h3 p hp rfl z), fun z => ?_⟩
  · rw [e, nI_toInt (by omega)] at z
    omega
  · have h4 := h4 p hp rfl z
    refine c_waitsN hG.1.1 hn hG.1.2.1 hw.1.g31 hp (fun hb => ⟨fun z => absurd z (by decide), fun _ => ?_⟩) (fun hb => ⟨fun _ => ?_, fun z => absurd rfl z⟩)
    · rw [if_neg (by rw [hb]; decide)] at h4; exact h4
    · rw [if_pos hb] at h4; exact h4
end Q2
end
section
section Q3
variable {S : tq_St} {G : aQ} {K : Int32 → tq_St → Prop}
theorem q_01 {x : Int32} (h1 : ∀ w, w ≤ 1 → x = nI w → K 1 S) (h0 : (∀ w, w ≤ 1 → x ≠ nI w) → K 0 S) : wp_X6_isZeroOrOne x S K := by
  unfold wp_X6_isZeroOrOne
  refine ⟨fun e => h1 0 (by omega) e, fun e => ⟨fun e1 => h0 (fun w hw z => ?_), fun e1 => h1 1 (by omega) e1⟩⟩
  have h2 : w = 0 ∨ w = 1 := by omega
  rcases h2 with c | c
  · subst c; exact e z
  · subst c; exact e1 z
-- BY THE PLAN
theorem c_runPlan {A : aE} {K : tq_St → Prop} (hR : RC S 0 A) (hw : wfE A) (hK : ∀ S', RC S' 1 (planR A).1 → TC S' 1 (planR A).2 → Fr 1 S S' → K S') : wp_X1_startFrom 1 0 S (fun S1 => wp_X1_followPlan 1 S1 K) :=
  c_startFrom hR hw (by decide) (fun S1 a1 a2 a3 => c_follow a1 hw a3 (fun S2 b1 b2 b3 => hK S2 b1 b2 (a2.tr b3)))
theorem planR_ok {A : aE} (hw : wfE A) : wfE (planR A).1 ∧ aN (planR A).1 = aN A := by
  have := goP_ok (ac := aA A) (aC A) 0 A (0, 0, none) hw
  exact ⟨this.1, this.2.1⟩
theorem q_runs {x : Int32} (hG : RQ S G) (hw : wfQ G) (hbad : (x < 0 ∨ ¬ x ≤ 4) → K (-1) S) (h0 : x = 0 → ∀ S', RQ S' G → FC S S' → K (nI (aG (planR (qA G)).1)) S') (h1 : x = 1 → ∀ S', RQ S' G → FC S S' → K (nI (planR (qA G)).2.1) S') (h2 : x = 2 → ∀ S', RQ S' G → FC S S' → K (nI (planR (qA G)).2.2.1) S') (h3 : x = 3 → ∀ S', RQ S' G → FC S S' → K (oI (planR (qA G)).2.2.2) S') (h4 : x = 4 → ∀ S', RQ S' G → FC S S' → K (nI (sorF (planR (qA G)).1)) S') : wp_X6_runs x S K := by
  unfold wp_X6_runs
  refine ⟨fun z => hbad (Or.inl z), fun z => ⟨fun z2 => ?_, fun z2 => hbad (Or.inr z2)⟩⟩
  refine c_runPlan hG.1 hw.1 (fun S' a1 a2 a3 => ?_)
  have hx := a3.fx (Or.inl (by decide))
  have hG' := hG.fx hx
  have hF := hx.fc
  rw [a1.2.1, a2.1, a2.2.1, a2.2.2]
  refine ⟨fun c => c_allSorrow a1 (planR_ok hw.1).1 (h4 ?_ S' hG' hF), fun e => h0 e S' hG' hF, fun e => h1 e S' hG' hF, fun e => h2 e S' hG' hF, fun e => h3 e S' hG' hF⟩
  obtain ⟨j, hj, rfl⟩ := nI_of2 (n := 4) (by decide) z z2
  rw [nI_toInt (by omega)] at c
  rw [show j = 4 by omega]
  rfl
theorem q_ahead {x y : Int32} (hG : RQ S G) (hw : wfQ G) (hbad : (∀ p, p < aN (qA G) → x ≠ nI p) ∨ (∀ w, w ≤ 1 → y ≠ nI w) → K (-1) S) (h0 : ∀ p, p < aN (qA G) → x = nI p → y = 0 → ∀ S', RQ S' G → FC S S' → K (nI (aS (planR (qA G)).1 p)) S') (h1 : ∀ p, p < aN (qA G) → x = nI p → y = 1 → ∀ S', RQ S' G → FC S S' → K (oW (aW (planR (qA G)).1 p)) S') : wp_X6_ahead x y S K := by
  have hn := hw.1.1
  unfold wp_X6_ahead
  refine c_isThere hG.1.1 hn (fun p hp e => ⟨fun z => absurd z (by decide), fun _ => ?_⟩) (fun hno => ⟨fun _ => hbad (Or.inl hno), fun z => absurd rfl z⟩)
  subst e
  refine q_01 (fun w hw1 e => ⟨fun _ => ?_, fun z => absurd z (by decide)⟩) (fun hno => ⟨fun z => absurd rfl z, fun _ => hbad (Or.inr hno)⟩)
  subst e
  refine c_runPlan hG.1 hw.1 (fun S' a1 a2 a3 => ?_)
  have hx := a3.fx (Or.inl (by decide))
  have hp2 : p < aN (planR (qA G)).1 := by rw [(planR_ok hw.1).2]; exact hp
  have hw01 : w = 0 ∨ w = 1 := by omega
  refine ⟨fun z => ?_, fun z => ⟨vp_in_nI (by omega) (by decide), ?_⟩⟩
  · have e1 : w = 1 := by rcases hw01 with c | c; exact absurd (by rw [c]; rfl) z; exact c
    exact c_weptOrNone a1 (planR_ok hw.1).1 hp2 (h1 p hp rfl (by rw [e1]; rfl) S' (hG.fx hx) hx.fc)
  · rw [nI_clamp (by omega), a1.2.2.2.2.2.2.2.1 p hp2]
    exact h0 p hp rfl z S' (hG.fx hx) hx.fc
-- HOW SOON
def soonL (p : Nat) : Nat → Nat → aE → Option Nat
  | 0, _, _ => none
  | m + 1, i, A => if nextF A 0 = some p then some i else soonL p m (i + 1) (thinkF A p)
theorem q_soon_40 {p : Nat} {S0 : tq_St} : ∀ (m i f : Nat) (A : aE) (S : tq_St), i + m = 10 → m < f → wfE A → p < aN A → RC S 1 A → Fr 1 S0 S → (∀ S', Fr 1 S0 S' → K (oI (soonL p m i A)) S') → wp_X6_soon_40 K f (nI p) (nI i) S
  | 0, i, f + 1, A, S, h1, h2, hw, hp, hR, hF, hK => by
    unfold wp_X6_soon_40
    exact pk_lt 9 i (fun _ => hK S hF) (fun z => absurd z (by omega))
  | m + 1, i, f + 1, A, S, h1, h2, hw, hp, hR, hF, hK => by
    have hn := hw.1
    unfold wp_X6_soon_40
    refine pk_lt 9 i (fun z => absurd z (by omega)) (fun _ => ?_)
    refine c_inLine (i := 0) hR hw (by decide) (fun S' a1 a2 a3 => ?_)
    unfold soonL at hK
    show (¬ oI (nextF A 0) = nI p → _) ∧ (oI (nextF A 0) = nI p → _)
    refine ⟨fun z => ?_, fun z => ?_⟩
    · have hne : ¬ nextF A 0 = some p := fun e => z (by rw [e]; rfl)
      rw [if_neg hne] at hK
      refine c_think a1 hw hp (fun S2 b1 b2 _ _ _ => nm_r (nI_1 i) ?_)
      exact q_soon_40 m (i + 1) f (thinkF A p) S2 (by omega) (by omega) (thinkF_wf hw p).1 hp b1 ((hF.tr a2).tr b2) hK
    · have he : nextF A 0 = some p := by
        cases e : nextF A 0 with
        | none => rw [e] at z; exact absurd z.symm (oI_ne (by omega))
        | some q =>
          rw [e] at z
          have hq := (next_lt e).1
          have : q = p := (nI_eq (by omega) (by omega)).mp z
          rw [this]
      rw [if_pos he] at hK
      exact hK S' (hF.tr a2)
theorem q_soon {x : Int32} (hG : RQ S G) (hw : wfQ G) (hbad : (∀ p, p < aN (qA G) → x ≠ nI p) → K (-1) S) (hst : ∀ p, p < aN (qA G) → x = nI p → (aG (qA G)).testBit p = true → K (-4) S) (hok : ∀ p, p < aN (qA G) → x = nI p → (aG (qA G)).testBit p = false → ∀ S', RQ S' G → FC S S' → K (oI (soonL p 10 0 (qA G))) S') : wp_X6_soon x S K := by
  have hn := hw.1.1
  unfold wp_X6_soon
  refine c_isThere hG.1.1 hn (fun p hp e => ⟨fun _ => ?_, fun z => absurd z (by decide)⟩) (fun hno => ⟨fun z => absurd rfl z, fun _ => hbad hno⟩)
  subst e
  refine c_waitsN hG.1.1 hn hG.1.2.1 hw.1.g31 hp (fun hb => ⟨fun _ => ?_, fun z => absurd z (by decide)⟩) (fun hb => ⟨fun z => absurd rfl z, fun _ => hst p hp rfl hb⟩)
  refine c_startFrom hG.1 hw.1 (by decide) (fun S1 a1 a2 a3 => ?_)
  refine q_soon_40 (S0 := S) 10 0 2000 (qA G) S1 (by omega) (by omega) hw.1 hp a1 a2 (fun S' f => ?_)
  have hx := f.fx (Or.inl (by decide))
  exact hok p hp rfl hb S' (hG.fx hx) hx.fc
-- HOW MUCH ROOM IS ENOUGH
def enoL (A : aE) : Nat → Nat → Option Nat
  | 0, _ => none
  | m + 1, v => if wbI (aN A) (aG (planR (uR A v)).1) = 0 then some v else enoL A m (v + 1)
theorem uR_wf {A : aE} (hw : wfE A) {v : Nat} (h : 1 ≤ v ∧ v ≤ 5) : wfE (uR A v) := ⟨hw.1, hw.2.1, hw.2.2.1, hw.2.2.2.1, hw.2.2.2.2.1, hw.2.2.2.2.2.1, h, hw.2.2.2.2.2.2.2⟩
theorem q_enough_2 {S0 : tq_St} (hG0 : RQ S0 G) (hw : wfQ G) : ∀ (m v f : Nat) (S : tq_St), v + m = 6 → 1 ≤ v → m < f → Fr 1 S0 S → (∀ S', Fr 1 S0 S' → K (oI (enoL (qA G) m v)) S') → wp_X6_enough_2 K f (nI v) S
  | 0, v, f + 1, S, h1, h1b, h2, hF, hK => by
    unfold wp_X6_enough_2
    exact pk_lt 5 v (fun _ => hK S hF) (fun z => absurd z (by omega))
  | m + 1, v, f + 1, S, h1, h1b, h2, hF, hK => by
    have hn := hw.1.1
    unfold wp_X6_enough_2
    refine pk_lt 5 v (fun z => absurd z (by omega)) (fun _ => ?_)
    have hR : RC S 0 (qA G) := hG0.1.fr hF (by decide)
    refine c_startFrom hR hw.1 (by decide) (fun S1 a1 a2 a3 => nm_e ?_)
    have hw2 := uR_wf hw.1 (v := v) (by omega)
    refine c_follow (a1.r v) hw2 ⟨?_, ?_, ?_⟩ (fun S2 b1 b2 b3 => ?_)
    · rw [sI_1, if_neg (by decide)]; exact a3.1
    · rw [sI_1, if_neg (by decide)]; exact a3.2.1
    · rw [sI_1, if_neg (by decide)]; exact a3.2.2
    · refine c_waitingBits b1 ?_
      rw [(planR_ok hw2).2]
      have hF2 := ((hF.tr a2).tr (Fr.rf.I _ _)).tr b3
      unfold enoL at hK
      refine ⟨fun z => nm_r (nI_1 v) ?_, fun z => ?_⟩
      · rw [if_neg z] at hK
        exact q_enough_2 hG0 hw m (v + 1) f S2 (by omega) (by omega) (by omega) hF2 hK
      · rw [if_pos z] at hK
        exact hK S2 hF2
theorem q_enough (hG : RQ S G) (hw : wfQ G) (hok : ∀ S', RQ S' G → FC S S' → K (oI (enoL (qA G) 5 1)) S') : wp_X6_enough S K := by
  refine q_enough_2 hG hw 5 1 2000 S (by omega) (by omega) (by omega) Fr.rf (fun S' f => ?_)
  have hx := f.fx (Or.inl (by decide))
  exact hok S' (hG.fx hx) hx.fc
-- TWO ACTS CHANGED
def swpA (A : aE) (i j : Nat) : aE := uP A (aC A) (un (un (aA A) i (aA A j)) j (aA A i))
theorem swpA_wf {A : aE} (hw : wfE A) {i j : Nat} (hi : i < aC A) (hj : j < aC A) : wfE (swpA A i j) := by
  obtain ⟨h1, h2, h3, h4, h5, h6, h7, h8, h9, h10⟩ := hw
  refine ⟨h1, h2, h3, h4, h5, h6, h7, h8, h9, fun k hk => ?_⟩
  have hk : k < aC A := hk
  show okA (aN A) (un (un (aA A) i (aA A j)) j (aA A i) k)
  by_cases e : k = j
  · subst e; rw [un_s]; exact h10 i hi
  · rw [un_n _ _ e]
    by_cases e2 : k = i
    · subst e2; rw [un_s]; exact h10 j hj
    · rw [un_n _ _ e2]; exact h10 k hk
theorem RC.sw {S : tq_St} {o : Nat} {A : aE} (h : RC S o A) {i j : Nat} (hi : i < aC A) (hj : j < aC A) : RC (sA (sA S o 3 i (nI (aA A j))) o 3 j (nI (aA A i))) o (swpA A i j) := by
  obtain ⟨h5, h6, h7, h8, h9, h10, hk, hs, hw, ha⟩ := h
  refine ⟨h5, h6, h7, h8, h9, h10, fun q hq => ?_, fun q hq => ?_, fun q hq => ?_, fun k hk => ?_⟩
  · rw [sA_nk _ _ _ _ _ (by decide), sA_nk _ _ _ _ _ (by decide)]; exact hk q hq
  · rw [sA_nk _ _ _ _ _ (by decide), sA_nk _ _ _ _ _ (by decide)]; exact hs q hq
  · rw [sA_nk _ _ _ _ _ (by decide), sA_nk _ _ _ _ _ (by decide)]; exact hw q hq
  · have hk : k < aC A := hk
    show _ = nI (un (un (aA A) i (aA A j)) j (aA A i) k)
    rw [sA_at, sA_at]
    by_cases e : k = j
    · subst e; rw [if_pos rfl, un_s]
    · rw [if_neg e, un_n _ _ e]
      by_cases e2 : k = i
      · subst e2; rw [if_pos rfl, un_s]
      · rw [if_neg e2, un_n _ _ e2]; exact ha k hk
/-- the plan with two acts changed: as it is where there are no such acts -/
def chgA (A : aE) (i j : Nat) : aE := if i < aC A ∧ j < aC A then swpA A i j else A
theorem chgA_ok {A : aE} (hw : wfE A) (i j : Nat) : wfE (chgA A i j) ∧ aN (chgA A i j) = aN A ∧ aC (chgA A i j) = aC A := by
  unfold chgA
  split
  · rename_i h; exact ⟨swpA_wf hw h.1 h.2, rfl, rfl⟩
  · exact ⟨hw, rfl, rfl⟩
theorem c_changeActs {o i j : Nat} {A : aE} {K : tq_St → Prop} (hR : RC S o A) (hw : wfE A) (hi : i < 100) (hj : j < 100) (hK : ∀ S', RC S' o (chgA A i j) → Fr o S S' → S'.1 = S.1 → K S') : wp_X1_changeActs o (nI i) (nI j) S K := by
  have hc := hw.2.2.2.2.2.2.2.2.1
  unfold wp_X1_changeActs
  rw [hR.2.2.2.2.2.1]
  unfold chgA at hK
  have hno : ¬ (i < aC A ∧ j < aC A) → K S := fun h => by rw [if_neg h] at hK; exact hK S hR Fr.rf rfl
  refine ⟨fun z => absurd z (nI_pos (by omega)), fun _ => pk_le (aC A) i (fun z => hno (by omega)) (fun z1 => ⟨fun z => absurd z (nI_pos (by omega)), fun _ => pk_le (aC A) j (fun z => hno (by omega)) (fun z2 => ?_)⟩)⟩
  have i1 : vp_in (nI i) 8 := vp_in_nI (by omega) (by decide)
  have i2 : vp_in (nI j) 8 := vp_in_nI (by omega) (by decide)
  refine ⟨i1, nm_e ⟨i2, i1, nm_e ⟨i2, nm_e ?_⟩⟩⟩
  rw [nI_clamp (n := i) (by omega), nI_clamp (n := j) (by omega), hR.2.2.2.2.2.2.2.2.2 i z1, hR.2.2.2.2.2.2.2.2.2 j z2]
  rw [if_pos ⟨z1, z2⟩] at hK
  exact hK _ (hR.sw z1 z2) ((Fr.rf.A _ _ _).A _ _ _) rfl
def gcF (A : aE) (i j : Nat) : Nat := pcN (aG (planR (chgA A i j)).1)
theorem q_gone {i j : Nat} (hR : RC S 0 (qA G)) (hw : wfQ G) (hi : i < 100) (hj : j < 100) (hK : ∀ S', Fr 1 S S' → K (nI (gcF (qA G) i j)) S') : wp_X6_goneByChangedPlan (nI i) (nI j) S K := by
  unfold wp_X6_goneByChangedPlan
  refine c_startFrom hR hw.1 (by decide) (fun S1 a1 a2 a3 => ?_)
  refine c_changeActs a1 hw.1 hi hj (fun S2 b1 b2 b3 => ?_)
  have hc := chgA_ok hw.1 i j
  refine c_follow b1 hc.1 ⟨by rw [b3]; exact a3.1, by rw [b3]; exact a3.2.1, by rw [b3]; exact a3.2.2⟩ (fun S3 c1 c2 c3 => ?_)
  have hw3 := (planR_ok hc.1).1
  have h32 := zb_p31 hw3.1
  have hg := hw3.2.2.2.2.1
  rw [c1.2.1]
  exact c_bitCount32 (by omega) (hK S3 ((a2.tr b2).tr c3))
/-- the best so far: how many, and the places -/
def sw2 (A : aE) (i : Nat) : Nat → Nat → Nat → Int32 → Nat × Int32
  | 0, _, b, w => (b, w)
  | m + 1, j, b, w => if b < gcF A i j then sw2 A i m (j + 1) (gcF A i j) (nI (10 * i + j)) else sw2 A i m (j + 1) b w
def sw1 (A : aE) : Nat → Nat → Nat → Int32 → Nat × Int32
  | 0, _, b, w => (b, w)
  | m + 1, i, b, w => sw1 A m (i + 1) (sw2 A i (aC A - (i + 1)) (i + 1) b w).1 (sw2 A i (aC A - (i + 1)) (i + 1) b w).2
theorem pcN_le (w : Nat) : pcN w ≤ 31 := fb_ct_le _ 31
theorem q_swap_40 {S0 : tq_St} {y : Int32} {rec22 : Int32 → Int32 → Int32 → Int32 → tq_St → Prop} (hG0 : RQ S0 G) (hw : wfQ G) {i : Nat} (hi : i < 8) : ∀ (m j f b : Nat) (w : Int32) (S : tq_St), j + m = aC (qA G) → m < f → b ≤ 31 → Fr 1 S0 S → (∀ S', Fr 1 S0 S' → (sw2 (qA G) i m j b w).1 ≤ 31 → rec22 y (nI (sw2 (qA G) i m j b w).1) (sw2 (qA G) i m j b w).2 (nI (i + 1)) S') → wp_X6_swap_40 K rec22 f y (nI b) w (nI i) (nI j) S
  | 0, j, f + 1, b, w, S, h1, h2, hb, hF, hK => by
    have hc := hw.1.2.2.2.2.2.2.2.2.1
    have hR : RC S 0 (qA G) := hG0.1.fr hF (by decide)
    unfold wp_X6_swap_40
    rw [hR.2.2.2.2.2.1]
    exact pk_le (aC (qA G)) j (fun _ => nm_r (nI_1 i) (hK S hF hb)) (fun z => absurd z (by omega))
  | m + 1, j, f + 1, b, w, S, h1, h2, hb, hF, hK => by
    have hc := hw.1.2.2.2.2.2.2.2.2.1
    have hR : RC S 0 (qA G) := hG0.1.fr hF (by decide)
    unfold wp_X6_swap_40
    rw [hR.2.2.2.2.2.1]
    refine pk_le (aC (qA G)) j (fun z => absurd z (by omega)) (fun _ => ?_)
    refine q_gone hR hw (by omega) (by omega) (fun S' f' => ?_)
    have hp := pcN_le (aG (planR (chgA (qA G) i j)).1)
    have hg : gcF (qA G) i j ≤ 31 := hp
    unfold sw2 at hK
    have e10 : (10 : Int32) * nI i + nI j = nI (10 * i + j) := by
      have e10 : (10 : Int32) = nI 10 := rfl
      rw [e10, pk_mul, nI_add]
    refine pk_le (gcF (qA G) i j) b (fun z => nm_r (nI_1 j) ?_) (fun z => nm_r e10 (nm_r (nI_1 j) ?_))
    · rw [if_neg (by omega)] at hK
      exact q_swap_40 hG0 hw hi m (j + 1) f b w S' (by omega) (by omega) hb (hF.tr f') hK
    · rw [if_pos z] at hK
      exact q_swap_40 hG0 hw hi m (j + 1) f _ _ S' (by omega) (by omega) hg (hF.tr f') hK
def swR (y : Int32) (r : Nat × Int32) : Int32 := if y = 0 then r.2 else if r.2 = -4 then r.2 else nI r.1
theorem q_swap_22 {S0 : tq_St} {y : Int32} (hG0 : RQ S0 G) (hw : wfQ G) : ∀ (m i f b : Nat) (w : Int32) (S : tq_St), i + m = aC (qA G) → m < f → b ≤ 31 → Fr 1 S0 S → (∀ S', Fr 1 S0 S' → K (swR y (sw1 (qA G) m i b w)) S') → wp_X6_swap_22 K f y (nI b) w (nI i) S
  | 0, i, f + 1, b, w, S, h1, h2, hb, hF, hK => by
    have hc := hw.1.2.2.2.2.2.2.2.2.1
    have hR : RC S 0 (qA G) := hG0.1.fr hF (by decide)
    unfold wp_X6_swap_22
    rw [hR.2.2.2.2.2.1]
    have h9 := hK S hF
    unfold swR sw1 at h9
    refine pk_le (aC (qA G)) i (fun _ => ⟨fun z => ?_, fun z => ⟨fun z2 => ?_, fun z2 => ?_⟩⟩) (fun z => absurd z (by omega))
    · rw [if_pos z] at h9; exact h9
    · rw [if_neg z, if_neg z2] at h9; exact h9
    · rw [if_neg z, if_pos z2] at h9; exact h9
  | m + 1, i, f + 1, b, w, S, h1, h2, hb, hF, hK => by
    have hc := hw.1.2.2.2.2.2.2.2.2.1
    have hR : RC S 0 (qA G) := hG0.1.fr hF (by decide)
    unfold wp_X6_swap_22
    rw [hR.2.2.2.2.2.1]
    refine pk_le (aC (qA G)) i (fun z => absurd z (by omega)) (fun _ => nm_r (nI_1 i) ?_)
    refine q_swap_40 hG0 hw (by omega) (aC (qA G) - (i + 1)) (i + 1) 2000 b w S (by omega) (by omega) hb hF (fun S' f' hb' => ?_)
    exact q_swap_22 hG0 hw m (i + 1) f _ _ S' (by omega) (by omega) hb' f' hK
theorem q_swap {y : Int32} (hG : RQ S G) (hw : wfQ G) (hbad : (∀ w, w ≤ 1 → y ≠ nI w) → K (-1) S) (hok : ∀ w, w ≤ 1 → y = nI w → ∀ S', RQ S' G → FC S S' → K (swR y (sw1 (qA G) (aC (qA G)) 0 (gcF (qA G) 0 0) (-4))) S') : wp_X6_swap y S K := by
  have hc := hw.1.2.2.2.2.2.2.2.2.1
  unfold wp_X6_swap
  refine q_01 (fun w hw1 e => ⟨fun _ => ?_, fun z => absurd z (by decide)⟩) (fun hno => ⟨fun z => absurd rfl z, fun _ => hbad hno⟩)
  refine q_gone (i := 0) (j := 0) hG.1 hw (by decide) (by decide) (fun S1 f1 => ?_)
  have hp := pcN_le (aG (planR (chgA (qA G) 0 0)).1)
  refine q_swap_22 hG hw (aC (qA G)) 0 2000 _ _ S1 (by omega) (by omega) hp f1 (fun S' f => ?_)
  have hx := f.fx (Or.inl (by decide))
  exact hok w hw1 e S' (hG.fx hx) hx.fc
end Q3
end
section
section Q4
variable {S : tq_St} {G : aQ} {K : Int32 → tq_St → Prop}
-- WHAT WAS SEEN
theorem RQ.seen {S' : tq_St} (hG : RQ S G) (f : Fr 20 S S') {s : Nat × (Nat → Nat) × (Nat → Bool)} (hs : S'.1 20 2 = nI s.1 ∧ ∀ i, i < s.1 → S'.2.1 20 0 i = nI (s.2.1 i) ∧ S'.2.1 20 1 i = bI (s.2.2 i)) : RQ S' (vS G s) := by
  obtain ⟨h1, h2, h3, h4, h5, h6, h7⟩ := hG
  have f19 := f.1 19 (by decide)
  have f27 := f.1 27 (by decide)
  refine ⟨h1.fr f (by decide), fun k hk => ?_, by rw [f19.1, f19.2]; exact h3, by rw [f19.1]; exact h4, hs, fun k hk => ?_, by rw [f27.1]; exact h7⟩
  · have h2 := h2 k hk
    show CI _ k (qI G k)
    unfold CI at h2 ⊢
    split at h2
    · rw [f27.2]; exact h2
    · rw [f27.2]; exact ⟨h2.1, h2.2.fr f (by omega)⟩
  · have h6 := h6 k hk
    have f23 := f.1 (23 + k) (by omega)
    show CH _ k (qH G k)
    unfold CH at h6 ⊢
    rw [f23.1, f23.2]
    exact h6
def seeF (G : aQ) (p : Nat) (b : Bool) : aQ := vS G ((qS G).1 + 1, un (qS G).2.1 (qS G).1 p, un (qS G).2.2 (qS G).1 b)
theorem seeF_wf (hw : wfQ G) (hs : (qS G).1 < 6) {p : Nat} (hp : p < 5) (b : Bool) : wfQ (seeF G p b) := by
  refine ⟨hw.1, hw.2.1, hw.2.2.1, hw.2.2.2.1, ⟨by show (qS G).1 + 1 ≤ 6; omega, fun i => ?_⟩, hw.2.2.2.2.2⟩
  show un (qS G).2.1 (qS G).1 p i < 5
  have := hw.2.2.2.2.1.2 i
  unfold un
  split <;> omega
theorem q_see {x : Int32} {b : Bool} (hG : RQ S G) (hw : wfQ G) (hbad : (∀ p, p < aN (qA G) → x ≠ nI p) → K (-1) S) (hfull : ∀ p, p < aN (qA G) → x = nI p → (qS G).1 = 6 → K (-3) S) (hok : ∀ p, p < aN (qA G) → x = nI p → (qS G).1 < 6 → ∀ S', RQ S' (seeF G p b) → FC S S' → K (nI ((qS G).1 + 1)) S') : wp_X6_see x (bI b) S K := by
  have hn := hw.1.1
  have hs := hw.2.2.2.2.1.1
  have h5 := hG.2.2.2.2.1
  unfold wp_X6_see
  refine c_isThere hG.1.1 hn (fun p hp e => ⟨fun _ => ?_, fun z => absurd z (by decide)⟩) (fun hno => ⟨fun z => absurd rfl z, fun _ => hbad hno⟩)
  subst e
  unfold wp_X4_add
  rw [h5.1]
  refine pk_lt (qS G).1 6 (fun hlt => ⟨vp_in_nI (by omega) (by decide), nm_e ?_⟩) (fun hge => ⟨fun _ => hfull p hp rfl (by omega), fun z => absurd rfl z⟩)
  rw [sA_1, h5.1]
  refine ⟨vp_in_nI (by omega) (by decide), nm_e ?_⟩
  rw [sA_1, sA_1, h5.1]
  refine nm_r (by rw [nI_1]) ⟨fun z => absurd z (by decide), fun _ => ?_⟩
  rw [nI_clamp (by omega)]
  have eb : vp_nar .boolean (bI b) = bI b := by cases b <;> decide +kernel
  rw [eb]
  have f := (((Fr.rf (o := 20) (S := S)).A 0 (qS G).1 (nI p)).A 1 (qS G).1 (bI b)).I 2 (nI ((qS G).1 + 1))
  have e1 : (sI (sA (sA S 20 0 (qS G).1 (nI p)) 20 1 (qS G).1 (bI b)) 20 2 (nI ((qS G).1 + 1))).1 20 2 = nI ((qS G).1 + 1) := by rw [sI_1, if_pos rfl]
  rw [e1]
  refine hok p hp rfl hlt _ (hG.seen f ⟨e1, fun i hi => ⟨?_, ?_⟩⟩) (f.fc (by decide))
  · show (sA (sA S 20 0 (qS G).1 (nI p)) 20 1 (qS G).1 (bI b)).2.1 20 0 i = nI (un (qS G).2.1 (qS G).1 p i)
    have hi : i < (qS G).1 + 1 := hi
    rw [sA_nk _ _ _ _ _ (by decide), sA_at]
    by_cases e : i = (qS G).1
    · subst e; rw [if_pos rfl, un_s]
    · rw [if_neg e, un_n _ _ e]; exact (h5.2 i (by omega)).1
  · show (sA (sA S 20 0 (qS G).1 (nI p)) 20 1 (qS G).1 (bI b)).2.1 20 1 i = bI (un (qS G).2.2 (qS G).1 b i)
    have hi : i < (qS G).1 + 1 := hi
    rw [sA_at, sA_nk _ _ _ _ _ (by decide)]
    by_cases e : i = (qS G).1
    · subst e; rw [if_pos rfl, un_s]
    · rw [if_neg e, un_n _ _ e]; exact (h5.2 i (by omega)).2
def forgetF (G : aQ) (n : Nat) : aQ := vS G (n, (qS G).2)
theorem q_forget {x : Int32} (hG : RQ S G) (hw : wfQ G) (hbad : (∀ n, n ≤ (qS G).1 → x ≠ nI n) → K (-1) S) (hok : ∀ n, n ≤ (qS G).1 → x = nI n → ∀ S', RQ S' (forgetF G n) → FC S S' → K (nI (qS G).1) S') : wp_X6_forget x S K := by
  have hs := hw.2.2.2.2.1.1
  have h5 := hG.2.2.2.2.1
  unfold wp_X6_forget
  rw [h5.1]
  rcases ix_le x (qS G).1 (by omega) with ⟨n, hn, rfl⟩ | hb
  · refine ⟨fun z => absurd z (nI_pos (by omega)), fun _ => pk_le n (qS G).1 (fun _ => nm_e (nm_e ?_)) (fun z => absurd z (by omega))⟩
    have f := (Fr.rf (o := 20) (S := S)).I 2 (nI n)
    exact hok n hn rfl _ (hG.seen f ⟨by rw [sI_1, if_pos rfl], fun i hi => h5.2 i (by have hi : i < n := hi; omega)⟩) (f.fc (by decide))
  · rcases ix_bad (by omega) hb with z | z
    · exact ⟨fun _ => hbad hb, fun z2 => absurd z z2⟩
    · exact ⟨fun _ => hbad hb, fun _ => ⟨fun z2 => absurd z2 z, fun _ => hbad hb⟩⟩
/-- all is as seen, if those are gone -/
def agr (s : Nat × (Nat → Nat) × (Nat → Bool)) (g : Nat) : Prop := ∀ i, i < s.1 → g.testBit (s.2.1 i) = s.2.2 i
theorem q_agree_2 {g : Nat} (hs6 : (qS G).1 ≤ 6) (hs5 : ∀ i, (qS G).2.1 i < 5) (h5 : S.1 20 2 = nI (qS G).1 ∧ ∀ i, i < (qS G).1 → S.2.1 20 0 i = nI ((qS G).2.1 i) ∧ S.2.1 20 1 i = bI ((qS G).2.2 i)) (hg : g < 2 ^ 31) (h1 : agr (qS G) g → K 1 S) (h0 : ¬ agr (qS G) g → K 0 S) : ∀ (m i f : Nat), i + m = (qS G).1 → m < f → (∀ j, j < i → g.testBit ((qS G).2.1 j) = (qS G).2.2 j) → wp_X4_agreeWith_2 K f (nI g) (nI i) S
  | 0, i, f + 1, h2, h3, h4 => by
    unfold wp_X4_agreeWith_2
    rw [h5.1]
    exact pk_le (qS G).1 i (fun _ => h1 (fun j hj => h4 j (by omega))) (fun z => absurd z (by omega))
  | m + 1, i, f + 1, h2, h3, h4 => by
    have hp := hs5 i
    unfold wp_X4_agreeWith_2
    rw [h5.1]
    refine pk_le (qS G).1 i (fun z => absurd z (by omega)) (fun hi => ⟨vp_in_nI (by omega) (by decide), ?_⟩)
    rw [nI_clamp (by omega), (h5.2 i hi).1, zb_1 hg (by omega)]
    have h29 : ∀ b : Bool, g.testBit ((qS G).2.1 i) = b → wp_X4_agreeWith_29 K (wp_X4_agreeWith_2 K f) (nI g) (nI i) (bI b) S := by
      intro b hb
      unfold wp_X4_agreeWith_29
      rw [nI_clamp (by omega), (h5.2 i hi).2]
      refine ⟨vp_in_nI (by omega) (by decide), fun z => nm_r (nI_1 i) ?_, fun z => h0 (fun ha => z ?_)⟩
      · refine q_agree_2 hs6 hs5 h5 hg h1 h0 m (i + 1) f (by omega) (by omega) (fun j hj => ?_)
        by_cases e : j = i
        · subst e
          rw [hb]
          cases b <;> cases hc : (qS G).2.2 j <;> rw [hc] at z <;> first | rfl | exact absurd z (by decide)
        · exact h4 j (by omega)
      · rw [← ha i hi, hb]
    refine ⟨fun z => ?_, fun z => h29 true z⟩
    have hz : g.testBit ((qS G).2.1 i) = false := by
      cases h : g.testBit ((qS G).2.1 i)
      · rfl
      · exact absurd h z
    exact h29 false hz
theorem q_agree {g : Nat} (hG : RQ S G) (hw : wfQ G) (hg : g < 2 ^ 31) (h1 : agr (qS G) g → K 1 S) (h0 : ¬ agr (qS G) g → K 0 S) : wp_X4_agreeWith (nI g) S K :=
  q_agree_2 hw.2.2.2.2.1.1 hw.2.2.2.2.1.2 hG.2.2.2.2.1 hg h1 h0 (qS G).1 0 2000 (by omega) (by have := hw.2.2.2.2.1.1; omega) (fun j hj => by omega)
theorem wfE.gl {A : aE} (hw : wfE A) : aG A < 32 := by
  have h1 := zb_p31 hw.1
  have h2 := hw.2.2.2.2.1
  omega
-- KINDS THAT MAY BE: the bits so far
def agrB (s : Nat × (Nat → Nat) × (Nat → Bool)) (g : Nat) : Bool := decide (∀ i, i < s.1 → g.testBit (s.2.1 i) = s.2.2 i)
theorem q_agreeB {g : Nat} (hG : RQ S G) (hw : wfQ G) (hg : g < 2 ^ 31) (hK : K (bI (agrB (qS G) g)) S) : wp_X4_agreeWith (nI g) S K := by
  refine q_agree hG hw hg (fun h => ?_) (fun h => ?_)
  · have e : agrB (qS G) g = true := decide_eq_true h
    rw [e] at hK; exact hK
  · have e : agrB (qS G) g = false := decide_eq_false h
    rw [e] at hK; exact hK
def kinB (G : aQ) (p : Nat) : Nat → Nat
  | 0 => 0
  | k + 1 => if agrB (qS G) (aG (planR (alterK (qA G) p k)).1) then kinB G p k ||| 2 ^ k else kinB G p k
theorem kinB_lt (G : aQ) (p : Nat) : ∀ k, kinB G p k < 2 ^ k
  | 0 => Nat.zero_lt_one
  | k + 1 => by
    have h := kinB_lt G p k
    have h2 : 2 ^ k < 2 ^ (k + 1) := Nat.pow_lt_pow_right (by decide) (by omega)
    unfold kinB
    split
    · exact zb_orlt (by omega) (by omega)
    · omega
theorem q_kinds_17 {S0 : tq_St} {p : Nat} (hG0 : RQ S0 G) (hw : wfQ G) (hp : p < aN (qA G)) (hK : ∀ S', Fr 1 S0 S' → K (nI (kinB G p 4)) S') : ∀ (m k f : Nat) (S : tq_St), k + m = 4 → m < f → Fr 1 S0 S → wp_X6_kinds_17 K f (nI p) (nI (kinB G p k)) (nI k) S
  | 0, k, f + 1, S, h1, h2, hF => by
    have e : k = 4 := by omega
    subst e
    exact pk_le 4 4 (fun _ => hK S hF) (fun z => absurd z (by omega))
  | m + 1, k, f + 1, S, h1, h2, hF => by
    have hn := hw.1.1
    unfold wp_X6_kinds_17
    refine pk_le 4 k (fun z => absurd z (by omega)) (fun _ => ?_)
    have hR : RC S 0 (qA G) := hG0.1.fr hF (by decide)
    refine c_startFrom hR hw.1 (by decide) (fun S1 a1 a2 a3 => ⟨vp_in_nI (by omega) (by decide), nm_e ?_⟩)
    rw [nI_clamp (by omega)]
    have hw2 := alterK_wf hw.1 (p := p) (v := k) (by omega)
    have a1k : RC (sA S1 1 0 p (nI k)) 1 (alterK (qA G) p k) := a1.k p k
    refine c_follow a1k hw2 a3 (fun S2 b1 b2 b3 => ?_)
    have hF2 := ((hF.tr a2).tr (Fr.rf.A _ _ _)).tr b3
    have hx := hF2.fx (Or.inl (by decide))
    have hgl := (planR_ok hw2).1.gl
    rw [b1.2.1]
    refine q_agreeB (hG0.fx hx) hw (by exact Nat.lt_of_lt_of_le hgl (by decide)) ?_
    have ih := q_kinds_17 hG0 hw hp hK m (k + 1) f S2 (by omega) (by omega) hF2
    unfold kinB at ih
    cases hc : agrB (qS G) (aG (planR (alterK (qA G) p k)).1)
    · refine ⟨fun _ => nm_r (nI_1 k) ?_, fun z => absurd rfl z⟩
      rw [hc] at ih; exact ih
    · refine ⟨fun z => absurd z (by decide), fun _ => nm_r (zb_or (by omega)) (nm_r (nI_1 k) ?_)⟩
      rw [hc] at ih; exact ih
theorem q_kinds {x : Int32} (hG : RQ S G) (hw : wfQ G) (hbad : (∀ p, p < aN (qA G) → x ≠ nI p) → K (-1) S) (hok : ∀ p, p < aN (qA G) → x = nI p → ∀ S', RQ S' G → FC S S' → K (nI (kinB G p 4)) S') : wp_X6_kinds x S K := by
  unfold wp_X6_kinds
  refine c_isThere hG.1.1 hw.1.1 (fun p hp e => ⟨fun _ => ?_, fun z => absurd z (by decide)⟩) (fun hno => ⟨fun z => absurd rfl z, fun _ => hbad hno⟩)
  subst e
  refine q_kinds_17 hG hw hp (fun S' f => ?_) 4 0 2000 S (by omega) (by omega) Fr.rf
  have hx := f.fx (Or.inl (by decide))
  exact hok p hp rfl S' (hG.fx hx) hx.fc
-- SORROWS THAT MAY BE
def ocF (A : aE) (p s : Nat) : Nat := aG (planR (alterS A p s)).1
def sorB (G : aQ) (p : Nat) : Nat → Nat
  | 0 => 0
  | k + 1 => if agrB (qS G) (ocF (qA G) p k) then sorB G p k ||| 2 ^ k else sorB G p k
theorem sorB_lt (G : aQ) (p : Nat) : ∀ k, sorB G p k < 2 ^ k
  | 0 => Nat.zero_lt_one
  | k + 1 => by
    have h := sorB_lt G p k
    have h2 : 2 ^ k < 2 ^ (k + 1) := Nat.pow_lt_pow_right (by decide) (by omega)
    unfold sorB
    split
    · exact zb_orlt (by omega) (by omega)
    · omega
theorem FX.A27 {S T : tq_St} (h : FX S T) (i : Nat) (v : Int32) : FX S (sA T 27 9 i v) :=
  h.tr ⟨fun o a b c d => ⟨rfl, sA_2n T d⟩, rfl, fun k hk => sA_nk T 27 9 i v hk⟩
theorem q_poss_4 {S0 : tq_St} {p : Nat} (hG0 : RQ S0 G) (hw : wfQ G) (hp : p < aN (qA G)) (hK : ∀ S', FX S0 S' → (∀ s, s < 21 → S'.2.1 27 9 s = nI (ocF (qA G) p s)) → K (nI (sorB G p 21)) S') : ∀ (m k f : Nat) (S : tq_St), k + m = 21 → m < f → FX S0 S → (∀ s, s < k → S.2.1 27 9 s = nI (ocF (qA G) p s)) → wp_X6_possibleSorrows_4 K f (nI p) (nI (sorB G p k)) (nI k) S
  | 0, k, f + 1, S, h1, h2, hF, hO => by
    have e : k = 21 := by omega
    subst e
    exact pk_lt 20 21 (fun _ => hK S hF hO) (fun z => absurd z (by omega))
  | m + 1, k, f + 1, S, h1, h2, hF, hO => by
    have hn := hw.1.1
    unfold wp_X6_possibleSorrows_4
    refine pk_lt 20 k (fun z => absurd z (by omega)) (fun _ => ?_)
    have hR : RC S 0 (qA G) := hG0.1.fx hF (Or.inl rfl)
    refine c_startFrom hR hw.1 (by decide) (fun S1 a1 a2 a3 => ⟨vp_in_nI (by omega) (by decide), nm_e ?_⟩)
    rw [nI_clamp (by omega)]
    have hw2 := alterS_wf hw.1 (p := p) (v := k) (by omega)
    refine c_follow (a1.s p k) hw2 a3 (fun S2 b1 b2 b3 => ⟨vp_in_nI (by omega) (by decide), nm_e ?_⟩)
    have hF1 := (a2.tr (Fr.rf.A _ _ _)).tr b3
    have hF2 := (hF.tr (hF1.fx (Or.inl (by decide)))).A27 k (S2.1 1 6)
    have hgl := (planR_ok hw2).1.gl
    have e6 : S2.1 1 6 = nI (ocF (qA G) p k) := b1.2.1
    rw [nI_clamp (by omega), sA_1, e6]
    rw [e6] at hF2
    refine q_agreeB (hG0.fx hF2) hw (by exact Nat.lt_of_lt_of_le hgl (by decide)) ?_
    have ih := q_poss_4 hG0 hw hp hK m (k + 1) f _ (by omega) (by omega) hF2 (fun s hs => by
      rw [sA_at]
      by_cases e : s = k
      · subst e; rw [if_pos rfl]
      · rw [if_neg e, (hF1.1 27 (by decide)).2]; exact hO s (by omega))
    unfold sorB at ih
    cases hc : agrB (qS G) (ocF (qA G) p k)
    · refine ⟨fun _ => nm_r (nI_1 k) ?_, fun z => absurd rfl z⟩
      rw [hc] at ih; exact ih
    · refine ⟨fun z => absurd z (by decide), fun _ => nm_r (zb_or (by omega)) (nm_r (nI_1 k) ?_)⟩
      rw [hc] at ih; exact ih
theorem q_poss {p : Nat} (hG : RQ S G) (hw : wfQ G) (hp : p < aN (qA G)) (hK : ∀ S', FX S S' → (∀ s, s < 21 → S'.2.1 27 9 s = nI (ocF (qA G) p s)) → K (nI (sorB G p 21)) S') : wp_X6_possibleSorrows (nI p) S K :=
  q_poss_4 hG hw hp hK 21 0 2000 S (by omega) (by omega) FX.rf (fun s hs => by omega)
theorem q_sorrows {x : Int32} (hG : RQ S G) (hw : wfQ G) (hbad : (∀ p, p < aN (qA G) → x ≠ nI p) → K (-1) S) (hok : ∀ p, p < aN (qA G) → x = nI p → ∀ S', RQ S' G → FC S S' → K (nI (sorB G p 21)) S') : wp_X6_sorrows x S K := by
  unfold wp_X6_sorrows
  refine c_isThere hG.1.1 hw.1.1 (fun p hp e => ⟨fun z => absurd z (by decide), fun _ => ?_⟩) (fun hno => ⟨fun _ => hbad hno, fun z => absurd rfl z⟩)
  subst e
  exact q_poss hG hw hp (fun S' f _ => hok p hp rfl S' (hG.fx f) f.fc)
-- WHOM TO ASK (any answer)
theorem q_worst_8 {v1 v2 : Int32} (hK : ∀ r, K r S) : ∀ (m k f : Nat) (v3 v4 : Int32), k + m = 21 → m < f → wp_X6_leftAtWorst_8 K f v1 v2 v3 v4 (nI k) S
  | 0, k, f + 1, v3, v4, h1, h2 => by
    have e : k = 21 := by omega
    subst e
    exact pk_lt 20 21 (fun _ => hK _) (fun z => absurd z (by omega))
  | m + 1, k, f + 1, v3, v4, h1, h2 => by
    unfold wp_X6_leftAtWorst_8
    refine pk_lt 20 k (fun z => absurd z (by omega)) (fun _ => ⟨fun _ => nm_r (nI_1 k) ?_, fun _ => ⟨vp_in_nI (by omega) (by decide), fun _ => nm_e (nm_r (nI_1 k) ?_), fun _ => nm_e (nm_r (nI_1 k) ?_)⟩⟩)
    · exact q_worst_8 hK m (k + 1) f _ _ (by omega) (by omega)
    · exact q_worst_8 hK m (k + 1) f _ _ (by omega) (by omega)
    · exact q_worst_8 hK m (k + 1) f _ _ (by omega) (by omega)
theorem q_ask_39 {v2 v3 : Int32} {n : Nat} (h5 : S.1 0 5 = nI n) (hn : n ≤ 5) (hK : ∀ r, K r S) : ∀ (m q f : Nat) (v4 v5 : Int32), q + m = n → m < f → wp_X6_ask_39 K f v2 v3 v4 v5 (nI q) S
  | 0, q, f + 1, v4, v5, h1, h2 => by
    unfold wp_X6_ask_39
    rw [h5]
    exact pk_le n q (fun _ => ⟨fun _ => hK _, fun _ => ⟨fun _ => hK _, fun _ => hK _⟩⟩) (fun z => absurd z (by omega))
  | m + 1, q, f + 1, v4, v5, h1, h2 => by
    unfold wp_X6_ask_39
    rw [h5]
    refine pk_le n q (fun z => absurd z (by omega)) (fun _ => ?_)
    refine q_worst_8 (fun r => ⟨fun _ => nm_r (nI_1 q) ?_, fun _ => nm_r (nI_1 q) ?_⟩) 21 0 2000 _ _ (by omega) (by omega)
    · exact q_ask_39 h5 hn hK m (q + 1) f _ _ (by omega) (by omega)
    · exact q_ask_39 h5 hn hK m (q + 1) f _ _ (by omega) (by omega)
theorem q_ask {x y : Int32} (hG : RQ S G) (hw : wfQ G) (hK : ∀ r S', RQ S' G → FC S S' → K r S') : wp_X6_ask x y S K := by
  unfold wp_X6_ask
  refine c_isThere hG.1.1 hw.1.1 (fun p hp e => ⟨fun z => absurd z (by decide), fun _ => ?_⟩) (fun hno => ⟨fun _ => hK _ S hG FC.rf, fun z => absurd rfl z⟩)
  subst e
  refine q_01 (fun w hw1 e => ⟨fun _ => ?_, fun z => absurd z (by decide)⟩) (fun hno => ⟨fun z => absurd rfl z, fun _ => hK _ S hG FC.rf⟩)
  refine q_poss hG hw hp (fun S' f _ => ?_)
  have hG' := hG.fx f
  unfold wp_J6_bitCount_0f7a4
  refine nm_e (nm_e (nm_e (nm_e (nm_e ?_))))
  exact q_ask_39 hG'.1.1 hw.1.1 (fun r => hK r S' hG' f.fc) (aN (qA G)) 0 2000 _ _ (by omega) (by have := hw.1.1; omega)
end Q4
end
section
section Q5
variable {S : tq_St} {G : aQ} {K : Int32 → tq_St → Prop}
-- BY A SEED
def drS (s : Int32) : Int32 := s * 1103515245 + 12345
def drJ (n : Nat) (s : Int32) : Nat := s.toBitVec.toNat / 65536 % 32768 % (n + 1)
def drA (n : Nat) (s : Int32) : Nat := if drJ n s < n then drJ n s else 5
def drL (n : Nat) : Nat → Int32 → aE → aY → aE × aY
  | 0, _, A, t => (A, t)
  | m + 1, s, A, t => drL n m (drS s) (playF A (drA n (drS s))) (t.1 ||| plW A (drA n (drS s)), t.2.1 + pcN (plW A (drA n (drS s))), t.2.2)
theorem drA_ok (n : Nat) (s : Int32) : okA n (drA n s) := by
  unfold drA okA
  split
  · exact Or.inl (by assumption)
  · exact Or.inr (Or.inl rfl)
theorem dr_val (x : Int32) {n : Nat} (hn : n ≤ 5) : ((((x : Int32).toUInt32 >>> ((16 : Int32).toUInt32 &&& Int32.toUInt32 31)).toInt32) &&& 32767) - ((((x : Int32).toUInt32 >>> ((16 : Int32).toUInt32 &&& Int32.toUInt32 31)).toInt32) &&& 32767) / (nI n + 1) * (nI n + 1) = nI (drJ n x) := by
  rw [pk_and _ (m := 32767) 15 (by decide)]
  have h := pk_ushr x 16 16 (by decide)
  rw [h, nI_1]
  have hlt : x.toBitVec.toNat / 2 ^ 16 % 2 ^ 15 < 2 ^ 15 := Nat.mod_lt _ (by decide)
  rw [pk_rem (by omega) (by omega) (by omega)]
  rfl
theorem drS_eq (s : Int32) : s * 1103515245 + 12345 = drS s := rfl
theorem drL_succ (n m : Nat) (s : Int32) (A : aE) (t : aY) : drL n (m + 1) s A t = drL n m (drS s) (playF A (drA n (drS s))) (t.1 ||| plW A (drA n (drS s)), t.2.1 + pcN (plW A (drA n (drS s))), t.2.2) := rfl
theorem q_drift_105 {S0 : tq_St} {N y v4 v6 s : Int32} {rec55 : Int32 → Int32 → Int32 → Int32 → Int32 → tq_St → Prop} {i : Nat} {A : aE} {t : aY} {a : Nat} (hw : wfE A) (ha : okA (aN A) a) (hR : RC S 1 A) (hT : TC S 1 t) (hF : Fr 1 S0 S) (hi : v6 = nI i) (hrec : ∀ S', RC S' 1 (playF A a) → TC S' 1 (t.1 ||| plW A a, t.2.1 + pcN (plW A a), t.2.2) → Fr 1 S0 S' → rec55 N y v4 s (nI (i + 1)) S') : wp_X6_drift_105 K rec55 N y v4 s v6 (nI a) S := by
  subst hi
  unfold wp_X6_drift_105
  refine c_play hR hw ha (fun S' a1 a2 a3 a4 a5 => nm_r (nI_1 i) ?_)
  exact hrec S' a1 ⟨by rw [a3, hT.1, fa_or], by rw [a4, hT.2.1, nI_add], by rw [a5, hT.2.2]⟩ (hF.tr a2)
theorem q_drift_55 {S0 : tq_St} {n N : Nat} {y : Int32} (hn : n ≤ 5) (hN : N ≤ 60) : ∀ (m i f : Nat) (s : Int32) (A : aE) (t : aY) (S : tq_St), i + m = N → m < f → wfE A → aN A = n → RC S 1 A → TC S 1 t → Fr 1 S0 S → (y = 0 → ∀ S', Fr 1 S0 S' → K (nI (drL n m s A t).2.2.1) S') → (¬ y = 0 → ∀ S', Fr 1 S0 S' → K (oI (nextF (drL n m s A t).1 0)) S') → wp_X6_drift_55 K f (nI N) y (nI n) s (nI i) S := by
  intro m
  induction m with
  | zero =>
    intro i f s A t S h1 h2 hw hA hR hT hF hK0 hK1
    obtain ⟨f, rfl⟩ : ∃ k, f = k + 1 := ⟨f - 1, by omega⟩
    unfold wp_X6_drift_55
    refine pk_le N i (fun _ => ⟨fun z => ?_, fun z => ?_⟩) (fun z => absurd z (by omega))
    · exact c_inLine (i := 0) hR hw (by decide) (fun S' a1 a2 a3 => hK1 z S' (hF.tr a2))
    · rw [hT.2.1]
      exact hK0 z S hF
  | succ m ih =>
    intro i f s A t S h1 h2 hw hA hR hT hF hK0 hK1
    obtain ⟨f, rfl⟩ : ∃ k, f = k + 1 := ⟨f - 1, by omega⟩
    rw [drL_succ] at hK0 hK1
    unfold wp_X6_drift_55
    refine pk_le N i (fun z => absurd z (by omega)) (fun _ => ?_)
    refine nm_r (drS_eq s) ?_
    generalize drS s = s' at hK0 hK1 ⊢
    refine ⟨by rw [nI_1]; exact nI_ne0 (by omega) (by omega), nm_r (dr_val s' hn) ?_⟩
    have hlt : drJ n s' < n + 1 := Nat.mod_lt _ (by omega)
    have hgo : ∀ w : Nat, w = drA n s' → wp_X6_drift_105 K (wp_X6_drift_55 K f) (nI N) y (nI n) s' (nI i) (nI w) S := by
      intro w e
      subst e
      exact q_drift_105 hw (by rw [hA]; exact drA_ok n _) hR hT hF rfl (fun S' a1 a2 a3 => ih (i + 1) f s' _ _ S' (by omega) (by omega) (playF_wf hw _) ((playF_same A _).1.trans hA) a1 a2 a3 hK0 hK1)
    refine pk_le n (drJ n s') (fun z => ?_) (fun z => ?_)
    · exact hgo 5 (by unfold drA; rw [if_neg (by omega)])
    · exact hgo _ (by unfold drA; rw [if_pos z])
theorem q_drift {x y w : Int32} (hG : RQ S G) (hw : wfQ G) (hbad : (∀ n, 1 ≤ n → n ≤ 60 → y ≠ nI n) ∨ (∀ k, k ≤ 1 → w ≠ nI k) → K (-1) S) (hst : ∀ n k, 1 ≤ n → n ≤ 60 → y = nI n → k ≤ 1 → w = nI k → aN (qA G) = 0 → K (-2) S) (h0 : ∀ n, 1 ≤ n → n ≤ 60 → y = nI n → w = 0 → 0 < aN (qA G) → ∀ S', RQ S' G → FC S S' → K (nI (drL (aN (qA G)) n x (qA G) (0, 0, none)).2.2.1) S') (h1 : ∀ n, 1 ≤ n → n ≤ 60 → y = nI n → w = 1 → 0 < aN (qA G) → ∀ S', RQ S' G → FC S S' → K (oI (nextF (drL (aN (qA G)) n x (qA G) (0, 0, none)).1 0)) S') : wp_X6_drift x y w S K := by
  have hn := hw.1.1
  unfold wp_X6_drift
  refine ⟨fun z => hbad (Or.inl (fun n ha hb e => ?_)), fun z => ⟨fun z2 => hbad (Or.inl (fun n ha hb e => ?_)), fun z2 => ?_⟩⟩
  · subst e
    have e1 : (1 : Int32) = nI 1 := rfl
    rw [e1, nI_ltI (by omega) (by decide)] at z
    omega
  · subst e
    have e1 : (60 : Int32) = nI 60 := rfl
    rw [e1, nI_ltI (by decide) (by omega)] at z2
    omega
  · obtain ⟨n, ha, hb, rfl⟩ := ix_bd (lo := 1) (hi := 60) (by decide) (by decide) z (fa_of_nlt z2)
    refine q_01 (fun k hk e => ⟨fun _ => nm_r hG.1.1 ?_, fun z => absurd z (by decide)⟩) (fun hno => ⟨fun z => absurd rfl z, fun _ => hbad (Or.inr hno)⟩)
    subst e
    refine pk_le 1 (aN (qA G)) (fun hp => ?_) (fun hp => hst n k ha hb rfl hk rfl (by omega))
    refine c_startFrom hG.1 hw.1 (by decide) (fun S1 a1 a2 a3 => ?_)
    have hk01 : k = 0 ∨ k = 1 := by omega
    refine q_drift_55 (S0 := S) hn hb n 0 2000 x (qA G) (0, 0, none) S1 (by omega) (by omega) hw.1 rfl a1 a3 a2 (fun e S' f => ?_) (fun e S' f => ?_)
    · have hx := f.fx (Or.inl (by decide))
      exact h0 n ha hb rfl e hp S' (hG.fx hx) hx.fc
    · have hx := f.fx (Or.inl (by decide))
      refine h1 n ha hb rfl ?_ hp S' (hG.fx hx) hx.fc
      rcases hk01 with c | c
      · exact absurd (by rw [c]; rfl) e
      · rw [c]; rfl
end Q5
end
section
section Q6
variable {S : tq_St} {G : aQ} {K : Int32 → tq_St → Prop}
-- IMAGES
theorem RQ.img {S' : tq_St} {k : Nat} (hG : RQ S G) (hk : k < 2) (f : ∀ o, o ≠ 17 + k → o ≠ 27 → S'.1 o = S.1 o ∧ S'.2.1 o = S.2.1 o) (f27 : S'.1 27 = S.1 27) (g27 : ∀ j, j ≠ k → S'.2.1 27 7 j = S.2.1 27 7 j) (h27 : S'.2.1 27 7 k = 1) {B : aE} (hB : RC S' (17 + k) B) : RQ S' (vI G (un (qI G) k (some B))) := by
  obtain ⟨h1, h2, h3, h4, h5, h6, h7⟩ := hG
  have f0 := f 0 (by omega) (by decide)
  have f19 := f 19 (by omega) (by decide)
  have f20 := f 20 (by omega) (by decide)
  refine ⟨?_, fun j hj => ?_, by rw [f19.1, f19.2]; exact h3, by rw [f19.1]; exact h4, by rw [f20.1, f20.2]; exact h5, fun j hj => ?_, by rw [f27]; exact h7⟩
  · show RC S' 0 (qA G)
    unfold RC
    rw [f0.1, f0.2]
    exact h1
  · show CI S' j (un (qI G) k (some B) j)
    by_cases e : j = k
    · subst e
      rw [un_s]
      exact ⟨h27, hB⟩
    · rw [un_n _ _ e]
      have h2 := h2 j hj
      have fj := f (17 + j) (by omega) (by omega)
      unfold CI at h2 ⊢
      split at h2
      · rw [g27 j e]; exact h2
      · refine ⟨by rw [g27 j e]; exact h2.1, ?_⟩
        unfold RC
        rw [fj.1, fj.2]
        exact h2.2
  · have h6 := h6 j hj
    have f23 := f (23 + j) (by omega) (by omega)
    show CH _ j (qH G j)
    unfold CH at h6 ⊢
    rw [f23.1, f23.2]
    exact h6
def keepF (G : aQ) (k : Nat) : aQ := vI G (un (qI G) k (some (qA G)))
theorem keepF_wf (hw : wfQ G) (k : Nat) : wfQ (keepF G k) := by
  refine ⟨hw.1, fun j B e => ?_, hw.2.2⟩
  have e : un (qI G) k (some (qA G)) j = some B := e
  by_cases c : j = k
  · subst c; rw [un_s] at e; cases e; exact ⟨hw.1, rfl⟩
  · rw [un_n _ _ c] at e; exact hw.2.1 j B e
theorem q_keep {x : Int32} (hG : RQ S G) (hw : wfQ G) (hbad : (∀ k, k ≤ 1 → x ≠ nI k) → K (-1) S) (hok : ∀ k, k ≤ 1 → x = nI k → ∀ S', RQ S' (keepF G k) → FC S S' → K (bI (qI G k).isSome) S') : wp_X6_keep x S K := by
  unfold wp_X6_keep
  rcases ix_le x 1 (by decide) with ⟨k, hk, rfl⟩ | hb
  · refine ⟨fun z => absurd z (nI_pos (by omega)), fun _ => pk_lt k 2 (fun _ => ⟨vp_in_nI (by omega) (by decide), ?_⟩) (fun z => absurd z (by omega))⟩
    rw [nI_clamp (by omega)]
    have h25 : ∀ b : Bool, b = (qI G k).isSome → wp_X6_keep_25 K (nI k) (bI b) S := by
      intro b eb
      unfold wp_X6_keep_25
      rw [nI_clamp (by omega)]
      refine ⟨vp_in_nI (by omega) (by decide), ?_⟩
      refine c_copyFrom (p := 0) hG.1 hw.1 (by omega) (fun S1 a1 a2 _ _ _ => ⟨vp_in_nI (by omega) (by decide), nm_e ?_⟩)
      have en : vp_nar .boolean 1 = 1 := by decide +kernel
      rw [en, eb]
      refine hok k hk rfl _ ?_ ?_
      · refine hG.img (k := k) (by omega) (fun o ho h27 => ?_) ?_ (fun j hj => ?_) ?_ ?_
        · rw [sA_1, sA_2n _ h27]; exact a2.1 o ho
        · rw [sA_1]; exact (a2.1 27 (by omega)).1
        · rw [sA_at, if_neg hj, (a2.1 27 (by omega)).2]
        · rw [sA_at, if_pos rfl]
        · exact a1.fr ((Fr.rf (o := 27)).A _ _ _) (by omega)
      · exact (a2.fc (by omega)).tr (((Fr.rf (o := 27)).A _ _ _).fc (by decide))
    have hI := hG.2.1 k (by omega)
    unfold CI at hI
    cases e : qI G k with
    | none =>
      rw [e] at hI
      rw [hI]
      exact ⟨fun _ => h25 false (by rw [e]; rfl), fun z => absurd rfl z⟩
    | some B =>
      rw [e] at hI
      rw [hI.1]
      exact ⟨fun z => absurd z (by decide), fun _ => h25 true (by rw [e]; rfl)⟩
  · rcases ix_bad (by decide) hb with z | z
    · exact ⟨fun _ => hbad hb, fun z2 => absurd z z2⟩
    · refine ⟨fun _ => hbad hb, fun _ => ⟨fun z2 => ?_, fun _ => hbad hb⟩⟩
      exfalso
      apply z
      rw [Int32.lt_iff_toInt_lt] at z2
      rw [Int32.le_iff_toInt_le, nI_toInt (by decide)]
      have e2 : (2 : Int32).toInt = 2 := by decide
      omega
theorem q_back {x : Int32} (hG : RQ S G) (hw : wfQ G) (hbad : (∀ k, k ≤ 1 → x ≠ nI k) → K (-1) S) (hst : ∀ k, k ≤ 1 → x = nI k → qI G k = none → K (-2) S) (hok : ∀ k B, k ≤ 1 → x = nI k → qI G k = some B → ∀ S', RQ S' (vA G B) → FC S S' → K (nI (aM B)) S') : wp_X6_back x S K := by
  unfold wp_X6_back
  rcases ix_le x 1 (by decide) with ⟨k, hk, rfl⟩ | hb
  · refine ⟨fun z => absurd z (nI_pos (by omega)), fun _ => pk_lt k 2 (fun _ => ⟨vp_in_nI (by omega) (by decide), ?_⟩) (fun z => absurd z (by omega))⟩
    rw [nI_clamp (by omega)]
    have hI := hG.2.1 k (by omega)
    unfold CI at hI
    cases e : qI G k with
    | none =>
      rw [e] at hI
      rw [hI]
      exact ⟨fun z => absurd rfl z, fun _ => hst k hk rfl e⟩
    | some B =>
      rw [e] at hI
      rw [hI.1]
      refine ⟨fun _ => ⟨vp_in_nI (by omega) (by decide), ?_⟩, fun z => absurd z (by decide)⟩
      refine c_copyFrom hI.2 (hw.2.1 k B e).1 (by omega) (fun S1 a1 a2 _ _ _ => ?_)
      rw [a1.2.2.1]
      exact hok k B hk rfl e S1 (hG.now a2 a1) (a2.fc (by decide))
  · rcases ix_bad (by decide) hb with z | z
    · exact ⟨fun _ => hbad hb, fun z2 => absurd z z2⟩
    · refine ⟨fun _ => hbad hb, fun _ => ⟨fun z2 => ?_, fun _ => hbad hb⟩⟩
      exfalso
      apply z
      rw [Int32.lt_iff_toInt_lt] at z2
      rw [Int32.le_iff_toInt_le, nI_toInt (by decide)]
      have e2 : (2 : Int32).toInt = 2 := by decide
      omega
-- SHEETS
theorem RQ.sht {S' : tq_St} {k : Nat} (hG : RQ S G) (hk : k < 4) (f : Fr (23 + k) S S') {x : Option Nat × Nat × (Nat → Int32)} (hx : CH S' k x) : RQ S' (vH G (un (qH G) k x)) := by
  obtain ⟨h1, h2, h3, h4, h5, h6, h7⟩ := hG
  have f19 := f.1 19 (by omega)
  have f20 := f.1 20 (by omega)
  have f27 := f.1 27 (by omega)
  refine ⟨h1.fr f (by omega), fun j hj => ?_, by rw [f19.1, f19.2]; exact h3, by rw [f19.1]; exact h4, by rw [f20.1, f20.2]; exact h5, fun j hj => ?_, by rw [f27.1]; exact h7⟩
  · have h2 := h2 j hj
    show CI _ j (qI G j)
    unfold CI at h2 ⊢
    split at h2
    · rw [f27.2]; exact h2
    · rw [f27.2]; exact ⟨h2.1, h2.2.fr f (by omega)⟩
  · show CH S' j (un (qH G) k x j)
    by_cases e : j = k
    · subst e; rw [un_s]; exact hx
    · rw [un_n _ _ e]
      have h6 := h6 j hj
      have f23 := f.1 (23 + j) (by omega)
      unfold CH at h6 ⊢
      rw [f23.1, f23.2]
      exact h6
theorem c_isSheet {x : Int32} (h1 : ∀ k, k ≤ 3 → x = nI k → K 1 S) (h0 : (∀ k, k ≤ 3 → x ≠ nI k) → K 0 S) : wp_X6_isSheet x S K := by
  unfold wp_X6_isSheet
  rcases ix_le x 3 (by decide) with ⟨k, hk, rfl⟩ | hb
  · exact ⟨fun z => absurd z (nI_pos (by omega)), fun _ => pk_le 4 k (fun z => absurd z (by omega)) (fun _ => h1 k hk rfl)⟩
  · rcases ix_bad (by decide) hb with z | z
    · exact ⟨fun _ => h0 hb, fun z2 => absurd z z2⟩
    · refine ⟨fun _ => h0 hb, fun _ => ⟨fun _ => h0 hb, fun z2 => ?_⟩⟩
      exfalso
      apply z
      rw [Int32.le_iff_toInt_le] at z2
      rw [Int32.le_iff_toInt_le, nI_toInt (by decide)]
      have e2 : (4 : Int32).toInt = 4 := by decide
      omega
theorem c_isLane {x : Int32} (h1 : ∀ k, k ≤ 2 → x = nI k → K 1 S) (h0 : (∀ k, k ≤ 2 → x ≠ nI k) → K 0 S) : wp_X6_isLane x S K := by
  unfold wp_X6_isLane
  rcases ix_le x 2 (by decide) with ⟨k, hk, rfl⟩ | hb
  · exact ⟨fun z => absurd z (nI_pos (by omega)), fun _ => pk_le 3 k (fun z => absurd z (by omega)) (fun _ => h1 k hk rfl)⟩
  · rcases ix_bad (by decide) hb with z | z
    · exact ⟨fun _ => h0 hb, fun z2 => absurd z z2⟩
    · refine ⟨fun _ => h0 hb, fun _ => ⟨fun _ => h0 hb, fun z2 => ?_⟩⟩
      exfalso
      apply z
      rw [Int32.le_iff_toInt_le] at z2
      rw [Int32.le_iff_toInt_le, nI_toInt (by decide)]
      have e2 : (3 : Int32).toInt = 3 := by decide
      omega
theorem c_fill {o : Nat} {K : tq_St → Prop} {S0 : tq_St} (hK : ∀ S', Fr o S0 S' → S'.1 = S0.1 → (∀ i, i < 40 → S'.2.1 o 0 i = 0) → K S') : ∀ (m i f : Nat) (S : tq_St), i + m = 40 → m < f → Fr o S0 S → S.1 = S0.1 → (∀ j, j < i → S.2.1 o 0 j = 0) → wp_J7_fill_53178_5 o K f 0 (nI i) (nI 40) S
  | 0, i, f + 1, S, h1, h2, hF, hI, h0 => by
    have e : i = 40 := by omega
    subst e
    exact pk_le 40 40 (fun _ => hK S hF hI h0) (fun z => absurd z (by omega))
  | m + 1, i, f + 1, S, h1, h2, hF, hI, h0 => by
    unfold wp_J7_fill_53178_5
    refine pk_le 40 i (fun z => absurd z (by omega)) (fun _ => ⟨vp_in_nI (by omega) (by decide), nm_e (nm_r (nI_1 i) ?_)⟩)
    rw [nI_clamp (by omega)]
    refine c_fill hK m (i + 1) f _ (by omega) (by omega) (hF.A _ _ _) hI (fun j hj => ?_)
    rw [sA_at]
    by_cases e : j = i
    · rw [if_pos e]
    · rw [if_neg e]; exact h0 j (by omega)
def sheetF (G : aQ) (k l n : Nat) : aQ := vH G (un (qH G) k (some l, n, fun _ => 0))
theorem sheetF_wf (hw : wfQ G) {k l n : Nat} (hl : l ≤ 2) (hn : n ≤ 40) : wfQ (sheetF G k l n) := by
  refine ⟨hw.1, hw.2.1, hw.2.2.1, hw.2.2.2.1, hw.2.2.2.2.1, fun j m e => ?_, fun j => ?_, hw.2.2.2.2.2.2.2⟩
  · have e : (un (qH G) k (some l, n, fun _ => 0) j).1 = some m := e
    by_cases c : j = k
    · subst c; rw [un_s] at e; cases e; omega
    · rw [un_n _ _ c] at e; exact hw.2.2.2.2.2.1 j m e
  · show (un (qH G) k (some l, n, fun _ => 0) j).2.1 ≤ 40
    by_cases c : j = k
    · subst c; rw [un_s]; exact hn
    · rw [un_n _ _ c]; exact hw.2.2.2.2.2.2.1 j
theorem q_sheet {x y w : Int32} (hG : RQ S G) (hw : wfQ G) (hbad : (∀ k, k ≤ 3 → x ≠ nI k) ∨ (∀ l, l ≤ 2 → y ≠ nI l) ∨ ¬ w ≤ 40 → K (-1) S) (hneg : ∀ k l, k ≤ 3 → x = nI k → l ≤ 2 → y = nI l → w < 0 → K (-14) S) (hok : ∀ k l n, k ≤ 3 → x = nI k → l ≤ 2 → y = nI l → n ≤ 40 → w = nI n → ∀ S', RQ S' (sheetF G k l n) → FC S S' → K 1 S') : wp_X6_sheet x y w S K := by
  unfold wp_X6_sheet
  refine c_isSheet (fun k hk e => ⟨fun z => absurd z (by decide), fun _ => ?_⟩) (fun hno => ⟨fun _ => hbad (Or.inl hno), fun z => absurd rfl z⟩)
  subst e
  refine c_isLane (fun l hl e => ⟨fun z => absurd z (by decide), fun _ => ?_⟩) (fun hno => ⟨fun _ => hbad (Or.inr (Or.inl hno)), fun z => absurd rfl z⟩)
  subst e
  refine ⟨fun z => ⟨fun z2 => ⟨vp_in_nI (by omega) (by decide), ?_⟩, fun z2 => hneg k l hk rfl hl rfl (fa_of_nle z2)⟩, fun z => hbad (Or.inr (Or.inr z))⟩
  have hz : ¬ w < 0 := fun c => by
    rw [Int32.lt_iff_toInt_lt] at c
    rw [Int32.le_iff_toInt_le] at z2
    omega
  obtain ⟨n, hn, rfl⟩ := nI_of2 (n := 40) (by decide) hz z
  rw [nI_clamp (by omega)]
  unfold wp_X3_renew
  refine c_fill (S0 := S) (fun S1 a1 a2 a3 => nm_e (nm_e (nm_e ?_))) 40 0 2000 S (by omega) (by omega) Fr.rf rfl (fun j hj => by omega)
  have f := ((a1.I 1 1).I 2 (nI l)).I 3 (nI n)
  refine hok k l n hk rfl hl rfl hn rfl _ (hG.sht (by omega) f ⟨?_, ?_, ?_, fun i hi => a3 i hi⟩) (f.fc (by omega))
  · rw [sI_1, if_neg (by decide), sI_1, if_neg (by decide), sI_1, if_pos rfl]
  · rw [sI_1, if_neg (by decide), sI_1, if_pos rfl]
  · rw [sI_1, if_pos rfl]
def cutL (l : Nat) (v : Int32) : Int32 := if l = 0 then v.toInt8.toInt32 else if l = 1 then v.toInt16.toInt32 else v
def layF (G : aQ) (k l i : Nat) (v : Int32) : aQ := vH G (un (qH G) k (some l, (qH G k).2.1, un (qH G k).2.2 i (cutL l v)))
theorem layF_wf (hw : wfQ G) {k l i : Nat} {v : Int32} (hl : (qH G k).1 = some l) : wfQ (layF G k l i v) := by
  refine ⟨hw.1, hw.2.1, hw.2.2.1, hw.2.2.2.1, hw.2.2.2.2.1, fun j m e => ?_, fun j => ?_, hw.2.2.2.2.2.2.2⟩
  · have e : (un (qH G) k (some l, (qH G k).2.1, un (qH G k).2.2 i (cutL l v)) j).1 = some m := e
    by_cases c : j = k
    · subst c; rw [un_s] at e; cases e; exact hw.2.2.2.2.2.1 j _ hl
    · rw [un_n _ _ c] at e; exact hw.2.2.2.2.2.1 j m e
  · show (un (qH G) k (some l, (qH G k).2.1, un (qH G k).2.2 i (cutL l v)) j).2.1 ≤ 40
    by_cases c : j = k
    · subst c; rw [un_s]; exact hw.2.2.2.2.2.2.1 j
    · rw [un_n _ _ c]; exact hw.2.2.2.2.2.2.1 j
/-- what the machine finds at a cell: 1 nothing, 3 another lane, 2 no such cell -/
theorem c_faultAt {k : Nat} {y z : Int32} (hG : RQ S G) (hw : wfQ G) (hk : k < 4) (h1 : (qH G k).1 = none → K 1 S) (h3 : ∀ l, (qH G k).1 = some l → y ≠ nI l → K 3 S) (h2 : ∀ l, (qH G k).1 = some l → y = nI l → (∀ i, i < (qH G k).2.1 → z ≠ nI i) → K 2 S) (h0 : ∀ l i, (qH G k).1 = some l → y = nI l → i < (qH G k).2.1 → z = nI i → K 0 S) : wp_X3_faultAt (23 + k) y z S K := by
  have hC := hG.2.2.2.2.2.1 k hk
  have hl40 := hw.2.2.2.2.2.2.1 k
  unfold CH at hC
  unfold wp_X3_faultAt
  cases e : (qH G k).1 with
  | none =>
    rw [e] at hC
    rw [hC]
    exact ⟨fun z => absurd rfl z, fun _ => h1 e⟩
  | some l =>
    rw [e] at hC
    obtain ⟨c1, c2, c3, c4⟩ := hC
    rw [c1, c2, c3]
    refine ⟨fun _ => ⟨fun e2 => ?_, fun e2 => h3 l e (fun z => e2 z.symm)⟩, fun z => absurd z (by decide)⟩
    rcases pk_ix z (n := (qH G k).2.1) (by omega) with h | h | ⟨i, hi, rfl⟩
    · exact ⟨fun _ => h2 l e e2.symm (fun i hi c => by subst c; exact nI_pos (by omega) h), fun c => absurd h c⟩
    · have hb : ∀ i, i < (qH G k).2.1 → z ≠ nI i := fun i hi c => by subst c; exact nI_ge hi (by omega) h
      refine ⟨fun _ => h2 l e e2.symm hb, fun _ => ⟨fun c => ?_, fun _ => h2 l e e2.symm hb⟩⟩
      rw [Int32.lt_iff_toInt_lt] at c
      rw [Int32.le_iff_toInt_le] at h
      omega
    · exact ⟨fun c => absurd c (nI_pos (by omega)), fun _ => pk_lt i (qH G k).2.1 (fun _ => h0 l i e e2.symm hi rfl) (fun c => absurd c (by omega))⟩
theorem q_lay {x y v : Int32} (hG : RQ S G) (hw : wfQ G) (hbad : (∀ k, k ≤ 3 → x ≠ nI k) → K (-1) S) (hnul : ∀ k, k ≤ 3 → x = nI k → (qH G k).1 = none → K (-11) S) (hidx : ∀ k l, k ≤ 3 → x = nI k → (qH G k).1 = some l → (∀ i, i < (qH G k).2.1 → y ≠ nI i) → K (-12) S) (hok : ∀ k l i, k ≤ 3 → x = nI k → (qH G k).1 = some l → i < (qH G k).2.1 → y = nI i → ∀ S', RQ S' (layF G k l i v) → FC S S' → K 1 S') : wp_X6_lay x y v S K := by
  unfold wp_X6_lay
  refine c_isSheet (fun k hk e => ⟨fun _ => ⟨by rw [e]; exact vp_in_nI (by omega) (by decide), nm_r (e' := 23 + k) (by rw [e, nI_clamp (by omega)]) ?_⟩, fun z => absurd z (by decide)⟩) (fun hno => ⟨fun z => absurd rfl z, fun _ => hbad hno⟩)
  subst e
  have hC := hG.2.2.2.2.2.1 k (by omega)
  have hl40 := hw.2.2.2.2.2.2.1 k
  refine c_faultAt hG hw (by omega) (fun e => ?_) (fun l e hne => ?_) (fun l e _ hno => ?_) (fun l i e _ hi ey => ?_)
  · exact ⟨fun z => absurd z (by decide), fun _ => hnul k hk rfl e⟩
  · unfold CH at hC
    rw [e] at hC
    exact absurd hC.2.1 hne
  · exact ⟨fun z => absurd z (by decide), fun _ => hidx k l hk rfl e hno⟩
  · refine ⟨fun _ => ?_, fun z => absurd rfl z⟩
    subst ey
    unfold CH at hC
    rw [e] at hC
    obtain ⟨c1, c2, c3, c4⟩ := hC
    have hl := hw.2.2.2.2.2.1 k l e
    have hin : vp_in (nI i) 40 := vp_in_nI (by omega) (by decide)
    unfold wp_X3_put
    rw [c2, nI_clamp (by omega)]
    have e0 : (0 : Int32) = nI 0 := rfl
    have e1 : (1 : Int32) = nI 1 := rfl
    rw [e0, e1, nI_eq (by omega) (by decide), nI_eq (by omega) (by decide)]
    have hgo : ∀ u : Int32, u = cutL l v → K (nI 1) (sA S (23 + k) 0 i u) := by
      intro u eu
      have f := (Fr.rf (o := 23 + k) (S := S)).A 0 i u
      refine hok k l i hk rfl e hi rfl _ ?_ (f.fc (by omega))
      have h9 : RQ (sA S (23 + k) 0 i u) (vH G (un (qH G) k (some l, (qH G k).2.1, un (qH G k).2.2 i (cutL l v)))) := by
        refine hG.sht (by omega) f ⟨c1, c2, c3, fun j hj => ?_⟩
        show _ = un (qH G k).2.2 i (cutL l v) j
        rw [sA_at]
        by_cases c : j = i
        · subst c; rw [if_pos rfl, un_s, eu]
        · rw [if_neg c, un_n _ _ c]; exact c4 j hj
      exact h9
    refine ⟨fun n0 => ⟨fun n1 => ⟨hin, nm_e (hgo _ ?_)⟩, fun n1 => ⟨hin, nm_e (hgo _ ?_)⟩⟩, fun n0 => ⟨hin, nm_e (hgo _ ?_)⟩⟩
    · unfold cutL; rw [if_neg n0, if_neg n1]
    · unfold cutL; rw [if_neg n0, if_pos n1]
    · unfold cutL; rw [if_pos n0]
theorem q_torn (hG : RQ S G) (hK : K (nI (qO G)) S) : wp_X6_torn S K := by
  unfold wp_X6_torn
  rw [hG.2.2.2.2.2.2]
  exact hK
def nImg (G : aQ) : Int32 := bI (qI G 0).isSome + bI (qI G 1).isSome
theorem ci_val {k : Nat} (hG : RQ S G) (hk : k < 2) : S.2.1 27 7 k = bI (qI G k).isSome := by
  have h := hG.2.1 k hk
  unfold CI at h
  cases e : qI G k with
  | none => rw [e] at h; exact h
  | some B => rw [e] at h; exact h.1
theorem q_count {x : Int32} (hG : RQ S G) (hw : wfQ G) (hbad : (∀ w, w ≤ 5 → x ≠ nI w) → K (-1) S) (h0 : x = 0 → K (nI (qS G).1) S) (h1 : x = 1 → K (nImg G) S) (h2 : x = 2 → K (nI (qT G).1) S) (h3 : x = 3 → K (match (qH G 0).1 with | none => -4 | some _ => nI (qH G 0).2.1) S) (h4 : x = 4 → K (nI (wepF (qA G))) S) (h5 : x = 5 → K (nI (trmF (qA G))) S) : wp_X6_count x S K := by
  unfold wp_X6_count
  rw [hG.2.2.1.1, hG.2.2.2.2.1.1]
  have c0 : (0 : Int32).toNatClampNeg = 0 := by decide
  have c1 : (1 : Int32).toNatClampNeg = 1 := by decide
  refine ⟨fun z => hbad (fun w hw e => ?_), h0, fun e => ?_, h2, fun e => ?_, fun e => c_everWept hG.1 hw.1 (h4 e), fun e => c_trams hG.1 hw.1 (h5 e)⟩
  · rw [e, nI_toInt (by omega)] at z
    omega
  · have h1 := h1 e
    unfold nImg at h1
    unfold wp_X6_count_62
    rw [c0, c1, ci_val hG (k := 0) (by decide), ci_val hG (k := 1) (by decide)]
    have i0 : vp_in 0 2 := vp_in_nI (n := 0) (by decide) (by decide)
    have i1 : vp_in 1 2 := vp_in_nI (n := 1) (by decide) (by decide)
    refine ⟨i0, ?_⟩
    cases e0 : (qI G 0).isSome <;> cases e1 : (qI G 1).isSome <;> rw [e0, e1] at h1
    · exact ⟨fun _ => ⟨i1, fun _ => h1, fun z => absurd rfl z⟩, fun z => absurd rfl z⟩
    · exact ⟨fun _ => ⟨i1, fun z => absurd z (by decide), fun _ => h1⟩, fun z => absurd rfl z⟩
    · exact ⟨fun z => absurd z (by decide), fun _ => ⟨i1, fun _ => h1, fun z => absurd rfl z⟩⟩
    · exact ⟨fun z => absurd z (by decide), fun _ => ⟨i1, fun z => absurd z (by decide), fun _ => h1⟩⟩
  · have h3 := h3 e
    have hC := hG.2.2.2.2.2.1 0 (by decide)
    unfold CH at hC
    have i0 : vp_in 0 4 := vp_in_nI (n := 0) (by decide) (by decide)
    rw [c0]
    refine ⟨i0, ?_⟩
    cases el : (qH G 0).1 with
    | none =>
      rw [el] at hC h3
      rw [hC]
      exact ⟨fun _ => h3, fun z => absurd rfl z⟩
    | some l =>
      rw [el] at hC h3
      rw [hC.1, hC.2.2.1]
      exact ⟨fun z => absurd z (by decide), fun _ => ⟨i0, h3⟩⟩
end Q6
end
section
section Q7
variable {S : tq_St} {G : aQ} {K : Int32 → tq_St → Prop}
-- ROWS OF ACTS (what is safe; answers are free here)
def Q21 (S : tq_St) : Prop := ∃ l, l ≤ 4 ∧ S.1 21 3 = nI l
def P21 (S : tq_St) : Prop := Q21 S ∨ S.1 21 4 = -1
theorem P21.fr {o : Nat} {S S' : tq_St} (h : P21 S) (f : Fr o S S') (ho : o ≠ 21) : P21 S' := by
  have := (f.1 21 (fun e => ho e.symm)).1
  unfold P21 Q21 at h ⊢
  rw [this]
  exact h
theorem P21.A {S : tq_St} (h : P21 S) (k i : Nat) (v : Int32) : P21 (sA S 21 k i v) := h
/-- levels up to d are as they were -/
def FL (b d : Nat) (S S' : tq_St) : Prop := FX S S' ∧ ∀ o, b ≤ o → o ≤ b + d → S'.1 o = S.1 o ∧ S'.2.1 o = S.2.1 o
theorem FL.rf {b d : Nat} {S : tq_St} : FL b d S S := ⟨FX.rf, fun _ _ _ => ⟨rfl, rfl⟩⟩
theorem FL.tr {b d : Nat} {S T U : tq_St} (h : FL b d S T) (h2 : FL b d T U) : FL b d S U := ⟨h.1.tr h2.1, fun o a c => ⟨((h2.2 o a c).1).trans (h.2 o a c).1, ((h2.2 o a c).2).trans (h.2 o a c).2⟩⟩
theorem FL.le {b d e : Nat} {S T : tq_St} (h : FL b d S T) (he : e ≤ d) : FL b e S T := ⟨h.1, fun o a c => h.2 o a (by omega)⟩
theorem Fr.fl {b d o : Nat} {S S' : tq_St} (f : Fr o S S') (ho : (1 ≤ o ∧ o < 17) ∨ o = 21) (hb : o < b ∨ b + d < o) : FL b d S S' := ⟨f.fx ho, fun o' a c => f.1 o' (by omega)⟩
theorem RC.fl {b d : Nat} {S S' : tq_St} {A : aE} (h : RC S (b + d) A) (f : FL b d S S') : RC S' (b + d) A := by
  have := f.2 (b + d) (by omega) (by omega)
  unfold RC
  rw [this.1, this.2]
  exact h
theorem TC.fl {b d : Nat} {S S' : tq_St} {t : aY} (h : TC S (b + d) t) (f : FL b d S S') : TC S' (b + d) t := by
  have := f.2 (b + d) (by omega) (by omega)
  unfold TC
  rw [this.1]
  exact h
theorem c_keepRow {d : Nat} {K : tq_St → Prop} (hd : d ≤ 4) (hK : ∀ S', Fr 21 S S' → S'.1 21 3 = nI d → (∀ i, i < d → S'.2.1 21 2 i = S.2.1 21 1 i) → K S') : wp_X2_keepRow (nI d) S K := by
  unfold wp_X2_keepRow
  rw [nI_clamp (by omega)]
  refine ⟨nI_pos (by omega), hd, hd, nm_e (nm_e ?_)⟩
  refine hK _ ((Fr.rf.C _ _).I _ _) (by rw [sI_1, if_pos rfl]) (fun i hi => ?_)
  show (sC S 21 2 (va_cpy (S.2.1 21 1) (S.2.1 21 2) 0 0 d)).2.1 21 2 i = _
  rw [sC_2, if_pos rfl, sb_cpy0 hi]
theorem c_tryLeaf {d : Nat} {t : aY} {rec : Int32 → Int32 → tq_St → (tq_St → Prop) → Prop} {K : tq_St → Prop} (hd : d ≤ 4) (hT : TC S (3 + d) t) (ht : t.1 < 32) (hP : P21 S) (hK : ∀ S', FL 3 d S S' → Q21 S' → K S') : wp_X2_tryRows_10 rec K (nI d) S := by
  unfold wp_X2_tryRows_10
  rw [nI_clamp (by omega), hT.1]
  refine ⟨vp_in_nI (by omega) (by decide), ?_⟩
  refine c_bitCount32 ht ⟨vp_in_nI (by omega) (by decide), nm_e ?_⟩
  have hpc := pcN_le t.1
  have h59 : wp_X2_tryRows_59 rec K (nI d) (nI (pcN t.1)) (S.1 (3 + d) 12) S := by
    unfold wp_X2_tryRows_59
    refine nm_e (nm_e ?_)
    refine c_keepRow hd (fun S' f e3 _ => ?_)
    have f2 := ((Fr.rf (o := 21) (S := S)).I 4 (nI (pcN t.1))).I 5 (S.1 (3 + d) 12)
    exact hK S' ((f2.tr f).fl (Or.inr rfl) (Or.inr (by omega))) ⟨d, hd, e3⟩
  have hno : ¬ S.1 21 4 < nI (pcN t.1) → K S := by
    intro z
    refine hK S FL.rf ?_
    rcases hP with h | h
    · exact h
    · exfalso
      apply z
      rw [h, Int32.lt_iff_toInt_lt, nI_toInt (by omega)]
      have e1 : (-1 : Int32).toInt = -1 := by decide
      omega
  exact ⟨fun _ => h59, fun z => ⟨fun _ => hno z, fun _ => ⟨fun _ => hno z, fun _ => h59⟩⟩⟩
theorem plW_32 {A : aE} (hw : wfE A) (a : Nat) : plW A a < 32 := Nat.lt_of_lt_of_le (plW_lt hw a) (zb_p31 hw.1)
theorem c_tryRows {n N : Nat} (hn : n ≤ 4) (hN : N ≤ 5) : ∀ (e d r : Nat) (A : aE) (t : aY) (S : tq_St) (K : tq_St → Prop), d + e = n → e < r → RC S (3 + d) A → wfE A → aN A = N → S.1 3 5 = nI N → TC S (3 + d) t → t.1 < 32 → P21 S → (∀ S', FL 3 d S S' → Q21 S' → K S') → wp_X2_tryRows r (nI d) (nI n) S K := by
  intro e
  induction e with
  | zero =>
    intro d r A t S K h1 h2 hR hw hA h35 hT ht hP hK
    obtain ⟨r, rfl⟩ : ∃ k, r = k + 1 := ⟨r - 1, by omega⟩
    unfold wp_X2_tryRows
    exact pk_le n d (fun _ => c_tryLeaf (by omega) hT ht hP hK) (fun z => absurd z (by omega))
  | succ e ih =>
    intro d r A t S K h1 h2 hR hw hA h35 hT ht hP hK
    obtain ⟨r, rfl⟩ : ∃ k, r = k + 1 := ⟨r - 1, by omega⟩
    unfold wp_X2_tryRows
    have c0 : (0 : Int32).toNatClampNeg = 0 := by decide
    rw [c0, h35]
    refine pk_le n d (fun z => absurd z (by omega)) (fun _ => pk_lt d 4 (fun _ => ⟨vp_in_nI (n := 0) (by decide) (by decide), nm_e ?_⟩) (fun z => absurd z (by omega)))
    -- the choices
    have hloop : ∀ (m c f : Nat) (S' : tq_St), c + m = N + 1 → m < f → FL 3 d S S' → ((c = 0 ∧ P21 S') ∨ Q21 S') → wp_X2_tryRows_89 (wp_X2_tryRows r) K f (nI d) (nI n) (nI N) (nI c) S' := by
      intro m
      induction m with
      | zero =>
        intro c f S' g1 g2 hF hQ
        obtain ⟨f, rfl⟩ : ∃ k, f = k + 1 := ⟨f - 1, by omega⟩
        unfold wp_X2_tryRows_89
        refine pk_lt N c (fun _ => hK S' hF ?_) (fun z => absurd z (by omega))
        rcases hQ with h | h
        · omega
        · exact h
      | succ m ihm =>
        intro c f S' g1 g2 hF hQ
        obtain ⟨f, rfl⟩ : ∃ k, f = k + 1 := ⟨f - 1, by omega⟩
        unfold wp_X2_tryRows_89
        refine pk_lt N c (fun z => absurd z (by omega)) (fun _ => ?_)
        have hP' : P21 S' := by
          rcases hQ with h | h
          · exact h.2
          · exact Or.inl h
        have hgo : ∀ a : Nat, okA N a → wp_X2_tryRows_112 (wp_X2_tryRows r) K (wp_X2_tryRows_89 (wp_X2_tryRows r) K f) (nI d) (nI n) (nI N) (nI c) (nI d) (nI a) S' := by
          intro a ha
          unfold wp_X2_tryRows_112
          rw [nI_1, nI_clamp (n := d) (by omega), nI_clamp (n := d + 1) (by omega)]
          have i4 : vp_in (nI d) 4 := vp_in_nI (by omega) (by decide)
          have i5 : vp_in (nI d) 5 := vp_in_nI (by omega) (by decide)
          have i6 : vp_in (nI (d + 1)) 5 := vp_in_nI (by omega) (by decide)
          refine ⟨i4, nm_e ⟨i6, i5, ?_⟩⟩
          have hR1 := hR.fl hF
          have hR2 : RC (sA S' 21 1 d (nI a)) (3 + d) A := hR1.fr ((Fr.rf (o := 21)).A _ _ _) (by omega)
          refine c_copyFrom (o := 3 + (d + 1)) hR2 hw (by omega) (fun S3 a1 a2 a3 a4 a5 => ⟨i6, i4, ?_⟩)
          rw [(a2.1 21 (by omega)).2, sA_at, if_pos rfl]
          refine c_play a1 hw (by rw [hA]; exact ha) (fun S4 b1 b2 b3 b4 b5 => ?_)
          have hT1 := hT.fl hF
          have hT3 : TC S4 (3 + (d + 1)) (t.1 ||| plW A a, t.2.1 + pcN (plW A a), t.2.2) := by
            refine ⟨?_, ?_, ?_⟩
            · rw [b3, a3, sA_1, hT1.1, fa_or]
            · rw [b4, a4, sA_1, hT1.2.1, nI_add]
            · rw [b5, a5, sA_1, hT1.2.2]
          have h35' : S4.1 3 5 = nI N := by
            rw [(b2.1 3 (by omega)).1, (a2.1 3 (by omega)).1, sA_1, (hF.2 3 (by omega) (by omega)).1]
            exact h35
          refine ih (d + 1) r (playF A a) _ S4 _ (by omega) (by omega) b1 (playF_wf hw a) ((playF_same A a).1.trans hA) h35' hT3 (Nat.or_lt_two_pow (n := 5) ht (plW_32 hw a)) (((hP'.A 1 d (nI a)).fr a2 (by omega)).fr b2 (by omega)) (fun S5 hF5 hQ5 => nm_r (nI_1 c) ?_)
          refine ihm (c + 1) f S5 (by omega) (by omega) (hF.tr ?_) (Or.inr hQ5)
          have fA : FL 3 d S' (sA S' 21 1 d (nI a)) := ((Fr.rf (o := 21)).A _ _ _).fl (Or.inr rfl) (Or.inr (by omega))
          have fB : FL 3 d (sA S' 21 1 d (nI a)) S3 := a2.fl (Or.inl (by omega)) (Or.inr (by omega))
          have fC : FL 3 d S3 S4 := b2.fl (Or.inl (by omega)) (Or.inr (by omega))
          exact ((fA.tr fB).tr fC).tr (hF5.le (by omega))
        exact pk_le N c (fun _ => hgo 5 (Or.inr (Or.inl rfl))) (fun z => hgo c (Or.inl z))
    exact hloop (N + 1) 0 2000 S (by omega) (by omega) FL.rf (Or.inl ⟨rfl, hP⟩)
theorem q_most {n : Nat} {K : tq_St → Prop} (hG : RQ S G) (hw : wfQ G) (hn : n ≤ 4) (hK : ∀ S', FX S S' → Q21 S' → K S') : wp_X2_findMostTears 0 (nI n) S K := by
  unfold wp_X2_findMostTears
  have c0 : (0 : Int32).toNatClampNeg = 0 := by decide
  rw [c0]
  refine ⟨vp_in_nI (n := 0) (by decide) (by decide), ?_⟩
  refine c_startFrom (o := 3 + 0) hG.1 hw.1 (by decide) (fun S1 a1 a2 a3 => nm_e (nm_e ?_))
  have f2 := ((Fr.rf (o := 21) (S := S1)).I 4 (-1)).I 5 (-1)
  refine c_tryRows hn hw.1.1 n 0 12 (qA G) (0, 0, none) _ K (by omega) (by omega) (a1.fr f2 (by decide)) hw.1 rfl ?_ ?_ (by decide) (Or.inr ?_) (fun S' hF hQ => hK S' ?_ hQ)
  · rw [(f2.1 3 (by decide)).1]; exact a1.1
  · have h3 := (f2.1 (3 + 0) (by decide)).1
    unfold TC
    rw [h3]
    exact a3
  · rw [sI_1, if_neg (by decide), sI_1, if_pos rfl]
  · exact ((a2.fx (Or.inl (by decide))).tr (f2.fx (Or.inr rfl))).tr hF.1
theorem c_foundAt {x : Int32} (hQ : Q21 S) (hK : ∀ r, K r S) : wp_X2_foundAt x S K := by
  obtain ⟨l, hl, e⟩ := hQ
  unfold wp_X2_foundAt
  rw [e]
  refine ⟨fun _ => hK _, fun z => ⟨fun _ => hK _, fun z2 => ⟨?_, hK _⟩⟩⟩
  obtain ⟨j, hj, rfl⟩ := nI_of z
  rw [nI_leI (by omega) hj] at z2
  exact vp_in_nI (by omega) (by decide)
theorem q_best {x y : Int32} (hG : RQ S G) (hw : wfQ G) (hK : ∀ r S', RQ S' G → FC S S' → K r S') : wp_X6_best x y S K := by
  have h24 : ∀ n, n ≤ 4 → x = nI n → wp_X6_best_24 K x y S := by
    intro n hn e
    subst e
    unfold wp_X6_best_24
    refine q_most hG hw hn (fun S' f hQ => ?_)
    have hr := fun r => hK r S' (hG.fx f) f.fc
    exact ⟨fun _ => ⟨fun _ => hr _, fun _ => hr _⟩, fun _ => c_foundAt hQ hr⟩
  unfold wp_X6_best
  refine ⟨fun _ => hK _ S hG FC.rf, fun z => ⟨fun _ => hK _ S hG FC.rf, fun z2 => ?_⟩⟩
  obtain ⟨n, hn, e⟩ := nI_of2 (n := 4) (by decide) z (fa_of_nlt z2)
  exact q_01 (fun w hw1 e2 => ⟨fun _ => h24 n hn e, fun z => absurd z (by decide)⟩) (fun hno => ⟨fun z => absurd rfl z, fun _ => ⟨fun _ => h24 n hn e, fun _ => hK _ S hG FC.rf⟩⟩)
-- A WAY HOME
theorem c_homeLeaf {d : Nat} {x : Int32} {A : aE} {rec : Int32 → Int32 → Int32 → tq_St → (Int32 → tq_St → Prop) → Prop} (hd : d ≤ 3) (hR : RC S (3 + d) A) (hw : wfE A) (hK : ∀ r S', FL 3 d S S' → Q21 S' → K r S') : wp_X2_isHome_10 rec K (nI d) x S := by
  unfold wp_X2_isHome_10
  rw [nI_1, nI_clamp (n := d) (by omega), nI_clamp (n := d + 1) (by omega)]
  have i5 : vp_in (nI d) 5 := vp_in_nI (by omega) (by decide)
  have i6 : vp_in (nI (d + 1)) 5 := vp_in_nI (by omega) (by decide)
  refine ⟨i6, i5, ?_⟩
  refine c_copyFrom (o := 3 + (d + 1)) hR hw (by omega) (fun S1 a1 a2 _ _ _ => ⟨i6, ?_⟩)
  refine c_board a1 hw (fun S2 b1 b2 _ => ?_)
  refine c_keepRow (by omega) (fun S3 f3 e3 _ => ⟨i6, ?_⟩)
  have b3 := b1.fr f3 (by omega)
  have hF : FL 3 d S S3 := ((a2.fl (Or.inl (by omega)) (Or.inr (by omega))).tr (b2.fl (Or.inl (by omega)) (Or.inr (by omega)))).tr (f3.fl (Or.inr rfl) (Or.inr (by omega)))
  have hr := fun r => hK r S3 hF ⟨d, by omega, e3⟩
  have hwb := boardF_wf hw
  exact c_waits b3.1 hw.1 b3.2.1 hwb.g31 (fun j hj e hb => ⟨fun _ => hr _, fun _ => hr _⟩) (fun h => ⟨fun _ => hr _, fun _ => hr _⟩)
theorem c_isHome {n N : Nat} {x : Int32} (hn : n ≤ 3) (hN : N ≤ 5) : ∀ (e d r : Nat) (A : aE) (S : tq_St) (K : Int32 → tq_St → Prop), d + e = n → e < r → RC S (3 + d) A → wfE A → aN A = N → S.1 3 5 = nI N → (∀ r S', FL 3 d S S' → (r = 0 ∨ Q21 S') → K r S') → wp_X2_isHome r (nI d) (nI n) x S K := by
  intro e
  induction e with
  | zero =>
    intro d r A S K h1 h2 hR hw hA h35 hK
    obtain ⟨r, rfl⟩ : ∃ k, r = k + 1 := ⟨r - 1, by omega⟩
    unfold wp_X2_isHome
    exact pk_le n d (fun _ => c_homeLeaf (by omega) hR hw (fun r S' f q => hK r S' f (Or.inr q))) (fun z => absurd z (by omega))
  | succ e ih =>
    intro d r A S K h1 h2 hR hw hA h35 hK
    obtain ⟨r, rfl⟩ : ∃ k, r = k + 1 := ⟨r - 1, by omega⟩
    unfold wp_X2_isHome
    have c0 : (0 : Int32).toNatClampNeg = 0 := by decide
    rw [c0, h35]
    refine pk_le n d (fun z => absurd z (by omega)) (fun _ => pk_lt d 3 (fun _ => ⟨vp_in_nI (n := 0) (by decide) (by decide), nm_e ?_⟩) (fun z => absurd z (by omega)))
    have hloop : ∀ (m c f : Nat) (S' : tq_St), c + m = N → m < f → FL 3 d S S' → wp_X2_isHome_79 (wp_X2_isHome r) K f (nI d) (nI n) x (nI N) (nI c) S' := by
      intro m
      induction m with
      | zero =>
        intro c f S' g1 g2 hF
        obtain ⟨f, rfl⟩ : ∃ k, f = k + 1 := ⟨f - 1, by omega⟩
        unfold wp_X2_isHome_79
        exact pk_le N c (fun _ => hK 0 S' hF (Or.inl rfl)) (fun z => absurd z (by omega))
      | succ m ihm =>
        intro c f S' g1 g2 hF
        obtain ⟨f, rfl⟩ : ∃ k, f = k + 1 := ⟨f - 1, by omega⟩
        unfold wp_X2_isHome_79
        refine pk_le N c (fun z => absurd z (by omega)) (fun hc => ?_)
        rw [nI_1, nI_clamp (n := d) (by omega), nI_clamp (n := d + 1) (by omega)]
        have i4 : vp_in (nI d) 4 := vp_in_nI (by omega) (by decide)
        have i5 : vp_in (nI d) 5 := vp_in_nI (by omega) (by decide)
        have i6 : vp_in (nI (d + 1)) 5 := vp_in_nI (by omega) (by decide)
        refine ⟨i4, nm_e ⟨i6, i5, ?_⟩⟩
        have hR1 := hR.fl hF
        have hR2 : RC (sA S' 21 1 d (nI c)) (3 + d) A := hR1.fr ((Fr.rf (o := 21)).A _ _ _) (by omega)
        refine c_copyFrom (o := 3 + (d + 1)) hR2 hw (by omega) (fun S3 a1 a2 _ _ _ => ⟨i6, ?_⟩)
        refine c_play a1 hw (Or.inl (by rw [hA]; exact hc)) (fun S4 b1 b2 _ _ _ => ?_)
        have h35' : S4.1 3 5 = nI N := by
          rw [(b2.1 3 (by omega)).1, (a2.1 3 (by omega)).1, sA_1, (hF.2 3 (by omega) (by omega)).1]
          exact h35
        have fA : FL 3 d S' (sA S' 21 1 d (nI c)) := ((Fr.rf (o := 21)).A _ _ _).fl (Or.inr rfl) (Or.inr (by omega))
        have fB : FL 3 d (sA S' 21 1 d (nI c)) S3 := a2.fl (Or.inl (by omega)) (Or.inr (by omega))
        have fC : FL 3 d S3 S4 := b2.fl (Or.inl (by omega)) (Or.inr (by omega))
        refine ih (d + 1) r (playF A c) S4 _ (by omega) (by omega) b1 (playF_wf hw c) ((playF_same A c).1.trans hA) h35' (fun r5 S5 hF5 hQ5 => ?_)
        have hF6 := hF.tr (((fA.tr fB).tr fC).tr (hF5.le (by omega)))
        refine ⟨fun _ => nm_r (nI_1 c) (ihm (c + 1) f S5 (by omega) (by omega) hF6), fun z => hK 1 S5 hF6 (Or.inr ?_)⟩
        rcases hQ5 with h | h
        · exact absurd h z
        · exact h
    exact hloop N 0 2000 S (by omega) (by omega) FL.rf
theorem q_way_12 {S0 : tq_St} {x : Int32} {A : aE} (hw : wfE A) (hR : RC S0 3 A) (hK : ∀ r S', FX S0 S' → (r = 0 ∨ Q21 S') → K r S') : ∀ (m n f : Nat) (S : tq_St), n + m = 4 → m < f → FL 3 0 S0 S → wp_X2_findWayHome_12 0 K f x (nI n) S
  | 0, n, f + 1, S, h1, h2, hF => by
    unfold wp_X2_findWayHome_12
    exact pk_lt 3 n (fun _ => hK 0 S hF.1 (Or.inl rfl)) (fun z => absurd z (by omega))
  | m + 1, n, f + 1, S, h1, h2, hF => by
    unfold wp_X2_findWayHome_12
    refine pk_lt 3 n (fun z => absurd z (by omega)) (fun _ => ?_)
    have hR1 : RC S (3 + 0) A := RC.fl (b := 3) (d := 0) hR hF
    refine c_isHome (n := n) (N := aN A) (by omega) hw.1 n 0 12 A S _ (by omega) (by omega) hR1 hw rfl hR1.1 (fun r S' f' q => ?_)
    refine ⟨fun _ => nm_r (nI_1 n) ?_, fun z => hK 1 S' (hF.tr f').1 (Or.inr ?_)⟩
    · exact q_way_12 hw hR hK m (n + 1) f S' (by omega) (by omega) (hF.tr f')
    · rcases q with h | h
      · exact absurd h z
      · exact h
theorem q_home {x y : Int32} (hG : RQ S G) (hw : wfQ G) (hK : ∀ r S', RQ S' G → FC S S' → K r S') : wp_X6_home x y S K := by
  have hS := fun r => hK r S hG FC.rf
  have h39 : ∀ v3 : Int32, wp_X6_home_39 K x y v3 S := by
    intro v3
    unfold wp_X6_home_39
    refine c_waits hG.1.1 hw.1.1 hG.1.2.1 hw.1.g31 (fun j hj e hb => ⟨fun _ => ?_, fun z => absurd z (by decide)⟩) (fun h => ⟨fun z => absurd rfl z, fun _ => hS _⟩)
    unfold wp_X2_findWayHome
    have c0 : (0 : Int32).toNatClampNeg = 0 := by decide
    rw [c0]
    refine ⟨vp_in_nI (n := 0) (by decide) (by decide), ?_⟩
    refine c_startFrom (o := 3 + 0) hG.1 hw.1 (by decide) (fun S1 a1 a2 a3 => ?_)
    refine q_way_12 (S0 := S1) hw.1 a1 (fun r S' f q => ?_) 4 0 2000 S1 (by omega) (by omega) FL.rf
    have hx := (a2.fx (Or.inl (by decide))).tr f
    have hr := fun r => hK r S' (hG.fx hx) hx.fc
    refine ⟨fun z => ⟨fun _ => hr _, fun _ => c_foundAt ?_ hr⟩, fun _ => hr _⟩
    rcases q with h | h
    · exact absurd h z
    · exact h
  have h17 : ∀ w0 : Int32, wp_X6_home_17 K x y w0 S := by
    intro w0
    unfold wp_X6_home_17
    exact c_isThere hG.1.1 hw.1.1 (fun p hp e => ⟨fun _ => hS _, fun _ => ⟨fun _ => h39 _, fun _ => ⟨fun _ => h39 _, fun _ => hS _⟩⟩⟩) (fun hno => ⟨fun _ => hS _, fun z => absurd rfl z⟩)
  unfold wp_X6_home wp_X6_home_16
  exact ⟨fun _ => h17 0, fun _ => ⟨fun _ => h17 0, fun _ => h17 1⟩⟩
end Q7
end
section
section Q8
variable {S : tq_St} {G : aQ} {K : Int32 → tq_St → Prop} {KL : Int64 → tq_St → Prop}
-- THOUGHTS THAT FAIL (what is safe; answers are free here)
theorem FX.W {S T : tq_St} (h : FX S T) (v : Int64) : FX S (sW T v) := h.tr ⟨fun _ _ _ _ _ => ⟨rfl, rfl⟩, rfl, fun _ _ => rfl⟩
theorem FX.gw {S T : tq_St} (h : FX S T) (i : Nat) (v : Int64) : FX S (sG T i v) := h.tr ⟨fun _ _ _ _ _ => ⟨rfl, rfl⟩, rfl, fun _ _ => rfl⟩
theorem FL.W {b d : Nat} {S T : tq_St} (h : FL b d S T) (v : Int64) : FL b d S (sW T v) := ⟨h.1.W v, h.2⟩
theorem FL.gw {b d : Nat} {S T : tq_St} (h : FL b d S T) (i : Nat) (v : Int64) : FL b d S (sG T i v) := ⟨h.1.gw i v, h.2⟩
theorem c_addW_13 {S0 : tq_St} {d : Nat} {A : aE} {w : Int64} {K : tq_St → Prop} (hw : wfE A) (hR0 : RC S0 (8 + d) A) (hK : ∀ S', FL 8 d S0 S' → K S') : ∀ (m p f : Nat) (S : tq_St), p + m = aN A → m < f → FL 8 d S0 S → wp_X0_addWeight_13 (8 + d) K f w (nI p) S
  | 0, p, f + 1, S, h1, h2, hF => by
    have hn := hw.1
    have hR := hR0.fl hF
    unfold wp_X0_addWeight_13
    rw [hR.1]
    exact pk_le (aN A) p (fun _ => hK S hF) (fun z => absurd z (by omega))
  | m + 1, p, f + 1, S, h1, h2, hF => by
    have hn := hw.1
    have hR := hR0.fl hF
    have hin : vp_in (nI p) 5 := vp_in_nI (by omega) (by decide)
    unfold wp_X0_addWeight_13
    rw [hR.1]
    refine pk_le (aN A) p (fun z => absurd z (by omega)) (fun hp => ?_)
    refine c_waitsN hR.1 hn hR.2.1 hw.g31 hp (fun _ => ⟨fun _ => nm_r (nI_1 p) ?_, fun z => absurd z (by decide)⟩) (fun _ => ⟨fun z => absurd rfl z, fun _ => ⟨hin, hin, nm_e (nm_r (nI_1 p) ?_)⟩⟩)
    · exact c_addW_13 hw hR0 hK m (p + 1) f S (by omega) (by omega) hF
    · exact c_addW_13 hw hR0 hK m (p + 1) f _ (by omega) (by omega) (hF.gw _ _)
theorem c_addW {d : Nat} {A : aE} {w : Int64} {K : tq_St → Prop} (hw : wfE A) (hR : RC S (8 + d) A) (hK : ∀ S', FL 8 d S S' → K S') : wp_X0_addWeight (8 + d) w S K := by
  unfold wp_X0_addWeight
  exact nm_e (c_addW_13 hw hR hK (aN A) 0 2000 _ (by omega) (by have := hw.1; omega) (FL.rf.W _))
theorem c_weigh {v : Int32} : ∀ (e d r : Nat) (A : aE) (w : Int64) (S : tq_St) (K : tq_St → Prop), d + e = 8 → e < r → RC S (8 + d) A → wfE A → (∀ S', FL 8 d S S' → K S') → wp_X0_weighFrom r (nI d) w v S K := by
  intro e
  induction e with
  | zero =>
    intro d r A w S K h1 h2 hR hw hK
    obtain ⟨r, rfl⟩ : ∃ k, r = k + 1 := ⟨r - 1, by omega⟩
    have hc := hw.2.2.2.2.2.2.2.2.1
    unfold wp_X0_weighFrom
    refine ⟨vp_in_nI (by omega) (by decide), nm_r (by rw [nI_clamp (by omega)]) ?_⟩
    rw [hR.2.2.2.2.2.1]
    exact pk_le (aC A) d (fun _ => c_addW hw hR hK) (fun z => absurd z (by omega))
  | succ e ih =>
    intro d r A w S K h1 h2 hR hw hK
    obtain ⟨r, rfl⟩ : ∃ k, r = k + 1 := ⟨r - 1, by omega⟩
    have hc := hw.2.2.2.2.2.2.2.2.1
    unfold wp_X0_weighFrom
    refine ⟨vp_in_nI (by omega) (by decide), nm_r (by rw [nI_clamp (by omega)]) ?_⟩
    rw [hR.2.2.2.2.2.1]
    refine pk_le (aC A) d (fun _ => c_addW hw hR hK) (fun hd => pk_lt d 8 (fun _ => ?_) (fun z => absurd z (by omega)))
    rw [nI_1]
    refine ⟨vp_in_nI (by omega) (by decide), nm_r (by rw [nI_clamp (by omega)]) ⟨vp_in_nI (by omega) (by decide), nm_r (by rw [nI_clamp (by omega), hR.2.2.2.2.2.2.2.2.2 d hd]) ?_⟩⟩
    have ha := hw.2.2.2.2.2.2.2.2.2 d hd
    -- a copy, an act on it, and on
    have hgo : ∀ (w' : Int64) (S1 : tq_St) (K' : tq_St → Prop), FL 8 d S S1 → (∀ S', FL 8 d S S' → K' S') → wp_X1_copyFrom (8 + (d + 1)) (8 + d) S1 (fun S2 => wp_X1_play (8 + (d + 1)) (nI (aA A d)) S2 (fun r3 S3 => wp_X0_weighFrom r (nI (d + 1)) w' v S3 K')) := by
      intro w' S1 K' hF hK'
      refine c_copyFrom (o := 8 + (d + 1)) (hR.fl hF) hw (by omega) (fun S2 a1 a2 _ _ _ => ?_)
      refine c_play a1 hw ha (fun S3 b1 b2 _ _ _ => ?_)
      refine ih (d + 1) r (playF A (aA A d)) w' S3 K' (by omega) (by omega) b1 (playF_wf hw _) (fun S4 f4 => hK' S4 ?_)
      exact ((hF.tr (a2.fl (Or.inl (by omega)) (Or.inr (by omega)))).tr (b2.fl (Or.inl (by omega)) (Or.inr (by omega)))).tr (f4.le (by omega))
    have h125 : ∀ S1, FL 8 d S S1 → wp_X0_weighFrom_125 (wp_X0_weighFrom r) K (nI d) w v (8 + d) (8 + (d + 1)) S1 := by
      intro S1 hF
      unfold wp_X0_weighFrom_125
      rw [nI_1]
      refine ⟨fun _ => hK S1 hF, fun _ => ?_⟩
      refine c_copyFrom (o := 8 + (d + 1)) (hR.fl hF) hw (by omega) (fun S2 a1 a2 _ _ _ => ?_)
      exact ih (d + 1) r A _ S2 _ (by omega) (by omega) a1 hw (fun S4 f4 => hK S4 ((hF.tr (a2.fl (Or.inl (by omega)) (Or.inr (by omega)))).tr (f4.le (by omega))))
    refine c_isThere hR.1 hw.1 (fun j hj e1 => ⟨fun _ => ⟨fun _ => h125 S FL.rf, fun _ => hgo _ S _ FL.rf h125⟩, fun z => absurd z (by decide)⟩) (fun _ => ⟨fun z => absurd rfl z, fun _ => hgo _ S _ FL.rf hK⟩)
theorem c_fillG {S0 : tq_St} {K : tq_St → Prop} {v : Int64} {d : Nat} (hK : ∀ S', FL 8 d S0 S' → K S') : ∀ (m i f : Nat) (S : tq_St), i + m = 5 → m < f → FL 8 d S0 S → wp_J7_fill_d0a16_6 K f v (nI i) (nI 5) S
  | 0, i, f + 1, S, h1, h2, hF => by
    unfold wp_J7_fill_d0a16_6
    exact pk_le 5 i (fun _ => hK S hF) (fun z => absurd z (by omega))
  | m + 1, i, f + 1, S, h1, h2, hF => by
    unfold wp_J7_fill_d0a16_6
    refine pk_le 5 i (fun z => absurd z (by omega)) (fun _ => ⟨vp_in_nI (by omega) (by decide), nm_e (nm_r (nI_1 i) ?_)⟩)
    exact c_fillG hK m (i + 1) f _ (by omega) (by omega) (hF.gw _ _)
theorem q_weigh {v : Int32} {K : tq_St → Prop} (hG : RQ S G) (hw : wfQ G) (hK : ∀ S', FX S S' → K S') : wp_X0_weighPlan 0 v S K := by
  unfold wp_X0_weighPlan
  have c0 : (0 : Int32).toNatClampNeg = 0 := by decide
  rw [c0]
  refine ⟨vp_in_nI (n := 0) (by decide) (by decide), ?_⟩
  refine c_startFrom (o := 8 + 0) hG.1 hw.1 (by decide) (fun S1 a1 a2 a3 => ?_)
  refine c_fillG (S0 := S1) (d := 0) (fun S2 f2 => nm_e ?_) 5 0 2000 S1 (by omega) (by omega) FL.rf
  have f3 := f2.W 0
  refine c_weigh 8 0 12 (qA G) 1 _ K (by omega) (by omega) (a1.fl f3) hw.1 (fun S' f => hK S' ?_)
  exact ((a2.fx (Or.inl (by decide))).tr f3.1).tr f.1
theorem c_weightOf {x : Int32} (hK : ∀ r, KL r S) : wp_X0_weightOf x S KL := by
  unfold wp_X0_weightOf
  refine ⟨fun _ => hK _, fun z => ⟨fun _ => hK _, fun z2 => ⟨?_, hK _⟩⟩⟩
  obtain ⟨j, hj, rfl⟩ := nI_of z
  have e5 : (5 : Int32) = nI 5 := rfl
  rw [e5, nI_leI (by decide) hj] at z2
  exact vp_in_nI (by omega) (by decide)
theorem lgc0 {x : Int64} (h : ¬ lg_cmp x 0 = 0) : ¬ x = 0 := by
  intro e
  subst e
  exact h (by decide)
theorem c_gd_3 (hK : ∀ r, KL r S) : ∀ (m i f : Nat) (a b : Int64), i + m = 200 → m < f → wp_X6_greatestDivisor_3 KL f a b (nI i) S
  | 0, i, f + 1, a, b, h1, h2 => by
    unfold wp_X6_greatestDivisor_3
    exact pk_le 200 i (fun _ => hK _) (fun z => absurd z (by omega))
  | m + 1, i, f + 1, a, b, h1, h2 => by
    unfold wp_X6_greatestDivisor_3
    refine pk_le 200 i (fun z => absurd z (by omega)) (fun _ => ⟨fun _ => hK _, fun z => ⟨lgc0 z, nm_e (nm_r (nI_1 i) ?_)⟩⟩)
    exact c_gd_3 hK m (i + 1) f _ _ (by omega) (by omega)
theorem c_part {a b : Int64} {y : Int32} (hK : ∀ r, KL r S) : wp_X6_partOfFraction a b y S KL := by
  have h17 : ∀ v w : Int64, wp_X6_partOfFraction_17 KL v w S := by
    intro v w
    unfold wp_X6_partOfFraction_17
    refine ⟨fun z => ⟨fun e => ?_, hK _⟩, fun _ => hK _⟩
    subst e
    exact absurd z (by decide)
  unfold wp_X6_partOfFraction wp_X6_greatestDivisor
  exact c_gd_3 (fun r => ⟨fun _ => h17 _ _, fun _ => h17 _ _⟩) 200 0 2000 _ _ (by omega) (by omega)
theorem q_luck {x y w : Int32} (hG : RQ S G) (hw : wfQ G) (hK : ∀ r S', RQ S' G → FC S S' → KL r S') : wp_X6_luck x y w S KL := by
  have hS := fun r => hK r S hG FC.rf
  unfold wp_X6_luck
  refine ⟨fun _ => hS _, fun _ => ⟨fun _ => hS _, fun _ => ?_⟩⟩
  refine c_isThere hG.1.1 hw.1.1 (fun p hp e => ⟨fun _ => hS _, fun _ => ?_⟩) (fun hno => ⟨fun _ => hS _, fun z => absurd rfl z⟩)
  refine q_01 (fun k hk e2 => ⟨fun _ => ?_, fun _ => hS _⟩) (fun hno => ⟨fun z => absurd rfl z, fun _ => hS _⟩)
  refine q_weigh hG hw (fun S' f => ?_)
  have hr := fun r => hK r S' (hG.fx f) f.fc
  exact c_weightOf (fun r => c_part hr)
theorem q_mean_38 {n : Nat} {y : Int32} (h5 : S.1 0 5 = nI n) (hn : n ≤ 5) (hK : ∀ r, KL r S) : ∀ (m p f : Nat) (v : Int64), p + m = n → m < f → wp_X6_mean_38 KL f y v (nI p) S
  | 0, p, f + 1, v, h1, h2 => by
    unfold wp_X6_mean_38
    rw [h5]
    exact pk_le n p (fun _ => c_part hK) (fun z => absurd z (by omega))
  | m + 1, p, f + 1, v, h1, h2 => by
    unfold wp_X6_mean_38
    rw [h5]
    refine pk_le n p (fun z => absurd z (by omega)) (fun _ => ?_)
    exact c_weightOf (fun r => nm_e (nm_r (nI_1 p) (q_mean_38 h5 hn hK m (p + 1) f _ (by omega) (by omega))))
theorem q_mean {x y : Int32} (hG : RQ S G) (hw : wfQ G) (hK : ∀ r S', RQ S' G → FC S S' → KL r S') : wp_X6_mean x y S KL := by
  have hS := fun r => hK r S hG FC.rf
  unfold wp_X6_mean
  refine ⟨fun _ => hS _, fun _ => ⟨fun _ => hS _, fun _ => ?_⟩⟩
  refine q_01 (fun k hk e2 => ⟨fun _ => ?_, fun _ => hS _⟩) (fun hno => ⟨fun z => absurd rfl z, fun _ => hS _⟩)
  refine q_weigh hG hw (fun S' f => ?_)
  have hG' := hG.fx f
  exact q_mean_38 hG'.1.1 hw.1.1 (fun r => hK r S' hG' f.fc) (aN (qA G)) 0 2000 _ (by omega) (by have := hw.1.1; omega)
-- READ
theorem RQ.rd {S' : tq_St} (hG : RQ S G) {y : Nat} (f : Fr 27 S S') (h10 : S'.1 27 10 = nI y) (h7 : S'.2.1 27 7 = S.2.1 27 7) : RQ S' (vO G y) := by
  obtain ⟨h1, h2, h3, h4, h5, h6, h7'⟩ := hG
  have f19 := f.1 19 (by decide)
  have f20 := f.1 20 (by decide)
  refine ⟨h1.fr f (by decide), fun k hk => ?_, by rw [f19.1, f19.2]; exact h3, by rw [f19.1]; exact h4, by rw [f20.1, f20.2]; exact h5, fun k hk => ?_, h10⟩
  · have h2 := h2 k hk
    show CI _ k (qI G k)
    unfold CI at h2 ⊢
    split at h2
    · rw [h7]; exact h2
    · rw [h7]; exact ⟨h2.1, h2.2.fr f (by omega)⟩
  · have h6 := h6 k hk
    have f23 := f.1 (23 + k) (by omega)
    show CH _ k (qH G k)
    unfold CH at h6 ⊢
    rw [f23.1, f23.2]
    exact h6
theorem q_rd128 {y i : Nat} {A : aE} {S0 : tq_St} (hG0 : RQ S0 G) (hw : wfQ G) (hwA : wfE A) (hF : Fr 1 S0 S) (hR : RC S 1 A) (hK : ∀ S', RQ S' (vO (vA G A) y) → FC S0 S' → K (nI i) S') : wp_X6_read_128 K (nI y) (nI i) S := by
  unfold wp_X6_read_128
  refine c_copyFrom (p := 1) hR hwA (by decide) (fun S1 a1 a2 _ _ _ => nm_e ?_)
  have hx := hF.fx (Or.inl (by decide))
  have f3 := (Fr.rf (o := 27) (S := S1)).I 10 (nI y)
  exact hK _ (((hG0.fx hx).now a2 a1).rd f3 (by rw [sI_1, if_pos rfl]) rfl) ((hx.fc.tr (a2.fc (by decide))).tr (f3.fc (by decide)))
theorem q_read_45 {S0 : tq_St} {k l n : Nat} {x : Int32} (hG0 : RQ S0 G) (hw : wfQ G) (hk : k < 4) (hn : n ≤ 20) (hK : ∀ r S' A y, wfE A → aN A = aN (qA G) → y ≤ 3 → RQ S' (vO (vA G A) y) → FC S0 S' → K r S') : ∀ (m i f : Nat) (A : aE) (S : tq_St), i + m = n → m < f → wfE A → aN A = aN (qA G) → RC S 1 A → Fr 1 S0 S → wp_X6_read_45 K f (nI k) (nI l) x (nI n) 0 (nI i) S
  | 0, i, f + 1, A, S, h1, h2, hwA, hA, hR, hF => by
    unfold wp_X6_read_45
    exact pk_le n i (fun _ => q_rd128 (y := 0) hG0 hw hwA hF hR (fun S' a b => hK _ S' A 0 hwA hA (by omega) a b)) (fun z => absurd z (by omega))
  | m + 1, i, f + 1, A, S, h1, h2, hwA, hA, hR, hF => by
    have hx := hF.fx (Or.inl (by decide))
    have hG := hG0.fx hx
    have hend : ∀ y, y ≤ 3 → wp_X6_read_128 K (nI y) (nI i) S := fun y hy => q_rd128 (y := y) hG0 hw hwA hF hR (fun S' a b => hK _ S' A y hwA hA hy a b)
    have hback : ∀ r S', Fr 1 S0 S' → K r S' := fun r S' f' => by
      have hx' := f'.fx (Or.inl (by decide))
      exact hK r S' (qA G) (qO G) hw.1 rfl hw.2.2.2.2.2.2.2 (hG0.fx hx') hx'.fc
    unfold wp_X6_read_45
    rw [nI_clamp (n := k) (by omega)]
    refine pk_le n i (fun z => absurd z (by omega)) (fun _ => ⟨vp_in_nI (by omega) (by decide), ?_⟩)
    refine c_faultAt hG hw hk (fun e => ⟨fun z => absurd z (by decide), fun _ => hend 1 (by omega)⟩) (fun l' e hne => ⟨fun z => absurd z (by decide), fun _ => hend 3 (by omega)⟩) (fun l' e _ hno => ⟨fun z => absurd z (by decide), fun _ => hend 2 (by omega)⟩) (fun l' j e _ hj ej => ⟨fun _ => ?_, fun z => absurd rfl z⟩)
    have hl40 := hw.2.2.2.2.2.2.1 k
    rw [ej]
    refine ⟨vp_in_nI (by omega) (by decide), vp_in_nI (by omega) (by decide), nm_e ?_⟩
    refine c_isAct hR hwA (fun a ha ea => ⟨fun z => absurd z (by decide), fun _ => ?_⟩) (fun hno => ⟨fun _ => hback _ S hF, fun z => absurd rfl z⟩)
    rw [ea]
    refine c_play hR hwA ha (fun S' a1 a2 _ _ _ => ⟨fun _ => nm_r (nI_1 i) ?_, fun _ => hback _ S' (hF.tr a2)⟩)
    exact q_read_45 hG0 hw hk hn hK m (i + 1) f _ S' (by omega) (by omega) (playF_wf hwA _) ((playF_same A _).1.trans hA) a1 (hF.tr a2)
theorem q_read {x y z w : Int32} (hG : RQ S G) (hw : wfQ G) (hK : ∀ r S' A y, wfE A → aN A = aN (qA G) → y ≤ 3 → RQ S' (vO (vA G A) y) → FC S S' → K r S') : wp_X6_read x y z w S K := by
  have hS := fun r => hK r S (qA G) (qO G) hw.1 rfl hw.2.2.2.2.2.2.2 hG FC.rf
  unfold wp_X6_read
  refine c_isSheet (fun k hk e => ⟨fun _ => hS _, fun _ => ?_⟩) (fun hno => ⟨fun _ => hS _, fun z => absurd rfl z⟩)
  subst e
  refine c_isLane (fun l hl e => ⟨fun _ => hS _, fun _ => ?_⟩) (fun hno => ⟨fun _ => hS _, fun z => absurd rfl z⟩)
  subst e
  refine ⟨fun _ => hS _, fun z1 => ⟨fun z2 => ?_, fun _ => hS _⟩⟩
  obtain ⟨n, hn, rfl⟩ := nI_of2 (n := 20) (by decide) z1 z2
  refine c_startFrom hG.1 hw.1 (by decide) (fun S1 a1 a2 a3 => ?_)
  exact q_read_45 (S0 := S) hG hw (by omega) hn hK n 0 2000 (qA G) S1 (by omega) (by omega) hw.1 rfl a1 a2
end Q8
end
section
section Q9
variable {S S0 : tq_St} {G : aQ} {K : Int32 → tq_St → Prop} {KV : tq_St → Prop}
-- THE TEXT (what is safe; what is told is free here)
/-- a draft: acts may be of nobody -/
def wfD (A : aE) : Prop := aN A ≤ 5 ∧ (∀ p, aK A p < 4) ∧ (∀ p, aS A p ≤ 40) ∧ (∀ p, aW A p ≤ 1000) ∧ aG A < 2 ^ aN A ∧ aM A ≤ 999 ∧ (1 ≤ aR A ∧ aR A ≤ 5) ∧ (1 ≤ aT A ∧ aT A ≤ 9) ∧ aC A ≤ 8 ∧ ∀ i, i < aC A → aA A i ≤ 6
/-- while it is read -/
def XT (S0 S : tq_St) (len : Nat) : Prop := (∀ o, o ≠ 19 → o ≠ 2 → S.1 o = S0.1 o ∧ S.2.1 o = S0.2.1 o) ∧ S.2.2 = S0.2.2 ∧ S.2.1 19 = S0.2.1 19 ∧ S.1 19 2 = nI len ∧ (∃ st pl, st ≤ pl ∧ pl ≤ len ∧ S.1 19 8 = nI st ∧ S.1 19 6 = nI pl) ∧ (∃ y, y ≤ 6 ∧ S.1 19 3 = nI y) ∧ ∃ A, wfD A ∧ RC S 2 A
theorem XT.dr {len : Nat} (h : XT S0 S len) {S' : tq_St} (f : Fr 2 S S') {A : aE} (hw : wfD A) (hR : RC S' 2 A) : XT S0 S' len := by
  obtain ⟨h1, h2, h3, h4, h5, h6, h7⟩ := h
  have f19 := f.1 19 (by decide)
  refine ⟨fun o a b => ⟨((f.1 o b).1).trans (h1 o a b).1, ((f.1 o b).2).trans (h1 o a b).2⟩, f.2.trans h2, f19.2.trans h3, by rw [f19.1]; exact h4, by rw [f19.1]; exact h5, by rw [f19.1]; exact h6, A, hw, hR⟩
/-- a number of the tape is written: not its length, its place or start, its fault -/
theorem XT.i {len : Nat} (h : XT S0 S len) {k : Nat} (hk : k ≠ 2 ∧ k ≠ 8 ∧ k ≠ 6 ∧ k ≠ 3) (v : Int32) : XT S0 (sI S 19 k v) len := by
  obtain ⟨h1, h2, h3, h4, ⟨st, pl, a1, a2, a3, a4⟩, ⟨y, b1, b2⟩, A, c1, c2⟩ := h
  refine ⟨fun o a b => ⟨(sI_1n S a).trans (h1 o a b).1, (h1 o a b).2⟩, h2, h3, ?_, ⟨st, pl, a1, a2, ?_, ?_⟩, ⟨y, b1, ?_⟩, A, c1, c2.fr ((Fr.rf (o := 19)).I _ _) (by decide)⟩
  · rw [sI_1, if_neg (by omega)]; exact h4
  · rw [sI_1, if_neg (by omega)]; exact a3
  · rw [sI_1, if_neg (by omega)]; exact a4
  · rw [sI_1, if_neg (by omega)]; exact b2
theorem XT.f {len : Nat} (h : XT S0 S len) {y : Nat} (hy : y ≤ 6) : XT S0 (sI S 19 3 (nI y)) len := by
  obtain ⟨h1, h2, h3, h4, ⟨st, pl, a1, a2, a3, a4⟩, -, A, c1, c2⟩ := h
  refine ⟨fun o a b => ⟨(sI_1n S a).trans (h1 o a b).1, (h1 o a b).2⟩, h2, h3, ?_, ⟨st, pl, a1, a2, ?_, ?_⟩, ⟨y, hy, ?_⟩, A, c1, c2.fr ((Fr.rf (o := 19)).I _ _) (by decide)⟩
  · rw [sI_1, if_neg (by decide)]; exact h4
  · rw [sI_1, if_neg (by decide)]; exact a3
  · rw [sI_1, if_neg (by decide)]; exact a4
  · rw [sI_1, if_pos rfl]
theorem XT.pl {len : Nat} (h : XT S0 S len) {st pl : Nat} (h8 : S.1 19 8 = nI st) (hs : st ≤ pl) (hp : pl ≤ len) : XT S0 (sI S 19 6 (nI pl)) len := by
  obtain ⟨h1, h2, h3, h4, -, ⟨y, b1, b2⟩, A, c1, c2⟩ := h
  refine ⟨fun o a b => ⟨(sI_1n S a).trans (h1 o a b).1, (h1 o a b).2⟩, h2, h3, ?_, ⟨st, pl, hs, hp, ?_, ?_⟩, ⟨y, b1, ?_⟩, A, c1, c2.fr ((Fr.rf (o := 19)).I _ _) (by decide)⟩
  · rw [sI_1, if_neg (by decide)]; exact h4
  · rw [sI_1, if_neg (by decide)]; exact h8
  · rw [sI_1, if_pos rfl]
  · rw [sI_1, if_neg (by decide)]; exact b2
theorem XT.st {len : Nat} (h : XT S0 S len) {pl : Nat} (h6 : S.1 19 6 = nI pl) (hp : pl ≤ len) : XT S0 (sI S 19 8 (nI pl)) len := by
  obtain ⟨h1, h2, h3, h4, -, ⟨y, b1, b2⟩, A, c1, c2⟩ := h
  refine ⟨fun o a b => ⟨(sI_1n S a).trans (h1 o a b).1, (h1 o a b).2⟩, h2, h3, ?_, ⟨pl, pl, Nat.le_refl _, hp, ?_, ?_⟩, ⟨y, b1, ?_⟩, A, c1, c2.fr ((Fr.rf (o := 19)).I _ _) (by decide)⟩
  · rw [sI_1, if_neg (by decide)]; exact h4
  · rw [sI_1, if_pos rfl]
  · rw [sI_1, if_neg (by decide)]; exact h6
  · rw [sI_1, if_neg (by decide)]; exact b2
theorem t_fail {len y : Nat} {x : Int32} (h : XT S0 S len) (hy : y ≤ 6) (hK : ∀ S', XT S0 S' len → KV S') : wp_X5_fail (nI y) x S KV := by
  unfold wp_X5_fail
  exact ⟨fun _ => hK S h, fun _ => nm_e (nm_e (hK _ ((h.f hy).i (by decide) x)))⟩
theorem t_sort {x : Int32} (hK : ∀ r, K r S) : wp_X5_sortOf x S K := by
  have h28 : wp_X5_sortOf_28 K x S := ⟨fun _ => hK _, fun _ => hK _⟩
  have h14 : wp_X5_sortOf_14 K x S := ⟨fun _ => h28, fun _ => ⟨fun _ => h28, fun _ => hK _⟩⟩
  exact ⟨fun _ => h14, fun _ => ⟨fun _ => h14, fun _ => hK _⟩⟩
theorem t_tok_215 {len : Nat} (h : XT S0 S len) (hK : ∀ S', XT S0 S' len → KV S') : wp_X5_takeToken_215 KV S := by
  unfold wp_X5_takeToken_215
  exact ⟨fun _ => hK S h, fun _ => t_fail (y := 1) h (by decide) hK⟩
theorem t_tok_189 {len : Nat} (h : XT S0 S len) (hK : ∀ S', XT S0 S' len → KV S') : wp_X5_takeToken_189 KV S := by
  unfold wp_X5_takeToken_189
  exact ⟨fun _ => t_tok_215 h hK, fun _ => ⟨fun _ => t_tok_215 h hK, fun _ => nm_e (t_tok_215 (h.i (by decide) _) hK)⟩⟩
theorem t_tok_104 {len st : Nat} {v : Int32} (hl : len ≤ 160) (hK : ∀ S', XT S0 S' len → KV S') : ∀ (m pl f : Nat) (S : tq_St), pl + m = len → m < f → st ≤ pl → XT S0 S len → S.1 19 6 = nI pl → S.1 19 8 = nI st → wp_X5_takeToken_104 KV f v S
  | 0, pl, f + 1, S, h1, h2, hs, h, h6, h8 => by
    unfold wp_X5_takeToken_104
    rw [h.2.2.2.1, h6]
    exact pk_le len pl (fun _ => t_tok_189 h hK) (fun z => absurd z (by omega))
  | m + 1, pl, f + 1, S, h1, h2, hs, h, h6, h8 => by
    unfold wp_X5_takeToken_104
    rw [h.2.2.2.1, h6]
    have hin : vp_in (nI pl) 160 := vp_in_nI (by omega) (by decide)
    have h152 : wp_X5_takeToken_152 KV (wp_X5_takeToken_104 KV f) v S := by
      unfold wp_X5_takeToken_152
      rw [h6]
      refine ⟨hin, nm_e (nm_r (by rw [sI_1, if_neg (by decide), h6, nI_1]) ?_)⟩
      have h' := (h.i (k := 9) (by decide) (S.1 19 9 * 10 + (S.2.1 19 0 (nI pl).toNatClampNeg - 48)))
      refine t_tok_104 (st := st) hl hK m (pl + 1) f _ (by omega) (by omega) (by omega) (h'.pl (st := st) ?_ (by omega) (by omega)) ?_ ?_
      · rw [sI_1, if_neg (by decide)]; exact h8
      · rw [sI_1, if_pos rfl]
      · rw [sI_1, if_neg (by decide), sI_1, if_neg (by decide)]; exact h8
    refine pk_le len pl (fun z => absurd z (by omega)) (fun _ => ⟨fun _ => ⟨fun _ => t_tok_189 h hK, fun _ => h152⟩, fun _ => ⟨hin, t_sort (fun r => ⟨fun _ => t_tok_189 h hK, fun _ => h152⟩)⟩⟩)
theorem t_tok_38 {len pl : Nat} (hl : len ≤ 160) (h : XT S0 S len) (h6 : S.1 19 6 = nI pl) (hp : pl ≤ len) (hK : ∀ S', XT S0 S' len → KV S') : wp_X5_takeToken_38 KV S := by
  have h79 : ∀ (r : Int32) (S' : tq_St), XT S0 S' len → S'.1 19 6 = nI pl → S'.1 19 8 = nI pl → wp_X5_takeToken_79 KV r S' := by
    intro r S' x1 x2 x3
    unfold wp_X5_takeToken_79
    refine nm_e ?_
    have y1 := x1.i (k := 7) (by decide) r
    have y2 : (sI S' 19 7 r).1 19 6 = nI pl := by rw [sI_1, if_neg (by decide)]; exact x2
    have y3 : (sI S' 19 7 r).1 19 8 = nI pl := by rw [sI_1, if_neg (by decide)]; exact x3
    have hgo := fun v : Int32 => t_tok_104 (v := v) hl hK (len - pl) pl 2000 _ (by omega) (by omega) (Nat.le_refl _) y1 y2 y3
    exact ⟨fun _ => hgo 1, fun _ => ⟨fun _ => hgo 0, fun _ => hgo 1⟩⟩
  unfold wp_X5_takeToken_38
  rw [h6]
  refine nm_e (nm_e ?_)
  have h1 := (h.st h6 hp).i (k := 9) (by decide) 0
  have e6 : (sI (sI S 19 8 (nI pl)) 19 9 0).1 19 6 = nI pl := by rw [sI_1, if_neg (by decide), sI_1, if_neg (by decide)]; exact h6
  have e8 : (sI (sI S 19 8 (nI pl)) 19 9 0).1 19 8 = nI pl := by rw [sI_1, if_neg (by decide), sI_1, if_pos rfl]
  rw [h1.2.2.2.1, e6]
  exact pk_le len pl (fun _ => h79 _ _ h1 e6 e8) (fun z => ⟨vp_in_nI (by omega) (by decide), t_sort (fun r => h79 r _ h1 e6 e8)⟩)
theorem t_tok_0 {len st : Nat} (hl : len ≤ 160) (hK : ∀ S', XT S0 S' len → KV S') : ∀ (m pl f : Nat) (S : tq_St), pl + m = len → m < f → st ≤ pl → XT S0 S len → S.1 19 6 = nI pl → S.1 19 8 = nI st → wp_X5_takeToken_0 KV f S
  | 0, pl, f + 1, S, h1, h2, hs, h, h6, h8 => by
    unfold wp_X5_takeToken_0
    rw [h.2.2.2.1, h6]
    exact pk_le len pl (fun _ => t_tok_38 hl h h6 (by omega) hK) (fun z => absurd z (by omega))
  | m + 1, pl, f + 1, S, h1, h2, hs, h, h6, h8 => by
    unfold wp_X5_takeToken_0
    rw [h.2.2.2.1, h6]
    refine pk_le len pl (fun z => absurd z (by omega)) (fun _ => ⟨vp_in_nI (by omega) (by decide), fun _ => t_tok_38 hl h h6 (by omega) hK, fun _ => nm_r (e' := sI S 19 6 (nI (pl + 1))) (by rw [nI_1]) ?_⟩)
    refine t_tok_0 (st := st) hl hK m (pl + 1) f _ (by omega) (by omega) (by omega) (h.pl h8 (by omega) (by omega)) ?_ ?_
    · rw [sI_1, if_pos rfl]
    · rw [sI_1, if_neg (by decide)]; exact h8
theorem t_tok {len : Nat} (hl : len ≤ 160) (h : XT S0 S len) (hK : ∀ S', XT S0 S' len → KV S') : wp_X5_takeToken S KV := by
  obtain ⟨st, pl, a1, a2, a3, a4⟩ := h.2.2.2.2.1
  exact t_tok_0 hl hK (len - pl) pl 2000 S (by omega) (by omega) a1 h a4 a3
-- NAMES
theorem t_len {o : Nat} (ho : o < 7) (hK : K (nI (tq_len.getD o 0)) S) : wp_J0_length_8abf5 o S K := by
  unfold wp_J0_length_8abf5 wp_J0_coder_7d493
  refine ⟨fun z => absurd z (by decide), fun _ => ⟨by decide +kernel, ?_⟩⟩
  show K (nI (tq_len.getD o 0) >>> ((0 : Int32) &&& 31)) S
  rw [sb_shr0]
  exact hK
theorem t_charAt {o j : Nat} (ho : o < 7) (hj : j < tq_len.getD o 0) (hl : tq_len.getD o 0 ≤ 5) (hK : K ((tq_byt.getD o []).getD j 0 &&& 255) S) : wp_J0_charAt_5068e o (nI j) S K := by
  unfold wp_J0_charAt_5068e wp_J0_isLatin1_aae02
  refine ⟨fun z => absurd z (by decide), fun _ => ⟨fun z => absurd rfl z, fun _ => ⟨fun z => absurd z (by decide), fun _ => ?_⟩⟩⟩
  unfold wp_J1_charAt_3b067 wp_J0_checkIndex_df160 wp_J3_checkIndex_8e157
  refine ⟨fun z => absurd z (nI_pos (by omega)), fun _ => pk_lt j (tq_len.getD o 0) (fun _ => ?_) (fun z => absurd z (by omega))⟩
  rw [nI_clamp (by omega), sc_c2]
  exact ⟨vp_in_nI hj (by omega), sc_nar _, sc_nar _, hK⟩
theorem tq_len5 : ∀ o, o < 7 → tq_len.getD o 0 ≤ 5 := by decide
theorem t_isName_20 {len o st : Nat} (ho : o < 7) (hl : len ≤ 160) (h8 : S.1 19 8 = nI st) (hs : st + tq_len.getD o 0 ≤ len) (hK : ∀ r, (r = 0 ∨ r = 1) → K r S) : ∀ (m i f : Nat), i + m = tq_len.getD o 0 → m < f → wp_X5_isName_20 o K f (nI i) S
  | 0, i, f + 1, h1, h2 => by
    have h5 := tq_len5 o ho
    unfold wp_X5_isName_20
    exact t_len ho (pk_le (tq_len.getD o 0) i (fun _ => hK 1 (Or.inr rfl)) (fun z => absurd z (by omega)))
  | m + 1, i, f + 1, h1, h2 => by
    have h5 := tq_len5 o ho
    unfold wp_X5_isName_20
    refine t_len ho (pk_le (tq_len.getD o 0) i (fun z => absurd z (by omega)) (fun hi => ?_))
    rw [h8, nI_add]
    refine ⟨vp_in_nI (by omega) (by decide), t_charAt ho hi h5 ⟨fun _ => nm_r (nI_1 i) ?_, fun _ => hK 0 (Or.inl rfl)⟩⟩
    exact t_isName_20 ho hl h8 hs hK m (i + 1) f (by omega) (by omega)
theorem t_isName {len o : Nat} (ho : o < 7) (hl : len ≤ 160) (h : XT S0 S len) (hK : ∀ r, (r = 0 ∨ r = 1) → K r S) : wp_X5_isName o S K := by
  obtain ⟨st, pl, a1, a2, a3, a4⟩ := h.2.2.2.2.1
  have h5 := tq_len5 o ho
  unfold wp_X5_isName
  refine t_len ho ?_
  rw [a3, a4, pk_sub a1]
  refine ⟨fun e => ?_, fun _ => hK 0 (Or.inl rfl)⟩
  have e2 := (nI_eq (by omega) (by omega)).mp e
  exact t_isName_20 ho hl a3 (by omega) hK (tq_len.getD o 0) 0 2000 (by omega) (by omega)
theorem t_lineBegun {len : Nat} (hl : len ≤ 160) (h : XT S0 S len) (hK : ∀ k, k ≤ 7 → K (nI k) S) : wp_X5_lineBegun S K := by
  have hloop : ∀ (m i f : Nat), i + m = 7 → m < f → wp_X5_lineBegun_13 K f (nI i) S := by
    intro m
    induction m with
    | zero =>
      intro i f h1 h2
      obtain ⟨f, rfl⟩ : ∃ k, f = k + 1 := ⟨f - 1, by omega⟩
      exact pk_le 7 i (fun _ => hK 7 (by decide)) (fun z => absurd z (by omega))
    | succ m ih =>
      intro i f h1 h2
      obtain ⟨f, rfl⟩ : ∃ k, f = k + 1 := ⟨f - 1, by omega⟩
      unfold wp_X5_lineBegun_13
      refine pk_le 7 i (fun z => absurd z (by omega)) (fun hi => ?_)
      have hn : ∀ o, o < 7 → o < 7 ∧ wp_X5_isName o S (fun r6 S7 => ((r6 : Int32) = 0 → ∀ x10 : Int32, x10 = nI i + 1 → wp_X5_lineBegun_13 K f x10 S7) ∧ (¬ (r6 : Int32) = 0 → K (nI i) S7)) := by
        intro o ho
        exact ⟨ho, t_isName ho hl h (fun r hr => ⟨fun _ => nm_r (nI_1 i) (ih (i + 1) f (by omega) (by omega)), fun _ => hK i (by omega)⟩)⟩
      unfold wp_X5_nameOf
      exact ⟨fun _ => hn 6 (by decide), fun _ => hn 0 (by decide), fun _ => hn 1 (by decide), fun _ => hn 2 (by decide), fun _ => hn 3 (by decide), fun _ => hn 4 (by decide), fun _ => hn 5 (by decide)⟩
  unfold wp_X5_lineBegun
  exact ⟨fun _ => hloop 7 0 2000 (by omega) (by omega), fun _ => hK 7 (by decide)⟩
-- NUMBERS, LINES
theorem t_number {len lo hi : Nat} (hl : len ≤ 160) (h : XT S0 S len) (hlh : lo ≤ hi) (hh : hi ≤ 100) (hK : ∀ v S', lo ≤ v → v ≤ hi → XT S0 S' len → K (nI v) S') : wp_X5_takeNumber (nI lo) (nI hi) S K := by
  have h44 : wp_X5_takeNumber_44 K (nI lo) S := t_fail (y := 3) h (by decide) (fun S' a => hK lo S' (Nat.le_refl _) hlh a)
  unfold wp_X5_takeNumber
  refine ⟨fun _ => ⟨fun _ => ⟨fun _ => h44, fun z1 => ⟨fun z2 => nm_e ?_, fun _ => h44⟩⟩, fun _ => t_fail (y := 2) h (by decide) (fun S' a => hK lo S' (Nat.le_refl _) hlh a)⟩, fun _ => hK lo S (Nat.le_refl _) hlh h⟩
  obtain ⟨v, hv1, hv2, e⟩ := ix_bd (by omega) (by omega) z1 z2
  rw [e]
  exact t_tok hl h (fun S' a => hK v S' hv1 hv2 a)
theorem t_semi {len : Nat} (hl : len ≤ 160) (h : XT S0 S len) (hK : ∀ S', XT S0 S' len → KV S') : wp_X5_takeSemicolon S KV := by
  unfold wp_X5_takeSemicolon
  exact ⟨fun _ => ⟨fun _ => t_tok hl h hK, fun _ => t_fail (y := 2) h (by decide) hK⟩, fun _ => hK S h⟩
def addO (A : aE) (k s : Nat) : aE := (aN A + 1, un (aK A) (aN A) k, un (aS A) (aN A) s, un (aW A) (aN A) 0, aG A, aM A, aR A, aT A, aC A, aA A)
theorem addO_wf {A : aE} (hw : wfD A) (hn : aN A < 5) {k s : Nat} (hk : k < 4) (hs : s ≤ 40) : wfD (addO A k s) := by
  obtain ⟨h1, h2, h3, h4, h5, h6⟩ := hw
  refine ⟨by show aN A + 1 ≤ 5; omega, fun q => ?_, un_le h3 hs, un_le h4 (by omega), ?_, h6⟩
  · show un (aK A) (aN A) k q < 4
    have := h2 q
    unfold un
    split <;> omega
  · show aG A < 2 ^ (aN A + 1)
    have : 2 ^ aN A < 2 ^ (aN A + 1) := Nat.pow_lt_pow_right (by decide) (by omega)
    omega
theorem c_addOne {o k s : Nat} {A : aE} (hR : RC S o A) (hn : aN A ≤ 5) (h1 : aN A < 5 → ∀ S', RC S' o (addO A k s) → Fr o S S' → KV S') (h0 : aN A = 5 → KV S) : wp_X1_addOne o (nI k) (nI s) S KV := by
  obtain ⟨h5, h6, h7, h8, h9, h10, hk, hs, hw, ha⟩ := hR
  unfold wp_X1_addOne
  rw [h5]
  refine pk_le 5 (aN A) (fun z => h0 (by omega)) (fun z => ?_)
  have hin : vp_in (nI (aN A)) 5 := vp_in_nI (by omega) (by decide)
  refine ⟨hin, nm_e ?_⟩
  rw [sA_1, h5]
  refine ⟨hin, nm_e ?_⟩
  rw [sA_1, sA_1, h5]
  refine ⟨hin, nm_e ?_⟩
  rw [sA_1, sA_1, sA_1, h5, nI_clamp (by omega)]
  rw [nI_1]
  refine nm_e (h1 z _ ⟨?_, ?_, ?_, ?_, ?_, ?_, fun q hq => ?_, fun q hq => ?_, fun q hq => ?_, fun i hi => ?_⟩ ((((Fr.rf.A _ _ _).A _ _ _).A _ _ _).I _ _))
  · rw [sI_1, if_pos rfl]; rfl
  · rw [sI_1, if_neg (by decide)]; exact h6
  · rw [sI_1, if_neg (by decide)]; exact h7
  · rw [sI_1, if_neg (by decide)]; exact h8
  · rw [sI_1, if_neg (by decide)]; exact h9
  · rw [sI_1, if_neg (by decide)]; exact h10
  · have hq : q < aN A + 1 := hq
    show (sA (sA (sA S o 0 (aN A) (nI k)) o 1 (aN A) (nI s)) o 2 (aN A) (-1)).2.1 o 0 q = nI (un (aK A) (aN A) k q)
    rw [sA_nk _ _ _ _ _ (by decide), sA_nk _ _ _ _ _ (by decide), sA_at]
    by_cases e : q = aN A
    · rw [if_pos e, e, un_s]
    · rw [if_neg e, un_n _ _ e]; exact hk q (by omega)
  · have hq : q < aN A + 1 := hq
    show (sA (sA (sA S o 0 (aN A) (nI k)) o 1 (aN A) (nI s)) o 2 (aN A) (-1)).2.1 o 1 q = nI (un (aS A) (aN A) s q)
    rw [sA_nk _ _ _ _ _ (by decide), sA_at, sA_nk _ _ _ _ _ (by decide)]
    by_cases e : q = aN A
    · rw [if_pos e, e, un_s]
    · rw [if_neg e, un_n _ _ e]; exact hs q (by omega)
  · have hq : q < aN A + 1 := hq
    show (sA (sA (sA S o 0 (aN A) (nI k)) o 1 (aN A) (nI s)) o 2 (aN A) (-1)).2.1 o 2 q = nI (un (aW A) (aN A) 0 q) - 1
    rw [sA_at, sA_nk _ _ _ _ _ (by decide), sA_nk _ _ _ _ _ (by decide)]
    by_cases e : q = aN A
    · rw [if_pos e, e, un_s]; decide
    · rw [if_neg e, un_n _ _ e]; exact hw q (by omega)
  · show (sA (sA (sA S o 0 (aN A) (nI k)) o 1 (aN A) (nI s)) o 2 (aN A) (-1)).2.1 o 3 i = _
    rw [sA_nk _ _ _ _ _ (by decide), sA_nk _ _ _ _ _ (by decide), sA_nk _ _ _ _ _ (by decide)]
    exact ha i hi
theorem t_one {len k : Nat} (hl : len ≤ 160) (h : XT S0 S len) (hk : k < 4) (hK : ∀ S', XT S0 S' len → KV S') : wp_X5_tellOne (nI k) S KV := by
  have h49 : ∀ (s : Nat) (S' : tq_St), s ≤ 40 → XT S0 S' len → wp_X5_tellOne_49 KV (nI k) (nI s) S' := by
    intro s S' hs h'
    obtain ⟨A, c1, c2⟩ := h'.2.2.2.2.2.2
    unfold wp_X5_tellOne_49
    exact c_addOne c2 c1.1 (fun hn S2 a1 a2 => hK S2 (h'.dr a2 (addO_wf c1 hn hk hs) a1)) (fun _ => hK S' h')
  obtain ⟨A, c1, c2⟩ := h.2.2.2.2.2.2
  unfold wp_X5_tellOne
  refine ⟨fun _ => t_tok hl h (fun S' h' => ⟨fun _ => h49 0 S' (by omega) h', fun _ => t_number (lo := 0) (hi := 40) hl h' (by omega) (by omega) (fun v S2 _ hv h2 => h49 v S2 hv h2)⟩), fun _ => t_fail (y := 5) h (by decide) hK⟩
theorem planA_wfD {A : aE} (hw : wfD A) (hc : aC A < 8) {a : Nat} (ha : a ≤ 6) : wfD (planA A a) := by
  obtain ⟨h1, h2, h3, h4, h5, h6, h7, h8, h9, h10⟩ := hw
  refine ⟨h1, h2, h3, h4, h5, h6, h7, h8, by show aC A + 1 ≤ 8; omega, fun i hi => ?_⟩
  have hi : i < aC A + 1 := hi
  show un (aA A) (aC A) a i ≤ 6
  by_cases e : i = aC A
  · subst e; rw [un_s]; exact ha
  · rw [un_n _ _ e]; exact h10 i (by omega)
theorem t_plan_2 {len : Nat} (hl : len ≤ 160) (hK : ∀ S', XT S0 S' len → KV S') : ∀ (m i f : Nat) (S : tq_St), i + m = 9 → m < f → XT S0 S len → wp_X5_tellPlan_2 KV f (nI i) S
  | 0, i, f + 1, S, h1, h2, h => by
    unfold wp_X5_tellPlan_2
    exact pk_lt 8 i (fun _ => hK S h) (fun z => absurd z (by omega))
  | m + 1, i, f + 1, S, h1, h2, h => by
    unfold wp_X5_tellPlan_2
    refine pk_lt 8 i (fun z => absurd z (by omega)) (fun _ => ⟨fun _ => hK S h, fun _ => ⟨fun _ => hK S h, fun _ => ⟨fun _ => ?_, fun _ => ?_⟩⟩⟩)
    · refine t_number (lo := 0) (hi := 6) hl h (by omega) (by omega) (fun v S2 _ hv x2 => ?_)
      obtain ⟨A, c1, c2⟩ := x2.2.2.2.2.2.2
      refine c_addAct c2 c1.2.2.2.2.2.2.2.2.1 (fun hc S3 a1 a2 a3 a4 => nm_r (nI_1 i) ?_) (fun _ => nm_r (nI_1 i) ?_)
      · exact t_plan_2 hl hK m (i + 1) f S3 (by omega) (by omega) (x2.dr a2 (planA_wfD c1 hc hv) a1)
      · exact t_plan_2 hl hK m (i + 1) f S2 (by omega) (by omega) x2
    · exact t_fail (y := 5) h (by decide) (fun S2 x2 => nm_r (nI_1 i) (t_plan_2 hl hK m (i + 1) f S2 (by omega) (by omega) x2))
theorem t_line {len : Nat} (hl : len ≤ 160) (h : XT S0 S len) (hK : ∀ S', XT S0 S' len → KV S') : wp_X5_tellLine S KV := by
  have h123 : ∀ S', XT S0 S' len → wp_X5_tellLine_123 KV S' := fun S' x => t_semi hl x hK
  unfold wp_X5_tellLine
  refine t_lineBegun hl h (fun k hk => ⟨fun _ => pk_le 4 k (fun _ => ⟨fun _ => nm_e ?_, fun _ => t_fail (y := 4) h (by decide) h123⟩) (fun hk4 => t_one hl h hk4 h123), fun _ => t_fail (y := 2) h (by decide) h123⟩)
  refine t_tok hl (h.i (by decide) _) (fun S2 x2 => ⟨fun _ => ⟨fun _ => ?_, fun _ => ?_⟩, fun _ => ?_⟩)
  · unfold wp_X5_tellPlan
    exact t_plan_2 hl h123 9 0 2000 S2 (by omega) (by omega) x2
  · refine t_number (lo := 1) (hi := 9) hl x2 (by omega) (by omega) (fun v S3 hv1 hv2 x3 => nm_e ?_)
    obtain ⟨A, c1, c2⟩ := x3.2.2.2.2.2.2
    exact h123 _ (x3.dr (Fr.rf.I _ _) (A := uT A v) ⟨c1.1, c1.2.1, c1.2.2.1, c1.2.2.2.1, c1.2.2.2.2.1, c1.2.2.2.2.2.1, c1.2.2.2.2.2.2.1, ⟨hv1, hv2⟩, c1.2.2.2.2.2.2.2.2⟩ (c2.h v))
  · refine t_number (lo := 1) (hi := 5) hl x2 (by omega) (by omega) (fun v S3 hv1 hv2 x3 => nm_e ?_)
    obtain ⟨A, c1, c2⟩ := x3.2.2.2.2.2.2
    exact h123 _ (x3.dr (Fr.rf.I _ _) (A := uR A v) ⟨c1.1, c1.2.1, c1.2.2.1, c1.2.2.2.1, c1.2.2.2.2.1, c1.2.2.2.2.2.1, ⟨hv1, hv2⟩, c1.2.2.2.2.2.2.2⟩ (c2.r v))
end Q9
end
section
section QT
variable {S S0 : tq_St} {G : aQ} {K : Int32 → tq_St → Prop} {KV : tq_St → Prop}
theorem c_isActN {o n : Nat} {x : Int32} (h5 : S.1 o 5 = nI n) (hn : n ≤ 5) (h1 : ∀ a, okA n a → x = nI a → K 1 S) (h0 : (∀ a, okA n a → x ≠ nI a) → K 0 S) : wp_X1_isAct o x S K := by
  unfold wp_X1_isAct
  refine c_isThere h5 hn (fun j hj e => ⟨fun _ => h1 j (Or.inl hj) e, fun z => absurd z (by decide)⟩) (fun hno => ⟨fun z => absurd rfl z, fun _ => ?_⟩)
  refine ⟨fun e => h1 5 (Or.inr (Or.inl rfl)) e, fun e5 => ⟨fun e6 => h0 (fun a ha e => ?_), fun e => h1 6 (Or.inr (Or.inr rfl)) e⟩⟩
  rcases ha with ha | ha | ha
  · exact hno a ha e
  · subst ha; exact e5 e
  · subst ha; exact e6 e
theorem c_fit_2 {o : Nat} {A : aE} (hw : wfD A) (hR : RC S o A) (h1 : (∀ i, i < aC A → okA (aN A) (aA A i)) → K 1 S) (h0 : (¬ ∀ i, i < aC A → okA (aN A) (aA A i)) → K 0 S) : ∀ (m i f : Nat), i + m = aC A → m < f → (∀ j, j < i → okA (aN A) (aA A j)) → wp_X1_allActsFit_2 o K f (nI i) S
  | 0, i, f + 1, h2, h3, h4 => by
    have hc := hw.2.2.2.2.2.2.2.2.1
    unfold wp_X1_allActsFit_2
    rw [hR.2.2.2.2.2.1]
    exact pk_le (aC A) i (fun _ => h1 (fun j hj => h4 j (by omega))) (fun z => absurd z (by omega))
  | m + 1, i, f + 1, h2, h3, h4 => by
    have hc := hw.2.2.2.2.2.2.2.2.1
    have h6 := hw.2.2.2.2.2.2.2.2.2 i (by omega)
    have hn := hw.1
    unfold wp_X1_allActsFit_2
    rw [hR.2.2.2.2.2.1]
    refine pk_le (aC A) i (fun z => absurd z (by omega)) (fun hi => ⟨vp_in_nI (by omega) (by decide), ?_⟩)
    rw [nI_clamp (by omega), hR.2.2.2.2.2.2.2.2.2 i hi]
    refine c_isActN hR.1 hw.1 (fun a ha e => ⟨fun _ => nm_r (nI_1 i) ?_, fun z => absurd z (by decide)⟩) (fun hno => ⟨fun z => absurd rfl z, fun _ => h0 (fun hall => hno _ (hall i hi) rfl)⟩)
    refine c_fit_2 hw hR h1 h0 m (i + 1) f (by omega) (by omega) (fun j hj => ?_)
    by_cases c : j = i
    · subst c
      have : a < 2 ^ 31 := by unfold okA at ha; omega
      rw [(nI_eq (by omega) this).mp e]; exact ha
    · exact h4 j (by omega)
theorem c_fit {o : Nat} {A : aE} (hw : wfD A) (hR : RC S o A) (h1 : (∀ i, i < aC A → okA (aN A) (aA A i)) → K 1 S) (h0 : (¬ ∀ i, i < aC A → okA (aN A) (aA A i)) → K 0 S) : wp_X1_allActsFit o S K :=
  c_fit_2 hw hR h1 h0 (aC A) 0 2000 (by omega) (by have := hw.2.2.2.2.2.2.2.2.1; omega) (fun j hj => by omega)
theorem wfD.e {A : aE} (hw : wfD A) (h : ∀ i, i < aC A → okA (aN A) (aA A i)) : wfE A := ⟨hw.1, hw.2.1, hw.2.2.1, hw.2.2.2.1, hw.2.2.2.2.1, hw.2.2.2.2.2.1, hw.2.2.2.2.2.2.1, hw.2.2.2.2.2.2.2.1, hw.2.2.2.2.2.2.2.2.1, h⟩
/-- behind the text -/
def YT (S0 S : tq_St) : Prop := (∀ o, o ≠ 19 → o ≠ 2 → S.1 o = S0.1 o ∧ S.2.1 o = S0.2.1 o) ∧ S.2.1 19 = S0.2.1 19 ∧ S.1 19 2 = 0 ∧ ∃ y, y ≤ 6 ∧ S.1 19 3 = nI y ∧ (y = 0 → ∃ A, wfE A ∧ RC S 2 A)
theorem t_91 {len : Nat} {v : Int32} (h : XT S0 S len) (h2 : S.1 19 3 = 0 → ∃ A, wfE A ∧ RC S 2 A) (hK : ∀ r S', YT S0 S' → K r S') : wp_X5_tellAll_91 K v S := by
  obtain ⟨h1, -, h3, h4, -, ⟨y, b1, b2⟩, -⟩ := h
  unfold wp_X5_tellAll_91
  refine nm_e ?_
  have hy : YT S0 (sI S 19 2 0) := by
    refine ⟨fun o a b => ⟨(sI_1n S a).trans (h1 o a b).1, (h1 o a b).2⟩, h3, by rw [sI_1, if_pos rfl], y, b1, by rw [sI_1, if_neg (by decide)]; exact b2, fun e => ?_⟩
    obtain ⟨A, c1, c2⟩ := h2 (by rw [b2, e]; rfl)
    exact ⟨A, c1, c2.fr ((Fr.rf (o := 19)).I _ _) (by decide)⟩
  exact ⟨fun _ => hK _ _ hy, fun _ => hK _ _ hy⟩
theorem t_64 {len : Nat} {v : Int32} (h : XT S0 S len) (hK : ∀ r S', YT S0 S' → K r S') : wp_X5_tellAll_64 K v S := by
  unfold wp_X5_tellAll_64
  refine ⟨fun z => t_91 h (fun e => absurd e z) hK, fun z => ?_⟩
  obtain ⟨A, c1, c2⟩ := h.2.2.2.2.2.2
  refine c_fit c1 c2 (fun hall => ⟨fun _ => t_91 h (fun _ => ⟨A, c1.e hall, c2⟩) hK, fun z => absurd z (by decide)⟩) (fun hno => ⟨fun z => absurd rfl z, fun _ => ?_⟩)
  unfold wp_X5_fail
  refine ⟨fun z2 => absurd z z2, fun _ => nm_e (nm_e ?_)⟩
  refine t_91 ((h.f (y := 6) (by decide)).i (k := 4) (by decide) _) (fun e => ?_) hK
  rw [sI_1, if_neg (by decide), sI_1, if_pos rfl] at e
  exact absurd e (by decide)
theorem t_33 {len : Nat} (hl : len ≤ 160) (hK : ∀ r S', YT S0 S' → K r S') : ∀ (m i f : Nat) (S : tq_St), i + m = 160 → m < f → XT S0 S len → wp_X5_tellAll_33 K f (nI i) S
  | 0, i, f + 1, S, h1, h2, h => by
    unfold wp_X5_tellAll_33
    exact ⟨fun _ => t_64 h hK, fun _ => ⟨fun _ => t_64 h hK, fun _ => pk_le 160 i (fun _ => t_64 h hK) (fun z => absurd z (by omega))⟩⟩
  | m + 1, i, f + 1, S, h1, h2, h => by
    unfold wp_X5_tellAll_33
    refine ⟨fun _ => t_64 h hK, fun _ => ⟨fun _ => t_64 h hK, fun _ => pk_le 160 i (fun z => absurd z (by omega)) (fun _ => ?_)⟩⟩
    exact t_line hl h (fun S2 x2 => nm_r (nI_1 i) (t_33 hl hK m (i + 1) f S2 (by omega) (by omega) x2))
theorem c_clear {o : Nat} (hK : ∀ S', RC S' o (0, fun _ => 0, fun _ => 0, fun _ => 0, 0, 0, 2, 4, 0, fun _ => 0) → Fr o S S' → KV S') : wp_X1_clear o S KV := by
  unfold wp_X1_clear
  refine nm_e (nm_e (nm_e (nm_e (nm_e (nm_e ?_)))))
  have hR : RC (sI (sI (sI (sI (sI (sI S o 5 0) o 6 0) o 7 0) o 8 2) o 9 4) o 10 0) o (0, fun _ => 0, fun _ => 0, fun _ => 0, 0, 0, 2, 4, 0, fun _ => 0) := by
    refine ⟨?_, ?_, ?_, ?_, ?_, ?_, fun q hq => absurd hq (by show ¬ q < 0; omega), fun q hq => absurd hq (by show ¬ q < 0; omega), fun q hq => absurd hq (by show ¬ q < 0; omega), fun q hq => absurd hq (by show ¬ q < 0; omega)⟩ <;> simp [sI_1] <;> rfl
  exact c_clearTally hR (fun S2 a1 a2 _ => hK S2 a1 (((((((Fr.rf.I _ _).I _ _).I _ _).I _ _).I _ _).I _ _).tr a2))
theorem e0_wf : wfE (0, fun _ => 0, fun _ => 0, fun _ => 0, 0, 0, 2, 4, 0, fun _ => 0) := ⟨by decide, fun _ => by show 0 < 4; decide, fun _ => by show 0 ≤ 40; decide, fun _ => by show 0 ≤ 1000; decide, by decide, by decide, by decide, by decide, by decide, fun i hi => absurd hi (by show ¬ i < 0; omega)⟩
theorem e0_wfD : wfD (0, fun _ => 0, fun _ => 0, fun _ => 0, 0, 0, 2, 4, 0, fun _ => 0) := ⟨by decide, fun _ => by show 0 < 4; decide, fun _ => by show 0 ≤ 40; decide, fun _ => by show 0 ≤ 1000; decide, by decide, by decide, by decide, by decide, by decide, fun i hi => absurd hi (by show ¬ i < 0; omega)⟩
/-- as XT, but for where the token begins -/
def XW (S0 S : tq_St) (len : Nat) : Prop := (∀ o, o ≠ 19 → o ≠ 2 → S.1 o = S0.1 o ∧ S.2.1 o = S0.2.1 o) ∧ S.2.2 = S0.2.2 ∧ S.2.1 19 = S0.2.1 19 ∧ S.1 19 2 = nI len ∧ (∃ y, y ≤ 6 ∧ S.1 19 3 = nI y) ∧ ∃ A, wfD A ∧ RC S 2 A
theorem XW.pl {len : Nat} (h : XW S0 S len) (v : Int32) : XW S0 (sI S 19 6 v) len := by
  obtain ⟨h1, h2, h3, h4, ⟨y, b1, b2⟩, A, c1, c2⟩ := h
  exact ⟨fun o a b => ⟨(sI_1n S a).trans (h1 o a b).1, (h1 o a b).2⟩, h2, h3, by rw [sI_1, if_neg (by decide)]; exact h4, ⟨y, b1, by rw [sI_1, if_neg (by decide)]; exact b2⟩, A, c1, c2.fr ((Fr.rf (o := 19)).I _ _) (by decide)⟩
theorem XW.xt {len pl : Nat} (h : XW S0 S len) (h6 : S.1 19 6 = nI pl) (hp : pl ≤ len) : XT S0 (sI S 19 8 (nI pl)) len := by
  obtain ⟨h1, h2, h3, h4, ⟨y, b1, b2⟩, A, c1, c2⟩ := h
  exact ⟨fun o a b => ⟨(sI_1n S a).trans (h1 o a b).1, (h1 o a b).2⟩, h2, h3, by rw [sI_1, if_neg (by decide)]; exact h4, ⟨pl, pl, Nat.le_refl _, hp, by rw [sI_1, if_pos rfl], by rw [sI_1, if_neg (by decide)]; exact h6⟩, ⟨y, b1, by rw [sI_1, if_neg (by decide)]; exact b2⟩, A, c1, c2.fr ((Fr.rf (o := 19)).I _ _) (by decide)⟩
theorem t_tok_38W {len pl : Nat} (hl : len ≤ 160) (h : XW S0 S len) (h6 : S.1 19 6 = nI pl) (hp : pl ≤ len) (hK : ∀ S', XT S0 S' len → KV S') : wp_X5_takeToken_38 KV S := by
  have h79 : ∀ (r : Int32) (S' : tq_St), XT S0 S' len → S'.1 19 6 = nI pl → S'.1 19 8 = nI pl → wp_X5_takeToken_79 KV r S' := by
    intro r S' x1 x2 x3
    unfold wp_X5_takeToken_79
    refine nm_e ?_
    have y1 := x1.i (k := 7) (by decide) r
    have y2 : (sI S' 19 7 r).1 19 6 = nI pl := by rw [sI_1, if_neg (by decide)]; exact x2
    have y3 : (sI S' 19 7 r).1 19 8 = nI pl := by rw [sI_1, if_neg (by decide)]; exact x3
    have hgo := fun v : Int32 => t_tok_104 (v := v) hl hK (len - pl) pl 2000 _ (by omega) (by omega) (Nat.le_refl _) y1 y2 y3
    exact ⟨fun _ => hgo 1, fun _ => ⟨fun _ => hgo 0, fun _ => hgo 1⟩⟩
  unfold wp_X5_takeToken_38
  rw [h6]
  refine nm_e (nm_e ?_)
  have h1 := (h.xt h6 hp).i (k := 9) (by decide) 0
  have e6 : (sI (sI S 19 8 (nI pl)) 19 9 0).1 19 6 = nI pl := by rw [sI_1, if_neg (by decide), sI_1, if_neg (by decide)]; exact h6
  have e8 : (sI (sI S 19 8 (nI pl)) 19 9 0).1 19 8 = nI pl := by rw [sI_1, if_neg (by decide), sI_1, if_pos rfl]
  rw [h1.2.2.2.1, e6]
  exact pk_le len pl (fun _ => h79 _ _ h1 e6 e8) (fun z => ⟨vp_in_nI (by omega) (by decide), t_sort (fun r => h79 r _ h1 e6 e8)⟩)
theorem t_tok_0W {len : Nat} (hl : len ≤ 160) (hK : ∀ S', XT S0 S' len → KV S') : ∀ (m pl f : Nat) (S : tq_St), pl + m = len → m < f → XW S0 S len → S.1 19 6 = nI pl → wp_X5_takeToken_0 KV f S
  | 0, pl, f + 1, S, h1, h2, h, h6 => by
    unfold wp_X5_takeToken_0
    rw [h.2.2.2.1, h6]
    exact pk_le len pl (fun _ => t_tok_38W hl h h6 (by omega) hK) (fun z => absurd z (by omega))
  | m + 1, pl, f + 1, S, h1, h2, h, h6 => by
    unfold wp_X5_takeToken_0
    rw [h.2.2.2.1, h6]
    refine pk_le len pl (fun z => absurd z (by omega)) (fun _ => ⟨vp_in_nI (by omega) (by decide), fun _ => t_tok_38W hl h h6 (by omega) hK, fun _ => nm_r (e' := sI S 19 6 (nI (pl + 1))) (by rw [nI_1]) ?_⟩)
    refine t_tok_0W hl hK m (pl + 1) f _ (by omega) (by omega) (h.pl _) ?_
    rw [sI_1, if_pos rfl]
theorem t_all (hG : RQ S G) (hw : wfQ G) (hK : ∀ r S', YT S S' → K r S') : wp_X5_tellAll S K := by
  have hl := hw.2.2.1.1
  have h2 := hG.2.2.1.1
  unfold wp_X5_tellAll
  refine c_clear (fun S1 a1 a2 => nm_e (nm_e (nm_e (nm_e ?_))))
  have f := ((((Fr.rf (o := 19) (S := S1)).I 3 0).I 4 0).I 5 0).I 6 0
  have f19 := a2.1 19 (by decide)
  have hx : XW S (sI (sI (sI (sI S1 19 3 0) 19 4 0) 19 5 0) 19 6 0) (qT G).1 := by
    refine ⟨fun o b c => ⟨((f.1 o b).1).trans (a2.1 o c).1, ((f.1 o b).2).trans (a2.1 o c).2⟩, a2.2, f19.2, ?_, ⟨0, by omega, ?_⟩, _, e0_wfD, a1.fr f (by decide)⟩
    · simp only [sI_1, f19.1]; simp [h2]
    · simp [sI_1]; rfl
  unfold wp_X5_takeToken
  refine t_tok_0W hl (fun S2 x2 => ?_) (qT G).1 0 2000 _ (by omega) (by omega) hx (by rw [sI_1, if_pos rfl]; rfl)
  exact t_33 hl hK 160 0 2000 S2 (by omega) (by omega) x2
theorem q_text (hG : RQ S G) (hw : wfQ G) (hK : ∀ r S' G', wfQ G' → RQ S' G' → (qT G').1 = 0 → FC S S' → K r S') : wp_X6_text S K := by
  unfold wp_X6_text
  refine t_all hG hw (fun r S1 hy => ?_)
  obtain ⟨y1, y2, y3, y, y4, y5, y6⟩ := hy
  obtain ⟨h1, h2, h3, h4, h5, h6, h7⟩ := hG
  have g0 := y1 0 (by decide) (by decide)
  have g20 := y1 20 (by decide) (by decide)
  have g27 := y1 27 (by decide) (by decide)
  have g28 := y1 28 (by decide) (by decide)
  have hR1 : RQ S1 (vF (vT G (0, (qT G).2)) y) := by
    refine ⟨?_, fun k hk => ?_, ⟨y3, fun i hi => absurd hi (by show ¬ i < 0; omega)⟩, y5, by rw [g20.1, g20.2]; exact h5, fun k hk => ?_, by rw [g27.1]; exact h7⟩
    · show RC S1 0 (qA G)
      unfold RC
      rw [g0.1, g0.2]
      exact h1
    · have h2 := h2 k hk
      have g17 := y1 (17 + k) (by omega) (by omega)
      show CI _ k (qI G k)
      unfold CI at h2 ⊢
      split at h2
      · rw [g27.2]; exact h2
      · refine ⟨by rw [g27.2]; exact h2.1, ?_⟩
        unfold RC
        rw [g17.1, g17.2]
        exact h2.2
    · have h6 := h6 k hk
      have g23 := y1 (23 + k) (by omega) (by omega)
      show CH _ k (qH G k)
      unfold CH at h6 ⊢
      rw [g23.1, g23.2]
      exact h6
  have hw1 : wfQ (vF (vT G (0, (qT G).2)) y) := ⟨hw.1, hw.2.1, ⟨by show 0 ≤ 160; omega, hw.2.2.1.2⟩, y4, hw.2.2.2.2⟩
  refine ⟨fun _ => hK r S1 _ hw1 hR1 rfl g28, fun z => ?_⟩
  have hy0 : y = 0 := by
    rw [y5] at z
    exact (nI_eq (by omega) (by decide)).mp z
  obtain ⟨A, c1, c2⟩ := y6 hy0
  refine c_copyFrom (p := 2) c2 c1 (by decide) (fun S2 a1 a2 _ _ _ => nm_e ?_)
  have e20 : RQ (sI S2 20 2 0) (vS (vA (vF (vT G (0, (qT G).2)) y) A) (0, (qS G).2)) := (hR1.now a2 a1).seen ((Fr.rf (o := 20)).I _ _) ⟨by rw [sI_1, if_pos rfl]; rfl, fun i hi => absurd hi (by show ¬ i < 0; omega)⟩
  have fc2 : FC S (sI S2 20 2 0) := FC.tr (T := S1) g28 ((a2.fc (by decide)).tr (((Fr.rf (o := 20)).I _ _).fc (by decide)))
  -- the images are gone
  have hloop : ∀ (m i f : Nat) (S' : tq_St), i + m = 2 → m < f → RQ S' (vI (vS (vA (vF (vT G (0, (qT G).2)) y) A) (0, (qS G).2)) (fun k => if k < i then none else qI G k)) → FC S S' → wp_X6_text_42 K f r (nI i) S' := by
    intro m
    induction m with
    | zero =>
      intro i f S' g1 g2 hR hF
      obtain ⟨f, rfl⟩ : ∃ k, f = k + 1 := ⟨f - 1, by omega⟩
      refine pk_le 2 i (fun _ => hK r S' (vI (vS (vA (vF (vT G (0, (qT G).2)) y) A) (0, (qS G).2)) (fun _ => none)) ?_ ?_ rfl hF) (fun z => absurd z (by omega))
      · exact ⟨c1, fun k B e => (by cases e), ⟨by show 0 ≤ 160; omega, hw.2.2.1.2⟩, y4, ⟨by show 0 ≤ 6; omega, hw.2.2.2.2.1.2⟩, hw.2.2.2.2.2⟩
      · obtain ⟨r1, r2, r3⟩ := hR
        refine ⟨r1, fun k hk => ?_, r3⟩
        have r2 := r2 k hk
        have e : (if k < i then none else qI G k) = (none : Option aE) := if_pos (by omega)
        have r2 : CI S' k (if k < i then none else qI G k) := r2
        rw [e] at r2
        exact r2
    | succ m ih =>
      intro i f S' g1 g2 hR hF
      obtain ⟨f, rfl⟩ : ∃ k, f = k + 1 := ⟨f - 1, by omega⟩
      unfold wp_X6_text_42
      have en : vp_nar .boolean 0 = 0 := by decide +kernel
      refine pk_le 2 i (fun z => absurd z (by omega)) (fun _ => ⟨vp_in_nI (by omega) (by decide), nm_e (nm_r (nI_1 i) ?_)⟩)
      rw [nI_clamp (by omega), en]
      have f27 := (Fr.rf (o := 27) (S := S')).A 7 i 0
      refine ih (i + 1) f _ (by omega) (by omega) ?_ (hF.tr (f27.fc (by decide)))
      obtain ⟨r1, r2, r3, r4, r5, r6, r7⟩ := hR
      have k19 := f27.1 19 (by decide)
      have k20 := f27.1 20 (by decide)
      refine ⟨r1.fr f27 (by decide), fun k hk => ?_, by rw [k19.1, k19.2]; exact r3, by rw [k19.1]; exact r4, by rw [k20.1, k20.2]; exact r5, fun k hk => ?_, r7⟩
      · show CI (sA S' 27 7 i 0) k (if k < i + 1 then none else qI G k)
        by_cases c : k < i + 1
        · rw [if_pos c]
          show (sA S' 27 7 i 0).2.1 27 7 k = 0
          rw [sA_at]
          by_cases c2 : k = i
          · rw [if_pos c2]
          · rw [if_neg c2]
            have r2 : CI S' k (if k < i then none else qI G k) := r2 k hk
            rw [if_pos (by omega)] at r2
            exact r2
        · rw [if_neg c]
          have r2 : CI S' k (if k < i then none else qI G k) := r2 k hk
          rw [if_neg (by omega)] at r2
          unfold CI at r2 ⊢
          split at r2
          · rw [sA_at, if_neg (by omega)]; exact r2
          · rw [sA_at, if_neg (by omega)]; exact ⟨r2.1, r2.2.fr f27 (by omega)⟩
      · have r6 := r6 k hk
        have k23 := f27.1 (23 + k) (by omega)
        unfold CH at r6 ⊢
        rw [k23.1, k23.2]
        exact r6
  exact hloop 2 0 2000 _ (by omega) (by omega) e20 fc2
end QT
end
