section Q6
variable {S : tq_St} {G : aQ} {K : Int32 → tq_St → Prop}
-- IMAGES
theorem RQ.img {S' : tq_St} {k : Nat} (hG : RQ S G) (hk : k < 2) (f : ∀ o, o ≠ 17 + k → o ≠ 27 → S'.1 o = S.1 o ∧ S'.2.1 o = S.2.1 o) (f27 : S'.1 27 = S.1 27) (g27 : ∀ j, j ≠ k → S'.2.1 27 7 j = S.2.1 27 7 j) (h27 : S'.2.1 27 7 k = 1) {B : aE} (hB : RC S' (17 + k) B) : RQ S' (vI G (un (qI G) k (some B))) := by
  obtain ⟨h1, h2, h3, h4, h5, h6, h7⟩ := hG
  have f0 := f 0 (by omega) (by decide)
  have f19 := f 19 (by omega) (by decide)
  have f20 := f 20 (by omega) (by decide)
  refine ⟨?_, fun j hj => ?_, by rw [f19.1, f19.2]; exact h3, by rw [f19.1]; exact h4, by rw [f20.1, f20.2]; exact h5, fun j hj => ?_, by rw [f27]; exact h7⟩
  · show RC S' 0 (qA G)
    unfold RC
    rw [f0.1, f0.2]
    exact h1
  · show CI S' j (un (qI G) k (some B) j)
    by_cases e : j = k
    · subst e
      rw [un_s]
      exact ⟨h27, hB⟩
    · rw [un_n _ _ e]
      have h2 := h2 j hj
      have fj := f (17 + j) (by omega) (by omega)
      unfold CI at h2 ⊢
      split at h2
      · rw [g27 j e]; exact h2
      · refine ⟨by rw [g27 j e]; exact h2.1, ?_⟩
        unfold RC
        rw [fj.1, fj.2]
        exact h2.2
  · have h6 := h6 j hj
    have f23 := f (23 + j) (by omega) (by omega)
    show CH _ j (qH G j)
    unfold CH at h6 ⊢
    rw [f23.1, f23.2]
    exact h6
def keepF (G : aQ) (k : Nat) : aQ := vI G (un (qI G) k (some (qA G)))
theorem keepF_wf (hw : wfQ G) (k : Nat) : wfQ (keepF G k) := by
  refine ⟨hw.1, fun j B e => ?_, hw.2.2⟩
  have e : un (qI G) k (some (qA G)) j = some B := e
  by_cases c : j = k
  · subst c; rw [un_s] at e; cases e; exact ⟨hw.1, rfl⟩
  · rw [un_n _ _ c] at e; exact hw.2.1 j B e
theorem q_keep {x : Int32} (hG : RQ S G) (hw : wfQ G) (hbad : (∀ k, k ≤ 1 → x ≠ nI k) → K (-1) S) (hok : ∀ k, k ≤ 1 → x = nI k → ∀ S', RQ S' (keepF G k) → FC S S' → K (bI (qI G k).isSome) S') : wp_X6_keep x S K := by
  unfold wp_X6_keep
  rcases ix_le x 1 (by decide) with ⟨k, hk, rfl⟩ | hb
  · refine ⟨fun z => absurd z (nI_pos (by omega)), fun _ => pk_lt k 2 (fun _ => ⟨vp_in_nI (by omega) (by decide), ?_⟩) (fun z => absurd z (by omega))⟩
    rw [nI_clamp (by omega)]
    have h25 : ∀ b : Bool, b = (qI G k).isSome → wp_X6_keep_25 K (nI k) (bI b) S := by
      intro b eb
      unfold wp_X6_keep_25
      rw [nI_clamp (by omega)]
      refine ⟨vp_in_nI (by omega) (by decide), ?_⟩
      refine c_copyFrom (p := 0) hG.1 hw.1 (by omega) (fun S1 a1 a2 _ _ _ => ⟨vp_in_nI (by omega) (by decide), nm_e ?_⟩)
      have en : vp_nar .boolean 1 = 1 := by decide +kernel
      rw [en, eb]
      refine hok k hk rfl _ ?_ ?_
      · refine hG.img (k := k) (by omega) (fun o ho h27 => ?_) ?_ (fun j hj => ?_) ?_ ?_
        · rw [sA_1, sA_2n _ h27]; exact a2.1 o ho
        · rw [sA_1]; exact (a2.1 27 (by omega)).1
        · rw [sA_at, if_neg hj, (a2.1 27 (by omega)).2]
        · rw [sA_at, if_pos rfl]
        · exact a1.fr ((Fr.rf (o := 27)).A _ _ _) (by omega)
      · exact (a2.fc (by omega)).tr (((Fr.rf (o := 27)).A _ _ _).fc (by decide))
    have hI := hG.2.1 k (by omega)
    unfold CI at hI
    cases e : qI G k with
    | none =>
      rw [e] at hI
      rw [hI]
      exact ⟨fun _ => h25 false (by rw [e]; rfl), fun z => absurd rfl z⟩
    | some B =>
      rw [e] at hI
      rw [hI.1]
      exact ⟨fun z => absurd z (by decide), fun _ => h25 true (by rw [e]; rfl)⟩
  · rcases ix_bad (by decide) hb with z | z
    · exact ⟨fun _ => hbad hb, fun z2 => absurd z z2⟩
    · refine ⟨fun _ => hbad hb, fun _ => ⟨fun z2 => ?_, fun _ => hbad hb⟩⟩
      exfalso
      apply z
      rw [Int32.lt_iff_toInt_lt] at z2
      rw [Int32.le_iff_toInt_le, nI_toInt (by decide)]
      have e2 : (2 : Int32).toInt = 2 := by decide
      omega
theorem q_back {x : Int32} (hG : RQ S G) (hw : wfQ G) (hbad : (∀ k, k ≤ 1 → x ≠ nI k) → K (-1) S) (hst : ∀ k, k ≤ 1 → x = nI k → qI G k = none → K (-2) S) (hok : ∀ k B, k ≤ 1 → x = nI k → qI G k = some B → ∀ S', RQ S' (vA G B) → FC S S' → K (nI (aM B)) S') : wp_X6_back x S K := by
  unfold wp_X6_back
  rcases ix_le x 1 (by decide) with ⟨k, hk, rfl⟩ | hb
  · refine ⟨fun z => absurd z (nI_pos (by omega)), fun _ => pk_lt k 2 (fun _ => ⟨vp_in_nI (by omega) (by decide), ?_⟩) (fun z => absurd z (by omega))⟩
    rw [nI_clamp (by omega)]
    have hI := hG.2.1 k (by omega)
    unfold CI at hI
    cases e : qI G k with
    | none =>
      rw [e] at hI
      rw [hI]
      exact ⟨fun z => absurd rfl z, fun _ => hst k hk rfl e⟩
    | some B =>
      rw [e] at hI
      rw [hI.1]
      refine ⟨fun _ => ⟨vp_in_nI (by omega) (by decide), ?_⟩, fun z => absurd z (by decide)⟩
      refine c_copyFrom hI.2 (hw.2.1 k B e).1 (by omega) (fun S1 a1 a2 _ _ _ => ?_)
      rw [a1.2.2.1]
      exact hok k B hk rfl e S1 (hG.now a2 a1) (a2.fc (by decide))
  · rcases ix_bad (by decide) hb with z | z
    · exact ⟨fun _ => hbad hb, fun z2 => absurd z z2⟩
    · refine ⟨fun _ => hbad hb, fun _ => ⟨fun z2 => ?_, fun _ => hbad hb⟩⟩
      exfalso
      apply z
      rw [Int32.lt_iff_toInt_lt] at z2
      rw [Int32.le_iff_toInt_le, nI_toInt (by decide)]
      have e2 : (2 : Int32).toInt = 2 := by decide
      omega
-- SHEETS
theorem RQ.sht {S' : tq_St} {k : Nat} (hG : RQ S G) (hk : k < 4) (f : Fr (23 + k) S S') {x : Option Nat × Nat × (Nat → Int32)} (hx : CH S' k x) : RQ S' (vH G (un (qH G) k x)) := by
  obtain ⟨h1, h2, h3, h4, h5, h6, h7⟩ := hG
  have f19 := f.1 19 (by omega)
  have f20 := f.1 20 (by omega)
  have f27 := f.1 27 (by omega)
  refine ⟨h1.fr f (by omega), fun j hj => ?_, by rw [f19.1, f19.2]; exact h3, by rw [f19.1]; exact h4, by rw [f20.1, f20.2]; exact h5, fun j hj => ?_, by rw [f27.1]; exact h7⟩
  · have h2 := h2 j hj
    show CI _ j (qI G j)
    unfold CI at h2 ⊢
    split at h2
    · rw [f27.2]; exact h2
    · rw [f27.2]; exact ⟨h2.1, h2.2.fr f (by omega)⟩
  · show CH S' j (un (qH G) k x j)
    by_cases e : j = k
    · subst e; rw [un_s]; exact hx
    · rw [un_n _ _ e]
      have h6 := h6 j hj
      have f23 := f.1 (23 + j) (by omega)
      unfold CH at h6 ⊢
      rw [f23.1, f23.2]
      exact h6
theorem c_isSheet {x : Int32} (h1 : ∀ k, k ≤ 3 → x = nI k → K 1 S) (h0 : (∀ k, k ≤ 3 → x ≠ nI k) → K 0 S) : wp_X6_isSheet x S K := by
  unfold wp_X6_isSheet
  rcases ix_le x 3 (by decide) with ⟨k, hk, rfl⟩ | hb
  · exact ⟨fun z => absurd z (nI_pos (by omega)), fun _ => pk_le 4 k (fun z => absurd z (by omega)) (fun _ => h1 k hk rfl)⟩
  · rcases ix_bad (by decide) hb with z | z
    · exact ⟨fun _ => h0 hb, fun z2 => absurd z z2⟩
    · refine ⟨fun _ => h0 hb, fun _ => ⟨fun _ => h0 hb, fun z2 => ?_⟩⟩
      exfalso
      apply z
      rw [Int32.le_iff_toInt_le] at z2
      rw [Int32.le_iff_toInt_le, nI_toInt (by decide)]
      have e2 : (4 : Int32).toInt = 4 := by decide
      omega
theorem c_isLane {x : Int32} (h1 : ∀ k, k ≤ 2 → x = nI k → K 1 S) (h0 : (∀ k, k ≤ 2 → x ≠ nI k) → K 0 S) : wp_X6_isLane x S K := by
  unfold wp_X6_isLane
  rcases ix_le x 2 (by decide) with ⟨k, hk, rfl⟩ | hb
  · exact ⟨fun z => absurd z (nI_pos (by omega)), fun _ => pk_le 3 k (fun z => absurd z (by omega)) (fun _ => h1 k hk rfl)⟩
  · rcases ix_bad (by decide) hb with z | z
    · exact ⟨fun _ => h0 hb, fun z2 => absurd z z2⟩
    · refine ⟨fun _ => h0 hb, fun _ => ⟨fun _ => h0 hb, fun z2 => ?_⟩⟩
      exfalso
      apply z
      rw [Int32.le_iff_toInt_le] at z2
      rw [Int32.le_iff_toInt_le, nI_toInt (by decide)]
      have e2 : (3 : Int32).toInt = 3 := by decide
      omega
theorem c_fill {o : Nat} {K : tq_St → Prop} {S0 : tq_St} (hK : ∀ S', Fr o S0 S' → S'.1 = S0.1 → (∀ i, i < 40 → S'.2.1 o 0 i = 0) → K S') : ∀ (m i f : Nat) (S : tq_St), i + m = 40 → m < f → Fr o S0 S → S.1 = S0.1 → (∀ j, j < i → S.2.1 o 0 j = 0) → wp_J7_fill_53178_5 o K f 0 (nI i) (nI 40) S
  | 0, i, f + 1, S, h1, h2, hF, hI, h0 => by
    have e : i = 40 := by omega
    subst e
    exact pk_le 40 40 (fun _ => hK S hF hI h0) (fun z => absurd z (by omega))
  | m + 1, i, f + 1, S, h1, h2, hF, hI, h0 => by
    unfold wp_J7_fill_53178_5
    refine pk_le 40 i (fun z => absurd z (by omega)) (fun _ => ⟨vp_in_nI (by omega) (by decide), nm_e (nm_r (nI_1 i) ?_)⟩)
    rw [nI_clamp (by omega)]
    refine c_fill hK m (i + 1) f _ (by omega) (by omega) (hF.A _ _ _) hI (fun j hj => ?_)
    rw [sA_at]
    by_cases e : j = i
    · rw [if_pos e]
    · rw [if_neg e]; exact h0 j (by omega)
def sheetF (G : aQ) (k l n : Nat) : aQ := vH G (un (qH G) k (some l, n, fun _ => 0))
theorem sheetF_wf (hw : wfQ G) {k l n : Nat} (hl : l ≤ 2) (hn : n ≤ 40) : wfQ (sheetF G k l n) := by
  refine ⟨hw.1, hw.2.1, hw.2.2.1, hw.2.2.2.1, hw.2.2.2.2.1, fun j m e => ?_, fun j => ?_, hw.2.2.2.2.2.2.2⟩
  · have e : (un (qH G) k (some l, n, fun _ => 0) j).1 = some m := e
    by_cases c : j = k
    · subst c; rw [un_s] at e; cases e; omega
    · rw [un_n _ _ c] at e; exact hw.2.2.2.2.2.1 j m e
  · show (un (qH G) k (some l, n, fun _ => 0) j).2.1 ≤ 40
    by_cases c : j = k
    · subst c; rw [un_s]; exact hn
    · rw [un_n _ _ c]; exact hw.2.2.2.2.2.2.1 j
theorem q_sheet {x y w : Int32} (hG : RQ S G) (hw : wfQ G) (hbad : (∀ k, k ≤ 3 → x ≠ nI k) ∨ (∀ l, l ≤ 2 → y ≠ nI l) ∨ ¬ w ≤ 40 → K (-1) S) (hneg : ∀ k l, k ≤ 3 → x = nI k → l ≤ 2 → y = nI l → w < 0 → K (-14) S) (hok : ∀ k l n, k ≤ 3 → x = nI k → l ≤ 2 → y = nI l → n ≤ 40 → w = nI n → ∀ S', RQ S' (sheetF G k l n) → FC S S' → K 1 S') : wp_X6_sheet x y w S K := by
  unfold wp_X6_sheet
  refine c_isSheet (fun k hk e => ⟨fun z => absurd z (by decide), fun _ => ?_⟩) (fun hno => ⟨fun _ => hbad (Or.inl hno), fun z => absurd rfl z⟩)
  subst e
  refine c_isLane (fun l hl e => ⟨fun z => absurd z (by decide), fun _ => ?_⟩) (fun hno => ⟨fun _ => hbad (Or.inr (Or.inl hno)), fun z => absurd rfl z⟩)
  subst e
  refine ⟨fun z => ⟨fun z2 => ⟨vp_in_nI (by omega) (by decide), ?_⟩, fun z2 => hneg k l hk rfl hl rfl (fa_of_nle z2)⟩, fun z => hbad (Or.inr (Or.inr z))⟩
  have hz : ¬ w < 0 := fun c => by
    rw [Int32.lt_iff_toInt_lt] at c
    rw [Int32.le_iff_toInt_le] at z2
    omega
  obtain ⟨n, hn, rfl⟩ := nI_of2 (n := 40) (by decide) hz z
  rw [nI_clamp (by omega)]
  unfold wp_X3_renew
  refine c_fill (S0 := S) (fun S1 a1 a2 a3 => nm_e (nm_e (nm_e ?_))) 40 0 2000 S (by omega) (by omega) Fr.rf rfl (fun j hj => by omega)
  have f := ((a1.I 1 1).I 2 (nI l)).I 3 (nI n)
  refine hok k l n hk rfl hl rfl hn rfl _ (hG.sht (by omega) f ⟨?_, ?_, ?_, fun i hi => a3 i hi⟩) (f.fc (by omega))
  · rw [sI_1, if_neg (by decide), sI_1, if_neg (by decide), sI_1, if_pos rfl]
  · rw [sI_1, if_neg (by decide), sI_1, if_pos rfl]
  · rw [sI_1, if_pos rfl]
def cutL (l : Nat) (v : Int32) : Int32 := if l = 0 then v.toInt8.toInt32 else if l = 1 then v.toInt16.toInt32 else v
def layF (G : aQ) (k l i : Nat) (v : Int32) : aQ := vH G (un (qH G) k (some l, (qH G k).2.1, un (qH G k).2.2 i (cutL l v)))
theorem layF_wf (hw : wfQ G) {k l i : Nat} {v : Int32} (hl : (qH G k).1 = some l) : wfQ (layF G k l i v) := by
  refine ⟨hw.1, hw.2.1, hw.2.2.1, hw.2.2.2.1, hw.2.2.2.2.1, fun j m e => ?_, fun j => ?_, hw.2.2.2.2.2.2.2⟩
  · have e : (un (qH G) k (some l, (qH G k).2.1, un (qH G k).2.2 i (cutL l v)) j).1 = some m := e
    by_cases c : j = k
    · subst c; rw [un_s] at e; cases e; exact hw.2.2.2.2.2.1 j _ hl
    · rw [un_n _ _ c] at e; exact hw.2.2.2.2.2.1 j m e
  · show (un (qH G) k (some l, (qH G k).2.1, un (qH G k).2.2 i (cutL l v)) j).2.1 ≤ 40
    by_cases c : j = k
    · subst c; rw [un_s]; exact hw.2.2.2.2.2.2.1 j
    · rw [un_n _ _ c]; exact hw.2.2.2.2.2.2.1 j
/-- what the machine finds at a cell: 1 nothing, 3 another lane, 2 no such cell -/
theorem c_faultAt {k : Nat} {y z : Int32} (hG : RQ S G) (hw : wfQ G) (hk : k < 4) (h1 : (qH G k).1 = none → K 1 S) (h3 : ∀ l, (qH G k).1 = some l → y ≠ nI l → K 3 S) (h2 : ∀ l, (qH G k).1 = some l → y = nI l → (∀ i, i < (qH G k).2.1 → z ≠ nI i) → K 2 S) (h0 : ∀ l i, (qH G k).1 = some l → y = nI l → i < (qH G k).2.1 → z = nI i → K 0 S) : wp_X3_faultAt (23 + k) y z S K := by
  have hC := hG.2.2.2.2.2.1 k hk
  have hl40 := hw.2.2.2.2.2.2.1 k
  unfold CH at hC
  unfold wp_X3_faultAt
  cases e : (qH G k).1 with
  | none =>
    rw [e] at hC
    rw [hC]
    exact ⟨fun z => absurd rfl z, fun _ => h1 e⟩
  | some l =>
    rw [e] at hC
    obtain ⟨c1, c2, c3, c4⟩ := hC
    rw [c1, c2, c3]
    refine ⟨fun _ => ⟨fun e2 => ?_, fun e2 => h3 l e (fun z => e2 z.symm)⟩, fun z => absurd z (by decide)⟩
    rcases pk_ix z (n := (qH G k).2.1) (by omega) with h | h | ⟨i, hi, rfl⟩
    · exact ⟨fun _ => h2 l e e2.symm (fun i hi c => by subst c; exact nI_pos (by omega) h), fun c => absurd h c⟩
    · have hb : ∀ i, i < (qH G k).2.1 → z ≠ nI i := fun i hi c => by subst c; exact nI_ge hi (by omega) h
      refine ⟨fun _ => h2 l e e2.symm hb, fun _ => ⟨fun c => ?_, fun _ => h2 l e e2.symm hb⟩⟩
      rw [Int32.lt_iff_toInt_lt] at c
      rw [Int32.le_iff_toInt_le] at h
      omega
    · exact ⟨fun c => absurd c (nI_pos (by omega)), fun _ => pk_lt i (qH G k).2.1 (fun _ => h0 l i e e2.symm hi rfl) (fun c => absurd c (by omega))⟩
theorem q_lay {x y v : Int32} (hG : RQ S G) (hw : wfQ G) (hbad : (∀ k, k ≤ 3 → x ≠ nI k) → K (-1) S) (hnul : ∀ k, k ≤ 3 → x = nI k → (qH G k).1 = none → K (-11) S) (hidx : ∀ k l, k ≤ 3 → x = nI k → (qH G k).1 = some l → (∀ i, i < (qH G k).2.1 → y ≠ nI i) → K (-12) S) (hok : ∀ k l i, k ≤ 3 → x = nI k → (qH G k).1 = some l → i < (qH G k).2.1 → y = nI i → ∀ S', RQ S' (layF G k l i v) → FC S S' → K 1 S') : wp_X6_lay x y v S K := by
  unfold wp_X6_lay
  refine c_isSheet (fun k hk e => ⟨fun _ => ⟨by rw [e]; exact vp_in_nI (by omega) (by decide), nm_r (e' := 23 + k) (by rw [e, nI_clamp (by omega)]) ?_⟩, fun z => absurd z (by decide)⟩) (fun hno => ⟨fun z => absurd rfl z, fun _ => hbad hno⟩)
  subst e
  have hC := hG.2.2.2.2.2.1 k (by omega)
  have hl40 := hw.2.2.2.2.2.2.1 k
  refine c_faultAt hG hw (by omega) (fun e => ?_) (fun l e hne => ?_) (fun l e _ hno => ?_) (fun l i e _ hi ey => ?_)
  · exact ⟨fun z => absurd z (by decide), fun _ => hnul k hk rfl e⟩
  · unfold CH at hC
    rw [e] at hC
    exact absurd hC.2.1 hne
  · exact ⟨fun z => absurd z (by decide), fun _ => hidx k l hk rfl e hno⟩
  · refine ⟨fun _ => ?_, fun z => absurd rfl z⟩
    subst ey
    unfold CH at hC
    rw [e] at hC
    obtain ⟨c1, c2, c3, c4⟩ := hC
    have hl := hw.2.2.2.2.2.1 k l e
    have hin : vp_in (nI i) 40 := vp_in_nI (by omega) (by decide)
    unfold wp_X3_put
    rw [c2, nI_clamp (by omega)]
    have e0 : (0 : Int32) = nI 0 := rfl
    have e1 : (1 : Int32) = nI 1 := rfl
    rw [e0, e1, nI_eq (by omega) (by decide), nI_eq (by omega) (by decide)]
    have hgo : ∀ u : Int32, u = cutL l v → K (nI 1) (sA S (23 + k) 0 i u) := by
      intro u eu
      have f := (Fr.rf (o := 23 + k) (S := S)).A 0 i u
      refine hok k l i hk rfl e hi rfl _ ?_ (f.fc (by omega))
      have h9 : RQ (sA S (23 + k) 0 i u) (vH G (un (qH G) k (some l, (qH G k).2.1, un (qH G k).2.2 i (cutL l v)))) := by
        refine hG.sht (by omega) f ⟨c1, c2, c3, fun j hj => ?_⟩
        show _ = un (qH G k).2.2 i (cutL l v) j
        rw [sA_at]
        by_cases c : j = i
        · subst c; rw [if_pos rfl, un_s, eu]
        · rw [if_neg c, un_n _ _ c]; exact c4 j hj
      exact h9
    refine ⟨fun n0 => ⟨fun n1 => ⟨hin, nm_e (hgo _ ?_)⟩, fun n1 => ⟨hin, nm_e (hgo _ ?_)⟩⟩, fun n0 => ⟨hin, nm_e (hgo _ ?_)⟩⟩
    · unfold cutL; rw [if_neg n0, if_neg n1]
    · unfold cutL; rw [if_neg n0, if_pos n1]
    · unfold cutL; rw [if_pos n0]
theorem q_torn (hG : RQ S G) (hK : K (nI (qO G)) S) : wp_X6_torn S K := by
  unfold wp_X6_torn
  rw [hG.2.2.2.2.2.2]
  exact hK
def nImg (G : aQ) : Int32 := bI (qI G 0).isSome + bI (qI G 1).isSome
theorem ci_val {k : Nat} (hG : RQ S G) (hk : k < 2) : S.2.1 27 7 k = bI (qI G k).isSome := by
  have h := hG.2.1 k hk
  unfold CI at h
  cases e : qI G k with
  | none => rw [e] at h; exact h
  | some B => rw [e] at h; exact h.1
theorem q_count {x : Int32} (hG : RQ S G) (hw : wfQ G) (hbad : (∀ w, w ≤ 5 → x ≠ nI w) → K (-1) S) (h0 : x = 0 → K (nI (qS G).1) S) (h1 : x = 1 → K (nImg G) S) (h2 : x = 2 → K (nI (qT G).1) S) (h3 : x = 3 → K (match (qH G 0).1 with | none => -4 | some _ => nI (qH G 0).2.1) S) (h4 : x = 4 → K (nI (wepF (qA G))) S) (h5 : x = 5 → K (nI (trmF (qA G))) S) : wp_X6_count x S K := by
  unfold wp_X6_count
  rw [hG.2.2.1.1, hG.2.2.2.2.1.1]
  have c0 : (0 : Int32).toNatClampNeg = 0 := by decide
  have c1 : (1 : Int32).toNatClampNeg = 1 := by decide
  refine ⟨fun z => hbad (fun w hw e => ?_), h0, fun e => ?_, h2, fun e => ?_, fun e => c_everWept hG.1 hw.1 (h4 e), fun e => c_trams hG.1 hw.1 (h5 e)⟩
  · rw [e, nI_toInt (by omega)] at z
    omega
  · have h1 := h1 e
    unfold nImg at h1
    unfold wp_X6_count_62
    rw [c0, c1, ci_val hG (k := 0) (by decide), ci_val hG (k := 1) (by decide)]
    have i0 : vp_in 0 2 := vp_in_nI (n := 0) (by decide) (by decide)
    have i1 : vp_in 1 2 := vp_in_nI (n := 1) (by decide) (by decide)
    refine ⟨i0, ?_⟩
    cases e0 : (qI G 0).isSome <;> cases e1 : (qI G 1).isSome <;> rw [e0, e1] at h1
    · exact ⟨fun _ => ⟨i1, fun _ => h1, fun z => absurd rfl z⟩, fun z => absurd rfl z⟩
    · exact ⟨fun _ => ⟨i1, fun z => absurd z (by decide), fun _ => h1⟩, fun z => absurd rfl z⟩
    · exact ⟨fun z => absurd z (by decide), fun _ => ⟨i1, fun _ => h1, fun z => absurd rfl z⟩⟩
    · exact ⟨fun z => absurd z (by decide), fun _ => ⟨i1, fun z => absurd z (by decide), fun _ => h1⟩⟩
  · have h3 := h3 e
    have hC := hG.2.2.2.2.2.1 0 (by decide)
    unfold CH at hC
    have i0 : vp_in 0 4 := vp_in_nI (n := 0) (by decide) (by decide)
    rw [c0]
    refine ⟨i0, ?_⟩
    cases el : (qH G 0).1 with
    | none =>
      rw [el] at hC h3
      rw [hC]
      exact ⟨fun _ => h3, fun z => absurd rfl z⟩
    | some l =>
      rw [el] at hC h3
      rw [hC.1, hC.2.2.1]
      exact ⟨fun z => absurd z (by decide), fun _ => ⟨i0, h3⟩⟩
end Q6
