section Q5
variable {S : tq_St} {G : aQ} {K : Int32 → tq_St → Prop}
-- BY A SEED
def drS (s : Int32) : Int32 := s * 1103515245 + 12345
def drJ (n : Nat) (s : Int32) : Nat := s.toBitVec.toNat / 65536 % 32768 % (n + 1)
def drA (n : Nat) (s : Int32) : Nat := if drJ n s < n then drJ n s else 5
def drL (n : Nat) : Nat → Int32 → aE → aY → aE × aY
  | 0, _, A, t => (A, t)
  | m + 1, s, A, t => drL n m (drS s) (playF A (drA n (drS s))) (t.1 ||| plW A (drA n (drS s)), t.2.1 + pcN (plW A (drA n (drS s))), t.2.2)
theorem drA_ok (n : Nat) (s : Int32) : okA n (drA n s) := by
  unfold drA okA
  split
  · exact Or.inl (by assumption)
  · exact Or.inr (Or.inl rfl)
theorem dr_val (x : Int32) {n : Nat} (hn : n ≤ 5) : ((((x : Int32).toUInt32 >>> ((16 : Int32).toUInt32 &&& Int32.toUInt32 31)).toInt32) &&& 32767) - ((((x : Int32).toUInt32 >>> ((16 : Int32).toUInt32 &&& Int32.toUInt32 31)).toInt32) &&& 32767) / (nI n + 1) * (nI n + 1) = nI (drJ n x) := by
  rw [pk_and _ (m := 32767) 15 (by decide)]
  have h := pk_ushr x 16 16 (by decide)
  rw [h, nI_1]
  have hlt : x.toBitVec.toNat / 2 ^ 16 % 2 ^ 15 < 2 ^ 15 := Nat.mod_lt _ (by decide)
  rw [pk_rem (by omega) (by omega) (by omega)]
  rfl
theorem drS_eq (s : Int32) : s * 1103515245 + 12345 = drS s := rfl
theorem drL_succ (n m : Nat) (s : Int32) (A : aE) (t : aY) : drL n (m + 1) s A t = drL n m (drS s) (playF A (drA n (drS s))) (t.1 ||| plW A (drA n (drS s)), t.2.1 + pcN (plW A (drA n (drS s))), t.2.2) := rfl
theorem q_drift_105 {S0 : tq_St} {N y v4 v6 s : Int32} {rec55 : Int32 → Int32 → Int32 → Int32 → Int32 → tq_St → Prop} {i : Nat} {A : aE} {t : aY} {a : Nat} (hw : wfE A) (ha : okA (aN A) a) (hR : RC S 1 A) (hT : TC S 1 t) (hF : Fr 1 S0 S) (hi : v6 = nI i) (hrec : ∀ S', RC S' 1 (playF A a) → TC S' 1 (t.1 ||| plW A a, t.2.1 + pcN (plW A a), t.2.2) → Fr 1 S0 S' → rec55 N y v4 s (nI (i + 1)) S') : wp_X6_drift_105 K rec55 N y v4 s v6 (nI a) S := by
  subst hi
  unfold wp_X6_drift_105
  refine c_play hR hw ha (fun S' a1 a2 a3 a4 a5 => nm_r (nI_1 i) ?_)
  exact hrec S' a1 ⟨by rw [a3, hT.1, fa_or], by rw [a4, hT.2.1, nI_add], by rw [a5, hT.2.2]⟩ (hF.tr a2)
theorem q_drift_55 {S0 : tq_St} {n N : Nat} {y : Int32} (hn : n ≤ 5) (hN : N ≤ 60) : ∀ (m i f : Nat) (s : Int32) (A : aE) (t : aY) (S : tq_St), i + m = N → m < f → wfE A → aN A = n → RC S 1 A → TC S 1 t → Fr 1 S0 S → (y = 0 → ∀ S', Fr 1 S0 S' → K (nI (drL n m s A t).2.2.1) S') → (¬ y = 0 → ∀ S', Fr 1 S0 S' → K (oI (nextF (drL n m s A t).1 0)) S') → wp_X6_drift_55 K f (nI N) y (nI n) s (nI i) S := by
  intro m
  induction m with
  | zero =>
    intro i f s A t S h1 h2 hw hA hR hT hF hK0 hK1
    obtain ⟨f, rfl⟩ : ∃ k, f = k + 1 := ⟨f - 1, by omega⟩
    unfold wp_X6_drift_55
    refine pk_le N i (fun _ => ⟨fun z => ?_, fun z => ?_⟩) (fun z => absurd z (by omega))
    · exact c_inLine (i := 0) hR hw (by decide) (fun S' a1 a2 a3 => hK1 z S' (hF.tr a2))
    · rw [hT.2.1]
      exact hK0 z S hF
  | succ m ih =>
    intro i f s A t S h1 h2 hw hA hR hT hF hK0 hK1
    obtain ⟨f, rfl⟩ : ∃ k, f = k + 1 := ⟨f - 1, by omega⟩
    rw [drL_succ] at hK0 hK1
    unfold wp_X6_drift_55
    refine pk_le N i (fun z => absurd z (by omega)) (fun _ => ?_)
    refine nm_r (drS_eq s) ?_
    generalize drS s = s' at hK0 hK1 ⊢
    refine ⟨by rw [nI_1]; exact nI_ne0 (by omega) (by omega), nm_r (dr_val s' hn) ?_⟩
    have hlt : drJ n s' < n + 1 := Nat.mod_lt _ (by omega)
    have hgo : ∀ w : Nat, w = drA n s' → wp_X6_drift_105 K (wp_X6_drift_55 K f) (nI N) y (nI n) s' (nI i) (nI w) S := by
      intro w e
      subst e
      exact q_drift_105 hw (by rw [hA]; exact drA_ok n _) hR hT hF rfl (fun S' a1 a2 a3 => ih (i + 1) f s' _ _ S' (by omega) (by omega) (playF_wf hw _) ((playF_same A _).1.trans hA) a1 a2 a3 hK0 hK1)
    refine pk_le n (drJ n s') (fun z => ?_) (fun z => ?_)
    · exact hgo 5 (by unfold drA; rw [if_neg (by omega)])
    · exact hgo _ (by unfold drA; rw [if_pos z])
theorem q_drift {x y w : Int32} (hG : RQ S G) (hw : wfQ G) (hbad : (∀ n, 1 ≤ n → n ≤ 60 → y ≠ nI n) ∨ (∀ k, k ≤ 1 → w ≠ nI k) → K (-1) S) (hst : ∀ n k, 1 ≤ n → n ≤ 60 → y = nI n → k ≤ 1 → w = nI k → aN (qA G) = 0 → K (-2) S) (h0 : ∀ n, 1 ≤ n → n ≤ 60 → y = nI n → w = 0 → 0 < aN (qA G) → ∀ S', RQ S' G → FC S S' → K (nI (drL (aN (qA G)) n x (qA G) (0, 0, none)).2.2.1) S') (h1 : ∀ n, 1 ≤ n → n ≤ 60 → y = nI n → w = 1 → 0 < aN (qA G) → ∀ S', RQ S' G → FC S S' → K (oI (nextF (drL (aN (qA G)) n x (qA G) (0, 0, none)).1 0)) S') : wp_X6_drift x y w S K := by
  have hn := hw.1.1
  unfold wp_X6_drift
  refine ⟨fun z => hbad (Or.inl (fun n ha hb e => ?_)), fun z => ⟨fun z2 => hbad (Or.inl (fun n ha hb e => ?_)), fun z2 => ?_⟩⟩
  · subst e
    have e1 : (1 : Int32) = nI 1 := rfl
    rw [e1, nI_ltI (by omega) (by decide)] at z
    omega
  · subst e
    have e1 : (60 : Int32) = nI 60 := rfl
    rw [e1, nI_ltI (by decide) (by omega)] at z2
    omega
  · obtain ⟨n, ha, hb, rfl⟩ := ix_bd (lo := 1) (hi := 60) (by decide) (by decide) z (fa_of_nlt z2)
    refine q_01 (fun k hk e => ⟨fun _ => nm_r hG.1.1 ?_, fun z => absurd z (by decide)⟩) (fun hno => ⟨fun z => absurd rfl z, fun _ => hbad (Or.inr hno)⟩)
    subst e
    refine pk_le 1 (aN (qA G)) (fun hp => ?_) (fun hp => hst n k ha hb rfl hk rfl (by omega))
    refine c_startFrom hG.1 hw.1 (by decide) (fun S1 a1 a2 a3 => ?_)
    have hk01 : k = 0 ∨ k = 1 := by omega
    refine q_drift_55 (S0 := S) hn hb n 0 2000 x (qA G) (0, 0, none) S1 (by omega) (by omega) hw.1 rfl a1 a3 a2 (fun e S' f => ?_) (fun e S' f => ?_)
    · have hx := f.fx (Or.inl (by decide))
      exact h0 n ha hb rfl e hp S' (hG.fx hx) hx.fc
    · have hx := f.fx (Or.inl (by decide))
      refine h1 n ha hb rfl ?_ hp S' (hG.fx hx) hx.fc
      rcases hk01 with c | c
      · exact absurd (by rw [c]; rfl) e
      · rw [c]; rfl
end Q5
