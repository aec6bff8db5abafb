section Q7
variable {S : tq_St} {G : aQ} {K : Int32 → tq_St → Prop}
-- ROWS OF ACTS (what is safe; answers are free here)
def Q21 (S : tq_St) : Prop := ∃ l, l ≤ 4 ∧ S.1 21 3 = nI l
def P21 (S : tq_St) : Prop := Q21 S ∨ S.1 21 4 = -1
theorem P21.fr {o : Nat} {S S' : tq_St} (h : P21 S) (f : Fr o S S') (ho : o ≠ 21) : P21 S' := by
  have := (f.1 21 (fun e => ho e.symm)).1
  unfold P21 Q21 at h ⊢
  rw [this]
  exact h
theorem P21.A {S : tq_St} (h : P21 S) (k i : Nat) (v : Int32) : P21 (sA S 21 k i v) := h
/-- levels up to d are as they were -/
def FL (b d : Nat) (S S' : tq_St) : Prop := FX S S' ∧ ∀ o, b ≤ o → o ≤ b + d → S'.1 o = S.1 o ∧ S'.2.1 o = S.2.1 o
theorem FL.rf {b d : Nat} {S : tq_St} : FL b d S S := ⟨FX.rf, fun _ _ _ => ⟨rfl, rfl⟩⟩
theorem FL.tr {b d : Nat} {S T U : tq_St} (h : FL b d S T) (h2 : FL b d T U) : FL b d S U := ⟨h.1.tr h2.1, fun o a c => ⟨((h2.2 o a c).1).trans (h.2 o a c).1, ((h2.2 o a c).2).trans (h.2 o a c).2⟩⟩
theorem FL.le {b d e : Nat} {S T : tq_St} (h : FL b d S T) (he : e ≤ d) : FL b e S T := ⟨h.1, fun o a c => h.2 o a (by omega)⟩
theorem Fr.fl {b d o : Nat} {S S' : tq_St} (f : Fr o S S') (ho : (1 ≤ o ∧ o < 17) ∨ o = 21) (hb : o < b ∨ b + d < o) : FL b d S S' := ⟨f.fx ho, fun o' a c => f.1 o' (by omega)⟩
theorem RC.fl {b d : Nat} {S S' : tq_St} {A : aE} (h : RC S (b + d) A) (f : FL b d S S') : RC S' (b + d) A := by
  have := f.2 (b + d) (by omega) (by omega)
  unfold RC
  rw [this.1, this.2]
  exact h
theorem TC.fl {b d : Nat} {S S' : tq_St} {t : aY} (h : TC S (b + d) t) (f : FL b d S S') : TC S' (b + d) t := by
  have := f.2 (b + d) (by omega) (by omega)
  unfold TC
  rw [this.1]
  exact h
theorem c_keepRow {d : Nat} {K : tq_St → Prop} (hd : d ≤ 4) (hK : ∀ S', Fr 21 S S' → S'.1 21 3 = nI d → (∀ i, i < d → S'.2.1 21 2 i = S.2.1 21 1 i) → K S') : wp_X2_keepRow (nI d) S K := by
  unfold wp_X2_keepRow
  rw [nI_clamp (by omega)]
  refine ⟨nI_pos (by omega), hd, hd, nm_e (nm_e ?_)⟩
  refine hK _ ((Fr.rf.C _ _).I _ _) (by rw [sI_1, if_pos rfl]) (fun i hi => ?_)
  show (sC S 21 2 (va_cpy (S.2.1 21 1) (S.2.1 21 2) 0 0 d)).2.1 21 2 i = _
  rw [sC_2, if_pos rfl, sb_cpy0 hi]
theorem c_tryLeaf {d : Nat} {t : aY} {rec : Int32 → Int32 → tq_St → (tq_St → Prop) → Prop} {K : tq_St → Prop} (hd : d ≤ 4) (hT : TC S (3 + d) t) (ht : t.1 < 32) (hP : P21 S) (hK : ∀ S', FL 3 d S S' → Q21 S' → K S') : wp_X2_tryRows_10 rec K (nI d) S := by
  unfold wp_X2_tryRows_10
  rw [nI_clamp (by omega), hT.1]
  refine ⟨vp_in_nI (by omega) (by decide), ?_⟩
  refine c_bitCount32 ht ⟨vp_in_nI (by omega) (by decide), nm_e ?_⟩
  have hpc := pcN_le t.1
  have h59 : wp_X2_tryRows_59 rec K (nI d) (nI (pcN t.1)) (S.1 (3 + d) 12) S := by
    unfold wp_X2_tryRows_59
    refine nm_e (nm_e ?_)
    refine c_keepRow hd (fun S' f e3 _ => ?_)
    have f2 := ((Fr.rf (o := 21) (S := S)).I 4 (nI (pcN t.1))).I 5 (S.1 (3 + d) 12)
    exact hK S' ((f2.tr f).fl (Or.inr rfl) (Or.inr (by omega))) ⟨d, hd, e3⟩
  have hno : ¬ S.1 21 4 < nI (pcN t.1) → K S := by
    intro z
    refine hK S FL.rf ?_
    rcases hP with h | h
    · exact h
    · exfalso
      apply z
      rw [h, Int32.lt_iff_toInt_lt, nI_toInt (by omega)]
      have e1 : (-1 : Int32).toInt = -1 := by decide
      omega
  exact ⟨fun _ => h59, fun z => ⟨fun _ => hno z, fun _ => ⟨fun _ => hno z, fun _ => h59⟩⟩⟩
theorem plW_32 {A : aE} (hw : wfE A) (a : Nat) : plW A a < 32 := Nat.lt_of_lt_of_le (plW_lt hw a) (zb_p31 hw.1)
theorem c_tryRows {n N : Nat} (hn : n ≤ 4) (hN : N ≤ 5) : ∀ (e d r : Nat) (A : aE) (t : aY) (S : tq_St) (K : tq_St → Prop), d + e = n → e < r → RC S (3 + d) A → wfE A → aN A = N → S.1 3 5 = nI N → TC S (3 + d) t → t.1 < 32 → P21 S → (∀ S', FL 3 d S S' → Q21 S' → K S') → wp_X2_tryRows r (nI d) (nI n) S K := by
  intro e
  induction e with
  | zero =>
    intro d r A t S K h1 h2 hR hw hA h35 hT ht hP hK
    obtain ⟨r, rfl⟩ : ∃ k, r = k + 1 := ⟨r - 1, by omega⟩
    unfold wp_X2_tryRows
    exact pk_le n d (fun _ => c_tryLeaf (by omega) hT ht hP hK) (fun z => absurd z (by omega))
  | succ e ih =>
    intro d r A t S K h1 h2 hR hw hA h35 hT ht hP hK
    obtain ⟨r, rfl⟩ : ∃ k, r = k + 1 := ⟨r - 1, by omega⟩
    unfold wp_X2_tryRows
    have c0 : (0 : Int32).toNatClampNeg = 0 := by decide
    rw [c0, h35]
    refine pk_le n d (fun z => absurd z (by omega)) (fun _ => pk_lt d 4 (fun _ => ⟨vp_in_nI (n := 0) (by decide) (by decide), nm_e ?_⟩) (fun z => absurd z (by omega)))
    -- the choices
    have hloop : ∀ (m c f : Nat) (S' : tq_St), c + m = N + 1 → m < f → FL 3 d S S' → ((c = 0 ∧ P21 S') ∨ Q21 S') → wp_X2_tryRows_89 (wp_X2_tryRows r) K f (nI d) (nI n) (nI N) (nI c) S' := by
      intro m
      induction m with
      | zero =>
        intro c f S' g1 g2 hF hQ
        obtain ⟨f, rfl⟩ : ∃ k, f = k + 1 := ⟨f - 1, by omega⟩
        unfold wp_X2_tryRows_89
        refine pk_lt N c (fun _ => hK S' hF ?_) (fun z => absurd z (by omega))
        rcases hQ with h | h
        · omega
        · exact h
      | succ m ihm =>
        intro c f S' g1 g2 hF hQ
        obtain ⟨f, rfl⟩ : ∃ k, f = k + 1 := ⟨f - 1, by omega⟩
        unfold wp_X2_tryRows_89
        refine pk_lt N c (fun z => absurd z (by omega)) (fun _ => ?_)
        have hP' : P21 S' := by
          rcases hQ with h | h
          · exact h.2
          · exact Or.inl h
        have hgo : ∀ a : Nat, okA N a → wp_X2_tryRows_112 (wp_X2_tryRows r) K (wp_X2_tryRows_89 (wp_X2_tryRows r) K f) (nI d) (nI n) (nI N) (nI c) (nI d) (nI a) S' := by
          intro a ha
          unfold wp_X2_tryRows_112
          rw [nI_1, nI_clamp (n := d) (by omega), nI_clamp (n := d + 1) (by omega)]
          have i4 : vp_in (nI d) 4 := vp_in_nI (by omega) (by decide)
          have i5 : vp_in (nI d) 5 := vp_in_nI (by omega) (by decide)
          have i6 : vp_in (nI (d + 1)) 5 := vp_in_nI (by omega) (by decide)
          refine ⟨i4, nm_e ⟨i6, i5, ?_⟩⟩
          have hR1 := hR.fl hF
          have hR2 : RC (sA S' 21 1 d (nI a)) (3 + d) A := hR1.fr ((Fr.rf (o := 21)).A _ _ _) (by omega)
          refine c_copyFrom (o := 3 + (d + 1)) hR2 hw (by omega) (fun S3 a1 a2 a3 a4 a5 => ⟨i6, i4, ?_⟩)
          rw [(a2.1 21 (by omega)).2, sA_at, if_pos rfl]
          refine c_play a1 hw (by rw [hA]; exact ha) (fun S4 b1 b2 b3 b4 b5 => ?_)
          have hT1 := hT.fl hF
          have hT3 : TC S4 (3 + (d + 1)) (t.1 ||| plW A a, t.2.1 + pcN (plW A a), t.2.2) := by
            refine ⟨?_, ?_, ?_⟩
            · rw [b3, a3, sA_1, hT1.1, fa_or]
            · rw [b4, a4, sA_1, hT1.2.1, nI_add]
            · rw [b5, a5, sA_1, hT1.2.2]
          have h35' : S4.1 3 5 = nI N := by
            rw [(b2.1 3 (by omega)).1, (a2.1 3 (by omega)).1, sA_1, (hF.2 3 (by omega) (by omega)).1]
            exact h35
          refine ih (d + 1) r (playF A a) _ S4 _ (by omega) (by omega) b1 (playF_wf hw a) ((playF_same A a).1.trans hA) h35' hT3 (Nat.or_lt_two_pow (n := 5) ht (plW_32 hw a)) (((hP'.A 1 d (nI a)).fr a2 (by omega)).fr b2 (by omega)) (fun S5 hF5 hQ5 => nm_r (nI_1 c) ?_)
          refine ihm (c + 1) f S5 (by omega) (by omega) (hF.tr ?_) (Or.inr hQ5)
          have fA : FL 3 d S' (sA S' 21 1 d (nI a)) := ((Fr.rf (o := 21)).A _ _ _).fl (Or.inr rfl) (Or.inr (by omega))
          have fB : FL 3 d (sA S' 21 1 d (nI a)) S3 := a2.fl (Or.inl (by omega)) (Or.inr (by omega))
          have fC : FL 3 d S3 S4 := b2.fl (Or.inl (by omega)) (Or.inr (by omega))
          exact ((fA.tr fB).tr fC).tr (hF5.le (by omega))
        exact pk_le N c (fun _ => hgo 5 (Or.inr (Or.inl rfl))) (fun z => hgo c (Or.inl z))
    exact hloop (N + 1) 0 2000 S (by omega) (by omega) FL.rf (Or.inl ⟨rfl, hP⟩)
theorem q_most {n : Nat} {K : tq_St → Prop} (hG : RQ S G) (hw : wfQ G) (hn : n ≤ 4) (hK : ∀ S', FX S S' → Q21 S' → K S') : wp_X2_findMostTears 0 (nI n) S K := by
  unfold wp_X2_findMostTears
  have c0 : (0 : Int32).toNatClampNeg = 0 := by decide
  rw [c0]
  refine ⟨vp_in_nI (n := 0) (by decide) (by decide), ?_⟩
  refine c_startFrom (o := 3 + 0) hG.1 hw.1 (by decide) (fun S1 a1 a2 a3 => nm_e (nm_e ?_))
  have f2 := ((Fr.rf (o := 21) (S := S1)).I 4 (-1)).I 5 (-1)
  refine c_tryRows hn hw.1.1 n 0 12 (qA G) (0, 0, none) _ K (by omega) (by omega) (a1.fr f2 (by decide)) hw.1 rfl ?_ ?_ (by decide) (Or.inr ?_) (fun S' hF hQ => hK S' ?_ hQ)
  · rw [(f2.1 3 (by decide)).1]; exact a1.1
  · have h3 := (f2.1 (3 + 0) (by decide)).1
    unfold TC
    rw [h3]
    exact a3
  · rw [sI_1, if_neg (by decide), sI_1, if_pos rfl]
  · exact ((a2.fx (Or.inl (by decide))).tr (f2.fx (Or.inr rfl))).tr hF.1
theorem c_foundAt {x : Int32} (hQ : Q21 S) (hK : ∀ r, K r S) : wp_X2_foundAt x S K := by
  obtain ⟨l, hl, e⟩ := hQ
  unfold wp_X2_foundAt
  rw [e]
  refine ⟨fun _ => hK _, fun z => ⟨fun _ => hK _, fun z2 => ⟨?_, hK _⟩⟩⟩
  obtain ⟨j, hj, rfl⟩ := nI_of z
  rw [nI_leI (by omega) hj] at z2
  exact vp_in_nI (by omega) (by decide)
theorem q_best {x y : Int32} (hG : RQ S G) (hw : wfQ G) (hK : ∀ r S', RQ S' G → FC S S' → K r S') : wp_X6_best x y S K := by
  have h24 : ∀ n, n ≤ 4 → x = nI n → wp_X6_best_24 K x y S := by
    intro n hn e
    subst e
    unfold wp_X6_best_24
    refine q_most hG hw hn (fun S' f hQ => ?_)
    have hr := fun r => hK r S' (hG.fx f) f.fc
    exact ⟨fun _ => ⟨fun _ => hr _, fun _ => hr _⟩, fun _ => c_foundAt hQ hr⟩
  unfold wp_X6_best
  refine ⟨fun _ => hK _ S hG FC.rf, fun z => ⟨fun _ => hK _ S hG FC.rf, fun z2 => ?_⟩⟩
  obtain ⟨n, hn, e⟩ := nI_of2 (n := 4) (by decide) z (fa_of_nlt z2)
  exact q_01 (fun w hw1 e2 => ⟨fun _ => h24 n hn e, fun z => absurd z (by decide)⟩) (fun hno => ⟨fun z => absurd rfl z, fun _ => ⟨fun _ => h24 n hn e, fun _ => hK _ S hG FC.rf⟩⟩)
-- A WAY HOME
theorem c_homeLeaf {d : Nat} {x : Int32} {A : aE} {rec : Int32 → Int32 → Int32 → tq_St → (Int32 → tq_St → Prop) → Prop} (hd : d ≤ 3) (hR : RC S (3 + d) A) (hw : wfE A) (hK : ∀ r S', FL 3 d S S' → Q21 S' → K r S') : wp_X2_isHome_10 rec K (nI d) x S := by
  unfold wp_X2_isHome_10
  rw [nI_1, nI_clamp (n := d) (by omega), nI_clamp (n := d + 1) (by omega)]
  have i5 : vp_in (nI d) 5 := vp_in_nI (by omega) (by decide)
  have i6 : vp_in (nI (d + 1)) 5 := vp_in_nI (by omega) (by decide)
  refine ⟨i6, i5, ?_⟩
  refine c_copyFrom (o := 3 + (d + 1)) hR hw (by omega) (fun S1 a1 a2 _ _ _ => ⟨i6, ?_⟩)
  refine c_board a1 hw (fun S2 b1 b2 _ => ?_)
  refine c_keepRow (by omega) (fun S3 f3 e3 _ => ⟨i6, ?_⟩)
  have b3 := b1.fr f3 (by omega)
  have hF : FL 3 d S S3 := ((a2.fl (Or.inl (by omega)) (Or.inr (by omega))).tr (b2.fl (Or.inl (by omega)) (Or.inr (by omega)))).tr (f3.fl (Or.inr rfl) (Or.inr (by omega)))
  have hr := fun r => hK r S3 hF ⟨d, by omega, e3⟩
  have hwb := boardF_wf hw
  exact c_waits b3.1 hw.1 b3.2.1 hwb.g31 (fun j hj e hb => ⟨fun _ => hr _, fun _ => hr _⟩) (fun h => ⟨fun _ => hr _, fun _ => hr _⟩)
theorem c_isHome {n N : Nat} {x : Int32} (hn : n ≤ 3) (hN : N ≤ 5) : ∀ (e d r : Nat) (A : aE) (S : tq_St) (K : Int32 → tq_St → Prop), d + e = n → e < r → RC S (3 + d) A → wfE A → aN A = N → S.1 3 5 = nI N → (∀ r S', FL 3 d S S' → (r = 0 ∨ Q21 S') → K r S') → wp_X2_isHome r (nI d) (nI n) x S K := by
  intro e
  induction e with
  | zero =>
    intro d r A S K h1 h2 hR hw hA h35 hK
    obtain ⟨r, rfl⟩ : ∃ k, r = k + 1 := ⟨r - 1, by omega⟩
    unfold wp_X2_isHome
    exact pk_le n d (fun _ => c_homeLeaf (by omega) hR hw (fun r S' f q => hK r S' f (Or.inr q))) (fun z => absurd z (by omega))
  | succ e ih =>
    intro d r A S K h1 h2 hR hw hA h35 hK
    obtain ⟨r, rfl⟩ : ∃ k, r = k + 1 := ⟨r - 1, by omega⟩
    unfold wp_X2_isHome
    have c0 : (0 : Int32).toNatClampNeg = 0 := by decide
    rw [c0, h35]
    refine pk_le n d (fun z => absurd z (by omega)) (fun _ => pk_lt d 3 (fun _ => ⟨vp_in_nI (n := 0) (by decide) (by decide), nm_e ?_⟩) (fun z => absurd z (by omega)))
    have hloop : ∀ (m c f : Nat) (S' : tq_St), c + m = N → m < f → FL 3 d S S' → wp_X2_isHome_79 (wp_X2_isHome r) K f (nI d) (nI n) x (nI N) (nI c) S' := by
      intro m
      induction m with
      | zero =>
        intro c f S' g1 g2 hF
        obtain ⟨f, rfl⟩ : ∃ k, f = k + 1 := ⟨f - 1, by omega⟩
        unfold wp_X2_isHome_79
        exact pk_le N c (fun _ => hK 0 S' hF (Or.inl rfl)) (fun z => absurd z (by omega))
      | succ m ihm =>
        intro c f S' g1 g2 hF
        obtain ⟨f, rfl⟩ : ∃ k, f = k + 1 := ⟨f - 1, by omega⟩
        unfold wp_X2_isHome_79
        refine pk_le N c (fun z => absurd z (by omega)) (fun hc => ?_)
        rw [nI_1, nI_clamp (n := d) (by omega), nI_clamp (n := d + 1) (by omega)]
        have i4 : vp_in (nI d) 4 := vp_in_nI (by omega) (by decide)
        have i5 : vp_in (nI d) 5 := vp_in_nI (by omega) (by decide)
        have i6 : vp_in (nI (d + 1)) 5 := vp_in_nI (by omega) (by decide)
        refine ⟨i4, nm_e ⟨i6, i5, ?_⟩⟩
        have hR1 := hR.fl hF
        have hR2 : RC (sA S' 21 1 d (nI c)) (3 + d) A := hR1.fr ((Fr.rf (o := 21)).A _ _ _) (by omega)
        refine c_copyFrom (o := 3 + (d + 1)) hR2 hw (by omega) (fun S3 a1 a2 _ _ _ => ⟨i6, ?_⟩)
        refine c_play a1 hw (Or.inl (by rw [hA]; exact hc)) (fun S4 b1 b2 _ _ _ => ?_)
        have h35' : S4.1 3 5 = nI N := by
          rw [(b2.1 3 (by omega)).1, (a2.1 3 (by omega)).1, sA_1, (hF.2 3 (by omega) (by omega)).1]
          exact h35
        have fA : FL 3 d S' (sA S' 21 1 d (nI c)) := ((Fr.rf (o := 21)).A _ _ _).fl (Or.inr rfl) (Or.inr (by omega))
        have fB : FL 3 d (sA S' 21 1 d (nI c)) S3 := a2.fl (Or.inl (by omega)) (Or.inr (by omega))
        have fC : FL 3 d S3 S4 := b2.fl (Or.inl (by omega)) (Or.inr (by omega))
        refine ih (d + 1) r (playF A c) S4 _ (by omega) (by omega) b1 (playF_wf hw c) ((playF_same A c).1.trans hA) h35' (fun r5 S5 hF5 hQ5 => ?_)
        have hF6 := hF.tr (((fA.tr fB).tr fC).tr (hF5.le (by omega)))
        refine ⟨fun _ => nm_r (nI_1 c) (ihm (c + 1) f S5 (by omega) (by omega) hF6), fun z => hK 1 S5 hF6 (Or.inr ?_)⟩
        rcases hQ5 with h | h
        · exact absurd h z
        · exact h
    exact hloop N 0 2000 S (by omega) (by omega) FL.rf
theorem q_way_12 {S0 : tq_St} {x : Int32} {A : aE} (hw : wfE A) (hR : RC S0 3 A) (hK : ∀ r S', FX S0 S' → (r = 0 ∨ Q21 S') → K r S') : ∀ (m n f : Nat) (S : tq_St), n + m = 4 → m < f → FL 3 0 S0 S → wp_X2_findWayHome_12 0 K f x (nI n) S
  | 0, n, f + 1, S, h1, h2, hF => by
    unfold wp_X2_findWayHome_12
    exact pk_lt 3 n (fun _ => hK 0 S hF.1 (Or.inl rfl)) (fun z => absurd z (by omega))
  | m + 1, n, f + 1, S, h1, h2, hF => by
    unfold wp_X2_findWayHome_12
    refine pk_lt 3 n (fun z => absurd z (by omega)) (fun _ => ?_)
    have hR1 : RC S (3 + 0) A := RC.fl (b := 3) (d := 0) hR hF
    refine c_isHome (n := n) (N := aN A) (by omega) hw.1 n 0 12 A S _ (by omega) (by omega) hR1 hw rfl hR1.1 (fun r S' f' q => ?_)
    refine ⟨fun _ => nm_r (nI_1 n) ?_, fun z => hK 1 S' (hF.tr f').1 (Or.inr ?_)⟩
    · exact q_way_12 hw hR hK m (n + 1) f S' (by omega) (by omega) (hF.tr f')
    · rcases q with h | h
      · exact absurd h z
      · exact h
theorem q_home {x y : Int32} (hG : RQ S G) (hw : wfQ G) (hK : ∀ r S', RQ S' G → FC S S' → K r S') : wp_X6_home x y S K := by
  have hS := fun r => hK r S hG FC.rf
  have h39 : ∀ v3 : Int32, wp_X6_home_39 K x y v3 S := by
    intro v3
    unfold wp_X6_home_39
    refine c_waits hG.1.1 hw.1.1 hG.1.2.1 hw.1.g31 (fun j hj e hb => ⟨fun _ => ?_, fun z => absurd z (by decide)⟩) (fun h => ⟨fun z => absurd rfl z, fun _ => hS _⟩)
    unfold wp_X2_findWayHome
    have c0 : (0 : Int32).toNatClampNeg = 0 := by decide
    rw [c0]
    refine ⟨vp_in_nI (n := 0) (by decide) (by decide), ?_⟩
    refine c_startFrom (o := 3 + 0) hG.1 hw.1 (by decide) (fun S1 a1 a2 a3 => ?_)
    refine q_way_12 (S0 := S1) hw.1 a1 (fun r S' f q => ?_) 4 0 2000 S1 (by omega) (by omega) FL.rf
    have hx := (a2.fx (Or.inl (by decide))).tr f
    have hr := fun r => hK r S' (hG.fx hx) hx.fc
    refine ⟨fun z => ⟨fun _ => hr _, fun _ => c_foundAt ?_ hr⟩, fun _ => hr _⟩
    rcases q with h | h
    · exact absurd h z
    · exact h
  have h17 : ∀ w0 : Int32, wp_X6_home_17 K x y w0 S := by
    intro w0
    unfold wp_X6_home_17
    exact c_isThere hG.1.1 hw.1.1 (fun p hp e => ⟨fun _ => hS _, fun _ => ⟨fun _ => h39 _, fun _ => ⟨fun _ => h39 _, fun _ => hS _⟩⟩⟩) (fun hno => ⟨fun _ => hS _, fun z => absurd rfl z⟩)
  unfold wp_X6_home wp_X6_home_16
  exact ⟨fun _ => h17 0, fun _ => ⟨fun _ => h17 0, fun _ => h17 1⟩⟩
end Q7
