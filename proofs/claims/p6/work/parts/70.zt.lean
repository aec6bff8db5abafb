section ZT
variable {S S0 : tq_St} {G : aQ} {K : Int32 → tq_St → Prop} {KV : tq_St → Prop} {len : Nat} {P : (Nat → Int32) × Int32 × Int32} {A : aE}
theorem cut_le : ∀ n, n < 7 → tq_cuts.getD n 0 ≤ tq_cuts.getD (n + 1) 0 ∧ tq_cuts.getD (n + 1) 0 ≤ 29 := by decide
theorem y_nm51 {h s n : Nat} {R : Int32 → tq_St → Prop} (hb : ∀ i, i < len → ∃ c, c < 128 ∧ S0.2.1 28 7 i = nI c) (hl : len ≤ 160) (hc : ∀ i, i < 8 → S0.2.1 28 16 i = nI (tq_cuts.getD i 0)) (hx : ZB P S0 S len) (hn : n < 7) (h13 : S.1 28 13 = nI h) (h12 : S.1 28 12 = nI s) (hhs : h ≤ s) (hs : s ≤ len) (h1 : K (nI n) S) (h0 : R (nI (n + 1)) S) : ∀ (m k f : Nat) (v : Int32), k + m = s - h → m < f → (v = 0 ∨ s - h = tq_cuts.getD (n + 1) 0 - tq_cuts.getD n 0) → wp_X7_nameHere_51 K R f (nI n) v (nI k) S := by
  have h106 : ∀ v, wp_X7_nameHere_106 K R (nI n) v S := fun v => ⟨fun _ => nm_r (nI_1 n) h0, fun _ => h1⟩
  have hcn := cut_le n hn
  intro m
  induction m with
  | zero =>
    intro k f v z1 z2 z3
    obtain ⟨f, rfl⟩ : ∃ k, f = k + 1 := ⟨f - 1, by omega⟩
    unfold wp_X7_nameHere_51
    rw [h13, h12, pk_sub hhs]
    exact ⟨fun _ => h106 _, fun _ => pk_le (s - h) k (fun _ => h106 _) (fun z => absurd z (by omega))⟩
  | succ m ih =>
    intro k f v z1 z2 z3
    obtain ⟨f, rfl⟩ : ∃ k, f = k + 1 := ⟨f - 1, by omega⟩
    unfold wp_X7_nameHere_51
    rw [h13, h12, pk_sub hhs]
    refine ⟨fun _ => h106 _, fun hv => pk_le (s - h) k (fun z => absurd z (by omega)) (fun _ => ?_)⟩
    have z3 : s - h = tq_cuts.getD (n + 1) 0 - tq_cuts.getD n 0 := by
      rcases z3 with z | z
      · exact absurd z hv
      · exact z
    rw [nI_add]
    refine y_byteAt hb hl hx (by omega) (fun c _ _ _ => ?_) (fun z => absurd z (by omega))
    refine ⟨vp_in_nI (by omega) (by decide), ?_, fun _ => nm_r (nI_1 k) (ih (k + 1) f 0 (by omega) (by omega) (Or.inl rfl)), fun _ => nm_r (nI_1 k) (ih (k + 1) f 1 (by omega) (by omega) (Or.inr z3))⟩
    rw [nI_clamp (by omega), hx.2.2.1 16 (by decide), hc n (by omega), nI_add]
    exact vp_in_nI (by omega) (by decide)
theorem y_nm2 {h s : Nat} (hb : ∀ i, i < len → ∃ c, c < 128 ∧ S0.2.1 28 7 i = nI c) (hl : len ≤ 160) (hc : ∀ i, i < 8 → S0.2.1 28 16 i = nI (tq_cuts.getD i 0)) (hx : ZB P S0 S len) (h13 : S.1 28 13 = nI h) (h12 : S.1 28 12 = nI s) (hhs : h ≤ s) (hs : s ≤ len) (h1 : ∀ n, n ≤ 6 → K (nI n) S) (h0 : K (-4) S) : ∀ (m n f : Nat), n + m = 7 → m < f → wp_X7_nameHere_2 K f (nI n) S := by
  intro m
  induction m with
  | zero =>
    intro n f z1 z2
    obtain ⟨f, rfl⟩ : ∃ k, f = k + 1 := ⟨f - 1, by omega⟩
    unfold wp_X7_nameHere_2
    exact pk_le 7 n (fun _ => h0) (fun z => absurd z (by omega))
  | succ m ih =>
    intro n f z1 z2
    obtain ⟨f, rfl⟩ : ∃ k, f = k + 1 := ⟨f - 1, by omega⟩
    have hcn := cut_le n (by omega)
    unfold wp_X7_nameHere_2
    refine pk_le 7 n (fun z => absurd z (by omega)) (fun _ => ⟨fun _ => h0, fun _ => ?_⟩)
    rw [nI_1, nI_clamp (by omega), nI_clamp (by omega), h13, h12, hx.2.2.1 16 (by decide), hc n (by omega), hc (n + 1) (by omega), pk_sub hhs, pk_sub hcn.1]
    have hgo := y_nm51 (R := wp_X7_nameHere_2 K f) hb hl hc hx (by omega) h13 h12 hhs hs (h1 n (by omega)) (ih (n + 1) f (by omega) (by omega)) (s - h) 0 2000
    refine ⟨vp_in_nI (by omega) (by decide), vp_in_nI (by omega) (by decide), fun _ => hgo 0 (by omega) (by omega) (Or.inl rfl), fun e => hgo 1 (by omega) (by omega) (Or.inr ((nI_eq (by omega) (by omega)).mp e))⟩
theorem y_name {b : Nat} (hb : ∀ i, i < len → ∃ c, c < 128 ∧ S0.2.1 28 7 i = nI c) (hl : len ≤ 160) (hc : ∀ i, i < 8 → S0.2.1 28 16 i = nI (tq_cuts.getD i 0)) (h : ZM P S0 S len b) (h1 : ∀ n, n ≤ 6 → K (nI n) S) (h0 : K (-4) S) : wp_X7_nameHere S K := by
  obtain ⟨hx, a, s, -, h3, h4, h5, h6, -⟩ := h
  exact y_nm2 hb hl hc hx h5 h6 h3 h4 h1 h0 7 0 2000 (by omega) (by omega)
-- drafts
theorem le_high {v h : Nat} (hv : v < 2 ^ 30) (hh : h < 2 ^ 30) : nI v ≤ nI h - 1 ↔ v < h := by
  have e := pk_sub_toInt (a := h) (b := 1) hh (by decide)
  have e' : (nI h - 1).toInt = (h : Int) - 1 := e
  rw [fa_le, e', nI_toInt (by omega)]
  omega
theorem high_lt {v h : Nat} (hv : v < 2 ^ 30) (hh : h < 2 ^ 30) : nI h - 1 < nI v ↔ h ≤ v := by
  have e := pk_sub_toInt (a := h) (b := 1) hh (by decide)
  have e' : (nI h - 1).toInt = (h : Int) - 1 := e
  rw [fa_lt, e', nI_toInt (by omega)]
  omega
theorem RD.plan (h : RD P A) (hw : wfD A) (hc : aC A < 8) {v g : Nat} {w : Int32} (hg : g ≤ 5) (ew : w = nI g - 1) (hold : ∀ i, i < aC A → aA A i < 5 → aA A i < g) (hnew : v < 5 → v < g) (htop : g = 0 ∨ (∃ i, i < aC A ∧ aA A i + 1 = g) ∨ v + 1 = g) : RD (upd (upd P.1 (19 + aC A) (nI v)) 27 (nI (aC A + 1)), P.2.1, w) (planA A v) := by
  obtain ⟨h1, h2, h3, h4, h5, h6, h7, h8, h9, h10, h11, -⟩ := h
  have hn := hw.1
  have hu : ∀ j, j ≠ 27 → j ≠ 19 + aC A → upd (upd P.1 (19 + aC A) (nI v)) 27 (nI (aC A + 1)) j = P.1 j := fun j a b => by rw [pk_un a, pk_un b]
  refine ⟨h1, fun p hp => ?_, fun p hp => ?_, fun p hp hp5 => ?_, fun p hp => ?_, ?_, ?_, ?_, ?_, fun i hi => ?_, h11, g, hg, ew, fun i hi hi5 => ?_, ?_⟩
  · have hp : p < aN A := hp
    exact (hu p (by omega) (by omega)).trans (h2 p hp)
  · have hp : p < aN A := hp
    exact (hu (5 + p) (by omega) (by omega)).trans (h3 p hp)
  · exact (hu (5 + p) (by omega) (by omega)).trans (h4 p hp hp5)
  · exact (hu (10 + p) (by omega) (by omega)).trans (h5 p hp)
  · exact ⟨(hu 15 (by omega) (by omega)).trans h6.1, (hu 16 (by omega) (by omega)).trans h6.2⟩
  · exact (hu 17 (by omega) (by omega)).trans h7
  · exact (hu 18 (by omega) (by omega)).trans h8
  · exact pk_us (f := upd P.1 (19 + aC A) (nI v)) (k := 27) (x := nI (aC A + 1))
  · have hi : i < aC A + 1 := hi
    show upd (upd P.1 (19 + aC A) (nI v)) 27 (nI (aC A + 1)) (19 + i) = nI (un (aA A) (aC A) v i)
    by_cases c : i = aC A
    · subst c
      rw [un_s, pk_un (by omega), pk_us]
    · rw [un_n _ _ c, hu _ (by omega) (by omega)]
      exact h10 i (by omega)
  · have hi : i < aC A + 1 := hi
    have hi5 : un (aA A) (aC A) v i < 5 := hi5
    show un (aA A) (aC A) v i < g
    by_cases c : i = aC A
    · subst c
      rw [un_s] at hi5 ⊢
      exact hnew hi5
    · rw [un_n _ _ c] at hi5 ⊢
      exact hold i (by omega) hi5
  · rcases htop with c | ⟨i, hi, c⟩ | c
    · exact Or.inl c
    · exact Or.inr ⟨i, by show i < aC A + 1; omega, by show un (aA A) (aC A) v i + 1 = g; rw [un_n _ _ (by omega)]; exact c⟩
    · exact Or.inr ⟨aC A, by show aC A < aC A + 1; omega, by show un (aA A) (aC A) v (aC A) + 1 = g; rw [un_s]; exact c⟩
theorem plan_wfD (hw : wfD A) (hc : aC A < 8) {v : Nat} (hv : v ≤ 6) : wfD (planA A v) := by
  obtain ⟨h1, h2, h3, h4, h5, h6, h7, h8, h9, h10⟩ := hw
  refine ⟨h1, h2, h3, h4, h5, h6, h7, h8, by show aC A + 1 ≤ 8; omega, fun i hi => ?_⟩
  have hi : i < aC A + 1 := hi
  show un (aA A) (aC A) v i ≤ 6
  by_cases c : i = aC A
  · subst c
    rw [un_s]; exact hv
  · rw [un_n _ _ c]
    exact h10 i (by omega)
theorem RD.one (h : RD P A) (hw : wfD A) (hn : aN A < 5) {k s : Nat} {P' : (Nat → Int32) × Int32 × Int32} (e1 : P'.1 (aN A) = nI k) (e2 : P'.1 (5 + aN A) = nI s) (e3 : ∀ j, j ≠ aN A → j ≠ 5 + aN A → P'.1 j = P.1 j) (e4 : P'.2.1 = nI (aN A + 1)) (e5 : P'.2.2 = P.2.2) : RD P' (addO A k s) := by
  obtain ⟨h1, h2, h3, h4, h5, h6, h7, h8, h9, h10, h11, g, h12, h13, h14⟩ := h
  have hc := hw.2.2.2.2.2.2.2.2.1
  refine ⟨e4, fun p hp => ?_, fun p hp => ?_, fun p hp hp5 => ?_, fun p hp => ?_, ?_, ?_, ?_, ?_, fun i hi => ?_, ⟨h11.1, h11.2.1, fun p => ?_⟩, g, h12, e5.trans h13, h14⟩
  · have hp : p < aN A + 1 := hp
    show _ = nI (un (aK A) (aN A) k p)
    by_cases c : p = aN A
    · subst c
      rw [un_s]; exact e1
    · rw [un_n _ _ c, e3 _ (by omega) (by omega)]
      exact h2 p (by omega)
  · have hp : p < aN A + 1 := hp
    show _ = nI (un (aS A) (aN A) s p)
    by_cases c : p = aN A
    · subst c
      rw [un_s]; exact e2
    · rw [un_n _ _ c, e3 _ (by omega) (by omega)]
      exact h3 p (by omega)
  · have hp : aN A + 1 ≤ p := hp
    rw [e3 _ (by omega) (by omega)]
    exact h4 p (by omega) hp5
  · rw [e3 _ (by omega) (by omega)]; exact h5 p hp
  · rw [e3 _ (by omega) (by omega), e3 _ (by omega) (by omega)]; exact h6
  · rw [e3 _ (by omega) (by omega)]; exact h7
  · rw [e3 _ (by omega) (by omega)]; exact h8
  · rw [e3 _ (by omega) (by omega)]; exact h9
  · have hi : i < aC A := hi
    rw [e3 _ (by omega) (by omega)]; exact h10 i hi
  · show un (aW A) (aN A) 0 p = 0
    by_cases c : p = aN A
    · subst c
      rw [un_s]
    · rw [un_n _ _ c]
      exact h11.2.2 p
theorem RD.put (h : RD P A) (hw : wfD A) {P' : (Nat → Int32) × Int32 × Int32} {r t : Nat} (e3 : ∀ j, j ≠ 17 → j ≠ 18 → P'.1 j = P.1 j) (e17 : P'.1 17 = nI r - 2) (e18 : P'.1 18 = nI t - 4) (e4 : P'.2 = P.2) : RD P' (uT (uR A r) t) := by
  obtain ⟨h1, h2, h3, h4, h5, h6, h7, h8, h9, h10, h11, g, h12, h13, h14⟩ := h
  have hn := hw.1
  have hc := hw.2.2.2.2.2.2.2.2.1
  refine ⟨by rw [e4]; exact h1, fun p hp => ?_, fun p hp => ?_, fun p hp hp5 => ?_, fun p hp => ?_, ?_, e17, e18, ?_, fun i hi => ?_, h11, g, h12, by rw [e4]; exact h13, h14⟩
  · have hp : p < aN A := hp
    rw [e3 _ (by omega) (by omega)]; exact h2 p hp
  · have hp : p < aN A := hp
    rw [e3 _ (by omega) (by omega)]; exact h3 p hp
  · rw [e3 _ (by omega) (by omega)]; exact h4 p hp hp5
  · rw [e3 _ (by omega) (by omega)]; exact h5 p hp
  · rw [e3 _ (by omega) (by omega), e3 _ (by omega) (by omega)]; exact h6
  · rw [e3 _ (by omega) (by omega)]; exact h9
  · have hi : i < aC A := hi
    rw [e3 _ (by omega) (by omega)]; exact h10 i hi
theorem y_plan0 {b : Nat} (hb : ∀ i, i < len → ∃ c, c < 128 ∧ S0.2.1 28 7 i = nI c) (hl : len ≤ 160) (hK : ∀ P' A' S', ZM P' S0 S' len b → RD P' A' → wfD A' → KV S') : ∀ (m f : Nat) (P : (Nat → Int32) × Int32 × Int32) (A : aE) (S : tq_St), aC A + m = 8 → m + 1 < f → ZM P S0 S len b → RD P A → wfD A → wp_X7_readPlan_0 KV f S := by
  intro m
  induction m with
  | zero =>
    intro f P A S z1 z2 x1 x2 x3
    obtain ⟨f, rfl⟩ : ∃ k, f = k + 1 + 1 := ⟨f - 2, by omega⟩
    have e27 : S.2.1 28 3 27 = nI (aC A) := by rw [x1.1.2.2.2.2.2.1]; exact x2.2.2.2.2.2.2.2.2.1
    rw [wp_X7_readPlan_0]
    refine ⟨fun _ => hK P A S x1 x2 x3, fun _ => ⟨fun _ => hK P A S x1 x2 x3, fun _ => ⟨vp_in_nI (n := 27) (by decide) (by decide), fun z => absurd ?_ z, fun _ => ?_⟩⟩⟩
    · show S.2.1 28 3 27 = 8
      rw [e27, (by omega : aC A = 8)]
      rfl
    · refine y_fails (y := 5) x1 (by decide) (fun S' a1 a2 _ => ?_)
      rw [wp_X7_readPlan_0]
      exact ⟨fun _ => hK P A S' a1 x2 x3, fun z => absurd z a2⟩
  | succ m ih =>
    intro f P A S z1 z2 x1 x2 x3
    obtain ⟨f, rfl⟩ : ∃ k, f = k + 1 := ⟨f - 1, by omega⟩
    have e27 : S.2.1 28 3 27 = nI (aC A) := by rw [x1.1.2.2.2.2.2.1]; exact x2.2.2.2.2.2.2.2.2.1
    rw [wp_X7_readPlan_0]
    refine ⟨fun _ => hK P A S x1 x2 x3, fun _ => ⟨fun _ => hK P A S x1 x2 x3, fun _ => ⟨vp_in_nI (n := 27) (by decide) (by decide), fun _ => ?_, fun z => absurd (show S.2.1 28 3 27 = nI 8 from z) (by rw [e27]; exact fun e => absurd ((nI_eq (by omega) (by decide)).mp e) (by omega))⟩⟩⟩
    refine y_number (lo := 0) (hi := 6) hb hl x1 (by decide) (by decide) (fun v S5 _ hv y1 => ?_)
    obtain ⟨g, g1, g2, g3⟩ := x2.2.2.2.2.2.2.2.2.2.2.2
    have e6 : S5.1 28 6 = nI g - 1 := by rw [y1.1.2.2.2.2.2.2.2]; exact g2
    have h65 : ∀ w g', g' ≤ 5 → w = nI g' - 1 → (∀ i, i < aC A → aA A i < 5 → aA A i < g') → (v < 5 → v < g') → (g' = 0 ∨ (∃ i, i < aC A ∧ aA A i + 1 = g') ∨ v + 1 = g') → wp_X7_readPlan_65 KV (wp_X7_readPlan_0 KV f) (nI v) w S5 := by
      intro w g' q1 q2 q3 q4 q5
      unfold wp_X7_readPlan_65
      refine nm_e ⟨vp_in_nI (n := 27) (by decide) (by decide), ?_⟩
      have y2 := y1.i6 w
      have e27' : (sI S5 28 6 w).2.1 28 3 (27 : Int32).toNatClampNeg = nI (aC A) := by
        show S5.2.1 28 3 27 = _
        rw [y1.1.2.2.2.2.2.1]; exact x2.2.2.2.2.2.2.2.2.1
      have e19 : (19 : Int32) + nI (aC A) = nI (19 + aC A) := nI_add 19 (aC A)
      rw [e27', e19]
      refine ⟨vp_in_nI (by omega) (by decide), nm_e ⟨vp_in_nI (n := 27) (by decide) (by decide), vp_in_nI (n := 27) (by decide) (by decide), ?_⟩⟩
      rw [nI_clamp (by omega)]
      have e27'' : (sA (sI S5 28 6 w) 28 3 (19 + aC A) (nI v)).2.1 28 3 (27 : Int32).toNatClampNeg = nI (aC A) := by
        show (sA (sI S5 28 6 w) 28 3 (19 + aC A) (nI v)).2.1 28 3 27 = _
        rw [sA_at, if_neg (by omega)]
        exact e27'
      rw [e27'', nI_1]
      refine nm_e ?_
      have y3 := (y2.a (19 + aC A) (nI v)).a 27 (nI (aC A + 1))
      exact ih f _ (planA A v) _ (by show aC A + 1 + m = 8; omega) (by omega) y3 (x2.plan x3 (by omega) q1 q2 q3 q4 q5) (plan_wfD x3 (by omega) hv)
    have h61 : (5 ≤ v ∨ v < g) → wp_X7_readPlan_61 KV (wp_X7_readPlan_0 KV f) (nI v) S5 := fun hg => h65 _ g g1 e6 g3.1 (fun z => by omega) (g3.2.imp id Or.inl)
    refine pk_le 5 v (fun z => h61 (Or.inl z)) (fun z => ?_)
    rw [e6]
    refine ⟨fun q => h61 (Or.inr ((le_high (by omega) (by omega)).mp q)), fun q => ?_⟩
    have q' : ¬ v < g := fun c => q ((le_high (by omega) (by omega)).mpr c)
    exact h65 _ (v + 1) (by omega) (nI_pred v).symm (fun i hi h5 => by have := g3.1 i hi h5; omega) (fun _ => by omega) (Or.inr (Or.inr rfl))
theorem y_more {b n : Nat} (hb : ∀ i, i < len → ∃ c, c < 128 ∧ S0.2.1 28 7 i = nI c) (hl : len ≤ 160) (x1 : ZM P S0 S len b) (x2 : RD P A) (x3 : wfD A) (hn : n ≤ 6) (h5 : n ≤ 3 → aN A < 5) (hK : ∀ P' A' S', ZM P' S0 S' len b → RD P' A' → wfD A' → KV S') : wp_X7_readMore (nI n) S KV := by
  unfold wp_X7_readMore
  refine pk_lt 3 n (fun z => ?_) (fun z => ?_)
  · refine ⟨fun z4 => ⟨fun z5 => ?_, fun z5 => ?_⟩, fun z4 => ?_⟩
    · unfold wp_X7_readPlan
      have hc := x3.2.2.2.2.2.2.2.2.1
      exact y_plan0 hb hl hK (8 - aC A) 2000 P A S (by omega) (by omega) x1 x2 x3
    · refine y_number (lo := 1) (hi := 9) hb hl x1 (by decide) (by decide) (fun v S5 hv1 hv y1 => ⟨vp_in_nI (n := 18) (by decide) (by decide), nm_e ?_⟩)
      have y2 := y1.a 18 (nI v - 4)
      have x3' := x3
      obtain ⟨w1, w2, w3, w4, w5, w6, w7, w8, w9, w10⟩ := x3'
      refine hK _ (uT (uR A (aR A)) v) _ y2 (x2.put x3 (fun j a c => pk_un c) ((pk_un (f := P.1) (x := nI v - 4) (k := 18) (j := 17) (by decide)).trans x2.2.2.2.2.2.2.1) (pk_us (f := P.1) (x := nI v - 4) (k := 18)) rfl) ⟨w1, w2, w3, w4, w5, w6, w7, ⟨hv1, hv⟩, w9, w10⟩
    · refine y_number (lo := 1) (hi := 5) hb hl x1 (by decide) (by decide) (fun v S5 hv1 hv y1 => ⟨vp_in_nI (n := 17) (by decide) (by decide), nm_e ?_⟩)
      have y2 := y1.a 17 (nI v - 2)
      have x3' := x3
      obtain ⟨w1, w2, w3, w4, w5, w6, w7, w8, w9, w10⟩ := x3'
      refine hK _ (uT (uR A v) (aT A)) _ y2 (x2.put x3 (fun j a c => pk_un a) (pk_us (f := P.1) (x := nI v - 2) (k := 17)) ((pk_un (f := P.1) (x := nI v - 2) (k := 17) (j := 18) (by decide)).trans x2.2.2.2.2.2.2.2.1) rfl) ⟨w1, w2, w3, w4, w5, w6, ⟨hv1, hv⟩, w8, w9, w10⟩
  · have hN := h5 z
    have e4 : S.1 28 4 = nI (aN A) := by rw [x1.1.2.2.2.2.2.2.1]; exact x2.1
    rw [e4, nI_clamp (by omega)]
    refine ⟨vp_in_nI (by omega) (by decide), nm_e ?_⟩
    have y2 := x1.a (aN A) (nI n)
    have e4' : (sA S 28 3 (aN A) (nI n)).1 28 4 = nI (aN A) := e4
    rw [e4']
    have h41 : ∀ (P2 : (Nat → Int32) × Int32 × Int32) (S2 : tq_St) (s : Nat), s ≤ 40 → ZM P2 S0 S2 len b → P2.1 (aN A) = nI n → P2.1 (5 + aN A) = nI s → (∀ j, j ≠ aN A → j ≠ 5 + aN A → P2.1 j = P.1 j) → P2.2 = P.2 → wp_X7_readMore_41 KV S2 := by
      intro P2 S2 s hs q1 q2 q3 q4 q5
      unfold wp_X7_readMore_41
      have e42 : S2.1 28 4 = nI (aN A) := by rw [q1.1.2.2.2.2.2.2.1, q5]; exact x2.1
      rw [e42, nI_1]
      refine nm_e (hK _ (addO A n s) _ (q1.i4 (nI (aN A + 1))) (x2.one x3 hN q2 q3 q4 rfl (by show P2.2.2 = _; rw [q5])) (addO_wf x3 hN (by omega) hs))
    refine ⟨fun _ => ?_, fun _ => ?_⟩
    · exact h41 _ _ 0 (by omega) y2 pk_us ((pk_un (by omega)).trans (x2.2.2.2.1 (aN A) (Nat.le_refl _) hN)) (fun j a _ => pk_un a) rfl
    · refine y_number (lo := 0) (hi := 40) hb hl y2 (by decide) (by decide) (fun v S5 _ hv y1 => ?_)
      have e5 : (5 : Int32) + nI (aN A) = nI (5 + aN A) := nI_add 5 (aN A)
      rw [e5, nI_clamp (by omega)]
      refine ⟨vp_in_nI (by omega) (by decide), nm_e ?_⟩
      exact h41 _ _ v hv (y1.a (5 + aN A) (nI v)) ((pk_un (by omega)).trans pk_us) pk_us (fun j a c => (pk_un c).trans (pk_un a)) rfl
theorem brk_nle {b : Nat} (h : ZM P S0 S len b) (h0 : ¬ S.1 28 10 = 0) : ¬ S.1 28 10 ≤ 0 := by
  obtain ⟨y, b1, b2⟩ := h.1.2.2.2.2.1
  rw [b2] at h0 ⊢
  refine nI_nle ?_ (by omega)
  rcases Nat.eq_zero_or_pos y with c | c
  · subst c; exact absurd rfl h0
  · exact c
theorem y_63 {b s n : Nat} (hb : ∀ i, i < len → ∃ c, c < 128 ∧ S0.2.1 28 7 i = nI c) (hl : len ≤ 160) (x1 : ZM P S0 S len b) (x2 : RD P A) (x3 : wfD A) (hn : n ≤ 6) (hs : s ≤ 160) (hc : ¬ S.1 28 10 = 0 ∨ (S.1 28 12 = nI s ∧ (n ≤ 3 → aN A < 5))) (hK : ∀ P' A' S', RD P' A' → wfD A' → ((¬ S'.1 28 10 = 0 ∧ ZM P' S0 S' len b) ∨ ZM P' S0 S' len s) → KV S') : wp_X7_readLine_63 KV (nI n) S := by
  unfold wp_X7_readLine_63
  refine nm_e (y_step hb hl (x1.i5 _) (fun S13 a1 a2 => ?_))
  rcases a2 with ⟨a2, a3⟩ | ⟨a2, s', a3, a4, a5⟩
  · refine ⟨fun z => absurd z (brk_nle a1 (by rw [a3]; exact a2)), fun _ => hK P A S13 x2 x3 (Or.inl ⟨by rw [a3]; exact a2, a1⟩)⟩
  · rw [sI_1, if_neg (by decide)] at a2 a3
    rcases hc with hc | ⟨hc1, hc2⟩
    · exact absurd a2 hc
    · have es : s' = s := (nI_eq a4 (by omega)).mp (a3.symm.trans hc1)
      subst es
      refine ⟨fun _ => ?_, fun z => hK P A S13 x2 x3 (Or.inr a5)⟩
      refine y_more hb hl a5 x2 x3 hn hc2 (fun P' A' S17 c1 c2 c3 => ?_)
      have h112 : ∀ S2, ZM P' S0 S2 len s' → wp_X7_readLine_112 KV S2 := fun S2 d1 => y_step hb hl d1 (fun S3 d2 _ => hK P' A' S3 c2 c3 (Or.inr d2))
      exact ⟨fun _ => h112 S17 c1, fun _ => ⟨fun _ => h112 S17 c1, fun _ => y_fails (y := 2) c1 (by decide) (fun S2 d1 _ _ => h112 S2 d1)⟩⟩
theorem y_line {b s : Nat} (hb : ∀ i, i < len → ∃ c, c < 128 ∧ S0.2.1 28 7 i = nI c) (hl : len ≤ 160) (hc : ∀ i, i < 8 → S0.2.1 28 16 i = nI (tq_cuts.getD i 0)) (x1 : ZM P S0 S len b) (x2 : RD P A) (x3 : wfD A) (hs : s ≤ 160) (h12 : S.1 28 12 = nI s) (hK : ∀ P' A' S', RD P' A' → wfD A' → ((¬ S'.1 28 10 = 0 ∧ ZM P' S0 S' len b) ∨ ZM P' S0 S' len s) → KV S') : wp_X7_readLine S KV := by
  unfold wp_X7_readLine
  have h41 : ∀ n S2, n ≤ 6 → ZM P S0 S2 len b → (¬ S2.1 28 10 = 0 ∨ (S2.1 28 12 = nI s ∧ (n ≤ 3 → aN A < 5))) → wp_X7_readLine_41 KV (nI n) S2 := by
    intro n S2 hn y1 y2
    unfold wp_X7_readLine_41
    refine ⟨fun _ => y_63 hb hl y1 x2 x3 hn hs y2 hK, fun _ => ⟨fun _ => y_63 hb hl y1 x2 x3 hn hs y2 hK, fun _ => ?_⟩⟩
    exact y_fails (y := 4) y1 (by decide) (fun S3 d1 d2 _ => y_63 hb hl d1 x2 x3 hn hs (Or.inl d2) hK)
  refine y_name hb hl hc x1 (fun n hn => ?_) ?_
  · refine m_in 0 6 (by decide) (by decide) (by decide) (fun v _ _ _ => ⟨fun _ => ?_, fun z => absurd z (by decide)⟩) (fun hno => absurd rfl (hno n (by omega) hn))
    have e4 : S.1 28 4 = nI (aN A) := by rw [x1.1.2.2.2.2.2.2.1]; exact x2.1
    have hN := x3.1
    refine pk_lt 3 n (fun z => h41 n S hn x1 (Or.inr ⟨h12, fun c => by omega⟩)) (fun z => ?_)
    rw [e4]
    refine ⟨fun z5 => h41 n S hn x1 (Or.inr ⟨h12, fun _ => ?_⟩), fun _ => y_fails (y := 5) x1 (by decide) (fun S3 d1 d2 _ => h41 n S3 hn d1 (Or.inl d2))⟩
    rcases Nat.lt_or_ge (aN A) 5 with c | c
    · exact c
    · exact absurd (congrArg nI (by omega : aN A = 5)) z5
  · refine m_in 0 6 (by decide) (by decide) (by decide) (fun v _ _ e => absurd e.symm (oI_ne (by omega))) (fun _ => ⟨fun z => absurd rfl z, fun _ => ?_⟩)
    exact y_fails (y := 2) x1 (by decide) (fun S3 d1 d2 _ => hK P A S3 x2 x3 (Or.inl ⟨d2, d1⟩))
-- the text
theorem y_130 {S1 : tq_St} {v : Int32} (hK : ∀ r S', Fr 28 S1 S' → (∀ k, k ≠ 2 → k ≠ 22 → S'.1 28 k = S1.1 28 k) → S'.1 28 2 = S1.1 28 4 → S'.1 28 22 = 0 → (∀ k, k ≠ 0 → k ≠ 24 → S'.2.1 28 k = S1.2.1 28 k) → (∀ j, j < 28 → pg S' j = rp S1 j) → S'.2.1 28 24 0 = 0 → S'.2.1 28 24 1 = 0 → K r S') : ∀ (m i f : Nat) (S : tq_St), i + m = 28 → m < f → Fr 28 S1 S → S.1 = S1.1 → (∀ k, k ≠ 0 → S.2.1 28 k = S1.2.1 28 k) → (∀ j, j < i → pg S j = rp S1 j) → wp_X7_text_130 K f v (nI i) S := by
  intro m
  induction m with
  | zero =>
    intro i f S z1 z2 f1 f2 f3 f4
    obtain ⟨f, rfl⟩ : ∃ k, f = k + 1 := ⟨f - 1, by omega⟩
    unfold wp_X7_text_130
    refine pk_le 28 i (fun _ => nm_e (nm_e ⟨vp_in_nI (n := 0) (by decide) (by decide), nm_e ⟨vp_in_nI (n := 1) (by decide) (by decide), nm_e ?_⟩⟩)) (fun z => absurd z (by omega))
    refine hK _ _ ((((f1.I _ _).I _ _).A _ _ _).A _ _ _) (fun k a b => ?_) ?_ ?_ (fun k a b => ?_) (fun j hj => ?_) ?_ ?_
    · rw [sA_1, sA_1, sI_1, if_neg b, sI_1, if_neg a, f2]
    · rw [sA_1, sA_1, sI_1, if_neg (by decide), sI_1, if_pos rfl, f2]
    · rw [sA_1, sA_1, sI_1, if_pos rfl]
    · rw [sA_nk _ _ _ _ _ b, sA_nk _ _ _ _ _ b]; exact f3 k a
    · show (sA (sA _ 28 24 _ _) 28 24 _ _).2.1 28 0 j = _
      rw [sA_nk _ _ _ _ _ (by decide), sA_nk _ _ _ _ _ (by decide)]; exact f4 j (by omega)
    · rw [sA_at, if_neg (by decide), sA_at, if_pos (by decide)]; decide
    · rw [sA_at, if_pos (by decide)]; decide
  | succ m ih =>
    intro i f S z1 z2 f1 f2 f3 f4
    obtain ⟨f, rfl⟩ : ∃ k, f = k + 1 := ⟨f - 1, by omega⟩
    unfold wp_X7_text_130
    refine pk_le 28 i (fun z => absurd z (by omega)) (fun _ => ⟨vp_in_nI (by omega) (by decide), vp_in_nI (by omega) (by decide), nm_e (nm_r (nI_1 i) ?_)⟩)
    rw [nI_clamp (by omega)]
    refine ih (i + 1) f _ (by omega) (by omega) (f1.A _ _ _) f2 (fun k hk => (sA_nk _ _ _ _ _ hk).trans (f3 k hk)) (fun j hj => ?_)
    rw [pg_at]
    by_cases c : j = i
    · rw [if_pos c, c, f3 3 (by decide)]
    · rw [if_neg c]; exact f4 j (by omega)
theorem y_100 {b : Nat} {v : Int32} (hG : RZ S0 G) (hw : wfQ G) (x1 : ZM P S0 S len b) (x2 : RD P A) (x3 : wfD A) (hok : S.1 28 10 = 0 → ∀ i, i < aC A → okA (aN A) (aA A i)) (hK : ∀ r S' G', wfQ G' → RZ S' G' → (qT G').1 = 0 → Fr 28 S0 S' → K r S') : wp_X7_text_100 K v S := by
  obtain ⟨⟨h1, h2, h3, h4, ⟨y, b1, b2⟩, c1, c2, c3⟩, -⟩ := x1
  obtain ⟨g1, g2, g3, g4, g5, g6, g7, g8, g9⟩ := hG
  obtain ⟨w1, w2, w3, w4, w5, w6, w7, w8⟩ := hw
  have hpg : ∀ j, pg S j = pg S0 j := fun j => by show S.2.1 28 0 j = _; rw [h3 0 (by decide)]
  unfold wp_X7_text_100
  refine nm_e (nm_e ?_)
  have e10 : (sI (sI S 28 8 0) 28 9 ((sI S 28 8 0).1 28 10)).1 28 10 = nI y := by rw [sI_1, if_neg (by decide), sI_1, if_neg (by decide)]; exact b2
  have e9 : (sI (sI S 28 8 0) 28 9 ((sI S 28 8 0).1 28 10)).1 28 9 = nI y := by rw [sI_1, if_pos rfl, sI_1, if_neg (by decide)]; exact b2
  have e8 : (sI (sI S 28 8 0) 28 9 ((sI S 28 8 0).1 28 10)).1 28 8 = 0 := by rw [sI_1, if_neg (by decide), sI_1, if_pos rfl]
  have eo : ∀ k, k ≠ 8 → k ≠ 9 → (sI (sI S 28 8 0) 28 9 ((sI S 28 8 0).1 28 10)).1 28 k = S.1 28 k := fun k a b => by rw [sI_1, if_neg b, sI_1, if_neg a]
  have ea : (sI (sI S 28 8 0) 28 9 ((sI S 28 8 0).1 28 10)).2 = S.2 := rfl
  have ef : Fr 28 S0 (sI (sI S 28 8 0) 28 9 ((sI S 28 8 0).1 28 10)) := (h1.I _ _).I _ _
  revert e10 e9 e8 eo ea ef
  generalize (sI (sI S 28 8 0) 28 9 ((sI S 28 8 0).1 28 10)) = T
  intro e10 e9 e8 eo ea ef
  rw [e10]
  refine pk_le y 0 (fun z => ?_) (fun z => ?_)
  · have hy : y = 0 := by omega
    subst hy
    have hok := hok b2
    have hwE := x3.e hok
    refine y_130 (S1 := T) (fun r S' k1 k2 k3 k4 k5 k6 k7 k8 => ?_) 28 0 2000 T (by omega) (by omega) Fr.rf rfl (fun _ _ => rfl) (fun j hj => absurd hj (by omega))
    have erp : ∀ j, j < 28 → pg S' j = P.1 j := fun j hj => by rw [k6 j hj]; show T.2.1 28 3 j = _; rw [ea, c1]
    obtain ⟨d1, d2, d3, d4, d5, d6, d7, d8, d9, d10, d11, -⟩ := x2
    have hn := x3.1
    have hc := x3.2.2.2.2.2.2.2.2.1
    have ka : ∀ k, k ≠ 0 → k ≠ 24 → k ≠ 3 → S'.2.1 28 k = S0.2.1 28 k := fun k a b c => by rw [k5 k a b, ea]; exact h3 k c
    refine hK r S' (A, fun _ => none, (0, fun _ => 0), 0, (0, fun _ => 0, fun _ => false), qH G, qO G) ⟨hwE, fun k B e => absurd e (by simp), ⟨by show 0 ≤ 160; omega, fun _ => by show 0 < 128; omega⟩, by show 0 ≤ 6; omega, ⟨by show 0 ≤ 6; omega, fun _ => by show 0 < 5; omega⟩, w6, w7, w8⟩ ?_ rfl (ef.tr k1)
    refine ⟨⟨?_, fun p hp => ?_, fun p hp => ?_, fun p hp => ?_, ?_, ?_, ?_, ?_, ?_, fun i hi => ?_, fun k hk => ?_⟩, fun k hk => ?_, ⟨?_, fun i hi => absurd hi (by show ¬ i < 0; omega)⟩, ?_, ⟨k4, fun i hi => absurd hi (by show ¬ i < 0; omega)⟩, fun k hk => ?_, ?_, fun i hi => ?_, fun i hi => ?_⟩
    · rw [k3, eo 4 (by decide) (by decide), c2]; exact d1
    · have hp : p < aN A := hp
      rw [erp _ (by omega), Nat.zero_add]; exact d2 p hp
    · have hp : p < aN A := hp
      rw [erp _ (by omega)]; exact d3 p hp
    · have hp : p < aN A := hp
      rw [erp _ (by omega), d11.2.2 p]; exact d5 p (by omega)
    · rw [erp _ (by omega), d11.1]; exact d6.1
    · rw [erp _ (by omega), d11.2.1]; exact d6.2
    · rw [erp _ (by omega)]; exact d7
    · rw [erp _ (by omega)]; exact d8
    · rw [erp _ (by omega)]; exact d9
    · have hi : i < aC A := hi
      rw [erp _ (by omega)]; exact d10 i hi
    · rw [ka 1 (by decide) (by decide) (by decide)]; exact g1.2.2.2.2.2.2.2.2.2.2 k hk
    · show S'.2.1 28 24 k = 0
      rcases (by omega : k = 0 ∨ k = 1) with c | c
      · subst c; exact k7
      · subst c; exact k8
    · rw [k2 8 (by decide) (by decide), e8]; rfl
    · rw [k2 9 (by decide) (by decide), e9]
    · have g6 := g6 k hk
      show ZH S' k (qH G k)
      unfold ZH at g6 ⊢
      rw [ka 25 (by decide) (by decide) (by decide), ka 26 (by decide) (by decide) (by decide), ka 27 (by decide) (by decide) (by decide)]
      exact g6
    · rw [k2 28 (by decide) (by decide), eo 28 (by decide) (by decide), h2 28 (by omega)]; exact g7
    · rw [ka 16 (by decide) (by decide) (by decide)]; exact g8 i hi
    · rw [ka 17 (by decide) (by decide) (by decide)]; exact g9 i hi
  · have ka : ∀ k, k ≠ 3 → T.2.1 28 k = S0.2.1 28 k := fun k c => by rw [ea]; exact h3 k c
    have kp : ∀ j, pg T j = pg S0 j := fun j => by show T.2.1 28 0 j = _; rw [ka 0 (by decide)]
    have k2 := (eo 2 (by decide) (by decide)).trans (h2 2 (by omega))
    have hRM : ∀ g B, RM S0 g B → RM T g B := by
      intro g B hB
      unfold RM
      rw [k2, ka 1 (by decide)]
      have : pg T = pg S0 := funext kp
      rw [this]
      exact hB
    refine hK _ T (vF (vT G (0, (qT G).2)) y) ⟨w1, w2, ⟨by show 0 ≤ 160; omega, w3.2⟩, b1, w5, w6, w7, w8⟩ ?_ rfl ef
    refine ⟨hRM 0 _ g1, fun k hk => ?_, ⟨e8, fun i hi => absurd hi (by show ¬ i < 0; omega)⟩, e9, ⟨?_, fun i hi => ?_⟩, fun k hk => ?_, ?_, fun i hi => ?_, fun i hi => ?_⟩
    · have g2 := g2 k hk
      show ZI T k (qI G k)
      unfold ZI at g2 ⊢
      rw [ka 24 (by decide)]
      split at g2
      · exact g2
      · exact ⟨g2.1, hRM _ _ g2.2⟩
    · rw [eo 22 (by decide) (by decide), h2 22 (by omega)]; exact g5.1
    · rw [ka 21 (by decide)]; exact g5.2 i hi
    · have g6 := g6 k hk
      show ZH T k (qH G k)
      unfold ZH at g6 ⊢
      rw [ka 25 (by decide), ka 26 (by decide), ka 27 (by decide)]
      exact g6
    · rw [eo 28 (by decide) (by decide), h2 28 (by omega)]; exact g7
    · rw [ka 16 (by decide)]; exact g8 i hi
    · rw [ka 17 (by decide)]; exact g9 i hi
theorem y_76 {b : Nat} {v : Int32} (hG : RZ S0 G) (hw : wfQ G) (x1 : ZM P S0 S len b) (x2 : RD P A) (x3 : wfD A) (hK : ∀ r S' G', wfQ G' → RZ S' G' → (qT G').1 = 0 → Fr 28 S0 S' → K r S') : wp_X7_text_76 K v S := by
  unfold wp_X7_text_76
  have e4 : S.1 28 4 = nI (aN A) := by rw [x1.1.2.2.2.2.2.2.1]; exact x2.1
  obtain ⟨g, g1, g2, g3⟩ := x2.2.2.2.2.2.2.2.2.2.2.2
  have e6 : S.1 28 6 = nI g - 1 := by rw [x1.1.2.2.2.2.2.2.2]; exact g2
  have hn := x3.1
  refine ⟨fun z => y_100 hG hw x1 x2 x3 (fun e => absurd e z) hK, fun z => ⟨fun q => ?_, fun _ => ?_⟩⟩
  · rw [e4, e6, high_lt (by omega) (by omega)] at q
    refine y_100 hG hw x1 x2 x3 (fun _ i hi => ?_) hK
    have a1 := x3.2.2.2.2.2.2.2.2.2 i hi
    have a2 := g3.1 i hi
    unfold okA
    omega
  · exact y_fails (y := 6) x1 (by decide) (fun S2 d1 d2 _ => y_100 hG hw d1 x2 x3 (fun e => absurd e d2) hK)
theorem y_52 (hG : RZ S0 G) (hw : wfQ G) (hb : ∀ i, i < len → ∃ c, c < 128 ∧ S0.2.1 28 7 i = nI c) (hl : len ≤ 160) (hK : ∀ r S' G', wfQ G' → RZ S' G' → (qT G').1 = 0 → Fr 28 S0 S' → K r S') : ∀ (m f b : Nat) (v : Int32) (P : (Nat → Int32) × Int32 × Int32) (A : aE) (S : tq_St), len - b ≤ m → m + 1 < f → ZM P S0 S len b → RD P A → wfD A → wp_X7_text_52 K f v S := by
  have hc := hG.2.2.2.2.2.2.2.1
  intro m
  induction m with
  | zero =>
    intro f b v P A S z1 z2 x1 x2 x3
    obtain ⟨f, rfl⟩ : ∃ k, f = k + 1 := ⟨f - 1, by omega⟩
    unfold wp_X7_text_52
    refine ⟨fun _ => y_76 hG hw x1 x2 x3 hK, fun _ => ⟨fun _ => y_76 hG hw x1 x2 x3 hK, fun z => ?_⟩⟩
    obtain ⟨-, h, s, q1, q2, q3, q4, q5, q6⟩ := x1
    rcases q6 with q6 | q6
    · exact absurd q6 z
    · omega
  | succ m ih =>
    intro f b v P A S z1 z2 x1 x2 x3
    obtain ⟨f, rfl⟩ : ∃ k, f = k + 1 + 1 := ⟨f - 2, by omega⟩
    rw [wp_X7_text_52]
    refine ⟨fun _ => y_76 hG hw x1 x2 x3 hK, fun _ => ⟨fun _ => y_76 hG hw x1 x2 x3 hK, fun z => ?_⟩⟩
    have x1' := x1
    obtain ⟨-, h, s, q1, q2, q3, q4, q5, q6⟩ := x1'
    have q6 : h < s := by
      rcases q6 with q6 | q6
      · exact absurd q6 z
      · exact q6
    refine y_line hb hl hc x1 x2 x3 (by omega) q5 (fun P' A' S' a1 a2 a3 => nm_e ?_)
    rcases a3 with ⟨a3, a4⟩ | a3
    · rw [wp_X7_text_52]
      exact ⟨fun _ => y_76 hG hw a4 a1 a2 hK, fun e => absurd e a3⟩
    · exact ih (f + 1) s _ P' A' S' (by omega) (by omega) a3 a1 a2
theorem y_29 (hG : RZ S0 G) (hw : wfQ G) (hb : ∀ i, i < len → ∃ c, c < 128 ∧ S0.2.1 28 7 i = nI c) (hl : len ≤ 160) (hK : ∀ r S' G', wfQ G' → RZ S' G' → (qT G').1 = 0 → Fr 28 S0 S' → K r S') : ∀ (m i f : Nat) (v : Int32) (P : Nat → Int32) (S : tq_St), i + m = 28 → m < f → ZB (P, 0, -1) S0 S len → S.1 28 10 = 0 → S.1 28 12 = 0 → (∀ j, j < i → P j = 0) → wp_X7_text_29 K f v (nI i) S := by
  intro m
  induction m with
  | zero =>
    intro i f v P S z1 z2 x1 e10 e12 x2
    obtain ⟨f, rfl⟩ : ∃ k, f = k + 1 := ⟨f - 1, by omega⟩
    unfold wp_X7_text_29
    refine pk_le 28 i (fun _ => ?_) (fun z => absurd z (by omega))
    unfold wp_X7_step
    rw [e10]
    refine pk_le 0 0 (fun _ => ?_) (fun z => absurd z (by omega))
    refine y_st_8 (P := (P, 0, -1)) (b := 0) hb hl (fun S2 a1 => ?_) len 0 2000 S (by omega) (by omega) (Nat.le_refl _) x1 e12
    refine y_52 hG hw hb hl hK len 2000 0 _ _ (0, fun _ => 0, fun _ => 0, fun _ => 0, 0, 0, 2, 4, 0, fun _ => 0) S2 (by omega) (by omega) a1 ?_ e0_wfD
    refine ⟨rfl, fun p hp => absurd hp (by show ¬ p < 0; omega), fun p hp => absurd hp (by show ¬ p < 0; omega), fun p _ hp => x2 _ (by omega), fun p hp => x2 _ (by omega), ⟨x2 _ (by omega), x2 _ (by omega)⟩, ?_, ?_, ?_, fun i hi => absurd hi (by show ¬ i < 0; omega), ⟨rfl, rfl, fun _ => rfl⟩, 0, by omega, (by decide : (-1 : Int32) = nI 0 - 1), fun i hi => absurd hi (by show ¬ i < 0; omega), Or.inl rfl⟩
    · exact (x2 17 (by omega)).trans (by decide)
    · exact (x2 18 (by omega)).trans (by decide)
    · exact (x2 27 (by omega)).trans (by decide)
  | succ m ih =>
    intro i f v P S z1 z2 x1 e10 e12 x2
    obtain ⟨f, rfl⟩ : ∃ k, f = k + 1 := ⟨f - 1, by omega⟩
    unfold wp_X7_text_29
    refine pk_le 28 i (fun z => absurd z (by omega)) (fun _ => ⟨vp_in_nI (by omega) (by decide), nm_e (nm_r (nI_1 i) ?_)⟩)
    rw [nI_clamp (by omega)]
    refine ih (i + 1) f v (upd P i 0) _ (by omega) (by omega) (x1.a i 0) e10 e12 (fun j hj => ?_)
    by_cases c : j = i
    · subst c; exact pk_us
    · rw [pk_un c]; exact x2 j (by omega)
theorem z_text (hG : RZ S G) (hw : wfQ G) (hK : ∀ r S' G', wfQ G' → RZ S' G' → (qT G').1 = 0 → Fr 28 S S' → K r S') : wp_X7_text S K := by
  unfold wp_X7_text
  refine nm_e (nm_e (nm_e (nm_e (nm_e ?_))))
  have h3 := hG.2.2.1
  have w3 := hw.2.2.1
  refine y_29 (S0 := S) (len := (qT G).1) hG hw (fun i hi => ⟨_, w3.2 i, h3.2 i hi⟩) w3.1 hK 28 0 2000 0 (S.2.1 28 3) _ (by omega) (by omega) ⟨((((Fr.rf.I _ _).I _ _).I _ _).I _ _).I _ _, fun k hk => ?_, fun _ _ => rfl, ?_, ⟨0, by omega, ?_⟩, rfl, ?_, ?_⟩ ?_ ?_ (fun j hj => absurd hj (by omega))
  · rw [sI_1, if_neg (by omega), sI_1, if_neg (by omega), sI_1, if_neg (by omega), sI_1, if_neg (by omega), sI_1, if_neg (by omega)]
  · simp [sI_1]; exact h3.1
  · simp [sI_1]; rfl
  · simp [sI_1]
  · simp [sI_1]
  · simp [sI_1]
  · simp [sI_1]
end ZT
