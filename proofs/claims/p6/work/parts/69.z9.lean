section Z9
variable {S S0 : tq_St} {G : aQ} {K : Int32 → tq_St → Prop} {KV : tq_St → Prop} {len : Nat} {P : (Nat → Int32) × Int32 × Int32}
-- THE REFERENCE READS (what is safe; what is told is free here)
abbrev rp (S : tq_St) : Nat → Int32 := S.2.1 28 3
/-- the page that is read holds a draft -/
def RD (P : (Nat → Int32) × Int32 × Int32) (A : aE) : Prop := P.2.1 = nI (aN A) ∧ (∀ p, p < aN A → P.1 p = nI (aK A p)) ∧ (∀ p, p < aN A → P.1 (5 + p) = nI (aS A p)) ∧ (∀ p, aN A ≤ p → p < 5 → P.1 (5 + p) = 0) ∧ (∀ p, p < 5 → P.1 (10 + p) = 0) ∧ (P.1 15 = 0 ∧ P.1 16 = 0) ∧ P.1 17 = nI (aR A) - 2 ∧ P.1 18 = nI (aT A) - 4 ∧ P.1 27 = nI (aC A) ∧ (∀ i, i < aC A → P.1 (19 + i) = nI (aA A i)) ∧ (aG A = 0 ∧ aM A = 0 ∧ ∀ p, aW A p = 0) ∧ ∃ h : Nat, h ≤ 5 ∧ P.2.2 = nI h - 1 ∧ (∀ i, i < aC A → aA A i < 5 → aA A i < h) ∧ (h = 0 ∨ ∃ i, i < aC A ∧ aA A i + 1 = h)
def ZB (P : (Nat → Int32) × Int32 × Int32) (S0 S : tq_St) (len : Nat) : Prop := Fr 28 S0 S ∧ (∀ k, k = 2 ∨ k = 8 ∨ k = 9 ∨ k = 22 ∨ k = 28 → S.1 28 k = S0.1 28 k) ∧ (∀ k, k ≠ 3 → S.2.1 28 k = S0.2.1 28 k) ∧ S.1 28 8 = nI len ∧ (∃ y, y ≤ 6 ∧ S.1 28 10 = nI y) ∧ S.2.1 28 3 = P.1 ∧ S.1 28 4 = P.2.1 ∧ S.1 28 6 = P.2.2
theorem ZB.i (h : ZB P S0 S len) {k : Nat} (hk : k = 5 ∨ (11 ≤ k ∧ k ≤ 15)) (v : Int32) : ZB P S0 (sI S 28 k v) len := by
  obtain ⟨h1, h2, h3, h4, ⟨y, b1, b2⟩, c1, c2, c3⟩ := h
  exact ⟨h1.I _ _, fun j hj => by rw [sI_1, if_neg (by omega)]; exact h2 j hj, h3, by rw [sI_1, if_neg (by omega)]; exact h4, ⟨y, b1, by rw [sI_1, if_neg (by omega)]; exact b2⟩, c1, by rw [sI_1, if_neg (by omega)]; exact c2, by rw [sI_1, if_neg (by omega)]; exact c3⟩
theorem ZB.f (h : ZB P S0 S len) {y : Nat} (hy : y ≤ 6) : ZB P S0 (sI S 28 10 (nI y)) len := by
  obtain ⟨h1, h2, h3, h4, -, c1, c2, c3⟩ := h
  exact ⟨h1.I _ _, fun j hj => by rw [sI_1, if_neg (by omega)]; exact h2 j hj, h3, by rw [sI_1, if_neg (by decide)]; exact h4, ⟨y, hy, by rw [sI_1, if_pos rfl]⟩, c1, by rw [sI_1, if_neg (by decide)]; exact c2, by rw [sI_1, if_neg (by decide)]; exact c3⟩
theorem ZB.a (h : ZB P S0 S len) (i : Nat) (v : Int32) : ZB (upd P.1 i v, P.2.1, P.2.2) S0 (sA S 28 3 i v) len := by
  obtain ⟨h1, h2, h3, h4, h5, c1, c2, c3⟩ := h
  exact ⟨h1.A _ _ _, h2, fun k hk => (sA_nk S 28 3 i v hk).trans (h3 k hk), h4, h5, by rw [sA_2, if_pos rfl, c1], c2, c3⟩
theorem ZB.i4 (h : ZB P S0 S len) (v : Int32) : ZB (P.1, v, P.2.2) S0 (sI S 28 4 v) len := by
  obtain ⟨h1, h2, h3, h4, ⟨y, b1, b2⟩, c1, c2, c3⟩ := h
  exact ⟨h1.I _ _, fun j hj => by rw [sI_1, if_neg (by omega)]; exact h2 j hj, h3, by rw [sI_1, if_neg (by decide)]; exact h4, ⟨y, b1, by rw [sI_1, if_neg (by decide)]; exact b2⟩, c1, by rw [sI_1, if_pos rfl], by rw [sI_1, if_neg (by decide)]; exact c3⟩
theorem ZB.i6 (h : ZB P S0 S len) (v : Int32) : ZB (P.1, P.2.1, v) S0 (sI S 28 6 v) len := by
  obtain ⟨h1, h2, h3, h4, ⟨y, b1, b2⟩, c1, c2, c3⟩ := h
  exact ⟨h1.I _ _, fun j hj => by rw [sI_1, if_neg (by omega)]; exact h2 j hj, h3, by rw [sI_1, if_neg (by decide)]; exact h4, ⟨y, b1, by rw [sI_1, if_neg (by decide)]; exact b2⟩, c1, by rw [sI_1, if_neg (by decide)]; exact c2, by rw [sI_1, if_pos rfl]⟩
/-- a token stands at h .. s, h at least b -/
def ZM (P : (Nat → Int32) × Int32 × Int32) (S0 S : tq_St) (len b : Nat) : Prop := ZB P S0 S len ∧ ∃ h s, b ≤ h ∧ h ≤ s ∧ s ≤ len ∧ S.1 28 13 = nI h ∧ S.1 28 12 = nI s ∧ (S.1 28 14 = 0 ∨ h < s)
theorem ZM.le {b b' : Nat} (h : ZM P S0 S len b) (hb : b' ≤ b) : ZM P S0 S len b' := by
  obtain ⟨h1, a, s, h2, h3⟩ := h
  exact ⟨h1, a, s, by omega, h3⟩
theorem ZM.f {b : Nat} (h : ZM P S0 S len b) {y : Nat} (hy : y ≤ 6) : ZM P S0 (sI (sI S 28 10 (nI y)) 28 11 ((sI S 28 10 (nI y)).1 28 13)) len b := by
  obtain ⟨h1, a, s, h2, h3, h4, h5, h6, h7⟩ := h
  refine ⟨(h1.f hy).i (Or.inr (by omega)) _, a, s, h2, h3, h4, ?_, ?_, ?_⟩
  · rw [sI_1, if_neg (by decide), sI_1, if_neg (by decide)]; exact h5
  · rw [sI_1, if_neg (by decide), sI_1, if_neg (by decide)]; exact h6
  · rw [sI_1, if_neg (by decide), sI_1, if_neg (by decide)]; exact h7
theorem ZM.i5 {b : Nat} (h : ZM P S0 S len b) (v : Int32) : ZM P S0 (sI S 28 5 v) len b := by
  obtain ⟨h1, a, s, h2, h3, h4, h5, h6, h7⟩ := h
  exact ⟨h1.i (Or.inl rfl) v, a, s, h2, h3, h4, by rw [sI_1, if_neg (by decide)]; exact h5, by rw [sI_1, if_neg (by decide)]; exact h6, by rw [sI_1, if_neg (by decide)]; exact h7⟩
theorem ZM.i4 {b : Nat} (h : ZM P S0 S len b) (v : Int32) : ZM (P.1, v, P.2.2) S0 (sI S 28 4 v) len b := by
  obtain ⟨h1, a, s, h2, h3, h4, h5, h6, h7⟩ := h
  exact ⟨h1.i4 v, a, s, h2, h3, h4, by rw [sI_1, if_neg (by decide)]; exact h5, by rw [sI_1, if_neg (by decide)]; exact h6, by rw [sI_1, if_neg (by decide)]; exact h7⟩
theorem ZM.i6 {b : Nat} (h : ZM P S0 S len b) (v : Int32) : ZM (P.1, P.2.1, v) S0 (sI S 28 6 v) len b := by
  obtain ⟨h1, a, s, h2, h3, h4, h5, h6, h7⟩ := h
  exact ⟨h1.i6 v, a, s, h2, h3, h4, by rw [sI_1, if_neg (by decide)]; exact h5, by rw [sI_1, if_neg (by decide)]; exact h6, by rw [sI_1, if_neg (by decide)]; exact h7⟩
theorem ZM.a {b : Nat} (h : ZM P S0 S len b) (i : Nat) (v : Int32) : ZM (upd P.1 i v, P.2.1, P.2.2) S0 (sA S 28 3 i v) len b := by
  obtain ⟨h1, a, s, h2, h3, h4, h5, h6, h7⟩ := h
  exact ⟨h1.a i v, a, s, h2, h3, h4, h5, h6, h7⟩
theorem y_fails {b y : Nat} (h : ZM P S0 S len b) (hy : 0 < y ∧ y ≤ 6) (hK : ∀ S', ZM P S0 S' len b → ¬ S'.1 28 10 = 0 → S'.1 28 4 = S.1 28 4 → KV S') : wp_X7_fails (nI y) S KV := by
  unfold wp_X7_fails
  refine ⟨fun z => hK S h z rfl, fun _ => nm_e (nm_e (hK _ (h.f hy.2) ?_ ?_))⟩
  · rw [sI_1, if_neg (by decide), sI_1, if_pos rfl]; exact nI_ne0 hy.1 (by omega)
  · rw [sI_1, if_neg (by decide), sI_1, if_neg (by decide)]
theorem y_byteAt {s : Nat} (hb : ∀ i, i < len → ∃ c, c < 128 ∧ S0.2.1 28 7 i = nI c) (hl : len ≤ 160) (h : ZB P S0 S len) (hs : s ≤ len) (h1 : ∀ c, s < len → c < 128 → S0.2.1 28 7 s = nI c → K (nI c) S) (h0 : s = len → K (-4) S) : wp_X7_byteAt (nI s) S K := by
  unfold wp_X7_byteAt
  rw [h.2.2.2.1]
  refine pk_le len s (fun z => h0 (by omega)) (fun z => ⟨vp_in_nI (by omega) (by decide), ?_⟩)
  obtain ⟨c, hc, e⟩ := hb s z
  rw [nI_clamp (by omega), h.2.2.1 7 (by decide), e]
  exact h1 c z hc e
theorem y_st_84 {b h : Nat} (hb : ∀ i, i < len → ∃ c, c < 128 ∧ S0.2.1 28 7 i = nI c) (hl : len ≤ 160) (hbh : b ≤ h) (hK : ∀ S', ZM P S0 S' len b → KV S') : ∀ (m s f : Nat) (S : tq_St), s + m = len → m < f → h ≤ s → ZB P S0 S len → S.1 28 13 = nI h → S.1 28 12 = nI s → (h < s ∨ (s < len ∧ ∃ c, 97 ≤ c ∧ c ≤ 122 ∧ S0.2.1 28 7 s = nI c)) → wp_X7_step_84 KV f S := by
  have hend : ∀ (s : Nat) (S : tq_St), s ≤ len → h < s → ZB P S0 S len → S.1 28 13 = nI h → S.1 28 12 = nI s → ∀ S58 : tq_St, S58 = sI S 28 14 1 → KV S58 := by
    intro s S hs hlt x1 x2 x3
    refine nm_e (hK _ ⟨x1.i (Or.inr (by omega)) _, h, s, hbh, by omega, hs, ?_, ?_, Or.inr hlt⟩)
    · rw [sI_1, if_neg (by decide)]; exact x2
    · rw [sI_1, if_neg (by decide)]; exact x3
  intro m
  induction m with
  | zero =>
    intro s f S h1 h2 hhs x1 x2 x3 x4
    obtain ⟨f, rfl⟩ : ∃ k, f = k + 1 := ⟨f - 1, by omega⟩
    unfold wp_X7_step_84
    rw [x3]
    refine y_byteAt hb hl x1 (by omega) (fun c z => absurd z (by omega)) (fun _ => ?_)
    have hlt : h < s := by rcases x4 with z | z; exact z; omega
    refine m_in 97 122 (by decide) (by decide) (by decide) (fun v _ _ e => ?_) (fun _ => ⟨fun _ => hend s S (by omega) hlt x1 x2 x3, fun z => absurd rfl z⟩)
    exact absurd e.symm (oI_ne (by omega))
  | succ m ih =>
    intro s f S h1 h2 hhs x1 x2 x3 x4
    obtain ⟨f, rfl⟩ : ∃ k, f = k + 1 := ⟨f - 1, by omega⟩
    unfold wp_X7_step_84
    rw [x3]
    refine y_byteAt hb hl x1 (by omega) (fun c _ hc ec => ?_) (fun z => absurd z (by omega))
    refine m_in 97 122 (by decide) (by decide) (by decide) (fun v hv1 hv2 e => ⟨fun z => absurd z (by decide), fun _ => ?_⟩) (fun hno => ⟨fun _ => hend s S (by omega) ?_ x1 x2 x3, fun z => absurd rfl z⟩)
    · rw [x3, nI_1]
      refine nm_e (ih (s + 1) f _ (by omega) (by omega) (by omega) (x1.i (Or.inr (by omega)) _) ?_ ?_ (Or.inl (by omega)))
      · rw [sI_1, if_neg (by decide)]; exact x2
      · rw [sI_1, if_pos rfl]
    · rcases x4 with z | ⟨-, c', hc1, hc2, ec'⟩
      · exact z
      · exfalso
        rw [ec] at ec'
        exact hno c' hc1 hc2 ec'
theorem y_st_140 {b h : Nat} (hb : ∀ i, i < len → ∃ c, c < 128 ∧ S0.2.1 28 7 i = nI c) (hl : len ≤ 160) (hbh : b ≤ h) (hK : ∀ S', ZM P S0 S' len b → KV S') : ∀ (m s f : Nat) (S : tq_St), s + m = len → m < f → h ≤ s → ZB P S0 S len → S.1 28 13 = nI h → S.1 28 12 = nI s → (h < s ∨ (s < len ∧ ∃ c, 48 ≤ c ∧ c ≤ 57 ∧ S0.2.1 28 7 s = nI c)) → wp_X7_step_140 KV f S := by
  have hend : ∀ (s : Nat) (S : tq_St), s ≤ len → h < s → ZB P S0 S len → S.1 28 13 = nI h → S.1 28 12 = nI s → ∀ S37 : tq_St, S37 = sI S 28 14 2 → (((S37.1 28 12) - (S37.1 28 13) : Int32) ≤ 2 → KV S37) ∧ (¬ ((S37.1 28 12) - (S37.1 28 13) : Int32) ≤ 2 → (wp_X7_fails 1 S37 (fun S41 => KV S41))) := by
    intro s S hs hlt x1 x2 x3
    have hz : ZM P S0 (sI S 28 14 2) len b := ⟨x1.i (Or.inr (by omega)) _, h, s, hbh, by omega, hs, by rw [sI_1, if_neg (by decide)]; exact x2, by rw [sI_1, if_neg (by decide)]; exact x3, Or.inr hlt⟩
    exact nm_e ⟨fun _ => hK _ hz, fun _ => y_fails (y := 1) hz (by decide) (fun S' a _ _ => hK S' a)⟩
  intro m
  induction m with
  | zero =>
    intro s f S h1 h2 hhs x1 x2 x3 x4
    obtain ⟨f, rfl⟩ : ∃ k, f = k + 1 := ⟨f - 1, by omega⟩
    unfold wp_X7_step_140
    rw [x3]
    refine y_byteAt hb hl x1 (by omega) (fun c z => absurd z (by omega)) (fun _ => ?_)
    have hlt : h < s := by rcases x4 with z | z; exact z; omega
    refine m_in 48 57 (by decide) (by decide) (by decide) (fun v _ _ e => ?_) (fun _ => ⟨fun _ => hend s S (by omega) hlt x1 x2 x3, fun z => absurd rfl z⟩)
    exact absurd e.symm (oI_ne (by omega))
  | succ m ih =>
    intro s f S h1 h2 hhs x1 x2 x3 x4
    obtain ⟨f, rfl⟩ : ∃ k, f = k + 1 := ⟨f - 1, by omega⟩
    unfold wp_X7_step_140
    rw [x3]
    refine y_byteAt hb hl x1 (by omega) (fun c _ hc ec => ?_) (fun z => absurd z (by omega))
    have h201 : ∀ w : Int32, wp_X7_step_201 KV (wp_X7_step_140 KV f) w S := by
      intro w
      unfold wp_X7_step_201
      refine nm_e ?_
      rw [sI_1, if_neg (by decide), x3, nI_1]
      refine nm_e (ih (s + 1) f _ (by omega) (by omega) (by omega) ((x1.i (Or.inr (by omega)) _).i (Or.inr (by omega)) _) ?_ ?_ (Or.inl (by omega)))
      · rw [sI_1, if_neg (by decide), sI_1, if_neg (by decide)]; exact x2
      · rw [sI_1, if_pos rfl]
    refine m_in 48 57 (by decide) (by decide) (by decide) (fun v hv1 hv2 e => ⟨fun z => absurd z (by decide), fun _ => ⟨fun _ => h201 _, fun _ => ?_⟩⟩) (fun hno => ⟨fun _ => hend s S (by omega) ?_ x1 x2 x3, fun z => absurd rfl z⟩)
    · rw [x3]
      exact y_byteAt hb hl x1 (by omega) (fun c2 _ _ _ => h201 _) (fun z => absurd z (by omega))
    · rcases x4 with z | ⟨-, c', hc1, hc2, ec'⟩
      · exact z
      · exfalso
        rw [ec] at ec'
        exact hno c' hc1 hc2 ec'
theorem y_st_8 {b : Nat} (hb : ∀ i, i < len → ∃ c, c < 128 ∧ S0.2.1 28 7 i = nI c) (hl : len ≤ 160) (hK : ∀ S', ZM P S0 S' len b → KV S') : ∀ (m s f : Nat) (S : tq_St), s + m = len → m < f → b ≤ s → ZB P S0 S len → S.1 28 12 = nI s → wp_X7_step_8 KV f S := by
  intro m
  induction m with
  | zero =>
    intro s f S h1 h2 hbs x1 x3
    obtain ⟨f, rfl⟩ : ∃ k, f = k + 1 := ⟨f - 1, by omega⟩
    unfold wp_X7_step_8
    rw [x3]
    refine y_byteAt hb hl x1 (by omega) (fun c z => absurd z (by omega)) (fun _ => ⟨fun _ => nm_e ?_, fun z => absurd z (by decide)⟩)
    have e12 : (sI S 28 13 (nI s)).1 28 12 = nI s := by rw [sI_1, if_neg (by decide)]; exact x3
    rw [x3, e12]
    refine y_byteAt hb hl (x1.i (Or.inr (by omega)) _) (by omega) (fun c z => absurd z (by omega)) (fun _ => nm_e ⟨fun z => absurd rfl z, fun _ => nm_e (hK _ ⟨((x1.i (Or.inr (by omega)) _).i (Or.inr (by omega)) _).i (Or.inr (by omega)) _, s, s, hbs, Nat.le_refl _, by omega, ?_, ?_, Or.inl ?_⟩)⟩)
    · simp [sI_1]
    · simp [sI_1, x3]
    · simp [sI_1]
  | succ m ih =>
    intro s f S h1 h2 hbs x1 x3
    obtain ⟨f, rfl⟩ : ∃ k, f = k + 1 := ⟨f - 1, by omega⟩
    unfold wp_X7_step_8
    rw [x3]
    refine y_byteAt hb hl x1 (by omega) (fun c _ hc ec => ⟨fun _ => nm_e ?_, fun _ => ?_⟩) (fun z => absurd z (by omega))
    · have e12 : (sI S 28 13 (nI s)).1 28 12 = nI s := by rw [sI_1, if_neg (by decide)]; exact x3
      rw [x3, e12]
      refine y_byteAt hb hl (x1.i (Or.inr (by omega)) _) (by omega) (fun c' _ hc' ec' => nm_e ⟨fun _ => ?_, fun z => absurd z (oI_ne (by omega))⟩) (fun z => absurd z (by omega))
      have x5 := (x1.i (k := 13) (Or.inr (by omega)) (nI s)).i (k := 15) (Or.inr (by omega)) 0
      have y13 : (sI (sI S 28 13 (nI s)) 28 15 0).1 28 13 = nI s := by rw [sI_1, if_neg (by decide), sI_1, if_pos rfl]
      have y12 : (sI (sI S 28 13 (nI s)) 28 15 0).1 28 12 = nI s := by rw [sI_1, if_neg (by decide)]; exact e12
      refine m_in 97 122 (by decide) (by decide) (by decide) (fun v hv1 hv2 e => ⟨fun z => absurd z (by decide), fun _ => ?_⟩) (fun _ => ⟨fun _ => ?_, fun z => absurd rfl z⟩)
      · exact y_st_84 hb hl hbs hK (m + 1) s 2000 _ (by omega) (by omega) (Nat.le_refl _) x5 y13 y12 (Or.inr ⟨by omega, v, hv1, hv2, by rw [ec', e]⟩)
      · refine m_in 48 57 (by decide) (by decide) (by decide) (fun v hv1 hv2 e => ⟨fun z => absurd z (by decide), fun _ => ?_⟩) (fun _ => ⟨fun _ => nm_e ?_, fun z => absurd rfl z⟩)
        · exact y_st_140 hb hl hbs hK (m + 1) s 2000 _ (by omega) (by omega) (Nat.le_refl _) x5 y13 y12 (Or.inr ⟨by omega, v, hv1, hv2, by rw [ec', e]⟩)
        · rw [sI_1, if_neg (by decide), y12, nI_1]
          have hz : ZM P S0 (sI (sI (sI (sI S 28 13 (nI s)) 28 15 0) 28 14 3) 28 12 (nI (s + 1))) len b := by
            refine ⟨(x5.i (Or.inr (by omega)) _).i (Or.inr (by omega)) _, s, s + 1, hbs, by omega, by omega, ?_, ?_, Or.inr (by omega)⟩
            · simp [sI_1]
            · simp [sI_1]
          exact nm_e ⟨fun _ => hK _ hz, fun _ => y_fails (y := 1) hz (by decide) (fun S' a _ _ => hK S' a)⟩
    · rw [x3, nI_1]
      refine nm_e (ih (s + 1) f _ (by omega) (by omega) (by omega) (x1.i (Or.inr (by omega)) _) ?_)
      rw [sI_1, if_pos rfl]
/-- a step: where nothing is broken, on to the next token -/
theorem y_step {b : Nat} (hb : ∀ i, i < len → ∃ c, c < 128 ∧ S0.2.1 28 7 i = nI c) (hl : len ≤ 160) (h : ZM P S0 S len b) (hK : ∀ S', ZM P S0 S' len b → ((¬ S.1 28 10 = 0 ∧ S' = S) ∨ (S.1 28 10 = 0 ∧ ∃ s, S.1 28 12 = nI s ∧ s < 2 ^ 31 ∧ ZM P S0 S' len s)) → KV S') : wp_X7_step S KV := by
  unfold wp_X7_step
  obtain ⟨x1, a, s, h2, h3, h4, h5, h6, h7⟩ := h
  obtain ⟨y, b1, b2⟩ := x1.2.2.2.2.1
  rw [b2]
  refine pk_le y 0 (fun z => ?_) (fun z => ?_)
  · exact y_st_8 (b := s) hb hl (fun S' x => hK S' (x.le (by omega)) (Or.inr ⟨by rw [b2]; exact congrArg nI (by omega : y = 0), s, h6, by omega, x⟩)) (len - s) s 2000 S (by omega) (by omega) (Nat.le_refl _) x1 h6
  · exact hK S ⟨x1, a, s, h2, h3, h4, h5, h6, h7⟩ (Or.inl ⟨by rw [b2]; exact nI_ne0 z (by omega), rfl⟩)
theorem y_number {b lo hi : Nat} (hb : ∀ i, i < len → ∃ c, c < 128 ∧ S0.2.1 28 7 i = nI c) (hl : len ≤ 160) (h : ZM P S0 S len b) (hlh : lo ≤ hi) (hh : hi ≤ 100) (hK : ∀ v S', lo ≤ v → v ≤ hi → ZM P S0 S' len b → K (nI v) S') : wp_X7_number (nI lo) (nI hi) S K := by
  have h62 : ∀ v S', lo ≤ v → v ≤ hi → ZM P S0 S' len b → wp_X7_number_62 K (nI v) S' := fun v S' a1 a2 a3 => y_step hb hl a3 (fun S2 b1 _ => hK v S2 a1 a2 b1)
  have h47b : ∀ S', ZM P S0 S' len b → ¬ S'.1 28 10 = 0 → wp_X7_number_47 K (nI lo) S' := fun S' a1 a2 => ⟨fun _ => h62 lo S' (Nat.le_refl _) hlh a1, fun z => absurd z a2⟩
  have h20 : ∀ S', ZM P S0 S' len b → wp_X7_number_20 K (nI lo) (nI hi) S' := by
    intro S' a1
    unfold wp_X7_number_20
    refine ⟨fun z => h47b S' a1 z, fun z => ?_⟩
    refine m_in lo hi (by rw [Int32.toInt_toInt64, nI_toInt (by omega)]) (by rw [Int32.toInt_toInt64, nI_toInt (by omega)]) (by omega) (fun v hv1 hv2 e => ⟨fun _ => ?_, fun z => absurd z (by decide)⟩) (fun _ => ⟨fun z => absurd rfl z, fun _ => y_fails (y := 3) a1 (by decide) (fun S2 c1 c2 _ => h47b S2 c1 c2)⟩)
    unfold wp_X7_number_47
    rw [e]
    exact ⟨fun z2 => absurd z z2, fun _ => h62 v S' hv1 hv2 a1⟩
  unfold wp_X7_number
  exact ⟨fun _ => h20 S h, fun _ => ⟨fun _ => h20 S h, fun _ => y_fails (y := 2) h (by decide) (fun S2 c1 _ _ => h20 S2 c1)⟩⟩
end Z9
