section
section Z9
variable {S S0 : tq_St} {G : aQ} {K : Int32 → tq_St → Prop} {KV : tq_St → Prop} {len : Nat} {P : (Nat → Int32) × Int32 × Int32}
-- THE REFERENCE READS (what is safe; what is told is free here)
abbrev rp (S : tq_St) : Nat → Int32 := S.2.1 28 3
/-- the page that is read holds a draft -/
def RD (P : (Nat → Int32) × Int32 × Int32) (A : aE) : Prop := P.2.1 = nI (aN A) ∧ (∀ p, p < aN A → P.1 p = nI (aK A p)) ∧ (∀ p, p < aN A → P.1 (5 + p) = nI (aS A p)) ∧ (∀ p, aN A ≤ p → p < 5 → P.1 (5 + p) = 0) ∧ (∀ p, p < 5 → P.1 (10 + p) = 0) ∧ (P.1 15 = 0 ∧ P.1 16 = 0) ∧ P.1 17 = nI (aR A) - 2 ∧ P.1 18 = nI (aT A) - 4 ∧ P.1 27 = nI (aC A) ∧ (∀ i, i < aC A → P.1 (19 + i) = nI (aA A i)) ∧ (aG A = 0 ∧ aM A = 0 ∧ ∀ p, aW A p = 0) ∧ ∃ h : Nat, h ≤ 5 ∧ P.2.2 = nI h - 1 ∧ (∀ i, i < aC A → aA A i < 5 → aA A i < h) ∧ (h = 0 ∨ ∃ i, i < aC A ∧ aA A i + 1 = h)
def ZB (P : (Nat → Int32) × Int32 × Int32) (S0 S : tq_St) (len : Nat) : Prop := Fr 28 S0 S ∧ (∀ k, k = 2 ∨ k = 8 ∨ k = 9 ∨ k = 22 ∨ k = 28 → S.1 28 k = S0.1 28 k) ∧ (∀ k, k ≠ 3 → S.2.1 28 k = S0.2.1 28 k) ∧ S.1 28 8 = nI len ∧ (∃ y, y ≤ 6 ∧ S.1 28 10 = nI y) ∧ S.2.1 28 3 = P.1 ∧ S.1 28 4 = P.2.1 ∧ S.1 28 6 = P.2.2
theorem ZB.i (h : ZB P S0 S len) {k : Nat} (hk : k = 5 ∨ (11 ≤ k ∧ k ≤ 15)) (v : Int32) : ZB P S0 (sI S 28 k v) len := by
  obtain ⟨h1, h2, h3, h4, ⟨y, b1, b2⟩, c1, c2, c3⟩ := h
  exact ⟨h1.I _ _, fun j hj => by rw [sI_1, if_neg (by omega)]; exact h2 j hj, h3, by rw [sI_1, if_neg (by omega)]; exact h4, ⟨y, b1, by rw [sI_1, if_neg (by omega)]; exact b2⟩, c1, by rw [sI_1, if_neg (by omega)]; exact c2, by rw [sI_1, if_neg (by omega)]; exact c3⟩
theorem ZB.f (h : ZB P S0 S len) {y : Nat} (hy : y ≤ 6) : ZB P S0 (sI S 28 10 (nI y)) len := by
  obtain ⟨h1, h2, h3, h4, -, c1, c2, c3⟩ := h
  exact ⟨h1.I _ _, fun j hj => by rw [sI_1, if_neg (by omega)]; exact h2 j hj, h3, by rw [sI_1, if_neg (by decide)]; exact h4, ⟨y, hy, by rw [sI_1, if_pos rfl]⟩, c1, by rw [sI_1, if_neg (by decide)]; exact c2, by rw [sI_1, if_neg (by decide)]; exact c3⟩
theorem ZB.a (h : ZB P S0 S len) (i : Nat) (v : Int32) : ZB (upd P.1 i v, P.2.1, P.2.2) S0 (sA S 28 3 i v) len := by
  obtain ⟨h1, h2, h3, h4, h5, c1, c2, c3⟩ := h
  exact ⟨h1.A _ _ _, h2, fun k hk => (sA_nk S 28 3 i v hk).trans (h3 k hk), h4, h5, by rw [sA_2, if_pos rfl, c1], c2, c3⟩
theorem ZB.i4 (h : ZB P S0 S len) (v : Int32) : ZB (P.1, v, P.2.2) S0 (sI S 28 4 v) len := by
  obtain ⟨h1, h2, h3, h4, ⟨y, b1, b2⟩, c1, c2, c3⟩ := h
  exact ⟨h1.I _ _, fun j hj => by rw [sI_1, if_neg (by omega)]; exact h2 j hj, h3, by rw [sI_1, if_neg (by decide)]; exact h4, ⟨y, b1, by rw [sI_1, if_neg (by decide)]; exact b2⟩, c1, by rw [sI_1, if_pos rfl], by rw [sI_1, if_neg (by decide)]; exact c3⟩
theorem ZB.i6 (h : ZB P S0 S len) (v : Int32) : ZB (P.1, P.2.1, v) S0 (sI S 28 6 v) len := by
  obtain ⟨h1, h2, h3, h4, ⟨y, b1, b2⟩, c1, c2, c3⟩ := h
  exact ⟨h1.I _ _, fun j hj => by rw [sI_1, if_neg (by omega)]; exact h2 j hj, h3, by rw [sI_1, if_neg (by decide)]; exact h4, ⟨y, b1, by rw [sI_1, if_neg (by decide)]; exact b2⟩, c1, by rw [sI_1, if_neg (by decide)]; exact c2, by rw [sI_1, if_pos rfl]⟩
/-- a token stands at h .. s, h at least b -/
def ZM (P : (Nat → Int32) × Int32 × Int32) (S0 S : tq_St) (len b : Nat) : Prop := ZB P S0 S len ∧ ∃ h s, b ≤ h ∧ h ≤ s ∧ s ≤ len ∧ S.1 28 13 = nI h ∧ S.1 28 12 = nI s ∧ (S.1 28 14 = 0 ∨ h < s)
theorem ZM.le {b b' : Nat} (h : ZM P S0 S len b) (hb : b' ≤ b) : ZM P S0 S len b' := by
  obtain ⟨h1, a, s, h2, h3⟩ := h
  exact ⟨h1, a, s, by omega, h3⟩
theorem ZM.f {b : Nat} (h : ZM P S0 S len b) {y : Nat} (hy : y ≤ 6) : ZM P S0 (sI (sI S 28 10 (nI y)) 28 11 ((sI S 28 10 (nI y)).1 28 13)) len b := by
  obtain ⟨h1, a, s, h2, h3, h4, h5, h6, h7⟩ := h
  refine ⟨(h1.f hy).i (Or.inr (by omega)) _, a, s, h2, h3, h4, ?_, ?_, ?_⟩
  · rw [sI_1, if_neg (by decide), sI_1, if_neg (by decide)]; exact h5
  · rw [sI_1, if_neg (by decide), sI_1, if_neg (by decide)]; exact h6
  · rw [sI_1, if_neg (by decide), sI_1, if_neg (by decide)]; exact h7
theorem ZM.i5 {b : Nat} (h : ZM P S0 S len b) (v : Int32) : ZM P S0 (sI S 28 5 v) len b := by
  obtain ⟨h1, a, s, h2, h3, h4, h5, h6, h7⟩ := h
  exact ⟨h1.i (Or.inl rfl) v, a, s, h2, h3, h4, by rw [sI_1, if_neg (by decide)]; exact h5, by rw [sI_1, if_neg (by decide)]; exact h6, by rw [sI_1, if_neg (by decide)]; exact h7⟩
theorem ZM.i4 {b : Nat} (h : ZM P S0 S len b) (v : Int32) : ZM (P.1, v, P.2.2) S0 (sI S 28 4 v) len b := by
  obtain ⟨h1, a, s, h2, h3, h4, h5, h6, h7⟩ := h
  exact ⟨h1.i4 v, a, s, h2, h3, h4, by rw [sI_1, if_neg (by decide)]; exact h5, by rw [sI_1, if_neg (by decide)]; exact h6, by rw [sI_1, if_neg (by decide)]; exact h7⟩
theorem ZM.i6 {b : Nat} (h : ZM P S0 S len b) (v : Int32) : ZM (P.1, P.2.1, v) S0 (sI S 28 6 v) len b := by
  obtain ⟨h1, a, s, h2, h3, h4, h5, h6, h7⟩ := h
  exact ⟨h1.i6 v, a, s, h2, h3, h4, by rw [sI_1, if_neg (by decide)]; exact h5, by rw [sI_1, if_neg (by decide)]; exact h6, by rw [sI_1, if_neg (by decide)]; exact h7⟩
theorem ZM.a {b : Nat} (h : ZM P S0 S len b) (i : Nat) (v : Int32) : ZM (upd P.1 i v, P.2.1, P.2.2) S0 (sA S 28 3 i v) len b := by
  obtain ⟨h1, a, s, h2, h3, h4, h5, h6, h7⟩ := h
  exact ⟨h1.a i v, a, s, h2, h3, h4, h5, h6, h7⟩
theorem y_fails {b y : Nat} (h : ZM P S0 S len b) (hy : 0 < y ∧ y ≤ 6) (hK : ∀ S', ZM P S0 S' len b → ¬ S'.1 28 10 = 0 → S'.1 28 4 = S.1 28 4 → KV S') : wp_X7_fails (nI y) S KV := by
  unfold wp_X7_fails
  refine ⟨fun z => hK S h z rfl, fun _ => nm_e (nm_e (hK _ (h.f hy.2) ?_ ?_))⟩
  · rw [sI_1, if_neg (by decide), sI_1, if_pos rfl]; exact nI_ne0 hy.1 (by omega)
  · rw [sI_1, if_neg (by decide), sI_1, if_neg (by decide)]
theorem y_byteAt {s : Nat} (hb : ∀ i, i < len → ∃ c, c < 128 ∧ S0.2.1 28 7 i = nI c) (hl : len ≤ 160) (h : ZB P S0 S len) (hs : s ≤ len) (h1 : ∀ c, s < len → c < 128 → S0.2.1 28 7 s = nI c → K (nI c) S) (h0 : s = len → K (-4) S) : wp_X7_byteAt (nI s) S K := by
  unfold wp_X7_byteAt
  rw [h.2.2.2.1]
  refine pk_le len s (fun z => h0 (by omega)) (fun z => ⟨vp_in_nI (by omega) (by decide), ?_⟩)
  obtain ⟨c, hc, e⟩ := hb s z
  rw [nI_clamp (by omega), h.2.2.1 7 (by decide), e]
  exact h1 c z hc e
theorem y_st_84 {b h : Nat} (hb : ∀ i, i < len → ∃ c, c < 128 ∧ S0.2.1 28 7 i = nI c) (hl : len ≤ 160) (hbh : b ≤ h) (hK : ∀ S', ZM P S0 S' len b → KV S') : ∀ (m s f : Nat) (S : tq_St), s + m = len → m < f → h ≤ s → ZB P S0 S len → S.1 28 13 = nI h → S.1 28 12 = nI s → (h < s ∨ (s < len ∧ ∃ c, 97 ≤ c ∧ c ≤ 122 ∧ S0.2.1 28 7 s = nI c)) → wp_X7_step_84 KV f S := by
  have hend : ∀ (s : Nat) (S : tq_St), s ≤ len → h < s → ZB P S0 S len → S.1 28 13 = nI h → S.1 28 12 = nI s → ∀ S58 : tq_St, S58 = sI S 28 14 1 → KV S58 := by
    intro s S hs hlt x1 x2 x3
    refine nm_e (hK _ ⟨x1.i (Or.inr (by omega)) _, h, s, hbh, by omega, hs, ?_, ?_, Or.inr hlt⟩)
    · rw [sI_1, if_neg (by decide)]; exact x2
    · rw [sI_1, if_neg (by decide)]; exact x3
  intro m
  induction m with
  | zero =>
    intro s f S h1 h2 hhs x1 x2 x3 x4
    obtain ⟨f, rfl⟩ : ∃ k, f = k + 1 := ⟨f - 1, by omega⟩
    unfold wp_X7_step_84
    rw [x3]
    refine y_byteAt hb hl x1 (by omega) (fun c z => absurd z (by omega)) (fun _ => ?_)
    have hlt : h < s := by rcases x4 with z | z; exact z; omega
    refine m_in 97 122 (by decide) (by decide) (by decide) (fun v _ _ e => ?_) (fun _ => ⟨fun _ => hend s S (by omega) hlt x1 x2 x3, fun z => absurd rfl z⟩)
    exact absurd e.symm (oI_ne (by omega))
  | succ m ih =>
    intro s f S h1 h2 hhs x1 x2 x3 x4
    obtain ⟨f, rfl⟩ : ∃ k, f = k + 1 := ⟨f - 1, by omega⟩
    unfold wp_X7_step_84
    rw [x3]
    refine y_byteAt hb hl x1 (by omega) (fun c _ hc ec => ?_) (fun z => absurd z (by omega))
    refine m_in 97 122 (by decide) (by decide) (by decide) (fun v hv1 hv2 e => ⟨fun z => absurd z (by decide), fun _ => ?_⟩) (fun hno => ⟨fun _ => hend s S (by omega) ?_ x1 x2 x3, fun z => absurd rfl z⟩)
    · rw [x3, nI_1]
      refine nm_e (ih (s + 1) f _ (by omega) (by omega) (by omega) (x1.i (Or.inr (by omega)) _) ?_ ?_ (Or.inl (by omega)))
      · rw [sI_1, if_neg (by decide)]; exact x2
      · rw [sI_1, if_pos rfl]
    · rcases x4 with z | ⟨-, c', hc1, hc2, ec'⟩
      · exact z
      · exfalso
        rw [ec] at ec'
        exact hno c' hc1 hc2 ec'
theorem y_st_140 {b h : Nat} (hb : ∀ i, i < len → ∃ c, c < 128 ∧ S0.2.1 28 7 i = nI c) (hl : len ≤ 160) (hbh : b ≤ h) (hK : ∀ S', ZM P S0 S' len b → KV S') : ∀ (m s f : Nat) (S : tq_St), s + m = len → m < f → h ≤ s → ZB P S0 S len → S.1 28 13 = nI h → S.1 28 12 = nI s → (h < s ∨ (s < len ∧ ∃ c, 48 ≤ c ∧ c ≤ 57 ∧ S0.2.1 28 7 s = nI c)) → wp_X7_step_140 KV f S := by
  have hend : ∀ (s : Nat) (S : tq_St), s ≤ len → h < s → ZB P S0 S len → S.1 28 13 = nI h → S.1 28 12 = nI s → ∀ S37 : tq_St, S37 = sI S 28 14 2 → (((S37.1 28 12) - (S37.1 28 13) : Int32) ≤ 2 → KV S37) ∧ (¬ ((S37.1 28 12) - (S37.1 28 13) : Int32) ≤ 2 → (wp_X7_fails 1 S37 (fun S41 => KV S41))) := by
    intro s S hs hlt x1 x2 x3
    have hz : ZM P S0 (sI S 28 14 2) len b := ⟨x1.i (Or.inr (by omega)) _, h, s, hbh, by omega, hs, by rw [sI_1, if_neg (by decide)]; exact x2, by rw [sI_1, if_neg (by decide)]; exact x3, Or.inr hlt⟩
    exact nm_e ⟨fun _ => hK _ hz, fun _ => y_fails (y := 1) hz (by decide) (fun S' a _ _ => hK S' a)⟩
  intro m
  induction m with
  | zero =>
    intro s f S h1 h2 hhs x1 x2 x3 x4
    obtain ⟨f, rfl⟩ : ∃ k, f = k + 1 := ⟨f - 1, by omega⟩
    unfold wp_X7_step_140
    rw [x3]
    refine y_byteAt hb hl x1 (by omega) (fun c z => absurd z (by omega)) (fun _ => ?_)
    have hlt : h < s := by rcases x4 with z | z; exact z; omega
    refine m_in 48 57 (by decide) (by decide) (by decide) (fun v _ _ e => ?_) (fun _ => ⟨fun _ => hend s S (by omega) hlt x1 x2 x3, fun z => absurd rfl z⟩)
    exact absurd e.symm (oI_ne (by omega))
  | succ m ih =>
    intro s f S h1 h2 hhs x1 x2 x3 x4
    obtain ⟨f, rfl⟩ : ∃ k, f = k + 1 := ⟨f - 1, by omega⟩
    unfold wp_X7_step_140
    rw [x3]
    refine y_byteAt hb hl x1 (by omega) (fun c _ hc ec => ?_) (fun z => absurd z (by omega))
    have h201 : ∀ w : Int32, wp_X7_step_201 KV (wp_X7_step_140 KV f) w S := by
      intro w
      unfold wp_X7_step_201
      refine nm_e ?_
      rw [sI_1, if_neg (by decide), x3, nI_1]
      refine nm_e (ih (s + 1) f _ (by omega) (by omega) (by omega) ((x1.i (Or.inr (by omega)) _).i (Or.inr (by omega)) _) ?_ ?_ (Or.inl (by omega)))
      · rw [sI_1, if_neg (by decide), sI_1, if_neg (by decide)]; exact x2
      · rw [sI_1, if_pos rfl]
    refine m_in 48 57 (by decide) (by decide) (by decide) (fun v hv1 hv2 e => ⟨fun z => absurd z (by decide), fun _ => ⟨fun _ => h201 _, fun _ => ?_⟩⟩) (fun hno => ⟨fun _ => hend s S (by omega) ?_ x1 x2 x3, fun z => absurd rfl z⟩)
    · rw [x3]
      exact y_byteAt hb hl x1 (by omega) (fun c2 _ _ _ => h201 _) (fun z => absurd z (by omega))
    · rcases x4 with z | ⟨-, c', hc1, hc2, ec'⟩
      · exact z
      · exfalso
        rw [ec] at ec'
        exact hno c' hc1 hc2 ec'
theorem y_st_8 {b : Nat} (hb : ∀ i, i < len → ∃ c, c < 128 ∧ S0.2.1 28 7 i = nI c) (hl : len ≤ 160) (hK : ∀ S', ZM P S0 S' len b → KV S') : ∀ (m s f : Nat) (S : tq_St), s + m = len → m < f → b ≤ s → ZB P S0 S len → S.1 28 12 = nI s → wp_X7_step_8 KV f S := by
  intro m
  induction m with
  | zero =>
    intro s f S h1 h2 hbs x1 x3
    obtain ⟨f, rfl⟩ : ∃ k, f = k + 1 := ⟨f - 1, by omega⟩
    unfold wp_X7_step_8
    rw [x3]
    refine y_byteAt hb hl x1 (by omega) (fun c z => absurd z (by omega)) (fun _ => ⟨fun _ => nm_e ?_, fun z => absurd z (by decide)⟩)
    have e12 : (sI S 28 13 (nI s)).1 28 12 = nI s := by rw [sI_1, if_neg (by decide)]; exact x3
    rw [x3, e12]
    refine y_byteAt hb hl (x1.i (Or.inr (by omega)) _) (by omega) (fun c z => absurd z (by omega)) (fun _ => nm_e ⟨fun z => absurd rfl z, fun _ => nm_e (hK _ ⟨((x1.i (Or.inr (by omega)) _).i (Or.inr (by omega)) _).i (Or.inr (by omega)) _, s, s, hbs, Nat.le_refl _, by omega, ?_, ?_, Or.inl ?_⟩)⟩)
    · simp [sI_1]
    · simp [sI_1, x3]
    · simp [sI_1]
  | succ m ih =>
    intro s f S h1 h2 hbs x1 x3
    obtain ⟨f, rfl⟩ : ∃ k, f = k + 1 := ⟨f - 1, by omega⟩
    unfold wp_X7_step_8
    rw [x3]
    refine y_byteAt hb hl x1 (by omega) (fun c _ hc ec => ⟨fun _ => nm_e ?_, fun _ => ?_⟩) (fun z => absurd z (by omega))
    · have e12 : (sI S 28 13 (nI s)).1 28 12 = nI s := by rw [sI_1, if_neg (by decide)]; exact x3
      rw [x3, e12]
      refine y_byteAt hb hl (x1.i (Or.inr (by omega)) _) (by omega) (fun c' _ hc' ec' => nm_e ⟨fun _ => ?_, fun z => absurd z (oI_ne (by omega))⟩) (fun z => absurd z (by omega))
      have x5 := (x1.i (k := 13) (Or.inr (by omega)) (nI s)).i (k := 15) (Or.inr (by omega)) 0
      have y13 : (sI (sI S 28 13 (nI s)) 28 15 0).1 28 13 = nI s := by rw [sI_1, if_neg (by decide), sI_1, if_pos rfl]
      have y12 : (sI (sI S 28 13 (nI s)) 28 15 0).1 28 12 = nI s := by rw [sI_1, if_neg (by decide)]; exact e12
      refine m_in 97 122 (by decide) (by decide) (by decide) (fun v hv1 hv2 e => ⟨fun z => absurd z (by decide), fun _ => ?_⟩) (fun _ => ⟨fun _ => ?_, fun z => absurd rfl z⟩)
      · exact y_st_84 hb hl hbs hK (m + 1) s 2000 _ (by omega) (by omega) (Nat.le_refl _) x5 y13 y12 (Or.inr ⟨by omega, v, hv1, hv2, by rw [ec', e]⟩)
      · refine m_in 48 57 (by decide) (by decide) (by decide) (fun v hv1 hv2 e => ⟨fun z => absurd z (by decide), fun _ => ?_⟩) (fun _ => ⟨fun _ => nm_e ?_, fun z => absurd rfl z⟩)
        · exact y_st_140 hb hl hbs hK (m + 1) s 2000 _ (by omega) (by omega) (Nat.le_refl _) x5 y13 y12 (Or.inr ⟨by omega, v, hv1, hv2, by rw [ec', e]⟩)
        · rw [sI_1, if_neg (by decide), y12, nI_1]
          have hz : ZM P S0 (sI (sI (sI (sI S 28 13 (nI s)) 28 15 0) 28 14 3) 28 12 (nI (s + 1))) len b := by
            refine ⟨(x5.i (Or.inr (by omega)) _).i (Or.inr (by omega)) _, s, s + 1, hbs, by omega, by omega, ?_, ?_, Or.inr (by omega)⟩
            · simp [sI_1]
            · simp [sI_1]
          exact nm_e ⟨fun _ => hK _ hz, fun _ => y_fails (y := 1) hz (by decide) (fun S' a _ _ => hK S' a)⟩
    · rw [x3, nI_1]
      refine nm_e (ih (s + 1) f _ (by omega) (by omega) (by omega) (x1.i (Or.inr (by omega)) _) ?_)
      rw [sI_1, if_pos rfl]
/-- a step: where nothing is broken, on to the next token -/
theorem y_step {b : Nat} (hb : ∀ i, i < len → ∃ c, c < 128 ∧ S0.2.1 28 7 i = nI c) (hl : len ≤ 160) (h : ZM P S0 S len b) (hK : ∀ S', ZM P S0 S' len b → ((¬ S.1 28 10 = 0 ∧ S' = S) ∨ (S.1 28 10 = 0 ∧ ∃ s, S.1 28 12 = nI s ∧ s < 2 ^ 31 ∧ ZM P S0 S' len s)) → KV S') : wp_X7_step S KV := by
  unfold wp_X7_step
  obtain ⟨x1, a, s, h2, h3, h4, h5, h6, h7⟩ := h
  obtain ⟨y, b1, b2⟩ := x1.2.2.2.2.1
  rw [b2]
  refine pk_le y 0 (fun z => ?_) (fun z => ?_)
  · exact y_st_8 (b := s) hb hl (fun S' x => hK S' (x.le (by omega)) (Or.inr ⟨by rw [b2]; exact congrArg nI (by omega : y = 0), s, h6, by omega, x⟩)) (len - s) s 2000 S (by omega) (by omega) (Nat.le_refl _) x1 h6
  · exact hK S ⟨x1, a, s, h2, h3, h4, h5, h6, h7⟩ (Or.inl ⟨by rw [b2]; exact nI_ne0 z (by omega), rfl⟩)
theorem y_number {b lo hi : Nat} (hb : ∀ i, i < len → ∃ c, c < 128 ∧ S0.2.1 28 7 i = nI c) (hl : len ≤ 160) (h : ZM P S0 S len b) (hlh : lo ≤ hi) (hh : hi ≤ 100) (hK : ∀ v S', lo ≤ v → v ≤ hi → ZM P S0 S' len b → K (nI v) S') : wp_X7_number (nI lo) (nI hi) S K := by
  have h62 : ∀ v S', lo ≤ v → v ≤ hi → ZM P S0 S' len b → wp_X7_number_62 K (nI v) S' := fun v S' a1 a2 a3 => y_step hb hl a3 (fun S2 b1 _ => hK v S2 a1 a2 b1)
  have h47b : ∀ S', ZM P S0 S' len b → ¬ S'.1 28 10 = 0 → wp_X7_number_47 K (nI lo) S' := fun S' a1 a2 => ⟨fun _ => h62 lo S' (Nat.le_refl _) hlh a1, fun z => absurd z a2⟩
  have h20 : ∀ S', ZM P S0 S' len b → wp_X7_number_20 K (nI lo) (nI hi) S' := by
    intro S' a1
    unfold wp_X7_number_20
    refine ⟨fun z => h47b S' a1 z, fun z => ?_⟩
    refine m_in lo hi (by rw [Int32.toInt_toInt64, nI_toInt (by omega)]) (by rw [Int32.toInt_toInt64, nI_toInt (by omega)]) (by omega) (fun v hv1 hv2 e => ⟨fun _ => ?_, fun z => absurd z (by decide)⟩) (fun _ => ⟨fun z => absurd rfl z, fun _ => y_fails (y := 3) a1 (by decide) (fun S2 c1 c2 _ => h47b S2 c1 c2)⟩)
    unfold wp_X7_number_47
    rw [e]
    exact ⟨fun z2 => absurd z z2, fun _ => h62 v S' hv1 hv2 a1⟩
  unfold wp_X7_number
  exact ⟨fun _ => h20 S h, fun _ => ⟨fun _ => h20 S h, fun _ => y_fails (y := 2) h (by decide) (fun S2 c1 _ _ => h20 S2 c1)⟩⟩
end Z9
end
section
section ZT
variable {S S0 : tq_St} {G : aQ} {K : Int32 → tq_St → Prop} {KV : tq_St → Prop} {len : Nat} {P : (Nat → Int32) × Int32 × Int32} {A : aE}
theorem cut_le : ∀ n, n < 7 → tq_cuts.getD n 0 ≤ tq_cuts.getD (n + 1) 0 ∧ tq_cuts.getD (n + 1) 0 ≤ 29 := by decide
theorem y_nm51 {h s n : Nat} {R : Int32 → tq_St → Prop} (hb : ∀ i, i < len → ∃ c, c < 128 ∧ S0.2.1 28 7 i = nI c) (hl : len ≤ 160) (hc : ∀ i, i < 8 → S0.2.1 28 16 i = nI (tq_cuts.getD i 0)) (hx : ZB P S0 S len) (hn : n < 7) (h13 : S.1 28 13 = nI h) (h12 : S.1 28 12 = nI s) (hhs : h ≤ s) (hs : s ≤ len) (h1 : K (nI n) S) (h0 : R (nI (n + 1)) S) : ∀ (m k f : Nat) (v : Int32), k + m = s - h → m < f → (v = 0 ∨ s - h = tq_cuts.getD (n + 1) 0 - tq_cuts.getD n 0) → wp_X7_nameHere_51 K R f (nI n) v (nI k) S := by
  have h106 : ∀ v, wp_X7_nameHere_106 K R (nI n) v S := fun v => ⟨fun _ => nm_r (nI_1 n) h0, fun _ => h1⟩
  have hcn := cut_le n hn
  intro m
  induction m with
  | zero =>
    intro k f v z1 z2 z3
    obtain ⟨f, rfl⟩ : ∃ k, f = k + 1 := ⟨f - 1, by omega⟩
    unfold wp_X7_nameHere_51
    rw [h13, h12, pk_sub hhs]
    exact ⟨fun _ => h106 _, fun _ => pk_le (s - h) k (fun _ => h106 _) (fun z => absurd z (by omega))⟩
  | succ m ih =>
    intro k f v z1 z2 z3
    obtain ⟨f, rfl⟩ : ∃ k, f = k + 1 := ⟨f - 1, by omega⟩
    unfold wp_X7_nameHere_51
    rw [h13, h12, pk_sub hhs]
    refine ⟨fun _ => h106 _, fun hv => pk_le (s - h) k (fun z => absurd z (by omega)) (fun _ => ?_)⟩
    have z3 : s - h = tq_cuts.getD (n + 1) 0 - tq_cuts.getD n 0 := by
      rcases z3 with z | z
      · exact absurd z hv
      · exact z
    rw [nI_add]
    refine y_byteAt hb hl hx (by omega) (fun c _ _ _ => ?_) (fun z => absurd z (by omega))
    refine ⟨vp_in_nI (by omega) (by decide), ?_, fun _ => nm_r (nI_1 k) (ih (k + 1) f 0 (by omega) (by omega) (Or.inl rfl)), fun _ => nm_r (nI_1 k) (ih (k + 1) f 1 (by omega) (by omega) (Or.inr z3))⟩
    rw [nI_clamp (by omega), hx.2.2.1 16 (by decide), hc n (by omega), nI_add]
    exact vp_in_nI (by omega) (by decide)
theorem y_nm2 {h s : Nat} (hb : ∀ i, i < len → ∃ c, c < 128 ∧ S0.2.1 28 7 i = nI c) (hl : len ≤ 160) (hc : ∀ i, i < 8 → S0.2.1 28 16 i = nI (tq_cuts.getD i 0)) (hx : ZB P S0 S len) (h13 : S.1 28 13 = nI h) (h12 : S.1 28 12 = nI s) (hhs : h ≤ s) (hs : s ≤ len) (h1 : ∀ n, n ≤ 6 → K (nI n) S) (h0 : K (-4) S) : ∀ (m n f : Nat), n + m = 7 → m < f → wp_X7_nameHere_2 K f (nI n) S := by
  intro m
  induction m with
  | zero =>
    intro n f z1 z2
    obtain ⟨f, rfl⟩ : ∃ k, f = k + 1 := ⟨f - 1, by omega⟩
    unfold wp_X7_nameHere_2
    exact pk_le 7 n (fun _ => h0) (fun z => absurd z (by omega))
  | succ m ih =>
    intro n f z1 z2
    obtain ⟨f, rfl⟩ : ∃ k, f = k + 1 := ⟨f - 1, by omega⟩
    have hcn := cut_le n (by omega)
    unfold wp_X7_nameHere_2
    refine pk_le 7 n (fun z => absurd z (by omega)) (fun _ => ⟨fun _ => h0, fun _ => ?_⟩)
    rw [nI_1, nI_clamp (by omega), nI_clamp (by omega), h13, h12, hx.2.2.1 16 (by decide), hc n (by omega), hc (n + 1) (by omega), pk_sub hhs, pk_sub hcn.1]
    have hgo := y_nm51 (R := wp_X7_nameHere_2 K f) hb hl hc hx (by omega) h13 h12 hhs hs (h1 n (by omega)) (ih (n + 1) f (by omega) (by omega)) (s - h) 0 2000
    refine ⟨vp_in_nI (by omega) (by decide), vp_in_nI (by omega) (by decide), fun _ => hgo 0 (by omega) (by omega) (Or.inl rfl), fun e => hgo 1 (by omega) (by omega) (Or.inr ((nI_eq (by omega) (by omega)).mp e))⟩
theorem y_name {b : Nat} (hb : ∀ i, i < len → ∃ c, c < 128 ∧ S0.2.1 28 7 i = nI c) (hl : len ≤ 160) (hc : ∀ i, i < 8 → S0.2.1 28 16 i = nI (tq_cuts.getD i 0)) (h : ZM P S0 S len b) (h1 : ∀ n, n ≤ 6 → K (nI n) S) (h0 : K (-4) S) : wp_X7_nameHere S K := by
  obtain ⟨hx, a, s, -, h3, h4, h5, h6, -⟩ := h
  exact y_nm2 hb hl hc hx h5 h6 h3 h4 h1 h0 7 0 2000 (by omega) (by omega)
-- drafts
theorem le_high {v h : Nat} (hv : v < 2 ^ 30) (hh : h < 2 ^ 30) : nI v ≤ nI h - 1 ↔ v < h := by
  have e := pk_sub_toInt (a := h) (b := 1) hh (by decide)
  have e' : (nI h - 1).toInt = (h : Int) - 1 := e
  rw [fa_le, e', nI_toInt (by omega)]
  omega
theorem high_lt {v h : Nat} (hv : v < 2 ^ 30) (hh : h < 2 ^ 30) : nI h - 1 < nI v ↔ h ≤ v := by
  have e := pk_sub_toInt (a := h) (b := 1) hh (by decide)
  have e' : (nI h - 1).toInt = (h : Int) - 1 := e
  rw [fa_lt, e', nI_toInt (by omega)]
  omega
theorem RD.plan (h : RD P A) (hw : wfD A) (hc : aC A < 8) {v g : Nat} {w : Int32} (hg : g ≤ 5) (ew : w = nI g - 1) (hold : ∀ i, i < aC A → aA A i < 5 → aA A i < g) (hnew : v < 5 → v < g) (htop : g = 0 ∨ (∃ i, i < aC A ∧ aA A i + 1 = g) ∨ v + 1 = g) : RD (upd (upd P.1 (19 + aC A) (nI v)) 27 (nI (aC A + 1)), P.2.1, w) (planA A v) := by
  obtain ⟨h1, h2, h3, h4, h5, h6, h7, h8, h9, h10, h11, -⟩ := h
  have hn := hw.1
  have hu : ∀ j, j ≠ 27 → j ≠ 19 + aC A → upd (upd P.1 (19 + aC A) (nI v)) 27 (nI (aC A + 1)) j = P.1 j := fun j a b => by rw [pk_un a, pk_un b]
  refine ⟨h1, fun p hp => ?_, fun p hp => ?_, fun p hp hp5 => ?_, fun p hp => ?_, ?_, ?_, ?_, ?_, fun i hi => ?_, h11, g, hg, ew, fun i hi hi5 => ?_, ?_⟩
  · have hp : p < aN A := hp
    exact (hu p (by omega) (by omega)).trans (h2 p hp)
  · have hp : p < aN A := hp
    exact (hu (5 + p) (by omega) (by omega)).trans (h3 p hp)
  · exact (hu (5 + p) (by omega) (by omega)).trans (h4 p hp hp5)
  · exact (hu (10 + p) (by omega) (by omega)).trans (h5 p hp)
  · exact ⟨(hu 15 (by omega) (by omega)).trans h6.1, (hu 16 (by omega) (by omega)).trans h6.2⟩
  · exact (hu 17 (by omega) (by omega)).trans h7
  · exact (hu 18 (by omega) (by omega)).trans h8
  · exact pk_us (f := upd P.1 (19 + aC A) (nI v)) (k := 27) (x := nI (aC A + 1))
  · have hi : i < aC A + 1 := hi
    show upd (upd P.1 (19 + aC A) (nI v)) 27 (nI (aC A + 1)) (19 + i) = nI (un (aA A) (aC A) v i)
    by_cases c : i = aC A
    · subst c
      rw [un_s, pk_un (by omega), pk_us]
    · rw [un_n _ _ c, hu _ (by omega) (by omega)]
      exact h10 i (by omega)
  · have hi : i < aC A + 1 := hi
    have hi5 : un (aA A) (aC A) v i < 5 := hi5
    show un (aA A) (aC A) v i < g
    by_cases c : i = aC A
    · subst c
      rw [un_s] at hi5 ⊢
      exact hnew hi5
    · rw [un_n _ _ c] at hi5 ⊢
      exact hold i (by omega) hi5
  · rcases htop with c | ⟨i, hi, c⟩ | c
    · exact Or.inl c
    · exact Or.inr ⟨i, by show i < aC A + 1; omega, by show un (aA A) (aC A) v i + 1 = g; rw [un_n _ _ (by omega)]; exact c⟩
    · exact Or.inr ⟨aC A, by show aC A < aC A + 1; omega, by show un (aA A) (aC A) v (aC A) + 1 = g; rw [un_s]; exact c⟩
theorem plan_wfD (hw : wfD A) (hc : aC A < 8) {v : Nat} (hv : v ≤ 6) : wfD (planA A v) := by
  obtain ⟨h1, h2, h3, h4, h5, h6, h7, h8, h9, h10⟩ := hw
  refine ⟨h1, h2, h3, h4, h5, h6, h7, h8, by show aC A + 1 ≤ 8; omega, fun i hi => ?_⟩
  have hi : i < aC A + 1 := hi
  show un (aA A) (aC A) v i ≤ 6
  by_cases c : i = aC A
  · subst c
    rw [un_s]; exact hv
  · rw [un_n _ _ c]
    exact h10 i (by omega)
theorem RD.one (h : RD P A) (hw : wfD A) (hn : aN A < 5) {k s : Nat} {P' : (Nat → Int32) × Int32 × Int32} (e1 : P'.1 (aN A) = nI k) (e2 : P'.1 (5 + aN A) = nI s) (e3 : ∀ j, j ≠ aN A → j ≠ 5 + aN A → P'.1 j = P.1 j) (e4 : P'.2.1 = nI (aN A + 1)) (e5 : P'.2.2 = P.2.2) : RD P' (addO A k s) := by
  obtain ⟨h1, h2, h3, h4, h5, h6, h7, h8, h9, h10, h11, g, h12, h13, h14⟩ := h
  have hc := hw.2.2.2.2.2.2.2.2.1
  refine ⟨e4, fun p hp => ?_, fun p hp => ?_, fun p hp hp5 => ?_, fun p hp => ?_, ?_, ?_, ?_, ?_, fun i hi => ?_, ⟨h11.1, h11.2.1, fun p => ?_⟩, g, h12, e5.trans h13, h14⟩
  · have hp : p < aN A + 1 := hp
    show _ = nI (un (aK A) (aN A) k p)
    by_cases c : p = aN A
    · subst c
      rw [un_s]; exact e1
    · rw [un_n _ _ c, e3 _ (by omega) (by omega)]
      exact h2 p (by omega)
  · have hp : p < aN A + 1 := hp
    show _ = nI (un (aS A) (aN A) s p)
    by_cases c : p = aN A
    · subst c
      rw [un_s]; exact e2
    · rw [un_n _ _ c, e3 _ (by omega) (by omega)]
      exact h3 p (by omega)
  · have hp : aN A + 1 ≤ p := hp
    rw [e3 _ (by omega) (by omega)]
    exact h4 p (by omega) hp5
  · rw [e3 _ (by omega) (by omega)]; exact h5 p hp
  · rw [e3 _ (by omega) (by omega), e3 _ (by omega) (by omega)]; exact h6
  · rw [e3 _ (by omega) (by omega)]; exact h7
  · rw [e3 _ (by omega) (by omega)]; exact h8
  · rw [e3 _ (by omega) (by omega)]; exact h9
  · have hi : i < aC A := hi
    rw [e3 _ (by omega) (by omega)]; exact h10 i hi
  · show un (aW A) (aN A) 0 p = 0
    by_cases c : p = aN A
    · subst c
      rw [un_s]
    · rw [un_n _ _ c]
      exact h11.2.2 p
theorem RD.put (h : RD P A) (hw : wfD A) {P' : (Nat → Int32) × Int32 × Int32} {r t : Nat} (e3 : ∀ j, j ≠ 17 → j ≠ 18 → P'.1 j = P.1 j) (e17 : P'.1 17 = nI r - 2) (e18 : P'.1 18 = nI t - 4) (e4 : P'.2 = P.2) : RD P' (uT (uR A r) t) := by
  obtain ⟨h1, h2, h3, h4, h5, h6, h7, h8, h9, h10, h11, g, h12, h13, h14⟩ := h
  have hn := hw.1
  have hc := hw.2.2.2.2.2.2.2.2.1
  refine ⟨by rw [e4]; exact h1, fun p hp => ?_, fun p hp => ?_, fun p hp hp5 => ?_, fun p hp => ?_, ?_, e17, e18, ?_, fun i hi => ?_, h11, g, h12, by rw [e4]; exact h13, h14⟩
  · have hp : p < aN A := hp
    rw [e3 _ (by omega) (by omega)]; exact h2 p hp
  · have hp : p < aN A := hp
    rw [e3 _ (by omega) (by omega)]; exact h3 p hp
  · rw [e3 _ (by omega) (by omega)]; exact h4 p hp hp5
  · rw [e3 _ (by omega) (by omega)]; exact h5 p hp
  · rw [e3 _ (by omega) (by omega), e3 _ (by omega) (by omega)]; exact h6
  · rw [e3 _ (by omega) (by omega)]; exact h9
  · have hi : i < aC A := hi
    rw [e3 _ (by omega) (by omega)]; exact h10 i hi
theorem y_plan0 {b : Nat} (hb : ∀ i, i < len → ∃ c, c < 128 ∧ S0.2.1 28 7 i = nI c) (hl : len ≤ 160) (hK : ∀ P' A' S', ZM P' S0 S' len b → RD P' A' → wfD A' → KV S') : ∀ (m f : Nat) (P : (Nat → Int32) × Int32 × Int32) (A : aE) (S : tq_St), aC A + m = 8 → m + 1 < f → ZM P S0 S len b → RD P A → wfD A → wp_X7_readPlan_0 KV f S := by
  intro m
  induction m with
  | zero =>
    intro f P A S z1 z2 x1 x2 x3
    obtain ⟨f, rfl⟩ : ∃ k, f = k + 1 + 1 := ⟨f - 2, by omega⟩
    have e27 : S.2.1 28 3 27 = nI (aC A) := by rw [x1.1.2.2.2.2.2.1]; exact x2.2.2.2.2.2.2.2.2.1
    rw [wp_X7_readPlan_0]
    refine ⟨fun _ => hK P A S x1 x2 x3, fun _ => ⟨fun _ => hK P A S x1 x2 x3, fun _ => ⟨vp_in_nI (n := 27) (by decide) (by decide), fun z => absurd ?_ z, fun _ => ?_⟩⟩⟩
    · show S.2.1 28 3 27 = 8
      rw [e27, (by omega : aC A = 8)]
      rfl
    · refine y_fails (y := 5) x1 (by decide) (fun S' a1 a2 _ => ?_)
      rw [wp_X7_readPlan_0]
      exact ⟨fun _ => hK P A S' a1 x2 x3, fun z => absurd z a2⟩
  | succ m ih =>
    intro f P A S z1 z2 x1 x2 x3
    obtain ⟨f, rfl⟩ : ∃ k, f = k + 1 := ⟨f - 1, by omega⟩
    have e27 : S.2.1 28 3 27 = nI (aC A) := by rw [x1.1.2.2.2.2.2.1]; exact x2.2.2.2.2.2.2.2.2.1
    rw [wp_X7_readPlan_0]
    refine ⟨fun _ => hK P A S x1 x2 x3, fun _ => ⟨fun _ => hK P A S x1 x2 x3, fun _ => ⟨vp_in_nI (n := 27) (by decide) (by decide), fun _ => ?_, fun z => absurd (show S.2.1 28 3 27 = nI 8 from z) (by rw [e27]; exact fun e => absurd ((nI_eq (by omega) (by decide)).mp e) (by omega))⟩⟩⟩
    refine y_number (lo := 0) (hi := 6) hb hl x1 (by decide) (by decide) (fun v S5 _ hv y1 => ?_)
    obtain ⟨g, g1, g2, g3⟩ := x2.2.2.2.2.2.2.2.2.2.2.2
    have e6 : S5.1 28 6 = nI g - 1 := by rw [y1.1.2.2.2.2.2.2.2]; exact g2
    have h65 : ∀ w g', g' ≤ 5 → w = nI g' - 1 → (∀ i, i < aC A → aA A i < 5 → aA A i < g') → (v < 5 → v < g') → (g' = 0 ∨ (∃ i, i < aC A ∧ aA A i + 1 = g') ∨ v + 1 = g') → wp_X7_readPlan_65 KV (wp_X7_readPlan_0 KV f) (nI v) w S5 := by
      intro w g' q1 q2 q3 q4 q5
      unfold wp_X7_readPlan_65
      refine nm_e ⟨vp_in_nI (n := 27) (by decide) (by decide), ?_⟩
      have y2 := y1.i6 w
      have e27' : (sI S5 28 6 w).2.1 28 3 (27 : Int32).toNatClampNeg = nI (aC A) := by
        show S5.2.1 28 3 27 = _
        rw [y1.1.2.2.2.2.2.1]; exact x2.2.2.2.2.2.2.2.2.1
      have e19 : (19 : Int32) + nI (aC A) = nI (19 + aC A) := nI_add 19 (aC A)
      rw [e27', e19]
      refine ⟨vp_in_nI (by omega) (by decide), nm_e ⟨vp_in_nI (n := 27) (by decide) (by decide), vp_in_nI (n := 27) (by decide) (by decide), ?_⟩⟩
      rw [nI_clamp (by omega)]
      have e27'' : (sA (sI S5 28 6 w) 28 3 (19 + aC A) (nI v)).2.1 28 3 (27 : Int32).toNatClampNeg = nI (aC A) := by
        show (sA (sI S5 28 6 w) 28 3 (19 + aC A) (nI v)).2.1 28 3 27 = _
        rw [sA_at, if_neg (by omega)]
        exact e27'
      rw [e27'', nI_1]
      refine nm_e ?_
      have y3 := (y2.a (19 + aC A) (nI v)).a 27 (nI (aC A + 1))
      exact ih f _ (planA A v) _ (by show aC A + 1 + m = 8; omega) (by omega) y3 (x2.plan x3 (by omega) q1 q2 q3 q4 q5) (plan_wfD x3 (by omega) hv)
    have h61 : (5 ≤ v ∨ v < g) → wp_X7_readPlan_61 KV (wp_X7_readPlan_0 KV f) (nI v) S5 := fun hg => h65 _ g g1 e6 g3.1 (fun z => by omega) (g3.2.imp id Or.inl)
    refine pk_le 5 v (fun z => h61 (Or.inl z)) (fun z => ?_)
    rw [e6]
    refine ⟨fun q => h61 (Or.inr ((le_high (by omega) (by omega)).mp q)), fun q => ?_⟩
    have q' : ¬ v < g := fun c => q ((le_high (by omega) (by omega)).mpr c)
    exact h65 _ (v + 1) (by omega) (nI_pred v).symm (fun i hi h5 => by have := g3.1 i hi h5; omega) (fun _ => by omega) (Or.inr (Or.inr rfl))
theorem y_more {b n : Nat} (hb : ∀ i, i < len → ∃ c, c < 128 ∧ S0.2.1 28 7 i = nI c) (hl : len ≤ 160) (x1 : ZM P S0 S len b) (x2 : RD P A) (x3 : wfD A) (hn : n ≤ 6) (h5 : n ≤ 3 → aN A < 5) (hK : ∀ P' A' S', ZM P' S0 S' len b → RD P' A' → wfD A' → KV S') : wp_X7_readMore (nI n) S KV := by
  unfold wp_X7_readMore
  refine pk_lt 3 n (fun z => ?_) (fun z => ?_)
  · refine ⟨fun z4 => ⟨fun z5 => ?_, fun z5 => ?_⟩, fun z4 => ?_⟩
    · unfold wp_X7_readPlan
      have hc := x3.2.2.2.2.2.2.2.2.1
      exact y_plan0 hb hl hK (8 - aC A) 2000 P A S (by omega) (by omega) x1 x2 x3
    · refine y_number (lo := 1) (hi := 9) hb hl x1 (by decide) (by decide) (fun v S5 hv1 hv y1 => ⟨vp_in_nI (n := 18) (by decide) (by decide), nm_e ?_⟩)
      have y2 := y1.a 18 (nI v - 4)
      have x3' := x3
      obtain ⟨w1, w2, w3, w4, w5, w6, w7, w8, w9, w10⟩ := x3'
      refine hK _ (uT (uR A (aR A)) v) _ y2 (x2.put x3 (fun j a c => pk_un c) ((pk_un (f := P.1) (x := nI v - 4) (k := 18) (j := 17) (by decide)).trans x2.2.2.2.2.2.2.1) (pk_us (f := P.1) (x := nI v - 4) (k := 18)) rfl) ⟨w1, w2, w3, w4, w5, w6, w7, ⟨hv1, hv⟩, w9, w10⟩
    · refine y_number (lo := 1) (hi := 5) hb hl x1 (by decide) (by decide) (fun v S5 hv1 hv y1 => ⟨vp_in_nI (n := 17) (by decide) (by decide), nm_e ?_⟩)
      have y2 := y1.a 17 (nI v - 2)
      have x3' := x3
      obtain ⟨w1, w2, w3, w4, w5, w6, w7, w8, w9, w10⟩ := x3'
      refine hK _ (uT (uR A v) (aT A)) _ y2 (x2.put x3 (fun j a c => pk_un a) (pk_us (f := P.1) (x := nI v - 2) (k := 17)) ((pk_un (f := P.1) (x := nI v - 2) (k := 17) (j := 18) (by decide)).trans x2.2.2.2.2.2.2.2.1) rfl) ⟨w1, w2, w3, w4, w5, w6, ⟨hv1, hv⟩, w8, w9, w10⟩
  · have hN := h5 z
    have e4 : S.1 28 4 = nI (aN A) := by rw [x1.1.2.2.2.2.2.2.1]; exact x2.1
    rw [e4, nI_clamp (by omega)]
    refine ⟨vp_in_nI (by omega) (by decide), nm_e ?_⟩
    have y2 := x1.a (aN A) (nI n)
    have e4' : (sA S 28 3 (aN A) (nI n)).1 28 4 = nI (aN A) := e4
    rw [e4']
    have h41 : ∀ (P2 : (Nat → Int32) × Int32 × Int32) (S2 : tq_St) (s : Nat), s ≤ 40 → ZM P2 S0 S2 len b → P2.1 (aN A) = nI n → P2.1 (5 + aN A) = nI s → (∀ j, j ≠ aN A → j ≠ 5 + aN A → P2.1 j = P.1 j) → P2.2 = P.2 → wp_X7_readMore_41 KV S2 := by
      intro P2 S2 s hs q1 q2 q3 q4 q5
      unfold wp_X7_readMore_41
      have e42 : S2.1 28 4 = nI (aN A) := by rw [q1.1.2.2.2.2.2.2.1, q5]; exact x2.1
      rw [e42, nI_1]
      refine nm_e (hK _ (addO A n s) _ (q1.i4 (nI (aN A + 1))) (x2.one x3 hN q2 q3 q4 rfl (by show P2.2.2 = _; rw [q5])) (addO_wf x3 hN (by omega) hs))
    refine ⟨fun _ => ?_, fun _ => ?_⟩
    · exact h41 _ _ 0 (by omega) y2 pk_us ((pk_un (by omega)).trans (x2.2.2.2.1 (aN A) (Nat.le_refl _) hN)) (fun j a _ => pk_un a) rfl
    · refine y_number (lo := 0) (hi := 40) hb hl y2 (by decide) (by decide) (fun v S5 _ hv y1 => ?_)
      have e5 : (5 : Int32) + nI (aN A) = nI (5 + aN A) := nI_add 5 (aN A)
      rw [e5, nI_clamp (by omega)]
      refine ⟨vp_in_nI (by omega) (by decide), nm_e ?_⟩
      exact h41 _ _ v hv (y1.a (5 + aN A) (nI v)) ((pk_un (by omega)).trans pk_us) pk_us (fun j a c => (pk_un c).trans (pk_un a)) rfl
theorem brk_nle {b : Nat} (h : ZM P S0 S len b) (h0 : ¬ S.1 28 10 = 0) : ¬ S.1 28 10 ≤ 0 := by
  obtain ⟨y, b1, b2⟩ := h.1.2.2.2.2.1
  rw [b2] at h0 ⊢
  refine nI_nle ?_ (by omega)
  rcases Nat.eq_zero_or_pos y with c | c
  · subst c; exact absurd rfl h0
  · exact c
theorem y_63 {b s n : Nat} (hb : ∀ i, i < len → ∃ c, c < 128 ∧ S0.2.1 28 7 i = nI c) (hl : len ≤ 160) (x1 : ZM P S0 S len b) (x2 : RD P A) (x3 : wfD A) (hn : n ≤ 6) (hs : s ≤ 160) (hc : ¬ S.1 28 10 = 0 ∨ (S.1 28 12 = nI s ∧ (n ≤ 3 → aN A < 5))) (hK : ∀ P' A' S', RD P' A' → wfD A' → ((¬ S'.1 28 10 = 0 ∧ ZM P' S0 S' len b) ∨ ZM P' S0 S' len s) → KV S') : wp_X7_readLine_63 KV (nI n) S := by
  unfold wp_X7_readLine_63
  refine nm_e (y_step hb hl (x1.i5 _) (fun S13 a1 a2 => ?_))
  rcases a2 with ⟨a2, a3⟩ | ⟨a2, s', a3, a4, a5⟩
  · refine ⟨fun z => absurd z (brk_nle a1 (by rw [a3]; exact a2)), fun _ => hK P A S13 x2 x3 (Or.inl ⟨by rw [a3]; exact a2, a1⟩)⟩
  · rw [sI_1, if_neg (by decide)] at a2 a3
    rcases hc with hc | ⟨hc1, hc2⟩
    · exact absurd a2 hc
    · have es : s' = s := (nI_eq a4 (by omega)).mp (a3.symm.trans hc1)
      subst es
      refine ⟨fun _ => ?_, fun z => hK P A S13 x2 x3 (Or.inr a5)⟩
      refine y_more hb hl a5 x2 x3 hn hc2 (fun P' A' S17 c1 c2 c3 => ?_)
      have h112 : ∀ S2, ZM P' S0 S2 len s' → wp_X7_readLine_112 KV S2 := fun S2 d1 => y_step hb hl d1 (fun S3 d2 _ => hK P' A' S3 c2 c3 (Or.inr d2))
      exact ⟨fun _ => h112 S17 c1, fun _ => ⟨fun _ => h112 S17 c1, fun _ => y_fails (y := 2) c1 (by decide) (fun S2 d1 _ _ => h112 S2 d1)⟩⟩
theorem y_line {b s : Nat} (hb : ∀ i, i < len → ∃ c, c < 128 ∧ S0.2.1 28 7 i = nI c) (hl : len ≤ 160) (hc : ∀ i, i < 8 → S0.2.1 28 16 i = nI (tq_cuts.getD i 0)) (x1 : ZM P S0 S len b) (x2 : RD P A) (x3 : wfD A) (hs : s ≤ 160) (h12 : S.1 28 12 = nI s) (hK : ∀ P' A' S', RD P' A' → wfD A' → ((¬ S'.1 28 10 = 0 ∧ ZM P' S0 S' len b) ∨ ZM P' S0 S' len s) → KV S') : wp_X7_readLine S KV := by
  unfold wp_X7_readLine
  have h41 : ∀ n S2, n ≤ 6 → ZM P S0 S2 len b → (¬ S2.1 28 10 = 0 ∨ (S2.1 28 12 = nI s ∧ (n ≤ 3 → aN A < 5))) → wp_X7_readLine_41 KV (nI n) S2 := by
    intro n S2 hn y1 y2
    unfold wp_X7_readLine_41
    refine ⟨fun _ => y_63 hb hl y1 x2 x3 hn hs y2 hK, fun _ => ⟨fun _ => y_63 hb hl y1 x2 x3 hn hs y2 hK, fun _ => ?_⟩⟩
    exact y_fails (y := 4) y1 (by decide) (fun S3 d1 d2 _ => y_63 hb hl d1 x2 x3 hn hs (Or.inl d2) hK)
  refine y_name hb hl hc x1 (fun n hn => ?_) ?_
  · refine m_in 0 6 (by decide) (by decide) (by decide) (fun v _ _ _ => ⟨fun _ => ?_, fun z => absurd z (by decide)⟩) (fun hno => absurd rfl (hno n (by omega) hn))
    have e4 : S.1 28 4 = nI (aN A) := by rw [x1.1.2.2.2.2.2.2.1]; exact x2.1
    have hN := x3.1
    refine pk_lt 3 n (fun z => h41 n S hn x1 (Or.inr ⟨h12, fun c => by omega⟩)) (fun z => ?_)
    rw [e4]
    refine ⟨fun z5 => h41 n S hn x1 (Or.inr ⟨h12, fun _ => ?_⟩), fun _ => y_fails (y := 5) x1 (by decide) (fun S3 d1 d2 _ => h41 n S3 hn d1 (Or.inl d2))⟩
    rcases Nat.lt_or_ge (aN A) 5 with c | c
    · exact c
    · exact absurd (congrArg nI (by omega : aN A = 5)) z5
  · refine m_in 0 6 (by decide) (by decide) (by decide) (fun v _ _ e => absurd e.symm (oI_ne (by omega))) (fun _ => ⟨fun z => absurd rfl z, fun _ => ?_⟩)
    exact y_fails (y := 2) x1 (by decide) (fun S3 d1 d2 _ => hK P A S3 x2 x3 (Or.inl ⟨d2, d1⟩))
-- the text
theorem y_130 {S1 : tq_St} {v : Int32} (hK : ∀ r S', Fr 28 S1 S' → (∀ k, k ≠ 2 → k ≠ 22 → S'.1 28 k = S1.1 28 k) → S'.1 28 2 = S1.1 28 4 → S'.1 28 22 = 0 → (∀ k, k ≠ 0 → k ≠ 24 → S'.2.1 28 k = S1.2.1 28 k) → (∀ j, j < 28 → pg S' j = rp S1 j) → S'.2.1 28 24 0 = 0 → S'.2.1 28 24 1 = 0 → K r S') : ∀ (m i f : Nat) (S : tq_St), i + m = 28 → m < f → Fr 28 S1 S → S.1 = S1.1 → (∀ k, k ≠ 0 → S.2.1 28 k = S1.2.1 28 k) → (∀ j, j < i → pg S j = rp S1 j) → wp_X7_text_130 K f v (nI i) S := by
  intro m
  induction m with
  | zero =>
    intro i f S z1 z2 f1 f2 f3 f4
    obtain ⟨f, rfl⟩ : ∃ k, f = k + 1 := ⟨f - 1, by omega⟩
    unfold wp_X7_text_130
    refine pk_le 28 i (fun _ => nm_e (nm_e ⟨vp_in_nI (n := 0) (by decide) (by decide), nm_e ⟨vp_in_nI (n := 1) (by decide) (by decide), nm_e ?_⟩⟩)) (fun z => absurd z (by omega))
    refine hK _ _ ((((f1.I _ _).I _ _).A _ _ _).A _ _ _) (fun k a b => ?_) ?_ ?_ (fun k a b => ?_) (fun j hj => ?_) ?_ ?_
    · rw [sA_1, sA_1, sI_1, if_neg b, sI_1, if_neg a, f2]
    · rw [sA_1, sA_1, sI_1, if_neg (by decide), sI_1, if_pos rfl, f2]
    · rw [sA_1, sA_1, sI_1, if_pos rfl]
    · rw [sA_nk _ _ _ _ _ b, sA_nk _ _ _ _ _ b]; exact f3 k a
    · show (sA (sA _ 28 24 _ _) 28 24 _ _).2.1 28 0 j = _
      rw [sA_nk _ _ _ _ _ (by decide), sA_nk _ _ _ _ _ (by decide)]; exact f4 j (by omega)
    · rw [sA_at, if_neg (by decide), sA_at, if_pos (by decide)]; decide
    · rw [sA_at, if_pos (by decide)]; decide
  | succ m ih =>
    intro i f S z1 z2 f1 f2 f3 f4
    obtain ⟨f, rfl⟩ : ∃ k, f = k + 1 := ⟨f - 1, by omega⟩
    unfold wp_X7_text_130
    refine pk_le 28 i (fun z => absurd z (by omega)) (fun _ => ⟨vp_in_nI (by omega) (by decide), vp_in_nI (by omega) (by decide), nm_e (nm_r (nI_1 i) ?_)⟩)
    rw [nI_clamp (by omega)]
    refine ih (i + 1) f _ (by omega) (by omega) (f1.A _ _ _) f2 (fun k hk => (sA_nk _ _ _ _ _ hk).trans (f3 k hk)) (fun j hj => ?_)
    rw [pg_at]
    by_cases c : j = i
    · rw [if_pos c, c, f3 3 (by decide)]
    · rw [if_neg c]; exact f4 j (by omega)
theorem y_100 {b : Nat} {v : Int32} (hG : RZ S0 G) (hw : wfQ G) (x1 : ZM P S0 S len b) (x2 : RD P A) (x3 : wfD A) (hok : S.1 28 10 = 0 → ∀ i, i < aC A → okA (aN A) (aA A i)) (hK : ∀ r S' G', wfQ G' → RZ S' G' → (qT G').1 = 0 → Fr 28 S0 S' → K r S') : wp_X7_text_100 K v S := by
  obtain ⟨⟨h1, h2, h3, h4, ⟨y, b1, b2⟩, c1, c2, c3⟩, -⟩ := x1
  obtain ⟨g1, g2, g3, g4, g5, g6, g7, g8, g9⟩ := hG
  obtain ⟨w1, w2, w3, w4, w5, w6, w7, w8⟩ := hw
  have hpg : ∀ j, pg S j = pg S0 j := fun j => by show S.2.1 28 0 j = _; rw [h3 0 (by decide)]
  unfold wp_X7_text_100
  refine nm_e (nm_e ?_)
  have e10 : (sI (sI S 28 8 0) 28 9 ((sI S 28 8 0).1 28 10)).1 28 10 = nI y := by rw [sI_1, if_neg (by decide), sI_1, if_neg (by decide)]; exact b2
  have e9 : (sI (sI S 28 8 0) 28 9 ((sI S 28 8 0).1 28 10)).1 28 9 = nI y := by rw [sI_1, if_pos rfl, sI_1, if_neg (by decide)]; exact b2
  have e8 : (sI (sI S 28 8 0) 28 9 ((sI S 28 8 0).1 28 10)).1 28 8 = 0 := by rw [sI_1, if_neg (by decide), sI_1, if_pos rfl]
  have eo : ∀ k, k ≠ 8 → k ≠ 9 → (sI (sI S 28 8 0) 28 9 ((sI S 28 8 0).1 28 10)).1 28 k = S.1 28 k := fun k a b => by rw [sI_1, if_neg b, sI_1, if_neg a]
  have ea : (sI (sI S 28 8 0) 28 9 ((sI S 28 8 0).1 28 10)).2 = S.2 := rfl
  have ef : Fr 28 S0 (sI (sI S 28 8 0) 28 9 ((sI S 28 8 0).1 28 10)) := (h1.I _ _).I _ _
  revert e10 e9 e8 eo ea ef
  generalize (sI (sI S 28 8 0) 28 9 ((sI S 28 8 0).1 28 10)) = T
  intro e10 e9 e8 eo ea ef
  rw [e10]
  refine pk_le y 0 (fun z => ?_) (fun z => ?_)
  · have hy : y = 0 := by omega
    subst hy
    have hok := hok b2
    have hwE := x3.e hok
    refine y_130 (S1 := T) (fun r S' k1 k2 k3 k4 k5 k6 k7 k8 => ?_) 28 0 2000 T (by omega) (by omega) Fr.rf rfl (fun _ _ => rfl) (fun j hj => absurd hj (by omega))
    have erp : ∀ j, j < 28 → pg S' j = P.1 j := fun j hj => by rw [k6 j hj]; show T.2.1 28 3 j = _; rw [ea, c1]
    obtain ⟨d1, d2, d3, d4, d5, d6, d7, d8, d9, d10, d11, -⟩ := x2
    have hn := x3.1
    have hc := x3.2.2.2.2.2.2.2.2.1
    have ka : ∀ k, k ≠ 0 → k ≠ 24 → k ≠ 3 → S'.2.1 28 k = S0.2.1 28 k := fun k a b c => by rw [k5 k a b, ea]; exact h3 k c
    refine hK r S' (A, fun _ => none, (0, fun _ => 0), 0, (0, fun _ => 0, fun _ => false), qH G, qO G) ⟨hwE, fun k B e => absurd e (by simp), ⟨by show 0 ≤ 160; omega, fun _ => by show 0 < 128; omega⟩, by show 0 ≤ 6; omega, ⟨by show 0 ≤ 6; omega, fun _ => by show 0 < 5; omega⟩, w6, w7, w8⟩ ?_ rfl (ef.tr k1)
    refine ⟨⟨?_, fun p hp => ?_, fun p hp => ?_, fun p hp => ?_, ?_, ?_, ?_, ?_, ?_, fun i hi => ?_, fun k hk => ?_⟩, fun k hk => ?_, ⟨?_, fun i hi => absurd hi (by show ¬ i < 0; omega)⟩, ?_, ⟨k4, fun i hi => absurd hi (by show ¬ i < 0; omega)⟩, fun k hk => ?_, ?_, fun i hi => ?_, fun i hi => ?_⟩
    · rw [k3, eo 4 (by decide) (by decide), c2]; exact d1
    · have hp : p < aN A := hp
      rw [erp _ (by omega), Nat.zero_add]; exact d2 p hp
    · have hp : p < aN A := hp
      rw [erp _ (by omega)]; exact d3 p hp
    · have hp : p < aN A := hp
      rw [erp _ (by omega), d11.2.2 p]; exact d5 p (by omega)
    · rw [erp _ (by omega), d11.1]; exact d6.1
    · rw [erp _ (by omega), d11.2.1]; exact d6.2
    · rw [erp _ (by omega)]; exact d7
    · rw [erp _ (by omega)]; exact d8
    · rw [erp _ (by omega)]; exact d9
    · have hi : i < aC A := hi
      rw [erp _ (by omega)]; exact d10 i hi
    · rw [ka 1 (by decide) (by decide) (by decide)]; exact g1.2.2.2.2.2.2.2.2.2.2 k hk
    · show S'.2.1 28 24 k = 0
      rcases (by omega : k = 0 ∨ k = 1) with c | c
      · subst c; exact k7
      · subst c; exact k8
    · rw [k2 8 (by decide) (by decide), e8]; rfl
    · rw [k2 9 (by decide) (by decide), e9]
    · have g6 := g6 k hk
      show ZH S' k (qH G k)
      unfold ZH at g6 ⊢
      rw [ka 25 (by decide) (by decide) (by decide), ka 26 (by decide) (by decide) (by decide), ka 27 (by decide) (by decide) (by decide)]
      exact g6
    · rw [k2 28 (by decide) (by decide), eo 28 (by decide) (by decide), h2 28 (by omega)]; exact g7
    · rw [ka 16 (by decide) (by decide) (by decide)]; exact g8 i hi
    · rw [ka 17 (by decide) (by decide) (by decide)]; exact g9 i hi
  · have ka : ∀ k, k ≠ 3 → T.2.1 28 k = S0.2.1 28 k := fun k c => by rw [ea]; exact h3 k c
    have kp : ∀ j, pg T j = pg S0 j := fun j => by show T.2.1 28 0 j = _; rw [ka 0 (by decide)]
    have k2 := (eo 2 (by decide) (by decide)).trans (h2 2 (by omega))
    have hRM : ∀ g B, RM S0 g B → RM T g B := by
      intro g B hB
      unfold RM
      rw [k2, ka 1 (by decide)]
      have : pg T = pg S0 := funext kp
      rw [this]
      exact hB
    refine hK _ T (vF (vT G (0, (qT G).2)) y) ⟨w1, w2, ⟨by show 0 ≤ 160; omega, w3.2⟩, b1, w5, w6, w7, w8⟩ ?_ rfl ef
    refine ⟨hRM 0 _ g1, fun k hk => ?_, ⟨e8, fun i hi => absurd hi (by show ¬ i < 0; omega)⟩, e9, ⟨?_, fun i hi => ?_⟩, fun k hk => ?_, ?_, fun i hi => ?_, fun i hi => ?_⟩
    · have g2 := g2 k hk
      show ZI T k (qI G k)
      unfold ZI at g2 ⊢
      rw [ka 24 (by decide)]
      split at g2
      · exact g2
      · exact ⟨g2.1, hRM _ _ g2.2⟩
    · rw [eo 22 (by decide) (by decide), h2 22 (by omega)]; exact g5.1
    · rw [ka 21 (by decide)]; exact g5.2 i hi
    · have g6 := g6 k hk
      show ZH T k (qH G k)
      unfold ZH at g6 ⊢
      rw [ka 25 (by decide), ka 26 (by decide), ka 27 (by decide)]
      exact g6
    · rw [eo 28 (by decide) (by decide), h2 28 (by omega)]; exact g7
    · rw [ka 16 (by decide)]; exact g8 i hi
    · rw [ka 17 (by decide)]; exact g9 i hi
theorem y_76 {b : Nat} {v : Int32} (hG : RZ S0 G) (hw : wfQ G) (x1 : ZM P S0 S len b) (x2 : RD P A) (x3 : wfD A) (hK : ∀ r S' G', wfQ G' → RZ S' G' → (qT G').1 = 0 → Fr 28 S0 S' → K r S') : wp_X7_text_76 K v S := by
  unfold wp_X7_text_76
  have e4 : S.1 28 4 = nI (aN A) := by rw [x1.1.2.2.2.2.2.2.1]; exact x2.1
  obtain ⟨g, g1, g2, g3⟩ := x2.2.2.2.2.2.2.2.2.2.2.2
  have e6 : S.1 28 6 = nI g - 1 := by rw [x1.1.2.2.2.2.2.2.2]; exact g2
  have hn := x3.1
  refine ⟨fun z => y_100 hG hw x1 x2 x3 (fun e => absurd e z) hK, fun z => ⟨fun q => ?_, fun _ => ?_⟩⟩
  · rw [e4, e6, high_lt (by omega) (by omega)] at q
    refine y_100 hG hw x1 x2 x3 (fun _ i hi => ?_) hK
    have a1 := x3.2.2.2.2.2.2.2.2.2 i hi
    have a2 := g3.1 i hi
    unfold okA
    omega
  · exact y_fails (y := 6) x1 (by decide) (fun S2 d1 d2 _ => y_100 hG hw d1 x2 x3 (fun e => absurd e d2) hK)
theorem y_52 (hG : RZ S0 G) (hw : wfQ G) (hb : ∀ i, i < len → ∃ c, c < 128 ∧ S0.2.1 28 7 i = nI c) (hl : len ≤ 160) (hK : ∀ r S' G', wfQ G' → RZ S' G' → (qT G').1 = 0 → Fr 28 S0 S' → K r S') : ∀ (m f b : Nat) (v : Int32) (P : (Nat → Int32) × Int32 × Int32) (A : aE) (S : tq_St), len - b ≤ m → m + 1 < f → ZM P S0 S len b → RD P A → wfD A → wp_X7_text_52 K f v S := by
  have hc := hG.2.2.2.2.2.2.2.1
  intro m
  induction m with
  | zero =>
    intro f b v P A S z1 z2 x1 x2 x3
    obtain ⟨f, rfl⟩ : ∃ k, f = k + 1 := ⟨f - 1, by omega⟩
    unfold wp_X7_text_52
    refine ⟨fun _ => y_76 hG hw x1 x2 x3 hK, fun _ => ⟨fun _ => y_76 hG hw x1 x2 x3 hK, fun z => ?_⟩⟩
    obtain ⟨-, h, s, q1, q2, q3, q4, q5, q6⟩ := x1
    rcases q6 with q6 | q6
    · exact absurd q6 z
    · omega
  | succ m ih =>
    intro f b v P A S z1 z2 x1 x2 x3
    obtain ⟨f, rfl⟩ : ∃ k, f = k + 1 + 1 := ⟨f - 2, by omega⟩
    rw [wp_X7_text_52]
    refine ⟨fun _ => y_76 hG hw x1 x2 x3 hK, fun _ => ⟨fun _ => y_76 hG hw x1 x2 x3 hK, fun z => ?_⟩⟩
    have x1' := x1
    obtain ⟨-, h, s, q1, q2, q3, q4, q5, q6⟩ := x1'
    have q6 : h < s := by
      rcases q6 with q6 | q6
      · exact absurd q6 z
      · exact q6
    refine y_line hb hl hc x1 x2 x3 (by omega) q5 (fun P' A' S' a1 a2 a3 => nm_e ?_)
    rcases a3 with ⟨a3, a4⟩ | a3
    · rw [wp_X7_text_52]
      exact ⟨fun _ => y_76 hG hw a4 a1 a2 hK, fun e => absurd e a3⟩
    · exact ih (f + 1) s _ P' A' S' (by omega) (by omega) a3 a1 a2
theorem y_29 (hG : RZ S0 G) (hw : wfQ G) (hb : ∀ i, i < len → ∃ c, c < 128 ∧ S0.2.1 28 7 i = nI c) (hl : len ≤ 160) (hK : ∀ r S' G', wfQ G' → RZ S' G' → (qT G').1 = 0 → Fr 28 S0 S' → K r S') : ∀ (m i f : Nat) (v : Int32) (P : Nat → Int32) (S : tq_St), i + m = 28 → m < f → ZB (P, 0, -1) S0 S len → S.1 28 10 = 0 → S.1 28 12 = 0 → (∀ j, j < i → P j = 0) → wp_X7_text_29 K f v (nI i) S := by
  intro m
  induction m with
  | zero =>
    intro i f v P S z1 z2 x1 e10 e12 x2
    obtain ⟨f, rfl⟩ : ∃ k, f = k + 1 := ⟨f - 1, by omega⟩
    unfold wp_X7_text_29
    refine pk_le 28 i (fun _ => ?_) (fun z => absurd z (by omega))
    unfold wp_X7_step
    rw [e10]
    refine pk_le 0 0 (fun _ => ?_) (fun z => absurd z (by omega))
    refine y_st_8 (P := (P, 0, -1)) (b := 0) hb hl (fun S2 a1 => ?_) len 0 2000 S (by omega) (by omega) (Nat.le_refl _) x1 e12
    refine y_52 hG hw hb hl hK len 2000 0 _ _ (0, fun _ => 0, fun _ => 0, fun _ => 0, 0, 0, 2, 4, 0, fun _ => 0) S2 (by omega) (by omega) a1 ?_ e0_wfD
    refine ⟨rfl, fun p hp => absurd hp (by show ¬ p < 0; omega), fun p hp => absurd hp (by show ¬ p < 0; omega), fun p _ hp => x2 _ (by omega), fun p hp => x2 _ (by omega), ⟨x2 _ (by omega), x2 _ (by omega)⟩, ?_, ?_, ?_, fun i hi => absurd hi (by show ¬ i < 0; omega), ⟨rfl, rfl, fun _ => rfl⟩, 0, by omega, (by decide : (-1 : Int32) = nI 0 - 1), fun i hi => absurd hi (by show ¬ i < 0; omega), Or.inl rfl⟩
    · exact (x2 17 (by omega)).trans (by decide)
    · exact (x2 18 (by omega)).trans (by decide)
    · exact (x2 27 (by omega)).trans (by decide)
  | succ m ih =>
    intro i f v P S z1 z2 x1 e10 e12 x2
    obtain ⟨f, rfl⟩ : ∃ k, f = k + 1 := ⟨f - 1, by omega⟩
    unfold wp_X7_text_29
    refine pk_le 28 i (fun z => absurd z (by omega)) (fun _ => ⟨vp_in_nI (by omega) (by decide), nm_e (nm_r (nI_1 i) ?_)⟩)
    rw [nI_clamp (by omega)]
    refine ih (i + 1) f v (upd P i 0) _ (by omega) (by omega) (x1.a i 0) e10 e12 (fun j hj => ?_)
    by_cases c : j = i
    · subst c; exact pk_us
    · rw [pk_un c]; exact x2 j (by omega)
theorem z_text (hG : RZ S G) (hw : wfQ G) (hK : ∀ r S' G', wfQ G' → RZ S' G' → (qT G').1 = 0 → Fr 28 S S' → K r S') : wp_X7_text S K := by
  unfold wp_X7_text
  refine nm_e (nm_e (nm_e (nm_e (nm_e ?_))))
  have h3 := hG.2.2.1
  have w3 := hw.2.2.1
  refine y_29 (S0 := S) (len := (qT G).1) hG hw (fun i hi => ⟨_, w3.2 i, h3.2 i hi⟩) w3.1 hK 28 0 2000 0 (S.2.1 28 3) _ (by omega) (by omega) ⟨((((Fr.rf.I _ _).I _ _).I _ _).I _ _).I _ _, fun k hk => ?_, fun _ _ => rfl, ?_, ⟨0, by omega, ?_⟩, rfl, ?_, ?_⟩ ?_ ?_ (fun j hj => absurd hj (by omega))
  · rw [sI_1, if_neg (by omega), sI_1, if_neg (by omega), sI_1, if_neg (by omega), sI_1, if_neg (by omega), sI_1, if_neg (by omega)]
  · simp [sI_1]; exact h3.1
  · simp [sI_1]; rfl
  · simp [sI_1]
  · simp [sI_1]
  · simp [sI_1]
  · simp [sI_1]
end ZT
end
section
-- THE READER, ABSTRACT: tokens (start, end, sort), numbers, lines; each with what to do at a fault (E) and behind (O)
abbrev aK3 : Type := Nat × Nat × Nat
def sortN (c : Nat) : Nat := if 97 ≤ c ∧ c ≤ 122 then 1 else if 48 ≤ c ∧ c ≤ 57 then 2 else if c = 59 then 3 else 4
def runE (f : Nat → Bool) : Nat → Nat → Nat
  | 0, s => s
  | m + 1, s => if f s then runE f m (s + 1) else s
def vAt (t : Nat → Nat) (h e : Nat) : Nat := if e = h then 0 else if e = h + 1 then t h - 48 else 10 * (t h - 48) + (t (h + 1) - 48)
def tokB (t : Nat → Nat) (len h : Nat) : aK3 := if h < len then (if sortN (t h) = 1 ∨ sortN (t h) = 2 then (h, runE (fun i => sortN (t i) == sortN (t h)) (len - h) h, sortN (t h)) else (h, h + 1, sortN (t h))) else (h, h, 0)
def tokA (x : aK3) : aK3 := if x.2.2 = 2 ∧ x.1 + 2 < x.2.1 then (x.1, x.2.1, 4) else x
def tokF (t : Nat → Nat) (len p : Nat) : aK3 := tokA (tokB t len (runE (fun i => t i == 32) (len - p) p))
section TXA
variable {β : Type} (t : Nat → Nat) (len : Nat)
def tkC (p : Nat) (E : Nat → Nat → β) (O : aK3 → β) : β := if (tokF t len p).2.2 = 4 then E 1 (tokF t len p).1 else O (tokF t len p)
def numC (lo hi : Nat) (x : aK3) (E : Nat → Nat → β) (O : Nat → aK3 → β) : β := if x.2.2 = 2 then (if lo ≤ vAt t x.1 x.2.1 ∧ vAt t x.1 x.2.1 ≤ hi then tkC t len x.2.1 E (O (vAt t x.1 x.2.1)) else E 3 x.1) else E 2 x.1
def semC (x : aK3) (E : Nat → Nat → β) (O : aK3 → β) : β := if x.2.2 = 3 then tkC t len x.2.1 E O else E 2 x.1
def planC : Nat → aE → aK3 → (Nat → Nat → β) → (aE → aK3 → β) → β
  | 0, A, x, _, O => O A x
  | m + 1, A, x, E, O => if x.2.2 = 2 then (if aC A = 8 then E 5 x.1 else numC t len 0 6 x E (fun v x' => planC m (planA A v) x' E O)) else O A x
def nameB (h e n : Nat) : Bool := decide (e - h = tq_cuts.getD (n + 1) 0 - tq_cuts.getD n 0) && (List.range (e - h)).all (fun i => t (h + i) == tq_lets.getD (tq_cuts.getD n 0 + i) 0)
def nmF (h e : Nat) : Nat := fa_first (nameB t h e) 7
def lineC (told : Nat) (A : aE) (x : aK3) (E : Nat → Nat → β) (O : Nat → aE → aK3 → β) : β :=
  if x.2.2 = 1 then (if nmF t x.1 x.2.1 = 7 then E 2 x.1 else if nmF t x.1 x.2.1 < 4 then (if aN A = 5 then E 5 x.1 else tkC t len x.2.1 E (fun x1 => if x1.2.2 = 2 then numC t len 0 40 x1 E (fun v x2 => semC t len x2 E (O told (addO A (nmF t x.1 x.2.1) v))) else semC t len x1 E (O told (addO A (nmF t x.1 x.2.1) 0)))) else if told.testBit (nmF t x.1 x.2.1) then E 4 x.1 else tkC t len x.2.1 E (fun x1 => if nmF t x.1 x.2.1 = 4 then numC t len 1 5 x1 E (fun v x2 => semC t len x2 E (O (told ||| 2 ^ nmF t x.1 x.2.1) (uR A v))) else if nmF t x.1 x.2.1 = 5 then numC t len 1 9 x1 E (fun v x2 => semC t len x2 E (O (told ||| 2 ^ nmF t x.1 x.2.1) (uT A v))) else planC t len 9 A x1 E (fun A' x2 => semC t len x2 E (O (told ||| 2 ^ nmF t x.1 x.2.1) A')))) else E 2 x.1
def linesC : Nat → Nat → Nat → aE → aK3 → (Nat → Nat → β) → (Nat → aE → β) → β
  | 0, l, _, A, _, _, O => O l A
  | m + 1, l, told, A, x, E, O => if x.2.2 = 0 then O l A else lineC t len told A x E (fun told' A' x' => linesC m (l + 1) told' A' x' E O)
end TXA
abbrev e0A : aE := (0, fun _ => 0, fun _ => 0, fun _ => 0, 0, 0, 2, 4, 0, fun _ => 0)
def fitB (A : aE) : Bool := decide (∀ i, i < aC A → aA A i < aN A ∨ aA A i = 5 ∨ aA A i = 6)
def textR (t : Nat → Nat) (len : Nat) : (Nat × Nat) ⊕ (Nat × aE) := tkC t len 0 (fun y w => .inl (y, w)) (fun x => linesC t len 161 0 0 e0A x (fun y w => .inl (y, w)) (fun l A => if fitB A then .inr (l, A) else .inl (6, len)))
/-- what is always so of a token -/
def tkOk (t : Nat → Nat) (len : Nat) (x : aK3) : Prop := x.1 ≤ x.2.1 ∧ x.2.1 ≤ len ∧ x.2.2 ≤ 4 ∧ (x.2.2 = 0 ↔ x.1 = len) ∧ (x.2.2 ≠ 0 → x.1 < x.2.1) ∧ (x.2.2 = 2 → x.2.1 ≤ x.1 + 2 ∧ ∀ i, x.1 ≤ i → i < x.2.1 → 48 ≤ t i ∧ t i ≤ 57)
theorem runE_ge (f : Nat → Bool) : ∀ (m s : Nat), s ≤ runE f m s ∧ runE f m s ≤ s + m
  | 0, s => ⟨Nat.le_refl _, Nat.le_refl _⟩
  | m + 1, s => by
    unfold runE
    have := runE_ge f m (s + 1)
    split <;> omega
theorem runE_in (f : Nat → Bool) : ∀ (m s i : Nat), s ≤ i → i < runE f m s → f i = true
  | 0, s, i, h1, h2 => by
    have : i < s := h2
    omega
  | m + 1, s, i, h1, h2 => by
    unfold runE at h2
    split at h2
    · rename_i hf
      rcases Nat.lt_or_ge s i with c | c
      · exact runE_in f m (s + 1) i c h2
      · rw [(by omega : i = s)]; exact hf
    · omega
theorem runE_pos {f : Nat → Bool} {m s : Nat} (hm : 0 < m) (h : f s = true) : s < runE f m s := by
  obtain ⟨m, rfl⟩ : ∃ k, m = k + 1 := ⟨m - 1, by omega⟩
  unfold runE
  rw [if_pos h]
  have := runE_ge f m (s + 1)
  omega
theorem sortN_le (c : Nat) : 1 ≤ sortN c ∧ sortN c ≤ 4 := by
  unfold sortN
  split
  · omega
  · split
    · omega
    · split <;> omega
theorem sortN_2 {c : Nat} (h : sortN c = 2) : 48 ≤ c ∧ c ≤ 57 := by
  unfold sortN at h
  split at h
  · omega
  · split at h
    · assumption
    · split at h <;> omega
theorem tokF_ok (t : Nat → Nat) {len p : Nat} (hp : p ≤ len) : tkOk t len (tokF t len p) ∧ p ≤ (tokF t len p).1 := by
  have hh := runE_ge (fun i => t i == 32) (len - p) p
  unfold tokF
  generalize runE (fun i => t i == 32) (len - p) p = h at hh ⊢
  unfold tokB
  have hs := sortN_le (t h)
  by_cases c : h < len
  · rw [if_pos c]
    by_cases c1 : sortN (t h) = 1 ∨ sortN (t h) = 2
    · rw [if_pos c1]
      have he := runE_ge (fun i => sortN (t i) == sortN (t h)) (len - h) h
      have hi := runE_in (fun i => sortN (t i) == sortN (t h)) (len - h) h
      have hq : h < runE (fun i => sortN (t i) == sortN (t h)) (len - h) h := runE_pos (by omega) (by simp)
      generalize runE (fun i => sortN (t i) == sortN (t h)) (len - h) h = e at he hi hq ⊢
      unfold tokA
      by_cases c2 : sortN (t h) = 2 ∧ h + 2 < e
      · rw [if_pos c2]
        refine ⟨⟨by show h ≤ e; omega, by show e ≤ len; omega, by show 4 ≤ 4; omega, ⟨fun z => absurd (show 4 = 0 from z) (by decide), fun z => absurd (show h = len from z) (by omega)⟩, fun _ => hq, fun z => absurd (show 4 = 2 from z) (by decide)⟩, by show p ≤ h; omega⟩
      · rw [if_neg c2]
        refine ⟨⟨by show h ≤ e; omega, by show e ≤ len; omega, by show sortN (t h) ≤ 4; omega, ⟨fun z => absurd (show sortN (t h) = 0 from z) (by omega), fun z => absurd (show h = len from z) (by omega)⟩, fun _ => hq, fun z => ?_⟩, by show p ≤ h; omega⟩
        have z : sortN (t h) = 2 := z
        refine ⟨by show e ≤ h + 2; omega, fun i h1 h2 => ?_⟩
        have := hi i h1 h2
        have this : sortN (t i) = sortN (t h) := by simpa using this
        exact sortN_2 (this.trans z)
    · rw [if_neg c1]
      unfold tokA
      rw [if_neg (by intro z; exact c1 (Or.inr z.1))]
      refine ⟨⟨by show h ≤ h + 1; omega, by show h + 1 ≤ len; omega, by show sortN (t h) ≤ 4; omega, ⟨fun z => absurd (show sortN (t h) = 0 from z) (by omega), fun z => absurd (show h = len from z) (by omega)⟩, fun _ => by show h < h + 1; omega, fun z => absurd (Or.inr z) c1⟩, by show p ≤ h; omega⟩
  · rw [if_neg c]
    unfold tokA
    rw [if_neg (by intro z; exact absurd (show 0 = 2 from z.1) (by decide))]
    exact ⟨⟨Nat.le_refl _, by show h ≤ len; omega, by show 0 ≤ 4; omega, ⟨fun _ => by show h = len; omega, fun _ => rfl⟩, fun z => absurd rfl z, fun z => absurd (show 0 = 2 from z) (by decide)⟩, by show p ≤ h; omega⟩
theorem vAt_le {t : Nat → Nat} {len : Nat} {x : aK3} (h : tkOk t len x) (h2 : x.2.2 = 2) : vAt t x.1 x.2.1 ≤ 99 := by
  obtain ⟨a1, a2, a3, a4, a5, a6⟩ := h
  obtain ⟨b1, b2⟩ := a6 h2
  have a5 := a5 (by omega)
  unfold vAt
  have c1 := b2 x.1 (Nat.le_refl _) a5
  split
  · omega
  · split
    · omega
    · have c2 := b2 (x.1 + 1) (by omega) (by omega)
      omega
end
section
section TXC
variable {S S0 : tq_St} {K : Int32 → tq_St → Prop} {KV : tq_St → Prop} {t : Nat → Nat} {len told : Nat} {A : aE} {β : Type} {E : Nat → Nat → β} {R : β}
-- THE CLASS READS, exactly
def CL (S0 S : tq_St) (len told : Nat) (A : aE) : Prop := (∀ o, o ≠ 19 → o ≠ 2 → S.1 o = S0.1 o ∧ S.2.1 o = S0.2.1 o) ∧ S.2.2 = S0.2.2 ∧ S.2.1 19 = S0.2.1 19 ∧ S.1 19 2 = nI len ∧ S.1 19 3 = 0 ∧ S.1 19 5 = nI told ∧ wfD A ∧ RC S 2 A
def CK (S : tq_St) (t : Nat → Nat) (x : aK3) : Prop := S.1 19 8 = nI x.1 ∧ S.1 19 6 = nI x.2.1 ∧ S.1 19 7 = nI x.2.2 ∧ (x.2.2 = 2 → S.1 19 9 = nI (vAt t x.1 x.2.1))
/-- a fault stands -/
def CD (S0 S : tq_St) (len y w : Nat) : Prop := (∀ o, o ≠ 19 → o ≠ 2 → S.1 o = S0.1 o ∧ S.2.1 o = S0.2.1 o) ∧ S.2.2 = S0.2.2 ∧ S.2.1 19 = S0.2.1 19 ∧ S.1 19 2 = nI len ∧ (0 < y ∧ y ≤ 6) ∧ S.1 19 3 = nI y ∧ S.1 19 4 = nI w ∧ ∃ B, wfD B ∧ RC S 2 B
theorem CL.i (h : CL S0 S len told A) {k : Nat} (hk : k ≠ 2 ∧ k ≠ 3 ∧ k ≠ 5) (v : Int32) : CL S0 (sI S 19 k v) len told A := by
  obtain ⟨h1, h2, h3, h4, h5, h6, h7, h8⟩ := h
  exact ⟨fun o a b => ⟨(sI_1n S a).trans (h1 o a b).1, (h1 o a b).2⟩, h2, h3, by rw [sI_1, if_neg (by omega)]; exact h4, by rw [sI_1, if_neg (by omega)]; exact h5, by rw [sI_1, if_neg (by omega)]; exact h6, h7, h8.fr ((Fr.rf (o := 19)).I _ _) (by decide)⟩
theorem CL.dr (h : CL S0 S len told A) {S' : tq_St} (f : Fr 2 S S') {B : aE} (hw : wfD B) (hR : RC S' 2 B) : CL S0 S' len told B := by
  obtain ⟨h1, h2, h3, h4, h5, h6, h7, h8⟩ := h
  have f19 := f.1 19 (by decide)
  exact ⟨fun o a b => ⟨((f.1 o b).1).trans (h1 o a b).1, ((f.1 o b).2).trans (h1 o a b).2⟩, f.2.trans h2, f19.2.trans h3, by rw [f19.1]; exact h4, by rw [f19.1]; exact h5, by rw [f19.1]; exact h6, hw, hR⟩
theorem CK.dr {x : aK3} (h : CK S t x) {S' : tq_St} (f : Fr 2 S S') : CK S' t x := by
  have f19 := f.1 19 (by decide)
  unfold CK
  rw [f19.1]
  exact h
theorem CD.dr {y w : Nat} (h : CD S0 S len y w) {S' : tq_St} (f : Fr 2 S S') {B : aE} (hw : wfD B) (hR : RC S' 2 B) : CD S0 S' len y w := by
  obtain ⟨h1, h2, h3, h4, h5, h6, h7, -⟩ := h
  have f19 := f.1 19 (by decide)
  exact ⟨fun o a b => ⟨((f.1 o b).1).trans (h1 o a b).1, ((f.1 o b).2).trans (h1 o a b).2⟩, f.2.trans h2, f19.2.trans h3, by rw [f19.1]; exact h4, h5, by rw [f19.1]; exact h6, by rw [f19.1]; exact h7, B, hw, hR⟩
theorem CD.ne {y w : Nat} (h : CD S0 S len y w) : ¬ S.1 19 3 = 0 := by
  rw [h.2.2.2.2.2.1]
  exact nI_ne0 h.2.2.2.2.1.1 (by have := h.2.2.2.2.1.2; omega)
theorem CL.i5 (h : CL S0 S len told A) (v : Nat) : CL S0 (sI S 19 5 (nI v)) len v A := by
  obtain ⟨h1, h2, h3, h4, h5, h6, h7, h8⟩ := h
  exact ⟨fun o a b => ⟨(sI_1n S a).trans (h1 o a b).1, (h1 o a b).2⟩, h2, h3, by rw [sI_1, if_neg (by decide)]; exact h4, by rw [sI_1, if_neg (by decide)]; exact h5, by rw [sI_1, if_pos rfl], h7, h8.fr ((Fr.rf (o := 19)).I _ _) (by decide)⟩
/-- the first fault -/
theorem s_fail {y w : Nat} (h : CL S0 S len told A) (hy : 0 < y ∧ y ≤ 6) (hK : ∀ S', CD S0 S' len y w → KV S') : wp_X5_fail (nI y) (nI w) S KV := by
  obtain ⟨h1, h2, h3, h4, h5, h6, h7, h8⟩ := h
  unfold wp_X5_fail
  refine ⟨fun z => absurd h5 z, fun _ => nm_e (nm_e (hK _ ⟨fun o a b => ⟨(sI_1n _ a).trans ((sI_1n _ a).trans (h1 o a b).1), (h1 o a b).2⟩, h2, h3, ?_, hy, ?_, ?_, A, h7, h8.fr (((Fr.rf (o := 19)).I _ _).I _ _) (by decide)⟩))⟩
  · rw [sI_1, if_neg (by decide), sI_1, if_neg (by decide)]; exact h4
  · rw [sI_1, if_neg (by decide), sI_1, if_pos rfl]
  · rw [sI_1, if_pos rfl]
theorem s_sort {c : Nat} (hc : c < 128) (hK : K (nI (sortN c)) S) : wp_X5_sortOf (nI c) S K := by
  have h28 : ¬ (97 ≤ c ∧ c ≤ 122) → ¬ (48 ≤ c ∧ c ≤ 57) → wp_X5_sortOf_28 K (nI c) S := by
    intro a b
    have e : sortN c = if c = 59 then 3 else 4 := by unfold sortN; rw [if_neg a, if_neg b]
    rw [e] at hK
    unfold wp_X5_sortOf_28
    have := pk_eq (A := K 3 S) (B := K 4 S) (x := nI c) (y := 59) c 59 (fun z => by rw [if_pos z] at hK; exact hK) (fun z => by rw [if_neg z] at hK; exact hK)
    exact ⟨this.2, this.1⟩
  have h14 : ¬ (97 ≤ c ∧ c ≤ 122) → wp_X5_sortOf_14 K (nI c) S := by
    intro a
    unfold wp_X5_sortOf_14
    refine pk_lt c 48 (fun z => h28 a (by omega)) (fun z => pk_lt 57 c (fun z2 => h28 a (by omega)) (fun z2 => ?_))
    have e : sortN c = 2 := by unfold sortN; rw [if_neg a, if_pos ⟨z, z2⟩]
    rw [e] at hK
    exact hK
  unfold wp_X5_sortOf
  refine pk_lt c 97 (fun z => h14 (by omega)) (fun z => pk_lt 122 c (fun z2 => h14 (by omega)) (fun z2 => ?_))
  have e : sortN c = 1 := by unfold sortN; rw [if_pos ⟨z, z2⟩]
  rw [e] at hK
  exact hK
theorem s_189 {h e k : Nat} (hl : len ≤ 160) (hc : CL S0 S len told A) (h8 : S.1 19 8 = nI h) (h6 : S.1 19 6 = nI e) (h7 : S.1 19 7 = nI k) (hk4 : k ≤ 4) (hhe : h ≤ e) (hel : e ≤ len) (hv : k = 2 → e ≤ h + 2 → S.1 19 9 = nI (vAt t h e)) (hK : ∀ S', CL S0 S' len told A → CK S' t (tokA (h, e, k)) → (tokA (h, e, k)).2.2 ≠ 4 → KV S') (hd : ∀ S', (tokA (h, e, k)).2.2 = 4 → CD S0 S' len 1 h → KV S') : wp_X5_takeToken_189 KV S := by
  have h215 : ∀ S', CL S0 S' len told A → S'.1 19 8 = nI h → CK S' t (tokA (h, e, k)) → wp_X5_takeToken_215 KV S' := by
    intro S' x1 x8 x2
    have x7 := x2.2.2.1
    have hk' : (tokA (h, e, k)).2.2 ≤ 4 := by
      unfold tokA
      split
      · show 4 ≤ 4; omega
      · exact hk4
    unfold wp_X5_takeToken_215
    rw [x7, x8]
    have := pk_eq (A := wp_X5_fail 1 (nI h) S' (fun S14 => KV S14)) (B := KV S') (x := nI (tokA (h, e, k)).2.2) (y := 4) (tokA (h, e, k)).2.2 4 (fun z => s_fail (y := 1) x1 (by decide) (fun S2 y => hd S2 z y)) (fun z => hK S' x1 x2 z)
    exact ⟨this.2, this.1⟩
  unfold wp_X5_takeToken_189
  rw [h7, h6, h8, pk_sub hhe]
  have hsame : ¬ (k = 2 ∧ h + 2 < e) → wp_X5_takeToken_215 KV S := by
    intro hn
    have et : tokA (h, e, k) = (h, e, k) := by unfold tokA; rw [if_neg hn]
    refine h215 S hc h8 ?_
    rw [et]
    exact ⟨h8, h6, h7, fun z => hv z (by have z : k = 2 := z; omega)⟩
  have := pk_eq (A := ((nI (e - h) ≤ 2 → wp_X5_takeToken_215 KV S) ∧ (¬ nI (e - h) ≤ 2 → ∀ S17 : tq_St, S17 = sI S 19 7 4 → wp_X5_takeToken_215 KV S17))) (B := wp_X5_takeToken_215 KV S) (x := nI k) (y := 2) k 2 (fun z => pk_le (e - h) 2 (fun z2 => hsame (by omega)) (fun z2 => nm_e ?_)) (fun z => hsame (by omega))
  · exact ⟨this.2, this.1⟩
  · have et : tokA (h, e, k) = (h, e, 4) := by unfold tokA; rw [if_pos ⟨z, by show h + 2 < e; omega⟩]
    refine h215 _ (hc.i (by decide) _) (by rw [sI_1, if_neg (by decide)]; exact h8) ?_
    rw [et]
    refine ⟨?_, ?_, ?_, fun z => absurd (show 4 = 2 from z) (by decide)⟩
    · rw [sI_1, if_neg (by decide)]; exact h8
    · rw [sI_1, if_neg (by decide)]; exact h6
    · rw [sI_1, if_pos rfl]; rfl
theorem vAt_step {h s : Nat} (hs : h ≤ s) (hs2 : s ≤ h + 1) (hd : 48 ≤ t s ∧ t s ≤ 57) (hdh : 48 ≤ t h ∧ t h ≤ 57) : nI (vAt t h s) * 10 + (nI (t s) - 48) = nI (vAt t h (s + 1)) := by
  have e48 : nI (t s) - 48 = nI (t s - 48) := pk_sub (b := 48) hd.1
  have e10 : (10 : Int32) = nI 10 := rfl
  rw [e48, e10, pk_mul, nI_add]
  congr 1
  unfold vAt
  rcases (by omega : s = h ∨ s = h + 1) with c | c
  · subst c
    rw [if_pos rfl, if_neg (by omega), if_pos rfl]
    omega
  · subst c
    rw [if_neg (by omega), if_pos rfl, if_neg (by omega), if_neg (by omega)]
    omega
theorem s_run {h k : Nat} (hl : len ≤ 160) (ht : ∀ i, i < len → S0.2.1 19 0 i = nI (t i)) (htb : ∀ i, t i < 128) (hk : k = 1 ∨ k = 2) (hK : ∀ e S', e = runE (fun i => sortN (t i) == k) (len - h) h → h ≤ e → e ≤ len → CL S0 S' len told A → S'.1 19 8 = nI h → S'.1 19 6 = nI e → S'.1 19 7 = nI k → (k = 2 → e ≤ h + 2 → S'.1 19 9 = nI (vAt t h e)) → wp_X5_takeToken_189 KV S') : ∀ (m s f : Nat) (S : tq_St), s + m = len → m < f → h ≤ s → runE (fun i => sortN (t i) == k) m s = runE (fun i => sortN (t i) == k) (len - h) h → (∀ i, h ≤ i → i < s → sortN (t i) = k) → CL S0 S len told A → S.1 19 8 = nI h → S.1 19 6 = nI s → S.1 19 7 = nI k → (k = 2 → s ≤ h + 2 → S.1 19 9 = nI (vAt t h s)) → wp_X5_takeToken_104 KV f 1 S := by
  intro m
  induction m with
  | zero =>
    intro s f S h1 h2 hs hr hi hc h8 h6 h7 hv
    obtain ⟨f, rfl⟩ : ∃ k, f = k + 1 := ⟨f - 1, by omega⟩
    unfold wp_X5_takeToken_104
    rw [hc.2.2.2.1, h6]
    exact pk_le len s (fun _ => hK s S hr hs (by omega) hc h8 h6 h7 hv) (fun z => absurd z (by omega))
  | succ m ih =>
    intro s f S h1 h2 hs hr hi hc h8 h6 h7 hv
    obtain ⟨f, rfl⟩ : ∃ k, f = k + 1 := ⟨f - 1, by omega⟩
    unfold wp_X5_takeToken_104
    rw [hc.2.2.2.1, h6]
    refine pk_le len s (fun z => absurd z (by omega)) (fun _ => ⟨fun z => absurd z (by decide), fun _ => ⟨vp_in_nI (by omega) (by decide), ?_⟩⟩)
    rw [nI_clamp (by omega), hc.2.2.1, ht s (by omega)]
    refine s_sort (htb s) ?_
    rw [h7]
    have hsn := sortN_le (t s)
    have := pk_eq (A := wp_X5_takeToken_152 KV (wp_X5_takeToken_104 KV f) 1 S) (B := wp_X5_takeToken_189 KV S) (x := nI (sortN (t s))) (y := nI k) (sortN (t s)) k (fun z => ?_) (fun z => ?_)
    · exact ⟨this.2, this.1⟩
    · unfold wp_X5_takeToken_152
      rw [h6]
      refine ⟨vp_in_nI (by omega) (by decide), nm_e (nm_r (by rw [sI_1, if_neg (by decide), h6, nI_1]) ?_)⟩
      have hr' : runE (fun i => sortN (t i) == k) m (s + 1) = runE (fun i => sortN (t i) == k) (len - h) h := by
        rw [← hr]
        conv => rhs; unfold runE
        rw [if_pos (by simp [z])]
      refine ih (s + 1) f _ (by omega) (by omega) (by omega) hr' (fun i a b => ?_) ((hc.i (by decide) _).i (by decide) _) ?_ ?_ ?_ (fun k2 hs2 => ?_)
      · rcases Nat.lt_or_ge i s with c | c
        · exact hi i a c
        · rw [(by omega : i = s)]; exact z
      · rw [sI_1, if_neg (by decide), sI_1, if_neg (by decide)]; exact h8
      · rw [sI_1, if_pos rfl]
      · rw [sI_1, if_neg (by decide), sI_1, if_neg (by decide)]; exact h7
      · rw [sI_1, if_neg (by decide), sI_1, if_pos rfl, nI_clamp (by omega), hc.2.2.1, ht s (by omega), hv k2 (by omega)]
        have hdh : 48 ≤ t h ∧ t h ≤ 57 := by
          rcases Nat.lt_or_ge h s with c | c
          · exact sortN_2 ((hi h (Nat.le_refl _) c).trans k2)
          · rw [(by omega : h = s)]; exact sortN_2 (z.trans k2)
        exact vAt_step hs (by omega) (sortN_2 (z.trans k2)) hdh
    · refine hK s S ?_ hs (by omega) hc h8 h6 h7 hv
      rw [← hr]
      unfold runE
      rw [if_neg (by simp [z])]
theorem s_tok {p : Nat} {O : aK3 → β} (hl : len ≤ 160) (ht : ∀ i, i < len → S0.2.1 19 0 i = nI (t i)) (htb : ∀ i, t i < 128) (hc : CL S0 S len told A) (h6 : S.1 19 6 = nI p) (hp : p ≤ len) (hR : tkC t len p E O = R) (hd : ∀ y w S', CD S0 S' len y w → E y w = R → KV S') (hK : ∀ x S', tkOk t len x → p ≤ x.1 → x.2.2 ≠ 4 → CL S0 S' len told A → CK S' t x → O x = R → KV S') : wp_X5_takeToken S KV := by
  have hfok := tokF_ok t hp
  -- behind the blanks
  have h38 : ∀ h S', h ≤ len → h = runE (fun i => t i == 32) (len - p) p → CL S0 S' len told A → S'.1 19 6 = nI h → wp_X5_takeToken_38 KV S' := by
    intro h S' hh eh x1 x6
    have eF : tokF t len p = tokA (tokB t len h) := by unfold tokF; rw [← eh]
    have hend : ∀ e k S2, tokB t len h = (h, e, k) → k ≤ 4 → h ≤ e → e ≤ len → CL S0 S2 len told A → S2.1 19 8 = nI h → S2.1 19 6 = nI e → S2.1 19 7 = nI k → (k = 2 → e ≤ h + 2 → S2.1 19 9 = nI (vAt t h e)) → wp_X5_takeToken_189 KV S2 := by
      intro e k S2 eB hk4 a1 a2 y1 y8 y6 y7 yv
      rw [eB] at eF
      refine s_189 (t := t) hl y1 y8 y6 y7 hk4 a1 a2 yv (fun S3 z1 z2 z3 => ?_) (fun S3 z1 z2 => ?_)
      · rw [← eF] at z2 z3
        refine hK _ S3 hfok.1 hfok.2 z3 z1 z2 ?_
        rw [← hR]
        unfold tkC
        rw [if_neg z3]
      · rw [← eF] at z1
        refine hd 1 h S3 z2 ?_
        rw [← hR]
        unfold tkC
        rw [if_pos z1, eF]
        have : (tokA (h, e, k)).1 = h := by unfold tokA; split <;> rfl
        rw [this]
    unfold wp_X5_takeToken_38
    rw [x6]
    refine nm_e (nm_e ?_)
    have y1 := (x1.i (k := 8) (by decide) (nI h)).i (k := 9) (by decide) 0
    have y6 : (sI (sI S' 19 8 (nI h)) 19 9 0).1 19 6 = nI h := by rw [sI_1, if_neg (by decide), sI_1, if_neg (by decide)]; exact x6
    have y8 : (sI (sI S' 19 8 (nI h)) 19 9 0).1 19 8 = nI h := by rw [sI_1, if_neg (by decide), sI_1, if_pos rfl]
    have y9 : (sI (sI S' 19 8 (nI h)) 19 9 0).1 19 9 = 0 := by rw [sI_1, if_pos rfl]
    have y2 := y1.2.2.2.1
    have ya := y1.2.2.1
    revert y1 y6 y8 y9 y2 ya
    generalize sI (sI S' 19 8 (nI h)) 19 9 0 = T
    intro y1 y6 y8 y9 y2 ya
    rw [y2, y6]
    have h79 : ∀ k, k ≤ 4 → ((h = len ∧ k = 0) ∨ (h < len ∧ k = sortN (t h))) → wp_X5_takeToken_79 KV (nI k) T := by
      intro k hk4 hcase
      unfold wp_X5_takeToken_79
      refine nm_e ?_
      have z1 := y1.i (k := 7) (by decide) (nI k)
      have z6 : (sI T 19 7 (nI k)).1 19 6 = nI h := by rw [sI_1, if_neg (by decide)]; exact y6
      have z8 : (sI T 19 7 (nI k)).1 19 8 = nI h := by rw [sI_1, if_neg (by decide)]; exact y8
      have z9 : (sI T 19 7 (nI k)).1 19 9 = 0 := by rw [sI_1, if_neg (by decide)]; exact y9
      have z7 : (sI T 19 7 (nI k)).1 19 7 = nI k := by rw [sI_1, if_pos rfl]
      revert z1 z6 z8 z9 z7
      generalize sI T 19 7 (nI k) = T2
      intro z1 z6 z8 z9 z7
      rw [z7]
      have hlong : (k = 1 ∨ k = 2) → wp_X5_takeToken_104 KV 2000 1 T2 := by
        intro hk
        have hlt : h < len ∧ k = sortN (t h) := by
          rcases hcase with c | c
          · omega
          · exact c
        refine s_run (h := h) (k := k) hl ht htb hk (fun e S2 ee a1 a2 w1 w8 w6 w7 wv => ?_) (len - h) h 2000 T2 (by omega) (by omega) (Nat.le_refl _) rfl (fun i a b => absurd b (by omega)) z1 z8 z6 z7 (fun _ _ => by rw [z9]; unfold vAt; rw [if_pos rfl]; rfl)
        refine hend e k S2 ?_ hk4 a1 a2 w1 w8 w6 w7 wv
        unfold tokB
        rw [if_pos hlt.1, if_pos (by rw [← hlt.2]; exact hk), ← hlt.2, ← ee]
      have hshort : k ≠ 1 → k ≠ 2 → wp_X5_takeToken_104 KV 2000 0 T2 := by
        intro n1 n2
        rw [wp_X5_takeToken_104, z1.2.2.2.1, z6]
        refine pk_le len h (fun c => ?_) (fun c => ⟨fun _ => ?_, fun z => absurd rfl z⟩)
        · refine hend h k T2 ?_ hk4 (Nat.le_refl _) hh z1 z8 z6 z7 (fun z => absurd z n2)
          unfold tokB
          rw [if_neg (by omega)]
          have : k = 0 := by omega
          rw [this]
        · rw [z8]
          refine ⟨fun z => absurd rfl z, fun _ => ?_⟩
          have hlt : k = sortN (t h) := by omega
          unfold wp_X5_takeToken_152
          rw [z6]
          refine ⟨vp_in_nI (by omega) (by decide), nm_e (nm_r (by rw [sI_1, if_neg (by decide), z6, nI_1]) ?_)⟩
          have w1 := (z1.i (k := 9) (by decide) (T2.1 19 9 * 10 + (T2.2.1 19 0 (nI h).toNatClampNeg - 48))).i (k := 6) (by decide) (nI (h + 1))
          have w8 : (sI (sI T2 19 9 (T2.1 19 9 * 10 + (T2.2.1 19 0 (nI h).toNatClampNeg - 48))) 19 6 (nI (h + 1))).1 19 8 = nI h := by rw [sI_1, if_neg (by decide), sI_1, if_neg (by decide)]; exact z8
          have w7 : (sI (sI T2 19 9 (T2.1 19 9 * 10 + (T2.2.1 19 0 (nI h).toNatClampNeg - 48))) 19 6 (nI (h + 1))).1 19 7 = nI k := by rw [sI_1, if_neg (by decide), sI_1, if_neg (by decide)]; exact z7
          have w6 : (sI (sI T2 19 9 (T2.1 19 9 * 10 + (T2.2.1 19 0 (nI h).toNatClampNeg - 48))) 19 6 (nI (h + 1))).1 19 6 = nI (h + 1) := by rw [sI_1, if_pos rfl]
          have hB : tokB t len h = (h, h + 1, k) := by
            unfold tokB
            rw [if_pos c, if_neg (by rw [← hlt]; omega), ← hlt]
          have hgo := hend (h + 1) k _ hB hk4 (by omega) (by omega) w1 w8 w6 w7 (fun z => absurd z n2)
          rw [wp_X5_takeToken_104, w1.2.2.2.1, w6, w8]
          refine pk_le len (h + 1) (fun _ => hgo) (fun c2 => ⟨fun _ => ?_, fun z => absurd rfl z⟩)
          have := pk_eq (A := wp_X5_takeToken_152 KV (wp_X5_takeToken_104 KV 1998) 0 (sI (sI T2 19 9 (T2.1 19 9 * 10 + (T2.2.1 19 0 (nI h).toNatClampNeg - 48))) 19 6 (nI (h + 1)))) (B := wp_X5_takeToken_189 KV (sI (sI T2 19 9 (T2.1 19 9 * 10 + (T2.2.1 19 0 (nI h).toNatClampNeg - 48))) 19 6 (nI (h + 1)))) (x := nI (h + 1)) (y := nI h) (h + 1) h (fun z => absurd z (by omega)) (fun _ => hgo)
          exact ⟨this.2, this.1⟩
      have p1 := pk_eq (A := wp_X5_takeToken_104 KV 2000 1 T2) (B := ((¬ nI k = 2 → wp_X5_takeToken_104 KV 2000 0 T2) ∧ (nI k = 2 → wp_X5_takeToken_104 KV 2000 1 T2))) (x := nI k) (y := 1) k 1 (fun z => hlong (Or.inl z)) (fun z1' => ?_)
      · exact ⟨p1.1, p1.2⟩
      · have := pk_eq (A := wp_X5_takeToken_104 KV 2000 1 T2) (B := wp_X5_takeToken_104 KV 2000 0 T2) (x := nI k) (y := 2) k 2 (fun z => hlong (Or.inr z)) (fun z => hshort z1' z)
        exact ⟨this.2, this.1⟩
    refine pk_le len h (fun z => h79 0 (by omega) (Or.inl ⟨by omega, rfl⟩)) (fun z => ⟨vp_in_nI (by omega) (by decide), ?_⟩)
    rw [nI_clamp (by omega), ya, ht h z]
    exact s_sort (htb h) (h79 _ (sortN_le (t h)).2 (Or.inr ⟨z, rfl⟩))
  have h0 : ∀ (m s f : Nat) (S : tq_St), s + m = len → m < f → p ≤ s → runE (fun i => t i == 32) m s = runE (fun i => t i == 32) (len - p) p → CL S0 S len told A → S.1 19 6 = nI s → wp_X5_takeToken_0 KV f S := by
    intro m
    induction m with
    | zero =>
      intro s f S g1 g2 g3 hr x1 x6
      obtain ⟨f, rfl⟩ : ∃ k, f = k + 1 := ⟨f - 1, by omega⟩
      unfold wp_X5_takeToken_0
      rw [x1.2.2.2.1, x6]
      exact pk_le len s (fun _ => h38 s S (by omega) hr x1 x6) (fun z => absurd z (by omega))
    | succ m ih =>
      intro s f S g1 g2 g3 hr x1 x6
      obtain ⟨f, rfl⟩ : ∃ k, f = k + 1 := ⟨f - 1, by omega⟩
      unfold wp_X5_takeToken_0
      rw [x1.2.2.2.1, x6]
      refine pk_le len s (fun z => absurd z (by omega)) (fun _ => ⟨vp_in_nI (by omega) (by decide), ?_⟩)
      rw [nI_clamp (by omega), x1.2.2.1, ht s (by omega)]
      have htb' := htb s
      have := pk_eq (A := ∀ S34 : tq_St, S34 = sI S 19 6 (nI s + 1) → wp_X5_takeToken_0 KV f S34) (B := wp_X5_takeToken_38 KV S) (x := nI (t s)) (y := 32) (t s) 32 (fun z => nm_r (e' := sI S 19 6 (nI (s + 1))) (by rw [nI_1]) ?_) (fun z => h38 s S (by omega) ?_ x1 x6)
      · exact ⟨this.2, this.1⟩
      · refine ih (s + 1) f _ (by omega) (by omega) (by omega) ?_ (x1.i (by decide) _) (by rw [sI_1, if_pos rfl])
        rw [← hr]
        conv => rhs; unfold runE
        rw [if_pos (by simp [z])]
      · rw [← hr]
        unfold runE
        rw [if_neg (by simp [z])]
  unfold wp_X5_takeToken
  exact h0 (len - p) p 2000 S (by omega) (by omega) (Nat.le_refl _) rfl hc h6
end TXC
end
section
section TXD
variable {S S0 : tq_St} {K : Int32 → tq_St → Prop} {KV : tq_St → Prop} {t : Nat → Nat} {len told : Nat} {A : aE} {β : Type} {E : Nat → Nat → β} {R : β}
theorem s_num {lo hi : Nat} {x : aK3} {O : Nat → aK3 → β} (hl : len ≤ 160) (ht : ∀ i, i < len → S0.2.1 19 0 i = nI (t i)) (htb : ∀ i, t i < 128) (hhi : hi ≤ 100) (hc : CL S0 S len told A) (hx : CK S t x) (hok : tkOk t len x) (hR : numC t len lo hi x E O = R) (hlh : lo ≤ hi) (hd : ∀ y w v S', lo ≤ v → v ≤ hi → CD S0 S' len y w → E y w = R → K (nI v) S') (hK : ∀ v x' S', lo ≤ v → v ≤ hi → x.2.1 ≤ x'.1 → tkOk t len x' → x'.2.2 ≠ 4 → CL S0 S' len told A → CK S' t x' → O v x' = R → K (nI v) S') : wp_X5_takeNumber (nI lo) (nI hi) S K := by
  obtain ⟨x8, x6, x7, x9⟩ := hx
  have hk4 := hok.2.2.1
  have he := hok.2.1
  unfold numC at hR
  unfold wp_X5_takeNumber
  refine ⟨fun _ => ?_, fun z => absurd hc.2.2.2.2.1 z⟩
  rw [x7, x8]
  refine pk_eq x.2.2 2 (fun z => ?_) (fun z => ?_)
  · rw [if_pos z] at hR
    have hv := vAt_le hok z
    rw [x9 z]
    have h44 : ¬ (lo ≤ vAt t x.1 x.2.1 ∧ vAt t x.1 x.2.1 ≤ hi) → wp_X5_takeNumber_44 K (nI lo) S := by
      intro hn
      rw [if_neg hn] at hR
      unfold wp_X5_takeNumber_44
      rw [x8]
      exact s_fail (y := 3) hc (by decide) (fun S' d => hd 3 x.1 lo S' (Nat.le_refl _) hlh d hR)
    refine pk_lt (vAt t x.1 x.2.1) lo (fun z1 => h44 (by omega)) (fun z1 => pk_le (vAt t x.1 x.2.1) hi (fun z2 => nm_e ?_) (fun z2 => h44 (by omega)))
    rw [if_pos ⟨z1, z2⟩] at hR
    exact s_tok hl ht htb hc x6 he hR (fun y w S' d e => hd y w _ S' z1 z2 d e) (fun x' S' a1 a2 a3 a4 a5 a6 => hK _ x' S' z1 z2 a2 a1 a3 a4 a5 a6)
  · rw [if_neg z] at hR
    exact s_fail (y := 2) hc (by decide) (fun S' d => hd 2 x.1 lo S' (Nat.le_refl _) hlh d hR)
theorem s_semi {x : aK3} {O : aK3 → β} (hl : len ≤ 160) (ht : ∀ i, i < len → S0.2.1 19 0 i = nI (t i)) (htb : ∀ i, t i < 128) (hc : CL S0 S len told A) (hx : CK S t x) (hok : tkOk t len x) (hR : semC t len x E O = R) (hd : ∀ y w S', CD S0 S' len y w → E y w = R → KV S') (hK : ∀ x' S', x.2.1 ≤ x'.1 → tkOk t len x' → x'.2.2 ≠ 4 → CL S0 S' len told A → CK S' t x' → O x' = R → KV S') : wp_X5_takeSemicolon S KV := by
  obtain ⟨x8, x6, x7, x9⟩ := hx
  have hk4 := hok.2.2.1
  unfold semC at hR
  unfold wp_X5_takeSemicolon
  refine ⟨fun _ => ?_, fun z => absurd hc.2.2.2.2.1 z⟩
  rw [x7, x8]
  refine pk_eq x.2.2 3 (fun z => ?_) (fun z => ?_)
  · rw [if_pos z] at hR
    exact s_tok hl ht htb hc x6 hok.2.1 hR hd (fun x' S' a1 a2 a3 a4 a5 a6 => hK x' S' a2 a1 a3 a4 a5 a6)
  · rw [if_neg z] at hR
    exact s_fail (y := 2) hc (by decide) (fun S' d => hd 2 x.1 S' d hR)
/-- behind a fault the semicolon is not looked for -/
theorem s_semiD {y w : Nat} (h : CD S0 S len y w) (hK : KV S) : wp_X5_takeSemicolon S KV := by
  unfold wp_X5_takeSemicolon
  exact ⟨fun z => absurd z h.ne, fun _ => hK⟩
-- names
theorem nm_len : ∀ n, n < 7 → tq_len.getD n 0 = tq_cuts.getD (n + 1) 0 - tq_cuts.getD n 0 := by decide
theorem nm_byt : ∀ n, n < 7 → ∀ i, i < tq_len.getD n 0 → (tq_byt.getD n []).getD i 0 &&& 255 = nI (tq_lets.getD (tq_cuts.getD n 0 + i) 0) := by decide +kernel
theorem nm_lets : ∀ i, i < 29 → tq_lets.getD i 0 < 128 := by decide
theorem s_isName_20 {o h e : Nat} (ho : o < 7) (hl : len ≤ 160) (ht : ∀ i, i < len → S0.2.1 19 0 i = nI (t i)) (htb : ∀ i, t i < 128) (ha : S.2.1 19 = S0.2.1 19) (h8 : S.1 19 8 = nI h) (hhe : h ≤ e) (hel : e ≤ len) (hlen : e - h = tq_len.getD o 0) (h1 : nameB t h e o = true → K 1 S) (h0 : nameB t h e o = false → K 0 S) : ∀ (m i f : Nat), i + m = tq_len.getD o 0 → m < f → (∀ j, j < i → t (h + j) = tq_lets.getD (tq_cuts.getD o 0 + j) 0) → wp_X5_isName_20 o K f (nI i) S := by
  have h5 := tq_len5 o ho
  have hcut := cut_le o ho
  have hnl := nm_len o ho
  intro m
  induction m with
  | zero =>
    intro i f g1 g2 g3
    obtain ⟨f, rfl⟩ : ∃ k, f = k + 1 := ⟨f - 1, by omega⟩
    unfold wp_X5_isName_20
    refine t_len ho (pk_le (tq_len.getD o 0) i (fun _ => h1 ?_) (fun z => absurd z (by omega)))
    unfold nameB
    simp only [Bool.and_eq_true, decide_eq_true_eq, List.all_eq_true, List.mem_range, beq_iff_eq]
    exact ⟨by omega, fun j hj => g3 j (by omega)⟩
  | succ m ih =>
    intro i f g1 g2 g3
    obtain ⟨f, rfl⟩ : ∃ k, f = k + 1 := ⟨f - 1, by omega⟩
    unfold wp_X5_isName_20
    refine t_len ho (pk_le (tq_len.getD o 0) i (fun z => absurd z (by omega)) (fun hi => ?_))
    rw [h8, nI_add]
    refine ⟨vp_in_nI (by omega) (by decide), t_charAt ho hi h5 ?_⟩
    rw [nI_clamp (by omega), ha, ht (h + i) (by omega), nm_byt o ho i hi]
    have b1 := htb (h + i)
    have b2 := nm_lets (tq_cuts.getD o 0 + i) (by omega)
    refine pk_eq (t (h + i)) (tq_lets.getD (tq_cuts.getD o 0 + i) 0) (fun z => nm_r (nI_1 i) ?_) (fun z => h0 ?_)
    · refine ih (i + 1) f (by omega) (by omega) (fun j hj => ?_)
      rcases Nat.lt_or_ge j i with c | c
      · exact g3 j c
      · rw [(by omega : j = i)]; exact z
    · unfold nameB
      rw [Bool.and_eq_false_iff]
      refine Or.inr ?_
      rw [List.all_eq_false]
      exact ⟨i, List.mem_range.mpr (by omega), by simpa using z⟩
theorem s_isName {o : Nat} {x : aK3} (ho : o < 7) (hl : len ≤ 160) (ht : ∀ i, i < len → S0.2.1 19 0 i = nI (t i)) (htb : ∀ i, t i < 128) (hc : CL S0 S len told A) (hx : CK S t x) (hok : tkOk t len x) (h1 : nameB t x.1 x.2.1 o = true → K 1 S) (h0 : nameB t x.1 x.2.1 o = false → K 0 S) : wp_X5_isName o S K := by
  obtain ⟨x8, x6, x7, x9⟩ := hx
  have h5 := tq_len5 o ho
  have hel := hok.2.1
  unfold wp_X5_isName
  refine t_len ho ?_
  rw [x8, x6, pk_sub hok.1]
  refine pk_eq (tq_len.getD o 0) (x.2.1 - x.1) (fun z => ?_) (fun z => h0 ?_)
  · exact s_isName_20 ho hl ht htb hc.2.2.1 x8 hok.1 hok.2.1 z.symm h1 h0 (tq_len.getD o 0) 0 2000 (by omega) (by omega) (fun j hj => absurd hj (by omega))
  · unfold nameB
    rw [Bool.and_eq_false_iff]
    refine Or.inl ?_
    rw [← nm_len o ho]
    exact decide_eq_false (fun c => z c.symm)
theorem s_begun {x : aK3} (hl : len ≤ 160) (ht : ∀ i, i < len → S0.2.1 19 0 i = nI (t i)) (htb : ∀ i, t i < 128) (hc : CL S0 S len told A) (hx : CK S t x) (hok : tkOk t len x) (h1 : x.2.2 = 1 → K (nI (nmF t x.1 x.2.1)) S) (h0 : x.2.2 ≠ 1 → K (nI 7) S) : wp_X5_lineBegun S K := by
  have hk4 := hok.2.2.1
  have hloop : x.2.2 = 1 → ∀ (m i f : Nat), i + m = 7 → m < f → (∀ j, j < i → nameB t x.1 x.2.1 j = false) → wp_X5_lineBegun_13 K f (nI i) S := by
    intro hx1 m
    induction m with
    | zero =>
      intro i f g1 g2 g3
      obtain ⟨f, rfl⟩ : ∃ k, f = k + 1 := ⟨f - 1, by omega⟩
      refine pk_le 7 i (fun _ => ?_) (fun z => absurd z (by omega))
      have e : nmF t x.1 x.2.1 = 7 := by
        have a1 := fa_first_le (nameB t x.1 x.2.1) 7
        rcases Nat.lt_or_ge (nmF t x.1 x.2.1) 7 with c | c
        · have := fa_first_yes (nameB t x.1 x.2.1) 7 c
          rw [g3 (fa_first (nameB t x.1 x.2.1) 7) (by show nmF t x.1 x.2.1 < i; omega)] at this
          exact absurd this (by decide)
        · exact Nat.le_antisymm a1 c
      have := h1 hx1
      rw [e] at this
      exact this
    | succ m ih =>
      intro i f g1 g2 g3
      obtain ⟨f, rfl⟩ : ∃ k, f = k + 1 := ⟨f - 1, by omega⟩
      unfold wp_X5_lineBegun_13
      refine pk_le 7 i (fun z => absurd z (by omega)) (fun hi => ?_)
      have hn : ∀ o, o = i → o < 7 ∧ wp_X5_isName o S (fun r6 S7 => ((r6 : Int32) = 0 → ∀ x10 : Int32, x10 = nI i + 1 → wp_X5_lineBegun_13 K f x10 S7) ∧ (¬ (r6 : Int32) = 0 → K (nI i) S7)) := by
        intro o e
        subst e
        refine ⟨hi, s_isName hi hl ht htb hc hx hok (fun hb => ⟨fun z => absurd z (by decide), fun _ => ?_⟩) (fun hb => ⟨fun _ => nm_r (nI_1 o) (ih (o + 1) f (by omega) (by omega) (fun j hj => ?_)), fun z => absurd rfl z⟩)⟩
        · have e : nmF t x.1 x.2.1 = o := by
            rcases Nat.lt_trichotomy (nmF t x.1 x.2.1) o with c | c | c
            · have hlt : nmF t x.1 x.2.1 < 7 := by omega
              have := fa_first_yes (nameB t x.1 x.2.1) 7 hlt
              rw [g3 (fa_first (nameB t x.1 x.2.1) 7) c] at this
              exact absurd this (by decide)
            · exact c
            · have := fa_first_no (nameB t x.1 x.2.1) 7 o c
              rw [hb] at this
              exact absurd this (by decide)
          have := h1 hx1
          rw [e] at this
          exact this
        · rcases Nat.lt_or_ge j o with c | c
          · exact g3 j c
          · rw [(by omega : j = o)]; exact hb
      unfold wp_X5_nameOf
      have hne : ∀ o, o < 7 → nI i = nI o → i = o := fun o ho e => (nI_eq (by omega) (by omega)).mp e
      refine ⟨fun z => hn 6 ?_, fun z => hn 0 (hne 0 (by decide) z).symm, fun z => hn 1 (hne 1 (by decide) z).symm, fun z => hn 2 (hne 2 (by decide) z).symm, fun z => hn 3 (hne 3 (by decide) z).symm, fun z => hn 4 (hne 4 (by decide) z).symm, fun z => hn 5 (hne 5 (by decide) z).symm⟩
      rw [nI_toInt (by omega)] at z
      omega
  unfold wp_X5_lineBegun
  rw [hx.2.2.1]
  exact pk_eq x.2.2 1 (fun z => hloop z 7 0 2000 (by omega) (by omega) (fun j hj => absurd hj (by omega))) (fun z => h0 z)
theorem nmF_le {h e : Nat} : nmF t h e ≤ 7 := fa_first_le _ 7
end TXD
end
section
section TXE
variable {S S0 : tq_St} {K : Int32 → tq_St → Prop} {KV : tq_St → Prop} {t : Nat → Nat} {len told : Nat} {A : aE} {β : Type} {E : Nat → Nat → β} {R : β}
theorem s_one {n : Nat} {x : aK3} {O : aE → aK3 → β} (hl : len ≤ 160) (ht : ∀ i, i < len → S0.2.1 19 0 i = nI (t i)) (htb : ∀ i, t i < 128) (hn : n < 4) (hc : CL S0 S len told A) (hx : CK S t x) (hok : tkOk t len x) (hR : (if aN A = 5 then E 5 x.1 else tkC t len x.2.1 E (fun x1 => if x1.2.2 = 2 then numC t len 0 40 x1 E (fun v x2 => O (addO A n v) x2) else O (addO A n 0) x1)) = R) (hd : ∀ y w S', CD S0 S' len y w → E y w = R → KV S') (hK : ∀ v x' S', x.2.1 ≤ x'.1 → tkOk t len x' → x'.2.2 ≠ 4 → CL S0 S' len told (addO A n v) → CK S' t x' → O (addO A n v) x' = R → KV S') : wp_X5_tellOne (nI n) S KV := by
  have hw := hc.2.2.2.2.2.2.1
  have hRC := hc.2.2.2.2.2.2.2
  have hN := hw.1
  have h49 : ∀ v x' S', v ≤ 40 → x.2.1 ≤ x'.1 → tkOk t len x' → x'.2.2 ≠ 4 → aN A < 5 → CL S0 S' len told A → CK S' t x' → O (addO A n v) x' = R → wp_X5_tellOne_49 KV (nI n) (nI v) S' := by
    intro v x' S' hv a1 a2 a3 a4 b1 b2 b3
    unfold wp_X5_tellOne_49
    exact c_addOne b1.2.2.2.2.2.2.2 hN (fun _ S2 c1 c2 => hK v x' S2 a1 a2 a3 (b1.dr c2 (addO_wf hw a4 hn hv) c1) (b2.dr c2) b3) (fun z => absurd z (by omega))
  have h49d : ∀ y w v S', v ≤ 40 → CD S0 S' len y w → E y w = R → wp_X5_tellOne_49 KV (nI n) (nI v) S' := by
    intro y w v S' hv b1 b2
    obtain ⟨B, c1, c2⟩ := b1.2.2.2.2.2.2.2
    unfold wp_X5_tellOne_49
    exact c_addOne c2 c1.1 (fun hB S2 d1 d2 => hd y w S2 (b1.dr d2 (addO_wf c1 hB hn hv) d1) b2) (fun _ => hd y w S' b1 b2)
  unfold wp_X5_tellOne
  rw [hRC.1, hx.1]
  refine pk_lt (aN A) 5 (fun z => ?_) (fun z => ?_)
  · rw [if_neg (by omega)] at hR
    refine s_tok hl ht htb hc hx.2.1 hok.2.1 hR (fun y w S' d e => ?_) (fun x1 S' a1 a2 a3 a4 a5 a6 => ?_)
    · have hgo := h49d y w 0 S' (by omega) d e
      refine ⟨fun _ => hgo, fun _ => ?_⟩
      unfold wp_X5_takeNumber
      exact ⟨fun z => absurd z d.ne, fun _ => hgo⟩
    · have hk4 := a1.2.2.1
      rw [a5.2.2.1]
      have := pk_eq (A := wp_X5_takeNumber 0 40 S' (fun r9 S10 => wp_X5_tellOne_49 KV (nI n) r9 S10)) (B := wp_X5_tellOne_49 KV (nI n) 0 S') (x := nI x1.2.2) (y := 2) x1.2.2 2 (fun z2 => ?_) (fun z2 => ?_)
      · exact ⟨this.2, this.1⟩
      · rw [if_pos z2] at a6
        exact s_num (lo := 0) (hi := 40) hl ht htb (by decide) a4 a5 a1 a6 (by decide) (fun y w v S2 _ hv d e => h49d y w v S2 hv d e) (fun v x2 S2 _ hv b1 b2 b3 b4 b5 b6 => h49 v x2 S2 hv (by have := a1.1; omega) b2 b3 z b4 b5 b6)
      · rw [if_neg z2] at a6
        exact h49 0 x1 S' (by omega) a2 a1 a3 z a4 a5 a6
  · rw [if_pos (by omega)] at hR
    exact s_fail (y := 5) hc (by decide) (fun S' d => hd 5 x.1 S' d hR)
theorem s_planD {y w i f : Nat} (h : CD S0 S len y w) (hi : i ≤ 100) (hf : 0 < f) (hK : KV S) : wp_X5_tellPlan_2 KV f (nI i) S := by
  obtain ⟨f, rfl⟩ : ∃ k, f = k + 1 := ⟨f - 1, by omega⟩
  unfold wp_X5_tellPlan_2
  exact ⟨fun _ => hK, fun _ => ⟨fun _ => hK, fun z => absurd z h.ne⟩⟩
theorem s_plan {O : aE → aK3 → β} (hl : len ≤ 160) (ht : ∀ i, i < len → S0.2.1 19 0 i = nI (t i)) (htb : ∀ i, t i < 128) {p : Nat} (hd : ∀ y w S', CD S0 S' len y w → E y w = R → KV S') (hK : ∀ B x' S', p ≤ x'.1 → tkOk t len x' → x'.2.2 ≠ 4 → CL S0 S' len told B → CK S' t x' → O B x' = R → KV S') : ∀ (m f : Nat) (S : tq_St) (A : aE) (x : aK3), aC A + m = 9 → 0 < m → m < f → p ≤ x.1 → x.2.2 ≠ 4 → CL S0 S len told A → CK S t x → tkOk t len x → planC t len m A x E O = R → wp_X5_tellPlan_2 KV f (nI (aC A)) S := by
  intro m
  induction m with
  | zero =>
    intro f S A x h1 h0
    omega
  | succ m ih =>
    intro f S A x h1 h0 h2 hp hx4 hc hx hok hR
    obtain ⟨f, rfl⟩ : ∃ k, f = k + 1 := ⟨f - 1, by omega⟩
    have hw := hc.2.2.2.2.2.2.1
    have hk4 := hok.2.2.1
    have hC := hw.2.2.2.2.2.2.2.2.1
    unfold planC at hR
    unfold wp_X5_tellPlan_2
    refine pk_lt 8 (aC A) (fun z => absurd z (by omega)) (fun _ => ⟨fun z => absurd hc.2.2.2.2.1 z, fun _ => ?_⟩)
    rw [hx.2.2.1, hx.1]
    have := pk_eq (A := (¬ nI (aC A) = 8 → wp_X5_takeNumber 0 6 S (fun r5 S6 => (wp_X1_addAct 2 r5 S6 (fun r8 S9 => ∀ x11 : Int32, x11 = nI (aC A) + 1 → wp_X5_tellPlan_2 KV f x11 S9)))) ∧ (nI (aC A) = 8 → wp_X5_fail 5 (nI x.1) S (fun S14 => ∀ x16 : Int32, x16 = nI (aC A) + 1 → wp_X5_tellPlan_2 KV f x16 S14))) (B := KV S) (x := nI x.2.2) (y := 2) x.2.2 2 (fun z => ?_) (fun z => ?_)
    · exact ⟨this.2, this.1⟩
    · rw [if_pos z] at hR
      have p8 := pk_eq (A := wp_X5_fail 5 (nI x.1) S (fun S14 => ∀ x16 : Int32, x16 = nI (aC A) + 1 → wp_X5_tellPlan_2 KV f x16 S14)) (B := wp_X5_takeNumber 0 6 S (fun r5 S6 => (wp_X1_addAct 2 r5 S6 (fun r8 S9 => ∀ x11 : Int32, x11 = nI (aC A) + 1 → wp_X5_tellPlan_2 KV f x11 S9)))) (x := nI (aC A)) (y := 8) (aC A) 8 (fun z8 => ?_) (fun z8 => ?_)
      · exact ⟨p8.2, p8.1⟩
      · rw [if_pos z8] at hR
        exact s_fail (y := 5) hc (by decide) (fun S' d => nm_r (nI_1 (aC A)) (s_planD d (by omega) (by omega) (hd 5 x.1 S' d hR)))
      · rw [if_neg z8] at hR
        refine s_num (lo := 0) (hi := 6) hl ht htb (by decide) hc hx hok hR (by decide) (fun y w v S2 _ hv d e => ?_) (fun v x2 S2 _ hv b1 b2 b3 b4 b5 b6 => ?_)
        · obtain ⟨B, c1, c2⟩ := d.2.2.2.2.2.2.2
          refine c_addAct c2 c1.2.2.2.2.2.2.2.2.1 (fun hB S3 d1 d2 _ _ => nm_r (nI_1 (aC A)) ?_) (fun _ => nm_r (nI_1 (aC A)) ?_)
          · have d' := d.dr d2 (planA_wfD c1 hB hv) d1
            exact s_planD d' (by omega) (by omega) (hd y w S3 d' e)
          · exact s_planD d (by omega) (by omega) (hd y w S2 d e)
        · refine c_addAct b4.2.2.2.2.2.2.2 hC (fun hB S3 d1 d2 _ _ => nm_r (nI_1 (aC A)) ?_) (fun z9 => absurd z9 z8)
          exact ih f S3 (planA A v) x2 (by show aC A + 1 + m = 9; omega) (by omega) (by omega) (by have := hok.1; omega) b3 (b4.dr d2 (planA_wfD hw hB hv) d1) (b5.dr d2) b2 b6
    · rw [if_neg z] at hR
      exact hK A x S hp hok hx4 hc hx hR
end TXE
end
section
section TXF
variable {S S0 : tq_St} {G : aQ} {K : Int32 → tq_St → Prop} {KV : tq_St → Prop} {t : Nat → Nat} {len told : Nat} {A : aE} {β : Type} {E : Nat → Nat → β} {R : β}
theorem s_line {x : aK3} {O : Nat → aE → aK3 → β} (hl : len ≤ 160) (ht : ∀ i, i < len → S0.2.1 19 0 i = nI (t i)) (htb : ∀ i, t i < 128) (htold : told < 128) (hinv : told.testBit 6 = false → aC A = 0) (hc : CL S0 S len told A) (hx : CK S t x) (hok : tkOk t len x) (hx0 : x.2.2 ≠ 0) (hR : lineC t len told A x E O = R) (hd : ∀ y w S', CD S0 S' len y w → E y w = R → KV S') (hK : ∀ told' B x' S', x.1 < x'.1 → tkOk t len x' → x'.2.2 ≠ 4 → told' < 128 → (told'.testBit 6 = false → aC B = 0) → CL S0 S' len told' B → CK S' t x' → O told' B x' = R → KV S') : wp_X5_tellLine S KV := by
  have hw := hc.2.2.2.2.2.2.1
  have hlt := hok.2.2.2.2.1 hx0
  have h123 : ∀ told' B x' S', x.2.1 ≤ x'.1 → tkOk t len x' → told' < 128 → (told'.testBit 6 = false → aC B = 0) → CL S0 S' len told' B → CK S' t x' → semC t len x' E (O told' B) = R → wp_X5_tellLine_123 KV S' := by
    intro told' B x' S' a1 a2 a3 a4 b1 b2 b3
    unfold wp_X5_tellLine_123
    exact s_semi hl ht htb b1 b2 a2 b3 hd (fun x2 S2 c1 c2 c3 c4 c5 c6 => hK told' B x2 S2 (by have := a2.1; omega) c2 c3 a3 a4 c4 c5 c6)
  have h123d : ∀ y w S', CD S0 S' len y w → E y w = R → wp_X5_tellLine_123 KV S' := fun y w S' d e => s_semiD d (hd y w S' d e)
  unfold lineC at hR
  unfold wp_X5_tellLine
  have hle := nmF_le (t := t) (h := x.1) (e := x.2.1)
  refine s_begun hl ht htb hc hx hok (fun z1 => ?_) (fun z1 => ?_)
  · rw [if_pos z1] at hR
    generalize nmF t x.1 x.2.1 = n at hR hle
    have p7 := pk_eq (A := wp_X5_fail 2 (S.1 19 8) S (fun S37 => wp_X5_tellLine_123 KV S37)) (B := ((4 : Int32) ≤ nI n → (¬ (((S.1 19 5 : Int32) >>> ((nI n : Int32) &&& 31)) &&& 1 : Int32) = 1 → ∀ S7 : tq_St, S7 = sI S 19 5 ((S.1 19 5) ||| ((1 : Int32) <<< ((nI n : Int32) &&& 31))) → (wp_X5_takeToken S7 (fun S10 => (¬ (nI n : Int32) = 4 → (¬ (nI n : Int32) = 5 → (wp_X5_tellPlan S10 (fun S15 => wp_X5_tellLine_123 KV S15))) ∧ ((nI n : Int32) = 5 → (wp_X5_takeNumber 1 9 S10 (fun r20 S21 => ∀ S23 : tq_St, S23 = sI S21 2 9 r20 → wp_X5_tellLine_123 KV S23)))) ∧ ((nI n : Int32) = 4 → (wp_X5_takeNumber 1 5 S10 (fun r25 S26 => ∀ S28 : tq_St, S28 = sI S26 2 8 r25 → wp_X5_tellLine_123 KV S28)))))) ∧ ((((S.1 19 5 : Int32) >>> ((nI n : Int32) &&& 31)) &&& 1 : Int32) = 1 → (wp_X5_fail 4 (S.1 19 8) S (fun S31 => wp_X5_tellLine_123 KV S31)))) ∧ (¬ (4 : Int32) ≤ nI n → (wp_X5_tellOne (nI n) S (fun S34 => wp_X5_tellLine_123 KV S34)))) (x := nI n) (y := 7) n 7 (fun z7 => ?_) (fun z7 => ?_)
    · exact ⟨p7.2, p7.1⟩
    · rw [if_pos z7] at hR
      rw [hx.1]
      exact s_fail (y := 2) hc (by decide) (fun S' d => h123d 2 x.1 S' d hR)
    · rw [if_neg z7] at hR
      refine pk_le 4 n (fun z4 => ?_) (fun z4 => ?_)
      · rw [if_neg (by omega)] at hR
        rw [hc.2.2.2.2.2.1, hx.1, zb_or (by omega)]
        have ht31 : told < 2 ^ 31 := by omega
        refine ⟨fun q => nm_e ?_, fun q => ?_⟩
        · have hb : told.testBit n = false := by
            cases hq : told.testBit n with
            | false => rfl
            | true => exact absurd ((zb_1 ht31 (by omega)).mpr hq) q
          rw [if_neg (by rw [hb]; decide)] at hR
          have hc' := hc.i5 (told ||| 2 ^ n)
          have htold' : told ||| 2 ^ n < 128 := zb_orlt (k := 7) htold (by omega)
          have hx6 : (sI S 19 5 (nI (told ||| 2 ^ n))).1 19 6 = nI x.2.1 := by rw [sI_1, if_neg (by decide)]; exact hx.2.1
          have hinv' : n ≠ 6 → (told ||| 2 ^ n).testBit 6 = false → aC A = 0 := by
            intro hn6 hb6
            refine hinv ?_
            rw [Nat.testBit_or] at hb6
            exact (Bool.or_eq_false_iff.mp hb6).1
          refine s_tok hl ht htb hc' hx6 hok.2.1 hR (fun y w S' d e => ?_) (fun x1 S' a1 a2 a3 a4 a5 a6 => ?_)
          · have hnum : ∀ (lo hi : Nat) (k : Nat), (1 ≤ lo ∧ lo ≤ 1) → (k = 8 ∨ k = 9) → wp_X5_takeNumber (nI lo) (nI hi) S' (fun r20 S21 => ∀ S23 : tq_St, S23 = sI S21 2 k r20 → wp_X5_tellLine_123 KV S23) := by
              intro lo hi k hlo hk
              unfold wp_X5_takeNumber
              refine ⟨fun z => absurd z d.ne, fun _ => nm_e ?_⟩
              obtain ⟨B, c1, c2⟩ := d.2.2.2.2.2.2.2
              rcases hk with hk | hk
              · subst hk
                exact h123d y w _ (d.dr (Fr.rf.I _ _) (B := uR B lo) ⟨c1.1, c1.2.1, c1.2.2.1, c1.2.2.2.1, c1.2.2.2.2.1, c1.2.2.2.2.2.1, ⟨hlo.1, Nat.le_trans hlo.2 (by decide)⟩, c1.2.2.2.2.2.2.2⟩ (c2.r lo)) e
              · subst hk
                exact h123d y w _ (d.dr (Fr.rf.I _ _) (B := uT B lo) ⟨c1.1, c1.2.1, c1.2.2.1, c1.2.2.2.1, c1.2.2.2.2.1, c1.2.2.2.2.2.1, c1.2.2.2.2.2.2.1, ⟨hlo.1, Nat.le_trans hlo.2 (by decide)⟩, c1.2.2.2.2.2.2.2.2⟩ (c2.h lo)) e
            refine ⟨fun _ => ⟨fun _ => ?_, fun _ => hnum 1 9 9 (by decide) (Or.inr rfl)⟩, fun _ => hnum 1 5 8 (by decide) (Or.inl rfl)⟩
            unfold wp_X5_tellPlan
            exact s_planD (i := 0) d (by omega) (by omega) (h123d y w S' d e)
          · have p4 := pk_eq (A := wp_X5_takeNumber 1 5 S' (fun r25 S26 => ∀ S28 : tq_St, S28 = sI S26 2 8 r25 → wp_X5_tellLine_123 KV S28)) (B := (¬ (nI n : Int32) = 5 → (wp_X5_tellPlan S' (fun S15 => wp_X5_tellLine_123 KV S15))) ∧ ((nI n : Int32) = 5 → (wp_X5_takeNumber 1 9 S' (fun r20 S21 => ∀ S23 : tq_St, S23 = sI S21 2 9 r20 → wp_X5_tellLine_123 KV S23)))) (x := nI n) (y := 4) n 4 (fun q4 => ?_) (fun q4 => ?_)
            · exact ⟨p4.2, p4.1⟩
            · rw [if_pos q4] at a6
              refine s_num (lo := 1) (hi := 5) hl ht htb (by decide) a4 a5 a1 a6 (by decide) (fun y w v S2 hv1 hv d e => nm_e ?_) (fun v x2 S2 hv1 hv b1 b2 b3 b4 b5 b6 => nm_e ?_)
              · obtain ⟨B, c1, c2⟩ := d.2.2.2.2.2.2.2
                exact h123d y w _ (d.dr (Fr.rf.I _ _) (B := uR B v) ⟨c1.1, c1.2.1, c1.2.2.1, c1.2.2.2.1, c1.2.2.2.2.1, c1.2.2.2.2.2.1, ⟨hv1, hv⟩, c1.2.2.2.2.2.2.2⟩ (c2.r v)) e
              · exact h123 (told ||| 2 ^ n) (uR A v) x2 _ (by have := a1.1; omega) b2 htold' (hinv' (by omega)) (b4.dr (Fr.rf.I _ _) ⟨hw.1, hw.2.1, hw.2.2.1, hw.2.2.2.1, hw.2.2.2.2.1, hw.2.2.2.2.2.1, ⟨hv1, hv⟩, hw.2.2.2.2.2.2.2⟩ (b4.2.2.2.2.2.2.2.r v)) (b5.dr (Fr.rf.I _ _)) b6
            · rw [if_neg q4] at a6
              have p5 := pk_eq (A := wp_X5_takeNumber 1 9 S' (fun r20 S21 => ∀ S23 : tq_St, S23 = sI S21 2 9 r20 → wp_X5_tellLine_123 KV S23)) (B := wp_X5_tellPlan S' (fun S15 => wp_X5_tellLine_123 KV S15)) (x := nI n) (y := 5) n 5 (fun q5 => ?_) (fun q5 => ?_)
              · exact ⟨p5.2, p5.1⟩
              · rw [if_pos q5] at a6
                refine s_num (lo := 1) (hi := 9) hl ht htb (by decide) a4 a5 a1 a6 (by decide) (fun y w v S2 hv1 hv d e => nm_e ?_) (fun v x2 S2 hv1 hv b1 b2 b3 b4 b5 b6 => nm_e ?_)
                · obtain ⟨B, c1, c2⟩ := d.2.2.2.2.2.2.2
                  exact h123d y w _ (d.dr (Fr.rf.I _ _) (B := uT B v) ⟨c1.1, c1.2.1, c1.2.2.1, c1.2.2.2.1, c1.2.2.2.2.1, c1.2.2.2.2.2.1, c1.2.2.2.2.2.2.1, ⟨hv1, hv⟩, c1.2.2.2.2.2.2.2.2⟩ (c2.h v)) e
                · exact h123 (told ||| 2 ^ n) (uT A v) x2 _ (by have := a1.1; omega) b2 htold' (hinv' (by omega)) (b4.dr (Fr.rf.I _ _) ⟨hw.1, hw.2.1, hw.2.2.1, hw.2.2.2.1, hw.2.2.2.2.1, hw.2.2.2.2.2.1, hw.2.2.2.2.2.2.1, ⟨hv1, hv⟩, hw.2.2.2.2.2.2.2.2⟩ (b4.2.2.2.2.2.2.2.h v)) (b5.dr (Fr.rf.I _ _)) b6
              · rw [if_neg q5] at a6
                have h6 : n = 6 := by omega
                have hA0 : aC A = 0 := hinv (by rw [← h6]; exact hb)
                unfold wp_X5_tellPlan
                have hgo := s_plan (E := E) (R := R) (KV := fun S15 => wp_X5_tellLine_123 KV S15) (told := told ||| 2 ^ n) hl ht htb (p := x.2.1) h123d (fun B x2 S2 b1 b2 b3 b4 b5 b6 => h123 (told ||| 2 ^ n) B x2 S2 b1 b2 htold' (fun hb6 => absurd hb6 (by rw [h6, Nat.testBit_or, Nat.testBit_two_pow_self]; simp)) b4 b5 b6) 9 2000 S' A x1 (by omega) (by omega) (by omega) a2 a3 a4 a5 a1 a6
                rw [hA0] at hgo
                exact hgo
        · have hb : told.testBit n = true := (zb_1 ht31 (by omega)).mp q
          rw [if_pos hb] at hR
          exact s_fail (y := 4) hc (by decide) (fun S' d => h123d 4 x.1 S' d hR)
      · rw [if_pos z4] at hR
        exact s_one (O := fun B x2 => semC t len x2 E (O told B)) hl ht htb z4 hc hx hok hR h123d (fun v x2 S2 b1 b2 b3 b4 b5 b6 => h123 told (addO A n v) x2 S2 b1 b2 htold (fun hb6 => hinv hb6) b4 b5 b6)
  · rw [if_neg z1] at hR
    refine ⟨fun z => absurd rfl z, fun _ => ?_⟩
    rw [hx.1]
    exact s_fail (y := 2) hc (by decide) (fun S' d => h123d 2 x.1 S' d hR)
/-- behind the text: told (lines, evening), or a fault (number, place) -/
def CY (S0 S : tq_St) (R : (Nat × Nat) ⊕ (Nat × aE)) (r : Int32) : Prop := (∀ o, o ≠ 19 → o ≠ 2 → S.1 o = S0.1 o ∧ S.2.1 o = S0.2.1 o) ∧ S.2.1 19 = S0.2.1 19 ∧ S.1 19 2 = 0 ∧ match R with
  | .inl (y, w) => (0 < y ∧ y ≤ 6) ∧ S.1 19 3 = nI y ∧ r = -10 - nI w
  | .inr (l, A) => S.1 19 3 = 0 ∧ r = nI l ∧ wfE A ∧ RC S 2 A
theorem s_91d {y w : Nat} {v : Int32} (h : CD S0 S len y w) (hK : ∀ r S', CY S0 S' (.inl (y, w)) r → K r S') : wp_X5_tellAll_91 K v S := by
  obtain ⟨h1, h2, h3, h4, h5, h6, h7, -⟩ := h
  unfold wp_X5_tellAll_91
  refine nm_e ?_
  have e3 : (sI S 19 2 0).1 19 3 = nI y := by rw [sI_1, if_neg (by decide)]; exact h6
  have e4 : (sI S 19 2 0).1 19 4 = nI w := by rw [sI_1, if_neg (by decide)]; exact h7
  rw [e3, e4]
  refine ⟨fun _ => hK _ _ ⟨fun o a b => ⟨(sI_1n S a).trans (h1 o a b).1, (h1 o a b).2⟩, h3, by rw [sI_1, if_pos rfl], h5, e3, rfl⟩, fun z => absurd z (nI_ne0 h5.1 (by omega))⟩
theorem s_64 {l : Nat} {R' : (Nat × Nat) ⊕ (Nat × aE)} (hc : CL S0 S len told A) (hR : (if fitB A then Sum.inr (l, A) else Sum.inl (6, len)) = R') (hK : ∀ r S', CY S0 S' R' r → K r S') : wp_X5_tellAll_64 K (nI l) S := by
  obtain ⟨h1, h2, h3, h4, h5, h6, h7, h8⟩ := id hc
  unfold wp_X5_tellAll_64
  refine ⟨fun z => absurd h5 z, fun _ => c_fit h7 h8 (fun hall => ⟨fun _ => ?_, fun z => absurd z (by decide)⟩) (fun hno => ⟨fun z => absurd rfl z, fun _ => ?_⟩)⟩
  · rw [if_pos (by unfold fitB; exact decide_eq_true hall)] at hR
    subst hR
    unfold wp_X5_tellAll_91
    refine nm_e ?_
    have e3 : (sI S 19 2 0).1 19 3 = 0 := by rw [sI_1, if_neg (by decide)]; exact h5
    rw [e3]
    refine ⟨fun z => absurd rfl z, fun _ => hK _ _ ⟨fun o a b => ⟨(sI_1n S a).trans (h1 o a b).1, (h1 o a b).2⟩, h3, by rw [sI_1, if_pos rfl], e3, rfl, h7.e hall, h8.fr ((Fr.rf (o := 19)).I _ _) (by decide)⟩⟩
  · rw [if_neg (by unfold fitB; intro z; have z' := of_decide_eq_true z; exact hno z')] at hR
    subst hR
    rw [h4]
    exact s_fail (y := 6) hc (by decide) (fun S' d => s_91d d hK)
theorem s_33 {R : (Nat × Nat) ⊕ (Nat × aE)} (hl : len ≤ 160) (ht : ∀ i, i < len → S0.2.1 19 0 i = nI (t i)) (htb : ∀ i, t i < 128) (hK : ∀ r S', CY S0 S' R r → K r S') : ∀ (m l f told : Nat) (A : aE) (x : aK3) (S : tq_St), len - x.1 < m → m < f → l ≤ x.1 → told < 128 → (told.testBit 6 = false → aC A = 0) → tkOk t len x → x.2.2 ≠ 4 → CL S0 S len told A → CK S t x → linesC t len m l told A x (fun y w => Sum.inl (y, w)) (fun l A => if fitB A then Sum.inr (l, A) else Sum.inl (6, len)) = R → wp_X5_tellAll_33 K f (nI l) S := by
  intro m
  induction m with
  | zero =>
    intro l f told A x S h1
    omega
  | succ m ih =>
    intro l f told A x S h1 h2 h3 h4 h5 hok hx4 hc hx hR
    obtain ⟨f, rfl⟩ : ∃ k, f = k + 1 + 1 := ⟨f - 2, by omega⟩
    have hk4 := hok.2.2.1
    have hel := hok.2.1
    unfold linesC at hR
    rw [wp_X5_tellAll_33]
    refine ⟨fun z => absurd hc.2.2.2.2.1 z, fun _ => ?_⟩
    rw [hx.2.2.1]
    refine pk_eq x.2.2 0 (fun z => ?_) (fun z => ?_)
    · rw [if_pos z] at hR
      exact s_64 hc hR hK
    · rw [if_neg z] at hR
      have hlt := hok.2.2.2.2.1 z
      refine pk_le 160 l (fun z2 => absurd z2 (by omega)) (fun _ => ?_)
      refine s_line hl ht htb h4 h5 hc hx hok z hR (fun y w S' d e => nm_r (nI_1 l) ?_) (fun told' B x' S' a1 a2 a3 a4 a5 a6 a7 a8 => nm_r (nI_1 l) ?_)
      · rw [wp_X5_tellAll_33]
        refine ⟨fun _ => ?_, fun z => absurd z d.ne⟩
        unfold wp_X5_tellAll_64
        refine ⟨fun _ => s_91d d (fun r S2 y2 => hK r S2 (e ▸ y2)), fun z => absurd z d.ne⟩
      · exact ih (l + 1) (f + 1) told' B x' S' (by omega) (by omega) (by omega) a4 a5 a2 a3 a6 a7 a8
theorem s_all (hG : RQ S G) (hw : wfQ G) (hK : ∀ r S', CY S S' (textR (qT G).2 (qT G).1) r → K r S') : wp_X5_tellAll S K := by
  have hl := hw.2.2.1.1
  have htb := hw.2.2.1.2
  have h2 := hG.2.2.1.1
  have ht := hG.2.2.1.2
  unfold wp_X5_tellAll
  refine c_clear (fun S1 a1 a2 => nm_e (nm_e (nm_e (nm_e ?_))))
  have f := ((((Fr.rf (o := 19) (S := S1)).I 3 0).I 4 0).I 5 0).I 6 0
  have f19 := a2.1 19 (by decide)
  have hc : CL S (sI (sI (sI (sI S1 19 3 0) 19 4 0) 19 5 0) 19 6 0) (qT G).1 0 e0A := by
    refine ⟨fun o b c => ⟨((f.1 o b).1).trans (a2.1 o c).1, ((f.1 o b).2).trans (a2.1 o c).2⟩, a2.2, f19.2, ?_, ?_, ?_, e0_wfD, a1.fr f (by decide)⟩
    · simp only [sI_1, f19.1]; simp [h2]
    · simp [sI_1]
    · simp [sI_1]; rfl
  refine s_tok (p := 0) (R := textR (qT G).2 (qT G).1) (t := (qT G).2) hl ht htb hc (by rw [sI_1, if_pos rfl]; rfl) (Nat.zero_le _) rfl (fun y w S' d e => ?_) (fun x S' b1 b2 b3 b4 b5 b6 => ?_)
  · rw [wp_X5_tellAll_33]
    refine ⟨fun _ => ?_, fun z => absurd z d.ne⟩
    unfold wp_X5_tellAll_64
    refine ⟨fun _ => s_91d d (fun r S2 y2 => hK r S2 (e ▸ y2)), fun z => absurd z d.ne⟩
  · exact s_33 hl ht htb hK 161 0 2000 0 e0A x S' (by omega) (by omega) (Nat.zero_le _) (by omega) (fun _ => rfl) b1 b3 b4 b5 b6
end TXF
end
section
section TXG
variable {S S0 : tq_St} {K : Int32 → tq_St → Prop} {KV : tq_St → Prop} {t : Nat → Nat} {len tz : Nat} {P : (Nat → Int32) × Int32 × Int32} {β : Type} {E : Nat → Nat → β} {R : β}
-- THE REFERENCE READS, exactly
def ZL (P : (Nat → Int32) × Int32 × Int32) (S0 S : tq_St) (len tz : Nat) : Prop := ZB P S0 S len ∧ S.1 28 10 = 0 ∧ S.1 28 5 = nI tz
def ZK (S : tq_St) (t : Nat → Nat) (x : aK3) : Prop := S.1 28 13 = nI x.1 ∧ S.1 28 12 = nI x.2.1 ∧ S.1 28 14 = nI x.2.2 ∧ (x.2.2 = 2 → S.1 28 15 = nI (vAt t x.1 x.2.1))
def ZD (P : (Nat → Int32) × Int32 × Int32) (S0 S : tq_St) (len y w : Nat) : Prop := ZB P S0 S len ∧ (0 < y ∧ y ≤ 6) ∧ S.1 28 10 = nI y ∧ S.1 28 11 = nI w
theorem ZD.ne {y w : Nat} (h : ZD P S0 S len y w) : ¬ S.1 28 10 = 0 := by
  rw [h.2.2.1]
  exact nI_ne0 h.2.1.1 (by have := h.2.1.2; omega)
theorem ZD.nle {y w : Nat} (h : ZD P S0 S len y w) : ¬ S.1 28 10 ≤ 0 := by
  rw [h.2.2.1]
  exact nI_nle h.2.1.1 (by have := h.2.1.2; omega)
theorem ZL.i (h : ZL P S0 S len tz) {k : Nat} (hk : 11 ≤ k ∧ k ≤ 15) (v : Int32) : ZL P S0 (sI S 28 k v) len tz := ⟨h.1.i (Or.inr hk) v, by rw [sI_1, if_neg (by omega)]; exact h.2.1, by rw [sI_1, if_neg (by omega)]; exact h.2.2⟩
theorem r_fails {y w : Nat} (h : ZL P S0 S len tz) (hy : 0 < y ∧ y ≤ 6) (h13 : S.1 28 13 = nI w) (hK : ∀ S', ZD P S0 S' len y w → KV S') : wp_X7_fails (nI y) S KV := by
  unfold wp_X7_fails
  refine ⟨fun z => absurd h.2.1 z, fun _ => nm_e (nm_e (hK _ ⟨(h.1.f hy.2).i (Or.inr (by omega)) _, hy, ?_, ?_⟩))⟩
  · rw [sI_1, if_neg (by decide), sI_1, if_pos rfl]
  · rw [sI_1, if_pos rfl, sI_1, if_neg (by decide)]; exact h13
theorem r_byte {s : Nat} (hl : len ≤ 160) (ht : ∀ i, i < len → S0.2.1 28 7 i = nI (t i)) (h : ZB P S0 S len) (hs : s ≤ len) (h1 : s < len → K (nI (t s)) S) (h0 : s = len → K (-4) S) : wp_X7_byteAt (nI s) S K := by
  unfold wp_X7_byteAt
  rw [h.2.2.2.1]
  refine pk_le len s (fun z => h0 (by omega)) (fun z => ⟨vp_in_nI (by omega) (by decide), ?_⟩)
  rw [nI_clamp (by omega), h.2.2.1 7 (by decide), ht s z]
  exact h1 z
theorem m_inC {c : Nat} {a b : Int64} (lo hi : Nat) (ha : a.toInt = lo) (hb : b.toInt = hi) (hh : hi < 2 ^ 30) (hc : c < 2 ^ 30) (h1 : lo ≤ c → c ≤ hi → K 1 S) (h0 : ¬ (lo ≤ c ∧ c ≤ hi) → K 0 S) : wp_X7_in (nI c).toInt64 a b S K :=
  m_in lo hi ha hb hh (fun v v1 v2 e => by have := (nI_eq (by omega) (by omega)).mp e; subst this; exact h1 v1 v2) (fun hno => h0 (fun z => hno c z.1 z.2 rfl))
theorem m_inX {a b : Int64} (lo hi : Nat) (ha : a.toInt = lo) (hb : b.toInt = hi) (hh : hi < 2 ^ 30) (h0 : K 0 S) : wp_X7_in (-4 : Int32).toInt64 a b S K :=
  m_in lo hi ha hb hh (fun v v1 v2 e => absurd e.symm (oI_ne (by omega))) (fun _ => h0)
theorem sortN_1i (c : Nat) : (sortN c = 1) ↔ (97 ≤ c ∧ c ≤ 122) := by
  unfold sortN
  constructor
  · intro h
    split at h
    · assumption
    · split at h
      · omega
      · split at h <;> omega
  · intro h; rw [if_pos h]
theorem sortN_2i (c : Nat) : (sortN c = 2) ↔ (48 ≤ c ∧ c ≤ 57) := by
  constructor
  · exact sortN_2
  · intro h
    unfold sortN
    rw [if_neg (by omega), if_pos h]
theorem r_84 {h : Nat} (hl : len ≤ 160) (ht : ∀ i, i < len → S0.2.1 28 7 i = nI (t i)) (htb : ∀ i, t i < 128) (hK : ∀ S', ZL P S0 S' len tz → ZK S' t (h, runE (fun i => sortN (t i) == 1) (len - h) h, 1) → KV S') : ∀ (m s f : Nat) (S : tq_St), s + m = len → m < f → runE (fun i => sortN (t i) == 1) m s = runE (fun i => sortN (t i) == 1) (len - h) h → ZL P S0 S len tz → S.1 28 13 = nI h → S.1 28 12 = nI s → wp_X7_step_84 KV f S := by
  have hend : ∀ (s : Nat) (S : tq_St), s = runE (fun i => sortN (t i) == 1) (len - h) h → ZL P S0 S len tz → S.1 28 13 = nI h → S.1 28 12 = nI s → ∀ S58 : tq_St, S58 = sI S 28 14 1 → KV S58 := by
    intro s S es x1 x2 x3
    refine nm_e (hK _ (x1.i (by omega) _) ⟨?_, ?_, ?_, fun z => absurd (show 1 = 2 from z) (by decide)⟩)
    · rw [sI_1, if_neg (by decide)]; exact x2
    · rw [sI_1, if_neg (by decide), ← es]; exact x3
    · rw [sI_1, if_pos rfl]; rfl
  intro m
  induction m with
  | zero =>
    intro s f S h1 h2 hr x1 x2 x3
    obtain ⟨f, rfl⟩ : ∃ k, f = k + 1 := ⟨f - 1, by omega⟩
    unfold wp_X7_step_84
    rw [x3]
    exact r_byte hl ht x1.1 (by omega) (fun z => absurd z (by omega)) (fun _ => m_inX 97 122 (by decide) (by decide) (by decide) ⟨fun _ => hend s S hr x1 x2 x3, fun z => absurd rfl z⟩)
  | succ m ih =>
    intro s f S h1 h2 hr x1 x2 x3
    obtain ⟨f, rfl⟩ : ∃ k, f = k + 1 := ⟨f - 1, by omega⟩
    unfold wp_X7_step_84
    rw [x3]
    refine r_byte hl ht x1.1 (by omega) (fun _ => ?_) (fun z => absurd z (by omega))
    refine m_inC 97 122 (by decide) (by decide) (by decide) (by have := htb s; omega) (fun v1 v2 => ⟨fun z => absurd z (by decide), fun _ => ?_⟩) (fun hno => ⟨fun _ => hend s S ?_ x1 x2 x3, fun z => absurd rfl z⟩)
    · rw [x3, nI_1]
      refine nm_e (ih (s + 1) f _ (by omega) (by omega) ?_ (x1.i (by omega) _) ?_ ?_)
      · rw [← hr]
        conv => rhs; unfold runE
        rw [if_pos (by simp [(sortN_1i (t s)).mpr ⟨v1, v2⟩])]
      · rw [sI_1, if_neg (by decide)]; exact x2
      · rw [sI_1, if_pos rfl]
    · rw [← hr]
      unfold runE
      rw [if_neg (by simp; exact fun e => hno ((sortN_1i (t s)).mp e))]
theorem vAt_stepR {h s : Nat} (hs : h ≤ s) (hs2 : s < h + 2) (hd : 48 ≤ t s ∧ t s ≤ 57) (hdh : 48 ≤ t h ∧ t h ≤ 57) : 10 * nI (vAt t h s) + nI (t s) - 48 = nI (vAt t h (s + 1)) := by
  have e10 : (10 : Int32) = nI 10 := rfl
  have e48 : (48 : Int32) = nI 48 := rfl
  rw [e10, e48, pk_mul, nI_add, pk_sub (by omega)]
  congr 1
  unfold vAt
  rcases (by omega : s = h ∨ s = h + 1) with c | c
  · subst c
    rw [if_pos rfl, if_neg (by omega), if_pos rfl]
    omega
  · subst c
    rw [if_neg (by omega), if_pos rfl, if_neg (by omega), if_neg (by omega)]
    omega
theorem r_140 {h : Nat} (hl : len ≤ 160) (ht : ∀ i, i < len → S0.2.1 28 7 i = nI (t i)) (htb : ∀ i, t i < 128) (hK : ∀ S', runE (fun i => sortN (t i) == 2) (len - h) h ≤ h + 2 → ZL P S0 S' len tz → ZK S' t (h, runE (fun i => sortN (t i) == 2) (len - h) h, 2) → KV S') (hd : ∀ S', h + 2 < runE (fun i => sortN (t i) == 2) (len - h) h → ZD P S0 S' len 1 h → KV S') : ∀ (m s f : Nat) (S : tq_St), s + m = len → m < f → h ≤ s → runE (fun i => sortN (t i) == 2) m s = runE (fun i => sortN (t i) == 2) (len - h) h → (∀ i, h ≤ i → i < s → sortN (t i) = 2) → ZL P S0 S len tz → S.1 28 13 = nI h → S.1 28 12 = nI s → (s ≤ h + 2 → S.1 28 15 = nI (vAt t h s)) → wp_X7_step_140 KV f S := by
  have hend : ∀ (s : Nat) (S : tq_St), h ≤ s → s ≤ len → s = runE (fun i => sortN (t i) == 2) (len - h) h → ZL P S0 S len tz → S.1 28 13 = nI h → S.1 28 12 = nI s → (s ≤ h + 2 → S.1 28 15 = nI (vAt t h s)) → ∀ S37 : tq_St, S37 = sI S 28 14 2 → (((S37.1 28 12) - (S37.1 28 13) : Int32) ≤ 2 → KV S37) ∧ (¬ ((S37.1 28 12) - (S37.1 28 13) : Int32) ≤ 2 → (wp_X7_fails 1 S37 (fun S41 => KV S41))) := by
    intro s S hs hsl es x1 x2 x3 xv
    have z1 := x1.i (k := 14) (by omega) 2
    have z2 : (sI S 28 14 2).1 28 13 = nI h := by rw [sI_1, if_neg (by decide)]; exact x2
    have z3 : (sI S 28 14 2).1 28 12 = nI s := by rw [sI_1, if_neg (by decide)]; exact x3
    refine nm_e ?_
    rw [z2, z3, pk_sub hs]
    refine pk_le (s - h) 2 (fun z => hK _ (by omega) z1 ⟨z2, by rw [← es]; exact z3, by rw [sI_1, if_pos rfl]; rfl, fun _ => by rw [sI_1, if_neg (by decide), ← es]; exact xv (by omega)⟩) (fun z => r_fails (y := 1) z1 (by decide) z2 (fun S' d => hd S' (by omega) d))
  intro m
  induction m with
  | zero =>
    intro s f S h1 h2 hs hr hi x1 x2 x3 xv
    obtain ⟨f, rfl⟩ : ∃ k, f = k + 1 := ⟨f - 1, by omega⟩
    unfold wp_X7_step_140
    rw [x3]
    exact r_byte hl ht x1.1 (by omega) (fun z => absurd z (by omega)) (fun _ => m_inX 48 57 (by decide) (by decide) (by decide) ⟨fun _ => hend s S hs (by omega) hr x1 x2 x3 xv, fun z => absurd rfl z⟩)
  | succ m ih =>
    intro s f S h1 h2 hs hr hi x1 x2 x3 xv
    obtain ⟨f, rfl⟩ : ∃ k, f = k + 1 := ⟨f - 1, by omega⟩
    unfold wp_X7_step_140
    rw [x3]
    refine r_byte hl ht x1.1 (by omega) (fun _ => ?_) (fun z => absurd z (by omega))
    refine m_inC 48 57 (by decide) (by decide) (by decide) (by have := htb s; omega) (fun v1 v2 => ⟨fun z => absurd z (by decide), fun _ => ?_⟩) (fun hno => ⟨fun _ => hend s S hs (by omega) ?_ x1 x2 x3 xv, fun z => absurd rfl z⟩)
    · have hz : sortN (t s) = 2 := (sortN_2i (t s)).mpr ⟨v1, v2⟩
      have h201 : ∀ w : Int32, (s + 1 ≤ h + 2 → w = nI (vAt t h (s + 1))) → wp_X7_step_201 KV (wp_X7_step_140 KV f) w S := by
        intro w hw
        unfold wp_X7_step_201
        refine nm_e ?_
        rw [sI_1, if_neg (by decide), x3, nI_1]
        refine nm_e (ih (s + 1) f _ (by omega) (by omega) (by omega) ?_ (fun i a b => ?_) ((x1.i (by omega) _).i (by omega) _) ?_ ?_ (fun hs2 => ?_))
        · rw [← hr]
          conv => rhs; unfold runE
          rw [if_pos (by simp [hz])]
        · rcases Nat.lt_or_ge i s with c | c
          · exact hi i a c
          · rw [(by omega : i = s)]; exact hz
        · rw [sI_1, if_neg (by decide), sI_1, if_neg (by decide)]; exact x2
        · rw [sI_1, if_pos rfl]
        · rw [sI_1, if_neg (by decide), sI_1, if_pos rfl]; exact hw hs2
      rw [x3, x2, pk_sub hs]
      refine pk_le 2 (s - h) (fun z => h201 _ (fun z2 => absurd z2 (by omega))) (fun z => ?_)
      refine r_byte hl ht x1.1 (by omega) (fun _ => h201 _ (fun _ => ?_)) (fun z => absurd z (by omega))
      have hdh : 48 ≤ t h ∧ t h ≤ 57 := by
        rcases Nat.lt_or_ge h s with c | c
        · exact sortN_2 (hi h (Nat.le_refl _) c)
        · rw [(by omega : h = s)]; exact ⟨v1, v2⟩
      rw [xv (by omega)]
      exact vAt_stepR hs (by omega) ⟨v1, v2⟩ hdh
    · rw [← hr]
      unfold runE
      rw [if_neg (by simp; exact fun e => hno ((sortN_2i (t s)).mp e))]
theorem r_step8 {p : Nat} {O : aK3 → β} (hl : len ≤ 160) (ht : ∀ i, i < len → S0.2.1 28 7 i = nI (t i)) (htb : ∀ i, t i < 128) (hp : p ≤ len) (hR : tkC t len p E O = R) (hd : ∀ y w S', ZD P S0 S' len y w → E y w = R → KV S') (hK : ∀ x S', tkOk t len x → p ≤ x.1 → x.2.2 ≠ 4 → ZL P S0 S' len tz → ZK S' t x → O x = R → KV S') : ∀ (m s f : Nat) (S : tq_St), s + m = len → m < f → runE (fun i => t i == 32) m s = runE (fun i => t i == 32) (len - p) p → ZL P S0 S len tz → S.1 28 12 = nI s → wp_X7_step_8 KV f S := by
  have hfok := tokF_ok t hp
  -- the token at h
  have htok : ∀ h S', h ≤ len → h = runE (fun i => t i == 32) (len - p) p → ZL P S0 S' len tz → S'.1 28 12 = nI h → ∀ S6 : tq_St, S6 = sI S' 28 13 (S'.1 28 12) → (wp_X7_byteAt (S6.1 28 12) S6 (fun r8 S9 => ∀ S11 : tq_St, S11 = sI S9 28 15 0 → (¬ (r8 : Int32) = (-4) → (wp_X7_in ((r8 : Int32).toInt64) 97 122 S11 (fun r14 S15 => ((r14 : Int32) = 0 → (wp_X7_in ((r8 : Int32).toInt64) 48 57 S15 (fun r18 S19 => ((r18 : Int32) = 0 → ∀ S22 : tq_St, S22 = sI S19 28 14 3 → ∀ S24 : tq_St, S24 = sI S22 28 12 ((S22.1 28 12) + 1) → ((r8 : Int32) = 59 → KV S24) ∧ (¬ (r8 : Int32) = 59 → (wp_X7_fails 1 S24 (fun S28 => KV S28)))) ∧ (¬ (r18 : Int32) = 0 → wp_X7_step_140 KV 2000 S19)))) ∧ (¬ (r14 : Int32) = 0 → wp_X7_step_84 KV 2000 S15)))) ∧ ((r8 : Int32) = (-4) → ∀ S62 : tq_St, S62 = sI S11 28 14 0 → KV S62))) := by
    intro h S' hh eh x1 x3
    have eF : tokF t len p = tokA (tokB t len h) := by unfold tokF; rw [← eh]
    have hend : ∀ e k S2, tokB t len h = (h, e, k) → ¬ (k = 2 ∧ h + 2 < e) → k ≠ 4 → ZL P S0 S2 len tz → ZK S2 t (h, e, k) → KV S2 := by
      intro e k S2 eB hn h4 y1 y2
      have et : tokF t len p = (h, e, k) := by rw [eF, eB]; unfold tokA; rw [if_neg hn]
      refine hK (h, e, k) S2 (et ▸ hfok.1) ?_ h4 y1 y2 ?_
      · have := hfok.2; rw [et] at this; exact this
      · rw [← hR]
        unfold tkC
        rw [et, if_neg h4]
    have hdead : ∀ e k S2, tokB t len h = (h, e, k) → ((k = 2 ∧ h + 2 < e) ∨ k = 4) → ZD P S0 S2 len 1 h → KV S2 := by
      intro e k S2 eB hn y1
      have et : (tokF t len p).2.2 = 4 ∧ (tokF t len p).1 = h := by
        rw [eF, eB]
        unfold tokA
        rcases hn with hn | hn
        · rw [if_pos hn]; exact ⟨rfl, rfl⟩
        · rw [if_neg (by intro z; have z1 : k = 2 := z.1; omega)]; exact ⟨hn, rfl⟩
      refine hd 1 h S2 y1 ?_
      rw [← hR]
      unfold tkC
      rw [if_pos et.1, et.2]
    rw [x3]
    refine nm_e ?_
    have z1 := x1.i (k := 13) (by omega) (nI h)
    have z2 : (sI S' 28 13 (nI h)).1 28 12 = nI h := by rw [sI_1, if_neg (by decide)]; exact x3
    have z3 : (sI S' 28 13 (nI h)).1 28 13 = nI h := by rw [sI_1, if_pos rfl]
    revert z1 z2 z3
    generalize sI S' 28 13 (nI h) = T
    intro z1 z2 z3
    rw [z2]
    have w1 := z1.i (k := 15) (by omega) 0
    have w2 : (sI T 28 15 0).1 28 12 = nI h := by rw [sI_1, if_neg (by decide)]; exact z2
    have w3 : (sI T 28 15 0).1 28 13 = nI h := by rw [sI_1, if_neg (by decide)]; exact z3
    have w4 : (sI T 28 15 0).1 28 15 = 0 := by rw [sI_1, if_pos rfl]
    refine r_byte hl ht z1.1 hh (fun hlt => nm_e ?_) (fun heq => nm_e ?_)
    · revert w1 w2 w3 w4
      generalize sI T 28 15 0 = U
      intro w1 w2 w3 w4
      refine ⟨fun _ => ?_, fun z => absurd z (oI_ne (by have := htb h; omega))⟩
      have hsn := sortN_le (t h)
      refine m_inC 97 122 (by decide) (by decide) (by decide) (by have := htb h; omega) (fun v1 v2 => ⟨fun z => absurd z (by decide), fun _ => ?_⟩) (fun hno => ⟨fun _ => ?_, fun z => absurd rfl z⟩)
      · have hs1 : sortN (t h) = 1 := (sortN_1i (t h)).mpr ⟨v1, v2⟩
        have eB : tokB t len h = (h, runE (fun i => sortN (t i) == 1) (len - h) h, 1) := by
          unfold tokB
          rw [if_pos hlt, if_pos (Or.inl hs1), hs1]
        exact r_84 (h := h) hl ht htb (fun S2 y1 y2 => hend _ 1 S2 eB (by intro z; exact absurd z.1 (by decide)) (by decide) y1 y2) (len - h) h 2000 U (by omega) (by omega) rfl w1 w3 w2
      · refine m_inC 48 57 (by decide) (by decide) (by decide) (by have := htb h; omega) (fun v1 v2 => ⟨fun z => absurd z (by decide), fun _ => ?_⟩) (fun hno2 => ⟨fun _ => ?_, fun z => absurd rfl z⟩)
        · have hs2 : sortN (t h) = 2 := (sortN_2i (t h)).mpr ⟨v1, v2⟩
          have eB : tokB t len h = (h, runE (fun i => sortN (t i) == 2) (len - h) h, 2) := by
            unfold tokB
            rw [if_pos hlt, if_pos (Or.inr hs2), hs2]
          exact r_140 (h := h) hl ht htb (fun S2 y0 y1 y2 => hend _ 2 S2 eB (by omega) (by decide) y1 y2) (fun S2 y0 y1 => hdead _ 2 S2 eB (Or.inl ⟨rfl, y0⟩) y1) (len - h) h 2000 U (by omega) (by omega) (Nat.le_refl _) rfl (fun i a b => absurd b (by omega)) w1 w3 w2 (fun _ => by rw [w4]; unfold vAt; rw [if_pos rfl]; rfl)
        · refine nm_e ?_
          have a12 : (sI U 28 14 3).1 28 12 = nI h := by rw [sI_1, if_neg (by decide)]; exact w2
          rw [a12, nI_1]
          refine nm_e ?_
          have b1 := (w1.i (k := 14) (by omega) 3).i (k := 12) (by omega) (nI (h + 1))
          have b13 : (sI (sI U 28 14 3) 28 12 (nI (h + 1))).1 28 13 = nI h := by rw [sI_1, if_neg (by decide), sI_1, if_neg (by decide)]; exact w3
          have b12 : (sI (sI U 28 14 3) 28 12 (nI (h + 1))).1 28 12 = nI (h + 1) := by rw [sI_1, if_pos rfl]
          have b14 : (sI (sI U 28 14 3) 28 12 (nI (h + 1))).1 28 14 = 3 := by rw [sI_1, if_neg (by decide), sI_1, if_pos rfl]
          have hne12 : ¬ (sortN (t h) = 1 ∨ sortN (t h) = 2) := by
            rintro (z | z)
            · exact hno ((sortN_1i (t h)).mp z)
            · exact hno2 ((sortN_2i (t h)).mp z)
          have eB : tokB t len h = (h, h + 1, sortN (t h)) := by
            unfold tokB
            rw [if_pos hlt, if_neg hne12]
          have es : sortN (t h) = if t h = 59 then 3 else 4 := by unfold sortN; rw [if_neg hno, if_neg hno2]
          have htb' := htb h
          refine pk_eq (t h) 59 (fun z => ?_) (fun z => ?_)
          · rw [if_pos z] at es
            refine hend (h + 1) (sortN (t h)) _ eB (by omega) (by omega) b1 ⟨b13, b12, ?_, fun z => absurd (show sortN (t h) = 2 from z) (by omega)⟩
            show _ = nI (sortN (t h))
            rw [es]; exact b14
          · rw [if_neg z] at es
            exact r_fails (y := 1) b1 (by decide) b13 (fun S2 d => hdead (h + 1) (sortN (t h)) S2 eB (Or.inr es) d)
    · refine ⟨fun z => absurd rfl z, fun _ => nm_e ?_⟩
      have eB : tokB t len h = (h, h, 0) := by unfold tokB; rw [if_neg (by omega)]
      refine hend h 0 _ eB (by omega) (by decide) (w1.i (by omega) _) ⟨?_, ?_, ?_, fun z => absurd (show 0 = 2 from z) (by decide)⟩
      · rw [sI_1, if_neg (by decide)]; exact w3
      · rw [sI_1, if_neg (by decide)]; exact w2
      · rw [sI_1, if_pos rfl]; rfl
  intro m
  induction m with
  | zero =>
    intro s f S h1 h2 hr x1 x3
    obtain ⟨f, rfl⟩ : ∃ k, f = k + 1 := ⟨f - 1, by omega⟩
    unfold wp_X7_step_8
    rw [x3]
    exact r_byte hl ht x1.1 (by omega) (fun z => absurd z (by omega)) (fun _ => ⟨fun _ => x3 ▸ htok s S (by omega) hr x1 x3, fun z => absurd z (by decide)⟩)
  | succ m ih =>
    intro s f S h1 h2 hr x1 x3
    obtain ⟨f, rfl⟩ : ∃ k, f = k + 1 := ⟨f - 1, by omega⟩
    unfold wp_X7_step_8
    rw [x3]
    have htb' := htb s
    refine r_byte hl ht x1.1 (by omega) (fun _ => ?_) (fun z => absurd z (by omega))
    have hbl : ∀ z : t s = 32, ∀ S64 : tq_St, S64 = sI S 28 12 (S.1 28 12 + 1) → wp_X7_step_8 KV f S64 := by
      intro z
      rw [x3, nI_1]
      refine nm_e (ih (s + 1) f _ (by omega) (by omega) ?_ (x1.i (by omega) _) (by rw [sI_1, if_pos rfl]))
      rw [← hr]
      conv => rhs; unfold runE
      rw [if_pos (by simp [z])]
    refine ⟨fun z => ?_, fun z => hbl ((nI_eq (by omega) (by decide)).mp (show nI (t s) = nI 32 from z))⟩
    have hne : ¬ t s = 32 := fun c => z (by rw [c]; rfl)
    refine x3 ▸ htok s S (by omega) ?_ x1 x3
    rw [← hr]
    unfold runE
    rw [if_neg (by simp [hne])]
theorem r_step {p : Nat} {O : aK3 → β} (hl : len ≤ 160) (ht : ∀ i, i < len → S0.2.1 28 7 i = nI (t i)) (htb : ∀ i, t i < 128) (hp : p ≤ len) (hc : ZL P S0 S len tz) (h12 : S.1 28 12 = nI p) (hR : tkC t len p E O = R) (hd : ∀ y w S', ZD P S0 S' len y w → E y w = R → KV S') (hK : ∀ x S', tkOk t len x → p ≤ x.1 → x.2.2 ≠ 4 → ZL P S0 S' len tz → ZK S' t x → O x = R → KV S') : wp_X7_step S KV := by
  unfold wp_X7_step
  rw [hc.2.1]
  exact ⟨fun _ => r_step8 hl ht htb hp hR hd hK (len - p) p 2000 S (by omega) (by omega) rfl hc h12, fun z => absurd (by decide) z⟩
theorem r_stepD {y w : Nat} (h : ZD P S0 S len y w) (hK : KV S) : wp_X7_step S KV := by
  unfold wp_X7_step
  exact ⟨fun z => absurd z h.nle, fun _ => hK⟩
end TXG
end
section
section TXH
variable {S S0 : tq_St} {G : aQ} {K : Int32 → tq_St → Prop} {KV : tq_St → Prop} {t : Nat → Nat} {len tz : Nat} {P : (Nat → Int32) × Int32 × Int32} {A : aE} {β : Type} {E : Nat → Nat → β} {R : β}
theorem ZL.a (h : ZL P S0 S len tz) (i : Nat) (v : Int32) : ZL (upd P.1 i v, P.2.1, P.2.2) S0 (sA S 28 3 i v) len tz := ⟨h.1.a i v, h.2.1, h.2.2⟩
theorem ZL.i4 (h : ZL P S0 S len tz) (v : Int32) : ZL (P.1, v, P.2.2) S0 (sI S 28 4 v) len tz := ⟨h.1.i4 v, by rw [sI_1, if_neg (by decide)]; exact h.2.1, by rw [sI_1, if_neg (by decide)]; exact h.2.2⟩
theorem ZL.i6 (h : ZL P S0 S len tz) (v : Int32) : ZL (P.1, P.2.1, v) S0 (sI S 28 6 v) len tz := ⟨h.1.i6 v, by rw [sI_1, if_neg (by decide)]; exact h.2.1, by rw [sI_1, if_neg (by decide)]; exact h.2.2⟩
theorem ZL.tz5 (h : ZL P S0 S len tz) (v : Nat) : ZL P S0 (sI S 28 5 (nI v)) len v := ⟨h.1.i (Or.inl rfl) _, by rw [sI_1, if_neg (by decide)]; exact h.2.1, by rw [sI_1, if_pos rfl]⟩
theorem ZD.a {y w : Nat} (h : ZD P S0 S len y w) (i : Nat) (v : Int32) : ZD (upd P.1 i v, P.2.1, P.2.2) S0 (sA S 28 3 i v) len y w := ⟨h.1.a i v, h.2.1, h.2.2.1, h.2.2.2⟩
theorem ZD.i4 {y w : Nat} (h : ZD P S0 S len y w) (v : Int32) : ZD (P.1, v, P.2.2) S0 (sI S 28 4 v) len y w := ⟨h.1.i4 v, h.2.1, by rw [sI_1, if_neg (by decide)]; exact h.2.2.1, by rw [sI_1, if_neg (by decide)]; exact h.2.2.2⟩
theorem ZD.i5 {y w : Nat} (h : ZD P S0 S len y w) (v : Int32) : ZD P S0 (sI S 28 5 v) len y w := ⟨h.1.i (Or.inl rfl) _, h.2.1, by rw [sI_1, if_neg (by decide)]; exact h.2.2.1, by rw [sI_1, if_neg (by decide)]; exact h.2.2.2⟩
theorem ZD.i6 {y w : Nat} (h : ZD P S0 S len y w) (v : Int32) : ZD (P.1, P.2.1, v) S0 (sI S 28 6 v) len y w := ⟨h.1.i6 v, h.2.1, by rw [sI_1, if_neg (by decide)]; exact h.2.2.1, by rw [sI_1, if_neg (by decide)]; exact h.2.2.2⟩
theorem ZK.a {x : aK3} (h : ZK S t x) (k i : Nat) (v : Int32) : ZK (sA S 28 k i v) t x := h
theorem ZK.i {x : aK3} (h : ZK S t x) {k : Nat} (hk : k = 4 ∨ k = 5 ∨ k = 6) (v : Int32) : ZK (sI S 28 k v) t x := by
  obtain ⟨h1, h2, h3, h4⟩ := h
  exact ⟨by rw [sI_1, if_neg (by omega)]; exact h1, by rw [sI_1, if_neg (by omega)]; exact h2, by rw [sI_1, if_neg (by omega)]; exact h3, fun z => by rw [sI_1, if_neg (by omega)]; exact h4 z⟩
theorem r_num {lo hi : Nat} {x : aK3} {O : Nat → aK3 → β} (hl : len ≤ 160) (ht : ∀ i, i < len → S0.2.1 28 7 i = nI (t i)) (htb : ∀ i, t i < 128) (hhi : hi ≤ 100) (hlh : lo ≤ hi) (hc : ZL P S0 S len tz) (hx : ZK S t x) (hok : tkOk t len x) (hR : numC t len lo hi x E O = R) (hd : ∀ y w v S', lo ≤ v → v ≤ hi → ZD P S0 S' len y w → E y w = R → K (nI v) S') (hK : ∀ v x' S', lo ≤ v → v ≤ hi → x.2.1 ≤ x'.1 → tkOk t len x' → x'.2.2 ≠ 4 → ZL P S0 S' len tz → ZK S' t x' → O v x' = R → K (nI v) S') : wp_X7_number (nI lo) (nI hi) S K := by
  obtain ⟨x13, x12, x14, x15⟩ := hx
  have hk4 := hok.2.2.1
  unfold numC at hR
  have h47d : ∀ y w S', ZD P S0 S' len y w → E y w = R → wp_X7_number_47 K (nI lo) S' := by
    intro y w S' d e
    refine ⟨fun _ => ?_, fun z => absurd z d.ne⟩
    exact r_stepD d (hd y w lo S' (Nat.le_refl _) hlh d e)
  unfold wp_X7_number
  refine ⟨fun z => absurd hc.2.1 z, fun _ => ?_⟩
  rw [x14]
  refine pk_eq x.2.2 2 (fun z => ?_) (fun z => ?_)
  · rw [if_pos z] at hR
    have hv := vAt_le hok z
    unfold wp_X7_number_20
    refine ⟨fun z => absurd hc.2.1 z, fun _ => ?_⟩
    rw [x15 z]
    refine m_inC lo hi (by rw [Int32.toInt_toInt64, nI_toInt (by omega)]) (by rw [Int32.toInt_toInt64, nI_toInt (by omega)]) (by omega) (by omega) (fun v1 v2 => ⟨fun _ => ?_, fun z => absurd z (by decide)⟩) (fun hno => ⟨fun z => absurd rfl z, fun _ => ?_⟩)
    · rw [if_pos ⟨v1, v2⟩] at hR
      unfold wp_X7_number_47
      refine ⟨fun z => absurd hc.2.1 z, fun _ => ?_⟩
      rw [x15 z]
      exact r_step hl ht htb hok.2.1 hc x12 hR (fun y w S' d e => hd y w _ S' v1 v2 d e) (fun x' S' a1 a2 a3 a4 a5 a6 => hK _ x' S' v1 v2 a2 a1 a3 a4 a5 a6)
    · rw [if_neg hno] at hR
      exact r_fails (y := 3) hc (by decide) x13 (fun S' d => h47d 3 x.1 S' d hR)
  · rw [if_neg z] at hR
    refine r_fails (y := 2) hc (by decide) x13 (fun S' d => ?_)
    unfold wp_X7_number_20
    exact ⟨fun _ => h47d 2 x.1 S' d hR, fun z => absurd z d.ne⟩
end TXH
end
section
section TXI
variable {S S0 : tq_St} {G : aQ} {K : Int32 → tq_St → Prop} {KV : tq_St → Prop} {t : Nat → Nat} {len tz : Nat} {P : (Nat → Int32) × Int32 × Int32} {A : aE} {β : Type} {E : Nat → Nat → β} {R : β}
theorem r_65 {rec0 : tq_St → Prop} {v : Nat} {w : Int32} (x2 : RD P A) (hc8 : aC A < 8) (hS3 : S.2.1 28 3 = P.1) (hK : rec0 (sA (sA (sI S 28 6 w) 28 3 (19 + aC A) (nI v)) 28 3 27 (nI (aC A + 1)))) : wp_X7_readPlan_65 KV rec0 (nI v) w S := by
  unfold wp_X7_readPlan_65
  refine nm_e ⟨vp_in_nI (n := 27) (by decide) (by decide), ?_⟩
  have e27' : (sI S 28 6 w).2.1 28 3 (27 : Int32).toNatClampNeg = nI (aC A) := by
    show S.2.1 28 3 27 = _
    rw [hS3]; exact x2.2.2.2.2.2.2.2.2.1
  have e19 : (19 : Int32) + nI (aC A) = nI (19 + aC A) := nI_add 19 (aC A)
  rw [e27', e19]
  refine ⟨vp_in_nI (by omega) (by decide), nm_e ⟨vp_in_nI (n := 27) (by decide) (by decide), vp_in_nI (n := 27) (by decide) (by decide), ?_⟩⟩
  rw [nI_clamp (by omega)]
  have e27'' : (sA (sI S 28 6 w) 28 3 (19 + aC A) (nI v)).2.1 28 3 (27 : Int32).toNatClampNeg = nI (aC A) := by
    show (sA (sI S 28 6 w) 28 3 (19 + aC A) (nI v)).2.1 28 3 27 = _
    rw [sA_at, if_neg (by omega)]
    exact e27'
  rw [e27'', nI_1]
  exact nm_e hK
/-- an act is written on the page that is read -/
theorem r_act {rec0 : tq_St → Prop} {v : Nat} (hv : v ≤ 6) (x2 : RD P A) (x3 : wfD A) (hc8 : aC A < 8) (hS3 : S.2.1 28 3 = P.1) (hS6 : S.1 28 6 = P.2.2) (hK : ∀ w, RD (upd (upd P.1 (19 + aC A) (nI v)) 27 (nI (aC A + 1)), P.2.1, w) (planA A v) → rec0 (sA (sA (sI S 28 6 w) 28 3 (19 + aC A) (nI v)) 28 3 27 (nI (aC A + 1)))) : ((5 : Int32) ≤ nI v → wp_X7_readPlan_61 KV rec0 (nI v) S) ∧ (¬ (5 : Int32) ≤ nI v → (nI v ≤ (S.1 28 6) → wp_X7_readPlan_61 KV rec0 (nI v) S) ∧ (¬ nI v ≤ (S.1 28 6) → wp_X7_readPlan_65 KV rec0 (nI v) (nI v) S)) := by
  obtain ⟨g, g1, g2, g3⟩ := x2.2.2.2.2.2.2.2.2.2.2.2
  have e6 : S.1 28 6 = nI g - 1 := by rw [hS6]; exact g2
  have h61 : (5 ≤ v ∨ v < g) → wp_X7_readPlan_61 KV rec0 (nI v) S := fun hg => r_65 x2 hc8 hS3 (hK _ (x2.plan x3 hc8 g1 e6 g3.1 (fun z => by omega) (g3.2.imp id Or.inl)))
  refine pk_le 5 v (fun z => h61 (Or.inl z)) (fun z => ?_)
  rw [e6]
  refine ⟨fun q => h61 (Or.inr ((le_high (by omega) (by omega)).mp q)), fun q => ?_⟩
  have q' : ¬ v < g := fun c => q ((le_high (by omega) (by omega)).mpr c)
  exact r_65 x2 hc8 hS3 (hK _ (x2.plan x3 hc8 (g := v + 1) (by omega) (nI_pred v).symm (fun i hi h5 => by have := g3.1 i hi h5; omega) (fun _ => by omega) (Or.inr (Or.inr rfl))))
theorem r_planD {y w f : Nat} (h : ZD P S0 S len y w) (hf : 0 < f) (hK : KV S) : wp_X7_readPlan_0 KV f S := by
  obtain ⟨f, rfl⟩ : ∃ k, f = k + 1 := ⟨f - 1, by omega⟩
  rw [wp_X7_readPlan_0]
  exact ⟨fun _ => hK, fun z => absurd z h.ne⟩
theorem r_plan {O : aE → aK3 → β} {p : Nat} (hl : len ≤ 160) (ht : ∀ i, i < len → S0.2.1 28 7 i = nI (t i)) (htb : ∀ i, t i < 128) (hd : ∀ y w P' B S', ZD P' S0 S' len y w → RD P' B → wfD B → E y w = R → KV S') (hK : ∀ P' B x' S', p ≤ x'.1 → tkOk t len x' → x'.2.2 ≠ 4 → ZL P' S0 S' len tz → ZK S' t x' → RD P' B → wfD B → O B x' = R → KV S') : ∀ (m f : Nat) (S : tq_St) (P : (Nat → Int32) × Int32 × Int32) (A : aE) (x : aK3), aC A + m = 9 → 0 < m → m < f → p ≤ x.1 → x.2.2 ≠ 4 → ZL P S0 S len tz → ZK S t x → tkOk t len x → RD P A → wfD A → planC t len m A x E O = R → wp_X7_readPlan_0 KV f S := by
  intro m
  induction m with
  | zero =>
    intro f S P A x h1 h0
    omega
  | succ m ih =>
    intro f S P A x h1 h0 h2 hp hx4 hc hx hok x2 x3 hR
    obtain ⟨f, rfl⟩ : ∃ k, f = k + 1 := ⟨f - 1, by omega⟩
    have hk4 := hok.2.2.1
    have hC := x3.2.2.2.2.2.2.2.2.1
    have e27 : S.2.1 28 3 (27 : Int32).toNatClampNeg = nI (aC A) := by
      show S.2.1 28 3 27 = _
      rw [hc.1.2.2.2.2.2.1]; exact x2.2.2.2.2.2.2.2.2.1
    unfold planC at hR
    rw [wp_X7_readPlan_0]
    refine ⟨fun z => absurd hc.2.1 z, fun _ => ?_⟩
    rw [hx.2.2.1, e27]
    have p2 := pk_eq (A := vp_in 27 28 ∧ (¬ (nI (aC A) : Int32) = 8 → (wp_X7_number 0 6 S (fun r4 S5 => ((5 : Int32) ≤ r4 → wp_X7_readPlan_61 KV (wp_X7_readPlan_0 KV f) r4 S5) ∧ (¬ (5 : Int32) ≤ r4 → ((r4 : Int32) ≤ (S5.1 28 6) → wp_X7_readPlan_61 KV (wp_X7_readPlan_0 KV f) r4 S5) ∧ (¬ (r4 : Int32) ≤ (S5.1 28 6) → wp_X7_readPlan_65 KV (wp_X7_readPlan_0 KV f) r4 r4 S5))))) ∧ ((nI (aC A) : Int32) = 8 → (wp_X7_fails 5 S (fun S16 => wp_X7_readPlan_0 KV f S16)))) (B := KV S) (x := nI x.2.2) (y := 2) x.2.2 2 (fun z => ?_) (fun z => ?_)
    · exact ⟨p2.2, p2.1⟩
    · rw [if_pos z] at hR
      refine ⟨vp_in_nI (n := 27) (by decide) (by decide), ?_⟩
      have p8 := pk_eq (A := wp_X7_fails 5 S (fun S16 => wp_X7_readPlan_0 KV f S16)) (B := wp_X7_number 0 6 S (fun r4 S5 => ((5 : Int32) ≤ r4 → wp_X7_readPlan_61 KV (wp_X7_readPlan_0 KV f) r4 S5) ∧ (¬ (5 : Int32) ≤ r4 → ((r4 : Int32) ≤ (S5.1 28 6) → wp_X7_readPlan_61 KV (wp_X7_readPlan_0 KV f) r4 S5) ∧ (¬ (r4 : Int32) ≤ (S5.1 28 6) → wp_X7_readPlan_65 KV (wp_X7_readPlan_0 KV f) r4 r4 S5)))) (x := nI (aC A)) (y := 8) (aC A) 8 (fun z8 => ?_) (fun z8 => ?_)
      · exact ⟨p8.2, p8.1⟩
      · rw [if_pos z8] at hR
        exact r_fails (y := 5) hc (by decide) hx.1 (fun S' d => r_planD d (by omega) (hd 5 x.1 P A S' d x2 x3 hR))
      · rw [if_neg z8] at hR
        refine r_num (lo := 0) (hi := 6) hl ht htb (by decide) (by decide) hc hx hok hR (fun y w v S2 _ hv d e => ?_) (fun v x' S2 _ hv b1 b2 b3 b4 b5 b6 => ?_)
        · refine r_act hv x2 x3 (by omega) d.1.2.2.2.2.2.1 d.1.2.2.2.2.2.2.2 (fun w' hRD => ?_)
          have d' := ((d.i6 w').a (19 + aC A) (nI v)).a 27 (nI (aC A + 1))
          exact r_planD d' (by omega) (hd y w _ (planA A v) _ d' hRD (plan_wfD x3 (by omega) hv) e)
        · refine r_act hv x2 x3 (by omega) b4.1.2.2.2.2.2.1 b4.1.2.2.2.2.2.2.2 (fun w' hRD => ?_)
          have c' := ((b4.i6 w').a (19 + aC A) (nI v)).a 27 (nI (aC A + 1))
          exact ih f _ _ (planA A v) x' (by show aC A + 1 + m = 9; omega) (by omega) (by omega) (by have := hok.1; omega) b3 c' (((b5.i (k := 6) (by omega) w').a 3 _ _).a 3 _ _) b2 hRD (plan_wfD x3 (by omega) hv) b6
    · rw [if_neg z] at hR
      exact hK P A x S hp hok hx4 hc hx x2 x3 hR
end TXI
end
section
section TXJ
variable {S S0 : tq_St} {G : aQ} {K : Int32 → tq_St → Prop} {KV : tq_St → Prop} {t : Nat → Nat} {len tz told : Nat} {P : (Nat → Int32) × Int32 × Int32} {A : aE} {β : Type} {E : Nat → Nat → β} {R : β}
theorem r_more {n : Nat} {x : aK3} {O : aE → aK3 → β} (hl : len ≤ 160) (ht : ∀ i, i < len → S0.2.1 28 7 i = nI (t i)) (htb : ∀ i, t i < 128) (hn : n ≤ 6) (h5 : n ≤ 3 → aN A < 5) (h6 : n = 6 → aC A = 0) (hc : ZL P S0 S len tz) (hx : ZK S t x) (hok : tkOk t len x) (hx4 : x.2.2 ≠ 4) (x2 : RD P A) (x3 : wfD A) (hR : (if n < 4 then (if x.2.2 = 2 then numC t len 0 40 x E (fun v x2 => O (addO A n v) x2) else O (addO A n 0) x) else if n = 4 then numC t len 1 5 x E (fun v x2 => O (uR A v) x2) else if n = 5 then numC t len 1 9 x E (fun v x2 => O (uT A v) x2) else planC t len 9 A x E O) = R) (hd : ∀ y w P' B S', ZD P' S0 S' len y w → RD P' B → wfD B → E y w = R → KV S') (hK : ∀ P' B x' S', x.1 ≤ x'.1 → tkOk t len x' → x'.2.2 ≠ 4 → ZL P' S0 S' len tz → ZK S' t x' → RD P' B → wfD B → (n = 6 ∨ aC B = aC A) → O B x' = R → KV S') : wp_X7_readMore (nI n) S KV := by
  unfold wp_X7_readMore
  refine pk_lt 3 n (fun z => ?_) (fun z => ?_)
  · rw [if_neg (by omega)] at hR
    have p4 := pk_eq (A := wp_X7_number 1 5 S (fun r12 S13 => vp_in 17 28 ∧ ∀ S15 : tq_St, S15 = sA S13 28 3 (17 : Int32).toNatClampNeg (r12 - 2) → KV S15)) (B := (¬ (nI n : Int32) = 5 → (wp_X7_readPlan S (fun S5 => KV S5))) ∧ ((nI n : Int32) = 5 → (wp_X7_number 1 9 S (fun r7 S8 => vp_in 18 28 ∧ ∀ S10 : tq_St, S10 = sA S8 28 3 (18 : Int32).toNatClampNeg (r7 - 4) → KV S10)))) (x := nI n) (y := 4) n 4 (fun z4 => ?_) (fun z4 => ?_)
    · exact ⟨p4.2, p4.1⟩
    · rw [if_pos z4] at hR
      have hput : ∀ v, RD (upd P.1 17 (nI v - 2), P.2.1, P.2.2) (uR A v) := fun v => x2.put x3 (r := v) (t := aT A) (fun j a c => pk_un a) (pk_us (f := P.1) (x := nI v - 2) (k := 17)) ((pk_un (f := P.1) (x := nI v - 2) (k := 17) (j := 18) (by decide)).trans x2.2.2.2.2.2.2.2.1) rfl
      have hwf : ∀ v, 1 ≤ v → v ≤ 5 → wfD (uR A v) := fun v a b => ⟨x3.1, x3.2.1, x3.2.2.1, x3.2.2.2.1, x3.2.2.2.2.1, x3.2.2.2.2.2.1, ⟨a, b⟩, x3.2.2.2.2.2.2.2⟩
      refine r_num (lo := 1) (hi := 5) hl ht htb (by decide) (by decide) hc hx hok hR (fun y w v S2 hv1 hv d e => ⟨vp_in_nI (n := 17) (by decide) (by decide), nm_e ?_⟩) (fun v x' S2 hv1 hv b1 b2 b3 b4 b5 b6 => ⟨vp_in_nI (n := 17) (by decide) (by decide), nm_e ?_⟩)
      · exact hd y w _ (uR A v) _ (d.a 17 (nI v - 2)) (hput v) (hwf v hv1 hv) e
      · exact hK _ (uR A v) x' _ (by have := hok.1; omega) b2 b3 (b4.a 17 (nI v - 2)) (b5.a 3 17 _) (hput v) (hwf v hv1 hv) (Or.inr rfl) b6
    · rw [if_neg z4] at hR
      have p5 := pk_eq (A := wp_X7_number 1 9 S (fun r7 S8 => vp_in 18 28 ∧ ∀ S10 : tq_St, S10 = sA S8 28 3 (18 : Int32).toNatClampNeg (r7 - 4) → KV S10)) (B := wp_X7_readPlan S (fun S5 => KV S5)) (x := nI n) (y := 5) n 5 (fun z5 => ?_) (fun z5 => ?_)
      · exact ⟨p5.2, p5.1⟩
      · rw [if_pos z5] at hR
        have hput : ∀ v, RD (upd P.1 18 (nI v - 4), P.2.1, P.2.2) (uT A v) := fun v => x2.put x3 (r := aR A) (t := v) (fun j a c => pk_un c) ((pk_un (f := P.1) (x := nI v - 4) (k := 18) (j := 17) (by decide)).trans x2.2.2.2.2.2.2.1) (pk_us (f := P.1) (x := nI v - 4) (k := 18)) rfl
        have hwf : ∀ v, 1 ≤ v → v ≤ 9 → wfD (uT A v) := fun v a b => ⟨x3.1, x3.2.1, x3.2.2.1, x3.2.2.2.1, x3.2.2.2.2.1, x3.2.2.2.2.2.1, x3.2.2.2.2.2.2.1, ⟨a, b⟩, x3.2.2.2.2.2.2.2.2⟩
        refine r_num (lo := 1) (hi := 9) hl ht htb (by decide) (by decide) hc hx hok hR (fun y w v S2 hv1 hv d e => ⟨vp_in_nI (n := 18) (by decide) (by decide), nm_e ?_⟩) (fun v x' S2 hv1 hv b1 b2 b3 b4 b5 b6 => ⟨vp_in_nI (n := 18) (by decide) (by decide), nm_e ?_⟩)
        · exact hd y w _ (uT A v) _ (d.a 18 (nI v - 4)) (hput v) (hwf v hv1 hv) e
        · exact hK _ (uT A v) x' _ (by have := hok.1; omega) b2 b3 (b4.a 18 (nI v - 4)) (b5.a 3 18 _) (hput v) (hwf v hv1 hv) (Or.inr rfl) b6
      · rw [if_neg z5] at hR
        unfold wp_X7_readPlan
        exact r_plan (p := x.1) hl ht htb hd (fun P' B x' S' a1 a2 a3 a4 a5 a6 a7 a8 => hK P' B x' S' a1 a2 a3 a4 a5 a6 a7 (Or.inl (by omega)) a8) 9 2000 S P A x (by have := h6 (by omega); omega) (by omega) (by omega) (Nat.le_refl _) hx4 hc hx hok x2 x3 hR
  · rw [if_pos (by omega)] at hR
    have hN := h5 z
    have e4 : S.1 28 4 = nI (aN A) := by rw [hc.1.2.2.2.2.2.2.1]; exact x2.1
    rw [e4, nI_clamp (by omega)]
    refine ⟨vp_in_nI (by omega) (by decide), nm_e ?_⟩
    have y2 := hc.a (aN A) (nI n)
    have e4' : (sA S 28 3 (aN A) (nI n)).1 28 4 = nI (aN A) := e4
    have e14 : (sA S 28 3 (aN A) (nI n)).1 28 14 = nI x.2.2 := hx.2.2.1
    rw [e4', e14]
    have h41 : ∀ (P2 : (Nat → Int32) × Int32 × Int32) (x' : aK3) (S2 : tq_St) (s : Nat), s ≤ 40 → x.1 ≤ x'.1 → tkOk t len x' → x'.2.2 ≠ 4 → ZL P2 S0 S2 len tz → ZK S2 t x' → P2.1 (aN A) = nI n → P2.1 (5 + aN A) = nI s → (∀ j, j ≠ aN A → j ≠ 5 + aN A → P2.1 j = P.1 j) → P2.2 = P.2 → O (addO A n s) x' = R → wp_X7_readMore_41 KV S2 := by
      intro P2 x' S2 s hs a1 a2 a3 q1 q1' q2 q3 q4 q5 q6
      unfold wp_X7_readMore_41
      have e42 : S2.1 28 4 = nI (aN A) := by rw [q1.1.2.2.2.2.2.2.1, q5]; exact x2.1
      rw [e42, nI_1]
      exact nm_e (hK _ (addO A n s) x' _ a1 a2 a3 (q1.i4 (nI (aN A + 1))) (q1'.i (Or.inl rfl) _) (x2.one x3 hN q2 q3 q4 rfl (by show P2.2.2 = _; rw [q5])) (addO_wf x3 hN (by omega) hs) (Or.inr rfl) q6)
    have h41d : ∀ (y w : Nat) (P2 : (Nat → Int32) × Int32 × Int32) (S2 : tq_St) (s : Nat), s ≤ 40 → ZD P2 S0 S2 len y w → P2.1 (aN A) = nI n → P2.1 (5 + aN A) = nI s → (∀ j, j ≠ aN A → j ≠ 5 + aN A → P2.1 j = P.1 j) → P2.2 = P.2 → E y w = R → wp_X7_readMore_41 KV S2 := by
      intro y w P2 S2 s hs q1 q2 q3 q4 q5 q6
      unfold wp_X7_readMore_41
      have e42 : S2.1 28 4 = nI (aN A) := by rw [q1.1.2.2.2.2.2.2.1, q5]; exact x2.1
      rw [e42, nI_1]
      exact nm_e (hd y w _ (addO A n s) _ (q1.i4 (nI (aN A + 1))) (x2.one x3 hN q2 q3 q4 rfl (by show P2.2.2 = _; rw [q5])) (addO_wf x3 hN (by omega) hs) q6)
    have hk4 := hok.2.2.1
    have p2 := pk_eq (A := wp_X7_number 0 40 (sA S 28 3 (aN A) (nI n)) (fun r22 S23 => vp_in (5 + nI (aN A)) 28 ∧ ∀ S25 : tq_St, S25 = sA S23 28 3 (5 + nI (aN A) : Int32).toNatClampNeg r22 → wp_X7_readMore_41 KV S25)) (B := wp_X7_readMore_41 KV (sA S 28 3 (aN A) (nI n))) (x := nI x.2.2) (y := 2) x.2.2 2 (fun z2 => ?_) (fun z2 => ?_)
    · exact ⟨p2.2, p2.1⟩
    · rw [if_pos z2] at hR
      have e5 : (5 : Int32) + nI (aN A) = nI (5 + aN A) := nI_add 5 (aN A)
      rw [e5, nI_clamp (by omega)]
      refine r_num (lo := 0) (hi := 40) hl ht htb (by decide) (by decide) y2 (hx.a 3 _ _) hok hR (fun y w v S2 _ hv d e => ⟨vp_in_nI (by omega) (by decide), nm_e ?_⟩) (fun v x' S2 _ hv b1 b2 b3 b4 b5 b6 => ⟨vp_in_nI (by omega) (by decide), nm_e ?_⟩)
      · exact h41d y w _ _ v hv (d.a (5 + aN A) (nI v)) ((pk_un (by omega)).trans pk_us) pk_us (fun j a c => (pk_un c).trans (pk_un a)) rfl e
      · exact h41 _ x' _ v hv (by have := hok.1; omega) b2 b3 (b4.a (5 + aN A) (nI v)) (b5.a 3 _ _) ((pk_un (by omega)).trans pk_us) pk_us (fun j a c => (pk_un c).trans (pk_un a)) rfl b6
    · rw [if_neg z2] at hR
      exact h41 _ x _ 0 (by omega) (Nat.le_refl _) hok hx4 y2 (hx.a 3 _ _) pk_us ((pk_un (by omega)).trans (x2.2.2.2.1 (aN A) (Nat.le_refl _) hN)) (fun j a _ => pk_un a) rfl hR
-- names
theorem r_nm51 {n : Nat} {x : aK3} {Rc : Int32 → tq_St → Prop} (hl : len ≤ 160) (ht : ∀ i, i < len → S0.2.1 28 7 i = nI (t i)) (htb : ∀ i, t i < 128) (hcut : ∀ i, i < 8 → S0.2.1 28 16 i = nI (tq_cuts.getD i 0)) (hlet : ∀ i, i < 29 → S0.2.1 28 17 i = nI (tq_lets.getD i 0)) (hc : ZB P S0 S len) (hn : n < 7) (h13 : S.1 28 13 = nI x.1) (h12 : S.1 28 12 = nI x.2.1) (hok : tkOk t len x) (h1 : nameB t x.1 x.2.1 n = true → K (nI n) S) (h0 : nameB t x.1 x.2.1 n = false → Rc (nI (n + 1)) S) : ∀ (m k f : Nat) (v : Int32), k + m = x.2.1 - x.1 → m < f → ((v = 0 ∧ nameB t x.1 x.2.1 n = false) ∨ (v = 1 ∧ x.2.1 - x.1 = tq_cuts.getD (n + 1) 0 - tq_cuts.getD n 0 ∧ ∀ j, j < k → t (x.1 + j) = tq_lets.getD (tq_cuts.getD n 0 + j) 0)) → wp_X7_nameHere_51 K Rc f (nI n) v (nI k) S := by
  have hcn := cut_le n hn
  have hhe := hok.1
  have hel := hok.2.1
  have h106a : nameB t x.1 x.2.1 n = false → wp_X7_nameHere_106 K Rc (nI n) 0 S := fun hb => ⟨fun _ => nm_r (nI_1 n) (h0 hb), fun z => absurd rfl z⟩
  have h106b : nameB t x.1 x.2.1 n = true → wp_X7_nameHere_106 K Rc (nI n) 1 S := fun hb => ⟨fun z => absurd z (by decide), fun _ => h1 hb⟩
  intro m
  induction m with
  | zero =>
    intro k f v z1 z2 z3
    obtain ⟨f, rfl⟩ : ∃ k, f = k + 1 := ⟨f - 1, by omega⟩
    unfold wp_X7_nameHere_51
    rw [h13, h12, pk_sub hhe]
    rcases z3 with ⟨ev, hb⟩ | ⟨ev, e1, e2⟩
    · subst ev
      exact ⟨fun _ => h106a hb, fun z => absurd rfl z⟩
    · subst ev
      refine ⟨fun z => absurd z (by decide), fun _ => pk_le (x.2.1 - x.1) k (fun _ => h106b ?_) (fun z => absurd z (by omega))⟩
      unfold nameB
      simp only [Bool.and_eq_true, decide_eq_true_eq, List.all_eq_true, List.mem_range, beq_iff_eq]
      exact ⟨e1, fun j hj => e2 j (by omega)⟩
  | succ m ih =>
    intro k f v z1 z2 z3
    obtain ⟨f, rfl⟩ : ∃ k, f = k + 1 := ⟨f - 1, by omega⟩
    unfold wp_X7_nameHere_51
    rw [h13, h12, pk_sub hhe]
    rcases z3 with ⟨ev, hb⟩ | ⟨ev, e1, e2⟩
    · subst ev
      exact ⟨fun _ => h106a hb, fun z => absurd rfl z⟩
    · subst ev
      refine ⟨fun z => absurd z (by decide), fun _ => pk_le (x.2.1 - x.1) k (fun z => absurd z (by omega)) (fun hk => ?_)⟩
      rw [nI_add]
      refine r_byte hl ht hc (by omega) (fun _ => ?_) (fun z => absurd z (by omega))
      rw [nI_clamp (by omega), hc.2.2.1 16 (by decide), hcut n (by omega), nI_add, nI_clamp (by omega), hc.2.2.1 17 (by decide), hlet _ (by omega)]
      have b1 := htb (x.1 + k)
      have b2 := nm_lets (tq_cuts.getD n 0 + k) (by omega)
      refine ⟨vp_in_nI (by omega) (by decide), vp_in_nI (by omega) (by decide), ?_⟩
      have p := pk_eq (A := ∀ x15 : Int32, x15 = nI k + 1 → wp_X7_nameHere_51 K Rc f (nI n) 1 x15 S) (B := ∀ x13 : Int32, x13 = nI k + 1 → wp_X7_nameHere_51 K Rc f (nI n) 0 x13 S) (x := nI (t (x.1 + k))) (y := nI (tq_lets.getD (tq_cuts.getD n 0 + k) 0)) (t (x.1 + k)) (tq_lets.getD (tq_cuts.getD n 0 + k) 0) (fun z => nm_r (nI_1 k) (ih (k + 1) f 1 (by omega) (by omega) (Or.inr ⟨rfl, e1, fun j hj => ?_⟩))) (fun z => nm_r (nI_1 k) (ih (k + 1) f 0 (by omega) (by omega) (Or.inl ⟨rfl, ?_⟩)))
      · exact ⟨p.2, p.1⟩
      · rcases Nat.lt_or_ge j k with c | c
        · exact e2 j c
        · rw [(by omega : j = k)]; exact z
      · unfold nameB
        rw [Bool.and_eq_false_iff]
        refine Or.inr ?_
        rw [List.all_eq_false]
        exact ⟨k, List.mem_range.mpr (by omega), by simpa using z⟩
theorem r_name {x : aK3} (hl : len ≤ 160) (ht : ∀ i, i < len → S0.2.1 28 7 i = nI (t i)) (htb : ∀ i, t i < 128) (hcut : ∀ i, i < 8 → S0.2.1 28 16 i = nI (tq_cuts.getD i 0)) (hlet : ∀ i, i < 29 → S0.2.1 28 17 i = nI (tq_lets.getD i 0)) (hc : ZB P S0 S len) (hx : ZK S t x) (hok : tkOk t len x) (h1 : x.2.2 = 1 → nmF t x.1 x.2.1 < 7 → K (nI (nmF t x.1 x.2.1)) S) (h0 : (x.2.2 = 1 → nmF t x.1 x.2.1 = 7) → K (-4) S) : wp_X7_nameHere S K := by
  have hk4 := hok.2.2.1
  have hhe := hok.1
  have hel := hok.2.1
  have hle := nmF_le (t := t) (h := x.1) (e := x.2.1)
  have hloop : ∀ (m n f : Nat), n + m = 7 → m < f → (∀ j, j < n → nameB t x.1 x.2.1 j = false) → wp_X7_nameHere_2 K f (nI n) S := by
    intro m
    induction m with
    | zero =>
      intro n f g1 g2 g3
      obtain ⟨f, rfl⟩ : ∃ k, f = k + 1 := ⟨f - 1, by omega⟩
      unfold wp_X7_nameHere_2
      refine pk_le 7 n (fun _ => h0 (fun _ => ?_)) (fun z => absurd z (by omega))
      rcases Nat.lt_or_ge (nmF t x.1 x.2.1) 7 with c | c
      · have := fa_first_yes (nameB t x.1 x.2.1) 7 c
        rw [g3 (fa_first (nameB t x.1 x.2.1) 7) (by show nmF t x.1 x.2.1 < n; omega)] at this
        exact absurd this (by decide)
      · omega
    | succ m ih =>
      intro n f g1 g2 g3
      obtain ⟨f, rfl⟩ : ∃ k, f = k + 1 := ⟨f - 1, by omega⟩
      have hcn := cut_le n (by omega)
      unfold wp_X7_nameHere_2
      refine pk_le 7 n (fun z => absurd z (by omega)) (fun hn => ?_)
      rw [hx.2.2.1]
      have p := pk_eq (A := vp_in (nI n + 1) 8 ∧ vp_in (nI n) 8 ∧ (¬ ((S.1 28 12) - (S.1 28 13) : Int32) = ((S.2.1 28 16 (nI n + 1 : Int32).toNatClampNeg) - (S.2.1 28 16 (nI n : Int32).toNatClampNeg)) → wp_X7_nameHere_51 K (wp_X7_nameHere_2 K f) 2000 (nI n) 0 0 S) ∧ (((S.1 28 12) - (S.1 28 13) : Int32) = ((S.2.1 28 16 (nI n + 1 : Int32).toNatClampNeg) - (S.2.1 28 16 (nI n : Int32).toNatClampNeg)) → wp_X7_nameHere_51 K (wp_X7_nameHere_2 K f) 2000 (nI n) 1 0 S)) (B := K (-4) S) (x := nI x.2.2) (y := 1) x.2.2 1 (fun z1 => ?_) (fun z1 => h0 (fun z => absurd z z1))
      · exact ⟨p.2, p.1⟩
      · rw [nI_1, nI_clamp (by omega), nI_clamp (by omega), hx.1, hx.2.1, hc.2.2.1 16 (by decide), hcut n (by omega), hcut (n + 1) (by omega), pk_sub hhe, pk_sub hcn.1]
        have hgo := r_nm51 (K := K) (Rc := wp_X7_nameHere_2 K f) (n := n) (x := x) hl ht htb hcut hlet hc (by omega) hx.1 hx.2.1 hok (fun hb => ?_) (fun hb => ih (n + 1) f (by omega) (by omega) (fun j hj => ?_)) (x.2.1 - x.1) 0 2000
        · refine ⟨vp_in_nI (by omega) (by decide), vp_in_nI (by omega) (by decide), fun e => hgo 0 (by omega) (by omega) (Or.inl ⟨rfl, ?_⟩), fun e => hgo 1 (by omega) (by omega) (Or.inr ⟨rfl, (nI_eq (by omega) (by omega)).mp e, fun j hj => absurd hj (by omega)⟩)⟩
          unfold nameB
          rw [Bool.and_eq_false_iff]
          refine Or.inl ?_
          simp
          exact fun c => e (congrArg nI c)
        · have e : nmF t x.1 x.2.1 = n := by
            rcases Nat.lt_trichotomy (nmF t x.1 x.2.1) n with c | c | c
            · have hlt : nmF t x.1 x.2.1 < 7 := by omega
              have := fa_first_yes (nameB t x.1 x.2.1) 7 hlt
              rw [g3 (fa_first (nameB t x.1 x.2.1) 7) c] at this
              exact absurd this (by decide)
            · exact c
            · have := fa_first_no (nameB t x.1 x.2.1) 7 n c
              rw [hb] at this
              exact absurd this (by decide)
          have := h1 z1 (by omega)
          rw [e] at this
          exact this
        · rcases Nat.lt_or_ge j n with c | c
          · exact g3 j c
          · rw [(by omega : j = n)]; exact hb
  unfold wp_X7_nameHere
  exact hloop 7 0 2000 (by omega) (by omega) (fun j hj => absurd hj (by omega))
end TXJ
end
section
section TXK
variable {S S0 : tq_St} {G : aQ} {K : Int32 → tq_St → Prop} {KV : tq_St → Prop} {t : Nat → Nat} {len tz told : Nat} {P : (Nat → Int32) × Int32 × Int32} {A : aE} {β : Type} {E : Nat → Nat → β} {R : β}
theorem r_line {x : aK3} {O : Nat → aE → aK3 → β} (hl : len ≤ 160) (ht : ∀ i, i < len → S0.2.1 28 7 i = nI (t i)) (htb : ∀ i, t i < 128) (hcut : ∀ i, i < 8 → S0.2.1 28 16 i = nI (tq_cuts.getD i 0)) (hlet : ∀ i, i < 29 → S0.2.1 28 17 i = nI (tq_lets.getD i 0)) (htz : tz < 128) (hbits : ∀ j, 4 ≤ j → j ≤ 6 → tz.testBit j = told.testBit j) (hinv : told.testBit 6 = false → aC A = 0) (hc : ZL P S0 S len tz) (hx : ZK S t x) (hok : tkOk t len x) (hx0 : x.2.2 ≠ 0) (x2 : RD P A) (x3 : wfD A) (hR : lineC t len told A x E O = R) (hd : ∀ y w P' B S', ZD P' S0 S' len y w → RD P' B → wfD B → E y w = R → KV S') (hK : ∀ tz' told' P' B x' S', x.1 < x'.1 → tkOk t len x' → x'.2.2 ≠ 4 → tz' < 128 → (∀ j, 4 ≤ j → j ≤ 6 → tz'.testBit j = told'.testBit j) → (told'.testBit 6 = false → aC B = 0) → ZL P' S0 S' len tz' → ZK S' t x' → RD P' B → wfD B → O told' B x' = R → KV S') : wp_X7_readLine S KV := by
  have hlt := hok.2.2.2.2.1 hx0
  have hle := nmF_le (t := t) (h := x.1) (e := x.2.1)
  have e4 : S.1 28 4 = nI (aN A) := by rw [hc.1.2.2.2.2.2.2.1]; exact x2.1
  have hN := x3.1
  unfold lineC at hR
  unfold wp_X7_readLine
  have h63d : ∀ (n y w : Nat) (S2 : tq_St), ZD P S0 S2 len y w → E y w = R → wp_X7_readLine_63 KV (nI n) S2 := by
    intro n y w S2 d e
    unfold wp_X7_readLine_63
    refine nm_e ?_
    have d' := d.i5 ((S2.1 28 5) ||| ((1 : Int32) <<< ((nI n : Int32) &&& 31)))
    exact r_stepD d' ⟨fun z => absurd z d'.nle, fun _ => hd y w P A _ d' x2 x3 e⟩
  refine r_name hl ht htb hcut hlet hc.1 hx hok (fun z1 z7 => ?_) (fun hno => ?_)
  · rw [if_pos z1, if_neg (by omega)] at hR
    generalize nmF t x.1 x.2.1 = n at hR hle z7
    have h63 : (n < 4 → aN A ≠ 5) → (4 ≤ n → told.testBit n = false) → wp_X7_readLine_63 KV (nI n) S := by
      intro hn5 hnb
      unfold wp_X7_readLine_63
      rw [hc.2.2, zb_or (by omega)]
      refine nm_e ?_
      have hc' := hc.tz5 (tz ||| 2 ^ n)
      have htz' : tz ||| 2 ^ n < 128 := zb_orlt (k := 7) htz (by omega)
      have h12' : (sI S 28 5 (nI (tz ||| 2 ^ n))).1 28 12 = nI x.2.1 := by rw [sI_1, if_neg (by decide)]; exact hx.2.1
      -- what is told behind this line
      have hR' : tkC t len x.2.1 E (fun x1 => if n < 4 then (if x1.2.2 = 2 then numC t len 0 40 x1 E (fun v x2 => semC t len x2 E (O (if n < 4 then told else told ||| 2 ^ n) (addO A n v))) else semC t len x1 E (O (if n < 4 then told else told ||| 2 ^ n) (addO A n 0))) else if n = 4 then numC t len 1 5 x1 E (fun v x2 => semC t len x2 E (O (if n < 4 then told else told ||| 2 ^ n) (uR A v))) else if n = 5 then numC t len 1 9 x1 E (fun v x2 => semC t len x2 E (O (if n < 4 then told else told ||| 2 ^ n) (uT A v))) else planC t len 9 A x1 E (fun A' x2 => semC t len x2 E (O (if n < 4 then told else told ||| 2 ^ n) A'))) = R := by
        by_cases c4 : n < 4
        · rw [if_pos c4, if_neg (hn5 c4)] at hR
          simp only [if_pos c4]
          exact hR
        · rw [if_neg c4, if_neg (by rw [hnb (by omega)]; decide)] at hR
          simp only [if_neg c4]
          exact hR
      refine r_step hl ht htb hok.2.1 hc' h12' hR' (fun y w S2 d e => ⟨fun z => absurd z d.nle, fun _ => hd y w P A S2 d x2 x3 e⟩) (fun x1 S2 a1 a2 a3 a4 a5 a6 => ⟨fun _ => ?_, fun z => absurd (by rw [a4.2.1]; decide) z⟩)
      have h112 : ∀ P' B x' S3, x.1 < x'.1 → tkOk t len x' → x'.2.2 ≠ 4 → ZL P' S0 S3 len (tz ||| 2 ^ n) → ZK S3 t x' → RD P' B → wfD B → (n = 6 ∨ aC B = aC A) → semC t len x' E (O (if n < 4 then told else told ||| 2 ^ n) B) = R → (¬ (S3.1 28 10 : Int32) = 0 → wp_X7_readLine_112 KV S3) ∧ ((S3.1 28 10 : Int32) = 0 → ((S3.1 28 14 : Int32) = 3 → wp_X7_readLine_112 KV S3) ∧ (¬ (S3.1 28 14 : Int32) = 3 → (wp_X7_fails 2 S3 (fun S25 => wp_X7_readLine_112 KV S25)))) := by
        intro P' B x' S3 b1 b2 b3 b4 b5 b6 b7 b8 b9
        have hk4 := b2.2.2.1
        refine ⟨fun z => absurd b4.2.1 z, fun _ => ?_⟩
        unfold semC at b9
        rw [b5.2.2.1]
        refine pk_eq x'.2.2 3 (fun z => ?_) (fun z => ?_)
        · rw [if_pos z] at b9
          unfold wp_X7_readLine_112
          refine r_step hl ht htb b2.2.1 b4 b5.2.1 b9 (fun y w S4 d e => hd y w P' B S4 d b6 b7 e) (fun x'' S4 c1 c2 c3 c4 c5 c6 => ?_)
          refine hK (tz ||| 2 ^ n) (if n < 4 then told else told ||| 2 ^ n) P' B x'' S4 (by have := b2.1; omega) c1 c3 htz' (fun j hj1 hj2 => ?_) (fun hb6 => ?_) c4 c5 b6 b7 c6
          · rw [Nat.testBit_or, hbits j hj1 hj2, Nat.testBit_two_pow]
            by_cases c4 : n < 4
            · rw [if_pos c4, decide_eq_false (by omega), Bool.or_false]
            · rw [if_neg c4, Nat.testBit_or, Nat.testBit_two_pow]
          · rcases b8 with b8 | b8
            · rw [if_neg (by omega), Nat.testBit_or, Nat.testBit_two_pow, decide_eq_true b8, Bool.or_true] at hb6
              exact absurd hb6 (by decide)
            · rw [b8]
              refine hinv ?_
              by_cases c4 : n < 4
              · rw [if_pos c4] at hb6; exact hb6
              · rw [if_neg c4, Nat.testBit_or] at hb6
                exact (Bool.or_eq_false_iff.mp hb6).1
        · rw [if_neg z] at b9
          refine r_fails (y := 2) b4 (by decide) b5.1 (fun S4 d => ?_)
          unfold wp_X7_readLine_112
          exact r_stepD d (hd 2 x'.1 P' B S4 d b6 b7 b9)
      have h112d : ∀ y w P' B S3, ZD P' S0 S3 len y w → RD P' B → wfD B → E y w = R → (¬ (S3.1 28 10 : Int32) = 0 → wp_X7_readLine_112 KV S3) ∧ ((S3.1 28 10 : Int32) = 0 → ((S3.1 28 14 : Int32) = 3 → wp_X7_readLine_112 KV S3) ∧ (¬ (S3.1 28 14 : Int32) = 3 → (wp_X7_fails 2 S3 (fun S25 => wp_X7_readLine_112 KV S25)))) := by
        intro y w P' B S3 d b6 b7 e
        refine ⟨fun _ => ?_, fun z => absurd z d.ne⟩
        unfold wp_X7_readLine_112
        exact r_stepD d (hd y w P' B S3 d b6 b7 e)
      refine r_more (O := fun B x2 => semC t len x2 E (O (if n < 4 then told else told ||| 2 ^ n) B)) hl ht htb (by omega) (fun h3 => ?_) (fun h6 => ?_) a4 a5 a1 a3 x2 x3 a6 h112d (fun P' B x' S3 b1 b2 b3 b4 b5 b6 b7 b8 b9 => h112 P' B x' S3 (by omega) b2 b3 b4 b5 b6 b7 b8 b9)
      · have := hn5 (by omega); omega
      · exact hinv (by rw [← h6]; exact hnb (by omega))
    have h41 : (n < 4 → aN A ≠ 5) → wp_X7_readLine_41 KV (nI n) S := by
      intro hn5
      unfold wp_X7_readLine_41
      refine pk_lt n 4 (fun c => h63 hn5 (fun c2 => absurd c (by omega))) (fun c => ?_)
      rw [hc.2.2]
      refine ⟨fun q => h63 hn5 (fun _ => ?_), fun q => ?_⟩
      · rw [← hbits n c (by omega)]
        cases hq : tz.testBit n with
        | false => rfl
        | true => exact absurd ((zb_1 (by omega) (by omega)).mpr hq) q
      · have hb : told.testBit n = true := by
          rw [← hbits n c (by omega)]
          exact (zb_1 (by omega) (by omega)).mp q
        rw [if_neg (by omega), if_pos hb] at hR
        exact r_fails (y := 4) hc (by decide) hx.1 (fun S2 d => h63d n 4 x.1 S2 d hR)
    refine m_inC 0 6 (by decide) (by decide) (by decide) (by omega) (fun _ _ => ⟨fun _ => ?_, fun z => absurd z (by decide)⟩) (fun hno => absurd ⟨Nat.zero_le _, by omega⟩ hno)
    refine pk_lt 3 n (fun c => h41 (fun c2 => absurd c (by omega))) (fun c => ?_)
    rw [e4]
    have p5 := pk_eq (A := wp_X7_fails 5 S (fun S33 => wp_X7_readLine_41 KV (nI n) S33)) (B := wp_X7_readLine_41 KV (nI n) S) (x := nI (aN A)) (y := 5) (aN A) 5 (fun z5 => ?_) (fun z5 => h41 (fun _ => z5))
    · exact ⟨p5.2, p5.1⟩
    · rw [if_pos (by omega), if_pos z5] at hR
      refine r_fails (y := 5) hc (by decide) hx.1 (fun S2 d => ?_)
      unfold wp_X7_readLine_41
      exact pk_lt n 4 (fun _ => h63d n 5 x.1 S2 d hR) (fun c2 => absurd c2 (by omega))
  · have hR2 : E 2 x.1 = R := by
      by_cases c1 : x.2.2 = 1
      · rw [if_pos c1, if_pos (hno c1)] at hR; exact hR
      · rw [if_neg c1] at hR; exact hR
    refine m_inX 0 6 (by decide) (by decide) (by decide) ⟨fun z => absurd rfl z, fun _ => ?_⟩
    exact r_fails (y := 2) hc (by decide) hx.1 (fun S2 d => hd 2 x.1 P A S2 d x2 x3 hR2)
/-- what the text leaves, of all that there is -/
def textG (G : aQ) : aQ := match textR (qT G).2 (qT G).1 with
  | .inl (y, _) => vF (vT G (0, (qT G).2)) y
  | .inr (_, A) => (A, fun _ => none, (0, (qT G).2), 0, (0, (qS G).2), qH G, qO G)
def textI (G : aQ) : Int32 := match textR (qT G).2 (qT G).1 with
  | .inl (_, w) => -10 - nI w
  | .inr (l, _) => nI l
end TXK
end
section
section TXL
variable {S S0 : tq_St} {G : aQ} {K : Int32 → tq_St → Prop} {KV : tq_St → Prop} {t : Nat → Nat} {len tz told : Nat} {P : (Nat → Int32) × Int32 × Int32} {A : aE} {β : Type} {E : Nat → Nat → β} {R : β}
/-- a fault: nothing has been told -/
theorem r_100d {y w : Nat} {v : Int32} (hG : RZ S0 G) (hw : wfQ G) (h : ZD P S0 S len y w) (hK : ∀ S', wfQ (vF (vT G (0, (qT G).2)) y) → RZ S' (vF (vT G (0, (qT G).2)) y) → Fr 28 S0 S' → K (-10 - nI w) S') : wp_X7_text_100 K v S := by
  obtain ⟨⟨h1, h2, h3, h4, -, c1, c2, c3⟩, hy, b2, b3⟩ := h
  obtain ⟨g1, g2, g3, g4, g5, g6, g7, g8, g9⟩ := hG
  obtain ⟨w1, w2, w3, w4, w5, w6, w7, w8⟩ := hw
  unfold wp_X7_text_100
  refine nm_e (nm_e ?_)
  have e10 : (sI (sI S 28 8 0) 28 9 ((sI S 28 8 0).1 28 10)).1 28 10 = nI y := by rw [sI_1, if_neg (by decide), sI_1, if_neg (by decide)]; exact b2
  have e11 : (sI (sI S 28 8 0) 28 9 ((sI S 28 8 0).1 28 10)).1 28 11 = nI w := by rw [sI_1, if_neg (by decide), sI_1, if_neg (by decide)]; exact b3
  have e9 : (sI (sI S 28 8 0) 28 9 ((sI S 28 8 0).1 28 10)).1 28 9 = nI y := by rw [sI_1, if_pos rfl, sI_1, if_neg (by decide)]; exact b2
  have e8 : (sI (sI S 28 8 0) 28 9 ((sI S 28 8 0).1 28 10)).1 28 8 = 0 := by rw [sI_1, if_neg (by decide), sI_1, if_pos rfl]
  have eo : ∀ k, k ≠ 8 → k ≠ 9 → (sI (sI S 28 8 0) 28 9 ((sI S 28 8 0).1 28 10)).1 28 k = S.1 28 k := fun k a b => by rw [sI_1, if_neg b, sI_1, if_neg a]
  have ea : (sI (sI S 28 8 0) 28 9 ((sI S 28 8 0).1 28 10)).2 = S.2 := rfl
  have ef : Fr 28 S0 (sI (sI S 28 8 0) 28 9 ((sI S 28 8 0).1 28 10)) := (h1.I _ _).I _ _
  revert e10 e11 e9 e8 eo ea ef
  generalize (sI (sI S 28 8 0) 28 9 ((sI S 28 8 0).1 28 10)) = T
  intro e10 e11 e9 e8 eo ea ef
  rw [e10, e11]
  refine ⟨fun z => absurd z (nI_nle hy.1 (by omega)), fun _ => ?_⟩
  have ka : ∀ k, k ≠ 3 → T.2.1 28 k = S0.2.1 28 k := fun k c => by rw [ea]; exact h3 k c
  have kp : ∀ j, pg T j = pg S0 j := fun j => by show T.2.1 28 0 j = _; rw [ka 0 (by decide)]
  have k2 := (eo 2 (by decide) (by decide)).trans (h2 2 (by omega))
  have hRM : ∀ g B, RM S0 g B → RM T g B := by
    intro g B hB
    unfold RM
    rw [k2, ka 1 (by decide)]
    have : pg T = pg S0 := funext kp
    rw [this]
    exact hB
  refine hK T ⟨w1, w2, ⟨by show 0 ≤ 160; omega, w3.2⟩, hy.2, w5, w6, w7, w8⟩ ?_ ef
  refine ⟨hRM 0 _ g1, fun k hk => ?_, ⟨e8, fun i hi => absurd hi (by show ¬ i < 0; omega)⟩, e9, ⟨?_, fun i hi => ?_⟩, fun k hk => ?_, ?_, fun i hi => ?_, fun i hi => ?_⟩
  · have g2 := g2 k hk
    show ZI T k (qI G k)
    unfold ZI at g2 ⊢
    rw [ka 24 (by decide)]
    split at g2
    · exact g2
    · exact ⟨g2.1, hRM _ _ g2.2⟩
  · rw [eo 22 (by decide) (by decide), h2 22 (by omega)]; exact g5.1
  · rw [ka 21 (by decide)]; exact g5.2 i hi
  · have g6 := g6 k hk
    show ZH T k (qH G k)
    unfold ZH at g6 ⊢
    rw [ka 25 (by decide), ka 26 (by decide), ka 27 (by decide)]
    exact g6
  · rw [eo 28 (by decide) (by decide), h2 28 (by omega)]; exact g7
  · rw [ka 16 (by decide)]; exact g8 i hi
  · rw [ka 17 (by decide)]; exact g9 i hi
theorem r_130 {S1 : tq_St} {v : Int32} (hK : ∀ S', Fr 28 S1 S' → (∀ k, k ≠ 2 → k ≠ 22 → S'.1 28 k = S1.1 28 k) → S'.1 28 2 = S1.1 28 4 → S'.1 28 22 = 0 → (∀ k, k ≠ 0 → k ≠ 24 → S'.2.1 28 k = S1.2.1 28 k) → (∀ j, j < 28 → pg S' j = rp S1 j) → S'.2.1 28 24 0 = 0 → S'.2.1 28 24 1 = 0 → K v S') : ∀ (m i f : Nat) (S : tq_St), i + m = 28 → m < f → Fr 28 S1 S → S.1 = S1.1 → (∀ k, k ≠ 0 → S.2.1 28 k = S1.2.1 28 k) → (∀ j, j < i → pg S j = rp S1 j) → wp_X7_text_130 K f v (nI i) S := by
  intro m
  induction m with
  | zero =>
    intro i f S z1 z2 f1 f2 f3 f4
    obtain ⟨f, rfl⟩ : ∃ k, f = k + 1 := ⟨f - 1, by omega⟩
    unfold wp_X7_text_130
    refine pk_le 28 i (fun _ => nm_e (nm_e ⟨vp_in_nI (n := 0) (by decide) (by decide), nm_e ⟨vp_in_nI (n := 1) (by decide) (by decide), nm_e ?_⟩⟩)) (fun z => absurd z (by omega))
    refine hK _ ((((f1.I _ _).I _ _).A _ _ _).A _ _ _) (fun k a b => ?_) ?_ ?_ (fun k a b => ?_) (fun j hj => ?_) ?_ ?_
    · rw [sA_1, sA_1, sI_1, if_neg b, sI_1, if_neg a, f2]
    · rw [sA_1, sA_1, sI_1, if_neg (by decide), sI_1, if_pos rfl, f2]
    · rw [sA_1, sA_1, sI_1, if_pos rfl]
    · rw [sA_nk _ _ _ _ _ b, sA_nk _ _ _ _ _ b]; exact f3 k a
    · show (sA (sA _ 28 24 _ _) 28 24 _ _).2.1 28 0 j = _
      rw [sA_nk _ _ _ _ _ (by decide), sA_nk _ _ _ _ _ (by decide)]; exact f4 j (by omega)
    · rw [sA_at, if_neg (by decide), sA_at, if_pos (by decide)]; decide
    · rw [sA_at, if_pos (by decide)]; decide
  | succ m ih =>
    intro i f S z1 z2 f1 f2 f3 f4
    obtain ⟨f, rfl⟩ : ∃ k, f = k + 1 := ⟨f - 1, by omega⟩
    unfold wp_X7_text_130
    refine pk_le 28 i (fun z => absurd z (by omega)) (fun _ => ⟨vp_in_nI (by omega) (by decide), vp_in_nI (by omega) (by decide), nm_e (nm_r (nI_1 i) ?_)⟩)
    rw [nI_clamp (by omega)]
    refine ih (i + 1) f _ (by omega) (by omega) (f1.A _ _ _) f2 (fun k hk => (sA_nk _ _ _ _ _ hk).trans (f3 k hk)) (fun j hj => ?_)
    rw [pg_at]
    by_cases c : j = i
    · rw [if_pos c, c, f3 3 (by decide)]
    · rw [if_neg c]; exact f4 j (by omega)
end TXL
end
section
section TXM
variable {S S0 : tq_St} {G : aQ} {K : Int32 → tq_St → Prop} {KV : tq_St → Prop} {t : Nat → Nat} {len tz told : Nat} {P : (Nat → Int32) × Int32 × Int32} {A : aE} {β : Type} {E : Nat → Nat → β} {R : β}
/-- the evening that is told -/
abbrev toldG (G : aQ) (A : aE) : aQ := (A, fun _ => none, (0, (qT G).2), 0, (0, (qS G).2), qH G, qO G)
theorem toldG_wf (hw : wfQ G) (hA : wfE A) : wfQ (toldG G A) := by
  obtain ⟨w1, w2, w3, w4, w5, w6, w7, w8⟩ := hw
  exact ⟨hA, fun k B e => absurd e (by simp), ⟨by show 0 ≤ 160; omega, w3.2⟩, by show 0 ≤ 6; omega, ⟨by show 0 ≤ 6; omega, w5.2⟩, w6, w7, w8⟩
theorem r_100 {v : Int32} (hG : RZ S0 G) (hw : wfQ G) (h : ZL P S0 S len tz) (x2 : RD P A) (x3 : wfD A) (hok : ∀ i, i < aC A → okA (aN A) (aA A i)) (hK : ∀ S', wfQ (toldG G A) → RZ S' (toldG G A) → Fr 28 S0 S' → K v S') : wp_X7_text_100 K v S := by
  obtain ⟨⟨h1, h2, h3, h4, -, c1, c2, c3⟩, b2, -⟩ := h
  have hwT := toldG_wf hw (x3.e hok)
  obtain ⟨g1, g2, g3, g4, g5, g6, g7, g8, g9⟩ := hG
  unfold wp_X7_text_100
  refine nm_e (nm_e ?_)
  have e10 : (sI (sI S 28 8 0) 28 9 ((sI S 28 8 0).1 28 10)).1 28 10 = 0 := by rw [sI_1, if_neg (by decide), sI_1, if_neg (by decide)]; exact b2
  have e9 : (sI (sI S 28 8 0) 28 9 ((sI S 28 8 0).1 28 10)).1 28 9 = 0 := by rw [sI_1, if_pos rfl, sI_1, if_neg (by decide)]; exact b2
  have e8 : (sI (sI S 28 8 0) 28 9 ((sI S 28 8 0).1 28 10)).1 28 8 = 0 := by rw [sI_1, if_neg (by decide), sI_1, if_pos rfl]
  have eo : ∀ k, k ≠ 8 → k ≠ 9 → (sI (sI S 28 8 0) 28 9 ((sI S 28 8 0).1 28 10)).1 28 k = S.1 28 k := fun k a b => by rw [sI_1, if_neg b, sI_1, if_neg a]
  have ea : (sI (sI S 28 8 0) 28 9 ((sI S 28 8 0).1 28 10)).2 = S.2 := rfl
  have ef : Fr 28 S0 (sI (sI S 28 8 0) 28 9 ((sI S 28 8 0).1 28 10)) := (h1.I _ _).I _ _
  revert e10 e9 e8 eo ea ef
  generalize (sI (sI S 28 8 0) 28 9 ((sI S 28 8 0).1 28 10)) = T
  intro e10 e9 e8 eo ea ef
  rw [e10]
  refine ⟨fun _ => ?_, fun z => absurd (by decide) z⟩
  refine r_130 (S1 := T) (fun S' k1 k2 k3 k4 k5 k6 k7 k8 => ?_) 28 0 2000 T (by omega) (by omega) Fr.rf rfl (fun _ _ => rfl) (fun j hj => absurd hj (by omega))
  have erp : ∀ j, j < 28 → pg S' j = P.1 j := fun j hj => by rw [k6 j hj]; show T.2.1 28 3 j = _; rw [ea, c1]
  obtain ⟨d1, d2, d3, d4, d5, d6, d7, d8, d9, d10, d11, -⟩ := x2
  have hn := x3.1
  have hc := x3.2.2.2.2.2.2.2.2.1
  have ka : ∀ k, k ≠ 0 → k ≠ 24 → k ≠ 3 → S'.2.1 28 k = S0.2.1 28 k := fun k a b c => by rw [k5 k a b, ea]; exact h3 k c
  refine hK S' hwT ?_ (ef.tr k1)
  refine ⟨⟨?_, fun p hp => ?_, fun p hp => ?_, fun p hp => ?_, ?_, ?_, ?_, ?_, ?_, fun i hi => ?_, fun k hk => ?_⟩, fun k hk => ?_, ⟨?_, fun i hi => absurd hi (by show ¬ i < 0; omega)⟩, ?_, ⟨k4, fun i hi => absurd hi (by show ¬ i < 0; omega)⟩, fun k hk => ?_, ?_, fun i hi => ?_, fun i hi => ?_⟩
  · rw [k3, eo 4 (by decide) (by decide), c2]; exact d1
  · have hp : p < aN A := hp
    rw [erp _ (by omega), Nat.zero_add]; exact d2 p hp
  · have hp : p < aN A := hp
    rw [erp _ (by omega)]; exact d3 p hp
  · have hp : p < aN A := hp
    rw [erp _ (by omega), d11.2.2 p]; exact d5 p (by omega)
  · rw [erp _ (by omega), d11.1]; exact d6.1
  · rw [erp _ (by omega), d11.2.1]; exact d6.2
  · rw [erp _ (by omega)]; exact d7
  · rw [erp _ (by omega)]; exact d8
  · rw [erp _ (by omega)]; exact d9
  · have hi : i < aC A := hi
    rw [erp _ (by omega)]; exact d10 i hi
  · rw [ka 1 (by decide) (by decide) (by decide)]; exact g1.2.2.2.2.2.2.2.2.2.2 k hk
  · show S'.2.1 28 24 k = 0
    rcases (by omega : k = 0 ∨ k = 1) with c | c
    · subst c; exact k7
    · subst c; exact k8
  · rw [k2 8 (by decide) (by decide), e8]; rfl
  · rw [k2 9 (by decide) (by decide), e9]; rfl
  · have g6 := g6 k hk
    show ZH S' k (qH G k)
    unfold ZH at g6 ⊢
    rw [ka 25 (by decide) (by decide) (by decide), ka 26 (by decide) (by decide) (by decide), ka 27 (by decide) (by decide) (by decide)]
    exact g6
  · rw [k2 28 (by decide) (by decide), eo 28 (by decide) (by decide), h2 28 (by omega)]; exact g7
  · rw [ka 16 (by decide) (by decide) (by decide)]; exact g8 i hi
  · rw [ka 17 (by decide) (by decide) (by decide)]; exact g9 i hi
theorem r_76 {l : Nat} (hG : RZ S0 G) (hw : wfQ G) (h : ZL P S0 S len tz) (x2 : RD P A) (x3 : wfD A) (h13 : S.1 28 13 = nI len) {R : (Nat × Nat) ⊕ (Nat × aE)} (hR : (if fitB A then Sum.inr (l, A) else Sum.inl (6, len)) = R) (hKd : ∀ y w S', R = Sum.inl (y, w) → wfQ (vF (vT G (0, (qT G).2)) y) → RZ S' (vF (vT G (0, (qT G).2)) y) → Fr 28 S0 S' → K (-10 - nI w) S') (hK : ∀ l B S', R = Sum.inr (l, B) → wfQ (toldG G B) → RZ S' (toldG G B) → Fr 28 S0 S' → K (nI l) S') : wp_X7_text_76 K (nI l) S := by
  unfold wp_X7_text_76
  have e4 : S.1 28 4 = nI (aN A) := by rw [h.1.2.2.2.2.2.2.1]; exact x2.1
  obtain ⟨g, g1, g2, g3, g4⟩ := x2.2.2.2.2.2.2.2.2.2.2.2
  have e6 : S.1 28 6 = nI g - 1 := by rw [h.1.2.2.2.2.2.2.2]; exact g2
  have hn := x3.1
  refine ⟨fun z => absurd h.2.1 z, fun _ => ⟨fun q => ?_, fun q => ?_⟩⟩
  · rw [e4, e6, high_lt (by omega) (by omega)] at q
    have hall : ∀ i, i < aC A → okA (aN A) (aA A i) := by
      intro i hi
      have a1 := x3.2.2.2.2.2.2.2.2.2 i hi
      have a2 := g3 i hi
      unfold okA
      omega
    rw [if_pos (by unfold fitB; exact decide_eq_true hall)] at hR
    exact r_100 hG hw h x2 x3 hall (fun S' a b c => hK l A S' hR.symm a b c)
  · rw [e4, e6, high_lt (by omega) (by omega)] at q
    have hno : ¬ ∀ i, i < aC A → aA A i < aN A ∨ aA A i = 5 ∨ aA A i = 6 := by
      intro hall
      rcases g4 with c | ⟨i, hi, c⟩
      · omega
      · have := hall i hi
        omega
    rw [if_neg (by unfold fitB; intro z; exact hno (of_decide_eq_true z))] at hR
    exact r_fails (y := 6) h (by decide) h13 (fun S2 d => r_100d hG hw d (fun S' a b c => hKd 6 len S' hR.symm a b c))
theorem r_52 (hG : RZ S0 G) (hw : wfQ G) (hl : len ≤ 160) (ht : ∀ i, i < len → S0.2.1 28 7 i = nI (t i)) (htb : ∀ i, t i < 128) {R : (Nat × Nat) ⊕ (Nat × aE)} (hKd : ∀ y w S', R = Sum.inl (y, w) → wfQ (vF (vT G (0, (qT G).2)) y) → RZ S' (vF (vT G (0, (qT G).2)) y) → Fr 28 S0 S' → K (-10 - nI w) S') (hK : ∀ l B S', R = Sum.inr (l, B) → wfQ (toldG G B) → RZ S' (toldG G B) → Fr 28 S0 S' → K (nI l) S') : ∀ (m l f tz told : Nat) (P : (Nat → Int32) × Int32 × Int32) (A : aE) (x : aK3) (S : tq_St), len - x.1 < m → m < f → tz < 128 → (∀ j, 4 ≤ j → j ≤ 6 → tz.testBit j = told.testBit j) → (told.testBit 6 = false → aC A = 0) → tkOk t len x → x.2.2 ≠ 4 → ZL P S0 S len tz → ZK S t x → RD P A → wfD A → linesC t len m l told A x (fun y w => Sum.inl (y, w)) (fun l A => if fitB A then Sum.inr (l, A) else Sum.inl (6, len)) = R → wp_X7_text_52 K f (nI l) S := by
  have hcut := hG.2.2.2.2.2.2.2.1
  have hlet := hG.2.2.2.2.2.2.2.2
  have hdead : ∀ y w P' S' f v, 0 < f → ZD P' S0 S' len y w → R = Sum.inl (y, w) → wp_X7_text_52 K f v S' := by
    intro y w P' S' f v hf d e
    obtain ⟨f, rfl⟩ : ∃ k, f = k + 1 := ⟨f - 1, by omega⟩
    unfold wp_X7_text_52
    refine ⟨fun _ => ?_, fun z => absurd z d.ne⟩
    unfold wp_X7_text_76
    exact ⟨fun _ => r_100d hG hw d (fun S2 a b c => hKd y w S2 e a b c), fun z => absurd z d.ne⟩
  intro m
  induction m with
  | zero =>
    intro l f tz told P A x S z1
    omega
  | succ m ih =>
    intro l f tz told P A x S z1 z2 htz hbits hinv hok hx4 hc hx x2 x3 hR
    obtain ⟨f, rfl⟩ : ∃ k, f = k + 1 := ⟨f - 1, by omega⟩
    have hk4 := hok.2.2.1
    unfold linesC at hR
    unfold wp_X7_text_52
    refine ⟨fun z => absurd hc.2.1 z, fun _ => ?_⟩
    rw [hx.2.2.1]
    refine pk_eq x.2.2 0 (fun z => ?_) (fun z => ?_)
    · rw [if_pos z] at hR
      exact r_76 hG hw hc x2 x3 (by rw [hx.1, hok.2.2.2.1.mp z]) hR hKd hK
    · rw [if_neg z] at hR
      refine r_line hl ht htb hcut hlet htz hbits hinv hc hx hok z x2 x3 hR (fun y w P' B S' d _ _ e => nm_r (nI_1 l) ?_) (fun tz' told' P' B x' S' a1 a2 a3 a4 a5 a6 a7 a8 a9 a10 a11 => nm_r (nI_1 l) ?_)
      · exact hdead y w P' S' f _ (by omega) d e.symm
      · have hel := a2.1
        have hel2 := a2.2.1
        exact ih (l + 1) f tz' told' P' B x' S' (by omega) (by omega) a4 a5 a6 a2 a3 a7 a8 a9 a10 a11
theorem r_29 (hG : RZ S0 G) (hw : wfQ G) (hl : len ≤ 160) (ht : ∀ i, i < len → S0.2.1 28 7 i = nI (t i)) (htb : ∀ i, t i < 128) {R : (Nat × Nat) ⊕ (Nat × aE)} (hR : textR t len = R) (hKd : ∀ y w S', R = Sum.inl (y, w) → wfQ (vF (vT G (0, (qT G).2)) y) → RZ S' (vF (vT G (0, (qT G).2)) y) → Fr 28 S0 S' → K (-10 - nI w) S') (hK : ∀ l B S', R = Sum.inr (l, B) → wfQ (toldG G B) → RZ S' (toldG G B) → Fr 28 S0 S' → K (nI l) S') : ∀ (m i f : Nat) (P : Nat → Int32) (S : tq_St), i + m = 28 → m < f → ZL (P, 0, -1) S0 S len 0 → S.1 28 12 = 0 → (∀ j, j < i → P j = 0) → wp_X7_text_29 K f (nI 0) (nI i) S := by
  intro m
  induction m with
  | zero =>
    intro i f P S z1 z2 x1 e12 x2
    obtain ⟨f, rfl⟩ : ∃ k, f = k + 1 := ⟨f - 1, by omega⟩
    unfold wp_X7_text_29
    refine pk_le 28 i (fun _ => ?_) (fun z => absurd z (by omega))
    have hRD : RD (P, 0, -1) e0A := by
      refine ⟨rfl, fun p hp => absurd hp (by show ¬ p < 0; omega), fun p hp => absurd hp (by show ¬ p < 0; omega), fun p _ hp => x2 _ (by omega), fun p hp => x2 _ (by omega), ⟨x2 _ (by omega), x2 _ (by omega)⟩, ?_, ?_, ?_, fun i hi => absurd hi (by show ¬ i < 0; omega), ⟨rfl, rfl, fun _ => rfl⟩, 0, by omega, (by decide : (-1 : Int32) = nI 0 - 1), fun i hi => absurd hi (by show ¬ i < 0; omega), Or.inl rfl⟩
      · exact (x2 17 (by omega)).trans (by decide)
      · exact (x2 18 (by omega)).trans (by decide)
      · exact (x2 27 (by omega)).trans (by decide)
    refine r_step (p := 0) hl ht htb (Nat.zero_le _) x1 e12 hR (fun y w S' d e => ?_) (fun x S' a1 a2 a3 a4 a5 a6 => ?_)
    · rw [wp_X7_text_52]
      refine ⟨fun _ => ?_, fun z => absurd z d.ne⟩
      unfold wp_X7_text_76
      exact ⟨fun _ => r_100d hG hw d (fun S2 a b c => hKd y w S2 e.symm a b c), fun z => absurd z d.ne⟩
    · exact r_52 hG hw hl ht htb hKd hK 161 0 2000 0 0 _ e0A x S' (by omega) (by omega) (by omega) (fun _ _ _ => rfl) (fun _ => rfl) a1 a3 a4 a5 hRD e0_wfD a6
  | succ m ih =>
    intro i f P S z1 z2 x1 e12 x2
    obtain ⟨f, rfl⟩ : ∃ k, f = k + 1 := ⟨f - 1, by omega⟩
    unfold wp_X7_text_29
    refine pk_le 28 i (fun z => absurd z (by omega)) (fun _ => ⟨vp_in_nI (by omega) (by decide), nm_e (nm_r (nI_1 i) ?_)⟩)
    rw [nI_clamp (by omega)]
    refine ih (i + 1) f (upd P i 0) _ (by omega) (by omega) (x1.a i 0) e12 (fun j hj => ?_)
    by_cases c : j = i
    · subst c; exact pk_us
    · rw [pk_un c]; exact x2 j (by omega)
theorem textG_l {y w : Nat} (h : textR (qT G).2 (qT G).1 = Sum.inl (y, w)) : textG G = vF (vT G (0, (qT G).2)) y ∧ textI G = -10 - nI w := by
  unfold textG textI
  rw [h]
  exact ⟨rfl, rfl⟩
theorem textG_r {l : Nat} {B : aE} (h : textR (qT G).2 (qT G).1 = Sum.inr (l, B)) : textG G = toldG G B ∧ textI G = nI l := by
  unfold textG textI
  rw [h]
  exact ⟨rfl, rfl⟩
theorem z_textX (hG : RZ S G) (hw : wfQ G) (hK : ∀ S', wfQ (textG G) → RZ S' (textG G) → Fr 28 S S' → K (textI G) S') : wp_X7_text S K := by
  unfold wp_X7_text
  refine nm_e (nm_e (nm_e (nm_e (nm_e ?_))))
  have h3 := hG.2.2.1
  have w3 := hw.2.2.1
  refine r_29 (S0 := S) (len := (qT G).1) (t := (qT G).2) hG hw w3.1 h3.2 w3.2 rfl (fun y w S' e a b c => ?_) (fun l B S' e a b c => ?_) 28 0 2000 (S.2.1 28 3) _ (by omega) (by omega) ⟨⟨((((Fr.rf.I _ _).I _ _).I _ _).I _ _).I _ _, fun k hk => ?_, fun _ _ => rfl, ?_, ⟨0, by omega, ?_⟩, rfl, ?_, ?_⟩, ?_, ?_⟩ ?_ (fun j hj => absurd hj (by omega))
  · obtain ⟨e1, e2⟩ := textG_l e
    rw [← e2]
    rw [← e1] at a b
    exact hK S' a b c
  · obtain ⟨e1, e2⟩ := textG_r e
    rw [← e2]
    rw [← e1] at a b
    exact hK S' a b c
  · rw [sI_1, if_neg (by omega), sI_1, if_neg (by omega), sI_1, if_neg (by omega), sI_1, if_neg (by omega), sI_1, if_neg (by omega)]
  · simp [sI_1]; exact h3.1
  · simp [sI_1]; rfl
  · simp [sI_1]
  · simp [sI_1]
  · simp [sI_1]
  · simp [sI_1]; rfl
  · simp [sI_1]
end TXM
end
section
section TXN
variable {S S0 : tq_St} {G : aQ} {K : Int32 → tq_St → Prop} {KV : tq_St → Prop}
theorem q_textX (hG : RQ S G) (hw : wfQ G) (hK : ∀ S', wfQ (textG G) → RQ S' (textG G) → FC S S' → K (textI G) S') : wp_X6_text S K := by
  unfold wp_X6_text
  refine s_all hG hw (fun r S1 hy => ?_)
  obtain ⟨y1, y2, y3, y7⟩ := hy
  obtain ⟨h1, h2, h3, h4, h5, h6, h7⟩ := hG
  have g0 := y1 0 (by decide) (by decide)
  have g20 := y1 20 (by decide) (by decide)
  have g27 := y1 27 (by decide) (by decide)
  have g28 := y1 28 (by decide) (by decide)
  have hR1 : ∀ y : Nat, S1.1 19 3 = nI y → RQ S1 (vF (vT G (0, (qT G).2)) y) := by
    intro y y5
    refine ⟨?_, fun k hk => ?_, ⟨y3, fun i hi => absurd hi (by show ¬ i < 0; omega)⟩, y5, by rw [g20.1, g20.2]; exact h5, fun k hk => ?_, by rw [g27.1]; exact h7⟩
    · show RC S1 0 (qA G)
      unfold RC
      rw [g0.1, g0.2]
      exact h1
    · have h2 := h2 k hk
      have g17 := y1 (17 + k) (by omega) (by omega)
      show CI _ k (qI G k)
      unfold CI at h2 ⊢
      split at h2
      · rw [g27.2]; exact h2
      · refine ⟨by rw [g27.2]; exact h2.1, ?_⟩
        unfold RC
        rw [g17.1, g17.2]
        exact h2.2
    · have h6 := h6 k hk
      have g23 := y1 (23 + k) (by omega) (by omega)
      show CH _ k (qH G k)
      unfold CH at h6 ⊢
      rw [g23.1, g23.2]
      exact h6
  have hw1 : ∀ y : Nat, y ≤ 6 → wfQ (vF (vT G (0, (qT G).2)) y) := fun y y4 => ⟨hw.1, hw.2.1, ⟨by show 0 ≤ 160; omega, hw.2.2.1.2⟩, y4, hw.2.2.2.2⟩
  cases eR : textR (qT G).2 (qT G).1 with
  | inl p =>
    obtain ⟨y, w⟩ := p
    rw [eR] at y7
    obtain ⟨b1, b2, b3⟩ := y7
    obtain ⟨e1, e2⟩ := textG_l eR
    rw [e1, e2] at hK
    refine ⟨fun _ => ?_, fun z => absurd z (by rw [b2]; exact nI_ne0 b1.1 (by omega))⟩
    rw [b3]
    exact hK S1 (hw1 y b1.2) (hR1 y b2) g28
  | inr p =>
    obtain ⟨l, A⟩ := p
    rw [eR] at y7
    obtain ⟨b1, b2, c1, c2⟩ := y7
    obtain ⟨e1, e2⟩ := textG_r eR
    rw [e1, e2] at hK
    have hR1 := hR1 0 b1
    have hw1 := hw1 0 (by omega)
    refine ⟨fun z => absurd b1 z, fun _ => ?_⟩
    rw [b2]
    refine c_copyFrom (p := 2) c2 c1 (by decide) (fun S2 a1 a2 _ _ _ => nm_e ?_)
    have e20 : RQ (sI S2 20 2 0) (vS (vA (vF (vT G (0, (qT G).2)) 0) A) (0, (qS G).2)) := (hR1.now a2 a1).seen ((Fr.rf (o := 20)).I _ _) ⟨by rw [sI_1, if_pos rfl]; rfl, fun i hi => absurd hi (by show ¬ i < 0; omega)⟩
    have fc2 : FC S (sI S2 20 2 0) := FC.tr (T := S1) g28 ((a2.fc (by decide)).tr (((Fr.rf (o := 20)).I _ _).fc (by decide)))
    -- the images are gone
    have hloop : ∀ (m i f : Nat) (S' : tq_St), i + m = 2 → m < f → RQ S' (vI (vS (vA (vF (vT G (0, (qT G).2)) 0) A) (0, (qS G).2)) (fun k => if k < i then none else qI G k)) → FC S S' → wp_X6_text_42 K f (nI l) (nI i) S' := by
      intro m
      induction m with
      | zero =>
        intro i f S' g1 g2 hR hF
        obtain ⟨f, rfl⟩ : ∃ k, f = k + 1 := ⟨f - 1, by omega⟩
        refine pk_le 2 i (fun _ => hK S' (toldG_wf hw c1) ?_ hF) (fun z => absurd z (by omega))
        · obtain ⟨r1, r2, r3⟩ := hR
          refine ⟨r1, fun k hk => ?_, r3⟩
          have r2 := r2 k hk
          have e : (if k < i then none else qI G k) = (none : Option aE) := if_pos (by omega)
          have r2 : CI S' k (if k < i then none else qI G k) := r2
          rw [e] at r2
          exact r2
      | succ m ih =>
        intro i f S' g1 g2 hR hF
        obtain ⟨f, rfl⟩ : ∃ k, f = k + 1 := ⟨f - 1, by omega⟩
        unfold wp_X6_text_42
        have en : vp_nar .boolean 0 = 0 := by decide +kernel
        refine pk_le 2 i (fun z => absurd z (by omega)) (fun _ => ⟨vp_in_nI (by omega) (by decide), nm_e (nm_r (nI_1 i) ?_)⟩)
        rw [nI_clamp (by omega), en]
        have f27 := (Fr.rf (o := 27) (S := S')).A 7 i 0
        refine ih (i + 1) f _ (by omega) (by omega) ?_ (hF.tr (f27.fc (by decide)))
        obtain ⟨r1, r2, r3, r4, r5, r6, r7⟩ := hR
        have k19 := f27.1 19 (by decide)
        have k20 := f27.1 20 (by decide)
        refine ⟨r1.fr f27 (by decide), fun k hk => ?_, by rw [k19.1, k19.2]; exact r3, by rw [k19.1]; exact r4, by rw [k20.1, k20.2]; exact r5, fun k hk => ?_, r7⟩
        · show CI (sA S' 27 7 i 0) k (if k < i + 1 then none else qI G k)
          by_cases c : k < i + 1
          · rw [if_pos c]
            show (sA S' 27 7 i 0).2.1 27 7 k = 0
            rw [sA_at]
            by_cases c2 : k = i
            · rw [if_pos c2]
            · rw [if_neg c2]
              have r2 : CI S' k (if k < i then none else qI G k) := r2 k hk
              rw [if_pos (by omega)] at r2
              exact r2
          · rw [if_neg c]
            have r2 : CI S' k (if k < i then none else qI G k) := r2 k hk
            rw [if_neg (by omega)] at r2
            unfold CI at r2 ⊢
            split at r2
            · rw [sA_at, if_neg (by omega)]; exact r2
            · rw [sA_at, if_neg (by omega)]; exact ⟨r2.1, r2.2.fr f27 (by omega)⟩
        · have r6 := r6 k hk
          have k23 := f27.1 (23 + k) (by omega)
          unfold CH at r6 ⊢
          rw [k23.1, k23.2]
          exact r6
    exact hloop 2 0 2000 _ (by omega) (by omega) e20 fc2
end TXN
end
section
section RDX
variable {S S0 : tq_St} {G : aQ} {K : Int32 → tq_St → Prop}
-- READ, exactly
def actB (A : aE) (v : Int32) : Bool := decide (v.toNatClampNeg < aN A ∨ v.toNatClampNeg = 5 ∨ v.toNatClampNeg = 6) && decide (v = nI v.toNatClampNeg) && plD A v.toNatClampNeg
def rdX (G : aQ) (k l : Nat) (x : Int32) : Nat → Nat → aE → Int32 × aQ
  | 0, i, A => (nI i, vO (vA G A) 0)
  | m + 1, i, A => match (qH G k).1 with
    | none => (nI i, vO (vA G A) 1)
    | some l' => if l' = l then (if 0 ≤ x.toInt + i ∧ x.toInt + i < (qH G k).2.1 then (if actB A ((qH G k).2.2 (x.toInt + i).toNat) then rdX G k l x m (i + 1) (playF A ((qH G k).2.2 (x.toInt + i).toNat).toNatClampNeg) else (-20 - nI i, G)) else (nI i, vO (vA G A) 2)) else (nI i, vO (vA G A) 3)
theorem actB_y {A : aE} {v : Int32} {a : Nat} (hn : aN A ≤ 5) (ha : okA (aN A) a) (e : v = nI a) : v.toNatClampNeg = a ∧ actB A v = plD A a := by
  have h31 : a < 2 ^ 31 := by unfold okA at ha; omega
  have e2 : v.toNatClampNeg = a := by rw [e]; exact nI_clamp h31
  refine ⟨e2, ?_⟩
  unfold actB
  rw [e2, decide_eq_true (show a < aN A ∨ a = 5 ∨ a = 6 from ha), decide_eq_true e]
  rfl
theorem actB_n {A : aE} {v : Int32} (h : ∀ a, okA (aN A) a → v ≠ nI a) : actB A v = false := by
  unfold actB
  cases h1 : decide (v.toNatClampNeg < aN A ∨ v.toNatClampNeg = 5 ∨ v.toNatClampNeg = 6) with
  | false => rfl
  | true =>
    have h2 := of_decide_eq_true h1
    rw [decide_eq_false (h _ h2)]; rfl
theorem rdX_none {k l m i : Nat} {x : Int32} {A : aE} (e : (qH G k).1 = none) : rdX G k l x (m + 1) i A = (nI i, vO (vA G A) 1) := by
  rw [rdX, e]
theorem rdX_3 {k l l' m i : Nat} {x : Int32} {A : aE} (e : (qH G k).1 = some l') (h : ¬ l' = l) : rdX G k l x (m + 1) i A = (nI i, vO (vA G A) 3) := by
  rw [rdX, e]
  simp only [if_neg h]
theorem rdX_2 {k l m i : Nat} {x : Int32} {A : aE} (e : (qH G k).1 = some l) (h : ¬ (0 ≤ x.toInt + i ∧ x.toInt + i < (qH G k).2.1)) : rdX G k l x (m + 1) i A = (nI i, vO (vA G A) 2) := by
  rw [rdX, e]
  simp only [if_pos, if_neg h]
theorem rdX_b {k l m i j : Nat} {x : Int32} {A : aE} (e : (qH G k).1 = some l) (hj : (j : Int) = x.toInt + i) (hlt : j < (qH G k).2.1) (h : actB A ((qH G k).2.2 j) = false) : rdX G k l x (m + 1) i A = (-20 - nI i, G) := by
  have hc : 0 ≤ x.toInt + i ∧ x.toInt + i < (qH G k).2.1 := by omega
  have ej : (x.toInt + i).toNat = j := by omega
  rw [rdX, e]
  simp only [if_pos, if_pos hc, ej, h]
  rfl
theorem rdX_a {k l m i j : Nat} {x : Int32} {A : aE} (e : (qH G k).1 = some l) (hj : (j : Int) = x.toInt + i) (hlt : j < (qH G k).2.1) (h : actB A ((qH G k).2.2 j) = true) : rdX G k l x (m + 1) i A = rdX G k l x m (i + 1) (playF A ((qH G k).2.2 j).toNatClampNeg) := by
  have hc : 0 ≤ x.toInt + i ∧ x.toInt + i < (qH G k).2.1 := by omega
  have ej : (x.toInt + i).toNat = j := by omega
  rw [rdX, e]
  simp only [if_pos, if_pos hc, ej, h]
theorem rdX_wf (hw : wfQ G) {k l : Nat} {x : Int32} : ∀ (m i : Nat) (A : aE), wfE A → aN A = aN (qA G) → wfQ (rdX G k l x m i A).2 := by
  have hv : ∀ (A : aE) (y : Nat), wfE A → aN A = aN (qA G) → y ≤ 3 → wfQ (vO (vA G A) y) := fun A y h1 h2 h3 => by
    have h := hw.now h1 h2
    exact ⟨h.1, h.2.1, h.2.2.1, h.2.2.2.1, h.2.2.2.2.1, h.2.2.2.2.2.1, h.2.2.2.2.2.2.1, h3⟩
  intro m
  induction m with
  | zero => exact fun i A h1 h2 => hv A 0 h1 h2 (by omega)
  | succ m ih =>
    intro i A h1 h2
    rw [rdX]
    split
    · exact hv A 1 h1 h2 (by omega)
    · split
      · split
        · split
          · exact ih _ _ (playF_wf h1 _) ((playF_same A _).1.trans h2)
          · exact hw
        · exact hv A 2 h1 h2 (by omega)
      · exact hv A 3 h1 h2 (by omega)
/-- the wrapped sum names a cell just where the true one does -/
theorem rd_sum {x : Int32} {i j : Nat} (hi : i ≤ 20) (hj : j < 40) : x + nI i = nI j ↔ (j : Int) = x.toInt + i := by
  have hx := fb_rng x
  have ei : (nI i).toInt = (i : Int) := nI_toInt (by omega)
  have ej : (nI j).toInt = (j : Int) := nI_toInt (by omega)
  constructor
  · intro e
    have h1 : x = nI j - nI i := by rw [← e]; exact (Int32.add_sub_cancel x (nI i)).symm
    have h2 := pk_sub_toInt (a := j) (b := i) (by omega) (by omega)
    rw [h1, h2]
    omega
  · intro e
    apply Int32.toInt_inj.mp
    rw [fb_addI (by omega) (by omega), ei, ej]
    omega
theorem q_rdX_45 {S0 : tq_St} {k l n : Nat} {x : Int32} (hG0 : RQ S0 G) (hw : wfQ G) (hk : k < 4) (hl : l < 3) (hn : n ≤ 20) {R : Int32 × aQ} (hK : ∀ S', RQ S' R.2 → FC S0 S' → K R.1 S') : ∀ (m i f : Nat) (A : aE) (S : tq_St), i + m = n → m < f → wfE A → aN A = aN (qA G) → RC S 1 A → Fr 1 S0 S → rdX G k l x m i A = R → wp_X6_read_45 K f (nI k) (nI l) x (nI n) 0 (nI i) S
  | 0, i, f + 1, A, S, h1, h2, hwA, hA, hR, hF, e => by
    subst e
    unfold wp_X6_read_45
    exact pk_le n i (fun _ => q_rd128 (y := 0) hG0 hw hwA hF hR hK) (fun z => absurd z (by omega))
  | m + 1, i, f + 1, A, S, h1, h2, hwA, hA, hR, hF, e => by
    have hx := hF.fx (Or.inl (by decide))
    have hG := hG0.fx hx
    have hend : ∀ y, R = (nI i, vO (vA G A) y) → wp_X6_read_128 K (nI y) (nI i) S := fun y hy => by
      subst hy
      exact q_rd128 (y := y) hG0 hw hwA hF hR hK
    have hback : R = (-20 - nI i, G) → ∀ S', Fr 1 S0 S' → K (-20 - nI i) S' := fun hR2 S' f' => by
      have hx' := f'.fx (Or.inl (by decide))
      subst hR2
      exact hK S' (hG0.fx hx') hx'.fc
    unfold wp_X6_read_45
    rw [nI_clamp (n := k) (by omega)]
    have hl40 := hw.2.2.2.2.2.2.1 k
    refine pk_le n i (fun z => absurd z (by omega)) (fun _ => ⟨vp_in_nI (by omega) (by decide), ?_⟩)
    refine c_faultAt hG hw hk (fun eN => ⟨fun z => absurd z (by decide), fun _ => hend 1 ?_⟩) (fun l' eL hne => ⟨fun z => absurd z (by decide), fun _ => hend 3 ?_⟩) (fun l' eL el hno => ⟨fun z => absurd z (by decide), fun _ => hend 2 ?_⟩) (fun l' j eL el hj ej => ⟨fun _ => ?_, fun z => absurd rfl z⟩)
    · rw [← e, rdX_none eN]
    · rw [← e, rdX_3 eL (fun c => hne (by rw [c]))]
    · have hl' := hw.2.2.2.2.2.1 k l' eL
      have : l = l' := (nI_eq (by omega) (by omega)).mp el
      subst this
      rw [← e, rdX_2 eL ?_]
      intro hc
      obtain ⟨j, hj⟩ : ∃ j : Nat, (j : Int) = x.toInt + i := ⟨(x.toInt + i).toNat, by omega⟩
      exact hno j (by omega) ((rd_sum (by omega) (by omega)).mpr hj)
    · have hl' := hw.2.2.2.2.2.1 k l' eL
      have : l = l' := (nI_eq (by omega) (by omega)).mp el
      subst this
      have hjx := (rd_sum (x := x) (i := i) (j := j) (by omega) (by omega)).mp ej
      rw [ej]
      refine ⟨vp_in_nI (by omega) (by decide), vp_in_nI (by omega) (by decide), ?_⟩
      have hcell : S.2.1 (23 + k) 0 (nI j).toNatClampNeg = (qH G k).2.2 j := by
        have h6 := hG.2.2.2.2.2.1 k hk
        unfold CH at h6
        rw [eL] at h6
        rw [nI_clamp (by omega)]
        exact h6.2.2.2 j (by omega)
      rw [hcell]
      refine nm_e ?_
      refine c_isAct hR hwA (fun a ha ea => ⟨fun z => absurd z (by decide), fun _ => ?_⟩) (fun hno => ⟨fun _ => hback ?_ S hF, fun z => absurd rfl z⟩)
      · obtain ⟨ec, eb⟩ := actB_y hwA.1 ha ea
        rw [ea]
        refine c_play hR hwA ha (fun S' a1 a2 _ _ _ => ⟨fun z => nm_r (nI_1 i) ?_, fun z => hback ?_ S' (hF.tr a2)⟩)
        · have hb : plD A a = true := by
            cases h : plD A a with
            | true => rfl
            | false => rw [h] at z; exact absurd rfl z
          rw [hb] at eb
          rw [rdX_a eL hjx hj eb, ec] at e
          exact q_rdX_45 hG0 hw hk hl hn hK m (i + 1) f _ S' (by omega) (by omega) (playF_wf hwA _) ((playF_same A _).1.trans hA) a1 (hF.tr a2) e
        · have hb : plD A a = false := by
            cases h : plD A a with
            | false => rfl
            | true => rw [h] at z; exact absurd z (by decide)
          rw [hb] at eb
          rw [← e, rdX_b eL hjx hj eb]
      · rw [← e, rdX_b eL hjx hj (actB_n hno)]
theorem q_readX {x y z w : Int32} (hG : RQ S G) (hw : wfQ G) (hbad : (∀ k, k ≤ 3 → x ≠ nI k) ∨ (∀ l, l ≤ 2 → y ≠ nI l) ∨ (∀ n, n ≤ 20 → w ≠ nI n) → K (-1) S) (hok : ∀ k l n, k ≤ 3 → x = nI k → l ≤ 2 → y = nI l → n ≤ 20 → w = nI n → ∀ S', RQ S' (rdX G k l z n 0 (qA G)).2 → FC S S' → K (rdX G k l z n 0 (qA G)).1 S') : wp_X6_read x y z w S K := by
  unfold wp_X6_read
  refine c_isSheet (fun k hk e => ⟨fun z => absurd z (by decide), fun _ => ?_⟩) (fun hno => ⟨fun _ => hbad (Or.inl hno), fun z => absurd rfl z⟩)
  refine c_isLane (fun l hl e2 => ⟨fun z => absurd z (by decide), fun _ => ?_⟩) (fun hno => ⟨fun _ => hbad (Or.inr (Or.inl hno)), fun z => absurd rfl z⟩)
  have hno20 : (w < 0 ∨ ¬ w ≤ 20) → ∀ n, n ≤ 20 → w ≠ nI n := by
    intro h n hn e
    subst e
    rcases h with h | h
    · exact nI_pos (by omega) h
    · exact h (nI_le (b := 20) (by omega) (by decide))
  refine ⟨fun z1 => hbad (Or.inr (Or.inr (hno20 (Or.inl z1)))), fun z1 => ⟨fun z2 => ?_, fun z2 => hbad (Or.inr (Or.inr (hno20 (Or.inr z2))))⟩⟩
  obtain ⟨n, hn, rfl⟩ := nI_of2 (n := 20) (by decide) z1 z2
  subst e
  subst e2
  refine c_startFrom hG.1 hw.1 (by decide) (fun S1 a1 a2 a3 => ?_)
  exact q_rdX_45 (S0 := S) (l := l) hG hw (by omega) (by omega) hn (hok k l n hk rfl hl rfl hn rfl) n 0 2000 (qA G) S1 (by omega) (by omega) hw.1 rfl a1 a2 rfl
theorem z_rdX_55 {k l n : Nat} {x : Int32} {S0 : tq_St} (hw0 : wfQ G) (hk : k ≤ 3) (hl : l ≤ 2) (hn : n ≤ 20) {R : Int32 × aQ} (hK : ∀ S', RZ S' R.2 → Fr 28 S0 S' → K R.1 S') : ∀ (m i f c : Nat) (y : Nat) (A : aE) (S : tq_St), i + m = n → m < f → y ≤ 3 → (y = 0 → c = i) → wfE A → aN A = aN (qA G) → RZ S (vA G A) → RM S 84 (qA G) → Fr 28 S0 S → (if y = 0 then rdX G k l x m i A else (nI c, vO (vA G A) y)) = R → wp_X7_read_55 K f (nI k) (nI l) x (nI n) (nI y) (nI c) (nI i) S
  | 0, i, f + 1, c, y, A, S, h1, h2, hy, hcy, hwA, hA, hG, hR, hF, e => by
    have e' : R = (nI c, vO (vA G A) y) := by
      rw [← e]
      by_cases c0 : y = 0
      · rw [if_pos c0, hcy c0, c0]; rfl
      · rw [if_neg c0]
    subst e'
    unfold wp_X7_read_55
    exact pk_le n i (fun _ => nm_e (hK _ (hG.torn rfl) (hF.tr (Fr.rf.I _ _)))) (fun z => absurd z (by omega))
  | m + 1, i, f + 1, c, y, A, S, h1, h2, hy, hcy, hwA, hA, hG, hR, hF, e => by
    have hwG : wfQ (vA G A) := hw0.now hwA hA
    unfold wp_X7_read_55
    refine pk_le n i (fun z => absurd z (by omega)) (fun _ => ⟨fun z => nm_e ?_, fun z => ?_⟩)
    · have hy0 : ¬ y = 0 := fun c0 => z (by rw [c0]; rfl)
      rw [if_neg hy0] at e
      subst e
      exact hK _ (hG.torn rfl) (hF.tr (Fr.rf.I _ _))
    have hy0 : y = 0 := (nI_eq (by omega) (by decide)).mp z
    have hci := hcy hy0
    subst hci
    rw [if_pos hy0] at e
    have v4 : vp_in (nI k) 4 := vp_in_nI (by omega) (by decide)
    rw [nI_clamp (n := k) (by omega)]
    have hZ := hG.2.2.2.2.2.1 k (by omega)
    have hl40 := hw0.2.2.2.2.2.2.1 k
    -- the machine finds a fault
    have hbad : ∀ y', 0 < y' → y' ≤ 3 → R = (nI c, vO (vA G A) y') → wp_X7_read_123 K (wp_X7_read_55 K f) (nI k) (nI l) x (nI n) (nI c) (nI c) (nI y') S := by
      intro y' h0 h3 eR
      unfold wp_X7_read_123
      refine ⟨fun _ => nm_r (nI_1 c) ?_, fun z => absurd z (nI_ne0 h0 (by omega))⟩
      exact z_rdX_55 hw0 hk hl hn hK m (c + 1) f c y' A S (by omega) (by omega) h3 (by omega) hwA hA hG hR hF (by rw [if_neg (by omega)]; exact eR.symm)
    refine ⟨v4, ?_⟩
    have hZ : ZH S k (qH G k) := hZ
    unfold ZH at hZ
    cases eN : (qH G k).1 with
    | none =>
      rw [eN] at hZ
      rw [hZ]
      exact ⟨fun z => absurd rfl z, fun _ => hbad 1 (by omega) (by omega) (by rw [← e, rdX_none eN])⟩
    | some l' =>
      rw [eN] at hZ
      obtain ⟨c1, c2, c3⟩ := hZ
      have hl' := hw0.2.2.2.2.2.1 k l' eN
      rw [c1, c2]
      refine ⟨fun _ => ⟨v4, fun el => ⟨v4, ?_⟩, fun hne => hbad 3 (by omega) (by omega) (by rw [← e, rdX_3 eN (fun c => hne (by rw [c]))])⟩, fun z => absurd z (oI_ne (by omega))⟩
      have : l' = l := (nI_eq (by omega) (by omega)).mp el
      subst this
      have esum : (x.toInt64 + (nI c).toInt64).toInt = x.toInt + c := by
        have hx := fb_rng x
        have ec : (nI c).toInt64.toInt = (c : Int) := by rw [Int32.toInt_toInt64, nI_toInt (by omega)]
        have ex : x.toInt64.toInt = x.toInt := Int32.toInt_toInt64 x
        rw [fb_addL (by rw [ex, ec]; omega) (by rw [ex, ec]; omega), ex, ec]
      have ehi : (nI (qH G k).2.1 - 1).toInt64.toInt = ((qH G k).2.1 : Int) - 1 := by
        rw [Int32.toInt_toInt64]
        exact pk_sub_toInt (a := (qH G k).2.1) (b := 1) (by omega) (by omega)
      have e0 : (0 : Int64).toInt = 0 := by decide
      refine m_inL (fun z1 z2 => ⟨fun _ => ?_, fun z => absurd z (by decide)⟩) (fun hno => ⟨fun z => absurd rfl z, fun _ => hbad 2 (by omega) (by omega) (by rw [← e, rdX_2 eN (by rw [esum, ehi, e0] at hno; omega)])⟩)
      rw [esum, e0] at z1
      rw [esum, ehi] at z2
      -- the cell
      obtain ⟨j, hj⟩ : ∃ j : Nat, (j : Int) = x.toInt + c := ⟨(x.toInt + c).toNat, by omega⟩
      have exc : (40 : Int32) * nI k + x + nI c = nI (40 * k + j) := by
        have e40 : (40 : Int32) * nI k = nI (40 * k) := pk_mul 40 k
        rw [e40]
        apply Int32.toInt_inj.mp
        have t1 : (nI (40 * k)).toInt = ((40 * k : Nat) : Int) := nI_toInt (by omega)
        have t2 : (nI c).toInt = (c : Int) := nI_toInt (by omega)
        have t3 : (nI (40 * k + j)).toInt = ((40 * k + j : Nat) : Int) := nI_toInt (by omega)
        have s1 : (nI (40 * k) + x).toInt = (nI (40 * k)).toInt + x.toInt := fb_addI (by omega) (by omega)
        rw [fb_addI (by omega) (by omega), s1, t1, t2, t3]
        omega
      unfold wp_X7_read_123
      rw [exc, nI_clamp (n := 40 * k + j) (by omega), c3 j (by omega)]
      refine ⟨fun z => absurd rfl z, fun _ => ⟨vp_in_nI (by omega) (by decide), ?_⟩⟩
      refine z_does hG hwG (fun a S' ha ea hd hR' hF' => ⟨fun _ => nm_r (nI_1 c) (nm_r (nI_1 c) ?_), fun z => absurd z (by decide)⟩) (fun hno => ⟨fun z => absurd rfl z, fun _ => ?_⟩)
      · have hR84 : RM S' 84 (qA G) := hR.fm hF' hw0.1.1 hw0.1.2.2.2.2.2.2.2.2.1 (by omega)
        obtain ⟨ec, eb⟩ := actB_y (A := A) hwA.1 ha ea
        rw [show plD A a = true from hd] at eb
        rw [rdX_a eN hj (by omega) eb, ec] at e
        exact z_rdX_55 hw0 hk hl hn hK m (c + 1) f (c + 1) 0 _ S' (by omega) (by omega) (by omega) (fun _ => rfl) (playF_wf hwA a) ((playF_same A a).1.trans hA) hR' hR84 (hF.tr hF'.fr) (by rw [if_pos rfl]; exact e)
      · have eb : actB A ((qH G k).2.2 j) = false := by
          by_cases ha : ∃ a, okA (aN A) a ∧ (qH G k).2.2 j = nI a
          · obtain ⟨a, ha, ea⟩ := ha
            rw [(actB_y (A := A) hwA.1 ha ea).2]
            exact hno a ha ea
          · exact actB_n (fun a h1 h2 => ha ⟨a, h1, h2⟩)
        rw [rdX_b eN hj (by omega) eb] at e
        subst e
        refine m_copies (a := 84) (b := 0) (by decide) (by decide) (by omega) hR hw0.1.1 hw0.1.2.2.2.2.2.2.2.2.1 (fun S' f' r' => ?_)
        exact hK S' (hG.now hwG f' r') (hF.tr f'.fr)
theorem z_readX {x y z w : Int32} (hG : RZ S G) (hw : wfQ G) (hbad : (∀ k, k ≤ 3 → x ≠ nI k) ∨ (∀ l, l ≤ 2 → y ≠ nI l) ∨ (∀ n, n ≤ 20 → w ≠ nI n) → K (-1) S) (hok : ∀ k l n, k ≤ 3 → x = nI k → l ≤ 2 → y = nI l → n ≤ 20 → w = nI n → ∀ S', RZ S' (rdX G k l z n 0 (qA G)).2 → Fr 28 S S' → K (rdX G k l z n 0 (qA G)).1 S') : wp_X7_read x y z w S K := by
  unfold wp_X7_read
  refine m_in 0 3 (by decide) (by decide) (by decide) (fun k _ hk e => ⟨fun z => absurd z (by decide), fun _ => ?_⟩) (fun h => ⟨fun _ => hbad (Or.inl (fun k hk => h k (Nat.zero_le _) hk)), fun z => absurd rfl z⟩)
  refine m_in 0 2 (by decide) (by decide) (by decide) (fun l _ hl e2 => ⟨fun z => absurd z (by decide), fun _ => ?_⟩) (fun h => ⟨fun _ => hbad (Or.inr (Or.inl (fun k hk => h k (Nat.zero_le _) hk))), fun z => absurd rfl z⟩)
  refine m_in 0 20 (by decide) (by decide) (by decide) (fun n _ hn e3 => ⟨fun _ => ?_, fun z => absurd z (by decide)⟩) (fun h => ⟨fun z => absurd rfl z, fun _ => hbad (Or.inr (Or.inr (fun k hk => h k (Nat.zero_le _) hk)))⟩)
  subst e
  subst e2
  subst e3
  refine m_copies (a := 0) (b := 84) (by decide) (by decide) (by omega) hG.1 hw.1.1 hw.1.2.2.2.2.2.2.2.2.1 (fun S1 f1 r1 => ?_)
  exact z_rdX_55 (G := G) (S0 := S) hw hk hl hn (hok k l n hk rfl hl rfl hn rfl) n 0 2000 0 0 (qA G) S1 (by omega) (by omega) (by omega) (fun _ => rfl) hw.1 rfl (hG.fz hw (f1.fz (by decide))) r1 f1.fr (by rw [if_pos rfl])
end RDX
end
section
section ASK
variable {S S0 : tq_St} {G : aQ} {K : Int32 → tq_St → Prop}
-- HOW MANY BITS, of 21
theorem bk_and {a m x M : Nat} (ha : a < 256) (hm : m < 256) : (a + 256 * x) &&& (m + 256 * M) = (a &&& m) + 256 * (x &&& M) := by
  have e1 : ((a + 256 * x) &&& (m + 256 * M)) % 2 ^ 8 = a &&& m := by
    rw [Nat.and_mod_two_pow, show (a + 256 * x) % 2 ^ 8 = a by omega, show (m + 256 * M) % 2 ^ 8 = m by omega]
  have e2 : ((a + 256 * x) &&& (m + 256 * M)) / 2 ^ 8 = x &&& M := by
    rw [Nat.and_div_two_pow, show (a + 256 * x) / 2 ^ 8 = x by omega, show (m + 256 * M) / 2 ^ 8 = M by omega]
  have h := Nat.mod_add_div ((a + 256 * x) &&& (m + 256 * M)) (2 ^ 8)
  rw [e1, e2] at h
  omega
theorem bk_and3 {a b c m : Nat} (ha : a < 256) (hb : b < 256) (hc : c < 256) (hm : m < 256) : (a + 256 * (b + 256 * c)) &&& (m + 256 * (m + 256 * m)) = (a &&& m) + 256 * ((b &&& m) + 256 * (c &&& m)) := by
  rw [bk_and ha hm, bk_and hb hm]
theorem bk_andC {a b c m M : Nat} (ha : a < 256) (hb : b < 256) (hc : c < 256) (hm : m < 256) : (a + 256 * (b + 256 * c)) &&& (m + 256 * (m + 256 * (m + 256 * M))) = (a &&& m) + 256 * ((b &&& m) + 256 * (c &&& m)) := by
  have h0 : c &&& (m + 256 * M) = c &&& m := by
    have := bk_and (a := c) (m := m) (x := 0) (M := M) hc hm
    rw [Nat.mul_zero, Nat.add_zero, Nat.zero_and, Nat.mul_zero, Nat.add_zero] at this
    exact this
  rw [bk_and ha hm, bk_and hb hm, h0]
def bkC (b : Nat) : Nat := b - (b / 2 &&& 85)
def bkD (c : Nat) : Nat := (c &&& 51) + (c / 4 &&& 51)
def bkE (d : Nat) : Nat := (d + d / 16) &&& 15
theorem bk_1 : ∀ b, b < 256 → ∀ t, t < 2 → (b / 2 + t * 128) &&& 85 = b / 2 &&& 85 := by decide +kernel
theorem bk_2 : ∀ b, b < 256 → ∀ t, t < 4 → (b / 4 + t * 64) &&& 51 = b / 4 &&& 51 := by decide +kernel
theorem bk_c : ∀ b, b < 256 → bkC b < 256 ∧ b / 2 &&& 85 ≤ b ∧ bkD (bkC b) % 16 ≤ 4 ∧ bkD (bkC b) ≤ 68 ∧ bkE (bkD (bkC b)) = fb_ct (fun i => b.testBit i) 8 := by decide +kernel
theorem bk_3 : ∀ d, d ≤ 72 → ∀ t, t < 5 → (d + t * 16) &&& 15 = d &&& 15 := by decide +kernel
/-- the sum of the bits, as the machine's own member finds it -/
theorem bk_all {w : Nat} (hw : w < 2 ^ 21) (s1 s2 s3 s4 s5 : Nat) (h1 : s1 = w - (w / 2 &&& 1431655765)) (h2 : s2 = (s1 &&& 858993459) + (s1 / 4 &&& 858993459)) (h3 : s3 = (s2 + s2 / 16) &&& 252645135) (h4 : s4 = s3 + s3 / 256) (h5 : s5 = s4 + s4 / 65536) : s1 ≤ w ∧ w / 2 &&& 1431655765 ≤ w ∧ s2 < 2 ^ 24 ∧ s3 < 2 ^ 24 ∧ s4 < 2 ^ 25 ∧ s5 < 2 ^ 26 ∧ s5 % 64 = pcN w := by
  obtain ⟨b0, b1, b2, hb0, hb1, hb2, ew⟩ : ∃ b0 b1 b2, b0 < 256 ∧ b1 < 256 ∧ b2 < 32 ∧ w = b0 + 256 * (b1 + 256 * b2) := ⟨w % 256, w / 256 % 256, w / 65536, by omega, by omega, by omega, by omega⟩
  obtain ⟨c0l, c0s, d0m, d0l, e0⟩ := bk_c b0 hb0
  obtain ⟨c1l, c1s, d1m, d1l, e1⟩ := bk_c b1 hb1
  obtain ⟨c2l, c2s, d2m, d2l, e2⟩ := bk_c b2 (by omega)
  have a1 : w / 2 &&& 1431655765 = (b0 / 2 &&& 85) + 256 * ((b1 / 2 &&& 85) + 256 * (b2 / 2 &&& 85)) := by
    have ew2 : w / 2 = (b0 / 2 + b1 % 2 * 128) + 256 * ((b1 / 2 + b2 % 2 * 128) + 256 * (b2 / 2)) := by omega
    have h := bk_andC (a := b0 / 2 + b1 % 2 * 128) (b := b1 / 2 + b2 % 2 * 128) (c := b2 / 2) (m := 85) (M := 85) (by omega) (by omega) (by omega) (by omega)
    rw [bk_1 b0 hb0 _ (by omega), bk_1 b1 hb1 _ (by omega)] at h
    rw [ew2]
    exact h
  have es1 : s1 = bkC b0 + 256 * (bkC b1 + 256 * bkC b2) := by
    rw [h1, a1, ew]
    unfold bkC
    omega
  have es2 : s2 = bkD (bkC b0) + 256 * (bkD (bkC b1) + 256 * bkD (bkC b2)) := by
    have q1 : s1 / 4 = (bkC b0 / 4 + bkC b1 % 4 * 64) + 256 * ((bkC b1 / 4 + bkC b2 % 4 * 64) + 256 * (bkC b2 / 4)) := by omega
    have h := bk_andC (a := bkC b0 / 4 + bkC b1 % 4 * 64) (b := bkC b1 / 4 + bkC b2 % 4 * 64) (c := bkC b2 / 4) (m := 51) (M := 51) (by omega) (by omega) (by omega) (by omega)
    rw [bk_2 (bkC b0) c0l _ (by omega), bk_2 (bkC b1) c1l _ (by omega)] at h
    have h' := bk_andC (a := bkC b0) (b := bkC b1) (c := bkC b2) (m := 51) (M := 51) c0l c1l c2l (by omega)
    have g1 : s1 / 4 &&& 858993459 = (bkC b0 / 4 &&& 51) + 256 * ((bkC b1 / 4 &&& 51) + 256 * (bkC b2 / 4 &&& 51)) := by rw [q1]; exact h
    have g2 : s1 &&& 858993459 = (bkC b0 &&& 51) + 256 * ((bkC b1 &&& 51) + 256 * (bkC b2 &&& 51)) := by rw [es1]; exact h'
    rw [h2, g1, g2]
    unfold bkD
    omega
  generalize bkD (bkC b0) = d0 at d0m d0l e0 es2
  generalize bkD (bkC b1) = d1 at d1m d1l e1 es2
  generalize bkD (bkC b2) = d2 at d2m d2l e2 es2
  have es3 : s3 = bkE d0 + 256 * (bkE d1 + 256 * bkE d2) := by
    have q1 : s2 + s2 / 16 = (d0 + d0 / 16 + d1 % 16 * 16) + 256 * ((d1 + d1 / 16 + d2 % 16 * 16) + 256 * (d2 + d2 / 16)) := by omega
    have h := bk_andC (a := d0 + d0 / 16 + d1 % 16 * 16) (b := d1 + d1 / 16 + d2 % 16 * 16) (c := d2 + d2 / 16) (m := 15) (M := 15) (by omega) (by omega) (by omega) (by omega)
    rw [bk_3 (d0 + d0 / 16) (by omega) _ (by omega), bk_3 (d1 + d1 / 16) (by omega) _ (by omega)] at h
    rw [h3, q1]
    exact h
  have f0 := fb_ct_le (fun i => b0.testBit i) 8
  have f1 := fb_ct_le (fun i => b1.testBit i) 8
  have f2 := fb_ct_le (fun i => b2.testBit i) 8
  rw [e0, e1, e2] at es3
  have hp : pcN w = fb_ct (fun i => b0.testBit i) 8 + (fb_ct (fun i => b1.testBit i) 8 + fb_ct (fun i => b2.testBit i) 8) := by
    rw [pcN_split (i := 24) (by omega) (by omega) (by omega)]
    rw [fb_ct_split (fun i => w.testBit i) 8 16, fb_ct_split (fun k => w.testBit (8 + k)) 8 8]
    have t1 : w / 2 ^ 8 = b1 + 256 * b2 := by omega
    have t2 : w / 2 ^ 16 = b2 := by omega
    have hlo : ∀ (b x k : Nat), b < 256 → k < 8 → (b + 256 * x).testBit k = b.testBit k := by
      intro b x k hb hk
      have h := Nat.testBit_mod_two_pow (b + 256 * x) 8 k
      rw [show (b + 256 * x) % 2 ^ 8 = b by omega, decide_eq_true hk, Bool.true_and] at h
      exact h.symm
    congr 1
    · exact fb_ct_cong (fun k hk => by rw [ew]; exact hlo b0 _ k hb0 hk)
    · congr 1
      · refine fb_ct_cong (fun k hk => ?_)
        have this : (w / 2 ^ 8).testBit k = w.testBit (k + 8) := Nat.testBit_div_two_pow w k
        rw [Nat.add_comm, ← this, t1]
        exact hlo b1 _ k hb1 hk
      · refine fb_ct_cong (fun k hk => ?_)
        have this : (w / 2 ^ 16).testBit k = w.testBit (k + 16) := Nat.testBit_div_two_pow w k
        rw [t2] at this
        rw [this]
        congr 1
        omega
  generalize fb_ct (fun i => b0.testBit i) 8 = E0 at f0 es3 hp
  generalize fb_ct (fun i => b1.testBit i) 8 = E1 at f1 es3 hp
  generalize fb_ct (fun i => b2.testBit i) 8 = E2 at f2 es3 hp
  have es4 : s4 = (E0 + E1) + 256 * (E1 + E2) + 65536 * E2 := by omega
  have es5 : s5 = (E0 + E1 + E2) + 256 * (E1 + E2) + 65536 * E2 := by omega
  refine ⟨by omega, ?_, by omega, by omega, by omega, by omega, ?_⟩
  · rw [a1, ew]
    omega
  · rw [hp, es5]
    omega
theorem nI_land {a b : Nat} (ha : a < 2 ^ 32) (hb : b < 2 ^ 32) : nI a &&& nI b = nI (a &&& b) := by
  apply Int32.toBitVec_inj.1
  show BitVec.ofNat 32 a &&& BitVec.ofNat 32 b = BitVec.ofNat 32 (a &&& b)
  rw [BitVec.ofNat_and]
theorem c_bitCount21 {w : Nat} (h : w < 2 ^ 21) (hK : K (nI (pcN w)) S) : wp_J6_bitCount_0f7a4 (nI w) S K := by
  obtain ⟨k1, k2, k3, k4, k5, k6, k7⟩ := bk_all h _ _ _ _ _ rfl rfl rfl rfl rfl
  unfold wp_J6_bitCount_0f7a4
  have m5 : (1431655765 : Int32) = nI 1431655765 := rfl
  have m3 : (858993459 : Int32) = nI 858993459 := rfl
  have m0 : (252645135 : Int32) = nI 252645135 := rfl
  rw [m5, m3, m0]
  refine nm_r (e' := nI (w - (w / 2 &&& 1431655765))) (by rw [pk_ushrN (by omega) 1 1 (by decide), Nat.pow_one, nI_land (by omega) (by decide), pk_sub k2]) ?_
  generalize hs1 : w - (w / 2 &&& 1431655765) = s1 at k1 k3 k4 k5 k6 k7 ⊢
  refine nm_r (e' := nI ((s1 &&& 858993459) + (s1 / 4 &&& 858993459))) (by rw [pk_ushrN (by omega) 2 2 (by decide), nI_land (by omega) (by decide), nI_land (by omega) (by decide), nI_add]) ?_
  generalize hs2 : (s1 &&& 858993459) + (s1 / 4 &&& 858993459) = s2 at k3 k4 k5 k6 k7 ⊢
  refine nm_r (e' := nI ((s2 + s2 / 16) &&& 252645135)) (by rw [pk_ushrN (by omega) 4 4 (by decide), nI_add, nI_land (by omega) (by decide)]) ?_
  generalize hs3 : (s2 + s2 / 16) &&& 252645135 = s3 at k4 k5 k6 k7 ⊢
  refine nm_r (e' := nI (s3 + s3 / 256)) (by rw [pk_ushrN (by omega) 8 8 (by decide), nI_add]) ?_
  generalize hs4 : s3 + s3 / 256 = s4 at k5 k6 k7 ⊢
  refine nm_r (e' := nI (s4 + s4 / 65536)) (by rw [pk_ushrN (by omega) 16 16 (by decide), nI_add]) ?_
  rw [pk_andN (by omega) 6 (by decide), show (2 : Nat) ^ 6 = 64 from rfl, k7]
  exact hK
-- WHOM TO ASK
def asG (G : aQ) (p q k : Nat) : Nat := fb_ct (fun s => (sorB G p 21).testBit s && (ocF (qA G) p s).testBit q) k
def asS (G : aQ) (p q k : Nat) : Nat := fb_ct (fun s => (sorB G p 21).testBit s && !(ocF (qA G) p s).testBit q) k
def asW (G : aQ) (p q : Nat) : Nat := if asG G p q 21 < asS G p q 21 then asS G p q 21 else asG G p q 21
def asL (G : aQ) (p : Nat) : Nat → Nat → Nat → Int32 → Nat × Int32
  | 0, _, b, w => (b, w)
  | m + 1, q, b, w => if b ≤ asW G p q then asL G p m (q + 1) b w else asL G p m (q + 1) (asW G p q) (nI q)
def asR (y : Int32) (r : Nat × Int32) : Int32 := if r.2 = -4 then -4 else if y = 0 then r.2 else nI r.1
theorem as_sum (G : aQ) (p q : Nat) : ∀ k, fb_ct (fun s => (sorB G p 21).testBit s) k = asG G p q k + asS G p q k
  | 0 => rfl
  | k + 1 => by
    have ih := as_sum G p q k
    unfold asG asS at ih ⊢
    rw [fb_ct_succ, fb_ct_succ, fb_ct_succ, ih]
    cases (sorB G p 21).testBit k <;> cases (ocF (qA G) p k).testBit q <;> simp <;> omega
theorem as_tot (G : aQ) (p q : Nat) : pcN (sorB G p 21) = asG G p q 21 + asS G p q 21 := by
  have h := sorB_lt G p 21
  rw [pcN_split (i := 21) (by omega) (by omega) (by omega)]
  exact as_sum G p q 21
theorem as_le (G : aQ) (p q : Nat) : asG G p q 21 ≤ 21 ∧ asS G p q 21 ≤ 21 ∧ asW G p q ≤ 21 := by
  have h1 : asG G p q 21 ≤ 21 := fb_ct_le _ 21
  have h2 : asS G p q 21 ≤ 21 := fb_ct_le _ 21
  refine ⟨h1, h2, ?_⟩
  unfold asW
  split <;> omega
theorem oc_lt (hw : wfQ G) {p s : Nat} (hs : s ≤ 40) : ocF (qA G) p s < 2 ^ 31 := by
  have hw2 := alterS_wf hw.1 (p := p) (v := s) hs
  exact Nat.lt_of_lt_of_le (planR_ok hw2).1.gl (by decide)
theorem q_worstX {p q : Nat} (hw : wfQ G) (hq : q < 5) (hO : ∀ s, s < 21 → S.2.1 27 9 s = nI (ocF (qA G) p s)) (hK : K (nI (asW G p q)) S) : ∀ (m k f : Nat), k + m = 21 → m < f → wp_X6_leftAtWorst_8 K f (nI (sorB G p 21)) (nI q) (nI (asG G p q k)) (nI (asS G p q k)) (nI k) S
  | 0, k, f + 1, h1, h2 => by
    have e : k = 21 := by omega
    subst e
    obtain ⟨a1, a2, -⟩ := as_le G p q
    refine pk_lt 20 21 (fun _ => ?_) (fun z => absurd z (by omega))
    have ei : (if nI (asG G p q 21) < nI (asS G p q 21) then nI (asS G p q 21) else nI (asG G p q 21)) = nI (asW G p q) := by
      unfold asW
      by_cases c : asG G p q 21 < asS G p q 21
      · rw [if_pos c, if_pos ((nI_ltI (by omega) (by omega)).mpr c)]
      · rw [if_neg c, if_neg (fun z => c ((nI_ltI (by omega) (by omega)).mp z))]
    rw [ei]
    exact hK
  | m + 1, k, f + 1, h1, h2 => by
    have hlt := sorB_lt G p 21
    have hoc := oc_lt hw (p := p) (s := k) (by omega)
    have ih := q_worstX hw hq hO hK m (k + 1) f (by omega) (by omega)
    have eG : asG G p q (k + 1) = asG G p q k + (if (sorB G p 21).testBit k && (ocF (qA G) p k).testBit q then 1 else 0) := fb_ct_succ _ k
    have eS : asS G p q (k + 1) = asS G p q k + (if (sorB G p 21).testBit k && !(ocF (qA G) p k).testBit q then 1 else 0) := fb_ct_succ _ k
    rw [eG, eS] at ih
    unfold wp_X6_leftAtWorst_8
    rw [nI_clamp (by omega), hO k (by omega), zb_1 (by omega) (by omega), zb_1 hoc (by omega)]
    refine pk_lt 20 k (fun z => absurd z (by omega)) (fun _ => ⟨fun z => nm_r (nI_1 k) ?_, fun z => ⟨vp_in_nI (by omega) (by decide), fun z2 => nm_r (nI_1 _) (nm_r (nI_1 k) ?_), fun z2 => nm_r (nI_1 _) (nm_r (nI_1 k) ?_)⟩⟩)
    · have z : (sorB G p 21).testBit k = false := by simpa using z
      rw [z] at ih
      exact ih
    · have z2 : (ocF (qA G) p k).testBit q = false := by simpa using z2
      rw [z, z2] at ih
      exact ih
    · rw [z, z2] at ih
      exact ih
theorem q_askX_39 {p : Nat} {y : Int32} (hw : wfQ G) (h5 : S.1 0 5 = nI (aN (qA G))) (hO : ∀ s, s < 21 → S.2.1 27 9 s = nI (ocF (qA G) p s)) {R : Nat × Int32} (hK : K (asR y R) S) : ∀ (m q f b : Nat) (w : Int32), q + m = aN (qA G) → m < f → b ≤ 31 → asL G p m q b w = R → wp_X6_ask_39 K f y (nI (sorB G p 21)) (nI b) w (nI q) S
  | 0, q, f + 1, b, w, h1, h2, hb, e => by
    have hn := hw.1.1
    subst e
    unfold wp_X6_ask_39
    rw [h5]
    refine pk_le (aN (qA G)) q (fun _ => ?_) (fun z => absurd z (by omega))
    unfold asR asL at hK
    refine ⟨fun z => ?_, fun z => ⟨fun z2 => ?_, fun z2 => ?_⟩⟩
    · by_cases c : w = -4
      · rw [if_pos c] at hK; rw [c]; exact hK
      · rw [if_neg c, if_pos z] at hK; exact hK
    · rw [if_neg z2, if_neg z] at hK; exact hK
    · rw [if_pos z2] at hK; rw [z2]; exact hK
  | m + 1, q, f + 1, b, w, h1, h2, hb, e => by
    have hn := hw.1.1
    obtain ⟨-, -, a3⟩ := as_le G p q
    unfold asL at e
    unfold wp_X6_ask_39
    rw [h5]
    refine pk_le (aN (qA G)) q (fun z => absurd z (by omega)) (fun _ => ?_)
    refine q_worstX (p := p) (q := q) hw (by omega) hO ?_ 21 0 2000 (by omega) (by omega)
    refine pk_le b (asW G p q) (fun z => nm_r (nI_1 q) ?_) (fun z => nm_r (nI_1 q) ?_)
    · rw [if_pos z] at e
      exact q_askX_39 hw h5 hO hK m (q + 1) f b w (by omega) (by omega) hb e
    · rw [if_neg (by omega)] at e
      exact q_askX_39 hw h5 hO hK m (q + 1) f _ _ (by omega) (by omega) (by omega) e
theorem q_askX {x y : Int32} (hG : RQ S G) (hw : wfQ G) (hbad : (∀ p, p < aN (qA G) → x ≠ nI p) ∨ (∀ w, w ≤ 1 → y ≠ nI w) → K (-1) S) (hok : ∀ p w, p < aN (qA G) → x = nI p → w ≤ 1 → y = nI w → ∀ S', RQ S' G → FC S S' → K (asR y (asL G p (aN (qA G)) 0 (pcN (sorB G p 21)) (-4))) S') : wp_X6_ask x y S K := by
  unfold wp_X6_ask
  refine c_isThere hG.1.1 hw.1.1 (fun p hp e => ⟨fun z => absurd z (by decide), fun _ => ?_⟩) (fun hno => ⟨fun _ => hbad (Or.inl hno), fun z => absurd rfl z⟩)
  subst e
  refine q_01 (fun w hw1 e => ⟨fun _ => ?_, fun z => absurd z (by decide)⟩) (fun hno => ⟨fun z => absurd rfl z, fun _ => hbad (Or.inr hno)⟩)
  refine q_poss hG hw hp (fun S' f hO => ?_)
  have hG' := hG.fx f
  have hlt := sorB_lt G p 21
  refine c_bitCount21 hlt ?_
  exact q_askX_39 (p := p) hw hG'.1.1 hO (hok p w hp rfl hw1 e S' hG' f.fc) (aN (qA G)) 0 2000 _ _ (by omega) (by have := hw.1.1; omega) (pcN_le _) rfl
theorem z_askX_58 {rec43 : Int32 → Int32 → Int32 → Int32 → Int32 → Int32 → tq_St → Prop} {v2 w : Int32} {p q b : Nat} (hw : wfQ G) (hq : q < 5) (hb : b ≤ 31) (hO : ∀ s, s < 21 → S.2.1 28 23 s = nI (ocF (qA G) p s)) (h1 : b ≤ asW G p q → rec43 v2 (nI (sorB G p 21)) (nI (pcN (sorB G p 21))) (nI b) w (nI (q + 1)) S) (h0 : asW G p q < b → rec43 v2 (nI (sorB G p 21)) (nI (pcN (sorB G p 21))) (nI (asW G p q)) (nI q) (nI (q + 1)) S) : ∀ (m k f : Nat), k + m = 21 → m < f → wp_X7_ask_58 K rec43 f v2 (nI (sorB G p 21)) (nI (pcN (sorB G p 21))) (nI b) w (nI q) (nI (asG G p q k)) (nI k) S := by
  obtain ⟨a1, a2, a3⟩ := as_le G p q
  have h122 : wp_X7_ask_122 K rec43 v2 (nI (sorB G p 21)) (nI (pcN (sorB G p 21))) (nI b) w (nI q) (nI (asW G p q)) S := by
    refine pk_le b (asW G p q) (fun z => pk_le b (asW G p q) (fun z => nm_r (nI_1 q) (h1 z)) (fun z2 => absurd z (by omega))) (fun z => pk_le b (asW G p q) (fun z2 => absurd z (by omega)) (fun z => nm_r (nI_1 q) (h0 z)))
  intro m
  induction m with
  | zero =>
    intro k f g1 g2
    obtain ⟨f, rfl⟩ : ∃ j, f = j + 1 := ⟨f - 1, by omega⟩
    have e : k = 21 := by omega
    subst e
    unfold wp_X7_ask_58
    have ht := as_tot G p q
    have es : nI (pcN (sorB G p 21)) - nI (asG G p q 21) = nI (asS G p q 21) := by
      rw [ht, pk_sub (by omega)]
      congr 1
      omega
    rw [es]
    refine pk_lt 20 21 (fun _ => pk_le (asG G p q 21) (asS G p q 21) (fun z => ?_) (fun z => ?_)) (fun z => absurd z (by omega))
    · have e : asW G p q = asS G p q 21 := by unfold asW; split <;> omega
      rw [e] at h122
      exact h122
    · have e : asW G p q = asG G p q 21 := by unfold asW; rw [if_neg (by omega)]
      rw [e] at h122
      exact h122
  | succ m ih =>
    intro k f g1 g2
    obtain ⟨f, rfl⟩ : ∃ j, f = j + 1 := ⟨f - 1, by omega⟩
    have hlt := sorB_lt G p 21
    have hoc := oc_lt hw (p := p) (s := k) (by omega)
    have ih := ih (k + 1) f (by omega) (by omega)
    have eG : asG G p q (k + 1) = asG G p q k + (if (sorB G p 21).testBit k && (ocF (qA G) p k).testBit q then 1 else 0) := fb_ct_succ _ k
    rw [eG] at ih
    unfold wp_X7_ask_58
    rw [nI_clamp (by omega), hO k (by omega), zb_1 (by omega) (by omega), zb_val hoc (by omega)]
    refine pk_lt 20 k (fun z => absurd z (by omega)) (fun _ => ⟨fun z => ?_, fun z => ⟨vp_in_nI (by omega) (by decide), ?_⟩⟩)
    · have z : (sorB G p 21).testBit k = false := by simpa using z
      rw [z] at ih
      unfold wp_X7_ask_93
      exact nm_r (e' := nI (asG G p q k)) (show nI (asG G p q k) + nI 0 = nI (asG G p q k) from i_add0 _) (nm_r (nI_1 k) ih)
    · rw [z] at ih
      unfold wp_X7_ask_93
      refine nm_r (nI_add _ _) (nm_r (nI_1 k) ?_)
      rw [Bool.true_and] at ih
      exact ih
theorem z_askX_43 {p : Nat} {y : Int32} (hw : wfQ G) (h5 : S.1 28 2 = nI (aN (qA G))) (hO : ∀ s, s < 21 → S.2.1 28 23 s = nI (ocF (qA G) p s)) {R : Nat × Int32} (hK : K (asR y R) S) : ∀ (m q f b : Nat) (w : Int32), q + m = aN (qA G) → m < f → b ≤ 31 → asL G p m q b w = R → wp_X7_ask_43 K f y (nI (sorB G p 21)) (nI (pcN (sorB G p 21))) (nI b) w (nI q) S
  | 0, q, f + 1, b, w, h1, h2, hb, e => by
    have hn := hw.1.1
    subst e
    unfold wp_X7_ask_43
    rw [h5]
    refine pk_le (aN (qA G)) q (fun _ => ?_) (fun z => absurd z (by omega))
    unfold asR asL at hK
    refine ⟨fun z => ?_, fun z => ⟨fun z2 => ?_, fun z2 => ?_⟩⟩
    · rw [if_pos z] at hK; rw [z]; exact hK
    · rw [if_neg z, if_neg z2] at hK; exact hK
    · rw [if_neg z, if_pos z2] at hK; exact hK
  | m + 1, q, f + 1, b, w, h1, h2, hb, e => by
    have hn := hw.1.1
    obtain ⟨-, -, a3⟩ := as_le G p q
    unfold asL at e
    unfold wp_X7_ask_43
    rw [h5]
    refine pk_le (aN (qA G)) q (fun z => absurd z (by omega)) (fun _ => ?_)
    refine z_askX_58 (p := p) (q := q) hw (by omega) hb hO (fun z => ?_) (fun z => ?_) 21 0 2000 (by omega) (by omega)
    · rw [if_pos z] at e
      exact z_askX_43 hw h5 hO hK m (q + 1) f b w (by omega) (by omega) hb e
    · rw [if_neg (by omega)] at e
      exact z_askX_43 hw h5 hO hK m (q + 1) f _ _ (by omega) (by omega) (by omega) e
theorem z_askX {x y : Int32} (hG : RZ S G) (hw : wfQ G) (hbad : (∀ p, p < aN (qA G) → x ≠ nI p) ∨ (∀ w, w ≤ 1 → y ≠ nI w) → K (-1) S) (hok : ∀ p w, p < aN (qA G) → x = nI p → w ≤ 1 → y = nI w → ∀ S', RZ S' G → Fr 28 S S' → K (asR y (asL G p (aN (qA G)) 0 (pcN (sorB G p 21)) (-4))) S') : wp_X7_ask x y S K := by
  unfold wp_X7_ask
  refine m_isOne hG.1.1 hw.1.1 (fun p hp e => ⟨fun z => absurd z (by decide), fun _ => ?_⟩) (fun hno => ⟨fun _ => hbad (Or.inl hno), fun z => absurd rfl z⟩)
  subst e
  refine m_in 0 1 (by decide) (by decide) (by decide) (fun w _ hw1 e => ⟨fun _ => ?_, fun z => absurd z (by decide)⟩) (fun h => ⟨fun z => absurd rfl z, fun _ => hbad (Or.inr (fun k hk => h k (Nat.zero_le _) hk))⟩)
  refine z_sorrowsOf hG hw hp (fun S' f hO => ?_)
  have hG' := hG.fz hw f
  have hlt := sorB_lt G p 21
  refine m_bitsOf (Nat.lt_of_lt_of_le hlt (by decide)) ?_
  exact z_askX_43 (p := p) hw hG'.1.1 hO (hok p w hp rfl hw1 e S' hG' f.1) (aN (qA G)) 0 2000 _ _ (by omega) (by have := hw.1.1; omega) (pcN_le _) rfl
end ASK
end
section
section HOM
variable {S S0 : tq_St} {G : aQ} {K : Int32 → tq_St → Prop}
-- A WAY HOME: rows as numbers to the base 5
def hoL (f : Nat → Option Nat) : Nat → Nat → Option Nat
  | 0, _ => none
  | m + 1, a => match f a with
    | some c => some c
    | none => hoL f m (a + 1)
def hoD (p N : Nat) : Nat → Nat → aE → Option Nat
  | 0, c, A => if (aG (boardF A)).testBit p then some c else none
  | e + 1, c, A => hoL (fun a => hoD p N e (5 * c + a) (playF A a)) N 0
def hoN (p : Nat) (A : aE) : Nat → Nat → Option (Nat × Nat)
  | 0, _ => none
  | m + 1, n => match hoD p (aN A) n 0 A with
    | some c => some (n, c)
    | none => hoN p A m (n + 1)
def hoR (w : Nat) : Option (Nat × Nat) → Int32
  | none => -4
  | some (n, c) => if w = 0 then nI n else if n ≤ w - 10 then -4 else nI (figN c 5 n (w - 10))
theorem hoR_s {w n c : Nat} : hoR w (some (n, c)) = (if w = 0 then nI n else if n ≤ w - 10 then -4 else nI (figN c 5 n (w - 10))) := rfl
theorem fig_new {c a d : Nat} (ha : a < 5) : figN (5 * c + a) 5 (d + 1) d = a := by
  unfold figN
  rw [show d + 1 - 1 - d = 0 by omega, Nat.pow_zero, Nat.div_one]
  omega
theorem fig_old {c a d i : Nat} (ha : a < 5) (hi : i < d) : figN (5 * c + a) 5 (d + 1) i = figN c 5 d i := by
  unfold figN
  have e : d + 1 - 1 - i = (d - 1 - i) + 1 := by omega
  rw [e, Nat.pow_succ, Nat.mul_comm (5 ^ (d - 1 - i)) 5, ← Nat.div_div_eq_div_mul, show (5 * c + a) / 5 = c by omega]
theorem playF_g {A : aE} {a : Nat} (ha : a < 5) : aG (playF A a) = aG A := by
  unfold playF
  rw [if_neg (by omega), if_neg (by omega)]
  split <;> rfl
-- the class
theorem c_keepRowX {d : Nat} {K : tq_St → Prop} (hd : d ≤ 4) (hK : ∀ S', Fr 21 S S' → S'.1 21 3 = nI d → (∀ i, i < d → S'.2.1 21 2 i = S.2.1 21 1 i) → S'.2.1 21 1 = S.2.1 21 1 → K S') : wp_X2_keepRow (nI d) S K := by
  unfold wp_X2_keepRow
  rw [nI_clamp (by omega)]
  refine ⟨nI_pos (by omega), hd, hd, nm_e (nm_e ?_)⟩
  refine hK _ ((Fr.rf.C _ _).I _ _) (by rw [sI_1, if_pos rfl]) (fun i hi => ?_) ?_
  · show (sC S 21 2 (va_cpy (S.2.1 21 1) (S.2.1 21 2) 0 0 d)).2.1 21 2 i = _
    rw [sC_2, if_pos rfl, sb_cpy0 hi]
  · show (sC S 21 2 (va_cpy (S.2.1 21 1) (S.2.1 21 2) 0 0 d)).2.1 21 1 = _
    rw [sC_2, if_neg (by decide)]
theorem c_homeLeafX {d c p N : Nat} {A : aE} {rec : Int32 → Int32 → Int32 → tq_St → (Int32 → tq_St → Prop) → Prop} (hd : d ≤ 3) (hR : RC S (3 + d) A) (hw : wfE A) (hp : p < aN A) (hrow : ∀ i, i < d → S.2.1 21 1 i = nI (figN c 5 d i)) (h1 : ∀ c', hoD p N 0 c A = some c' → ∀ S', FL 3 d S S' → S'.1 21 3 = nI d → (∀ i, i < d → S'.2.1 21 2 i = nI (figN c' 5 d i)) → K 1 S') (h0 : hoD p N 0 c A = none → ∀ S', FL 3 d S S' → (∀ i, i < d → S'.2.1 21 1 i = S.2.1 21 1 i) → K 0 S') : wp_X2_isHome_10 rec K (nI d) (nI p) S := by
  unfold wp_X2_isHome_10
  rw [nI_1, nI_clamp (n := d) (by omega), nI_clamp (n := d + 1) (by omega)]
  have i5 : vp_in (nI d) 5 := vp_in_nI (by omega) (by decide)
  have i6 : vp_in (nI (d + 1)) 5 := vp_in_nI (by omega) (by decide)
  refine ⟨i6, i5, ?_⟩
  refine c_copyFrom (o := 3 + (d + 1)) hR hw (by omega) (fun S1 a1 a2 _ _ _ => ⟨i6, ?_⟩)
  refine c_board a1 hw (fun S2 b1 b2 _ => ?_)
  refine c_keepRowX (by omega) (fun S3 f3 e3 e4 e5 => ⟨i6, ?_⟩)
  have b3 := b1.fr f3 (by omega)
  have hF : FL 3 d S S3 := ((a2.fl (Or.inl (by omega)) (Or.inr (by omega))).tr (b2.fl (Or.inl (by omega)) (Or.inr (by omega)))).tr (f3.fl (Or.inr rfl) (Or.inr (by omega)))
  have r2 : S2.2.1 21 = S.2.1 21 := (b2.1 21 (by omega)).2.trans (a2.1 21 (by omega)).2
  have hwb := boardF_wf hw
  refine c_waitsN b3.1 hw.1 b3.2.1 hwb.g31 hp (fun hb => ⟨fun _ => ?_, fun z => absurd z (by decide)⟩) (fun hb => ⟨fun z => absurd rfl z, fun _ => ?_⟩)
  · refine h0 (by unfold hoD; rw [if_neg (by rw [hb]; decide)]) S3 hF (fun i hi => ?_)
    rw [e5, r2]
  · refine h1 c (by unfold hoD; rw [if_pos hb]) S3 hF e3 (fun i hi => ?_)
    rw [e4 i hi, r2]
    exact hrow i hi
theorem c_isHomeX {n N p : Nat} (hn : n ≤ 3) (hN : N ≤ 5) (hp : p < N) : ∀ (e d r c : Nat) (A : aE) (S : tq_St) (K : Int32 → tq_St → Prop), d + e = n → e < r → RC S (3 + d) A → wfE A → aN A = N → S.1 3 5 = nI N → (∀ i, i < d → S.2.1 21 1 i = nI (figN c 5 d i)) → (∀ c', hoD p N e c A = some c' → ∀ S', FL 3 d S S' → S'.1 21 3 = nI n → (∀ i, i < n → S'.2.1 21 2 i = nI (figN c' 5 n i)) → K 1 S') → (hoD p N e c A = none → ∀ S', FL 3 d S S' → (∀ i, i < d → S'.2.1 21 1 i = S.2.1 21 1 i) → K 0 S') → wp_X2_isHome r (nI d) (nI n) (nI p) S K := by
  intro e
  induction e with
  | zero =>
    intro d r c A S K h1 h2 hR hw hA h35 hrow hK1 hK0
    obtain ⟨r, rfl⟩ : ∃ k, r = k + 1 := ⟨r - 1, by omega⟩
    have hdn : d = n := by omega
    subst hdn
    unfold wp_X2_isHome
    exact pk_le d d (fun _ => c_homeLeafX (N := N) hn hR hw (by omega) hrow hK1 hK0) (fun z => absurd z (by omega))
  | succ e ih =>
    intro d r c A S K h1 h2 hR hw hA h35 hrow hK1 hK0
    obtain ⟨r, rfl⟩ : ∃ k, r = k + 1 := ⟨r - 1, by omega⟩
    unfold wp_X2_isHome
    have c0 : (0 : Int32).toNatClampNeg = 0 := by decide
    rw [c0, h35]
    refine pk_le n d (fun z => absurd z (by omega)) (fun _ => pk_lt d 3 (fun _ => ⟨vp_in_nI (n := 0) (by decide) (by decide), nm_e ?_⟩) (fun z => absurd z (by omega)))
    have hloop : ∀ (m a f : Nat) (S' : tq_St), a + m = N → m < f → FL 3 d S S' → (∀ i, i < d → S'.2.1 21 1 i = S.2.1 21 1 i) → hoD p N (e + 1) c A = hoL (fun a => hoD p N e (5 * c + a) (playF A a)) m a → wp_X2_isHome_79 (wp_X2_isHome r) K f (nI d) (nI n) (nI p) (nI N) (nI a) S' := by
      intro m
      induction m with
      | zero =>
        intro a f S' g1 g2 hF hro hD
        obtain ⟨f, rfl⟩ : ∃ k, f = k + 1 := ⟨f - 1, by omega⟩
        unfold wp_X2_isHome_79
        exact pk_le N a (fun _ => hK0 hD S' hF hro) (fun z => absurd z (by omega))
      | succ m ihm =>
        intro a f S' g1 g2 hF hro hD
        obtain ⟨f, rfl⟩ : ∃ k, f = k + 1 := ⟨f - 1, by omega⟩
        unfold wp_X2_isHome_79
        refine pk_le N a (fun z => absurd z (by omega)) (fun hc => ?_)
        rw [nI_1, nI_clamp (n := d) (by omega), nI_clamp (n := d + 1) (by omega)]
        have i4 : vp_in (nI d) 4 := vp_in_nI (by omega) (by decide)
        have i5 : vp_in (nI d) 5 := vp_in_nI (by omega) (by decide)
        have i6 : vp_in (nI (d + 1)) 5 := vp_in_nI (by omega) (by decide)
        refine ⟨i4, nm_e ⟨i6, i5, ?_⟩⟩
        have hR1 := hR.fl hF
        have hR2 : RC (sA S' 21 1 d (nI a)) (3 + d) A := hR1.fr ((Fr.rf (o := 21)).A _ _ _) (by omega)
        refine c_copyFrom (o := 3 + (d + 1)) hR2 hw (by omega) (fun S3 a1 a2 _ _ _ => ⟨i6, ?_⟩)
        refine c_play a1 hw (Or.inl (by rw [hA]; exact hc)) (fun S4 b1 b2 _ _ _ => ?_)
        have h35' : S4.1 3 5 = nI N := by
          rw [(b2.1 3 (by omega)).1, (a2.1 3 (by omega)).1, sA_1, (hF.2 3 (by omega) (by omega)).1]
          exact h35
        have fA : FL 3 d S' (sA S' 21 1 d (nI a)) := ((Fr.rf (o := 21)).A _ _ _).fl (Or.inr rfl) (Or.inr (by omega))
        have fB : FL 3 d (sA S' 21 1 d (nI a)) S3 := a2.fl (Or.inl (by omega)) (Or.inr (by omega))
        have fC : FL 3 d S3 S4 := b2.fl (Or.inl (by omega)) (Or.inr (by omega))
        have r4 : S4.2.1 21 = (sA S' 21 1 d (nI a)).2.1 21 := (b2.1 21 (by omega)).2.trans (a2.1 21 (by omega)).2
        have hrow' : ∀ i, i < d + 1 → S4.2.1 21 1 i = nI (figN (5 * c + a) 5 (d + 1) i) := by
          intro i hi
          rw [r4, sA_at]
          by_cases ci : i = d
          · rw [if_pos ci, ci, fig_new (by omega)]
          · rw [if_neg ci, hro i (by omega), hrow i (by omega), fig_old (by omega) (by omega)]
        unfold hoL at hD
        refine ih (d + 1) r (5 * c + a) (playF A a) S4 _ (by omega) (by omega) b1 (playF_wf hw a) ((playF_same A a).1.trans hA) h35' hrow' (fun c' ec S5 hF5 e3 e4 => ⟨fun z => absurd z (by decide), fun _ => ?_⟩) (fun ec S5 hF5 hro5 => ⟨fun _ => nm_r (nI_1 a) ?_, fun z => absurd rfl z⟩)
        · rw [ec] at hD
          exact hK1 c' hD S5 (hF.tr (((fA.tr fB).tr fC).tr (hF5.le (by omega)))) e3 e4
        · rw [ec] at hD
          refine ihm (a + 1) f S5 (by omega) (by omega) (hF.tr (((fA.tr fB).tr fC).tr (hF5.le (by omega)))) (fun i hi => ?_) hD
          rw [hro5 i (by omega), r4, sA_at, if_neg (by omega)]
          exact hro i hi
    exact hloop N 0 2000 S (by omega) (by omega) FL.rf (fun _ _ => rfl) rfl
theorem q_wayX {S0 : tq_St} {p : Nat} {A : aE} (hw : wfE A) (hp : p < aN A) (hR : RC S0 3 A) {R : Option (Nat × Nat)} (hK1 : ∀ n c S', n ≤ 3 → R = some (n, c) → FX S0 S' → S'.1 21 3 = nI n → (∀ i, i < n → S'.2.1 21 2 i = nI (figN c 5 n i)) → K 1 S') (hK0 : R = none → ∀ S', FX S0 S' → K 0 S') : ∀ (m n f : Nat) (S : tq_St), n + m = 4 → m < f → FL 3 0 S0 S → hoN p A m n = R → wp_X2_findWayHome_12 0 K f (nI p) (nI n) S
  | 0, n, f + 1, S, h1, h2, hF, e => by
    unfold wp_X2_findWayHome_12
    exact pk_lt 3 n (fun _ => hK0 e.symm S hF.1) (fun z => absurd z (by omega))
  | m + 1, n, f + 1, S, h1, h2, hF, e => by
    unfold wp_X2_findWayHome_12
    refine pk_lt 3 n (fun z => absurd z (by omega)) (fun _ => ?_)
    have hR1 : RC S (3 + 0) A := RC.fl (b := 3) (d := 0) hR hF
    unfold hoN at e
    refine c_isHomeX (n := n) (N := aN A) (by omega) hw.1 hp n 0 12 0 A S _ (by omega) (by omega) hR1 hw rfl hR1.1 (fun i hi => absurd hi (by omega)) (fun c ec S' f' e3 e4 => ⟨fun z => absurd z (by decide), fun _ => ?_⟩) (fun ec S' f' _ => ⟨fun _ => nm_r (nI_1 n) ?_, fun z => absurd rfl z⟩)
    · rw [ec] at e
      exact hK1 n c S' (by omega) e.symm (hF.tr f').1 e3 e4
    · rw [ec] at e
      exact q_wayX hw hp hR hK1 hK0 m (n + 1) f S' (by omega) (by omega) (hF.tr f') e
theorem q_homeX {x y : Int32} (hG : RQ S G) (hw : wfQ G) (hbad : (∀ p, p < aN (qA G) → x ≠ nI p) ∨ (∀ w, (w = 0 ∨ (10 ≤ w ∧ w ≤ 12)) → y ≠ nI w) → K (-1) S) (hst : ∀ p w, p < aN (qA G) → x = nI p → (w = 0 ∨ (10 ≤ w ∧ w ≤ 12)) → y = nI w → (aG (qA G)).testBit p = true → K (-2) S) (hok : ∀ p w, p < aN (qA G) → x = nI p → (w = 0 ∨ (10 ≤ w ∧ w ≤ 12)) → y = nI w → (aG (qA G)).testBit p = false → ∀ S', RQ S' G → FC S S' → K (hoR w (hoN p (qA G) 4 0)) S') : wp_X6_home x y S K := by
  have hn := hw.1.1
  have h39 : ∀ p w : Nat, p < aN (qA G) → x = nI p → (w = 0 ∨ (10 ≤ w ∧ w ≤ 12)) → y = nI w → ∀ v3 : Int32, (v3 = 0 ↔ w = 0) → wp_X6_home_39 K x y v3 S := by
    intro p w hp ex hwh ey v3 hv
    subst ex
    unfold wp_X6_home_39
    refine c_waitsN hG.1.1 hn hG.1.2.1 hw.1.g31 hp (fun hb => ⟨fun _ => ?_, fun z => absurd z (by decide)⟩) (fun hb => ⟨fun z => absurd rfl z, fun _ => hst p w hp rfl hwh ey hb⟩)
    unfold wp_X2_findWayHome
    have c0 : (0 : Int32).toNatClampNeg = 0 := by decide
    rw [c0]
    refine ⟨vp_in_nI (n := 0) (by decide) (by decide), ?_⟩
    refine c_startFrom (o := 3 + 0) hG.1 hw.1 (by decide) (fun S1 a1 a2 a3 => ?_)
    have hfin := hok p w hp rfl hwh ey hb
    refine q_wayX (S0 := S1) hw.1 hp a1 (R := hoN p (qA G) 4 0) (fun n c S' hn3 eR f e3 e4 => ⟨fun _ => ⟨fun z => ?_, fun z => ?_⟩, fun z => absurd z (by decide)⟩) (fun eR S' f => ⟨fun z => absurd rfl z, fun _ => ?_⟩) 4 0 2000 S1 (by omega) (by omega) FL.rf rfl
    · have hx := (a2.fx (Or.inl (by decide))).tr f
      have := hfin S' (hG.fx hx) hx.fc
      rw [eR, hoR_s] at this
      rw [if_pos (hv.mp z)] at this
      rw [e3]
      exact this
    · have hx := (a2.fx (Or.inl (by decide))).tr f
      have hf2 := hfin S' (hG.fx hx) hx.fc
      rw [eR, hoR_s] at hf2
      have hw0 : ¬ w = 0 := fun c => z (hv.mpr c)
      rw [if_neg hw0] at hf2
      have e10 : y - 10 = nI (w - 10) := by rw [ey]; exact pk_sub (a := w) (b := 10) (by omega)
      unfold wp_X2_foundAt
      rw [e10, e3]
      refine ⟨fun z => absurd z (nI_pos (by omega)), fun _ => pk_le n (w - 10) (fun q => ?_) (fun q => ⟨vp_in_nI (by omega) (by decide), ?_⟩)⟩
      · rw [if_pos q] at hf2; exact hf2
      · rw [if_neg (by omega)] at hf2
        rw [nI_clamp (by omega), e4 (w - 10) q]
        exact hf2
    · have hx := (a2.fx (Or.inl (by decide))).tr f
      have := hfin S' (hG.fx hx) hx.fc
      rw [eR] at this
      exact this
  have h17 : ∀ w0 : Int32, (w0 = 0 ∧ ∀ w, (10 ≤ w ∧ w ≤ 12) → y ≠ nI w) ∨ (w0 = 1 ∧ ∃ w, (10 ≤ w ∧ w ≤ 12) ∧ y = nI w) → wp_X6_home_17 K x y w0 S := by
    intro w0 hcase
    unfold wp_X6_home_17
    refine c_isThere hG.1.1 hn (fun p hp e => ⟨fun z => absurd z (by decide), fun _ => ⟨fun z => ?_, fun z => ⟨fun z2 => ?_, fun z2 => ?_⟩⟩⟩) (fun hno => ⟨fun _ => hbad (Or.inl hno), fun z => absurd rfl z⟩)
    · refine h39 p 0 hp e (Or.inl rfl) z w0 ⟨fun _ => rfl, fun _ => ?_⟩
      rcases hcase with h | ⟨-, w, h, e2⟩
      · exact h.1
      · rw [z] at e2
        exact absurd ((nI_eq (a := 0) (by decide) (by omega)).mp e2) (by omega)
    · rcases hcase with h | ⟨h1, w, h, e2⟩
      · exact absurd h.1 z2
      · exact h39 p w hp e (Or.inr h) e2 w0 ⟨fun c => absurd c z2, fun c => absurd c (by omega)⟩
    · rcases hcase with h | ⟨h1, -⟩
      · refine hbad (Or.inr (fun w hwh e2 => ?_))
        rcases hwh with c | c
        · subst c; exact z e2
        · exact h.2 w c e2
      · rw [h1] at z2; exact absurd z2 (by decide)
  unfold wp_X6_home wp_X6_home_16
  have e10 : (10 : Int32) = nI 10 := rfl
  have e13 : (13 : Int32) = nI 13 := rfl
  refine ⟨fun z => h17 0 (Or.inl ⟨rfl, fun w hwh e => ?_⟩), fun z => ⟨fun z2 => h17 0 (Or.inl ⟨rfl, fun w hwh e => ?_⟩), fun z2 => h17 1 (Or.inr ⟨rfl, ?_⟩)⟩⟩
  · rw [e, e10, nI_ltI (by omega) (by decide)] at z
    omega
  · rw [e, e13, nI_leI (by decide) (by omega)] at z2
    omega
  · have h0 : ¬ y < 0 := by
      intro c
      apply z
      have t0 : (0 : Int32).toInt = 0 := by decide
      have t10 : (10 : Int32).toInt = 10 := by decide
      rw [fa_lt, t0] at c
      rw [fa_lt, t10]
      omega
    obtain ⟨w, hw2, rfl⟩ := nI_of h0
    rw [e10, nI_ltI hw2 (by decide)] at z
    rw [e13, nI_leI (by decide) hw2] at z2
    exact ⟨w, by omega, rfl⟩
-- the reference
def rgF (N c b n : Nat) : Nat → Nat → aE → Option aE
  | 0, _, A => some A
  | m + 1, i, A => if figN c b n i < N ∨ figN c b n i = 5 ∨ figN c b n i = 6 then rgF N c b n m (i + 1) (playF A (figN c b n i)) else none
def hoS (p N n : Nat) (A : aE) : Nat → Nat → Option Nat
  | 0, _ => none
  | m + 1, c => match rgF N c 5 n n 0 A with
    | none => hoS p N n A m (c + 1)
    | some B => if (tramB B).testBit p then some c else hoS p N n A m (c + 1)
theorem z_rowX_8 {S0 : tq_St} {c b n N : Nat} (hb : 0 < b) (hb6 : b ≤ 6) (hn : n ≤ 4) (hc : c ≤ 2000) {R : Option aE} (hK1 : ∀ S' A, R = some A → wfE A → aN A = N → RM S' 112 A → FT S0 S' → K 1 S') (hK0 : R = none → ∀ S', FT S0 S' → K 0 S') : ∀ (m i f : Nat) (A : aE) (t : aY) (S : tq_St), i + m = n → m < f → wfE A → aN A = N → RM S 112 A → TM S t → FT S0 S → rgF N c b n m i A = R → wp_X7_rowGoes_8 K f (nI c) (nI b) (nI n) (nI i) S
  | 0, i, f + 1, A, t, S, h1, h2, hw, hN, hR, hT, hF, e => by
    unfold wp_X7_rowGoes_8
    exact pk_le n i (fun _ => hK1 S A e.symm hw hN hR hF) (fun z => absurd z (by omega))
  | m + 1, i, f + 1, A, t, S, h1, h2, hw, hN, hR, hT, hF, e => by
    unfold rgF at e
    unfold wp_X7_rowGoes_8
    refine pk_le n i (fun z => absurd z (by omega)) (fun _ => ?_)
    refine m_figure hb hb6 hn (by omega) hc ?_
    have hfb : figN c b n i < 2 ^ 31 := by
      have : figN c b n i < b := Nat.mod_lt _ hb
      omega
    refine m_isAct hR.1 hw.1 (fun a ha ea => ⟨fun _ => ?_, fun z => absurd z (by decide)⟩) (fun hno => ⟨fun z => absurd rfl z, fun _ => hK0 ?_ S hF⟩)
    · have ha31 : a < 2 ^ 31 := by have := hw.1; unfold okA at ha; omega
      have eq := (nI_eq hfb ha31).mp ea
      subst eq
      rw [if_pos (by rw [← hN]; exact ha)] at e
      refine m_acts (t := t) hR hw ha hT (fun S' a1 a2 a3 => nm_r (nI_1 i) ?_)
      exact z_rowX_8 hb hb6 hn hc hK1 hK0 m (i + 1) f _ _ S' (by omega) (by omega) (playF_wf hw _) ((playF_same A _).1.trans hN) a1 a3 (hF.tr a2) e
    · rw [if_neg (fun z => hno _ (by rw [hN]; exact z) rfl)] at e
      exact e.symm
theorem z_rowX {c b n : Nat} (hG : RZ S G) (hw : wfQ G) (hb : 0 < b) (hb6 : b ≤ 6) (hn : n ≤ 4) (hc : c ≤ 2000) (hK1 : ∀ S' A, rgF (aN (qA G)) c b n n 0 (qA G) = some A → wfE A → aN A = aN (qA G) → RM S' 112 A → FT S S' → K 1 S') (hK0 : rgF (aN (qA G)) c b n n 0 (qA G) = none → ∀ S', FT S S' → K 0 S') : wp_X7_rowGoes (nI c) (nI b) (nI n) S K := by
  unfold wp_X7_rowGoes
  refine m_begins (g := 0) hG.1 hw.1 (by omega) (fun S1 a1 a2 a3 => ?_)
  exact z_rowX_8 (S0 := S) hb hb6 hn hc hK1 hK0 n 0 2000 (qA G) (0, 0, none) S1 (by omega) (by omega) hw.1 rfl a1 a3 a2 rfl
theorem z_homeX_50 {S0 : tq_St} {rec42 : Int32 → Int32 → Int32 → tq_St → Prop} {n w p : Nat} (hG0 : RZ S0 G) (hw : wfQ G) (hn : n ≤ 3) (hp : p < 5) (hwh : w = 0 ∨ (10 ≤ w ∧ w ≤ 12)) {R : Option Nat} (hK : ∀ c, R = some c → ∀ S', FZ S0 S' → K (hoR w (some (n, c))) S') (hrec : R = none → ∀ S', FZ S0 S' → rec42 (nI p) (nI w) (nI (n + 1)) S') : ∀ (m c f : Nat) (S : tq_St), c + m = 5 ^ n → m < f → FZ S0 S → hoS p (aN (qA G)) n (qA G) m c = R → wp_X7_home_50 K rec42 f (nI p) (nI w) (nI n) (nI c) S := by
  have hpw := pow_bd (b := 5) (n := n) (by decide) (by omega)
  intro m
  induction m with
  | zero =>
    intro c f S h1 h2 hF e
    obtain ⟨f, rfl⟩ : ∃ k, f = k + 1 := ⟨f - 1, by omega⟩
    unfold wp_X7_home_50
    exact m_power (b := 5) (by decide) (by omega) (pk_le (5 ^ n) c (fun _ => nm_r (nI_1 n) (hrec e.symm S hF)) (fun z => absurd z (by omega)))
  | succ m ih =>
    intro c f S h1 h2 hF e
    obtain ⟨f, rfl⟩ : ∃ k, f = k + 1 := ⟨f - 1, by omega⟩
    unfold hoS at e
    unfold wp_X7_home_50
    refine m_power (b := 5) (by decide) (by omega) (pk_le (5 ^ n) c (fun z => absurd z (by omega)) (fun _ => ?_))
    have hG := hG0.fz hw hF
    refine z_rowX (b := 5) hG hw (by decide) (by decide) (by omega) (by omega) (fun S1 A eR hwA hN hR hFT => ⟨fun z => absurd z (by decide), fun _ => ?_⟩) (fun eR S1 hFT => ⟨fun _ => nm_r (nI_1 c) ?_, fun z => absurd rfl z⟩)
    · have hF1 := hF.tr hFT.fz
      rw [eR] at e
      refine m_tramOn (g := 112) hR hwA (by decide) (fun S2 b1 b2 => ?_)
      have hF2 := hF1.tr (b2.fz (by decide))
      have htl : tramB A < 2 ^ 31 := Nat.lt_of_lt_of_le (Nat.lt_of_lt_of_le (selB_lt A _) (zb_p31 hwA.1)) (by decide)
      rw [zb_1 htl (by omega)]
      have e : (if (tramB A).testBit p = true then some c else hoS p (aN (qA G)) n (qA G) m (c + 1)) = R := e
      refine ⟨fun hb => nm_r (nI_1 c) ?_, fun hb => ?_⟩
      · rw [if_neg hb] at e
        exact ih (c + 1) f S2 (by omega) (by omega) hF2 e
      · rw [if_pos hb] at e
        have hfin := hK c e.symm S2 hF2
        rw [hoR_s] at hfin
        refine ⟨fun z0 => ?_, fun z0 => ?_⟩
        · have hw0 : ¬ w = 0 := fun c => z0 (by rw [c]; rfl)
          have e10 : nI w - 10 = nI (w - 10) := pk_sub (a := w) (b := 10) (by omega)
          rw [e10]
          rw [if_neg hw0] at hfin
          refine pk_le n (w - 10) (fun q => ?_) (fun q => m_figure (b := 5) (by decide) (by decide) (by omega) q (by omega) ?_)
          · rw [if_pos q] at hfin; exact hfin
          · rw [if_neg (by omega)] at hfin; exact hfin
        · have hw0 : w = 0 := (nI_eq (by omega) (by decide)).mp z0
          rw [if_pos hw0] at hfin
          exact hfin
    · have hF1 := hF.tr hFT.fz
      rw [eR] at e
      exact ih (c + 1) f S1 (by omega) (by omega) hF1 e
-- rows in order: the number and the tree
theorem rgF_app {N c b n : Nat} : ∀ (m1 m2 i : Nat) (A : aE), rgF N c b n (m1 + m2) i A = (rgF N c b n m1 i A).bind (rgF N c b n m2 (i + m1))
  | 0, m2, i, A => by rw [Nat.zero_add]; rfl
  | m1 + 1, m2, i, A => by
    rw [show m1 + 1 + m2 = (m1 + m2) + 1 by omega]
    unfold rgF
    split
    · rw [rgF_app m1 m2 (i + 1), show i + 1 + m1 = i + (m1 + 1) by omega]
    · rfl
theorem rgF_cong {N c c' b n n' : Nat} : ∀ (m i : Nat) (A : aE), (∀ j, i ≤ j → j < i + m → figN c b n j = figN c' b n' j) → rgF N c b n m i A = rgF N c' b n' m i A
  | 0, _, _, _ => rfl
  | m + 1, i, A, h => by
    have h0 := h i (Nat.le_refl _) (by omega)
    unfold rgF
    rw [h0, rgF_cong m (i + 1) _ (fun j a b => h j (by omega) (by omega))]
theorem rgF_ext {N c a d : Nat} {A : aE} (hN : N ≤ 5) (ha : a < 5) : rgF N (5 * c + a) 5 (d + 1) (d + 1) 0 A = (rgF N c 5 d d 0 A).bind (fun B => if a < N then some (playF B a) else none) := by
  rw [rgF_app d 1 0 A, rgF_cong (c' := c) (n' := d) d 0 A (fun j _ h => fig_old ha (by omega)), Nat.zero_add]
  congr 1
  funext B
  unfold rgF
  rw [fig_new ha]
  by_cases h : a < N
  · rw [if_pos (Or.inl h), if_pos h]; rfl
  · rw [if_neg (by omega), if_neg h]
/-- no row that begins so goes -/
theorem rgF_none {N x d : Nat} {A : aE} (hN : N ≤ 5) (h : rgF N x 5 d d 0 A = none) : ∀ (e y : Nat), y < 5 ^ e → rgF N (x * 5 ^ e + y) 5 (d + e) (d + e) 0 A = none
  | 0, y, hy => by
    have : y = 0 := by rw [Nat.pow_zero] at hy; omega
    subst this
    rw [Nat.pow_zero, Nat.mul_one, Nat.add_zero, Nat.add_zero]
    exact h
  | e + 1, y, hy => by
    have hpw : (5 : Nat) ^ (e + 1) = 5 * 5 ^ e := by rw [Nat.pow_succ]; omega
    have e1 : x * 5 ^ (e + 1) + y = 5 * (x * 5 ^ e + y / 5) + y % 5 := by
      rw [hpw, Nat.mul_left_comm]
      omega
    rw [e1, show d + (e + 1) = (d + e) + 1 by omega, rgF_ext hN (Nat.mod_lt _ (by decide)), rgF_none hN h e (y / 5) (by omega)]
    rfl
theorem hoS_skip {p N n : Nat} {A : aE} : ∀ (k m c : Nat), (∀ j, c ≤ j → j < c + k → rgF N j 5 n n 0 A = none) → hoS p N n A (k + m) c = hoS p N n A m (c + k)
  | 0, m, c, _ => by rw [Nat.zero_add, Nat.add_zero]
  | k + 1, m, c, h => by
    rw [show k + 1 + m = (k + m) + 1 by omega]
    conv => lhs; unfold hoS
    rw [h c (Nat.le_refl _) (by omega)]
    show hoS p N n A (k + m) (c + 1) = _
    rw [hoS_skip k m (c + 1) (fun j a b => h j (by omega) (by omega)), show c + 1 + k = c + (k + 1) by omega]
def orO (x y : Option Nat) : Option Nat := match x with
  | some c => some c
  | none => y
theorem hoL_out {f : Nat → Option Nat} : ∀ (m a : Nat), hoL f (m + 1) a = orO (f a) (hoL f m (a + 1)) := by
  intro m a
  unfold orO
  conv => lhs; unfold hoL
theorem hoS_tree {p N : Nat} {A : aE} (hN : N ≤ 5) (hp : (aG A).testBit p = false) : ∀ (e d c m : Nat) (B : aE), rgF N c 5 d d 0 A = some B → (aG B).testBit p = false → hoS p N (d + e) A (5 ^ e + m) (c * 5 ^ e) = orO (hoD p N e c B) (hoS p N (d + e) A m (c * 5 ^ e + 5 ^ e)) := by
  intro e
  induction e with
  | zero =>
    intro d c m B h hB
    rw [Nat.pow_zero, Nat.mul_one, Nat.add_zero, Nat.add_comm 1 m]
    conv => lhs; unfold hoS
    rw [h]
    have hbo : (aG (boardF B)).testBit p = (tramB B).testBit p := by
      show (aG B ||| tramB B).testBit p = _
      rw [Nat.testBit_or, hB, Bool.false_or]
    show (if (tramB B).testBit p = true then some c else hoS p N d A m (c + 1)) = orO (if (aG (boardF B)).testBit p = true then some c else none) (hoS p N d A m (c + 1))
    rw [hbo]
    cases (tramB B).testBit p
    · rfl
    · rfl
  | succ e ih =>
    intro d c m B h hB
    have hpw : (5 : Nat) ^ (e + 1) = 5 * 5 ^ e := by rw [Nat.pow_succ]; omega
    have hdn : d + (e + 1) = (d + 1) + e := by omega
    -- block by block
    have hblk : ∀ (k a m : Nat), a + k = 5 → hoS p N (d + (e + 1)) A (k * 5 ^ e + m) ((5 * c + a) * 5 ^ e) = orO (hoL (fun a => hoD p N e (5 * c + a) (playF B a)) (N - a) a) (hoS p N (d + (e + 1)) A m ((5 * c + 5) * 5 ^ e)) := by
      intro k
      induction k with
      | zero =>
        intro a m hk
        have ha : a = 5 := by omega
        subst ha
        rw [Nat.zero_mul, Nat.zero_add, show N - 5 = 0 by omega]
        rfl
      | succ k ihk =>
        intro a m hk
        have hx := rgF_ext (c := c) (d := d) (A := A) hN (show a < 5 by omega)
        rw [h] at hx
        have hsum : (k + 1) * 5 ^ e + m = 5 ^ e + (k * 5 ^ e + m) := by rw [Nat.succ_mul]; omega
        have hnext : (5 * c + a) * 5 ^ e + 5 ^ e = (5 * c + (a + 1)) * 5 ^ e := (Nat.succ_mul (5 * c + a) (5 ^ e)).symm
        rw [hsum]
        by_cases haN : a < N
        · have hx' : rgF N (5 * c + a) 5 (d + 1) (d + 1) 0 A = some (playF B a) := by
            rw [hx]
            show (if a < N then some (playF B a) else none) = _
            rw [if_pos haN]
          have hgB : (aG (playF B a)).testBit p = false := by rw [playF_g (by omega)]; exact hB
          have := ih (d + 1) (5 * c + a) (k * 5 ^ e + m) (playF B a) hx' hgB
          rw [← hdn] at this
          rw [this, hnext, ihk (a + 1) m (by omega), show N - a = (N - (a + 1)) + 1 by omega, hoL_out]
          cases hoD p N e (5 * c + a) (playF B a) <;> rfl
        · have hx' : rgF N (5 * c + a) 5 (d + 1) (d + 1) 0 A = none := by
            rw [hx]
            show (if a < N then some (playF B a) else none) = _
            rw [if_neg haN]
          rw [hoS_skip (5 ^ e) (k * 5 ^ e + m) ((5 * c + a) * 5 ^ e) (fun j h1 h2 => ?_), hnext, ihk (a + 1) m (by omega), show N - (a + 1) = N - a by omega, show N - a = 0 by omega]
          · rfl
          · have := rgF_none hN hx' e (j - (5 * c + a) * 5 ^ e) (by omega)
            rw [show (5 * c + a) * 5 ^ e + (j - (5 * c + a) * 5 ^ e) = j by omega, ← hdn] at this
            exact this
    have := hblk 5 0 m (by omega)
    rw [Nat.add_zero (5 * c), Nat.sub_zero] at this
    have e1 : c * 5 ^ (e + 1) = 5 * c * 5 ^ e := by rw [hpw]; rw [← Nat.mul_assoc, Nat.mul_comm c 5]
    have e2 : c * 5 ^ (e + 1) + 5 ^ (e + 1) = (5 * c + 5) * 5 ^ e := by rw [e1, hpw, Nat.add_mul]
    rw [e2, e1, hpw, this]
    rfl
theorem hoS_all {p n : Nat} {A : aE} (hN : aN A ≤ 5) (hp : (aG A).testBit p = false) : hoS p (aN A) n A (5 ^ n) 0 = hoD p (aN A) n 0 A := by
  have h := hoS_tree (N := aN A) hN hp n 0 0 0 A rfl hp
  rw [Nat.zero_add, Nat.zero_mul, Nat.zero_add, Nat.add_zero] at h
  rw [h]
  show orO _ none = _
  unfold orO
  cases hoD p (aN A) n 0 A <;> rfl
theorem z_homeX_42 {S0 : tq_St} {w p : Nat} (hG0 : RZ S0 G) (hw : wfQ G) (hp : p < aN (qA G)) (hgp : (aG (qA G)).testBit p = false) (hwh : w = 0 ∨ (10 ≤ w ∧ w ≤ 12)) {R : Option (Nat × Nat)} (hK : ∀ S', FZ S0 S' → K (hoR w R) S') : ∀ (m n f : Nat) (S : tq_St), n + m = 4 → m < f → FZ S0 S → hoN p (qA G) m n = R → wp_X7_home_42 K f (nI p) (nI w) (nI n) S
  | 0, n, f + 1, S, h1, h2, hF, e => by
    subst e
    unfold wp_X7_home_42
    exact pk_le 4 n (fun _ => hK S hF) (fun z => absurd z (by omega))
  | m + 1, n, f + 1, S, h1, h2, hF, e => by
    have hn := hw.1.1
    have hpw := pow_bd (b := 5) (n := n) (by decide) (by omega)
    unfold hoN at e
    unfold wp_X7_home_42
    refine pk_le 4 n (fun z => absurd z (by omega)) (fun _ => ?_)
    refine z_homeX_50 (R := hoD p (aN (qA G)) n 0 (qA G)) hG0 hw (by omega) (by omega) hwh (fun c ec S' f' => ?_) (fun ec S' f' => ?_) (5 ^ n) 0 2000 S (by omega) (by omega) hF (hoS_all hn hgp)
    · rw [ec] at e
      have e : some (n, c) = R := e
      rw [e]
      exact hK S' f'
    · rw [ec] at e
      exact z_homeX_42 hG0 hw hp hgp hwh hK m (n + 1) f S' (by omega) (by omega) f' e
theorem z_homeX {x y : Int32} (hG : RZ S G) (hw : wfQ G) (hbad : (∀ p, p < aN (qA G) → x ≠ nI p) ∨ (∀ w, (w = 0 ∨ (10 ≤ w ∧ w ≤ 12)) → y ≠ nI w) → K (-1) S) (hst : ∀ p w, p < aN (qA G) → x = nI p → (w = 0 ∨ (10 ≤ w ∧ w ≤ 12)) → y = nI w → (aG (qA G)).testBit p = true → K (-2) S) (hok : ∀ p w, p < aN (qA G) → x = nI p → (w = 0 ∨ (10 ≤ w ∧ w ≤ 12)) → y = nI w → (aG (qA G)).testBit p = false → ∀ S', RZ S' G → Fr 28 S S' → K (hoR w (hoN p (qA G) 4 0)) S') : wp_X7_home x y S K := by
  have hn := hw.1.1
  unfold wp_X7_home
  refine m_isOne hG.1.1 hn (fun p hp e => ⟨fun z => absurd z (by decide), fun _ => ?_⟩) (fun hno => ⟨fun _ => hbad (Or.inl hno), fun z => absurd rfl z⟩)
  subst e
  have h28 : ∀ w : Nat, y = nI w → (w = 0 ∨ (10 ≤ w ∧ w ≤ 12)) → wp_X7_home_28 K (nI p) y S := by
    intro w e hwh
    unfold wp_X7_home_28
    refine m_waits (g := 0) hG.1.2.2.2.2.1 (by decide) hw.1.g31 (by omega) (fun hb => ⟨fun _ => ?_, fun z => absurd z (by decide)⟩) (fun hb => ⟨fun z => absurd rfl z, fun _ => hst p w hp rfl hwh e hb⟩)
    subst e
    exact z_homeX_42 hG hw hp hb hwh (fun S' f => hok p w hp rfl hwh rfl hb S' (hG.fz hw f) f.1) 4 0 2000 S (by omega) (by omega) FZ.rf rfl
  refine ⟨fun e => h28 0 e (Or.inl rfl), fun z0 => ?_⟩
  exact m_in 10 12 (by decide) (by decide) (by decide) (fun w hw1 hw2 e => ⟨fun _ => h28 w e (Or.inr ⟨hw1, hw2⟩), fun z => absurd z (by decide)⟩) (fun h => ⟨fun z => absurd rfl z, fun _ => hbad (Or.inr (fun w hwh e => by
    rcases hwh with c | c
    · subst c; exact z0 e
    · exact h w c.1 c.2 e))⟩)
end HOM
end
section
section LUK
variable {S S0 : tq_St} {G : aQ} {K : Int32 → tq_St → Prop} {KL : Int64 → tq_St → Prop}
-- THOUGHTS THAT FAIL, exactly: what a plan weighs, act by act
def wtF (v : Nat) (f : aE → Nat) : Nat → Nat → aE → Nat
  | 0, _, A => f A
  | e + 1, i, A => if i < aC A then (if aA A i < 5 then (10 - v) * wtF v f e (i + 1) (playF A (aA A i)) + v * wtF v f e (i + 1) A else wtF v f e (i + 1) (playF A (aA A i))) else wtF v f e (i + 1) A
def gnF (q : Nat) (A : aE) : Nat := if (aG A).testBit q then 1 else 0
theorem wtF_end {v : Nat} {f : aE → Nat} : ∀ (e i : Nat) (A : aE), aC A ≤ i → wtF v f e i A = f A
  | 0, i, A, h => rfl
  | e + 1, i, A, h => by
    unfold wtF
    rw [if_neg (by omega)]
    exact wtF_end e (i + 1) A (by omega)
theorem wtF_cong {v : Nat} {f g : aE → Nat} (h : ∀ A, f A = g A) : ∀ (e i : Nat) (A : aE), wtF v f e i A = wtF v g e i A := by
  have : f = g := funext h
  subst this
  exact fun _ _ _ => rfl
theorem wtF_add {v : Nat} {f g : aE → Nat} : ∀ (e i : Nat) (A : aE), wtF v (fun A => f A + g A) e i A = wtF v f e i A + wtF v g e i A
  | 0, i, A => rfl
  | e + 1, i, A => by
    unfold wtF
    split
    · split
      · rw [wtF_add e, wtF_add e, Nat.mul_add, Nat.mul_add]
        omega
      · exact wtF_add e _ _
    · exact wtF_add e _ _
theorem wtF_zero {v : Nat} : ∀ (e i : Nat) (A : aE), wtF v (fun _ => 0) e i A = 0
  | 0, i, A => rfl
  | e + 1, i, A => by
    unfold wtF
    split
    · split
      · rw [wtF_zero e, wtF_zero e, Nat.mul_zero, Nat.mul_zero]
      · exact wtF_zero e _ _
    · exact wtF_zero e _ _
/-- the whole: a ten for each thought -/
def tnF (A : aE) : Nat → Nat → Nat
  | 0, _ => 1
  | e + 1, i => (if i < aC A ∧ aA A i < 5 then 10 else 1) * tnF A e (i + 1)
theorem tnF_play {A : aE} {a : Nat} : ∀ (e i : Nat), tnF (playF A a) e i = tnF A e i
  | 0, _ => rfl
  | e + 1, i => by
    have h := playF_same A a
    unfold tnF
    rw [h.2.2.2.2.1, h.2.2.2.2.2, tnF_play e (i + 1)]
theorem wtF_one {v : Nat} (hv : v ≤ 10) : ∀ (e i : Nat) (A : aE), wtF v (fun _ => 1) e i A = tnF A e i
  | 0, i, A => rfl
  | e + 1, i, A => by
    unfold wtF tnF
    by_cases h : i < aC A
    · rw [if_pos h]
      by_cases h5 : aA A i < 5
      · rw [if_pos h5, if_pos ⟨h, h5⟩, wtF_one hv e, wtF_one hv e, tnF_play]
        rw [← Nat.add_mul]
        congr 1
        omega
      · rw [if_neg h5, if_neg (fun z => h5 z.2), wtF_one hv e, tnF_play, Nat.one_mul]
    · rw [if_neg h, if_neg (fun z => h z.1), wtF_one hv e, Nat.one_mul]
theorem tnF_bd (A : aE) : ∀ (e i : Nat), 0 < tnF A e i ∧ tnF A e i ≤ 10 ^ e
  | 0, i => ⟨Nat.zero_lt_one, Nat.le_refl _⟩
  | e + 1, i => by
    obtain ⟨h1, h2⟩ := tnF_bd A e (i + 1)
    have hp : (10 : Nat) ^ (e + 1) = 10 * 10 ^ e := by rw [Nat.pow_succ]; omega
    unfold tnF
    split
    · exact ⟨Nat.mul_pos (by decide) h1, by rw [hp]; exact Nat.mul_le_mul_left 10 h2⟩
    · rw [Nat.one_mul]; exact ⟨h1, by omega⟩
theorem wtF_le {v c : Nat} {f : aE → Nat} (hv : v ≤ 10) (hf : ∀ A, f A ≤ c) : ∀ (e i : Nat) (A : aE), wtF v f e i A ≤ c * tnF A e i
  | 0, i, A => by show f A ≤ c * 1; have := hf A; omega
  | e + 1, i, A => by
    unfold wtF tnF
    by_cases h : i < aC A
    · rw [if_pos h]
      by_cases h5 : aA A i < 5
      · rw [if_pos h5, if_pos ⟨h, h5⟩]
        have h1 := wtF_le hv hf e (i + 1) (playF A (aA A i))
        have h2 := wtF_le hv hf e (i + 1) A
        rw [tnF_play] at h1
        have h3 := Nat.mul_le_mul_left (10 - v) h1
        have h4 := Nat.mul_le_mul_left v h2
        have h6 : (10 - v) * (c * tnF A e (i + 1)) + v * (c * tnF A e (i + 1)) = c * (10 * tnF A e (i + 1)) := by
          rw [← Nat.add_mul, show 10 - v + v = 10 by omega, Nat.mul_left_comm]
        omega
      · rw [if_neg h5, if_neg (fun z => h5 z.2), Nat.one_mul]
        have h1 := wtF_le hv hf e (i + 1) (playF A (aA A i))
        rw [tnF_play] at h1
        exact h1
    · rw [if_neg h, if_neg (fun z => h z.1), Nat.one_mul]
      exact wtF_le hv hf e (i + 1) A
-- the class
/-- what has been weighed: the whole, and who is gone -/
def WS (S S' : tq_St) (x : Nat) (g : Nat → Nat) : Prop := S'.2.2.1 = S.2.2.1 + lN x ∧ ∀ q, q < 5 → S'.2.2.2 q = S.2.2.2 q + lN (g q)
theorem lN_z (x : Int64) : x + lN 0 = x := by
  apply Int64.toBitVec_inj.1
  show x.toBitVec + BitVec.ofNat 64 0 = x.toBitVec
  simp
theorem WS.rf : WS S S 0 (fun _ => 0) := ⟨(lN_z _).symm, fun q _ => (lN_z _).symm⟩
theorem lN_ass (x : Int64) (a b : Nat) : x + lN a + lN b = x + lN (a + b) := by
  rw [← lN_add]
  exact Int64.add_assoc _ _ _
theorem WS.tr {S T U : tq_St} {x y : Nat} {g h : Nat → Nat} (h1 : WS S T x g) (h2 : WS T U y h) : WS S U (x + y) (fun q => g q + h q) := ⟨by rw [h2.1, h1.1, lN_ass], fun q hq => by rw [h2.2 q hq, h1.2 q hq, lN_ass]⟩
theorem WS.eq {x y : Nat} {g h : Nat → Nat} {S' : tq_St} (h1 : WS S S' x g) (e1 : x = y) (e2 : ∀ q, q < 5 → g q = h q) : WS S S' y h := ⟨by rw [← e1]; exact h1.1, fun q hq => by rw [← e2 q hq]; exact h1.2 q hq⟩
theorem WS.pre {S T U : tq_St} {x : Nat} {g : Nat → Nat} (e : T.2.2 = S.2.2) (h : WS T U x g) : WS S U x g := by
  unfold WS at h ⊢
  rw [e] at h
  exact h
theorem c_addWX_13 {S0 : tq_St} {d w : Nat} {A : aE} {K : tq_St → Prop} (hw : wfE A) (hR0 : RC S0 (8 + d) A) (hK : ∀ S', FL 8 d S0 S' → S'.2.2.1 = S0.2.2.1 → (∀ q, q < 5 → S'.2.2.2 q = S0.2.2.2 q + lN (if q < aN A then w * gnF q A else 0)) → K S') : ∀ (m p f : Nat) (S : tq_St), p + m = aN A → m < f → FL 8 d S0 S → S.2.2.1 = S0.2.2.1 → (∀ q, q < 5 → S.2.2.2 q = S0.2.2.2 q + lN (if q < p then w * gnF q A else 0)) → wp_X0_addWeight_13 (8 + d) K f (lN w) (nI p) S
  | 0, p, f + 1, S, h1, h2, hF, hW, hQ => by
    have hn := hw.1
    have hR := hR0.fl hF
    unfold wp_X0_addWeight_13
    rw [hR.1]
    have e : p = aN A := by omega
    subst e
    exact pk_le (aN A) (aN A) (fun _ => hK S hF hW hQ) (fun z => absurd z (by omega))
  | m + 1, p, f + 1, S, h1, h2, hF, hW, hQ => by
    have hn := hw.1
    have hR := hR0.fl hF
    have hin : vp_in (nI p) 5 := vp_in_nI (by omega) (by decide)
    unfold wp_X0_addWeight_13
    rw [hR.1]
    refine pk_le (aN A) p (fun z => absurd z (by omega)) (fun hp => ?_)
    refine c_waitsN hR.1 hn hR.2.1 hw.g31 hp (fun hb => ⟨fun _ => nm_r (nI_1 p) ?_, fun z => absurd z (by decide)⟩) (fun hb => ⟨fun z => absurd rfl z, fun _ => ⟨hin, hin, nm_e (nm_r (nI_1 p) ?_)⟩⟩)
    · refine c_addWX_13 hw hR0 hK m (p + 1) f S (by omega) (by omega) hF hW (fun q hq => ?_)
      rw [hQ q hq]
      congr 2
      by_cases c : q = p
      · subst c
        unfold gnF
        rw [if_neg (by omega), if_pos (by omega), hb]
        simp
      · by_cases c2 : q < p
        · rw [if_pos c2, if_pos (by omega)]
        · rw [if_neg c2, if_neg (by omega)]
    · rw [nI_clamp (by omega)]
      refine c_addWX_13 hw hR0 hK m (p + 1) f _ (by omega) (by omega) (hF.gw _ _) hW (fun q hq => ?_)
      have eg : (sG S p (S.2.2.2 p + lN w)).2.2.2 q = if q = p then S.2.2.2 p + lN w else S.2.2.2 q := rfl
      rw [eg]
      by_cases c : q = p
      · subst c
        rw [if_pos rfl, hQ q hq, if_neg (by omega), if_pos (by omega), lN_ass]
        congr 2
        unfold gnF
        rw [if_pos hb]
        omega
      · rw [if_neg c, hQ q hq]
        congr 2
        by_cases c2 : q < p
        · rw [if_pos c2, if_pos (by omega)]
        · rw [if_neg c2, if_neg (by omega)]
theorem gnF_out {A : aE} (hw : wfE A) {q : Nat} (h : aN A ≤ q) : gnF q A = 0 := by
  have hg := hw.2.2.2.2.1
  unfold gnF
  rw [Nat.testBit_lt_two_pow (Nat.lt_of_lt_of_le hg (Nat.pow_le_pow_right (by decide) h))]
  rfl
theorem c_addWX {d w : Nat} {A : aE} {K : tq_St → Prop} (hw : wfE A) (hR : RC S (8 + d) A) (hK : ∀ S', FL 8 d S S' → WS S S' w (fun q => w * gnF q A) → K S') : wp_X0_addWeight (8 + d) (lN w) S K := by
  unfold wp_X0_addWeight
  refine nm_e (c_addWX_13 (S0 := sW S (S.2.2.1 + lN w)) (w := w) hw hR (fun S' f e1 e2 => hK S' ((FL.rf.W _).tr f) ⟨e1, fun q hq => ?_⟩) (aN A) 0 2000 _ (by omega) (by have := hw.1; omega) FL.rf rfl (fun q hq => ?_))
  · rw [e2 q hq]
    show S.2.2.2 q + _ = _
    congr 2
    by_cases c : q < aN A
    · rw [if_pos c]
    · rw [if_neg c]
      show 0 = w * gnF q A
      rw [gnF_out hw (by omega), Nat.mul_zero]
  · rw [if_neg (by omega), lN_z]
theorem c_weighX {v : Nat} (hv : v ≤ 10) : ∀ (e d r w : Nat) (A : aE) (S : tq_St) (K : tq_St → Prop), d + e = 8 → e < r → RC S (8 + d) A → wfE A → (∀ S', FL 8 d S S' → WS S S' (w * wtF v (fun _ => 1) e d A) (fun q => w * wtF v (gnF q) e d A) → K S') → wp_X0_weighFrom r (nI d) (lN w) (nI v) S K := by
  intro e
  induction e with
  | zero =>
    intro d r w A S K h1 h2 hR hw hK
    obtain ⟨r, rfl⟩ : ∃ k, r = k + 1 := ⟨r - 1, by omega⟩
    have hc := hw.2.2.2.2.2.2.2.2.1
    unfold wp_X0_weighFrom
    refine ⟨vp_in_nI (by omega) (by decide), nm_r (by rw [nI_clamp (by omega)]) ?_⟩
    rw [hR.2.2.2.2.2.1]
    exact pk_le (aC A) d (fun _ => c_addWX hw hR (fun S' f ws => hK S' f (ws.eq (Nat.mul_one w).symm (fun _ _ => rfl)))) (fun z => absurd z (by omega))
  | succ e ih =>
    intro d r w A S K h1 h2 hR hw hK
    obtain ⟨r, rfl⟩ : ∃ k, r = k + 1 := ⟨r - 1, by omega⟩
    have hc := hw.2.2.2.2.2.2.2.2.1
    unfold wp_X0_weighFrom
    refine ⟨vp_in_nI (by omega) (by decide), nm_r (by rw [nI_clamp (by omega)]) ?_⟩
    rw [hR.2.2.2.2.2.1]
    refine pk_le (aC A) d (fun hd => c_addWX hw hR (fun S' f ws => hK S' f (ws.eq (by rw [wtF_end _ _ _ hd, Nat.mul_one]) (fun q _ => by rw [wtF_end _ _ _ hd])))) (fun hd => pk_lt d 8 (fun _ => ?_) (fun z => absurd z (by omega)))
    rw [nI_1]
    refine ⟨vp_in_nI (by omega) (by decide), nm_r (by rw [nI_clamp (by omega)]) ⟨vp_in_nI (by omega) (by decide), nm_r (by rw [nI_clamp (by omega), hR.2.2.2.2.2.2.2.2.2 d hd]) ?_⟩⟩
    have ha := hw.2.2.2.2.2.2.2.2.2 d hd
    have hn := hw.1
    have hmul : ∀ a b : Nat, b < 2 ^ 31 → lN a * (nI b).toInt64 = lN (a * b) := fun a b hb => by rw [nI_l hb, lN_mul]
    -- a copy, an act on it, and on
    have hgo : ∀ (w' : Nat) (S1 : tq_St) (K' : tq_St → Prop), FL 8 d S S1 → (∀ S', FL 8 d S S' → WS S1 S' (w' * wtF v (fun _ => 1) e (d + 1) (playF A (aA A d))) (fun q => w' * wtF v (gnF q) e (d + 1) (playF A (aA A d))) → K' S') → wp_X1_copyFrom (8 + (d + 1)) (8 + d) S1 (fun S2 => wp_X1_play (8 + (d + 1)) (nI (aA A d)) S2 (fun r3 S3 => wp_X0_weighFrom r (nI (d + 1)) (lN w') (nI v) S3 K')) := by
      intro w' S1 K' hF hK'
      refine c_copyFrom (o := 8 + (d + 1)) (hR.fl hF) hw (by omega) (fun S2 a1 a2 _ _ _ => ?_)
      refine c_play a1 hw ha (fun S3 b1 b2 _ _ _ => ?_)
      refine ih (d + 1) r w' (playF A (aA A d)) S3 K' (by omega) (by omega) b1 (playF_wf hw _) (fun S4 f4 ws => hK' S4 ?_ (ws.pre (b2.2.trans a2.2)))
      exact ((hF.tr (a2.fl (Or.inl (by omega)) (Or.inr (by omega)))).tr (b2.fl (Or.inl (by omega)) (Or.inr (by omega)))).tr (f4.le (by omega))
    have h125 : aA A d < 5 → ∀ S1, FL 8 d S S1 → WS S S1 (w * (10 - v) * wtF v (fun _ => 1) e (d + 1) (playF A (aA A d))) (fun q => w * (10 - v) * wtF v (gnF q) e (d + 1) (playF A (aA A d))) → wp_X0_weighFrom_125 (wp_X0_weighFrom r) K (nI d) (lN w) (nI v) (8 + d) (8 + (d + 1)) S1 := by
      intro h5 S1 hF ws
      have ew : ∀ f : aE → Nat, wtF v f (e + 1) d A = (10 - v) * wtF v f e (d + 1) (playF A (aA A d)) + v * wtF v f e (d + 1) A := fun f => by
        conv => lhs; unfold wtF
        rw [if_pos hd, if_pos h5]
      unfold wp_X0_weighFrom_125
      rw [nI_1]
      refine pk_le v 0 (fun z => ?_) (fun z => ?_)
      · have hv0 : v = 0 := by omega
        refine hK S1 hF (ws.eq ?_ (fun q _ => ?_))
        · rw [ew, hv0, Nat.zero_mul, Nat.mul_assoc]; rfl
        · show _ = w * wtF v (gnF q) (e + 1) d A
          rw [ew, hv0, Nat.zero_mul, Nat.mul_assoc]; rfl
      · rw [hmul _ _ (by omega)]
        refine c_copyFrom (o := 8 + (d + 1)) (hR.fl hF) hw (by omega) (fun S2 a1 a2 _ _ _ => ?_)
        refine ih (d + 1) r (w * v) A S2 _ (by omega) (by omega) a1 hw (fun S4 f4 ws2 => hK S4 ((hF.tr (a2.fl (Or.inl (by omega)) (Or.inr (by omega)))).tr (f4.le (by omega))) ((ws.tr (ws2.pre a2.2)).eq ?_ (fun q _ => ?_)))
        · rw [ew, Nat.mul_add, Nat.mul_assoc, Nat.mul_assoc]
        · show _ = w * wtF v (gnF q) (e + 1) d A
          rw [ew, Nat.mul_add, Nat.mul_assoc, Nat.mul_assoc]
    refine c_isThere hR.1 hw.1 (fun j hj e1 => ⟨fun _ => ?_, fun z => absurd z (by decide)⟩) (fun hno => ⟨fun z => absurd rfl z, fun _ => ?_⟩)
    · have h5 : aA A d < 5 := by
        have h31 : aA A d < 2 ^ 31 := by unfold okA at ha; omega
        have := (nI_eq h31 (by omega)).mp e1
        omega
      refine pk_le 10 v (fun z => ?_) (fun z => ?_)
      · refine h125 h5 S FL.rf (WS.rf.eq ?_ (fun q _ => ?_))
        · rw [show 10 - v = 0 by omega, Nat.mul_zero, Nat.zero_mul]
        · rw [show 10 - v = 0 by omega, Nat.mul_zero, Nat.zero_mul]
      · have e10 : (10 : Int32) - nI v = nI (10 - v) := pk_sub (a := 10) (b := v) hv
        rw [e10, hmul _ _ (by omega)]
        exact hgo (w * (10 - v)) S _ FL.rf (fun S' f ws => h125 h5 S' f ws)
    · have h5 : ¬ aA A d < 5 := by
        intro c
        rcases ha with h | h | h
        · exact hno _ h rfl
        · omega
        · omega
      have ew : ∀ f : aE → Nat, wtF v f (e + 1) d A = wtF v f e (d + 1) (playF A (aA A d)) := fun f => by
        conv => lhs; unfold wtF
        rw [if_pos hd, if_neg h5]
      refine hgo w S _ FL.rf (fun S' f ws => hK S' f (ws.eq (by rw [ew]) (fun q _ => ?_)))
      show _ = w * wtF v (gnF q) (e + 1) d A
      rw [ew]
theorem c_fillGX {S0 : tq_St} {K : tq_St → Prop} (hK : ∀ S', FL 8 0 S0 S' → (∀ q, q < 5 → S'.2.2.2 q = 0) → K S') : ∀ (m i f : Nat) (S : tq_St), i + m = 5 → m < f → FL 8 0 S0 S → (∀ q, q < i → S.2.2.2 q = 0) → wp_J7_fill_d0a16_6 K f 0 (nI i) (nI 5) S
  | 0, i, f + 1, S, h1, h2, hF, hQ => by
    unfold wp_J7_fill_d0a16_6
    exact pk_le 5 i (fun _ => hK S hF (fun q hq => hQ q (by omega))) (fun z => absurd z (by omega))
  | m + 1, i, f + 1, S, h1, h2, hF, hQ => by
    unfold wp_J7_fill_d0a16_6
    refine pk_le 5 i (fun z => absurd z (by omega)) (fun _ => ⟨vp_in_nI (by omega) (by decide), nm_e (nm_r (nI_1 i) ?_)⟩)
    rw [nI_clamp (by omega)]
    refine c_fillGX hK m (i + 1) f _ (by omega) (by omega) (hF.gw _ _) (fun q hq => ?_)
    have eg : (sG S i 0).2.2.2 q = if q = i then 0 else S.2.2.2 q := rfl
    rw [eg]
    by_cases c : q = i
    · rw [if_pos c]
    · rw [if_neg c]; exact hQ q (by omega)
/-- the plan weighed: the whole, and what each is gone by -/
theorem q_weighX {v : Nat} {K : tq_St → Prop} (hv : v ≤ 10) (hG : RQ S G) (hw : wfQ G) (hK : ∀ S', FX S S' → S'.2.2.1 = lN (tnF (qA G) 8 0) → (∀ q, q < 5 → S'.2.2.2 q = lN (wtF v (gnF q) 8 0 (qA G))) → K S') : wp_X0_weighPlan 0 (nI v) S K := by
  unfold wp_X0_weighPlan
  have c0 : (0 : Int32).toNatClampNeg = 0 := by decide
  rw [c0]
  refine ⟨vp_in_nI (n := 0) (by decide) (by decide), ?_⟩
  refine c_startFrom (o := 8 + 0) hG.1 hw.1 (by decide) (fun S1 a1 a2 a3 => ?_)
  refine c_fillGX (S0 := S1) (fun S2 f2 hQ => nm_e ?_) 5 0 2000 S1 (by omega) (by omega) FL.rf (fun q hq => absurd hq (by omega))
  have f3 := f2.W 0
  have hz : ∀ x : Nat, (0 : Int64) + lN x = lN x := fun x => by
    show lN 0 + lN x = lN x
    rw [lN_add, Nat.zero_add]
  refine c_weighX hv 8 0 12 1 (qA G) _ K (by omega) (by omega) (a1.fl f3) hw.1 (fun S' f ws => hK S' ?_ ?_ (fun q hq => ?_))
  · exact ((a2.fx (Or.inl (by decide))).tr f3.1).tr f.1
  · rw [ws.1]
    show (0 : Int64) + lN (1 * wtF v (fun _ => 1) 8 0 (qA G)) = _
    rw [hz, Nat.one_mul, wtF_one hv]
  · rw [ws.2 q hq]
    show S2.2.2.2 q + lN (1 * wtF v (gnF q) 8 0 (qA G)) = _
    rw [hQ q hq, hz, Nat.one_mul]
-- LOWEST TERMS
def loF (u d : Nat) (y : Int32) : Int64 := lN ((if y = 0 then u else d) / Nat.gcd u d)
theorem gcd_step (a b : Nat) : Nat.gcd b (a % b) = Nat.gcd a b := by
  rw [Nat.gcd_comm a b, Nat.gcd_rec b a, Nat.gcd_comm]
theorem z_lowX_6 {u d : Nat} {y : Int32} (hu : u < 2 ^ 63) (hd : d < 2 ^ 63) (hd0 : 0 < d) (hK : KL (loF u d y) S) : ∀ (k a b f : Nat), b < 2 ^ k → a < 2 ^ 63 → b < 2 ^ 63 → 2 * k + 1 ≤ f → (0 < a ∨ 0 < b) → Nat.gcd a b = Nat.gcd u d → wp_X7_lowest_6 KL f (lN u) (lN d) y (lN a) (lN b) S := by
  have hend : ∀ a f : Nat, 0 < a → a < 2 ^ 63 → 1 ≤ f → Nat.gcd a 0 = Nat.gcd u d → wp_X7_lowest_6 KL f (lN u) (lN d) y (lN a) (lN 0) S := by
    intro a f h0 ha hf hg
    obtain ⟨f, rfl⟩ : ∃ k, f = k + 1 := ⟨f - 1, by omega⟩
    rw [Nat.gcd_zero_right] at hg
    unfold loF at hK
    rw [← hg] at hK
    refine ⟨fun _ => ⟨fun z => ⟨lN_ne h0 ha, ?_⟩, fun z => ⟨lN_ne h0 ha, ?_⟩⟩, fun z => absurd (by decide) z⟩
    · rw [if_neg z] at hK
      rw [pk_lDiv hd h0 ha]
      exact hK
    · rw [if_pos z] at hK
      rw [pk_lDiv hu h0 ha]
      exact hK
  have hstep : ∀ a b f : Nat, 0 < b → a < 2 ^ 63 → b < 2 ^ 63 → wp_X7_lowest_6 KL f (lN u) (lN d) y (lN b) (lN (a % b)) S → wp_X7_lowest_6 KL (f + 1) (lN u) (lN d) y (lN a) (lN b) S := by
    intro a b f h0 ha hb h
    refine ⟨fun z => absurd ((lgc_0 hb).mp z) (by omega), fun _ => ⟨lN_ne h0 hb, nm_r (pk_lRem ha h0 hb) h⟩⟩
  intro k
  induction k with
  | zero =>
    intro a b f hk ha hb hf hab hg
    have e : b = 0 := by
      have : (2 : Nat) ^ 0 = 1 := rfl
      omega
    subst e
    exact hend a f (by omega) ha (by omega) hg
  | succ k ih =>
    intro a b f hk ha hb hf hab hg
    rcases Nat.eq_zero_or_pos b with c | c
    · subst c
      exact hend a f (by omega) ha (by omega) hg
    · obtain ⟨f, rfl⟩ : ∃ j, f = j + 2 := ⟨f - 2, by omega⟩
      have hr : a % b < b := Nat.mod_lt _ c
      have hg1 : Nat.gcd b (a % b) = Nat.gcd u d := (gcd_step a b).trans hg
      refine hstep a b (f + 1) c ha hb ?_
      rcases Nat.eq_zero_or_pos (a % b) with c2 | c2
      · rw [c2] at hg1 ⊢
        exact hend b (f + 1) c hb (by omega) hg1
      · refine hstep b (a % b) f c2 hb (by omega) ?_
        have h2 : b % (a % b) < a % b := Nat.mod_lt _ c2
        have h3 : b % (a % b) + (a % b) ≤ b := by
          have h4 := Nat.div_add_mod b (a % b)
          have h5 : 1 ≤ b / (a % b) := Nat.div_pos (by omega) c2
          have h6 : a % b ≤ a % b * (b / (a % b)) := Nat.le_mul_of_pos_right _ h5
          omega
        have h7 : (2 : Nat) ^ (k + 1) = 2 * 2 ^ k := by rw [Nat.pow_succ]; omega
        exact ih (a % b) (b % (a % b)) f (by omega) (by omega) (by omega) (by omega) (Or.inl c2) ((gcd_step b (a % b)).trans hg1)
theorem z_lowX {u d : Nat} {y : Int32} (hu : u < 2 ^ 63) (hd : d < 2 ^ 63) (hd0 : 0 < d) (hK : KL (loF u d y) S) : wp_X7_lowest (lN u) (lN d) y S KL :=
  z_lowX_6 hu hd hd0 hK 63 u d 2000 hd hu hd (by decide) (Or.inr hd0) rfl
theorem c_gdX {u d : Nat} (hK : KL (lN (Nat.gcd u d)) S) : ∀ (k a b i f : Nat), b < 2 ^ k → a < 2 ^ 63 → b < 2 ^ 63 → 2 * k + i ≤ 200 → 2 * k + 1 ≤ f → Nat.gcd a b = Nat.gcd u d → wp_X6_greatestDivisor_3 KL f (lN a) (lN b) (nI i) S := by
  have hend : ∀ a i f : Nat, a < 2 ^ 63 → i ≤ 200 → 1 ≤ f → Nat.gcd a 0 = Nat.gcd u d → wp_X6_greatestDivisor_3 KL f (lN a) (lN 0) (nI i) S := by
    intro a i f ha hi hf hg
    obtain ⟨f, rfl⟩ : ∃ k, f = k + 1 := ⟨f - 1, by omega⟩
    rw [Nat.gcd_zero_right] at hg
    rw [← hg] at hK
    exact pk_le 200 i (fun _ => hK) (fun _ => ⟨fun _ => hK, fun z => absurd (by decide) z⟩)
  have hstep : ∀ a b i f : Nat, 0 < b → a < 2 ^ 63 → b < 2 ^ 63 → i < 200 → wp_X6_greatestDivisor_3 KL f (lN b) (lN (a % b)) (nI (i + 1)) S → wp_X6_greatestDivisor_3 KL (f + 1) (lN a) (lN b) (nI i) S := by
    intro a b i f h0 ha hb hi h
    refine pk_le 200 i (fun z => absurd z (by omega)) (fun _ => ⟨fun z => absurd ((lgc_0 hb).mp z) (by omega), fun _ => ⟨lN_ne h0 hb, nm_r (pk_lRem ha h0 hb) (nm_r (nI_1 i) h)⟩⟩)
  intro k
  induction k with
  | zero =>
    intro a b i f hk ha hb hi hf hg
    have e : b = 0 := by
      have : (2 : Nat) ^ 0 = 1 := rfl
      omega
    subst e
    exact hend a i f ha (by omega) (by omega) hg
  | succ k ih =>
    intro a b i f hk ha hb hi hf hg
    rcases Nat.eq_zero_or_pos b with c | c
    · subst c
      exact hend a i f ha (by omega) (by omega) hg
    · obtain ⟨f, rfl⟩ : ∃ j, f = j + 2 := ⟨f - 2, by omega⟩
      have hr : a % b < b := Nat.mod_lt _ c
      have hg1 : Nat.gcd b (a % b) = Nat.gcd u d := (gcd_step a b).trans hg
      refine hstep a b i (f + 1) c ha hb (by omega) ?_
      rcases Nat.eq_zero_or_pos (a % b) with c2 | c2
      · rw [c2] at hg1 ⊢
        exact hend b (i + 1) (f + 1) hb (by omega) (by omega) hg1
      · refine hstep b (a % b) (i + 1) f c2 hb (by omega) (by omega) ?_
        have h2 : b % (a % b) < a % b := Nat.mod_lt _ c2
        have h3 : b % (a % b) + (a % b) ≤ b := by
          have h4 := Nat.div_add_mod b (a % b)
          have h5 : 1 ≤ b / (a % b) := Nat.div_pos (by omega) c2
          have h6 : a % b ≤ a % b * (b / (a % b)) := Nat.le_mul_of_pos_right _ h5
          omega
        have h7 : (2 : Nat) ^ (k + 1) = 2 * 2 ^ k := by rw [Nat.pow_succ]; omega
        exact ih (a % b) (b % (a % b)) (i + 1 + 1) f (by omega) (by omega) (by omega) (by omega) (by omega) ((gcd_step b (a % b)).trans hg1)
theorem c_partX {u d : Nat} {y : Int32} (hu : u < 2 ^ 63) (hd : d < 2 ^ 63) (hd0 : 0 < d) (hK : KL (loF u d y) S) : wp_X6_partOfFraction (lN u) (lN d) y S KL := by
  have hg0 : 0 < Nat.gcd u d := Nat.gcd_pos_of_pos_right u hd0
  have hgl : Nat.gcd u d < 2 ^ 63 := Nat.lt_of_le_of_lt (Nat.gcd_le_right u hd0) hd
  have h17 : ∀ w0 : Nat, w0 < 2 ^ 63 → KL (lN (w0 / Nat.gcd u d)) S → wp_X6_partOfFraction_17 KL (lN (Nat.gcd u d)) (lN w0) S := by
    intro w0 h0 h
    refine ⟨fun _ => ⟨lN_ne hg0 hgl, ?_⟩, fun z => ?_⟩
    · rw [pk_lDiv h0 hg0 hgl]
      exact h
    · exfalso
      have e1 : (1 : Int64).toInt = 1 := by decide
      have hlt : lg_cmp (lN (Nat.gcd u d)) 1 < 0 := fa_of_nle z
      rw [lgc_lt, pk_lT hgl, e1] at hlt
      omega
  unfold wp_X6_partOfFraction wp_X6_greatestDivisor
  unfold loF at hK
  refine c_gdX (u := u) (d := d) ⟨fun z => h17 d hd ?_, fun z => h17 u hu ?_⟩ 63 u d 0 2000 hd hu hd (by decide) (by decide) rfl
  · rw [if_neg z] at hK; exact hK
  · rw [if_pos z] at hK; exact hK
end LUK
end
section
section MEA
variable {S S0 : tq_St} {G : aQ} {K : Int32 → tq_St → Prop} {KL : Int64 → tq_St → Prop}
-- SUMS over rows of failures
def smF (g : Nat → Nat) : Nat → Nat
  | 0 => 0
  | n + 1 => smF g n + g n
theorem smF_cong {g h : Nat → Nat} : ∀ n, (∀ s, s < n → g s = h s) → smF g n = smF h n
  | 0, _ => rfl
  | n + 1, e => by
    unfold smF
    rw [smF_cong n (fun s hs => e s (by omega)), e n (by omega)]
theorem smF_2 (g : Nat → Nat) : ∀ n, smF g (2 * n) = smF (fun s => g (2 * s) + g (2 * s + 1)) n
  | 0 => rfl
  | n + 1 => by
    rw [show 2 * (n + 1) = (2 * n + 1) + 1 by omega]
    show smF g (2 * n) + g (2 * n) + g (2 * n + 1) = smF _ n + (g (2 * n) + g (2 * n + 1))
    rw [smF_2 g n]
    omega
theorem smF_add (g h : Nat → Nat) : ∀ n, smF (fun s => g s + h s) n = smF g n + smF h n
  | 0 => rfl
  | n + 1 => by
    unfold smF
    rw [smF_add g h n]
    omega
theorem smF_mul (c : Nat) (g : Nat → Nat) : ∀ n, smF (fun s => c * g s) n = c * smF g n
  | 0 => rfl
  | n + 1 => by
    unfold smF
    rw [smF_mul c g n, Nat.mul_add]
/-- which acts are thoughts -/
def tmF (A : aE) : Nat → Nat
  | 0 => 0
  | k + 1 => if aA A k < 5 then tmF A k ||| 2 ^ k else tmF A k
theorem tmF_lt (A : aE) : ∀ k, tmF A k < 2 ^ k
  | 0 => Nat.zero_lt_one
  | k + 1 => by
    have h := tmF_lt A k
    have h2 : 2 ^ k < 2 ^ (k + 1) := Nat.pow_lt_pow_right (by decide) (by omega)
    unfold tmF
    split
    · exact zb_orlt (by omega) (by omega)
    · omega
theorem tmF_bit (A : aE) : ∀ k j, (tmF A k).testBit j = decide (j < k ∧ aA A j < 5)
  | 0, j => by
    show Nat.testBit 0 j = _
    rw [Nat.zero_testBit, decide_eq_false (by omega)]
  | k + 1, j => by
    have ih := tmF_bit A k j
    unfold tmF
    by_cases h : aA A k < 5
    · rw [if_pos h, Nat.testBit_or, ih, Nat.testBit_two_pow]
      by_cases c : j = k
      · subst c
        rw [decide_eq_true (p := j = j) rfl, Bool.or_true, decide_eq_true (by omega)]
      · rw [decide_eq_false (p := k = j) (by omega), Bool.or_false]
        by_cases c2 : j < k ∧ aA A j < 5
        · rw [decide_eq_true c2, decide_eq_true (by omega)]
        · rw [decide_eq_false c2, decide_eq_false (by omega)]
    · rw [if_neg h, ih]
      by_cases c2 : j < k ∧ aA A j < 5
      · rw [decide_eq_true c2, decide_eq_true (by omega)]
      · have : ¬ (j < k + 1 ∧ aA A j < 5) := by
          intro z
          by_cases c : j = k
          · subst c; exact h z.2
          · exact c2 ⟨by omega, z.2⟩
        rw [decide_eq_false c2, decide_eq_false this]
/-- what one row of failures adds -/
def cwF (v T : Nat) (f : aE → Nat) : Nat → Nat → aE → Nat → Nat
  | 0, _, A, _ => f A
  | e + 1, i, A, s => if T.testBit i then (if s % 2 = 1 then v * cwF v T f e (i + 1) A (s / 2) else (10 - v) * cwF v T f e (i + 1) (playF A (aA A i)) (s / 2)) else (if s % 2 = 1 then 0 else cwF v T f e (i + 1) (if i < aC A then playF A (aA A i) else A) (s / 2))
theorem cwF_s {v T : Nat} {f : aE → Nat} {e i : Nat} {A : aE} {s : Nat} : cwF v T f (e + 1) i A s = if T.testBit i then (if s % 2 = 1 then v * cwF v T f e (i + 1) A (s / 2) else (10 - v) * cwF v T f e (i + 1) (playF A (aA A i)) (s / 2)) else (if s % 2 = 1 then 0 else cwF v T f e (i + 1) (if i < aC A then playF A (aA A i) else A) (s / 2)) := rfl
theorem tm_play {T : Nat} {A : aE} {a : Nat} (h : ∀ j, T.testBit j = decide (j < aC A ∧ aA A j < 5)) : ∀ j, T.testBit j = decide (j < aC (playF A a) ∧ aA (playF A a) j < 5) := by
  intro j
  have hs := playF_same A a
  rw [hs.2.2.2.2.1, hs.2.2.2.2.2]
  exact h j
theorem cw_sum {v T : Nat} {f : aE → Nat} : ∀ (e i : Nat) (A : aE), (∀ j, T.testBit j = decide (j < aC A ∧ aA A j < 5)) → smF (fun s => cwF v T f e i A s) (2 ^ e) = wtF v f e i A
  | 0, i, A, _ => by
    show 0 + f A = f A
    omega
  | e + 1, i, A, hT => by
    have hp : (2 : Nat) ^ (e + 1) = 2 * 2 ^ e := by rw [Nat.pow_succ]; omega
    have m0 : ∀ s : Nat, 2 * s % 2 = 0 := fun s => by omega
    have m1 : ∀ s : Nat, (2 * s + 1) % 2 = 1 := fun s => by omega
    have q0 : ∀ s : Nat, 2 * s / 2 = s := fun s => by omega
    have q1 : ∀ s : Nat, (2 * s + 1) / 2 = s := fun s => by omega
    rw [hp, smF_2]
    by_cases hb : T.testBit i = true
    · have hc : i < aC A ∧ aA A i < 5 := by
        have := hT i
        rw [hb] at this
        exact of_decide_eq_true this.symm
      rw [smF_cong (h := fun s => (10 - v) * cwF v T f e (i + 1) (playF A (aA A i)) s + v * cwF v T f e (i + 1) A s) _ (fun s _ => ?_), smF_add, smF_mul, smF_mul, cw_sum e (i + 1) _ (tm_play hT), cw_sum e (i + 1) A hT]
      · conv => rhs; unfold wtF
        rw [if_pos hc.1, if_pos hc.2]
      · show cwF v T f (e + 1) i A (2 * s) + cwF v T f (e + 1) i A (2 * s + 1) = _
        rw [cwF_s, cwF_s, if_pos hb, if_pos hb, m0, m1, q0, q1, if_neg (by decide), if_pos rfl]
    · have hb' : T.testBit i = false := by simpa using hb
      rw [smF_cong (h := fun s => cwF v T f e (i + 1) (if i < aC A then playF A (aA A i) else A) s) _ (fun s _ => ?_)]
      · by_cases hi : i < aC A
        · have h5 : ¬ aA A i < 5 := by
            intro c
            have := hT i
            rw [hb', decide_eq_true ⟨hi, c⟩] at this
            exact absurd this (by decide)
          rw [if_pos hi, cw_sum e (i + 1) _ (tm_play hT)]
          conv => rhs; unfold wtF
          rw [if_pos hi, if_neg h5]
        · rw [if_neg hi, cw_sum e (i + 1) A hT]
          conv => rhs; unfold wtF
          rw [if_neg hi]
      · show cwF v T f (e + 1) i A (2 * s) + cwF v T f (e + 1) i A (2 * s + 1) = _
        rw [cwF_s, cwF_s, if_neg hb, if_neg hb, m0, m1, q0, q1, if_neg (by decide), if_pos rfl, Nat.add_zero]
/-- the reference's product of odds -/
def oLF (v T s : Nat) : Nat → Nat → Nat → Nat
  | 0, _, o => o
  | m + 1, i, o => oLF v T s m (i + 1) (o * (if T.testBit i then (if s.testBit i then v else 10 - v) else 1))
theorem tb_mod (s i : Nat) : s.testBit i = decide (s / 2 ^ i % 2 = 1) := Nat.testBit_eq_decide_div_mod_eq
theorem tb_div (s i : Nat) : s / 2 ^ i / 2 = s / 2 ^ (i + 1) := by rw [Nat.div_div_eq_div_mul, ← Nat.pow_succ]
theorem cw_o {v T s : Nat} {f : aE → Nat} (hsub : ∀ j, s.testBit j = true → T.testBit j = true) : ∀ (e i : Nat) (A : aE) (t : aY) (o : Nat), aC A ≤ i + e → (∀ j, T.testBit j = decide (j < aC A ∧ aA A j < 5)) → o * cwF v T f e i A (s / 2 ^ i) = oLF v T s e i o * f (goM (aA A) s (aC A - i) i A t).1
  | 0, i, A, t, o, he, hT => by
    rw [show aC A - i = 0 by omega]
    rfl
  | e + 1, i, A, t, o, he, hT => by
    have hm := tb_mod s i
    unfold cwF oLF
    rw [tb_div]
    by_cases hb : T.testBit i = true
    · have hc : i < aC A ∧ aA A i < 5 := by
        have := hT i
        rw [hb] at this
        exact of_decide_eq_true this.symm
      rw [if_pos hb, if_pos hb, show aC A - i = (aC A - (i + 1)) + 1 by omega]
      by_cases hs : s.testBit i = true
      · have h1 : s / 2 ^ i % 2 = 1 := by rw [hs] at hm; exact of_decide_eq_true hm.symm
        rw [if_pos h1, if_pos hs, ← Nat.mul_assoc, cw_o hsub e (i + 1) A t (o * v) (by omega) hT]
        conv => rhs; unfold goM
        rw [if_pos hs]
      · have h1 : ¬ s / 2 ^ i % 2 = 1 := by
          intro c
          rw [decide_eq_true c] at hm
          exact hs hm
        have hpl := playF_same A (aA A i)
        have ih := fun t' => cw_o (v := v) (f := f) hsub e (i + 1) (playF A (aA A i)) t' (o * (10 - v)) (by rw [hpl.2.2.2.2.1]; omega) (tm_play hT)
        rw [hpl.2.2.2.2.1, hpl.2.2.2.2.2] at ih
        rw [if_neg h1, if_neg hs, ← Nat.mul_assoc]
        conv => rhs; unfold goM
        rw [if_neg hs]
        exact ih _
    · have hs : ¬ s.testBit i = true := fun c => hb (hsub i c)
      have h1 : ¬ s / 2 ^ i % 2 = 1 := by
        intro c
        rw [decide_eq_true c] at hm
        exact hs hm
      rw [if_neg hb, if_neg hb, if_neg h1, Nat.mul_one]
      by_cases hi : i < aC A
      · have hpl := playF_same A (aA A i)
        have ih := fun t' => cw_o (v := v) (f := f) hsub e (i + 1) (playF A (aA A i)) t' o (by rw [hpl.2.2.2.2.1]; omega) (tm_play hT)
        rw [hpl.2.2.2.2.1, hpl.2.2.2.2.2] at ih
        rw [if_pos hi, show aC A - i = (aC A - (i + 1)) + 1 by omega]
        conv => rhs; unfold goM
        rw [if_neg hs]
        exact ih _
      · rw [if_neg hi]
        have ih := cw_o (v := v) (f := f) hsub e (i + 1) A t o (by omega) hT
        rw [show aC A - (i + 1) = 0 by omega] at ih
        rw [show aC A - i = 0 by omega]
        exact ih
theorem cw_0 {v T s : Nat} {f : aE → Nat} {j : Nat} (hs : s.testBit j = true) (hj : T.testBit j = false) : ∀ (e i : Nat) (A : aE), i ≤ j → j < i + e → cwF v T f e i A (s / 2 ^ i) = 0
  | 0, i, A, h1, h2 => absurd h2 (by omega)
  | e + 1, i, A, h1, h2 => by
    have hm := tb_mod s i
    unfold cwF
    rw [tb_div]
    by_cases c : i = j
    · subst c
      have hd : s / 2 ^ i % 2 = 1 := by rw [hs] at hm; exact of_decide_eq_true hm.symm
      rw [if_neg (by rw [hj]; decide), if_pos hd]
    · rw [cw_0 hs hj e (i + 1) _ (by omega) (by omega), cw_0 hs hj e (i + 1) _ (by omega) (by omega), cw_0 hs hj e (i + 1) _ (by omega) (by omega), Nat.mul_zero, Nat.mul_zero]
      split <;> split <;> rfl
theorem sub_iff {s T : Nat} (hs : s < 256) (hT : T < 256) : (nI s &&& (nI T ^^^ (-1)) : Int32) = 0 ↔ ∀ j, s.testBit j = true → T.testBit j = true := by
  have e1 : (-1 : Int32) = nI (2 ^ 32 - 1) := by decide +kernel
  have e2 : nI T ^^^ nI (2 ^ 32 - 1) = nI (T ^^^ (2 ^ 32 - 1)) := by
    apply Int32.toBitVec_inj.1
    show BitVec.ofNat 32 T ^^^ BitVec.ofNat 32 (2 ^ 32 - 1) = BitVec.ofNat 32 (T ^^^ (2 ^ 32 - 1))
    rw [BitVec.ofNat_xor]
  have e3 : nI s &&& nI (T ^^^ (2 ^ 32 - 1)) = nI (s &&& (T ^^^ (2 ^ 32 - 1))) := by
    apply Int32.toBitVec_inj.1
    show BitVec.ofNat 32 s &&& BitVec.ofNat 32 (T ^^^ (2 ^ 32 - 1)) = BitVec.ofNat 32 (s &&& (T ^^^ (2 ^ 32 - 1)))
    rw [BitVec.ofNat_and]
  have hle : s &&& (T ^^^ (2 ^ 32 - 1)) ≤ s := Nat.and_le_left
  have hM : ∀ j, (2 ^ 32 - 1 : Nat).testBit j = decide (j < 32) := fun j => Nat.testBit_two_pow_sub_one 32 j
  have h32 : ∀ j, s.testBit j = true → j < 32 := by
    intro j hj
    rcases Nat.lt_or_ge j 32 with c | c
    · exact c
    · have : s.testBit j = false := Nat.testBit_lt_two_pow (Nat.lt_of_lt_of_le hs (Nat.le_trans (by decide : 256 ≤ 2 ^ 32) (Nat.pow_le_pow_right (by decide) c)))
      rw [this] at hj
      exact absurd hj (by decide)
  have e0 : (0 : Int32) = nI 0 := rfl
  rw [e1, e2, e3, e0, nI_eq (by omega) (by decide)]
  constructor
  · intro h j hj
    have h2 := congrArg (fun x => x.testBit j) h
    have h2 : (s &&& (T ^^^ (2 ^ 32 - 1))).testBit j = (0 : Nat).testBit j := h2
    rw [Nat.testBit_and, Nat.testBit_xor, hM, Nat.zero_testBit, hj, decide_eq_true (h32 j hj)] at h2
    cases hb : T.testBit j with
    | true => rfl
    | false => rw [hb] at h2; exact absurd h2 (by decide)
  · intro h
    apply Nat.eq_of_testBit_eq
    intro j
    rw [Nat.testBit_and, Nat.testBit_xor, hM, Nat.zero_testBit]
    cases hb : s.testBit j with
    | false => rfl
    | true => rw [h j hb, decide_eq_true (h32 j hb)]; rfl
/-- whom the sum is about -/
def FQ (p : Int32) (f : aE → Nat) : Prop := (p = -4 ∧ f = fun B => pcN (aG B)) ∨ ∃ q, q < 5 ∧ p = nI q ∧ f = gnF q
theorem FQ.le {p : Int32} {f : aE → Nat} (h : FQ p f) (B : aE) : f B ≤ 31 := by
  rcases h with ⟨-, e⟩ | ⟨q, -, -, e⟩
  · subst e; exact pcN_le _
  · subst e
    show (if (aG B).testBit q then 1 else 0) ≤ 31
    split <;> omega
theorem z_bfX_123 {S0 : tq_St} {rec99 : Int32 → Int32 → Int32 → Int32 → Int64 → Int64 → Int32 → tq_St → Prop} {v T s u : Nat} {f0 : aE → Nat} {p y : Int32} {v7 : Int64} (hG0 : RZ S0 G) (hw : wfQ G) (hv : v ≤ 10) (hs : s < 256) (hT : T < 256) (hp : FQ p f0) (hrec : ∀ S', FZ S0 S' → rec99 (nI v) p y (nI T) (lN (u + oLF v T s 8 0 1 * f0 (planM (qA G) s).1)) v7 (nI (s + 1)) S') : ∀ (m i f o : Nat) (S : tq_St), i + m = 8 → m < f → oLF v T s m i o = oLF v T s 8 0 1 → FZ S0 S → wp_X7_byFails_123 KL rec99 f (nI v) p y (nI T) (lN u) v7 (nI s) (lN o) (nI i) S
  | 0, i, f + 1, o, S, h1, h2, ho, hF => by
    have hi : i = 8 := by omega
    subst hi
    have ho : o = oLF v T s 8 0 1 := ho
    have hG := hG0.fz hw hF
    unfold wp_X7_byFails_123
    refine pk_le 8 8 (fun _ => ?_) (fun z => absurd z (by omega))
    refine m_planGoes (g := 0) (but := s) hG.1 hw.1 (by omega) (by omega) (fun S1 a1 a2 a3 => ?_)
    have hF1 := hF.tr a3.fz
    have hwp := (goM_ok (ac := aA (qA G)) (but := s) (aC (qA G)) 0 (qA G) (0, 0, none) hw.1).1
    have hgl := hwp.gl
    have h211 : ∀ c : Nat, c ≤ 31 → c = f0 (planM (qA G) s).1 → wp_X7_byFails_211 KL rec99 (nI v) p y (nI T) v7 (nI s) (lN u) (lN o) (nI c) S1 := by
      intro c hc ec
      unfold wp_X7_byFails_211
      refine nm_r (e' := lN (u + o * c)) (by rw [nI_l (by omega), lN_mul, lN_add]) (nm_r (nI_1 s) ?_)
      have := hrec S1 hF1
      rw [← ho, ← ec] at this
      exact this
    have q127 : S1.2.1 28 0 (127 : Int32).toNatClampNeg = nI (aG (planM (qA G) s).1) := a1.2.2.2.2.1
    rcases hp with ⟨e, ef⟩ | ⟨q, hq, e, ef⟩
    · subst e
      subst ef
      exact ⟨fun z => absurd rfl z, fun _ => z_goneThen a1 hwp (h211 _ (pcN_le _) rfl)⟩
    · subst e
      subst ef
      rw [q127, zb_val (Nat.lt_of_lt_of_le hgl (by decide)) (by omega)]
      exact ⟨fun _ => ⟨vp_in_nI (n := 127) (by decide) (by decide), h211 _ (by split <;> omega) rfl⟩, fun z => absurd z (oI_ne (by omega))⟩
  | m + 1, i, f + 1, o, S, h1, h2, ho, hF => by
    unfold wp_X7_byFails_123
    unfold oLF at ho
    have h167 : ∀ (c : Nat) (w1 : Int64), w1 = lN c → c = (if T.testBit i then (if s.testBit i then v else 10 - v) else 1) → wp_X7_byFails_167 KL (wp_X7_byFails_123 KL rec99 f) rec99 (nI v) p y (nI T) (lN u) v7 (nI s) (nI i) (lN o) w1 S := by
      intro c w1 e ec
      subst e
      unfold wp_X7_byFails_167
      refine nm_r (lN_mul o c) (nm_r (nI_1 i) ?_)
      rw [← ec] at ho
      exact z_bfX_123 hG0 hw hv hs hT hp hrec m (i + 1) f (o * c) S (by omega) (by omega) ho hF
    rw [zb_0 (g := T) (by omega) (by omega), zb_1 (g := s) (by omega) (by omega)]
    refine pk_le 8 i (fun z => absurd z (by omega)) (fun _ => ⟨fun zT => ⟨fun zs => h167 (10 - v) _ ?_ ?_, fun zs => h167 v _ (nI_l (by omega)) ?_⟩, fun zT => h167 1 _ rfl ?_⟩)
    · have e10 : (10 : Int32) - nI v = nI (10 - v) := pk_sub (a := 10) (b := v) hv
      rw [e10, nI_l (by omega)]
    · have zT : T.testBit i = true := by simpa using zT
      rw [if_pos zT, if_neg zs]
    · have zT : T.testBit i = true := by simpa using zT
      rw [if_pos zT, if_pos zs]
    · rw [if_neg (by rw [zT]; decide)]
theorem z_bfX_99 {S0 : tq_St} {v T d : Nat} {f0 : aE → Nat} {p y : Int32} (hG0 : RZ S0 G) (hw : wfQ G) (hv : v ≤ 10) (hT : T < 256) (hTb : ∀ j, T.testBit j = decide (j < aC (qA G) ∧ aA (qA G) j < 5)) (hd : 0 < d ∧ d ≤ 100000000) (hp : FQ p f0) (hu : wtF v f0 8 0 (qA G) < 2 ^ 63) (hK : ∀ S', FZ S0 S' → KL (loF (wtF v f0 8 0 (qA G)) d y) S') : ∀ (m s f : Nat) (S : tq_St), s + m = 256 → m < f → FZ S0 S → wp_X7_byFails_99 KL f (nI v) p y (nI T) (lN (smF (fun s => cwF v T f0 8 0 (qA G) s) s)) (lN d) (nI s) S
  | 0, s, f + 1, S, h1, h2, hF => by
    unfold wp_X7_byFails_99
    have hs : s = 256 := by omega
    subst hs
    have e := cw_sum (v := v) (T := T) (f := f0) 8 0 (qA G) hTb
    rw [show (2 : Nat) ^ 8 = 256 from rfl] at e
    rw [e]
    exact pk_le 256 256 (fun _ => z_lowX hu (by omega) hd.1 (hK S hF)) (fun z => absurd z (by omega))
  | m + 1, s, f + 1, S, h1, h2, hF => by
    unfold wp_X7_byFails_99
    have hc := hw.1.2.2.2.2.2.2.2.2.1
    have esm : smF (fun s => cwF v T f0 8 0 (qA G) s) (s + 1) = smF (fun s => cwF v T f0 8 0 (qA G) s) s + cwF v T f0 8 0 (qA G) s := rfl
    rw [sub_iff (by omega) hT]
    refine pk_le 256 s (fun z => absurd z (by omega)) (fun _ => ⟨fun z => nm_r (nI_1 s) ?_, fun z => ?_⟩)
    · have ih := z_bfX_99 hG0 hw hv hT hTb hd hp hu hK m (s + 1) f S (by omega) (by omega) hF
      have h0 : cwF v T f0 8 0 (qA G) s = 0 := by
        obtain ⟨j, hj⟩ := Classical.not_forall.mp z
        have hj1 : s.testBit j = true := by
          cases hb : s.testBit j with
          | true => rfl
          | false => exact absurd (fun c => by rw [hb] at c; exact absurd c (by decide)) hj
        have hj2 : T.testBit j = false := by
          cases hb : T.testBit j with
          | false => rfl
          | true => exact absurd (fun _ => hb) hj
        have hj8 : j < 8 := by
          rcases Nat.lt_or_ge j 8 with c | c
          · exact c
          · have : s.testBit j = false := Nat.testBit_lt_two_pow (Nat.lt_of_lt_of_le (show s < 2 ^ 8 by omega) (Nat.pow_le_pow_right (by decide) c))
            rw [this] at hj1
            exact absurd hj1 (by decide)
        have := cw_0 (v := v) (f := f0) hj1 hj2 8 0 (qA G) (Nat.zero_le _) (by omega)
        rw [Nat.pow_zero, Nat.div_one] at this
        exact this
      rw [esm, h0, Nat.add_zero] at ih
      exact ih
    · refine z_bfX_123 hG0 hw hv (by omega) hT hp (fun S' hF' => ?_) 8 0 2000 1 S (by omega) (by omega) rfl hF
      have ih := z_bfX_99 hG0 hw hv hT hTb hd hp hu hK m (s + 1) f S' (by omega) (by omega) hF'
      have ho := cw_o (v := v) (f := f0) z 8 0 (qA G) (0, 0, none) 1 (by omega) hTb
      rw [Nat.pow_zero, Nat.div_one, Nat.one_mul, Nat.sub_zero] at ho
      rw [esm, ho] at ih
      exact ih
theorem z_bfX_60 {v T : Nat} {f0 : aE → Nat} {p y : Int32} (hG : RZ S G) (hw : wfQ G) (hv : v ≤ 10) (hT : T < 256) (hTb : ∀ j, T.testBit j = decide (j < aC (qA G) ∧ aA (qA G) j < 5)) (hp : FQ p f0) (hu : wtF v f0 8 0 (qA G) < 2 ^ 63) (hK : ∀ S', FZ S S' → KL (loF (wtF v f0 8 0 (qA G)) (tnF (qA G) 8 0) y) S') : ∀ (m i f d : Nat), i + m = 8 → m < f → d * tnF (qA G) m i = tnF (qA G) 8 0 → wp_X7_byFails_60 KL f (nI v) p y (nI T) (lN 0) (lN d) (nI i) S
  | 0, i, f + 1, d, h1, h2, e => by
    have hi : i = 8 := by omega
    subst hi
    have e : d = tnF (qA G) 8 0 := by
      rw [← e]
      show d = d * 1
      omega
    have hb := tnF_bd (qA G) 8 0
    have e8 : (10 : Nat) ^ 8 = 100000000 := by decide
    unfold wp_X7_byFails_60
    rw [e]
    exact pk_le 8 8 (fun _ => z_bfX_99 hG hw hv hT hTb ⟨hb.1, by omega⟩ hp hu hK 256 0 2000 S (by omega) (by omega) FZ.rf) (fun z => absurd z (by omega))
  | m + 1, i, f + 1, d, h1, h2, e => by
    unfold tnF at e
    unfold wp_X7_byFails_60
    have h87 : ∀ (c : Nat) (w1 : Int64), w1 = lN c → c = (if i < aC (qA G) ∧ aA (qA G) i < 5 then 10 else 1) → wp_X7_byFails_87 KL (wp_X7_byFails_60 KL f) (nI v) p y (nI T) (lN 0) (nI i) (lN d) w1 S := by
      intro c w1 ew ec
      subst ew
      unfold wp_X7_byFails_87
      refine nm_r (lN_mul d c) (nm_r (nI_1 i) (z_bfX_60 hG hw hv hT hTb hp hu hK m (i + 1) f _ (by omega) (by omega) ?_))
      rw [← ec] at e
      rw [Nat.mul_assoc]
      exact e
    rw [zb_1 (g := T) (by omega) (by omega), hTb i]
    refine pk_le 8 i (fun z => absurd z (by omega)) (fun _ => ⟨fun z => h87 1 _ rfl ?_, fun z => h87 10 _ rfl ?_⟩)
    · rw [if_neg (fun c => z (decide_eq_true c))]
    · rw [if_pos (of_decide_eq_true z)]
theorem z_bfX_6 {v : Nat} {f0 : aE → Nat} {p y : Int32} (hG : RZ S G) (hw : wfQ G) (hv : v ≤ 10) (hp : FQ p f0) (hu : wtF v f0 8 0 (qA G) < 2 ^ 63) (hK : ∀ S', FZ S S' → KL (loF (wtF v f0 8 0 (qA G)) (tnF (qA G) 8 0) y) S') : ∀ (m i f : Nat), i + m = aC (qA G) → m < f → wp_X7_byFails_6 KL f (nI v) p y (nI (tmF (qA G) i)) (nI i) S
  | 0, i, f + 1, h1, h2 => by
    have hc := hw.1.2.2.2.2.2.2.2.2.1
    have q27 : S.2.1 28 0 (27 : Int32).toNatClampNeg = nI (aC (qA G)) := by have := hG.1.2.2.2.2.2.2.2.2.1; rwa [Nat.zero_add] at this
    have hi : i = aC (qA G) := by omega
    subst hi
    have hlt := tmF_lt (qA G) (aC (qA G))
    have h256 : tmF (qA G) (aC (qA G)) < 256 := Nat.lt_of_lt_of_le hlt (Nat.le_trans (Nat.pow_le_pow_right (by decide) hc) (by decide))
    unfold wp_X7_byFails_6
    rw [q27]
    exact ⟨vp_in_nI (n := 27) (by decide) (by decide), pk_le (aC (qA G)) (aC (qA G)) (fun _ => z_bfX_60 hG hw hv h256 (tmF_bit (qA G) (aC (qA G))) hp hu hK 8 0 2000 1 (by omega) (by omega) (Nat.one_mul _)) (fun z => absurd z (by omega))⟩
  | m + 1, i, f + 1, h1, h2 => by
    have hc := hw.1.2.2.2.2.2.2.2.2.1
    have q27 : S.2.1 28 0 (27 : Int32).toNatClampNeg = nI (aC (qA G)) := by have := hG.1.2.2.2.2.2.2.2.2.1; rwa [Nat.zero_add] at this
    have qa : S.2.1 28 0 (19 + i) = nI (aA (qA G) i) := by have := hG.1.2.2.2.2.2.2.2.2.2.1 i (by omega); rwa [Nat.zero_add] at this
    have ha := hw.1.2.2.2.2.2.2.2.2.2 i (by omega)
    have hn := hw.1.1
    have ha31 : aA (qA G) i < 2 ^ 31 := by unfold okA at ha; omega
    unfold wp_X7_byFails_6
    rw [q27]
    have i19 : (19 : Int32) + nI i = nI (19 + i) := nI_add 19 i
    rw [i19, nI_clamp (n := 19 + i) (by omega), qa]
    have ih := z_bfX_6 hG hw hv hp hu hK m (i + 1) f (by omega) (by omega)
    unfold tmF at ih
    refine ⟨vp_in_nI (n := 27) (by decide) (by decide), pk_le (aC (qA G)) i (fun z => absurd z (by omega)) (fun _ => ⟨vp_in_nI (by omega) (by decide), pk_le 5 (aA (qA G) i) (fun z => ?_) (fun z => ?_)⟩)⟩
    · rw [if_neg (by omega)] at ih
      exact nm_r (i_or0 _) (nm_r (nI_1 i) ih)
    · rw [if_pos (by omega)] at ih
      exact nm_r (zb_or (by omega)) (nm_r (nI_1 i) ih)
theorem wt_63 {v : Nat} {p : Int32} {f0 : aE → Nat} (hv : v ≤ 10) (hp : FQ p f0) (A : aE) : wtF v f0 8 0 A < 2 ^ 63 := by
  have h1 := wtF_le (c := 31) hv hp.le 8 0 A
  have h2 := (tnF_bd A 8 0).2
  have e8 : (10 : Nat) ^ 8 = 100000000 := by decide
  omega
theorem z_byFailsX {v : Nat} {f0 : aE → Nat} {p y : Int32} (hG : RZ S G) (hw : wfQ G) (hv : v ≤ 10) (hp : FQ p f0) (hK : ∀ S', FZ S S' → KL (loF (wtF v f0 8 0 (qA G)) (tnF (qA G) 8 0) y) S') : wp_X7_byFails (nI v) p y S KL :=
  z_bfX_6 hG hw hv hp (wt_63 hv hp _) hK (aC (qA G)) 0 2000 (by omega) (by have := hw.1.2.2.2.2.2.2.2.2.1; omega)
theorem z_luckX {x y w : Int32} (hG : RZ S G) (hw : wfQ G) (hbad : (∀ v, v ≤ 10 → x ≠ nI v) ∨ (∀ p, p < aN (qA G) → y ≠ nI p) ∨ (∀ k, k ≤ 1 → w ≠ nI k) → KL (-1) S) (hok : ∀ v p k, v ≤ 10 → x = nI v → p < aN (qA G) → y = nI p → k ≤ 1 → w = nI k → ∀ S', RZ S' G → Fr 28 S S' → KL (loF (wtF v (gnF p) 8 0 (qA G)) (tnF (qA G) 8 0) w) S') : wp_X7_luck x y w S KL := by
  have hn := hw.1.1
  unfold wp_X7_luck
  refine m_in 0 10 (by decide) (by decide) (by decide) (fun v _ hv e => ⟨fun z => absurd z (by decide), fun _ => ?_⟩) (fun h => ⟨fun _ => hbad (Or.inl (fun k hk => h k (Nat.zero_le _) hk)), fun z => absurd rfl z⟩)
  subst e
  refine m_isOne hG.1.1 hn (fun p hp e => ⟨fun z => absurd z (by decide), fun _ => ?_⟩) (fun hno => ⟨fun _ => hbad (Or.inr (Or.inl hno)), fun z => absurd rfl z⟩)
  refine m_in 0 1 (by decide) (by decide) (by decide) (fun k _ hk e2 => ⟨fun z => absurd z (by decide), fun _ => ?_⟩) (fun h => ⟨fun _ => hbad (Or.inr (Or.inr (fun k hk => h k (Nat.zero_le _) hk))), fun z => absurd rfl z⟩)
  exact z_byFailsX hG hw hv (Or.inr ⟨p, by omega, e, rfl⟩) (fun S' f => hok v p k hv rfl hp e hk e2 S' (hG.fz hw f) f.1)
theorem z_meanX {x y : Int32} (hG : RZ S G) (hw : wfQ G) (hbad : (∀ v, v ≤ 10 → x ≠ nI v) ∨ (∀ k, k ≤ 1 → y ≠ nI k) → KL (-1) S) (hok : ∀ v k, v ≤ 10 → x = nI v → k ≤ 1 → y = nI k → ∀ S', RZ S' G → Fr 28 S S' → KL (loF (wtF v (fun B => pcN (aG B)) 8 0 (qA G)) (tnF (qA G) 8 0) y) S') : wp_X7_mean x y S KL := by
  unfold wp_X7_mean
  refine m_in 0 10 (by decide) (by decide) (by decide) (fun v _ hv e => ⟨fun z => absurd z (by decide), fun _ => ?_⟩) (fun h => ⟨fun _ => hbad (Or.inl (fun k hk => h k (Nat.zero_le _) hk)), fun z => absurd rfl z⟩)
  subst e
  refine m_in 0 1 (by decide) (by decide) (by decide) (fun k _ hk e2 => ⟨fun z => absurd z (by decide), fun _ => ?_⟩) (fun h => ⟨fun _ => hbad (Or.inr (fun k hk => h k (Nat.zero_le _) hk)), fun z => absurd rfl z⟩)
  exact z_byFailsX hG hw hv (Or.inl ⟨rfl, rfl⟩) (fun S' f => hok v k hv rfl hk e2 S' (hG.fz hw f) f.1)
-- the class's answers
theorem q_odds {x : Int32} (h1 : ¬ x < 0) (h2 : ¬ (10 : Int32) < x) : ∃ v, v ≤ 10 ∧ x = nI v := nI_of2 (n := 10) (by decide) h1 (fa_of_nlt h2)
theorem q_odds_no {x : Int32} (h : x < 0 ∨ (10 : Int32) < x) : ∀ v, v ≤ 10 → x ≠ nI v := by
  intro v hv e
  subst e
  rcases h with h | h
  · exact nI_pos (by omega) h
  · exact absurd ((nI_ltI (a := 10) (b := v) (by decide) (by omega)).mp h) (by omega)
theorem c_weightOfX {q : Nat} (hq : q < 5) (hK : KL (S.2.2.2 q) S) : wp_X0_weightOf (nI q) S KL := by
  unfold wp_X0_weightOf
  refine ⟨fun z => absurd z (nI_pos (by omega)), fun _ => pk_le 5 q (fun z => absurd z (by omega)) (fun _ => ⟨vp_in_nI (by omega) (by decide), ?_⟩)⟩
  rw [nI_clamp (by omega)]
  exact hK
theorem q_luckX {x y w : Int32} (hG : RQ S G) (hw : wfQ G) (hbad : (∀ v, v ≤ 10 → x ≠ nI v) ∨ (∀ p, p < aN (qA G) → y ≠ nI p) ∨ (∀ k, k ≤ 1 → w ≠ nI k) → KL (-1) S) (hok : ∀ v p k, v ≤ 10 → x = nI v → p < aN (qA G) → y = nI p → k ≤ 1 → w = nI k → ∀ S', RQ S' G → FC S S' → KL (loF (wtF v (gnF p) 8 0 (qA G)) (tnF (qA G) 8 0) w) S') : wp_X6_luck x y w S KL := by
  have hn := hw.1.1
  unfold wp_X6_luck
  refine ⟨fun z => hbad (Or.inl (q_odds_no (Or.inl z))), fun z1 => ⟨fun z => hbad (Or.inl (q_odds_no (Or.inr z))), fun z2 => ?_⟩⟩
  obtain ⟨v, hv, e0⟩ := q_odds z1 z2
  refine c_isThere hG.1.1 hw.1.1 (fun p hp e => ⟨fun z => absurd z (by decide), fun _ => ?_⟩) (fun hno => ⟨fun _ => hbad (Or.inr (Or.inl hno)), fun z => absurd rfl z⟩)
  refine q_01 (fun k hk e2 => ⟨fun _ => ?_, fun z => absurd z (by decide)⟩) (fun hno => ⟨fun z => absurd rfl z, fun _ => hbad (Or.inr (Or.inr hno))⟩)
  have hfin := hok v p k hv e0 hp e hk e2
  rw [e0, e]
  refine q_weighX hv hG hw (fun S' f e1 e3 => ?_)
  have hb := tnF_bd (qA G) 8 0
  have e8 : (10 : Nat) ^ 8 = 100000000 := by decide
  refine c_weightOfX (by omega) ?_
  rw [e3 p (by omega), e1]
  exact c_partX (wt_63 (p := nI p) hv (Or.inr ⟨p, by omega, rfl, rfl⟩) _) (by omega) hb.1 (hfin S' (hG.fx f) f.fc)
theorem wtF_congW {v N : Nat} {f g : aE → Nat} (h : ∀ B, wfE B → aN B = N → f B = g B) : ∀ (e i : Nat) (A : aE), wfE A → aN A = N → wtF v f e i A = wtF v g e i A
  | 0, i, A, hw, hN => h A hw hN
  | e + 1, i, A, hw, hN => by
    have h1 := wtF_congW (v := v) h e (i + 1) A hw hN
    have h2 := wtF_congW (v := v) h e (i + 1) (playF A (aA A i)) (playF_wf hw _) ((playF_same A _).1.trans hN)
    unfold wtF
    rw [h1, h2]
theorem q_meanX_38 {v : Nat} {y : Int32} (hv : v ≤ 10) (hw : wfQ G) (h5 : S.1 0 5 = nI (aN (qA G))) (e1 : S.2.2.1 = lN (tnF (qA G) 8 0)) (e3 : ∀ q, q < 5 → S.2.2.2 q = lN (wtF v (gnF q) 8 0 (qA G))) (hK : KL (loF (wtF v (fun B => pcN (aG B)) 8 0 (qA G)) (tnF (qA G) 8 0) y) S) : ∀ (m p f : Nat), p + m = aN (qA G) → m < f → wp_X6_mean_38 KL f y (lN (wtF v (fun B => fb_ct (fun q => (aG B).testBit q) p) 8 0 (qA G))) (nI p) S
  | 0, p, f + 1, h1, h2 => by
    have hn := hw.1.1
    have hb := tnF_bd (qA G) 8 0
    have e8 : (10 : Nat) ^ 8 = 100000000 := by decide
    have e : p = aN (qA G) := by omega
    subst e
    have ep : wtF v (fun B => fb_ct (fun q => (aG B).testBit q) (aN (qA G))) 8 0 (qA G) = wtF v (fun B => pcN (aG B)) 8 0 (qA G) := by
      refine wtF_congW (N := aN (qA G)) (fun B hB hN => ?_) 8 0 (qA G) hw.1 rfl
      have hg := hB.2.2.2.2.1
      rw [hN] at hg
      exact (pcN_split hB.g31 (by omega) (Nat.div_eq_of_lt hg)).symm
    unfold wp_X6_mean_38
    rw [h5, e1, ep]
    exact pk_le (aN (qA G)) (aN (qA G)) (fun _ => c_partX (wt_63 (p := -4) hv (Or.inl ⟨rfl, rfl⟩) _) (by omega) hb.1 hK) (fun z => absurd z (by omega))
  | m + 1, p, f + 1, h1, h2 => by
    have hn := hw.1.1
    unfold wp_X6_mean_38
    rw [h5]
    refine pk_le (aN (qA G)) p (fun z => absurd z (by omega)) (fun _ => ?_)
    refine c_weightOfX (by omega) ?_
    rw [e3 p (by omega)]
    refine nm_r (e' := lN (wtF v (fun B => fb_ct (fun q => (aG B).testBit q) (p + 1)) 8 0 (qA G))) ?_ (nm_r (nI_1 p) (q_meanX_38 hv hw h5 e1 e3 hK m (p + 1) f (by omega) (by omega)))
    rw [lN_add, ← wtF_add]
    rfl
theorem q_meanX {x y : Int32} (hG : RQ S G) (hw : wfQ G) (hbad : (∀ v, v ≤ 10 → x ≠ nI v) ∨ (∀ k, k ≤ 1 → y ≠ nI k) → KL (-1) S) (hok : ∀ v k, v ≤ 10 → x = nI v → k ≤ 1 → y = nI k → ∀ S', RQ S' G → FC S S' → KL (loF (wtF v (fun B => pcN (aG B)) 8 0 (qA G)) (tnF (qA G) 8 0) y) S') : wp_X6_mean x y S KL := by
  unfold wp_X6_mean
  refine ⟨fun z => hbad (Or.inl (q_odds_no (Or.inl z))), fun z1 => ⟨fun z => hbad (Or.inl (q_odds_no (Or.inr z))), fun z2 => ?_⟩⟩
  obtain ⟨v, hv, e0⟩ := q_odds z1 z2
  refine q_01 (fun k hk e2 => ⟨fun _ => ?_, fun z => absurd z (by decide)⟩) (fun hno => ⟨fun z => absurd rfl z, fun _ => hbad (Or.inr hno)⟩)
  have hfin := hok v k hv e0 hk e2
  rw [e0]
  refine q_weighX hv hG hw (fun S' f e1 e3 => ?_)
  have hG' := hG.fx f
  have h0 : (0 : Int64) = lN (wtF v (fun B => fb_ct (fun q => (aG B).testBit q) 0) 8 0 (qA G)) := by
    have : wtF v (fun B => fb_ct (fun q => (aG B).testBit q) 0) 8 0 (qA G) = 0 := wtF_zero 8 0 (qA G)
    rw [this]
    rfl
  rw [h0]
  exact q_meanX_38 hv hw hG'.1.1 e1 e3 (hfin S' hG' f.fc) (aN (qA G)) 0 2000 (by omega) (by have := hw.1.1; omega)
end MEA
end
