section TXG
variable {S S0 : tq_St} {K : Int32 → tq_St → Prop} {KV : tq_St → Prop} {t : Nat → Nat} {len tz : Nat} {P : (Nat → Int32) × Int32 × Int32} {β : Type} {E : Nat → Nat → β} {R : β}
-- THE REFERENCE READS, exactly
def ZL (P : (Nat → Int32) × Int32 × Int32) (S0 S : tq_St) (len tz : Nat) : Prop := ZB P S0 S len ∧ S.1 28 10 = 0 ∧ S.1 28 5 = nI tz
def ZK (S : tq_St) (t : Nat → Nat) (x : aK3) : Prop := S.1 28 13 = nI x.1 ∧ S.1 28 12 = nI x.2.1 ∧ S.1 28 14 = nI x.2.2 ∧ (x.2.2 = 2 → S.1 28 15 = nI (vAt t x.1 x.2.1))
def ZD (P : (Nat → Int32) × Int32 × Int32) (S0 S : tq_St) (len y w : Nat) : Prop := ZB P S0 S len ∧ (0 < y ∧ y ≤ 6) ∧ S.1 28 10 = nI y ∧ S.1 28 11 = nI w
theorem ZD.ne {y w : Nat} (h : ZD P S0 S len y w) : ¬ S.1 28 10 = 0 := by
  rw [h.2.2.1]
  exact nI_ne0 h.2.1.1 (by have := h.2.1.2; omega)
theorem ZD.nle {y w : Nat} (h : ZD P S0 S len y w) : ¬ S.1 28 10 ≤ 0 := by
  rw [h.2.2.1]
  exact nI_nle h.2.1.1 (by have := h.2.1.2; omega)
theorem ZL.i (h : ZL P S0 S len tz) {k : Nat} (hk : 11 ≤ k ∧ k ≤ 15) (v : Int32) : ZL P S0 (sI S 28 k v) len tz := ⟨h.1.i (Or.inr hk) v, by rw [sI_1, if_neg (by omega)]; exact h.2.1, by rw [sI_1, if_neg (by omega)]; exact h.2.2⟩
theorem r_fails {y w : Nat} (h : ZL P S0 S len tz) (hy : 0 < y ∧ y ≤ 6) (h13 : S.1 28 13 = nI w) (hK : ∀ S', ZD P S0 S' len y w → KV S') : wp_X7_fails (nI y) S KV := by
  unfold wp_X7_fails
  refine ⟨fun z => absurd h.2.1 z, fun _ => nm_e (nm_e (hK _ ⟨(h.1.f hy.2).i (Or.inr (by omega)) _, hy, ?_, ?_⟩))⟩
  · rw [sI_1, if_neg (by decide), sI_1, if_pos rfl]
  · rw [sI_1, if_pos rfl, sI_1, if_neg (by decide)]; exact h13
theorem r_byte {s : Nat} (hl : len ≤ 160) (ht : ∀ i, i < len → S0.2.1 28 7 i = nI (t i)) (h : ZB P S0 S len) (hs : s ≤ len) (h1 : s < len → K (nI (t s)) S) (h0 : s = len → K (-4) S) : wp_X7_byteAt (nI s) S K := by
  unfold wp_X7_byteAt
  rw [h.2.2.2.1]
  refine pk_le len s (fun z => h0 (by omega)) (fun z => ⟨vp_in_nI (by omega) (by decide), ?_⟩)
  rw [nI_clamp (by omega), h.2.2.1 7 (by decide), ht s z]
  exact h1 z
theorem m_inC {c : Nat} {a b : Int64} (lo hi : Nat) (ha : a.toInt = lo) (hb : b.toInt = hi) (hh : hi < 2 ^ 30) (hc : c < 2 ^ 30) (h1 : lo ≤ c → c ≤ hi → K 1 S) (h0 : ¬ (lo ≤ c ∧ c ≤ hi) → K 0 S) : wp_X7_in (nI c).toInt64 a b S K :=
  m_in lo hi ha hb hh (fun v v1 v2 e => by have := (nI_eq (by omega) (by omega)).mp e; subst this; exact h1 v1 v2) (fun hno => h0 (fun z => hno c z.1 z.2 rfl))
theorem m_inX {a b : Int64} (lo hi : Nat) (ha : a.toInt = lo) (hb : b.toInt = hi) (hh : hi < 2 ^ 30) (h0 : K 0 S) : wp_X7_in (-4 : Int32).toInt64 a b S K :=
  m_in lo hi ha hb hh (fun v v1 v2 e => absurd e.symm (oI_ne (by omega))) (fun _ => h0)
theorem sortN_1i (c : Nat) : (sortN c = 1) ↔ (97 ≤ c ∧ c ≤ 122) := by
  unfold sortN
  constructor
  · intro h
    split at h
    · assumption
    · split at h
      · omega
      · split at h <;> omega
  · intro h; rw [if_pos h]
theorem sortN_2i (c : Nat) : (sortN c = 2) ↔ (48 ≤ c ∧ c ≤ 57) := by
  constructor
  · exact sortN_2
  · intro h
    unfold sortN
    rw [if_neg (by omega), if_pos h]
theorem r_84 {h : Nat} (hl : len ≤ 160) (ht : ∀ i, i < len → S0.2.1 28 7 i = nI (t i)) (htb : ∀ i, t i < 128) (hK : ∀ S', ZL P S0 S' len tz → ZK S' t (h, runE (fun i => sortN (t i) == 1) (len - h) h, 1) → KV S') : ∀ (m s f : Nat) (S : tq_St), s + m = len → m < f → runE (fun i => sortN (t i) == 1) m s = runE (fun i => sortN (t i) == 1) (len - h) h → ZL P S0 S len tz → S.1 28 13 = nI h → S.1 28 12 = nI s → wp_X7_step_84 KV f S := by
  have hend : ∀ (s : Nat) (S : tq_St), s = runE (fun i => sortN (t i) == 1) (len - h) h → ZL P S0 S len tz → S.1 28 13 = nI h → S.1 28 12 = nI s → ∀ S58 : tq_St, S58 = sI S 28 14 1 → KV S58 := by
    intro s S es x1 x2 x3
    refine nm_e (hK _ (x1.i (by omega) _) ⟨?_, ?_, ?_, fun z => absurd (show 1 = 2 from z) (by decide)⟩)
    · rw [sI_1, if_neg (by decide)]; exact x2
    · rw [sI_1, if_neg (by decide), ← es]; exact x3
    · rw [sI_1, if_pos rfl]; rfl
  intro m
  induction m with
  | zero =>
    intro s f S h1 h2 hr x1 x2 x3
    obtain ⟨f, rfl⟩ : ∃ k, f = k + 1 := ⟨f - 1, by omega⟩
    unfold wp_X7_step_84
    rw [x3]
    exact r_byte hl ht x1.1 (by omega) (fun z => absurd z (by omega)) (fun _ => m_inX 97 122 (by decide) (by decide) (by decide) ⟨fun _ => hend s S hr x1 x2 x3, fun z => absurd rfl z⟩)
  | succ m ih =>
    intro s f S h1 h2 hr x1 x2 x3
    obtain ⟨f, rfl⟩ : ∃ k, f = k + 1 := ⟨f - 1, by omega⟩
    unfold wp_X7_step_84
    rw [x3]
    refine r_byte hl ht x1.1 (by omega) (fun _ => ?_) (fun z => absurd z (by omega))
    refine m_inC 97 122 (by decide) (by decide) (by decide) (by have := htb s; omega) (fun v1 v2 => ⟨fun z => absurd z (by decide), fun _ => ?_⟩) (fun hno => ⟨fun _ => hend s S ?_ x1 x2 x3, fun z => absurd rfl z⟩)
    · rw [x3, nI_1]
      refine nm_e (ih (s + 1) f _ (by omega) (by omega) ?_ (x1.i (by omega) _) ?_ ?_)
      · rw [← hr]
        conv => rhs; unfold runE
        rw [if_pos (by simp [(sortN_1i (t s)).mpr ⟨v1, v2⟩])]
      · rw [sI_1, if_neg (by decide)]; exact x2
      · rw [sI_1, if_pos rfl]
    · rw [← hr]
      unfold runE
      rw [if_neg (by simp; exact fun e => hno ((sortN_1i (t s)).mp e))]
theorem vAt_stepR {h s : Nat} (hs : h ≤ s) (hs2 : s < h + 2) (hd : 48 ≤ t s ∧ t s ≤ 57) (hdh : 48 ≤ t h ∧ t h ≤ 57) : 10 * nI (vAt t h s) + nI (t s) - 48 = nI (vAt t h (s + 1)) := by
  have e10 : (10 : Int32) = nI 10 := rfl
  have e48 : (48 : Int32) = nI 48 := rfl
  rw [e10, e48, pk_mul, nI_add, pk_sub (by omega)]
  congr 1
  unfold vAt
  rcases (by omega : s = h ∨ s = h + 1) with c | c
  · subst c
    rw [if_pos rfl, if_neg (by omega), if_pos rfl]
    omega
  · subst c
    rw [if_neg (by omega), if_pos rfl, if_neg (by omega), if_neg (by omega)]
    omega
theorem r_140 {h : Nat} (hl : len ≤ 160) (ht : ∀ i, i < len → S0.2.1 28 7 i = nI (t i)) (htb : ∀ i, t i < 128) (hK : ∀ S', runE (fun i => sortN (t i) == 2) (len - h) h ≤ h + 2 → ZL P S0 S' len tz → ZK S' t (h, runE (fun i => sortN (t i) == 2) (len - h) h, 2) → KV S') (hd : ∀ S', h + 2 < runE (fun i => sortN (t i) == 2) (len - h) h → ZD P S0 S' len 1 h → KV S') : ∀ (m s f : Nat) (S : tq_St), s + m = len → m < f → h ≤ s → runE (fun i => sortN (t i) == 2) m s = runE (fun i => sortN (t i) == 2) (len - h) h → (∀ i, h ≤ i → i < s → sortN (t i) = 2) → ZL P S0 S len tz → S.1 28 13 = nI h → S.1 28 12 = nI s → (s ≤ h + 2 → S.1 28 15 = nI (vAt t h s)) → wp_X7_step_140 KV f S := by
  have hend : ∀ (s : Nat) (S : tq_St), h ≤ s → s ≤ len → s = runE (fun i => sortN (t i) == 2) (len - h) h → ZL P S0 S len tz → S.1 28 13 = nI h → S.1 28 12 = nI s → (s ≤ h + 2 → S.1 28 15 = nI (vAt t h s)) → ∀ S37 : tq_St, S37 = sI S 28 14 2 → (((S37.1 28 12) - (S37.1 28 13) : Int32) ≤ 2 → KV S37) ∧ (¬ ((S37.1 28 12) - (S37.1 28 13) : Int32) ≤ 2 → (wp_X7_fails 1 S37 (fun S41 => KV S41))) := by
    intro s S hs hsl es x1 x2 x3 xv
    have z1 := x1.i (k := 14) (by omega) 2
    have z2 : (sI S 28 14 2).1 28 13 = nI h := by rw [sI_1, if_neg (by decide)]; exact x2
    have z3 : (sI S 28 14 2).1 28 12 = nI s := by rw [sI_1, if_neg (by decide)]; exact x3
    refine nm_e ?_
    rw [z2, z3, pk_sub hs]
    refine pk_le (s - h) 2 (fun z => hK _ (by omega) z1 ⟨z2, by rw [← es]; exact z3, by rw [sI_1, if_pos rfl]; rfl, fun _ => by rw [sI_1, if_neg (by decide), ← es]; exact xv (by omega)⟩) (fun z => r_fails (y := 1) z1 (by decide) z2 (fun S' d => hd S' (by omega) d))
  intro m
  induction m with
  | zero =>
    intro s f S h1 h2 hs hr hi x1 x2 x3 xv
    obtain ⟨f, rfl⟩ : ∃ k, f = k + 1 := ⟨f - 1, by omega⟩
    unfold wp_X7_step_140
    rw [x3]
    exact r_byte hl ht x1.1 (by omega) (fun z => absurd z (by omega)) (fun _ => m_inX 48 57 (by decide) (by decide) (by decide) ⟨fun _ => hend s S hs (by omega) hr x1 x2 x3 xv, fun z => absurd rfl z⟩)
  | succ m ih =>
    intro s f S h1 h2 hs hr hi x1 x2 x3 xv
    obtain ⟨f, rfl⟩ : ∃ k, f = k + 1 := ⟨f - 1, by omega⟩
    unfold wp_X7_step_140
    rw [x3]
    refine r_byte hl ht x1.1 (by omega) (fun _ => ?_) (fun z => absurd z (by omega))
    refine m_inC 48 57 (by decide) (by decide) (by decide) (by have := htb s; omega) (fun v1 v2 => ⟨fun z => absurd z (by decide), fun _ => ?_⟩) (fun hno => ⟨fun _ => hend s S hs (by omega) ?_ x1 x2 x3 xv, fun z => absurd rfl z⟩)
    · have hz : sortN (t s) = 2 := (sortN_2i (t s)).mpr ⟨v1, v2⟩
      have h201 : ∀ w : Int32, (s + 1 ≤ h + 2 → w = nI (vAt t h (s + 1))) → wp_X7_step_201 KV (wp_X7_step_140 KV f) w S := by
        intro w hw
        unfold wp_X7_step_201
        refine nm_e ?_
        rw [sI_1, if_neg (by decide), x3, nI_1]
        refine nm_e (ih (s + 1) f _ (by omega) (by omega) (by omega) ?_ (fun i a b => ?_) ((x1.i (by omega) _).i (by omega) _) ?_ ?_ (fun hs2 => ?_))
        · rw [← hr]
          conv => rhs; unfold runE
          rw [if_pos (by simp [hz])]
        · rcases Nat.lt_or_ge i s with c | c
          · exact hi i a c
          · rw [(by omega : i = s)]; exact hz
        · rw [sI_1, if_neg (by decide), sI_1, if_neg (by decide)]; exact x2
        · rw [sI_1, if_pos rfl]
        · rw [sI_1, if_neg (by decide), sI_1, if_pos rfl]; exact hw hs2
      rw [x3, x2, pk_sub hs]
      refine pk_le 2 (s - h) (fun z => h201 _ (fun z2 => absurd z2 (by omega))) (fun z => ?_)
      refine r_byte hl ht x1.1 (by omega) (fun _ => h201 _ (fun _ => ?_)) (fun z => absurd z (by omega))
      have hdh : 48 ≤ t h ∧ t h ≤ 57 := by
        rcases Nat.lt_or_ge h s with c | c
        · exact sortN_2 (hi h (Nat.le_refl _) c)
        · rw [(by omega : h = s)]; exact ⟨v1, v2⟩
      rw [xv (by omega)]
      exact vAt_stepR hs (by omega) ⟨v1, v2⟩ hdh
    · rw [← hr]
      unfold runE
      rw [if_neg (by simp; exact fun e => hno ((sortN_2i (t s)).mp e))]
theorem r_step8 {p : Nat} {O : aK3 → β} (hl : len ≤ 160) (ht : ∀ i, i < len → S0.2.1 28 7 i = nI (t i)) (htb : ∀ i, t i < 128) (hp : p ≤ len) (hR : tkC t len p E O = R) (hd : ∀ y w S', ZD P S0 S' len y w → E y w = R → KV S') (hK : ∀ x S', tkOk t len x → p ≤ x.1 → x.2.2 ≠ 4 → ZL P S0 S' len tz → ZK S' t x → O x = R → KV S') : ∀ (m s f : Nat) (S : tq_St), s + m = len → m < f → runE (fun i => t i == 32) m s = runE (fun i => t i == 32) (len - p) p → ZL P S0 S len tz → S.1 28 12 = nI s → wp_X7_step_8 KV f S := by
  have hfok := tokF_ok t hp
  -- the token at h
  have htok : ∀ h S', h ≤ len → h = runE (fun i => t i == 32) (len - p) p → ZL P S0 S' len tz → S'.1 28 12 = nI h → ∀ S6 : tq_St, S6 = sI S' 28 13 (S'.1 28 12) → (wp_X7_byteAt (S6.1 28 12) S6 (fun r8 S9 => ∀ S11 : tq_St, S11 = sI S9 28 15 0 → (¬ (r8 : Int32) = (-4) → (wp_X7_in ((r8 : Int32).toInt64) 97 122 S11 (fun r14 S15 => ((r14 : Int32) = 0 → (wp_X7_in ((r8 : Int32).toInt64) 48 57 S15 (fun r18 S19 => ((r18 : Int32) = 0 → ∀ S22 : tq_St, S22 = sI S19 28 14 3 → ∀ S24 : tq_St, S24 = sI S22 28 12 ((S22.1 28 12) + 1) → ((r8 : Int32) = 59 → KV S24) ∧ (¬ (r8 : Int32) = 59 → (wp_X7_fails 1 S24 (fun S28 => KV S28)))) ∧ (¬ (r18 : Int32) = 0 → wp_X7_step_140 KV 2000 S19)))) ∧ (¬ (r14 : Int32) = 0 → wp_X7_step_84 KV 2000 S15)))) ∧ ((r8 : Int32) = (-4) → ∀ S62 : tq_St, S62 = sI S11 28 14 0 → KV S62))) := by
    intro h S' hh eh x1 x3
    have eF : tokF t len p = tokA (tokB t len h) := by unfold tokF; rw [← eh]
    have hend : ∀ e k S2, tokB t len h = (h, e, k) → ¬ (k = 2 ∧ h + 2 < e) → k ≠ 4 → ZL P S0 S2 len tz → ZK S2 t (h, e, k) → KV S2 := by
      intro e k S2 eB hn h4 y1 y2
      have et : tokF t len p = (h, e, k) := by rw [eF, eB]; unfold tokA; rw [if_neg hn]
      refine hK (h, e, k) S2 (et ▸ hfok.1) ?_ h4 y1 y2 ?_
      · have := hfok.2; rw [et] at this; exact this
      · rw [← hR]
        unfold tkC
        rw [et, if_neg h4]
    have hdead : ∀ e k S2, tokB t len h = (h, e, k) → ((k = 2 ∧ h + 2 < e) ∨ k = 4) → ZD P S0 S2 len 1 h → KV S2 := by
      intro e k S2 eB hn y1
      have et : (tokF t len p).2.2 = 4 ∧ (tokF t len p).1 = h := by
        rw [eF, eB]
        unfold tokA
        rcases hn with hn | hn
        · rw [if_pos hn]; exact ⟨rfl, rfl⟩
        · rw [if_neg (by intro z; have z1 : k = 2 := z.1; omega)]; exact ⟨hn, rfl⟩
      refine hd 1 h S2 y1 ?_
      rw [← hR]
      unfold tkC
      rw [if_pos et.1, et.2]
    rw [x3]
    refine nm_e ?_
    have z1 := x1.i (k := 13) (by omega) (nI h)
    have z2 : (sI S' 28 13 (nI h)).1 28 12 = nI h := by rw [sI_1, if_neg (by decide)]; exact x3
    have z3 : (sI S' 28 13 (nI h)).1 28 13 = nI h := by rw [sI_1, if_pos rfl]
    revert z1 z2 z3
    generalize sI S' 28 13 (nI h) = T
    intro z1 z2 z3
    rw [z2]
    have w1 := z1.i (k := 15) (by omega) 0
    have w2 : (sI T 28 15 0).1 28 12 = nI h := by rw [sI_1, if_neg (by decide)]; exact z2
    have w3 : (sI T 28 15 0).1 28 13 = nI h := by rw [sI_1, if_neg (by decide)]; exact z3
    have w4 : (sI T 28 15 0).1 28 15 = 0 := by rw [sI_1, if_pos rfl]
    refine r_byte hl ht z1.1 hh (fun hlt => nm_e ?_) (fun heq => nm_e ?_)
    · revert w1 w2 w3 w4
      generalize sI T 28 15 0 = U
      intro w1 w2 w3 w4
      refine ⟨fun _ => ?_, fun z => absurd z (oI_ne (by have := htb h; omega))⟩
      have hsn := sortN_le (t h)
      refine m_inC 97 122 (by decide) (by decide) (by decide) (by have := htb h; omega) (fun v1 v2 => ⟨fun z => absurd z (by decide), fun _ => ?_⟩) (fun hno => ⟨fun _ => ?_, fun z => absurd rfl z⟩)
      · have hs1 : sortN (t h) = 1 := (sortN_1i (t h)).mpr ⟨v1, v2⟩
        have eB : tokB t len h = (h, runE (fun i => sortN (t i) == 1) (len - h) h, 1) := by
          unfold tokB
          rw [if_pos hlt, if_pos (Or.inl hs1), hs1]
        exact r_84 (h := h) hl ht htb (fun S2 y1 y2 => hend _ 1 S2 eB (by intro z; exact absurd z.1 (by decide)) (by decide) y1 y2) (len - h) h 2000 U (by omega) (by omega) rfl w1 w3 w2
      · refine m_inC 48 57 (by decide) (by decide) (by decide) (by have := htb h; omega) (fun v1 v2 => ⟨fun z => absurd z (by decide), fun _ => ?_⟩) (fun hno2 => ⟨fun _ => ?_, fun z => absurd rfl z⟩)
        · have hs2 : sortN (t h) = 2 := (sortN_2i (t h)).mpr ⟨v1, v2⟩
          have eB : tokB t len h = (h, runE (fun i => sortN (t i) == 2) (len - h) h, 2) := by
            unfold tokB
            rw [if_pos hlt, if_pos (Or.inr hs2), hs2]
          exact r_140 (h := h) hl ht htb (fun S2 y0 y1 y2 => hend _ 2 S2 eB (by omega) (by decide) y1 y2) (fun S2 y0 y1 => hdead _ 2 S2 eB (Or.inl ⟨rfl, y0⟩) y1) (len - h) h 2000 U (by omega) (by omega) (Nat.le_refl _) rfl (fun i a b => absurd b (by omega)) w1 w3 w2 (fun _ => by rw [w4]; unfold vAt; rw [if_pos rfl]; rfl)
        · refine nm_e ?_
          have a12 : (sI U 28 14 3).1 28 12 = nI h := by rw [sI_1, if_neg (by decide)]; exact w2
          rw [a12, nI_1]
          refine nm_e ?_
          have b1 := (w1.i (k := 14) (by omega) 3).i (k := 12) (by omega) (nI (h + 1))
          have b13 : (sI (sI U 28 14 3) 28 12 (nI (h + 1))).1 28 13 = nI h := by rw [sI_1, if_neg (by decide), sI_1, if_neg (by decide)]; exact w3
          have b12 : (sI (sI U 28 14 3) 28 12 (nI (h + 1))).1 28 12 = nI (h + 1) := by rw [sI_1, if_pos rfl]
          have b14 : (sI (sI U 28 14 3) 28 12 (nI (h + 1))).1 28 14 = 3 := by rw [sI_1, if_neg (by decide), sI_1, if_pos rfl]
          have hne12 : ¬ (sortN (t h) = 1 ∨ sortN (t h) = 2) := by
            rintro (z | z)
            · exact hno ((sortN_1i (t h)).mp z)
            · exact hno2 ((sortN_2i (t h)).mp z)
          have eB : tokB t len h = (h, h + 1, sortN (t h)) := by
            unfold tokB
            rw [if_pos hlt, if_neg hne12]
          have es : sortN (t h) = if t h = 59 then 3 else 4 := by unfold sortN; rw [if_neg hno, if_neg hno2]
          have htb' := htb h
          refine pk_eq (t h) 59 (fun z => ?_) (fun z => ?_)
          · rw [if_pos z] at es
            refine hend (h + 1) (sortN (t h)) _ eB (by omega) (by omega) b1 ⟨b13, b12, ?_, fun z => absurd (show sortN (t h) = 2 from z) (by omega)⟩
            show _ = nI (sortN (t h))
            rw [es]; exact b14
          · rw [if_neg z] at es
            exact r_fails (y := 1) b1 (by decide) b13 (fun S2 d => hdead (h + 1) (sortN (t h)) S2 eB (Or.inr es) d)
    · refine ⟨fun z => absurd rfl z, fun _ => nm_e ?_⟩
      have eB : tokB t len h = (h, h, 0) := by unfold tokB; rw [if_neg (by omega)]
      refine hend h 0 _ eB (by omega) (by decide) (w1.i (by omega) _) ⟨?_, ?_, ?_, fun z => absurd (show 0 = 2 from z) (by decide)⟩
      · rw [sI_1, if_neg (by decide)]; exact w3
      · rw [sI_1, if_neg (by decide)]; exact w2
      · rw [sI_1, if_pos rfl]; rfl
  intro m
  induction m with
  | zero =>
    intro s f S h1 h2 hr x1 x3
    obtain ⟨f, rfl⟩ : ∃ k, f = k + 1 := ⟨f - 1, by omega⟩
    unfold wp_X7_step_8
    rw [x3]
    exact r_byte hl ht x1.1 (by omega) (fun z => absurd z (by omega)) (fun _ => ⟨fun _ => x3 ▸ htok s S (by omega) hr x1 x3, fun z => absurd z (by decide)⟩)
  | succ m ih =>
    intro s f S h1 h2 hr x1 x3
    obtain ⟨f, rfl⟩ : ∃ k, f = k + 1 := ⟨f - 1, by omega⟩
    unfold wp_X7_step_8
    rw [x3]
    have htb' := htb s
    refine r_byte hl ht x1.1 (by omega) (fun _ => ?_) (fun z => absurd z (by omega))
    have hbl : ∀ z : t s = 32, ∀ S64 : tq_St, S64 = sI S 28 12 (S.1 28 12 + 1) → wp_X7_step_8 KV f S64 := by
      intro z
      rw [x3, nI_1]
      refine nm_e (ih (s + 1) f _ (by omega) (by omega) ?_ (x1.i (by omega) _) (by rw [sI_1, if_pos rfl]))
      rw [← hr]
      conv => rhs; unfold runE
      rw [if_pos (by simp [z])]
    refine ⟨fun z => ?_, fun z => hbl ((nI_eq (by omega) (by decide)).mp (show nI (t s) = nI 32 from z))⟩
    have hne : ¬ t s = 32 := fun c => z (by rw [c]; rfl)
    refine x3 ▸ htok s S (by omega) ?_ x1 x3
    rw [← hr]
    unfold runE
    rw [if_neg (by simp [hne])]
theorem r_step {p : Nat} {O : aK3 → β} (hl : len ≤ 160) (ht : ∀ i, i < len → S0.2.1 28 7 i = nI (t i)) (htb : ∀ i, t i < 128) (hp : p ≤ len) (hc : ZL P S0 S len tz) (h12 : S.1 28 12 = nI p) (hR : tkC t len p E O = R) (hd : ∀ y w S', ZD P S0 S' len y w → E y w = R → KV S') (hK : ∀ x S', tkOk t len x → p ≤ x.1 → x.2.2 ≠ 4 → ZL P S0 S' len tz → ZK S' t x → O x = R → KV S') : wp_X7_step S KV := by
  unfold wp_X7_step
  rw [hc.2.1]
  exact ⟨fun _ => r_step8 hl ht htb hp hR hd hK (len - p) p 2000 S (by omega) (by omega) rfl hc h12, fun z => absurd (by decide) z⟩
theorem r_stepD {y w : Nat} (h : ZD P S0 S len y w) (hK : KV S) : wp_X7_step S KV := by
  unfold wp_X7_step
  exact ⟨fun z => absurd z h.nle, fun _ => hK⟩
end TXG
