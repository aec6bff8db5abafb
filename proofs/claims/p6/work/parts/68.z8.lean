section Z8
variable {S : tq_St} {G : aQ} {K : Int32 → tq_St → Prop} {KL : Int64 → tq_St → Prop}
-- LOWEST TERMS
theorem lgc_0 {a : Nat} (h : a < 2 ^ 63) : lg_cmp (lN a) 0 = 0 ↔ a = 0 := by
  have e0 : (0 : Int64) = lN 0 := rfl
  constructor
  · intro z
    rcases Nat.eq_zero_or_pos a with c | c
    · exact c
    · exfalso
      have : 0 < lg_cmp (lN a) 0 := by
        have e9 : (0 : Int64).toInt = 0 := (by decide)
        rw [lgc_gt, pk_lT h, e9]
        omega
      rw [z] at this
      exact absurd this (by decide)
  · intro z
    subst z
    decide
theorem lN_ne {a : Nat} (h0 : 0 < a) (h : a < 2 ^ 63) : ¬ lN a = 0 := by
  intro e
  have e0 : (0 : Int64) = lN 0 := rfl
  rw [e0, pk_lEQ h (by decide)] at e
  omega
theorem z_low_6 {u d : Int64} {y : Int32} (hK : ∀ r, KL r S) : ∀ (k a b f : Nat), b < 2 ^ k → a < 2 ^ 63 → b < 2 ^ 63 → 2 * k + 1 ≤ f → (0 < a ∨ 0 < b) → wp_X7_lowest_6 KL f u d y (lN a) (lN b) S := by
  have hend : ∀ a f : Nat, 0 < a → a < 2 ^ 63 → 1 ≤ f → wp_X7_lowest_6 KL f u d y (lN a) (lN 0) S := by
    intro a f h0 ha hf
    obtain ⟨f, rfl⟩ : ∃ k, f = k + 1 := ⟨f - 1, by omega⟩
    refine ⟨fun _ => ⟨fun _ => ⟨lN_ne h0 ha, hK _⟩, fun _ => ⟨lN_ne h0 ha, hK _⟩⟩, fun z => absurd (by decide) z⟩
  have hstep : ∀ a b f : Nat, 0 < b → a < 2 ^ 63 → b < 2 ^ 63 → wp_X7_lowest_6 KL f u d y (lN b) (lN (a % b)) S → wp_X7_lowest_6 KL (f + 1) u d y (lN a) (lN b) S := by
    intro a b f h0 ha hb h
    refine ⟨fun z => absurd ((lgc_0 hb).mp z) (by omega), fun _ => ⟨lN_ne h0 hb, nm_r (pk_lRem ha h0 hb) h⟩⟩
  intro k
  induction k with
  | zero =>
    intro a b f hk ha hb hf hab
    have e : b = 0 := by
      have : (2 : Nat) ^ 0 = 1 := rfl
      omega
    subst e
    exact hend a f (by omega) ha (by omega)
  | succ k ih =>
    intro a b f hk ha hb hf hab
    rcases Nat.eq_zero_or_pos b with c | c
    · subst c
      exact hend a f (by omega) ha (by omega)
    · obtain ⟨f, rfl⟩ : ∃ j, f = j + 2 := ⟨f - 2, by omega⟩
      have hr : a % b < b := Nat.mod_lt _ c
      refine hstep a b (f + 1) c ha hb ?_
      rcases Nat.eq_zero_or_pos (a % b) with c2 | c2
      · rw [c2]
        exact hend b (f + 1) c hb (by omega)
      · refine hstep b (a % b) f c2 hb (by omega) ?_
        have h2 : b % (a % b) < a % b := Nat.mod_lt _ c2
        have h3 : b % (a % b) + (a % b) ≤ b := by
          have h4 := Nat.div_add_mod b (a % b)
          have h5 : 1 ≤ b / (a % b) := Nat.div_pos (by omega) c2
          have h6 : a % b ≤ a % b * (b / (a % b)) := Nat.le_mul_of_pos_right _ h5
          omega
        have h7 : (2 : Nat) ^ (k + 1) = 2 * 2 ^ k := by rw [Nat.pow_succ]; omega
        exact ih (a % b) (b % (a % b)) f (by omega) (by omega) (by omega) (by omega) (Or.inl c2)
theorem z_lowest {a b : Nat} {y : Int32} (ha : a < 2 ^ 63) (hb : b < 2 ^ 63) (h0 : 0 < b) (hK : ∀ r, KL r S) : wp_X7_lowest (lN a) (lN b) y S KL :=
  z_low_6 hK 63 a b 2000 hb ha hb (by decide) (Or.inr h0)
-- BY FAILS
theorem z_bf_123 {S0 : tq_St} {rec99 : Int32 → Int32 → Int32 → Int32 → Int64 → Int64 → Int32 → tq_St → Prop} {v s u : Nat} {p y v4 : Int32} {v7 : Int64} (hG0 : RZ S0 G) (hw : wfQ G) (hv : v ≤ 10) (hs : s < 256) (hp : p = -4 ∨ ∃ q, q < 5 ∧ p = nI q) (hrec : ∀ S' u', u' ≤ u + 3100000000 → FZ S0 S' → rec99 (nI v) p y v4 (lN u') v7 (nI (s + 1)) S') : ∀ (m i f o : Nat) (S : tq_St), i + m = 8 → m < f → o ≤ 10 ^ i → FZ S0 S → wp_X7_byFails_123 KL rec99 f (nI v) p y v4 (lN u) v7 (nI s) (lN o) (nI i) S
  | 0, i, f + 1, o, S, h1, h2, ho, hF => by
    have hi : i = 8 := by omega
    subst hi
    have hG := hG0.fz hw hF
    unfold wp_X7_byFails_123
    refine pk_le 8 8 (fun _ => ?_) (fun z => absurd z (by omega))
    refine m_planGoes (g := 0) (but := s) hG.1 hw.1 (by omega) (by omega) (fun S1 a1 a2 a3 => ?_)
    have hF1 := hF.tr a3.fz
    have hwp := (goM_ok (ac := aA (qA G)) (but := s) (aC (qA G)) 0 (qA G) (0, 0, none) hw.1).1
    have hgl := hwp.gl
    have h211 : ∀ c : Nat, c ≤ 31 → wp_X7_byFails_211 KL rec99 (nI v) p y v4 v7 (nI s) (lN u) (lN o) (nI c) S1 := by
      intro c hc
      unfold wp_X7_byFails_211
      have e1 : lN u + lN o * (nI c).toInt64 = lN (u + o * c) := by
        rw [nI_l (by omega)]
        apply Int64.toBitVec_inj.1
        show BitVec.ofNat 64 u + BitVec.ofNat 64 o * BitVec.ofNat 64 c = BitVec.ofNat 64 (u + o * c)
        rw [BitVec.ofNat_add, BitVec.ofNat_mul]
      refine nm_r e1 (nm_r (nI_1 s) (hrec S1 _ ?_ hF1))
      have h9 : o * c ≤ 10 ^ 8 * 31 := Nat.mul_le_mul ho hc
      have e9 : (10 : Nat) ^ 8 * 31 = 3100000000 := (by decide)
      rw [e9] at h9
      omega
    have q127 : S1.2.1 28 0 (127 : Int32).toNatClampNeg = nI (aG (planM (qA G) s).1) := a1.2.2.2.2.1
    rcases hp with e | ⟨q, hq, e⟩
    · subst e
      exact ⟨fun z => absurd rfl z, fun _ => z_goneThen a1 hwp (h211 _ (pcN_le _))⟩
    · subst e
      rw [q127, zb_val (Nat.lt_of_lt_of_le hgl (by decide)) (by omega)]
      exact ⟨fun _ => ⟨vp_in_nI (n := 127) (by decide) (by decide), h211 _ (by split <;> omega)⟩, fun z => absurd z (oI_ne (by omega))⟩
  | m + 1, i, f + 1, o, S, h1, h2, ho, hF => by
    unfold wp_X7_byFails_123
    have hpow : (10 : Nat) ^ (i + 1) = 10 * 10 ^ i := by rw [Nat.pow_succ]; omega
    have h167 : ∀ c : Nat, c ≤ 10 → ∀ w1 : Int64, w1 = lN c → wp_X7_byFails_167 KL (wp_X7_byFails_123 KL rec99 f) rec99 (nI v) p y v4 (lN u) v7 (nI s) (nI i) (lN o) w1 S := by
      intro c hc w1 e
      subst e
      unfold wp_X7_byFails_167
      have e1 : lN o * lN c = lN (o * c) := by
        apply Int64.toBitVec_inj.1
        show BitVec.ofNat 64 o * BitVec.ofNat 64 c = BitVec.ofNat 64 (o * c)
        rw [BitVec.ofNat_mul]
      refine nm_r e1 (nm_r (nI_1 i) (z_bf_123 hG0 hw hv hs hp hrec m (i + 1) f _ S (by omega) (by omega) ?_ hF))
      have : o * c ≤ 10 ^ i * 10 := Nat.mul_le_mul ho hc
      omega
    refine pk_le 8 i (fun z => absurd z (by omega)) (fun _ => ⟨fun _ => ⟨fun _ => h167 (10 - v) (by omega) _ ?_, fun _ => h167 v hv _ (nI_l (by omega))⟩, fun _ => h167 1 (by omega) _ rfl⟩)
    have e10 : (10 : Int32) - nI v = nI (10 - v) := pk_sub (a := 10) (b := v) hv
    rw [e10, nI_l (by omega)]
theorem z_bf_99 {S0 : tq_St} {v d : Nat} {p y v4 : Int32} (hG0 : RZ S0 G) (hw : wfQ G) (hv : v ≤ 10) (hd : 0 < d ∧ d ≤ 100000000) (hp : p = -4 ∨ ∃ q, q < 5 ∧ p = nI q) (hK : ∀ r S', FZ S0 S' → KL r S') : ∀ (m s f u : Nat) (S : tq_St), s + m = 256 → m < f → u ≤ s * 3100000000 → FZ S0 S → wp_X7_byFails_99 KL f (nI v) p y v4 (lN u) (lN d) (nI s) S
  | 0, s, f + 1, u, S, h1, h2, hu, hF => by
    unfold wp_X7_byFails_99
    have hs : s = 256 := by omega
    subst hs
    exact pk_le 256 256 (fun _ => z_lowest (by omega) (by omega) hd.1 (fun r => hK r S hF)) (fun z => absurd z (by omega))
  | m + 1, s, f + 1, u, S, h1, h2, hu, hF => by
    unfold wp_X7_byFails_99
    refine pk_le 256 s (fun z => absurd z (by omega)) (fun _ => ⟨fun _ => nm_r (nI_1 s) ?_, fun _ => ?_⟩)
    · exact z_bf_99 hG0 hw hv hd hp hK m (s + 1) f u S (by omega) (by omega) (Nat.le_trans hu (Nat.mul_le_mul_right _ (Nat.le_succ s))) hF
    · refine z_bf_123 hG0 hw hv (by omega) hp (fun S' u' hu' hF' => ?_) 8 0 2000 1 S (by omega) (by omega) (by decide) hF
      exact z_bf_99 hG0 hw hv hd hp hK m (s + 1) f u' S' (by omega) (by omega) (by rw [Nat.succ_mul]; exact Nat.le_trans hu' (Nat.add_le_add_right hu _)) hF'
theorem z_bf_60 {v : Nat} {p y v4 : Int32} (hG : RZ S G) (hw : wfQ G) (hv : v ≤ 10) (hp : p = -4 ∨ ∃ q, q < 5 ∧ p = nI q) (hK : ∀ r S', FZ S S' → KL r S') : ∀ (m i f d : Nat), i + m = 8 → m < f → 0 < d → d ≤ 10 ^ i → wp_X7_byFails_60 KL f (nI v) p y v4 (lN 0) (lN d) (nI i) S
  | 0, i, f + 1, d, h1, h2, hd0, hd => by
    have hi : i = 8 := by omega
    subst hi
    unfold wp_X7_byFails_60
    exact pk_le 8 8 (fun _ => z_bf_99 hG hw hv ⟨hd0, Nat.le_trans hd (by decide)⟩ hp hK 256 0 2000 0 S (by omega) (by omega) (by omega) FZ.rf) (fun z => absurd z (by omega))
  | m + 1, i, f + 1, d, h1, h2, hd0, hd => by
    have hpow : (10 : Nat) ^ (i + 1) = 10 * 10 ^ i := by rw [Nat.pow_succ]; omega
    unfold wp_X7_byFails_60
    have h87 : ∀ c : Nat, 0 < c → c ≤ 10 → ∀ w1 : Int64, w1 = lN c → wp_X7_byFails_87 KL (wp_X7_byFails_60 KL f) (nI v) p y v4 (lN 0) (nI i) (lN d) w1 S := by
      intro c hc0 hc w1 e
      subst e
      unfold wp_X7_byFails_87
      have e1 : lN d * lN c = lN (d * c) := by
        apply Int64.toBitVec_inj.1
        show BitVec.ofNat 64 d * BitVec.ofNat 64 c = BitVec.ofNat 64 (d * c)
        rw [BitVec.ofNat_mul]
      refine nm_r e1 (nm_r (nI_1 i) (z_bf_60 hG hw hv hp hK m (i + 1) f _ (by omega) (by omega) (Nat.mul_pos hd0 hc0) ?_))
      have : d * c ≤ 10 ^ i * 10 := Nat.mul_le_mul hd hc
      omega
    exact pk_le 8 i (fun z => absurd z (by omega)) (fun _ => ⟨fun _ => h87 1 (by omega) (by omega) _ rfl, fun _ => h87 10 (by omega) (by omega) _ rfl⟩)
theorem z_bf_6 {v : Nat} {p y : Int32} (hG : RZ S G) (hw : wfQ G) (hv : v ≤ 10) (hp : p = -4 ∨ ∃ q, q < 5 ∧ p = nI q) (hK : ∀ r S', FZ S S' → KL r S') : ∀ (m i f : Nat) (v4 : Int32), i + m = aC (qA G) → m < f → wp_X7_byFails_6 KL f (nI v) p y v4 (nI i) S
  | 0, i, f + 1, v4, h1, h2 => by
    have hc := hw.1.2.2.2.2.2.2.2.2.1
    have q27 : S.2.1 28 0 (27 : Int32).toNatClampNeg = nI (aC (qA G)) := by have := hG.1.2.2.2.2.2.2.2.2.1; rwa [Nat.zero_add] at this
    unfold wp_X7_byFails_6
    rw [q27]
    exact ⟨vp_in_nI (n := 27) (by decide) (by decide), pk_le (aC (qA G)) i (fun _ => z_bf_60 hG hw hv hp hK 8 0 2000 1 (by omega) (by omega) (by omega) (by decide)) (fun z => absurd z (by omega))⟩
  | m + 1, i, f + 1, v4, h1, h2 => by
    have hc := hw.1.2.2.2.2.2.2.2.2.1
    have q27 : S.2.1 28 0 (27 : Int32).toNatClampNeg = nI (aC (qA G)) := by have := hG.1.2.2.2.2.2.2.2.2.1; rwa [Nat.zero_add] at this
    unfold wp_X7_byFails_6
    rw [q27]
    have i19 : (19 : Int32) + nI i = nI (19 + i) := nI_add 19 i
    rw [i19]
    have h42 : ∀ w0 w1 : Int32, wp_X7_byFails_42 KL (wp_X7_byFails_6 KL f) (nI v) p y (nI i) w0 w1 S := fun w0 w1 => nm_e (nm_r (nI_1 i) (z_bf_6 hG hw hv hp hK m (i + 1) f _ (by omega) (by omega)))
    exact ⟨vp_in_nI (n := 27) (by decide) (by decide), pk_le (aC (qA G)) i (fun z => absurd z (by omega)) (fun _ => ⟨vp_in_nI (by omega) (by decide), fun _ => h42 _ _, fun _ => h42 _ _⟩)⟩
theorem z_byFails {v : Nat} {p y : Int32} (hG : RZ S G) (hw : wfQ G) (hv : v ≤ 10) (hp : p = -4 ∨ ∃ q, q < 5 ∧ p = nI q) (hK : ∀ r S', FZ S S' → KL r S') : wp_X7_byFails (nI v) p y S KL :=
  z_bf_6 hG hw hv hp hK (aC (qA G)) 0 2000 0 (by omega) (by have := hw.1.2.2.2.2.2.2.2.2.1; omega)
theorem z_luck {x y w : Int32} (hG : RZ S G) (hw : wfQ G) (hK : ∀ r S', RZ S' G → Fr 28 S S' → KL r S') : wp_X7_luck x y w S KL := by
  have hn := hw.1.1
  have hS := fun r => hK r S hG Fr.rf
  unfold wp_X7_luck
  refine m_in 0 10 (by decide) (by decide) (by decide) (fun v _ hv e => ⟨fun z => absurd z (by decide), fun _ => ?_⟩) (fun h => ⟨fun _ => hS _, fun z => absurd rfl z⟩)
  subst e
  refine m_isOne hG.1.1 hn (fun p hp e => ⟨fun z => absurd z (by decide), fun _ => ?_⟩) (fun hno => ⟨fun _ => hS _, fun z => absurd rfl z⟩)
  refine m_in 0 1 (by decide) (by decide) (by decide) (fun k _ hk e2 => ⟨fun z => absurd z (by decide), fun _ => ?_⟩) (fun h => ⟨fun _ => hS _, fun z => absurd rfl z⟩)
  exact z_byFails hG hw hv (Or.inr ⟨p, by omega, e⟩) (fun r S' f => hK r S' (hG.fz hw f) f.1)
theorem z_mean {x y : Int32} (hG : RZ S G) (hw : wfQ G) (hK : ∀ r S', RZ S' G → Fr 28 S S' → KL r S') : wp_X7_mean x y S KL := by
  have hS := fun r => hK r S hG Fr.rf
  unfold wp_X7_mean
  refine m_in 0 10 (by decide) (by decide) (by decide) (fun v _ hv e => ⟨fun z => absurd z (by decide), fun _ => ?_⟩) (fun h => ⟨fun _ => hS _, fun z => absurd rfl z⟩)
  subst e
  refine m_in 0 1 (by decide) (by decide) (by decide) (fun k _ hk e2 => ⟨fun z => absurd z (by decide), fun _ => ?_⟩) (fun h => ⟨fun _ => hS _, fun z => absurd rfl z⟩)
  exact z_byFails hG hw hv (Or.inl rfl) (fun r S' f => hK r S' (hG.fz hw f) f.1)
-- READ
theorem RZ.torn {S' : tq_St} (h : RZ S G) {y : Nat} (e : S' = sI S 28 28 (nI y)) : RZ S' (vO G y) := by
  subst e
  obtain ⟨h1, h2, h3, h4, h5, h6, h7, h8, h9⟩ := h
  refine ⟨h1.i (by decide) _, fun k hk => ?_, ⟨by rw [sI_1, if_neg (by decide)]; exact h3.1, h3.2⟩, by rw [sI_1, if_neg (by decide)]; exact h4, ⟨by rw [sI_1, if_neg (by decide)]; exact h5.1, h5.2⟩, h6, by rw [sI_1, if_pos rfl], h8, h9⟩
  have h2 := h2 k hk
  show ZI (sI S 28 28 (nI y)) k (qI G k)
  unfold ZI at h2 ⊢
  split at h2
  · exact h2
  · exact ⟨h2.1, h2.2.i (by decide) _⟩
theorem z_does {x : Int32} (hG : RZ S G) (hw : wfQ G) (h1 : ∀ a S', okA (aN (qA G)) a → x = nI a → plD (qA G) a = true → RZ S' (vA G (playF (qA G) a)) → FM 0 S S' → K 1 S') (h0 : (∀ a, okA (aN (qA G)) a → x = nI a → plD (qA G) a = false) → K 0 S) : wp_X7_does x S K := by
  have hn := hw.1.1
  unfold wp_X7_does
  refine m_isAct hG.1.1 hn (fun a ha e => ⟨fun z => absurd z (by decide), fun _ => ?_⟩) (fun hno => ⟨fun _ => h0 (fun a ha e => absurd e (hno a ha)), fun z => absurd rfl z⟩)
  subst e
  have ha' := ha
  unfold okA at ha'
  have h24 : plD (qA G) a = true → wp_X7_does_24 K (nI a) S := by
    intro hd
    have h1' := fun S' => h1 a S' ha rfl hd
    unfold wp_X7_does_24
    have e5 : (5 : Int32) = nI 5 := rfl
    have e6 : (6 : Int32) = nI 6 := rfl
    rw [e5, e6, nI_eq (by omega) (by decide), nI_eq (by omega) (by decide)]
    unfold playF at h1'
    unfold plD at hd
    refine ⟨fun n5 => ⟨fun n6 => ?_, fun n6 => ?_⟩, fun n5 => ?_⟩
    · rw [if_neg n5, if_neg n6] at h1' hd
      have hb : (aG (qA G)).testBit a = false := by simpa using hd
      rw [if_neg (by rw [hb]; decide)] at h1'
      exact m_thinksOn (g := 0) hG.1 hw.1 (by decide) (by omega) (fun S' a1 a2 => h1' S' (hG.now hw a2 a1) a2)
    · rw [if_neg n5, if_pos n6] at h1'
      exact m_tramOn (g := 0) hG.1 hw.1 (by decide) (fun S' a1 a2 => h1' S' (hG.now hw a2 a1) a2)
    · rw [if_pos n5] at h1'
      exact m_minuteOn (g := 0) hG.1 hw.1 (by decide) (fun S' a1 a2 => h1' S' (hG.now hw a2 a1) a2)
  refine pk_le 5 a (fun z => h24 ?_) (fun z => ?_)
  · unfold plD
    rcases (by omega : a = 5 ∨ a = 6) with c | c
    · rw [if_pos c]
    · rw [if_neg (by omega), if_pos c]
  · refine m_waits (g := 0) hG.1.2.2.2.2.1 (by decide) hw.1.g31 (by omega) (fun hb => ⟨fun _ => h24 ?_, fun z => absurd z (by decide)⟩) (fun hb => ⟨fun z => absurd rfl z, fun _ => h0 (fun a' ha2 e => ?_)⟩)
    · unfold plD
      rw [if_neg (by omega), if_neg (by omega), hb]; rfl
    · have : a' < 2 ^ 31 := by unfold okA at ha2; omega
      have := (nI_eq (by omega) this).mp e
      subst this
      unfold plD
      rw [if_neg (by omega), if_neg (by omega), hb]; rfl
theorem z_read_55 {G0 : aQ} {k l n : Nat} {x : Int32} {S0 : tq_St} (hw0 : wfQ G0) (hk : k ≤ 3) (hl : l ≤ 2) (hn : n ≤ 20) (hK : ∀ r S' A y, wfE A → aN A = aN (qA G0) → y ≤ 3 → RZ S' (vO (vA G0 A) y) → Fr 28 S0 S' → K r S') : ∀ (m i f c : Nat) (y : Nat) (A : aE) (S : tq_St), i + m = n → m < f → y ≤ 3 → (y = 0 → c = i) → wfE A → aN A = aN (qA G0) → RZ S (vA G0 A) → RM S 84 (qA G0) → Fr 28 S0 S → wp_X7_read_55 K f (nI k) (nI l) x (nI n) (nI y) (nI c) (nI i) S
  | 0, i, f + 1, c, y, A, S, h1, h2, hy, hcy, hwA, hA, hG, hR, hF => by
    unfold wp_X7_read_55
    exact pk_le n i (fun _ => nm_e (hK _ _ A y hwA hA hy (hG.torn rfl) (hF.tr (Fr.rf.I _ _)))) (fun z => absurd z (by omega))
  | m + 1, i, f + 1, c, y, A, S, h1, h2, hy, hcy, hwA, hA, hG, hR, hF => by
    have hwG : wfQ (vA G0 A) := hw0.now hwA hA
    have hfin : ∀ y', y' ≤ 3 → ∀ c' : Int32, ∀ S', S' = sI S 28 28 (nI y') → K c' S' := fun y' hy' c' S' e => by
      subst e
      exact hK _ _ A y' hwA hA hy' (hG.torn rfl) (hF.tr (Fr.rf.I _ _))
    unfold wp_X7_read_55
    refine pk_le n i (fun z => absurd z (by omega)) (fun _ => ⟨fun _ => fun S' e => hfin y hy _ S' e, fun z => ?_⟩)
    have hy0 : y = 0 := (nI_eq (by omega) (by decide)).mp z
    have hci := hcy hy0
    subst hci
    have v4 : vp_in (nI k) 4 := vp_in_nI (by omega) (by decide)
    rw [nI_clamp (n := k) (by omega)]
    have hZ := hG.2.2.2.2.2.1 k (by omega)
    have hl40 := hw0.2.2.2.2.2.2.1 k
    -- the machine finds a fault
    have hbad : ∀ y', 0 < y' → y' ≤ 3 → wp_X7_read_123 K (wp_X7_read_55 K f) (nI k) (nI l) x (nI n) (nI c) (nI c) (nI y') S := by
      intro y' h0 h3
      unfold wp_X7_read_123
      refine ⟨fun _ => nm_r (nI_1 c) ?_, fun z => absurd z (nI_ne0 h0 (by omega))⟩
      exact z_read_55 hw0 hk hl hn hK m (c + 1) f c y' A S (by omega) (by omega) h3 (by omega) hwA hA hG hR hF
    refine ⟨v4, ?_⟩
    have hZ : ZH S k (qH G0 k) := hZ
    unfold ZH at hZ
    cases e : (qH G0 k).1 with
    | none =>
      rw [e] at hZ
      rw [hZ]
      exact ⟨fun z => absurd rfl z, fun _ => hbad 1 (by omega) (by omega)⟩
    | some l' =>
      rw [e] at hZ
      obtain ⟨c1, c2, c3⟩ := hZ
      have hl' := hw0.2.2.2.2.2.1 k l' e
      rw [c1, c2]
      refine ⟨fun _ => ⟨v4, fun _ => ⟨v4, ?_⟩, fun _ => hbad 3 (by omega) (by omega)⟩, fun z => absurd z (oI_ne (by omega))⟩
      have esum : (x.toInt64 + (nI c).toInt64).toInt = x.toInt + c := by
        have hx := fb_rng x
        have ec : (nI c).toInt64.toInt = (c : Int) := by rw [Int32.toInt_toInt64, nI_toInt (by omega)]
        have ex : x.toInt64.toInt = x.toInt := Int32.toInt_toInt64 x
        rw [fb_addL (by rw [ex, ec]; omega) (by rw [ex, ec]; omega), ex, ec]
      have ehi : (nI (qH G0 k).2.1 - 1).toInt64.toInt = ((qH G0 k).2.1 : Int) - 1 := by
        rw [Int32.toInt_toInt64]
        exact pk_sub_toInt (a := (qH G0 k).2.1) (b := 1) (by omega) (by omega)
      have e0 : (0 : Int64).toInt = 0 := by decide
      refine m_inL (fun z1 z2 => ⟨fun _ => ?_, fun z => absurd z (by decide)⟩) (fun _ => ⟨fun z => absurd rfl z, fun _ => hbad 2 (by omega) (by omega)⟩)
      rw [esum, e0] at z1
      rw [esum, ehi] at z2
      -- the cell
      obtain ⟨j, hj⟩ : ∃ j : Nat, (j : Int) = x.toInt + c := ⟨(x.toInt + c).toNat, by omega⟩
      have exc : (40 : Int32) * nI k + x + nI c = nI (40 * k + j) := by
        have e40 : (40 : Int32) * nI k = nI (40 * k) := pk_mul 40 k
        rw [e40]
        apply Int32.toInt_inj.mp
        have t1 : (nI (40 * k)).toInt = ((40 * k : Nat) : Int) := nI_toInt (by omega)
        have t2 : (nI c).toInt = (c : Int) := nI_toInt (by omega)
        have t3 : (nI (40 * k + j)).toInt = ((40 * k + j : Nat) : Int) := nI_toInt (by omega)
        have s1 : (nI (40 * k) + x).toInt = (nI (40 * k)).toInt + x.toInt := fb_addI (by omega) (by omega)
        rw [fb_addI (by omega) (by omega), s1, t1, t2, t3]
        omega
      unfold wp_X7_read_123
      rw [exc, nI_clamp (n := 40 * k + j) (by omega), c3 j (by omega)]
      refine ⟨fun z => absurd rfl z, fun _ => ⟨vp_in_nI (by omega) (by decide), ?_⟩⟩
      refine z_does hG hwG (fun a S' ha ea hd hR' hF' => ⟨fun _ => nm_r (nI_1 c) (nm_r (nI_1 c) ?_), fun z => absurd z (by decide)⟩) (fun hno => ⟨fun z => absurd rfl z, fun _ => ?_⟩)
      · have hR84 : RM S' 84 (qA G0) := hR.fm hF' hw0.1.1 hw0.1.2.2.2.2.2.2.2.2.1 (by omega)
        exact z_read_55 hw0 hk hl hn hK m (c + 1) f (c + 1) 0 _ S' (by omega) (by omega) (by omega) (fun _ => rfl) (playF_wf hwA a) ((playF_same A a).1.trans hA) hR' hR84 (hF.tr hF'.fr)
      · refine m_copies (a := 84) (b := 0) (by decide) (by decide) (by omega) hR hw0.1.1 hw0.1.2.2.2.2.2.2.2.2.1 (fun S' f' r' => ?_)
        exact hK _ S' (qA G0) (qO G0) hw0.1 rfl hw0.2.2.2.2.2.2.2 (hG.now hwG f' r') (hF.tr f'.fr)
theorem z_read {x y z w : Int32} (hG : RZ S G) (hw : wfQ G) (hK : ∀ r S' A y, wfE A → aN A = aN (qA G) → y ≤ 3 → RZ S' (vO (vA G A) y) → Fr 28 S S' → K r S') : wp_X7_read x y z w S K := by
  have hS := fun r => hK r S (qA G) (qO G) hw.1 rfl hw.2.2.2.2.2.2.2 hG Fr.rf
  unfold wp_X7_read
  refine m_in 0 3 (by decide) (by decide) (by decide) (fun k _ hk e => ⟨fun z => absurd z (by decide), fun _ => ?_⟩) (fun h => ⟨fun _ => hS _, fun z => absurd rfl z⟩)
  subst e
  refine m_in 0 2 (by decide) (by decide) (by decide) (fun l _ hl e => ⟨fun z => absurd z (by decide), fun _ => ?_⟩) (fun h => ⟨fun _ => hS _, fun z => absurd rfl z⟩)
  subst e
  refine m_in 0 20 (by decide) (by decide) (by decide) (fun n _ hn e => ⟨fun _ => ?_, fun z => absurd z (by decide)⟩) (fun h => ⟨fun z => absurd rfl z, fun _ => hS _⟩)
  subst e
  refine m_copies (a := 0) (b := 84) (by decide) (by decide) (by omega) hG.1 hw.1.1 hw.1.2.2.2.2.2.2.2.2.1 (fun S1 f1 r1 => ?_)
  exact z_read_55 (G0 := G) (S0 := S) hw hk hl hn hK n 0 2000 0 0 (qA G) S1 (by omega) (by omega) (by omega) (fun _ => rfl) hw.1 rfl (hG.fz hw (f1.fz (by decide))) r1 f1.fr
end Z8
