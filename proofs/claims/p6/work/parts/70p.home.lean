section HOM
variable {S S0 : tq_St} {G : aQ} {K : Int32 → tq_St → Prop}
-- A WAY HOME: rows as numbers to the base 5
def hoL (f : Nat → Option Nat) : Nat → Nat → Option Nat
  | 0, _ => none
  | m + 1, a => match f a with
    | some c => some c
    | none => hoL f m (a + 1)
def hoD (p N : Nat) : Nat → Nat → aE → Option Nat
  | 0, c, A => if (aG (boardF A)).testBit p then some c else none
  | e + 1, c, A => hoL (fun a => hoD p N e (5 * c + a) (playF A a)) N 0
def hoN (p : Nat) (A : aE) : Nat → Nat → Option (Nat × Nat)
  | 0, _ => none
  | m + 1, n => match hoD p (aN A) n 0 A with
    | some c => some (n, c)
    | none => hoN p A m (n + 1)
def hoR (w : Nat) : Option (Nat × Nat) → Int32
  | none => -4
  | some (n, c) => if w = 0 then nI n else if n ≤ w - 10 then -4 else nI (figN c 5 n (w - 10))
theorem hoR_s {w n c : Nat} : hoR w (some (n, c)) = (if w = 0 then nI n else if n ≤ w - 10 then -4 else nI (figN c 5 n (w - 10))) := rfl
theorem fig_new {c a d : Nat} (ha : a < 5) : figN (5 * c + a) 5 (d + 1) d = a := by
  unfold figN
  rw [show d + 1 - 1 - d = 0 by omega, Nat.pow_zero, Nat.div_one]
  omega
theorem fig_old {c a d i : Nat} (ha : a < 5) (hi : i < d) : figN (5 * c + a) 5 (d + 1) i = figN c 5 d i := by
  unfold figN
  have e : d + 1 - 1 - i = (d - 1 - i) + 1 := by omega
  rw [e, Nat.pow_succ, Nat.mul_comm (5 ^ (d - 1 - i)) 5, ← Nat.div_div_eq_div_mul, show (5 * c + a) / 5 = c by omega]
theorem playF_g {A : aE} {a : Nat} (ha : a < 5) : aG (playF A a) = aG A := by
  unfold playF
  rw [if_neg (by omega), if_neg (by omega)]
  split <;> rfl
-- the class
theorem c_keepRowX {d : Nat} {K : tq_St → Prop} (hd : d ≤ 4) (hK : ∀ S', Fr 21 S S' → S'.1 21 3 = nI d → (∀ i, i < d → S'.2.1 21 2 i = S.2.1 21 1 i) → S'.2.1 21 1 = S.2.1 21 1 → K S') : wp_X2_keepRow (nI d) S K := by
  unfold wp_X2_keepRow
  rw [nI_clamp (by omega)]
  refine ⟨nI_pos (by omega), hd, hd, nm_e (nm_e ?_)⟩
  refine hK _ ((Fr.rf.C _ _).I _ _) (by rw [sI_1, if_pos rfl]) (fun i hi => ?_) ?_
  · show (sC S 21 2 (va_cpy (S.2.1 21 1) (S.2.1 21 2) 0 0 d)).2.1 21 2 i = _
    rw [sC_2, if_pos rfl, sb_cpy0 hi]
  · show (sC S 21 2 (va_cpy (S.2.1 21 1) (S.2.1 21 2) 0 0 d)).2.1 21 1 = _
    rw [sC_2, if_neg (by decide)]
theorem c_homeLeafX {d c p N : Nat} {A : aE} {rec : Int32 → Int32 → Int32 → tq_St → (Int32 → tq_St → Prop) → Prop} (hd : d ≤ 3) (hR : RC S (3 + d) A) (hw : wfE A) (hp : p < aN A) (hrow : ∀ i, i < d → S.2.1 21 1 i = nI (figN c 5 d i)) (h1 : ∀ c', hoD p N 0 c A = some c' → ∀ S', FL 3 d S S' → S'.1 21 3 = nI d → (∀ i, i < d → S'.2.1 21 2 i = nI (figN c' 5 d i)) → K 1 S') (h0 : hoD p N 0 c A = none → ∀ S', FL 3 d S S' → (∀ i, i < d → S'.2.1 21 1 i = S.2.1 21 1 i) → K 0 S') : wp_X2_isHome_10 rec K (nI d) (nI p) S := by
  unfold wp_X2_isHome_10
  rw [nI_1, nI_clamp (n := d) (by omega), nI_clamp (n := d + 1) (by omega)]
  have i5 : vp_in (nI d) 5 := vp_in_nI (by omega) (by decide)
  have i6 : vp_in (nI (d + 1)) 5 := vp_in_nI (by omega) (by decide)
  refine ⟨i6, i5, ?_⟩
  refine c_copyFrom (o := 3 + (d + 1)) hR hw (by omega) (fun S1 a1 a2 _ _ _ => ⟨i6, ?_⟩)
  refine c_board a1 hw (fun S2 b1 b2 _ => ?_)
  refine c_keepRowX (by omega) (fun S3 f3 e3 e4 e5 => ⟨i6, ?_⟩)
  have b3 := b1.fr f3 (by omega)
  have hF : FL 3 d S S3 := ((a2.fl (Or.inl (by omega)) (Or.inr (by omega))).tr (b2.fl (Or.inl (by omega)) (Or.inr (by omega)))).tr (f3.fl (Or.inr rfl) (Or.inr (by omega)))
  have r2 : S2.2.1 21 = S.2.1 21 := (b2.1 21 (by omega)).2.trans (a2.1 21 (by omega)).2
  have hwb := boardF_wf hw
  refine c_waitsN b3.1 hw.1 b3.2.1 hwb.g31 hp (fun hb => ⟨fun _ => ?_, fun z => absurd z (by decide)⟩) (fun hb => ⟨fun z => absurd rfl z, fun _ => ?_⟩)
  · refine h0 (by unfold hoD; rw [if_neg (by rw [hb]; decide)]) S3 hF (fun i hi => ?_)
    rw [e5, r2]
  · refine h1 c (by unfold hoD; rw [if_pos hb]) S3 hF e3 (fun i hi => ?_)
    rw [e4 i hi, r2]
    exact hrow i hi
theorem c_isHomeX {n N p : Nat} (hn : n ≤ 3) (hN : N ≤ 5) (hp : p < N) : ∀ (e d r c : Nat) (A : aE) (S : tq_St) (K : Int32 → tq_St → Prop), d + e = n → e < r → RC S (3 + d) A → wfE A → aN A = N → S.1 3 5 = nI N → (∀ i, i < d → S.2.1 21 1 i = nI (figN c 5 d i)) → (∀ c', hoD p N e c A = some c' → ∀ S', FL 3 d S S' → S'.1 21 3 = nI n → (∀ i, i < n → S'.2.1 21 2 i = nI (figN c' 5 n i)) → K 1 S') → (hoD p N e c A = none → ∀ S', FL 3 d S S' → (∀ i, i < d → S'.2.1 21 1 i = S.2.1 21 1 i) → K 0 S') → wp_X2_isHome r (nI d) (nI n) (nI p) S K := by
  intro e
  induction e with
  | zero =>
    intro d r c A S K h1 h2 hR hw hA h35 hrow hK1 hK0
    obtain ⟨r, rfl⟩ : ∃ k, r = k + 1 := ⟨r - 1, by omega⟩
    have hdn : d = n := by omega
    subst hdn
    unfold wp_X2_isHome
    exact pk_le d d (fun _ => c_homeLeafX (N := N) hn hR hw (by omega) hrow hK1 hK0) (fun z => absurd z (by omega))
  | succ e ih =>
    intro d r c A S K h1 h2 hR hw hA h35 hrow hK1 hK0
    obtain ⟨r, rfl⟩ : ∃ k, r = k + 1 := ⟨r - 1, by omega⟩
    unfold wp_X2_isHome
    have c0 : (0 : Int32).toNatClampNeg = 0 := by decide
    rw [c0, h35]
    refine pk_le n d (fun z => absurd z (by omega)) (fun _ => pk_lt d 3 (fun _ => ⟨vp_in_nI (n := 0) (by decide) (by decide), nm_e ?_⟩) (fun z => absurd z (by omega)))
    have hloop : ∀ (m a f : Nat) (S' : tq_St), a + m = N → m < f → FL 3 d S S' → (∀ i, i < d → S'.2.1 21 1 i = S.2.1 21 1 i) → hoD p N (e + 1) c A = hoL (fun a => hoD p N e (5 * c + a) (playF A a)) m a → wp_X2_isHome_79 (wp_X2_isHome r) K f (nI d) (nI n) (nI p) (nI N) (nI a) S' := by
      intro m
      induction m with
      | zero =>
        intro a f S' g1 g2 hF hro hD
        obtain ⟨f, rfl⟩ : ∃ k, f = k + 1 := ⟨f - 1, by omega⟩
        unfold wp_X2_isHome_79
        exact pk_le N a (fun _ => hK0 hD S' hF hro) (fun z => absurd z (by omega))
      | succ m ihm =>
        intro a f S' g1 g2 hF hro hD
        obtain ⟨f, rfl⟩ : ∃ k, f = k + 1 := ⟨f - 1, by omega⟩
        unfold wp_X2_isHome_79
        refine pk_le N a (fun z => absurd z (by omega)) (fun hc => ?_)
        rw [nI_1, nI_clamp (n := d) (by omega), nI_clamp (n := d + 1) (by omega)]
        have i4 : vp_in (nI d) 4 := vp_in_nI (by omega) (by decide)
        have i5 : vp_in (nI d) 5 := vp_in_nI (by omega) (by decide)
        have i6 : vp_in (nI (d + 1)) 5 := vp_in_nI (by omega) (by decide)
        refine ⟨i4, nm_e ⟨i6, i5, ?_⟩⟩
        have hR1 := hR.fl hF
        have hR2 : RC (sA S' 21 1 d (nI a)) (3 + d) A := hR1.fr ((Fr.rf (o := 21)).A _ _ _) (by omega)
        refine c_copyFrom (o := 3 + (d + 1)) hR2 hw (by omega) (fun S3 a1 a2 _ _ _ => ⟨i6, ?_⟩)
        refine c_play a1 hw (Or.inl (by rw [hA]; exact hc)) (fun S4 b1 b2 _ _ _ => ?_)
        have h35' : S4.1 3 5 = nI N := by
          rw [(b2.1 3 (by omega)).1, (a2.1 3 (by omega)).1, sA_1, (hF.2 3 (by omega) (by omega)).1]
          exact h35
        have fA : FL 3 d S' (sA S' 21 1 d (nI a)) := ((Fr.rf (o := 21)).A _ _ _).fl (Or.inr rfl) (Or.inr (by omega))
        have fB : FL 3 d (sA S' 21 1 d (nI a)) S3 := a2.fl (Or.inl (by omega)) (Or.inr (by omega))
        have fC : FL 3 d S3 S4 := b2.fl (Or.inl (by omega)) (Or.inr (by omega))
        have r4 : S4.2.1 21 = (sA S' 21 1 d (nI a)).2.1 21 := (b2.1 21 (by omega)).2.trans (a2.1 21 (by omega)).2
        have hrow' : ∀ i, i < d + 1 → S4.2.1 21 1 i = nI (figN (5 * c + a) 5 (d + 1) i) := by
          intro i hi
          rw [r4, sA_at]
          by_cases ci : i = d
          · rw [if_pos ci, ci, fig_new (by omega)]
          · rw [if_neg ci, hro i (by omega), hrow i (by omega), fig_old (by omega) (by omega)]
        unfold hoL at hD
        refine ih (d + 1) r (5 * c + a) (playF A a) S4 _ (by omega) (by omega) b1 (playF_wf hw a) ((playF_same A a).1.trans hA) h35' hrow' (fun c' ec S5 hF5 e3 e4 => ⟨fun z => absurd z (by decide), fun _ => ?_⟩) (fun ec S5 hF5 hro5 => ⟨fun _ => nm_r (nI_1 a) ?_, fun z => absurd rfl z⟩)
        · rw [ec] at hD
          exact hK1 c' hD S5 (hF.tr (((fA.tr fB).tr fC).tr (hF5.le (by omega)))) e3 e4
        · rw [ec] at hD
          refine ihm (a + 1) f S5 (by omega) (by omega) (hF.tr (((fA.tr fB).tr fC).tr (hF5.le (by omega)))) (fun i hi => ?_) hD
          rw [hro5 i (by omega), r4, sA_at, if_neg (by omega)]
          exact hro i hi
    exact hloop N 0 2000 S (by omega) (by omega) FL.rf (fun _ _ => rfl) rfl
theorem q_wayX {S0 : tq_St} {p : Nat} {A : aE} (hw : wfE A) (hp : p < aN A) (hR : RC S0 3 A) {R : Option (Nat × Nat)} (hK1 : ∀ n c S', n ≤ 3 → R = some (n, c) → FX S0 S' → S'.1 21 3 = nI n → (∀ i, i < n → S'.2.1 21 2 i = nI (figN c 5 n i)) → K 1 S') (hK0 : R = none → ∀ S', FX S0 S' → K 0 S') : ∀ (m n f : Nat) (S : tq_St), n + m = 4 → m < f → FL 3 0 S0 S → hoN p A m n = R → wp_X2_findWayHome_12 0 K f (nI p) (nI n) S
  | 0, n, f + 1, S, h1, h2, hF, e => by
    unfold wp_X2_findWayHome_12
    exact pk_lt 3 n (fun _ => hK0 e.symm S hF.1) (fun z => absurd z (by omega))
  | m + 1, n, f + 1, S, h1, h2, hF, e => by
    unfold wp_X2_findWayHome_12
    refine pk_lt 3 n (fun z => absurd z (by omega)) (fun _ => ?_)
    have hR1 : RC S (3 + 0) A := RC.fl (b := 3) (d := 0) hR hF
    unfold hoN at e
    refine c_isHomeX (n := n) (N := aN A) (by omega) hw.1 hp n 0 12 0 A S _ (by omega) (by omega) hR1 hw rfl hR1.1 (fun i hi => absurd hi (by omega)) (fun c ec S' f' e3 e4 => ⟨fun z => absurd z (by decide), fun _ => ?_⟩) (fun ec S' f' _ => ⟨fun _ => nm_r (nI_1 n) ?_, fun z => absurd rfl z⟩)
    · rw [ec] at e
      exact hK1 n c S' (by omega) e.symm (hF.tr f').1 e3 e4
    · rw [ec] at e
      exact q_wayX hw hp hR hK1 hK0 m (n + 1) f S' (by omega) (by omega) (hF.tr f') e
theorem q_homeX {x y : Int32} (hG : RQ S G) (hw : wfQ G) (hbad : (∀ p, p < aN (qA G) → x ≠ nI p) ∨ (∀ w, (w = 0 ∨ (10 ≤ w ∧ w ≤ 12)) → y ≠ nI w) → K (-1) S) (hst : ∀ p w, p < aN (qA G) → x = nI p → (w = 0 ∨ (10 ≤ w ∧ w ≤ 12)) → y = nI w → (aG (qA G)).testBit p = true → K (-2) S) (hok : ∀ p w, p < aN (qA G) → x = nI p → (w = 0 ∨ (10 ≤ w ∧ w ≤ 12)) → y = nI w → (aG (qA G)).testBit p = false → ∀ S', RQ S' G → FC S S' → K (hoR w (hoN p (qA G) 4 0)) S') : wp_X6_home x y S K := by
  have hn := hw.1.1
  have h39 : ∀ p w : Nat, p < aN (qA G) → x = nI p → (w = 0 ∨ (10 ≤ w ∧ w ≤ 12)) → y = nI w → ∀ v3 : Int32, (v3 = 0 ↔ w = 0) → wp_X6_home_39 K x y v3 S := by
    intro p w hp ex hwh ey v3 hv
    subst ex
    unfold wp_X6_home_39
    refine c_waitsN hG.1.1 hn hG.1.2.1 hw.1.g31 hp (fun hb => ⟨fun _ => ?_, fun z => absurd z (by decide)⟩) (fun hb => ⟨fun z => absurd rfl z, fun _ => hst p w hp rfl hwh ey hb⟩)
    unfold wp_X2_findWayHome
    have c0 : (0 : Int32).toNatClampNeg = 0 := by decide
    rw [c0]
    refine ⟨vp_in_nI (n := 0) (by decide) (by decide), ?_⟩
    refine c_startFrom (o := 3 + 0) hG.1 hw.1 (by decide) (fun S1 a1 a2 a3 => ?_)
    have hfin := hok p w hp rfl hwh ey hb
    refine q_wayX (S0 := S1) hw.1 hp a1 (R := hoN p (qA G) 4 0) (fun n c S' hn3 eR f e3 e4 => ⟨fun _ => ⟨fun z => ?_, fun z => ?_⟩, fun z => absurd z (by decide)⟩) (fun eR S' f => ⟨fun z => absurd rfl z, fun _ => ?_⟩) 4 0 2000 S1 (by omega) (by omega) FL.rf rfl
    · have hx := (a2.fx (Or.inl (by decide))).tr f
      have := hfin S' (hG.fx hx) hx.fc
      rw [eR, hoR_s] at this
      rw [if_pos (hv.mp z)] at this
      rw [e3]
      exact this
    · have hx := (a2.fx (Or.inl (by decide))).tr f
      have hf2 := hfin S' (hG.fx hx) hx.fc
      rw [eR, hoR_s] at hf2
      have hw0 : ¬ w = 0 := fun c => z (hv.mpr c)
      rw [if_neg hw0] at hf2
      have e10 : y - 10 = nI (w - 10) := by rw [ey]; exact pk_sub (a := w) (b := 10) (by omega)
      unfold wp_X2_foundAt
      rw [e10, e3]
      refine ⟨fun z => absurd z (nI_pos (by omega)), fun _ => pk_le n (w - 10) (fun q => ?_) (fun q => ⟨vp_in_nI (by omega) (by decide), ?_⟩)⟩
      · rw [if_pos q] at hf2; exact hf2
      · rw [if_neg (by omega)] at hf2
        rw [nI_clamp (by omega), e4 (w - 10) q]
        exact hf2
    · have hx := (a2.fx (Or.inl (by decide))).tr f
      have := hfin S' (hG.fx hx) hx.fc
      rw [eR] at this
      exact this
  have h17 : ∀ w0 : Int32, (w0 = 0 ∧ ∀ w, (10 ≤ w ∧ w ≤ 12) → y ≠ nI w) ∨ (w0 = 1 ∧ ∃ w, (10 ≤ w ∧ w ≤ 12) ∧ y = nI w) → wp_X6_home_17 K x y w0 S := by
    intro w0 hcase
    unfold wp_X6_home_17
    refine c_isThere hG.1.1 hn (fun p hp e => ⟨fun z => absurd z (by decide), fun _ => ⟨fun z => ?_, fun z => ⟨fun z2 => ?_, fun z2 => ?_⟩⟩⟩) (fun hno => ⟨fun _ => hbad (Or.inl hno), fun z => absurd rfl z⟩)
    · refine h39 p 0 hp e (Or.inl rfl) z w0 ⟨fun _ => rfl, fun _ => ?_⟩
      rcases hcase with h | ⟨-, w, h, e2⟩
      · exact h.1
      · rw [z] at e2
        exact absurd ((nI_eq (a := 0) (by decide) (by omega)).mp e2) (by omega)
    · rcases hcase with h | ⟨h1, w, h, e2⟩
      · exact absurd h.1 z2
      · exact h39 p w hp e (Or.inr h) e2 w0 ⟨fun c => absurd c z2, fun c => absurd c (by omega)⟩
    · rcases hcase with h | ⟨h1, -⟩
      · refine hbad (Or.inr (fun w hwh e2 => ?_))
        rcases hwh with c | c
        · subst c; exact z e2
        · exact h.2 w c e2
      · rw [h1] at z2; exact absurd z2 (by decide)
  unfold wp_X6_home wp_X6_home_16
  have e10 : (10 : Int32) = nI 10 := rfl
  have e13 : (13 : Int32) = nI 13 := rfl
  refine ⟨fun z => h17 0 (Or.inl ⟨rfl, fun w hwh e => ?_⟩), fun z => ⟨fun z2 => h17 0 (Or.inl ⟨rfl, fun w hwh e => ?_⟩), fun z2 => h17 1 (Or.inr ⟨rfl, ?_⟩)⟩⟩
  · rw [e, e10, nI_ltI (by omega) (by decide)] at z
    omega
  · rw [e, e13, nI_leI (by decide) (by omega)] at z2
    omega
  · have h0 : ¬ y < 0 := by
      intro c
      apply z
      have t0 : (0 : Int32).toInt = 0 := by decide
      have t10 : (10 : Int32).toInt = 10 := by decide
      rw [fa_lt, t0] at c
      rw [fa_lt, t10]
      omega
    obtain ⟨w, hw2, rfl⟩ := nI_of h0
    rw [e10, nI_ltI hw2 (by decide)] at z
    rw [e13, nI_leI (by decide) hw2] at z2
    exact ⟨w, by omega, rfl⟩
-- the reference
def rgF (N c b n : Nat) : Nat → Nat → aE → Option aE
  | 0, _, A => some A
  | m + 1, i, A => if figN c b n i < N ∨ figN c b n i = 5 ∨ figN c b n i = 6 then rgF N c b n m (i + 1) (playF A (figN c b n i)) else none
def hoS (p N n : Nat) (A : aE) : Nat → Nat → Option Nat
  | 0, _ => none
  | m + 1, c => match rgF N c 5 n n 0 A with
    | none => hoS p N n A m (c + 1)
    | some B => if (tramB B).testBit p then some c else hoS p N n A m (c + 1)
theorem z_rowX_8 {S0 : tq_St} {c b n N : Nat} (hb : 0 < b) (hb6 : b ≤ 6) (hn : n ≤ 4) (hc : c ≤ 2000) {R : Option aE} (hK1 : ∀ S' A, R = some A → wfE A → aN A = N → RM S' 112 A → FT S0 S' → K 1 S') (hK0 : R = none → ∀ S', FT S0 S' → K 0 S') : ∀ (m i f : Nat) (A : aE) (t : aY) (S : tq_St), i + m = n → m < f → wfE A → aN A = N → RM S 112 A → TM S t → FT S0 S → rgF N c b n m i A = R → wp_X7_rowGoes_8 K f (nI c) (nI b) (nI n) (nI i) S
  | 0, i, f + 1, A, t, S, h1, h2, hw, hN, hR, hT, hF, e => by
    unfold wp_X7_rowGoes_8
    exact pk_le n i (fun _ => hK1 S A e.symm hw hN hR hF) (fun z => absurd z (by omega))
  | m + 1, i, f + 1, A, t, S, h1, h2, hw, hN, hR, hT, hF, e => by
    unfold rgF at e
    unfold wp_X7_rowGoes_8
    refine pk_le n i (fun z => absurd z (by omega)) (fun _ => ?_)
    refine m_figure hb hb6 hn (by omega) hc ?_
    have hfb : figN c b n i < 2 ^ 31 := by
      have : figN c b n i < b := Nat.mod_lt _ hb
      omega
    refine m_isAct hR.1 hw.1 (fun a ha ea => ⟨fun _ => ?_, fun z => absurd z (by decide)⟩) (fun hno => ⟨fun z => absurd rfl z, fun _ => hK0 ?_ S hF⟩)
    · have ha31 : a < 2 ^ 31 := by have := hw.1; unfold okA at ha; omega
      have eq := (nI_eq hfb ha31).mp ea
      subst eq
      rw [if_pos (by rw [← hN]; exact ha)] at e
      refine m_acts (t := t) hR hw ha hT (fun S' a1 a2 a3 => nm_r (nI_1 i) ?_)
      exact z_rowX_8 hb hb6 hn hc hK1 hK0 m (i + 1) f _ _ S' (by omega) (by omega) (playF_wf hw _) ((playF_same A _).1.trans hN) a1 a3 (hF.tr a2) e
    · rw [if_neg (fun z => hno _ (by rw [hN]; exact z) rfl)] at e
      exact e.symm
theorem z_rowX {c b n : Nat} (hG : RZ S G) (hw : wfQ G) (hb : 0 < b) (hb6 : b ≤ 6) (hn : n ≤ 4) (hc : c ≤ 2000) (hK1 : ∀ S' A, rgF (aN (qA G)) c b n n 0 (qA G) = some A → wfE A → aN A = aN (qA G) → RM S' 112 A → FT S S' → K 1 S') (hK0 : rgF (aN (qA G)) c b n n 0 (qA G) = none → ∀ S', FT S S' → K 0 S') : wp_X7_rowGoes (nI c) (nI b) (nI n) S K := by
  unfold wp_X7_rowGoes
  refine m_begins (g := 0) hG.1 hw.1 (by omega) (fun S1 a1 a2 a3 => ?_)
  exact z_rowX_8 (S0 := S) hb hb6 hn hc hK1 hK0 n 0 2000 (qA G) (0, 0, none) S1 (by omega) (by omega) hw.1 rfl a1 a3 a2 rfl
theorem z_homeX_50 {S0 : tq_St} {rec42 : Int32 → Int32 → Int32 → tq_St → Prop} {n w p : Nat} (hG0 : RZ S0 G) (hw : wfQ G) (hn : n ≤ 3) (hp : p < 5) (hwh : w = 0 ∨ (10 ≤ w ∧ w ≤ 12)) {R : Option Nat} (hK : ∀ c, R = some c → ∀ S', FZ S0 S' → K (hoR w (some (n, c))) S') (hrec : R = none → ∀ S', FZ S0 S' → rec42 (nI p) (nI w) (nI (n + 1)) S') : ∀ (m c f : Nat) (S : tq_St), c + m = 5 ^ n → m < f → FZ S0 S → hoS p (aN (qA G)) n (qA G) m c = R → wp_X7_home_50 K rec42 f (nI p) (nI w) (nI n) (nI c) S := by
  have hpw := pow_bd (b := 5) (n := n) (by decide) (by omega)
  intro m
  induction m with
  | zero =>
    intro c f S h1 h2 hF e
    obtain ⟨f, rfl⟩ : ∃ k, f = k + 1 := ⟨f - 1, by omega⟩
    unfold wp_X7_home_50
    exact m_power (b := 5) (by decide) (by omega) (pk_le (5 ^ n) c (fun _ => nm_r (nI_1 n) (hrec e.symm S hF)) (fun z => absurd z (by omega)))
  | succ m ih =>
    intro c f S h1 h2 hF e
    obtain ⟨f, rfl⟩ : ∃ k, f = k + 1 := ⟨f - 1, by omega⟩
    unfold hoS at e
    unfold wp_X7_home_50
    refine m_power (b := 5) (by decide) (by omega) (pk_le (5 ^ n) c (fun z => absurd z (by omega)) (fun _ => ?_))
    have hG := hG0.fz hw hF
    refine z_rowX (b := 5) hG hw (by decide) (by decide) (by omega) (by omega) (fun S1 A eR hwA hN hR hFT => ⟨fun z => absurd z (by decide), fun _ => ?_⟩) (fun eR S1 hFT => ⟨fun _ => nm_r (nI_1 c) ?_, fun z => absurd rfl z⟩)
    · have hF1 := hF.tr hFT.fz
      rw [eR] at e
      refine m_tramOn (g := 112) hR hwA (by decide) (fun S2 b1 b2 => ?_)
      have hF2 := hF1.tr (b2.fz (by decide))
      have htl : tramB A < 2 ^ 31 := Nat.lt_of_lt_of_le (Nat.lt_of_lt_of_le (selB_lt A _) (zb_p31 hwA.1)) (by decide)
      rw [zb_1 htl (by omega)]
      have e : (if (tramB A).testBit p = true then some c else hoS p (aN (qA G)) n (qA G) m (c + 1)) = R := e
      refine ⟨fun hb => nm_r (nI_1 c) ?_, fun hb => ?_⟩
      · rw [if_neg hb] at e
        exact ih (c + 1) f S2 (by omega) (by omega) hF2 e
      · rw [if_pos hb] at e
        have hfin := hK c e.symm S2 hF2
        rw [hoR_s] at hfin
        refine ⟨fun z0 => ?_, fun z0 => ?_⟩
        · have hw0 : ¬ w = 0 := fun c => z0 (by rw [c]; rfl)
          have e10 : nI w - 10 = nI (w - 10) := pk_sub (a := w) (b := 10) (by omega)
          rw [e10]
          rw [if_neg hw0] at hfin
          refine pk_le n (w - 10) (fun q => ?_) (fun q => m_figure (b := 5) (by decide) (by decide) (by omega) q (by omega) ?_)
          · rw [if_pos q] at hfin; exact hfin
          · rw [if_neg (by omega)] at hfin; exact hfin
        · have hw0 : w = 0 := (nI_eq (by omega) (by decide)).mp z0
          rw [if_pos hw0] at hfin
          exact hfin
    · have hF1 := hF.tr hFT.fz
      rw [eR] at e
      exact ih (c + 1) f S1 (by omega) (by omega) hF1 e
-- rows in order: the number and the tree
theorem rgF_app {N c b n : Nat} : ∀ (m1 m2 i : Nat) (A : aE), rgF N c b n (m1 + m2) i A = (rgF N c b n m1 i A).bind (rgF N c b n m2 (i + m1))
  | 0, m2, i, A => by rw [Nat.zero_add]; rfl
  | m1 + 1, m2, i, A => by
    rw [show m1 + 1 + m2 = (m1 + m2) + 1 by omega]
    unfold rgF
    split
    · rw [rgF_app m1 m2 (i + 1), show i + 1 + m1 = i + (m1 + 1) by omega]
    · rfl
theorem rgF_cong {N c c' b n n' : Nat} : ∀ (m i : Nat) (A : aE), (∀ j, i ≤ j → j < i + m → figN c b n j = figN c' b n' j) → rgF N c b n m i A = rgF N c' b n' m i A
  | 0, _, _, _ => rfl
  | m + 1, i, A, h => by
    have h0 := h i (Nat.le_refl _) (by omega)
    unfold rgF
    rw [h0, rgF_cong m (i + 1) _ (fun j a b => h j (by omega) (by omega))]
theorem rgF_ext {N c a d : Nat} {A : aE} (hN : N ≤ 5) (ha : a < 5) : rgF N (5 * c + a) 5 (d + 1) (d + 1) 0 A = (rgF N c 5 d d 0 A).bind (fun B => if a < N then some (playF B a) else none) := by
  rw [rgF_app d 1 0 A, rgF_cong (c' := c) (n' := d) d 0 A (fun j _ h => fig_old ha (by omega)), Nat.zero_add]
  congr 1
  funext B
  unfold rgF
  rw [fig_new ha]
  by_cases h : a < N
  · rw [if_pos (Or.inl h), if_pos h]; rfl
  · rw [if_neg (by omega), if_neg h]
/-- no row that begins so goes -/
theorem rgF_none {N x d : Nat} {A : aE} (hN : N ≤ 5) (h : rgF N x 5 d d 0 A = none) : ∀ (e y : Nat), y < 5 ^ e → rgF N (x * 5 ^ e + y) 5 (d + e) (d + e) 0 A = none
  | 0, y, hy => by
    have : y = 0 := by rw [Nat.pow_zero] at hy; omega
    subst this
    rw [Nat.pow_zero, Nat.mul_one, Nat.add_zero, Nat.add_zero]
    exact h
  | e + 1, y, hy => by
    have hpw : (5 : Nat) ^ (e + 1) = 5 * 5 ^ e := by rw [Nat.pow_succ]; omega
    have e1 : x * 5 ^ (e + 1) + y = 5 * (x * 5 ^ e + y / 5) + y % 5 := by
      rw [hpw, Nat.mul_left_comm]
      omega
    rw [e1, show d + (e + 1) = (d + e) + 1 by omega, rgF_ext hN (Nat.mod_lt _ (by decide)), rgF_none hN h e (y / 5) (by omega)]
    rfl
theorem hoS_skip {p N n : Nat} {A : aE} : ∀ (k m c : Nat), (∀ j, c ≤ j → j < c + k → rgF N j 5 n n 0 A = none) → hoS p N n A (k + m) c = hoS p N n A m (c + k)
  | 0, m, c, _ => by rw [Nat.zero_add, Nat.add_zero]
  | k + 1, m, c, h => by
    rw [show k + 1 + m = (k + m) + 1 by omega]
    conv => lhs; unfold hoS
    rw [h c (Nat.le_refl _) (by omega)]
    show hoS p N n A (k + m) (c + 1) = _
    rw [hoS_skip k m (c + 1) (fun j a b => h j (by omega) (by omega)), show c + 1 + k = c + (k + 1) by omega]
def orO (x y : Option Nat) : Option Nat := match x with
  | some c => some c
  | none => y
theorem hoL_out {f : Nat → Option Nat} : ∀ (m a : Nat), hoL f (m + 1) a = orO (f a) (hoL f m (a + 1)) := by
  intro m a
  unfold orO
  conv => lhs; unfold hoL
theorem hoS_tree {p N : Nat} {A : aE} (hN : N ≤ 5) (hp : (aG A).testBit p = false) : ∀ (e d c m : Nat) (B : aE), rgF N c 5 d d 0 A = some B → (aG B).testBit p = false → hoS p N (d + e) A (5 ^ e + m) (c * 5 ^ e) = orO (hoD p N e c B) (hoS p N (d + e) A m (c * 5 ^ e + 5 ^ e)) := by
  intro e
  induction e with
  | zero =>
    intro d c m B h hB
    rw [Nat.pow_zero, Nat.mul_one, Nat.add_zero, Nat.add_comm 1 m]
    conv => lhs; unfold hoS
    rw [h]
    have hbo : (aG (boardF B)).testBit p = (tramB B).testBit p := by
      show (aG B ||| tramB B).testBit p = _
      rw [Nat.testBit_or, hB, Bool.false_or]
    show (if (tramB B).testBit p = true then some c else hoS p N d A m (c + 1)) = orO (if (aG (boardF B)).testBit p = true then some c else none) (hoS p N d A m (c + 1))
    rw [hbo]
    cases (tramB B).testBit p
    · rfl
    · rfl
  | succ e ih =>
    intro d c m B h hB
    have hpw : (5 : Nat) ^ (e + 1) = 5 * 5 ^ e := by rw [Nat.pow_succ]; omega
    have hdn : d + (e + 1) = (d + 1) + e := by omega
    -- block by block
    have hblk : ∀ (k a m : Nat), a + k = 5 → hoS p N (d + (e + 1)) A (k * 5 ^ e + m) ((5 * c + a) * 5 ^ e) = orO (hoL (fun a => hoD p N e (5 * c + a) (playF B a)) (N - a) a) (hoS p N (d + (e + 1)) A m ((5 * c + 5) * 5 ^ e)) := by
      intro k
      induction k with
      | zero =>
        intro a m hk
        have ha : a = 5 := by omega
        subst ha
        rw [Nat.zero_mul, Nat.zero_add, show N - 5 = 0 by omega]
        rfl
      | succ k ihk =>
        intro a m hk
        have hx := rgF_ext (c := c) (d := d) (A := A) hN (show a < 5 by omega)
        rw [h] at hx
        have hsum : (k + 1) * 5 ^ e + m = 5 ^ e + (k * 5 ^ e + m) := by rw [Nat.succ_mul]; omega
        have hnext : (5 * c + a) * 5 ^ e + 5 ^ e = (5 * c + (a + 1)) * 5 ^ e := (Nat.succ_mul (5 * c + a) (5 ^ e)).symm
        rw [hsum]
        by_cases haN : a < N
        · have hx' : rgF N (5 * c + a) 5 (d + 1) (d + 1) 0 A = some (playF B a) := by
            rw [hx]
            show (if a < N then some (playF B a) else none) = _
            rw [if_pos haN]
          have hgB : (aG (playF B a)).testBit p = false := by rw [playF_g (by omega)]; exact hB
          have := ih (d + 1) (5 * c + a) (k * 5 ^ e + m) (playF B a) hx' hgB
          rw [← hdn] at this
          rw [this, hnext, ihk (a + 1) m (by omega), show N - a = (N - (a + 1)) + 1 by omega, hoL_out]
          cases hoD p N e (5 * c + a) (playF B a) <;> rfl
        · have hx' : rgF N (5 * c + a) 5 (d + 1) (d + 1) 0 A = none := by
            rw [hx]
            show (if a < N then some (playF B a) else none) = _
            rw [if_neg haN]
          rw [hoS_skip (5 ^ e) (k * 5 ^ e + m) ((5 * c + a) * 5 ^ e) (fun j h1 h2 => ?_), hnext, ihk (a + 1) m (by omega), show N - (a + 1) = N - a by omega, show N - a = 0 by omega]
          · rfl
          · have := rgF_none hN hx' e (j - (5 * c + a) * 5 ^ e) (by omega)
            rw [show (5 * c + a) * 5 ^ e + (j - (5 * c + a) * 5 ^ e) = j by omega, ← hdn] at this
            exact this
    have := hblk 5 0 m (by omega)
    rw [Nat.add_zero (5 * c), Nat.sub_zero] at this
    have e1 : c * 5 ^ (e + 1) = 5 * c * 5 ^ e := by rw [hpw]; rw [← Nat.mul_assoc, Nat.mul_comm c 5]
    have e2 : c * 5 ^ (e + 1) + 5 ^ (e + 1) = (5 * c + 5) * 5 ^ e := by rw [e1, hpw, Nat.add_mul]
    rw [e2, e1, hpw, this]
    rfl
theorem hoS_all {p n : Nat} {A : aE} (hN : aN A ≤ 5) (hp : (aG A).testBit p = false) : hoS p (aN A) n A (5 ^ n) 0 = hoD p (aN A) n 0 A := by
  have h := hoS_tree (N := aN A) hN hp n 0 0 0 A rfl hp
  rw [Nat.zero_add, Nat.zero_mul, Nat.zero_add, Nat.add_zero] at h
  rw [h]
  show orO _ none = _
  unfold orO
  cases hoD p (aN A) n 0 A <;> rfl
theorem z_homeX_42 {S0 : tq_St} {w p : Nat} (hG0 : RZ S0 G) (hw : wfQ G) (hp : p < aN (qA G)) (hgp : (aG (qA G)).testBit p = false) (hwh : w = 0 ∨ (10 ≤ w ∧ w ≤ 12)) {R : Option (Nat × Nat)} (hK : ∀ S', FZ S0 S' → K (hoR w R) S') : ∀ (m n f : Nat) (S : tq_St), n + m = 4 → m < f → FZ S0 S → hoN p (qA G) m n = R → wp_X7_home_42 K f (nI p) (nI w) (nI n) S
  | 0, n, f + 1, S, h1, h2, hF, e => by
    subst e
    unfold wp_X7_home_42
    exact pk_le 4 n (fun _ => hK S hF) (fun z => absurd z (by omega))
  | m + 1, n, f + 1, S, h1, h2, hF, e => by
    have hn := hw.1.1
    have hpw := pow_bd (b := 5) (n := n) (by decide) (by omega)
    unfold hoN at e
    unfold wp_X7_home_42
    refine pk_le 4 n (fun z => absurd z (by omega)) (fun _ => ?_)
    refine z_homeX_50 (R := hoD p (aN (qA G)) n 0 (qA G)) hG0 hw (by omega) (by omega) hwh (fun c ec S' f' => ?_) (fun ec S' f' => ?_) (5 ^ n) 0 2000 S (by omega) (by omega) hF (hoS_all hn hgp)
    · rw [ec] at e
      have e : some (n, c) = R := e
      rw [e]
      exact hK S' f'
    · rw [ec] at e
      exact z_homeX_42 hG0 hw hp hgp hwh hK m (n + 1) f S' (by omega) (by omega) f' e
theorem z_homeX {x y : Int32} (hG : RZ S G) (hw : wfQ G) (hbad : (∀ p, p < aN (qA G) → x ≠ nI p) ∨ (∀ w, (w = 0 ∨ (10 ≤ w ∧ w ≤ 12)) → y ≠ nI w) → K (-1) S) (hst : ∀ p w, p < aN (qA G) → x = nI p → (w = 0 ∨ (10 ≤ w ∧ w ≤ 12)) → y = nI w → (aG (qA G)).testBit p = true → K (-2) S) (hok : ∀ p w, p < aN (qA G) → x = nI p → (w = 0 ∨ (10 ≤ w ∧ w ≤ 12)) → y = nI w → (aG (qA G)).testBit p = false → ∀ S', RZ S' G → Fr 28 S S' → K (hoR w (hoN p (qA G) 4 0)) S') : wp_X7_home x y S K := by
  have hn := hw.1.1
  unfold wp_X7_home
  refine m_isOne hG.1.1 hn (fun p hp e => ⟨fun z => absurd z (by decide), fun _ => ?_⟩) (fun hno => ⟨fun _ => hbad (Or.inl hno), fun z => absurd rfl z⟩)
  subst e
  have h28 : ∀ w : Nat, y = nI w → (w = 0 ∨ (10 ≤ w ∧ w ≤ 12)) → wp_X7_home_28 K (nI p) y S := by
    intro w e hwh
    unfold wp_X7_home_28
    refine m_waits (g := 0) hG.1.2.2.2.2.1 (by decide) hw.1.g31 (by omega) (fun hb => ⟨fun _ => ?_, fun z => absurd z (by decide)⟩) (fun hb => ⟨fun z => absurd rfl z, fun _ => hst p w hp rfl hwh e hb⟩)
    subst e
    exact z_homeX_42 hG hw hp hb hwh (fun S' f => hok p w hp rfl hwh rfl hb S' (hG.fz hw f) f.1) 4 0 2000 S (by omega) (by omega) FZ.rf rfl
  refine ⟨fun e => h28 0 e (Or.inl rfl), fun z0 => ?_⟩
  exact m_in 10 12 (by decide) (by decide) (by decide) (fun w hw1 hw2 e => ⟨fun _ => h28 w e (Or.inr ⟨hw1, hw2⟩), fun z => absurd z (by decide)⟩) (fun h => ⟨fun z => absurd rfl z, fun _ => hbad (Or.inr (fun w hwh e => by
    rcases hwh with c | c
    · subst c; exact z0 e
    · exact h w c.1 c.2 e))⟩)
end HOM
