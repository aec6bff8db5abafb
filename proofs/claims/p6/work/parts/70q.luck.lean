section LUK
variable {S S0 : tq_St} {G : aQ} {K : Int32 → tq_St → Prop} {KL : Int64 → tq_St → Prop}
-- THOUGHTS THAT FAIL, exactly: what a plan weighs, act by act
def wtF (v : Nat) (f : aE → Nat) : Nat → Nat → aE → Nat
  | 0, _, A => f A
  | e + 1, i, A => if i < aC A then (if aA A i < 5 then (10 - v) * wtF v f e (i + 1) (playF A (aA A i)) + v * wtF v f e (i + 1) A else wtF v f e (i + 1) (playF A (aA A i))) else wtF v f e (i + 1) A
def gnF (q : Nat) (A : aE) : Nat := if (aG A).testBit q then 1 else 0
theorem wtF_end {v : Nat} {f : aE → Nat} : ∀ (e i : Nat) (A : aE), aC A ≤ i → wtF v f e i A = f A
  | 0, i, A, h => rfl
  | e + 1, i, A, h => by
    unfold wtF
    rw [if_neg (by omega)]
    exact wtF_end e (i + 1) A (by omega)
theorem wtF_cong {v : Nat} {f g : aE → Nat} (h : ∀ A, f A = g A) : ∀ (e i : Nat) (A : aE), wtF v f e i A = wtF v g e i A := by
  have : f = g := funext h
  subst this
  exact fun _ _ _ => rfl
theorem wtF_add {v : Nat} {f g : aE → Nat} : ∀ (e i : Nat) (A : aE), wtF v (fun A => f A + g A) e i A = wtF v f e i A + wtF v g e i A
  | 0, i, A => rfl
  | e + 1, i, A => by
    unfold wtF
    split
    · split
      · rw [wtF_add e, wtF_add e, Nat.mul_add, Nat.mul_add]
        omega
      · exact wtF_add e _ _
    · exact wtF_add e _ _
theorem wtF_zero {v : Nat} : ∀ (e i : Nat) (A : aE), wtF v (fun _ => 0) e i A = 0
  | 0, i, A => rfl
  | e + 1, i, A => by
    unfold wtF
    split
    · split
      · rw [wtF_zero e, wtF_zero e, Nat.mul_zero, Nat.mul_zero]
      · exact wtF_zero e _ _
    · exact wtF_zero e _ _
/-- the whole: a ten for each thought -/
def tnF (A : aE) : Nat → Nat → Nat
  | 0, _ => 1
  | e + 1, i => (if i < aC A ∧ aA A i < 5 then 10 else 1) * tnF A e (i + 1)
theorem tnF_play {A : aE} {a : Nat} : ∀ (e i : Nat), tnF (playF A a) e i = tnF A e i
  | 0, _ => rfl
  | e + 1, i => by
    have h := playF_same A a
    unfold tnF
    rw [h.2.2.2.2.1, h.2.2.2.2.2, tnF_play e (i + 1)]
theorem wtF_one {v : Nat} (hv : v ≤ 10) : ∀ (e i : Nat) (A : aE), wtF v (fun _ => 1) e i A = tnF A e i
  | 0, i, A => rfl
  | e + 1, i, A => by
    unfold wtF tnF
    by_cases h : i < aC A
    · rw [if_pos h]
      by_cases h5 : aA A i < 5
      · rw [if_pos h5, if_pos ⟨h, h5⟩, wtF_one hv e, wtF_one hv e, tnF_play]
        rw [← Nat.add_mul]
        congr 1
        omega
      · rw [if_neg h5, if_neg (fun z => h5 z.2), wtF_one hv e, tnF_play, Nat.one_mul]
    · rw [if_neg h, if_neg (fun z => h z.1), wtF_one hv e, Nat.one_mul]
theorem tnF_bd (A : aE) : ∀ (e i : Nat), 0 < tnF A e i ∧ tnF A e i ≤ 10 ^ e
  | 0, i => ⟨Nat.zero_lt_one, Nat.le_refl _⟩
  | e + 1, i => by
    obtain ⟨h1, h2⟩ := tnF_bd A e (i + 1)
    have hp : (10 : Nat) ^ (e + 1) = 10 * 10 ^ e := by rw [Nat.pow_succ]; omega
    unfold tnF
    split
    · exact ⟨Nat.mul_pos (by decide) h1, by rw [hp]; exact Nat.mul_le_mul_left 10 h2⟩
    · rw [Nat.one_mul]; exact ⟨h1, by omega⟩
theorem wtF_le {v c : Nat} {f : aE → Nat} (hv : v ≤ 10) (hf : ∀ A, f A ≤ c) : ∀ (e i : Nat) (A : aE), wtF v f e i A ≤ c * tnF A e i
  | 0, i, A => by show f A ≤ c * 1; have := hf A; omega
  | e + 1, i, A => by
    unfold wtF tnF
    by_cases h : i < aC A
    · rw [if_pos h]
      by_cases h5 : aA A i < 5
      · rw [if_pos h5, if_pos ⟨h, h5⟩]
        have h1 := wtF_le hv hf e (i + 1) (playF A (aA A i))
        have h2 := wtF_le hv hf e (i + 1) A
        rw [tnF_play] at h1
        have h3 := Nat.mul_le_mul_left (10 - v) h1
        have h4 := Nat.mul_le_mul_left v h2
        have h6 : (10 - v) * (c * tnF A e (i + 1)) + v * (c * tnF A e (i + 1)) = c * (10 * tnF A e (i + 1)) := by
          rw [← Nat.add_mul, show 10 - v + v = 10 by omega, Nat.mul_left_comm]
        omega
      · rw [if_neg h5, if_neg (fun z => h5 z.2), Nat.one_mul]
        have h1 := wtF_le hv hf e (i + 1) (playF A (aA A i))
        rw [tnF_play] at h1
        exact h1
    · rw [if_neg h, if_neg (fun z => h z.1), Nat.one_mul]
      exact wtF_le hv hf e (i + 1) A
-- the class
/-- what has been weighed: the whole, and who is gone -/
def WS (S S' : tq_St) (x : Nat) (g : Nat → Nat) : Prop := S'.2.2.1 = S.2.2.1 + lN x ∧ ∀ q, q < 5 → S'.2.2.2 q = S.2.2.2 q + lN (g q)
theorem lN_z (x : Int64) : x + lN 0 = x := by
  apply Int64.toBitVec_inj.1
  show x.toBitVec + BitVec.ofNat 64 0 = x.toBitVec
  simp
theorem WS.rf : WS S S 0 (fun _ => 0) := ⟨(lN_z _).symm, fun q _ => (lN_z _).symm⟩
theorem lN_ass (x : Int64) (a b : Nat) : x + lN a + lN b = x + lN (a + b) := by
  rw [← lN_add]
  exact Int64.add_assoc _ _ _
theorem WS.tr {S T U : tq_St} {x y : Nat} {g h : Nat → Nat} (h1 : WS S T x g) (h2 : WS T U y h) : WS S U (x + y) (fun q => g q + h q) := ⟨by rw [h2.1, h1.1, lN_ass], fun q hq => by rw [h2.2 q hq, h1.2 q hq, lN_ass]⟩
theorem WS.eq {x y : Nat} {g h : Nat → Nat} {S' : tq_St} (h1 : WS S S' x g) (e1 : x = y) (e2 : ∀ q, q < 5 → g q = h q) : WS S S' y h := ⟨by rw [← e1]; exact h1.1, fun q hq => by rw [← e2 q hq]; exact h1.2 q hq⟩
theorem WS.pre {S T U : tq_St} {x : Nat} {g : Nat → Nat} (e : T.2.2 = S.2.2) (h : WS T U x g) : WS S U x g := by
  unfold WS at h ⊢
  rw [e] at h
  exact h
theorem c_addWX_13 {S0 : tq_St} {d w : Nat} {A : aE} {K : tq_St → Prop} (hw : wfE A) (hR0 : RC S0 (8 + d) A) (hK : ∀ S', FL 8 d S0 S' → S'.2.2.1 = S0.2.2.1 → (∀ q, q < 5 → S'.2.2.2 q = S0.2.2.2 q + lN (if q < aN A then w * gnF q A else 0)) → K S') : ∀ (m p f : Nat) (S : tq_St), p + m = aN A → m < f → FL 8 d S0 S → S.2.2.1 = S0.2.2.1 → (∀ q, q < 5 → S.2.2.2 q = S0.2.2.2 q + lN (if q < p then w * gnF q A else 0)) → wp_X0_addWeight_13 (8 + d) K f (lN w) (nI p) S
  | 0, p, f + 1, S, h1, h2, hF, hW, hQ => by
    have hn := hw.1
    have hR := hR0.fl hF
    unfold wp_X0_addWeight_13
    rw [hR.1]
    have e : p = aN A := by omega
    subst e
    exact pk_le (aN A) (aN A) (fun _ => hK S hF hW hQ) (fun z => absurd z (by omega))
  | m + 1, p, f + 1, S, h1, h2, hF, hW, hQ => by
    have hn := hw.1
    have hR := hR0.fl hF
    have hin : vp_in (nI p) 5 := vp_in_nI (by omega) (by decide)
    unfold wp_X0_addWeight_13
    rw [hR.1]
    refine pk_le (aN A) p (fun z => absurd z (by omega)) (fun hp => ?_)
    refine c_waitsN hR.1 hn hR.2.1 hw.g31 hp (fun hb => ⟨fun _ => nm_r (nI_1 p) ?_, fun z => absurd z (by decide)⟩) (fun hb => ⟨fun z => absurd rfl z, fun _ => ⟨hin, hin, nm_e (nm_r (nI_1 p) ?_)⟩⟩)
    · refine c_addWX_13 hw hR0 hK m (p + 1) f S (by omega) (by omega) hF hW (fun q hq => ?_)
      rw [hQ q hq]
      congr 2
      by_cases c : q = p
      · subst c
        unfold gnF
        rw [if_neg (by omega), if_pos (by omega), hb]
        simp
      · by_cases c2 : q < p
        · rw [if_pos c2, if_pos (by omega)]
        · rw [if_neg c2, if_neg (by omega)]
    · rw [nI_clamp (by omega)]
      refine c_addWX_13 hw hR0 hK m (p + 1) f _ (by omega) (by omega) (hF.gw _ _) hW (fun q hq => ?_)
      have eg : (sG S p (S.2.2.2 p + lN w)).2.2.2 q = if q = p then S.2.2.2 p + lN w else S.2.2.2 q := rfl
      rw [eg]
      by_cases c : q = p
      · subst c
        rw [if_pos rfl, hQ q hq, if_neg (by omega), if_pos (by omega), lN_ass]
        congr 2
        unfold gnF
        rw [if_pos hb]
        omega
      · rw [if_neg c, hQ q hq]
        congr 2
        by_cases c2 : q < p
        · rw [if_pos c2, if_pos (by omega)]
        · rw [if_neg c2, if_neg (by omega)]
theorem gnF_out {A : aE} (hw : wfE A) {q : Nat} (h : aN A ≤ q) : gnF q A = 0 := by
  have hg := hw.2.2.2.2.1
  unfold gnF
  rw [Nat.testBit_lt_two_pow (Nat.lt_of_lt_of_le hg (Nat.pow_le_pow_right (by decide) h))]
  rfl
theorem c_addWX {d w : Nat} {A : aE} {K : tq_St → Prop} (hw : wfE A) (hR : RC S (8 + d) A) (hK : ∀ S', FL 8 d S S' → WS S S' w (fun q => w * gnF q A) → K S') : wp_X0_addWeight (8 + d) (lN w) S K := by
  unfold wp_X0_addWeight
  refine nm_e (c_addWX_13 (S0 := sW S (S.2.2.1 + lN w)) (w := w) hw hR (fun S' f e1 e2 => hK S' ((FL.rf.W _).tr f) ⟨e1, fun q hq => ?_⟩) (aN A) 0 2000 _ (by omega) (by have := hw.1; omega) FL.rf rfl (fun q hq => ?_))
  · rw [e2 q hq]
    show S.2.2.2 q + _ = _
    congr 2
    by_cases c : q < aN A
    · rw [if_pos c]
    · rw [if_neg c]
      show 0 = w * gnF q A
      rw [gnF_out hw (by omega), Nat.mul_zero]
  · rw [if_neg (by omega), lN_z]
theorem c_weighX {v : Nat} (hv : v ≤ 10) : ∀ (e d r w : Nat) (A : aE) (S : tq_St) (K : tq_St → Prop), d + e = 8 → e < r → RC S (8 + d) A → wfE A → (∀ S', FL 8 d S S' → WS S S' (w * wtF v (fun _ => 1) e d A) (fun q => w * wtF v (gnF q) e d A) → K S') → wp_X0_weighFrom r (nI d) (lN w) (nI v) S K := by
  intro e
  induction e with
  | zero =>
    intro d r w A S K h1 h2 hR hw hK
    obtain ⟨r, rfl⟩ : ∃ k, r = k + 1 := ⟨r - 1, by omega⟩
    have hc := hw.2.2.2.2.2.2.2.2.1
    unfold wp_X0_weighFrom
    refine ⟨vp_in_nI (by omega) (by decide), nm_r (by rw [nI_clamp (by omega)]) ?_⟩
    rw [hR.2.2.2.2.2.1]
    exact pk_le (aC A) d (fun _ => c_addWX hw hR (fun S' f ws => hK S' f (ws.eq (Nat.mul_one w).symm (fun _ _ => rfl)))) (fun z => absurd z (by omega))
  | succ e ih =>
    intro d r w A S K h1 h2 hR hw hK
    obtain ⟨r, rfl⟩ : ∃ k, r = k + 1 := ⟨r - 1, by omega⟩
    have hc := hw.2.2.2.2.2.2.2.2.1
    unfold wp_X0_weighFrom
    refine ⟨vp_in_nI (by omega) (by decide), nm_r (by rw [nI_clamp (by omega)]) ?_⟩
    rw [hR.2.2.2.2.2.1]
    refine pk_le (aC A) d (fun hd => c_addWX hw hR (fun S' f ws => hK S' f (ws.eq (by rw [wtF_end _ _ _ hd, Nat.mul_one]) (fun q _ => by rw [wtF_end _ _ _ hd])))) (fun hd => pk_lt d 8 (fun _ => ?_) (fun z => absurd z (by omega)))
    rw [nI_1]
    refine ⟨vp_in_nI (by omega) (by decide), nm_r (by rw [nI_clamp (by omega)]) ⟨vp_in_nI (by omega) (by decide), nm_r (by rw [nI_clamp (by omega), hR.2.2.2.2.2.2.2.2.2 d hd]) ?_⟩⟩
    have ha := hw.2.2.2.2.2.2.2.2.2 d hd
    have hn := hw.1
    have hmul : ∀ a b : Nat, b < 2 ^ 31 → lN a * (nI b).toInt64 = lN (a * b) := fun a b hb => by rw [nI_l hb, lN_mul]
    -- a copy, an act on it, and on
    have hgo : ∀ (w' : Nat) (S1 : tq_St) (K' : tq_St → Prop), FL 8 d S S1 → (∀ S', FL 8 d S S' → WS S1 S' (w' * wtF v (fun _ => 1) e (d + 1) (playF A (aA A d))) (fun q => w' * wtF v (gnF q) e (d + 1) (playF A (aA A d))) → K' S') → wp_X1_copyFrom (8 + (d + 1)) (8 + d) S1 (fun S2 => wp_X1_play (8 + (d + 1)) (nI (aA A d)) S2 (fun r3 S3 => wp_X0_weighFrom r (nI (d + 1)) (lN w') (nI v) S3 K')) := by
      intro w' S1 K' hF hK'
      refine c_copyFrom (o := 8 + (d + 1)) (hR.fl hF) hw (by omega) (fun S2 a1 a2 _ _ _ => ?_)
      refine c_play a1 hw ha (fun S3 b1 b2 _ _ _ => ?_)
      refine ih (d + 1) r w' (playF A (aA A d)) S3 K' (by omega) (by omega) b1 (playF_wf hw _) (fun S4 f4 ws => hK' S4 ?_ (ws.pre (b2.2.trans a2.2)))
      exact ((hF.tr (a2.fl (Or.inl (by omega)) (Or.inr (by omega)))).tr (b2.fl (Or.inl (by omega)) (Or.inr (by omega)))).tr (f4.le (by omega))
    have h125 : aA A d < 5 → ∀ S1, FL 8 d S S1 → WS S S1 (w * (10 - v) * wtF v (fun _ => 1) e (d + 1) (playF A (aA A d))) (fun q => w * (10 - v) * wtF v (gnF q) e (d + 1) (playF A (aA A d))) → wp_X0_weighFrom_125 (wp_X0_weighFrom r) K (nI d) (lN w) (nI v) (8 + d) (8 + (d + 1)) S1 := by
      intro h5 S1 hF ws
      have ew : ∀ f : aE → Nat, wtF v f (e + 1) d A = (10 - v) * wtF v f e (d + 1) (playF A (aA A d)) + v * wtF v f e (d + 1) A := fun f => by
        conv => lhs; unfold wtF
        rw [if_pos hd, if_pos h5]
      unfold wp_X0_weighFrom_125
      rw [nI_1]
      refine pk_le v 0 (fun z => ?_) (fun z => ?_)
      · have hv0 : v = 0 := by omega
        refine hK S1 hF (ws.eq ?_ (fun q _ => ?_))
        · rw [ew, hv0, Nat.zero_mul, Nat.mul_assoc]; rfl
        · show _ = w * wtF v (gnF q) (e + 1) d A
          rw [ew, hv0, Nat.zero_mul, Nat.mul_assoc]; rfl
      · rw [hmul _ _ (by omega)]
        refine c_copyFrom (o := 8 + (d + 1)) (hR.fl hF) hw (by omega) (fun S2 a1 a2 _ _ _ => ?_)
        refine ih (d + 1) r (w * v) A S2 _ (by omega) (by omega) a1 hw (fun S4 f4 ws2 => hK S4 ((hF.tr (a2.fl (Or.inl (by omega)) (Or.inr (by omega)))).tr (f4.le (by omega))) ((ws.tr (ws2.pre a2.2)).eq ?_ (fun q _ => ?_)))
        · rw [ew, Nat.mul_add, Nat.mul_assoc, Nat.mul_assoc]
        · show _ = w * wtF v (gnF q) (e + 1) d A
          rw [ew, Nat.mul_add, Nat.mul_assoc, Nat.mul_assoc]
    refine c_isThere hR.1 hw.1 (fun j hj e1 => ⟨fun _ => ?_, fun z => absurd z (by decide)⟩) (fun hno => ⟨fun z => absurd rfl z, fun _ => ?_⟩)
    · have h5 : aA A d < 5 := by
        have h31 : aA A d < 2 ^ 31 := by unfold okA at ha; omega
        have := (nI_eq h31 (by omega)).mp e1
        omega
      refine pk_le 10 v (fun z => ?_) (fun z => ?_)
      · refine h125 h5 S FL.rf (WS.rf.eq ?_ (fun q _ => ?_))
        · rw [show 10 - v = 0 by omega, Nat.mul_zero, Nat.zero_mul]
        · rw [show 10 - v = 0 by omega, Nat.mul_zero, Nat.zero_mul]
      · have e10 : (10 : Int32) - nI v = nI (10 - v) := pk_sub (a := 10) (b := v) hv
        rw [e10, hmul _ _ (by omega)]
        exact hgo (w * (10 - v)) S _ FL.rf (fun S' f ws => h125 h5 S' f ws)
    · have h5 : ¬ aA A d < 5 := by
        intro c
        rcases ha with h | h | h
        · exact hno _ h rfl
        · omega
        · omega
      have ew : ∀ f : aE → Nat, wtF v f (e + 1) d A = wtF v f e (d + 1) (playF A (aA A d)) := fun f => by
        conv => lhs; unfold wtF
        rw [if_pos hd, if_neg h5]
      refine hgo w S _ FL.rf (fun S' f ws => hK S' f (ws.eq (by rw [ew]) (fun q _ => ?_)))
      show _ = w * wtF v (gnF q) (e + 1) d A
      rw [ew]
theorem c_fillGX {S0 : tq_St} {K : tq_St → Prop} (hK : ∀ S', FL 8 0 S0 S' → (∀ q, q < 5 → S'.2.2.2 q = 0) → K S') : ∀ (m i f : Nat) (S : tq_St), i + m = 5 → m < f → FL 8 0 S0 S → (∀ q, q < i → S.2.2.2 q = 0) → wp_J7_fill_d0a16_6 K f 0 (nI i) (nI 5) S
  | 0, i, f + 1, S, h1, h2, hF, hQ => by
    unfold wp_J7_fill_d0a16_6
    exact pk_le 5 i (fun _ => hK S hF (fun q hq => hQ q (by omega))) (fun z => absurd z (by omega))
  | m + 1, i, f + 1, S, h1, h2, hF, hQ => by
    unfold wp_J7_fill_d0a16_6
    refine pk_le 5 i (fun z => absurd z (by omega)) (fun _ => ⟨vp_in_nI (by omega) (by decide), nm_e (nm_r (nI_1 i) ?_)⟩)
    rw [nI_clamp (by omega)]
    refine c_fillGX hK m (i + 1) f _ (by omega) (by omega) (hF.gw _ _) (fun q hq => ?_)
    have eg : (sG S i 0).2.2.2 q = if q = i then 0 else S.2.2.2 q := rfl
    rw [eg]
    by_cases c : q = i
    · rw [if_pos c]
    · rw [if_neg c]; exact hQ q (by omega)
/-- the plan weighed: the whole, and what each is gone by -/
theorem q_weighX {v : Nat} {K : tq_St → Prop} (hv : v ≤ 10) (hG : RQ S G) (hw : wfQ G) (hK : ∀ S', FX S S' → S'.2.2.1 = lN (tnF (qA G) 8 0) → (∀ q, q < 5 → S'.2.2.2 q = lN (wtF v (gnF q) 8 0 (qA G))) → K S') : wp_X0_weighPlan 0 (nI v) S K := by
  unfold wp_X0_weighPlan
  have c0 : (0 : Int32).toNatClampNeg = 0 := by decide
  rw [c0]
  refine ⟨vp_in_nI (n := 0) (by decide) (by decide), ?_⟩
  refine c_startFrom (o := 8 + 0) hG.1 hw.1 (by decide) (fun S1 a1 a2 a3 => ?_)
  refine c_fillGX (S0 := S1) (fun S2 f2 hQ => nm_e ?_) 5 0 2000 S1 (by omega) (by omega) FL.rf (fun q hq => absurd hq (by omega))
  have f3 := f2.W 0
  have hz : ∀ x : Nat, (0 : Int64) + lN x = lN x := fun x => by
    show lN 0 + lN x = lN x
    rw [lN_add, Nat.zero_add]
  refine c_weighX hv 8 0 12 1 (qA G) _ K (by omega) (by omega) (a1.fl f3) hw.1 (fun S' f ws => hK S' ?_ ?_ (fun q hq => ?_))
  · exact ((a2.fx (Or.inl (by decide))).tr f3.1).tr f.1
  · rw [ws.1]
    show (0 : Int64) + lN (1 * wtF v (fun _ => 1) 8 0 (qA G)) = _
    rw [hz, Nat.one_mul, wtF_one hv]
  · rw [ws.2 q hq]
    show S2.2.2.2 q + lN (1 * wtF v (gnF q) 8 0 (qA G)) = _
    rw [hQ q hq, hz, Nat.one_mul]
-- LOWEST TERMS
def loF (u d : Nat) (y : Int32) : Int64 := lN ((if y = 0 then u else d) / Nat.gcd u d)
theorem gcd_step (a b : Nat) : Nat.gcd b (a % b) = Nat.gcd a b := by
  rw [Nat.gcd_comm a b, Nat.gcd_rec b a, Nat.gcd_comm]
theorem z_lowX_6 {u d : Nat} {y : Int32} (hu : u < 2 ^ 63) (hd : d < 2 ^ 63) (hd0 : 0 < d) (hK : KL (loF u d y) S) : ∀ (k a b f : Nat), b < 2 ^ k → a < 2 ^ 63 → b < 2 ^ 63 → 2 * k + 1 ≤ f → (0 < a ∨ 0 < b) → Nat.gcd a b = Nat.gcd u d → wp_X7_lowest_6 KL f (lN u) (lN d) y (lN a) (lN b) S := by
  have hend : ∀ a f : Nat, 0 < a → a < 2 ^ 63 → 1 ≤ f → Nat.gcd a 0 = Nat.gcd u d → wp_X7_lowest_6 KL f (lN u) (lN d) y (lN a) (lN 0) S := by
    intro a f h0 ha hf hg
    obtain ⟨f, rfl⟩ : ∃ k, f = k + 1 := ⟨f - 1, by omega⟩
    rw [Nat.gcd_zero_right] at hg
    unfold loF at hK
    rw [← hg] at hK
    refine ⟨fun _ => ⟨fun z => ⟨lN_ne h0 ha, ?_⟩, fun z => ⟨lN_ne h0 ha, ?_⟩⟩, fun z => absurd (by decide) z⟩
    · rw [if_neg z] at hK
      rw [pk_lDiv hd h0 ha]
      exact hK
    · rw [if_pos z] at hK
      rw [pk_lDiv hu h0 ha]
      exact hK
  have hstep : ∀ a b f : Nat, 0 < b → a < 2 ^ 63 → b < 2 ^ 63 → wp_X7_lowest_6 KL f (lN u) (lN d) y (lN b) (lN (a % b)) S → wp_X7_lowest_6 KL (f + 1) (lN u) (lN d) y (lN a) (lN b) S := by
    intro a b f h0 ha hb h
    refine ⟨fun z => absurd ((lgc_0 hb).mp z) (by omega), fun _ => ⟨lN_ne h0 hb, nm_r (pk_lRem ha h0 hb) h⟩⟩
  intro k
  induction k with
  | zero =>
    intro a b f hk ha hb hf hab hg
    have e : b = 0 := by
      have : (2 : Nat) ^ 0 = 1 := rfl
      omega
    subst e
    exact hend a f (by omega) ha (by omega) hg
  | succ k ih =>
    intro a b f hk ha hb hf hab hg
    rcases Nat.eq_zero_or_pos b with c | c
    · subst c
      exact hend a f (by omega) ha (by omega) hg
    · obtain ⟨f, rfl⟩ : ∃ j, f = j + 2 := ⟨f - 2, by omega⟩
      have hr : a % b < b := Nat.mod_lt _ c
      have hg1 : Nat.gcd b (a % b) = Nat.gcd u d := (gcd_step a b).trans hg
      refine hstep a b (f + 1) c ha hb ?_
      rcases Nat.eq_zero_or_pos (a % b) with c2 | c2
      · rw [c2] at hg1 ⊢
        exact hend b (f + 1) c hb (by omega) hg1
      · refine hstep b (a % b) f c2 hb (by omega) ?_
        have h2 : b % (a % b) < a % b := Nat.mod_lt _ c2
        have h3 : b % (a % b) + (a % b) ≤ b := by
          have h4 := Nat.div_add_mod b (a % b)
          have h5 : 1 ≤ b / (a % b) := Nat.div_pos (by omega) c2
          have h6 : a % b ≤ a % b * (b / (a % b)) := Nat.le_mul_of_pos_right _ h5
          omega
        have h7 : (2 : Nat) ^ (k + 1) = 2 * 2 ^ k := by rw [Nat.pow_succ]; omega
        exact ih (a % b) (b % (a % b)) f (by omega) (by omega) (by omega) (by omega) (Or.inl c2) ((gcd_step b (a % b)).trans hg1)
theorem z_lowX {u d : Nat} {y : Int32} (hu : u < 2 ^ 63) (hd : d < 2 ^ 63) (hd0 : 0 < d) (hK : KL (loF u d y) S) : wp_X7_lowest (lN u) (lN d) y S KL :=
  z_lowX_6 hu hd hd0 hK 63 u d 2000 hd hu hd (by decide) (Or.inr hd0) rfl
theorem c_gdX {u d : Nat} (hK : KL (lN (Nat.gcd u d)) S) : ∀ (k a b i f : Nat), b < 2 ^ k → a < 2 ^ 63 → b < 2 ^ 63 → 2 * k + i ≤ 200 → 2 * k + 1 ≤ f → Nat.gcd a b = Nat.gcd u d → wp_X6_greatestDivisor_3 KL f (lN a) (lN b) (nI i) S := by
  have hend : ∀ a i f : Nat, a < 2 ^ 63 → i ≤ 200 → 1 ≤ f → Nat.gcd a 0 = Nat.gcd u d → wp_X6_greatestDivisor_3 KL f (lN a) (lN 0) (nI i) S := by
    intro a i f ha hi hf hg
    obtain ⟨f, rfl⟩ : ∃ k, f = k + 1 := ⟨f - 1, by omega⟩
    rw [Nat.gcd_zero_right] at hg
    rw [← hg] at hK
    exact pk_le 200 i (fun _ => hK) (fun _ => ⟨fun _ => hK, fun z => absurd (by decide) z⟩)
  have hstep : ∀ a b i f : Nat, 0 < b → a < 2 ^ 63 → b < 2 ^ 63 → i < 200 → wp_X6_greatestDivisor_3 KL f (lN b) (lN (a % b)) (nI (i + 1)) S → wp_X6_greatestDivisor_3 KL (f + 1) (lN a) (lN b) (nI i) S := by
    intro a b i f h0 ha hb hi h
    refine pk_le 200 i (fun z => absurd z (by omega)) (fun _ => ⟨fun z => absurd ((lgc_0 hb).mp z) (by omega), fun _ => ⟨lN_ne h0 hb, nm_r (pk_lRem ha h0 hb) (nm_r (nI_1 i) h)⟩⟩)
  intro k
  induction k with
  | zero =>
    intro a b i f hk ha hb hi hf hg
    have e : b = 0 := by
      have : (2 : Nat) ^ 0 = 1 := rfl
      omega
    subst e
    exact hend a i f ha (by omega) (by omega) hg
  | succ k ih =>
    intro a b i f hk ha hb hi hf hg
    rcases Nat.eq_zero_or_pos b with c | c
    · subst c
      exact hend a i f ha (by omega) (by omega) hg
    · obtain ⟨f, rfl⟩ : ∃ j, f = j + 2 := ⟨f - 2, by omega⟩
      have hr : a % b < b := Nat.mod_lt _ c
      have hg1 : Nat.gcd b (a % b) = Nat.gcd u d := (gcd_step a b).trans hg
      refine hstep a b i (f + 1) c ha hb (by omega) ?_
      rcases Nat.eq_zero_or_pos (a % b) with c2 | c2
      · rw [c2] at hg1 ⊢
        exact hend b (i + 1) (f + 1) hb (by omega) (by omega) hg1
      · refine hstep b (a % b) (i + 1) f c2 hb (by omega) (by omega) ?_
        have h2 : b % (a % b) < a % b := Nat.mod_lt _ c2
        have h3 : b % (a % b) + (a % b) ≤ b := by
          have h4 := Nat.div_add_mod b (a % b)
          have h5 : 1 ≤ b / (a % b) := Nat.div_pos (by omega) c2
          have h6 : a % b ≤ a % b * (b / (a % b)) := Nat.le_mul_of_pos_right _ h5
          omega
        have h7 : (2 : Nat) ^ (k + 1) = 2 * 2 ^ k := by rw [Nat.pow_succ]; omega
        exact ih (a % b) (b % (a % b)) (i + 1 + 1) f (by omega) (by omega) (by omega) (by omega) (by omega) ((gcd_step b (a % b)).trans hg1)
theorem c_partX {u d : Nat} {y : Int32} (hu : u < 2 ^ 63) (hd : d < 2 ^ 63) (hd0 : 0 < d) (hK : KL (loF u d y) S) : wp_X6_partOfFraction (lN u) (lN d) y S KL := by
  have hg0 : 0 < Nat.gcd u d := Nat.gcd_pos_of_pos_right u hd0
  have hgl : Nat.gcd u d < 2 ^ 63 := Nat.lt_of_le_of_lt (Nat.gcd_le_right u hd0) hd
  have h17 : ∀ w0 : Nat, w0 < 2 ^ 63 → KL (lN (w0 / Nat.gcd u d)) S → wp_X6_partOfFraction_17 KL (lN (Nat.gcd u d)) (lN w0) S := by
    intro w0 h0 h
    refine ⟨fun _ => ⟨lN_ne hg0 hgl, ?_⟩, fun z => ?_⟩
    · rw [pk_lDiv h0 hg0 hgl]
      exact h
    · exfalso
      have e1 : (1 : Int64).toInt = 1 := by decide
      have hlt : lg_cmp (lN (Nat.gcd u d)) 1 < 0 := fa_of_nle z
      rw [lgc_lt, pk_lT hgl, e1] at hlt
      omega
  unfold wp_X6_partOfFraction wp_X6_greatestDivisor
  unfold loF at hK
  refine c_gdX (u := u) (d := d) ⟨fun z => h17 d hd ?_, fun z => h17 u hu ?_⟩ 63 u d 0 2000 hd hu hd (by decide) (by decide) rfl
  · rw [if_neg z] at hK; exact hK
  · rw [if_pos z] at hK; exact hK
end LUK
