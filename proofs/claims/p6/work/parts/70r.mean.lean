section MEA
variable {S S0 : tq_St} {G : aQ} {K : Int32 → tq_St → Prop} {KL : Int64 → tq_St → Prop}
-- SUMS over rows of failures
def smF (g : Nat → Nat) : Nat → Nat
  | 0 => 0
  | n + 1 => smF g n + g n
theorem smF_cong {g h : Nat → Nat} : ∀ n, (∀ s, s < n → g s = h s) → smF g n = smF h n
  | 0, _ => rfl
  | n + 1, e => by
    unfold smF
    rw [smF_cong n (fun s hs => e s (by omega)), e n (by omega)]
theorem smF_2 (g : Nat → Nat) : ∀ n, smF g (2 * n) = smF (fun s => g (2 * s) + g (2 * s + 1)) n
  | 0 => rfl
  | n + 1 => by
    rw [show 2 * (n + 1) = (2 * n + 1) + 1 by omega]
    show smF g (2 * n) + g (2 * n) + g (2 * n + 1) = smF _ n + (g (2 * n) + g (2 * n + 1))
    rw [smF_2 g n]
    omega
theorem smF_add (g h : Nat → Nat) : ∀ n, smF (fun s => g s + h s) n = smF g n + smF h n
  | 0 => rfl
  | n + 1 => by
    unfold smF
    rw [smF_add g h n]
    omega
theorem smF_mul (c : Nat) (g : Nat → Nat) : ∀ n, smF (fun s => c * g s) n = c * smF g n
  | 0 => rfl
  | n + 1 => by
    unfold smF
    rw [smF_mul c g n, Nat.mul_add]
/-- which acts are thoughts -/
def tmF (A : aE) : Nat → Nat
  | 0 => 0
  | k + 1 => if aA A k < 5 then tmF A k ||| 2 ^ k else tmF A k
theorem tmF_lt (A : aE) : ∀ k, tmF A k < 2 ^ k
  | 0 => Nat.zero_lt_one
  | k + 1 => by
    have h := tmF_lt A k
    have h2 : 2 ^ k < 2 ^ (k + 1) := Nat.pow_lt_pow_right (by decide) (by omega)
    unfold tmF
    split
    · exact zb_orlt (by omega) (by omega)
    · omega
theorem tmF_bit (A : aE) : ∀ k j, (tmF A k).testBit j = decide (j < k ∧ aA A j < 5)
  | 0, j => by
    show Nat.testBit 0 j = _
    rw [Nat.zero_testBit, decide_eq_false (by omega)]
  | k + 1, j => by
    have ih := tmF_bit A k j
    unfold tmF
    by_cases h : aA A k < 5
    · rw [if_pos h, Nat.testBit_or, ih, Nat.testBit_two_pow]
      by_cases c : j = k
      · subst c
        rw [decide_eq_true (p := j = j) rfl, Bool.or_true, decide_eq_true (by omega)]
      · rw [decide_eq_false (p := k = j) (by omega), Bool.or_false]
        by_cases c2 : j < k ∧ aA A j < 5
        · rw [decide_eq_true c2, decide_eq_true (by omega)]
        · rw [decide_eq_false c2, decide_eq_false (by omega)]
    · rw [if_neg h, ih]
      by_cases c2 : j < k ∧ aA A j < 5
      · rw [decide_eq_true c2, decide_eq_true (by omega)]
      · have : ¬ (j < k + 1 ∧ aA A j < 5) := by
          intro z
          by_cases c : j = k
          · subst c; exact h z.2
          · exact c2 ⟨by omega, z.2⟩
        rw [decide_eq_false c2, decide_eq_false this]
/-- what one row of failures adds -/
def cwF (v T : Nat) (f : aE → Nat) : Nat → Nat → aE → Nat → Nat
  | 0, _, A, _ => f A
  | e + 1, i, A, s => if T.testBit i then (if s % 2 = 1 then v * cwF v T f e (i + 1) A (s / 2) else (10 - v) * cwF v T f e (i + 1) (playF A (aA A i)) (s / 2)) else (if s % 2 = 1 then 0 else cwF v T f e (i + 1) (if i < aC A then playF A (aA A i) else A) (s / 2))
theorem cwF_s {v T : Nat} {f : aE → Nat} {e i : Nat} {A : aE} {s : Nat} : cwF v T f (e + 1) i A s = if T.testBit i then (if s % 2 = 1 then v * cwF v T f e (i + 1) A (s / 2) else (10 - v) * cwF v T f e (i + 1) (playF A (aA A i)) (s / 2)) else (if s % 2 = 1 then 0 else cwF v T f e (i + 1) (if i < aC A then playF A (aA A i) else A) (s / 2)) := rfl
theorem tm_play {T : Nat} {A : aE} {a : Nat} (h : ∀ j, T.testBit j = decide (j < aC A ∧ aA A j < 5)) : ∀ j, T.testBit j = decide (j < aC (playF A a) ∧ aA (playF A a) j < 5) := by
  intro j
  have hs := playF_same A a
  rw [hs.2.2.2.2.1, hs.2.2.2.2.2]
  exact h j
theorem cw_sum {v T : Nat} {f : aE → Nat} : ∀ (e i : Nat) (A : aE), (∀ j, T.testBit j = decide (j < aC A ∧ aA A j < 5)) → smF (fun s => cwF v T f e i A s) (2 ^ e) = wtF v f e i A
  | 0, i, A, _ => by
    show 0 + f A = f A
    omega
  | e + 1, i, A, hT => by
    have hp : (2 : Nat) ^ (e + 1) = 2 * 2 ^ e := by rw [Nat.pow_succ]; omega
    have m0 : ∀ s : Nat, 2 * s % 2 = 0 := fun s => by omega
    have m1 : ∀ s : Nat, (2 * s + 1) % 2 = 1 := fun s => by omega
    have q0 : ∀ s : Nat, 2 * s / 2 = s := fun s => by omega
    have q1 : ∀ s : Nat, (2 * s + 1) / 2 = s := fun s => by omega
    rw [hp, smF_2]
    by_cases hb : T.testBit i = true
    · have hc : i < aC A ∧ aA A i < 5 := by
        have := hT i
        rw [hb] at this
        exact of_decide_eq_true this.symm
      rw [smF_cong (h := fun s => (10 - v) * cwF v T f e (i + 1) (playF A (aA A i)) s + v * cwF v T f e (i + 1) A s) _ (fun s _ => ?_), smF_add, smF_mul, smF_mul, cw_sum e (i + 1) _ (tm_play hT), cw_sum e (i + 1) A hT]
      · conv => rhs; unfold wtF
        rw [if_pos hc.1, if_pos hc.2]
      · show cwF v T f (e + 1) i A (2 * s) + cwF v T f (e + 1) i A (2 * s + 1) = _
        rw [cwF_s, cwF_s, if_pos hb, if_pos hb, m0, m1, q0, q1, if_neg (by decide), if_pos rfl]
    · have hb' : T.testBit i = false := by simpa using hb
      rw [smF_cong (h := fun s => cwF v T f e (i + 1) (if i < aC A then playF A (aA A i) else A) s) _ (fun s _ => ?_)]
      · by_cases hi : i < aC A
        · have h5 : ¬ aA A i < 5 := by
            intro c
            have := hT i
            rw [hb', decide_eq_true ⟨hi, c⟩] at this
            exact absurd this (by decide)
          rw [if_pos hi, cw_sum e (i + 1) _ (tm_play hT)]
          conv => rhs; unfold wtF
          rw [if_pos hi, if_neg h5]
        · rw [if_neg hi, cw_sum e (i + 1) A hT]
          conv => rhs; unfold wtF
          rw [if_neg hi]
      · show cwF v T f (e + 1) i A (2 * s) + cwF v T f (e + 1) i A (2 * s + 1) = _
        rw [cwF_s, cwF_s, if_neg hb, if_neg hb, m0, m1, q0, q1, if_neg (by decide), if_pos rfl, Nat.add_zero]
/-- the reference's product of odds -/
def oLF (v T s : Nat) : Nat → Nat → Nat → Nat
  | 0, _, o => o
  | m + 1, i, o => oLF v T s m (i + 1) (o * (if T.testBit i then (if s.testBit i then v else 10 - v) else 1))
theorem tb_mod (s i : Nat) : s.testBit i = decide (s / 2 ^ i % 2 = 1) := Nat.testBit_eq_decide_div_mod_eq
theorem tb_div (s i : Nat) : s / 2 ^ i / 2 = s / 2 ^ (i + 1) := by rw [Nat.div_div_eq_div_mul, ← Nat.pow_succ]
theorem cw_o {v T s : Nat} {f : aE → Nat} (hsub : ∀ j, s.testBit j = true → T.testBit j = true) : ∀ (e i : Nat) (A : aE) (t : aY) (o : Nat), aC A ≤ i + e → (∀ j, T.testBit j = decide (j < aC A ∧ aA A j < 5)) → o * cwF v T f e i A (s / 2 ^ i) = oLF v T s e i o * f (goM (aA A) s (aC A - i) i A t).1
  | 0, i, A, t, o, he, hT => by
    rw [show aC A - i = 0 by omega]
    rfl
  | e + 1, i, A, t, o, he, hT => by
    have hm := tb_mod s i
    unfold cwF oLF
    rw [tb_div]
    by_cases hb : T.testBit i = true
    · have hc : i < aC A ∧ aA A i < 5 := by
        have := hT i
        rw [hb] at this
        exact of_decide_eq_true this.symm
      rw [if_pos hb, if_pos hb, show aC A - i = (aC A - (i + 1)) + 1 by omega]
      by_cases hs : s.testBit i = true
      · have h1 : s / 2 ^ i % 2 = 1 := by rw [hs] at hm; exact of_decide_eq_true hm.symm
        rw [if_pos h1, if_pos hs, ← Nat.mul_assoc, cw_o hsub e (i + 1) A t (o * v) (by omega) hT]
        conv => rhs; unfold goM
        rw [if_pos hs]
      · have h1 : ¬ s / 2 ^ i % 2 = 1 := by
          intro c
          rw [decide_eq_true c] at hm
          exact hs hm
        have hpl := playF_same A (aA A i)
        have ih := fun t' => cw_o (v := v) (f := f) hsub e (i + 1) (playF A (aA A i)) t' (o * (10 - v)) (by rw [hpl.2.2.2.2.1]; omega) (tm_play hT)
        rw [hpl.2.2.2.2.1, hpl.2.2.2.2.2] at ih
        rw [if_neg h1, if_neg hs, ← Nat.mul_assoc]
        conv => rhs; unfold goM
        rw [if_neg hs]
        exact ih _
    · have hs : ¬ s.testBit i = true := fun c => hb (hsub i c)
      have h1 : ¬ s / 2 ^ i % 2 = 1 := by
        intro c
        rw [decide_eq_true c] at hm
        exact hs hm
      rw [if_neg hb, if_neg hb, if_neg h1, Nat.mul_one]
      by_cases hi : i < aC A
      · have hpl := playF_same A (aA A i)
        have ih := fun t' => cw_o (v := v) (f := f) hsub e (i + 1) (playF A (aA A i)) t' o (by rw [hpl.2.2.2.2.1]; omega) (tm_play hT)
        rw [hpl.2.2.2.2.1, hpl.2.2.2.2.2] at ih
        rw [if_pos hi, show aC A - i = (aC A - (i + 1)) + 1 by omega]
        conv => rhs; unfold goM
        rw [if_neg hs]
        exact ih _
      · rw [if_neg hi]
        have ih := cw_o (v := v) (f := f) hsub e (i + 1) A t o (by omega) hT
        rw [show aC A - (i + 1) = 0 by omega] at ih
        rw [show aC A - i = 0 by omega]
        exact ih
theorem cw_0 {v T s : Nat} {f : aE → Nat} {j : Nat} (hs : s.testBit j = true) (hj : T.testBit j = false) : ∀ (e i : Nat) (A : aE), i ≤ j → j < i + e → cwF v T f e i A (s / 2 ^ i) = 0
  | 0, i, A, h1, h2 => absurd h2 (by omega)
  | e + 1, i, A, h1, h2 => by
    have hm := tb_mod s i
    unfold cwF
    rw [tb_div]
    by_cases c : i = j
    · subst c
      have hd : s / 2 ^ i % 2 = 1 := by rw [hs] at hm; exact of_decide_eq_true hm.symm
      rw [if_neg (by rw [hj]; decide), if_pos hd]
    · rw [cw_0 hs hj e (i + 1) _ (by omega) (by omega), cw_0 hs hj e (i + 1) _ (by omega) (by omega), cw_0 hs hj e (i + 1) _ (by omega) (by omega), Nat.mul_zero, Nat.mul_zero]
      split <;> split <;> rfl
theorem sub_iff {s T : Nat} (hs : s < 256) (hT : T < 256) : (nI s &&& (nI T ^^^ (-1)) : Int32) = 0 ↔ ∀ j, s.testBit j = true → T.testBit j = true := by
  have e1 : (-1 : Int32) = nI (2 ^ 32 - 1) := by decide +kernel
  have e2 : nI T ^^^ nI (2 ^ 32 - 1) = nI (T ^^^ (2 ^ 32 - 1)) := by
    apply Int32.toBitVec_inj.1
    show BitVec.ofNat 32 T ^^^ BitVec.ofNat 32 (2 ^ 32 - 1) = BitVec.ofNat 32 (T ^^^ (2 ^ 32 - 1))
    rw [BitVec.ofNat_xor]
  have e3 : nI s &&& nI (T ^^^ (2 ^ 32 - 1)) = nI (s &&& (T ^^^ (2 ^ 32 - 1))) := by
    apply Int32.toBitVec_inj.1
    show BitVec.ofNat 32 s &&& BitVec.ofNat 32 (T ^^^ (2 ^ 32 - 1)) = BitVec.ofNat 32 (s &&& (T ^^^ (2 ^ 32 - 1)))
    rw [BitVec.ofNat_and]
  have hle : s &&& (T ^^^ (2 ^ 32 - 1)) ≤ s := Nat.and_le_left
  have hM : ∀ j, (2 ^ 32 - 1 : Nat).testBit j = decide (j < 32) := fun j => Nat.testBit_two_pow_sub_one 32 j
  have h32 : ∀ j, s.testBit j = true → j < 32 := by
    intro j hj
    rcases Nat.lt_or_ge j 32 with c | c
    · exact c
    · have : s.testBit j = false := Nat.testBit_lt_two_pow (Nat.lt_of_lt_of_le hs (Nat.le_trans (by decide : 256 ≤ 2 ^ 32) (Nat.pow_le_pow_right (by decide) c)))
      rw [this] at hj
      exact absurd hj (by decide)
  have e0 : (0 : Int32) = nI 0 := rfl
  rw [e1, e2, e3, e0, nI_eq (by omega) (by decide)]
  constructor
  · intro h j hj
    have h2 := congrArg (fun x => x.testBit j) h
    have h2 : (s &&& (T ^^^ (2 ^ 32 - 1))).testBit j = (0 : Nat).testBit j := h2
    rw [Nat.testBit_and, Nat.testBit_xor, hM, Nat.zero_testBit, hj, decide_eq_true (h32 j hj)] at h2
    cases hb : T.testBit j with
    | true => rfl
    | false => rw [hb] at h2; exact absurd h2 (by decide)
  · intro h
    apply Nat.eq_of_testBit_eq
    intro j
    rw [Nat.testBit_and, Nat.testBit_xor, hM, Nat.zero_testBit]
    cases hb : s.testBit j with
    | false => rfl
    | true => rw [h j hb, decide_eq_true (h32 j hb)]; rfl
/-- whom the sum is about -/
def FQ (p : Int32) (f : aE → Nat) : Prop := (p = -4 ∧ f = fun B => pcN (aG B)) ∨ ∃ q, q < 5 ∧ p = nI q ∧ f = gnF q
theorem FQ.le {p : Int32} {f : aE → Nat} (h : FQ p f) (B : aE) : f B ≤ 31 := by
  rcases h with ⟨-, e⟩ | ⟨q, -, -, e⟩
  · subst e; exact pcN_le _
  · subst e
    show (if (aG B).testBit q then 1 else 0) ≤ 31
    split <;> omega
theorem z_bfX_123 {S0 : tq_St} {rec99 : Int32 → Int32 → Int32 → Int32 → Int64 → Int64 → Int32 → tq_St → Prop} {v T s u : Nat} {f0 : aE → Nat} {p y : Int32} {v7 : Int64} (hG0 : RZ S0 G) (hw : wfQ G) (hv : v ≤ 10) (hs : s < 256) (hT : T < 256) (hp : FQ p f0) (hrec : ∀ S', FZ S0 S' → rec99 (nI v) p y (nI T) (lN (u + oLF v T s 8 0 1 * f0 (planM (qA G) s).1)) v7 (nI (s + 1)) S') : ∀ (m i f o : Nat) (S : tq_St), i + m = 8 → m < f → oLF v T s m i o = oLF v T s 8 0 1 → FZ S0 S → wp_X7_byFails_123 KL rec99 f (nI v) p y (nI T) (lN u) v7 (nI s) (lN o) (nI i) S
  | 0, i, f + 1, o, S, h1, h2, ho, hF => by
    have hi : i = 8 := by omega
    subst hi
    have ho : o = oLF v T s 8 0 1 := ho
    have hG := hG0.fz hw hF
    unfold wp_X7_byFails_123
    refine pk_le 8 8 (fun _ => ?_) (fun z => absurd z (by omega))
    refine m_planGoes (g := 0) (but := s) hG.1 hw.1 (by omega) (by omega) (fun S1 a1 a2 a3 => ?_)
    have hF1 := hF.tr a3.fz
    have hwp := (goM_ok (ac := aA (qA G)) (but := s) (aC (qA G)) 0 (qA G) (0, 0, none) hw.1).1
    have hgl := hwp.gl
    have h211 : ∀ c : Nat, c ≤ 31 → c = f0 (planM (qA G) s).1 → wp_X7_byFails_211 KL rec99 (nI v) p y (nI T) v7 (nI s) (lN u) (lN o) (nI c) S1 := by
      intro c hc ec
      unfold wp_X7_byFails_211
      refine nm_r (e' := lN (u + o * c)) (by rw [nI_l (by omega), lN_mul, lN_add]) (nm_r (nI_1 s) ?_)
      have := hrec S1 hF1
      rw [← ho, ← ec] at this
      exact this
    have q127 : S1.2.1 28 0 (127 : Int32).toNatClampNeg = nI (aG (planM (qA G) s).1) := a1.2.2.2.2.1
    rcases hp with ⟨e, ef⟩ | ⟨q, hq, e, ef⟩
    · subst e
      subst ef
      exact ⟨fun z => absurd rfl z, fun _ => z_goneThen a1 hwp (h211 _ (pcN_le _) rfl)⟩
    · subst e
      subst ef
      rw [q127, zb_val (Nat.lt_of_lt_of_le hgl (by decide)) (by omega)]
      exact ⟨fun _ => ⟨vp_in_nI (n := 127) (by decide) (by decide), h211 _ (by split <;> omega) rfl⟩, fun z => absurd z (oI_ne (by omega))⟩
  | m + 1, i, f + 1, o, S, h1, h2, ho, hF => by
    unfold wp_X7_byFails_123
    unfold oLF at ho
    have h167 : ∀ (c : Nat) (w1 : Int64), w1 = lN c → c = (if T.testBit i then (if s.testBit i then v else 10 - v) else 1) → wp_X7_byFails_167 KL (wp_X7_byFails_123 KL rec99 f) rec99 (nI v) p y (nI T) (lN u) v7 (nI s) (nI i) (lN o) w1 S := by
      intro c w1 e ec
      subst e
      unfold wp_X7_byFails_167
      refine nm_r (lN_mul o c) (nm_r (nI_1 i) ?_)
      rw [← ec] at ho
      exact z_bfX_123 hG0 hw hv hs hT hp hrec m (i + 1) f (o * c) S (by omega) (by omega) ho hF
    rw [zb_0 (g := T) (by omega) (by omega), zb_1 (g := s) (by omega) (by omega)]
    refine pk_le 8 i (fun z => absurd z (by omega)) (fun _ => ⟨fun zT => ⟨fun zs => h167 (10 - v) _ ?_ ?_, fun zs => h167 v _ (nI_l (by omega)) ?_⟩, fun zT => h167 1 _ rfl ?_⟩)
    · have e10 : (10 : Int32) - nI v = nI (10 - v) := pk_sub (a := 10) (b := v) hv
      rw [e10, nI_l (by omega)]
    · have zT : T.testBit i = true := by simpa using zT
      rw [if_pos zT, if_neg zs]
    · have zT : T.testBit i = true := by simpa using zT
      rw [if_pos zT, if_pos zs]
    · rw [if_neg (by rw [zT]; decide)]
theorem z_bfX_99 {S0 : tq_St} {v T d : Nat} {f0 : aE → Nat} {p y : Int32} (hG0 : RZ S0 G) (hw : wfQ G) (hv : v ≤ 10) (hT : T < 256) (hTb : ∀ j, T.testBit j = decide (j < aC (qA G) ∧ aA (qA G) j < 5)) (hd : 0 < d ∧ d ≤ 100000000) (hp : FQ p f0) (hu : wtF v f0 8 0 (qA G) < 2 ^ 63) (hK : ∀ S', FZ S0 S' → KL (loF (wtF v f0 8 0 (qA G)) d y) S') : ∀ (m s f : Nat) (S : tq_St), s + m = 256 → m < f → FZ S0 S → wp_X7_byFails_99 KL f (nI v) p y (nI T) (lN (smF (fun s => cwF v T f0 8 0 (qA G) s) s)) (lN d) (nI s) S
  | 0, s, f + 1, S, h1, h2, hF => by
    unfold wp_X7_byFails_99
    have hs : s = 256 := by omega
    subst hs
    have e := cw_sum (v := v) (T := T) (f := f0) 8 0 (qA G) hTb
    rw [show (2 : Nat) ^ 8 = 256 from rfl] at e
    rw [e]
    exact pk_le 256 256 (fun _ => z_lowX hu (by omega) hd.1 (hK S hF)) (fun z => absurd z (by omega))
  | m + 1, s, f + 1, S, h1, h2, hF => by
    unfold wp_X7_byFails_99
    have hc := hw.1.2.2.2.2.2.2.2.2.1
    have esm : smF (fun s => cwF v T f0 8 0 (qA G) s) (s + 1) = smF (fun s => cwF v T f0 8 0 (qA G) s) s + cwF v T f0 8 0 (qA G) s := rfl
    rw [sub_iff (by omega) hT]
    refine pk_le 256 s (fun z => absurd z (by omega)) (fun _ => ⟨fun z => nm_r (nI_1 s) ?_, fun z => ?_⟩)
    · have ih := z_bfX_99 hG0 hw hv hT hTb hd hp hu hK m (s + 1) f S (by omega) (by omega) hF
      have h0 : cwF v T f0 8 0 (qA G) s = 0 := by
        obtain ⟨j, hj⟩ := Classical.not_forall.mp z
        have hj1 : s.testBit j = true := by
          cases hb : s.testBit j with
          | true => rfl
          | false => exact absurd (fun c => by rw [hb] at c; exact absurd c (by decide)) hj
        have hj2 : T.testBit j = false := by
          cases hb : T.testBit j with
          | false => rfl
          | true => exact absurd (fun _ => hb) hj
        have hj8 : j < 8 := by
          rcases Nat.lt_or_ge j 8 with c | c
          · exact c
          · have : s.testBit j = false := Nat.testBit_lt_two_pow (Nat.lt_of_lt_of_le (show s < 2 ^ 8 by omega) (Nat.pow_le_pow_right (by decide) c))
            rw [this] at hj1
            exact absurd hj1 (by decide)
        have := cw_0 (v := v) (f := f0) hj1 hj2 8 0 (qA G) (Nat.zero_le _) (by omega)
        rw [Nat.pow_zero, Nat.div_one] at this
        exact this
      rw [esm, h0, Nat.add_zero] at ih
      exact ih
    · refine z_bfX_123 hG0 hw hv (by omega) hT hp (fun S' hF' => ?_) 8 0 2000 1 S (by omega) (by omega) rfl hF
      have ih := z_bfX_99 hG0 hw hv hT hTb hd hp hu hK m (s + 1) f S' (by omega) (by omega) hF'
      have ho := cw_o (v := v) (f := f0) z 8 0 (qA G) (0, 0, none) 1 (by omega) hTb
      rw [Nat.pow_zero, Nat.div_one, Nat.one_mul, Nat.sub_zero] at ho
      rw [esm, ho] at ih
      exact ih
theorem z_bfX_60 {v T : Nat} {f0 : aE → Nat} {p y : Int32} (hG : RZ S G) (hw : wfQ G) (hv : v ≤ 10) (hT : T < 256) (hTb : ∀ j, T.testBit j = decide (j < aC (qA G) ∧ aA (qA G) j < 5)) (hp : FQ p f0) (hu : wtF v f0 8 0 (qA G) < 2 ^ 63) (hK : ∀ S', FZ S S' → KL (loF (wtF v f0 8 0 (qA G)) (tnF (qA G) 8 0) y) S') : ∀ (m i f d : Nat), i + m = 8 → m < f → d * tnF (qA G) m i = tnF (qA G) 8 0 → wp_X7_byFails_60 KL f (nI v) p y (nI T) (lN 0) (lN d) (nI i) S
  | 0, i, f + 1, d, h1, h2, e => by
    have hi : i = 8 := by omega
    subst hi
    have e : d = tnF (qA G) 8 0 := by
      rw [← e]
      show d = d * 1
      omega
    have hb := tnF_bd (qA G) 8 0
    have e8 : (10 : Nat) ^ 8 = 100000000 := by decide
    unfold wp_X7_byFails_60
    rw [e]
    exact pk_le 8 8 (fun _ => z_bfX_99 hG hw hv hT hTb ⟨hb.1, by omega⟩ hp hu hK 256 0 2000 S (by omega) (by omega) FZ.rf) (fun z => absurd z (by omega))
  | m + 1, i, f + 1, d, h1, h2, e => by
    unfold tnF at e
    unfold wp_X7_byFails_60
    have h87 : ∀ (c : Nat) (w1 : Int64), w1 = lN c → c = (if i < aC (qA G) ∧ aA (qA G) i < 5 then 10 else 1) → wp_X7_byFails_87 KL (wp_X7_byFails_60 KL f) (nI v) p y (nI T) (lN 0) (nI i) (lN d) w1 S := by
      intro c w1 ew ec
      subst ew
      unfold wp_X7_byFails_87
      refine nm_r (lN_mul d c) (nm_r (nI_1 i) (z_bfX_60 hG hw hv hT hTb hp hu hK m (i + 1) f _ (by omega) (by omega) ?_))
      rw [← ec] at e
      rw [Nat.mul_assoc]
      exact e
    rw [zb_1 (g := T) (by omega) (by omega), hTb i]
    refine pk_le 8 i (fun z => absurd z (by omega)) (fun _ => ⟨fun z => h87 1 _ rfl ?_, fun z => h87 10 _ rfl ?_⟩)
    · rw [if_neg (fun c => z (decide_eq_true c))]
    · rw [if_pos (of_decide_eq_true z)]
theorem z_bfX_6 {v : Nat} {f0 : aE → Nat} {p y : Int32} (hG : RZ S G) (hw : wfQ G) (hv : v ≤ 10) (hp : FQ p f0) (hu : wtF v f0 8 0 (qA G) < 2 ^ 63) (hK : ∀ S', FZ S S' → KL (loF (wtF v f0 8 0 (qA G)) (tnF (qA G) 8 0) y) S') : ∀ (m i f : Nat), i + m = aC (qA G) → m < f → wp_X7_byFails_6 KL f (nI v) p y (nI (tmF (qA G) i)) (nI i) S
  | 0, i, f + 1, h1, h2 => by
    have hc := hw.1.2.2.2.2.2.2.2.2.1
    have q27 : S.2.1 28 0 (27 : Int32).toNatClampNeg = nI (aC (qA G)) := by have := hG.1.2.2.2.2.2.2.2.2.1; rwa [Nat.zero_add] at this
    have hi : i = aC (qA G) := by omega
    subst hi
    have hlt := tmF_lt (qA G) (aC (qA G))
    have h256 : tmF (qA G) (aC (qA G)) < 256 := Nat.lt_of_lt_of_le hlt (Nat.le_trans (Nat.pow_le_pow_right (by decide) hc) (by decide))
    unfold wp_X7_byFails_6
    rw [q27]
    exact ⟨vp_in_nI (n := 27) (by decide) (by decide), pk_le (aC (qA G)) (aC (qA G)) (fun _ => z_bfX_60 hG hw hv h256 (tmF_bit (qA G) (aC (qA G))) hp hu hK 8 0 2000 1 (by omega) (by omega) (Nat.one_mul _)) (fun z => absurd z (by omega))⟩
  | m + 1, i, f + 1, h1, h2 => by
    have hc := hw.1.2.2.2.2.2.2.2.2.1
    have q27 : S.2.1 28 0 (27 : Int32).toNatClampNeg = nI (aC (qA G)) := by have := hG.1.2.2.2.2.2.2.2.2.1; rwa [Nat.zero_add] at this
    have qa : S.2.1 28 0 (19 + i) = nI (aA (qA G) i) := by have := hG.1.2.2.2.2.2.2.2.2.2.1 i (by omega); rwa [Nat.zero_add] at this
    have ha := hw.1.2.2.2.2.2.2.2.2.2 i (by omega)
    have hn := hw.1.1
    have ha31 : aA (qA G) i < 2 ^ 31 := by unfold okA at ha; omega
    unfold wp_X7_byFails_6
    rw [q27]
    have i19 : (19 : Int32) + nI i = nI (19 + i) := nI_add 19 i
    rw [i19, nI_clamp (n := 19 + i) (by omega), qa]
    have ih := z_bfX_6 hG hw hv hp hu hK m (i + 1) f (by omega) (by omega)
    unfold tmF at ih
    refine ⟨vp_in_nI (n := 27) (by decide) (by decide), pk_le (aC (qA G)) i (fun z => absurd z (by omega)) (fun _ => ⟨vp_in_nI (by omega) (by decide), pk_le 5 (aA (qA G) i) (fun z => ?_) (fun z => ?_)⟩)⟩
    · rw [if_neg (by omega)] at ih
      exact nm_r (i_or0 _) (nm_r (nI_1 i) ih)
    · rw [if_pos (by omega)] at ih
      exact nm_r (zb_or (by omega)) (nm_r (nI_1 i) ih)
theorem wt_63 {v : Nat} {p : Int32} {f0 : aE → Nat} (hv : v ≤ 10) (hp : FQ p f0) (A : aE) : wtF v f0 8 0 A < 2 ^ 63 := by
  have h1 := wtF_le (c := 31) hv hp.le 8 0 A
  have h2 := (tnF_bd A 8 0).2
  have e8 : (10 : Nat) ^ 8 = 100000000 := by decide
  omega
theorem z_byFailsX {v : Nat} {f0 : aE → Nat} {p y : Int32} (hG : RZ S G) (hw : wfQ G) (hv : v ≤ 10) (hp : FQ p f0) (hK : ∀ S', FZ S S' → KL (loF (wtF v f0 8 0 (qA G)) (tnF (qA G) 8 0) y) S') : wp_X7_byFails (nI v) p y S KL :=
  z_bfX_6 hG hw hv hp (wt_63 hv hp _) hK (aC (qA G)) 0 2000 (by omega) (by have := hw.1.2.2.2.2.2.2.2.2.1; omega)
theorem z_luckX {x y w : Int32} (hG : RZ S G) (hw : wfQ G) (hbad : (∀ v, v ≤ 10 → x ≠ nI v) ∨ (∀ p, p < aN (qA G) → y ≠ nI p) ∨ (∀ k, k ≤ 1 → w ≠ nI k) → KL (-1) S) (hok : ∀ v p k, v ≤ 10 → x = nI v → p < aN (qA G) → y = nI p → k ≤ 1 → w = nI k → ∀ S', RZ S' G → Fr 28 S S' → KL (loF (wtF v (gnF p) 8 0 (qA G)) (tnF (qA G) 8 0) w) S') : wp_X7_luck x y w S KL := by
  have hn := hw.1.1
  unfold wp_X7_luck
  refine m_in 0 10 (by decide) (by decide) (by decide) (fun v _ hv e => ⟨fun z => absurd z (by decide), fun _ => ?_⟩) (fun h => ⟨fun _ => hbad (Or.inl (fun k hk => h k (Nat.zero_le _) hk)), fun z => absurd rfl z⟩)
  subst e
  refine m_isOne hG.1.1 hn (fun p hp e => ⟨fun z => absurd z (by decide), fun _ => ?_⟩) (fun hno => ⟨fun _ => hbad (Or.inr (Or.inl hno)), fun z => absurd rfl z⟩)
  refine m_in 0 1 (by decide) (by decide) (by decide) (fun k _ hk e2 => ⟨fun z => absurd z (by decide), fun _ => ?_⟩) (fun h => ⟨fun _ => hbad (Or.inr (Or.inr (fun k hk => h k (Nat.zero_le _) hk))), fun z => absurd rfl z⟩)
  exact z_byFailsX hG hw hv (Or.inr ⟨p, by omega, e, rfl⟩) (fun S' f => hok v p k hv rfl hp e hk e2 S' (hG.fz hw f) f.1)
theorem z_meanX {x y : Int32} (hG : RZ S G) (hw : wfQ G) (hbad : (∀ v, v ≤ 10 → x ≠ nI v) ∨ (∀ k, k ≤ 1 → y ≠ nI k) → KL (-1) S) (hok : ∀ v k, v ≤ 10 → x = nI v → k ≤ 1 → y = nI k → ∀ S', RZ S' G → Fr 28 S S' → KL (loF (wtF v (fun B => pcN (aG B)) 8 0 (qA G)) (tnF (qA G) 8 0) y) S') : wp_X7_mean x y S KL := by
  unfold wp_X7_mean
  refine m_in 0 10 (by decide) (by decide) (by decide) (fun v _ hv e => ⟨fun z => absurd z (by decide), fun _ => ?_⟩) (fun h => ⟨fun _ => hbad (Or.inl (fun k hk => h k (Nat.zero_le _) hk)), fun z => absurd rfl z⟩)
  subst e
  refine m_in 0 1 (by decide) (by decide) (by decide) (fun k _ hk e2 => ⟨fun z => absurd z (by decide), fun _ => ?_⟩) (fun h => ⟨fun _ => hbad (Or.inr (fun k hk => h k (Nat.zero_le _) hk)), fun z => absurd rfl z⟩)
  exact z_byFailsX hG hw hv (Or.inl ⟨rfl, rfl⟩) (fun S' f => hok v k hv rfl hk e2 S' (hG.fz hw f) f.1)
-- the class's answers
theorem q_odds {x : Int32} (h1 : ¬ x < 0) (h2 : ¬ (10 : Int32) < x) : ∃ v, v ≤ 10 ∧ x = nI v := nI_of2 (n := 10) (by decide) h1 (fa_of_nlt h2)
theorem q_odds_no {x : Int32} (h : x < 0 ∨ (10 : Int32) < x) : ∀ v, v ≤ 10 → x ≠ nI v := by
  intro v hv e
  subst e
  rcases h with h | h
  · exact nI_pos (by omega) h
  · exact absurd ((nI_ltI (a := 10) (b := v) (by decide) (by omega)).mp h) (by omega)
theorem c_weightOfX {q : Nat} (hq : q < 5) (hK : KL (S.2.2.2 q) S) : wp_X0_weightOf (nI q) S KL := by
  unfold wp_X0_weightOf
  refine ⟨fun z => absurd z (nI_pos (by omega)), fun _ => pk_le 5 q (fun z => absurd z (by omega)) (fun _ => ⟨vp_in_nI (by omega) (by decide), ?_⟩)⟩
  rw [nI_clamp (by omega)]
  exact hK
theorem q_luckX {x y w : Int32} (hG : RQ S G) (hw : wfQ G) (hbad : (∀ v, v ≤ 10 → x ≠ nI v) ∨ (∀ p, p < aN (qA G) → y ≠ nI p) ∨ (∀ k, k ≤ 1 → w ≠ nI k) → KL (-1) S) (hok : ∀ v p k, v ≤ 10 → x = nI v → p < aN (qA G) → y = nI p → k ≤ 1 → w = nI k → ∀ S', RQ S' G → FC S S' → KL (loF (wtF v (gnF p) 8 0 (qA G)) (tnF (qA G) 8 0) w) S') : wp_X6_luck x y w S KL := by
  have hn := hw.1.1
  unfold wp_X6_luck
  refine ⟨fun z => hbad (Or.inl (q_odds_no (Or.inl z))), fun z1 => ⟨fun z => hbad (Or.inl (q_odds_no (Or.inr z))), fun z2 => ?_⟩⟩
  obtain ⟨v, hv, e0⟩ := q_odds z1 z2
  refine c_isThere hG.1.1 hw.1.1 (fun p hp e => ⟨fun z => absurd z (by decide), fun _ => ?_⟩) (fun hno => ⟨fun _ => hbad (Or.inr (Or.inl hno)), fun z => absurd rfl z⟩)
  refine q_01 (fun k hk e2 => ⟨fun _ => ?_, fun z => absurd z (by decide)⟩) (fun hno => ⟨fun z => absurd rfl z, fun _ => hbad (Or.inr (Or.inr hno))⟩)
  have hfin := hok v p k hv e0 hp e hk e2
  rw [e0, e]
  refine q_weighX hv hG hw (fun S' f e1 e3 => ?_)
  have hb := tnF_bd (qA G) 8 0
  have e8 : (10 : Nat) ^ 8 = 100000000 := by decide
  refine c_weightOfX (by omega) ?_
  rw [e3 p (by omega), e1]
  exact c_partX (wt_63 (p := nI p) hv (Or.inr ⟨p, by omega, rfl, rfl⟩) _) (by omega) hb.1 (hfin S' (hG.fx f) f.fc)
theorem wtF_congW {v N : Nat} {f g : aE → Nat} (h : ∀ B, wfE B → aN B = N → f B = g B) : ∀ (e i : Nat) (A : aE), wfE A → aN A = N → wtF v f e i A = wtF v g e i A
  | 0, i, A, hw, hN => h A hw hN
  | e + 1, i, A, hw, hN => by
    have h1 := wtF_congW (v := v) h e (i + 1) A hw hN
    have h2 := wtF_congW (v := v) h e (i + 1) (playF A (aA A i)) (playF_wf hw _) ((playF_same A _).1.trans hN)
    unfold wtF
    rw [h1, h2]
theorem q_meanX_38 {v : Nat} {y : Int32} (hv : v ≤ 10) (hw : wfQ G) (h5 : S.1 0 5 = nI (aN (qA G))) (e1 : S.2.2.1 = lN (tnF (qA G) 8 0)) (e3 : ∀ q, q < 5 → S.2.2.2 q = lN (wtF v (gnF q) 8 0 (qA G))) (hK : KL (loF (wtF v (fun B => pcN (aG B)) 8 0 (qA G)) (tnF (qA G) 8 0) y) S) : ∀ (m p f : Nat), p + m = aN (qA G) → m < f → wp_X6_mean_38 KL f y (lN (wtF v (fun B => fb_ct (fun q => (aG B).testBit q) p) 8 0 (qA G))) (nI p) S
  | 0, p, f + 1, h1, h2 => by
    have hn := hw.1.1
    have hb := tnF_bd (qA G) 8 0
    have e8 : (10 : Nat) ^ 8 = 100000000 := by decide
    have e : p = aN (qA G) := by omega
    subst e
    have ep : wtF v (fun B => fb_ct (fun q => (aG B).testBit q) (aN (qA G))) 8 0 (qA G) = wtF v (fun B => pcN (aG B)) 8 0 (qA G) := by
      refine wtF_congW (N := aN (qA G)) (fun B hB hN => ?_) 8 0 (qA G) hw.1 rfl
      have hg := hB.2.2.2.2.1
      rw [hN] at hg
      exact (pcN_split hB.g31 (by omega) (Nat.div_eq_of_lt hg)).symm
    unfold wp_X6_mean_38
    rw [h5, e1, ep]
    exact pk_le (aN (qA G)) (aN (qA G)) (fun _ => c_partX (wt_63 (p := -4) hv (Or.inl ⟨rfl, rfl⟩) _) (by omega) hb.1 hK) (fun z => absurd z (by omega))
  | m + 1, p, f + 1, h1, h2 => by
    have hn := hw.1.1
    unfold wp_X6_mean_38
    rw [h5]
    refine pk_le (aN (qA G)) p (fun z => absurd z (by omega)) (fun _ => ?_)
    refine c_weightOfX (by omega) ?_
    rw [e3 p (by omega)]
    refine nm_r (e' := lN (wtF v (fun B => fb_ct (fun q => (aG B).testBit q) (p + 1)) 8 0 (qA G))) ?_ (nm_r (nI_1 p) (q_meanX_38 hv hw h5 e1 e3 hK m (p + 1) f (by omega) (by omega)))
    rw [lN_add, ← wtF_add]
    rfl
theorem q_meanX {x y : Int32} (hG : RQ S G) (hw : wfQ G) (hbad : (∀ v, v ≤ 10 → x ≠ nI v) ∨ (∀ k, k ≤ 1 → y ≠ nI k) → KL (-1) S) (hok : ∀ v k, v ≤ 10 → x = nI v → k ≤ 1 → y = nI k → ∀ S', RQ S' G → FC S S' → KL (loF (wtF v (fun B => pcN (aG B)) 8 0 (qA G)) (tnF (qA G) 8 0) y) S') : wp_X6_mean x y S KL := by
  unfold wp_X6_mean
  refine ⟨fun z => hbad (Or.inl (q_odds_no (Or.inl z))), fun z1 => ⟨fun z => hbad (Or.inl (q_odds_no (Or.inr z))), fun z2 => ?_⟩⟩
  obtain ⟨v, hv, e0⟩ := q_odds z1 z2
  refine q_01 (fun k hk e2 => ⟨fun _ => ?_, fun z => absurd z (by decide)⟩) (fun hno => ⟨fun z => absurd rfl z, fun _ => hbad (Or.inr hno)⟩)
  have hfin := hok v k hv e0 hk e2
  rw [e0]
  refine q_weighX hv hG hw (fun S' f e1 e3 => ?_)
  have hG' := hG.fx f
  have h0 : (0 : Int64) = lN (wtF v (fun B => fb_ct (fun q => (aG B).testBit q) 0) 8 0 (qA G)) := by
    have : wtF v (fun B => fb_ct (fun q => (aG B).testBit q) 0) 8 0 (qA G) = 0 := wtF_zero 8 0 (qA G)
    rw [this]
    rfl
  rw [h0]
  exact q_meanX_38 hv hw hG'.1.1 e1 e3 (hfin S' hG' f.fc) (aN (qA G)) 0 2000 (by omega) (by have := hw.1.1; omega)
end MEA
