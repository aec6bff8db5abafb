section ASK
variable {S S0 : tq_St} {G : aQ} {K : Int32 → tq_St → Prop}
-- HOW MANY BITS, of 21
theorem bk_and {a m x M : Nat} (ha : a < 256) (hm : m < 256) : (a + 256 * x) &&& (m + 256 * M) = (a &&& m) + 256 * (x &&& M) := by
  have e1 : ((a + 256 * x) &&& (m + 256 * M)) % 2 ^ 8 = a &&& m := by
    rw [Nat.and_mod_two_pow, show (a + 256 * x) % 2 ^ 8 = a by omega, show (m + 256 * M) % 2 ^ 8 = m by omega]
  have e2 : ((a + 256 * x) &&& (m + 256 * M)) / 2 ^ 8 = x &&& M := by
    rw [Nat.and_div_two_pow, show (a + 256 * x) / 2 ^ 8 = x by omega, show (m + 256 * M) / 2 ^ 8 = M by omega]
  have h := Nat.mod_add_div ((a + 256 * x) &&& (m + 256 * M)) (2 ^ 8)
  rw [e1, e2] at h
  omega
theorem bk_and3 {a b c m : Nat} (ha : a < 256) (hb : b < 256) (hc : c < 256) (hm : m < 256) : (a + 256 * (b + 256 * c)) &&& (m + 256 * (m + 256 * m)) = (a &&& m) + 256 * ((b &&& m) + 256 * (c &&& m)) := by
  rw [bk_and ha hm, bk_and hb hm]
theorem bk_andC {a b c m M : Nat} (ha : a < 256) (hb : b < 256) (hc : c < 256) (hm : m < 256) : (a + 256 * (b + 256 * c)) &&& (m + 256 * (m + 256 * (m + 256 * M))) = (a &&& m) + 256 * ((b &&& m) + 256 * (c &&& m)) := by
  have h0 : c &&& (m + 256 * M) = c &&& m := by
    have := bk_and (a := c) (m := m) (x := 0) (M := M) hc hm
    rw [Nat.mul_zero, Nat.add_zero, Nat.zero_and, Nat.mul_zero, Nat.add_zero] at this
    exact this
  rw [bk_and ha hm, bk_and hb hm, h0]
def bkC (b : Nat) : Nat := b - (b / 2 &&& 85)
def bkD (c : Nat) : Nat := (c &&& 51) + (c / 4 &&& 51)
def bkE (d : Nat) : Nat := (d + d / 16) &&& 15
theorem bk_1 : ∀ b, b < 256 → ∀ t, t < 2 → (b / 2 + t * 128) &&& 85 = b / 2 &&& 85 := by decide +kernel
theorem bk_2 : ∀ b, b < 256 → ∀ t, t < 4 → (b / 4 + t * 64) &&& 51 = b / 4 &&& 51 := by decide +kernel
theorem bk_c : ∀ b, b < 256 → bkC b < 256 ∧ b / 2 &&& 85 ≤ b ∧ bkD (bkC b) % 16 ≤ 4 ∧ bkD (bkC b) ≤ 68 ∧ bkE (bkD (bkC b)) = fb_ct (fun i => b.testBit i) 8 := by decide +kernel
theorem bk_3 : ∀ d, d ≤ 72 → ∀ t, t < 5 → (d + t * 16) &&& 15 = d &&& 15 := by decide +kernel
/-- the sum of the bits, as the machine's own member finds it -/
theorem bk_all {w : Nat} (hw : w < 2 ^ 21) (s1 s2 s3 s4 s5 : Nat) (h1 : s1 = w - (w / 2 &&& 1431655765)) (h2 : s2 = (s1 &&& 858993459) + (s1 / 4 &&& 858993459)) (h3 : s3 = (s2 + s2 / 16) &&& 252645135) (h4 : s4 = s3 + s3 / 256) (h5 : s5 = s4 + s4 / 65536) : s1 ≤ w ∧ w / 2 &&& 1431655765 ≤ w ∧ s2 < 2 ^ 24 ∧ s3 < 2 ^ 24 ∧ s4 < 2 ^ 25 ∧ s5 < 2 ^ 26 ∧ s5 % 64 = pcN w := by
  obtain ⟨b0, b1, b2, hb0, hb1, hb2, ew⟩ : ∃ b0 b1 b2, b0 < 256 ∧ b1 < 256 ∧ b2 < 32 ∧ w = b0 + 256 * (b1 + 256 * b2) := ⟨w % 256, w / 256 % 256, w / 65536, by omega, by omega, by omega, by omega⟩
  obtain ⟨c0l, c0s, d0m, d0l, e0⟩ := bk_c b0 hb0
  obtain ⟨c1l, c1s, d1m, d1l, e1⟩ := bk_c b1 hb1
  obtain ⟨c2l, c2s, d2m, d2l, e2⟩ := bk_c b2 (by omega)
  have a1 : w / 2 &&& 1431655765 = (b0 / 2 &&& 85) + 256 * ((b1 / 2 &&& 85) + 256 * (b2 / 2 &&& 85)) := by
    have ew2 : w / 2 = (b0 / 2 + b1 % 2 * 128) + 256 * ((b1 / 2 + b2 % 2 * 128) + 256 * (b2 / 2)) := by omega
    have h := bk_andC (a := b0 / 2 + b1 % 2 * 128) (b := b1 / 2 + b2 % 2 * 128) (c := b2 / 2) (m := 85) (M := 85) (by omega) (by omega) (by omega) (by omega)
    rw [bk_1 b0 hb0 _ (by omega), bk_1 b1 hb1 _ (by omega)] at h
    rw [ew2]
    exact h
  have es1 : s1 = bkC b0 + 256 * (bkC b1 + 256 * bkC b2) := by
    rw [h1, a1, ew]
    unfold bkC
    omega
  have es2 : s2 = bkD (bkC b0) + 256 * (bkD (bkC b1) + 256 * bkD (bkC b2)) := by
    have q1 : s1 / 4 = (bkC b0 / 4 + bkC b1 % 4 * 64) + 256 * ((bkC b1 / 4 + bkC b2 % 4 * 64) + 256 * (bkC b2 / 4)) := by omega
    have h := bk_andC (a := bkC b0 / 4 + bkC b1 % 4 * 64) (b := bkC b1 / 4 + bkC b2 % 4 * 64) (c := bkC b2 / 4) (m := 51) (M := 51) (by omega) (by omega) (by omega) (by omega)
    rw [bk_2 (bkC b0) c0l _ (by omega), bk_2 (bkC b1) c1l _ (by omega)] at h
    have h' := bk_andC (a := bkC b0) (b := bkC b1) (c := bkC b2) (m := 51) (M := 51) c0l c1l c2l (by omega)
    have g1 : s1 / 4 &&& 858993459 = (bkC b0 / 4 &&& 51) + 256 * ((bkC b1 / 4 &&& 51) + 256 * (bkC b2 / 4 &&& 51)) := by rw [q1]; exact h
    have g2 : s1 &&& 858993459 = (bkC b0 &&& 51) + 256 * ((bkC b1 &&& 51) + 256 * (bkC b2 &&& 51)) := by rw [es1]; exact h'
    rw [h2, g1, g2]
    unfold bkD
    omega
  generalize bkD (bkC b0) = d0 at d0m d0l e0 es2
  generalize bkD (bkC b1) = d1 at d1m d1l e1 es2
  generalize bkD (bkC b2) = d2 at d2m d2l e2 es2
  have es3 : s3 = bkE d0 + 256 * (bkE d1 + 256 * bkE d2) := by
    have q1 : s2 + s2 / 16 = (d0 + d0 / 16 + d1 % 16 * 16) + 256 * ((d1 + d1 / 16 + d2 % 16 * 16) + 256 * (d2 + d2 / 16)) := by omega
    have h := bk_andC (a := d0 + d0 / 16 + d1 % 16 * 16) (b := d1 + d1 / 16 + d2 % 16 * 16) (c := d2 + d2 / 16) (m := 15) (M := 15) (by omega) (by omega) (by omega) (by omega)
    rw [bk_3 (d0 + d0 / 16) (by omega) _ (by omega), bk_3 (d1 + d1 / 16) (by omega) _ (by omega)] at h
    rw [h3, q1]
    exact h
  have f0 := fb_ct_le (fun i => b0.testBit i) 8
  have f1 := fb_ct_le (fun i => b1.testBit i) 8
  have f2 := fb_ct_le (fun i => b2.testBit i) 8
  rw [e0, e1, e2] at es3
  have hp : pcN w = fb_ct (fun i => b0.testBit i) 8 + (fb_ct (fun i => b1.testBit i) 8 + fb_ct (fun i => b2.testBit i) 8) := by
    rw [pcN_split (i := 24) (by omega) (by omega) (by omega)]
    rw [fb_ct_split (fun i => w.testBit i) 8 16, fb_ct_split (fun k => w.testBit (8 + k)) 8 8]
    have t1 : w / 2 ^ 8 = b1 + 256 * b2 := by omega
    have t2 : w / 2 ^ 16 = b2 := by omega
    have hlo : ∀ (b x k : Nat), b < 256 → k < 8 → (b + 256 * x).testBit k = b.testBit k := by
      intro b x k hb hk
      have h := Nat.testBit_mod_two_pow (b + 256 * x) 8 k
      rw [show (b + 256 * x) % 2 ^ 8 = b by omega, decide_eq_true hk, Bool.true_and] at h
      exact h.symm
    congr 1
    · exact fb_ct_cong (fun k hk => by rw [ew]; exact hlo b0 _ k hb0 hk)
    · congr 1
      · refine fb_ct_cong (fun k hk => ?_)
        have this : (w / 2 ^ 8).testBit k = w.testBit (k + 8) := Nat.testBit_div_two_pow w k
        rw [Nat.add_comm, ← this, t1]
        exact hlo b1 _ k hb1 hk
      · refine fb_ct_cong (fun k hk => ?_)
        have this : (w / 2 ^ 16).testBit k = w.testBit (k + 16) := Nat.testBit_div_two_pow w k
        rw [t2] at this
        rw [this]
        congr 1
        omega
  generalize fb_ct (fun i => b0.testBit i) 8 = E0 at f0 es3 hp
  generalize fb_ct (fun i => b1.testBit i) 8 = E1 at f1 es3 hp
  generalize fb_ct (fun i => b2.testBit i) 8 = E2 at f2 es3 hp
  have es4 : s4 = (E0 + E1) + 256 * (E1 + E2) + 65536 * E2 := by omega
  have es5 : s5 = (E0 + E1 + E2) + 256 * (E1 + E2) + 65536 * E2 := by omega
  refine ⟨by omega, ?_, by omega, by omega, by omega, by omega, ?_⟩
  · rw [a1, ew]
    omega
  · rw [hp, es5]
    omega
theorem nI_land {a b : Nat} (ha : a < 2 ^ 32) (hb : b < 2 ^ 32) : nI a &&& nI b = nI (a &&& b) := by
  apply Int32.toBitVec_inj.1
  show BitVec.ofNat 32 a &&& BitVec.ofNat 32 b = BitVec.ofNat 32 (a &&& b)
  rw [BitVec.ofNat_and]
theorem c_bitCount21 {w : Nat} (h : w < 2 ^ 21) (hK : K (nI (pcN w)) S) : wp_J6_bitCount_0f7a4 (nI w) S K := by
  obtain ⟨k1, k2, k3, k4, k5, k6, k7⟩ := bk_all h _ _ _ _ _ rfl rfl rfl rfl rfl
  unfold wp_J6_bitCount_0f7a4
  have m5 : (1431655765 : Int32) = nI 1431655765 := rfl
  have m3 : (858993459 : Int32) = nI 858993459 := rfl
  have m0 : (252645135 : Int32) = nI 252645135 := rfl
  rw [m5, m3, m0]
  refine nm_r (e' := nI (w - (w / 2 &&& 1431655765))) (by rw [pk_ushrN (by omega) 1 1 (by decide), Nat.pow_one, nI_land (by omega) (by decide), pk_sub k2]) ?_
  generalize hs1 : w - (w / 2 &&& 1431655765) = s1 at k1 k3 k4 k5 k6 k7 ⊢
  refine nm_r (e' := nI ((s1 &&& 858993459) + (s1 / 4 &&& 858993459))) (by rw [pk_ushrN (by omega) 2 2 (by decide), nI_land (by omega) (by decide), nI_land (by omega) (by decide), nI_add]) ?_
  generalize hs2 : (s1 &&& 858993459) + (s1 / 4 &&& 858993459) = s2 at k3 k4 k5 k6 k7 ⊢
  refine nm_r (e' := nI ((s2 + s2 / 16) &&& 252645135)) (by rw [pk_ushrN (by omega) 4 4 (by decide), nI_add, nI_land (by omega) (by decide)]) ?_
  generalize hs3 : (s2 + s2 / 16) &&& 252645135 = s3 at k4 k5 k6 k7 ⊢
  refine nm_r (e' := nI (s3 + s3 / 256)) (by rw [pk_ushrN (by omega) 8 8 (by decide), nI_add]) ?_
  generalize hs4 : s3 + s3 / 256 = s4 at k5 k6 k7 ⊢
  refine nm_r (e' := nI (s4 + s4 / 65536)) (by rw [pk_ushrN (by omega) 16 16 (by decide), nI_add]) ?_
  rw [pk_andN (by omega) 6 (by decide), show (2 : Nat) ^ 6 = 64 from rfl, k7]
  exact hK
-- WHOM TO ASK
def asG (G : aQ) (p q k : Nat) : Nat := fb_ct (fun s => (sorB G p 21).testBit s && (ocF (qA G) p s).testBit q) k
def asS (G : aQ) (p q k : Nat) : Nat := fb_ct (fun s => (sorB G p 21).testBit s && !(ocF (qA G) p s).testBit q) k
def asW (G : aQ) (p q : Nat) : Nat := if asG G p q 21 < asS G p q 21 then asS G p q 21 else asG G p q 21
def asL (G : aQ) (p : Nat) : Nat → Nat → Nat → Int32 → Nat × Int32
  | 0, _, b, w => (b, w)
  | m + 1, q, b, w => if b ≤ asW G p q then asL G p m (q + 1) b w else asL G p m (q + 1) (asW G p q) (nI q)
def asR (y : Int32) (r : Nat × Int32) : Int32 := if r.2 = -4 then -4 else if y = 0 then r.2 else nI r.1
theorem as_sum (G : aQ) (p q : Nat) : ∀ k, fb_ct (fun s => (sorB G p 21).testBit s) k = asG G p q k + asS G p q k
  | 0 => rfl
  | k + 1 => by
    have ih := as_sum G p q k
    unfold asG asS at ih ⊢
    rw [fb_ct_succ, fb_ct_succ, fb_ct_succ, ih]
    cases (sorB G p 21).testBit k <;> cases (ocF (qA G) p k).testBit q <;> simp <;> omega
theorem as_tot (G : aQ) (p q : Nat) : pcN (sorB G p 21) = asG G p q 21 + asS G p q 21 := by
  have h := sorB_lt G p 21
  rw [pcN_split (i := 21) (by omega) (by omega) (by omega)]
  exact as_sum G p q 21
theorem as_le (G : aQ) (p q : Nat) : asG G p q 21 ≤ 21 ∧ asS G p q 21 ≤ 21 ∧ asW G p q ≤ 21 := by
  have h1 : asG G p q 21 ≤ 21 := fb_ct_le _ 21
  have h2 : asS G p q 21 ≤ 21 := fb_ct_le _ 21
  refine ⟨h1, h2, ?_⟩
  unfold asW
  split <;> omega
theorem oc_lt (hw : wfQ G) {p s : Nat} (hs : s ≤ 40) : ocF (qA G) p s < 2 ^ 31 := by
  have hw2 := alterS_wf hw.1 (p := p) (v := s) hs
  exact Nat.lt_of_lt_of_le (planR_ok hw2).1.gl (by decide)
theorem q_worstX {p q : Nat} (hw : wfQ G) (hq : q < 5) (hO : ∀ s, s < 21 → S.2.1 27 9 s = nI (ocF (qA G) p s)) (hK : K (nI (asW G p q)) S) : ∀ (m k f : Nat), k + m = 21 → m < f → wp_X6_leftAtWorst_8 K f (nI (sorB G p 21)) (nI q) (nI (asG G p q k)) (nI (asS G p q k)) (nI k) S
  | 0, k, f + 1, h1, h2 => by
    have e : k = 21 := by omega
    subst e
    obtain ⟨a1, a2, -⟩ := as_le G p q
    refine pk_lt 20 21 (fun _ => ?_) (fun z => absurd z (by omega))
    have ei : (if nI (asG G p q 21) < nI (asS G p q 21) then nI (asS G p q 21) else nI (asG G p q 21)) = nI (asW G p q) := by
      unfold asW
      by_cases c : asG G p q 21 < asS G p q 21
      · rw [if_pos c, if_pos ((nI_ltI (by omega) (by omega)).mpr c)]
      · rw [if_neg c, if_neg (fun z => c ((nI_ltI (by omega) (by omega)).mp z))]
    rw [ei]
    exact hK
  | m + 1, k, f + 1, h1, h2 => by
    have hlt := sorB_lt G p 21
    have hoc := oc_lt hw (p := p) (s := k) (by omega)
    have ih := q_worstX hw hq hO hK m (k + 1) f (by omega) (by omega)
    have eG : asG G p q (k + 1) = asG G p q k + (if (sorB G p 21).testBit k && (ocF (qA G) p k).testBit q then 1 else 0) := fb_ct_succ _ k
    have eS : asS G p q (k + 1) = asS G p q k + (if (sorB G p 21).testBit k && !(ocF (qA G) p k).testBit q then 1 else 0) := fb_ct_succ _ k
    rw [eG, eS] at ih
    unfold wp_X6_leftAtWorst_8
    rw [nI_clamp (by omega), hO k (by omega), zb_1 (by omega) (by omega), zb_1 hoc (by omega)]
    refine pk_lt 20 k (fun z => absurd z (by omega)) (fun _ => ⟨fun z => nm_r (nI_1 k) ?_, fun z => ⟨vp_in_nI (by omega) (by decide), fun z2 => nm_r (nI_1 _) (nm_r (nI_1 k) ?_), fun z2 => nm_r (nI_1 _) (nm_r (nI_1 k) ?_)⟩⟩)
    · have z : (sorB G p 21).testBit k = false := by simpa using z
      rw [z] at ih
      exact ih
    · have z2 : (ocF (qA G) p k).testBit q = false := by simpa using z2
      rw [z, z2] at ih
      exact ih
    · rw [z, z2] at ih
      exact ih
theorem q_askX_39 {p : Nat} {y : Int32} (hw : wfQ G) (h5 : S.1 0 5 = nI (aN (qA G))) (hO : ∀ s, s < 21 → S.2.1 27 9 s = nI (ocF (qA G) p s)) {R : Nat × Int32} (hK : K (asR y R) S) : ∀ (m q f b : Nat) (w : Int32), q + m = aN (qA G) → m < f → b ≤ 31 → asL G p m q b w = R → wp_X6_ask_39 K f y (nI (sorB G p 21)) (nI b) w (nI q) S
  | 0, q, f + 1, b, w, h1, h2, hb, e => by
    have hn := hw.1.1
    subst e
    unfold wp_X6_ask_39
    rw [h5]
    refine pk_le (aN (qA G)) q (fun _ => ?_) (fun z => absurd z (by omega))
    unfold asR asL at hK
    refine ⟨fun z => ?_, fun z => ⟨fun z2 => ?_, fun z2 => ?_⟩⟩
    · by_cases c : w = -4
      · rw [if_pos c] at hK; rw [c]; exact hK
      · rw [if_neg c, if_pos z] at hK; exact hK
    · rw [if_neg z2, if_neg z] at hK; exact hK
    · rw [if_pos z2] at hK; rw [z2]; exact hK
  | m + 1, q, f + 1, b, w, h1, h2, hb, e => by
    have hn := hw.1.1
    obtain ⟨-, -, a3⟩ := as_le G p q
    unfold asL at e
    unfold wp_X6_ask_39
    rw [h5]
    refine pk_le (aN (qA G)) q (fun z => absurd z (by omega)) (fun _ => ?_)
    refine q_worstX (p := p) (q := q) hw (by omega) hO ?_ 21 0 2000 (by omega) (by omega)
    refine pk_le b (asW G p q) (fun z => nm_r (nI_1 q) ?_) (fun z => nm_r (nI_1 q) ?_)
    · rw [if_pos z] at e
      exact q_askX_39 hw h5 hO hK m (q + 1) f b w (by omega) (by omega) hb e
    · rw [if_neg (by omega)] at e
      exact q_askX_39 hw h5 hO hK m (q + 1) f _ _ (by omega) (by omega) (by omega) e
theorem q_askX {x y : Int32} (hG : RQ S G) (hw : wfQ G) (hbad : (∀ p, p < aN (qA G) → x ≠ nI p) ∨ (∀ w, w ≤ 1 → y ≠ nI w) → K (-1) S) (hok : ∀ p w, p < aN (qA G) → x = nI p → w ≤ 1 → y = nI w → ∀ S', RQ S' G → FC S S' → K (asR y (asL G p (aN (qA G)) 0 (pcN (sorB G p 21)) (-4))) S') : wp_X6_ask x y S K := by
  unfold wp_X6_ask
  refine c_isThere hG.1.1 hw.1.1 (fun p hp e => ⟨fun z => absurd z (by decide), fun _ => ?_⟩) (fun hno => ⟨fun _ => hbad (Or.inl hno), fun z => absurd rfl z⟩)
  subst e
  refine q_01 (fun w hw1 e => ⟨fun _ => ?_, fun z => absurd z (by decide)⟩) (fun hno => ⟨fun z => absurd rfl z, fun _ => hbad (Or.inr hno)⟩)
  refine q_poss hG hw hp (fun S' f hO => ?_)
  have hG' := hG.fx f
  have hlt := sorB_lt G p 21
  refine c_bitCount21 hlt ?_
  exact q_askX_39 (p := p) hw hG'.1.1 hO (hok p w hp rfl hw1 e S' hG' f.fc) (aN (qA G)) 0 2000 _ _ (by omega) (by have := hw.1.1; omega) (pcN_le _) rfl
theorem z_askX_58 {rec43 : Int32 → Int32 → Int32 → Int32 → Int32 → Int32 → tq_St → Prop} {v2 w : Int32} {p q b : Nat} (hw : wfQ G) (hq : q < 5) (hb : b ≤ 31) (hO : ∀ s, s < 21 → S.2.1 28 23 s = nI (ocF (qA G) p s)) (h1 : b ≤ asW G p q → rec43 v2 (nI (sorB G p 21)) (nI (pcN (sorB G p 21))) (nI b) w (nI (q + 1)) S) (h0 : asW G p q < b → rec43 v2 (nI (sorB G p 21)) (nI (pcN (sorB G p 21))) (nI (asW G p q)) (nI q) (nI (q + 1)) S) : ∀ (m k f : Nat), k + m = 21 → m < f → wp_X7_ask_58 K rec43 f v2 (nI (sorB G p 21)) (nI (pcN (sorB G p 21))) (nI b) w (nI q) (nI (asG G p q k)) (nI k) S := by
  obtain ⟨a1, a2, a3⟩ := as_le G p q
  have h122 : wp_X7_ask_122 K rec43 v2 (nI (sorB G p 21)) (nI (pcN (sorB G p 21))) (nI b) w (nI q) (nI (asW G p q)) S := by
    refine pk_le b (asW G p q) (fun z => pk_le b (asW G p q) (fun z => nm_r (nI_1 q) (h1 z)) (fun z2 => absurd z (by omega))) (fun z => pk_le b (asW G p q) (fun z2 => absurd z (by omega)) (fun z => nm_r (nI_1 q) (h0 z)))
  intro m
  induction m with
  | zero =>
    intro k f g1 g2
    obtain ⟨f, rfl⟩ : ∃ j, f = j + 1 := ⟨f - 1, by omega⟩
    have e : k = 21 := by omega
    subst e
    unfold wp_X7_ask_58
    have ht := as_tot G p q
    have es : nI (pcN (sorB G p 21)) - nI (asG G p q 21) = nI (asS G p q 21) := by
      rw [ht, pk_sub (by omega)]
      congr 1
      omega
    rw [es]
    refine pk_lt 20 21 (fun _ => pk_le (asG G p q 21) (asS G p q 21) (fun z => ?_) (fun z => ?_)) (fun z => absurd z (by omega))
    · have e : asW G p q = asS G p q 21 := by unfold asW; split <;> omega
      rw [e] at h122
      exact h122
    · have e : asW G p q = asG G p q 21 := by unfold asW; rw [if_neg (by omega)]
      rw [e] at h122
      exact h122
  | succ m ih =>
    intro k f g1 g2
    obtain ⟨f, rfl⟩ : ∃ j, f = j + 1 := ⟨f - 1, by omega⟩
    have hlt := sorB_lt G p 21
    have hoc := oc_lt hw (p := p) (s := k) (by omega)
    have ih := ih (k + 1) f (by omega) (by omega)
    have eG : asG G p q (k + 1) = asG G p q k + (if (sorB G p 21).testBit k && (ocF (qA G) p k).testBit q then 1 else 0) := fb_ct_succ _ k
    rw [eG] at ih
    unfold wp_X7_ask_58
    rw [nI_clamp (by omega), hO k (by omega), zb_1 (by omega) (by omega), zb_val hoc (by omega)]
    refine pk_lt 20 k (fun z => absurd z (by omega)) (fun _ => ⟨fun z => ?_, fun z => ⟨vp_in_nI (by omega) (by decide), ?_⟩⟩)
    · have z : (sorB G p 21).testBit k = false := by simpa using z
      rw [z] at ih
      unfold wp_X7_ask_93
      exact nm_r (e' := nI (asG G p q k)) (show nI (asG G p q k) + nI 0 = nI (asG G p q k) from i_add0 _) (nm_r (nI_1 k) ih)
    · rw [z] at ih
      unfold wp_X7_ask_93
      refine nm_r (nI_add _ _) (nm_r (nI_1 k) ?_)
      rw [Bool.true_and] at ih
      exact ih
theorem z_askX_43 {p : Nat} {y : Int32} (hw : wfQ G) (h5 : S.1 28 2 = nI (aN (qA G))) (hO : ∀ s, s < 21 → S.2.1 28 23 s = nI (ocF (qA G) p s)) {R : Nat × Int32} (hK : K (asR y R) S) : ∀ (m q f b : Nat) (w : Int32), q + m = aN (qA G) → m < f → b ≤ 31 → asL G p m q b w = R → wp_X7_ask_43 K f y (nI (sorB G p 21)) (nI (pcN (sorB G p 21))) (nI b) w (nI q) S
  | 0, q, f + 1, b, w, h1, h2, hb, e => by
    have hn := hw.1.1
    subst e
    unfold wp_X7_ask_43
    rw [h5]
    refine pk_le (aN (qA G)) q (fun _ => ?_) (fun z => absurd z (by omega))
    unfold asR asL at hK
    refine ⟨fun z => ?_, fun z => ⟨fun z2 => ?_, fun z2 => ?_⟩⟩
    · rw [if_pos z] at hK; rw [z]; exact hK
    · rw [if_neg z, if_neg z2] at hK; exact hK
    · rw [if_neg z, if_pos z2] at hK; exact hK
  | m + 1, q, f + 1, b, w, h1, h2, hb, e => by
    have hn := hw.1.1
    obtain ⟨-, -, a3⟩ := as_le G p q
    unfold asL at e
    unfold wp_X7_ask_43
    rw [h5]
    refine pk_le (aN (qA G)) q (fun z => absurd z (by omega)) (fun _ => ?_)
    refine z_askX_58 (p := p) (q := q) hw (by omega) hb hO (fun z => ?_) (fun z => ?_) 21 0 2000 (by omega) (by omega)
    · rw [if_pos z] at e
      exact z_askX_43 hw h5 hO hK m (q + 1) f b w (by omega) (by omega) hb e
    · rw [if_neg (by omega)] at e
      exact z_askX_43 hw h5 hO hK m (q + 1) f _ _ (by omega) (by omega) (by omega) e
theorem z_askX {x y : Int32} (hG : RZ S G) (hw : wfQ G) (hbad : (∀ p, p < aN (qA G) → x ≠ nI p) ∨ (∀ w, w ≤ 1 → y ≠ nI w) → K (-1) S) (hok : ∀ p w, p < aN (qA G) → x = nI p → w ≤ 1 → y = nI w → ∀ S', RZ S' G → Fr 28 S S' → K (asR y (asL G p (aN (qA G)) 0 (pcN (sorB G p 21)) (-4))) S') : wp_X7_ask x y S K := by
  unfold wp_X7_ask
  refine m_isOne hG.1.1 hw.1.1 (fun p hp e => ⟨fun z => absurd z (by decide), fun _ => ?_⟩) (fun hno => ⟨fun _ => hbad (Or.inl hno), fun z => absurd rfl z⟩)
  subst e
  refine m_in 0 1 (by decide) (by decide) (by decide) (fun w _ hw1 e => ⟨fun _ => ?_, fun z => absurd z (by decide)⟩) (fun h => ⟨fun z => absurd rfl z, fun _ => hbad (Or.inr (fun k hk => h k (Nat.zero_le _) hk))⟩)
  refine z_sorrowsOf hG hw hp (fun S' f hO => ?_)
  have hG' := hG.fz hw f
  have hlt := sorB_lt G p 21
  refine m_bitsOf (Nat.lt_of_lt_of_le hlt (by decide)) ?_
  exact z_askX_43 (p := p) hw hG'.1.1 hO (hok p w hp rfl hw1 e S' hG' f.1) (aN (qA G)) 0 2000 _ _ (by omega) (by have := hw.1.1; omega) (pcN_le _) rfl
end ASK
