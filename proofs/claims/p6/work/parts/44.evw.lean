section EVW
variable {S : tq_St} {o : Nat} {A : aE}
-- WEEPING
def wpS (n g : Nat) (s : Nat → Nat) (q : Nat) : Nat → Nat := sadS (sadS (un s q 0) (nearA g q) 2) (nearB n g q) 2
abbrev weepF (A : aE) (q : Nat) : aE := uW (uS A (wpS (aN A) (aG A) (aS A) q)) (un (aW A) q (aM A + 1))
theorem sadS_le {s : Nat → Nat} {q : Option Nat} {k : Nat} (h : ∀ p, s p ≤ 40) : ∀ p, sadS s q k p ≤ 40 := by
  intro p
  cases q with
  | none => exact h p
  | some j =>
    show un s j _ p ≤ 40
    by_cases e : p = j
    · subst e; rw [un_s]; omega
    · rw [un_n _ _ e]; exact h p
theorem un_le {s : Nat → Nat} {j v b : Nat} (h : ∀ p, s p ≤ b) (hv : v ≤ b) : ∀ p, un s j v p ≤ b := by
  intro p
  by_cases e : p = j
  · subst e; rw [un_s]; exact hv
  · rw [un_n _ _ e]; exact h p
theorem wpS_le {n g : Nat} {s : Nat → Nat} {q : Nat} (h : ∀ p, s p ≤ 40) : ∀ p, wpS n g s q p ≤ 40 := sadS_le (sadS_le (un_le h (by omega)))
theorem c_weep {q : Nat} {K : tq_St → Prop} (hR : RC S o A) (hw : wfE A) (hq : q < aN A) (hK : ∀ S', RC S' o (weepF A q) → Fr o S S' → S'.1 = S.1 → K S') : wp_X1_weep o (nI q) S K := by
  have hn := hw.1
  have hg := hw.g31
  unfold wp_X1_weep
  refine ⟨vp_in_nI (by omega) (by decide), nm_e ⟨vp_in_nI (by omega) (by decide), nm_e ?_⟩⟩
  rw [nI_clamp (by omega)]
  have h1 : RC (sA S o 2 q (S.1 o 7)) o (uW A (un (aW A) q (aM A + 1))) := hR.w q _ (by rw [hR.2.2.1, nI_pred])
  have h2 := h1.s q 0
  refine c_nearA h2.1 hn h2.2.1 hg hq ?_
  refine c_sadden h2 hn (un_le hw.2.2.1 (by omega)) (fun j e => by have := nearA_lt e; show j < aN A; omega) (by decide) (fun S3 h3 f3 e3 => ?_)
  refine c_nearB h3.1 hn h3.2.1 hg hq ?_
  refine c_sadden h3 hn (sadS_le (un_le hw.2.2.1 (by omega))) (fun j e => nearB_lt e) (by decide) (fun S4 h4 f4 e4 => ?_)
  exact hK S4 h4 ((((Fr.rf.A _ _ _).A _ _ _).tr f3).tr f4) (e4.trans e3)
-- THE FIRST TO WEEP
def brN (k : Nat) : Nat := if k = 0 then 10 else if k = 1 then 5 else if k = 2 then 4 else 20
theorem brL {k : Nat} (h : k < 4) : tq_brL.getD (nI k).toNatClampNeg 0 = nI (brN k) := by
  have h1 : k = 0 ∨ k = 1 ∨ k = 2 ∨ k = 3 := by omega
  rcases h1 with h | h | h | h <;> subst h <;> decide
def firstP (n g : Nat) (k s : Nat → Nat) (w : Nat) : Option Nat := ff (fun p => !g.testBit p && decide (brN (k p) ≤ s p) && !w.testBit p) 0 n
theorem brN_lt (k : Nat) : brN k ≤ 20 := by
  unfold brN
  split <;> (try omega)
  split <;> (try omega)
  split <;> omega
theorem c_brim {p : Nat} {K : Int32 → tq_St → Prop} (hR : RC S o A) (hw : wfE A) (hp : p < aN A) (hK : K (nI (brN (aK A p))) S) : wp_X1_brim o (nI p) S K := by
  have hn := hw.1
  unfold wp_X1_brim
  rw [nI_clamp (by omega), hR.2.2.2.2.2.2.1 p hp, brL (hw.2.1 p)]
  exact ⟨vp_in_nI (by omega) (by decide), vp_in_nI (hw.2.1 p) (by decide), hK⟩
theorem c_first_2 {w : Nat} {K : Int32 → tq_St → Prop} (hR : RC S o A) (hw : wfE A) (hb : w < 2 ^ 31) : ∀ (m p f : Nat), p + m = aN A → m < f → K (oI (ff (fun p => !(aG A).testBit p && decide (brN (aK A p) ≤ aS A p) && !w.testBit p) p m)) S → wp_X1_firstToWeep_2 o K f (nI w) (nI p) S
  | 0, p, f + 1, h1, h2, hK => by
    have hn := hw.1
    unfold wp_X1_firstToWeep_2
    rw [hR.1]
    exact pk_le (aN A) p (fun _ => hK) (fun z => absurd z (by omega))
  | m + 1, p, f + 1, h1, h2, hK => by
    have hn := hw.1
    have hs := hw.2.2.1 p
    unfold wp_X1_firstToWeep_2
    rw [hR.1]
    refine pk_le (aN A) p (fun z => absurd z (by omega)) (fun _ => ?_)
    unfold ff at hK
    refine c_waitsN hR.1 hn hR.2.1 hw.g31 (by omega) (fun hbit => ?_) (fun hbit => ?_)
    · refine ⟨fun z => absurd z (by decide), fun _ => ⟨vp_in_nI (by omega) (by decide), ?_⟩⟩
      refine c_brim hR hw (by omega) ?_
      rw [nI_clamp (by omega), hR.2.2.2.2.2.2.2.1 p (by omega)]
      have h20 := brN_lt (aK A p)
      refine pk_lt (aS A p) (brN (aK A p)) (fun hlt => nm_r (nI_1 p) ?_) (fun hge => ?_)
      · rw [if_neg (by rw [hbit, decide_eq_false (by omega)]; simp)] at hK
        exact c_first_2 hR hw hb m (p + 1) f (by omega) (by omega) hK
      · rw [zb_0 hb (by omega)]
        refine ⟨fun z => nm_r (nI_1 p) ?_, fun z => ?_⟩
        · rw [if_neg (by simp [z])] at hK
          exact c_first_2 hR hw hb m (p + 1) f (by omega) (by omega) hK
        · rw [if_pos (by rw [hbit, decide_eq_true hge, z]; rfl)] at hK
          exact hK
    · refine ⟨fun _ => nm_r (nI_1 p) ?_, fun z => absurd rfl z⟩
      rw [if_neg (by rw [hbit]; simp)] at hK
      exact c_first_2 hR hw hb m (p + 1) f (by omega) (by omega) hK
theorem c_first {w : Nat} {K : Int32 → tq_St → Prop} (hR : RC S o A) (hw : wfE A) (hb : w < 2 ^ 31) (hK : K (oI (firstP (aN A) (aG A) (aK A) (aS A) w)) S) : wp_X1_firstToWeep o (nI w) S K :=
  c_first_2 hR hw hb (aN A) 0 2000 (by omega) (by have := hw.1; omega) hK
-- A THINKING
def twP (n g : Nat) (k : Nat → Nat) (m : Nat) : Nat → (Nat → Nat) → (Nat → Nat) → Nat → (Nat → Nat) × (Nat → Nat) × Nat
  | 0, s, W, w => (s, W, w)
  | f + 1, s, W, w => match firstP n g k s w with
    | none => (s, W, w)
    | some q => twP n g k m f (wpS n g s q) (un W q (m + 1)) (w ||| 2 ^ q)
def tkF (A : aE) (p : Nat) : (Nat → Nat) × (Nat → Nat) × Nat := twP (aN A) (aG A) (aK A) (aM A) (aN A) (sadS (aS A) (some p) (aT A)) (aW A) 0
abbrev thinkF (A : aE) (p : Nat) : aE := uW (uS A (tkF A p).1) (tkF A p).2.1
theorem firstP_lt {n g : Nat} {k s : Nat → Nat} {w q : Nat} (h : firstP n g k s w = some q) : q < n ∧ w.testBit q = false := by
  obtain ⟨-, h2, h3, -⟩ := ff_some h
  refine ⟨by omega, ?_⟩
  simp only [Bool.and_eq_true, Bool.not_eq_true'] at h3
  exact h3.2
theorem twP_ok {n g m : Nat} {k : Nat → Nat} (hm : m ≤ 999) : ∀ (f : Nat) (s W : Nat → Nat) (w : Nat), (∀ p, s p ≤ 40) → (∀ p, W p ≤ 1000) → w < 2 ^ n → (∀ p, (twP n g k m f s W w).1 p ≤ 40) ∧ (∀ p, (twP n g k m f s W w).2.1 p ≤ 1000) ∧ (twP n g k m f s W w).2.2 < 2 ^ n
  | 0, s, W, w, h1, h2, h3 => ⟨h1, h2, h3⟩
  | f + 1, s, W, w, h1, h2, h3 => by
    unfold twP
    cases e : firstP n g k s w with
    | none => exact ⟨h1, h2, h3⟩
    | some q => exact twP_ok hm f _ _ _ (wpS_le h1) (un_le h2 (by omega)) (zb_orlt h3 (firstP_lt e).1)
theorem thinkF_wf (hw : wfE A) (p : Nat) : wfE (thinkF A p) ∧ (tkF A p).2.2 < 2 ^ aN A := by
  obtain ⟨h1, h2, h3, h4, h5, h6, h7⟩ := hw
  obtain ⟨k1, k2, k3⟩ := twP_ok (n := aN A) (g := aG A) (k := aK A) h6 (aN A) (sadS (aS A) (some p) (aT A)) (aW A) 0 (sadS_le h3) h4 (Nat.two_pow_pos _)
  exact ⟨⟨h1, h2, k1, k2, h5, h6, h7⟩, k3⟩
/-- how many of the first 31 bits -/
def pcN (w : Nat) : Nat := fb_ct (fun i => w.testBit i) 31
theorem c_bitCount32 {w : Nat} {K : Int32 → tq_St → Prop} (h : w < 32) (hK : K (nI (pcN w)) S) : wp_J6_bitCount_0f7a4 (nI w) S K := by
  unfold wp_J6_bitCount_0f7a4
  refine nm_e (nm_e (nm_e (nm_e (nm_e ?_))))
  have h1 : ∀ w, w < 32 → ∀ x1 : Int32, x1 = nI w - (((((nI w) : Int32).toUInt32 >>> ((1 : Int32).toUInt32 &&& Int32.toUInt32 31)).toInt32) &&& 1431655765) → ∀ x3 : Int32, x3 = (x1 &&& 858993459) + ((((x1 : Int32).toUInt32 >>> ((2 : Int32).toUInt32 &&& Int32.toUInt32 31)).toInt32) &&& 858993459) → ∀ x5 : Int32, x5 = (x3 + (((x3 : Int32).toUInt32 >>> ((4 : Int32).toUInt32 &&& Int32.toUInt32 31)).toInt32)) &&& 252645135 → ∀ x7 : Int32, x7 = x5 + (((x5 : Int32).toUInt32 >>> ((8 : Int32).toUInt32 &&& Int32.toUInt32 31)).toInt32) → ∀ x9 : Int32, x9 = x7 + (((x7 : Int32).toUInt32 >>> ((16 : Int32).toUInt32 &&& Int32.toUInt32 31)).toInt32) → x9 &&& 63 = nI (pcN w) := by
    intro w hw
    have h2 : ∀ w, w < 32 → (fun x1 : Int32 => (fun x3 : Int32 => (fun x5 : Int32 => (fun x7 : Int32 => (fun x9 : Int32 => x9 &&& 63) (x7 + (((x7 : Int32).toUInt32 >>> ((16 : Int32).toUInt32 &&& Int32.toUInt32 31)).toInt32))) (x5 + (((x5 : Int32).toUInt32 >>> ((8 : Int32).toUInt32 &&& Int32.toUInt32 31)).toInt32))) ((x3 + (((x3 : Int32).toUInt32 >>> ((4 : Int32).toUInt32 &&& Int32.toUInt32 31)).toInt32)) &&& 252645135)) ((x1 &&& 858993459) + ((((x1 : Int32).toUInt32 >>> ((2 : Int32).toUInt32 &&& Int32.toUInt32 31)).toInt32) &&& 858993459))) (nI w - (((((nI w) : Int32).toUInt32 >>> ((1 : Int32).toUInt32 &&& Int32.toUInt32 31)).toInt32) &&& 1431655765)) = nI (pcN w) := by decide +kernel
    intro x1 e1 x3 e3 x5 e5 x7 e7 x9 e9
    subst e1 e3 e5 e7 e9
    exact h2 w hw
  rw [h1 w h _ rfl _ rfl _ rfl _ rfl _ rfl]
  exact hK
theorem c_tw_57 {w : Nat} {K : Int32 → tq_St → Prop} (hR : RC S o A) (h : w < 32) (hK : ∀ S', RC S' o A → Fr o S S' → S'.1 o 11 = S.1 o 11 ||| nI w → S'.1 o 12 = S.1 o 12 + nI (pcN w) → S'.1 o 13 = S.1 o 13 → K (nI w) S') : wp_X1_thinkAndWeep_57 o K (nI w) S := by
  unfold wp_X1_thinkAndWeep_57
  refine nm_e ?_
  refine c_bitCount32 h (nm_e ?_)
  refine hK _ ((hR.t (by decide) _).t (by decide) _) ((Fr.rf.I _ _).I _ _) ?_ ?_ ?_
  · simp [sI_1]
  · simp [sI_1]
  · simp [sI_1]
theorem c_tw_13 {S0 : tq_St} {K : Int32 → tq_St → Prop} (hw : wfE A) : ∀ (m r f w : Nat) (s W : Nat → Nat) (S : tq_St), r + m = aN A → m < f → RC S o (uW (uS A s) W) → Fr o S0 S → S.1 = S0.1 → (∀ p, s p ≤ 40) → (∀ p, W p ≤ 1000) → w < 2 ^ aN A → (∀ S', RC S' o (uW (uS A (twP (aN A) (aG A) (aK A) (aM A) m s W w).1) (twP (aN A) (aG A) (aK A) (aM A) m s W w).2.1) → Fr o S0 S' → S'.1 o 11 = S0.1 o 11 ||| nI (twP (aN A) (aG A) (aK A) (aM A) m s W w).2.2 → S'.1 o 12 = S0.1 o 12 + nI (pcN (twP (aN A) (aG A) (aK A) (aM A) m s W w).2.2) → S'.1 o 13 = S0.1 o 13 → K (nI (twP (aN A) (aG A) (aK A) (aM A) m s W w).2.2) S') → wp_X1_thinkAndWeep_13 o K f (nI w) (nI r) S
  | 0, r, f + 1, w, s, W, S, h1, h2, hR, hF, hI, hs, hW, hb, hK => by
    have hn := hw.1
    have h32 := zb_p31 hn
    unfold wp_X1_thinkAndWeep_13
    rw [hR.1]
    refine pk_le (aN A) r (fun _ => ?_) (fun z => absurd z (by omega))
    exact c_tw_57 hR (by omega) (fun S' a1 a2 a3 a4 a5 => hK S' a1 (hF.tr a2) (by rw [a3, hI]; rfl) (by rw [a4, hI]; rfl) (by rw [a5, hI]))
  | m + 1, r, f + 1, w, s, W, S, h1, h2, hR, hF, hI, hs, hW, hb, hK => by
    have hn := hw.1
    have h32 := zb_p31 hn
    have hw2 : wfE (uW (uS A s) W) := ⟨hn, hw.2.1, hs, hW, hw.2.2.2.2⟩
    unfold wp_X1_thinkAndWeep_13
    rw [hR.1]
    refine pk_le (aN A) r (fun z => absurd z (by omega)) (fun _ => ?_)
    refine c_first hR hw2 (by omega) ?_
    unfold twP at hK
    cases e : firstP (aN A) (aG A) (aK A) s w with
    | none =>
      rw [e] at hK
      show _ ∧ _
      refine ⟨fun z => ?_, fun _ => ?_⟩
      · exact absurd rfl z
      · exact c_tw_57 hR (by omega) (fun S' a1 a2 a3 a4 a5 => hK S' a1 (hF.tr a2) (by rw [a3, hI]) (by rw [a4, hI]) (by rw [a5, hI]))
    | some q =>
      rw [e] at hK
      have hq := firstP_lt e
      refine ⟨fun _ => ?_, fun z => absurd z (oI_ne (by omega))⟩
      refine c_weep hR hw2 hq.1 (fun S2 b1 b2 b3 => ?_)
      refine nm_r (zb_or (by omega)) (nm_r (nI_1 r) ?_)
      exact c_tw_13 hw m (r + 1) f _ _ _ S2 (by omega) (by omega) b1 (hF.tr b2) (b3.trans hI) (wpS_le hs) (un_le hW (show aM A + 1 ≤ 1000 by have := hw.2.2.2.2.2.1; omega)) (zb_orlt hb hq.1) hK
theorem c_think {p : Nat} {K : Int32 → tq_St → Prop} (hR : RC S o A) (hw : wfE A) (hp : p < aN A) (hK : ∀ S', RC S' o (thinkF A p) → Fr o S S' → S'.1 o 11 = S.1 o 11 ||| nI (tkF A p).2.2 → S'.1 o 12 = S.1 o 12 + nI (pcN (tkF A p).2.2) → S'.1 o 13 = S.1 o 13 → K (nI (tkF A p).2.2) S') : wp_X1_thinkAndWeep o (nI p) S K := by
  have hn := hw.1
  unfold wp_X1_thinkAndWeep
  rw [hR.2.2.2.2.1]
  refine c_sadden (q := some p) hR hn hw.2.2.1 (fun j e => by cases e; exact hp) (by have := hw.2.2.2.2.2.2.2.1.2; omega) (fun S2 b1 b2 b3 => ?_)
  exact c_tw_13 hw (aN A) 0 2000 0 _ _ S2 (by omega) (by omega) b1 b2 b3 (sadS_le hw.2.2.1) hw.2.2.2.1 (Nat.two_pow_pos _) hK
-- A MINUTE
def dryS (n g : Nat) (s : Nat → Nat) : Nat → Nat := fun p => if p < n then (if g.testBit p then s p else s p - 1) else s p
abbrev dryF (A : aE) : aE := uM (uS A (dryS (aN A) (aG A) (aS A))) (min 999 (aM A + 1))
theorem dryF_wf (hw : wfE A) : wfE (dryF A) := by
  obtain ⟨h1, h2, h3, h4, h5, h6, h7⟩ := hw
  refine ⟨h1, h2, fun p => ?_, h4, h5, by show min 999 (aM A + 1) ≤ 999; omega, h7⟩
  have := h3 p
  show dryS (aN A) (aG A) (aS A) p ≤ 40
  unfold dryS
  split <;> (try split) <;> omega
theorem zb_max {s : Nat} (h : s ≤ 40) : (if (0 : Int32) < nI s - 1 then nI s - 1 else 0) = nI (s - 1) := by
  have h1 : ∀ s, s ≤ 40 → (if (0 : Int32) < nI s - 1 then nI s - 1 else 0) = nI (s - 1) := by decide +kernel
  exact h1 s h
theorem zb_min9 {m : Nat} (h : m ≤ 999) : (if (nI m + 1 : Int32) < 999 then nI m + 1 else 999) = nI (min 999 (m + 1)) := by
  rw [nI_1]
  have h4 : (999 : Int32) = nI 999 := rfl
  rw [h4]
  by_cases hc : m + 1 < 999
  · rw [if_pos ((nI_ltI (by omega) (by decide)).mpr hc)]; congr 1; omega
  · rw [if_neg (fun z => hc ((nI_ltI (by omega) (by decide)).mp z))]; congr 1; omega
theorem dryS_step {n g i : Nat} {s : Nat → Nat} (hi : i < n) : dryS (i + 1) g s = un (dryS i g s) i (if g.testBit i then s i else s i - 1) := by
  funext p
  by_cases e : p = i
  · subst e; rw [un_s]; unfold dryS; rw [if_pos (by omega)]
  · rw [un_n _ _ e]
    unfold dryS
    by_cases h : p < i
    · rw [if_pos (by omega), if_pos h]
    · rw [if_neg (by omega), if_neg h]
theorem dryS_at {g i : Nat} {s : Nat → Nat} : dryS i g s i = s i := by unfold dryS; rw [if_neg (by omega)]
theorem c_dry_2 {S0 : tq_St} {K : tq_St → Prop} (hw : wfE A) (hK : ∀ S', RC S' o (dryF A) → Fr o S0 S' → (∀ k, k ≠ 7 → S'.1 o k = S0.1 o k) → K S') : ∀ (m p f : Nat) (S : tq_St), p + m = aN A → m < f → RC S o (uS A (dryS p (aG A) (aS A))) → Fr o S0 S → S.1 = S0.1 → wp_X1_dry_2 o K f (nI p) S
  | 0, p, f + 1, S, h1, h2, hR, hF, hI => by
    have hn := hw.1
    have hm := hw.2.2.2.2.2.1
    unfold wp_X1_dry_2
    rw [hR.1]
    refine pk_le (aN A) p (fun _ => nm_e ?_) (fun z => absurd z (by omega))
    rw [hR.2.2.1, zb_min9 hm]
    have e : p = aN A := by omega
    subst e
    exact hK _ (hR.m _) (hF.I _ _) (fun k hk => by rw [sI_1, if_neg hk, hI])
  | m + 1, p, f + 1, S, h1, h2, hR, hF, hI => by
    have hn := hw.1
    unfold wp_X1_dry_2
    rw [hR.1]
    refine pk_le (aN A) p (fun z => absurd z (by omega)) (fun _ => ?_)
    refine c_waitsN hR.1 hn hR.2.1 hw.g31 (by omega) (fun hb => ?_) (fun hb => ?_)
    · refine ⟨fun z => absurd z (by decide), fun _ => ⟨vp_in_nI (by omega) (by decide), vp_in_nI (by omega) (by decide), nm_e (nm_r (nI_1 p) ?_)⟩⟩
      rw [nI_clamp (by omega), hR.2.2.2.2.2.2.2.1 p (by show p < aN A; omega)]
      have hv : aS (uS A (dryS p (aG A) (aS A))) p = aS A p := dryS_at
      rw [hv, zb_max (hw.2.2.1 p)]
      refine c_dry_2 hw hK m (p + 1) f _ (by omega) (by omega) ?_ (hF.A _ _ _) hI
      rw [dryS_step (n := aN A) (by omega), if_neg (by rw [hb]; decide)]
      exact hR.s p _
    · refine ⟨fun _ => nm_r (nI_1 p) ?_, fun z => absurd rfl z⟩
      refine c_dry_2 hw hK m (p + 1) f _ (by omega) (by omega) ?_ hF hI
      rw [dryS_step (n := aN A) (by omega), if_pos hb]
      have e : un (dryS p (aG A) (aS A)) p (aS A p) = dryS p (aG A) (aS A) := by
        funext j
        by_cases e : j = p
        · subst e; rw [un_s, dryS_at]
        · rw [un_n _ _ e]
      rw [e]
      exact hR
theorem c_dry {K : tq_St → Prop} (hR : RC S o A) (hw : wfE A) (hK : ∀ S', RC S' o (dryF A) → Fr o S S' → (∀ k, k ≠ 7 → S'.1 o k = S.1 o k) → K S') : wp_X1_dry o S K := by
  refine c_dry_2 hw hK (aN A) 0 2000 S (by omega) (by have := hw.1; omega) ?_ Fr.rf rfl
  have e : dryS 0 (aG A) (aS A) = aS A := by funext p; unfold dryS; rw [if_neg (by omega)]
  rw [e]
  exact hR
end EVW
