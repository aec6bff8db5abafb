section
section EVM
variable {S : tq_St} {g : Nat} {A : aE}
-- A PAGE OF THE REFERENCE
abbrev pg (S : tq_St) : Nat → Int32 := S.2.1 28 0
/-- the page at g holds the evening A -/
def RM (S : tq_St) (g : Nat) (A : aE) : Prop := S.1 28 2 = nI (aN A) ∧ (∀ p, p < aN A → pg S (g + p) = nI (aK A p)) ∧ (∀ p, p < aN A → pg S (g + 5 + p) = nI (aS A p)) ∧ (∀ p, p < aN A → pg S (g + 10 + p) = nI (aW A p)) ∧ pg S (g + 15) = nI (aG A) ∧ pg S (g + 16) = nI (aM A) ∧ pg S (g + 17) = nI (aR A) - 2 ∧ pg S (g + 18) = nI (aT A) - 4 ∧ pg S (g + 27) = nI (aC A) ∧ (∀ i, i < aC A → pg S (g + 19 + i) = nI (aA A i)) ∧ ∀ k, k < 4 → S.2.1 28 1 k = nI (brN k)
/-- nothing but the page at g has changed -/
def FM (g : Nat) (S S' : tq_St) : Prop := S'.1 = S.1 ∧ (∀ o, o ≠ 28 → S'.2.1 o = S.2.1 o) ∧ (∀ k, k ≠ 0 → S'.2.1 28 k = S.2.1 28 k) ∧ (∀ i, i < g ∨ g + 28 ≤ i → pg S' i = pg S i) ∧ S'.2.2 = S.2.2
theorem FM.rf : FM g S S := ⟨rfl, fun _ _ => rfl, fun _ _ => rfl, fun _ _ => rfl, rfl⟩
theorem FM.tr {S T U : tq_St} (h : FM g S T) (h2 : FM g T U) : FM g S U := ⟨h2.1.trans h.1, fun o ho => (h2.2.1 o ho).trans (h.2.1 o ho), fun k hk => (h2.2.2.1 k hk).trans (h.2.2.1 k hk), fun i hi => (h2.2.2.2.1 i hi).trans (h.2.2.2.1 i hi), h2.2.2.2.2.trans h.2.2.2.2⟩
theorem FM.a {S T : tq_St} (h : FM g S T) {i : Nat} (hi : g ≤ i ∧ i < g + 28) (v : Int32) : FM g S (sA T 28 0 i v) :=
  ⟨h.1, fun o ho => (sA_2n T ho).trans (h.2.1 o ho), fun k hk => (sA_nk T 28 0 i v hk).trans (h.2.2.1 k hk), fun j hj => by rw [← h.2.2.2.1 j hj]; show (sA T 28 0 i v).2.1 28 0 j = _; rw [sA_at, if_neg (by omega)], h.2.2.2.2⟩
theorem pg_at (S : tq_St) (i : Nat) (v : Int32) (j : Nat) : pg (sA S 28 0 i v) j = if j = i then v else pg S j := sA_at S 28 0 i v j
theorem RM.fm {g' : Nat} {S' : tq_St} (h : RM S g A) (f : FM g' S S') (hn : aN A ≤ 5) (hc : aC A ≤ 8) (hd : g + 28 ≤ g' ∨ g' + 28 ≤ g) : RM S' g A := by
  obtain ⟨h1, h2, h3, h4, h5, h6, h7, h8, h9, h10, h11⟩ := h
  obtain ⟨f1, f2, f3, f4, f5⟩ := f
  refine ⟨by rw [f1]; exact h1, fun p hp => ?_, fun p hp => ?_, fun p hp => ?_, ?_, ?_, ?_, ?_, ?_, fun i hi => ?_, fun k hk => ?_⟩
  · rw [f4 _ (by omega)]; exact h2 p hp
  · rw [f4 _ (by omega)]; exact h3 p hp
  · rw [f4 _ (by omega)]; exact h4 p hp
  · rw [f4 _ (by omega)]; exact h5
  · rw [f4 _ (by omega)]; exact h6
  · rw [f4 _ (by omega)]; exact h7
  · rw [f4 _ (by omega)]; exact h8
  · rw [f4 _ (by omega)]; exact h9
  · rw [f4 _ (by omega)]; exact h10 i hi
  · rw [f3 1 (by decide)]; exact h11 k hk
theorem RM.s (h : RM S g A) (hn : aN A ≤ 5) (hc : aC A ≤ 8) {p : Nat} (hp : p < aN A) (x : Nat) : RM (sA S 28 0 (g + 5 + p) (nI x)) g (uS A (un (aS A) p x)) := by
  obtain ⟨h1, h2, h3, h4, h5, h6, h7, h8, h9, h10, h11⟩ := h
  refine ⟨h1, fun q hq => ?_, fun q hq => ?_, fun q hq => ?_, ?_, ?_, ?_, ?_, ?_, fun i hi => ?_, fun k hk => ?_⟩
  · have hq : q < aN A := hq
    rw [pg_at, if_neg (by omega)]; exact h2 q hq
  · have hq : q < aN A := hq
    rw [pg_at]
    by_cases e : q = p
    · subst e; rw [if_pos rfl]; exact congrArg nI (un_s _ _ _).symm
    · rw [if_neg (by omega)]; exact (h3 q hq).trans (congrArg nI (un_n _ _ e).symm)
  · have hq : q < aN A := hq
    rw [pg_at, if_neg (by omega)]; exact h4 q hq
  · rw [pg_at, if_neg (by omega)]; exact h5
  · rw [pg_at, if_neg (by omega)]; exact h6
  · rw [pg_at, if_neg (by omega)]; exact h7
  · rw [pg_at, if_neg (by omega)]; exact h8
  · rw [pg_at, if_neg (by omega)]; exact h9
  · have hi : i < aC A := hi
    rw [pg_at, if_neg (by omega)]; exact h10 i hi
  · rw [sA_nk _ _ _ _ _ (by decide)]; exact h11 k hk
theorem RM.w (h : RM S g A) (hn : aN A ≤ 5) (hc : aC A ≤ 8) {p : Nat} (hp : p < aN A) (x : Nat) : RM (sA S 28 0 (g + 10 + p) (nI x)) g (uW A (un (aW A) p x)) := by
  obtain ⟨h1, h2, h3, h4, h5, h6, h7, h8, h9, h10, h11⟩ := h
  refine ⟨h1, fun q hq => ?_, fun q hq => ?_, fun q hq => ?_, ?_, ?_, ?_, ?_, ?_, fun i hi => ?_, fun k hk => ?_⟩
  · have hq : q < aN A := hq
    rw [pg_at, if_neg (by omega)]; exact h2 q hq
  · have hq : q < aN A := hq
    rw [pg_at, if_neg (by omega)]; exact h3 q hq
  · have hq : q < aN A := hq
    rw [pg_at]
    by_cases e : q = p
    · subst e; rw [if_pos rfl]; exact congrArg nI (un_s _ _ _).symm
    · rw [if_neg (by omega)]; exact (h4 q hq).trans (congrArg nI (un_n _ _ e).symm)
  · rw [pg_at, if_neg (by omega)]; exact h5
  · rw [pg_at, if_neg (by omega)]; exact h6
  · rw [pg_at, if_neg (by omega)]; exact h7
  · rw [pg_at, if_neg (by omega)]; exact h8
  · rw [pg_at, if_neg (by omega)]; exact h9
  · have hi : i < aC A := hi
    rw [pg_at, if_neg (by omega)]; exact h10 i hi
  · rw [sA_nk _ _ _ _ _ (by decide)]; exact h11 k hk
theorem RM.k (h : RM S g A) (hn : aN A ≤ 5) (hc : aC A ≤ 8) {p : Nat} (hp : p < aN A) (x : Nat) : RM (sA S 28 0 (g + p) (nI x)) g (uK A (un (aK A) p x)) := by
  obtain ⟨h1, h2, h3, h4, h5, h6, h7, h8, h9, h10, h11⟩ := h
  refine ⟨h1, fun q hq => ?_, fun q hq => ?_, fun q hq => ?_, ?_, ?_, ?_, ?_, ?_, fun i hi => ?_, fun k hk => ?_⟩
  · have hq : q < aN A := hq
    rw [pg_at]
    by_cases e : q = p
    · subst e; rw [if_pos rfl]; exact congrArg nI (un_s _ _ _).symm
    · rw [if_neg (by omega)]; exact (h2 q hq).trans (congrArg nI (un_n _ _ e).symm)
  · have hq : q < aN A := hq
    rw [pg_at, if_neg (by omega)]; exact h3 q hq
  · have hq : q < aN A := hq
    rw [pg_at, if_neg (by omega)]; exact h4 q hq
  · rw [pg_at, if_neg (by omega)]; exact h5
  · rw [pg_at, if_neg (by omega)]; exact h6
  · rw [pg_at, if_neg (by omega)]; exact h7
  · rw [pg_at, if_neg (by omega)]; exact h8
  · rw [pg_at, if_neg (by omega)]; exact h9
  · have hi : i < aC A := hi
    rw [pg_at, if_neg (by omega)]; exact h10 i hi
  · rw [sA_nk _ _ _ _ _ (by decide)]; exact h11 k hk
/-- one of the page's own numbers is written: 15 gone, 16 minute, 17 room, 18 think -/
theorem RM.n (h : RM S g A) (hn : aN A ≤ 5) (hc : aC A ≤ 8) {j : Nat} (hj : 15 ≤ j ∧ j ≤ 18) {v : Int32} {A' : aE} (e1 : aN A' = aN A) (e2 : aK A' = aK A) (e3 : aS A' = aS A) (e4 : aW A' = aW A) (e5 : aC A' = aC A) (e6 : aA A' = aA A) (hg : (if j = 15 then v else nI (aG A)) = nI (aG A')) (hm : (if j = 16 then v else nI (aM A)) = nI (aM A')) (hr : (if j = 17 then v else nI (aR A) - 2) = nI (aR A') - 2) (ht : (if j = 18 then v else nI (aT A) - 4) = nI (aT A') - 4) : RM (sA S 28 0 (g + j) v) g A' := by
  obtain ⟨h1, h2, h3, h4, h5, h6, h7, h8, h9, h10, h11⟩ := h
  refine ⟨by rw [e1]; exact h1, fun q hq => ?_, fun q hq => ?_, fun q hq => ?_, ?_, ?_, ?_, ?_, ?_, fun i hi => ?_, fun k hk => ?_⟩
  · rw [e1] at hq; rw [pg_at, if_neg (by omega), e2]; exact h2 q hq
  · rw [e1] at hq; rw [pg_at, if_neg (by omega), e3]; exact h3 q hq
  · rw [e1] at hq; rw [pg_at, if_neg (by omega), e4]; exact h4 q hq
  · rw [pg_at, h5, ← hg]
    by_cases e : j = 15
    · rw [if_pos (by omega), if_pos e]
    · rw [if_neg (by omega), if_neg e]
  · rw [pg_at, h6, ← hm]
    by_cases e : j = 16
    · rw [if_pos (by omega), if_pos e]
    · rw [if_neg (by omega), if_neg e]
  · rw [pg_at, h7, ← hr]
    by_cases e : j = 17
    · rw [if_pos (by omega), if_pos e]
    · rw [if_neg (by omega), if_neg e]
  · rw [pg_at, h8, ← ht]
    by_cases e : j = 18
    · rw [if_pos (by omega), if_pos e]
    · rw [if_neg (by omega), if_neg e]
  · rw [pg_at, if_neg (by omega), e5]; exact h9
  · rw [e5] at hi; rw [pg_at, if_neg (by omega), e6]; exact h10 i hi
  · rw [sA_nk _ _ _ _ _ (by decide)]; exact h11 k hk
-- NUMBERS OF PLACES
theorem ia (g k : Nat) : nI g + nI k = nI (g + k) := nI_add g k
theorem ia5 (g : Nat) : nI g + 5 = nI (g + 5) := nI_add g 5
theorem ia10 (g : Nat) : nI g + 10 = nI (g + 10) := nI_add g 10
theorem ia15 (g : Nat) : nI g + 15 = nI (g + 15) := nI_add g 15
theorem ia16 (g : Nat) : nI g + 16 = nI (g + 16) := nI_add g 16
theorem ia17 (g : Nat) : nI g + 17 = nI (g + 17) := nI_add g 17
theorem ia18 (g : Nat) : nI g + 18 = nI (g + 18) := nI_add g 18
theorem ia19 (g : Nat) : nI g + 19 = nI (g + 19) := nI_add g 19
theorem ia27 (g : Nat) : nI g + 27 = nI (g + 27) := nI_add g 27
theorem m_waits {gn j : Nat} {K : Int32 → tq_St → Prop} (h15 : pg S (g + 15) = nI gn) (hg : g ≤ 140) (hgn : gn < 2 ^ 31) (hj : j < 31) (h1 : gn.testBit j = false → K 1 S) (h0 : gn.testBit j = true → K 0 S) : wp_X7_waits (nI g) (nI j) S K := by
  unfold wp_X7_waits
  rw [ia15, nI_clamp (by omega)]
  have h15 : S.2.1 28 0 (g + 15) = nI gn := h15
  rw [h15, zb_0 hgn hj]
  refine ⟨vp_in_nI (by omega) (by decide), fun z => h0 ?_, h1⟩
  cases hb : gn.testBit j
  · exact absurd hb z
  · rfl
theorem zb_gmin {s k : Nat} (h : s + k < 2 ^ 31) {P : Int32 → Prop} (hP : P (nI (min 40 (s + k)))) : ∀ x1 : Int32, x1 = nI s + nI k → ((x1 ≤ 40 → P x1) ∧ (¬ x1 ≤ 40 → P 40)) := by
  intro x1 e
  rw [nI_add] at e
  subst e
  have e40 : (40 : Int32) = nI 40 := rfl
  rw [e40, nI_leI h (by decide)]
  constructor
  · intro z; rw [show min 40 (s + k) = s + k by omega] at hP; exact hP
  · intro z; rw [show min 40 (s + k) = 40 by omega] at hP; exact hP
theorem m_grieves {p k : Nat} {K : tq_St → Prop} (hR : RM S g A) (hn : aN A ≤ 5) (hc : aC A ≤ 8) (hg : g ≤ 140) (hs : ∀ p, aS A p ≤ 40) (hp : p < aN A) (hk : k < 100) (hK : ∀ S', RM S' g (uS A (sadS (aS A) (some p) k)) → FM g S S' → K S') : wp_X7_grieves (nI g) (nI p) (nI k) S K := by
  unfold wp_X7_grieves
  rw [ia5, ia, nI_clamp (by omega)]
  have h3 : S.2.1 28 0 (g + 5 + p) = nI (aS A p) := hR.2.2.1 p hp
  rw [h3]
  have hin : vp_in (nI (g + 5 + p)) 168 := vp_in_nI (by omega) (by decide)
  refine ⟨hin, fun x e => ?_⟩
  have hb := hs p
  have h4 := zb_gmin (s := aS A p) (k := k) (by omega) (P := fun v => K (sA S 28 0 (g + 5 + p) v)) (hK _ (hR.s hn hc hp _) (FM.rf.a (by omega) _)) x e
  exact ⟨fun z => ⟨hin, nm_e (h4.1 z)⟩, fun z => ⟨hin, nm_e (h4.2 z)⟩⟩
-- WHO IS SET OFF
theorem m_so_64 {q : Option Nat} {v : Int32} {K : tq_St → Prop} (hR : RM S g A) (hn : aN A ≤ 5) (hc : aC A ≤ 8) (hg : g ≤ 140) (hs : ∀ p, aS A p ≤ 40) (hv : (q = none ∧ aN A ≤ 100 ∧ ∃ j, j < 2 ^ 31 ∧ aN A ≤ j ∧ v = nI j) ∨ ∃ j, q = some j ∧ j < aN A ∧ v = nI j) (hK : ∀ S', RM S' g (uS A (sadS (aS A) q 2)) → FM g S S' → K S') : wp_X7_setsOff_64 K (nI g) v S := by
  unfold wp_X7_setsOff_64
  rw [hR.1]
  rcases hv with ⟨rfl, -, j, hj, hj2, rfl⟩ | ⟨j, rfl, hj, rfl⟩
  · exact pk_le (aN A) j (fun _ => hK S hR FM.rf) (fun z => absurd z (by omega))
  · exact pk_le (aN A) j (fun z => absurd z (by omega)) (fun _ => m_grieves (k := 2) hR hn hc hg hs hj (by decide) hK)
theorem m_so_53 {q r : Option Nat} {u v : Int32} {K : tq_St → Prop} (hR : RM S g A) (hn : aN A ≤ 5) (hc : aC A ≤ 8) (hg : g ≤ 140) (hs : ∀ p, aS A p ≤ 40) (hu : (r = none ∧ u < 0) ∨ ∃ j, r = some j ∧ j < aN A ∧ u = nI j) (hv : (q = none ∧ aN A ≤ 100 ∧ ∃ j, j < 2 ^ 31 ∧ aN A ≤ j ∧ v = nI j) ∨ ∃ j, q = some j ∧ j < aN A ∧ v = nI j) (hK : ∀ S', RM S' g (uS A (sadS (sadS (aS A) r 2) q 2)) → FM g S S' → K S') : wp_X7_setsOff_53 K (nI g) u v S := by
  unfold wp_X7_setsOff_53
  rcases hu with ⟨rfl, hu⟩ | ⟨j, rfl, hj, rfl⟩
  · exact ⟨fun _ => m_so_64 hR hn hc hg hs hv hK, fun z => absurd hu z⟩
  · refine ⟨fun z => absurd z (nI_pos (by omega)), fun _ => ?_⟩
    refine m_grieves (k := 2) hR hn hc hg hs hj (by decide) (fun S2 a1 a2 => ?_)
    exact m_so_64 a1 hn hc hg (show ∀ p, sadS (aS A) (some j) 2 p ≤ 40 from sadS_le hs) hv (fun S3 b1 b2 => hK S3 b1 (a2.tr b2))
theorem m_so_28 {r : Option Nat} {u : Int32} {K : tq_St → Prop} (hR : RM S g A) (hn : aN A ≤ 5) (hc : aC A ≤ 8) (hg : g ≤ 140) (hgn : aG A < 2 ^ 31) (hs : ∀ p, aS A p ≤ 40) (hu : (r = none ∧ u < 0) ∨ ∃ j, r = some j ∧ j < aN A ∧ u = nI j) : ∀ (m a f : Nat), (a < aN A → a + m = aN A) → (aN A ≤ a → m = 0) → a ≤ 6 → m < f → (∀ S', RM S' g (uS A (sadS (sadS (aS A) r 2) (ff (fun j => !(aG A).testBit j) a m) 2)) → FM g S S' → K S') → wp_X7_setsOff_28 K f (nI g) u (nI a) S
  | 0, a, f + 1, h1, h1b, h2, h3, hK => by
    unfold wp_X7_setsOff_28
    rw [hR.1]
    refine pk_le (aN A) a (fun z => ?_) (fun z => absurd (h1 z) (by omega))
    exact m_so_53 (q := none) hR hn hc hg hs hu (Or.inl ⟨rfl, by omega, a, by omega, z, rfl⟩) hK
  | m + 1, a, f + 1, h1, h1b, h2, h3, hK => by
    unfold wp_X7_setsOff_28
    rw [hR.1]
    refine pk_le (aN A) a (fun z => absurd (h1b z) (by omega)) (fun z => ?_)
    unfold ff at hK
    refine m_waits hR.2.2.2.2.1 hg hgn (by omega) (fun hb => ?_) (fun hb => ?_)
    · refine ⟨fun _ => ?_, fun z => absurd z (by decide)⟩
      rw [if_pos (by rw [hb]; rfl)] at hK
      exact m_so_53 (q := some a) hR hn hc hg hs hu (Or.inr ⟨a, rfl, z, rfl⟩) hK
    · refine ⟨fun z => absurd rfl z, fun _ => nm_r (nI_1 a) ?_⟩
      rw [if_neg (by rw [hb]; decide)] at hK
      have := h1 z
      exact m_so_28 hR hn hc hg hgn hs hu m (a + 1) f (by omega) (by omega) (by omega) (by omega) hK
theorem m_so_4 {p : Nat} {K : tq_St → Prop} (hR : RM S g A) (hn : aN A ≤ 5) (hc : aC A ≤ 8) (hg : g ≤ 140) (hgn : aG A < 2 ^ 31) (hs : ∀ p, aS A p ≤ 40) (hp : p < aN A) (hK : ∀ S', RM S' g (uS A (sadS (sadS (aS A) (nearA (aG A) p) 2) (nearB (aN A) (aG A) p) 2)) → FM g S S' → K S') : ∀ (a f : Nat) (x : Int32), a ≤ p → a < f → x = nI a - 1 → nearA (aG A) a = nearA (aG A) p → wp_X7_setsOff_4 K f (nI g) (nI p) x S
  | 0, f + 1, x, h1, h2, h3, h4 => by
    have hx : x < 0 := by subst h3; decide
    refine ⟨fun _ => ?_, fun z => absurd hx z⟩
    unfold wp_X7_setsOff_23
    refine nm_r (nI_1 p) ?_
    rw [← h4] at hK
    exact m_so_28 hR hn hc hg hgn hs (Or.inl ⟨rfl, hx⟩) (aN A - (p + 1)) (p + 1) 2000 (by omega) (by omega) (by omega) (by omega) hK
  | a + 1, f + 1, x, h1, h2, h3, h4 => by
    rw [nI_pred] at h3
    subst h3
    unfold wp_X7_setsOff_4
    refine ⟨fun z => absurd z (nI_pos (by omega)), fun _ => ?_⟩
    refine m_waits hR.2.2.2.2.1 hg hgn (by omega) (fun hb => ?_) (fun hb => ?_)
    · refine ⟨fun _ => ?_, fun z => absurd z (by decide)⟩
      have e : nearA (aG A) (a + 1) = some a := by unfold nearA; rw [if_neg (by rw [hb]; decide)]
      unfold wp_X7_setsOff_23
      refine nm_r (nI_1 p) ?_
      rw [← h4, e] at hK
      exact m_so_28 hR hn hc hg hgn hs (Or.inr ⟨a, rfl, by omega, rfl⟩) (aN A - (p + 1)) (p + 1) 2000 (by omega) (by omega) (by omega) (by omega) hK
    · refine ⟨fun z => absurd rfl z, fun _ => nm_e ?_⟩
      have e : nearA (aG A) (a + 1) = nearA (aG A) a := by
        show (if (aG A).testBit a then nearA (aG A) a else some a) = _
        rw [if_pos hb]
      refine m_so_4 hR hn hc hg hgn hs hp hK a f _ (by omega) (by omega) ?_ (by rw [← h4, e])
      have h7 : ∀ a, a < 5 → nI a + (-1) = nI a - 1 := by decide +kernel
      exact h7 a (by omega)
theorem m_setsOff {p : Nat} {K : tq_St → Prop} (hR : RM S g A) (hn : aN A ≤ 5) (hc : aC A ≤ 8) (hg : g ≤ 140) (hgn : aG A < 2 ^ 31) (hs : ∀ p, aS A p ≤ 40) (hp : p < aN A) (hK : ∀ S', RM S' g (uS A (sadS (sadS (aS A) (nearA (aG A) p) 2) (nearB (aN A) (aG A) p) 2)) → FM g S S' → K S') : wp_X7_setsOff (nI g) (nI p) S K := by
  unfold wp_X7_setsOff
  exact nm_e (m_so_4 hR hn hc hg hgn hs hp hK p 2000 _ (Nat.le_refl _) (by omega) rfl rfl)
-- THE NEXT TO WEEP
theorem m_ntw_2 {w : Nat} {K : Int32 → tq_St → Prop} (hR : RM S g A) (hw : wfE A) (hg : g ≤ 140) (hb : w < 2 ^ 31) : ∀ (m p f : Nat), p + m = aN A → m < f → K (oI (ff (fun p => !(aG A).testBit p && decide (brN (aK A p) ≤ aS A p) && !w.testBit p) p m)) S → wp_X7_nextToWeep_2 K f (nI g) (nI w) (nI p) S
  | 0, p, f + 1, h1, h2, hK => by
    have hn := hw.1
    unfold wp_X7_nextToWeep_2
    rw [hR.1]
    exact pk_le (aN A) p (fun _ => hK) (fun z => absurd z (by omega))
  | m + 1, p, f + 1, h1, h2, hK => by
    have hn := hw.1
    have hs := hw.2.2.1 p
    have hk := hw.2.1 p
    unfold wp_X7_nextToWeep_2
    rw [hR.1]
    refine pk_le (aN A) p (fun z => absurd z (by omega)) (fun _ => ?_)
    unfold ff at hK
    refine m_waits hR.2.2.2.2.1 hg hw.g31 (by omega) (fun hbit => ?_) (fun hbit => ?_)
    · refine ⟨fun z => absurd z (by decide), fun _ => ?_⟩
      rw [zb_0 hb (by omega)]
      refine ⟨fun z => nm_r (nI_1 p) ?_, fun z => ?_⟩
      · rw [if_neg (by simp [z])] at hK
        exact m_ntw_2 hR hw hg hb m (p + 1) f (by omega) (by omega) hK
      · rw [ia5, ia, ia, nI_clamp (n := g + p) (by omega), nI_clamp (n := g + 5 + p) (by omega)]
        have e1 : S.2.1 28 0 (g + p) = nI (aK A p) := hR.2.1 p (by omega)
        have e2 : S.2.1 28 0 (g + 5 + p) = nI (aS A p) := hR.2.2.1 p (by omega)
        rw [e1, e2, nI_clamp (n := aK A p) (by omega), hR.2.2.2.2.2.2.2.2.2.2 _ hk]
        refine ⟨vp_in_nI (by omega) (by decide), vp_in_nI (by omega) (by decide), vp_in_nI hk (by decide), ?_⟩
        have h20 := brN_lt (aK A p)
        refine pk_lt (aS A p) (brN (aK A p)) (fun hlt => nm_r (nI_1 p) ?_) (fun hge => ?_)
        · rw [if_neg (by rw [hbit, decide_eq_false (by omega)]; simp)] at hK
          exact m_ntw_2 hR hw hg hb m (p + 1) f (by omega) (by omega) hK
        · rw [if_pos (by rw [hbit, decide_eq_true hge, z]; rfl)] at hK
          exact hK
    · refine ⟨fun _ => nm_r (nI_1 p) ?_, fun z => absurd rfl z⟩
      rw [if_neg (by rw [hbit]; simp)] at hK
      exact m_ntw_2 hR hw hg hb m (p + 1) f (by omega) (by omega) hK
theorem m_ntw {w : Nat} {K : Int32 → tq_St → Prop} (hR : RM S g A) (hw : wfE A) (hg : g ≤ 140) (hb : w < 2 ^ 31) (hK : K (oI (firstP (aN A) (aG A) (aK A) (aS A) w)) S) : wp_X7_nextToWeep (nI g) (nI w) S K :=
  m_ntw_2 hR hw hg hb (aN A) 0 2000 (by omega) (by have := hw.1; omega) hK
end EVM
end
section
section EVN
variable {S : tq_St} {g : Nat} {A : aE}
theorem i_sub_add (r k : Nat) : nI r - nI k + nI k = nI r := by
  apply Int32.toBitVec_inj.1
  show BitVec.ofNat 32 r - BitVec.ofNat 32 k + BitVec.ofNat 32 k = BitVec.ofNat 32 r
  exact BitVec.sub_add_cancel _ _
theorem twP_none {n g m f : Nat} {k s W : Nat → Nat} {w : Nat} (h : firstP n g k s w = none) : twP n g k m f s W w = (s, W, w) := by
  cases f with
  | zero => rfl
  | succ f => unfold twP; rw [h]
theorem cu_dec {n w q : Nat} (hq : q < n) (hb : w.testBit q = false) : fb_ct (fun p => !(w ||| 2 ^ q).testBit p) n + 1 = fb_ct (fun p => !w.testBit p) n := by
  have e : (fun p => !(w ||| 2 ^ q).testBit p) = (fun k => if k = q then false else !w.testBit k) := by
    funext p
    rw [fb_bit_set]
    by_cases c : p = q
    · simp [c]
    · simp [c]
  have h := fb_ct_upd (fun p => !w.testBit p) false (i := q) hq
  rw [e]
  simp only [hb, Bool.not_false, if_true, Bool.false_eq_true, if_false, Nat.add_zero] at h
  exact h
theorem m_th_27 {S0 : tq_St} {K : Int32 → tq_St → Prop} (hw : wfE A) (hg : g ≤ 140) : ∀ (f F w : Nat) (s W : Nat → Nat) (S : tq_St), fb_ct (fun p => !w.testBit p) (aN A) ≤ f → f < F → RM S g (uW (uS A s) W) → FM g S0 S → (∀ p, s p ≤ 40) → (∀ p, W p ≤ 1000) → w < 2 ^ aN A → (∀ S', RM S' g (uW (uS A (twP (aN A) (aG A) (aK A) (aM A) f s W w).1) (twP (aN A) (aG A) (aK A) (aM A) f s W w).2.1) → FM g S0 S' → K (nI (twP (aN A) (aG A) (aK A) (aM A) f s W w).2.2) S') → wp_X7_thinksOn_27 K F (nI g) (nI w) (oI (firstP (aN A) (aG A) (aK A) s w)) S := by
  intro f
  induction f with
  | zero =>
    intro F w s W S hf hF hR hFM hs hW hb hK
    obtain ⟨F, rfl⟩ : ∃ k, F = k + 1 := ⟨F - 1, by omega⟩
    cases e : firstP (aN A) (aG A) (aK A) s w with
    | none => exact ⟨fun _ => hK S hR hFM, fun z => absurd rfl z⟩
    | some q =>
      obtain ⟨h1, h2⟩ := firstP_lt e
      have := cu_dec h1 h2
      omega
  | succ f ih =>
    intro F w s W S hf hF hR hFM hs hW hb hK
    obtain ⟨F, rfl⟩ : ∃ k, F = k + 1 := ⟨F - 1, by omega⟩
    have hn := hw.1
    have hc := hw.2.2.2.2.2.2.2.2.1
    have hm := hw.2.2.2.2.2.1
    have h32 := zb_p31 hn
    unfold twP at hK
    cases e : firstP (aN A) (aG A) (aK A) s w with
    | none => rw [e] at hK; exact ⟨fun _ => hK S hR hFM, fun z => absurd rfl z⟩
    | some q =>
      rw [e] at hK
      obtain ⟨h1, h2⟩ := firstP_lt e
      have hd := cu_dec h1 h2
      unfold wp_X7_thinksOn_27
      refine ⟨fun z => absurd z (oI_ne (by omega)), fun _ => ?_⟩
      show ∀ x8 : Int32, x8 = nI w ||| (1 : Int32) <<< ((nI q) &&& 31) → _
      refine nm_r (zb_or (by omega)) ?_
      show vp_in (nI g + 16) 168 ∧ vp_in (nI g + 10 + nI q) 168 ∧ ∀ S10 : tq_St, S10 = sA S 28 0 (nI g + 10 + nI q : Int32).toNatClampNeg (S.2.1 28 0 (nI g + 16 : Int32).toNatClampNeg + 1) → vp_in (nI g + 5 + nI q) 168 ∧ ∀ S12 : tq_St, S12 = sA S10 28 0 (nI g + 5 + nI q : Int32).toNatClampNeg 0 → _
      rw [ia16, ia10, ia5, ia, ia, nI_clamp (n := g + 16) (by omega), nI_clamp (n := g + 10 + q) (by omega), nI_clamp (n := g + 5 + q) (by omega)]
      have e1 : S.2.1 28 0 (g + 16) = nI (aM A) := hR.2.2.2.2.2.1
      rw [e1, nI_1]
      refine ⟨vp_in_nI (by omega) (by decide), vp_in_nI (by omega) (by decide), nm_e ⟨vp_in_nI (by omega) (by decide), nm_e ?_⟩⟩
      have r1 := hR.w hn hc (p := q) h1 (aM A + 1)
      have r2 := r1.s hn hc (p := q) h1 0
      refine m_setsOff r2 hn hc hg hw.g31 (un_le hs (by omega)) h1 (fun S3 a1 a2 => ?_)
      have hw3 : wfE (uW (uS A (wpS (aN A) (aG A) s q)) (un W q (aM A + 1))) := ⟨hn, hw.2.1, wpS_le hs, un_le hW (by omega), hw.2.2.2.2⟩
      have a1' : RM S3 g (uW (uS A (wpS (aN A) (aG A) s q)) (un W q (aM A + 1))) := a1
      have hb2 := zb_orlt hb h1
      refine m_ntw a1' hw3 hg (by omega) ?_
      exact ih F _ _ _ S3 (by omega) (by omega) a1' ((hFM.tr ((FM.rf.a (by omega) _).a (by omega) _)).tr a2) (wpS_le hs) (un_le hW (by omega)) hb2 hK
theorem m_thinksOn {p : Nat} {K : Int32 → tq_St → Prop} (hR : RM S g A) (hw : wfE A) (hg : g ≤ 140) (hp : p < aN A) (hK : ∀ S', RM S' g (thinkF A p) → FM g S S' → K (nI (tkF A p).2.2) S') : wp_X7_thinksOn (nI g) (nI p) S K := by
  have hn := hw.1
  have hc := hw.2.2.2.2.2.2.2.2.1
  have ht := hw.2.2.2.2.2.2.2.1
  unfold wp_X7_thinksOn
  rw [ia18, nI_clamp (by omega)]
  have e1 : S.2.1 28 0 (g + 18) = nI (aT A) - 4 := hR.2.2.2.2.2.2.2.1
  have e4 : (4 : Int32) = nI 4 := rfl
  rw [e1, e4, i_sub_add]
  refine ⟨vp_in_nI (by omega) (by decide), ?_⟩
  refine m_grieves hR hn hc hg hw.2.2.1 hp (by omega) (fun S2 a1 a2 => ?_)
  have hs2 : ∀ q, sadS (aS A) (some p) (aT A) q ≤ 40 := sadS_le hw.2.2.1
  have hw2 : wfE (uS A (sadS (aS A) (some p) (aT A))) := ⟨hn, hw.2.1, hs2, hw.2.2.2⟩
  refine m_ntw (w := 0) a1 hw2 hg (by decide) ?_
  exact m_th_27 hw hg (aN A) 2000 0 _ _ S2 (by exact fb_ct_le _ _) (by omega) a1 a2 hs2 hw.2.2.2.1 (Nat.two_pow_pos _) hK
-- A MINUTE
theorem i_sub0 (x : Int32) : x - 0 = x := by
  apply Int32.toBitVec_inj.1
  show x.toBitVec - BitVec.ofNat 32 0 = x.toBitVec
  simp
theorem m_min_2 {S0 : tq_St} {K : tq_St → Prop} (hw : wfE A) (hg : g ≤ 140) (hK : ∀ S', RM S' g (dryF A) → FM g S0 S' → K S') : ∀ (m p f : Nat) (S : tq_St), p + m = aN A → m < f → RM S g (uS A (dryS p (aG A) (aS A))) → FM g S0 S → wp_X7_minuteOn_2 K f (nI g) (nI p) S
  | 0, p, f + 1, S, h1, h2, hR, hF => by
    have hn := hw.1
    have hc := hw.2.2.2.2.2.2.2.2.1
    have hm := hw.2.2.2.2.2.1
    have hp : p = aN A := by omega
    subst hp
    unfold wp_X7_minuteOn_2
    rw [hR.1]
    refine pk_le (aN A) (aN A) (fun _ => ?_) (fun z => absurd z (by omega))
    rw [ia16, nI_clamp (by omega)]
    have e1 : S.2.1 28 0 (g + 16) = nI (aM A) := hR.2.2.2.2.2.1
    have hin : vp_in (nI (g + 16)) 168 := vp_in_nI (by omega) (by decide)
    rw [e1]
    refine ⟨hin, hin, pk_le 999 (aM A) (fun z => ⟨hin, nm_e ?_⟩) (fun z => ⟨hin, nm_e ?_⟩)⟩
    · have e0 : nI (aM A) + 0 = nI (aM A) := i_add0 _
      rw [e0]
      refine hK _ (hR.n hn hc (j := 16) (by omega) rfl rfl rfl rfl rfl rfl rfl ?_ rfl rfl) (hF.a (by omega) _)
      show (if (16 : Nat) = 16 then nI (aM A) else nI (aM A)) = nI (min 999 (aM A + 1))
      rw [if_pos rfl]; congr 1; omega
    · rw [nI_1]
      refine hK _ (hR.n hn hc (j := 16) (by omega) rfl rfl rfl rfl rfl rfl rfl ?_ rfl rfl) (hF.a (by omega) _)
      show (if (16 : Nat) = 16 then nI (aM A + 1) else nI (aM A)) = nI (min 999 (aM A + 1))
      rw [if_pos rfl]; congr 1; omega
  | m + 1, p, f + 1, S, h1, h2, hR, hF => by
    have hn := hw.1
    have hc := hw.2.2.2.2.2.2.2.2.1
    have hs := hw.2.2.1 p
    unfold wp_X7_minuteOn_2
    rw [hR.1]
    refine pk_le (aN A) p (fun z => absurd z (by omega)) (fun _ => ?_)
    rw [ia5, ia, nI_clamp (by omega)]
    have e1 : S.2.1 28 0 (g + 5 + p) = nI (aS A p) := by
      have := hR.2.2.1 p (by show p < aN A; omega)
      rw [show aS (uS A (dryS p (aG A) (aS A))) p = aS A p from dryS_at] at this
      exact this
    have hin : vp_in (nI (g + 5 + p)) 168 := vp_in_nI (by omega) (by decide)
    rw [e1]
    have hgo : ∀ x : Nat, x = (if (aG A).testBit p then aS A p else aS A p - 1) → wp_X7_minuteOn_2 K f (nI g) (nI (p + 1)) (sA S 28 0 (g + 5 + p) (nI x)) := by
      intro x hx
      refine m_min_2 hw hg hK m (p + 1) f _ (by omega) (by omega) ?_ (hF.a (by omega) _)
      rw [dryS_step (n := aN A) (by omega), ← hx]
      exact hR.s hn hc (p := p) (by show p < aN A; omega) x
    have h48 : ∀ k : Nat, k ≤ aS A p → aS A p - k = (if (aG A).testBit p then aS A p else aS A p - 1) → wp_X7_minuteOn_48 K (wp_X7_minuteOn_2 K f) (nI g) (nI p) (nI (g + 5 + p)) (nI (aS A p)) (nI k) S := by
      intro k hk hx
      unfold wp_X7_minuteOn_48
      rw [nI_clamp (by omega), pk_sub hk]
      exact ⟨hin, nm_e (nm_r (nI_1 p) (hgo _ hx))⟩
    refine ⟨hin, m_waits hR.2.2.2.2.1 hg hw.g31 (by omega) (fun hb => ?_) (fun hb => ?_)⟩
    · refine ⟨fun z => absurd z (by decide), fun _ => ⟨hin, ?_⟩⟩
      refine pk_le (aS A p) 0 (fun z => ?_) (fun z => ?_) e1
      · exact h48 0 (by omega) (by rw [if_neg (by rw [hb]; decide)]; omega)
      · exact h48 1 (by omega) (by rw [if_neg (by rw [hb]; decide)])
    · exact ⟨fun _ => h48 0 (by omega) (by rw [if_pos hb]; rfl), fun z => absurd rfl z⟩
theorem m_minuteOn {K : tq_St → Prop} (hR : RM S g A) (hw : wfE A) (hg : g ≤ 140) (hK : ∀ S', RM S' g (dryF A) → FM g S S' → K S') : wp_X7_minuteOn (nI g) S K := by
  refine m_min_2 hw hg hK (aN A) 0 2000 S (by omega) (by have := hw.1; omega) ?_ FM.rf
  have e : dryS 0 (aG A) (aS A) = aS A := by funext p; unfold dryS; rw [if_neg (by omega)]
  rw [e]
  exact hR
-- THE QUEUE, A TRAM
theorem zb_rkle1 {a b : Nat} (ha : a ≤ 1001) (hb : b ≤ 1001) : nI a - 1 ≤ nI b - 1 ↔ a ≤ b := by
  rw [fa_le]
  have h1 := pk_sub_toInt (a := a) (b := 1) (by omega) (by omega)
  have h2 := pk_sub_toInt (a := b) (b := 1) (by omega) (by omega)
  have e : nI 1 = (1 : Int32) := rfl
  rw [e] at h1 h2
  omega
theorem m_placeOn {p : Nat} {K : Int32 → tq_St → Prop} (hR : RM S g A) (hw : wfE A) (hg : g ≤ 140) (hp : p < aN A) (hK : K (nI (rkF A p) - 1) S) : wp_X7_placeOn (nI g) (nI p) S K := by
  have hn := hw.1
  have e1 : S.2.1 28 0 (g + p) = nI (aK A p) := hR.2.1 p hp
  have e2 : S.2.1 28 0 (g + 5 + p) = nI (aS A p) := hR.2.2.1 p hp
  have e3 : S.2.1 28 0 (g + 10 + p) = nI (aW A p) := hR.2.2.2.1 p hp
  have h29 : ¬ (aK A p = 2 ∧ aS A p = 0) → wp_X7_placeOn_29 K (nI g) (nI p) S := by
    intro h
    unfold wp_X7_placeOn_29 wp_X7_placeOn_30
    rw [ia10, ia, nI_clamp (by omega), e3]
    refine ⟨fun _ => ⟨vp_in_nI (by omega) (by decide), ?_⟩, fun z => absurd rfl z⟩
    unfold rkF at hK
    rw [if_neg h, nI_pred] at hK
    exact hK
  unfold wp_X7_placeOn
  rw [ia5, ia, ia, nI_clamp (n := g + p) (by omega), nI_clamp (n := g + 5 + p) (by omega), e1, e2]
  have c2 : (2 : Int32) = nI 2 := rfl
  have c0 : (0 : Int32) = nI 0 := rfl
  have hk := hw.2.1 p
  have hs := hw.2.2.1 p
  rw [c2, c0, nI_eq (by omega) (by decide), nI_eq (by omega) (by decide)]
  refine ⟨vp_in_nI (by omega) (by decide), fun h => h29 (fun z => h z.1), fun h => ⟨vp_in_nI (by omega) (by decide), fun h2 => h29 (fun z => h2 z.2), fun h2 => ?_⟩⟩
  refine ⟨fun z => absurd z (by decide), fun _ => ?_⟩
  unfold rkF at hK
  rw [if_pos ⟨h, h2⟩] at hK
  exact hK
theorem nxP_lt {but m q : Nat} (h : nxP A but m = some q) : q < m := by
  rcases nxP_spec A but m with ⟨e, -⟩ | ⟨r, e, h2⟩
  · rw [e] at h; cases h
  · rw [e] at h; cases h; exact h2.1
theorem m_nx_6 {but : Nat} {K : Int32 → tq_St → Prop} (hR : RM S g A) (hw : wfE A) (hg : g ≤ 140) (hb : but < 2 ^ 31) (hK : K (oI (nextF A but)) S) : ∀ (m p f : Nat), p + m = aN A → m < f → wp_X7_nextOn_6 K f (nI g) (nI but) (oI (nxP A but p)) (nI p) S
  | 0, p, f + 1, h1, h2 => by
    have hn := hw.1
    unfold wp_X7_nextOn_6
    rw [hR.1]
    refine pk_le (aN A) p (fun _ => ?_) (fun z => absurd z (by omega))
    rw [show p = aN A by omega]
    exact hK
  | m + 1, p, f + 1, h1, h2 => by
    have hn := hw.1
    have ih := m_nx_6 hR hw hg hb hK m (p + 1) f (by omega) (by omega)
    unfold wp_X7_nextOn_6
    rw [hR.1]
    refine pk_le (aN A) p (fun z => absurd z (by omega)) (fun _ => ?_)
    have h38 : nxP A but (p + 1) = nxP A but p → wp_X7_nextOn_38 K (wp_X7_nextOn_6 K f) (nI g) (nI but) (oI (nxP A but p)) (nI p) S := by
      intro e
      refine ⟨fun _ => nm_r (nI_1 p) ?_, fun z => absurd rfl z⟩
      rw [e] at ih
      exact ih
    refine m_waits hR.2.2.2.2.1 hg hw.g31 (by omega) (fun hbit => ?_) (fun hbit => ?_)
    · refine ⟨fun z => absurd z (by decide), fun _ => ?_⟩
      rw [zb_0 hb (by omega)]
      refine ⟨fun z => h38 ?_, fun z => ?_⟩
      · show (if _ then _ else _) = _
        rw [if_neg (by simp [z])]
      · refine ⟨fun c => absurd c (by decide), fun _ => ?_⟩
        cases e : nxP A but p with
        | none =>
          refine ⟨fun _ => nm_r (nI_1 p) ?_, fun c => absurd rfl c⟩
          have e2 : nxP A but (p + 1) = some p := by
            show (if _ then _ else _) = _
            rw [e, if_pos (by simp [hbit, z])]
          rw [e2] at ih
          exact ih
        | some j =>
          have hj := nxP_lt e
          refine ⟨fun c => absurd c (oI_ne (by omega)), fun _ => ?_⟩
          refine m_placeOn hR hw hg (by omega) ?_
          refine m_placeOn hR hw hg (by omega) ?_
          rw [zb_rkle1 (rkF_le hw _) (rkF_le hw _)]
          refine ⟨fun c => nm_r (nI_1 p) ?_, fun c => nm_r (nI_1 p) ?_⟩
          · have e2 : nxP A but (p + 1) = some j := by
              show (if _ then _ else _) = _
              rw [e, if_neg (by simp [c])]
            rw [e2] at ih
            exact ih
          · have e2 : nxP A but (p + 1) = some p := by
              show (if _ then _ else _) = _
              rw [e, if_pos (by simp [hbit, z]; omega)]
            rw [e2] at ih
            exact ih
    · refine ⟨fun _ => h38 ?_, fun z => absurd rfl z⟩
      show (if _ then _ else _) = _
      rw [if_neg (by simp [hbit])]
theorem m_nextOn {but : Nat} {K : Int32 → tq_St → Prop} (hR : RM S g A) (hw : wfE A) (hg : g ≤ 140) (hb : but < 2 ^ 31) (hK : K (oI (nextF A but)) S) : wp_X7_nextOn (nI g) (nI but) S K :=
  m_nx_6 hR hw hg hb hK (aN A) 0 2000 (by omega) (by have := hw.1; omega)
theorem m_tr_4 {K : Int32 → tq_St → Prop} (hR : RM S g A) (hw : wfE A) (hg : g ≤ 140) (hK : ∀ S', RM S' g (boardF A) → FM g S S' → K (nI (tramB A)) S') : ∀ (m i f : Nat), i + m = aR A → m < f → wp_X7_tramOn_4 K f (nI g) (nI (selB A i)) (nI i) S := by
  have hn := hw.1
  have hc := hw.2.2.2.2.2.2.2.2.1
  have hr := hw.2.2.2.2.2.2.1
  have h32 := zb_p31 hn
  have e17 : S.2.1 28 0 (g + 17) = nI (aR A) - 2 := hR.2.2.2.2.2.2.1
  have e15 : S.2.1 28 0 (g + 15) = nI (aG A) := hR.2.2.2.2.1
  have e2 : (2 : Int32) = nI 2 := rfl
  intro m
  induction m with
  | zero =>
    intro i f h1 h2
    obtain ⟨f, rfl⟩ : ∃ k, f = k + 1 := ⟨f - 1, by omega⟩
    unfold wp_X7_tramOn_4
    rw [ia17, nI_clamp (n := g + 17) (by omega), e17, e2, i_sub_add]
    refine ⟨vp_in_nI (by omega) (by decide), pk_le (aR A) i (fun _ => ?_) (fun z => absurd z (by omega))⟩
    rw [ia15, nI_clamp (n := g + 15) (by omega), e15, fa_or]
    refine ⟨vp_in_nI (by omega) (by decide), vp_in_nI (by omega) (by decide), nm_e ?_⟩
    rw [show i = aR A by omega]
    exact hK _ (hR.n hn hc (j := 15) (by omega) rfl rfl rfl rfl rfl rfl rfl rfl rfl rfl) (FM.rf.a (by omega) _)
  | succ m ih =>
    intro i f h1 h2
    obtain ⟨f, rfl⟩ : ∃ k, f = k + 1 := ⟨f - 1, by omega⟩
    unfold wp_X7_tramOn_4
    rw [ia17, nI_clamp (n := g + 17) (by omega), e17, e2, i_sub_add]
    refine ⟨vp_in_nI (by omega) (by decide), pk_le (aR A) i (fun z => absurd z (by omega)) (fun _ => ?_)⟩
    have hb := selB_lt A i
    have ih2 := ih (i + 1) f (by omega) (by omega)
    refine m_nextOn hR hw hg (by omega) ?_
    cases e : nextF A (selB A i) with
    | none =>
      refine ⟨fun z => absurd rfl z, fun _ => ?_⟩
      unfold wp_X7_tramOn_43
      have e0 : nI (selB A i) ||| 0 = nI (selB A i) := i_or0 _
      refine nm_r e0 (nm_r (nI_1 i) ?_)
      have e3 : selB A (i + 1) = selB A i := by
        show (match nextF A (selB A i) with | none => selB A i | some p => selB A i ||| 2 ^ p) = _
        rw [e]
      rw [e3] at ih2
      exact ih2
    | some q =>
      have hq := (next_lt e).1
      refine ⟨fun _ => ?_, fun z => absurd z (oI_ne (by omega))⟩
      unfold wp_X7_tramOn_43
      refine nm_r (zb_or (by omega)) (nm_r (nI_1 i) ?_)
      have e3 : selB A (i + 1) = selB A i ||| 2 ^ q := by
        show (match nextF A (selB A i) with | none => selB A i | some p => selB A i ||| 2 ^ p) = _
        rw [e]
      rw [e3] at ih2
      exact ih2
theorem m_tramOn {K : Int32 → tq_St → Prop} (hR : RM S g A) (hw : wfE A) (hg : g ≤ 140) (hK : ∀ S', RM S' g (boardF A) → FM g S S' → K (nI (tramB A)) S') : wp_X7_tramOn (nI g) S K :=
  m_tr_4 hR hw hg hK (aR A) 0 2000 (by omega) (by have := hw.2.2.2.2.2.2.1; omega)
end EVN
end
section
section EVR
variable {S : tq_St} {g : Nat} {A : aE}
-- HOW MANY BITS
theorem pcN_split {w : Nat} (h : w < 2 ^ 31) {i : Nat} (hi : i ≤ 31) (h0 : w / 2 ^ i = 0) : pcN w = fb_ct (fun j => w.testBit j) i := by
  unfold pcN
  have e := fb_ct_split (fun j => w.testBit j) i (31 - i)
  rw [show i + (31 - i) = 31 by omega] at e
  rw [e]
  have hz : fb_ct (fun k => w.testBit (i + k)) (31 - i) = 0 := by
    rw [fb_ct_zero]
    intro k hk
    have hlt : w < 2 ^ i := by
      have := Nat.div_eq_zero_iff.mp h0
      rcases this with z | z
      · have := Nat.two_pow_pos i; omega
      · exact z
    exact Nat.testBit_lt_two_pow (Nat.lt_of_lt_of_le hlt (Nat.pow_le_pow_right (by decide) (by omega)))
  omega
theorem m_bits_4 {w : Nat} {K : Int32 → tq_St → Prop} (hw : w < 2 ^ 31) (hK : K (nI (pcN w)) S) : ∀ (m i f : Nat), i + m = 31 → m < f → wp_X7_bitsOf_4 K f (nI (fb_ct (fun j => w.testBit j) i)) (nI (w / 2 ^ i)) S
  | 0, i, f + 1, h1, h2 => by
    have hi : i = 31 := by omega
    subst hi
    have e : w / 2 ^ 31 = 0 := Nat.div_eq_of_lt hw
    rw [e]
    refine ⟨fun _ => ?_, fun z => absurd (by decide) z⟩
    rw [← pcN_split hw (Nat.le_refl _) e]
    exact hK
  | m + 1, i, f + 1, h1, h2 => by
    have hlt : w / 2 ^ i < 2 ^ 31 := Nat.lt_of_le_of_lt (Nat.div_le_self _ _) hw
    unfold wp_X7_bitsOf_4
    refine pk_le (w / 2 ^ i) 0 (fun z => ?_) (fun z => ?_)
    · rw [← pcN_split hw (by omega) (Nat.le_zero.mp z)]
      exact hK
    · have e1 : nI (w / 2 ^ i) &&& 1 = nI (if w.testBit i then 1 else 0) := by
        rw [pk_andN (by omega) (m := 1) 1 (by decide)]
        congr 1
        rw [Nat.testBit_eq_decide_div_mod_eq]
        have h2 : w / 2 ^ i % 2 < 2 := Nat.mod_lt _ (by decide)
        by_cases h : w / 2 ^ i % 2 = 1
        · simp [h]
        · have h3 : w / 2 ^ i % 2 = 0 := by omega
          simp [h3]
      have e2 : nI (w / 2 ^ i) >>> ((1 : Int32) &&& 31) = nI (w / 2 ^ (i + 1)) := by
        have h9 : (1 : Int32) = nI 1 := rfl
        rw [h9, pk_shrN hlt _ 1 (s_l 1 (by decide)), Nat.div_div_eq_div_mul, ← Nat.pow_succ]
      rw [e1, e2]
      refine nm_r (nI_add _ _) (nm_e ?_)
      have ih := m_bits_4 hw hK m (i + 1) f (by omega) (by omega)
      rw [fb_ct_succ] at ih
      exact ih
theorem m_bitsOf {w : Nat} {K : Int32 → tq_St → Prop} (hw : w < 2 ^ 31) (hK : K (nI (pcN w)) S) : wp_X7_bitsOf (nI w) S K := by
  have h := m_bits_4 hw hK 31 0 2000 (by omega) (by omega)
  rw [Nat.pow_zero, Nat.div_one] at h
  exact h
-- ALL SORROW, WHO WAITS
theorem m_sorrow_4 {K : Int32 → tq_St → Prop} (hR : RM S g A) (hw : wfE A) (hg : g ≤ 140) (hK : K (nI (sorF A)) S) : ∀ (m p f : Nat), p + m = aN A → m < f → wp_X7_sorrowOn_4 K f (nI g) (nI (fb_sm (fun p => if (aG A).testBit p then 0 else aS A p) p)) (nI p) S
  | 0, p, f + 1, h1, h2 => by
    have hn := hw.1
    unfold wp_X7_sorrowOn_4
    rw [hR.1]
    refine pk_le (aN A) p (fun _ => ?_) (fun z => absurd z (by omega))
    rw [show p = aN A by omega]
    exact hK
  | m + 1, p, f + 1, h1, h2 => by
    have hn := hw.1
    have ih := m_sorrow_4 hR hw hg hK m (p + 1) f (by omega) (by omega)
    rw [fb_sm_succ] at ih
    unfold wp_X7_sorrowOn_4
    rw [hR.1]
    refine pk_le (aN A) p (fun z => absurd z (by omega)) (fun _ => ?_)
    refine m_waits hR.2.2.2.2.1 hg hw.g31 (by omega) (fun hb => ?_) (fun hb => ?_)
    · refine ⟨fun z => absurd z (by decide), fun _ => ?_⟩
      rw [ia5, ia, nI_clamp (by omega)]
      have e1 : S.2.1 28 0 (g + 5 + p) = nI (aS A p) := hR.2.2.1 p (by omega)
      rw [e1]
      refine ⟨vp_in_nI (by omega) (by decide), ?_⟩
      unfold wp_X7_sorrowOn_36
      refine nm_r (nI_add _ _) (nm_r (nI_1 p) ?_)
      rw [if_neg (by rw [hb]; decide)] at ih
      exact ih
    · refine ⟨fun _ => ?_, fun z => absurd rfl z⟩
      unfold wp_X7_sorrowOn_36
      refine nm_r (nI_add _ 0) (nm_r (nI_1 p) ?_)
      rw [if_pos hb] at ih
      exact ih
theorem m_sorrowOn {K : Int32 → tq_St → Prop} (hR : RM S g A) (hw : wfE A) (hg : g ≤ 140) (hK : K (nI (sorF A)) S) : wp_X7_sorrowOn (nI g) S K :=
  m_sorrow_4 hR hw hg hK (aN A) 0 2000 (by omega) (by have := hw.1; omega)
theorem m_waitingOn {K : Int32 → tq_St → Prop} (hR : RM S g A) (hg : g ≤ 140) (hK : K (wbI (aN A) (aG A)) S) : wp_X7_waitingOn (nI g) S K := by
  unfold wp_X7_waitingOn
  rw [ia15, nI_clamp (by omega)]
  have e1 : S.2.1 28 0 (g + 15) = nI (aG A) := hR.2.2.2.2.1
  rw [e1, hR.1]
  exact ⟨vp_in_nI (by omega) (by decide), hK⟩
-- A COPY
theorem m_copies_2 {S0 : tq_St} {a b : Nat} {K : tq_St → Prop} (ha : a ≤ 140) (hb : b ≤ 140) (hd : a + 28 ≤ b ∨ b + 28 ≤ a) (hK : ∀ S', FM b S0 S' → (∀ j, j < 28 → pg S' (b + j) = pg S0 (a + j)) → K S') : ∀ (m i f : Nat) (S : tq_St), i + m = 28 → m < f → FM b S0 S → (∀ j, j < i → pg S (b + j) = pg S0 (a + j)) → wp_X7_copies_2 K f (nI a) (nI b) (nI i) S
  | 0, i, f + 1, S, h1, h2, hF, hI => by
    have hi : i = 28 := by omega
    subst hi
    exact pk_le 28 28 (fun _ => hK S hF hI) (fun z => absurd z (by omega))
  | m + 1, i, f + 1, S, h1, h2, hF, hI => by
    unfold wp_X7_copies_2
    refine pk_le 28 i (fun z => absurd z (by omega)) (fun _ => ?_)
    rw [ia, ia, nI_clamp (n := b + i) (by omega), nI_clamp (n := a + i) (by omega)]
    refine ⟨vp_in_nI (by omega) (by decide), vp_in_nI (by omega) (by decide), nm_e (nm_r (nI_1 i) ?_)⟩
    refine m_copies_2 ha hb hd hK m (i + 1) f _ (by omega) (by omega) (hF.a (by omega) _) (fun j hj => ?_)
    rw [pg_at]
    by_cases e : j = i
    · subst e; rw [if_pos rfl]; exact hF.2.2.2.1 _ (by omega)
    · rw [if_neg (by omega)]; exact hI j (by omega)
theorem m_copies {a b : Nat} {K : tq_St → Prop} (ha : a ≤ 140) (hb : b ≤ 140) (hd : a + 28 ≤ b ∨ b + 28 ≤ a) (hR : RM S a A) (hn : aN A ≤ 5) (hc : aC A ≤ 8) (hK : ∀ S', FM b S S' → RM S' b A → K S') : wp_X7_copies (nI a) (nI b) S K := by
  refine m_copies_2 ha hb hd (fun S' f h => hK S' f ?_) 28 0 2000 S (by omega) (by omega) FM.rf (fun j hj => by omega)
  obtain ⟨h1, h2, h3, h4, h5, h6, h7, h8, h9, h10, h11⟩ := hR
  refine ⟨by rw [f.1]; exact h1, fun p hp => ?_, fun p hp => ?_, fun p hp => ?_, ?_, ?_, ?_, ?_, ?_, fun i hi => ?_, fun k hk => ?_⟩
  · rw [h p (by omega)]; exact h2 p hp
  · rw [Nat.add_assoc, h (5 + p) (by omega), ← Nat.add_assoc]; exact h3 p hp
  · rw [Nat.add_assoc, h (10 + p) (by omega), ← Nat.add_assoc]; exact h4 p hp
  · rw [h 15 (by omega)]; exact h5
  · rw [h 16 (by omega)]; exact h6
  · rw [h 17 (by omega)]; exact h7
  · rw [h 18 (by omega)]; exact h8
  · rw [h 27 (by omega)]; exact h9
  · rw [Nat.add_assoc, h (19 + i) (by omega), ← Nat.add_assoc]; exact h10 i hi
  · rw [f.2.2.1 1 (by decide)]; exact h11 k hk
-- ON TRIAL: the page at 112 and the tallies
def FT (S S' : tq_St) : Prop := (∀ o, o ≠ 28 → S'.1 o = S.1 o ∧ S'.2.1 o = S.2.1 o) ∧ (∀ k, k ≠ 18 → k ≠ 19 → k ≠ 20 → S'.1 28 k = S.1 28 k) ∧ (∀ k, k ≠ 0 → S'.2.1 28 k = S.2.1 28 k) ∧ (∀ i, i < 112 ∨ 140 ≤ i → pg S' i = pg S i) ∧ S'.2.2 = S.2.2
theorem FT.rf : FT S S := ⟨fun _ _ => ⟨rfl, rfl⟩, fun _ _ _ _ => rfl, fun _ _ => rfl, fun _ _ => rfl, rfl⟩
theorem FT.tr {S T U : tq_St} (h : FT S T) (h2 : FT T U) : FT S U := ⟨fun o ho => ⟨((h2.1 o ho).1).trans (h.1 o ho).1, ((h2.1 o ho).2).trans (h.1 o ho).2⟩, fun k a b c => (h2.2.1 k a b c).trans (h.2.1 k a b c), fun k hk => (h2.2.2.1 k hk).trans (h.2.2.1 k hk), fun i hi => (h2.2.2.2.1 i hi).trans (h.2.2.2.1 i hi), h2.2.2.2.2.trans h.2.2.2.2⟩
theorem FM.ft {S S' : tq_St} (h : FM 112 S S') : FT S S' := ⟨fun o ho => ⟨by rw [h.1], h.2.1 o ho⟩, fun k _ _ _ => by rw [h.1], h.2.2.1, h.2.2.2.1, h.2.2.2.2⟩
theorem FT.I {S T : tq_St} (h : FT S T) {k : Nat} (hk : 18 ≤ k ∧ k ≤ 20) (v : Int32) : FT S (sI T 28 k v) :=
  h.tr ⟨fun o ho => ⟨sI_1n T ho, rfl⟩, fun j a b c => by rw [sI_1, if_neg (by omega)], fun _ _ => rfl, fun _ _ => rfl, rfl⟩
theorem RM.ft {S' : tq_St} (h : RM S g A) (f : FT S S') (hn : aN A ≤ 5) (hc : aC A ≤ 8) (hd : g + 28 ≤ 112 ∨ 140 ≤ g) : RM S' g A := by
  obtain ⟨h1, h2, h3, h4, h5, h6, h7, h8, h9, h10, h11⟩ := h
  obtain ⟨f1, f2, f3, f4, f5⟩ := f
  refine ⟨by rw [f2 2 (by decide) (by decide) (by decide)]; exact h1, fun p hp => ?_, fun p hp => ?_, fun p hp => ?_, ?_, ?_, ?_, ?_, ?_, fun i hi => ?_, fun k hk => ?_⟩
  · rw [f4 _ (by omega)]; exact h2 p hp
  · rw [f4 _ (by omega)]; exact h3 p hp
  · rw [f4 _ (by omega)]; exact h4 p hp
  · rw [f4 _ (by omega)]; exact h5
  · rw [f4 _ (by omega)]; exact h6
  · rw [f4 _ (by omega)]; exact h7
  · rw [f4 _ (by omega)]; exact h8
  · rw [f4 _ (by omega)]; exact h9
  · rw [f4 _ (by omega)]; exact h10 i hi
  · rw [f3 1 (by decide)]; exact h11 k hk
theorem RM.i (h : RM S g A) {k : Nat} (hk : k ≠ 2) (v : Int32) : RM (sI S 28 k v) g A := by
  obtain ⟨h1, hr⟩ := h
  refine ⟨by rw [sI_1, if_neg (by omega)]; exact h1, hr⟩
def TM (S : tq_St) (t : aY) : Prop := S.1 28 18 = nI t.1 ∧ S.1 28 19 = nI t.2.1 ∧ S.1 28 20 = oI t.2.2
theorem m_begins {K : tq_St → Prop} (hR : RM S g A) (hw : wfE A) (hg : g + 28 ≤ 112 ∨ g = 140) (hK : ∀ S', RM S' 112 A → FT S S' → TM S' (0, 0, none) → K S') : wp_X7_begins (nI g) S K := by
  unfold wp_X7_begins
  refine m_copies (b := 112) (by omega) (by omega) (by omega) hR hw.1 hw.2.2.2.2.2.2.2.2.1 (fun S2 f r => ?_)
  refine nm_e (nm_e (nm_e ?_))
  refine hK _ (((r.i (by decide) _).i (by decide) _).i (by decide) _) (((f.ft.I (by omega) _).I (by omega) _).I (by omega) _) ⟨?_, ?_, ?_⟩
  · simp [sI_1]; rfl
  · simp [sI_1]; rfl
  · simp [sI_1]; rfl
theorem m_acts {a : Nat} {t : aY} {K : Int32 → tq_St → Prop} (hR : RM S 112 A) (hw : wfE A) (ha : okA (aN A) a) (hT : TM S t) (hK : ∀ S', RM S' 112 (playF A a) → FT S S' → TM S' (t.1 ||| plW A a, t.2.1 + pcN (plW A a), t.2.2) → K (bI (plD A a)) S') : wp_X7_acts (nI a) S K := by
  have hn := hw.1
  have h32 := zb_p31 hn
  unfold okA at ha
  unfold wp_X7_acts
  have e5 : (5 : Int32) = nI 5 := rfl
  have e6 : (6 : Int32) = nI 6 := rfl
  have e112 : (112 : Int32) = nI 112 := rfl
  rw [e5, e6, e112, nI_eq (by omega) (by decide), nI_eq (by omega) (by decide)]
  unfold playF plW plD at hK
  refine ⟨fun h5 => ⟨fun h6 => ?_, fun h6 => ?_⟩, fun h5 => ?_⟩
  · rw [if_neg h5, if_neg h6, if_neg h5, if_neg h6, if_neg h5, if_neg h6] at hK
    have ha2 : a < aN A := by omega
    refine m_waits hR.2.2.2.2.1 (by omega) hw.g31 (by omega) (fun hb => ?_) (fun hb => ?_)
    · refine ⟨fun z => absurd z (by decide), fun _ => ?_⟩
      simp only [hb, Bool.false_eq_true, if_false] at hK
      refine m_thinksOn hR hw (by omega) ha2 (fun S2 a1 a2 => nm_e ?_)
      have hlt := (thinkF_wf hw a).2
      refine m_bitsOf (by omega) (nm_e ?_)
      refine hK _ ((a1.i (by decide) _).i (by decide) _) ((a2.ft.I (by omega) _).I (by omega) _) ⟨?_, ?_, ?_⟩
      · rw [sI_1, if_neg (by decide), sI_1, if_pos rfl, a2.1, hT.1, fa_or]
      · rw [sI_1, if_pos rfl, sI_1, if_neg (by decide), a2.1, hT.2.1, nI_add]
      · rw [sI_1, if_neg (by decide), sI_1, if_neg (by decide), a2.1, hT.2.2]
    · refine ⟨fun _ => ?_, fun z => absurd rfl z⟩
      simp only [hb, if_true] at hK
      exact hK S hR FT.rf ⟨by rw [hT.1, Nat.or_zero], by rw [hT.2.1, pcN_0, Nat.add_zero], hT.2.2⟩
  · rw [if_neg h5, if_pos h6, if_neg h5, if_pos h6, if_neg h5, if_pos h6] at hK
    refine m_tramOn hR hw (by omega) (fun S2 a1 a2 => hK S2 a1 a2.ft ⟨?_, ?_, ?_⟩)
    · rw [a2.1, hT.1, Nat.or_zero]
    · rw [a2.1, hT.2.1, pcN_0, Nat.add_zero]
    · rw [a2.1, hT.2.2]
  · rw [if_pos h5, if_pos h5, if_pos h5] at hK
    refine m_minuteOn hR hw (by omega) (fun S2 a1 a2 => hK S2 a1 a2.ft ⟨?_, ?_, ?_⟩)
    · rw [a2.1, hT.1, Nat.or_zero]
    · rw [a2.1, hT.2.1, pcN_0, Nat.add_zero]
    · rw [a2.1, hT.2.2]
-- THE PLAN, SOME ACTS LEFT OUT
def goM (ac : Nat → Nat) (but : Nat) : Nat → Nat → aE → aY → aE × aY
  | 0, _, A, t => (A, t)
  | m + 1, i, A, t => if but.testBit i then goM ac but m (i + 1) A t else goM ac but m (i + 1) (playF A (ac i)) (t.1 ||| plW A (ac i), t.2.1 + pcN (plW A (ac i)), if plD A (ac i) then t.2.2 else match t.2.2 with
    | none => some i
    | some j => some j)
theorem goM_0 (ac : Nat → Nat) : ∀ (m i : Nat) (A : aE) (t : aY), goM ac 0 m i A t = goP ac m i A t
  | 0, i, A, t => rfl
  | m + 1, i, A, t => by
    unfold goM goP
    rw [if_neg (by simp), goM_0 ac m]
    rfl
abbrev planM (A : aE) (but : Nat) : aE × aY := goM (aA A) but (aC A) 0 A (0, 0, none)
theorem goM_ok {ac : Nat → Nat} {but : Nat} : ∀ (m i : Nat) (A : aE) (t : aY), wfE A → wfE (goM ac but m i A t).1 ∧ aN (goM ac but m i A t).1 = aN A
  | 0, i, A, t, hw => ⟨hw, rfl⟩
  | m + 1, i, A, t, hw => by
    unfold goM
    by_cases h : but.testBit i = true
    · rw [if_pos h]; exact goM_ok m _ A t hw
    · rw [if_neg h]
      obtain ⟨h1, h2⟩ := goM_ok (ac := ac) (but := but) m (i + 1) (playF A (ac i)) (t.1 ||| plW A (ac i), t.2.1 + pcN (plW A (ac i)), if plD A (ac i) then t.2.2 else match t.2.2 with
        | none => some i
        | some j => some j) (playF_wf hw _)
      exact ⟨h1, h2.trans (playF_same A (ac i)).1⟩
theorem m_pg_7 {S0 : tq_St} {P : aE} {but : Nat} {K : tq_St → Prop} (hP : RM S0 g P) (hwP : wfE P) (hg : g + 28 ≤ 112 ∨ g = 140) (hb : but < 2 ^ 31) : ∀ (m i f : Nat) (A : aE) (t : aY) (S : tq_St), i + m = aC P → m < f → wfE A → aN A = aN P → RM S 112 A → TM S t → (∀ j, t.2.2 = some j → j < 8) → FT S0 S → (∀ S', RM S' 112 (goM (aA P) but m i A t).1 → TM S' (goM (aA P) but m i A t).2 → FT S0 S' → K S') → wp_X7_planGoes_7 K f (nI g) (nI but) (nI i) S
  | 0, i, f + 1, A, t, S, h1, h2, hw, hN, hR, hT, hj, hF, hK => by
    have hcP := hwP.2.2.2.2.2.2.2.2.1
    have hS := hP.ft hF hwP.1 hcP (by omega)
    have e27 : S.2.1 28 0 (g + 27) = nI (aC P) := hS.2.2.2.2.2.2.2.2.1
    unfold wp_X7_planGoes_7
    rw [ia27, nI_clamp (n := g + 27) (by omega), e27]
    exact ⟨vp_in_nI (by omega) (by decide), pk_le (aC P) i (fun _ => hK S hR hT hF) (fun z => absurd z (by omega))⟩
  | m + 1, i, f + 1, A, t, S, h1, h2, hw, hN, hR, hT, hj, hF, hK => by
    have hcP := hwP.2.2.2.2.2.2.2.2.1
    have hS := hP.ft hF hwP.1 hcP (by omega)
    have e27 : S.2.1 28 0 (g + 27) = nI (aC P) := hS.2.2.2.2.2.2.2.2.1
    have e19 : S.2.1 28 0 (g + 19 + i) = nI (aA P i) := hS.2.2.2.2.2.2.2.2.2.1 i (by omega)
    unfold wp_X7_planGoes_7
    rw [ia27, nI_clamp (n := g + 27) (by omega), e27]
    refine ⟨vp_in_nI (by omega) (by decide), pk_le (aC P) i (fun z => absurd z (by omega)) (fun _ => ?_)⟩
    rw [zb_0 hb (by omega)]
    unfold goM at hK
    refine ⟨fun z => nm_r (nI_1 i) ?_, fun z => ?_⟩
    · have hbt : but.testBit i = true := by
        cases h : but.testBit i
        · exact absurd h z
        · rfl
      rw [if_pos hbt] at hK
      exact m_pg_7 hP hwP hg hb m (i + 1) f A t S (by omega) (by omega) hw hN hR hT hj hF hK
    · rw [if_neg (by rw [z]; decide)] at hK
      rw [ia19, ia, nI_clamp (n := g + 19 + i) (by omega), e19]
      refine ⟨vp_in_nI (by omega) (by decide), ?_⟩
      have hok : okA (aN A) (aA P i) := by rw [hN]; exact hwP.2.2.2.2.2.2.2.2.2 i (by omega)
      have hN2 := (playF_same A (aA P i)).1.trans hN
      refine m_acts hR hw hok hT (fun S' a1 a2 a3 => ?_)
      cases hd : plD A (aA P i)
      · refine ⟨fun z => absurd rfl z, fun _ => ?_⟩
        simp only [hd, Bool.false_eq_true, if_false] at hK
        rw [a3.2.2]
        cases ht : t.2.2 with
        | none =>
          rw [ht] at hK
          refine ⟨fun z => absurd rfl z, fun _ => nm_e (nm_r (nI_1 i) ?_)⟩
          refine m_pg_7 hP hwP hg hb m (i + 1) f _ _ _ (by omega) (by omega) (playF_wf hw _) hN2 (a1.i (by decide) _) ⟨?_, ?_, ?_⟩ (fun j e => by cases e; omega) ((hF.tr a2).I (by omega) _) hK
          · rw [sI_1, if_neg (by decide)]; exact a3.1
          · rw [sI_1, if_neg (by decide)]; exact a3.2.1
          · rw [sI_1, if_pos rfl]; rfl
        | some j =>
          rw [ht] at hK
          refine ⟨fun _ => nm_e (nm_r (nI_1 i) ?_), fun z => absurd z (oI_ne (by have := hj j ht; omega))⟩
          refine m_pg_7 hP hwP hg hb m (i + 1) f _ _ _ (by omega) (by omega) (playF_wf hw _) hN2 (a1.i (by decide) _) ⟨?_, ?_, ?_⟩ (fun j' e => by cases e; exact hj j ht) ((hF.tr a2).I (by omega) _) hK
          · rw [sI_1, if_neg (by decide)]; exact a3.1
          · rw [sI_1, if_neg (by decide)]; exact a3.2.1
          · rw [sI_1, if_pos rfl]
      · refine ⟨fun _ => nm_r (nI_1 i) ?_, fun z => absurd z (by decide)⟩
        simp only [hd, if_true] at hK
        exact m_pg_7 hP hwP hg hb m (i + 1) f _ _ _ (by omega) (by omega) (playF_wf hw _) hN2 a1 a3 hj (hF.tr a2) hK
theorem m_planGoes {but : Nat} {K : tq_St → Prop} (hR : RM S g A) (hw : wfE A) (hg : g + 28 ≤ 112 ∨ g = 140) (hb : but < 2 ^ 31) (hK : ∀ S', RM S' 112 (planM A but).1 → TM S' (planM A but).2 → FT S S' → K S') : wp_X7_planGoes (nI g) (nI but) S K := by
  unfold wp_X7_planGoes
  refine m_begins hR hw hg (fun S2 a1 a2 a3 => ?_)
  exact m_pg_7 hR hw hg hb (aC A) 0 2000 A _ S2 (by omega) (by have := hw.2.2.2.2.2.2.2.2.1; omega) hw rfl a1 a3 (fun j e => by cases e) a2 hK
end EVR
end
section
-- ALL THAT THERE IS: now, images, tape, fault, seen, sheets (lane, length, cells), torn
abbrev aQ : Type := aE × (Nat → Option aE) × (Nat × (Nat → Nat)) × Nat × (Nat × (Nat → Nat) × (Nat → Bool)) × (Nat → Option Nat × Nat × (Nat → Int32)) × Nat
abbrev qA (G : aQ) : aE := G.1
abbrev qI (G : aQ) : Nat → Option aE := G.2.1
abbrev qT (G : aQ) : Nat × (Nat → Nat) := G.2.2.1
abbrev qF (G : aQ) : Nat := G.2.2.2.1
abbrev qS (G : aQ) : Nat × (Nat → Nat) × (Nat → Bool) := G.2.2.2.2.1
abbrev qH (G : aQ) : Nat → Option Nat × Nat × (Nat → Int32) := G.2.2.2.2.2.1
abbrev qO (G : aQ) : Nat := G.2.2.2.2.2.2
abbrev vA (G : aQ) (A : aE) : aQ := (A, qI G, qT G, qF G, qS G, qH G, qO G)
abbrev vI (G : aQ) (x : Nat → Option aE) : aQ := (qA G, x, qT G, qF G, qS G, qH G, qO G)
abbrev vT (G : aQ) (x : Nat × (Nat → Nat)) : aQ := (qA G, qI G, x, qF G, qS G, qH G, qO G)
abbrev vF (G : aQ) (x : Nat) : aQ := (qA G, qI G, qT G, x, qS G, qH G, qO G)
abbrev vS (G : aQ) (x : Nat × (Nat → Nat) × (Nat → Bool)) : aQ := (qA G, qI G, qT G, qF G, x, qH G, qO G)
abbrev vH (G : aQ) (x : Nat → Option Nat × Nat × (Nat → Int32)) : aQ := (qA G, qI G, qT G, qF G, qS G, x, qO G)
abbrev vO (G : aQ) (x : Nat) : aQ := (qA G, qI G, qT G, qF G, qS G, qH G, x)
/-- what is always so -/
def wfQ (G : aQ) : Prop := wfE (qA G) ∧ (∀ k B, qI G k = some B → wfE B ∧ aN B = aN (qA G)) ∧ ((qT G).1 ≤ 160 ∧ ∀ i, (qT G).2 i < 128) ∧ qF G ≤ 6 ∧ ((qS G).1 ≤ 6 ∧ ∀ i, (qS G).2.1 i < 5) ∧ (∀ k l, (qH G k).1 = some l → l < 3) ∧ (∀ k, (qH G k).2.1 ≤ 40) ∧ qO G ≤ 3
def CI (S : tq_St) (k : Nat) (x : Option aE) : Prop := match x with
  | none => S.2.1 27 7 k = 0
  | some B => S.2.1 27 7 k = 1 ∧ RC S (17 + k) B
def CH (S : tq_St) (k : Nat) (x : Option Nat × Nat × (Nat → Int32)) : Prop := match x.1 with
  | none => S.1 (23 + k) 1 = 0
  | some l => S.1 (23 + k) 1 = 1 ∧ S.1 (23 + k) 2 = nI l ∧ S.1 (23 + k) 3 = nI x.2.1 ∧ ∀ i, i < 40 → S.2.1 (23 + k) 0 i = x.2.2 i
/-- the class holds G -/
def RQ (S : tq_St) (G : aQ) : Prop := RC S 0 (qA G) ∧ (∀ k, k < 2 → CI S k (qI G k)) ∧ (S.1 19 2 = nI (qT G).1 ∧ ∀ i, i < (qT G).1 → S.2.1 19 0 i = nI ((qT G).2 i)) ∧ S.1 19 3 = nI (qF G) ∧ (S.1 20 2 = nI (qS G).1 ∧ ∀ i, i < (qS G).1 → S.2.1 20 0 i = nI ((qS G).2.1 i) ∧ S.2.1 20 1 i = bI ((qS G).2.2 i)) ∧ (∀ k, k < 4 → CH S k (qH G k)) ∧ S.1 27 10 = nI (qO G)
/-- the reference's part is untouched -/
def FC (S S' : tq_St) : Prop := S'.1 28 = S.1 28 ∧ S'.2.1 28 = S.2.1 28
theorem FC.rf {S : tq_St} : FC S S := ⟨rfl, rfl⟩
theorem FC.tr {S T U : tq_St} (h : FC S T) (h2 : FC T U) : FC S U := ⟨h2.1.trans h.1, h2.2.trans h.2⟩
theorem Fr.fc {o : Nat} {S S' : tq_St} (h : Fr o S S') (ho : o ≠ 28) : FC S S' := h.1 28 (fun e => ho e.symm)
/-- only what is made anew at each use has changed -/
def FX (S S' : tq_St) : Prop := (∀ o, (o = 0 ∨ 17 ≤ o) → o ≠ 21 → o ≠ 22 → o ≠ 27 → S'.1 o = S.1 o ∧ S'.2.1 o = S.2.1 o) ∧ S'.1 27 = S.1 27 ∧ (∀ k, k ≠ 9 → S'.2.1 27 k = S.2.1 27 k)
theorem FX.rf {S : tq_St} : FX S S := ⟨fun _ _ _ _ _ => ⟨rfl, rfl⟩, rfl, fun _ _ => rfl⟩
theorem FX.tr {S T U : tq_St} (h : FX S T) (h2 : FX T U) : FX S U := ⟨fun o a b c d => ⟨((h2.1 o a b c d).1).trans (h.1 o a b c d).1, ((h2.1 o a b c d).2).trans (h.1 o a b c d).2⟩, h2.2.1.trans h.2.1, fun k hk => (h2.2.2 k hk).trans (h.2.2 k hk)⟩
theorem Fr.fx {o : Nat} {S S' : tq_St} (h : Fr o S S') (ho : (1 ≤ o ∧ o < 17) ∨ o = 21) : FX S S' := ⟨fun o' a b c d => h.1 o' (by omega), (h.1 27 (by omega)).1, fun k _ => by rw [(h.1 27 (by omega)).2]⟩
theorem FX.fc {S S' : tq_St} (h : FX S S') : FC S S' := h.1 28 (by omega) (by decide) (by decide) (by decide)
theorem RC.fx {S S' : tq_St} {o : Nat} {A : aE} (h : RC S o A) (f : FX S S') (ho : o = 0 ∨ o = 17 ∨ o = 18) : RC S' o A := by
  have := f.1 o (by omega) (by omega) (by omega) (by omega)
  unfold RC
  rw [this.1, this.2]
  exact h
theorem RQ.fx {S S' : tq_St} {G : aQ} (h : RQ S G) (f : FX S S') : RQ S' G := by
  obtain ⟨h1, h2, h3, h4, h5, h6, h7⟩ := h
  have f19 := f.1 19 (by omega) (by omega) (by omega) (by omega)
  have f20 := f.1 20 (by omega) (by omega) (by omega) (by omega)
  refine ⟨h1.fx f (Or.inl rfl), fun k hk => ?_, by rw [f19.1, f19.2]; exact h3, by rw [f19.1]; exact h4, by rw [f20.1, f20.2]; exact h5, fun k hk => ?_, by rw [f.2.1]; exact h7⟩
  · have := h2 k hk
    unfold CI at this ⊢
    split at this
    · rw [f.2.2 7 (by decide)]; exact this
    · rw [f.2.2 7 (by decide)]; exact ⟨this.1, this.2.fx f (by omega)⟩
  · have := h6 k hk
    have f23 := f.1 (23 + k) (by omega) (by omega) (by omega) (by omega)
    unfold CH at this ⊢
    rw [f23.1, f23.2]
    exact this
/-- now is changed -/
theorem RQ.now {S S' : tq_St} {G : aQ} (h : RQ S G) (f : Fr 0 S S') {A : aE} (hA : RC S' 0 A) : RQ S' (vA G A) := by
  obtain ⟨h1, h2, h3, h4, h5, h6, h7⟩ := h
  have f19 := f.1 19 (by decide)
  have f20 := f.1 20 (by decide)
  have f27 := f.1 27 (by decide)
  refine ⟨hA, fun k hk => ?_, by rw [f19.1, f19.2]; exact h3, by rw [f19.1]; exact h4, by rw [f20.1, f20.2]; exact h5, fun k hk => ?_, by rw [f27.1]; exact h7⟩
  · have h2 := h2 k hk
    show CI S' k (qI G k)
    unfold CI at h2 ⊢
    split at h2
    · rw [f27.2]; exact h2
    · rw [f27.2]; exact ⟨h2.1, h2.2.fr f (by omega)⟩
  · have h6 := h6 k hk
    have f23 := f.1 (23 + k) (by omega)
    show CH S' k (qH G k)
    unfold CH at h6 ⊢
    rw [f23.1, f23.2]
    exact h6
theorem wfQ.now {G : aQ} (h : wfQ G) {A : aE} (hw : wfE A) (hn : aN A = aN (qA G)) : wfQ (vA G A) := ⟨hw, fun k B e => ⟨(h.2.1 k B e).1, by rw [(h.2.1 k B e).2]; exact hn.symm⟩, h.2.2⟩
end
