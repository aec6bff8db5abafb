section EVM
variable {S : tq_St} {g : Nat} {A : aE}
-- A PAGE OF THE REFERENCE
abbrev pg (S : tq_St) : Nat → Int32 := S.2.1 28 0
/-- the page at g holds the evening A -/
def RM (S : tq_St) (g : Nat) (A : aE) : Prop := S.1 28 2 = nI (aN A) ∧ (∀ p, p < aN A → pg S (g + p) = nI (aK A p)) ∧ (∀ p, p < aN A → pg S (g + 5 + p) = nI (aS A p)) ∧ (∀ p, p < aN A → pg S (g + 10 + p) = nI (aW A p)) ∧ pg S (g + 15) = nI (aG A) ∧ pg S (g + 16) = nI (aM A) ∧ pg S (g + 17) = nI (aR A) - 2 ∧ pg S (g + 18) = nI (aT A) - 4 ∧ pg S (g + 27) = nI (aC A) ∧ (∀ i, i < aC A → pg S (g + 19 + i) = nI (aA A i)) ∧ ∀ k, k < 4 → S.2.1 28 1 k = nI (brN k)
/-- nothing but the page at g has changed -/
def FM (g : Nat) (S S' : tq_St) : Prop := S'.1 = S.1 ∧ (∀ o, o ≠ 28 → S'.2.1 o = S.2.1 o) ∧ (∀ k, k ≠ 0 → S'.2.1 28 k = S.2.1 28 k) ∧ (∀ i, i < g ∨ g + 28 ≤ i → pg S' i = pg S i) ∧ S'.2.2 = S.2.2
theorem FM.rf : FM g S S := ⟨rfl, fun _ _ => rfl, fun _ _ => rfl, fun _ _ => rfl, rfl⟩
theorem FM.tr {S T U : tq_St} (h : FM g S T) (h2 : FM g T U) : FM g S U := ⟨h2.1.trans h.1, fun o ho => (h2.2.1 o ho).trans (h.2.1 o ho), fun k hk => (h2.2.2.1 k hk).trans (h.2.2.1 k hk), fun i hi => (h2.2.2.2.1 i hi).trans (h.2.2.2.1 i hi), h2.2.2.2.2.trans h.2.2.2.2⟩
theorem FM.a {S T : tq_St} (h : FM g S T) {i : Nat} (hi : g ≤ i ∧ i < g + 28) (v : Int32) : FM g S (sA T 28 0 i v) :=
  ⟨h.1, fun o ho => (sA_2n T ho).trans (h.2.1 o ho), fun k hk => (sA_nk T 28 0 i v hk).trans (h.2.2.1 k hk), fun j hj => by rw [← h.2.2.2.1 j hj]; show (sA T 28 0 i v).2.1 28 0 j = _; rw [sA_at, if_neg (by omega)], h.2.2.2.2⟩
theorem pg_at (S : tq_St) (i : Nat) (v : Int32) (j : Nat) : pg (sA S 28 0 i v) j = if j = i then v else pg S j := sA_at S 28 0 i v j
theorem RM.fm {g' : Nat} {S' : tq_St} (h : RM S g A) (f : FM g' S S') (hn : aN A ≤ 5) (hc : aC A ≤ 8) (hd : g + 28 ≤ g' ∨ g' + 28 ≤ g) : RM S' g A := by
  obtain ⟨h1, h2, h3, h4, h5, h6, h7, h8, h9, h10, h11⟩ := h
  obtain ⟨f1, f2, f3, f4, f5⟩ := f
  refine ⟨by rw [f1]; exact h1, fun p hp => ?_, fun p hp => ?_, fun p hp => ?_, ?_, ?_, ?_, ?_, ?_, fun i hi => ?_, fun k hk => ?_⟩
  · rw [f4 _ (by omega)]; exact h2 p hp
  · rw [f4 _ (by omega)]; exact h3 p hp
  · rw [f4 _ (by omega)]; exact h4 p hp
  · rw [f4 _ (by omega)]; exact h5
  · rw [f4 _ (by omega)]; exact h6
  · rw [f4 _ (by omega)]; exact h7
  · rw [f4 _ (by omega)]; exact h8
  · rw [f4 _ (by omega)]; exact h9
  · rw [f4 _ (by omega)]; exact h10 i hi
  · rw [f3 1 (by decide)]; exact h11 k hk
theorem RM.s (h : RM S g A) (hn : aN A ≤ 5) (hc : aC A ≤ 8) {p : Nat} (hp : p < aN A) (x : Nat) : RM (sA S 28 0 (g + 5 + p) (nI x)) g (uS A (un (aS A) p x)) := by
  obtain ⟨h1, h2, h3, h4, h5, h6, h7, h8, h9, h10, h11⟩ := h
  refine ⟨h1, fun q hq => ?_, fun q hq => ?_, fun q hq => ?_, ?_, ?_, ?_, ?_, ?_, fun i hi => ?_, fun k hk => ?_⟩
  · have hq : q < aN A := hq
    rw [pg_at, if_neg (by omega)]; exact h2 q hq
  · have hq : q < aN A := hq
    rw [pg_at]
    by_cases e : q = p
    · subst e; rw [if_pos rfl]; exact congrArg nI (un_s _ _ _).symm
    · rw [if_neg (by omega)]; exact (h3 q hq).trans (congrArg nI (un_n _ _ e).symm)
  · have hq : q < aN A := hq
    rw [pg_at, if_neg (by omega)]; exact h4 q hq
  · rw [pg_at, if_neg (by omega)]; exact h5
  · rw [pg_at, if_neg (by omega)]; exact h6
  · rw [pg_at, if_neg (by omega)]; exact h7
  · rw [pg_at, if_neg (by omega)]; exact h8
  · rw [pg_at, if_neg (by omega)]; exact h9
  · have hi : i < aC A := hi
    rw [pg_at, if_neg (by omega)]; exact h10 i hi
  · rw [sA_nk _ _ _ _ _ (by decide)]; exact h11 k hk
theorem RM.w (h : RM S g A) (hn : aN A ≤ 5) (hc : aC A ≤ 8) {p : Nat} (hp : p < aN A) (x : Nat) : RM (sA S 28 0 (g + 10 + p) (nI x)) g (uW A (un (aW A) p x)) := by
  obtain ⟨h1, h2, h3, h4, h5, h6, h7, h8, h9, h10, h11⟩ := h
  refine ⟨h1, fun q hq => ?_, fun q hq => ?_, fun q hq => ?_, ?_, ?_, ?_, ?_, ?_, fun i hi => ?_, fun k hk => ?_⟩
  · have hq : q < aN A := hq
    rw [pg_at, if_neg (by omega)]; exact h2 q hq
  · have hq : q < aN A := hq
    rw [pg_at, if_neg (by omega)]; exact h3 q hq
  · have hq : q < aN A := hq
    rw [pg_at]
    by_cases e : q = p
    · subst e; rw [if_pos rfl]; exact congrArg nI (un_s _ _ _).symm
    · rw [if_neg (by omega)]; exact (h4 q hq).trans (congrArg nI (un_n _ _ e).symm)
  · rw [pg_at, if_neg (by omega)]; exact h5
  · rw [pg_at, if_neg (by omega)]; exact h6
  · rw [pg_at, if_neg (by omega)]; exact h7
  · rw [pg_at, if_neg (by omega)]; exact h8
  · rw [pg_at, if_neg (by omega)]; exact h9
  · have hi : i < aC A := hi
    rw [pg_at, if_neg (by omega)]; exact h10 i hi
  · rw [sA_nk _ _ _ _ _ (by decide)]; exact h11 k hk
theorem RM.k (h : RM S g A) (hn : aN A ≤ 5) (hc : aC A ≤ 8) {p : Nat} (hp : p < aN A) (x : Nat) : RM (sA S 28 0 (g + p) (nI x)) g (uK A (un (aK A) p x)) := by
  obtain ⟨h1, h2, h3, h4, h5, h6, h7, h8, h9, h10, h11⟩ := h
  refine ⟨h1, fun q hq => ?_, fun q hq => ?_, fun q hq => ?_, ?_, ?_, ?_, ?_, ?_, fun i hi => ?_, fun k hk => ?_⟩
  · have hq : q < aN A := hq
    rw [pg_at]
    by_cases e : q = p
    · subst e; rw [if_pos rfl]; exact congrArg nI (un_s _ _ _).symm
    · rw [if_neg (by omega)]; exact (h2 q hq).trans (congrArg nI (un_n _ _ e).symm)
  · have hq : q < aN A := hq
    rw [pg_at, if_neg (by omega)]; exact h3 q hq
  · have hq : q < aN A := hq
    rw [pg_at, if_neg (by omega)]; exact h4 q hq
  · rw [pg_at, if_neg (by omega)]; exact h5
  · rw [pg_at, if_neg (by omega)]; exact h6
  · rw [pg_at, if_neg (by omega)]; exact h7
  · rw [pg_at, if_neg (by omega)]; exact h8
  · rw [pg_at, if_neg (by omega)]; exact h9
  · have hi : i < aC A := hi
    rw [pg_at, if_neg (by omega)]; exact h10 i hi
  · rw [sA_nk _ _ _ _ _ (by decide)]; exact h11 k hk
/-- one of the page's own numbers is written: 15 gone, 16 minute, 17 room, 18 think -/
theorem RM.n (h : RM S g A) (hn : aN A ≤ 5) (hc : aC A ≤ 8) {j : Nat} (hj : 15 ≤ j ∧ j ≤ 18) {v : Int32} {A' : aE} (e1 : aN A' = aN A) (e2 : aK A' = aK A) (e3 : aS A' = aS A) (e4 : aW A' = aW A) (e5 : aC A' = aC A) (e6 : aA A' = aA A) (hg : (if j = 15 then v else nI (aG A)) = nI (aG A')) (hm : (if j = 16 then v else nI (aM A)) = nI (aM A')) (hr : (if j = 17 then v else nI (aR A) - 2) = nI (aR A') - 2) (ht : (if j = 18 then v else nI (aT A) - 4) = nI (aT A') - 4) : RM (sA S 28 0 (g + j) v) g A' := by
  obtain ⟨h1, h2, h3, h4, h5, h6, h7, h8, h9, h10, h11⟩ := h
  refine ⟨by rw [e1]; exact h1, fun q hq => ?_, fun q hq => ?_, fun q hq => ?_, ?_, ?_, ?_, ?_, ?_, fun i hi => ?_, fun k hk => ?_⟩
  · rw [e1] at hq; rw [pg_at, if_neg (by omega), e2]; exact h2 q hq
  · rw [e1] at hq; rw [pg_at, if_neg (by omega), e3]; exact h3 q hq
  · rw [e1] at hq; rw [pg_at, if_neg (by omega), e4]; exact h4 q hq
  · rw [pg_at, h5, ← hg]
    by_cases e : j = 15
    · rw [if_pos (by omega), if_pos e]
    · rw [if_neg (by omega), if_neg e]
  · rw [pg_at, h6, ← hm]
    by_cases e : j = 16
    · rw [if_pos (by omega), if_pos e]
    · rw [if_neg (by omega), if_neg e]
  · rw [pg_at, h7, ← hr]
    by_cases e : j = 17
    · rw [if_pos (by omega), if_pos e]
    · rw [if_neg (by omega), if_neg e]
  · rw [pg_at, h8, ← ht]
    by_cases e : j = 18
    · rw [if_pos (by omega), if_pos e]
    · rw [if_neg (by omega), if_neg e]
  · rw [pg_at, if_neg (by omega), e5]; exact h9
  · rw [e5] at hi; rw [pg_at, if_neg (by omega), e6]; exact h10 i hi
  · rw [sA_nk _ _ _ _ _ (by decide)]; exact h11 k hk
-- NUMBERS OF PLACES
theorem ia (g k : Nat) : nI g + nI k = nI (g + k) := nI_add g k
theorem ia5 (g : Nat) : nI g + 5 = nI (g + 5) := nI_add g 5
theorem ia10 (g : Nat) : nI g + 10 = nI (g + 10) := nI_add g 10
theorem ia15 (g : Nat) : nI g + 15 = nI (g + 15) := nI_add g 15
theorem ia16 (g : Nat) : nI g + 16 = nI (g + 16) := nI_add g 16
theorem ia17 (g : Nat) : nI g + 17 = nI (g + 17) := nI_add g 17
theorem ia18 (g : Nat) : nI g + 18 = nI (g + 18) := nI_add g 18
theorem ia19 (g : Nat) : nI g + 19 = nI (g + 19) := nI_add g 19
theorem ia27 (g : Nat) : nI g + 27 = nI (g + 27) := nI_add g 27
theorem m_waits {gn j : Nat} {K : Int32 → tq_St → Prop} (h15 : pg S (g + 15) = nI gn) (hg : g ≤ 140) (hgn : gn < 2 ^ 31) (hj : j < 31) (h1 : gn.testBit j = false → K 1 S) (h0 : gn.testBit j = true → K 0 S) : wp_X7_waits (nI g) (nI j) S K := by
  unfold wp_X7_waits
  rw [ia15, nI_clamp (by omega)]
  have h15 : S.2.1 28 0 (g + 15) = nI gn := h15
  rw [h15, zb_0 hgn hj]
  refine ⟨vp_in_nI (by omega) (by decide), fun z => h0 ?_, h1⟩
  cases hb : gn.testBit j
  · exact absurd hb z
  · rfl
theorem zb_gmin {s k : Nat} (h : s + k < 2 ^ 31) {P : Int32 → Prop} (hP : P (nI (min 40 (s + k)))) : ∀ x1 : Int32, x1 = nI s + nI k → ((x1 ≤ 40 → P x1) ∧ (¬ x1 ≤ 40 → P 40)) := by
  intro x1 e
  rw [nI_add] at e
  subst e
  have e40 : (40 : Int32) = nI 40 := rfl
  rw [e40, nI_leI h (by decide)]
  constructor
  · intro z; rw [show min 40 (s + k) = s + k by omega] at hP; exact hP
  · intro z; rw [show min 40 (s + k) = 40 by omega] at hP; exact hP
theorem m_grieves {p k : Nat} {K : tq_St → Prop} (hR : RM S g A) (hn : aN A ≤ 5) (hc : aC A ≤ 8) (hg : g ≤ 140) (hs : ∀ p, aS A p ≤ 40) (hp : p < aN A) (hk : k < 100) (hK : ∀ S', RM S' g (uS A (sadS (aS A) (some p) k)) → FM g S S' → K S') : wp_X7_grieves (nI g) (nI p) (nI k) S K := by
  unfold wp_X7_grieves
  rw [ia5, ia, nI_clamp (by omega)]
  have h3 : S.2.1 28 0 (g + 5 + p) = nI (aS A p) := hR.2.2.1 p hp
  rw [h3]
  have hin : vp_in (nI (g + 5 + p)) 168 := vp_in_nI (by omega) (by decide)
  refine ⟨hin, fun x e => ?_⟩
  have hb := hs p
  have h4 := zb_gmin (s := aS A p) (k := k) (by omega) (P := fun v => K (sA S 28 0 (g + 5 + p) v)) (hK _ (hR.s hn hc hp _) (FM.rf.a (by omega) _)) x e
  exact ⟨fun z => ⟨hin, nm_e (h4.1 z)⟩, fun z => ⟨hin, nm_e (h4.2 z)⟩⟩
-- WHO IS SET OFF
theorem m_so_64 {q : Option Nat} {v : Int32} {K : tq_St → Prop} (hR : RM S g A) (hn : aN A ≤ 5) (hc : aC A ≤ 8) (hg : g ≤ 140) (hs : ∀ p, aS A p ≤ 40) (hv : (q = none ∧ aN A ≤ 100 ∧ ∃ j, j < 2 ^ 31 ∧ aN A ≤ j ∧ v = nI j) ∨ ∃ j, q = some j ∧ j < aN A ∧ v = nI j) (hK : ∀ S', RM S' g (uS A (sadS (aS A) q 2)) → FM g S S' → K S') : wp_X7_setsOff_64 K (nI g) v S := by
  unfold wp_X7_setsOff_64
  rw [hR.1]
  rcases hv with ⟨rfl, -, j, hj, hj2, rfl⟩ | ⟨j, rfl, hj, rfl⟩
  · exact pk_le (aN A) j (fun _ => hK S hR FM.rf) (fun z => absurd z (by omega))
  · exact pk_le (aN A) j (fun z => absurd z (by omega)) (fun _ => m_grieves (k := 2) hR hn hc hg hs hj (by decide) hK)
theorem m_so_53 {q r : Option Nat} {u v : Int32} {K : tq_St → Prop} (hR : RM S g A) (hn : aN A ≤ 5) (hc : aC A ≤ 8) (hg : g ≤ 140) (hs : ∀ p, aS A p ≤ 40) (hu : (r = none ∧ u < 0) ∨ ∃ j, r = some j ∧ j < aN A ∧ u = nI j) (hv : (q = none ∧ aN A ≤ 100 ∧ ∃ j, j < 2 ^ 31 ∧ aN A ≤ j ∧ v = nI j) ∨ ∃ j, q = some j ∧ j < aN A ∧ v = nI j) (hK : ∀ S', RM S' g (uS A (sadS (sadS (aS A) r 2) q 2)) → FM g S S' → K S') : wp_X7_setsOff_53 K (nI g) u v S := by
  unfold wp_X7_setsOff_53
  rcases hu with ⟨rfl, hu⟩ | ⟨j, rfl, hj, rfl⟩
  · exact ⟨fun _ => m_so_64 hR hn hc hg hs hv hK, fun z => absurd hu z⟩
  · refine ⟨fun z => absurd z (nI_pos (by omega)), fun _ => ?_⟩
    refine m_grieves (k := 2) hR hn hc hg hs hj (by decide) (fun S2 a1 a2 => ?_)
    exact m_so_64 a1 hn hc hg (show ∀ p, sadS (aS A) (some j) 2 p ≤ 40 from sadS_le hs) hv (fun S3 b1 b2 => hK S3 b1 (a2.tr b2))
theorem m_so_28 {r : Option Nat} {u : Int32} {K : tq_St → Prop} (hR : RM S g A) (hn : aN A ≤ 5) (hc : aC A ≤ 8) (hg : g ≤ 140) (hgn : aG A < 2 ^ 31) (hs : ∀ p, aS A p ≤ 40) (hu : (r = none ∧ u < 0) ∨ ∃ j, r = some j ∧ j < aN A ∧ u = nI j) : ∀ (m a f : Nat), (a < aN A → a + m = aN A) → (aN A ≤ a → m = 0) → a ≤ 6 → m < f → (∀ S', RM S' g (uS A (sadS (sadS (aS A) r 2) (ff (fun j => !(aG A).testBit j) a m) 2)) → FM g S S' → K S') → wp_X7_setsOff_28 K f (nI g) u (nI a) S
  | 0, a, f + 1, h1, h1b, h2, h3, hK => by
    unfold wp_X7_setsOff_28
    rw [hR.1]
    refine pk_le (aN A) a (fun z => ?_) (fun z => absurd (h1 z) (by omega))
    exact m_so_53 (q := none) hR hn hc hg hs hu (Or.inl ⟨rfl, by omega, a, by omega, z, rfl⟩) hK
  | m + 1, a, f + 1, h1, h1b, h2, h3, hK => by
    unfold wp_X7_setsOff_28
    rw [hR.1]
    refine pk_le (aN A) a (fun z => absurd (h1b z) (by omega)) (fun z => ?_)
    unfold ff at hK
    refine m_waits hR.2.2.2.2.1 hg hgn (by omega) (fun hb => ?_) (fun hb => ?_)
    · refine ⟨fun _ => ?_, fun z => absurd z (by decide)⟩
      rw [if_pos (by rw [hb]; rfl)] at hK
      exact m_so_53 (q := some a) hR hn hc hg hs hu (Or.inr ⟨a, rfl, z, rfl⟩) hK
    · refine ⟨fun z => absurd rfl z, fun _ => nm_r (nI_1 a) ?_⟩
      rw [if_neg (by rw [hb]; decide)] at hK
      have := h1 z
      exact m_so_28 hR hn hc hg hgn hs hu m (a + 1) f (by omega) (by omega) (by omega) (by omega) hK
theorem m_so_4 {p : Nat} {K : tq_St → Prop} (hR : RM S g A) (hn : aN A ≤ 5) (hc : aC A ≤ 8) (hg : g ≤ 140) (hgn : aG A < 2 ^ 31) (hs : ∀ p, aS A p ≤ 40) (hp : p < aN A) (hK : ∀ S', RM S' g (uS A (sadS (sadS (aS A) (nearA (aG A) p) 2) (nearB (aN A) (aG A) p) 2)) → FM g S S' → K S') : ∀ (a f : Nat) (x : Int32), a ≤ p → a < f → x = nI a - 1 → nearA (aG A) a = nearA (aG A) p → wp_X7_setsOff_4 K f (nI g) (nI p) x S
  | 0, f + 1, x, h1, h2, h3, h4 => by
    have hx : x < 0 := by subst h3; decide
    refine ⟨fun _ => ?_, fun z => absurd hx z⟩
    unfold wp_X7_setsOff_23
    refine nm_r (nI_1 p) ?_
    rw [← h4] at hK
    exact m_so_28 hR hn hc hg hgn hs (Or.inl ⟨rfl, hx⟩) (aN A - (p + 1)) (p + 1) 2000 (by omega) (by omega) (by omega) (by omega) hK
  | a + 1, f + 1, x, h1, h2, h3, h4 => by
    rw [nI_pred] at h3
    subst h3
    unfold wp_X7_setsOff_4
    refine ⟨fun z => absurd z (nI_pos (by omega)), fun _ => ?_⟩
    refine m_waits hR.2.2.2.2.1 hg hgn (by omega) (fun hb => ?_) (fun hb => ?_)
    · refine ⟨fun _ => ?_, fun z => absurd z (by decide)⟩
      have e : nearA (aG A) (a + 1) = some a := by unfold nearA; rw [if_neg (by rw [hb]; decide)]
      unfold wp_X7_setsOff_23
      refine nm_r (nI_1 p) ?_
      rw [← h4, e] at hK
      exact m_so_28 hR hn hc hg hgn hs (Or.inr ⟨a, rfl, by omega, rfl⟩) (aN A - (p + 1)) (p + 1) 2000 (by omega) (by omega) (by omega) (by omega) hK
    · refine ⟨fun z => absurd rfl z, fun _ => nm_e ?_⟩
      have e : nearA (aG A) (a + 1) = nearA (aG A) a := by
        show (if (aG A).testBit a then nearA (aG A) a else some a) = _
        rw [if_pos hb]
      refine m_so_4 hR hn hc hg hgn hs hp hK a f _ (by omega) (by omega) ?_ (by rw [← h4, e])
      have h7 : ∀ a, a < 5 → nI a + (-1) = nI a - 1 := by decide +kernel
      exact h7 a (by omega)
theorem m_setsOff {p : Nat} {K : tq_St → Prop} (hR : RM S g A) (hn : aN A ≤ 5) (hc : aC A ≤ 8) (hg : g ≤ 140) (hgn : aG A < 2 ^ 31) (hs : ∀ p, aS A p ≤ 40) (hp : p < aN A) (hK : ∀ S', RM S' g (uS A (sadS (sadS (aS A) (nearA (aG A) p) 2) (nearB (aN A) (aG A) p) 2)) → FM g S S' → K S') : wp_X7_setsOff (nI g) (nI p) S K := by
  unfold wp_X7_setsOff
  exact nm_e (m_so_4 hR hn hc hg hgn hs hp hK p 2000 _ (Nat.le_refl _) (by omega) rfl rfl)
-- THE NEXT TO WEEP
theorem m_ntw_2 {w : Nat} {K : Int32 → tq_St → Prop} (hR : RM S g A) (hw : wfE A) (hg : g ≤ 140) (hb : w < 2 ^ 31) : ∀ (m p f : Nat), p + m = aN A → m < f → K (oI (ff (fun p => !(aG A).testBit p && decide (brN (aK A p) ≤ aS A p) && !w.testBit p) p m)) S → wp_X7_nextToWeep_2 K f (nI g) (nI w) (nI p) S
  | 0, p, f + 1, h1, h2, hK => by
    have hn := hw.1
    unfold wp_X7_nextToWeep_2
    rw [hR.1]
    exact pk_le (aN A) p (fun _ => hK) (fun z => absurd z (by omega))
  | m + 1, p, f + 1, h1, h2, hK => by
    have hn := hw.1
    have hs := hw.2.2.1 p
    have hk := hw.2.1 p
    unfold wp_X7_nextToWeep_2
    rw [hR.1]
    refine pk_le (aN A) p (fun z => absurd z (by omega)) (fun _ => ?_)
    unfold ff at hK
    refine m_waits hR.2.2.2.2.1 hg hw.g31 (by omega) (fun hbit => ?_) (fun hbit => ?_)
    · refine ⟨fun z => absurd z (by decide), fun _ => ?_⟩
      rw [zb_0 hb (by omega)]
      refine ⟨fun z => nm_r (nI_1 p) ?_, fun z => ?_⟩
      · rw [if_neg (by simp [z])] at hK
        exact m_ntw_2 hR hw hg hb m (p + 1) f (by omega) (by omega) hK
      · rw [ia5, ia, ia, nI_clamp (n := g + p) (by omega), nI_clamp (n := g + 5 + p) (by omega)]
        have e1 : S.2.1 28 0 (g + p) = nI (aK A p) := hR.2.1 p (by omega)
        have e2 : S.2.1 28 0 (g + 5 + p) = nI (aS A p) := hR.2.2.1 p (by omega)
        rw [e1, e2, nI_clamp (n := aK A p) (by omega), hR.2.2.2.2.2.2.2.2.2.2 _ hk]
        refine ⟨vp_in_nI (by omega) (by decide), vp_in_nI (by omega) (by decide), vp_in_nI hk (by decide), ?_⟩
        have h20 := brN_lt (aK A p)
        refine pk_lt (aS A p) (brN (aK A p)) (fun hlt => nm_r (nI_1 p) ?_) (fun hge => ?_)
        · rw [if_neg (by rw [hbit, decide_eq_false (by omega)]; simp)] at hK
          exact m_ntw_2 hR hw hg hb m (p + 1) f (by omega) (by omega) hK
        · rw [if_pos (by rw [hbit, decide_eq_true hge, z]; rfl)] at hK
          exact hK
    · refine ⟨fun _ => nm_r (nI_1 p) ?_, fun z => absurd rfl z⟩
      rw [if_neg (by rw [hbit]; simp)] at hK
      exact m_ntw_2 hR hw hg hb m (p + 1) f (by omega) (by omega) hK
theorem m_ntw {w : Nat} {K : Int32 → tq_St → Prop} (hR : RM S g A) (hw : wfE A) (hg : g ≤ 140) (hb : w < 2 ^ 31) (hK : K (oI (firstP (aN A) (aG A) (aK A) (aS A) w)) S) : wp_X7_nextToWeep (nI g) (nI w) S K :=
  m_ntw_2 hR hw hg hb (aN A) 0 2000 (by omega) (by have := hw.1; omega) hK
end EVM
