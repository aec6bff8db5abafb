section EVQ
variable {S : tq_St} {o : Nat} {A : aE}
-- RANK
def rkF (A : aE) (p : Nat) : Nat := if aK A p = 2 ∧ aS A p = 0 then 0 else aW A p + 1
theorem rkF_le (hw : wfE A) (p : Nat) : rkF A p ≤ 1001 := by
  unfold rkF
  have := hw.2.2.2.1 p
  split <;> omega
theorem zb_rk {x : Nat} (h : x ≤ 1000) : nI x - 1 = nI (x + 1) - 2 := by
  have h1 : ∀ x, x ≤ 1000 → nI x - 1 = nI (x + 1) - 2 := by decide +kernel
  exact h1 x h
theorem zb_rkle {a b : Nat} (ha : a ≤ 1001) (hb : b ≤ 1001) : nI a - 2 ≤ nI b - 2 ↔ a ≤ b := by
  rw [fa_le]
  have h1 := pk_sub_toInt (a := a) (b := 2) (by omega) (by omega)
  have h2 := pk_sub_toInt (a := b) (b := 2) (by omega) (by omega)
  have e : nI 2 = (2 : Int32) := rfl
  rw [e] at h1 h2
  omega
theorem c_rank {p : Nat} {K : Int32 → tq_St → Prop} (hR : RC S o A) (hw : wfE A) (hp : p < aN A) (hK : K (nI (rkF A p) - 2) S) : wp_X1_rank o (nI p) S K := by
  have hn := hw.1
  have h23 : ¬ (aK A p = 2 ∧ aS A p = 0) → wp_X1_rank_23 o K (nI p) S := by
    intro h
    refine ⟨fun _ => ⟨vp_in_nI (by omega) (by decide), ?_⟩, fun z => absurd rfl z⟩
    rw [nI_clamp (by omega), hR.2.2.2.2.2.2.2.2.1 p hp, zb_rk (hw.2.2.2.1 p)]
    unfold rkF at hK
    rw [if_neg h] at hK
    exact hK
  unfold wp_X1_rank
  rw [nI_clamp (by omega), hR.2.2.2.2.2.2.1 p hp, hR.2.2.2.2.2.2.2.1 p hp]
  have e2 : (2 : Int32) = nI 2 := rfl
  have e0 : (0 : Int32) = nI 0 := rfl
  have hk := hw.2.1 p
  have hs := hw.2.2.1 p
  rw [e2, e0, nI_eq (by omega) (by decide), nI_eq (by omega) (by decide)]
  refine ⟨vp_in_nI (by omega) (by decide), fun h => h23 (fun z => h z.1), fun h => ⟨vp_in_nI (by omega) (by decide), fun h2 => h23 (fun z => h2 z.2), fun h2 => ?_⟩⟩
  refine ⟨fun z => absurd z (by decide), fun _ => ?_⟩
  unfold rkF at hK
  rw [if_pos ⟨h, h2⟩] at hK
  exact hK
-- THE QUEUE
def QI (A : aE) (m len : Nat) (L : Nat → Nat) : Prop := len ≤ m ∧ (∀ i, i < len → L i < m ∧ (aG A).testBit (L i) = false) ∧ (∀ q, q < m → (aG A).testBit q = false → ∃ i, i < len ∧ L i = q) ∧ ∀ i j, i < j → j < len → rkF A (L j) < rkF A (L i) ∨ (rkF A (L j) = rkF A (L i) ∧ L i < L j)
theorem QI.skip {m len : Nat} {L : Nat → Nat} (h : QI A m len L) (hb : (aG A).testBit m = true) : QI A (m + 1) len L := by
  obtain ⟨h1, h2, h3, h4⟩ := h
  refine ⟨by omega, fun i hi => ⟨by have := (h2 i hi).1; omega, (h2 i hi).2⟩, fun q hq hb2 => ?_, h4⟩
  by_cases e : q = m
  · subst e; rw [hb] at hb2; cases hb2
  · exact h3 q (by omega) hb2
def insL (L : Nat → Nat) (a p : Nat) : Nat → Nat := fun i => if i < a then L i else if i = a then p else L (i - 1)
theorem insL_lo {L : Nat → Nat} {a p i : Nat} (h : i < a) : insL L a p i = L i := by unfold insL; rw [if_pos h]
theorem insL_at {L : Nat → Nat} {a p : Nat} : insL L a p a = p := by unfold insL; rw [if_neg (by omega), if_pos rfl]
theorem insL_hi {L : Nat → Nat} {a p i : Nat} (h : a < i) : insL L a p i = L (i - 1) := by unfold insL; rw [if_neg (by omega), if_neg (by omega)]
theorem QI.ins {m len a : Nat} {L : Nat → Nat} (h : QI A m len L) (hb : (aG A).testBit m = false) (ha : a ≤ len) (hlo : ∀ i, a ≤ i → i < len → rkF A (L i) < rkF A m) (hhi : a = 0 ∨ rkF A m ≤ rkF A (L (a - 1))) : QI A (m + 1) (len + 1) (insL L a m) := by
  obtain ⟨h1, h2, h3, h4⟩ := h
  refine ⟨by omega, fun i hi => ?_, fun q hq hb2 => ?_, fun i j hij hj => ?_⟩
  · rcases Nat.lt_trichotomy i a with c | c | c
    · rw [insL_lo c]; have := h2 i (by omega); exact ⟨by omega, this.2⟩
    · subst c; rw [insL_at]; exact ⟨by omega, hb⟩
    · rw [insL_hi c]; have := h2 (i - 1) (by omega); exact ⟨by omega, this.2⟩
  · by_cases e : q = m
    · subst e; exact ⟨a, by omega, insL_at⟩
    · obtain ⟨i, hi, rfl⟩ := h3 q (by omega) hb2
      by_cases c : i < a
      · exact ⟨i, by omega, insL_lo c⟩
      · exact ⟨i + 1, by omega, by rw [insL_hi (by omega)]; rfl⟩
  · rcases Nat.lt_trichotomy j a with c | c | c
    · rw [insL_lo c, insL_lo (by omega)]; exact h4 i j hij (by omega)
    · subst c
      rw [insL_at, insL_lo hij]
      have hm : rkF A m ≤ rkF A (L (j - 1)) := by rcases hhi with z | z; omega; exact z
      have hi2 : rkF A (L (j - 1)) ≤ rkF A (L i) := by
        by_cases e : i = j - 1
        · subst e; exact Nat.le_refl _
        · rcases h4 i (j - 1) (by omega) (by omega) with z | z <;> omega
      have := (h2 i (by omega)).1
      omega
    · rw [insL_hi c]
      rcases Nat.lt_trichotomy i a with d | d | d
      · rw [insL_lo d]; exact h4 i (j - 1) (by omega) (by omega)
      · subst d; rw [insL_at]; exact Or.inl (hlo (j - 1) (by omega) (by omega))
      · rw [insL_hi d]; exact h4 (i - 1) (j - 1) (by omega) (by omega)
theorem c_line_22 {S0 : tq_St} {K : Int32 → tq_St → Prop} {rec4 : Int32 → Int32 → tq_St → Prop} {p len : Nat} {L : Nat → Nat} (hw : wfE A) (hp : p < aN A) (hb : (aG A).testBit p = false) (hQ : QI A p len L)
    (hrec : ∀ (S' : tq_St) (L' : Nat → Nat), RC S' o A → Fr o S0 S' → S'.1 = S0.1 → QI A (p + 1) (len + 1) L' → (∀ i, i < len + 1 → S'.2.1 o 4 i = nI (L' i)) → rec4 (nI (len + 1)) (nI (p + 1)) S') :
    ∀ (a f : Nat) (S : tq_St), a ≤ len → a < f → RC S o A → Fr o S0 S → S.1 = S0.1 → (∀ i, i < a → S.2.1 o 4 i = nI (L i)) → (∀ i, a < i → i < len + 1 → S.2.1 o 4 i = nI (L (i - 1))) → (∀ i, a ≤ i → i < len → rkF A (L i) < rkF A p) → wp_X1_lineUp_22 o K rec4 f (nI len) (nI p) (nI a) S := by
  have hn := hw.1
  have hl := hQ.1
  have hend : ∀ (a : Nat) (S : tq_St), a ≤ len → RC S o A → Fr o S0 S → S.1 = S0.1 → (∀ i, i < a → S.2.1 o 4 i = nI (L i)) → (∀ i, a < i → i < len + 1 → S.2.1 o 4 i = nI (L (i - 1))) → (∀ i, a ≤ i → i < len → rkF A (L i) < rkF A p) → (a = 0 ∨ rkF A p ≤ rkF A (L (a - 1))) → wp_X1_lineUp_66 o K rec4 (nI len) (nI p) (nI a) S := by
    intro a S ha hR hF hI hlo hhi hr hx
    unfold wp_X1_lineUp_66
    refine ⟨vp_in_nI (by omega) (by decide), nm_e (nm_r (nI_1 len) (nm_r (nI_1 p) ?_))⟩
    rw [nI_clamp (by omega)]
    refine hrec _ (insL L a p) (hR.l _ _) (hF.A _ _ _) hI (hQ.ins hb ha hr hx) (fun i hi => ?_)
    rw [sA_at]
    rcases Nat.lt_trichotomy i a with c | c | c
    · rw [if_neg (by omega), insL_lo c]; exact hlo i c
    · subst c; rw [if_pos rfl, insL_at]
    · rw [if_neg (by omega), insL_hi c]; exact hhi i c hi
  intro a
  induction a with
  | zero =>
    intro f S ha hf hR hF hI hlo hhi hr
    obtain ⟨f, rfl⟩ : ∃ k, f = k + 1 := ⟨f - 1, by omega⟩
    exact ⟨fun _ => hend 0 S ha hR hF hI hlo hhi hr (Or.inl rfl), fun z => absurd (by decide) z⟩
  | succ a ih =>
    intro f S ha hf hR hF hI hlo hhi hr
    obtain ⟨f, rfl⟩ : ∃ k, f = k + 1 := ⟨f - 1, by omega⟩
    unfold wp_X1_lineUp_22
    refine ⟨fun z => absurd z (nI_nle (by omega) (by omega)), fun _ => ?_⟩
    rw [nI_pred]
    refine ⟨vp_in_nI (by omega) (by decide), ?_⟩
    rw [nI_clamp (n := a) (by omega), hlo a (by omega)]
    have hLa := hQ.2.1 a (by omega)
    refine c_rank hR hw (by omega) ?_
    refine c_rank hR hw hp ?_
    rw [zb_rkle (rkF_le hw _) (rkF_le hw _)]
    refine ⟨fun z => ?_, fun z => ⟨vp_in_nI (by omega) (by decide), vp_in_nI (by omega) (by decide), nm_e (nm_r (pk_m1 a) ?_)⟩⟩
    · exact hend (a + 1) S ha hR hF hI hlo hhi hr (Or.inr (by rw [Nat.add_sub_cancel]; exact z))
    · rw [nI_clamp (n := a + 1) (by omega), hlo a (by omega)]
      refine ih f _ (by omega) (by omega) (hR.l _ _) (hF.A _ _ _) hI (fun i hi => ?_) (fun i h1 h2 => ?_) (fun i h1 h2 => ?_)
      · rw [sA_at, if_neg (by omega)]; exact hlo i (by omega)
      · rw [sA_at]
        by_cases e : i = a + 1
        · subst e; rw [if_pos rfl, Nat.add_sub_cancel]
        · rw [if_neg e]; exact hhi i (by omega) h2
      · by_cases e : i = a
        · subst e; omega
        · exact hr i (by omega) h2
theorem c_line_4 {S0 : tq_St} {K : Int32 → tq_St → Prop} (hw : wfE A) (hK : ∀ (S' : tq_St) (len : Nat) (L : Nat → Nat), RC S' o A → Fr o S0 S' → S'.1 = S0.1 → QI A (aN A) len L → (∀ i, i < len → S'.2.1 o 4 i = nI (L i)) → K (nI len) S') :
    ∀ (m p f len : Nat) (L : Nat → Nat) (S : tq_St), p + m = aN A → m < f → RC S o A → Fr o S0 S → S.1 = S0.1 → QI A p len L → (∀ i, i < len → S.2.1 o 4 i = nI (L i)) → wp_X1_lineUp_4 o K f (nI len) (nI p) S
  | 0, p, f + 1, len, L, S, h1, h2, hR, hF, hI, hQ, hM => by
    have hn := hw.1
    unfold wp_X1_lineUp_4
    rw [hR.1]
    have e : p = aN A := by omega
    subst e
    exact pk_le (aN A) (aN A) (fun _ => hK S len L hR hF hI hQ hM) (fun z => absurd z (by omega))
  | m + 1, p, f + 1, len, L, S, h1, h2, hR, hF, hI, hQ, hM => by
    have hn := hw.1
    have hl := hQ.1
    unfold wp_X1_lineUp_4
    rw [hR.1]
    refine pk_le (aN A) p (fun z => absurd z (by omega)) (fun _ => ?_)
    refine c_waitsN hR.1 hn hR.2.1 hw.g31 (by omega) (fun hb => ?_) (fun hb => ?_)
    · refine ⟨fun z => absurd z (by decide), fun _ => ?_⟩
      refine c_line_22 (S0 := S0) hw (by omega) hb hQ (fun S' L' a1 a2 a3 a4 a5 => ?_) len 2000 S (Nat.le_refl _) (by omega) hR hF hI hM (fun i h1 h2 => by omega) (fun i h1 h2 => by omega)
      exact c_line_4 hw hK m (p + 1) f (len + 1) L' S' (by omega) (by omega) a1 a2 a3 a4 a5
    · refine ⟨fun _ => nm_r (nI_1 p) ?_, fun z => absurd rfl z⟩
      exact c_line_4 hw hK m (p + 1) f len L S (by omega) (by omega) hR hF hI (hQ.skip hb) hM
theorem c_line {K : Int32 → tq_St → Prop} (hR : RC S o A) (hw : wfE A) (hK : ∀ (S' : tq_St) (len : Nat) (L : Nat → Nat), RC S' o A → Fr o S S' → S'.1 = S.1 → QI A (aN A) len L → (∀ i, i < len → S'.2.1 o 4 i = nI (L i)) → K (nI len) S') : wp_X1_lineUp o S K :=
  c_line_4 hw hK (aN A) 0 2000 0 (fun _ => 0) S (by omega) (by have := hw.1; omega) hR Fr.rf rfl ⟨by omega, fun i hi => by omega, fun q hq => by omega, fun i j h1 h2 => by omega⟩ (fun i hi => by omega)
-- THE SAME BY CHOICE: who is the next of those not chosen yet
def nxP (A : aE) (but : Nat) : Nat → Option Nat
  | 0 => none
  | p + 1 => if !(aG A).testBit p && !but.testBit p && (match nxP A but p with
    | none => true
    | some j => decide (rkF A j < rkF A p)) then some p else nxP A but p
def nextF (A : aE) (but : Nat) : Option Nat := nxP A but (aN A)
/-- q leads those of the first m who wait and are not chosen -/
def lead (A : aE) (but m q : Nat) : Prop := q < m ∧ (aG A).testBit q = false ∧ but.testBit q = false ∧ ∀ j, j < m → (aG A).testBit j = false → but.testBit j = false → rkF A j < rkF A q ∨ (rkF A j = rkF A q ∧ q ≤ j)
theorem nxP_spec (A : aE) (but : Nat) : ∀ m, (nxP A but m = none ∧ ∀ j, j < m → (aG A).testBit j = false → but.testBit j = true) ∨ ∃ q, nxP A but m = some q ∧ lead A but m q
  | 0 => Or.inl ⟨rfl, fun j hj => by omega⟩
  | m + 1 => by
    unfold nxP
    cases hg : (aG A).testBit m
    · cases hb : but.testBit m
      · rcases nxP_spec A but m with ⟨e, h⟩ | ⟨q, e, h⟩
        · rw [e]
          refine Or.inr ⟨m, by simp, by omega, hg, hb, fun j hj h1 h2 => ?_⟩
          by_cases c : j = m
          · subst c; exact Or.inr ⟨rfl, Nat.le_refl _⟩
          · have := h j (by omega) h1; rw [h2] at this; cases this
        · rw [e]
          by_cases c : rkF A q < rkF A m
          · refine Or.inr ⟨m, by simp [c], by omega, hg, hb, fun j hj h1 h2 => ?_⟩
            by_cases d : j = m
            · subst d; exact Or.inr ⟨rfl, Nat.le_refl _⟩
            · rcases h.2.2.2 j (by omega) h1 h2 with z | z <;> exact Or.inl (by omega)
          · refine Or.inr ⟨q, by simp [c], by have := h.1; omega, h.2.1, h.2.2.1, fun j hj h1 h2 => ?_⟩
            by_cases d : j = m
            · subst d; have := h.1; omega
            · exact h.2.2.2 j (by omega) h1 h2
      · rcases nxP_spec A but m with ⟨e, h⟩ | ⟨q, e, h⟩
        · refine Or.inl ⟨by simp [e], fun j hj h1 => ?_⟩
          by_cases c : j = m
          · subst c; exact hb
          · exact h j (by omega) h1
        · refine Or.inr ⟨q, by simp [e], by have := h.1; omega, h.2.1, h.2.2.1, fun j hj h1 h2 => ?_⟩
          by_cases d : j = m
          · subst d; rw [hb] at h2; cases h2
          · exact h.2.2.2 j (by omega) h1 h2
    · rcases nxP_spec A but m with ⟨e, h⟩ | ⟨q, e, h⟩
      · refine Or.inl ⟨by simp [e], fun j hj h1 => ?_⟩
        by_cases c : j = m
        · subst c; rw [hg] at h1; cases h1
        · exact h j (by omega) h1
      · refine Or.inr ⟨q, by simp [e], by have := h.1; omega, h.2.1, h.2.2.1, fun j hj h1 h2 => ?_⟩
        by_cases d : j = m
        · subst d; rw [hg] at h1; cases h1
        · exact h.2.2.2 j (by omega) h1 h2
theorem lead_one {but m q r : Nat} (h : lead A but m q) (h2 : lead A but m r) : q = r := by
  have h3 := h.2.2.2 r h2.1 h2.2.1 h2.2.2.1
  have h4 := h2.2.2.2 q h.1 h.2.1 h.2.2.1
  omega
theorem next_of {but q : Nat} (h : lead A but (aN A) q) : nextF A but = some q := by
  rcases nxP_spec A but (aN A) with ⟨e, h2⟩ | ⟨r, e, h2⟩
  · have := h2 q h.1 h.2.1; rw [h.2.2.1] at this; cases this
  · rw [lead_one h h2]; exact e
theorem next_no {but : Nat} (h : ∀ j, j < aN A → (aG A).testBit j = false → but.testBit j = true) : nextF A but = none := by
  rcases nxP_spec A but (aN A) with ⟨e, h2⟩ | ⟨r, e, h2⟩
  · exact e
  · have := h r h2.1 h2.2.1; rw [h2.2.2.1] at this; cases this
theorem next_lt {but q : Nat} (h : nextF A but = some q) : q < aN A ∧ (aG A).testBit q = false ∧ but.testBit q = false := by
  rcases nxP_spec A but (aN A) with ⟨e, h2⟩ | ⟨r, e, h2⟩
  · unfold nextF at h; rw [e] at h; cases h
  · unfold nextF at h; rw [e] at h; cases h; exact ⟨h2.1, h2.2.1, h2.2.2.1⟩
def selB (A : aE) : Nat → Nat
  | 0 => 0
  | i + 1 => match nextF A (selB A i) with
    | none => selB A i
    | some p => selB A i ||| 2 ^ p
theorem selB_lt (A : aE) : ∀ i, selB A i < 2 ^ aN A
  | 0 => Nat.two_pow_pos _
  | i + 1 => by
    unfold selB
    cases e : nextF A (selB A i) with
    | none => exact selB_lt A i
    | some p => exact zb_orlt (selB_lt A i) (next_lt e).1
theorem QI.sel {len : Nat} {L : Nat → Nat} (h : QI A (aN A) len L) : ∀ i, i ≤ len → ∀ q, (selB A i).testBit q = true ↔ ∃ j, j < i ∧ L j = q
  | 0, _, q => by simp [selB]
  | i + 1, hi, q => by
    have ih := QI.sel h i (by omega)
    have hb : ∀ j, (selB A i).testBit j = false ↔ ∀ x, x < i → L x ≠ j := by
      intro j
      have := ih j
      constructor
      · intro h1 x hx e
        have := this.mpr ⟨x, hx, e⟩
        rw [h1] at this; cases this
      · intro h1
        cases hc : (selB A i).testBit j
        · rfl
        · obtain ⟨x, hx, e⟩ := this.mp hc
          exact absurd e (h1 x hx)
    have hn : nextF A (selB A i) = some (L i) := by
      refine next_of ⟨(h.2.1 i (by omega)).1, (h.2.1 i (by omega)).2, (hb _).mpr (fun x hx e => ?_), fun j hj h1 h2 => ?_⟩
      · rcases h.2.2.2 x i hx (by omega) with z | z
        · rw [e] at z; omega
        · omega
      · obtain ⟨y, hy, rfl⟩ := h.2.2.1 j hj h1
        have hyi : ¬ y < i := fun hlt => (hb _).mp h2 y hlt rfl
        by_cases e : y = i
        · subst e; exact Or.inr ⟨rfl, Nat.le_refl _⟩
        · rcases h.2.2.2 i y (by omega) hy with z | z
          · exact Or.inl z
          · exact Or.inr ⟨z.1, by omega⟩
    unfold selB
    rw [hn]
    show (selB A i ||| 2 ^ L i).testBit q = true ↔ _
    rw [fb_bit_set, Bool.or_eq_true, ih q, decide_eq_true_eq]
    constructor
    · rintro (⟨j, hj, e⟩ | e)
      · exact ⟨j, by omega, e⟩
      · exact ⟨i, by omega, e.symm⟩
    · rintro ⟨j, hj, e⟩
      by_cases c : j = i
      · subst c; exact Or.inr e.symm
      · exact Or.inl ⟨j, by omega, e⟩
theorem QI.next {len : Nat} {L : Nat → Nat} (h : QI A (aN A) len L) {i : Nat} (hi : i < len) : nextF A (selB A i) = some (L i) := by
  have hb : ∀ j, (selB A i).testBit j = false ↔ ∀ x, x < i → L x ≠ j := by
    intro j
    have := h.sel i (by omega) j
    constructor
    · intro h1 x hx e
      have := this.mpr ⟨x, hx, e⟩
      rw [h1] at this; cases this
    · intro h1
      cases hc : (selB A i).testBit j
      · rfl
      · obtain ⟨x, hx, e⟩ := this.mp hc
        exact absurd e (h1 x hx)
  refine next_of ⟨(h.2.1 i (by omega)).1, (h.2.1 i (by omega)).2, (hb _).mpr (fun x hx e => ?_), fun j hj h1 h2 => ?_⟩
  · rcases h.2.2.2 x i hx (by omega) with z | z
    · rw [e] at z; omega
    · omega
  · obtain ⟨y, hy, rfl⟩ := h.2.2.1 j hj h1
    have hyi : ¬ y < i := fun hlt => (hb _).mp h2 y hlt rfl
    by_cases e : y = i
    · subst e; exact Or.inr ⟨rfl, Nat.le_refl _⟩
    · rcases h.2.2.2 i y (by omega) hy with z | z
      · exact Or.inl z
      · exact Or.inr ⟨z.1, by omega⟩
theorem QI.selS {len : Nat} {L : Nat → Nat} (h : QI A (aN A) len L) {i : Nat} (hi : i < len) : selB A (i + 1) = selB A i ||| 2 ^ L i := by
  show (match nextF A (selB A i) with | none => selB A i | some p => selB A i ||| 2 ^ p) = _
  rw [h.next hi]
theorem QI.no {len : Nat} {L : Nat → Nat} (h : QI A (aN A) len L) : nextF A (selB A len) = none := by
  refine next_no (fun j hj h1 => ?_)
  obtain ⟨i, hi, e⟩ := h.2.2.1 j hj h1
  exact (h.sel len (Nat.le_refl _) j).mpr ⟨i, hi, e⟩
theorem QI.over {len : Nat} {L : Nat → Nat} (h : QI A (aN A) len L) : ∀ k, selB A (len + k) = selB A len
  | 0 => rfl
  | k + 1 => by
    show (match nextF A (selB A (len + k)) with | none => selB A (len + k) | some p => selB A (len + k) ||| 2 ^ p) = _
    rw [QI.over h k, h.no]
theorem QI.nextN {len : Nat} {L : Nat → Nat} (h : QI A (aN A) len L) {i : Nat} (hi : len ≤ i) : nextF A (selB A i) = none := by
  have := h.over (i - len)
  rw [show len + (i - len) = i by omega] at this
  rw [this]; exact h.no
theorem c_inLine {i : Nat} {K : Int32 → tq_St → Prop} (hR : RC S o A) (hw : wfE A) (hi : i < 5) (hK : ∀ S', RC S' o A → Fr o S S' → S'.1 = S.1 → K (oI (nextF A (selB A i))) S') : wp_X1_inLine o (nI i) S K := by
  have hn := hw.1
  unfold wp_X1_inLine
  refine c_line hR hw (fun S' len L a1 a2 a3 a4 a5 => ?_)
  have hl := a4.1
  refine ⟨fun z => absurd z (nI_pos (by omega)), fun _ => ?_⟩
  refine pk_le len i (fun h => ?_) (fun h => ⟨vp_in_nI (by omega) (by decide), ?_⟩)
  · have := hK S' a1 a2 a3
    rw [a4.nextN h] at this
    exact this
  · rw [nI_clamp (by omega), a5 i h]
    have := hK S' a1 a2 a3
    rw [a4.next h] at this
    exact this
-- A TRAM
abbrev tramB (A : aE) : Nat := selB A (aR A)
abbrev boardF (A : aE) : aE := uG A (aG A ||| tramB A)
theorem boardF_wf (hw : wfE A) : wfE (boardF A) := by
  obtain ⟨h1, h2, h3, h4, h5, h6⟩ := hw
  exact ⟨h1, h2, h3, h4, Nat.or_lt_two_pow h5 (selB_lt A _), h6⟩
theorem c_board_39 {b : Nat} {K : Int32 → tq_St → Prop} (hR : RC S o A) (hK : ∀ S', RC S' o (uG A (aG A ||| b)) → Fr o S S' → (∀ k, k ≠ 6 → S'.1 o k = S.1 o k) → K (nI b) S') : wp_X1_board_39 o K (nI b) S := by
  unfold wp_X1_board_39
  refine nm_e ?_
  rw [hR.2.1, fa_or]
  exact hK _ (hR.g _) (Fr.rf.I _ _) (fun k hk => by rw [sI_1, if_neg hk])
theorem c_board_9 {len : Nat} {L : Nat → Nat} {K : Int32 → tq_St → Prop} (hR : RC S o A) (hw : wfE A) (hQ : QI A (aN A) len L) (hM : ∀ i, i < len → S.2.1 o 4 i = nI (L i)) (hK : ∀ S', RC S' o (boardF A) → Fr o S S' → (∀ k, k ≠ 6 → S'.1 o k = S.1 o k) → K (nI (tramB A)) S') : ∀ (m i f : Nat), i + m = len → i ≤ aR A → m < f → wp_X1_board_9 o K f (nI len) (nI (selB A i)) (nI i) S := by
  have hn := hw.1
  have hl := hQ.1
  have hr := hw.2.2.2.2.2.2.1
  intro m
  induction m with
  | zero =>
    intro i f h1 h2 h3
    obtain ⟨f, rfl⟩ : ∃ k, f = k + 1 := ⟨f - 1, by omega⟩
    refine pk_le len i (fun _ => ?_) (fun z => absurd z (by omega))
    refine c_board_39 hR (fun S' a1 a2 a3 => ?_)
    have e : selB A i = tramB A := by
      have h4 := hQ.over (aR A - len)
      rw [show len + (aR A - len) = aR A by omega] at h4
      rw [show i = len by omega]
      exact h4.symm
    rw [e] at a1 ⊢
    exact hK S' a1 a2 a3
  | succ m ih =>
    intro i f h1 h2 h3
    obtain ⟨f, rfl⟩ : ∃ k, f = k + 1 := ⟨f - 1, by omega⟩
    unfold wp_X1_board_9
    refine pk_le len i (fun z => absurd z (by omega)) (fun _ => ?_)
    rw [hR.2.2.2.1]
    refine pk_le (aR A) i (fun z => ?_) (fun z => ⟨vp_in_nI (by omega) (by decide), ?_⟩)
    · refine c_board_39 hR (fun S' a1 a2 a3 => ?_)
      have e : selB A i = tramB A := by rw [show i = aR A by omega]
      rw [e] at a1 ⊢
      exact hK S' a1 a2 a3
    · rw [nI_clamp (by omega), hM i (by omega)]
      have hLi := (hQ.2.1 i (by omega)).1
      refine nm_r (zb_or (by omega)) (nm_r (nI_1 i) ?_)
      rw [← hQ.selS (by omega)]
      exact ih (i + 1) f (by omega) (by omega) (by omega)
theorem c_board {K : Int32 → tq_St → Prop} (hR : RC S o A) (hw : wfE A) (hK : ∀ S', RC S' o (boardF A) → Fr o S S' → (∀ k, k ≠ 6 → S'.1 o k = S.1 o k) → K (nI (tramB A)) S') : wp_X1_board o S K := by
  have hn := hw.1
  unfold wp_X1_board
  refine c_line hR hw (fun S' len L a1 a2 a3 a4 a5 => ?_)
  have hl := a4.1
  refine c_board_9 a1 hw a4 a5 (fun S2 b1 b2 b3 => hK S2 b1 (a2.tr b2) (fun k hk => by rw [b3 k hk, a3])) len 0 2000 (by omega) (by omega) (by omega)
end EVQ
