section EVC
variable {S : tq_St} {o : Nat} {A : aE}
-- WHAT A STORE DOES TO AN EVENING
theorem RC.s (h : RC S o A) (p x : Nat) : RC (sA S o 1 p (nI x)) o (uS A (un (aS A) p x)) := by
  obtain ⟨h5, h6, h7, h8, h9, h10, hk, hs, hw, ha⟩ := h
  refine ⟨h5, h6, h7, h8, h9, h10, fun q hq => ?_, fun q hq => ?_, fun q hq => ?_, fun q hq => ?_⟩
  · rw [sA_nk _ _ _ _ _ (by decide)]; exact hk q hq
  · rw [sA_at]
    by_cases e : q = p
    · subst e; rw [if_pos rfl]; exact congrArg nI (un_s _ _ _).symm
    · rw [if_neg e]; exact (hs q hq).trans (congrArg nI (un_n _ _ e).symm)
  · rw [sA_nk _ _ _ _ _ (by decide)]; exact hw q hq
  · rw [sA_nk _ _ _ _ _ (by decide)]; exact ha q hq
theorem RC.k (h : RC S o A) (p x : Nat) : RC (sA S o 0 p (nI x)) o (uK A (un (aK A) p x)) := by
  obtain ⟨h5, h6, h7, h8, h9, h10, hk, hs, hw, ha⟩ := h
  refine ⟨h5, h6, h7, h8, h9, h10, fun q hq => ?_, fun q hq => ?_, fun q hq => ?_, fun q hq => ?_⟩
  · rw [sA_at]
    by_cases e : q = p
    · subst e; rw [if_pos rfl]; exact congrArg nI (un_s _ _ _).symm
    · rw [if_neg e]; exact (hk q hq).trans (congrArg nI (un_n _ _ e).symm)
  · rw [sA_nk _ _ _ _ _ (by decide)]; exact hs q hq
  · rw [sA_nk _ _ _ _ _ (by decide)]; exact hw q hq
  · rw [sA_nk _ _ _ _ _ (by decide)]; exact ha q hq
theorem RC.w (h : RC S o A) (p x : Nat) {v : Int32} (hv : v = nI x - 1) : RC (sA S o 2 p v) o (uW A (un (aW A) p x)) := by
  obtain ⟨h5, h6, h7, h8, h9, h10, hk, hs, hw, ha⟩ := h
  subst hv
  refine ⟨h5, h6, h7, h8, h9, h10, fun q hq => ?_, fun q hq => ?_, fun q hq => ?_, fun q hq => ?_⟩
  · rw [sA_nk _ _ _ _ _ (by decide)]; exact hk q hq
  · rw [sA_nk _ _ _ _ _ (by decide)]; exact hs q hq
  · rw [sA_at]
    by_cases e : q = p
    · subst e; rw [if_pos rfl]; exact congrArg (fun z => nI z - 1) (un_s _ _ _).symm
    · rw [if_neg e]; exact (hw q hq).trans (congrArg (fun z => nI z - 1) (un_n _ _ e).symm)
  · rw [sA_nk _ _ _ _ _ (by decide)]; exact ha q hq
theorem RC.l (h : RC S o A) (i : Nat) (v : Int32) : RC (sA S o 4 i v) o A := by
  obtain ⟨h5, h6, h7, h8, h9, h10, hk, hs, hw, ha⟩ := h
  refine ⟨h5, h6, h7, h8, h9, h10, fun q hq => ?_, fun q hq => ?_, fun q hq => ?_, fun q hq => ?_⟩
  · rw [sA_nk _ _ _ _ _ (by decide)]; exact hk q hq
  · rw [sA_nk _ _ _ _ _ (by decide)]; exact hs q hq
  · rw [sA_nk _ _ _ _ _ (by decide)]; exact hw q hq
  · rw [sA_nk _ _ _ _ _ (by decide)]; exact ha q hq
theorem RC.t (h : RC S o A) {k : Nat} (hk : 11 ≤ k) (v : Int32) : RC (sI S o k v) o A := by
  obtain ⟨h5, h6, h7, h8, h9, h10, hr⟩ := h
  refine ⟨?_, ?_, ?_, ?_, ?_, ?_, hr⟩ <;> rw [sI_1, if_neg (by omega)] <;> assumption
theorem RC.g (h : RC S o A) (g : Nat) : RC (sI S o 6 (nI g)) o (uG A g) := by
  obtain ⟨h5, h6, h7, h8, h9, h10, hr⟩ := h
  refine ⟨?_, ?_, ?_, ?_, ?_, ?_, hr⟩ <;> rw [sI_1] <;> simp <;> assumption
theorem RC.m (h : RC S o A) (m : Nat) : RC (sI S o 7 (nI m)) o (uM A m) := by
  obtain ⟨h5, h6, h7, h8, h9, h10, hr⟩ := h
  refine ⟨?_, ?_, ?_, ?_, ?_, ?_, hr⟩ <;> rw [sI_1] <;> simp <;> assumption
theorem RC.r (h : RC S o A) (m : Nat) : RC (sI S o 8 (nI m)) o (uR A m) := by
  obtain ⟨h5, h6, h7, h8, h9, h10, hr⟩ := h
  refine ⟨?_, ?_, ?_, ?_, ?_, ?_, hr⟩ <;> rw [sI_1] <;> simp <;> assumption
theorem RC.h (h : RC S o A) (m : Nat) : RC (sI S o 9 (nI m)) o (uT A m) := by
  obtain ⟨h5, h6, h7, h8, h9, h10, hr⟩ := h
  refine ⟨?_, ?_, ?_, ?_, ?_, ?_, hr⟩ <;> rw [sI_1] <;> simp <;> assumption
theorem RC.fr {o' : Nat} {S' : tq_St} (h : RC S o A) (f : Fr o' S S') (ho : o ≠ o') : RC S' o A := by
  unfold RC
  rw [(f.1 o ho).1, (f.1 o ho).2]
  exact h
-- THERE, WAITING
theorem c_isThere {n : Nat} {p : Int32} {K : Int32 → tq_St → Prop} (h5 : S.1 o 5 = nI n) (hn : n ≤ 5) (h1 : ∀ j, j < n → p = nI j → K 1 S) (h0 : (∀ j, j < n → p ≠ nI j) → K 0 S) : wp_X1_isThere o p S K := by
  unfold wp_X1_isThere
  rw [h5]
  rcases pk_ix p (n := n) (by omega) with h | h | ⟨j, hj, rfl⟩
  · have hne : ∀ j, j < n → p ≠ nI j := fun j hj e => by subst e; exact nI_pos (by omega) h
    exact ⟨fun _ => h0 hne, fun z => absurd h z⟩
  · have hne : ∀ j, j < n → p ≠ nI j := fun j hj e => by subst e; exact nI_ge hj (by omega) h
    exact ⟨fun _ => h0 hne, fun _ => ⟨fun _ => h0 hne, fun z => absurd h z⟩⟩
  · exact ⟨fun z => absurd z (nI_pos (by omega)), fun _ => ⟨fun z => absurd z (nI_ge hj (by omega)), fun _ => h1 j hj rfl⟩⟩
theorem c_waits {n g : Nat} {p : Int32} {K : Int32 → tq_St → Prop} (h5 : S.1 o 5 = nI n) (hn : n ≤ 5) (h6 : S.1 o 6 = nI g) (hg : g < 2 ^ 31) (h1 : ∀ j, j < n → p = nI j → g.testBit j = false → K 1 S) (h0 : (∀ j, j < n → p = nI j → g.testBit j = true) → K 0 S) : wp_X1_waits o p S K := by
  unfold wp_X1_waits
  rw [h5, h6]
  rcases pk_ix p (n := n) (by omega) with h | h | ⟨j, hj, rfl⟩
  · have hne : ∀ j, j < n → p = nI j → g.testBit j = true := fun j hj e => by subst e; exact absurd h (nI_pos (by omega))
    exact ⟨fun _ => h0 hne, fun z => absurd h z⟩
  · have hne : ∀ j, j < n → p = nI j → g.testBit j = true := fun j hj e => by subst e; exact absurd h (nI_ge hj (by omega))
    exact ⟨fun _ => h0 hne, fun _ => ⟨fun _ => h0 hne, fun z => absurd h z⟩⟩
  · refine ⟨fun z => absurd z (nI_pos (by omega)), fun _ => ⟨fun z => absurd z (nI_ge hj (by omega)), fun _ => ?_⟩⟩
    rw [zb_0 hg (by omega)]
    refine ⟨fun z => h0 (fun i hi e => ?_), fun z => h1 j hj rfl z⟩
    have h3 : j = i := (nI_eq (by omega) (by omega)).mp e
    subst h3
    cases hb : g.testBit j
    · exact absurd hb z
    · rfl
theorem c_waitsN {n g j : Nat} {K : Int32 → tq_St → Prop} (h5 : S.1 o 5 = nI n) (hn : n ≤ 5) (h6 : S.1 o 6 = nI g) (hg : g < 2 ^ 31) (hj : j < n) (h1 : g.testBit j = false → K 1 S) (h0 : g.testBit j = true → K 0 S) : wp_X1_waits o (nI j) S K :=
  c_waits h5 hn h6 hg (fun i hi e z => h1 (by rw [(nI_eq (by omega) (by omega)).mp e]; exact z)) (fun z => h0 (z j hj rfl))
theorem wfE.g31 (hw : wfE A) : aG A < 2 ^ 31 := by
  have h1 := hw.1
  have h2 := hw.2.2.2.2.1
  have h3 := zb_p31 h1
  omega
-- SORROW
def sadS (s : Nat → Nat) (q : Option Nat) (k : Nat) : Nat → Nat := match q with
  | none => s
  | some p => un s p (min 40 (s p + k))
theorem zb_min {s k : Nat} (h : s + k < 2 ^ 31) : (if (nI s + nI k : Int32) < 40 then nI s + nI k else 40) = nI (min 40 (s + k)) := by
  rw [nI_add]
  have h4 : (40 : Int32) = nI 40 := rfl
  rw [h4]
  by_cases hc : s + k < 40
  · rw [if_pos ((nI_ltI h (by decide)).mpr hc)]; congr 1; omega
  · rw [if_neg (fun z => hc ((nI_ltI h (by decide)).mp z))]; congr 1; omega
theorem c_sadden {q : Option Nat} {k : Nat} {K : tq_St → Prop} (hR : RC S o A) (hn : aN A ≤ 5) (hs : ∀ p, aS A p ≤ 40) (hq : ∀ j, q = some j → j < aN A) (hk : k < 100) (hK : ∀ S', RC S' o (uS A (sadS (aS A) q k)) → Fr o S S' → S'.1 = S.1 → K S') : wp_X1_sadden o (oI q) (nI k) S K := by
  unfold wp_X1_sadden
  cases q with
  | none => exact ⟨fun _ => hK S hR Fr.rf rfl, fun z => absurd (by decide) z⟩
  | some p =>
    have hp := hq p rfl
    have h5 := hR.1
    rw [h5]
    refine ⟨fun z => absurd z (nI_pos (by omega)), fun _ => ⟨fun z => absurd z (nI_ge hp (by omega)), fun _ => ⟨vp_in_nI (by omega) (by decide), vp_in_nI (by omega) (by decide), nm_e ?_⟩⟩⟩
    have hv : (oI (some p)).toNatClampNeg = p := nI_clamp (by omega)
    rw [hv, hR.2.2.2.2.2.2.2.1 p hp, zb_min (by have := hs p; omega)]
    exact hK _ (hR.s p _) (Fr.rf.A _ _ _) rfl
-- THE NEAREST
def ff (P : Nat → Bool) : Nat → Nat → Option Nat
  | _, 0 => none
  | i, k + 1 => if P i then some i else ff P (i + 1) k
theorem ff_some {P : Nat → Bool} : ∀ {k i j : Nat}, ff P i k = some j → i ≤ j ∧ j < i + k ∧ P j = true ∧ ∀ x, i ≤ x → x < j → P x = false
  | 0, i, j, h => by simp [ff] at h
  | k + 1, i, j, h => by
    unfold ff at h
    by_cases hp : P i = true
    · rw [if_pos hp] at h
      cases h
      exact ⟨Nat.le_refl _, by omega, hp, fun x h1 h2 => by omega⟩
    · rw [if_neg hp] at h
      obtain ⟨h1, h2, h3, h4⟩ := ff_some h
      refine ⟨by omega, by omega, h3, fun x hx1 hx2 => ?_⟩
      by_cases e : x = i
      · subst e; simpa using hp
      · exact h4 x (by omega) hx2
theorem ff_none {P : Nat → Bool} : ∀ {k i : Nat}, ff P i k = none → ∀ x, i ≤ x → x < i + k → P x = false
  | 0, i, h => fun x h1 h2 => by omega
  | k + 1, i, h => fun x h1 h2 => by
    unfold ff at h
    by_cases hp : P i = true
    · rw [if_pos hp] at h; cases h
    · rw [if_neg hp] at h
      by_cases e : x = i
      · subst e; simpa using hp
      · exact ff_none h x (by omega) (by omega)
def nearA (g : Nat) : Nat → Option Nat
  | 0 => none
  | p + 1 => if g.testBit p then nearA g p else some p
def nearB (n g p : Nat) : Option Nat := ff (fun j => !g.testBit j) (p + 1) (n - (p + 1))
theorem nearA_lt {g : Nat} : ∀ {p j : Nat}, nearA g p = some j → j < p
  | 0, j, h => by cases h
  | p + 1, j, h => by
    unfold nearA at h
    by_cases hp : g.testBit p = true
    · rw [if_pos hp] at h; have := nearA_lt h; omega
    · rw [if_neg hp] at h; cases h; omega
theorem nearB_lt {n g p j : Nat} (h : nearB n g p = some j) : j < n := by
  obtain ⟨h1, h2, -⟩ := ff_some h
  omega
theorem c_near_neg {n g : Nat} {K : Int32 → tq_St → Prop} (h5 : S.1 o 5 = nI n) (hn : n ≤ 5) (h6 : S.1 o 6 = nI g) (hg : g < 2 ^ 31) (hK : K (-4) S) : ∀ (m t f : Nat) (x : Int32), t + m = 5 → m < f → x.toInt < 0 → (-100 : Int) - t ≤ x.toInt → wp_X1_nearest_5 o K f (-1) x (nI t) S
  | 0, t, f + 1, x, ht, hf, hx, hx2 => by
    have h : t = 5 := by omega
    subst h
    exact ⟨fun _ => hK, fun z => absurd (by decide) z⟩
  | m + 1, t, f + 1, x, ht, hf, hx, hx2 => by
    unfold wp_X1_nearest_5
    refine pk_le 5 t (fun z => absurd z (by omega)) (fun _ => nm_e ?_)
    have hm : ((-1 : Int32)).toInt = -1 := by decide
    have hx3 : (x + (-1)).toInt = x.toInt - 1 := by
      have h7 := fb_addI (x := x) (y := -1) (by omega) (by omega)
      omega
    refine c_waits h5 hn h6 hg (fun j hj e => ?_) (fun _ => ?_)
    · have h8 := nI_toInt (n := j) (by omega)
      rw [← e] at h8
      omega
    · refine ⟨fun _ => nm_r (nI_1 t) ?_, fun z => absurd rfl z⟩
      exact c_near_neg h5 hn h6 hg hK m (t + 1) f _ (by omega) (by omega) (by omega) (by omega)
theorem c_near_dn {n g : Nat} {K : Int32 → tq_St → Prop} (h5 : S.1 o 5 = nI n) (hn : n ≤ 5) (h6 : S.1 o 6 = nI g) (hg : g < 2 ^ 31) : ∀ (a t f : Nat), a + t ≤ 5 → a ≤ n → 6 ≤ f + t → K (oI (nearA g a)) S → wp_X1_nearest_5 o K f (-1) (nI a) (nI t) S
  | 0, t, 0, h1, h2, h3, hK => by omega
  | a + 1, t, 0, h1, h2, h3, hK => by omega
  | 0, t, f + 1, h1, h2, h3, hK => by
    unfold wp_X1_nearest_5
    refine pk_le 5 t (fun z => hK) (fun _ => nm_e ?_)
    refine c_waits h5 hn h6 hg (fun j hj e => ?_) (fun _ => ?_)
    · have h8 := nI_toInt (n := j) (by omega)
      rw [← e] at h8
      have h9 : (nI 0 + (-1)).toInt = -1 := by decide
      omega
    · refine ⟨fun _ => nm_r (nI_1 t) ?_, fun z => absurd rfl z⟩
      have h9 : (nI 0 + (-1)).toInt = -1 := by decide
      exact c_near_neg h5 hn h6 hg hK (4 - t) (t + 1) f _ (by omega) (by omega) (by omega) (by omega)
  | a + 1, t, f + 1, h1, h2, h3, hK => by
    unfold wp_X1_nearest_5
    refine pk_le 5 t (fun z => absurd z (by omega)) (fun _ => nm_r (pk_m1 a) ?_)
    refine c_waitsN h5 hn h6 hg (by omega) (fun hb => ?_) (fun hb => ?_)
    · refine ⟨fun z => absurd z (by decide), fun _ => ?_⟩
      unfold nearA at hK
      rw [if_neg (by rw [hb]; decide)] at hK
      exact hK
    · refine ⟨fun _ => nm_r (nI_1 t) ?_, fun z => absurd rfl z⟩
      unfold nearA at hK
      rw [if_pos hb] at hK
      exact c_near_dn h5 hn h6 hg a (t + 1) f (by omega) (by omega) (by omega) hK
theorem c_near_up {n g : Nat} {K : Int32 → tq_St → Prop} (h5 : S.1 o 5 = nI n) (hn : n ≤ 5) (h6 : S.1 o 6 = nI g) (hg : g < 2 ^ 31) : ∀ (m a t f : Nat), t + m = 5 → n + t ≤ a + 6 → a ≤ 100 + t → m < f → K (oI (nearB n g a)) S → wp_X1_nearest_5 o K f 1 (nI a) (nI t) S
  | 0, a, t, f + 1, h1, h2, h2b, h3, hK => by
    have h : t = 5 := by omega
    subst h
    refine ⟨fun _ => ?_, fun z => absurd (by decide) z⟩
    unfold nearB at hK
    rw [show n - (a + 1) = 0 by omega] at hK
    exact hK
  | m + 1, a, t, f + 1, h1, h2, h2b, h3, hK => by
    unfold wp_X1_nearest_5
    refine pk_le 5 t (fun z => absurd z (by omega)) (fun _ => nm_r (nI_1 a) ?_)
    by_cases ha : a + 1 < n
    · refine c_waitsN h5 hn h6 hg ha (fun hb => ?_) (fun hb => ?_)
      · refine ⟨fun z => absurd z (by decide), fun _ => ?_⟩
        unfold nearB at hK
        rw [show n - (a + 1) = (n - (a + 1 + 1)) + 1 by omega] at hK
        unfold ff at hK
        rw [if_pos (by rw [hb]; decide)] at hK
        exact hK
      · refine ⟨fun _ => nm_r (nI_1 t) ?_, fun z => absurd rfl z⟩
        refine c_near_up h5 hn h6 hg m (a + 1) (t + 1) f (by omega) (by omega) (by omega) (by omega) ?_
        unfold nearB at hK ⊢
        rw [show n - (a + 1) = (n - (a + 1 + 1)) + 1 by omega] at hK
        unfold ff at hK
        rw [if_neg (by rw [hb]; decide)] at hK
        exact hK
    · refine c_waits h5 hn h6 hg (fun j hj e => absurd ((nI_eq (by omega) (by omega)).mp e) (by omega)) (fun _ => ?_)
      refine ⟨fun _ => nm_r (nI_1 t) ?_, fun z => absurd rfl z⟩
      refine c_near_up h5 hn h6 hg m (a + 1) (t + 1) f (by omega) (by omega) (by omega) (by omega) ?_
      unfold nearB at hK ⊢
      rw [show n - (a + 1) = 0 by omega] at hK
      rw [show n - (a + 1 + 1) = 0 by omega]
      exact hK
theorem c_nearA {n g p : Nat} {K : Int32 → tq_St → Prop} (h5 : S.1 o 5 = nI n) (hn : n ≤ 5) (h6 : S.1 o 6 = nI g) (hg : g < 2 ^ 31) (hp : p < n) (hK : K (oI (nearA g p)) S) : wp_X1_nearest o (nI p) (-1) S K :=
  c_near_dn h5 hn h6 hg p 0 2000 (by omega) (by omega) (by omega) hK
theorem c_nearB {n g p : Nat} {K : Int32 → tq_St → Prop} (h5 : S.1 o 5 = nI n) (hn : n ≤ 5) (h6 : S.1 o 6 = nI g) (hg : g < 2 ^ 31) (hp : p < n) (hK : K (oI (nearB n g p)) S) : wp_X1_nearest o (nI p) 1 S K :=
  c_near_up h5 hn h6 hg 5 p 0 2000 (by omega) (by omega) (by omega) (by omega) hK
end EVC
