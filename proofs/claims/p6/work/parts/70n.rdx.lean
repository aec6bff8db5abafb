section RDX
variable {S S0 : tq_St} {G : aQ} {K : Int32 → tq_St → Prop}
-- READ, exactly
def actB (A : aE) (v : Int32) : Bool := decide (v.toNatClampNeg < aN A ∨ v.toNatClampNeg = 5 ∨ v.toNatClampNeg = 6) && decide (v = nI v.toNatClampNeg) && plD A v.toNatClampNeg
def rdX (G : aQ) (k l : Nat) (x : Int32) : Nat → Nat → aE → Int32 × aQ
  | 0, i, A => (nI i, vO (vA G A) 0)
  | m + 1, i, A => match (qH G k).1 with
    | none => (nI i, vO (vA G A) 1)
    | some l' => if l' = l then (if 0 ≤ x.toInt + i ∧ x.toInt + i < (qH G k).2.1 then (if actB A ((qH G k).2.2 (x.toInt + i).toNat) then rdX G k l x m (i + 1) (playF A ((qH G k).2.2 (x.toInt + i).toNat).toNatClampNeg) else (-20 - nI i, G)) else (nI i, vO (vA G A) 2)) else (nI i, vO (vA G A) 3)
theorem actB_y {A : aE} {v : Int32} {a : Nat} (hn : aN A ≤ 5) (ha : okA (aN A) a) (e : v = nI a) : v.toNatClampNeg = a ∧ actB A v = plD A a := by
  have h31 : a < 2 ^ 31 := by unfold okA at ha; omega
  have e2 : v.toNatClampNeg = a := by rw [e]; exact nI_clamp h31
  refine ⟨e2, ?_⟩
  unfold actB
  rw [e2, decide_eq_true (show a < aN A ∨ a = 5 ∨ a = 6 from ha), decide_eq_true e]
  rfl
theorem actB_n {A : aE} {v : Int32} (h : ∀ a, okA (aN A) a → v ≠ nI a) : actB A v = false := by
  unfold actB
  cases h1 : decide (v.toNatClampNeg < aN A ∨ v.toNatClampNeg = 5 ∨ v.toNatClampNeg = 6) with
  | false => rfl
  | true =>
    have h2 := of_decide_eq_true h1
    rw [decide_eq_false (h _ h2)]; rfl
theorem rdX_none {k l m i : Nat} {x : Int32} {A : aE} (e : (qH G k).1 = none) : rdX G k l x (m + 1) i A = (nI i, vO (vA G A) 1) := by
  rw [rdX, e]
theorem rdX_3 {k l l' m i : Nat} {x : Int32} {A : aE} (e : (qH G k).1 = some l') (h : ¬ l' = l) : rdX G k l x (m + 1) i A = (nI i, vO (vA G A) 3) := by
  rw [rdX, e]
  simp only [if_neg h]
theorem rdX_2 {k l m i : Nat} {x : Int32} {A : aE} (e : (qH G k).1 = some l) (h : ¬ (0 ≤ x.toInt + i ∧ x.toInt + i < (qH G k).2.1)) : rdX G k l x (m + 1) i A = (nI i, vO (vA G A) 2) := by
  rw [rdX, e]
  simp only [if_pos, if_neg h]
theorem rdX_b {k l m i j : Nat} {x : Int32} {A : aE} (e : (qH G k).1 = some l) (hj : (j : Int) = x.toInt + i) (hlt : j < (qH G k).2.1) (h : actB A ((qH G k).2.2 j) = false) : rdX G k l x (m + 1) i A = (-20 - nI i, G) := by
  have hc : 0 ≤ x.toInt + i ∧ x.toInt + i < (qH G k).2.1 := by omega
  have ej : (x.toInt + i).toNat = j := by omega
  rw [rdX, e]
  simp only [if_pos, if_pos hc, ej, h]
  rfl
theorem rdX_a {k l m i j : Nat} {x : Int32} {A : aE} (e : (qH G k).1 = some l) (hj : (j : Int) = x.toInt + i) (hlt : j < (qH G k).2.1) (h : actB A ((qH G k).2.2 j) = true) : rdX G k l x (m + 1) i A = rdX G k l x m (i + 1) (playF A ((qH G k).2.2 j).toNatClampNeg) := by
  have hc : 0 ≤ x.toInt + i ∧ x.toInt + i < (qH G k).2.1 := by omega
  have ej : (x.toInt + i).toNat = j := by omega
  rw [rdX, e]
  simp only [if_pos, if_pos hc, ej, h]
theorem rdX_wf (hw : wfQ G) {k l : Nat} {x : Int32} : ∀ (m i : Nat) (A : aE), wfE A → aN A = aN (qA G) → wfQ (rdX G k l x m i A).2 := by
  have hv : ∀ (A : aE) (y : Nat), wfE A → aN A = aN (qA G) → y ≤ 3 → wfQ (vO (vA G A) y) := fun A y h1 h2 h3 => by
    have h := hw.now h1 h2
    exact ⟨h.1, h.2.1, h.2.2.1, h.2.2.2.1, h.2.2.2.2.1, h.2.2.2.2.2.1, h.2.2.2.2.2.2.1, h3⟩
  intro m
  induction m with
  | zero => exact fun i A h1 h2 => hv A 0 h1 h2 (by omega)
  | succ m ih =>
    intro i A h1 h2
    rw [rdX]
    split
    · exact hv A 1 h1 h2 (by omega)
    · split
      · split
        · split
          · exact ih _ _ (playF_wf h1 _) ((playF_same A _).1.trans h2)
          · exact hw
        · exact hv A 2 h1 h2 (by omega)
      · exact hv A 3 h1 h2 (by omega)
/-- the wrapped sum names a cell just where the true one does -/
theorem rd_sum {x : Int32} {i j : Nat} (hi : i ≤ 20) (hj : j < 40) : x + nI i = nI j ↔ (j : Int) = x.toInt + i := by
  have hx := fb_rng x
  have ei : (nI i).toInt = (i : Int) := nI_toInt (by omega)
  have ej : (nI j).toInt = (j : Int) := nI_toInt (by omega)
  constructor
  · intro e
    have h1 : x = nI j - nI i := by rw [← e]; exact (Int32.add_sub_cancel x (nI i)).symm
    have h2 := pk_sub_toInt (a := j) (b := i) (by omega) (by omega)
    rw [h1, h2]
    omega
  · intro e
    apply Int32.toInt_inj.mp
    rw [fb_addI (by omega) (by omega), ei, ej]
    omega
theorem q_rdX_45 {S0 : tq_St} {k l n : Nat} {x : Int32} (hG0 : RQ S0 G) (hw : wfQ G) (hk : k < 4) (hl : l < 3) (hn : n ≤ 20) {R : Int32 × aQ} (hK : ∀ S', RQ S' R.2 → FC S0 S' → K R.1 S') : ∀ (m i f : Nat) (A : aE) (S : tq_St), i + m = n → m < f → wfE A → aN A = aN (qA G) → RC S 1 A → Fr 1 S0 S → rdX G k l x m i A = R → wp_X6_read_45 K f (nI k) (nI l) x (nI n) 0 (nI i) S
  | 0, i, f + 1, A, S, h1, h2, hwA, hA, hR, hF, e => by
    subst e
    unfold wp_X6_read_45
    exact pk_le n i (fun _ => q_rd128 (y := 0) hG0 hw hwA hF hR hK) (fun z => absurd z (by omega))
  | m + 1, i, f + 1, A, S, h1, h2, hwA, hA, hR, hF, e => by
    have hx := hF.fx (Or.inl (by decide))
    have hG := hG0.fx hx
    have hend : ∀ y, R = (nI i, vO (vA G A) y) → wp_X6_read_128 K (nI y) (nI i) S := fun y hy => by
      subst hy
      exact q_rd128 (y := y) hG0 hw hwA hF hR hK
    have hback : R = (-20 - nI i, G) → ∀ S', Fr 1 S0 S' → K (-20 - nI i) S' := fun hR2 S' f' => by
      have hx' := f'.fx (Or.inl (by decide))
      subst hR2
      exact hK S' (hG0.fx hx') hx'.fc
    unfold wp_X6_read_45
    rw [nI_clamp (n := k) (by omega)]
    have hl40 := hw.2.2.2.2.2.2.1 k
    refine pk_le n i (fun z => absurd z (by omega)) (fun _ => ⟨vp_in_nI (by omega) (by decide), ?_⟩)
    refine c_faultAt hG hw hk (fun eN => ⟨fun z => absurd z (by decide), fun _ => hend 1 ?_⟩) (fun l' eL hne => ⟨fun z => absurd z (by decide), fun _ => hend 3 ?_⟩) (fun l' eL el hno => ⟨fun z => absurd z (by decide), fun _ => hend 2 ?_⟩) (fun l' j eL el hj ej => ⟨fun _ => ?_, fun z => absurd rfl z⟩)
    · rw [← e, rdX_none eN]
    · rw [← e, rdX_3 eL (fun c => hne (by rw [c]))]
    · have hl' := hw.2.2.2.2.2.1 k l' eL
      have : l = l' := (nI_eq (by omega) (by omega)).mp el
      subst this
      rw [← e, rdX_2 eL ?_]
      intro hc
      obtain ⟨j, hj⟩ : ∃ j : Nat, (j : Int) = x.toInt + i := ⟨(x.toInt + i).toNat, by omega⟩
      exact hno j (by omega) ((rd_sum (by omega) (by omega)).mpr hj)
    · have hl' := hw.2.2.2.2.2.1 k l' eL
      have : l = l' := (nI_eq (by omega) (by omega)).mp el
      subst this
      have hjx := (rd_sum (x := x) (i := i) (j := j) (by omega) (by omega)).mp ej
      rw [ej]
      refine ⟨vp_in_nI (by omega) (by decide), vp_in_nI (by omega) (by decide), ?_⟩
      have hcell : S.2.1 (23 + k) 0 (nI j).toNatClampNeg = (qH G k).2.2 j := by
        have h6 := hG.2.2.2.2.2.1 k hk
        unfold CH at h6
        rw [eL] at h6
        rw [nI_clamp (by omega)]
        exact h6.2.2.2 j (by omega)
      rw [hcell]
      refine nm_e ?_
      refine c_isAct hR hwA (fun a ha ea => ⟨fun z => absurd z (by decide), fun _ => ?_⟩) (fun hno => ⟨fun _ => hback ?_ S hF, fun z => absurd rfl z⟩)
      · obtain ⟨ec, eb⟩ := actB_y hwA.1 ha ea
        rw [ea]
        refine c_play hR hwA ha (fun S' a1 a2 _ _ _ => ⟨fun z => nm_r (nI_1 i) ?_, fun z => hback ?_ S' (hF.tr a2)⟩)
        · have hb : plD A a = true := by
            cases h : plD A a with
            | true => rfl
            | false => rw [h] at z; exact absurd rfl z
          rw [hb] at eb
          rw [rdX_a eL hjx hj eb, ec] at e
          exact q_rdX_45 hG0 hw hk hl hn hK m (i + 1) f _ S' (by omega) (by omega) (playF_wf hwA _) ((playF_same A _).1.trans hA) a1 (hF.tr a2) e
        · have hb : plD A a = false := by
            cases h : plD A a with
            | false => rfl
            | true => rw [h] at z; exact absurd z (by decide)
          rw [hb] at eb
          rw [← e, rdX_b eL hjx hj eb]
      · rw [← e, rdX_b eL hjx hj (actB_n hno)]
theorem q_readX {x y z w : Int32} (hG : RQ S G) (hw : wfQ G) (hbad : (∀ k, k ≤ 3 → x ≠ nI k) ∨ (∀ l, l ≤ 2 → y ≠ nI l) ∨ (∀ n, n ≤ 20 → w ≠ nI n) → K (-1) S) (hok : ∀ k l n, k ≤ 3 → x = nI k → l ≤ 2 → y = nI l → n ≤ 20 → w = nI n → ∀ S', RQ S' (rdX G k l z n 0 (qA G)).2 → FC S S' → K (rdX G k l z n 0 (qA G)).1 S') : wp_X6_read x y z w S K := by
  unfold wp_X6_read
  refine c_isSheet (fun k hk e => ⟨fun z => absurd z (by decide), fun _ => ?_⟩) (fun hno => ⟨fun _ => hbad (Or.inl hno), fun z => absurd rfl z⟩)
  refine c_isLane (fun l hl e2 => ⟨fun z => absurd z (by decide), fun _ => ?_⟩) (fun hno => ⟨fun _ => hbad (Or.inr (Or.inl hno)), fun z => absurd rfl z⟩)
  have hno20 : (w < 0 ∨ ¬ w ≤ 20) → ∀ n, n ≤ 20 → w ≠ nI n := by
    intro h n hn e
    subst e
    rcases h with h | h
    · exact nI_pos (by omega) h
    · exact h (nI_le (b := 20) (by omega) (by decide))
  refine ⟨fun z1 => hbad (Or.inr (Or.inr (hno20 (Or.inl z1)))), fun z1 => ⟨fun z2 => ?_, fun z2 => hbad (Or.inr (Or.inr (hno20 (Or.inr z2))))⟩⟩
  obtain ⟨n, hn, rfl⟩ := nI_of2 (n := 20) (by decide) z1 z2
  subst e
  subst e2
  refine c_startFrom hG.1 hw.1 (by decide) (fun S1 a1 a2 a3 => ?_)
  exact q_rdX_45 (S0 := S) (l := l) hG hw (by omega) (by omega) hn (hok k l n hk rfl hl rfl hn rfl) n 0 2000 (qA G) S1 (by omega) (by omega) hw.1 rfl a1 a2 rfl
theorem z_rdX_55 {k l n : Nat} {x : Int32} {S0 : tq_St} (hw0 : wfQ G) (hk : k ≤ 3) (hl : l ≤ 2) (hn : n ≤ 20) {R : Int32 × aQ} (hK : ∀ S', RZ S' R.2 → Fr 28 S0 S' → K R.1 S') : ∀ (m i f c : Nat) (y : Nat) (A : aE) (S : tq_St), i + m = n → m < f → y ≤ 3 → (y = 0 → c = i) → wfE A → aN A = aN (qA G) → RZ S (vA G A) → RM S 84 (qA G) → Fr 28 S0 S → (if y = 0 then rdX G k l x m i A else (nI c, vO (vA G A) y)) = R → wp_X7_read_55 K f (nI k) (nI l) x (nI n) (nI y) (nI c) (nI i) S
  | 0, i, f + 1, c, y, A, S, h1, h2, hy, hcy, hwA, hA, hG, hR, hF, e => by
    have e' : R = (nI c, vO (vA G A) y) := by
      rw [← e]
      by_cases c0 : y = 0
      · rw [if_pos c0, hcy c0, c0]; rfl
      · rw [if_neg c0]
    subst e'
    unfold wp_X7_read_55
    exact pk_le n i (fun _ => nm_e (hK _ (hG.torn rfl) (hF.tr (Fr.rf.I _ _)))) (fun z => absurd z (by omega))
  | m + 1, i, f + 1, c, y, A, S, h1, h2, hy, hcy, hwA, hA, hG, hR, hF, e => by
    have hwG : wfQ (vA G A) := hw0.now hwA hA
    unfold wp_X7_read_55
    refine pk_le n i (fun z => absurd z (by omega)) (fun _ => ⟨fun z => nm_e ?_, fun z => ?_⟩)
    · have hy0 : ¬ y = 0 := fun c0 => z (by rw [c0]; rfl)
      rw [if_neg hy0] at e
      subst e
      exact hK _ (hG.torn rfl) (hF.tr (Fr.rf.I _ _))
    have hy0 : y = 0 := (nI_eq (by omega) (by decide)).mp z
    have hci := hcy hy0
    subst hci
    rw [if_pos hy0] at e
    have v4 : vp_in (nI k) 4 := vp_in_nI (by omega) (by decide)
    rw [nI_clamp (n := k) (by omega)]
    have hZ := hG.2.2.2.2.2.1 k (by omega)
    have hl40 := hw0.2.2.2.2.2.2.1 k
    -- the machine finds a fault
    have hbad : ∀ y', 0 < y' → y' ≤ 3 → R = (nI c, vO (vA G A) y') → wp_X7_read_123 K (wp_X7_read_55 K f) (nI k) (nI l) x (nI n) (nI c) (nI c) (nI y') S := by
      intro y' h0 h3 eR
      unfold wp_X7_read_123
      refine ⟨fun _ => nm_r (nI_1 c) ?_, fun z => absurd z (nI_ne0 h0 (by omega))⟩
      exact z_rdX_55 hw0 hk hl hn hK m (c + 1) f c y' A S (by omega) (by omega) h3 (by omega) hwA hA hG hR hF (by rw [if_neg (by omega)]; exact eR.symm)
    refine ⟨v4, ?_⟩
    have hZ : ZH S k (qH G k) := hZ
    unfold ZH at hZ
    cases eN : (qH G k).1 with
    | none =>
      rw [eN] at hZ
      rw [hZ]
      exact ⟨fun z => absurd rfl z, fun _ => hbad 1 (by omega) (by omega) (by rw [← e, rdX_none eN])⟩
    | some l' =>
      rw [eN] at hZ
      obtain ⟨c1, c2, c3⟩ := hZ
      have hl' := hw0.2.2.2.2.2.1 k l' eN
      rw [c1, c2]
      refine ⟨fun _ => ⟨v4, fun el => ⟨v4, ?_⟩, fun hne => hbad 3 (by omega) (by omega) (by rw [← e, rdX_3 eN (fun c => hne (by rw [c]))])⟩, fun z => absurd z (oI_ne (by omega))⟩
      have : l' = l := (nI_eq (by omega) (by omega)).mp el
      subst this
      have esum : (x.toInt64 + (nI c).toInt64).toInt = x.toInt + c := by
        have hx := fb_rng x
        have ec : (nI c).toInt64.toInt = (c : Int) := by rw [Int32.toInt_toInt64, nI_toInt (by omega)]
        have ex : x.toInt64.toInt = x.toInt := Int32.toInt_toInt64 x
        rw [fb_addL (by rw [ex, ec]; omega) (by rw [ex, ec]; omega), ex, ec]
      have ehi : (nI (qH G k).2.1 - 1).toInt64.toInt = ((qH G k).2.1 : Int) - 1 := by
        rw [Int32.toInt_toInt64]
        exact pk_sub_toInt (a := (qH G k).2.1) (b := 1) (by omega) (by omega)
      have e0 : (0 : Int64).toInt = 0 := by decide
      refine m_inL (fun z1 z2 => ⟨fun _ => ?_, fun z => absurd z (by decide)⟩) (fun hno => ⟨fun z => absurd rfl z, fun _ => hbad 2 (by omega) (by omega) (by rw [← e, rdX_2 eN (by rw [esum, ehi, e0] at hno; omega)])⟩)
      rw [esum, e0] at z1
      rw [esum, ehi] at z2
      -- the cell
      obtain ⟨j, hj⟩ : ∃ j : Nat, (j : Int) = x.toInt + c := ⟨(x.toInt + c).toNat, by omega⟩
      have exc : (40 : Int32) * nI k + x + nI c = nI (40 * k + j) := by
        have e40 : (40 : Int32) * nI k = nI (40 * k) := pk_mul 40 k
        rw [e40]
        apply Int32.toInt_inj.mp
        have t1 : (nI (40 * k)).toInt = ((40 * k : Nat) : Int) := nI_toInt (by omega)
        have t2 : (nI c).toInt = (c : Int) := nI_toInt (by omega)
        have t3 : (nI (40 * k + j)).toInt = ((40 * k + j : Nat) : Int) := nI_toInt (by omega)
        have s1 : (nI (40 * k) + x).toInt = (nI (40 * k)).toInt + x.toInt := fb_addI (by omega) (by omega)
        rw [fb_addI (by omega) (by omega), s1, t1, t2, t3]
        omega
      unfold wp_X7_read_123
      rw [exc, nI_clamp (n := 40 * k + j) (by omega), c3 j (by omega)]
      refine ⟨fun z => absurd rfl z, fun _ => ⟨vp_in_nI (by omega) (by decide), ?_⟩⟩
      refine z_does hG hwG (fun a S' ha ea hd hR' hF' => ⟨fun _ => nm_r (nI_1 c) (nm_r (nI_1 c) ?_), fun z => absurd z (by decide)⟩) (fun hno => ⟨fun z => absurd rfl z, fun _ => ?_⟩)
      · have hR84 : RM S' 84 (qA G) := hR.fm hF' hw0.1.1 hw0.1.2.2.2.2.2.2.2.2.1 (by omega)
        obtain ⟨ec, eb⟩ := actB_y (A := A) hwA.1 ha ea
        rw [show plD A a = true from hd] at eb
        rw [rdX_a eN hj (by omega) eb, ec] at e
        exact z_rdX_55 hw0 hk hl hn hK m (c + 1) f (c + 1) 0 _ S' (by omega) (by omega) (by omega) (fun _ => rfl) (playF_wf hwA a) ((playF_same A a).1.trans hA) hR' hR84 (hF.tr hF'.fr) (by rw [if_pos rfl]; exact e)
      · have eb : actB A ((qH G k).2.2 j) = false := by
          by_cases ha : ∃ a, okA (aN A) a ∧ (qH G k).2.2 j = nI a
          · obtain ⟨a, ha, ea⟩ := ha
            rw [(actB_y (A := A) hwA.1 ha ea).2]
            exact hno a ha ea
          · exact actB_n (fun a h1 h2 => ha ⟨a, h1, h2⟩)
        rw [rdX_b eN hj (by omega) eb] at e
        subst e
        refine m_copies (a := 84) (b := 0) (by decide) (by decide) (by omega) hR hw0.1.1 hw0.1.2.2.2.2.2.2.2.2.1 (fun S' f' r' => ?_)
        exact hK S' (hG.now hwG f' r') (hF.tr f'.fr)
theorem z_readX {x y z w : Int32} (hG : RZ S G) (hw : wfQ G) (hbad : (∀ k, k ≤ 3 → x ≠ nI k) ∨ (∀ l, l ≤ 2 → y ≠ nI l) ∨ (∀ n, n ≤ 20 → w ≠ nI n) → K (-1) S) (hok : ∀ k l n, k ≤ 3 → x = nI k → l ≤ 2 → y = nI l → n ≤ 20 → w = nI n → ∀ S', RZ S' (rdX G k l z n 0 (qA G)).2 → Fr 28 S S' → K (rdX G k l z n 0 (qA G)).1 S') : wp_X7_read x y z w S K := by
  unfold wp_X7_read
  refine m_in 0 3 (by decide) (by decide) (by decide) (fun k _ hk e => ⟨fun z => absurd z (by decide), fun _ => ?_⟩) (fun h => ⟨fun _ => hbad (Or.inl (fun k hk => h k (Nat.zero_le _) hk)), fun z => absurd rfl z⟩)
  refine m_in 0 2 (by decide) (by decide) (by decide) (fun l _ hl e2 => ⟨fun z => absurd z (by decide), fun _ => ?_⟩) (fun h => ⟨fun _ => hbad (Or.inr (Or.inl (fun k hk => h k (Nat.zero_le _) hk))), fun z => absurd rfl z⟩)
  refine m_in 0 20 (by decide) (by decide) (by decide) (fun n _ hn e3 => ⟨fun _ => ?_, fun z => absurd z (by decide)⟩) (fun h => ⟨fun z => absurd rfl z, fun _ => hbad (Or.inr (Or.inr (fun k hk => h k (Nat.zero_le _) hk)))⟩)
  subst e
  subst e2
  subst e3
  refine m_copies (a := 0) (b := 84) (by decide) (by decide) (by omega) hG.1 hw.1.1 hw.1.2.2.2.2.2.2.2.2.1 (fun S1 f1 r1 => ?_)
  exact z_rdX_55 (G := G) (S0 := S) hw hk hl hn (hok k l n hk rfl hl rfl hn rfl) n 0 2000 0 0 (qA G) S1 (by omega) (by omega) (by omega) (fun _ => rfl) hw.1 rfl (hG.fz hw (f1.fz (by decide))) r1 f1.fr (by rw [if_pos rfl])
end RDX
