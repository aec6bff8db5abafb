section Z2
variable {S : tq_St} {G : aQ} {K : Int32 → tq_St → Prop}
theorem z_p (S : tq_St) {k : Nat} (x : Int32) (hx : x = nI k) (hk : k < 168) : S.2.1 28 0 x.toNatClampNeg = pg S k := by
  subst hx
  rw [nI_clamp (by omega)]
theorem z_rule {x : Int32} (hG : RZ S G) (hw : wfQ G) (hbad : (∀ w, w ≤ 6 → x ≠ nI w) → K (-1) S) (h0 : x = 0 → K (nI (aN (qA G))) S) (h1 : x = 1 → K (nI (aM (qA G))) S) (h2 : x = 2 → K (nI (aR (qA G))) S) (h3 : x = 3 → K (nI (aT (qA G))) S) (h4 : x = 4 → K (nI (aC (qA G))) S) (h5 : x = 5 → K (wbI (aN (qA G)) (aG (qA G))) S) (h6 : x = 6 → K (nI (sorF (qA G))) S) : wp_X7_rule x S K := by
  obtain ⟨r1, r2, r3, r4, r5, r6, r7, r8, r9, r10, r11⟩ := hG.1
  unfold wp_X7_rule
  have e2 : (2 : Int32) = nI 2 := rfl
  have e4 : (4 : Int32) = nI 4 := rfl
  rw [z_p S (k := 16) 16 rfl (by decide), z_p S (k := 17) 17 rfl (by decide), z_p S (k := 18) 18 rfl (by decide), z_p S (k := 27) 27 rfl (by decide)]
  have r6 : pg S 16 = nI (aM (qA G)) := by simpa using r6
  have r7 : pg S 17 = nI (aR (qA G)) - 2 := by simpa using r7
  have r8 : pg S 18 = nI (aT (qA G)) - 4 := by simpa using r8
  have r9 : pg S 27 = nI (aC (qA G)) := by simpa using r9
  rw [r1, r6, r7, r8, r9]
  refine ⟨fun z => hbad (fun w hw e => ?_), h0, fun e => ⟨vp_in_nI (n := 16) (by decide) (by decide), h1 e⟩, fun e => ⟨vp_in_nI (n := 17) (by decide) (by decide), ?_⟩, fun e => ⟨vp_in_nI (n := 18) (by decide) (by decide), ?_⟩, fun e => ⟨vp_in_nI (n := 27) (by decide) (by decide), h4 e⟩, fun e => m_waitingOn (g := 0) hG.1 (by decide) (h5 e), fun e => m_sorrowOn (g := 0) hG.1 hw.1 (by decide) (h6 e)⟩
  · rw [e, nI_toInt (by omega)] at z
    omega
  · have h := h2 e
    rw [show nI (aR (qA G)) - 2 + 2 = nI (aR (qA G)) from i_sub_add _ 2]
    exact h
  · have h := h3 e
    rw [show nI (aT (qA G)) - 4 + 4 = nI (aT (qA G)) from i_sub_add _ 4]
    exact h
theorem z_orNone {w : Nat} (hw : w ≤ 1000) (hK : K (oW w) S) : wp_X7_orNone (nI w) S K := by
  unfold wp_X7_orNone
  unfold oW at hK
  have e0 : (0 : Int32) = nI 0 := rfl
  rw [e0, nI_eq (by omega) (by decide)]
  refine ⟨fun z => ?_, fun z => ?_⟩
  · rw [if_neg z] at hK; exact hK
  · rw [if_pos z] at hK; exact hK
theorem z_one {x y : Int32} (hG : RZ S G) (hw : wfQ G) (hbad : (∀ p, p < aN (qA G) → x ≠ nI p) ∨ (∀ w, w ≤ 4 → y ≠ nI w) → K (-1) S) (h0 : ∀ p, p < aN (qA G) → x = nI p → y = 0 → K (nI (aK (qA G) p)) S) (h1 : ∀ p, p < aN (qA G) → x = nI p → y = 1 → K (nI (aS (qA G) p)) S) (h2 : ∀ p, p < aN (qA G) → x = nI p → y = 2 → K (oW (aW (qA G) p)) S) (h3 : ∀ p, p < aN (qA G) → x = nI p → y = 3 → K (nI (brN (aK (qA G) p))) S) (h4 : ∀ p, p < aN (qA G) → x = nI p → y = 4 → K (nI (if (aG (qA G)).testBit p then 1 else 0)) S) : wp_X7_one x y S K := by
  have hn := hw.1.1
  obtain ⟨r1, r2, r3, r4, r5, r6, r7, r8, r9, r10, r11⟩ := hG.1
  unfold wp_X7_one
  refine m_isOne r1 hn (fun p hp e => ⟨fun _ => ?_, fun z => absurd z (by decide)⟩) (fun hno => ⟨fun z => absurd rfl z, fun _ => hbad (Or.inl hno)⟩)
  subst e
  have q2 : pg S p = nI (aK (qA G) p) := by have := r2 p hp; rwa [Nat.zero_add] at this
  have q3 : pg S (5 + p) = nI (aS (qA G) p) := by have := r3 p hp; rwa [Nat.zero_add] at this
  have q4 : pg S (10 + p) = nI (aW (qA G) p) := by have := r4 p hp; rwa [Nat.zero_add] at this
  have q5 : pg S 15 = nI (aG (qA G)) := by simpa using r5
  have hk := hw.1.2.1 p
  have i10 : (10 : Int32) + nI p = nI (10 + p) := nI_add 10 p
  refine ⟨fun z => hbad (Or.inr (fun w hw e => ?_)), fun z => ?_, fun z => ?_, fun z => ?_, fun z => ?_, fun z => ?_⟩
  · rw [e, nI_toInt (by omega)] at z
    omega
  · unfold wp_X7_one_44
    have e : (5 : Int32) * y + nI p = nI p := by
      subst z
      have : (5 : Int32) * 0 = nI 0 := by decide
      rw [this, nI_add, Nat.zero_add]
    rw [e, z_p S (k := p) _ rfl (by omega), q2]
    exact ⟨vp_in_nI (by omega) (by decide), h0 p hp rfl z⟩
  · unfold wp_X7_one_44
    have e : (5 : Int32) * y + nI p = nI (5 + p) := by
      subst z
      have : (5 : Int32) * 1 = nI 5 := by decide
      rw [this, nI_add]
    rw [e, z_p S (k := 5 + p) _ rfl (by omega), q3]
    exact ⟨vp_in_nI (by omega) (by decide), h1 p hp rfl z⟩
  · rw [i10, z_p S (k := 10 + p) _ rfl (by omega), q4]
    exact ⟨vp_in_nI (by omega) (by decide), z_orNone (hw.1.2.2.2.1 p) (h2 p hp rfl z)⟩
  · rw [z_p S (k := p) _ rfl (by omega), q2, nI_clamp (by omega), r11 _ hk]
    exact ⟨vp_in_nI (by omega) (by decide), vp_in_nI hk (by decide), h3 p hp rfl z⟩
  · rw [z_p S (k := 15) 15 rfl (by decide), q5, zb_val hw.1.g31 (by omega)]
    exact ⟨vp_in_nI (n := 15) (by decide) (by decide), h4 p hp rfl z⟩
theorem z_act {x : Int32} (hG : RZ S G) (hw : wfQ G) (hbad : (∀ i, i < aC (qA G) → x ≠ nI i) → K (-1) S) (hok : ∀ i, i < aC (qA G) → x = nI i → K (nI (aA (qA G) i)) S) : wp_X7_act x S K := by
  have hc := hw.1.2.2.2.2.2.2.2.2.1
  have r9 : pg S 27 = nI (aC (qA G)) := by simpa using hG.1.2.2.2.2.2.2.2.2.1
  unfold wp_X7_act
  rw [z_p S (k := 27) 27 rfl (by decide), r9]
  refine ⟨vp_in_nI (n := 27) (by decide) (by decide), m_inN (by omega) (fun i hi e => ⟨fun z => absurd z (by decide), fun _ => ?_⟩) (fun h => ⟨fun _ => hbad h, fun z => absurd rfl z⟩)⟩
  subst e
  have i19 : (19 : Int32) + nI i = nI (19 + i) := nI_add 19 i
  have q : pg S (19 + i) = nI (aA (qA G) i) := by have := hG.1.2.2.2.2.2.2.2.2.2.1 i hi; rwa [Nat.zero_add] at this
  rw [i19, z_p S (k := 19 + i) _ rfl (by omega), q]
  exact ⟨vp_in_nI (by omega) (by decide), hok i hi rfl⟩
theorem z_queue_26 {n : Nat} (hG : RZ S G) (hw : wfQ G) (hn : n ≤ 4) (hK : K (oI (nextF (qA G) (selB (qA G) n))) S) : ∀ (m i f : Nat), i + m = n → m < f → wp_X7_queue_26 K f (nI n) (nI (selB (qA G) i)) (oI (nextF (qA G) (selB (qA G) i))) (nI i) S
  | 0, i, f + 1, h1, h2 => by
    unfold wp_X7_queue_26
    refine pk_le n i (fun _ => ?_) (fun z => absurd z (by omega))
    rw [show i = n by omega]
    exact hK
  | m + 1, i, f + 1, h1, h2 => by
    have hn5 := hw.1.1
    have h32 := zb_p31 hn5
    have hb := selB_lt (qA G) i
    have ih := z_queue_26 hG hw hn hK m (i + 1) f (by omega) (by omega)
    unfold wp_X7_queue_26
    refine pk_le n i (fun z => absurd z (by omega)) (fun _ => ?_)
    cases e : nextF (qA G) (selB (qA G) i) with
    | none =>
      refine ⟨fun _ => ?_, fun z => absurd rfl z⟩
      -- none now, none later
      have hst : ∀ k, selB (qA G) (i + k) = selB (qA G) i := by
        intro k
        induction k with
        | zero => rfl
        | succ k ihk =>
          show (match nextF (qA G) (selB (qA G) (i + k)) with | none => selB (qA G) (i + k) | some p => selB (qA G) (i + k) ||| 2 ^ p) = _
          rw [ihk, e]
      have h9 := hst (n - i)
      rw [show i + (n - i) = n by omega] at h9
      rw [h9, e] at hK
      exact hK
    | some q =>
      have hq := (next_lt e).1
      refine ⟨fun z => absurd z (oI_ne (by omega)), fun _ => nm_r (zb_or (by omega)) ?_⟩
      have e3 : selB (qA G) (i + 1) = selB (qA G) i ||| 2 ^ q := by
        show (match nextF (qA G) (selB (qA G) i) with | none => selB (qA G) i | some p => selB (qA G) i ||| 2 ^ p) = _
        rw [e]
      have hb2 := selB_lt (qA G) (i + 1)
      rw [e3] at ih hb2
      exact m_nextOn (g := 0) hG.1 hw.1 (by decide) (by omega) (nm_r (nI_1 i) ih)
theorem z_queue {x : Int32} (hG : RZ S G) (hw : wfQ G) (hbad : (∀ i, i < 5 → x ≠ nI i) → K (-1) S) (hok : ∀ i, i < 5 → x = nI i → K (oI (nextF (qA G) (selB (qA G) i))) S) : wp_X7_queue x S K := by
  unfold wp_X7_queue
  refine m_in 0 4 (by decide) (by decide) (by decide) (fun i _ hi e => ⟨fun _ => ?_, fun z => absurd z (by decide)⟩) (fun h => ⟨fun z => absurd rfl z, fun _ => hbad (fun c hc => h c (by omega) (by omega))⟩)
  subst e
  refine m_nextOn (g := 0) (but := 0) hG.1 hw.1 (by decide) (by decide) ?_
  exact z_queue_26 hG hw hi (hok i (by omega) rfl) i 0 2000 (by omega) (by omega)
theorem z_puts1 {y v w : Int32} {k : Nat} (hk : k < 168) (hy : y = nI k) (hK : K (pg S k + w) (sA S 28 0 k (v - w))) : wp_X7_puts 1 y v w S K := by
  unfold wp_X7_puts
  subst hy
  rw [z_p S (k := k) _ rfl hk, nI_clamp (by omega)]
  exact ⟨fun _ => ⟨vp_in_nI hk (by decide), nm_e ⟨vp_in_nI hk (by decide), nm_e hK⟩⟩, fun z => absurd z (by decide)⟩
theorem z_puts0 {y v w : Int32} (hK : K (-1) S) : wp_X7_puts 0 y v w S K := ⟨fun z => absurd rfl z, fun _ => hK⟩
theorem z_room {x : Int32} (hG : RZ S G) (hw : wfQ G) (hbad : (∀ v, 1 ≤ v → v ≤ 5 → x ≠ nI v) → K (-1) S) (hok : ∀ v, 1 ≤ v → v ≤ 5 → x = nI v → ∀ S', RZ S' (vA G (uR (qA G) v)) → Fr 28 S S' → K (nI (aR (qA G))) S') : wp_X7_room x S K := by
  have hc := hw.1.2.2.2.2.2.2.2.2.1
  have r7 : pg S 17 = nI (aR (qA G)) - 2 := by simpa using hG.1.2.2.2.2.2.2.1
  unfold wp_X7_room
  refine m_in 1 5 (by decide) (by decide) (by decide) (fun v hv1 hv2 e => z_puts1 (k := 17) (by decide) rfl ?_) (fun h => z_puts0 (hbad h))
  subst e
  rw [r7, show nI (aR (qA G)) - 2 + 2 = nI (aR (qA G)) from i_sub_add _ 2]
  have f : FM 0 S (sA S 28 0 17 (nI v - 2)) := FM.rf.a (by decide) _
  have hR : RM (sA S 28 0 (0 + 17) (nI v - 2)) 0 (uR (qA G) v) := hG.1.n hw.1.1 hc (j := 17) (by omega) rfl rfl rfl rfl rfl rfl rfl rfl rfl rfl
  rw [Nat.zero_add] at hR
  exact hok v hv1 hv2 rfl _ (hG.now hw f hR) f.fr
theorem z_think {x : Int32} (hG : RZ S G) (hw : wfQ G) (hbad : (∀ v, 1 ≤ v → v ≤ 9 → x ≠ nI v) → K (-1) S) (hok : ∀ v, 1 ≤ v → v ≤ 9 → x = nI v → ∀ S', RZ S' (vA G (uT (qA G) v)) → Fr 28 S S' → K (nI (aT (qA G))) S') : wp_X7_think x S K := by
  have hc := hw.1.2.2.2.2.2.2.2.2.1
  have r8 : pg S 18 = nI (aT (qA G)) - 4 := by simpa using hG.1.2.2.2.2.2.2.2.1
  unfold wp_X7_think
  refine m_in 1 9 (by decide) (by decide) (by decide) (fun v hv1 hv2 e => z_puts1 (k := 18) (by decide) rfl ?_) (fun h => z_puts0 (hbad h))
  subst e
  rw [r8, show nI (aT (qA G)) - 4 + 4 = nI (aT (qA G)) from i_sub_add _ 4]
  have f : FM 0 S (sA S 28 0 18 (nI v - 4)) := FM.rf.a (by decide) _
  have hR : RM (sA S 28 0 (0 + 18) (nI v - 4)) 0 (uT (qA G) v) := hG.1.n hw.1.1 hc (j := 18) (by omega) rfl rfl rfl rfl rfl rfl rfl rfl rfl rfl
  rw [Nat.zero_add] at hR
  exact hok v hv1 hv2 rfl _ (hG.now hw f hR) f.fr
theorem RM.c {S : tq_St} {g : Nat} {A : aE} (h : RM S g A) (hn : aN A ≤ 5) {n : Nat} (hn2 : n ≤ aC A) (hc : aC A ≤ 8) : RM (sA S 28 0 (g + 27) (nI n)) g (uP A n (aA A)) := by
  obtain ⟨h1, h2, h3, h4, h5, h6, h7, h8, h9, h10, h11⟩ := h
  refine ⟨h1, fun q hq => ?_, fun q hq => ?_, fun q hq => ?_, ?_, ?_, ?_, ?_, ?_, fun i hi => ?_, fun k hk => ?_⟩
  · have hq : q < aN A := hq
    rw [pg_at, if_neg (by omega)]; exact h2 q hq
  · have hq : q < aN A := hq
    rw [pg_at, if_neg (by omega)]; exact h3 q hq
  · have hq : q < aN A := hq
    rw [pg_at, if_neg (by omega)]; exact h4 q hq
  · rw [pg_at, if_neg (by omega)]; exact h5
  · rw [pg_at, if_neg (by omega)]; exact h6
  · rw [pg_at, if_neg (by omega)]; exact h7
  · rw [pg_at, if_neg (by omega)]; exact h8
  · rw [pg_at, if_pos rfl]
  · have hi : i < n := hi
    rw [pg_at, if_neg (by omega)]; exact h10 i (by omega)
  · rw [sA_nk _ _ _ _ _ (by decide)]; exact h11 k hk
theorem z_cut {x : Int32} (hG : RZ S G) (hw : wfQ G) (hbad : (∀ n, n ≤ aC (qA G) → x ≠ nI n) → K (-1) S) (hok : ∀ n, n ≤ aC (qA G) → x = nI n → ∀ S', RZ S' (vA G (uP (qA G) n (aA (qA G)))) → Fr 28 S S' → K (nI (aC (qA G))) S') : wp_X7_cut x S K := by
  have hc := hw.1.2.2.2.2.2.2.2.2.1
  have r9 : pg S 27 = nI (aC (qA G)) := by simpa using hG.1.2.2.2.2.2.2.2.2.1
  unfold wp_X7_cut
  rw [z_p S (k := 27) 27 rfl (by decide), r9]
  refine ⟨vp_in_nI (n := 27) (by decide) (by decide), m_in 0 (aC (qA G)) (by decide) (by rw [Int32.toInt_toInt64, nI_toInt (by omega)]) (by omega) (fun n _ hn e => z_puts1 (k := 27) (by decide) rfl ?_) (fun h => z_puts0 (hbad (fun n hn => h n (by omega) hn)))⟩
  subst e
  rw [r9, show nI (aC (qA G)) + 0 = nI (aC (qA G)) from i_add0 _, i_sub0]
  have f : FM 0 S (sA S 28 0 27 (nI n)) := FM.rf.a (by decide) _
  have hR := hG.1.c hw.1.1 hn hc
  rw [Nat.zero_add] at hR
  exact hok n hn rfl _ (hG.now hw f hR) f.fr
theorem z_alter {x y v : Int32} (hG : RZ S G) (hw : wfQ G) (hbad : (∀ p k, p < aN (qA G) → x = nI p → v = nI k → ¬ (y = 0 ∧ k < 4) ∧ ¬ (y = 1 ∧ k ≤ 40)) → K (-1) S) (hk : ∀ p k, p < aN (qA G) → x = nI p → y = 0 → k < 4 → v = nI k → ∀ S', RZ S' (vA G (alterK (qA G) p k)) → Fr 28 S S' → K (nI (aK (qA G) p)) S') (hs : ∀ p k, p < aN (qA G) → x = nI p → y = 1 → k ≤ 40 → v = nI k → ∀ S', RZ S' (vA G (alterS (qA G) p k)) → Fr 28 S S' → K (nI (aS (qA G) p)) S') : wp_X7_alter x y v S K := by
  have hn := hw.1.1
  have hc := hw.1.2.2.2.2.2.2.2.2.1
  have h46 : K (-1) S → wp_X7_alter_46 K x y v S := fun h => z_puts0 h
  unfold wp_X7_alter
  refine m_isOne hG.1.1 hn (fun p hp e => ⟨fun z => absurd z (by decide), fun _ => ?_⟩) (fun hno => ⟨fun _ => h46 (hbad (fun p k hp e => absurd e (hno p hp))), fun z => absurd rfl z⟩)
  subst e
  have h25 : (∀ k, k < 4 → v = nI k → ¬ y = 0) → wp_X7_alter_25 K (nI p) y v S := by
    intro hno
    unfold wp_X7_alter_25
    refine ⟨fun z => h46 (hbad (fun p' k' hp' e e2 => ⟨fun c => hno k' c.2 e2 c.1, fun c => z c.1⟩)), fun z => ?_⟩
    refine m_in 0 40 (by decide) (by decide) (by decide) (fun k _ hk40 e => ⟨fun z => absurd z (by decide), fun _ => ?_⟩) (fun h => ⟨fun _ => h46 (hbad (fun p' k' hp' e e2 => ⟨fun c => hno k' c.2 e2 c.1, fun c => h k' (by omega) c.2 e2⟩)), fun z => absurd rfl z⟩)
    subst e
    unfold wp_X7_alter_42 wp_X7_alter_47
    have e5 : (5 : Int32) * y + nI p = nI (5 + p) := by
      subst z
      have : (5 : Int32) * 1 = nI 5 := by decide
      rw [this, nI_add]
    refine z_puts1 (k := 5 + p) (by omega) e5 ?_
    have q3 : pg S (5 + p) = nI (aS (qA G) p) := by have := hG.1.2.2.1 p hp; rwa [Nat.zero_add] at this
    rw [q3, show nI (aS (qA G) p) + 0 = nI (aS (qA G) p) from i_add0 _, i_sub0]
    have f : FM 0 S (sA S 28 0 (5 + p) (nI k)) := FM.rf.a (by omega) _
    have hR := hG.1.s hn hc (p := p) hp k
    rw [Nat.zero_add] at hR
    exact hs p k hp rfl z hk40 rfl _ (hG.now hw f hR) f.fr
  refine ⟨fun z => h25 (fun k _ _ => z), fun z => ?_⟩
  refine m_in 0 3 (by decide) (by decide) (by decide) (fun k _ hk3 e => ⟨fun _ => ?_, fun z => absurd z (by decide)⟩) (fun h => ⟨fun z => absurd rfl z, fun _ => h25 (fun k hk4 e => absurd e (h k (by omega) (by omega)))⟩)
  subst e
  unfold wp_X7_alter_42 wp_X7_alter_47
  have e5 : (5 : Int32) * y + nI p = nI p := by
    subst z
    have : (5 : Int32) * 0 = nI 0 := by decide
    rw [this, nI_add, Nat.zero_add]
  refine z_puts1 (k := p) (by omega) e5 ?_
  have q2 : pg S p = nI (aK (qA G) p) := by have := hG.1.2.1 p hp; rwa [Nat.zero_add] at this
  rw [q2, show nI (aK (qA G) p) + 0 = nI (aK (qA G) p) from i_add0 _, i_sub0]
  have f : FM 0 S (sA S 28 0 p (nI k)) := FM.rf.a (by omega) _
  have hR := hG.1.k hn hc (p := p) hp k
  rw [Nat.zero_add] at hR
  exact hk p k hp rfl z (by omega) rfl _ (hG.now hw f hR) f.fr
theorem RM.pl {S : tq_St} {A : aE} {g : Nat} (h : RM S g A) (hn : aN A ≤ 5) (hc : aC A < 8) (a : Nat) : RM (sA (sA S 28 0 (g + 19 + aC A) (nI a)) 28 0 (g + 27) (nI (aC A + 1))) g (planA A a) := by
  obtain ⟨h1, h2, h3, h4, h5, h6, h7, h8, h9, h10, h11⟩ := h
  refine ⟨h1, fun q hq => ?_, fun q hq => ?_, fun q hq => ?_, ?_, ?_, ?_, ?_, ?_, fun i hi => ?_, fun k hk => ?_⟩
  · have hq : q < aN A := hq
    rw [pg_at, if_neg (by omega), pg_at, if_neg (by omega)]; exact h2 q hq
  · have hq : q < aN A := hq
    rw [pg_at, if_neg (by omega), pg_at, if_neg (by omega)]; exact h3 q hq
  · have hq : q < aN A := hq
    rw [pg_at, if_neg (by omega), pg_at, if_neg (by omega)]; exact h4 q hq
  · rw [pg_at, if_neg (by omega), pg_at, if_neg (by omega)]; exact h5
  · rw [pg_at, if_neg (by omega), pg_at, if_neg (by omega)]; exact h6
  · rw [pg_at, if_neg (by omega), pg_at, if_neg (by omega)]; exact h7
  · rw [pg_at, if_neg (by omega), pg_at, if_neg (by omega)]; exact h8
  · rw [pg_at, if_pos rfl]; rfl
  · have hi : i < aC A + 1 := hi
    show _ = nI (un (aA A) (aC A) a i)
    rw [pg_at, if_neg (by omega), pg_at]
    by_cases e : i = aC A
    · rw [if_pos (by omega), e, un_s]
    · rw [if_neg (by omega), un_n _ _ e]; exact h10 i (by omega)
  · rw [sA_nk _ _ _ _ _ (by decide), sA_nk _ _ _ _ _ (by decide)]; exact h11 k hk
theorem z_plan {x : Int32} (hG : RZ S G) (hw : wfQ G) (hbad : (∀ a, okA (aN (qA G)) a → x ≠ nI a) → K (-1) S) (hok : ∀ a, okA (aN (qA G)) a → x = nI a → aC (qA G) < 8 → ∀ S', RZ S' (vA G (planA (qA G) a)) → Fr 28 S S' → K (nI (aC (qA G) + 1)) S') (hfull : ∀ a, okA (aN (qA G)) a → x = nI a → aC (qA G) = 8 → K (-3) S) : wp_X7_plan x S K := by
  have hn := hw.1.1
  have hc := hw.1.2.2.2.2.2.2.2.2.1
  have r9 : pg S 27 = nI (aC (qA G)) := by simpa using hG.1.2.2.2.2.2.2.2.2.1
  have i27 : vp_in 27 168 := vp_in_nI (n := 27) (by decide) (by decide)
  have c27 : (27 : Int32).toNatClampNeg = 27 := by decide
  unfold wp_X7_plan
  refine m_isAct hG.1.1 hn (fun a ha e => ⟨fun _ => ⟨i27, ?_⟩, fun z => absurd z (by decide)⟩) (fun hno => ⟨fun z => absurd rfl z, fun _ => hbad hno⟩)
  subst e
  have r9' : S.2.1 28 0 27 = nI (aC (qA G)) := r9
  have e8 : (8 : Int32) = nI 8 := rfl
  rw [c27, r9', e8, nI_eq (by omega) (by decide)]
  refine ⟨fun hne => ?_, fun e => hfull a ha rfl e⟩
  have i19 : (19 : Int32) + nI (aC (qA G)) = nI (19 + aC (qA G)) := nI_add 19 _
  rw [i19, nI_clamp (by omega)]
  refine ⟨i27, vp_in_nI (by omega) (by decide), nm_e ⟨i27, i27, ?_⟩⟩
  have e27 : (sA S 28 0 (19 + aC (qA G)) (nI a)).2.1 28 0 27 = nI (aC (qA G)) := by rw [sA_at, if_neg (by omega)]; exact r9
  rw [e27, nI_1]
  refine nm_e ⟨i27, ?_⟩
  rw [sA_at, if_pos rfl]
  have f : FM 0 S (sA (sA S 28 0 (19 + aC (qA G)) (nI a)) 28 0 27 (nI (aC (qA G) + 1))) := (FM.rf.a (by omega) _).a (by decide) _
  have hR := hG.1.pl hn (by omega) a
  rw [Nat.zero_add, Nat.zero_add] at hR
  exact hok a ha rfl (by omega) _ (hG.now hw f hR) f.fr
theorem z_thinks {x : Int32} (hG : RZ S G) (hw : wfQ G) (hbad : (∀ p, p < aN (qA G) → x ≠ nI p) → K (-1) S) (hst : ∀ p, p < aN (qA G) → x = nI p → (aG (qA G)).testBit p = true → K (-2) S) (hok : ∀ p, p < aN (qA G) → x = nI p → (aG (qA G)).testBit p = false → ∀ S', RZ S' (vA G (thinkF (qA G) p)) → Fr 28 S S' → K (nI (tkF (qA G) p).2.2) S') : wp_X7_thinks x S K := by
  have hn := hw.1.1
  unfold wp_X7_thinks
  refine m_isOne hG.1.1 hn (fun p hp e => ⟨fun _ => ?_, fun z => absurd z (by decide)⟩) (fun hno => ⟨fun z => absurd rfl z, fun _ => hbad hno⟩)
  subst e
  refine m_waits (g := 0) hG.1.2.2.2.2.1 (by decide) hw.1.g31 (by omega) (fun hb => ⟨fun z => absurd z (by decide), fun _ => ?_⟩) (fun hb => ⟨fun _ => hst p hp rfl hb, fun z => absurd rfl z⟩)
  exact m_thinksOn (g := 0) hG.1 hw.1 (by decide) hp (fun S' a1 a2 => hok p hp rfl hb S' (hG.now hw a2 a1) a2.fr)
theorem z_minutes_16 {n : Nat} (hn : n ≤ 60) : ∀ (m i f : Nat) (G : aQ) (S S0 : tq_St), i + m = n → m < f → RZ S G → wfQ G → Fr 28 S0 S → (∀ S', RZ S' (vA G (dryN m (qA G))) → Fr 28 S0 S' → K (nI (sorF (dryN m (qA G)))) S') → wp_X7_minutes_16 K f (nI n) (nI i) S
  | 0, i, f + 1, G, S, S0, h1, h2, hG, hw, hF, hK => by
    unfold wp_X7_minutes_16
    exact pk_le n i (fun _ => m_sorrowOn (g := 0) hG.1 hw.1 (by decide) (hK S hG hF)) (fun z => absurd z (by omega))
  | m + 1, i, f + 1, G, S, S0, h1, h2, hG, hw, hF, hK => by
    unfold wp_X7_minutes_16
    refine pk_le n i (fun z => absurd z (by omega)) (fun _ => ?_)
    refine m_minuteOn (g := 0) hG.1 hw.1 (by decide) (fun S' a1 a2 => nm_r (nI_1 i) ?_)
    exact z_minutes_16 hn m (i + 1) f (vA G (dryF (qA G))) S' S0 (by omega) (by omega) (hG.now hw a2 a1) (hw.now (dryF_wf hw.1) rfl) (hF.tr a2.fr) hK
theorem z_minutes {x : Int32} (hG : RZ S G) (hw : wfQ G) (hbad : (∀ n, n ≤ 60 → x ≠ nI n) → K (-1) S) (hok : ∀ n, n ≤ 60 → x = nI n → ∀ S', RZ S' (vA G (dryN n (qA G))) → Fr 28 S S' → K (nI (sorF (dryN n (qA G)))) S') : wp_X7_minutes x S K := by
  unfold wp_X7_minutes
  refine m_in 0 60 (by decide) (by decide) (by decide) (fun n _ hn e => ⟨fun _ => ?_, fun z => absurd z (by decide)⟩) (fun h => ⟨fun z => absurd rfl z, fun _ => hbad (fun n hn => h n (by omega) hn)⟩)
  subst e
  exact z_minutes_16 hn n 0 2000 G S S (by omega) (by omega) hG hw Fr.rf (hok n hn rfl)
theorem z_tram (hG : RZ S G) (hw : wfQ G) (hok : ∀ S', RZ S' (vA G (boardF (qA G))) → Fr 28 S S' → K (nI (tramB (qA G))) S') : wp_X7_tram S K := by
  unfold wp_X7_tram
  exact m_tramOn (g := 0) hG.1 hw.1 (by decide) (fun S' a1 a2 => hok S' (hG.now hw a2 a1) a2.fr)
theorem z_joy {x : Int32} (hG : RZ S G) (hw : wfQ G) (hbad : (∀ p, p < aN (qA G) → x ≠ nI p) → K (-1) S) (hst : ∀ p, p < aN (qA G) → x = nI p → (aG (qA G)).testBit p = true → K (-2) S) (hok : ∀ p, p < aN (qA G) → x = nI p → (aG (qA G)).testBit p = false → ∀ S', RZ S' (vA G (joyF (qA G) p)) → Fr 28 S S' → K (nI (aS (qA G) p)) S') : wp_X7_joy x S K := by
  have hn := hw.1.1
  have hc := hw.1.2.2.2.2.2.2.2.2.1
  unfold wp_X7_joy
  refine m_isOne hG.1.1 hn (fun p hp e => ⟨fun _ => ?_, fun z => absurd z (by decide)⟩) (fun hno => ⟨fun z => absurd rfl z, fun _ => hbad hno⟩)
  subst e
  refine m_waits (g := 0) hG.1.2.2.2.2.1 (by decide) hw.1.g31 (by omega) (fun hb => ⟨fun _ => ?_, fun z => absurd z (by decide)⟩) (fun hb => ⟨fun z => absurd rfl z, fun _ => hst p hp rfl hb⟩)
  have i5 : (5 : Int32) + nI p = nI (5 + p) := nI_add 5 p
  have i10 : (10 : Int32) + nI p = nI (10 + p) := nI_add 10 p
  have q3 : S.2.1 28 0 (5 + p) = nI (aS (qA G) p) := by have := hG.1.2.2.1 p hp; rwa [Nat.zero_add] at this
  rw [i5, i10, nI_clamp (n := 5 + p) (by omega), nI_clamp (n := 10 + p) (by omega), q3]
  have v5 : vp_in (nI (5 + p)) 168 := vp_in_nI (by omega) (by decide)
  refine ⟨v5, nm_e ⟨v5, nm_e ⟨vp_in_nI (by omega) (by decide), nm_e ?_⟩⟩⟩
  have f : FM 0 S (sA (sA S 28 0 (5 + p) 0) 28 0 (10 + p) 0) := (FM.rf.a (by omega) _).a (by omega) _
  have hR1 := hG.1.s hn hc (p := p) hp 0
  have hR := hR1.w hn hc (p := p) hp 0
  rw [Nat.zero_add, Nat.zero_add] at hR
  exact hok p hp rfl hb _ (hG.now hw f hR) f.fr
theorem z_second (hG : RZ S G) (hw : wfQ G) (hok : ∀ S', RZ S' (vA G (uG (qA G) 0)) → Fr 28 S S' → K (nI (pcN (aG (qA G)))) S') : wp_X7_second S K := by
  have hc := hw.1.2.2.2.2.2.2.2.2.1
  have hgl := hw.1.gl
  have q5 : S.2.1 28 0 15 = nI (aG (qA G)) := by simpa using hG.1.2.2.2.2.1
  have c15 : (15 : Int32).toNatClampNeg = 15 := by decide
  have v15 : vp_in 15 168 := vp_in_nI (n := 15) (by decide) (by decide)
  unfold wp_X7_second
  rw [c15, q5]
  refine ⟨v15, m_bitsOf (by omega) ⟨v15, nm_e ?_⟩⟩
  have f : FM 0 S (sA S 28 0 15 0) := FM.rf.a (by decide) _
  have hR : RM (sA S 28 0 (0 + 15) 0) 0 (uG (qA G) 0) := hG.1.n hw.1.1 hc (j := 15) (by omega) rfl rfl rfl rfl rfl rfl rfl rfl rfl rfl
  rw [Nat.zero_add] at hR
  exact hok _ (hG.now hw f hR) f.fr
end Z2
