section EVN
variable {S : tq_St} {g : Nat} {A : aE}
theorem i_sub_add (r k : Nat) : nI r - nI k + nI k = nI r := by
  apply Int32.toBitVec_inj.1
  show BitVec.ofNat 32 r - BitVec.ofNat 32 k + BitVec.ofNat 32 k = BitVec.ofNat 32 r
  exact BitVec.sub_add_cancel _ _
theorem twP_none {n g m f : Nat} {k s W : Nat → Nat} {w : Nat} (h : firstP n g k s w = none) : twP n g k m f s W w = (s, W, w) := by
  cases f with
  | zero => rfl
  | succ f => unfold twP; rw [h]
theorem cu_dec {n w q : Nat} (hq : q < n) (hb : w.testBit q = false) : fb_ct (fun p => !(w ||| 2 ^ q).testBit p) n + 1 = fb_ct (fun p => !w.testBit p) n := by
  have e : (fun p => !(w ||| 2 ^ q).testBit p) = (fun k => if k = q then false else !w.testBit k) := by
    funext p
    rw [fb_bit_set]
    by_cases c : p = q
    · simp [c]
    · simp [c]
  have h := fb_ct_upd (fun p => !w.testBit p) false (i := q) hq
  rw [e]
  simp only [hb, Bool.not_false, if_true, Bool.false_eq_true, if_false, Nat.add_zero] at h
  exact h
theorem m_th_27 {S0 : tq_St} {K : Int32 → tq_St → Prop} (hw : wfE A) (hg : g ≤ 140) : ∀ (f F w : Nat) (s W : Nat → Nat) (S : tq_St), fb_ct (fun p => !w.testBit p) (aN A) ≤ f → f < F → RM S g (uW (uS A s) W) → FM g S0 S → (∀ p, s p ≤ 40) → (∀ p, W p ≤ 1000) → w < 2 ^ aN A → (∀ S', RM S' g (uW (uS A (twP (aN A) (aG A) (aK A) (aM A) f s W w).1) (twP (aN A) (aG A) (aK A) (aM A) f s W w).2.1) → FM g S0 S' → K (nI (twP (aN A) (aG A) (aK A) (aM A) f s W w).2.2) S') → wp_X7_thinksOn_27 K F (nI g) (nI w) (oI (firstP (aN A) (aG A) (aK A) s w)) S := by
  intro f
  induction f with
  | zero =>
    intro F w s W S hf hF hR hFM hs hW hb hK
    obtain ⟨F, rfl⟩ : ∃ k, F = k + 1 := ⟨F - 1, by omega⟩
    cases e : firstP (aN A) (aG A) (aK A) s w with
    | none => exact ⟨fun _ => hK S hR hFM, fun z => absurd rfl z⟩
    | some q =>
      obtain ⟨h1, h2⟩ := firstP_lt e
      have := cu_dec h1 h2
      omega
  | succ f ih =>
    intro F w s W S hf hF hR hFM hs hW hb hK
    obtain ⟨F, rfl⟩ : ∃ k, F = k + 1 := ⟨F - 1, by omega⟩
    have hn := hw.1
    have hc := hw.2.2.2.2.2.2.2.2.1
    have hm := hw.2.2.2.2.2.1
    have h32 := zb_p31 hn
    unfold twP at hK
    cases e : firstP (aN A) (aG A) (aK A) s w with
    | none => rw [e] at hK; exact ⟨fun _ => hK S hR hFM, fun z => absurd rfl z⟩
    | some q =>
      rw [e] at hK
      obtain ⟨h1, h2⟩ := firstP_lt e
      have hd := cu_dec h1 h2
      unfold wp_X7_thinksOn_27
      refine ⟨fun z => absurd z (oI_ne (by omega)), fun _ => ?_⟩
      show ∀ x8 : Int32, x8 = nI w ||| (1 : Int32) <<< ((nI q) &&& 31) → _
      refine nm_r (zb_or (by omega)) ?_
      show vp_in (nI g + 16) 168 ∧ vp_in (nI g + 10 + nI q) 168 ∧ ∀ S10 : tq_St, S10 = sA S 28 0 (nI g + 10 + nI q : Int32).toNatClampNeg (S.2.1 28 0 (nI g + 16 : Int32).toNatClampNeg + 1) → vp_in (nI g + 5 + nI q) 168 ∧ ∀ S12 : tq_St, S12 = sA S10 28 0 (nI g + 5 + nI q : Int32).toNatClampNeg 0 → _
      rw [ia16, ia10, ia5, ia, ia, nI_clamp (n := g + 16) (by omega), nI_clamp (n := g + 10 + q) (by omega), nI_clamp (n := g + 5 + q) (by omega)]
      have e1 : S.2.1 28 0 (g + 16) = nI (aM A) := hR.2.2.2.2.2.1
      rw [e1, nI_1]
      refine ⟨vp_in_nI (by omega) (by decide), vp_in_nI (by omega) (by decide), nm_e ⟨vp_in_nI (by omega) (by decide), nm_e ?_⟩⟩
      have r1 := hR.w hn hc (p := q) h1 (aM A + 1)
      have r2 := r1.s hn hc (p := q) h1 0
      refine m_setsOff r2 hn hc hg hw.g31 (un_le hs (by omega)) h1 (fun S3 a1 a2 => ?_)
      have hw3 : wfE (uW (uS A (wpS (aN A) (aG A) s q)) (un W q (aM A + 1))) := ⟨hn, hw.2.1, wpS_le hs, un_le hW (by omega), hw.2.2.2.2⟩
      have a1' : RM S3 g (uW (uS A (wpS (aN A) (aG A) s q)) (un W q (aM A + 1))) := a1
      have hb2 := zb_orlt hb h1
      refine m_ntw a1' hw3 hg (by omega) ?_
      exact ih F _ _ _ S3 (by omega) (by omega) a1' ((hFM.tr ((FM.rf.a (by omega) _).a (by omega) _)).tr a2) (wpS_le hs) (un_le hW (by omega)) hb2 hK
theorem m_thinksOn {p : Nat} {K : Int32 → tq_St → Prop} (hR : RM S g A) (hw : wfE A) (hg : g ≤ 140) (hp : p < aN A) (hK : ∀ S', RM S' g (thinkF A p) → FM g S S' → K (nI (tkF A p).2.2) S') : wp_X7_thinksOn (nI g) (nI p) S K := by
  have hn := hw.1
  have hc := hw.2.2.2.2.2.2.2.2.1
  have ht := hw.2.2.2.2.2.2.2.1
  unfold wp_X7_thinksOn
  rw [ia18, nI_clamp (by omega)]
  have e1 : S.2.1 28 0 (g + 18) = nI (aT A) - 4 := hR.2.2.2.2.2.2.2.1
  have e4 : (4 : Int32) = nI 4 := rfl
  rw [e1, e4, i_sub_add]
  refine ⟨vp_in_nI (by omega) (by decide), ?_⟩
  refine m_grieves hR hn hc hg hw.2.2.1 hp (by omega) (fun S2 a1 a2 => ?_)
  have hs2 : ∀ q, sadS (aS A) (some p) (aT A) q ≤ 40 := sadS_le hw.2.2.1
  have hw2 : wfE (uS A (sadS (aS A) (some p) (aT A))) := ⟨hn, hw.2.1, hs2, hw.2.2.2⟩
  refine m_ntw (w := 0) a1 hw2 hg (by decide) ?_
  exact m_th_27 hw hg (aN A) 2000 0 _ _ S2 (by exact fb_ct_le _ _) (by omega) a1 a2 hs2 hw.2.2.2.1 (Nat.two_pow_pos _) hK
-- A MINUTE
theorem i_sub0 (x : Int32) : x - 0 = x := by
  apply Int32.toBitVec_inj.1
  show x.toBitVec - BitVec.ofNat 32 0 = x.toBitVec
  simp
theorem m_min_2 {S0 : tq_St} {K : tq_St → Prop} (hw : wfE A) (hg : g ≤ 140) (hK : ∀ S', RM S' g (dryF A) → FM g S0 S' → K S') : ∀ (m p f : Nat) (S : tq_St), p + m = aN A → m < f → RM S g (uS A (dryS p (aG A) (aS A))) → FM g S0 S → wp_X7_minuteOn_2 K f (nI g) (nI p) S
  | 0, p, f + 1, S, h1, h2, hR, hF => by
    have hn := hw.1
    have hc := hw.2.2.2.2.2.2.2.2.1
    have hm := hw.2.2.2.2.2.1
    have hp : p = aN A := by omega
    subst hp
    unfold wp_X7_minuteOn_2
    rw [hR.1]
    refine pk_le (aN A) (aN A) (fun _ => ?_) (fun z => absurd z (by omega))
    rw [ia16, nI_clamp (by omega)]
    have e1 : S.2.1 28 0 (g + 16) = nI (aM A) := hR.2.2.2.2.2.1
    have hin : vp_in (nI (g + 16)) 168 := vp_in_nI (by omega) (by decide)
    rw [e1]
    refine ⟨hin, hin, pk_le 999 (aM A) (fun z => ⟨hin, nm_e ?_⟩) (fun z => ⟨hin, nm_e ?_⟩)⟩
    · have e0 : nI (aM A) + 0 = nI (aM A) := i_add0 _
      rw [e0]
      refine hK _ (hR.n hn hc (j := 16) (by omega) rfl rfl rfl rfl rfl rfl rfl ?_ rfl rfl) (hF.a (by omega) _)
      show (if (16 : Nat) = 16 then nI (aM A) else nI (aM A)) = nI (min 999 (aM A + 1))
      rw [if_pos rfl]; congr 1; omega
    · rw [nI_1]
      refine hK _ (hR.n hn hc (j := 16) (by omega) rfl rfl rfl rfl rfl rfl rfl ?_ rfl rfl) (hF.a (by omega) _)
      show (if (16 : Nat) = 16 then nI (aM A + 1) else nI (aM A)) = nI (min 999 (aM A + 1))
      rw [if_pos rfl]; congr 1; omega
  | m + 1, p, f + 1, S, h1, h2, hR, hF => by
    have hn := hw.1
    have hc := hw.2.2.2.2.2.2.2.2.1
    have hs := hw.2.2.1 p
    unfold wp_X7_minuteOn_2
    rw [hR.1]
    refine pk_le (aN A) p (fun z => absurd z (by omega)) (fun _ => ?_)
    rw [ia5, ia, nI_clamp (by omega)]
    have e1 : S.2.1 28 0 (g + 5 + p) = nI (aS A p) := by
      have := hR.2.2.1 p (by show p < aN A; omega)
      rw [show aS (uS A (dryS p (aG A) (aS A))) p = aS A p from dryS_at] at this
      exact this
    have hin : vp_in (nI (g + 5 + p)) 168 := vp_in_nI (by omega) (by decide)
    rw [e1]
    have hgo : ∀ x : Nat, x = (if (aG A).testBit p then aS A p else aS A p - 1) → wp_X7_minuteOn_2 K f (nI g) (nI (p + 1)) (sA S 28 0 (g + 5 + p) (nI x)) := by
      intro x hx
      refine m_min_2 hw hg hK m (p + 1) f _ (by omega) (by omega) ?_ (hF.a (by omega) _)
      rw [dryS_step (n := aN A) (by omega), ← hx]
      exact hR.s hn hc (p := p) (by show p < aN A; omega) x
    have h48 : ∀ k : Nat, k ≤ aS A p → aS A p - k = (if (aG A).testBit p then aS A p else aS A p - 1) → wp_X7_minuteOn_48 K (wp_X7_minuteOn_2 K f) (nI g) (nI p) (nI (g + 5 + p)) (nI (aS A p)) (nI k) S := by
      intro k hk hx
      unfold wp_X7_minuteOn_48
      rw [nI_clamp (by omega), pk_sub hk]
      exact ⟨hin, nm_e (nm_r (nI_1 p) (hgo _ hx))⟩
    refine ⟨hin, m_waits hR.2.2.2.2.1 hg hw.g31 (by omega) (fun hb => ?_) (fun hb => ?_)⟩
    · refine ⟨fun z => absurd z (by decide), fun _ => ⟨hin, ?_⟩⟩
      refine pk_le (aS A p) 0 (fun z => ?_) (fun z => ?_) e1
      · exact h48 0 (by omega) (by rw [if_neg (by rw [hb]; decide)]; omega)
      · exact h48 1 (by omega) (by rw [if_neg (by rw [hb]; decide)])
    · exact ⟨fun _ => h48 0 (by omega) (by rw [if_pos hb]; rfl), fun z => absurd rfl z⟩
theorem m_minuteOn {K : tq_St → Prop} (hR : RM S g A) (hw : wfE A) (hg : g ≤ 140) (hK : ∀ S', RM S' g (dryF A) → FM g S S' → K S') : wp_X7_minuteOn (nI g) S K := by
  refine m_min_2 hw hg hK (aN A) 0 2000 S (by omega) (by have := hw.1; omega) ?_ FM.rf
  have e : dryS 0 (aG A) (aS A) = aS A := by funext p; unfold dryS; rw [if_neg (by omega)]
  rw [e]
  exact hR
-- THE QUEUE, A TRAM
theorem zb_rkle1 {a b : Nat} (ha : a ≤ 1001) (hb : b ≤ 1001) : nI a - 1 ≤ nI b - 1 ↔ a ≤ b := by
  rw [fa_le]
  have h1 := pk_sub_toInt (a := a) (b := 1) (by omega) (by omega)
  have h2 := pk_sub_toInt (a := b) (b := 1) (by omega) (by omega)
  have e : nI 1 = (1 : Int32) := rfl
  rw [e] at h1 h2
  omega
theorem m_placeOn {p : Nat} {K : Int32 → tq_St → Prop} (hR : RM S g A) (hw : wfE A) (hg : g ≤ 140) (hp : p < aN A) (hK : K (nI (rkF A p) - 1) S) : wp_X7_placeOn (nI g) (nI p) S K := by
  have hn := hw.1
  have e1 : S.2.1 28 0 (g + p) = nI (aK A p) := hR.2.1 p hp
  have e2 : S.2.1 28 0 (g + 5 + p) = nI (aS A p) := hR.2.2.1 p hp
  have e3 : S.2.1 28 0 (g + 10 + p) = nI (aW A p) := hR.2.2.2.1 p hp
  have h29 : ¬ (aK A p = 2 ∧ aS A p = 0) → wp_X7_placeOn_29 K (nI g) (nI p) S := by
    intro h
    unfold wp_X7_placeOn_29 wp_X7_placeOn_30
    rw [ia10, ia, nI_clamp (by omega), e3]
    refine ⟨fun _ => ⟨vp_in_nI (by omega) (by decide), ?_⟩, fun z => absurd rfl z⟩
    unfold rkF at hK
    rw [if_neg h, nI_pred] at hK
    exact hK
  unfold wp_X7_placeOn
  rw [ia5, ia, ia, nI_clamp (n := g + p) (by omega), nI_clamp (n := g + 5 + p) (by omega), e1, e2]
  have c2 : (2 : Int32) = nI 2 := rfl
  have c0 : (0 : Int32) = nI 0 := rfl
  have hk := hw.2.1 p
  have hs := hw.2.2.1 p
  rw [c2, c0, nI_eq (by omega) (by decide), nI_eq (by omega) (by decide)]
  refine ⟨vp_in_nI (by omega) (by decide), fun h => h29 (fun z => h z.1), fun h => ⟨vp_in_nI (by omega) (by decide), fun h2 => h29 (fun z => h2 z.2), fun h2 => ?_⟩⟩
  refine ⟨fun z => absurd z (by decide), fun _ => ?_⟩
  unfold rkF at hK
  rw [if_pos ⟨h, h2⟩] at hK
  exact hK
theorem nxP_lt {but m q : Nat} (h : nxP A but m = some q) : q < m := by
  rcases nxP_spec A but m with ⟨e, -⟩ | ⟨r, e, h2⟩
  · rw [e] at h; cases h
  · rw [e] at h; cases h; exact h2.1
theorem m_nx_6 {but : Nat} {K : Int32 → tq_St → Prop} (hR : RM S g A) (hw : wfE A) (hg : g ≤ 140) (hb : but < 2 ^ 31) (hK : K (oI (nextF A but)) S) : ∀ (m p f : Nat), p + m = aN A → m < f → wp_X7_nextOn_6 K f (nI g) (nI but) (oI (nxP A but p)) (nI p) S
  | 0, p, f + 1, h1, h2 => by
    have hn := hw.1
    unfold wp_X7_nextOn_6
    rw [hR.1]
    refine pk_le (aN A) p (fun _ => ?_) (fun z => absurd z (by omega))
    rw [show p = aN A by omega]
    exact hK
  | m + 1, p, f + 1, h1, h2 => by
    have hn := hw.1
    have ih := m_nx_6 hR hw hg hb hK m (p + 1) f (by omega) (by omega)
    unfold wp_X7_nextOn_6
    rw [hR.1]
    refine pk_le (aN A) p (fun z => absurd z (by omega)) (fun _ => ?_)
    have h38 : nxP A but (p + 1) = nxP A but p → wp_X7_nextOn_38 K (wp_X7_nextOn_6 K f) (nI g) (nI but) (oI (nxP A but p)) (nI p) S := by
      intro e
      refine ⟨fun _ => nm_r (nI_1 p) ?_, fun z => absurd rfl z⟩
      rw [e] at ih
      exact ih
    refine m_waits hR.2.2.2.2.1 hg hw.g31 (by omega) (fun hbit => ?_) (fun hbit => ?_)
    · refine ⟨fun z => absurd z (by decide), fun _ => ?_⟩
      rw [zb_0 hb (by omega)]
      refine ⟨fun z => h38 ?_, fun z => ?_⟩
      · show (if _ then _ else _) = _
        rw [if_neg (by simp [z])]
      · refine ⟨fun c => absurd c (by decide), fun _ => ?_⟩
        cases e : nxP A but p with
        | none =>
          refine ⟨fun _ => nm_r (nI_1 p) ?_, fun c => absurd rfl c⟩
          have e2 : nxP A but (p + 1) = some p := by
            show (if _ then _ else _) = _
            rw [e, if_pos (by simp [hbit, z])]
          rw [e2] at ih
          exact ih
        | some j =>
          have hj := nxP_lt e
          refine ⟨fun c => absurd c (oI_ne (by omega)), fun _ => ?_⟩
          refine m_placeOn hR hw hg (by omega) ?_
          refine m_placeOn hR hw hg (by omega) ?_
          rw [zb_rkle1 (rkF_le hw _) (rkF_le hw _)]
          refine ⟨fun c => nm_r (nI_1 p) ?_, fun c => nm_r (nI_1 p) ?_⟩
          · have e2 : nxP A but (p + 1) = some j := by
              show (if _ then _ else _) = _
              rw [e, if_neg (by simp [c])]
            rw [e2] at ih
            exact ih
          · have e2 : nxP A but (p + 1) = some p := by
              show (if _ then _ else _) = _
              rw [e, if_pos (by simp [hbit, z]; omega)]
            rw [e2] at ih
            exact ih
    · refine ⟨fun _ => h38 ?_, fun z => absurd rfl z⟩
      show (if _ then _ else _) = _
      rw [if_neg (by simp [hbit])]
theorem m_nextOn {but : Nat} {K : Int32 → tq_St → Prop} (hR : RM S g A) (hw : wfE A) (hg : g ≤ 140) (hb : but < 2 ^ 31) (hK : K (oI (nextF A but)) S) : wp_X7_nextOn (nI g) (nI but) S K :=
  m_nx_6 hR hw hg hb hK (aN A) 0 2000 (by omega) (by have := hw.1; omega)
theorem m_tr_4 {K : Int32 → tq_St → Prop} (hR : RM S g A) (hw : wfE A) (hg : g ≤ 140) (hK : ∀ S', RM S' g (boardF A) → FM g S S' → K (nI (tramB A)) S') : ∀ (m i f : Nat), i + m = aR A → m < f → wp_X7_tramOn_4 K f (nI g) (nI (selB A i)) (nI i) S := by
  have hn := hw.1
  have hc := hw.2.2.2.2.2.2.2.2.1
  have hr := hw.2.2.2.2.2.2.1
  have h32 := zb_p31 hn
  have e17 : S.2.1 28 0 (g + 17) = nI (aR A) - 2 := hR.2.2.2.2.2.2.1
  have e15 : S.2.1 28 0 (g + 15) = nI (aG A) := hR.2.2.2.2.1
  have e2 : (2 : Int32) = nI 2 := rfl
  intro m
  induction m with
  | zero =>
    intro i f h1 h2
    obtain ⟨f, rfl⟩ : ∃ k, f = k + 1 := ⟨f - 1, by omega⟩
    unfold wp_X7_tramOn_4
    rw [ia17, nI_clamp (n := g + 17) (by omega), e17, e2, i_sub_add]
    refine ⟨vp_in_nI (by omega) (by decide), pk_le (aR A) i (fun _ => ?_) (fun z => absurd z (by omega))⟩
    rw [ia15, nI_clamp (n := g + 15) (by omega), e15, fa_or]
    refine ⟨vp_in_nI (by omega) (by decide), vp_in_nI (by omega) (by decide), nm_e ?_⟩
    rw [show i = aR A by omega]
    exact hK _ (hR.n hn hc (j := 15) (by omega) rfl rfl rfl rfl rfl rfl rfl rfl rfl rfl) (FM.rf.a (by omega) _)
  | succ m ih =>
    intro i f h1 h2
    obtain ⟨f, rfl⟩ : ∃ k, f = k + 1 := ⟨f - 1, by omega⟩
    unfold wp_X7_tramOn_4
    rw [ia17, nI_clamp (n := g + 17) (by omega), e17, e2, i_sub_add]
    refine ⟨vp_in_nI (by omega) (by decide), pk_le (aR A) i (fun z => absurd z (by omega)) (fun _ => ?_)⟩
    have hb := selB_lt A i
    have ih2 := ih (i + 1) f (by omega) (by omega)
    refine m_nextOn hR hw hg (by omega) ?_
    cases e : nextF A (selB A i) with
    | none =>
      refine ⟨fun z => absurd rfl z, fun _ => ?_⟩
      unfold wp_X7_tramOn_43
      have e0 : nI (selB A i) ||| 0 = nI (selB A i) := i_or0 _
      refine nm_r e0 (nm_r (nI_1 i) ?_)
      have e3 : selB A (i + 1) = selB A i := by
        show (match nextF A (selB A i) with | none => selB A i | some p => selB A i ||| 2 ^ p) = _
        rw [e]
      rw [e3] at ih2
      exact ih2
    | some q =>
      have hq := (next_lt e).1
      refine ⟨fun _ => ?_, fun z => absurd z (oI_ne (by omega))⟩
      unfold wp_X7_tramOn_43
      refine nm_r (zb_or (by omega)) (nm_r (nI_1 i) ?_)
      have e3 : selB A (i + 1) = selB A i ||| 2 ^ q := by
        show (match nextF A (selB A i) with | none => selB A i | some p => selB A i ||| 2 ^ p) = _
        rw [e]
      rw [e3] at ih2
      exact ih2
theorem m_tramOn {K : Int32 → tq_St → Prop} (hR : RM S g A) (hw : wfE A) (hg : g ≤ 140) (hK : ∀ S', RM S' g (boardF A) → FM g S S' → K (nI (tramB A)) S') : wp_X7_tramOn (nI g) S K :=
  m_tr_4 hR hw hg hK (aR A) 0 2000 (by omega) (by have := hw.2.2.2.2.2.2.1; omega)
end EVN
