section TXJ
variable {S S0 : tq_St} {G : aQ} {K : Int32 → tq_St → Prop} {KV : tq_St → Prop} {t : Nat → Nat} {len tz told : Nat} {P : (Nat → Int32) × Int32 × Int32} {A : aE} {β : Type} {E : Nat → Nat → β} {R : β}
theorem r_more {n : Nat} {x : aK3} {O : aE → aK3 → β} (hl : len ≤ 160) (ht : ∀ i, i < len → S0.2.1 28 7 i = nI (t i)) (htb : ∀ i, t i < 128) (hn : n ≤ 6) (h5 : n ≤ 3 → aN A < 5) (h6 : n = 6 → aC A = 0) (hc : ZL P S0 S len tz) (hx : ZK S t x) (hok : tkOk t len x) (hx4 : x.2.2 ≠ 4) (x2 : RD P A) (x3 : wfD A) (hR : (if n < 4 then (if x.2.2 = 2 then numC t len 0 40 x E (fun v x2 => O (addO A n v) x2) else O (addO A n 0) x) else if n = 4 then numC t len 1 5 x E (fun v x2 => O (uR A v) x2) else if n = 5 then numC t len 1 9 x E (fun v x2 => O (uT A v) x2) else planC t len 9 A x E O) = R) (hd : ∀ y w P' B S', ZD P' S0 S' len y w → RD P' B → wfD B → E y w = R → KV S') (hK : ∀ P' B x' S', x.1 ≤ x'.1 → tkOk t len x' → x'.2.2 ≠ 4 → ZL P' S0 S' len tz → ZK S' t x' → RD P' B → wfD B → (n = 6 ∨ aC B = aC A) → O B x' = R → KV S') : wp_X7_readMore (nI n) S KV := by
  unfold wp_X7_readMore
  refine pk_lt 3 n (fun z => ?_) (fun z => ?_)
  · rw [if_neg (by omega)] at hR
    have p4 := pk_eq (A := wp_X7_number 1 5 S (fun r12 S13 => vp_in 17 28 ∧ ∀ S15 : tq_St, S15 = sA S13 28 3 (17 : Int32).toNatClampNeg (r12 - 2) → KV S15)) (B := (¬ (nI n : Int32) = 5 → (wp_X7_readPlan S (fun S5 => KV S5))) ∧ ((nI n : Int32) = 5 → (wp_X7_number 1 9 S (fun r7 S8 => vp_in 18 28 ∧ ∀ S10 : tq_St, S10 = sA S8 28 3 (18 : Int32).toNatClampNeg (r7 - 4) → KV S10)))) (x := nI n) (y := 4) n 4 (fun z4 => ?_) (fun z4 => ?_)
    · exact ⟨p4.2, p4.1⟩
    · rw [if_pos z4] at hR
      have hput : ∀ v, RD (upd P.1 17 (nI v - 2), P.2.1, P.2.2) (uR A v) := fun v => x2.put x3 (r := v) (t := aT A) (fun j a c => pk_un a) (pk_us (f := P.1) (x := nI v - 2) (k := 17)) ((pk_un (f := P.1) (x := nI v - 2) (k := 17) (j := 18) (by decide)).trans x2.2.2.2.2.2.2.2.1) rfl
      have hwf : ∀ v, 1 ≤ v → v ≤ 5 → wfD (uR A v) := fun v a b => ⟨x3.1, x3.2.1, x3.2.2.1, x3.2.2.2.1, x3.2.2.2.2.1, x3.2.2.2.2.2.1, ⟨a, b⟩, x3.2.2.2.2.2.2.2⟩
      refine r_num (lo := 1) (hi := 5) hl ht htb (by decide) (by decide) hc hx hok hR (fun y w v S2 hv1 hv d e => ⟨vp_in_nI (n := 17) (by decide) (by decide), nm_e ?_⟩) (fun v x' S2 hv1 hv b1 b2 b3 b4 b5 b6 => ⟨vp_in_nI (n := 17) (by decide) (by decide), nm_e ?_⟩)
      · exact hd y w _ (uR A v) _ (d.a 17 (nI v - 2)) (hput v) (hwf v hv1 hv) e
      · exact hK _ (uR A v) x' _ (by have := hok.1; omega) b2 b3 (b4.a 17 (nI v - 2)) (b5.a 3 17 _) (hput v) (hwf v hv1 hv) (Or.inr rfl) b6
    · rw [if_neg z4] at hR
      have p5 := pk_eq (A := wp_X7_number 1 9 S (fun r7 S8 => vp_in 18 28 ∧ ∀ S10 : tq_St, S10 = sA S8 28 3 (18 : Int32).toNatClampNeg (r7 - 4) → KV S10)) (B := wp_X7_readPlan S (fun S5 => KV S5)) (x := nI n) (y := 5) n 5 (fun z5 => ?_) (fun z5 => ?_)
      · exact ⟨p5.2, p5.1⟩
      · rw [if_pos z5] at hR
        have hput : ∀ v, RD (upd P.1 18 (nI v - 4), P.2.1, P.2.2) (uT A v) := fun v => x2.put x3 (r := aR A) (t := v) (fun j a c => pk_un c) ((pk_un (f := P.1) (x := nI v - 4) (k := 18) (j := 17) (by decide)).trans x2.2.2.2.2.2.2.1) (pk_us (f := P.1) (x := nI v - 4) (k := 18)) rfl
        have hwf : ∀ v, 1 ≤ v → v ≤ 9 → wfD (uT A v) := fun v a b => ⟨x3.1, x3.2.1, x3.2.2.1, x3.2.2.2.1, x3.2.2.2.2.1, x3.2.2.2.2.2.1, x3.2.2.2.2.2.2.1, ⟨a, b⟩, x3.2.2.2.2.2.2.2.2⟩
        refine r_num (lo := 1) (hi := 9) hl ht htb (by decide) (by decide) hc hx hok hR (fun y w v S2 hv1 hv d e => ⟨vp_in_nI (n := 18) (by decide) (by decide), nm_e ?_⟩) (fun v x' S2 hv1 hv b1 b2 b3 b4 b5 b6 => ⟨vp_in_nI (n := 18) (by decide) (by decide), nm_e ?_⟩)
        · exact hd y w _ (uT A v) _ (d.a 18 (nI v - 4)) (hput v) (hwf v hv1 hv) e
        · exact hK _ (uT A v) x' _ (by have := hok.1; omega) b2 b3 (b4.a 18 (nI v - 4)) (b5.a 3 18 _) (hput v) (hwf v hv1 hv) (Or.inr rfl) b6
      · rw [if_neg z5] at hR
        unfold wp_X7_readPlan
        exact r_plan (p := x.1) hl ht htb hd (fun P' B x' S' a1 a2 a3 a4 a5 a6 a7 a8 => hK P' B x' S' a1 a2 a3 a4 a5 a6 a7 (Or.inl (by omega)) a8) 9 2000 S P A x (by have := h6 (by omega); omega) (by omega) (by omega) (Nat.le_refl _) hx4 hc hx hok x2 x3 hR
  · rw [if_pos (by omega)] at hR
    have hN := h5 z
    have e4 : S.1 28 4 = nI (aN A) := by rw [hc.1.2.2.2.2.2.2.1]; exact x2.1
    rw [e4, nI_clamp (by omega)]
    refine ⟨vp_in_nI (by omega) (by decide), nm_e ?_⟩
    have y2 := hc.a (aN A) (nI n)
    have e4' : (sA S 28 3 (aN A) (nI n)).1 28 4 = nI (aN A) := e4
    have e14 : (sA S 28 3 (aN A) (nI n)).1 28 14 = nI x.2.2 := hx.2.2.1
    rw [e4', e14]
    have h41 : ∀ (P2 : (Nat → Int32) × Int32 × Int32) (x' : aK3) (S2 : tq_St) (s : Nat), s ≤ 40 → x.1 ≤ x'.1 → tkOk t len x' → x'.2.2 ≠ 4 → ZL P2 S0 S2 len tz → ZK S2 t x' → P2.1 (aN A) = nI n → P2.1 (5 + aN A) = nI s → (∀ j, j ≠ aN A → j ≠ 5 + aN A → P2.1 j = P.1 j) → P2.2 = P.2 → O (addO A n s) x' = R → wp_X7_readMore_41 KV S2 := by
      intro P2 x' S2 s hs a1 a2 a3 q1 q1' q2 q3 q4 q5 q6
      unfold wp_X7_readMore_41
      have e42 : S2.1 28 4 = nI (aN A) := by rw [q1.1.2.2.2.2.2.2.1, q5]; exact x2.1
      rw [e42, nI_1]
      exact nm_e (hK _ (addO A n s) x' _ a1 a2 a3 (q1.i4 (nI (aN A + 1))) (q1'.i (Or.inl rfl) _) (x2.one x3 hN q2 q3 q4 rfl (by show P2.2.2 = _; rw [q5])) (addO_wf x3 hN (by omega) hs) (Or.inr rfl) q6)
    have h41d : ∀ (y w : Nat) (P2 : (Nat → Int32) × Int32 × Int32) (S2 : tq_St) (s : Nat), s ≤ 40 → ZD P2 S0 S2 len y w → P2.1 (aN A) = nI n → P2.1 (5 + aN A) = nI s → (∀ j, j ≠ aN A → j ≠ 5 + aN A → P2.1 j = P.1 j) → P2.2 = P.2 → E y w = R → wp_X7_readMore_41 KV S2 := by
      intro y w P2 S2 s hs q1 q2 q3 q4 q5 q6
      unfold wp_X7_readMore_41
      have e42 : S2.1 28 4 = nI (aN A) := by rw [q1.1.2.2.2.2.2.2.1, q5]; exact x2.1
      rw [e42, nI_1]
      exact nm_e (hd y w _ (addO A n s) _ (q1.i4 (nI (aN A + 1))) (x2.one x3 hN q2 q3 q4 rfl (by show P2.2.2 = _; rw [q5])) (addO_wf x3 hN (by omega) hs) q6)
    have hk4 := hok.2.2.1
    have p2 := pk_eq (A := wp_X7_number 0 40 (sA S 28 3 (aN A) (nI n)) (fun r22 S23 => vp_in (5 + nI (aN A)) 28 ∧ ∀ S25 : tq_St, S25 = sA S23 28 3 (5 + nI (aN A) : Int32).toNatClampNeg r22 → wp_X7_readMore_41 KV S25)) (B := wp_X7_readMore_41 KV (sA S 28 3 (aN A) (nI n))) (x := nI x.2.2) (y := 2) x.2.2 2 (fun z2 => ?_) (fun z2 => ?_)
    · exact ⟨p2.2, p2.1⟩
    · rw [if_pos z2] at hR
      have e5 : (5 : Int32) + nI (aN A) = nI (5 + aN A) := nI_add 5 (aN A)
      rw [e5, nI_clamp (by omega)]
      refine r_num (lo := 0) (hi := 40) hl ht htb (by decide) (by decide) y2 (hx.a 3 _ _) hok hR (fun y w v S2 _ hv d e => ⟨vp_in_nI (by omega) (by decide), nm_e ?_⟩) (fun v x' S2 _ hv b1 b2 b3 b4 b5 b6 => ⟨vp_in_nI (by omega) (by decide), nm_e ?_⟩)
      · exact h41d y w _ _ v hv (d.a (5 + aN A) (nI v)) ((pk_un (by omega)).trans pk_us) pk_us (fun j a c => (pk_un c).trans (pk_un a)) rfl e
      · exact h41 _ x' _ v hv (by have := hok.1; omega) b2 b3 (b4.a (5 + aN A) (nI v)) (b5.a 3 _ _) ((pk_un (by omega)).trans pk_us) pk_us (fun j a c => (pk_un c).trans (pk_un a)) rfl b6
    · rw [if_neg z2] at hR
      exact h41 _ x _ 0 (by omega) (Nat.le_refl _) hok hx4 y2 (hx.a 3 _ _) pk_us ((pk_un (by omega)).trans (x2.2.2.2.1 (aN A) (Nat.le_refl _) hN)) (fun j a _ => pk_un a) rfl hR
-- names
theorem r_nm51 {n : Nat} {x : aK3} {Rc : Int32 → tq_St → Prop} (hl : len ≤ 160) (ht : ∀ i, i < len → S0.2.1 28 7 i = nI (t i)) (htb : ∀ i, t i < 128) (hcut : ∀ i, i < 8 → S0.2.1 28 16 i = nI (tq_cuts.getD i 0)) (hlet : ∀ i, i < 29 → S0.2.1 28 17 i = nI (tq_lets.getD i 0)) (hc : ZB P S0 S len) (hn : n < 7) (h13 : S.1 28 13 = nI x.1) (h12 : S.1 28 12 = nI x.2.1) (hok : tkOk t len x) (h1 : nameB t x.1 x.2.1 n = true → K (nI n) S) (h0 : nameB t x.1 x.2.1 n = false → Rc (nI (n + 1)) S) : ∀ (m k f : Nat) (v : Int32), k + m = x.2.1 - x.1 → m < f → ((v = 0 ∧ nameB t x.1 x.2.1 n = false) ∨ (v = 1 ∧ x.2.1 - x.1 = tq_cuts.getD (n + 1) 0 - tq_cuts.getD n 0 ∧ ∀ j, j < k → t (x.1 + j) = tq_lets.getD (tq_cuts.getD n 0 + j) 0)) → wp_X7_nameHere_51 K Rc f (nI n) v (nI k) S := by
  have hcn := cut_le n hn
  have hhe := hok.1
  have hel := hok.2.1
  have h106a : nameB t x.1 x.2.1 n = false → wp_X7_nameHere_106 K Rc (nI n) 0 S := fun hb => ⟨fun _ => nm_r (nI_1 n) (h0 hb), fun z => absurd rfl z⟩
  have h106b : nameB t x.1 x.2.1 n = true → wp_X7_nameHere_106 K Rc (nI n) 1 S := fun hb => ⟨fun z => absurd z (by decide), fun _ => h1 hb⟩
  intro m
  induction m with
  | zero =>
    intro k f v z1 z2 z3
    obtain ⟨f, rfl⟩ : ∃ k, f = k + 1 := ⟨f - 1, by omega⟩
    unfold wp_X7_nameHere_51
    rw [h13, h12, pk_sub hhe]
    rcases z3 with ⟨ev, hb⟩ | ⟨ev, e1, e2⟩
    · subst ev
      exact ⟨fun _ => h106a hb, fun z => absurd rfl z⟩
    · subst ev
      refine ⟨fun z => absurd z (by decide), fun _ => pk_le (x.2.1 - x.1) k (fun _ => h106b ?_) (fun z => absurd z (by omega))⟩
      unfold nameB
      simp only [Bool.and_eq_true, decide_eq_true_eq, List.all_eq_true, List.mem_range, beq_iff_eq]
      exact ⟨e1, fun j hj => e2 j (by omega)⟩
  | succ m ih =>
    intro k f v z1 z2 z3
    obtain ⟨f, rfl⟩ : ∃ k, f = k + 1 := ⟨f - 1, by omega⟩
    unfold wp_X7_nameHere_51
    rw [h13, h12, pk_sub hhe]
    rcases z3 with ⟨ev, hb⟩ | ⟨ev, e1, e2⟩
    · subst ev
      exact ⟨fun _ => h106a hb, fun z => absurd rfl z⟩
    · subst ev
      refine ⟨fun z => absurd z (by decide), fun _ => pk_le (x.2.1 - x.1) k (fun z => absurd z (by omega)) (fun hk => ?_)⟩
      rw [nI_add]
      refine r_byte hl ht hc (by omega) (fun _ => ?_) (fun z => absurd z (by omega))
      rw [nI_clamp (by omega), hc.2.2.1 16 (by decide), hcut n (by omega), nI_add, nI_clamp (by omega), hc.2.2.1 17 (by decide), hlet _ (by omega)]
      have b1 := htb (x.1 + k)
      have b2 := nm_lets (tq_cuts.getD n 0 + k) (by omega)
      refine ⟨vp_in_nI (by omega) (by decide), vp_in_nI (by omega) (by decide), ?_⟩
      have p := pk_eq (A := ∀ x15 : Int32, x15 = nI k + 1 → wp_X7_nameHere_51 K Rc f (nI n) 1 x15 S) (B := ∀ x13 : Int32, x13 = nI k + 1 → wp_X7_nameHere_51 K Rc f (nI n) 0 x13 S) (x := nI (t (x.1 + k))) (y := nI (tq_lets.getD (tq_cuts.getD n 0 + k) 0)) (t (x.1 + k)) (tq_lets.getD (tq_cuts.getD n 0 + k) 0) (fun z => nm_r (nI_1 k) (ih (k + 1) f 1 (by omega) (by omega) (Or.inr ⟨rfl, e1, fun j hj => ?_⟩))) (fun z => nm_r (nI_1 k) (ih (k + 1) f 0 (by omega) (by omega) (Or.inl ⟨rfl, ?_⟩)))
      · exact ⟨p.2, p.1⟩
      · rcases Nat.lt_or_ge j k with c | c
        · exact e2 j c
        · rw [(by omega : j = k)]; exact z
      · unfold nameB
        rw [Bool.and_eq_false_iff]
        refine Or.inr ?_
        rw [List.all_eq_false]
        exact ⟨k, List.mem_range.mpr (by omega), by simpa using z⟩
theorem r_name {x : aK3} (hl : len ≤ 160) (ht : ∀ i, i < len → S0.2.1 28 7 i = nI (t i)) (htb : ∀ i, t i < 128) (hcut : ∀ i, i < 8 → S0.2.1 28 16 i = nI (tq_cuts.getD i 0)) (hlet : ∀ i, i < 29 → S0.2.1 28 17 i = nI (tq_lets.getD i 0)) (hc : ZB P S0 S len) (hx : ZK S t x) (hok : tkOk t len x) (h1 : x.2.2 = 1 → nmF t x.1 x.2.1 < 7 → K (nI (nmF t x.1 x.2.1)) S) (h0 : (x.2.2 = 1 → nmF t x.1 x.2.1 = 7) → K (-4) S) : wp_X7_nameHere S K := by
  have hk4 := hok.2.2.1
  have hhe := hok.1
  have hel := hok.2.1
  have hle := nmF_le (t := t) (h := x.1) (e := x.2.1)
  have hloop : ∀ (m n f : Nat), n + m = 7 → m < f → (∀ j, j < n → nameB t x.1 x.2.1 j = false) → wp_X7_nameHere_2 K f (nI n) S := by
    intro m
    induction m with
    | zero =>
      intro n f g1 g2 g3
      obtain ⟨f, rfl⟩ : ∃ k, f = k + 1 := ⟨f - 1, by omega⟩
      unfold wp_X7_nameHere_2
      refine pk_le 7 n (fun _ => h0 (fun _ => ?_)) (fun z => absurd z (by omega))
      rcases Nat.lt_or_ge (nmF t x.1 x.2.1) 7 with c | c
      · have := fa_first_yes (nameB t x.1 x.2.1) 7 c
        rw [g3 (fa_first (nameB t x.1 x.2.1) 7) (by show nmF t x.1 x.2.1 < n; omega)] at this
        exact absurd this (by decide)
      · omega
    | succ m ih =>
      intro n f g1 g2 g3
      obtain ⟨f, rfl⟩ : ∃ k, f = k + 1 := ⟨f - 1, by omega⟩
      have hcn := cut_le n (by omega)
      unfold wp_X7_nameHere_2
      refine pk_le 7 n (fun z => absurd z (by omega)) (fun hn => ?_)
      rw [hx.2.2.1]
      have p := pk_eq (A := vp_in (nI n + 1) 8 ∧ vp_in (nI n) 8 ∧ (¬ ((S.1 28 12) - (S.1 28 13) : Int32) = ((S.2.1 28 16 (nI n + 1 : Int32).toNatClampNeg) - (S.2.1 28 16 (nI n : Int32).toNatClampNeg)) → wp_X7_nameHere_51 K (wp_X7_nameHere_2 K f) 2000 (nI n) 0 0 S) ∧ (((S.1 28 12) - (S.1 28 13) : Int32) = ((S.2.1 28 16 (nI n + 1 : Int32).toNatClampNeg) - (S.2.1 28 16 (nI n : Int32).toNatClampNeg)) → wp_X7_nameHere_51 K (wp_X7_nameHere_2 K f) 2000 (nI n) 1 0 S)) (B := K (-4) S) (x := nI x.2.2) (y := 1) x.2.2 1 (fun z1 => ?_) (fun z1 => h0 (fun z => absurd z z1))
      · exact ⟨p.2, p.1⟩
      · rw [nI_1, nI_clamp (by omega), nI_clamp (by omega), hx.1, hx.2.1, hc.2.2.1 16 (by decide), hcut n (by omega), hcut (n + 1) (by omega), pk_sub hhe, pk_sub hcn.1]
        have hgo := r_nm51 (K := K) (Rc := wp_X7_nameHere_2 K f) (n := n) (x := x) hl ht htb hcut hlet hc (by omega) hx.1 hx.2.1 hok (fun hb => ?_) (fun hb => ih (n + 1) f (by omega) (by omega) (fun j hj => ?_)) (x.2.1 - x.1) 0 2000
        · refine ⟨vp_in_nI (by omega) (by decide), vp_in_nI (by omega) (by decide), fun e => hgo 0 (by omega) (by omega) (Or.inl ⟨rfl, ?_⟩), fun e => hgo 1 (by omega) (by omega) (Or.inr ⟨rfl, (nI_eq (by omega) (by omega)).mp e, fun j hj => absurd hj (by omega)⟩)⟩
          unfold nameB
          rw [Bool.and_eq_false_iff]
          refine Or.inl ?_
          simp
          exact fun c => e (congrArg nI c)
        · have e : nmF t x.1 x.2.1 = n := by
            rcases Nat.lt_trichotomy (nmF t x.1 x.2.1) n with c | c | c
            · have hlt : nmF t x.1 x.2.1 < 7 := by omega
              have := fa_first_yes (nameB t x.1 x.2.1) 7 hlt
              rw [g3 (fa_first (nameB t x.1 x.2.1) 7) c] at this
              exact absurd this (by decide)
            · exact c
            · have := fa_first_no (nameB t x.1 x.2.1) 7 n c
              rw [hb] at this
              exact absurd this (by decide)
          have := h1 z1 (by omega)
          rw [e] at this
          exact this
        · rcases Nat.lt_or_ge j n with c | c
          · exact g3 j c
          · rw [(by omega : j = n)]; exact hb
  unfold wp_X7_nameHere
  exact hloop 7 0 2000 (by omega) (by omega) (fun j hj => absurd hj (by omega))
end TXJ
