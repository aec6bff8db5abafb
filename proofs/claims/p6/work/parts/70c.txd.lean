section TXD
variable {S S0 : tq_St} {K : Int32 → tq_St → Prop} {KV : tq_St → Prop} {t : Nat → Nat} {len told : Nat} {A : aE} {β : Type} {E : Nat → Nat → β} {R : β}
theorem s_num {lo hi : Nat} {x : aK3} {O : Nat → aK3 → β} (hl : len ≤ 160) (ht : ∀ i, i < len → S0.2.1 19 0 i = nI (t i)) (htb : ∀ i, t i < 128) (hhi : hi ≤ 100) (hc : CL S0 S len told A) (hx : CK S t x) (hok : tkOk t len x) (hR : numC t len lo hi x E O = R) (hlh : lo ≤ hi) (hd : ∀ y w v S', lo ≤ v → v ≤ hi → CD S0 S' len y w → E y w = R → K (nI v) S') (hK : ∀ v x' S', lo ≤ v → v ≤ hi → x.2.1 ≤ x'.1 → tkOk t len x' → x'.2.2 ≠ 4 → CL S0 S' len told A → CK S' t x' → O v x' = R → K (nI v) S') : wp_X5_takeNumber (nI lo) (nI hi) S K := by
  obtain ⟨x8, x6, x7, x9⟩ := hx
  have hk4 := hok.2.2.1
  have he := hok.2.1
  unfold numC at hR
  unfold wp_X5_takeNumber
  refine ⟨fun _ => ?_, fun z => absurd hc.2.2.2.2.1 z⟩
  rw [x7, x8]
  refine pk_eq x.2.2 2 (fun z => ?_) (fun z => ?_)
  · rw [if_pos z] at hR
    have hv := vAt_le hok z
    rw [x9 z]
    have h44 : ¬ (lo ≤ vAt t x.1 x.2.1 ∧ vAt t x.1 x.2.1 ≤ hi) → wp_X5_takeNumber_44 K (nI lo) S := by
      intro hn
      rw [if_neg hn] at hR
      unfold wp_X5_takeNumber_44
      rw [x8]
      exact s_fail (y := 3) hc (by decide) (fun S' d => hd 3 x.1 lo S' (Nat.le_refl _) hlh d hR)
    refine pk_lt (vAt t x.1 x.2.1) lo (fun z1 => h44 (by omega)) (fun z1 => pk_le (vAt t x.1 x.2.1) hi (fun z2 => nm_e ?_) (fun z2 => h44 (by omega)))
    rw [if_pos ⟨z1, z2⟩] at hR
    exact s_tok hl ht htb hc x6 he hR (fun y w S' d e => hd y w _ S' z1 z2 d e) (fun x' S' a1 a2 a3 a4 a5 a6 => hK _ x' S' z1 z2 a2 a1 a3 a4 a5 a6)
  · rw [if_neg z] at hR
    exact s_fail (y := 2) hc (by decide) (fun S' d => hd 2 x.1 lo S' (Nat.le_refl _) hlh d hR)
theorem s_semi {x : aK3} {O : aK3 → β} (hl : len ≤ 160) (ht : ∀ i, i < len → S0.2.1 19 0 i = nI (t i)) (htb : ∀ i, t i < 128) (hc : CL S0 S len told A) (hx : CK S t x) (hok : tkOk t len x) (hR : semC t len x E O = R) (hd : ∀ y w S', CD S0 S' len y w → E y w = R → KV S') (hK : ∀ x' S', x.2.1 ≤ x'.1 → tkOk t len x' → x'.2.2 ≠ 4 → CL S0 S' len told A → CK S' t x' → O x' = R → KV S') : wp_X5_takeSemicolon S KV := by
  obtain ⟨x8, x6, x7, x9⟩ := hx
  have hk4 := hok.2.2.1
  unfold semC at hR
  unfold wp_X5_takeSemicolon
  refine ⟨fun _ => ?_, fun z => absurd hc.2.2.2.2.1 z⟩
  rw [x7, x8]
  refine pk_eq x.2.2 3 (fun z => ?_) (fun z => ?_)
  · rw [if_pos z] at hR
    exact s_tok hl ht htb hc x6 hok.2.1 hR hd (fun x' S' a1 a2 a3 a4 a5 a6 => hK x' S' a2 a1 a3 a4 a5 a6)
  · rw [if_neg z] at hR
    exact s_fail (y := 2) hc (by decide) (fun S' d => hd 2 x.1 S' d hR)
/-- behind a fault the semicolon is not looked for -/
theorem s_semiD {y w : Nat} (h : CD S0 S len y w) (hK : KV S) : wp_X5_takeSemicolon S KV := by
  unfold wp_X5_takeSemicolon
  exact ⟨fun z => absurd z h.ne, fun _ => hK⟩
-- names
theorem nm_len : ∀ n, n < 7 → tq_len.getD n 0 = tq_cuts.getD (n + 1) 0 - tq_cuts.getD n 0 := by decide
theorem nm_byt : ∀ n, n < 7 → ∀ i, i < tq_len.getD n 0 → (tq_byt.getD n []).getD i 0 &&& 255 = nI (tq_lets.getD (tq_cuts.getD n 0 + i) 0) := by decide +kernel
theorem nm_lets : ∀ i, i < 29 → tq_lets.getD i 0 < 128 := by decide
theorem s_isName_20 {o h e : Nat} (ho : o < 7) (hl : len ≤ 160) (ht : ∀ i, i < len → S0.2.1 19 0 i = nI (t i)) (htb : ∀ i, t i < 128) (ha : S.2.1 19 = S0.2.1 19) (h8 : S.1 19 8 = nI h) (hhe : h ≤ e) (hel : e ≤ len) (hlen : e - h = tq_len.getD o 0) (h1 : nameB t h e o = true → K 1 S) (h0 : nameB t h e o = false → K 0 S) : ∀ (m i f : Nat), i + m = tq_len.getD o 0 → m < f → (∀ j, j < i → t (h + j) = tq_lets.getD (tq_cuts.getD o 0 + j) 0) → wp_X5_isName_20 o K f (nI i) S := by
  have h5 := tq_len5 o ho
  have hcut := cut_le o ho
  have hnl := nm_len o ho
  intro m
  induction m with
  | zero =>
    intro i f g1 g2 g3
    obtain ⟨f, rfl⟩ : ∃ k, f = k + 1 := ⟨f - 1, by omega⟩
    unfold wp_X5_isName_20
    refine t_len ho (pk_le (tq_len.getD o 0) i (fun _ => h1 ?_) (fun z => absurd z (by omega)))
    unfold nameB
    simp only [Bool.and_eq_true, decide_eq_true_eq, List.all_eq_true, List.mem_range, beq_iff_eq]
    exact ⟨by omega, fun j hj => g3 j (by omega)⟩
  | succ m ih =>
    intro i f g1 g2 g3
    obtain ⟨f, rfl⟩ : ∃ k, f = k + 1 := ⟨f - 1, by omega⟩
    unfold wp_X5_isName_20
    refine t_len ho (pk_le (tq_len.getD o 0) i (fun z => absurd z (by omega)) (fun hi => ?_))
    rw [h8, nI_add]
    refine ⟨vp_in_nI (by omega) (by decide), t_charAt ho hi h5 ?_⟩
    rw [nI_clamp (by omega), ha, ht (h + i) (by omega), nm_byt o ho i hi]
    have b1 := htb (h + i)
    have b2 := nm_lets (tq_cuts.getD o 0 + i) (by omega)
    refine pk_eq (t (h + i)) (tq_lets.getD (tq_cuts.getD o 0 + i) 0) (fun z => nm_r (nI_1 i) ?_) (fun z => h0 ?_)
    · refine ih (i + 1) f (by omega) (by omega) (fun j hj => ?_)
      rcases Nat.lt_or_ge j i with c | c
      · exact g3 j c
      · rw [(by omega : j = i)]; exact z
    · unfold nameB
      rw [Bool.and_eq_false_iff]
      refine Or.inr ?_
      rw [List.all_eq_false]
      exact ⟨i, List.mem_range.mpr (by omega), by simpa using z⟩
theorem s_isName {o : Nat} {x : aK3} (ho : o < 7) (hl : len ≤ 160) (ht : ∀ i, i < len → S0.2.1 19 0 i = nI (t i)) (htb : ∀ i, t i < 128) (hc : CL S0 S len told A) (hx : CK S t x) (hok : tkOk t len x) (h1 : nameB t x.1 x.2.1 o = true → K 1 S) (h0 : nameB t x.1 x.2.1 o = false → K 0 S) : wp_X5_isName o S K := by
  obtain ⟨x8, x6, x7, x9⟩ := hx
  have h5 := tq_len5 o ho
  have hel := hok.2.1
  unfold wp_X5_isName
  refine t_len ho ?_
  rw [x8, x6, pk_sub hok.1]
  refine pk_eq (tq_len.getD o 0) (x.2.1 - x.1) (fun z => ?_) (fun z => h0 ?_)
  · exact s_isName_20 ho hl ht htb hc.2.2.1 x8 hok.1 hok.2.1 z.symm h1 h0 (tq_len.getD o 0) 0 2000 (by omega) (by omega) (fun j hj => absurd hj (by omega))
  · unfold nameB
    rw [Bool.and_eq_false_iff]
    refine Or.inl ?_
    rw [← nm_len o ho]
    exact decide_eq_false (fun c => z c.symm)
theorem s_begun {x : aK3} (hl : len ≤ 160) (ht : ∀ i, i < len → S0.2.1 19 0 i = nI (t i)) (htb : ∀ i, t i < 128) (hc : CL S0 S len told A) (hx : CK S t x) (hok : tkOk t len x) (h1 : x.2.2 = 1 → K (nI (nmF t x.1 x.2.1)) S) (h0 : x.2.2 ≠ 1 → K (nI 7) S) : wp_X5_lineBegun S K := by
  have hk4 := hok.2.2.1
  have hloop : x.2.2 = 1 → ∀ (m i f : Nat), i + m = 7 → m < f → (∀ j, j < i → nameB t x.1 x.2.1 j = false) → wp_X5_lineBegun_13 K f (nI i) S := by
    intro hx1 m
    induction m with
    | zero =>
      intro i f g1 g2 g3
      obtain ⟨f, rfl⟩ : ∃ k, f = k + 1 := ⟨f - 1, by omega⟩
      refine pk_le 7 i (fun _ => ?_) (fun z => absurd z (by omega))
      have e : nmF t x.1 x.2.1 = 7 := by
        have a1 := fa_first_le (nameB t x.1 x.2.1) 7
        rcases Nat.lt_or_ge (nmF t x.1 x.2.1) 7 with c | c
        · have := fa_first_yes (nameB t x.1 x.2.1) 7 c
          rw [g3 (fa_first (nameB t x.1 x.2.1) 7) (by show nmF t x.1 x.2.1 < i; omega)] at this
          exact absurd this (by decide)
        · exact Nat.le_antisymm a1 c
      have := h1 hx1
      rw [e] at this
      exact this
    | succ m ih =>
      intro i f g1 g2 g3
      obtain ⟨f, rfl⟩ : ∃ k, f = k + 1 := ⟨f - 1, by omega⟩
      unfold wp_X5_lineBegun_13
      refine pk_le 7 i (fun z => absurd z (by omega)) (fun hi => ?_)
      have hn : ∀ o, o = i → o < 7 ∧ wp_X5_isName o S (fun r6 S7 => ((r6 : Int32) = 0 → ∀ x10 : Int32, x10 = nI i + 1 → wp_X5_lineBegun_13 K f x10 S7) ∧ (¬ (r6 : Int32) = 0 → K (nI i) S7)) := by
        intro o e
        subst e
        refine ⟨hi, s_isName hi hl ht htb hc hx hok (fun hb => ⟨fun z => absurd z (by decide), fun _ => ?_⟩) (fun hb => ⟨fun _ => nm_r (nI_1 o) (ih (o + 1) f (by omega) (by omega) (fun j hj => ?_)), fun z => absurd rfl z⟩)⟩
        · have e : nmF t x.1 x.2.1 = o := by
            rcases Nat.lt_trichotomy (nmF t x.1 x.2.1) o with c | c | c
            · have hlt : nmF t x.1 x.2.1 < 7 := by omega
              have := fa_first_yes (nameB t x.1 x.2.1) 7 hlt
              rw [g3 (fa_first (nameB t x.1 x.2.1) 7) c] at this
              exact absurd this (by decide)
            · exact c
            · have := fa_first_no (nameB t x.1 x.2.1) 7 o c
              rw [hb] at this
              exact absurd this (by decide)
          have := h1 hx1
          rw [e] at this
          exact this
        · rcases Nat.lt_or_ge j o with c | c
          · exact g3 j c
          · rw [(by omega : j = o)]; exact hb
      unfold wp_X5_nameOf
      have hne : ∀ o, o < 7 → nI i = nI o → i = o := fun o ho e => (nI_eq (by omega) (by omega)).mp e
      refine ⟨fun z => hn 6 ?_, fun z => hn 0 (hne 0 (by decide) z).symm, fun z => hn 1 (hne 1 (by decide) z).symm, fun z => hn 2 (hne 2 (by decide) z).symm, fun z => hn 3 (hne 3 (by decide) z).symm, fun z => hn 4 (hne 4 (by decide) z).symm, fun z => hn 5 (hne 5 (by decide) z).symm⟩
      rw [nI_toInt (by omega)] at z
      omega
  unfold wp_X5_lineBegun
  rw [hx.2.2.1]
  exact pk_eq x.2.2 1 (fun z => hloop z 7 0 2000 (by omega) (by omega) (fun j hj => absurd hj (by omega))) (fun z => h0 z)
theorem nmF_le {h e : Nat} : nmF t h e ≤ 7 := fa_first_le _ 7
end TXD
