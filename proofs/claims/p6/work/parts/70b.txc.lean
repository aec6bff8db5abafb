section TXC
variable {S S0 : tq_St} {K : Int32 → tq_St → Prop} {KV : tq_St → Prop} {t : Nat → Nat} {len told : Nat} {A : aE} {β : Type} {E : Nat → Nat → β} {R : β}
-- THE CLASS READS, exactly
def CL (S0 S : tq_St) (len told : Nat) (A : aE) : Prop := (∀ o, o ≠ 19 → o ≠ 2 → S.1 o = S0.1 o ∧ S.2.1 o = S0.2.1 o) ∧ S.2.2 = S0.2.2 ∧ S.2.1 19 = S0.2.1 19 ∧ S.1 19 2 = nI len ∧ S.1 19 3 = 0 ∧ S.1 19 5 = nI told ∧ wfD A ∧ RC S 2 A
def CK (S : tq_St) (t : Nat → Nat) (x : aK3) : Prop := S.1 19 8 = nI x.1 ∧ S.1 19 6 = nI x.2.1 ∧ S.1 19 7 = nI x.2.2 ∧ (x.2.2 = 2 → S.1 19 9 = nI (vAt t x.1 x.2.1))
/-- a fault stands -/
def CD (S0 S : tq_St) (len y w : Nat) : Prop := (∀ o, o ≠ 19 → o ≠ 2 → S.1 o = S0.1 o ∧ S.2.1 o = S0.2.1 o) ∧ S.2.2 = S0.2.2 ∧ S.2.1 19 = S0.2.1 19 ∧ S.1 19 2 = nI len ∧ (0 < y ∧ y ≤ 6) ∧ S.1 19 3 = nI y ∧ S.1 19 4 = nI w ∧ ∃ B, wfD B ∧ RC S 2 B
theorem CL.i (h : CL S0 S len told A) {k : Nat} (hk : k ≠ 2 ∧ k ≠ 3 ∧ k ≠ 5) (v : Int32) : CL S0 (sI S 19 k v) len told A := by
  obtain ⟨h1, h2, h3, h4, h5, h6, h7, h8⟩ := h
  exact ⟨fun o a b => ⟨(sI_1n S a).trans (h1 o a b).1, (h1 o a b).2⟩, h2, h3, by rw [sI_1, if_neg (by omega)]; exact h4, by rw [sI_1, if_neg (by omega)]; exact h5, by rw [sI_1, if_neg (by omega)]; exact h6, h7, h8.fr ((Fr.rf (o := 19)).I _ _) (by decide)⟩
theorem CL.dr (h : CL S0 S len told A) {S' : tq_St} (f : Fr 2 S S') {B : aE} (hw : wfD B) (hR : RC S' 2 B) : CL S0 S' len told B := by
  obtain ⟨h1, h2, h3, h4, h5, h6, h7, h8⟩ := h
  have f19 := f.1 19 (by decide)
  exact ⟨fun o a b => ⟨((f.1 o b).1).trans (h1 o a b).1, ((f.1 o b).2).trans (h1 o a b).2⟩, f.2.trans h2, f19.2.trans h3, by rw [f19.1]; exact h4, by rw [f19.1]; exact h5, by rw [f19.1]; exact h6, hw, hR⟩
theorem CK.dr {x : aK3} (h : CK S t x) {S' : tq_St} (f : Fr 2 S S') : CK S' t x := by
  have f19 := f.1 19 (by decide)
  unfold CK
  rw [f19.1]
  exact h
theorem CD.dr {y w : Nat} (h : CD S0 S len y w) {S' : tq_St} (f : Fr 2 S S') {B : aE} (hw : wfD B) (hR : RC S' 2 B) : CD S0 S' len y w := by
  obtain ⟨h1, h2, h3, h4, h5, h6, h7, -⟩ := h
  have f19 := f.1 19 (by decide)
  exact ⟨fun o a b => ⟨((f.1 o b).1).trans (h1 o a b).1, ((f.1 o b).2).trans (h1 o a b).2⟩, f.2.trans h2, f19.2.trans h3, by rw [f19.1]; exact h4, h5, by rw [f19.1]; exact h6, by rw [f19.1]; exact h7, B, hw, hR⟩
theorem CD.ne {y w : Nat} (h : CD S0 S len y w) : ¬ S.1 19 3 = 0 := by
  rw [h.2.2.2.2.2.1]
  exact nI_ne0 h.2.2.2.2.1.1 (by have := h.2.2.2.2.1.2; omega)
theorem CL.i5 (h : CL S0 S len told A) (v : Nat) : CL S0 (sI S 19 5 (nI v)) len v A := by
  obtain ⟨h1, h2, h3, h4, h5, h6, h7, h8⟩ := h
  exact ⟨fun o a b => ⟨(sI_1n S a).trans (h1 o a b).1, (h1 o a b).2⟩, h2, h3, by rw [sI_1, if_neg (by decide)]; exact h4, by rw [sI_1, if_neg (by decide)]; exact h5, by rw [sI_1, if_pos rfl], h7, h8.fr ((Fr.rf (o := 19)).I _ _) (by decide)⟩
/-- the first fault -/
theorem s_fail {y w : Nat} (h : CL S0 S len told A) (hy : 0 < y ∧ y ≤ 6) (hK : ∀ S', CD S0 S' len y w → KV S') : wp_X5_fail (nI y) (nI w) S KV := by
  obtain ⟨h1, h2, h3, h4, h5, h6, h7, h8⟩ := h
  unfold wp_X5_fail
  refine ⟨fun z => absurd h5 z, fun _ => nm_e (nm_e (hK _ ⟨fun o a b => ⟨(sI_1n _ a).trans ((sI_1n _ a).trans (h1 o a b).1), (h1 o a b).2⟩, h2, h3, ?_, hy, ?_, ?_, A, h7, h8.fr (((Fr.rf (o := 19)).I _ _).I _ _) (by decide)⟩))⟩
  · rw [sI_1, if_neg (by decide), sI_1, if_neg (by decide)]; exact h4
  · rw [sI_1, if_neg (by decide), sI_1, if_pos rfl]
  · rw [sI_1, if_pos rfl]
theorem s_sort {c : Nat} (hc : c < 128) (hK : K (nI (sortN c)) S) : wp_X5_sortOf (nI c) S K := by
  have h28 : ¬ (97 ≤ c ∧ c ≤ 122) → ¬ (48 ≤ c ∧ c ≤ 57) → wp_X5_sortOf_28 K (nI c) S := by
    intro a b
    have e : sortN c = if c = 59 then 3 else 4 := by unfold sortN; rw [if_neg a, if_neg b]
    rw [e] at hK
    unfold wp_X5_sortOf_28
    have := pk_eq (A := K 3 S) (B := K 4 S) (x := nI c) (y := 59) c 59 (fun z => by rw [if_pos z] at hK; exact hK) (fun z => by rw [if_neg z] at hK; exact hK)
    exact ⟨this.2, this.1⟩
  have h14 : ¬ (97 ≤ c ∧ c ≤ 122) → wp_X5_sortOf_14 K (nI c) S := by
    intro a
    unfold wp_X5_sortOf_14
    refine pk_lt c 48 (fun z => h28 a (by omega)) (fun z => pk_lt 57 c (fun z2 => h28 a (by omega)) (fun z2 => ?_))
    have e : sortN c = 2 := by unfold sortN; rw [if_neg a, if_pos ⟨z, z2⟩]
    rw [e] at hK
    exact hK
  unfold wp_X5_sortOf
  refine pk_lt c 97 (fun z => h14 (by omega)) (fun z => pk_lt 122 c (fun z2 => h14 (by omega)) (fun z2 => ?_))
  have e : sortN c = 1 := by unfold sortN; rw [if_pos ⟨z, z2⟩]
  rw [e] at hK
  exact hK
theorem s_189 {h e k : Nat} (hl : len ≤ 160) (hc : CL S0 S len told A) (h8 : S.1 19 8 = nI h) (h6 : S.1 19 6 = nI e) (h7 : S.1 19 7 = nI k) (hk4 : k ≤ 4) (hhe : h ≤ e) (hel : e ≤ len) (hv : k = 2 → e ≤ h + 2 → S.1 19 9 = nI (vAt t h e)) (hK : ∀ S', CL S0 S' len told A → CK S' t (tokA (h, e, k)) → (tokA (h, e, k)).2.2 ≠ 4 → KV S') (hd : ∀ S', (tokA (h, e, k)).2.2 = 4 → CD S0 S' len 1 h → KV S') : wp_X5_takeToken_189 KV S := by
  have h215 : ∀ S', CL S0 S' len told A → S'.1 19 8 = nI h → CK S' t (tokA (h, e, k)) → wp_X5_takeToken_215 KV S' := by
    intro S' x1 x8 x2
    have x7 := x2.2.2.1
    have hk' : (tokA (h, e, k)).2.2 ≤ 4 := by
      unfold tokA
      split
      · show 4 ≤ 4; omega
      · exact hk4
    unfold wp_X5_takeToken_215
    rw [x7, x8]
    have := pk_eq (A := wp_X5_fail 1 (nI h) S' (fun S14 => KV S14)) (B := KV S') (x := nI (tokA (h, e, k)).2.2) (y := 4) (tokA (h, e, k)).2.2 4 (fun z => s_fail (y := 1) x1 (by decide) (fun S2 y => hd S2 z y)) (fun z => hK S' x1 x2 z)
    exact ⟨this.2, this.1⟩
  unfold wp_X5_takeToken_189
  rw [h7, h6, h8, pk_sub hhe]
  have hsame : ¬ (k = 2 ∧ h + 2 < e) → wp_X5_takeToken_215 KV S := by
    intro hn
    have et : tokA (h, e, k) = (h, e, k) := by unfold tokA; rw [if_neg hn]
    refine h215 S hc h8 ?_
    rw [et]
    exact ⟨h8, h6, h7, fun z => hv z (by have z : k = 2 := z; omega)⟩
  have := pk_eq (A := ((nI (e - h) ≤ 2 → wp_X5_takeToken_215 KV S) ∧ (¬ nI (e - h) ≤ 2 → ∀ S17 : tq_St, S17 = sI S 19 7 4 → wp_X5_takeToken_215 KV S17))) (B := wp_X5_takeToken_215 KV S) (x := nI k) (y := 2) k 2 (fun z => pk_le (e - h) 2 (fun z2 => hsame (by omega)) (fun z2 => nm_e ?_)) (fun z => hsame (by omega))
  · exact ⟨this.2, this.1⟩
  · have et : tokA (h, e, k) = (h, e, 4) := by unfold tokA; rw [if_pos ⟨z, by show h + 2 < e; omega⟩]
    refine h215 _ (hc.i (by decide) _) (by rw [sI_1, if_neg (by decide)]; exact h8) ?_
    rw [et]
    refine ⟨?_, ?_, ?_, fun z => absurd (show 4 = 2 from z) (by decide)⟩
    · rw [sI_1, if_neg (by decide)]; exact h8
    · rw [sI_1, if_neg (by decide)]; exact h6
    · rw [sI_1, if_pos rfl]; rfl
theorem vAt_step {h s : Nat} (hs : h ≤ s) (hs2 : s ≤ h + 1) (hd : 48 ≤ t s ∧ t s ≤ 57) (hdh : 48 ≤ t h ∧ t h ≤ 57) : nI (vAt t h s) * 10 + (nI (t s) - 48) = nI (vAt t h (s + 1)) := by
  have e48 : nI (t s) - 48 = nI (t s - 48) := pk_sub (b := 48) hd.1
  have e10 : (10 : Int32) = nI 10 := rfl
  rw [e48, e10, pk_mul, nI_add]
  congr 1
  unfold vAt
  rcases (by omega : s = h ∨ s = h + 1) with c | c
  · subst c
    rw [if_pos rfl, if_neg (by omega), if_pos rfl]
    omega
  · subst c
    rw [if_neg (by omega), if_pos rfl, if_neg (by omega), if_neg (by omega)]
    omega
theorem s_run {h k : Nat} (hl : len ≤ 160) (ht : ∀ i, i < len → S0.2.1 19 0 i = nI (t i)) (htb : ∀ i, t i < 128) (hk : k = 1 ∨ k = 2) (hK : ∀ e S', e = runE (fun i => sortN (t i) == k) (len - h) h → h ≤ e → e ≤ len → CL S0 S' len told A → S'.1 19 8 = nI h → S'.1 19 6 = nI e → S'.1 19 7 = nI k → (k = 2 → e ≤ h + 2 → S'.1 19 9 = nI (vAt t h e)) → wp_X5_takeToken_189 KV S') : ∀ (m s f : Nat) (S : tq_St), s + m = len → m < f → h ≤ s → runE (fun i => sortN (t i) == k) m s = runE (fun i => sortN (t i) == k) (len - h) h → (∀ i, h ≤ i → i < s → sortN (t i) = k) → CL S0 S len told A → S.1 19 8 = nI h → S.1 19 6 = nI s → S.1 19 7 = nI k → (k = 2 → s ≤ h + 2 → S.1 19 9 = nI (vAt t h s)) → wp_X5_takeToken_104 KV f 1 S := by
  intro m
  induction m with
  | zero =>
    intro s f S h1 h2 hs hr hi hc h8 h6 h7 hv
    obtain ⟨f, rfl⟩ : ∃ k, f = k + 1 := ⟨f - 1, by omega⟩
    unfold wp_X5_takeToken_104
    rw [hc.2.2.2.1, h6]
    exact pk_le len s (fun _ => hK s S hr hs (by omega) hc h8 h6 h7 hv) (fun z => absurd z (by omega))
  | succ m ih =>
    intro s f S h1 h2 hs hr hi hc h8 h6 h7 hv
    obtain ⟨f, rfl⟩ : ∃ k, f = k + 1 := ⟨f - 1, by omega⟩
    unfold wp_X5_takeToken_104
    rw [hc.2.2.2.1, h6]
    refine pk_le len s (fun z => absurd z (by omega)) (fun _ => ⟨fun z => absurd z (by decide), fun _ => ⟨vp_in_nI (by omega) (by decide), ?_⟩⟩)
    rw [nI_clamp (by omega), hc.2.2.1, ht s (by omega)]
    refine s_sort (htb s) ?_
    rw [h7]
    have hsn := sortN_le (t s)
    have := pk_eq (A := wp_X5_takeToken_152 KV (wp_X5_takeToken_104 KV f) 1 S) (B := wp_X5_takeToken_189 KV S) (x := nI (sortN (t s))) (y := nI k) (sortN (t s)) k (fun z => ?_) (fun z => ?_)
    · exact ⟨this.2, this.1⟩
    · unfold wp_X5_takeToken_152
      rw [h6]
      refine ⟨vp_in_nI (by omega) (by decide), nm_e (nm_r (by rw [sI_1, if_neg (by decide), h6, nI_1]) ?_)⟩
      have hr' : runE (fun i => sortN (t i) == k) m (s + 1) = runE (fun i => sortN (t i) == k) (len - h) h := by
        rw [← hr]
        conv => rhs; unfold runE
        rw [if_pos (by simp [z])]
      refine ih (s + 1) f _ (by omega) (by omega) (by omega) hr' (fun i a b => ?_) ((hc.i (by decide) _).i (by decide) _) ?_ ?_ ?_ (fun k2 hs2 => ?_)
      · rcases Nat.lt_or_ge i s with c | c
        · exact hi i a c
        · rw [(by omega : i = s)]; exact z
      · rw [sI_1, if_neg (by decide), sI_1, if_neg (by decide)]; exact h8
      · rw [sI_1, if_pos rfl]
      · rw [sI_1, if_neg (by decide), sI_1, if_neg (by decide)]; exact h7
      · rw [sI_1, if_neg (by decide), sI_1, if_pos rfl, nI_clamp (by omega), hc.2.2.1, ht s (by omega), hv k2 (by omega)]
        have hdh : 48 ≤ t h ∧ t h ≤ 57 := by
          rcases Nat.lt_or_ge h s with c | c
          · exact sortN_2 ((hi h (Nat.le_refl _) c).trans k2)
          · rw [(by omega : h = s)]; exact sortN_2 (z.trans k2)
        exact vAt_step hs (by omega) (sortN_2 (z.trans k2)) hdh
    · refine hK s S ?_ hs (by omega) hc h8 h6 h7 hv
      rw [← hr]
      unfold runE
      rw [if_neg (by simp [z])]
theorem s_tok {p : Nat} {O : aK3 → β} (hl : len ≤ 160) (ht : ∀ i, i < len → S0.2.1 19 0 i = nI (t i)) (htb : ∀ i, t i < 128) (hc : CL S0 S len told A) (h6 : S.1 19 6 = nI p) (hp : p ≤ len) (hR : tkC t len p E O = R) (hd : ∀ y w S', CD S0 S' len y w → E y w = R → KV S') (hK : ∀ x S', tkOk t len x → p ≤ x.1 → x.2.2 ≠ 4 → CL S0 S' len told A → CK S' t x → O x = R → KV S') : wp_X5_takeToken S KV := by
  have hfok := tokF_ok t hp
  -- behind the blanks
  have h38 : ∀ h S', h ≤ len → h = runE (fun i => t i == 32) (len - p) p → CL S0 S' len told A → S'.1 19 6 = nI h → wp_X5_takeToken_38 KV S' := by
    intro h S' hh eh x1 x6
    have eF : tokF t len p = tokA (tokB t len h) := by unfold tokF; rw [← eh]
    have hend : ∀ e k S2, tokB t len h = (h, e, k) → k ≤ 4 → h ≤ e → e ≤ len → CL S0 S2 len told A → S2.1 19 8 = nI h → S2.1 19 6 = nI e → S2.1 19 7 = nI k → (k = 2 → e ≤ h + 2 → S2.1 19 9 = nI (vAt t h e)) → wp_X5_takeToken_189 KV S2 := by
      intro e k S2 eB hk4 a1 a2 y1 y8 y6 y7 yv
      rw [eB] at eF
      refine s_189 (t := t) hl y1 y8 y6 y7 hk4 a1 a2 yv (fun S3 z1 z2 z3 => ?_) (fun S3 z1 z2 => ?_)
      · rw [← eF] at z2 z3
        refine hK _ S3 hfok.1 hfok.2 z3 z1 z2 ?_
        rw [← hR]
        unfold tkC
        rw [if_neg z3]
      · rw [← eF] at z1
        refine hd 1 h S3 z2 ?_
        rw [← hR]
        unfold tkC
        rw [if_pos z1, eF]
        have : (tokA (h, e, k)).1 = h := by unfold tokA; split <;> rfl
        rw [this]
    unfold wp_X5_takeToken_38
    rw [x6]
    refine nm_e (nm_e ?_)
    have y1 := (x1.i (k := 8) (by decide) (nI h)).i (k := 9) (by decide) 0
    have y6 : (sI (sI S' 19 8 (nI h)) 19 9 0).1 19 6 = nI h := by rw [sI_1, if_neg (by decide), sI_1, if_neg (by decide)]; exact x6
    have y8 : (sI (sI S' 19 8 (nI h)) 19 9 0).1 19 8 = nI h := by rw [sI_1, if_neg (by decide), sI_1, if_pos rfl]
    have y9 : (sI (sI S' 19 8 (nI h)) 19 9 0).1 19 9 = 0 := by rw [sI_1, if_pos rfl]
    have y2 := y1.2.2.2.1
    have ya := y1.2.2.1
    revert y1 y6 y8 y9 y2 ya
    generalize sI (sI S' 19 8 (nI h)) 19 9 0 = T
    intro y1 y6 y8 y9 y2 ya
    rw [y2, y6]
    have h79 : ∀ k, k ≤ 4 → ((h = len ∧ k = 0) ∨ (h < len ∧ k = sortN (t h))) → wp_X5_takeToken_79 KV (nI k) T := by
      intro k hk4 hcase
      unfold wp_X5_takeToken_79
      refine nm_e ?_
      have z1 := y1.i (k := 7) (by decide) (nI k)
      have z6 : (sI T 19 7 (nI k)).1 19 6 = nI h := by rw [sI_1, if_neg (by decide)]; exact y6
      have z8 : (sI T 19 7 (nI k)).1 19 8 = nI h := by rw [sI_1, if_neg (by decide)]; exact y8
      have z9 : (sI T 19 7 (nI k)).1 19 9 = 0 := by rw [sI_1, if_neg (by decide)]; exact y9
      have z7 : (sI T 19 7 (nI k)).1 19 7 = nI k := by rw [sI_1, if_pos rfl]
      revert z1 z6 z8 z9 z7
      generalize sI T 19 7 (nI k) = T2
      intro z1 z6 z8 z9 z7
      rw [z7]
      have hlong : (k = 1 ∨ k = 2) → wp_X5_takeToken_104 KV 2000 1 T2 := by
        intro hk
        have hlt : h < len ∧ k = sortN (t h) := by
          rcases hcase with c | c
          · omega
          · exact c
        refine s_run (h := h) (k := k) hl ht htb hk (fun e S2 ee a1 a2 w1 w8 w6 w7 wv => ?_) (len - h) h 2000 T2 (by omega) (by omega) (Nat.le_refl _) rfl (fun i a b => absurd b (by omega)) z1 z8 z6 z7 (fun _ _ => by rw [z9]; unfold vAt; rw [if_pos rfl]; rfl)
        refine hend e k S2 ?_ hk4 a1 a2 w1 w8 w6 w7 wv
        unfold tokB
        rw [if_pos hlt.1, if_pos (by rw [← hlt.2]; exact hk), ← hlt.2, ← ee]
      have hshort : k ≠ 1 → k ≠ 2 → wp_X5_takeToken_104 KV 2000 0 T2 := by
        intro n1 n2
        rw [wp_X5_takeToken_104, z1.2.2.2.1, z6]
        refine pk_le len h (fun c => ?_) (fun c => ⟨fun _ => ?_, fun z => absurd rfl z⟩)
        · refine hend h k T2 ?_ hk4 (Nat.le_refl _) hh z1 z8 z6 z7 (fun z => absurd z n2)
          unfold tokB
          rw [if_neg (by omega)]
          have : k = 0 := by omega
          rw [this]
        · rw [z8]
          refine ⟨fun z => absurd rfl z, fun _ => ?_⟩
          have hlt : k = sortN (t h) := by omega
          unfold wp_X5_takeToken_152
          rw [z6]
          refine ⟨vp_in_nI (by omega) (by decide), nm_e (nm_r (by rw [sI_1, if_neg (by decide), z6, nI_1]) ?_)⟩
          have w1 := (z1.i (k := 9) (by decide) (T2.1 19 9 * 10 + (T2.2.1 19 0 (nI h).toNatClampNeg - 48))).i (k := 6) (by decide) (nI (h + 1))
          have w8 : (sI (sI T2 19 9 (T2.1 19 9 * 10 + (T2.2.1 19 0 (nI h).toNatClampNeg - 48))) 19 6 (nI (h + 1))).1 19 8 = nI h := by rw [sI_1, if_neg (by decide), sI_1, if_neg (by decide)]; exact z8
          have w7 : (sI (sI T2 19 9 (T2.1 19 9 * 10 + (T2.2.1 19 0 (nI h).toNatClampNeg - 48))) 19 6 (nI (h + 1))).1 19 7 = nI k := by rw [sI_1, if_neg (by decide), sI_1, if_neg (by decide)]; exact z7
          have w6 : (sI (sI T2 19 9 (T2.1 19 9 * 10 + (T2.2.1 19 0 (nI h).toNatClampNeg - 48))) 19 6 (nI (h + 1))).1 19 6 = nI (h + 1) := by rw [sI_1, if_pos rfl]
          have hB : tokB t len h = (h, h + 1, k) := by
            unfold tokB
            rw [if_pos c, if_neg (by rw [← hlt]; omega), ← hlt]
          have hgo := hend (h + 1) k _ hB hk4 (by omega) (by omega) w1 w8 w6 w7 (fun z => absurd z n2)
          rw [wp_X5_takeToken_104, w1.2.2.2.1, w6, w8]
          refine pk_le len (h + 1) (fun _ => hgo) (fun c2 => ⟨fun _ => ?_, fun z => absurd rfl z⟩)
          have := pk_eq (A := wp_X5_takeToken_152 KV (wp_X5_takeToken_104 KV 1998) 0 (sI (sI T2 19 9 (T2.1 19 9 * 10 + (T2.2.1 19 0 (nI h).toNatClampNeg - 48))) 19 6 (nI (h + 1)))) (B := wp_X5_takeToken_189 KV (sI (sI T2 19 9 (T2.1 19 9 * 10 + (T2.2.1 19 0 (nI h).toNatClampNeg - 48))) 19 6 (nI (h + 1)))) (x := nI (h + 1)) (y := nI h) (h + 1) h (fun z => absurd z (by omega)) (fun _ => hgo)
          exact ⟨this.2, this.1⟩
      have p1 := pk_eq (A := wp_X5_takeToken_104 KV 2000 1 T2) (B := ((¬ nI k = 2 → wp_X5_takeToken_104 KV 2000 0 T2) ∧ (nI k = 2 → wp_X5_takeToken_104 KV 2000 1 T2))) (x := nI k) (y := 1) k 1 (fun z => hlong (Or.inl z)) (fun z1' => ?_)
      · exact ⟨p1.1, p1.2⟩
      · have := pk_eq (A := wp_X5_takeToken_104 KV 2000 1 T2) (B := wp_X5_takeToken_104 KV 2000 0 T2) (x := nI k) (y := 2) k 2 (fun z => hlong (Or.inr z)) (fun z => hshort z1' z)
        exact ⟨this.2, this.1⟩
    refine pk_le len h (fun z => h79 0 (by omega) (Or.inl ⟨by omega, rfl⟩)) (fun z => ⟨vp_in_nI (by omega) (by decide), ?_⟩)
    rw [nI_clamp (by omega), ya, ht h z]
    exact s_sort (htb h) (h79 _ (sortN_le (t h)).2 (Or.inr ⟨z, rfl⟩))
  have h0 : ∀ (m s f : Nat) (S : tq_St), s + m = len → m < f → p ≤ s → runE (fun i => t i == 32) m s = runE (fun i => t i == 32) (len - p) p → CL S0 S len told A → S.1 19 6 = nI s → wp_X5_takeToken_0 KV f S := by
    intro m
    induction m with
    | zero =>
      intro s f S g1 g2 g3 hr x1 x6
      obtain ⟨f, rfl⟩ : ∃ k, f = k + 1 := ⟨f - 1, by omega⟩
      unfold wp_X5_takeToken_0
      rw [x1.2.2.2.1, x6]
      exact pk_le len s (fun _ => h38 s S (by omega) hr x1 x6) (fun z => absurd z (by omega))
    | succ m ih =>
      intro s f S g1 g2 g3 hr x1 x6
      obtain ⟨f, rfl⟩ : ∃ k, f = k + 1 := ⟨f - 1, by omega⟩
      unfold wp_X5_takeToken_0
      rw [x1.2.2.2.1, x6]
      refine pk_le len s (fun z => absurd z (by omega)) (fun _ => ⟨vp_in_nI (by omega) (by decide), ?_⟩)
      rw [nI_clamp (by omega), x1.2.2.1, ht s (by omega)]
      have htb' := htb s
      have := pk_eq (A := ∀ S34 : tq_St, S34 = sI S 19 6 (nI s + 1) → wp_X5_takeToken_0 KV f S34) (B := wp_X5_takeToken_38 KV S) (x := nI (t s)) (y := 32) (t s) 32 (fun z => nm_r (e' := sI S 19 6 (nI (s + 1))) (by rw [nI_1]) ?_) (fun z => h38 s S (by omega) ?_ x1 x6)
      · exact ⟨this.2, this.1⟩
      · refine ih (s + 1) f _ (by omega) (by omega) (by omega) ?_ (x1.i (by decide) _) (by rw [sI_1, if_pos rfl])
        rw [← hr]
        conv => rhs; unfold runE
        rw [if_pos (by simp [z])]
      · rw [← hr]
        unfold runE
        rw [if_neg (by simp [z])]
  unfold wp_X5_takeToken
  exact h0 (len - p) p 2000 S (by omega) (by omega) (Nat.le_refl _) rfl hc h6
end TXC
