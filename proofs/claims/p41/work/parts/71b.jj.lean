section JJ
variable {S S' : tq_St} {G : aQ} {K : Int32 → tq_St → Prop}
theorem RZ.fc (h : RZ S G) (f : FC S S') : RZ S' G := by
  unfold RZ ZI ZH RM pg at h ⊢
  rw [f.1, f.2]
  exact h
theorem RC.f28 {o : Nat} {A : aE} (h : RC S o A) (f : Fr 28 S S') (ho : o ≠ 28) : RC S' o A := by
  have := f.1 o ho
  unfold RC
  rw [this.1, this.2]
  exact h
theorem RQ.f28 (h : RQ S G) (f : Fr 28 S S') : RQ S' G := by
  obtain ⟨h1, h2, h3, h4, h5, h6, h7⟩ := h
  have f19 := f.1 19 (by decide)
  have f20 := f.1 20 (by decide)
  have f27 := f.1 27 (by decide)
  refine ⟨h1.f28 f (by decide), fun k hk => ?_, by rw [f19.1, f19.2]; exact h3, by rw [f19.1]; exact h4, by rw [f20.1, f20.2]; exact h5, fun k hk => ?_, by rw [f27.1]; exact h7⟩
  · have := h2 k hk
    unfold CI at this ⊢
    rw [f27.2]
    split at this
    · exact this
    · exact ⟨this.1, this.2.f28 f (by omega)⟩
  · have := h6 k hk
    have f23 := f.1 (23 + k) (by omega)
    unfold CH at this ⊢
    rw [f23.1, f23.2]
    exact this
theorem uT_wf {A : aE} (hw : wfE A) {v : Nat} (h : 1 ≤ v ∧ v ≤ 9) : wfE (uT A v) := ⟨hw.1, hw.2.1, hw.2.2.1, hw.2.2.2.1, hw.2.2.2.2.1, hw.2.2.2.2.2.1, hw.2.2.2.2.2.2.1, h, hw.2.2.2.2.2.2.2.2⟩
theorem cutP_wf {A : aE} (hw : wfE A) {n : Nat} (h : n ≤ aC A) : wfE (uP A n (aA A)) := ⟨hw.1, hw.2.1, hw.2.2.1, hw.2.2.2.1, hw.2.2.2.2.1, hw.2.2.2.2.2.1, hw.2.2.2.2.2.2.1, hw.2.2.2.2.2.2.2.1, Nat.le_trans h hw.2.2.2.2.2.2.2.2.1, fun i hi => hw.2.2.2.2.2.2.2.2.2 i (Nat.lt_of_lt_of_le hi h)⟩
theorem uG0_wf {A : aE} (hw : wfE A) : wfE (uG A 0) := ⟨hw.1, hw.2.1, hw.2.2.1, hw.2.2.2.1, Nat.two_pow_pos _, hw.2.2.2.2.2⟩
theorem forgetF_wf (hw : wfQ G) {n : Nat} (h : n ≤ (qS G).1) : wfQ (forgetF G n) := ⟨hw.1, hw.2.1, hw.2.2.1, hw.2.2.2.1, ⟨Nat.le_trans h hw.2.2.2.2.1.1, hw.2.2.2.2.1.2⟩, hw.2.2.2.2.2⟩
theorem readF_wf (hw : wfQ G) {A : aE} {y : Nat} (w1 : wfE A) (w2 : aN A = aN (qA G)) (w3 : y ≤ 3) : wfQ (vO (vA G A) y) := by
  have h := hw.now w1 w2
  exact ⟨h.1, h.2.1, h.2.2.1, h.2.2.2.1, h.2.2.2.2.1, h.2.2.2.2.2.1, h.2.2.2.2.2.2.1, w3⟩
theorem jn_le {x : Int32} (h : x < 0) : x ≤ 40 := by
  have e0 : (0 : Int32).toInt = 0 := (by decide)
  have e40 : (40 : Int32).toInt = 40 := (by decide)
  rw [fa_lt, e0] at h
  rw [fa_le, e40]
  omega
theorem jb_le {x : Int32} (N : Nat) (hN : N < 2 ^ 31) (h : x < 0 ∨ ¬ x ≤ nI N) : ∀ n, n ≤ N → x ≠ nI n := by
  intro n hn e
  subst e
  rcases h with h | h
  · exact nI_pos (by omega) h
  · exact h (nI_le hn hN)
theorem jb_lt {x : Int32} (N : Nat) (hN : N < 2 ^ 31) (h : x < 0 ∨ ¬ x < nI N) : ∀ n, n < N → x ≠ nI n := by
  intro n hn e
  subst e
  rcases h with h | h
  · exact nI_pos (by omega) h
  · exact h (nI_lt hn hN)
theorem jb_1 {x : Int32} (N : Nat) (hN : N < 2 ^ 31) (h : x < 1 ∨ ¬ x ≤ nI N) : ∀ n, 1 ≤ n → n ≤ N → x ≠ nI n := by
  intro n h1 hn e
  subst e
  rcases h with h | h
  · exact absurd ((nI_ltI (a := n) (b := 1) (by omega) (by decide)).mp h) (by omega)
  · exact h (nI_le hn hN)
theorem q2_feed {x : Int32} (hG : RQ S G) (hw : wfQ G) (hbad : (∀ c, c ≤ 127 → x ≠ nI c) → K (-1) S) (hok : ∀ c, c ≤ 127 → x = nI c → (qT G).1 < 160 → ∀ S', RQ S' (feedF G c) → FC S S' → K (nI ((qT G).1 + 1)) S') (hfull : ∀ c, c ≤ 127 → x = nI c → (qT G).1 = 160 → K (-3) S) : wp_X6_feed x S K := q_feed hG hw (fun h => hbad (jb_le 127 (by decide) h)) hok hfull
theorem q2_queue {x : Int32} (hG : RQ S G) (hw : wfQ G) (hbad : (∀ i, i < 5 → x ≠ nI i) → K (-1) S) (hok : ∀ i, i < 5 → x = nI i → ∀ S', RQ S' G → FC S S' → K (oI (nextF (qA G) (selB (qA G) i))) S') : wp_X6_queue x S K := q_queue hG hw (fun h => hbad (jb_lt 5 (by decide) h)) hok
theorem q2_room {x : Int32} (hG : RQ S G) (hw : wfQ G) (hbad : (∀ v, 1 ≤ v → v ≤ 5 → x ≠ nI v) → K (-1) S) (hok : ∀ v, 1 ≤ v → v ≤ 5 → x = nI v → ∀ S', RQ S' (vA G (uR (qA G) v)) → FC S S' → K (nI (aR (qA G))) S') : wp_X6_room x S K := q_room hG (fun h => hbad (jb_1 5 (by decide) h)) (fun v h => hok v h.1 h.2)
theorem q2_think {x : Int32} (hG : RQ S G) (hw : wfQ G) (hbad : (∀ v, 1 ≤ v → v ≤ 9 → x ≠ nI v) → K (-1) S) (hok : ∀ v, 1 ≤ v → v ≤ 9 → x = nI v → ∀ S', RQ S' (vA G (uT (qA G) v)) → FC S S' → K (nI (aT (qA G))) S') : wp_X6_think x S K := q_think hG (fun h => hbad (jb_1 9 (by decide) h)) (fun v h => hok v h.1 h.2)
theorem q2_minutes {x : Int32} (hG : RQ S G) (hw : wfQ G) (hbad : (∀ n, n ≤ 60 → x ≠ nI n) → K (-1) S) (hok : ∀ n, n ≤ 60 → x = nI n → ∀ S', RQ S' (vA G (dryN n (qA G))) → FC S S' → K (nI (sorF (dryN n (qA G)))) S') : wp_X6_minutes x S K := q_minutes hG hw (fun h => hbad (jb_le 60 (by decide) h)) hok
theorem q2_runs {x : Int32} (hG : RQ S G) (hw : wfQ G) (hbad : (∀ w, w ≤ 4 → x ≠ nI w) → K (-1) S) (h0 : x = 0 → ∀ S', RQ S' G → FC S S' → K (nI (aG (planR (qA G)).1)) S') (h1 : x = 1 → ∀ S', RQ S' G → FC S S' → K (nI (planR (qA G)).2.1) S') (h2 : x = 2 → ∀ S', RQ S' G → FC S S' → K (nI (planR (qA G)).2.2.1) S') (h3 : x = 3 → ∀ S', RQ S' G → FC S S' → K (oI (planR (qA G)).2.2.2) S') (h4 : x = 4 → ∀ S', RQ S' G → FC S S' → K (nI (sorF (planR (qA G)).1)) S') : wp_X6_runs x S K := q_runs hG hw (fun h => hbad (jb_le 4 (by decide) h)) h0 h1 h2 h3 h4
def lwJ (S : tq_St) : Prop := ∃ G, wfQ G ∧ RQ S G ∧ RZ S G
theorem js_feed : st_feed lwJ := by
  intro a0 S ⟨G, g1, g2, g3⟩
  have hn := g1.1.1
  have hc := g1.1.2.2.2.2.2.2.2.2.1
  have hT := g1.2.2.1.1
  have hS := g1.2.2.2.2.1.1
  have hH := g1.2.2.2.2.2.2.1
  refine q2_feed g2 g1 (fun a0h => ?_) (fun c a0h a1h a2h S1 bq bf => ?_) (fun c a0h a1h a2h => ?_)
  · refine z_feed g3 g1 (fun d0h2 => ?_) (fun c2 d0h2 d1h2 d2h2 S2 zq zf => ?_) (fun c2 d0h2 d1h2 d2h2 => ?_)
    · exact ⟨G, g1, g2, g3⟩
    · exact absurd d1h2 (a0h c2 (by first | assumption | omega | (have := hH k; omega) | (unfold okA at *; omega)))
    · exact absurd d1h2 (a0h c2 (by first | assumption | omega | (have := hH k; omega) | (unfold okA at *; omega)))
  · refine z_feed (g3.fc bf) g1 (fun d0h2 => ?_) (fun c2 d0h2 d1h2 d2h2 S2 zq zf => ?_) (fun c2 d0h2 d1h2 d2h2 => ?_)
    · exact absurd a1h (d0h2 c (by first | assumption | omega | (have := hH k; omega) | (unfold okA at *; omega)))
    · obtain rfl : c = c2 := (nI_eq (by first | assumption | omega | (have := hH k; omega) | (unfold okA at *; omega)) (by first | assumption | omega | (have := hH k; omega) | (unfold okA at *; omega))).mp (a1h.symm.trans d1h2)
      exact ⟨_, feedF_wf g1 a0h, bq.f28 zf, zq⟩
    · obtain rfl : c = c2 := (nI_eq (by first | assumption | omega | (have := hH k; omega) | (unfold okA at *; omega)) (by first | assumption | omega | (have := hH k; omega) | (unfold okA at *; omega))).mp (a1h.symm.trans d1h2)
      omega
  · refine z_feed g3 g1 (fun d0h2 => ?_) (fun c2 d0h2 d1h2 d2h2 S2 zq zf => ?_) (fun c2 d0h2 d1h2 d2h2 => ?_)
    · exact absurd a1h (d0h2 c (by first | assumption | omega | (have := hH k; omega) | (unfold okA at *; omega)))
    · obtain rfl : c = c2 := (nI_eq (by first | assumption | omega | (have := hH k; omega) | (unfold okA at *; omega)) (by first | assumption | omega | (have := hH k; omega) | (unfold okA at *; omega))).mp (a1h.symm.trans d1h2)
      omega
    · obtain rfl : c = c2 := (nI_eq (by first | assumption | omega | (have := hH k; omega) | (unfold okA at *; omega)) (by first | assumption | omega | (have := hH k; omega) | (unfold okA at *; omega))).mp (a1h.symm.trans d1h2)
      exact ⟨G, g1, g2, g3⟩
theorem js_end : st_end lwJ := by
  intro a0 S ⟨G, g1, g2, g3⟩
  have hn := g1.1.1
  have hc := g1.1.2.2.2.2.2.2.2.2.1
  have hT := g1.2.2.1.1
  have hS := g1.2.2.2.2.1.1
  have hH := g1.2.2.2.2.2.2.1
  refine q_end g2 g1 (fun a0h => ?_) (fun n a0h a1h S1 bq bf => ?_)
  · refine z_end g3 g1 (fun d0h2 => ?_) (fun n2 d0h2 d1h2 S2 zq zf => ?_)
    · exact ⟨G, g1, g2, g3⟩
    · exact absurd d1h2 (a0h n2 (by first | assumption | omega | (have := hH k; omega) | (unfold okA at *; omega)))
  · refine z_end (g3.fc bf) g1 (fun d0h2 => ?_) (fun n2 d0h2 d1h2 S2 zq zf => ?_)
    · exact absurd a1h (d0h2 n (by first | assumption | omega | (have := hH k; omega) | (unfold okA at *; omega)))
    · obtain rfl : n = n2 := (nI_eq (by first | assumption | omega | (have := hH k; omega) | (unfold okA at *; omega)) (by first | assumption | omega | (have := hH k; omega) | (unfold okA at *; omega))).mp (a1h.symm.trans d1h2)
      exact ⟨_, endF_wf g1 a0h, bq.f28 zf, zq⟩
theorem js_text : st_text lwJ := by
  intro S ⟨G, g1, g2, g3⟩
  exact q_textX g2 g1 (fun S1 w1 b2 b4 => z_textX (g3.fc b4) g1 (fun S2 _ c2 c4 => ⟨textG G, w1, b2.f28 c4, c2⟩))
theorem js_fault : st_fault lwJ := by
  intro S ⟨G, g1, g2, g3⟩
  have hn := g1.1.1
  have hc := g1.1.2.2.2.2.2.2.2.2.1
  have hT := g1.2.2.1.1
  have hS := g1.2.2.2.2.1.1
  have hH := g1.2.2.2.2.2.2.1
  refine q_fault g2 (?_)
  · refine z_fault g3 (?_)
    · exact ⟨G, g1, g2, g3⟩
theorem js_rule : st_rule lwJ := by
  intro a0 S ⟨G, g1, g2, g3⟩
  have hn := g1.1.1
  have hc := g1.1.2.2.2.2.2.2.2.2.1
  have hT := g1.2.2.1.1
  have hS := g1.2.2.2.2.1.1
  have hH := g1.2.2.2.2.2.2.1
  refine q_rule g2 g1 (fun a0h => ?_) (fun a0h => ?_) (fun a0h => ?_) (fun a0h => ?_) (fun a0h => ?_) (fun a0h => ?_) (fun a0h => ?_) (fun a0h => ?_)
  · refine z_rule g3 g1 (fun d0h2 => ?_) (fun d0h2 => ?_) (fun d0h2 => ?_) (fun d0h2 => ?_) (fun d0h2 => ?_) (fun d0h2 => ?_) (fun d0h2 => ?_) (fun d0h2 => ?_)
    · exact ⟨G, g1, g2, g3⟩
    · exact absurd d0h2 (a0h 0 (by decide))
    · exact absurd d0h2 (a0h 1 (by decide))
    · exact absurd d0h2 (a0h 2 (by decide))
    · exact absurd d0h2 (a0h 3 (by decide))
    · exact absurd d0h2 (a0h 4 (by decide))
    · exact absurd d0h2 (a0h 5 (by decide))
    · exact absurd d0h2 (a0h 6 (by decide))
  · refine z_rule g3 g1 (fun d0h2 => ?_) (fun d0h2 => ?_) (fun d0h2 => ?_) (fun d0h2 => ?_) (fun d0h2 => ?_) (fun d0h2 => ?_) (fun d0h2 => ?_) (fun d0h2 => ?_)
    · exact absurd a0h (d0h2 0 (by decide))
    · exact ⟨G, g1, g2, g3⟩
    · exact absurd (a0h.symm.trans d0h2) (by decide)
    · exact absurd (a0h.symm.trans d0h2) (by decide)
    · exact absurd (a0h.symm.trans d0h2) (by decide)
    · exact absurd (a0h.symm.trans d0h2) (by decide)
    · exact absurd (a0h.symm.trans d0h2) (by decide)
    · exact absurd (a0h.symm.trans d0h2) (by decide)
  · refine z_rule g3 g1 (fun d0h2 => ?_) (fun d0h2 => ?_) (fun d0h2 => ?_) (fun d0h2 => ?_) (fun d0h2 => ?_) (fun d0h2 => ?_) (fun d0h2 => ?_) (fun d0h2 => ?_)
    · exact absurd a0h (d0h2 1 (by decide))
    · exact absurd (a0h.symm.trans d0h2) (by decide)
    · exact ⟨G, g1, g2, g3⟩
    · exact absurd (a0h.symm.trans d0h2) (by decide)
    · exact absurd (a0h.symm.trans d0h2) (by decide)
    · exact absurd (a0h.symm.trans d0h2) (by decide)
    · exact absurd (a0h.symm.trans d0h2) (by decide)
    · exact absurd (a0h.symm.trans d0h2) (by decide)
  · refine z_rule g3 g1 (fun d0h2 => ?_) (fun d0h2 => ?_) (fun d0h2 => ?_) (fun d0h2 => ?_) (fun d0h2 => ?_) (fun d0h2 => ?_) (fun d0h2 => ?_) (fun d0h2 => ?_)
    · exact absurd a0h (d0h2 2 (by decide))
    · exact absurd (a0h.symm.trans d0h2) (by decide)
    · exact absurd (a0h.symm.trans d0h2) (by decide)
    · exact ⟨G, g1, g2, g3⟩
    · exact absurd (a0h.symm.trans d0h2) (by decide)
    · exact absurd (a0h.symm.trans d0h2) (by decide)
    · exact absurd (a0h.symm.trans d0h2) (by decide)
    · exact absurd (a0h.symm.trans d0h2) (by decide)
  · refine z_rule g3 g1 (fun d0h2 => ?_) (fun d0h2 => ?_) (fun d0h2 => ?_) (fun d0h2 => ?_) (fun d0h2 => ?_) (fun d0h2 => ?_) (fun d0h2 => ?_) (fun d0h2 => ?_)
    · exact absurd a0h (d0h2 3 (by decide))
    · exact absurd (a0h.symm.trans d0h2) (by decide)
    · exact absurd (a0h.symm.trans d0h2) (by decide)
    · exact absurd (a0h.symm.trans d0h2) (by decide)
    · exact ⟨G, g1, g2, g3⟩
    · exact absurd (a0h.symm.trans d0h2) (by decide)
    · exact absurd (a0h.symm.trans d0h2) (by decide)
    · exact absurd (a0h.symm.trans d0h2) (by decide)
  · refine z_rule g3 g1 (fun d0h2 => ?_) (fun d0h2 => ?_) (fun d0h2 => ?_) (fun d0h2 => ?_) (fun d0h2 => ?_) (fun d0h2 => ?_) (fun d0h2 => ?_) (fun d0h2 => ?_)
    · exact absurd a0h (d0h2 4 (by decide))
    · exact absurd (a0h.symm.trans d0h2) (by decide)
    · exact absurd (a0h.symm.trans d0h2) (by decide)
    · exact absurd (a0h.symm.trans d0h2) (by decide)
    · exact absurd (a0h.symm.trans d0h2) (by decide)
    · exact ⟨G, g1, g2, g3⟩
    · exact absurd (a0h.symm.trans d0h2) (by decide)
    · exact absurd (a0h.symm.trans d0h2) (by decide)
  · refine z_rule g3 g1 (fun d0h2 => ?_) (fun d0h2 => ?_) (fun d0h2 => ?_) (fun d0h2 => ?_) (fun d0h2 => ?_) (fun d0h2 => ?_) (fun d0h2 => ?_) (fun d0h2 => ?_)
    · exact absurd a0h (d0h2 5 (by decide))
    · exact absurd (a0h.symm.trans d0h2) (by decide)
    · exact absurd (a0h.symm.trans d0h2) (by decide)
    · exact absurd (a0h.symm.trans d0h2) (by decide)
    · exact absurd (a0h.symm.trans d0h2) (by decide)
    · exact absurd (a0h.symm.trans d0h2) (by decide)
    · exact ⟨G, g1, g2, g3⟩
    · exact absurd (a0h.symm.trans d0h2) (by decide)
  · refine z_rule g3 g1 (fun d0h2 => ?_) (fun d0h2 => ?_) (fun d0h2 => ?_) (fun d0h2 => ?_) (fun d0h2 => ?_) (fun d0h2 => ?_) (fun d0h2 => ?_) (fun d0h2 => ?_)
    · exact absurd a0h (d0h2 6 (by decide))
    · exact absurd (a0h.symm.trans d0h2) (by decide)
    · exact absurd (a0h.symm.trans d0h2) (by decide)
    · exact absurd (a0h.symm.trans d0h2) (by decide)
    · exact absurd (a0h.symm.trans d0h2) (by decide)
    · exact absurd (a0h.symm.trans d0h2) (by decide)
    · exact absurd (a0h.symm.trans d0h2) (by decide)
    · exact ⟨G, g1, g2, g3⟩
theorem js_one : st_one lwJ := by
  intro a0 a1 S ⟨G, g1, g2, g3⟩
  have hn := g1.1.1
  have hc := g1.1.2.2.2.2.2.2.2.2.1
  have hT := g1.2.2.1.1
  have hS := g1.2.2.2.2.1.1
  have hH := g1.2.2.2.2.2.2.1
  refine q_one g2 g1 (fun a0h => ?_) (fun p a0h a1h a2h => ?_) (fun p a0h a1h a2h => ?_) (fun p a0h a1h a2h => ?_) (fun p a0h a1h a2h => ?_) (fun p a0h a1h a2h => ?_)
  · refine z_one g3 g1 (fun d0h2 => ?_) (fun p2 d0h2 d1h2 d2h2 => ?_) (fun p2 d0h2 d1h2 d2h2 => ?_) (fun p2 d0h2 d1h2 d2h2 => ?_) (fun p2 d0h2 d1h2 d2h2 => ?_) (fun p2 d0h2 d1h2 d2h2 => ?_)
    · exact ⟨G, g1, g2, g3⟩
    · rcases a0h with a0h | a0h
      · exact absurd d1h2 (a0h p2 (by first | assumption | omega | (have := hH k; omega) | (unfold okA at *; omega)))
      · exact absurd d2h2 (a0h 0 (by decide))
    · rcases a0h with a0h | a0h
      · exact absurd d1h2 (a0h p2 (by first | assumption | omega | (have := hH k; omega) | (unfold okA at *; omega)))
      · exact absurd d2h2 (a0h 1 (by decide))
    · rcases a0h with a0h | a0h
      · exact absurd d1h2 (a0h p2 (by first | assumption | omega | (have := hH k; omega) | (unfold okA at *; omega)))
      · exact absurd d2h2 (a0h 2 (by decide))
    · rcases a0h with a0h | a0h
      · exact absurd d1h2 (a0h p2 (by first | assumption | omega | (have := hH k; omega) | (unfold okA at *; omega)))
      · exact absurd d2h2 (a0h 3 (by decide))
    · rcases a0h with a0h | a0h
      · exact absurd d1h2 (a0h p2 (by first | assumption | omega | (have := hH k; omega) | (unfold okA at *; omega)))
      · exact absurd d2h2 (a0h 4 (by decide))
  · refine z_one g3 g1 (fun d0h2 => ?_) (fun p2 d0h2 d1h2 d2h2 => ?_) (fun p2 d0h2 d1h2 d2h2 => ?_) (fun p2 d0h2 d1h2 d2h2 => ?_) (fun p2 d0h2 d1h2 d2h2 => ?_) (fun p2 d0h2 d1h2 d2h2 => ?_)
    · rcases d0h2 with d0h2 | d0h2
      · exact absurd a1h (d0h2 p (by first | assumption | omega | (have := hH k; omega) | (unfold okA at *; omega)))
      · exact absurd a2h (d0h2 0 (by decide))
    · obtain rfl : p = p2 := (nI_eq (by first | assumption | omega | (have := hH k; omega) | (unfold okA at *; omega)) (by first | assumption | omega | (have := hH k; omega) | (unfold okA at *; omega))).mp (a1h.symm.trans d1h2)
      exact ⟨G, g1, g2, g3⟩
    · obtain rfl : p = p2 := (nI_eq (by first | assumption | omega | (have := hH k; omega) | (unfold okA at *; omega)) (by first | assumption | omega | (have := hH k; omega) | (unfold okA at *; omega))).mp (a1h.symm.trans d1h2)
      exact absurd (a2h.symm.trans d2h2) (by decide)
    · obtain rfl : p = p2 := (nI_eq (by first | assumption | omega | (have := hH k; omega) | (unfold okA at *; omega)) (by first | assumption | omega | (have := hH k; omega) | (unfold okA at *; omega))).mp (a1h.symm.trans d1h2)
      exact absurd (a2h.symm.trans d2h2) (by decide)
    · obtain rfl : p = p2 := (nI_eq (by first | assumption | omega | (have := hH k; omega) | (unfold okA at *; omega)) (by first | assumption | omega | (have := hH k; omega) | (unfold okA at *; omega))).mp (a1h.symm.trans d1h2)
      exact absurd (a2h.symm.trans d2h2) (by decide)
    · obtain rfl : p = p2 := (nI_eq (by first | assumption | omega | (have := hH k; omega) | (unfold okA at *; omega)) (by first | assumption | omega | (have := hH k; omega) | (unfold okA at *; omega))).mp (a1h.symm.trans d1h2)
      exact absurd (a2h.symm.trans d2h2) (by decide)
  · refine z_one g3 g1 (fun d0h2 => ?_) (fun p2 d0h2 d1h2 d2h2 => ?_) (fun p2 d0h2 d1h2 d2h2 => ?_) (fun p2 d0h2 d1h2 d2h2 => ?_) (fun p2 d0h2 d1h2 d2h2 => ?_) (fun p2 d0h2 d1h2 d2h2 => ?_)
    · rcases d0h2 with d0h2 | d0h2
      · exact absurd a1h (d0h2 p (by first | assumption | omega | (have := hH k; omega) | (unfold okA at *; omega)))
      · exact absurd a2h (d0h2 1 (by decide))
    · obtain rfl : p = p2 := (nI_eq (by first | assumption | omega | (have := hH k; omega) | (unfold okA at *; omega)) (by first | assumption | omega | (have := hH k; omega) | (unfold okA at *; omega))).mp (a1h.symm.trans d1h2)
      exact absurd (a2h.symm.trans d2h2) (by decide)
    · obtain rfl : p = p2 := (nI_eq (by first | assumption | omega | (have := hH k; omega) | (unfold okA at *; omega)) (by first | assumption | omega | (have := hH k; omega) | (unfold okA at *; omega))).mp (a1h.symm.trans d1h2)
      exact ⟨G, g1, g2, g3⟩
    · obtain rfl : p = p2 := (nI_eq (by first | assumption | omega | (have := hH k; omega) | (unfold okA at *; omega)) (by first | assumption | omega | (have := hH k; omega) | (unfold okA at *; omega))).mp (a1h.symm.trans d1h2)
      exact absurd (a2h.symm.trans d2h2) (by decide)
    · obtain rfl : p = p2 := (nI_eq (by first | assumption | omega | (have := hH k; omega) | (unfold okA at *; omega)) (by first | assumption | omega | (have := hH k; omega) | (unfold okA at *; omega))).mp (a1h.symm.trans d1h2)
      exact absurd (a2h.symm.trans d2h2) (by decide)
    · obtain rfl : p = p2 := (nI_eq (by first | assumption | omega | (have := hH k; omega) | (unfold okA at *; omega)) (by first | assumption | omega | (have := hH k; omega) | (unfold okA at *; omega))).mp (a1h.symm.trans d1h2)
      exact absurd (a2h.symm.trans d2h2) (by decide)
  · refine z_one g3 g1 (fun d0h2 => ?_) (fun p2 d0h2 d1h2 d2h2 => ?_) (fun p2 d0h2 d1h2 d2h2 => ?_) (fun p2 d0h2 d1h2 d2h2 => ?_) (fun p2 d0h2 d1h2 d2h2 => ?_) (fun p2 d0h2 d1h2 d2h2 => ?_)
    · rcases d0h2 with d0h2 | d0h2
      · exact absurd a1h (d0h2 p (by first | assumption | omega | (have := hH k; omega) | (unfold okA at *; omega)))
      · exact absurd a2h (d0h2 2 (by decide))
    · obtain rfl : p = p2 := (nI_eq (by first | assumption | omega | (have := hH k; omega) | (unfold okA at *; omega)) (by first | assumption | omega | (have := hH k; omega) | (unfold okA at *; omega))).mp (a1h.symm.trans d1h2)
      exact absurd (a2h.symm.trans d2h2) (by decide)
    · obtain rfl : p = p2 := (nI_eq (by first | assumption | omega | (have := hH k; omega) | (unfold okA at *; omega)) (by first | assumption | omega | (have := hH k; omega) | (unfold okA at *; omega))).mp (a1h.symm.trans d1h2)
      exact absurd (a2h.symm.trans d2h2) (by decide)
    · obtain rfl : p = p2 := (nI_eq (by first | assumption | omega | (have := hH k; omega) | (unfold okA at *; omega)) (by first | assumption | omega | (have := hH k; omega) | (unfold okA at *; omega))).mp (a1h.symm.trans d1h2)
      exact ⟨G, g1, g2, g3⟩
    · obtain rfl : p = p2 := (nI_eq (by first | assumption | omega | (have := hH k; omega) | (unfold okA at *; omega)) (by first | assumption | omega | (have := hH k; omega) | (unfold okA at *; omega))).mp (a1h.symm.trans d1h2)
      exact absurd (a2h.symm.trans d2h2) (by decide)
    · obtain rfl : p = p2 := (nI_eq (by first | assumption | omega | (have := hH k; omega) | (unfold okA at *; omega)) (by first | assumption | omega | (have := hH k; omega) | (unfold okA at *; omega))).mp (a1h.symm.trans d1h2)
      exact absurd (a2h.symm.trans d2h2) (by decide)
  · refine z_one g3 g1 (fun d0h2 => ?_) (fun p2 d0h2 d1h2 d2h2 => ?_) (fun p2 d0h2 d1h2 d2h2 => ?_) (fun p2 d0h2 d1h2 d2h2 => ?_) (fun p2 d0h2 d1h2 d2h2 => ?_) (fun p2 d0h2 d1h2 d2h2 => ?_)
    · rcases d0h2 with d0h2 | d0h2
      · exact absurd a1h (d0h2 p (by first | assumption | omega | (have := hH k; omega) | (unfold okA at *; omega)))
      · exact absurd a2h (d0h2 3 (by decide))
    · obtain rfl : p = p2 := (nI_eq (by first | assumption | omega | (have := hH k; omega) | (unfold okA at *; omega)) (by first | assumption | omega | (have := hH k; omega) | (unfold okA at *; omega))).mp (a1h.symm.trans d1h2)
      exact absurd (a2h.symm.trans d2h2) (by decide)
    · obtain rfl : p = p2 := (nI_eq (by first | assumption | omega | (have := hH k; omega) | (unfold okA at *; omega)) (by first | assumption | omega | (have := hH k; omega) | (unfold okA at *; omega))).mp (a1h.symm.trans d1h2)
      exact absurd (a2h.symm.trans d2h2) (by decide)
    · obtain rfl : p = p2 := (nI_eq (by first | assumption | omega | (have := hH k; omega) | (unfold okA at *; omega)) (by first | assumption | omega | (have := hH k; omega) | (unfold okA at *; omega))).mp (a1h.symm.trans d1h2)
      exact absurd (a2h.symm.trans d2h2) (by decide)
    · obtain rfl : p = p2 := (nI_eq (by first | assumption | omega | (have := hH k; omega) | (unfold okA at *; omega)) (by first | assumption | omega | (have := hH k; omega) | (unfold okA at *; omega))).mp (a1h.symm.trans d1h2)
      exact ⟨G, g1, g2, g3⟩
    · obtain rfl : p = p2 := (nI_eq (by first | assumption | omega | (have := hH k; omega) | (unfold okA at *; omega)) (by first | assumption | omega | (have := hH k; omega) | (unfold okA at *; omega))).mp (a1h.symm.trans d1h2)
      exact absurd (a2h.symm.trans d2h2) (by decide)
  · refine z_one g3 g1 (fun d0h2 => ?_) (fun p2 d0h2 d1h2 d2h2 => ?_) (fun p2 d0h2 d1h2 d2h2 => ?_) (fun p2 d0h2 d1h2 d2h2 => ?_) (fun p2 d0h2 d1h2 d2h2 => ?_) (fun p2 d0h2 d1h2 d2h2 => ?_)
    · rcases d0h2 with d0h2 | d0h2
      · exact absurd a1h (d0h2 p (by first | assumption | omega | (have := hH k; omega) | (unfold okA at *; omega)))
      · exact absurd a2h (d0h2 4 (by decide))
    · obtain rfl : p = p2 := (nI_eq (by first | assumption | omega | (have := hH k; omega) | (unfold okA at *; omega)) (by first | assumption | omega | (have := hH k; omega) | (unfold okA at *; omega))).mp (a1h.symm.trans d1h2)
      exact absurd (a2h.symm.trans d2h2) (by decide)
    · obtain rfl : p = p2 := (nI_eq (by first | assumption | omega | (have := hH k; omega) | (unfold okA at *; omega)) (by first | assumption | omega | (have := hH k; omega) | (unfold okA at *; omega))).mp (a1h.symm.trans d1h2)
      exact absurd (a2h.symm.trans d2h2) (by decide)
    · obtain rfl : p = p2 := (nI_eq (by first | assumption | omega | (have := hH k; omega) | (unfold okA at *; omega)) (by first | assumption | omega | (have := hH k; omega) | (unfold okA at *; omega))).mp (a1h.symm.trans d1h2)
      exact absurd (a2h.symm.trans d2h2) (by decide)
    · obtain rfl : p = p2 := (nI_eq (by first | assumption | omega | (have := hH k; omega) | (unfold okA at *; omega)) (by first | assumption | omega | (have := hH k; omega) | (unfold okA at *; omega))).mp (a1h.symm.trans d1h2)
      exact absurd (a2h.symm.trans d2h2) (by decide)
    · obtain rfl : p = p2 := (nI_eq (by first | assumption | omega | (have := hH k; omega) | (unfold okA at *; omega)) (by first | assumption | omega | (have := hH k; omega) | (unfold okA at *; omega))).mp (a1h.symm.trans d1h2)
      exact ⟨G, g1, g2, g3⟩
theorem js_act : st_act lwJ := by
  intro a0 S ⟨G, g1, g2, g3⟩
  have hn := g1.1.1
  have hc := g1.1.2.2.2.2.2.2.2.2.1
  have hT := g1.2.2.1.1
  have hS := g1.2.2.2.2.1.1
  have hH := g1.2.2.2.2.2.2.1
  refine q_act g2 g1 (fun a0h => ?_) (fun i a0h a1h => ?_)
  · refine z_act g3 g1 (fun d0h2 => ?_) (fun i2 d0h2 d1h2 => ?_)
    · exact ⟨G, g1, g2, g3⟩
    · exact absurd d1h2 (a0h i2 (by first | assumption | omega | (have := hH k; omega) | (unfold okA at *; omega)))
  · refine z_act g3 g1 (fun d0h2 => ?_) (fun i2 d0h2 d1h2 => ?_)
    · exact absurd a1h (d0h2 i (by first | assumption | omega | (have := hH k; omega) | (unfold okA at *; omega)))
    · obtain rfl : i = i2 := (nI_eq (by first | assumption | omega | (have := hH k; omega) | (unfold okA at *; omega)) (by first | assumption | omega | (have := hH k; omega) | (unfold okA at *; omega))).mp (a1h.symm.trans d1h2)
      exact ⟨G, g1, g2, g3⟩
theorem js_queue : st_queue lwJ := by
  intro a0 S ⟨G, g1, g2, g3⟩
  have hn := g1.1.1
  have hc := g1.1.2.2.2.2.2.2.2.2.1
  have hT := g1.2.2.1.1
  have hS := g1.2.2.2.2.1.1
  have hH := g1.2.2.2.2.2.2.1
  refine q2_queue g2 g1 (fun a0h => ?_) (fun i a0h a1h S1 bq bf => ?_)
  · refine z_queue g3 g1 (fun d0h2 => ?_) (fun i2 d0h2 d1h2 => ?_)
    · exact ⟨G, g1, g2, g3⟩
    · exact absurd d1h2 (a0h i2 (by first | assumption | omega | (have := hH k; omega) | (unfold okA at *; omega)))
  · refine z_queue (g3.fc bf) g1 (fun d0h2 => ?_) (fun i2 d0h2 d1h2 => ?_)
    · exact absurd a1h (d0h2 i (by first | assumption | omega | (have := hH k; omega) | (unfold okA at *; omega)))
    · obtain rfl : i = i2 := (nI_eq (by first | assumption | omega | (have := hH k; omega) | (unfold okA at *; omega)) (by first | assumption | omega | (have := hH k; omega) | (unfold okA at *; omega))).mp (a1h.symm.trans d1h2)
      exact ⟨G, g1, bq, g3.fc bf⟩
theorem js_alter : st_alter lwJ := by
  intro a0 a1 a2 S ⟨G, g1, g2, g3⟩
  have hn := g1.1.1
  have hc := g1.1.2.2.2.2.2.2.2.2.1
  have hT := g1.2.2.1.1
  have hS := g1.2.2.2.2.1.1
  have hH := g1.2.2.2.2.2.2.1
  refine q_alter g2 g1 (fun a0h => ?_) (fun p k a0h a1h a2h a3h a4h S1 bq bf => ?_) (fun p k a0h a1h a2h a3h a4h S1 bq bf => ?_)
  · refine z_alter g3 g1 (fun d0h2 => ?_) (fun p2 k2 d0h2 d1h2 d2h2 d3h2 d4h2 S2 zq zf => ?_) (fun p2 k2 d0h2 d1h2 d2h2 d3h2 d4h2 S2 zq zf => ?_)
    · exact ⟨G, g1, g2, g3⟩
    · exact absurd ⟨d2h2, d3h2⟩ (a0h p2 k2 d0h2 d1h2 d4h2).1
    · exact absurd ⟨d2h2, d3h2⟩ (a0h p2 k2 d0h2 d1h2 d4h2).2
  · refine z_alter (g3.fc bf) g1 (fun d0h2 => ?_) (fun p2 k2 d0h2 d1h2 d2h2 d3h2 d4h2 S2 zq zf => ?_) (fun p2 k2 d0h2 d1h2 d2h2 d3h2 d4h2 S2 zq zf => ?_)
    · exact absurd ⟨a2h, a3h⟩ (d0h2 p k a0h a1h a4h).1
    · obtain rfl : p = p2 := (nI_eq (by first | assumption | omega | (have := hH k; omega) | (unfold okA at *; omega)) (by first | assumption | omega | (have := hH k; omega) | (unfold okA at *; omega))).mp (a1h.symm.trans d1h2)
      obtain rfl : k = k2 := (nI_eq (by first | assumption | omega | (have := hH k; omega) | (unfold okA at *; omega)) (by first | assumption | omega | (have := hH k; omega) | (unfold okA at *; omega))).mp (a4h.symm.trans d4h2)
      exact ⟨_, g1.now (alterK_wf g1.1 a3h) rfl, bq.f28 zf, zq⟩
    · obtain rfl : p = p2 := (nI_eq (by first | assumption | omega | (have := hH k; omega) | (unfold okA at *; omega)) (by first | assumption | omega | (have := hH k; omega) | (unfold okA at *; omega))).mp (a1h.symm.trans d1h2)
      obtain rfl : k = k2 := (nI_eq (by first | assumption | omega | (have := hH k; omega) | (unfold okA at *; omega)) (by first | assumption | omega | (have := hH k; omega) | (unfold okA at *; omega))).mp (a4h.symm.trans d4h2)
      exact absurd (a2h.symm.trans d2h2) (by decide)
  · refine z_alter (g3.fc bf) g1 (fun d0h2 => ?_) (fun p2 k2 d0h2 d1h2 d2h2 d3h2 d4h2 S2 zq zf => ?_) (fun p2 k2 d0h2 d1h2 d2h2 d3h2 d4h2 S2 zq zf => ?_)
    · exact absurd ⟨a2h, a3h⟩ (d0h2 p k a0h a1h a4h).2
    · obtain rfl : p = p2 := (nI_eq (by first | assumption | omega | (have := hH k; omega) | (unfold okA at *; omega)) (by first | assumption | omega | (have := hH k; omega) | (unfold okA at *; omega))).mp (a1h.symm.trans d1h2)
      obtain rfl : k = k2 := (nI_eq (by first | assumption | omega | (have := hH k; omega) | (unfold okA at *; omega)) (by first | assumption | omega | (have := hH k; omega) | (unfold okA at *; omega))).mp (a4h.symm.trans d4h2)
      exact absurd (a2h.symm.trans d2h2) (by decide)
    · obtain rfl : p = p2 := (nI_eq (by first | assumption | omega | (have := hH k; omega) | (unfold okA at *; omega)) (by first | assumption | omega | (have := hH k; omega) | (unfold okA at *; omega))).mp (a1h.symm.trans d1h2)
      obtain rfl : k = k2 := (nI_eq (by first | assumption | omega | (have := hH k; omega) | (unfold okA at *; omega)) (by first | assumption | omega | (have := hH k; omega) | (unfold okA at *; omega))).mp (a4h.symm.trans d4h2)
      exact ⟨_, g1.now (alterS_wf g1.1 a3h) rfl, bq.f28 zf, zq⟩
theorem js_room : st_room lwJ := by
  intro a0 S ⟨G, g1, g2, g3⟩
  have hn := g1.1.1
  have hc := g1.1.2.2.2.2.2.2.2.2.1
  have hT := g1.2.2.1.1
  have hS := g1.2.2.2.2.1.1
  have hH := g1.2.2.2.2.2.2.1
  refine q2_room g2 g1 (fun a0h => ?_) (fun v a0h a1h a2h S1 bq bf => ?_)
  · refine z_room g3 g1 (fun d0h2 => ?_) (fun v2 d0h2 d1h2 d2h2 S2 zq zf => ?_)
    · exact ⟨G, g1, g2, g3⟩
    · exact absurd d2h2 (a0h v2 (by first | assumption | omega | (have := hH k; omega) | (unfold okA at *; omega)) (by first | assumption | omega | (have := hH k; omega) | (unfold okA at *; omega)))
  · refine z_room (g3.fc bf) g1 (fun d0h2 => ?_) (fun v2 d0h2 d1h2 d2h2 S2 zq zf => ?_)
    · exact absurd a2h (d0h2 v (by first | assumption | omega | (have := hH k; omega) | (unfold okA at *; omega)) (by first | assumption | omega | (have := hH k; omega) | (unfold okA at *; omega)))
    · obtain rfl : v = v2 := (nI_eq (by first | assumption | omega | (have := hH k; omega) | (unfold okA at *; omega)) (by first | assumption | omega | (have := hH k; omega) | (unfold okA at *; omega))).mp (a2h.symm.trans d2h2)
      exact ⟨_, g1.now (uR_wf g1.1 ⟨a0h, a1h⟩) rfl, bq.f28 zf, zq⟩
theorem js_think : st_think lwJ := by
  intro a0 S ⟨G, g1, g2, g3⟩
  have hn := g1.1.1
  have hc := g1.1.2.2.2.2.2.2.2.2.1
  have hT := g1.2.2.1.1
  have hS := g1.2.2.2.2.1.1
  have hH := g1.2.2.2.2.2.2.1
  refine q2_think g2 g1 (fun a0h => ?_) (fun v a0h a1h a2h S1 bq bf => ?_)
  · refine z_think g3 g1 (fun d0h2 => ?_) (fun v2 d0h2 d1h2 d2h2 S2 zq zf => ?_)
    · exact ⟨G, g1, g2, g3⟩
    · exact absurd d2h2 (a0h v2 (by first | assumption | omega | (have := hH k; omega) | (unfold okA at *; omega)) (by first | assumption | omega | (have := hH k; omega) | (unfold okA at *; omega)))
  · refine z_think (g3.fc bf) g1 (fun d0h2 => ?_) (fun v2 d0h2 d1h2 d2h2 S2 zq zf => ?_)
    · exact absurd a2h (d0h2 v (by first | assumption | omega | (have := hH k; omega) | (unfold okA at *; omega)) (by first | assumption | omega | (have := hH k; omega) | (unfold okA at *; omega)))
    · obtain rfl : v = v2 := (nI_eq (by first | assumption | omega | (have := hH k; omega) | (unfold okA at *; omega)) (by first | assumption | omega | (have := hH k; omega) | (unfold okA at *; omega))).mp (a2h.symm.trans d2h2)
      exact ⟨_, g1.now (uT_wf g1.1 ⟨a0h, a1h⟩) rfl, bq.f28 zf, zq⟩
theorem js_plan : st_plan lwJ := by
  intro a0 S ⟨G, g1, g2, g3⟩
  have hn := g1.1.1
  have hc := g1.1.2.2.2.2.2.2.2.2.1
  have hT := g1.2.2.1.1
  have hS := g1.2.2.2.2.1.1
  have hH := g1.2.2.2.2.2.2.1
  refine q_plan g2 g1 (fun a0h => ?_) (fun a a0h a1h a2h S1 bq bf => ?_) (fun a a0h a1h a2h => ?_)
  · refine z_plan g3 g1 (fun d0h2 => ?_) (fun a2 d0h2 d1h2 d2h2 S2 zq zf => ?_) (fun a2 d0h2 d1h2 d2h2 => ?_)
    · exact ⟨G, g1, g2, g3⟩
    · exact absurd d1h2 (a0h a2 (by first | assumption | omega | (have := hH k; omega) | (unfold okA at *; omega)))
    · exact absurd d1h2 (a0h a2 (by first | assumption | omega | (have := hH k; omega) | (unfold okA at *; omega)))
  · refine z_plan (g3.fc bf) g1 (fun d0h2 => ?_) (fun a2 d0h2 d1h2 d2h2 S2 zq zf => ?_) (fun a2 d0h2 d1h2 d2h2 => ?_)
    · exact absurd a1h (d0h2 a (by first | assumption | omega | (have := hH k; omega) | (unfold okA at *; omega)))
    · obtain rfl : a = a2 := (nI_eq (by first | assumption | omega | (have := hH k; omega) | (unfold okA at *; omega)) (by first | assumption | omega | (have := hH k; omega) | (unfold okA at *; omega))).mp (a1h.symm.trans d1h2)
      exact ⟨_, g1.now (planA_wf g1.1 a2h a0h) rfl, bq.f28 zf, zq⟩
    · obtain rfl : a = a2 := (nI_eq (by first | assumption | omega | (have := hH k; omega) | (unfold okA at *; omega)) (by first | assumption | omega | (have := hH k; omega) | (unfold okA at *; omega))).mp (a1h.symm.trans d1h2)
      omega
  · refine z_plan g3 g1 (fun d0h2 => ?_) (fun a2 d0h2 d1h2 d2h2 S2 zq zf => ?_) (fun a2 d0h2 d1h2 d2h2 => ?_)
    · exact absurd a1h (d0h2 a (by first | assumption | omega | (have := hH k; omega) | (unfold okA at *; omega)))
    · obtain rfl : a = a2 := (nI_eq (by first | assumption | omega | (have := hH k; omega) | (unfold okA at *; omega)) (by first | assumption | omega | (have := hH k; omega) | (unfold okA at *; omega))).mp (a1h.symm.trans d1h2)
      omega
    · obtain rfl : a = a2 := (nI_eq (by first | assumption | omega | (have := hH k; omega) | (unfold okA at *; omega)) (by first | assumption | omega | (have := hH k; omega) | (unfold okA at *; omega))).mp (a1h.symm.trans d1h2)
      exact ⟨G, g1, g2, g3⟩
theorem js_cut : st_cut lwJ := by
  intro a0 S ⟨G, g1, g2, g3⟩
  have hn := g1.1.1
  have hc := g1.1.2.2.2.2.2.2.2.2.1
  have hT := g1.2.2.1.1
  have hS := g1.2.2.2.2.1.1
  have hH := g1.2.2.2.2.2.2.1
  refine q_cut g2 g1 (fun a0h => ?_) (fun n a0h a1h S1 bq bf => ?_)
  · refine z_cut g3 g1 (fun d0h2 => ?_) (fun n2 d0h2 d1h2 S2 zq zf => ?_)
    · exact ⟨G, g1, g2, g3⟩
    · exact absurd d1h2 (a0h n2 (by first | assumption | omega | (have := hH k; omega) | (unfold okA at *; omega)))
  · refine z_cut (g3.fc bf) g1 (fun d0h2 => ?_) (fun n2 d0h2 d1h2 S2 zq zf => ?_)
    · exact absurd a1h (d0h2 n (by first | assumption | omega | (have := hH k; omega) | (unfold okA at *; omega)))
    · obtain rfl : n = n2 := (nI_eq (by first | assumption | omega | (have := hH k; omega) | (unfold okA at *; omega)) (by first | assumption | omega | (have := hH k; omega) | (unfold okA at *; omega))).mp (a1h.symm.trans d1h2)
      exact ⟨_, g1.now (cutP_wf g1.1 a0h) rfl, bq.f28 zf, zq⟩
theorem js_thinks : st_thinks lwJ := by
  intro a0 S ⟨G, g1, g2, g3⟩
  have hn := g1.1.1
  have hc := g1.1.2.2.2.2.2.2.2.2.1
  have hT := g1.2.2.1.1
  have hS := g1.2.2.2.2.1.1
  have hH := g1.2.2.2.2.2.2.1
  refine q_thinks g2 g1 (fun a0h => ?_) (fun p a0h a1h a2h => ?_) (fun p a0h a1h a2h S1 bq bf => ?_)
  · refine z_thinks g3 g1 (fun d0h2 => ?_) (fun p2 d0h2 d1h2 d2h2 => ?_) (fun p2 d0h2 d1h2 d2h2 S2 zq zf => ?_)
    · exact ⟨G, g1, g2, g3⟩
    · exact absurd d1h2 (a0h p2 (by first | assumption | omega | (have := hH k; omega) | (unfold okA at *; omega)))
    · exact absurd d1h2 (a0h p2 (by first | assumption | omega | (have := hH k; omega) | (unfold okA at *; omega)))
  · refine z_thinks g3 g1 (fun d0h2 => ?_) (fun p2 d0h2 d1h2 d2h2 => ?_) (fun p2 d0h2 d1h2 d2h2 S2 zq zf => ?_)
    · exact absurd a1h (d0h2 p (by first | assumption | omega | (have := hH k; omega) | (unfold okA at *; omega)))
    · obtain rfl : p = p2 := (nI_eq (by first | assumption | omega | (have := hH k; omega) | (unfold okA at *; omega)) (by first | assumption | omega | (have := hH k; omega) | (unfold okA at *; omega))).mp (a1h.symm.trans d1h2)
      exact ⟨G, g1, g2, g3⟩
    · obtain rfl : p = p2 := (nI_eq (by first | assumption | omega | (have := hH k; omega) | (unfold okA at *; omega)) (by first | assumption | omega | (have := hH k; omega) | (unfold okA at *; omega))).mp (a1h.symm.trans d1h2)
      exact absurd (a2h.symm.trans d2h2) (by decide)
  · refine z_thinks (g3.fc bf) g1 (fun d0h2 => ?_) (fun p2 d0h2 d1h2 d2h2 => ?_) (fun p2 d0h2 d1h2 d2h2 S2 zq zf => ?_)
    · exact absurd a1h (d0h2 p (by first | assumption | omega | (have := hH k; omega) | (unfold okA at *; omega)))
    · obtain rfl : p = p2 := (nI_eq (by first | assumption | omega | (have := hH k; omega) | (unfold okA at *; omega)) (by first | assumption | omega | (have := hH k; omega) | (unfold okA at *; omega))).mp (a1h.symm.trans d1h2)
      exact absurd (a2h.symm.trans d2h2) (by decide)
    · obtain rfl : p = p2 := (nI_eq (by first | assumption | omega | (have := hH k; omega) | (unfold okA at *; omega)) (by first | assumption | omega | (have := hH k; omega) | (unfold okA at *; omega))).mp (a1h.symm.trans d1h2)
      exact ⟨_, g1.now (thinkF_wf g1.1 p).1 rfl, bq.f28 zf, zq⟩
theorem js_minutes : st_minutes lwJ := by
  intro a0 S ⟨G, g1, g2, g3⟩
  have hn := g1.1.1
  have hc := g1.1.2.2.2.2.2.2.2.2.1
  have hT := g1.2.2.1.1
  have hS := g1.2.2.2.2.1.1
  have hH := g1.2.2.2.2.2.2.1
  refine q2_minutes g2 g1 (fun a0h => ?_) (fun n a0h a1h S1 bq bf => ?_)
  · refine z_minutes g3 g1 (fun d0h2 => ?_) (fun n2 d0h2 d1h2 S2 zq zf => ?_)
    · exact ⟨G, g1, g2, g3⟩
    · exact absurd d1h2 (a0h n2 (by first | assumption | omega | (have := hH k; omega) | (unfold okA at *; omega)))
  · refine z_minutes (g3.fc bf) g1 (fun d0h2 => ?_) (fun n2 d0h2 d1h2 S2 zq zf => ?_)
    · exact absurd a1h (d0h2 n (by first | assumption | omega | (have := hH k; omega) | (unfold okA at *; omega)))
    · obtain rfl : n = n2 := (nI_eq (by first | assumption | omega | (have := hH k; omega) | (unfold okA at *; omega)) (by first | assumption | omega | (have := hH k; omega) | (unfold okA at *; omega))).mp (a1h.symm.trans d1h2)
      exact ⟨_, g1.now (dryN_ok n _ g1.1).1 (dryN_ok n _ g1.1).2, bq.f28 zf, zq⟩
theorem js_tram : st_tram lwJ := by
  intro S ⟨G, g1, g2, g3⟩
  have hn := g1.1.1
  have hc := g1.1.2.2.2.2.2.2.2.2.1
  have hT := g1.2.2.1.1
  have hS := g1.2.2.2.2.1.1
  have hH := g1.2.2.2.2.2.2.1
  refine q_tram g2 g1 (fun S1 bq bf => ?_)
  · refine z_tram (g3.fc bf) g1 (fun S2 zq zf => ?_)
    · exact ⟨_, g1.now (boardF_wf g1.1) rfl, bq.f28 zf, zq⟩
theorem js_joy : st_joy lwJ := by
  intro a0 S ⟨G, g1, g2, g3⟩
  have hn := g1.1.1
  have hc := g1.1.2.2.2.2.2.2.2.2.1
  have hT := g1.2.2.1.1
  have hS := g1.2.2.2.2.1.1
  have hH := g1.2.2.2.2.2.2.1
  refine q_joy g2 g1 (fun a0h => ?_) (fun p a0h a1h a2h => ?_) (fun p a0h a1h a2h S1 bq bf => ?_)
  · refine z_joy g3 g1 (fun d0h2 => ?_) (fun p2 d0h2 d1h2 d2h2 => ?_) (fun p2 d0h2 d1h2 d2h2 S2 zq zf => ?_)
    · exact ⟨G, g1, g2, g3⟩
    · exact absurd d1h2 (a0h p2 (by first | assumption | omega | (have := hH k; omega) | (unfold okA at *; omega)))
    · exact absurd d1h2 (a0h p2 (by first | assumption | omega | (have := hH k; omega) | (unfold okA at *; omega)))
  · refine z_joy g3 g1 (fun d0h2 => ?_) (fun p2 d0h2 d1h2 d2h2 => ?_) (fun p2 d0h2 d1h2 d2h2 S2 zq zf => ?_)
    · exact absurd a1h (d0h2 p (by first | assumption | omega | (have := hH k; omega) | (unfold okA at *; omega)))
    · obtain rfl : p = p2 := (nI_eq (by first | assumption | omega | (have := hH k; omega) | (unfold okA at *; omega)) (by first | assumption | omega | (have := hH k; omega) | (unfold okA at *; omega))).mp (a1h.symm.trans d1h2)
      exact ⟨G, g1, g2, g3⟩
    · obtain rfl : p = p2 := (nI_eq (by first | assumption | omega | (have := hH k; omega) | (unfold okA at *; omega)) (by first | assumption | omega | (have := hH k; omega) | (unfold okA at *; omega))).mp (a1h.symm.trans d1h2)
      exact absurd (a2h.symm.trans d2h2) (by decide)
  · refine z_joy (g3.fc bf) g1 (fun d0h2 => ?_) (fun p2 d0h2 d1h2 d2h2 => ?_) (fun p2 d0h2 d1h2 d2h2 S2 zq zf => ?_)
    · exact absurd a1h (d0h2 p (by first | assumption | omega | (have := hH k; omega) | (unfold okA at *; omega)))
    · obtain rfl : p = p2 := (nI_eq (by first | assumption | omega | (have := hH k; omega) | (unfold okA at *; omega)) (by first | assumption | omega | (have := hH k; omega) | (unfold okA at *; omega))).mp (a1h.symm.trans d1h2)
      exact absurd (a2h.symm.trans d2h2) (by decide)
    · obtain rfl : p = p2 := (nI_eq (by first | assumption | omega | (have := hH k; omega) | (unfold okA at *; omega)) (by first | assumption | omega | (have := hH k; omega) | (unfold okA at *; omega))).mp (a1h.symm.trans d1h2)
      exact ⟨_, g1.now (joyF_wf g1.1 p) rfl, bq.f28 zf, zq⟩
theorem js_second : st_second lwJ := by
  intro S ⟨G, g1, g2, g3⟩
  have hn := g1.1.1
  have hc := g1.1.2.2.2.2.2.2.2.2.1
  have hT := g1.2.2.1.1
  have hS := g1.2.2.2.2.1.1
  have hH := g1.2.2.2.2.2.2.1
  refine q_second g2 g1 (fun S1 bq bf => ?_)
  · refine z_second (g3.fc bf) g1 (fun S2 zq zf => ?_)
    · exact ⟨_, g1.now (uG0_wf g1.1) rfl, bq.f28 zf, zq⟩
theorem js_runs : st_runs lwJ := by
  intro a0 S ⟨G, g1, g2, g3⟩
  have hn := g1.1.1
  have hc := g1.1.2.2.2.2.2.2.2.2.1
  have hT := g1.2.2.1.1
  have hS := g1.2.2.2.2.1.1
  have hH := g1.2.2.2.2.2.2.1
  refine q2_runs g2 g1 (fun a0h => ?_) (fun a0h S1 bq bf => ?_) (fun a0h S1 bq bf => ?_) (fun a0h S1 bq bf => ?_) (fun a0h S1 bq bf => ?_) (fun a0h S1 bq bf => ?_)
  · refine z_runs g3 g1 (fun d0h2 => ?_) (fun d0h2 S2 zq zf => ?_) (fun d0h2 S2 zq zf => ?_) (fun d0h2 S2 zq zf => ?_) (fun d0h2 S2 zq zf => ?_) (fun d0h2 S2 zq zf => ?_)
    · exact ⟨G, g1, g2, g3⟩
    · exact absurd d0h2 (a0h 0 (by decide))
    · exact absurd d0h2 (a0h 1 (by decide))
    · exact absurd d0h2 (a0h 2 (by decide))
    · exact absurd d0h2 (a0h 3 (by decide))
    · exact absurd d0h2 (a0h 4 (by decide))
  · refine z_runs (g3.fc bf) g1 (fun d0h2 => ?_) (fun d0h2 S2 zq zf => ?_) (fun d0h2 S2 zq zf => ?_) (fun d0h2 S2 zq zf => ?_) (fun d0h2 S2 zq zf => ?_) (fun d0h2 S2 zq zf => ?_)
    · exact absurd a0h (d0h2 0 (by decide))
    · exact ⟨G, g1, bq.f28 zf, zq⟩
    · exact absurd (a0h.symm.trans d0h2) (by decide)
    · exact absurd (a0h.symm.trans d0h2) (by decide)
    · exact absurd (a0h.symm.trans d0h2) (by decide)
    · exact absurd (a0h.symm.trans d0h2) (by decide)
  · refine z_runs (g3.fc bf) g1 (fun d0h2 => ?_) (fun d0h2 S2 zq zf => ?_) (fun d0h2 S2 zq zf => ?_) (fun d0h2 S2 zq zf => ?_) (fun d0h2 S2 zq zf => ?_) (fun d0h2 S2 zq zf => ?_)
    · exact absurd a0h (d0h2 1 (by decide))
    · exact absurd (a0h.symm.trans d0h2) (by decide)
    · exact ⟨G, g1, bq.f28 zf, zq⟩
    · exact absurd (a0h.symm.trans d0h2) (by decide)
    · exact absurd (a0h.symm.trans d0h2) (by decide)
    · exact absurd (a0h.symm.trans d0h2) (by decide)
  · refine z_runs (g3.fc bf) g1 (fun d0h2 => ?_) (fun d0h2 S2 zq zf => ?_) (fun d0h2 S2 zq zf => ?_) (fun d0h2 S2 zq zf => ?_) (fun d0h2 S2 zq zf => ?_) (fun d0h2 S2 zq zf => ?_)
    · exact absurd a0h (d0h2 2 (by decide))
    · exact absurd (a0h.symm.trans d0h2) (by decide)
    · exact absurd (a0h.symm.trans d0h2) (by decide)
    · exact ⟨G, g1, bq.f28 zf, zq⟩
    · exact absurd (a0h.symm.trans d0h2) (by decide)
    · exact absurd (a0h.symm.trans d0h2) (by decide)
  · refine z_runs (g3.fc bf) g1 (fun d0h2 => ?_) (fun d0h2 S2 zq zf => ?_) (fun d0h2 S2 zq zf => ?_) (fun d0h2 S2 zq zf => ?_) (fun d0h2 S2 zq zf => ?_) (fun d0h2 S2 zq zf => ?_)
    · exact absurd a0h (d0h2 3 (by decide))
    · exact absurd (a0h.symm.trans d0h2) (by decide)
    · exact absurd (a0h.symm.trans d0h2) (by decide)
    · exact absurd (a0h.symm.trans d0h2) (by decide)
    · exact ⟨G, g1, bq.f28 zf, zq⟩
    · exact absurd (a0h.symm.trans d0h2) (by decide)
  · refine z_runs (g3.fc bf) g1 (fun d0h2 => ?_) (fun d0h2 S2 zq zf => ?_) (fun d0h2 S2 zq zf => ?_) (fun d0h2 S2 zq zf => ?_) (fun d0h2 S2 zq zf => ?_) (fun d0h2 S2 zq zf => ?_)
    · exact absurd a0h (d0h2 4 (by decide))
    · exact absurd (a0h.symm.trans d0h2) (by decide)
    · exact absurd (a0h.symm.trans d0h2) (by decide)
    · exact absurd (a0h.symm.trans d0h2) (by decide)
    · exact absurd (a0h.symm.trans d0h2) (by decide)
    · exact ⟨G, g1, bq.f28 zf, zq⟩
theorem js_ahead : st_ahead lwJ := by
  intro a0 a1 S ⟨G, g1, g2, g3⟩
  have hn := g1.1.1
  have hc := g1.1.2.2.2.2.2.2.2.2.1
  have hT := g1.2.2.1.1
  have hS := g1.2.2.2.2.1.1
  have hH := g1.2.2.2.2.2.2.1
  refine q_ahead g2 g1 (fun a0h => ?_) (fun p a0h a1h a2h S1 bq bf => ?_) (fun p a0h a1h a2h S1 bq bf => ?_)
  · refine z_ahead g3 g1 (fun d0h2 => ?_) (fun p2 d0h2 d1h2 d2h2 S2 zq zf => ?_) (fun p2 d0h2 d1h2 d2h2 S2 zq zf => ?_)
    · exact ⟨G, g1, g2, g3⟩
    · rcases a0h with a0h | a0h
      · exact absurd d1h2 (a0h p2 (by first | assumption | omega | (have := hH k; omega) | (unfold okA at *; omega)))
      · exact absurd d2h2 (a0h 0 (by decide))
    · rcases a0h with a0h | a0h
      · exact absurd d1h2 (a0h p2 (by first | assumption | omega | (have := hH k; omega) | (unfold okA at *; omega)))
      · exact absurd d2h2 (a0h 1 (by decide))
  · refine z_ahead (g3.fc bf) g1 (fun d0h2 => ?_) (fun p2 d0h2 d1h2 d2h2 S2 zq zf => ?_) (fun p2 d0h2 d1h2 d2h2 S2 zq zf => ?_)
    · rcases d0h2 with d0h2 | d0h2
      · exact absurd a1h (d0h2 p (by first | assumption | omega | (have := hH k; omega) | (unfold okA at *; omega)))
      · exact absurd a2h (d0h2 0 (by decide))
    · obtain rfl : p = p2 := (nI_eq (by first | assumption | omega | (have := hH k; omega) | (unfold okA at *; omega)) (by first | assumption | omega | (have := hH k; omega) | (unfold okA at *; omega))).mp (a1h.symm.trans d1h2)
      exact ⟨G, g1, bq.f28 zf, zq⟩
    · obtain rfl : p = p2 := (nI_eq (by first | assumption | omega | (have := hH k; omega) | (unfold okA at *; omega)) (by first | assumption | omega | (have := hH k; omega) | (unfold okA at *; omega))).mp (a1h.symm.trans d1h2)
      exact absurd (a2h.symm.trans d2h2) (by decide)
  · refine z_ahead (g3.fc bf) g1 (fun d0h2 => ?_) (fun p2 d0h2 d1h2 d2h2 S2 zq zf => ?_) (fun p2 d0h2 d1h2 d2h2 S2 zq zf => ?_)
    · rcases d0h2 with d0h2 | d0h2
      · exact absurd a1h (d0h2 p (by first | assumption | omega | (have := hH k; omega) | (unfold okA at *; omega)))
      · exact absurd a2h (d0h2 1 (by decide))
    · obtain rfl : p = p2 := (nI_eq (by first | assumption | omega | (have := hH k; omega) | (unfold okA at *; omega)) (by first | assumption | omega | (have := hH k; omega) | (unfold okA at *; omega))).mp (a1h.symm.trans d1h2)
      exact absurd (a2h.symm.trans d2h2) (by decide)
    · obtain rfl : p = p2 := (nI_eq (by first | assumption | omega | (have := hH k; omega) | (unfold okA at *; omega)) (by first | assumption | omega | (have := hH k; omega) | (unfold okA at *; omega))).mp (a1h.symm.trans d1h2)
      exact ⟨G, g1, bq.f28 zf, zq⟩
theorem js_soon : st_soon lwJ := by
  intro a0 S ⟨G, g1, g2, g3⟩
  have hn := g1.1.1
  have hc := g1.1.2.2.2.2.2.2.2.2.1
  have hT := g1.2.2.1.1
  have hS := g1.2.2.2.2.1.1
  have hH := g1.2.2.2.2.2.2.1
  refine q_soon g2 g1 (fun a0h => ?_) (fun p a0h a1h a2h => ?_) (fun p a0h a1h a2h S1 bq bf => ?_)
  · refine z_soon g3 g1 (fun d0h2 => ?_) (fun p2 d0h2 d1h2 d2h2 S2 zq zf => ?_) (fun p2 d0h2 d1h2 d2h2 S2 zq zf => ?_)
    · exact ⟨G, g1, g2, g3⟩
    · exact absurd d1h2 (a0h p2 (by first | assumption | omega | (have := hH k; omega) | (unfold okA at *; omega)))
    · exact absurd d1h2 (a0h p2 (by first | assumption | omega | (have := hH k; omega) | (unfold okA at *; omega)))
  · refine z_soon g3 g1 (fun d0h2 => ?_) (fun p2 d0h2 d1h2 d2h2 S2 zq zf => ?_) (fun p2 d0h2 d1h2 d2h2 S2 zq zf => ?_)
    · exact absurd a1h (d0h2 p (by first | assumption | omega | (have := hH k; omega) | (unfold okA at *; omega)))
    · obtain rfl : p = p2 := (nI_eq (by first | assumption | omega | (have := hH k; omega) | (unfold okA at *; omega)) (by first | assumption | omega | (have := hH k; omega) | (unfold okA at *; omega))).mp (a1h.symm.trans d1h2)
      exact ⟨G, g1, g2.f28 zf, zq⟩
    · obtain rfl : p = p2 := (nI_eq (by first | assumption | omega | (have := hH k; omega) | (unfold okA at *; omega)) (by first | assumption | omega | (have := hH k; omega) | (unfold okA at *; omega))).mp (a1h.symm.trans d1h2)
      exact absurd (a2h.symm.trans d2h2) (by decide)
  · refine z_soon (g3.fc bf) g1 (fun d0h2 => ?_) (fun p2 d0h2 d1h2 d2h2 S2 zq zf => ?_) (fun p2 d0h2 d1h2 d2h2 S2 zq zf => ?_)
    · exact absurd a1h (d0h2 p (by first | assumption | omega | (have := hH k; omega) | (unfold okA at *; omega)))
    · obtain rfl : p = p2 := (nI_eq (by first | assumption | omega | (have := hH k; omega) | (unfold okA at *; omega)) (by first | assumption | omega | (have := hH k; omega) | (unfold okA at *; omega))).mp (a1h.symm.trans d1h2)
      exact absurd (a2h.symm.trans d2h2) (by decide)
    · obtain rfl : p = p2 := (nI_eq (by first | assumption | omega | (have := hH k; omega) | (unfold okA at *; omega)) (by first | assumption | omega | (have := hH k; omega) | (unfold okA at *; omega))).mp (a1h.symm.trans d1h2)
      exact ⟨G, g1, bq.f28 zf, zq⟩
theorem js_best : st_best lwJ := by
  intro a0 a1 S ⟨G, g1, g2, g3⟩
  exact q_best g2 g1 (fun r1 S1 b2 b4 => z_best (g3.fc b4) g1 (fun r2 S2 c2 c4 => ⟨G, g1, b2.f28 c4, c2⟩))
theorem js_home : st_home lwJ := by
  intro a0 a1 S ⟨G, g1, g2, g3⟩
  have hn := g1.1.1
  have hc := g1.1.2.2.2.2.2.2.2.2.1
  have hT := g1.2.2.1.1
  have hS := g1.2.2.2.2.1.1
  have hH := g1.2.2.2.2.2.2.1
  refine q_homeX g2 g1 (fun a0h => ?_) (fun p w a0h a1h a2h a3h a4h => ?_) (fun p w a0h a1h a2h a3h a4h S1 bq bf => ?_)
  · refine z_homeX g3 g1 (fun d0h2 => ?_) (fun p2 w2 d0h2 d1h2 d2h2 d3h2 d4h2 => ?_) (fun p2 w2 d0h2 d1h2 d2h2 d3h2 d4h2 S2 zq zf => ?_)
    · exact ⟨G, g1, g2, g3⟩
    · rcases a0h with a0h | a0h
      · exact absurd d1h2 (a0h p2 (by first | assumption | omega | (have := hH k; omega) | (unfold okA at *; omega)))
      · exact absurd d3h2 (a0h w2 (by first | assumption | omega | (have := hH k; omega) | (unfold okA at *; omega)))
    · rcases a0h with a0h | a0h
      · exact absurd d1h2 (a0h p2 (by first | assumption | omega | (have := hH k; omega) | (unfold okA at *; omega)))
      · exact absurd d3h2 (a0h w2 (by first | assumption | omega | (have := hH k; omega) | (unfold okA at *; omega)))
  · refine z_homeX g3 g1 (fun d0h2 => ?_) (fun p2 w2 d0h2 d1h2 d2h2 d3h2 d4h2 => ?_) (fun p2 w2 d0h2 d1h2 d2h2 d3h2 d4h2 S2 zq zf => ?_)
    · rcases d0h2 with d0h2 | d0h2
      · exact absurd a1h (d0h2 p (by first | assumption | omega | (have := hH k; omega) | (unfold okA at *; omega)))
      · exact absurd a3h (d0h2 w (by first | assumption | omega | (have := hH k; omega) | (unfold okA at *; omega)))
    · obtain rfl : p = p2 := (nI_eq (by first | assumption | omega | (have := hH k; omega) | (unfold okA at *; omega)) (by first | assumption | omega | (have := hH k; omega) | (unfold okA at *; omega))).mp (a1h.symm.trans d1h2)
      obtain rfl : w = w2 := (nI_eq (by first | assumption | omega | (have := hH k; omega) | (unfold okA at *; omega)) (by first | assumption | omega | (have := hH k; omega) | (unfold okA at *; omega))).mp (a3h.symm.trans d3h2)
      exact ⟨G, g1, g2, g3⟩
    · obtain rfl : p = p2 := (nI_eq (by first | assumption | omega | (have := hH k; omega) | (unfold okA at *; omega)) (by first | assumption | omega | (have := hH k; omega) | (unfold okA at *; omega))).mp (a1h.symm.trans d1h2)
      obtain rfl : w = w2 := (nI_eq (by first | assumption | omega | (have := hH k; omega) | (unfold okA at *; omega)) (by first | assumption | omega | (have := hH k; omega) | (unfold okA at *; omega))).mp (a3h.symm.trans d3h2)
      exact absurd (a4h.symm.trans d4h2) (by decide)
  · refine z_homeX (g3.fc bf) g1 (fun d0h2 => ?_) (fun p2 w2 d0h2 d1h2 d2h2 d3h2 d4h2 => ?_) (fun p2 w2 d0h2 d1h2 d2h2 d3h2 d4h2 S2 zq zf => ?_)
    · rcases d0h2 with d0h2 | d0h2
      · exact absurd a1h (d0h2 p (by first | assumption | omega | (have := hH k; omega) | (unfold okA at *; omega)))
      · exact absurd a3h (d0h2 w (by first | assumption | omega | (have := hH k; omega) | (unfold okA at *; omega)))
    · obtain rfl : p = p2 := (nI_eq (by first | assumption | omega | (have := hH k; omega) | (unfold okA at *; omega)) (by first | assumption | omega | (have := hH k; omega) | (unfold okA at *; omega))).mp (a1h.symm.trans d1h2)
      obtain rfl : w = w2 := (nI_eq (by first | assumption | omega | (have := hH k; omega) | (unfold okA at *; omega)) (by first | assumption | omega | (have := hH k; omega) | (unfold okA at *; omega))).mp (a3h.symm.trans d3h2)
      exact absurd (a4h.symm.trans d4h2) (by decide)
    · obtain rfl : p = p2 := (nI_eq (by first | assumption | omega | (have := hH k; omega) | (unfold okA at *; omega)) (by first | assumption | omega | (have := hH k; omega) | (unfold okA at *; omega))).mp (a1h.symm.trans d1h2)
      obtain rfl : w = w2 := (nI_eq (by first | assumption | omega | (have := hH k; omega) | (unfold okA at *; omega)) (by first | assumption | omega | (have := hH k; omega) | (unfold okA at *; omega))).mp (a3h.symm.trans d3h2)
      exact ⟨G, g1, bq.f28 zf, zq⟩
theorem js_swap : st_swap lwJ := by
  intro a0 S ⟨G, g1, g2, g3⟩
  have hn := g1.1.1
  have hc := g1.1.2.2.2.2.2.2.2.2.1
  have hT := g1.2.2.1.1
  have hS := g1.2.2.2.2.1.1
  have hH := g1.2.2.2.2.2.2.1
  refine q_swap g2 g1 (fun a0h => ?_) (fun w a0h a1h S1 bq bf => ?_)
  · refine z_swap g3 g1 (fun d0h2 => ?_) (fun w2 d0h2 d1h2 S2 zq zf => ?_)
    · exact ⟨G, g1, g2, g3⟩
    · exact absurd d1h2 (a0h w2 (by first | assumption | omega | (have := hH k; omega) | (unfold okA at *; omega)))
  · refine z_swap (g3.fc bf) g1 (fun d0h2 => ?_) (fun w2 d0h2 d1h2 S2 zq zf => ?_)
    · exact absurd a1h (d0h2 w (by first | assumption | omega | (have := hH k; omega) | (unfold okA at *; omega)))
    · obtain rfl : w = w2 := (nI_eq (by first | assumption | omega | (have := hH k; omega) | (unfold okA at *; omega)) (by first | assumption | omega | (have := hH k; omega) | (unfold okA at *; omega))).mp (a1h.symm.trans d1h2)
      exact ⟨G, g1, bq.f28 zf, zq⟩
theorem js_enough : st_enough lwJ := by
  intro S ⟨G, g1, g2, g3⟩
  have hn := g1.1.1
  have hc := g1.1.2.2.2.2.2.2.2.2.1
  have hT := g1.2.2.1.1
  have hS := g1.2.2.2.2.1.1
  have hH := g1.2.2.2.2.2.2.1
  refine q_enough g2 g1 (fun S1 bq bf => ?_)
  · refine z_enough (g3.fc bf) g1 (fun S2 zq zf => ?_)
    · exact ⟨G, g1, bq.f28 zf, zq⟩
theorem js_luck : st_luck lwJ := by
  intro a0 a1 a2 S ⟨G, g1, g2, g3⟩
  have hn := g1.1.1
  have hc := g1.1.2.2.2.2.2.2.2.2.1
  have hT := g1.2.2.1.1
  have hS := g1.2.2.2.2.1.1
  have hH := g1.2.2.2.2.2.2.1
  refine q_luckX g2 g1 (fun a0h => ?_) (fun v p k a0h a1h a2h a3h a4h a5h S1 bq bf => ?_)
  · refine z_luckX g3 g1 (fun d0h2 => ?_) (fun v2 p2 k2 d0h2 d1h2 d2h2 d3h2 d4h2 d5h2 S2 zq zf => ?_)
    · exact ⟨G, g1, g2, g3⟩
    · rcases a0h with a0h | a0h | a0h
      · exact absurd d1h2 (a0h v2 (by first | assumption | omega | (have := hH k; omega) | (unfold okA at *; omega)))
      · exact absurd d3h2 (a0h p2 (by first | assumption | omega | (have := hH k; omega) | (unfold okA at *; omega)))
      · exact absurd d5h2 (a0h k2 (by first | assumption | omega | (have := hH k; omega) | (unfold okA at *; omega)))
  · refine z_luckX (g3.fc bf) g1 (fun d0h2 => ?_) (fun v2 p2 k2 d0h2 d1h2 d2h2 d3h2 d4h2 d5h2 S2 zq zf => ?_)
    · rcases d0h2 with d0h2 | d0h2 | d0h2
      · exact absurd a1h (d0h2 v (by first | assumption | omega | (have := hH k; omega) | (unfold okA at *; omega)))
      · exact absurd a3h (d0h2 p (by first | assumption | omega | (have := hH k; omega) | (unfold okA at *; omega)))
      · exact absurd a5h (d0h2 k (by first | assumption | omega | (have := hH k; omega) | (unfold okA at *; omega)))
    · obtain rfl : v = v2 := (nI_eq (by first | assumption | omega | (have := hH k; omega) | (unfold okA at *; omega)) (by first | assumption | omega | (have := hH k; omega) | (unfold okA at *; omega))).mp (a1h.symm.trans d1h2)
      obtain rfl : p = p2 := (nI_eq (by first | assumption | omega | (have := hH k; omega) | (unfold okA at *; omega)) (by first | assumption | omega | (have := hH k; omega) | (unfold okA at *; omega))).mp (a3h.symm.trans d3h2)
      obtain rfl : k = k2 := (nI_eq (by first | assumption | omega | (have := hH k; omega) | (unfold okA at *; omega)) (by first | assumption | omega | (have := hH k; omega) | (unfold okA at *; omega))).mp (a5h.symm.trans d5h2)
      exact ⟨G, g1, bq.f28 zf, zq⟩
theorem js_mean : st_mean lwJ := by
  intro a0 a1 S ⟨G, g1, g2, g3⟩
  have hn := g1.1.1
  have hc := g1.1.2.2.2.2.2.2.2.2.1
  have hT := g1.2.2.1.1
  have hS := g1.2.2.2.2.1.1
  have hH := g1.2.2.2.2.2.2.1
  refine q_meanX g2 g1 (fun a0h => ?_) (fun v k a0h a1h a2h a3h S1 bq bf => ?_)
  · refine z_meanX g3 g1 (fun d0h2 => ?_) (fun v2 k2 d0h2 d1h2 d2h2 d3h2 S2 zq zf => ?_)
    · exact ⟨G, g1, g2, g3⟩
    · rcases a0h with a0h | a0h
      · exact absurd d1h2 (a0h v2 (by first | assumption | omega | (have := hH k; omega) | (unfold okA at *; omega)))
      · exact absurd d3h2 (a0h k2 (by first | assumption | omega | (have := hH k; omega) | (unfold okA at *; omega)))
  · refine z_meanX (g3.fc bf) g1 (fun d0h2 => ?_) (fun v2 k2 d0h2 d1h2 d2h2 d3h2 S2 zq zf => ?_)
    · rcases d0h2 with d0h2 | d0h2
      · exact absurd a1h (d0h2 v (by first | assumption | omega | (have := hH k; omega) | (unfold okA at *; omega)))
      · exact absurd a3h (d0h2 k (by first | assumption | omega | (have := hH k; omega) | (unfold okA at *; omega)))
    · obtain rfl : v = v2 := (nI_eq (by first | assumption | omega | (have := hH k; omega) | (unfold okA at *; omega)) (by first | assumption | omega | (have := hH k; omega) | (unfold okA at *; omega))).mp (a1h.symm.trans d1h2)
      obtain rfl : k = k2 := (nI_eq (by first | assumption | omega | (have := hH k; omega) | (unfold okA at *; omega)) (by first | assumption | omega | (have := hH k; omega) | (unfold okA at *; omega))).mp (a3h.symm.trans d3h2)
      exact ⟨G, g1, bq.f28 zf, zq⟩
theorem js_see : st_see lwJ := by
  intro a0 a1 S h01 ⟨G, g1, g2, g3⟩
  have hn := g1.1.1
  have hc := g1.1.2.2.2.2.2.2.2.2.1
  have hT := g1.2.2.1.1
  have hS := g1.2.2.2.2.1.1
  have hH := g1.2.2.2.2.2.2.1
  obtain ⟨b, hb⟩ : ∃ b, a1 = bI b := by
    rcases h01 with h | h
    · exact ⟨false, h⟩
    · exact ⟨true, h⟩
  subst hb
  refine q_see g2 g1 (fun a0h => ?_) (fun p a0h a1h a2h => ?_) (fun p a0h a1h a2h S1 bq bf => ?_)
  · refine z_see g3 g1 (fun d0h2 => ?_) (fun p2 d0h2 d1h2 d2h2 => ?_) (fun p2 d0h2 d1h2 d2h2 S2 zq zf => ?_)
    · exact ⟨G, g1, g2, g3⟩
    · exact absurd d1h2 (a0h p2 (by first | assumption | omega | (have := hH k; omega) | (unfold okA at *; omega)))
    · exact absurd d1h2 (a0h p2 (by first | assumption | omega | (have := hH k; omega) | (unfold okA at *; omega)))
  · refine z_see g3 g1 (fun d0h2 => ?_) (fun p2 d0h2 d1h2 d2h2 => ?_) (fun p2 d0h2 d1h2 d2h2 S2 zq zf => ?_)
    · exact absurd a1h (d0h2 p (by first | assumption | omega | (have := hH k; omega) | (unfold okA at *; omega)))
    · obtain rfl : p = p2 := (nI_eq (by first | assumption | omega | (have := hH k; omega) | (unfold okA at *; omega)) (by first | assumption | omega | (have := hH k; omega) | (unfold okA at *; omega))).mp (a1h.symm.trans d1h2)
      exact ⟨G, g1, g2, g3⟩
    · obtain rfl : p = p2 := (nI_eq (by first | assumption | omega | (have := hH k; omega) | (unfold okA at *; omega)) (by first | assumption | omega | (have := hH k; omega) | (unfold okA at *; omega))).mp (a1h.symm.trans d1h2)
      omega
  · refine z_see (g3.fc bf) g1 (fun d0h2 => ?_) (fun p2 d0h2 d1h2 d2h2 => ?_) (fun p2 d0h2 d1h2 d2h2 S2 zq zf => ?_)
    · exact absurd a1h (d0h2 p (by first | assumption | omega | (have := hH k; omega) | (unfold okA at *; omega)))
    · obtain rfl : p = p2 := (nI_eq (by first | assumption | omega | (have := hH k; omega) | (unfold okA at *; omega)) (by first | assumption | omega | (have := hH k; omega) | (unfold okA at *; omega))).mp (a1h.symm.trans d1h2)
      omega
    · obtain rfl : p = p2 := (nI_eq (by first | assumption | omega | (have := hH k; omega) | (unfold okA at *; omega)) (by first | assumption | omega | (have := hH k; omega) | (unfold okA at *; omega))).mp (a1h.symm.trans d1h2)
      exact ⟨_, seeF_wf g1 a2h (by omega) b, bq.f28 zf, zq⟩
theorem js_forget : st_forget lwJ := by
  intro a0 S ⟨G, g1, g2, g3⟩
  have hn := g1.1.1
  have hc := g1.1.2.2.2.2.2.2.2.2.1
  have hT := g1.2.2.1.1
  have hS := g1.2.2.2.2.1.1
  have hH := g1.2.2.2.2.2.2.1
  refine q_forget g2 g1 (fun a0h => ?_) (fun n a0h a1h S1 bq bf => ?_)
  · refine z_forget g3 g1 (fun d0h2 => ?_) (fun n2 d0h2 d1h2 S2 zq zf => ?_)
    · exact ⟨G, g1, g2, g3⟩
    · exact absurd d1h2 (a0h n2 (by first | assumption | omega | (have := hH k; omega) | (unfold okA at *; omega)))
  · refine z_forget (g3.fc bf) g1 (fun d0h2 => ?_) (fun n2 d0h2 d1h2 S2 zq zf => ?_)
    · exact absurd a1h (d0h2 n (by first | assumption | omega | (have := hH k; omega) | (unfold okA at *; omega)))
    · obtain rfl : n = n2 := (nI_eq (by first | assumption | omega | (have := hH k; omega) | (unfold okA at *; omega)) (by first | assumption | omega | (have := hH k; omega) | (unfold okA at *; omega))).mp (a1h.symm.trans d1h2)
      exact ⟨_, forgetF_wf g1 a0h, bq.f28 zf, zq⟩
theorem js_kinds : st_kinds lwJ := by
  intro a0 S ⟨G, g1, g2, g3⟩
  have hn := g1.1.1
  have hc := g1.1.2.2.2.2.2.2.2.2.1
  have hT := g1.2.2.1.1
  have hS := g1.2.2.2.2.1.1
  have hH := g1.2.2.2.2.2.2.1
  refine q_kinds g2 g1 (fun a0h => ?_) (fun p a0h a1h S1 bq bf => ?_)
  · refine z_kinds g3 g1 (fun d0h2 => ?_) (fun p2 d0h2 d1h2 S2 zq zf => ?_)
    · exact ⟨G, g1, g2, g3⟩
    · exact absurd d1h2 (a0h p2 (by first | assumption | omega | (have := hH k; omega) | (unfold okA at *; omega)))
  · refine z_kinds (g3.fc bf) g1 (fun d0h2 => ?_) (fun p2 d0h2 d1h2 S2 zq zf => ?_)
    · exact absurd a1h (d0h2 p (by first | assumption | omega | (have := hH k; omega) | (unfold okA at *; omega)))
    · obtain rfl : p = p2 := (nI_eq (by first | assumption | omega | (have := hH k; omega) | (unfold okA at *; omega)) (by first | assumption | omega | (have := hH k; omega) | (unfold okA at *; omega))).mp (a1h.symm.trans d1h2)
      exact ⟨G, g1, bq.f28 zf, zq⟩
theorem js_sorrows : st_sorrows lwJ := by
  intro a0 S ⟨G, g1, g2, g3⟩
  have hn := g1.1.1
  have hc := g1.1.2.2.2.2.2.2.2.2.1
  have hT := g1.2.2.1.1
  have hS := g1.2.2.2.2.1.1
  have hH := g1.2.2.2.2.2.2.1
  refine q_sorrows g2 g1 (fun a0h => ?_) (fun p a0h a1h S1 bq bf => ?_)
  · refine z_sorrows g3 g1 (fun d0h2 => ?_) (fun p2 d0h2 d1h2 S2 zq zf => ?_)
    · exact ⟨G, g1, g2, g3⟩
    · exact absurd d1h2 (a0h p2 (by first | assumption | omega | (have := hH k; omega) | (unfold okA at *; omega)))
  · refine z_sorrows (g3.fc bf) g1 (fun d0h2 => ?_) (fun p2 d0h2 d1h2 S2 zq zf => ?_)
    · exact absurd a1h (d0h2 p (by first | assumption | omega | (have := hH k; omega) | (unfold okA at *; omega)))
    · obtain rfl : p = p2 := (nI_eq (by first | assumption | omega | (have := hH k; omega) | (unfold okA at *; omega)) (by first | assumption | omega | (have := hH k; omega) | (unfold okA at *; omega))).mp (a1h.symm.trans d1h2)
      exact ⟨G, g1, bq.f28 zf, zq⟩
theorem js_ask : st_ask lwJ := by
  intro a0 a1 S ⟨G, g1, g2, g3⟩
  have hn := g1.1.1
  have hc := g1.1.2.2.2.2.2.2.2.2.1
  have hT := g1.2.2.1.1
  have hS := g1.2.2.2.2.1.1
  have hH := g1.2.2.2.2.2.2.1
  refine q_askX g2 g1 (fun a0h => ?_) (fun p w a0h a1h a2h a3h S1 bq bf => ?_)
  · refine z_askX g3 g1 (fun d0h2 => ?_) (fun p2 w2 d0h2 d1h2 d2h2 d3h2 S2 zq zf => ?_)
    · exact ⟨G, g1, g2, g3⟩
    · rcases a0h with a0h | a0h
      · exact absurd d1h2 (a0h p2 (by first | assumption | omega | (have := hH k; omega) | (unfold okA at *; omega)))
      · exact absurd d3h2 (a0h w2 (by first | assumption | omega | (have := hH k; omega) | (unfold okA at *; omega)))
  · refine z_askX (g3.fc bf) g1 (fun d0h2 => ?_) (fun p2 w2 d0h2 d1h2 d2h2 d3h2 S2 zq zf => ?_)
    · rcases d0h2 with d0h2 | d0h2
      · exact absurd a1h (d0h2 p (by first | assumption | omega | (have := hH k; omega) | (unfold okA at *; omega)))
      · exact absurd a3h (d0h2 w (by first | assumption | omega | (have := hH k; omega) | (unfold okA at *; omega)))
    · obtain rfl : p = p2 := (nI_eq (by first | assumption | omega | (have := hH k; omega) | (unfold okA at *; omega)) (by first | assumption | omega | (have := hH k; omega) | (unfold okA at *; omega))).mp (a1h.symm.trans d1h2)
      obtain rfl : w = w2 := (nI_eq (by first | assumption | omega | (have := hH k; omega) | (unfold okA at *; omega)) (by first | assumption | omega | (have := hH k; omega) | (unfold okA at *; omega))).mp (a3h.symm.trans d3h2)
      exact ⟨G, g1, bq.f28 zf, zq⟩
theorem js_drift : st_drift lwJ := by
  intro a0 a1 a2 S ⟨G, g1, g2, g3⟩
  have hn := g1.1.1
  have hc := g1.1.2.2.2.2.2.2.2.2.1
  have hT := g1.2.2.1.1
  have hS := g1.2.2.2.2.1.1
  have hH := g1.2.2.2.2.2.2.1
  refine q_drift g2 g1 (fun a0h => ?_) (fun n k a0h a1h a2h a3h a4h a5h => ?_) (fun n a0h a1h a2h a3h a4h S1 bq bf => ?_) (fun n a0h a1h a2h a3h a4h S1 bq bf => ?_)
  · refine z_drift g3 g1 (fun d0h2 => ?_) (fun n2 k2 d0h2 d1h2 d2h2 d3h2 d4h2 d5h2 => ?_) (fun n2 d0h2 d1h2 d2h2 d3h2 d4h2 S2 zq zf => ?_) (fun n2 d0h2 d1h2 d2h2 d3h2 d4h2 S2 zq zf => ?_)
    · exact ⟨G, g1, g2, g3⟩
    · rcases a0h with a0h | a0h
      · exact absurd d2h2 (a0h n2 (by first | assumption | omega | (have := hH k; omega) | (unfold okA at *; omega)) (by first | assumption | omega | (have := hH k; omega) | (unfold okA at *; omega)))
      · exact absurd d4h2 (a0h k2 (by first | assumption | omega | (have := hH k; omega) | (unfold okA at *; omega)))
    · rcases a0h with a0h | a0h
      · exact absurd d2h2 (a0h n2 (by first | assumption | omega | (have := hH k; omega) | (unfold okA at *; omega)) (by first | assumption | omega | (have := hH k; omega) | (unfold okA at *; omega)))
      · exact absurd d3h2 (a0h 0 (by decide))
    · rcases a0h with a0h | a0h
      · exact absurd d2h2 (a0h n2 (by first | assumption | omega | (have := hH k; omega) | (unfold okA at *; omega)) (by first | assumption | omega | (have := hH k; omega) | (unfold okA at *; omega)))
      · exact absurd d3h2 (a0h 1 (by decide))
  · refine z_drift g3 g1 (fun d0h2 => ?_) (fun n2 k2 d0h2 d1h2 d2h2 d3h2 d4h2 d5h2 => ?_) (fun n2 d0h2 d1h2 d2h2 d3h2 d4h2 S2 zq zf => ?_) (fun n2 d0h2 d1h2 d2h2 d3h2 d4h2 S2 zq zf => ?_)
    · rcases d0h2 with d0h2 | d0h2
      · exact absurd a2h (d0h2 n (by first | assumption | omega | (have := hH k; omega) | (unfold okA at *; omega)) (by first | assumption | omega | (have := hH k; omega) | (unfold okA at *; omega)))
      · exact absurd a4h (d0h2 k (by first | assumption | omega | (have := hH k; omega) | (unfold okA at *; omega)))
    · obtain rfl : n = n2 := (nI_eq (by first | assumption | omega | (have := hH k; omega) | (unfold okA at *; omega)) (by first | assumption | omega | (have := hH k; omega) | (unfold okA at *; omega))).mp (a2h.symm.trans d2h2)
      obtain rfl : k = k2 := (nI_eq (by first | assumption | omega | (have := hH k; omega) | (unfold okA at *; omega)) (by first | assumption | omega | (have := hH k; omega) | (unfold okA at *; omega))).mp (a4h.symm.trans d4h2)
      exact ⟨G, g1, g2, g3⟩
    · obtain rfl : n = n2 := (nI_eq (by first | assumption | omega | (have := hH k; omega) | (unfold okA at *; omega)) (by first | assumption | omega | (have := hH k; omega) | (unfold okA at *; omega))).mp (a2h.symm.trans d2h2)
      omega
    · obtain rfl : n = n2 := (nI_eq (by first | assumption | omega | (have := hH k; omega) | (unfold okA at *; omega)) (by first | assumption | omega | (have := hH k; omega) | (unfold okA at *; omega))).mp (a2h.symm.trans d2h2)
      omega
  · refine z_drift (g3.fc bf) g1 (fun d0h2 => ?_) (fun n2 k2 d0h2 d1h2 d2h2 d3h2 d4h2 d5h2 => ?_) (fun n2 d0h2 d1h2 d2h2 d3h2 d4h2 S2 zq zf => ?_) (fun n2 d0h2 d1h2 d2h2 d3h2 d4h2 S2 zq zf => ?_)
    · rcases d0h2 with d0h2 | d0h2
      · exact absurd a2h (d0h2 n (by first | assumption | omega | (have := hH k; omega) | (unfold okA at *; omega)) (by first | assumption | omega | (have := hH k; omega) | (unfold okA at *; omega)))
      · exact absurd a3h (d0h2 0 (by decide))
    · obtain rfl : n = n2 := (nI_eq (by first | assumption | omega | (have := hH k; omega) | (unfold okA at *; omega)) (by first | assumption | omega | (have := hH k; omega) | (unfold okA at *; omega))).mp (a2h.symm.trans d2h2)
      omega
    · obtain rfl : n = n2 := (nI_eq (by first | assumption | omega | (have := hH k; omega) | (unfold okA at *; omega)) (by first | assumption | omega | (have := hH k; omega) | (unfold okA at *; omega))).mp (a2h.symm.trans d2h2)
      exact ⟨G, g1, bq.f28 zf, zq⟩
    · obtain rfl : n = n2 := (nI_eq (by first | assumption | omega | (have := hH k; omega) | (unfold okA at *; omega)) (by first | assumption | omega | (have := hH k; omega) | (unfold okA at *; omega))).mp (a2h.symm.trans d2h2)
      exact absurd (a3h.symm.trans d3h2) (by decide)
  · refine z_drift (g3.fc bf) g1 (fun d0h2 => ?_) (fun n2 k2 d0h2 d1h2 d2h2 d3h2 d4h2 d5h2 => ?_) (fun n2 d0h2 d1h2 d2h2 d3h2 d4h2 S2 zq zf => ?_) (fun n2 d0h2 d1h2 d2h2 d3h2 d4h2 S2 zq zf => ?_)
    · rcases d0h2 with d0h2 | d0h2
      · exact absurd a2h (d0h2 n (by first | assumption | omega | (have := hH k; omega) | (unfold okA at *; omega)) (by first | assumption | omega | (have := hH k; omega) | (unfold okA at *; omega)))
      · exact absurd a3h (d0h2 1 (by decide))
    · obtain rfl : n = n2 := (nI_eq (by first | assumption | omega | (have := hH k; omega) | (unfold okA at *; omega)) (by first | assumption | omega | (have := hH k; omega) | (unfold okA at *; omega))).mp (a2h.symm.trans d2h2)
      omega
    · obtain rfl : n = n2 := (nI_eq (by first | assumption | omega | (have := hH k; omega) | (unfold okA at *; omega)) (by first | assumption | omega | (have := hH k; omega) | (unfold okA at *; omega))).mp (a2h.symm.trans d2h2)
      exact absurd (a3h.symm.trans d3h2) (by decide)
    · obtain rfl : n = n2 := (nI_eq (by first | assumption | omega | (have := hH k; omega) | (unfold okA at *; omega)) (by first | assumption | omega | (have := hH k; omega) | (unfold okA at *; omega))).mp (a2h.symm.trans d2h2)
      exact ⟨G, g1, bq.f28 zf, zq⟩
theorem js_keep : st_keep lwJ := by
  intro a0 S ⟨G, g1, g2, g3⟩
  have hn := g1.1.1
  have hc := g1.1.2.2.2.2.2.2.2.2.1
  have hT := g1.2.2.1.1
  have hS := g1.2.2.2.2.1.1
  have hH := g1.2.2.2.2.2.2.1
  refine q_keep g2 g1 (fun a0h => ?_) (fun k a0h a1h S1 bq bf => ?_)
  · refine z_keep g3 g1 (fun d0h2 => ?_) (fun k2 d0h2 d1h2 S2 zq zf => ?_)
    · exact ⟨G, g1, g2, g3⟩
    · exact absurd d1h2 (a0h k2 (by first | assumption | omega | (have := hH k; omega) | (unfold okA at *; omega)))
  · refine z_keep (g3.fc bf) g1 (fun d0h2 => ?_) (fun k2 d0h2 d1h2 S2 zq zf => ?_)
    · exact absurd a1h (d0h2 k (by first | assumption | omega | (have := hH k; omega) | (unfold okA at *; omega)))
    · obtain rfl : k = k2 := (nI_eq (by first | assumption | omega | (have := hH k; omega) | (unfold okA at *; omega)) (by first | assumption | omega | (have := hH k; omega) | (unfold okA at *; omega))).mp (a1h.symm.trans d1h2)
      exact ⟨_, keepF_wf g1 k, bq.f28 zf, zq⟩
theorem js_back : st_back lwJ := by
  intro a0 S ⟨G, g1, g2, g3⟩
  have hn := g1.1.1
  have hc := g1.1.2.2.2.2.2.2.2.2.1
  have hT := g1.2.2.1.1
  have hS := g1.2.2.2.2.1.1
  have hH := g1.2.2.2.2.2.2.1
  refine q_back g2 g1 (fun a0h => ?_) (fun k a0h a1h a2h => ?_) (fun k B a0h a1h a2h S1 bq bf => ?_)
  · refine z_back g3 g1 (fun d0h2 => ?_) (fun k2 d0h2 d1h2 d2h2 => ?_) (fun k2 B2 d0h2 d1h2 d2h2 S2 zq zf => ?_)
    · exact ⟨G, g1, g2, g3⟩
    · exact absurd d1h2 (a0h k2 (by first | assumption | omega | (have := hH k; omega) | (unfold okA at *; omega)))
    · exact absurd d1h2 (a0h k2 (by first | assumption | omega | (have := hH k; omega) | (unfold okA at *; omega)))
  · refine z_back g3 g1 (fun d0h2 => ?_) (fun k2 d0h2 d1h2 d2h2 => ?_) (fun k2 B2 d0h2 d1h2 d2h2 S2 zq zf => ?_)
    · exact absurd a1h (d0h2 k (by first | assumption | omega | (have := hH k; omega) | (unfold okA at *; omega)))
    · obtain rfl : k = k2 := (nI_eq (by first | assumption | omega | (have := hH k; omega) | (unfold okA at *; omega)) (by first | assumption | omega | (have := hH k; omega) | (unfold okA at *; omega))).mp (a1h.symm.trans d1h2)
      exact ⟨G, g1, g2, g3⟩
    · obtain rfl : k = k2 := (nI_eq (by first | assumption | omega | (have := hH k; omega) | (unfold okA at *; omega)) (by first | assumption | omega | (have := hH k; omega) | (unfold okA at *; omega))).mp (a1h.symm.trans d1h2)
      exact absurd (a2h.symm.trans d2h2) (by simp)
  · refine z_back (g3.fc bf) g1 (fun d0h2 => ?_) (fun k2 d0h2 d1h2 d2h2 => ?_) (fun k2 B2 d0h2 d1h2 d2h2 S2 zq zf => ?_)
    · exact absurd a1h (d0h2 k (by first | assumption | omega | (have := hH k; omega) | (unfold okA at *; omega)))
    · obtain rfl : k = k2 := (nI_eq (by first | assumption | omega | (have := hH k; omega) | (unfold okA at *; omega)) (by first | assumption | omega | (have := hH k; omega) | (unfold okA at *; omega))).mp (a1h.symm.trans d1h2)
      exact absurd (a2h.symm.trans d2h2) (by simp)
    · obtain rfl : k = k2 := (nI_eq (by first | assumption | omega | (have := hH k; omega) | (unfold okA at *; omega)) (by first | assumption | omega | (have := hH k; omega) | (unfold okA at *; omega))).mp (a1h.symm.trans d1h2)
      obtain rfl : B = B2 := by have := a2h.symm.trans d2h2; injection this
      exact ⟨_, g1.now (g1.2.1 k B a2h).1 (g1.2.1 k B a2h).2, bq.f28 zf, zq⟩
theorem js_sheet : st_sheet lwJ := by
  intro a0 a1 a2 S ⟨G, g1, g2, g3⟩
  have hn := g1.1.1
  have hc := g1.1.2.2.2.2.2.2.2.2.1
  have hT := g1.2.2.1.1
  have hS := g1.2.2.2.2.1.1
  have hH := g1.2.2.2.2.2.2.1
  refine q_sheet g2 g1 (fun a0h => ?_) (fun k l a0h a1h a2h a3h a4h => ?_) (fun k l n a0h a1h a2h a3h a4h a5h S1 bq bf => ?_)
  · refine z_sheet g3 g1 (fun d0h2 => ?_) (fun k2 l2 d0h2 d1h2 d2h2 d3h2 d4h2 => ?_) (fun k2 l2 n2 d0h2 d1h2 d2h2 d3h2 d4h2 d5h2 S2 zq zf => ?_)
    · exact ⟨G, g1, g2, g3⟩
    · rcases a0h with a0h | a0h | a0h
      · exact absurd d1h2 (a0h k2 (by first | assumption | omega | (have := hH k; omega) | (unfold okA at *; omega)))
      · exact absurd d3h2 (a0h l2 (by first | assumption | omega | (have := hH k; omega) | (unfold okA at *; omega)))
      · exact absurd (jn_le d4h2) a0h
    · rcases a0h with a0h | a0h | a0h
      · exact absurd d1h2 (a0h k2 (by first | assumption | omega | (have := hH k; omega) | (unfold okA at *; omega)))
      · exact absurd d3h2 (a0h l2 (by first | assumption | omega | (have := hH k; omega) | (unfold okA at *; omega)))
      · exact absurd (by rw [d5h2]; exact nI_le (b := 40) (by first | assumption | omega | (have := hH k; omega) | (unfold okA at *; omega)) (by decide)) a0h
  · refine z_sheet g3 g1 (fun d0h2 => ?_) (fun k2 l2 d0h2 d1h2 d2h2 d3h2 d4h2 => ?_) (fun k2 l2 n2 d0h2 d1h2 d2h2 d3h2 d4h2 d5h2 S2 zq zf => ?_)
    · rcases d0h2 with d0h2 | d0h2 | d0h2
      · exact absurd a1h (d0h2 k (by first | assumption | omega | (have := hH k; omega) | (unfold okA at *; omega)))
      · exact absurd a3h (d0h2 l (by first | assumption | omega | (have := hH k; omega) | (unfold okA at *; omega)))
      · exact absurd (jn_le a4h) d0h2
    · obtain rfl : k = k2 := (nI_eq (by first | assumption | omega | (have := hH k; omega) | (unfold okA at *; omega)) (by first | assumption | omega | (have := hH k; omega) | (unfold okA at *; omega))).mp (a1h.symm.trans d1h2)
      obtain rfl : l = l2 := (nI_eq (by first | assumption | omega | (have := hH k; omega) | (unfold okA at *; omega)) (by first | assumption | omega | (have := hH k; omega) | (unfold okA at *; omega))).mp (a3h.symm.trans d3h2)
      exact ⟨G, g1, g2, g3⟩
    · obtain rfl : k = k2 := (nI_eq (by first | assumption | omega | (have := hH k; omega) | (unfold okA at *; omega)) (by first | assumption | omega | (have := hH k; omega) | (unfold okA at *; omega))).mp (a1h.symm.trans d1h2)
      obtain rfl : l = l2 := (nI_eq (by first | assumption | omega | (have := hH k; omega) | (unfold okA at *; omega)) (by first | assumption | omega | (have := hH k; omega) | (unfold okA at *; omega))).mp (a3h.symm.trans d3h2)
      exact absurd (d5h2 ▸ a4h) (nI_pos (by first | assumption | omega | (have := hH k; omega) | (unfold okA at *; omega)))
  · refine z_sheet (g3.fc bf) g1 (fun d0h2 => ?_) (fun k2 l2 d0h2 d1h2 d2h2 d3h2 d4h2 => ?_) (fun k2 l2 n2 d0h2 d1h2 d2h2 d3h2 d4h2 d5h2 S2 zq zf => ?_)
    · rcases d0h2 with d0h2 | d0h2 | d0h2
      · exact absurd a1h (d0h2 k (by first | assumption | omega | (have := hH k; omega) | (unfold okA at *; omega)))
      · exact absurd a3h (d0h2 l (by first | assumption | omega | (have := hH k; omega) | (unfold okA at *; omega)))
      · exact absurd (by rw [a5h]; exact nI_le (b := 40) (by first | assumption | omega | (have := hH k; omega) | (unfold okA at *; omega)) (by decide)) d0h2
    · obtain rfl : k = k2 := (nI_eq (by first | assumption | omega | (have := hH k; omega) | (unfold okA at *; omega)) (by first | assumption | omega | (have := hH k; omega) | (unfold okA at *; omega))).mp (a1h.symm.trans d1h2)
      obtain rfl : l = l2 := (nI_eq (by first | assumption | omega | (have := hH k; omega) | (unfold okA at *; omega)) (by first | assumption | omega | (have := hH k; omega) | (unfold okA at *; omega))).mp (a3h.symm.trans d3h2)
      exact absurd (a5h ▸ d4h2) (nI_pos (by first | assumption | omega | (have := hH k; omega) | (unfold okA at *; omega)))
    · obtain rfl : k = k2 := (nI_eq (by first | assumption | omega | (have := hH k; omega) | (unfold okA at *; omega)) (by first | assumption | omega | (have := hH k; omega) | (unfold okA at *; omega))).mp (a1h.symm.trans d1h2)
      obtain rfl : l = l2 := (nI_eq (by first | assumption | omega | (have := hH k; omega) | (unfold okA at *; omega)) (by first | assumption | omega | (have := hH k; omega) | (unfold okA at *; omega))).mp (a3h.symm.trans d3h2)
      obtain rfl : n = n2 := (nI_eq (by first | assumption | omega | (have := hH k; omega) | (unfold okA at *; omega)) (by first | assumption | omega | (have := hH k; omega) | (unfold okA at *; omega))).mp (a5h.symm.trans d5h2)
      exact ⟨_, sheetF_wf g1 a2h a4h, bq.f28 zf, zq⟩
theorem js_lay : st_lay lwJ := by
  intro a0 a1 a2 S ⟨G, g1, g2, g3⟩
  have hn := g1.1.1
  have hc := g1.1.2.2.2.2.2.2.2.2.1
  have hT := g1.2.2.1.1
  have hS := g1.2.2.2.2.1.1
  have hH := g1.2.2.2.2.2.2.1
  refine q_lay g2 g1 (fun a0h => ?_) (fun k a0h a1h a2h => ?_) (fun k l a0h a1h a2h a3h => ?_) (fun k l i a0h a1h a2h a3h a4h S1 bq bf => ?_)
  · refine z_lay g3 g1 (fun d0h2 => ?_) (fun k2 d0h2 d1h2 d2h2 => ?_) (fun k2 l2 d0h2 d1h2 d2h2 d3h2 => ?_) (fun k2 l2 i2 d0h2 d1h2 d2h2 d3h2 d4h2 S2 zq zf => ?_)
    · exact ⟨G, g1, g2, g3⟩
    · exact absurd d1h2 (a0h k2 (by first | assumption | omega | (have := hH k; omega) | (unfold okA at *; omega)))
    · exact absurd d1h2 (a0h k2 (by first | assumption | omega | (have := hH k; omega) | (unfold okA at *; omega)))
    · exact absurd d1h2 (a0h k2 (by first | assumption | omega | (have := hH k; omega) | (unfold okA at *; omega)))
  · refine z_lay g3 g1 (fun d0h2 => ?_) (fun k2 d0h2 d1h2 d2h2 => ?_) (fun k2 l2 d0h2 d1h2 d2h2 d3h2 => ?_) (fun k2 l2 i2 d0h2 d1h2 d2h2 d3h2 d4h2 S2 zq zf => ?_)
    · exact absurd a1h (d0h2 k (by first | assumption | omega | (have := hH k; omega) | (unfold okA at *; omega)))
    · obtain rfl : k = k2 := (nI_eq (by first | assumption | omega | (have := hH k; omega) | (unfold okA at *; omega)) (by first | assumption | omega | (have := hH k; omega) | (unfold okA at *; omega))).mp (a1h.symm.trans d1h2)
      exact ⟨G, g1, g2, g3⟩
    · obtain rfl : k = k2 := (nI_eq (by first | assumption | omega | (have := hH k; omega) | (unfold okA at *; omega)) (by first | assumption | omega | (have := hH k; omega) | (unfold okA at *; omega))).mp (a1h.symm.trans d1h2)
      exact absurd (a2h.symm.trans d2h2) (by simp)
    · obtain rfl : k = k2 := (nI_eq (by first | assumption | omega | (have := hH k; omega) | (unfold okA at *; omega)) (by first | assumption | omega | (have := hH k; omega) | (unfold okA at *; omega))).mp (a1h.symm.trans d1h2)
      exact absurd (a2h.symm.trans d2h2) (by simp)
  · refine z_lay g3 g1 (fun d0h2 => ?_) (fun k2 d0h2 d1h2 d2h2 => ?_) (fun k2 l2 d0h2 d1h2 d2h2 d3h2 => ?_) (fun k2 l2 i2 d0h2 d1h2 d2h2 d3h2 d4h2 S2 zq zf => ?_)
    · exact absurd a1h (d0h2 k (by first | assumption | omega | (have := hH k; omega) | (unfold okA at *; omega)))
    · obtain rfl : k = k2 := (nI_eq (by first | assumption | omega | (have := hH k; omega) | (unfold okA at *; omega)) (by first | assumption | omega | (have := hH k; omega) | (unfold okA at *; omega))).mp (a1h.symm.trans d1h2)
      exact absurd (a2h.symm.trans d2h2) (by simp)
    · obtain rfl : k = k2 := (nI_eq (by first | assumption | omega | (have := hH k; omega) | (unfold okA at *; omega)) (by first | assumption | omega | (have := hH k; omega) | (unfold okA at *; omega))).mp (a1h.symm.trans d1h2)
      obtain rfl : l = l2 := by have := a2h.symm.trans d2h2; injection this
      exact ⟨G, g1, g2, g3⟩
    · obtain rfl : k = k2 := (nI_eq (by first | assumption | omega | (have := hH k; omega) | (unfold okA at *; omega)) (by first | assumption | omega | (have := hH k; omega) | (unfold okA at *; omega))).mp (a1h.symm.trans d1h2)
      exact absurd d4h2 (a3h i2 (by first | assumption | omega | (have := hH k; omega) | (unfold okA at *; omega)))
  · refine z_lay (g3.fc bf) g1 (fun d0h2 => ?_) (fun k2 d0h2 d1h2 d2h2 => ?_) (fun k2 l2 d0h2 d1h2 d2h2 d3h2 => ?_) (fun k2 l2 i2 d0h2 d1h2 d2h2 d3h2 d4h2 S2 zq zf => ?_)
    · exact absurd a1h (d0h2 k (by first | assumption | omega | (have := hH k; omega) | (unfold okA at *; omega)))
    · obtain rfl : k = k2 := (nI_eq (by first | assumption | omega | (have := hH k; omega) | (unfold okA at *; omega)) (by first | assumption | omega | (have := hH k; omega) | (unfold okA at *; omega))).mp (a1h.symm.trans d1h2)
      exact absurd (a2h.symm.trans d2h2) (by simp)
    · obtain rfl : k = k2 := (nI_eq (by first | assumption | omega | (have := hH k; omega) | (unfold okA at *; omega)) (by first | assumption | omega | (have := hH k; omega) | (unfold okA at *; omega))).mp (a1h.symm.trans d1h2)
      exact absurd a4h (d3h2 i (by first | assumption | omega | (have := hH k; omega) | (unfold okA at *; omega)))
    · obtain rfl : k = k2 := (nI_eq (by first | assumption | omega | (have := hH k; omega) | (unfold okA at *; omega)) (by first | assumption | omega | (have := hH k; omega) | (unfold okA at *; omega))).mp (a1h.symm.trans d1h2)
      obtain rfl : i = i2 := (nI_eq (by first | assumption | omega | (have := hH k; omega) | (unfold okA at *; omega)) (by first | assumption | omega | (have := hH k; omega) | (unfold okA at *; omega))).mp (a4h.symm.trans d4h2)
      obtain rfl : l = l2 := by have := a2h.symm.trans d2h2; injection this
      exact ⟨_, layF_wf g1 a2h, bq.f28 zf, zq⟩
theorem js_read : st_read lwJ := by
  intro a0 a1 a2 a3 S ⟨G, g1, g2, g3⟩
  have hn := g1.1.1
  have hc := g1.1.2.2.2.2.2.2.2.2.1
  have hT := g1.2.2.1.1
  have hS := g1.2.2.2.2.1.1
  have hH := g1.2.2.2.2.2.2.1
  refine q_readX g2 g1 (fun a0h => ?_) (fun k l n a0h a1h a2h a3h a4h a5h S1 bq bf => ?_)
  · refine z_readX g3 g1 (fun d0h2 => ?_) (fun k2 l2 n2 d0h2 d1h2 d2h2 d3h2 d4h2 d5h2 S2 zq zf => ?_)
    · exact ⟨G, g1, g2, g3⟩
    · rcases a0h with a0h | a0h | a0h
      · exact absurd d1h2 (a0h k2 (by first | assumption | omega | (have := hH k; omega) | (unfold okA at *; omega)))
      · exact absurd d3h2 (a0h l2 (by first | assumption | omega | (have := hH k; omega) | (unfold okA at *; omega)))
      · exact absurd d5h2 (a0h n2 (by first | assumption | omega | (have := hH k; omega) | (unfold okA at *; omega)))
  · refine z_readX (g3.fc bf) g1 (fun d0h2 => ?_) (fun k2 l2 n2 d0h2 d1h2 d2h2 d3h2 d4h2 d5h2 S2 zq zf => ?_)
    · rcases d0h2 with d0h2 | d0h2 | d0h2
      · exact absurd a1h (d0h2 k (by first | assumption | omega | (have := hH k; omega) | (unfold okA at *; omega)))
      · exact absurd a3h (d0h2 l (by first | assumption | omega | (have := hH k; omega) | (unfold okA at *; omega)))
      · exact absurd a5h (d0h2 n (by first | assumption | omega | (have := hH k; omega) | (unfold okA at *; omega)))
    · obtain rfl : k = k2 := (nI_eq (by first | assumption | omega | (have := hH k; omega) | (unfold okA at *; omega)) (by first | assumption | omega | (have := hH k; omega) | (unfold okA at *; omega))).mp (a1h.symm.trans d1h2)
      obtain rfl : l = l2 := (nI_eq (by first | assumption | omega | (have := hH k; omega) | (unfold okA at *; omega)) (by first | assumption | omega | (have := hH k; omega) | (unfold okA at *; omega))).mp (a3h.symm.trans d3h2)
      obtain rfl : n = n2 := (nI_eq (by first | assumption | omega | (have := hH k; omega) | (unfold okA at *; omega)) (by first | assumption | omega | (have := hH k; omega) | (unfold okA at *; omega))).mp (a5h.symm.trans d5h2)
      exact ⟨_, rdX_wf g1 _ _ _ g1.1 rfl, bq.f28 zf, zq⟩
theorem js_torn : st_torn lwJ := by
  intro S ⟨G, g1, g2, g3⟩
  have hn := g1.1.1
  have hc := g1.1.2.2.2.2.2.2.2.2.1
  have hT := g1.2.2.1.1
  have hS := g1.2.2.2.2.1.1
  have hH := g1.2.2.2.2.2.2.1
  refine q_torn g2 (?_)
  · refine z_torn g3 (?_)
    · exact ⟨G, g1, g2, g3⟩
theorem js_count : st_count lwJ := by
  intro a0 S ⟨G, g1, g2, g3⟩
  have hn := g1.1.1
  have hc := g1.1.2.2.2.2.2.2.2.2.1
  have hT := g1.2.2.1.1
  have hS := g1.2.2.2.2.1.1
  have hH := g1.2.2.2.2.2.2.1
  refine q_count g2 g1 (fun a0h => ?_) (fun a0h => ?_) (fun a0h => ?_) (fun a0h => ?_) (fun a0h => ?_) (fun a0h => ?_) (fun a0h => ?_)
  · refine z_count g3 g1 (fun d0h2 => ?_) (fun d0h2 => ?_) (fun d0h2 => ?_) (fun d0h2 => ?_) (fun d0h2 => ?_) (fun d0h2 => ?_) (fun d0h2 => ?_)
    · exact ⟨rfl, G, g1, g2, g3⟩
    · exact absurd d0h2 (a0h 0 (by decide))
    · exact absurd d0h2 (a0h 1 (by decide))
    · exact absurd d0h2 (a0h 2 (by decide))
    · exact absurd d0h2 (a0h 3 (by decide))
    · exact absurd d0h2 (a0h 4 (by decide))
    · exact absurd d0h2 (a0h 5 (by decide))
  · refine z_count g3 g1 (fun d0h2 => ?_) (fun d0h2 => ?_) (fun d0h2 => ?_) (fun d0h2 => ?_) (fun d0h2 => ?_) (fun d0h2 => ?_) (fun d0h2 => ?_)
    · exact absurd a0h (d0h2 0 (by decide))
    · exact ⟨rfl, G, g1, g2, g3⟩
    · exact absurd (a0h.symm.trans d0h2) (by decide)
    · exact absurd (a0h.symm.trans d0h2) (by decide)
    · exact absurd (a0h.symm.trans d0h2) (by decide)
    · exact absurd (a0h.symm.trans d0h2) (by decide)
    · exact absurd (a0h.symm.trans d0h2) (by decide)
  · refine z_count g3 g1 (fun d0h2 => ?_) (fun d0h2 => ?_) (fun d0h2 => ?_) (fun d0h2 => ?_) (fun d0h2 => ?_) (fun d0h2 => ?_) (fun d0h2 => ?_)
    · exact absurd a0h (d0h2 1 (by decide))
    · exact absurd (a0h.symm.trans d0h2) (by decide)
    · exact ⟨rfl, G, g1, g2, g3⟩
    · exact absurd (a0h.symm.trans d0h2) (by decide)
    · exact absurd (a0h.symm.trans d0h2) (by decide)
    · exact absurd (a0h.symm.trans d0h2) (by decide)
    · exact absurd (a0h.symm.trans d0h2) (by decide)
  · refine z_count g3 g1 (fun d0h2 => ?_) (fun d0h2 => ?_) (fun d0h2 => ?_) (fun d0h2 => ?_) (fun d0h2 => ?_) (fun d0h2 => ?_) (fun d0h2 => ?_)
    · exact absurd a0h (d0h2 2 (by decide))
    · exact absurd (a0h.symm.trans d0h2) (by decide)
    · exact absurd (a0h.symm.trans d0h2) (by decide)
    · exact ⟨rfl, G, g1, g2, g3⟩
    · exact absurd (a0h.symm.trans d0h2) (by decide)
    · exact absurd (a0h.symm.trans d0h2) (by decide)
    · exact absurd (a0h.symm.trans d0h2) (by decide)
  · refine z_count g3 g1 (fun d0h2 => ?_) (fun d0h2 => ?_) (fun d0h2 => ?_) (fun d0h2 => ?_) (fun d0h2 => ?_) (fun d0h2 => ?_) (fun d0h2 => ?_)
    · exact absurd a0h (d0h2 3 (by decide))
    · exact absurd (a0h.symm.trans d0h2) (by decide)
    · exact absurd (a0h.symm.trans d0h2) (by decide)
    · exact absurd (a0h.symm.trans d0h2) (by decide)
    · exact ⟨rfl, G, g1, g2, g3⟩
    · exact absurd (a0h.symm.trans d0h2) (by decide)
    · exact absurd (a0h.symm.trans d0h2) (by decide)
  · refine z_count g3 g1 (fun d0h2 => ?_) (fun d0h2 => ?_) (fun d0h2 => ?_) (fun d0h2 => ?_) (fun d0h2 => ?_) (fun d0h2 => ?_) (fun d0h2 => ?_)
    · exact absurd a0h (d0h2 4 (by decide))
    · exact absurd (a0h.symm.trans d0h2) (by decide)
    · exact absurd (a0h.symm.trans d0h2) (by decide)
    · exact absurd (a0h.symm.trans d0h2) (by decide)
    · exact absurd (a0h.symm.trans d0h2) (by decide)
    · exact ⟨rfl, G, g1, g2, g3⟩
    · exact absurd (a0h.symm.trans d0h2) (by decide)
  · refine z_count g3 g1 (fun d0h2 => ?_) (fun d0h2 => ?_) (fun d0h2 => ?_) (fun d0h2 => ?_) (fun d0h2 => ?_) (fun d0h2 => ?_) (fun d0h2 => ?_)
    · exact absurd a0h (d0h2 5 (by decide))
    · exact absurd (a0h.symm.trans d0h2) (by decide)
    · exact absurd (a0h.symm.trans d0h2) (by decide)
    · exact absurd (a0h.symm.trans d0h2) (by decide)
    · exact absurd (a0h.symm.trans d0h2) (by decide)
    · exact absurd (a0h.symm.trans d0h2) (by decide)
    · exact ⟨rfl, G, g1, g2, g3⟩
theorem js_all : st_all lwJ := ⟨js_feed, js_end, js_text, js_fault, js_rule, js_one, js_act, js_queue, js_alter, js_room, js_think, js_plan, js_cut, js_thinks, js_minutes, js_tram, js_joy, js_second, js_runs, js_ahead, js_soon, js_best, js_home, js_swap, js_enough, js_luck, js_mean, js_see, js_forget, js_kinds, js_sorrows, js_ask, js_drift, js_keep, js_back, js_sheet, js_lay, js_read, js_torn, js_count⟩
end JJ
