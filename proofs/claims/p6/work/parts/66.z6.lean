section Z6
variable {S : tq_St} {G : aQ} {K : Int32 → tq_St → Prop} {KL : Int64 → tq_St → Prop}
-- A CELL IS LAID
theorem cut8 (v : Int32) : ((v <<< ((24 : Int32) &&& 31)) >>> ((24 : Int32) &&& 31)) = v.toInt8.toInt32 := by
  apply Int32.toBitVec_inj.1
  have e : ((24 : Int32) &&& 31).toBitVec.smod 32 = 24#32 := by decide
  rw [Int32.toBitVec_shiftRight, Int32.toBitVec_shiftLeft]
  show ((v.toBitVec <<< (((24 : Int32) &&& 31).toBitVec.smod 32)).sshiftRight (((24 : Int32) &&& 31).toBitVec.smod 32).toNat) = (v.toBitVec.signExtend 8).signExtend 32
  rw [e]
  apply BitVec.eq_of_getLsbD_eq
  intro i hi
  have e24 : (24#32 : BitVec 32).toNat = 24 := by decide
  simp only [BitVec.getLsbD_sshiftRight, BitVec.getLsbD_signExtend, BitVec.shiftLeft_eq', BitVec.getLsbD_shiftLeft, BitVec.msb_eq_getLsbD_last, e24]
  by_cases c : i < 8
  · have c1 : 24 + i < 32 := by omega
    have d1 : ¬ 32 ≤ i := by omega
    have d2 : ¬ 24 + i < 24 := by omega
    simp [hi, c, c1, d1, d2]
  · have c1 : ¬ 24 + i < 32 := by omega
    simp [hi, c, c1]
    try omega
theorem cut16 (v : Int32) : ((v <<< ((16 : Int32) &&& 31)) >>> ((16 : Int32) &&& 31)) = v.toInt16.toInt32 := by
  apply Int32.toBitVec_inj.1
  have e : ((16 : Int32) &&& 31).toBitVec.smod 32 = 16#32 := by decide
  rw [Int32.toBitVec_shiftRight, Int32.toBitVec_shiftLeft]
  show ((v.toBitVec <<< (((16 : Int32) &&& 31).toBitVec.smod 32)).sshiftRight (((16 : Int32) &&& 31).toBitVec.smod 32).toNat) = (v.toBitVec.signExtend 16).signExtend 32
  rw [e]
  apply BitVec.eq_of_getLsbD_eq
  intro i hi
  have e24 : (16#32 : BitVec 32).toNat = 16 := by decide
  simp only [BitVec.getLsbD_sshiftRight, BitVec.getLsbD_signExtend, BitVec.shiftLeft_eq', BitVec.getLsbD_shiftLeft, BitVec.msb_eq_getLsbD_last, e24]
  by_cases c : i < 16
  · have c1 : 16 + i < 32 := by omega
    have d1 : ¬ 32 ≤ i := by omega
    have d2 : ¬ 16 + i < 16 := by omega
    simp [hi, c, c1, d1, d2]
  · have c1 : ¬ 16 + i < 32 := by omega
    simp [hi, c, c1]
    try omega
theorem z_lay {x y v : Int32} (hG : RZ S G) (hw : wfQ G) (hbad : (∀ k, k ≤ 3 → x ≠ nI k) → K (-1) S) (hnul : ∀ k, k ≤ 3 → x = nI k → (qH G k).1 = none → K (-11) S) (hidx : ∀ k l, k ≤ 3 → x = nI k → (qH G k).1 = some l → (∀ i, i < (qH G k).2.1 → y ≠ nI i) → K (-12) S) (hok : ∀ k l i, k ≤ 3 → x = nI k → (qH G k).1 = some l → i < (qH G k).2.1 → y = nI i → ∀ S', RZ S' (layF G k l i v) → Fr 28 S S' → K 1 S') : wp_X7_lay x y v S K := by
  unfold wp_X7_lay
  refine m_in 0 3 (by decide) (by decide) (by decide) (fun k _ hk e => ⟨fun _ => ⟨by rw [e]; exact vp_in_nI (by omega) (by decide), ?_⟩, fun z => absurd z (by decide)⟩) (fun h => ⟨fun z => absurd rfl z, fun _ => hbad (fun c hc => h c (by omega) hc)⟩)
  subst e
  have v4 : vp_in (nI k) 4 := vp_in_nI (by omega) (by decide)
  have hZ := hG.2.2.2.2.2.1 k (by omega)
  have hl40 := hw.2.2.2.2.2.2.1 k
  rw [nI_clamp (n := k) (by omega)]
  unfold ZH at hZ
  cases e : (qH G k).1 with
  | none =>
    rw [e] at hZ
    rw [hZ]
    exact ⟨fun z => absurd rfl z, fun _ => hnul k hk rfl e⟩
  | some l =>
    rw [e] at hZ
    obtain ⟨c1, c2, c3⟩ := hZ
    have hl := hw.2.2.2.2.2.1 k l e
    rw [c1, c2]
    refine ⟨fun _ => ⟨v4, ?_⟩, fun z => absurd z (oI_ne (by omega))⟩
    refine m_inN (by omega) (fun i hi ei => ⟨fun _ => ⟨v4, ?_⟩, fun z => absurd z (by decide)⟩) (fun h => ⟨fun z => absurd rfl z, fun _ => hidx k l hk rfl e h⟩)
    subst ei
    have e40 : (40 : Int32) * nI k + nI i = nI (40 * k + i) := by
      have e : (40 : Int32) * nI k = nI (40 * k) := pk_mul 40 k
      rw [e, nI_add]
    rw [e40, nI_clamp (n := 40 * k + i) (by omega), c1, cut8, cut16]
    have v160 : vp_in (nI (40 * k + i)) 160 := vp_in_nI (by omega) (by decide)
    have e0 : (0 : Int32) = nI 0 := rfl
    have e1 : (1 : Int32) = nI 1 := rfl
    rw [e0, e1, nI_eq (by omega) (by decide), nI_eq (by omega) (by decide)]
    have hgo : ∀ u : Int32, u = cutL l v → K (nI 1) (sA S 28 27 (40 * k + i) u) := by
      intro u eu
      refine hok k l i hk rfl e hi rfl _ ?_ (Fr.rf.A _ _ _)
      have h9 : RZ (sA S 28 27 (40 * k + i) u) (vH G (un (qH G) k (some l, (qH G k).2.1, un (qH G k).2.2 i (cutL l v)))) := by
        refine RZ.sht (S' := sA S 28 27 (40 * k + i) u) (x := (some l, (qH G k).2.1, un (qH G k).2.2 i (cutL l v))) hG (k := k) rfl (fun j b1 b2 b3 => sA_nk _ _ _ _ _ b3) (fun j hj => ⟨by rw [sA_nk _ _ _ _ _ (by decide)], by rw [sA_nk _ _ _ _ _ (by decide)]⟩) (fun j hj => by rw [sA_at, if_neg (by omega)]) ⟨by rw [sA_nk _ _ _ _ _ (by decide)]; exact c1, by rw [sA_nk _ _ _ _ _ (by decide)]; exact c2, fun j hj => ?_⟩
        show _ = un (qH G k).2.2 i (cutL l v) j
        rw [sA_at]
        by_cases c : j = i
        · rw [if_pos (by omega), c, un_s, eu]
        · rw [if_neg (by omega), un_n _ _ c]; exact c3 j hj
      exact h9
    refine ⟨fun n0 => ⟨v4, fun n1 => ⟨v160, nm_e (hgo _ ?_)⟩, fun n1 => ⟨v160, nm_e (hgo _ ?_)⟩⟩, fun n0 => ⟨v160, nm_e (hgo _ ?_)⟩⟩
    · unfold cutL; rw [if_neg n0, if_neg n1]
    · unfold cutL; rw [if_neg n0, if_pos n1]
    · unfold cutL; rw [if_pos n0]
end Z6
