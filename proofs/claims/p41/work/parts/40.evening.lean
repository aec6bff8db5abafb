section
/-! plain facts on numbers and arrays, to paste: each family by itself; over the kit's rows on nI and upd -/
/-! ===== order of ints, in all its forms, and through longs ===== -/
theorem fa_lt (a b : Int32) : a < b ↔ a.toInt < b.toInt := Int32.lt_iff_toInt_lt
theorem fa_le (a b : Int32) : a ≤ b ↔ a.toInt ≤ b.toInt := Int32.le_iff_toInt_le
theorem fa_eq (a b : Int32) : a = b ↔ a.toInt = b.toInt := Int32.toInt_inj.symm
theorem fa_lt64 (a b : Int64) : a < b ↔ a.toInt < b.toInt := Int64.lt_iff_toInt_lt
theorem fa_le64 (a b : Int64) : a ≤ b ↔ a.toInt ≤ b.toInt := Int64.le_iff_toInt_le
theorem fa_eq64 (a b : Int64) : a = b ↔ a.toInt = b.toInt := Int64.toInt_inj.symm
/-- a comparison of two ints taken as longs -/
theorem fa_wide_lt (a b : Int32) : a.toInt64 < b.toInt64 ↔ a < b := by rw [fa_lt64, fa_lt, Int32.toInt_toInt64, Int32.toInt_toInt64]
theorem fa_wide_le (a b : Int32) : a.toInt64 ≤ b.toInt64 ↔ a ≤ b := by rw [fa_le64, fa_le, Int32.toInt_toInt64, Int32.toInt_toInt64]
theorem fa_wide_eq (a b : Int32) : a.toInt64 = b.toInt64 ↔ a = b := by rw [fa_eq64, fa_eq, Int32.toInt_toInt64, Int32.toInt_toInt64]
/-- one strict comparison gives all the others -/
theorem fa_of_lt {a b : Int32} (h : a < b) : a ≤ b ∧ ¬ b ≤ a ∧ ¬ b < a ∧ a ≠ b ∧ b ≠ a := by
  rw [fa_lt] at h
  refine ⟨?_, ?_, ?_, ?_, ?_⟩
  · rw [fa_le]; omega
  · rw [fa_le]; omega
  · rw [fa_lt]; omega
  · intro e; rw [fa_eq] at e; omega
  · intro e; rw [fa_eq] at e; omega
theorem fa_of_nlt {a b : Int32} (h : ¬ a < b) : b ≤ a := by
  rw [fa_lt] at h
  rw [fa_le]
  omega
theorem fa_of_nle {a b : Int32} (h : ¬ a ≤ b) : b < a := by
  rw [fa_le] at h
  rw [fa_lt]
  omega
theorem fa_le_ne {a b : Int32} (h : a ≤ b) (h2 : a ≠ b) : a < b := by
  rw [fa_le] at h
  rw [fa_lt]
  have h3 : a.toInt ≠ b.toInt := fun e => h2 ((fa_eq a b).mpr e)
  omega
theorem fa_three (a b : Int32) : a < b ∨ a = b ∨ b < a := by
  rw [fa_lt, fa_lt, fa_eq]
  omega
theorem fa_trans {a b c : Int32} (h : a < b) (h2 : b ≤ c) : a < c := by
  rw [fa_lt] at *
  rw [fa_le] at h2
  omega
/-! ===== small literals as numbers ===== -/
theorem fa_lit (n : Nat) : (OfNat.ofNat n : Int32) = nI n := rfl
theorem fa_litL (n : Nat) : (OfNat.ofNat n : Int64) = lN n := rfl
/-! ===== bits of a number: 'or', masks, one bit ===== -/
theorem fa_and (a b : Nat) : nI a &&& nI b = nI (a &&& b) := by
  apply Int32.toBitVec_inj.1
  show BitVec.ofNat 32 a &&& BitVec.ofNat 32 b = BitVec.ofNat 32 (a &&& b)
  apply BitVec.eq_of_getLsbD_eq
  intro i hi
  simp [hi]
theorem fa_or (a b : Nat) : nI a ||| nI b = nI (a ||| b) := by
  apply Int32.toBitVec_inj.1
  show BitVec.ofNat 32 a ||| BitVec.ofNat 32 b = BitVec.ofNat 32 (a ||| b)
  apply BitVec.eq_of_getLsbD_eq
  intro i hi
  simp [hi]
/-- a remainder by a power of two, as a mask -/
theorem fa_mask (n k : Nat) : nI n &&& nI (2 ^ k - 1) = nI (n % 2 ^ k) := by rw [fa_and, Nat.and_two_pow_sub_one_eq_mod]
/-- 'or' of a high part and a low one that don't meet is their sum -/
theorem fa_or_sum {a k : Nat} (b : Nat) (h : a < 2 ^ k) : nI (2 ^ k * b) ||| nI a = nI (2 ^ k * b + a) := by rw [fa_or, Nat.two_pow_add_eq_or_of_lt h]
/-- one bit, by 'and' with a power of two -/
theorem fa_bit {n j : Nat} (hj : j < 31) : nI n &&& nI (2 ^ j) = 0 ↔ n.testBit j = false := by
  have h2 : (2 : Nat) ^ j < 2 ^ 31 := Nat.pow_lt_pow_right (by decide) hj
  have hle : n &&& 2 ^ j ≤ 2 ^ j := Nat.and_le_right
  have e : n &&& 2 ^ j = 0 ↔ n.testBit j = false := by
    constructor
    · intro h
      have h1 : (n &&& 2 ^ j).testBit j = false := by rw [h]; simp
      rw [Nat.testBit_and] at h1
      first | simpa using h1 | simpa [Nat.testBit_two_pow_self] using h1 | simpa [Nat.testBit_two_pow] using h1
    · intro h
      apply Nat.eq_of_testBit_eq
      intro i
      rw [Nat.testBit_and]
      by_cases hi : j = i
      · subst hi; simp [h]
      · first | (simp [Nat.testBit_two_pow, hi]; done) | (simp [Nat.testBit_two_pow_of_ne hi]; done)
  rw [fa_and]
  constructor
  · intro h
    apply e.mp
    rcases Nat.eq_zero_or_pos (n &&& 2 ^ j) with z | z
    · exact z
    · exact absurd h (nI_ne0 z (Nat.lt_of_le_of_lt hle h2))
  · intro h
    rw [e.mpr h]; exact nI_0
/-- a remainder by a power of two of a number that isn't negative, as Java divides -/
theorem fa_rem {a k : Nat} (ha : a < 2 ^ 31) (hk : k < 31) : nI a - nI a / nI (2 ^ k) * nI (2 ^ k) = nI (a % 2 ^ k) := pk_rem ha (Nat.two_pow_pos k) (Nat.pow_lt_pow_right (by decide) hk)
/-! ===== cuts to a byte, a short ===== -/
theorem fa_byte_xor (x y : Int32) : (x ^^^ y).toInt8 = x.toInt8 ^^^ y.toInt8 := by
  apply Int8.toBitVec_inj.1
  apply BitVec.eq_of_getLsbD_eq
  intro i hi
  first | (simp [hi]; done) | (simp [hi, BitVec.getLsbD_setWidth, BitVec.getLsbD_signExtend]; done)
theorem fa_short_xor (x y : Int32) : (x ^^^ y).toInt16 = x.toInt16 ^^^ y.toInt16 := by
  apply Int16.toBitVec_inj.1
  apply BitVec.eq_of_getLsbD_eq
  intro i hi
  first | (simp [hi]; done) | (simp [hi, BitVec.getLsbD_setWidth, BitVec.getLsbD_signExtend]; done)
/-- the cut to a byte sees the low byte alone -/
theorem fa_byte_low (x : Int32) : (x &&& 255).toInt8 = x.toInt8 := by
  apply Int8.toBitVec_inj.1
  apply BitVec.eq_of_getLsbD_eq
  intro i hi
  have h2 : (255 : Int32).toBitVec.getLsbD i = true := by
    have : ∀ j : Fin 8, (255 : Int32).toBitVec.getLsbD j.val = true := by decide +kernel
    exact this ⟨i, hi⟩
  have h4 : (x &&& 255).toBitVec.getLsbD i = x.toBitVec.getLsbD i := by
    show (x.toBitVec &&& (255 : Int32).toBitVec).getLsbD i = _
    rw [BitVec.getLsbD_and, h2, Bool.and_true]
  have h3 : i < 32 := by omega
  first
    | (show (((x &&& 255).toBitVec).signExtend 8).getLsbD i = (x.toBitVec.signExtend 8).getLsbD i; rw [BitVec.getLsbD_signExtend, BitVec.getLsbD_signExtend, if_pos h3, if_pos h3, h4])
    | (show (((x &&& 255).toBitVec).setWidth 8).getLsbD i = (x.toBitVec.setWidth 8).getLsbD i; rw [BitVec.getLsbD_setWidth, BitVec.getLsbD_setWidth, h4])
    | (simp [hi, h3, h4]; done)
theorem fa_short_low (x : Int32) : (x &&& 65535).toInt16 = x.toInt16 := by
  apply Int16.toBitVec_inj.1
  apply BitVec.eq_of_getLsbD_eq
  intro i hi
  have h2 : (65535 : Int32).toBitVec.getLsbD i = true := by
    have : ∀ j : Fin 16, (65535 : Int32).toBitVec.getLsbD j.val = true := by decide +kernel
    exact this ⟨i, hi⟩
  have h4 : (x &&& 65535).toBitVec.getLsbD i = x.toBitVec.getLsbD i := by
    show (x.toBitVec &&& (65535 : Int32).toBitVec).getLsbD i = _
    rw [BitVec.getLsbD_and, h2, Bool.and_true]
  have h3 : i < 32 := by omega
  first
    | (show (((x &&& 65535).toBitVec).signExtend 16).getLsbD i = (x.toBitVec.signExtend 16).getLsbD i; rw [BitVec.getLsbD_signExtend, BitVec.getLsbD_signExtend, if_pos h3, if_pos h3, h4])
    | (show (((x &&& 65535).toBitVec).setWidth 16).getLsbD i = (x.toBitVec.setWidth 16).getLsbD i; rw [BitVec.getLsbD_setWidth, BitVec.getLsbD_setWidth, h4])
    | (simp [hi, h3, h4]; done)
/-- a small number is its own byte, its own short -/
theorem fa_byte_small {n : Nat} (h : n < 128) : (nI n).toInt8.toInt32 = nI n := by
  have : ∀ j : Fin 128, (nI j.val).toInt8.toInt32 = nI j.val := by decide +kernel
  exact this ⟨n, h⟩
/-! ===== absolute difference ===== -/
theorem fa_absdiff {a b : Nat} (ha : a < 2 ^ 31) (hb : b < 2 ^ 31) : (if nI a < nI b then nI b - nI a else nI a - nI b) = nI (if a < b then b - a else a - b) := by
  by_cases h : a < b
  · rw [if_pos (nI_lt h hb), if_pos h]
    exact pk_sub (Nat.le_of_lt h)
  · rw [if_neg (nI_nlt (Nat.le_of_not_lt h) ha), if_neg h]
    exact pk_sub (Nat.le_of_not_lt h)
/-! ===== an array behind i stores, a conditional store, a row copied ===== -/
/-- f where k < i, what stood there else -/
def fa_fill {α : Type} (f g : Nat → α) (i : Nat) : Nat → α := fun k => if k < i then f k else g k
theorem fa_fill_0 {α : Type} (f g : Nat → α) : fa_fill f g 0 = g := funext fun k => if_neg (Nat.not_lt_zero k)
theorem fa_fill_in {α : Type} {f g : Nat → α} {i k : Nat} (h : k < i) : fa_fill f g i k = f k := if_pos h
theorem fa_fill_out {α : Type} {f g : Nat → α} {i k : Nat} (h : i ≤ k) : fa_fill f g i k = g k := if_neg (Nat.not_lt.mpr h)
theorem fa_fill_succ (f g : Nat → Int32) (i : Nat) : upd (fa_fill f g i) i (f i) = fa_fill f g (i + 1) := by
  funext k
  by_cases e : k = i
  · subst e
    rw [pk_us]
    exact (if_pos (Nat.lt_succ_self k)).symm
  · rw [pk_un e]
    by_cases h : k < i
    · rw [fa_fill_in h, fa_fill_in (Nat.lt_succ_of_lt h)]
    · rw [fa_fill_out (Nat.le_of_not_lt h), fa_fill_out (by omega)]
/-- a store that changes nothing -/
theorem fa_upd_same {f : Nat → Int32} {i : Nat} {x : Int32} (h : f i = x) : upd f i x = f := by
  funext k
  by_cases e : k = i
  · subst e
    rw [pk_us, h]
  · rw [pk_un e]
/-- a store under a condition, told as one -/
theorem fa_upd_if (c : Prop) [Decidable c] (f : Nat → Int32) (i : Nat) (x : Int32) : (if c then upd f i x else f) = upd f i (if c then x else f i) := by
  by_cases h : c
  · rw [if_pos h, if_pos h]
  · rw [if_neg h, if_neg h, fa_upd_same rfl]
/-- two stores at one place, at two -/
theorem fa_upd_twice (f : Nat → Int32) (i : Nat) (x y : Int32) : upd (upd f i x) i y = upd f i y := by
  funext k
  by_cases e : k = i
  · subst e
    rw [pk_us, pk_us]
  · rw [pk_un e, pk_un e, pk_un e]
theorem fa_upd_swap (f : Nat → Int32) {i j : Nat} (h : i ≠ j) (x y : Int32) : upd (upd f i x) j y = upd (upd f j y) i x := by
  funext k
  by_cases e : k = i
  · subst e
    rw [pk_un h, pk_us, pk_us]
  · by_cases e2 : k = j
    · subst e2
      rw [pk_us, pk_un e, pk_us]
    · rw [pk_un e2, pk_un e, pk_un e, pk_un e2]
/-! ===== the first index with a property; a count ===== -/
/-- the first k < n with p k, n if there is none -/
def fa_first (p : Nat → Bool) : Nat → Nat
  | 0 => 0
  | n + 1 => if fa_first p n < n then fa_first p n else if p n then n else n + 1
theorem fa_first_le (p : Nat → Bool) : ∀ n, fa_first p n ≤ n
  | 0 => Nat.le_refl 0
  | n + 1 => by
    have ih := fa_first_le p n
    unfold fa_first
    split
    · omega
    · split
      · omega
      · omega
theorem fa_first_no (p : Nat → Bool) : ∀ n k, k < fa_first p n → p k = false
  | 0, k, h => absurd h (Nat.not_lt_zero k)
  | n + 1, k, h => by
    have ih := fa_first_no p n
    have hl := fa_first_le p n
    unfold fa_first at h
    split at h
    · exact ih k h
    · rename_i h1
      split at h
      · exact ih k (by omega)
      · rename_i h2
        by_cases e : k = n
        · subst e
          exact Bool.eq_false_iff.mpr h2
        · exact ih k (by omega)
theorem fa_first_yes (p : Nat → Bool) : ∀ n, fa_first p n < n → p (fa_first p n) = true
  | 0, h => absurd h (Nat.not_lt_zero _)
  | n + 1, h => by
    have ih := fa_first_yes p n
    have hl := fa_first_le p n
    unfold fa_first at h ⊢
    split at h
    · rename_i h1
      rw [if_pos h1]
      exact ih h1
    · rename_i h1
      rw [if_neg h1]
      split at h
      · rename_i h2
        rw [if_pos h2]
        exact h2
      · omega
/-- how many k < n have p k -/
def fa_cnt (p : Nat → Bool) : Nat → Nat
  | 0 => 0
  | n + 1 => fa_cnt p n + if p n then 1 else 0
theorem fa_cnt_le (p : Nat → Bool) : ∀ n, fa_cnt p n ≤ n
  | 0 => Nat.le_refl 0
  | n + 1 => by
    have ih := fa_cnt_le p n
    unfold fa_cnt
    split
    · omega
    · omega
theorem fa_cnt_yes {p : Nat → Bool} {n : Nat} (h : p n = true) : fa_cnt p (n + 1) = fa_cnt p n + 1 := by rw [fa_cnt, if_pos h]
theorem fa_cnt_no {p : Nat → Bool} {n : Nat} (h : p n = false) : fa_cnt p (n + 1) = fa_cnt p n := by rw [fa_cnt, if_neg (by rw [h]; decide)]; rfl
theorem fa_cnt_cong {p q : Nat → Bool} : ∀ {n : Nat}, (∀ k, k < n → p k = q k) → fa_cnt p n = fa_cnt q n
  | 0, _ => rfl
  | n + 1, h => by rw [fa_cnt, fa_cnt, fa_cnt_cong (fun k hk => h k (Nat.lt_succ_of_lt hk)), h n (Nat.lt_succ_self n)]
/-! ===== an answer carried into a post; a branch on a boolean answer ===== -/
theorem fa_post {α : Type} {P : α → Prop} {x y : α} (h : x = y) (hp : P y) : P x := h ▸ hp
theorem fa_post2 {α β : Type} {P : α → β → Prop} {x y : α} {u v : β} (h : x = y) (h2 : u = v) (hp : P y v) : P x u := h ▸ h2 ▸ hp
theorem fa_bool {r : Int32} {b : Bool} (h : r = if b then 1 else 0) : (r = 0 ↔ b = false) ∧ (¬ r = 0 ↔ b = true) := by
  subst h
  cases b
  · exact ⟨⟨fun _ => rfl, fun _ => rfl⟩, ⟨fun h => absurd rfl h, fun h => absurd h (by decide)⟩⟩
  · exact ⟨⟨fun h => absurd h (by decide), fun h => absurd h (by decide)⟩, ⟨fun _ => rfl, fun _ => by decide⟩⟩
/-- a boolean's narrowing changes nothing -/
theorem fa_bool_and {r : Int32} (h : r = 0 ∨ r = 1) : r &&& 1 = r := by
  rcases h with rfl | rfl
  · decide
  · decide
theorem fa_bool_prop {c : Prop} [Decidable c] {r : Int32} (h : r = if c then 1 else 0) : (r = 0 ↔ ¬ c) ∧ (¬ r = 0 ↔ c) := by
  subst h
  by_cases hc : c
  · rw [if_pos hc]
    exact ⟨⟨fun h => absurd h (by decide), fun h => absurd hc h⟩, ⟨fun _ => hc, fun _ => by decide⟩⟩
  · rw [if_neg hc]
    exact ⟨⟨fun _ => hc, fun _ => rfl⟩, ⟨fun h => absurd rfl h, fun h => absurd h hc⟩⟩
end
section
/-! plain facts to paste, each family by itself; over the kit's nI, lN and upd -/
/-! ===== drawers: more things than places ===== -/
theorem fb_holes : ∀ (m n : Nat) (f : Nat → Nat), (∀ i, i < n → f i < m) → (∀ i j, i < j → j < n → f i ≠ f j) → n ≤ m := by
  intro m
  induction m with
  | zero =>
    intro n f h1 _
    rcases Nat.eq_zero_or_pos n with h | h
    · omega
    · exact absurd (h1 0 h) (Nat.not_lt_zero _)
  | succ m ih =>
    intro n f h1 h2
    by_cases hx : ∃ i, i < n ∧ f i = m
    · obtain ⟨a, ha, hfa⟩ := hx
      have hg := ih (n - 1) (fun i => if i < a then f i else f (i + 1)) (by
        intro i hi
        by_cases q : i < a
        · simp only [if_pos q]
          have b1 := h1 i (by omega)
          have b2 := h2 i a q ha
          omega
        · simp only [if_neg q]
          have b1 := h1 (i + 1) (by omega)
          have b2 := h2 a (i + 1) (by omega) (by omega)
          omega) (by
        intro i j hij hj
        by_cases q : i < a
        · by_cases r : j < a
          · simp only [if_pos q, if_pos r]
            exact h2 i j hij (by omega)
          · simp only [if_pos q, if_neg r]
            exact h2 i (j + 1) (by omega) (by omega)
        · have r : ¬ j < a := by omega
          simp only [if_neg q, if_neg r]
          exact h2 (i + 1) (j + 1) (by omega) (by omega))
      omega
    · have hg := ih n f (fun i hi => by
        have b1 := h1 i hi
        have b2 : f i ≠ m := fun e => hx ⟨i, hi, e⟩
        omega) h2
      omega
/-- two of them in one place -/
theorem fb_twice {m n : Nat} {f : Nat → Nat} (h : ∀ i, i < n → f i < m) (hm : m < n) : ∃ i j, i < j ∧ j < n ∧ f i = f j := by
  refine Classical.byContradiction fun hx => ?_
  have := fb_holes m n f h (fun i j hij hj e => hx ⟨i, j, hij, hj, e⟩)
  omega
/-- as many as places, none twice: each place is taken -/
theorem fb_onto {n : Nat} {f : Nat → Nat} (h : ∀ i, i < n → f i < n) (h2 : ∀ i j, i < j → j < n → f i ≠ f j) {y : Nat} (hy : y < n) : ∃ i, i < n ∧ f i = y := by
  refine Classical.byContradiction fun hx => ?_
  have hne : ∀ i, i < n → f i ≠ y := fun i hi e => hx ⟨i, hi, e⟩
  have := fb_holes (n - 1) n (fun i => if f i < y then f i else f i - 1) (by
    intro i hi
    have b1 := h i hi
    have b2 := hne i hi
    by_cases q : f i < y
    · simp only [if_pos q]; omega
    · simp only [if_neg q]; omega) (by
    intro i j hij hj
    have b1 := hne i (by omega)
    have b2 := hne j hj
    have b3 := h2 i j hij hj
    by_cases q : f i < y
    · by_cases r : f j < y
      · simp only [if_pos q, if_pos r]; exact b3
      · simp only [if_pos q, if_neg r]; omega
    · by_cases r : f j < y
      · simp only [if_neg q, if_pos r]; omega
      · simp only [if_neg q, if_neg r]; omega)
  omega
/-! ===== how many places have a property ===== -/
def fb_ct (p : Nat → Bool) : Nat → Nat
  | 0 => 0
  | n + 1 => fb_ct p n + (if p n then 1 else 0)
theorem fb_ct_succ (p : Nat → Bool) (n : Nat) : fb_ct p (n + 1) = fb_ct p n + (if p n then 1 else 0) := rfl
theorem fb_ct_le (p : Nat → Bool) : ∀ n, fb_ct p n ≤ n
  | 0 => Nat.le_refl _
  | n + 1 => by
    have h := fb_ct_le p n
    rw [fb_ct_succ]
    split <;> omega
theorem fb_ct_step (p : Nat → Bool) (m : Nat) : ∀ n, fb_ct p m ≤ fb_ct p (m + n)
  | 0 => Nat.le_refl _
  | n + 1 => by
    have h := fb_ct_step p m n
    show fb_ct p m ≤ fb_ct p (m + n + 1)
    rw [fb_ct_succ]
    omega
theorem fb_ct_mono (p : Nat → Bool) {m n : Nat} (h : m ≤ n) : fb_ct p m ≤ fb_ct p n := by
  have := fb_ct_step p m (n - m)
  rwa [Nat.add_sub_cancel' h] at this
theorem fb_ct_cong {p q : Nat → Bool} : ∀ {n : Nat}, (∀ k, k < n → p k = q k) → fb_ct p n = fb_ct q n
  | 0, _ => rfl
  | n + 1, h => by
    rw [fb_ct_succ, fb_ct_succ, fb_ct_cong (fun k hk => h k (by omega)), h n (by omega)]
/-- one place changed -/
theorem fb_ct_out (p : Nat → Bool) (b : Bool) {i n : Nat} (h : n ≤ i) : fb_ct (fun k => if k = i then b else p k) n = fb_ct p n :=
  fb_ct_cong fun k hk => if_neg (by omega)
theorem fb_ct_upd (p : Nat → Bool) (b : Bool) {i : Nat} : ∀ {n : Nat}, i < n → fb_ct (fun k => if k = i then b else p k) n + (if p i then 1 else 0) = fb_ct p n + (if b then 1 else 0)
  | 0, h => absurd h (Nat.not_lt_zero i)
  | n + 1, h => by
    rw [fb_ct_succ, fb_ct_succ]
    rcases Nat.lt_or_ge i n with q | q
    · have := fb_ct_upd p b q
      have e : (if n = i then b else p n) = p n := if_neg (by omega)
      rw [e]
      omega
    · have e : i = n := by omega
      subst e
      rw [fb_ct_out p b (Nat.le_refl _)]
      simp only [if_true]
      omega
theorem fb_ct_sub {p q : Nat → Bool} : ∀ {n : Nat}, (∀ k, k < n → p k = true → q k = true) → fb_ct p n ≤ fb_ct q n
  | 0, _ => Nat.le_refl _
  | n + 1, h => by
    have h1 := fb_ct_sub (n := n) (p := p) (q := q) (fun k hk => h k (by omega))
    have h2 := h n (by omega)
    rw [fb_ct_succ, fb_ct_succ]
    cases hp : p n <;> cases hq : q n <;> simp_all <;> omega
theorem fb_ct_or {p q : Nat → Bool} : ∀ {n : Nat}, (∀ k, k < n → ¬ (p k = true ∧ q k = true)) → fb_ct (fun k => p k || q k) n = fb_ct p n + fb_ct q n
  | 0, _ => rfl
  | n + 1, h => by
    have h1 := fb_ct_or (n := n) (p := p) (q := q) (fun k hk => h k (by omega))
    have h2 := h n (by omega)
    rw [fb_ct_succ, fb_ct_succ, fb_ct_succ, h1]
    cases hp : p n <;> cases hq : q n <;> simp_all <;> omega
theorem fb_ct_not (p : Nat → Bool) : ∀ n, fb_ct p n + fb_ct (fun k => !p k) n = n
  | 0 => rfl
  | n + 1 => by
    have h := fb_ct_not p n
    rw [fb_ct_succ, fb_ct_succ]
    cases p n <;> simp <;> omega
theorem fb_ct_split (p : Nat → Bool) (m : Nat) : ∀ n, fb_ct p (m + n) = fb_ct p m + fb_ct (fun k => p (m + k)) n
  | 0 => rfl
  | n + 1 => by
    have h := fb_ct_split p m n
    show fb_ct p (m + n + 1) = _
    rw [fb_ct_succ, fb_ct_succ, h, Nat.add_assoc]
theorem fb_ct_zero {p : Nat → Bool} : ∀ {n : Nat}, fb_ct p n = 0 ↔ ∀ k, k < n → p k = false
  | 0 => ⟨fun _ k hk => absurd hk (Nat.not_lt_zero k), fun _ => rfl⟩
  | n + 1 => by
    have h := fb_ct_zero (p := p) (n := n)
    rw [fb_ct_succ]
    constructor
    · intro e k hk
      have e1 : fb_ct p n = 0 := by omega
      rcases Nat.lt_or_ge k n with q | q
      · exact h.mp e1 k q
      · have ek : k = n := by omega
        subst ek
        cases hp : p k
        · rfl
        · simp [hp] at e
    · intro a
      rw [h.mpr (fun k hk => a k (by omega)), a n (by omega)]
      rfl
theorem fb_ct_pos {p : Nat → Bool} {n : Nat} : 0 < fb_ct p n ↔ ∃ k, k < n ∧ p k = true := by
  constructor
  · intro h
    refine Classical.byContradiction fun hx => ?_
    have := fb_ct_zero.mpr (fun k hk => by
      cases hp : p k
      · rfl
      · exact absurd ⟨k, hk, hp⟩ hx : ∀ k, k < n → p k = false)
    omega
  · rintro ⟨k, hk, hp⟩
    rcases Nat.eq_zero_or_pos (fb_ct p n) with e | e
    · have := fb_ct_zero.mp e k hk
      rw [this] at hp
      cases hp
    · exact e
theorem fb_ct_all {p : Nat → Bool} {n : Nat} : fb_ct p n = n ↔ ∀ k, k < n → p k = true := by
  have h := fb_ct_not p n
  constructor
  · intro e k hk
    have z : fb_ct (fun k => !p k) n = 0 := by omega
    have := fb_ct_zero.mp z k hk
    cases hp : p k
    · simp [hp] at this
    · rfl
  · intro a
    have z : fb_ct (fun k => !p k) n = 0 := fb_ct_zero.mpr (fun k hk => by simp [a k hk])
    omega
/-- the k-th place with the property -/
theorem fb_ct_kth {p : Nat → Bool} {k : Nat} : ∀ {n : Nat}, k < fb_ct p n → ∃ i, i < n ∧ p i = true ∧ fb_ct p i = k
  | 0, h => absurd h (Nat.not_lt_zero k)
  | n + 1, h => by
    rcases Nat.lt_or_ge k (fb_ct p n) with q | q
    · obtain ⟨i, h1, h2⟩ := fb_ct_kth q
      exact ⟨i, by omega, h2⟩
    · rw [fb_ct_succ] at h
      cases hp : p n
      · simp [hp] at h; omega
      · simp [hp] at h
        exact ⟨n, by omega, hp, by omega⟩
theorem fb_ct_kth_one {p : Nat → Bool} {i j : Nat} (hi : p i = true) (hj : p j = true) (e : fb_ct p i = fb_ct p j) : i = j := by
  have key : ∀ a b : Nat, a < b → p a = true → fb_ct p a < fb_ct p b := by
    intro a b hab ha
    have h := fb_ct_mono p (show a + 1 ≤ b from hab)
    rw [fb_ct_succ, ha] at h
    simp at h
    omega
  rcases Nat.lt_trichotomy i j with q | q | q
  · have := key i j q hi; omega
  · exact q
  · have := key j i q hj; omega
/-! ===== sums over a range: one place changed, parts, bounds ===== -/
def fb_sm (f : Nat → Nat) : Nat → Nat
  | 0 => 0
  | n + 1 => fb_sm f n + f n
theorem fb_sm_succ (f : Nat → Nat) (n : Nat) : fb_sm f (n + 1) = fb_sm f n + f n := rfl
theorem fb_sm_cong {f g : Nat → Nat} : ∀ {n : Nat}, (∀ k, k < n → f k = g k) → fb_sm f n = fb_sm g n
  | 0, _ => rfl
  | n + 1, h => by rw [fb_sm_succ, fb_sm_succ, fb_sm_cong (fun k hk => h k (by omega)), h n (by omega)]
theorem fb_sm_out (f : Nat → Nat) (v : Nat) {i n : Nat} (h : n ≤ i) : fb_sm (fun k => if k = i then v else f k) n = fb_sm f n :=
  fb_sm_cong fun k hk => if_neg (by omega)
theorem fb_sm_upd (f : Nat → Nat) (v : Nat) {i : Nat} : ∀ {n : Nat}, i < n → fb_sm (fun k => if k = i then v else f k) n + f i = fb_sm f n + v
  | 0, h => absurd h (Nat.not_lt_zero i)
  | n + 1, h => by
    rw [fb_sm_succ, fb_sm_succ]
    rcases Nat.lt_or_ge i n with q | q
    · have := fb_sm_upd f v q
      have e : (if n = i then v else f n) = f n := if_neg (by omega)
      rw [e]
      omega
    · have e : i = n := by omega
      subst e
      rw [fb_sm_out f v (Nat.le_refl _)]
      simp only [if_true]
      omega
theorem fb_sm_add (f g : Nat → Nat) : ∀ n, fb_sm (fun k => f k + g k) n = fb_sm f n + fb_sm g n
  | 0 => rfl
  | n + 1 => by
    have h := fb_sm_add f g n
    rw [fb_sm_succ, fb_sm_succ, fb_sm_succ, h]
    omega
theorem fb_sm_le {f g : Nat → Nat} : ∀ {n : Nat}, (∀ k, k < n → f k ≤ g k) → fb_sm f n ≤ fb_sm g n
  | 0, _ => Nat.le_refl _
  | n + 1, h => by
    have h1 := fb_sm_le (n := n) (f := f) (g := g) (fun k hk => h k (by omega))
    have h2 := h n (by omega)
    rw [fb_sm_succ, fb_sm_succ]
    omega
theorem fb_sm_const (c : Nat) : ∀ n, fb_sm (fun _ => c) n = n * c
  | 0 => by rw [Nat.zero_mul]; rfl
  | n + 1 => by rw [fb_sm_succ, fb_sm_const c n, Nat.succ_mul]
theorem fb_sm_bound {f : Nat → Nat} {c n : Nat} (h : ∀ k, k < n → f k ≤ c) : fb_sm f n ≤ n * c := by
  rw [← fb_sm_const c n]
  exact fb_sm_le h
theorem fb_sm_mono (f : Nat → Nat) (m : Nat) : ∀ n, fb_sm f m ≤ fb_sm f (m + n)
  | 0 => Nat.le_refl _
  | n + 1 => by
    have h := fb_sm_mono f m n
    show fb_sm f m ≤ fb_sm f (m + n + 1)
    rw [fb_sm_succ]
    omega
theorem fb_sm_part (f : Nat → Nat) {i n : Nat} (h : i < n) : fb_sm f i + f i ≤ fb_sm f n := by
  have := fb_sm_mono f (i + 1) (n - (i + 1))
  rw [fb_sm_succ, show i + 1 + (n - (i + 1)) = n by omega] at this
  exact this
theorem fb_sm_split (f : Nat → Nat) (m : Nat) : ∀ n, fb_sm f (m + n) = fb_sm f m + fb_sm (fun k => f (m + k)) n
  | 0 => rfl
  | n + 1 => by
    have h := fb_sm_split f m n
    show fb_sm f (m + n + 1) = _
    rw [fb_sm_succ, fb_sm_succ, h, Nat.add_assoc]
theorem fb_sm_zero {f : Nat → Nat} {n : Nat} (h : fb_sm f n = 0) : ∀ k, k < n → f k = 0 := fun k hk => by
  have := fb_sm_part f hk
  omega
/-- the same over whole numbers -/
def fb_si (f : Nat → Int) : Nat → Int
  | 0 => 0
  | n + 1 => fb_si f n + f n
theorem fb_si_succ (f : Nat → Int) (n : Nat) : fb_si f (n + 1) = fb_si f n + f n := rfl
theorem fb_si_cong {f g : Nat → Int} : ∀ {n : Nat}, (∀ k, k < n → f k = g k) → fb_si f n = fb_si g n
  | 0, _ => rfl
  | n + 1, h => by rw [fb_si_succ, fb_si_succ, fb_si_cong (fun k hk => h k (by omega)), h n (by omega)]
theorem fb_si_out (f : Nat → Int) (v : Int) {i n : Nat} (h : n ≤ i) : fb_si (fun k => if k = i then v else f k) n = fb_si f n :=
  fb_si_cong fun k hk => if_neg (by omega)
theorem fb_si_upd (f : Nat → Int) (v : Int) {i : Nat} : ∀ {n : Nat}, i < n → fb_si (fun k => if k = i then v else f k) n = fb_si f n - f i + v
  | 0, h => absurd h (Nat.not_lt_zero i)
  | n + 1, h => by
    rw [fb_si_succ, fb_si_succ]
    rcases Nat.lt_or_ge i n with q | q
    · have := fb_si_upd f v q
      have e : (if n = i then v else f n) = f n := if_neg (by omega)
      rw [e]
      omega
    · have e : i = n := by omega
      subst e
      rw [fb_si_out f v (Nat.le_refl _)]
      simp only [if_true]
      omega
theorem fb_si_add (f g : Nat → Int) : ∀ n, fb_si (fun k => f k + g k) n = fb_si f n + fb_si g n
  | 0 => rfl
  | n + 1 => by
    have h := fb_si_add f g n
    rw [fb_si_succ, fb_si_succ, fb_si_succ, h]
    omega
theorem fb_si_sub (f g : Nat → Int) : ∀ n, fb_si (fun k => f k - g k) n = fb_si f n - fb_si g n
  | 0 => rfl
  | n + 1 => by
    have h := fb_si_sub f g n
    rw [fb_si_succ, fb_si_succ, fb_si_succ, h]
    omega
theorem fb_si_mul (c : Int) (f : Nat → Int) : ∀ n, fb_si (fun k => c * f k) n = c * fb_si f n
  | 0 => (Int.mul_zero c).symm
  | n + 1 => by
    have h := fb_si_mul c f n
    rw [fb_si_succ, fb_si_succ, h, Int.mul_add]
theorem fb_si_split (f : Nat → Int) (m : Nat) : ∀ n, fb_si f (m + n) = fb_si f m + fb_si (fun k => f (m + k)) n
  | 0 => (Int.add_zero _).symm
  | n + 1 => by
    have h := fb_si_split f m n
    show fb_si f (m + n + 1) = _
    rw [fb_si_succ, fb_si_succ, h, Int.add_assoc]
theorem fb_si_nat (f : Nat → Nat) : ∀ n, fb_si (fun k => (f k : Int)) n = (fb_sm f n : Int)
  | 0 => rfl
  | n + 1 => by
    have h := fb_si_nat f n
    rw [fb_si_succ, fb_sm_succ, h]
    omega
theorem fb_si_bound {f : Nat → Int} {c : Int} (hc : 0 ≤ c) : ∀ {n : Nat}, (∀ k, k < n → -c ≤ f k ∧ f k ≤ c) → -(n * c) ≤ fb_si f n ∧ fb_si f n ≤ n * c
  | 0, _ => by simp [fb_si]
  | n + 1, h => by
    have h1 := fb_si_bound (n := n) (f := f) hc (fun k hk => h k (by omega))
    have h2 := h n (by omega)
    have e : ((n + 1 : Nat) : Int) * c = n * c + c := by rw [Int.natCast_add, Int.add_mul]; simp
    rw [fb_si_succ, e]
    omega
/-! ===== bits of a long that isn't negative ===== -/
theorem fb_andL (a b : Nat) : lN a &&& lN b = lN (a &&& b) := by
  apply Int64.toBitVec_inj.1
  show BitVec.ofNat 64 a &&& BitVec.ofNat 64 b = BitVec.ofNat 64 (a &&& b)
  apply BitVec.eq_of_getLsbD_eq
  intro i hi
  simp [hi]
theorem fb_orL (a b : Nat) : lN a ||| lN b = lN (a ||| b) := by
  apply Int64.toBitVec_inj.1
  show BitVec.ofNat 64 a ||| BitVec.ofNat 64 b = BitVec.ofNat 64 (a ||| b)
  apply BitVec.eq_of_getLsbD_eq
  intro i hi
  simp [hi]
theorem fb_xorL (a b : Nat) : lN a ^^^ lN b = lN (a ^^^ b) := by
  apply Int64.toBitVec_inj.1
  show BitVec.ofNat 64 a ^^^ BitVec.ofNat 64 b = BitVec.ofNat 64 (a ^^^ b)
  apply BitVec.eq_of_getLsbD_eq
  intro i hi
  simp [hi]
theorem fb_xorI (a b : Nat) : nI a ^^^ nI b = nI (a ^^^ b) := by
  apply Int32.toBitVec_inj.1
  show BitVec.ofNat 32 a ^^^ BitVec.ofNat 32 b = BitVec.ofNat 32 (a ^^^ b)
  apply BitVec.eq_of_getLsbD_eq
  intro i hi
  simp [hi]
theorem fb_maskL (n k : Nat) : lN n &&& lN (2 ^ k - 1) = lN (n % 2 ^ k) := by rw [fb_andL, Nat.and_two_pow_sub_one_eq_mod]
theorem fb_or_sumL {a k : Nat} (b : Nat) (h : a < 2 ^ k) : lN (2 ^ k * b) ||| lN a = lN (2 ^ k * b + a) := by rw [fb_orL, Nat.two_pow_add_eq_or_of_lt h]
theorem fb_lN_inj {a b : Nat} (ha : a < 2 ^ 63) (hb : b < 2 ^ 63) : lN a = lN b ↔ a = b := by
  constructor
  · intro h
    have h1 : (BitVec.ofNat 64 a).toNat = (BitVec.ofNat 64 b).toNat := congrArg (fun x : Int64 => x.toBitVec.toNat) h
    rw [BitVec.toNat_ofNat, BitVec.toNat_ofNat, Nat.mod_eq_of_lt (by omega), Nat.mod_eq_of_lt (by omega)] at h1
    exact h1
  · rintro rfl; rfl
theorem fb_bit_nat (n j : Nat) : n &&& 2 ^ j = 0 ↔ n.testBit j = false := by
  constructor
  · intro h
    have h1 : (n &&& 2 ^ j).testBit j = false := by rw [h]; simp
    rw [Nat.testBit_and] at h1
    simpa using h1
  · intro h
    apply Nat.eq_of_testBit_eq
    intro i
    rw [Nat.testBit_and]
    by_cases hi : j = i
    · subst hi; simp [h]
    · first | (simp [Nat.testBit_two_pow, hi]; done) | (simp [Nat.testBit_two_pow_of_ne hi]; done)
/-- one bit of a long -/
theorem fb_bitL {n j : Nat} (hj : j < 63) : lN n &&& lN (2 ^ j) = 0 ↔ n.testBit j = false := by
  have h2 : (2 : Nat) ^ j < 2 ^ 63 := Nat.pow_lt_pow_right (by decide) hj
  have hle : n &&& 2 ^ j ≤ 2 ^ j := Nat.and_le_right
  rw [fb_andL, ← fb_bit_nat, show (0 : Int64) = lN 0 from rfl]
  exact fb_lN_inj (by omega) (by decide)
/-- a bit set, a bit taken off -/
theorem fb_bit_set (n j i : Nat) : (n ||| 2 ^ j).testBit i = (n.testBit i || decide (i = j)) := by
  rw [Nat.testBit_or]
  by_cases h : j = i
  · subst h; simp
  · have h2 : ¬ i = j := fun e => h e.symm
    first | (simp [Nat.testBit_two_pow, h, h2]; done) | (simp [Nat.testBit_two_pow_of_ne h, h2]; done)
theorem fb_bit_flip (n j i : Nat) : (n ^^^ 2 ^ j).testBit i = (n.testBit i ^^ decide (i = j)) := by
  rw [Nat.testBit_xor]
  by_cases h : j = i
  · subst h; simp
  · have h2 : ¬ i = j := fun e => h e.symm
    first | (simp [Nat.testBit_two_pow, h, h2]; done) | (simp [Nat.testBit_two_pow_of_ne h, h2]; done)
/-! ===== a stretch of an array written over by a function ===== -/
def fb_put {α : Type} (f g : Nat → α) (a n : Nat) : Nat → α := fun k => if a ≤ k ∧ k < a + n then g (k - a) else f k
theorem fb_put_0 {α : Type} (f g : Nat → α) (a : Nat) : fb_put f g a 0 = f := funext fun k => if_neg (by omega)
theorem fb_put_in {α : Type} {f g : Nat → α} {a n k : Nat} (h1 : a ≤ k) (h2 : k < a + n) : fb_put f g a n k = g (k - a) := if_pos ⟨h1, h2⟩
theorem fb_put_out {α : Type} {f g : Nat → α} {a n k : Nat} (h : k < a ∨ a + n ≤ k) : fb_put f g a n k = f k := if_neg (by omega)
theorem fb_put_succ (f g : Nat → Int32) (a n : Nat) : upd (fb_put f g a n) (a + n) (g n) = fb_put f g a (n + 1) := by
  funext k
  by_cases h : k = a + n
  · subst h
    simp [upd, fb_put]
  · by_cases h1 : a ≤ k ∧ k < a + n
    · have h2 : a ≤ k ∧ k < a + (n + 1) := by omega
      simp only [upd, fb_put, if_neg h, if_pos h1, if_pos h2]
    · have h2 : ¬ (a ≤ k ∧ k < a + (n + 1)) := by omega
      simp only [upd, fb_put, if_neg h, if_neg h1, if_neg h2]
/-- .. from the far end down -/
theorem fb_put_down (f g : Nat → Int32) {a n m : Nat} (h : m < n) : upd (fb_put f (fun k => g (k + (m + 1))) (a + (m + 1)) (n - (m + 1))) (a + m) (g m) = fb_put f (fun k => g (k + m)) (a + m) (n - m) := by
  funext k
  by_cases h0 : k = a + m
  · subst h0
    simp only [upd, if_true]
    rw [fb_put_in (by omega) (by omega)]
    exact congrArg g (by omega)
  · simp only [upd, if_neg h0]
    by_cases h1 : a + (m + 1) ≤ k ∧ k < a + (m + 1) + (n - (m + 1))
    · rw [fb_put_in h1.1 h1.2, fb_put_in (by omega) (by omega)]
      exact congrArg g (by omega)
    · rw [fb_put_out (by omega), fb_put_out (by omega)]
theorem fb_put_cong {α : Type} {f f2 g g2 : Nat → α} {a n : Nat} (hf : ∀ k, (k < a ∨ a + n ≤ k) → f k = f2 k) (hg : ∀ k, k < n → g k = g2 k) : fb_put f g a n = fb_put f2 g2 a n := by
  funext k
  by_cases h : a ≤ k ∧ k < a + n
  · rw [fb_put_in h.1 h.2, fb_put_in h.1 h.2, hg _ (by omega)]
  · rw [fb_put_out (by omega), fb_put_out (by omega), hf _ (by omega)]
/-! ===== the least, the first, the best so far; that there is one alone ===== -/
theorem fb_first {p : Nat → Prop} [DecidablePred p] : ∀ {n : Nat}, (∃ i, i < n ∧ p i) → ∃ i, i < n ∧ p i ∧ ∀ j, j < i → ¬ p j
  | 0, h => by obtain ⟨i, hi, -⟩ := h; exact absurd hi (Nat.not_lt_zero i)
  | n + 1, h => by
    by_cases q : ∃ i, i < n ∧ p i
    · obtain ⟨i, h1, h2⟩ := fb_first q
      exact ⟨i, by omega, h2⟩
    · obtain ⟨i, h1, h2⟩ := h
      have e : i = n := by
        rcases Nat.lt_or_ge i n with r | r
        · exact absurd ⟨i, r, h2⟩ q
        · omega
      subst e
      exact ⟨i, by omega, h2, fun j hj hp => q ⟨j, hj, hp⟩⟩
theorem fb_first_one {p : Nat → Prop} {i j : Nat} (hi : p i) (hi2 : ∀ k, k < i → ¬ p k) (hj : p j) (hj2 : ∀ k, k < j → ¬ p k) : i = j := by
  rcases Nat.lt_trichotomy i j with q | q | q
  · exact absurd hi (hj2 i q)
  · exact q
  · exact absurd hj (hi2 j q)
theorem fb_last {p : Nat → Prop} [DecidablePred p] : ∀ {n : Nat}, (∃ i, i < n ∧ p i) → ∃ i, i < n ∧ p i ∧ ∀ j, i < j → j < n → ¬ p j
  | 0, h => by obtain ⟨i, hi, -⟩ := h; exact absurd hi (Nat.not_lt_zero i)
  | n + 1, h => by
    by_cases q : p n
    · exact ⟨n, by omega, q, fun j h1 h2 => by omega⟩
    · obtain ⟨i, h1, h2⟩ := h
      have hi : i < n := by
        rcases Nat.lt_or_ge i n with r | r
        · exact r
        · have e : i = n := by omega
          subst e
          exact absurd h2 q
      obtain ⟨i2, a1, a2, a3⟩ := fb_last (n := n) ⟨i, hi, h2⟩
      refine ⟨i2, by omega, a2, fun j b1 b2 => ?_⟩
      rcases Nat.lt_or_ge j n with r | r
      · exact a3 j b1 r
      · have e : j = n := by omega
        subst e
        exact q
/-- the first greatest -/
theorem fb_best (f : Nat → Int) : ∀ {n : Nat}, 0 < n → ∃ i, i < n ∧ (∀ j, j < n → f j ≤ f i) ∧ ∀ j, j < i → f j < f i
  | 0, h => absurd h (Nat.lt_irrefl 0)
  | 1, _ => ⟨0, by omega, fun j hj => by have e : j = 0 := by omega
                                         subst e; exact Int.le_refl _, fun j hj => absurd hj (Nat.not_lt_zero j)⟩
  | n + 2, _ => by
    obtain ⟨i, h1, h2, h3⟩ := fb_best f (n := n + 1) (by omega)
    by_cases q : f i < f (n + 1)
    · refine ⟨n + 1, by omega, fun j hj => ?_, fun j hj => ?_⟩
      · rcases Nat.lt_or_ge j (n + 1) with r | r
        · have := h2 j r; omega
        · have e : j = n + 1 := by omega
          subst e; exact Int.le_refl _
      · have := h2 j hj; omega
    · refine ⟨i, by omega, fun j hj => ?_, h3⟩
      rcases Nat.lt_or_ge j (n + 1) with r | r
      · exact h2 j r
      · have e : j = n + 1 := by omega
        subst e; omega
theorem fb_best_one {f : Nat → Int} {n i j : Nat} (hi : i < n) (hi2 : ∀ k, k < n → f k ≤ f i) (hi3 : ∀ k, k < i → f k < f i) (hj : j < n) (hj2 : ∀ k, k < n → f k ≤ f j) (hj3 : ∀ k, k < j → f k < f j) : i = j := by
  rcases Nat.lt_trichotomy i j with q | q | q
  · have a := hj3 i q
    have b := hi2 j hj
    omega
  · exact q
  · have a := hi3 j q
    have b := hj2 i hi
    omega
/-- the first least -/
theorem fb_low (f : Nat → Int) {n : Nat} (h : 0 < n) : ∃ i, i < n ∧ (∀ j, j < n → f i ≤ f j) ∧ ∀ j, j < i → f i < f j := by
  obtain ⟨i, h1, h2, h3⟩ := fb_best (fun k => -f k) h
  exact ⟨i, h1, fun j hj => by have := h2 j hj; omega, fun j hj => by have := h3 j hj; omega⟩
/-! ===== signed ints as whole numbers, within bounds ===== -/
theorem fb_rng (x : Int32) : -2147483648 ≤ x.toInt ∧ x.toInt < 2147483648 := by
  have h1 := Int32.le_toInt x
  have h2 := Int32.toInt_lt x
  omega
theorem fb_bmod {z : Int} (h1 : -2147483648 ≤ z) (h2 : z < 2147483648) : z.bmod (2 ^ 32) = z := by
  rw [Int.bmod_eq_of_le (by omega) (by omega)]
theorem fb_addI {x y : Int32} (h1 : -2147483648 ≤ x.toInt + y.toInt) (h2 : x.toInt + y.toInt < 2147483648) : (x + y).toInt = x.toInt + y.toInt := by
  rw [Int32.toInt_add, fb_bmod h1 h2]
theorem fb_subI {x y : Int32} (h1 : -2147483648 ≤ x.toInt - y.toInt) (h2 : x.toInt - y.toInt < 2147483648) : (x - y).toInt = x.toInt - y.toInt := by
  rw [Int32.toInt_sub, fb_bmod h1 h2]
theorem fb_mulI {x y : Int32} (h1 : -2147483648 ≤ x.toInt * y.toInt) (h2 : x.toInt * y.toInt < 2147483648) : (x * y).toInt = x.toInt * y.toInt := by
  rw [Int32.toInt_mul, fb_bmod h1 h2]
theorem fb_negI {x : Int32} (h : x.toInt ≠ -2147483648) : (-x).toInt = -x.toInt := by
  have := fb_rng x
  rw [Int32.toInt_neg, fb_bmod (by omega) (by omega)]
theorem fb_ofI {z : Int} (h1 : -2147483648 ≤ z) (h2 : z < 2147483648) : (Int32.ofInt z).toInt = z := by
  rw [Int32.toInt_ofInt, fb_bmod h1 h2]
theorem fb_asI (x : Int32) : Int32.ofInt x.toInt = x := Int32.ofInt_toInt x
theorem fb_rngL (x : Int64) : -9223372036854775808 ≤ x.toInt ∧ x.toInt < 9223372036854775808 := by
  have h1 := Int64.le_toInt x
  have h2 := Int64.toInt_lt x
  omega
theorem fb_bmodL {z : Int} (h1 : -9223372036854775808 ≤ z) (h2 : z < 9223372036854775808) : z.bmod (2 ^ 64) = z := by
  rw [Int.bmod_eq_of_le (by omega) (by omega)]
theorem fb_addL {x y : Int64} (h1 : -9223372036854775808 ≤ x.toInt + y.toInt) (h2 : x.toInt + y.toInt < 9223372036854775808) : (x + y).toInt = x.toInt + y.toInt := by
  rw [Int64.toInt_add, fb_bmodL h1 h2]
theorem fb_subL {x y : Int64} (h1 : -9223372036854775808 ≤ x.toInt - y.toInt) (h2 : x.toInt - y.toInt < 9223372036854775808) : (x - y).toInt = x.toInt - y.toInt := by
  rw [Int64.toInt_sub, fb_bmodL h1 h2]
theorem fb_mulL {x y : Int64} (h1 : -9223372036854775808 ≤ x.toInt * y.toInt) (h2 : x.toInt * y.toInt < 9223372036854775808) : (x * y).toInt = x.toInt * y.toInt := by
  rw [Int64.toInt_mul, fb_bmodL h1 h2]
/-! ===== cuts of what is narrow already ===== -/
theorem fb_byte {x : Int32} (h1 : -128 ≤ x.toInt) (h2 : x.toInt < 128) : x.toInt8.toInt32 = x := by
  apply Int32.toInt_inj.1
  rw [Int8.toInt_toInt32, Int32.toInt_toInt8, Int.bmod_eq_of_le (by omega) (by omega)]
theorem fb_short {x : Int32} (h1 : -32768 ≤ x.toInt) (h2 : x.toInt < 32768) : x.toInt16.toInt32 = x := by
  apply Int32.toInt_inj.1
  rw [Int16.toInt_toInt32, Int32.toInt_toInt16, Int.bmod_eq_of_le (by omega) (by omega)]
theorem fb_byte_rng (x : Int32) : -128 ≤ x.toInt8.toInt32.toInt ∧ x.toInt8.toInt32.toInt < 128 := by
  rw [Int8.toInt_toInt32]
  have h1 := Int8.le_toInt x.toInt8
  have h2 := Int8.toInt_lt x.toInt8
  omega
theorem fb_short_rng (x : Int32) : -32768 ≤ x.toInt16.toInt32.toInt ∧ x.toInt16.toInt32.toInt < 32768 := by
  rw [Int16.toInt_toInt32]
  have h1 := Int16.le_toInt x.toInt16
  have h2 := Int16.toInt_lt x.toInt16
  omega
theorem fb_byte_twice (x : Int32) : x.toInt8.toInt32.toInt8.toInt32 = x.toInt8.toInt32 := fb_byte (fb_byte_rng x).1 (fb_byte_rng x).2
theorem fb_short_twice (x : Int32) : x.toInt16.toInt32.toInt16.toInt32 = x.toInt16.toInt32 := fb_short (fb_short_rng x).1 (fb_short_rng x).2
theorem fb_char {n : Nat} (h : n < 65536) : (nI n).toUInt32.toUInt16.toUInt32.toInt32 = nI n := by
  apply Int32.toBitVec_inj.1
  apply BitVec.eq_of_toNat_eq
  have e1 : (nI n).toBitVec.toNat = n := by
    show (BitVec.ofNat 32 n).toNat = n
    rw [BitVec.toNat_ofNat, Nat.mod_eq_of_lt (by omega)]
  have e2 : ((nI n).toUInt32.toUInt16.toUInt32).toNat = n := by
    rw [UInt16.toNat_toUInt32, UInt32.toNat_toUInt16]
    show (nI n).toBitVec.toNat % 2 ^ 16 = n
    rw [e1, Nat.mod_eq_of_lt (by omega)]
  rw [e1]
  exact e2
end
section
-- BITS of small numbers
theorem s_l : ∀ n, n < 32 → ((nI n &&& 31).toBitVec.smod 32).toNat = n := by decide +kernel
theorem s_u : ∀ n, n < 32 → (((nI n).toUInt32 &&& Int32.toUInt32 31).toBitVec % 32).toNat = n := by decide +kernel
theorem zb_val {g j : Nat} (hg : g < 2 ^ 31) (hj : j < 31) : ((nI g) >>> ((nI j) &&& 31)) &&& 1 = nI (if g.testBit j then 1 else 0) := by
  rw [pk_shrN hg _ j (s_l j (by omega))]
  have h1 : g / 2 ^ j < 2 ^ 32 := Nat.lt_of_le_of_lt (Nat.div_le_self _ _) (by omega)
  rw [pk_andN h1 (m := 1) 1 (by decide)]
  congr 1
  rw [Nat.testBit_eq_decide_div_mod_eq]
  have h2 : g / 2 ^ j % 2 < 2 := Nat.mod_lt _ (by decide)
  by_cases h : g / 2 ^ j % 2 = 1
  · simp [h]
  · have h3 : g / 2 ^ j % 2 = 0 := by omega
    simp [h3]
theorem zb_0 {g j : Nat} (hg : g < 2 ^ 31) (hj : j < 31) : (((nI g) >>> ((nI j) &&& 31)) &&& 1 : Int32) = 0 ↔ g.testBit j = false := by
  rw [zb_val hg hj]
  cases g.testBit j <;> simp <;> decide
theorem zb_1 {g j : Nat} (hg : g < 2 ^ 31) (hj : j < 31) : (((nI g) >>> ((nI j) &&& 31)) &&& 1 : Int32) = 1 ↔ g.testBit j = true := by
  rw [zb_val hg hj]
  cases g.testBit j <;> simp <;> decide
theorem zb_shl {q : Nat} (hq : q < 31) : (1 : Int32) <<< ((nI q) &&& 31) = nI (2 ^ q) := by
  have h : (1 : Int32) = nI 1 := rfl
  have h2 : 2 ^ q < 2 ^ 31 := Nat.pow_lt_pow_right (by decide) hq
  rw [h, pk_shlN _ q (s_l q (by omega)) (by omega), Nat.one_mul]
theorem zb_or {w q : Nat} (hq : q < 31) : nI w ||| ((1 : Int32) <<< ((nI q) &&& 31)) = nI (w ||| 2 ^ q) := by
  rw [zb_shl hq, fa_or]
theorem zb_orlt {w q k : Nat} (hw : w < 2 ^ k) (hq : q < k) : w ||| 2 ^ q < 2 ^ k := Nat.or_lt_two_pow hw (Nat.pow_lt_pow_right (by decide) hq)
theorem zb_p31 {n : Nat} (h : n ≤ 5) : 2 ^ n ≤ 32 := by
  have h1 : n = 0 ∨ n = 1 ∨ n = 2 ∨ n = 3 ∨ n = 4 ∨ n = 5 := by omega
  rcases h1 with h | h | h | h | h | h <;> subst h <;> decide
-- THE STATE'S PARTS
theorem sI_1 (S : tq_St) (o k : Nat) (v : Int32) (k' : Nat) : (sI S o k v).1 o k' = if k' = k then v else S.1 o k' := by
  simp [sI, upd]
theorem sI_1n (S : tq_St) {o k : Nat} {v : Int32} {o' : Nat} (h : o' ≠ o) : (sI S o k v).1 o' = S.1 o' := by simp [sI, h]
theorem sI_2 (S : tq_St) (o k : Nat) (v : Int32) : (sI S o k v).2 = S.2 := rfl
theorem sC_1 (S : tq_St) (o k : Nat) (f : Nat → Int32) : (sC S o k f).1 = S.1 := rfl
theorem sC_2 (S : tq_St) (o k : Nat) (f : Nat → Int32) (k' : Nat) : (sC S o k f).2.1 o k' = if k' = k then f else S.2.1 o k' := by simp [sC]
theorem sC_2n (S : tq_St) {o k : Nat} {f : Nat → Int32} {o' : Nat} (h : o' ≠ o) : (sC S o k f).2.1 o' = S.2.1 o' := by simp [sC, h]
theorem sC_3 (S : tq_St) (o k : Nat) (f : Nat → Int32) : (sC S o k f).2.2 = S.2.2 := rfl
theorem sA_1 (S : tq_St) (o k i : Nat) (v : Int32) : (sA S o k i v).1 = S.1 := rfl
theorem sA_2 (S : tq_St) (o k i : Nat) (v : Int32) (k' : Nat) : (sA S o k i v).2.1 o k' = if k' = k then upd (S.2.1 o k) i v else S.2.1 o k' := by simp [sA, sC]
theorem sA_2n (S : tq_St) {o k i : Nat} {v : Int32} {o' : Nat} (h : o' ≠ o) : (sA S o k i v).2.1 o' = S.2.1 o' := by simp [sA, sC, h]
theorem sA_3 (S : tq_St) (o k i : Nat) (v : Int32) : (sA S o k i v).2.2 = S.2.2 := rfl
theorem sA_at (S : tq_St) (o k i : Nat) (v : Int32) (j : Nat) : (sA S o k i v).2.1 o k j = if j = i then v else S.2.1 o k j := by simp [sA, sC, upd]
theorem sA_nk (S : tq_St) (o k i : Nat) (v : Int32) {k' : Nat} (h : k' ≠ k) : (sA S o k i v).2.1 o k' = S.2.1 o k' := by simp [sA, sC, h]
/-- nothing but object o has changed -/
def Fr (o : Nat) (S S' : tq_St) : Prop := (∀ o', o' ≠ o → S'.1 o' = S.1 o' ∧ S'.2.1 o' = S.2.1 o') ∧ S'.2.2 = S.2.2
theorem Fr.rf {o : Nat} {S : tq_St} : Fr o S S := ⟨fun _ _ => ⟨rfl, rfl⟩, rfl⟩
theorem Fr.tr {o : Nat} {S T U : tq_St} (h : Fr o S T) (h2 : Fr o T U) : Fr o S U := ⟨fun o' ho => ⟨((h2.1 o' ho).1).trans (h.1 o' ho).1, ((h2.1 o' ho).2).trans (h.1 o' ho).2⟩, h2.2.trans h.2⟩
theorem Fr.I {o : Nat} {S T : tq_St} (h : Fr o S T) (k : Nat) (v : Int32) : Fr o S (sI T o k v) := ⟨fun o' ho => ⟨(sI_1n T ho).trans (h.1 o' ho).1, (h.1 o' ho).2⟩, h.2⟩
theorem Fr.A {o : Nat} {S T : tq_St} (h : Fr o S T) (k i : Nat) (v : Int32) : Fr o S (sA T o k i v) := ⟨fun o' ho => ⟨(h.1 o' ho).1, (sA_2n T ho).trans (h.1 o' ho).2⟩, h.2⟩
theorem Fr.C {o : Nat} {S T : tq_St} (h : Fr o S T) (k : Nat) (f : Nat → Int32) : Fr o S (sC T o k f) := ⟨fun o' ho => ⟨(h.1 o' ho).1, (sC_2n T ho).trans (h.1 o' ho).2⟩, h.2⟩
-- AN EVENING: people, kind, sorrow, wept (0: never, else the minute and 1), gone (bits), minute, room, think, how many acts, acts
abbrev aE : Type := Nat × (Nat → Nat) × (Nat → Nat) × (Nat → Nat) × Nat × Nat × Nat × Nat × Nat × (Nat → Nat)
abbrev aN (A : aE) : Nat := A.1
abbrev aK (A : aE) : Nat → Nat := A.2.1
abbrev aS (A : aE) : Nat → Nat := A.2.2.1
abbrev aW (A : aE) : Nat → Nat := A.2.2.2.1
abbrev aG (A : aE) : Nat := A.2.2.2.2.1
abbrev aM (A : aE) : Nat := A.2.2.2.2.2.1
abbrev aR (A : aE) : Nat := A.2.2.2.2.2.2.1
abbrev aT (A : aE) : Nat := A.2.2.2.2.2.2.2.1
abbrev aC (A : aE) : Nat := A.2.2.2.2.2.2.2.2.1
abbrev aA (A : aE) : Nat → Nat := A.2.2.2.2.2.2.2.2.2
abbrev uK (A : aE) (f : Nat → Nat) : aE := (aN A, f, aS A, aW A, aG A, aM A, aR A, aT A, aC A, aA A)
abbrev uS (A : aE) (f : Nat → Nat) : aE := (aN A, aK A, f, aW A, aG A, aM A, aR A, aT A, aC A, aA A)
abbrev uW (A : aE) (f : Nat → Nat) : aE := (aN A, aK A, aS A, f, aG A, aM A, aR A, aT A, aC A, aA A)
abbrev uG (A : aE) (g : Nat) : aE := (aN A, aK A, aS A, aW A, g, aM A, aR A, aT A, aC A, aA A)
abbrev uM (A : aE) (m : Nat) : aE := (aN A, aK A, aS A, aW A, aG A, m, aR A, aT A, aC A, aA A)
abbrev uR (A : aE) (r : Nat) : aE := (aN A, aK A, aS A, aW A, aG A, aM A, r, aT A, aC A, aA A)
abbrev uT (A : aE) (t : Nat) : aE := (aN A, aK A, aS A, aW A, aG A, aM A, aR A, t, aC A, aA A)
abbrev uP (A : aE) (c : Nat) (f : Nat → Nat) : aE := (aN A, aK A, aS A, aW A, aG A, aM A, aR A, aT A, c, f)
/-- a function changed at a place -/
def un {α : Type} (f : Nat → α) (k : Nat) (v : α) : Nat → α := fun j => if j = k then v else f j
theorem un_s {α : Type} (f : Nat → α) (k : Nat) (v : α) : un f k v k = v := by simp [un]
theorem un_n {α : Type} (f : Nat → α) {k j : Nat} (v : α) (h : j ≠ k) : un f k v j = f j := by simp [un, h]
def wfE (A : aE) : Prop := aN A ≤ 5 ∧ (∀ p, aK A p < 4) ∧ (∀ p, aS A p ≤ 40) ∧ (∀ p, aW A p ≤ 1000) ∧ aG A < 2 ^ aN A ∧ aM A ≤ 999 ∧ (1 ≤ aR A ∧ aR A ≤ 5) ∧ (1 ≤ aT A ∧ aT A ≤ 9) ∧ aC A ≤ 8 ∧ ∀ i, i < aC A → aA A i < aN A ∨ aA A i = 5 ∨ aA A i = 6
/-- object o of the class holds the evening A -/
def RC (S : tq_St) (o : Nat) (A : aE) : Prop := S.1 o 5 = nI (aN A) ∧ S.1 o 6 = nI (aG A) ∧ S.1 o 7 = nI (aM A) ∧ S.1 o 8 = nI (aR A) ∧ S.1 o 9 = nI (aT A) ∧ S.1 o 10 = nI (aC A) ∧ (∀ p, p < aN A → S.2.1 o 0 p = nI (aK A p)) ∧ (∀ p, p < aN A → S.2.1 o 1 p = nI (aS A p)) ∧ (∀ p, p < aN A → S.2.1 o 2 p = nI (aW A p) - 1) ∧ ∀ i, i < aC A → S.2.1 o 3 i = nI (aA A i)
/-- a place or NONE -/
def oI (q : Option Nat) : Int32 := match q with
  | none => -4
  | some j => nI j
theorem oI_ne {j : Nat} (h : j < 2 ^ 31) : ¬ nI j = -4 := by
  intro e
  have h1 := nI_toInt h
  rw [e] at h1
  have h2 : ((-4 : Int32)).toInt = -4 := by decide
  omega
end
section
section EVC
variable {S : tq_St} {o : Nat} {A : aE}
-- WHAT A STORE DOES TO AN EVENING
theorem RC.s (h : RC S o A) (p x : Nat) : RC (sA S o 1 p (nI x)) o (uS A (un (aS A) p x)) := by
  obtain ⟨h5, h6, h7, h8, h9, h10, hk, hs, hw, ha⟩ := h
  refine ⟨h5, h6, h7, h8, h9, h10, fun q hq => ?_, fun q hq => ?_, fun q hq => ?_, fun q hq => ?_⟩
  · rw [sA_nk _ _ _ _ _ (by decide)]; exact hk q hq
  · rw [sA_at]
    by_cases e : q = p
    · subst e; rw [if_pos rfl]; exact congrArg nI (un_s _ _ _).symm
    · rw [if_neg e]; exact (hs q hq).trans (congrArg nI (un_n _ _ e).symm)
  · rw [sA_nk _ _ _ _ _ (by decide)]; exact hw q hq
  · rw [sA_nk _ _ _ _ _ (by decide)]; exact ha q hq
theorem RC.k (h : RC S o A) (p x : Nat) : RC (sA S o 0 p (nI x)) o (uK A (un (aK A) p x)) := by
  obtain ⟨h5, h6, h7, h8, h9, h10, hk, hs, hw, ha⟩ := h
  refine ⟨h5, h6, h7, h8, h9, h10, fun q hq => ?_, fun q hq => ?_, fun q hq => ?_, fun q hq => ?_⟩
  · rw [sA_at]
    by_cases e : q = p
    · subst e; rw [if_pos rfl]; exact congrArg nI (un_s _ _ _).symm
    · rw [if_neg e]; exact (hk q hq).trans (congrArg nI (un_n _ _ e).symm)
  · rw [sA_nk _ _ _ _ _ (by decide)]; exact hs q hq
  · rw [sA_nk _ _ _ _ _ (by decide)]; exact hw q hq
  · rw [sA_nk _ _ _ _ _ (by decide)]; exact ha q hq
theorem RC.w (h : RC S o A) (p x : Nat) {v : Int32} (hv : v = nI x - 1) : RC (sA S o 2 p v) o (uW A (un (aW A) p x)) := by
  obtain ⟨h5, h6, h7, h8, h9, h10, hk, hs, hw, ha⟩ := h
  subst hv
  refine ⟨h5, h6, h7, h8, h9, h10, fun q hq => ?_, fun q hq => ?_, fun q hq => ?_, fun q hq => ?_⟩
  · rw [sA_nk _ _ _ _ _ (by decide)]; exact hk q hq
  · rw [sA_nk _ _ _ _ _ (by decide)]; exact hs q hq
  · rw [sA_at]
    by_cases e : q = p
    · subst e; rw [if_pos rfl]; exact congrArg (fun z => nI z - 1) (un_s _ _ _).symm
    · rw [if_neg e]; exact (hw q hq).trans (congrArg (fun z => nI z - 1) (un_n _ _ e).symm)
  · rw [sA_nk _ _ _ _ _ (by decide)]; exact ha q hq
theorem RC.l (h : RC S o A) (i : Nat) (v : Int32) : RC (sA S o 4 i v) o A := by
  obtain ⟨h5, h6, h7, h8, h9, h10, hk, hs, hw, ha⟩ := h
  refine ⟨h5, h6, h7, h8, h9, h10, fun q hq => ?_, fun q hq => ?_, fun q hq => ?_, fun q hq => ?_⟩
  · rw [sA_nk _ _ _ _ _ (by decide)]; exact hk q hq
  · rw [sA_nk _ _ _ _ _ (by decide)]; exact hs q hq
  · rw [sA_nk _ _ _ _ _ (by decide)]; exact hw q hq
  · rw [sA_nk _ _ _ _ _ (by decide)]; exact ha q hq
theorem RC.t (h : RC S o A) {k : Nat} (hk : 11 ≤ k) (v : Int32) : RC (sI S o k v) o A := by
  obtain ⟨h5, h6, h7, h8, h9, h10, hr⟩ := h
  refine ⟨?_, ?_, ?_, ?_, ?_, ?_, hr⟩ <;> rw [sI_1, if_neg (by omega)] <;> assumption
theorem RC.g (h : RC S o A) (g : Nat) : RC (sI S o 6 (nI g)) o (uG A g) := by
  obtain ⟨h5, h6, h7, h8, h9, h10, hr⟩ := h
  refine ⟨?_, ?_, ?_, ?_, ?_, ?_, hr⟩ <;> rw [sI_1] <;> simp <;> assumption
theorem RC.m (h : RC S o A) (m : Nat) : RC (sI S o 7 (nI m)) o (uM A m) := by
  obtain ⟨h5, h6, h7, h8, h9, h10, hr⟩ := h
  refine ⟨?_, ?_, ?_, ?_, ?_, ?_, hr⟩ <;> rw [sI_1] <;> simp <;> assumption
theorem RC.r (h : RC S o A) (m : Nat) : RC (sI S o 8 (nI m)) o (uR A m) := by
  obtain ⟨h5, h6, h7, h8, h9, h10, hr⟩ := h
  refine ⟨?_, ?_, ?_, ?_, ?_, ?_, hr⟩ <;> rw [sI_1] <;> simp <;> assumption
theorem RC.h (h : RC S o A) (m : Nat) : RC (sI S o 9 (nI m)) o (uT A m) := by
  obtain ⟨h5, h6, h7, h8, h9, h10, hr⟩ := h
  refine ⟨?_, ?_, ?_, ?_, ?_, ?_, hr⟩ <;> rw [sI_1] <;> simp <;> assumption
theorem RC.fr {o' : Nat} {S' : tq_St} (h : RC S o A) (f : Fr o' S S') (ho : o ≠ o') : RC S' o A := by
  unfold RC
  rw [(f.1 o ho).1, (f.1 o ho).2]
  exact h
-- THERE, WAITING
theorem c_isThere {n : Nat} {p : Int32} {K : Int32 → tq_St → Prop} (h5 : S.1 o 5 = nI n) (hn : n ≤ 5) (h1 : ∀ j, j < n → p = nI j → K 1 S) (h0 : (∀ j, j < n → p ≠ nI j) → K 0 S) : wp_X1_isThere o p S K := by
  unfold wp_X1_isThere
  rw [h5]
  rcases pk_ix p (n := n) (by omega) with h | h | ⟨j, hj, rfl⟩
  · have hne : ∀ j, j < n → p ≠ nI j := fun j hj e => by subst e; exact nI_pos (by omega) h
    exact ⟨fun _ => h0 hne, fun z => absurd h z⟩
  · have hne : ∀ j, j < n → p ≠ nI j := fun j hj e => by subst e; exact nI_ge hj (by omega) h
    exact ⟨fun _ => h0 hne, fun _ => ⟨fun _ => h0 hne, fun z => absurd h z⟩⟩
  · exact ⟨fun z => absurd z (nI_pos (by omega)), fun _ => ⟨fun z => absurd z (nI_ge hj (by omega)), fun _ => h1 j hj rfl⟩⟩
theorem c_waits {n g : Nat} {p : Int32} {K : Int32 → tq_St → Prop} (h5 : S.1 o 5 = nI n) (hn : n ≤ 5) (h6 : S.1 o 6 = nI g) (hg : g < 2 ^ 31) (h1 : ∀ j, j < n → p = nI j → g.testBit j = false → K 1 S) (h0 : (∀ j, j < n → p = nI j → g.testBit j = true) → K 0 S) : wp_X1_waits o p S K := by
  unfold wp_X1_waits
  rw [h5, h6]
  rcases pk_ix p (n := n) (by omega) with h | h | ⟨j, hj, rfl⟩
  · have hne : ∀ j, j < n → p = nI j → g.testBit j = true := fun j hj e => by subst e; exact absurd h (nI_pos (by omega))
    exact ⟨fun _ => h0 hne, fun z => absurd h z⟩
  · have hne : ∀ j, j < n → p = nI j → g.testBit j = true := fun j hj e => by subst e; exact absurd h (nI_ge hj (by omega))
    exact ⟨fun _ => h0 hne, fun _ => ⟨fun _ => h0 hne, fun z => absurd h z⟩⟩
  · refine ⟨fun z => absurd z (nI_pos (by omega)), fun _ => ⟨fun z => absurd z (nI_ge hj (by omega)), fun _ => ?_⟩⟩
    rw [zb_0 hg (by omega)]
    refine ⟨fun z => h0 (fun i hi e => ?_), fun z => h1 j hj rfl z⟩
    have h3 : j = i := (nI_eq (by omega) (by omega)).mp e
    subst h3
    cases hb : g.testBit j
    · exact absurd hb z
    · rfl
theorem c_waitsN {n g j : Nat} {K : Int32 → tq_St → Prop} (h5 : S.1 o 5 = nI n) (hn : n ≤ 5) (h6 : S.1 o 6 = nI g) (hg : g < 2 ^ 31) (hj : j < n) (h1 : g.testBit j = false → K 1 S) (h0 : g.testBit j = true → K 0 S) : wp_X1_waits o (nI j) S K :=
  c_waits h5 hn h6 hg (fun i hi e z => h1 (by rw [(nI_eq (by omega) (by omega)).mp e]; exact z)) (fun z => h0 (z j hj rfl))
theorem wfE.g31 (hw : wfE A) : aG A < 2 ^ 31 := by
  have h1 := hw.1
  have h2 := hw.2.2.2.2.1
  have h3 := zb_p31 h1
  omega
-- SORROW
def sadS (s : Nat → Nat) (q : Option Nat) (k : Nat) : Nat → Nat := match q with
  | none => s
  | some p => un s p (min 40 (s p + k))
theorem zb_min {s k : Nat} (h : s + k < 2 ^ 31) : (if (nI s + nI k : Int32) < 40 then nI s + nI k else 40) = nI (min 40 (s + k)) := by
  rw [nI_add]
  have h4 : (40 : Int32) = nI 40 := rfl
  rw [h4]
  by_cases hc : s + k < 40
  · rw [if_pos ((nI_ltI h (by decide)).mpr hc)]; congr 1; omega
  · rw [if_neg (fun z => hc ((nI_ltI h (by decide)).mp z))]; congr 1; omega
theorem c_sadden {q : Option Nat} {k : Nat} {K : tq_St → Prop} (hR : RC S o A) (hn : aN A ≤ 5) (hs : ∀ p, aS A p ≤ 40) (hq : ∀ j, q = some j → j < aN A) (hk : k < 100) (hK : ∀ S', RC S' o (uS A (sadS (aS A) q k)) → Fr o S S' → S'.1 = S.1 → K S') : wp_X1_sadden o (oI q) (nI k) S K := by
  unfold wp_X1_sadden
  cases q with
  | none => exact ⟨fun _ => hK S hR Fr.rf rfl, fun z => absurd (by decide) z⟩
  | some p =>
    have hp := hq p rfl
    have h5 := hR.1
    rw [h5]
    refine ⟨fun z => absurd z (nI_pos (by omega)), fun _ => ⟨fun z => absurd z (nI_ge hp (by omega)), fun _ => ⟨vp_in_nI (by omega) (by decide), vp_in_nI (by omega) (by decide), nm_e ?_⟩⟩⟩
    have hv : (oI (some p)).toNatClampNeg = p := nI_clamp (by omega)
    rw [hv, hR.2.2.2.2.2.2.2.1 p hp, zb_min (by have := hs p; omega)]
    exact hK _ (hR.s p _) (Fr.rf.A _ _ _) rfl
-- THE NEAREST
def ff (P : Nat → Bool) : Nat → Nat → Option Nat
  | _, 0 => none
  | i, k + 1 => if P i then some i else ff P (i + 1) k
theorem ff_some {P : Nat → Bool} : ∀ {k i j : Nat}, ff P i k = some j → i ≤ j ∧ j < i + k ∧ P j = true ∧ ∀ x, i ≤ x → x < j → P x = false
  | 0, i, j, h => by simp [ff] at h
  | k + 1, i, j, h => by
    unfold ff at h
    by_cases hp : P i = true
    · rw [if_pos hp] at h
      cases h
      exact ⟨Nat.le_refl _, by omega, hp, fun x h1 h2 => by omega⟩
    · rw [if_neg hp] at h
      obtain ⟨h1, h2, h3, h4⟩ := ff_some h
      refine ⟨by omega, by omega, h3, fun x hx1 hx2 => ?_⟩
      by_cases e : x = i
      · subst e; simpa using hp
      · exact h4 x (by omega) hx2
theorem ff_none {P : Nat → Bool} : ∀ {k i : Nat}, ff P i k = none → ∀ x, i ≤ x → x < i + k → P x = false
  | 0, i, h => fun x h1 h2 => by omega
  | k + 1, i, h => fun x h1 h2 => by
    unfold ff at h
    by_cases hp : P i = true
    · rw [if_pos hp] at h; cases h
    · rw [if_neg hp] at h
      by_cases e : x = i
      · subst e; simpa using hp
      · exact ff_none h x (by omega) (by omega)
def nearA (g : Nat) : Nat → Option Nat
  | 0 => none
  | p + 1 => if g.testBit p then nearA g p else some p
def nearB (n g p : Nat) : Option Nat := ff (fun j => !g.testBit j) (p + 1) (n - (p + 1))
theorem nearA_lt {g : Nat} : ∀ {p j : Nat}, nearA g p = some j → j < p
  | 0, j, h => by cases h
  | p + 1, j, h => by
    unfold nearA at h
    by_cases hp : g.testBit p = true
    · rw [if_pos hp] at h; have := nearA_lt h; omega
    · rw [if_neg hp] at h; cases h; omega
theorem nearB_lt {n g p j : Nat} (h : nearB n g p = some j) : j < n := by
  obtain ⟨h1, h2, -⟩ := ff_some h
  omega
theorem c_near_neg {n g : Nat} {K : Int32 → tq_St → Prop} (h5 : S.1 o 5 = nI n) (hn : n ≤ 5) (h6 : S.1 o 6 = nI g) (hg : g < 2 ^ 31) (hK : K (-4) S) : ∀ (m t f : Nat) (x : Int32), t + m = 5 → m < f → x.toInt < 0 → (-100 : Int) - t ≤ x.toInt → wp_X1_nearest_5 o K f (-1) x (nI t) S
  | 0, t, f + 1, x, ht, hf, hx, hx2 => by
    have h : t = 5 := by omega
    subst h
    exact ⟨fun _ => hK, fun z => absurd (by decide) z⟩
  | m + 1, t, f + 1, x, ht, hf, hx, hx2 => by
    unfold wp_X1_nearest_5
    refine pk_le 5 t (fun z => absurd z (by omega)) (fun _ => nm_e ?_)
    have hm : ((-1 : Int32)).toInt = -1 := by decide
    have hx3 : (x + (-1)).toInt = x.toInt - 1 := by
      have h7 := fb_addI (x := x) (y := -1) (by omega) (by omega)
      omega
    refine c_waits h5 hn h6 hg (fun j hj e => ?_) (fun _ => ?_)
    · have h8 := nI_toInt (n := j) (by omega)
      rw [← e] at h8
      omega
    · refine ⟨fun _ => nm_r (nI_1 t) ?_, fun z => absurd rfl z⟩
      exact c_near_neg h5 hn h6 hg hK m (t + 1) f _ (by omega) (by omega) (by omega) (by omega)
theorem c_near_dn {n g : Nat} {K : Int32 → tq_St → Prop} (h5 : S.1 o 5 = nI n) (hn : n ≤ 5) (h6 : S.1 o 6 = nI g) (hg : g < 2 ^ 31) : ∀ (a t f : Nat), a + t ≤ 5 → a ≤ n → 6 ≤ f + t → K (oI (nearA g a)) S → wp_X1_nearest_5 o K f (-1) (nI a) (nI t) S
  | 0, t, 0, h1, h2, h3, hK => by omega
  | a + 1, t, 0, h1, h2, h3, hK => by omega
  | 0, t, f + 1, h1, h2, h3, hK => by
    unfold wp_X1_nearest_5
    refine pk_le 5 t (fun z => hK) (fun _ => nm_e ?_)
    refine c_waits h5 hn h6 hg (fun j hj e => ?_) (fun _ => ?_)
    · have h8 := nI_toInt (n := j) (by omega)
      rw [← e] at h8
      have h9 : (nI 0 + (-1)).toInt = -1 := by decide
      omega
    · refine ⟨fun _ => nm_r (nI_1 t) ?_, fun z => absurd rfl z⟩
      have h9 : (nI 0 + (-1)).toInt = -1 := by decide
      exact c_near_neg h5 hn h6 hg hK (4 - t) (t + 1) f _ (by omega) (by omega) (by omega) (by omega)
  | a + 1, t, f + 1, h1, h2, h3, hK => by
    unfold wp_X1_nearest_5
    refine pk_le 5 t (fun z => absurd z (by omega)) (fun _ => nm_r (pk_m1 a) ?_)
    refine c_waitsN h5 hn h6 hg (by omega) (fun hb => ?_) (fun hb => ?_)
    · refine ⟨fun z => absurd z (by decide), fun _ => ?_⟩
      unfold nearA at hK
      rw [if_neg (by rw [hb]; decide)] at hK
      exact hK
    · refine ⟨fun _ => nm_r (nI_1 t) ?_, fun z => absurd rfl z⟩
      unfold nearA at hK
      rw [if_pos hb] at hK
      exact c_near_dn h5 hn h6 hg a (t + 1) f (by omega) (by omega) (by omega) hK
theorem c_near_up {n g : Nat} {K : Int32 → tq_St → Prop} (h5 : S.1 o 5 = nI n) (hn : n ≤ 5) (h6 : S.1 o 6 = nI g) (hg : g < 2 ^ 31) : ∀ (m a t f : Nat), t + m = 5 → n + t ≤ a + 6 → a ≤ 100 + t → m < f → K (oI (nearB n g a)) S → wp_X1_nearest_5 o K f 1 (nI a) (nI t) S
  | 0, a, t, f + 1, h1, h2, h2b, h3, hK => by
    have h : t = 5 := by omega
    subst h
    refine ⟨fun _ => ?_, fun z => absurd (by decide) z⟩
    unfold nearB at hK
    rw [show n - (a + 1) = 0 by omega] at hK
    exact hK
  | m + 1, a, t, f + 1, h1, h2, h2b, h3, hK => by
    unfold wp_X1_nearest_5
    refine pk_le 5 t (fun z => absurd z (by omega)) (fun _ => nm_r (nI_1 a) ?_)
    by_cases ha : a + 1 < n
    · refine c_waitsN h5 hn h6 hg ha (fun hb => ?_) (fun hb => ?_)
      · refine ⟨fun z => absurd z (by decide), fun _ => ?_⟩
        unfold nearB at hK
        rw [show n - (a + 1) = (n - (a + 1 + 1)) + 1 by omega] at hK
        unfold ff at hK
        rw [if_pos (by rw [hb]; decide)] at hK
        exact hK
      · refine ⟨fun _ => nm_r (nI_1 t) ?_, fun z => absurd rfl z⟩
        refine c_near_up h5 hn h6 hg m (a + 1) (t + 1) f (by omega) (by omega) (by omega) (by omega) ?_
        unfold nearB at hK ⊢
        rw [show n - (a + 1) = (n - (a + 1 + 1)) + 1 by omega] at hK
        unfold ff at hK
        rw [if_neg (by rw [hb]; decide)] at hK
        exact hK
    · refine c_waits h5 hn h6 hg (fun j hj e => absurd ((nI_eq (by omega) (by omega)).mp e) (by omega)) (fun _ => ?_)
      refine ⟨fun _ => nm_r (nI_1 t) ?_, fun z => absurd rfl z⟩
      refine c_near_up h5 hn h6 hg m (a + 1) (t + 1) f (by omega) (by omega) (by omega) (by omega) ?_
      unfold nearB at hK ⊢
      rw [show n - (a + 1) = 0 by omega] at hK
      rw [show n - (a + 1 + 1) = 0 by omega]
      exact hK
theorem c_nearA {n g p : Nat} {K : Int32 → tq_St → Prop} (h5 : S.1 o 5 = nI n) (hn : n ≤ 5) (h6 : S.1 o 6 = nI g) (hg : g < 2 ^ 31) (hp : p < n) (hK : K (oI (nearA g p)) S) : wp_X1_nearest o (nI p) (-1) S K :=
  c_near_dn h5 hn h6 hg p 0 2000 (by omega) (by omega) (by omega) hK
theorem c_nearB {n g p : Nat} {K : Int32 → tq_St → Prop} (h5 : S.1 o 5 = nI n) (hn : n ≤ 5) (h6 : S.1 o 6 = nI g) (hg : g < 2 ^ 31) (hp : p < n) (hK : K (oI (nearB n g p)) S) : wp_X1_nearest o (nI p) 1 S K :=
  c_near_up h5 hn h6 hg 5 p 0 2000 (by omega) (by omega) (by omega) (by omega) hK
end EVC
end
section
section EVW
variable {S : tq_St} {o : Nat} {A : aE}
-- WEEPING
def wpS (n g : Nat) (s : Nat → Nat) (q : Nat) : Nat → Nat := sadS (sadS (un s q 0) (nearA g q) 2) (nearB n g q) 2
abbrev weepF (A : aE) (q : Nat) : aE := uW (uS A (wpS (aN A) (aG A) (aS A) q)) (un (aW A) q (aM A + 1))
theorem sadS_le {s : Nat → Nat} {q : Option Nat} {k : Nat} (h : ∀ p, s p ≤ 40) : ∀ p, sadS s q k p ≤ 40 := by
  intro p
  cases q with
  | none => exact h p
  | some j =>
    show un s j _ p ≤ 40
    by_cases e : p = j
    · subst e; rw [un_s]; omega
    · rw [un_n _ _ e]; exact h p
theorem un_le {s : Nat → Nat} {j v b : Nat} (h : ∀ p, s p ≤ b) (hv : v ≤ b) : ∀ p, un s j v p ≤ b := by
  intro p
  by_cases e : p = j
  · subst e; rw [un_s]; exact hv
  · rw [un_n _ _ e]; exact h p
theorem wpS_le {n g : Nat} {s : Nat → Nat} {q : Nat} (h : ∀ p, s p ≤ 40) : ∀ p, wpS n g s q p ≤ 40 := sadS_le (sadS_le (un_le h (by omega)))
theorem c_weep {q : Nat} {K : tq_St → Prop} (hR : RC S o A) (hw : wfE A) (hq : q < aN A) (hK : ∀ S', RC S' o (weepF A q) → Fr o S S' → S'.1 = S.1 → K S') : wp_X1_weep o (nI q) S K := by
  have hn := hw.1
  have hg := hw.g31
  unfold wp_X1_weep
  refine ⟨vp_in_nI (by omega) (by decide), nm_e ⟨vp_in_nI (by omega) (by decide), nm_e ?_⟩⟩
  rw [nI_clamp (by omega)]
  have h1 : RC (sA S o 2 q (S.1 o 7)) o (uW A (un (aW A) q (aM A + 1))) := hR.w q _ (by rw [hR.2.2.1, nI_pred])
  have h2 := h1.s q 0
  refine c_nearA h2.1 hn h2.2.1 hg hq ?_
  refine c_sadden h2 hn (un_le hw.2.2.1 (by omega)) (fun j e => by have := nearA_lt e; show j < aN A; omega) (by decide) (fun S3 h3 f3 e3 => ?_)
  refine c_nearB h3.1 hn h3.2.1 hg hq ?_
  refine c_sadden h3 hn (sadS_le (un_le hw.2.2.1 (by omega))) (fun j e => nearB_lt e) (by decide) (fun S4 h4 f4 e4 => ?_)
  exact hK S4 h4 ((((Fr.rf.A _ _ _).A _ _ _).tr f3).tr f4) (e4.trans e3)
-- THE FIRST TO WEEP
def brN (k : Nat) : Nat := if k = 0 then 10 else if k = 1 then 5 else if k = 2 then 4 else 20
theorem brL {k : Nat} (h : k < 4) : tq_brL.getD (nI k).toNatClampNeg 0 = nI (brN k) := by
  have h1 : k = 0 ∨ k = 1 ∨ k = 2 ∨ k = 3 := by omega
  rcases h1 with h | h | h | h <;> subst h <;> decide
def firstP (n g : Nat) (k s : Nat → Nat) (w : Nat) : Option Nat := ff (fun p => !g.testBit p && decide (brN (k p) ≤ s p) && !w.testBit p) 0 n
theorem brN_lt (k : Nat) : brN k ≤ 20 := by
  unfold brN
  split <;> (try omega)
  split <;> (try omega)
  split <;> omega
theorem c_brim {p : Nat} {K : Int32 → tq_St → Prop} (hR : RC S o A) (hw : wfE A) (hp : p < aN A) (hK : K (nI (brN (aK A p))) S) : wp_X1_brim o (nI p) S K := by
  have hn := hw.1
  unfold wp_X1_brim
  rw [nI_clamp (by omega), hR.2.2.2.2.2.2.1 p hp, brL (hw.2.1 p)]
  exact ⟨vp_in_nI (by omega) (by decide), vp_in_nI (hw.2.1 p) (by decide), hK⟩
theorem c_first_2 {w : Nat} {K : Int32 → tq_St → Prop} (hR : RC S o A) (hw : wfE A) (hb : w < 2 ^ 31) : ∀ (m p f : Nat), p + m = aN A → m < f → K (oI (ff (fun p => !(aG A).testBit p && decide (brN (aK A p) ≤ aS A p) && !w.testBit p) p m)) S → wp_X1_firstToWeep_2 o K f (nI w) (nI p) S
  | 0, p, f + 1, h1, h2, hK => by
    have hn := hw.1
    unfold wp_X1_firstToWeep_2
    rw [hR.1]
    exact pk_le (aN A) p (fun _ => hK) (fun z => absurd z (by omega))
  | m + 1, p, f + 1, h1, h2, hK => by
    have hn := hw.1
    have hs := hw.2.2.1 p
    unfold wp_X1_firstToWeep_2
    rw [hR.1]
    refine pk_le (aN A) p (fun z => absurd z (by omega)) (fun _ => ?_)
    unfold ff at hK
    refine c_waitsN hR.1 hn hR.2.1 hw.g31 (by omega) (fun hbit => ?_) (fun hbit => ?_)
    · refine ⟨fun z => absurd z (by decide), fun _ => ⟨vp_in_nI (by omega) (by decide), ?_⟩⟩
      refine c_brim hR hw (by omega) ?_
      rw [nI_clamp (by omega), hR.2.2.2.2.2.2.2.1 p (by omega)]
      have h20 := brN_lt (aK A p)
      refine pk_lt (aS A p) (brN (aK A p)) (fun hlt => nm_r (nI_1 p) ?_) (fun hge => ?_)
      · rw [if_neg (by rw [hbit, decide_eq_false (by omega)]; simp)] at hK
        exact c_first_2 hR hw hb m (p + 1) f (by omega) (by omega) hK
      · rw [zb_0 hb (by omega)]
        refine ⟨fun z => nm_r (nI_1 p) ?_, fun z => ?_⟩
        · rw [if_neg (by simp [z])] at hK
          exact c_first_2 hR hw hb m (p + 1) f (by omega) (by omega) hK
        · rw [if_pos (by rw [hbit, decide_eq_true hge, z]; rfl)] at hK
          exact hK
    · refine ⟨fun _ => nm_r (nI_1 p) ?_, fun z => absurd rfl z⟩
      rw [if_neg (by rw [hbit]; simp)] at hK
      exact c_first_2 hR hw hb m (p + 1) f (by omega) (by omega) hK
theorem c_first {w : Nat} {K : Int32 → tq_St → Prop} (hR : RC S o A) (hw : wfE A) (hb : w < 2 ^ 31) (hK : K (oI (firstP (aN A) (aG A) (aK A) (aS A) w)) S) : wp_X1_firstToWeep o (nI w) S K :=
  c_first_2 hR hw hb (aN A) 0 2000 (by omega) (by have := hw.1; omega) hK
-- A THINKING
def twP (n g : Nat) (k : Nat → Nat) (m : Nat) : Nat → (Nat → Nat) → (Nat → Nat) → Nat → (Nat → Nat) × (Nat → Nat) × Nat
  | 0, s, W, w => (s, W, w)
  | f + 1, s, W, w => match firstP n g k s w with
    | none => (s, W, w)
    | some q => twP n g k m f (wpS n g s q) (un W q (m + 1)) (w ||| 2 ^ q)
def tkF (A : aE) (p : Nat) : (Nat → Nat) × (Nat → Nat) × Nat := twP (aN A) (aG A) (aK A) (aM A) (aN A) (sadS (aS A) (some p) (aT A)) (aW A) 0
abbrev thinkF (A : aE) (p : Nat) : aE := uW (uS A (tkF A p).1) (tkF A p).2.1
theorem firstP_lt {n g : Nat} {k s : Nat → Nat} {w q : Nat} (h : firstP n g k s w = some q) : q < n ∧ w.testBit q = false := by
  obtain ⟨-, h2, h3, -⟩ := ff_some h
  refine ⟨by omega, ?_⟩
  simp only [Bool.and_eq_true, Bool.not_eq_true'] at h3
  exact h3.2
theorem twP_ok {n g m : Nat} {k : Nat → Nat} (hm : m ≤ 999) : ∀ (f : Nat) (s W : Nat → Nat) (w : Nat), (∀ p, s p ≤ 40) → (∀ p, W p ≤ 1000) → w < 2 ^ n → (∀ p, (twP n g k m f s W w).1 p ≤ 40) ∧ (∀ p, (twP n g k m f s W w).2.1 p ≤ 1000) ∧ (twP n g k m f s W w).2.2 < 2 ^ n
  | 0, s, W, w, h1, h2, h3 => ⟨h1, h2, h3⟩
  | f + 1, s, W, w, h1, h2, h3 => by
    unfold twP
    cases e : firstP n g k s w with
    | none => exact ⟨h1, h2, h3⟩
    | some q => exact twP_ok hm f _ _ _ (wpS_le h1) (un_le h2 (by omega)) (zb_orlt h3 (firstP_lt e).1)
theorem thinkF_wf (hw : wfE A) (p : Nat) : wfE (thinkF A p) ∧ (tkF A p).2.2 < 2 ^ aN A := by
  obtain ⟨h1, h2, h3, h4, h5, h6, h7⟩ := hw
  obtain ⟨k1, k2, k3⟩ := twP_ok (n := aN A) (g := aG A) (k := aK A) h6 (aN A) (sadS (aS A) (some p) (aT A)) (aW A) 0 (sadS_le h3) h4 (Nat.two_pow_pos _)
  exact ⟨⟨h1, h2, k1, k2, h5, h6, h7⟩, k3⟩
/-- how many of the first 31 bits -/
def pcN (w : Nat) : Nat := fb_ct (fun i => w.testBit i) 31
theorem c_bitCount32 {w : Nat} {K : Int32 → tq_St → Prop} (h : w < 32) (hK : K (nI (pcN w)) S) : wp_J6_bitCount_0f7a4 (nI w) S K := by
  unfold wp_J6_bitCount_0f7a4
  refine nm_e (nm_e (nm_e (nm_e (nm_e ?_))))
  have h1 : ∀ w, w < 32 → ∀ x1 : Int32, x1 = nI w - (((((nI w) : Int32).toUInt32 >>> ((1 : Int32).toUInt32 &&& Int32.toUInt32 31)).toInt32) &&& 1431655765) → ∀ x3 : Int32, x3 = (x1 &&& 858993459) + ((((x1 : Int32).toUInt32 >>> ((2 : Int32).toUInt32 &&& Int32.toUInt32 31)).toInt32) &&& 858993459) → ∀ x5 : Int32, x5 = (x3 + (((x3 : Int32).toUInt32 >>> ((4 : Int32).toUInt32 &&& Int32.toUInt32 31)).toInt32)) &&& 252645135 → ∀ x7 : Int32, x7 = x5 + (((x5 : Int32).toUInt32 >>> ((8 : Int32).toUInt32 &&& Int32.toUInt32 31)).toInt32) → ∀ x9 : Int32, x9 = x7 + (((x7 : Int32).toUInt32 >>> ((16 : Int32).toUInt32 &&& Int32.toUInt32 31)).toInt32) → x9 &&& 63 = nI (pcN w) := by
    intro w hw
    have h2 : ∀ w, w < 32 → (fun x1 : Int32 => (fun x3 : Int32 => (fun x5 : Int32 => (fun x7 : Int32 => (fun x9 : Int32 => x9 &&& 63) (x7 + (((x7 : Int32).toUInt32 >>> ((16 : Int32).toUInt32 &&& Int32.toUInt32 31)).toInt32))) (x5 + (((x5 : Int32).toUInt32 >>> ((8 : Int32).toUInt32 &&& Int32.toUInt32 31)).toInt32))) ((x3 + (((x3 : Int32).toUInt32 >>> ((4 : Int32).toUInt32 &&& Int32.toUInt32 31)).toInt32)) &&& 252645135)) ((x1 &&& 858993459) + ((((x1 : Int32).toUInt32 >>> ((2 : Int32).toUInt32 &&& Int32.toUInt32 31)).toInt32) &&& 858993459))) (nI w - (((((nI w) : Int32).toUInt32 >>> ((1 : Int32).toUInt32 &&& Int32.toUInt32 31)).toInt32) &&& 1431655765)) = nI (pcN w) := by decide +kernel
    intro x1 e1 x3 e3 x5 e5 x7 e7 x9 e9
    subst e1 e3 e5 e7 e9
    exact h2 w hw
  rw [h1 w h _ rfl _ rfl _ rfl _ rfl _ rfl]
  exact hK
theorem c_tw_57 {w : Nat} {K : Int32 → tq_St → Prop} (hR : RC S o A) (h : w < 32) (hK : ∀ S', RC S' o A → Fr o S S' → S'.1 o 11 = S.1 o 11 ||| nI w → S'.1 o 12 = S.1 o 12 + nI (pcN w) → S'.1 o 13 = S.1 o 13 → K (nI w) S') : wp_X1_thinkAndWeep_57 o K (nI w) S := by
  unfold wp_X1_thinkAndWeep_57
  refine nm_e ?_
  refine c_bitCount32 h (nm_e ?_)
  refine hK _ ((hR.t (by decide) _).t (by decide) _) ((Fr.rf.I _ _).I _ _) ?_ ?_ ?_
  · simp [sI_1]
  · simp [sI_1]
  · simp [sI_1]
theorem c_tw_13 {S0 : tq_St} {K : Int32 → tq_St → Prop} (hw : wfE A) : ∀ (m r f w : Nat) (s W : Nat → Nat) (S : tq_St), r + m = aN A → m < f → RC S o (uW (uS A s) W) → Fr o S0 S → S.1 = S0.1 → (∀ p, s p ≤ 40) → (∀ p, W p ≤ 1000) → w < 2 ^ aN A → (∀ S', RC S' o (uW (uS A (twP (aN A) (aG A) (aK A) (aM A) m s W w).1) (twP (aN A) (aG A) (aK A) (aM A) m s W w).2.1) → Fr o S0 S' → S'.1 o 11 = S0.1 o 11 ||| nI (twP (aN A) (aG A) (aK A) (aM A) m s W w).2.2 → S'.1 o 12 = S0.1 o 12 + nI (pcN (twP (aN A) (aG A) (aK A) (aM A) m s W w).2.2) → S'.1 o 13 = S0.1 o 13 → K (nI (twP (aN A) (aG A) (aK A) (aM A) m s W w).2.2) S') → wp_X1_thinkAndWeep_13 o K f (nI w) (nI r) S
  | 0, r, f + 1, w, s, W, S, h1, h2, hR, hF, hI, hs, hW, hb, hK => by
    have hn := hw.1
    have h32 := zb_p31 hn
    unfold wp_X1_thinkAndWeep_13
    rw [hR.1]
    refine pk_le (aN A) r (fun _ => ?_) (fun z => absurd z (by omega))
    exact c_tw_57 hR (by omega) (fun S' a1 a2 a3 a4 a5 => hK S' a1 (hF.tr a2) (by rw [a3, hI]; rfl) (by rw [a4, hI]; rfl) (by rw [a5, hI]))
  | m + 1, r, f + 1, w, s, W, S, h1, h2, hR, hF, hI, hs, hW, hb, hK => by
    have hn := hw.1
    have h32 := zb_p31 hn
    have hw2 : wfE (uW (uS A s) W) := ⟨hn, hw.2.1, hs, hW, hw.2.2.2.2⟩
    unfold wp_X1_thinkAndWeep_13
    rw [hR.1]
    refine pk_le (aN A) r (fun z => absurd z (by omega)) (fun _ => ?_)
    refine c_first hR hw2 (by omega) ?_
    unfold twP at hK
    cases e : firstP (aN A) (aG A) (aK A) s w with
    | none =>
      rw [e] at hK
      show _ ∧ _
      refine ⟨fun z => ?_, fun _ => ?_⟩
      · exact absurd rfl z
      · exact c_tw_57 hR (by omega) (fun S' a1 a2 a3 a4 a5 => hK S' a1 (hF.tr a2) (by rw [a3, hI]) (by rw [a4, hI]) (by rw [a5, hI]))
    | some q =>
      rw [e] at hK
      have hq := firstP_lt e
      refine ⟨fun _ => ?_, fun z => absurd z (oI_ne (by omega))⟩
      refine c_weep hR hw2 hq.1 (fun S2 b1 b2 b3 => ?_)
      refine nm_r (zb_or (by omega)) (nm_r (nI_1 r) ?_)
      exact c_tw_13 hw m (r + 1) f _ _ _ S2 (by omega) (by omega) b1 (hF.tr b2) (b3.trans hI) (wpS_le hs) (un_le hW (show aM A + 1 ≤ 1000 by have := hw.2.2.2.2.2.1; omega)) (zb_orlt hb hq.1) hK
theorem c_think {p : Nat} {K : Int32 → tq_St → Prop} (hR : RC S o A) (hw : wfE A) (hp : p < aN A) (hK : ∀ S', RC S' o (thinkF A p) → Fr o S S' → S'.1 o 11 = S.1 o 11 ||| nI (tkF A p).2.2 → S'.1 o 12 = S.1 o 12 + nI (pcN (tkF A p).2.2) → S'.1 o 13 = S.1 o 13 → K (nI (tkF A p).2.2) S') : wp_X1_thinkAndWeep o (nI p) S K := by
  have hn := hw.1
  unfold wp_X1_thinkAndWeep
  rw [hR.2.2.2.2.1]
  refine c_sadden (q := some p) hR hn hw.2.2.1 (fun j e => by cases e; exact hp) (by have := hw.2.2.2.2.2.2.2.1.2; omega) (fun S2 b1 b2 b3 => ?_)
  exact c_tw_13 hw (aN A) 0 2000 0 _ _ S2 (by omega) (by omega) b1 b2 b3 (sadS_le hw.2.2.1) hw.2.2.2.1 (Nat.two_pow_pos _) hK
-- A MINUTE
def dryS (n g : Nat) (s : Nat → Nat) : Nat → Nat := fun p => if p < n then (if g.testBit p then s p else s p - 1) else s p
abbrev dryF (A : aE) : aE := uM (uS A (dryS (aN A) (aG A) (aS A))) (min 999 (aM A + 1))
theorem dryF_wf (hw : wfE A) : wfE (dryF A) := by
  obtain ⟨h1, h2, h3, h4, h5, h6, h7⟩ := hw
  refine ⟨h1, h2, fun p => ?_, h4, h5, by show min 999 (aM A + 1) ≤ 999; omega, h7⟩
  have := h3 p
  show dryS (aN A) (aG A) (aS A) p ≤ 40
  unfold dryS
  split <;> (try split) <;> omega
theorem zb_max {s : Nat} (h : s ≤ 40) : (if (0 : Int32) < nI s - 1 then nI s - 1 else 0) = nI (s - 1) := by
  have h1 : ∀ s, s ≤ 40 → (if (0 : Int32) < nI s - 1 then nI s - 1 else 0) = nI (s - 1) := by decide +kernel
  exact h1 s h
theorem zb_min9 {m : Nat} (h : m ≤ 999) : (if (nI m + 1 : Int32) < 999 then nI m + 1 else 999) = nI (min 999 (m + 1)) := by
  rw [nI_1]
  have h4 : (999 : Int32) = nI 999 := rfl
  rw [h4]
  by_cases hc : m + 1 < 999
  · rw [if_pos ((nI_ltI (by omega) (by decide)).mpr hc)]; congr 1; omega
  · rw [if_neg (fun z => hc ((nI_ltI (by omega) (by decide)).mp z))]; congr 1; omega
theorem dryS_step {n g i : Nat} {s : Nat → Nat} (hi : i < n) : dryS (i + 1) g s = un (dryS i g s) i (if g.testBit i then s i else s i - 1) := by
  funext p
  by_cases e : p = i
  · subst e; rw [un_s]; unfold dryS; rw [if_pos (by omega)]
  · rw [un_n _ _ e]
    unfold dryS
    by_cases h : p < i
    · rw [if_pos (by omega), if_pos h]
    · rw [if_neg (by omega), if_neg h]
theorem dryS_at {g i : Nat} {s : Nat → Nat} : dryS i g s i = s i := by unfold dryS; rw [if_neg (by omega)]
theorem c_dry_2 {S0 : tq_St} {K : tq_St → Prop} (hw : wfE A) (hK : ∀ S', RC S' o (dryF A) → Fr o S0 S' → (∀ k, k ≠ 7 → S'.1 o k = S0.1 o k) → K S') : ∀ (m p f : Nat) (S : tq_St), p + m = aN A → m < f → RC S o (uS A (dryS p (aG A) (aS A))) → Fr o S0 S → S.1 = S0.1 → wp_X1_dry_2 o K f (nI p) S
  | 0, p, f + 1, S, h1, h2, hR, hF, hI => by
    have hn := hw.1
    have hm := hw.2.2.2.2.2.1
    unfold wp_X1_dry_2
    rw [hR.1]
    refine pk_le (aN A) p (fun _ => nm_e ?_) (fun z => absurd z (by omega))
    rw [hR.2.2.1, zb_min9 hm]
    have e : p = aN A := by omega
    subst e
    exact hK _ (hR.m _) (hF.I _ _) (fun k hk => by rw [sI_1, if_neg hk, hI])
  | m + 1, p, f + 1, S, h1, h2, hR, hF, hI => by
    have hn := hw.1
    unfold wp_X1_dry_2
    rw [hR.1]
    refine pk_le (aN A) p (fun z => absurd z (by omega)) (fun _ => ?_)
    refine c_waitsN hR.1 hn hR.2.1 hw.g31 (by omega) (fun hb => ?_) (fun hb => ?_)
    · refine ⟨fun z => absurd z (by decide), fun _ => ⟨vp_in_nI (by omega) (by decide), vp_in_nI (by omega) (by decide), nm_e (nm_r (nI_1 p) ?_)⟩⟩
      rw [nI_clamp (by omega), hR.2.2.2.2.2.2.2.1 p (by show p < aN A; omega)]
      have hv : aS (uS A (dryS p (aG A) (aS A))) p = aS A p := dryS_at
      rw [hv, zb_max (hw.2.2.1 p)]
      refine c_dry_2 hw hK m (p + 1) f _ (by omega) (by omega) ?_ (hF.A _ _ _) hI
      rw [dryS_step (n := aN A) (by omega), if_neg (by rw [hb]; decide)]
      exact hR.s p _
    · refine ⟨fun _ => nm_r (nI_1 p) ?_, fun z => absurd rfl z⟩
      refine c_dry_2 hw hK m (p + 1) f _ (by omega) (by omega) ?_ hF hI
      rw [dryS_step (n := aN A) (by omega), if_pos hb]
      have e : un (dryS p (aG A) (aS A)) p (aS A p) = dryS p (aG A) (aS A) := by
        funext j
        by_cases e : j = p
        · subst e; rw [un_s, dryS_at]
        · rw [un_n _ _ e]
      rw [e]
      exact hR
theorem c_dry {K : tq_St → Prop} (hR : RC S o A) (hw : wfE A) (hK : ∀ S', RC S' o (dryF A) → Fr o S S' → (∀ k, k ≠ 7 → S'.1 o k = S.1 o k) → K S') : wp_X1_dry o S K := by
  refine c_dry_2 hw hK (aN A) 0 2000 S (by omega) (by have := hw.1; omega) ?_ Fr.rf rfl
  have e : dryS 0 (aG A) (aS A) = aS A := by funext p; unfold dryS; rw [if_neg (by omega)]
  rw [e]
  exact hR
end EVW
end
section
section EVQ
variable {S : tq_St} {o : Nat} {A : aE}
-- RANK
def rkF (A : aE) (p : Nat) : Nat := if aK A p = 2 ∧ aS A p = 0 then 0 else aW A p + 1
theorem rkF_le (hw : wfE A) (p : Nat) : rkF A p ≤ 1001 := by
  unfold rkF
  have := hw.2.2.2.1 p
  split <;> omega
theorem zb_rk {x : Nat} (h : x ≤ 1000) : nI x - 1 = nI (x + 1) - 2 := by
  have h1 : ∀ x, x ≤ 1000 → nI x - 1 = nI (x + 1) - 2 := by decide +kernel
  exact h1 x h
theorem zb_rkle {a b : Nat} (ha : a ≤ 1001) (hb : b ≤ 1001) : nI a - 2 ≤ nI b - 2 ↔ a ≤ b := by
  rw [fa_le]
  have h1 := pk_sub_toInt (a := a) (b := 2) (by omega) (by omega)
  have h2 := pk_sub_toInt (a := b) (b := 2) (by omega) (by omega)
  have e : nI 2 = (2 : Int32) := rfl
  rw [e] at h1 h2
  omega
theorem c_rank {p : Nat} {K : Int32 → tq_St → Prop} (hR : RC S o A) (hw : wfE A) (hp : p < aN A) (hK : K (nI (rkF A p) - 2) S) : wp_X1_rank o (nI p) S K := by
  have hn := hw.1
  have h23 : ¬ (aK A p = 2 ∧ aS A p = 0) → wp_X1_rank_23 o K (nI p) S := by
    intro h
    refine ⟨fun _ => ⟨vp_in_nI (by omega) (by decide), ?_⟩, fun z => absurd rfl z⟩
    rw [nI_clamp (by omega), hR.2.2.2.2.2.2.2.2.1 p hp, zb_rk (hw.2.2.2.1 p)]
    unfold rkF at hK
    rw [if_neg h] at hK
    exact hK
  unfold wp_X1_rank
  rw [nI_clamp (by omega), hR.2.2.2.2.2.2.1 p hp, hR.2.2.2.2.2.2.2.1 p hp]
  have e2 : (2 : Int32) = nI 2 := rfl
  have e0 : (0 : Int32) = nI 0 := rfl
  have hk := hw.2.1 p
  have hs := hw.2.2.1 p
  rw [e2, e0, nI_eq (by omega) (by decide), nI_eq (by omega) (by decide)]
  refine ⟨vp_in_nI (by omega) (by decide), fun h => h23 (fun z => h z.1), fun h => ⟨vp_in_nI (by omega) (by decide), fun h2 => h23 (fun z => h2 z.2), fun h2 => ?_⟩⟩
  refine ⟨fun z => absurd z (by decide), fun _ => ?_⟩
  unfold rkF at hK
  rw [if_pos ⟨h, h2⟩] at hK
  exact hK
-- THE QUEUE
def QI (A : aE) (m len : Nat) (L : Nat → Nat) : Prop := len ≤ m ∧ (∀ i, i < len → L i < m ∧ (aG A).testBit (L i) = false) ∧ (∀ q, q < m → (aG A).testBit q = false → ∃ i, i < len ∧ L i = q) ∧ ∀ i j, i < j → j < len → rkF A (L j) < rkF A (L i) ∨ (rkF A (L j) = rkF A (L i) ∧ L i < L j)
theorem QI.skip {m len : Nat} {L : Nat → Nat} (h : QI A m len L) (hb : (aG A).testBit m = true) : QI A (m + 1) len L := by
  obtain ⟨h1, h2, h3, h4⟩ := h
  refine ⟨by omega, fun i hi => ⟨by have := (h2 i hi).1; omega, (h2 i hi).2⟩, fun q hq hb2 => ?_, h4⟩
  by_cases e : q = m
  · subst e; rw [hb] at hb2; cases hb2
  · exact h3 q (by omega) hb2
def insL (L : Nat → Nat) (a p : Nat) : Nat → Nat := fun i => if i < a then L i else if i = a then p else L (i - 1)
theorem insL_lo {L : Nat → Nat} {a p i : Nat} (h : i < a) : insL L a p i = L i := by unfold insL; rw [if_pos h]
theorem insL_at {L : Nat → Nat} {a p : Nat} : insL L a p a = p := by unfold insL; rw [if_neg (by omega), if_pos rfl]
theorem insL_hi {L : Nat → Nat} {a p i : Nat} (h : a < i) : insL L a p i = L (i - 1) := by unfold insL; rw [if_neg (by omega), if_neg (by omega)]
theorem QI.ins {m len a : Nat} {L : Nat → Nat} (h : QI A m len L) (hb : (aG A).testBit m = false) (ha : a ≤ len) (hlo : ∀ i, a ≤ i → i < len → rkF A (L i) < rkF A m) (hhi : a = 0 ∨ rkF A m ≤ rkF A (L (a - 1))) : QI A (m + 1) (len + 1) (insL L a m) := by
  obtain ⟨h1, h2, h3, h4⟩ := h
  refine ⟨by omega, fun i hi => ?_, fun q hq hb2 => ?_, fun i j hij hj => ?_⟩
  · rcases Nat.lt_trichotomy i a with c | c | c
    · rw [insL_lo c]; have := h2 i (by omega); exact ⟨by omega, this.2⟩
    · subst c; rw [insL_at]; exact ⟨by omega, hb⟩
    · rw [insL_hi c]; have := h2 (i - 1) (by omega); exact ⟨by omega, this.2⟩
  · by_cases e : q = m
    · subst e; exact ⟨a, by omega, insL_at⟩
    · obtain ⟨i, hi, rfl⟩ := h3 q (by omega) hb2
      by_cases c : i < a
      · exact ⟨i, by omega, insL_lo c⟩
      · exact ⟨i + 1, by omega, by rw [insL_hi (by omega)]; rfl⟩
  · rcases Nat.lt_trichotomy j a with c | c | c
    · rw [insL_lo c, insL_lo (by omega)]; exact h4 i j hij (by omega)
    · subst c
      rw [insL_at, insL_lo hij]
      have hm : rkF A m ≤ rkF A (L (j - 1)) := by rcases hhi with z | z; omega; exact z
      have hi2 : rkF A (L (j - 1)) ≤ rkF A (L i) := by
        by_cases e : i = j - 1
        · subst e; exact Nat.le_refl _
        · rcases h4 i (j - 1) (by omega) (by omega) with z | z <;> omega
      have := (h2 i (by omega)).1
      omega
    · rw [insL_hi c]
      rcases Nat.lt_trichotomy i a with d | d | d
      · rw [insL_lo d]; exact h4 i (j - 1) (by omega) (by omega)
      · subst d; rw [insL_at]; exact Or.inl (hlo (j - 1) (by omega) (by omega))
      · rw [insL_hi d]; exact h4 (i - 1) (j - 1) (by omega) (by omega)
theorem c_line_22 {S0 : tq_St} {K : Int32 → tq_St → Prop} {rec4 : Int32 → Int32 → tq_St → Prop} {p len : Nat} {L : Nat → Nat} (hw : wfE A) (hp : p < aN A) (hb : (aG A).testBit p = false) (hQ : QI A p len L)
    (hrec : ∀ (S' : tq_St) (L' : Nat → Nat), RC S' o A → Fr o S0 S' → S'.1 = S0.1 → QI A (p + 1) (len + 1) L' → (∀ i, i < len + 1 → S'.2.1 o 4 i = nI (L' i)) → rec4 (nI (len + 1)) (nI (p + 1)) S') :
    ∀ (a f : Nat) (S : tq_St), a ≤ len → a < f → RC S o A → Fr o S0 S → S.1 = S0.1 → (∀ i, i < a → S.2.1 o 4 i = nI (L i)) → (∀ i, a < i → i < len + 1 → S.2.1 o 4 i = nI (L (i - 1))) → (∀ i, a ≤ i → i < len → rkF A (L i) < rkF A p) → wp_X1_lineUp_22 o K rec4 f (nI len) (nI p) (nI a) S := by
  have hn := hw.1
  have hl := hQ.1
  have hend : ∀ (a : Nat) (S : tq_St), a ≤ len → RC S o A → Fr o S0 S → S.1 = S0.1 → (∀ i, i < a → S.2.1 o 4 i = nI (L i)) → (∀ i, a < i → i < len + 1 → S.2.1 o 4 i = nI (L (i - 1))) → (∀ i, a ≤ i → i < len → rkF A (L i) < rkF A p) → (a = 0 ∨ rkF A p ≤ rkF A (L (a - 1))) → wp_X1_lineUp_66 o K rec4 (nI len) (nI p) (nI a) S := by
    intro a S ha hR hF hI hlo hhi hr hx
    unfold wp_X1_lineUp_66
    refine ⟨vp_in_nI (by omega) (by decide), nm_e (nm_r (nI_1 len) (nm_r (nI_1 p) ?_))⟩
    rw [nI_clamp (by omega)]
    refine hrec _ (insL L a p) (hR.l _ _) (hF.A _ _ _) hI (hQ.ins hb ha hr hx) (fun i hi => ?_)
    rw [sA_at]
    rcases Nat.lt_trichotomy i a with c | c | c
    · rw [if_neg (by omega), insL_lo c]; exact hlo i c
    · subst c; rw [if_pos rfl, insL_at]
    · rw [if_neg (by omega), insL_hi c]; exact hhi i c hi
  intro a
  induction a with
  | zero =>
    intro f S ha hf hR hF hI hlo hhi hr
    obtain ⟨f, rfl⟩ : ∃ k, f = k + 1 := ⟨f - 1, by omega⟩
    exact ⟨fun _ => hend 0 S ha hR hF hI hlo hhi hr (Or.inl rfl), fun z => absurd (by decide) z⟩
  | succ a ih =>
    intro f S ha hf hR hF hI hlo hhi hr
    obtain ⟨f, rfl⟩ : ∃ k, f = k + 1 := ⟨f - 1, by omega⟩
    unfold wp_X1_lineUp_22
    refine ⟨fun z => absurd z (nI_nle (by omega) (by omega)), fun _ => ?_⟩
    rw [nI_pred]
    refine ⟨vp_in_nI (by omega) (by decide), ?_⟩
    rw [nI_clamp (n := a) (by omega), hlo a (by omega)]
    have hLa := hQ.2.1 a (by omega)
    refine c_rank hR hw (by omega) ?_
    refine c_rank hR hw hp ?_
    rw [zb_rkle (rkF_le hw _) (rkF_le hw _)]
    refine ⟨fun z => ?_, fun z => ⟨vp_in_nI (by omega) (by decide), vp_in_nI (by omega) (by decide), nm_e (nm_r (pk_m1 a) ?_)⟩⟩
    · exact hend (a + 1) S ha hR hF hI hlo hhi hr (Or.inr (by rw [Nat.add_sub_cancel]; exact z))
    · rw [nI_clamp (n := a + 1) (by omega), hlo a (by omega)]
      refine ih f _ (by omega) (by omega) (hR.l _ _) (hF.A _ _ _) hI (fun i hi => ?_) (fun i h1 h2 => ?_) (fun i h1 h2 => ?_)
      · rw [sA_at, if_neg (by omega)]; exact hlo i (by omega)
      · rw [sA_at]
        by_cases e : i = a + 1
        · subst e; rw [if_pos rfl, Nat.add_sub_cancel]
        · rw [if_neg e]; exact hhi i (by omega) h2
      · by_cases e : i = a
        · subst e; omega
        · exact hr i (by omega) h2
theorem c_line_4 {S0 : tq_St} {K : Int32 → tq_St → Prop} (hw : wfE A) (hK : ∀ (S' : tq_St) (len : Nat) (L : Nat → Nat), RC S' o A → Fr o S0 S' → S'.1 = S0.1 → QI A (aN A) len L → (∀ i, i < len → S'.2.1 o 4 i = nI (L i)) → K (nI len) S') :
    ∀ (m p f len : Nat) (L : Nat → Nat) (S : tq_St), p + m = aN A → m < f → RC S o A → Fr o S0 S → S.1 = S0.1 → QI A p len L → (∀ i, i < len → S.2.1 o 4 i = nI (L i)) → wp_X1_lineUp_4 o K f (nI len) (nI p) S
  | 0, p, f + 1, len, L, S, h1, h2, hR, hF, hI, hQ, hM => by
    have hn := hw.1
    unfold wp_X1_lineUp_4
    rw [hR.1]
    have e : p = aN A := by omega
    subst e
    exact pk_le (aN A) (aN A) (fun _ => hK S len L hR hF hI hQ hM) (fun z => absurd z (by omega))
  | m + 1, p, f + 1, len, L, S, h1, h2, hR, hF, hI, hQ, hM => by
    have hn := hw.1
    have hl := hQ.1
    unfold wp_X1_lineUp_4
    rw [hR.1]
    refine pk_le (aN A) p (fun z => absurd z (by omega)) (fun _ => ?_)
    refine c_waitsN hR.1 hn hR.2.1 hw.g31 (by omega) (fun hb => ?_) (fun hb => ?_)
    · refine ⟨fun z => absurd z (by decide), fun _ => ?_⟩
      refine c_line_22 (S0 := S0) hw (by omega) hb hQ (fun S' L' a1 a2 a3 a4 a5 => ?_) len 2000 S (Nat.le_refl _) (by omega) hR hF hI hM (fun i h1 h2 => by omega) (fun i h1 h2 => by omega)
      exact c_line_4 hw hK m (p + 1) f (len + 1) L' S' (by omega) (by omega) a1 a2 a3 a4 a5
    · refine ⟨fun _ => nm_r (nI_1 p) ?_, fun z => absurd rfl z⟩
      exact c_line_4 hw hK m (p + 1) f len L S (by omega) (by omega) hR hF hI (hQ.skip hb) hM
theorem c_line {K : Int32 → tq_St → Prop} (hR : RC S o A) (hw : wfE A) (hK : ∀ (S' : tq_St) (len : Nat) (L : Nat → Nat), RC S' o A → Fr o S S' → S'.1 = S.1 → QI A (aN A) len L → (∀ i, i < len → S'.2.1 o 4 i = nI (L i)) → K (nI len) S') : wp_X1_lineUp o S K :=
  c_line_4 hw hK (aN A) 0 2000 0 (fun _ => 0) S (by omega) (by have := hw.1; omega) hR Fr.rf rfl ⟨by omega, fun i hi => by omega, fun q hq => by omega, fun i j h1 h2 => by omega⟩ (fun i hi => by omega)
-- THE SAME BY CHOICE: who is the next of those not chosen yet
def nxP (A : aE) (but : Nat) : Nat → Option Nat
  | 0 => none
  | p + 1 => if !(aG A).testBit p && !but.testBit p && (match nxP A but p with
    | none => true
    | some j => decide (rkF A j < rkF A p)) then some p else nxP A but p
def nextF (A : aE) (but : Nat) : Option Nat := nxP A but (aN A)
/-- q leads those of the first m who wait and are not chosen -/
def lead (A : aE) (but m q : Nat) : Prop := q < m ∧ (aG A).testBit q = false ∧ but.testBit q = false ∧ ∀ j, j < m → (aG A).testBit j = false → but.testBit j = false → rkF A j < rkF A q ∨ (rkF A j = rkF A q ∧ q ≤ j)
theorem nxP_spec (A : aE) (but : Nat) : ∀ m, (nxP A but m = none ∧ ∀ j, j < m → (aG A).testBit j = false → but.testBit j = true) ∨ ∃ q, nxP A but m = some q ∧ lead A but m q
  | 0 => Or.inl ⟨rfl, fun j hj => by omega⟩
  | m + 1 => by
    unfold nxP
    cases hg : (aG A).testBit m
    · cases hb : but.testBit m
      · rcases nxP_spec A but m with ⟨e, h⟩ | ⟨q, e, h⟩
        · rw [e]
          refine Or.inr ⟨m, by simp, by omega, hg, hb, fun j hj h1 h2 => ?_⟩
          by_cases c : j = m
          · subst c; exact Or.inr ⟨rfl, Nat.le_refl _⟩
          · have := h j (by omega) h1; rw [h2] at this; cases this
        · rw [e]
          by_cases c : rkF A q < rkF A m
          · refine Or.inr ⟨m, by simp [c], by omega, hg, hb, fun j hj h1 h2 => ?_⟩
            by_cases d : j = m
            · subst d; exact Or.inr ⟨rfl, Nat.le_refl _⟩
            · rcases h.2.2.2 j (by omega) h1 h2 with z | z <;> exact Or.inl (by omega)
          · refine Or.inr ⟨q, by simp [c], by have := h.1; omega, h.2.1, h.2.2.1, fun j hj h1 h2 => ?_⟩
            by_cases d : j = m
            · subst d; have := h.1; omega
            · exact h.2.2.2 j (by omega) h1 h2
      · rcases nxP_spec A but m with ⟨e, h⟩ | ⟨q, e, h⟩
        · refine Or.inl ⟨by simp [e], fun j hj h1 => ?_⟩
          by_cases c : j = m
          · subst c; exact hb
          · exact h j (by omega) h1
        · refine Or.inr ⟨q, by simp [e], by have := h.1; omega, h.2.1, h.2.2.1, fun j hj h1 h2 => ?_⟩
          by_cases d : j = m
          · subst d; rw [hb] at h2; cases h2
          · exact h.2.2.2 j (by omega) h1 h2
    · rcases nxP_spec A but m with ⟨e, h⟩ | ⟨q, e, h⟩
      · refine Or.inl ⟨by simp [e], fun j hj h1 => ?_⟩
        by_cases c : j = m
        · subst c; rw [hg] at h1; cases h1
        · exact h j (by omega) h1
      · refine Or.inr ⟨q, by simp [e], by have := h.1; omega, h.2.1, h.2.2.1, fun j hj h1 h2 => ?_⟩
        by_cases d : j = m
        · subst d; rw [hg] at h1; cases h1
        · exact h.2.2.2 j (by omega) h1 h2
theorem lead_one {but m q r : Nat} (h : lead A but m q) (h2 : lead A but m r) : q = r := by
  have h3 := h.2.2.2 r h2.1 h2.2.1 h2.2.2.1
  have h4 := h2.2.2.2 q h.1 h.2.1 h.2.2.1
  omega
theorem next_of {but q : Nat} (h : lead A but (aN A) q) : nextF A but = some q := by
  rcases nxP_spec A but (aN A) with ⟨e, h2⟩ | ⟨r, e, h2⟩
  · have := h2 q h.1 h.2.1; rw [h.2.2.1] at this; cases this
  · rw [lead_one h h2]; exact e
theorem next_no {but : Nat} (h : ∀ j, j < aN A → (aG A).testBit j = false → but.testBit j = true) : nextF A but = none := by
  rcases nxP_spec A but (aN A) with ⟨e, h2⟩ | ⟨r, e, h2⟩
  · exact e
  · have := h r h2.1 h2.2.1; rw [h2.2.2.1] at this; cases this
theorem next_lt {but q : Nat} (h : nextF A but = some q) : q < aN A ∧ (aG A).testBit q = false ∧ but.testBit q = false := by
  rcases nxP_spec A but (aN A) with ⟨e, h2⟩ | ⟨r, e, h2⟩
  · unfold nextF at h; rw [e] at h; cases h
  · unfold nextF at h; rw [e] at h; cases h; exact ⟨h2.1, h2.2.1, h2.2.2.1⟩
def selB (A : aE) : Nat → Nat
  | 0 => 0
  | i + 1 => match nextF A (selB A i) with
    | none => selB A i
    | some p => selB A i ||| 2 ^ p
theorem selB_lt (A : aE) : ∀ i, selB A i < 2 ^ aN A
  | 0 => Nat.two_pow_pos _
  | i + 1 => by
    unfold selB
    cases e : nextF A (selB A i) with
    | none => exact selB_lt A i
    | some p => exact zb_orlt (selB_lt A i) (next_lt e).1
theorem QI.sel {len : Nat} {L : Nat → Nat} (h : QI A (aN A) len L) : ∀ i, i ≤ len → ∀ q, (selB A i).testBit q = true ↔ ∃ j, j < i ∧ L j = q
  | 0, _, q => by simp [selB]
  | i + 1, hi, q => by
    have ih := QI.sel h i (by omega)
    have hb : ∀ j, (selB A i).testBit j = false ↔ ∀ x, x < i → L x ≠ j := by
      intro j
      have := ih j
      constructor
      · intro h1 x hx e
        have := this.mpr ⟨x, hx, e⟩
        rw [h1] at this; cases this
      · intro h1
        cases hc : (selB A i).testBit j
        · rfl
        · obtain ⟨x, hx, e⟩ := this.mp hc
          exact absurd e (h1 x hx)
    have hn : nextF A (selB A i) = some (L i) := by
      refine next_of ⟨(h.2.1 i (by omega)).1, (h.2.1 i (by omega)).2, (hb _).mpr (fun x hx e => ?_), fun j hj h1 h2 => ?_⟩
      · rcases h.2.2.2 x i hx (by omega) with z | z
        · rw [e] at z; omega
        · omega
      · obtain ⟨y, hy, rfl⟩ := h.2.2.1 j hj h1
        have hyi : ¬ y < i := fun hlt => (hb _).mp h2 y hlt rfl
        by_cases e : y = i
        · subst e; exact Or.inr ⟨rfl, Nat.le_refl _⟩
        · rcases h.2.2.2 i y (by omega) hy with z | z
          · exact Or.inl z
          · exact Or.inr ⟨z.1, by omega⟩
    unfold selB
    rw [hn]
    show (selB A i ||| 2 ^ L i).testBit q = true ↔ _
    rw [fb_bit_set, Bool.or_eq_true, ih q, decide_eq_true_eq]
    constructor
    · rintro (⟨j, hj, e⟩ | e)
      · exact ⟨j, by omega, e⟩
      · exact ⟨i, by omega, e.symm⟩
    · rintro ⟨j, hj, e⟩
      by_cases c : j = i
      · subst c; exact Or.inr e.symm
      · exact Or.inl ⟨j, by omega, e⟩
theorem QI.next {len : Nat} {L : Nat → Nat} (h : QI A (aN A) len L) {i : Nat} (hi : i < len) : nextF A (selB A i) = some (L i) := by
  have hb : ∀ j, (selB A i).testBit j = false ↔ ∀ x, x < i → L x ≠ j := by
    intro j
    have := h.sel i (by omega) j
    constructor
    · intro h1 x hx e
      have := this.mpr ⟨x, hx, e⟩
      rw [h1] at this; cases this
    · intro h1
      cases hc : (selB A i).testBit j
      · rfl
      · obtain ⟨x, hx, e⟩ := this.mp hc
        exact absurd e (h1 x hx)
  refine next_of ⟨(h.2.1 i (by omega)).1, (h.2.1 i (by omega)).2, (hb _).mpr (fun x hx e => ?_), fun j hj h1 h2 => ?_⟩
  · rcases h.2.2.2 x i hx (by omega) with z | z
    · rw [e] at z; omega
    · omega
  · obtain ⟨y, hy, rfl⟩ := h.2.2.1 j hj h1
    have hyi : ¬ y < i := fun hlt => (hb _).mp h2 y hlt rfl
    by_cases e : y = i
    · subst e; exact Or.inr ⟨rfl, Nat.le_refl _⟩
    · rcases h.2.2.2 i y (by omega) hy with z | z
      · exact Or.inl z
      · exact Or.inr ⟨z.1, by omega⟩
theorem QI.selS {len : Nat} {L : Nat → Nat} (h : QI A (aN A) len L) {i : Nat} (hi : i < len) : selB A (i + 1) = selB A i ||| 2 ^ L i := by
  show (match nextF A (selB A i) with | none => selB A i | some p => selB A i ||| 2 ^ p) = _
  rw [h.next hi]
theorem QI.no {len : Nat} {L : Nat → Nat} (h : QI A (aN A) len L) : nextF A (selB A len) = none := by
  refine next_no (fun j hj h1 => ?_)
  obtain ⟨i, hi, e⟩ := h.2.2.1 j hj h1
  exact (h.sel len (Nat.le_refl _) j).mpr ⟨i, hi, e⟩
theorem QI.over {len : Nat} {L : Nat → Nat} (h : QI A (aN A) len L) : ∀ k, selB A (len + k) = selB A len
  | 0 => rfl
  | k + 1 => by
    show (match nextF A (selB A (len + k)) with | none => selB A (len + k) | some p => selB A (len + k) ||| 2 ^ p) = _
    rw [QI.over h k, h.no]
theorem QI.nextN {len : Nat} {L : Nat → Nat} (h : QI A (aN A) len L) {i : Nat} (hi : len ≤ i) : nextF A (selB A i) = none := by
  have := h.over (i - len)
  rw [show len + (i - len) = i by omega] at this
  rw [this]; exact h.no
theorem c_inLine {i : Nat} {K : Int32 → tq_St → Prop} (hR : RC S o A) (hw : wfE A) (hi : i < 5) (hK : ∀ S', RC S' o A → Fr o S S' → S'.1 = S.1 → K (oI (nextF A (selB A i))) S') : wp_X1_inLine o (nI i) S K := by
  have hn := hw.1
  unfold wp_X1_inLine
  refine c_line hR hw (fun S' len L a1 a2 a3 a4 a5 => ?_)
  have hl := a4.1
  refine ⟨fun z => absurd z (nI_pos (by omega)), fun _ => ?_⟩
  refine pk_le len i (fun h => ?_) (fun h => ⟨vp_in_nI (by omega) (by decide), ?_⟩)
  · have := hK S' a1 a2 a3
    rw [a4.nextN h] at this
    exact this
  · rw [nI_clamp (by omega), a5 i h]
    have := hK S' a1 a2 a3
    rw [a4.next h] at this
    exact this
-- A TRAM
abbrev tramB (A : aE) : Nat := selB A (aR A)
abbrev boardF (A : aE) : aE := uG A (aG A ||| tramB A)
theorem boardF_wf (hw : wfE A) : wfE (boardF A) := by
  obtain ⟨h1, h2, h3, h4, h5, h6⟩ := hw
  exact ⟨h1, h2, h3, h4, Nat.or_lt_two_pow h5 (selB_lt A _), h6⟩
theorem c_board_39 {b : Nat} {K : Int32 → tq_St → Prop} (hR : RC S o A) (hK : ∀ S', RC S' o (uG A (aG A ||| b)) → Fr o S S' → (∀ k, k ≠ 6 → S'.1 o k = S.1 o k) → K (nI b) S') : wp_X1_board_39 o K (nI b) S := by
  unfold wp_X1_board_39
  refine nm_e ?_
  rw [hR.2.1, fa_or]
  exact hK _ (hR.g _) (Fr.rf.I _ _) (fun k hk => by rw [sI_1, if_neg hk])
theorem c_board_9 {len : Nat} {L : Nat → Nat} {K : Int32 → tq_St → Prop} (hR : RC S o A) (hw : wfE A) (hQ : QI A (aN A) len L) (hM : ∀ i, i < len → S.2.1 o 4 i = nI (L i)) (hK : ∀ S', RC S' o (boardF A) → Fr o S S' → (∀ k, k ≠ 6 → S'.1 o k = S.1 o k) → K (nI (tramB A)) S') : ∀ (m i f : Nat), i + m = len → i ≤ aR A → m < f → wp_X1_board_9 o K f (nI len) (nI (selB A i)) (nI i) S := by
  have hn := hw.1
  have hl := hQ.1
  have hr := hw.2.2.2.2.2.2.1
  intro m
  induction m with
  | zero =>
    intro i f h1 h2 h3
    obtain ⟨f, rfl⟩ : ∃ k, f = k + 1 := ⟨f - 1, by omega⟩
    refine pk_le len i (fun _ => ?_) (fun z => absurd z (by omega))
    refine c_board_39 hR (fun S' a1 a2 a3 => ?_)
    have e : selB A i = tramB A := by
      have h4 := hQ.over (aR A - len)
      rw [show len + (aR A - len) = aR A by omega] at h4
      rw [show i = len by omega]
      exact h4.symm
    rw [e] at a1 ⊢
    exact hK S' a1 a2 a3
  | succ m ih =>
    intro i f h1 h2 h3
    obtain ⟨f, rfl⟩ : ∃ k, f = k + 1 := ⟨f - 1, by omega⟩
    unfold wp_X1_board_9
    refine pk_le len i (fun z => absurd z (by omega)) (fun _ => ?_)
    rw [hR.2.2.2.1]
    refine pk_le (aR A) i (fun z => ?_) (fun z => ⟨vp_in_nI (by omega) (by decide), ?_⟩)
    · refine c_board_39 hR (fun S' a1 a2 a3 => ?_)
      have e : selB A i = tramB A := by rw [show i = aR A by omega]
      rw [e] at a1 ⊢
      exact hK S' a1 a2 a3
    · rw [nI_clamp (by omega), hM i (by omega)]
      have hLi := (hQ.2.1 i (by omega)).1
      refine nm_r (zb_or (by omega)) (nm_r (nI_1 i) ?_)
      rw [← hQ.selS (by omega)]
      exact ih (i + 1) f (by omega) (by omega) (by omega)
theorem c_board {K : Int32 → tq_St → Prop} (hR : RC S o A) (hw : wfE A) (hK : ∀ S', RC S' o (boardF A) → Fr o S S' → (∀ k, k ≠ 6 → S'.1 o k = S.1 o k) → K (nI (tramB A)) S') : wp_X1_board o S K := by
  have hn := hw.1
  unfold wp_X1_board
  refine c_line hR hw (fun S' len L a1 a2 a3 a4 a5 => ?_)
  have hl := a4.1
  refine c_board_9 a1 hw a4 a5 (fun S2 b1 b2 b3 => hK S2 b1 (a2.tr b2) (fun k hk => by rw [b3 k hk, a3])) len 0 2000 (by omega) (by omega) (by omega)
end EVQ
end
section
section EVP
variable {S : tq_St} {o : Nat} {A : aE}
theorem i_or0 (x : Int32) : x ||| nI 0 = x := by
  apply Int32.toBitVec_inj.1
  show x.toBitVec ||| BitVec.ofNat 32 0 = x.toBitVec
  simp
theorem i_add0 (x : Int32) : x + nI 0 = x := by
  apply Int32.toBitVec_inj.1
  show x.toBitVec + BitVec.ofNat 32 0 = x.toBitVec
  simp
theorem pcN_0 : pcN 0 = 0 := by decide
-- AN ACT
def okA (n a : Nat) : Prop := a < n ∨ a = 5 ∨ a = 6
def playF (A : aE) (a : Nat) : aE := if a = 5 then dryF A else if a = 6 then boardF A else if (aG A).testBit a then A else thinkF A a
def plW (A : aE) (a : Nat) : Nat := if a = 5 then 0 else if a = 6 then 0 else if (aG A).testBit a then 0 else (tkF A a).2.2
def plD (A : aE) (a : Nat) : Bool := if a = 5 then true else if a = 6 then true else !(aG A).testBit a
theorem playF_wf (hw : wfE A) (a : Nat) : wfE (playF A a) := by
  unfold playF
  split
  · exact dryF_wf hw
  · split
    · exact boardF_wf hw
    · split
      · exact hw
      · exact (thinkF_wf hw a).1
theorem plW_lt (hw : wfE A) (a : Nat) : plW A a < 2 ^ aN A := by
  unfold plW
  split
  · exact Nat.two_pow_pos _
  · split
    · exact Nat.two_pow_pos _
    · split
      · exact Nat.two_pow_pos _
      · exact (thinkF_wf hw a).2
theorem playF_same (A : aE) (a : Nat) : aN (playF A a) = aN A ∧ aK (playF A a) = aK A ∧ aR (playF A a) = aR A ∧ aT (playF A a) = aT A ∧ aC (playF A a) = aC A ∧ aA (playF A a) = aA A := by
  unfold playF
  split
  · exact ⟨rfl, rfl, rfl, rfl, rfl, rfl⟩
  · split
    · exact ⟨rfl, rfl, rfl, rfl, rfl, rfl⟩
    · split
      · exact ⟨rfl, rfl, rfl, rfl, rfl, rfl⟩
      · exact ⟨rfl, rfl, rfl, rfl, rfl, rfl⟩
def bI (b : Bool) : Int32 := if b then 1 else 0
theorem c_play {a : Nat} {K : Int32 → tq_St → Prop} (hR : RC S o A) (hw : wfE A) (ha : okA (aN A) a) (hK : ∀ S', RC S' o (playF A a) → Fr o S S' → S'.1 o 11 = S.1 o 11 ||| nI (plW A a) → S'.1 o 12 = S.1 o 12 + nI (pcN (plW A a)) → S'.1 o 13 = S.1 o 13 → K (bI (plD A a)) S') : wp_X1_play o (nI a) S K := by
  have hn := hw.1
  unfold okA at ha
  unfold wp_X1_play
  have e5 : (5 : Int32) = nI 5 := rfl
  have e6 : (6 : Int32) = nI 6 := rfl
  rw [e5, e6, nI_eq (by omega) (by decide), nI_eq (by omega) (by decide)]
  unfold playF plW plD at hK
  refine ⟨fun h5 => ⟨fun h6 => ?_, fun h6 => ?_⟩, fun h5 => ?_⟩
  · rw [if_neg h5, if_neg h6, if_neg h5, if_neg h6, if_neg h5, if_neg h6] at hK
    have ha2 : a < aN A := by omega
    refine c_waitsN hR.1 hn hR.2.1 hw.g31 ha2 (fun hb => ?_) (fun hb => ?_)
    · refine ⟨fun _ => ?_, fun z => absurd z (by decide)⟩
      simp only [hb, Bool.false_eq_true, if_false] at hK
      exact c_think hR hw ha2 hK
    · refine ⟨fun z => absurd rfl z, fun _ => ?_⟩
      simp only [hb, if_true] at hK
      exact hK S hR Fr.rf (by rw [i_or0]) (by rw [pcN_0, i_add0]) rfl
  · rw [if_neg h5, if_pos h6, if_neg h5, if_pos h6, if_neg h5, if_pos h6] at hK
    refine c_board hR hw (fun S' a1 a2 a3 => hK S' a1 a2 ?_ ?_ ?_)
    · rw [i_or0, a3 _ (by decide)]
    · rw [pcN_0, i_add0, a3 _ (by decide)]
    · rw [a3 _ (by decide)]
  · rw [if_pos h5, if_pos h5, if_pos h5] at hK
    refine c_dry hR hw (fun S' a1 a2 a3 => hK S' a1 a2 ?_ ?_ ?_)
    · rw [i_or0, a3 _ (by decide)]
    · rw [pcN_0, i_add0, a3 _ (by decide)]
    · rw [a3 _ (by decide)]
-- THE PLAN
abbrev aY : Type := Nat × Nat × Option Nat
def goP (ac : Nat → Nat) : Nat → Nat → aE → aY → aE × aY
  | 0, _, A, t => (A, t)
  | m + 1, i, A, t => goP ac m (i + 1) (playF A (ac i)) (t.1 ||| plW A (ac i), t.2.1 + pcN (plW A (ac i)), if plD A (ac i) then t.2.2 else match t.2.2 with
    | none => some i
    | some j => some j)
def TC (S : tq_St) (o : Nat) (t : aY) : Prop := S.1 o 11 = nI t.1 ∧ S.1 o 12 = nI t.2.1 ∧ S.1 o 13 = oI t.2.2
abbrev planR (A : aE) : aE × aY := goP (aA A) (aC A) 0 A (0, 0, none)
theorem goP_ok {ac : Nat → Nat} : ∀ (m i : Nat) (A : aE) (t : aY), wfE A → wfE (goP ac m i A t).1 ∧ aN (goP ac m i A t).1 = aN A ∧ aK (goP ac m i A t).1 = aK A ∧ aR (goP ac m i A t).1 = aR A ∧ aT (goP ac m i A t).1 = aT A ∧ aC (goP ac m i A t).1 = aC A ∧ aA (goP ac m i A t).1 = aA A
  | 0, i, A, t, hw => ⟨hw, rfl, rfl, rfl, rfl, rfl, rfl⟩
  | m + 1, i, A, t, hw => by
    unfold goP
    obtain ⟨h1, h2, h3, h4, h5, h6, h7⟩ := goP_ok (ac := ac) m (i + 1) (playF A (ac i)) (t.1 ||| plW A (ac i), t.2.1 + pcN (plW A (ac i)), if plD A (ac i) then t.2.2 else match t.2.2 with
      | none => some i
      | some j => some j) (playF_wf hw _)
    obtain ⟨g2, g3, g4, g5, g6, g7⟩ := playF_same A (ac i)
    exact ⟨h1, h2.trans g2, h3.trans g3, h4.trans g4, h5.trans g5, h6.trans g6, h7.trans g7⟩
theorem c_follow_2 {S0 : tq_St} {c : Nat} {ac : Nat → Nat} {n : Nat} {K : tq_St → Prop} (hc : c ≤ 8) (hac : ∀ i, i < c → okA n (ac i)) : ∀ (m i f : Nat) (A : aE) (t : aY) (S : tq_St), i + m = c → m < f → wfE A → aN A = n → aC A = c → aA A = ac → RC S o A → TC S o t → (∀ j, t.2.2 = some j → j < 8) → Fr o S0 S → (∀ S', RC S' o (goP ac m i A t).1 → TC S' o (goP ac m i A t).2 → Fr o S0 S' → K S') → wp_X1_followPlan_2 o K f (nI i) S
  | 0, i, f + 1, A, t, S, h1, h2, hw, hN, hC, hA, hR, hT, hj, hF, hK => by
    unfold wp_X1_followPlan_2
    rw [hR.2.2.2.2.2.1, hC]
    exact pk_le c i (fun _ => hK S hR hT hF) (fun z => absurd z (by omega))
  | m + 1, i, f + 1, A, t, S, h1, h2, hw, hN, hC, hA, hR, hT, hj, hF, hK => by
    unfold wp_X1_followPlan_2
    rw [hR.2.2.2.2.2.1, hC]
    refine pk_le c i (fun z => absurd z (by omega)) (fun _ => ⟨vp_in_nI (by omega) (by decide), ?_⟩)
    rw [nI_clamp (by omega), hR.2.2.2.2.2.2.2.2.2 i (by rw [hC]; omega), hA]
    obtain ⟨g2, g3, g4, g5, g6, g7⟩ := playF_same A (ac i)
    unfold goP at hK
    refine c_play hR hw (by rw [hN]; exact hac i (by omega)) (fun S' a1 a2 a3 a4 a5 => ?_)
    have hT1 : S'.1 o 11 = nI (t.1 ||| plW A (ac i)) := by rw [a3, hT.1, fa_or]
    have hT2 : S'.1 o 12 = nI (t.2.1 + pcN (plW A (ac i))) := by rw [a4, hT.2.1, nI_add]
    cases hd : plD A (ac i)
    · refine ⟨fun z => absurd rfl z, fun _ => ?_⟩
      rw [a5, hT.2.2]
      simp only [hd, Bool.false_eq_true, if_false] at hK
      cases ht : t.2.2 with
      | none =>
        rw [ht] at hK
        refine ⟨fun z => absurd rfl z, fun _ => nm_e (nm_r (nI_1 i) ?_)⟩
        refine c_follow_2 hc hac m (i + 1) f _ _ _ (by omega) (by omega) (playF_wf hw _) (g2.trans hN) (g6.trans hC) (g7.trans hA) (a1.t (by decide) _) ⟨?_, ?_, ?_⟩ (fun j e => by cases e; omega) ((hF.tr a2).I _ _) hK
        · rw [sI_1, if_neg (by decide)]; exact hT1
        · rw [sI_1, if_neg (by decide)]; exact hT2
        · rw [sI_1, if_pos rfl]; rfl
      | some j =>
        rw [ht] at hK
        refine ⟨fun _ => nm_r (nI_1 i) ?_, fun z => absurd z (oI_ne (by have := hj j ht; omega))⟩
        exact c_follow_2 hc hac m (i + 1) f _ _ _ (by omega) (by omega) (playF_wf hw _) (g2.trans hN) (g6.trans hC) (g7.trans hA) a1 ⟨hT1, hT2, by rw [a5, hT.2.2, ht]⟩ (fun j' e => by cases e; exact hj j ht) (hF.tr a2) hK
    · refine ⟨fun _ => nm_r (nI_1 i) ?_, fun z => absurd z (by decide)⟩
      simp only [hd, if_true] at hK
      exact c_follow_2 hc hac m (i + 1) f _ (t.1 ||| plW A (ac i), t.2.1 + pcN (plW A (ac i)), t.2.2) _ (by omega) (by omega) (playF_wf hw _) (g2.trans hN) (g6.trans hC) (g7.trans hA) a1 ⟨hT1, hT2, by rw [a5, hT.2.2]⟩ hj (hF.tr a2) hK
theorem c_follow {K : tq_St → Prop} (hR : RC S o A) (hw : wfE A) (hT : TC S o (0, 0, none)) (hK : ∀ S', RC S' o (planR A).1 → TC S' o (planR A).2 → Fr o S S' → K S') : wp_X1_followPlan o S K :=
  c_follow_2 (n := aN A) hw.2.2.2.2.2.2.2.2.1 hw.2.2.2.2.2.2.2.2.2 (aC A) 0 2000 A _ S (by omega) (by have := hw.2.2.2.2.2.2.2.2.1; omega) hw rfl rfl rfl hR hT (fun j e => by cases e) Fr.rf hK
-- A COPY
theorem c_copyFrom {p : Nat} {K : tq_St → Prop} (hR : RC S p A) (hw : wfE A) (hne : p ≠ o) (hK : ∀ S', RC S' o A → Fr o S S' → S'.1 o 11 = S.1 p 11 → S'.1 o 12 = S.1 p 12 → S'.1 o 13 = S.1 p 13 → K S') : wp_X1_copyFrom o p S K := by
  have hn := hw.1
  have hc := hw.2.2.2.2.2.2.2.2.1
  obtain ⟨h5, h6, h7, h8, h9, h10, hk, hs, hW, ha⟩ := hR
  unfold wp_X1_copyFrom
  have d5 : ¬ (5 : Int32) < 0 := by decide
  have d8 : ¬ (8 : Int32) < 0 := by decide
  have c5 : (5 : Int32).toNatClampNeg = 5 := by decide
  have c8 : (8 : Int32).toNatClampNeg = 8 := by decide
  rw [c5, c8]
  refine ⟨d5, Nat.le_refl _, Nat.le_refl _, nm_e ⟨d5, Nat.le_refl _, Nat.le_refl _, nm_e ⟨d5, Nat.le_refl _, Nat.le_refl _, nm_e ⟨d8, Nat.le_refl _, Nat.le_refl _, nm_e (nm_e (nm_e (nm_e (nm_e (nm_e (nm_e (nm_e (nm_e (nm_e ?_)))))))))⟩⟩⟩⟩
  refine hK _ ⟨?_, ?_, ?_, ?_, ?_, ?_, fun q hq => ?_, fun q hq => ?_, fun q hq => ?_, fun q hq => ?_⟩ ?_ ?_ ?_ ?_
  · simp [sI, sC, upd, hne, h5]
  · simp [sI, sC, upd, hne, h6]
  · simp [sI, sC, upd, hne, h7]
  · simp [sI, sC, upd, hne, h8]
  · simp [sI, sC, upd, hne, h9]
  · simp [sI, sC, upd, hne, h10]
  · have h : q < 5 := by omega
    simp [sI, sC, hne, va_cpy, h, hk q hq]
  · have h : q < 5 := by omega
    simp [sI, sC, hne, va_cpy, h, hs q hq]
  · have h : q < 5 := by omega
    simp [sI, sC, hne, va_cpy, h, hW q hq]
  · have h : q < 8 := by omega
    simp [sI, sC, hne, va_cpy, h, ha q hq]
  · exact ((((((((((((Fr.rf.C _ _).C _ _).C _ _).C _ _).I _ _).I _ _).I _ _).I _ _).I _ _).I _ _).I _ _).I _ _).I _ _
  · simp [sI, sC, upd, hne]
  · simp [sI, sC, upd, hne]
  · simp [sI, sC, upd, hne]
theorem c_clearTally {K : tq_St → Prop} (hR : RC S o A) (hK : ∀ S', RC S' o A → Fr o S S' → TC S' o (0, 0, none) → K S') : wp_X1_clearTally o S K := by
  unfold wp_X1_clearTally
  refine nm_e (nm_e (nm_e ?_))
  refine hK _ (((hR.t (by decide) _).t (by decide) _).t (by decide) _) (((Fr.rf.I _ _).I _ _).I _ _) ⟨?_, ?_, ?_⟩
  · simp [sI_1]; rfl
  · simp [sI_1]; rfl
  · simp [sI_1]; rfl
theorem c_startFrom {p : Nat} {K : tq_St → Prop} (hR : RC S p A) (hw : wfE A) (hne : p ≠ o) (hK : ∀ S', RC S' o A → Fr o S S' → TC S' o (0, 0, none) → K S') : wp_X1_startFrom o p S K := by
  unfold wp_X1_startFrom
  refine c_copyFrom hR hw hne (fun S2 a1 a2 _ _ _ => ?_)
  exact c_clearTally a1 (fun S3 b1 b2 b3 => hK S3 b1 (a2.tr b2) b3)
-- WHAT IS ASKED OF AN EVENING
def sorF (A : aE) : Nat := fb_sm (fun p => if (aG A).testBit p then 0 else aS A p) (aN A)
theorem c_allSorrow_4 {K : Int32 → tq_St → Prop} (hR : RC S o A) (hw : wfE A) (hK : K (nI (sorF A)) S) : ∀ (m p f : Nat), p + m = aN A → m < f → wp_X1_allSorrow_4 o K f (nI (fb_sm (fun p => if (aG A).testBit p then 0 else aS A p) p)) (nI p) S
  | 0, p, f + 1, h1, h2 => by
    have hn := hw.1
    unfold wp_X1_allSorrow_4
    rw [hR.1]
    refine pk_le (aN A) p (fun _ => ?_) (fun z => absurd z (by omega))
    rw [show p = aN A by omega]
    exact hK
  | m + 1, p, f + 1, h1, h2 => by
    have hn := hw.1
    unfold wp_X1_allSorrow_4
    rw [hR.1]
    refine pk_le (aN A) p (fun z => absurd z (by omega)) (fun _ => ?_)
    have ih := c_allSorrow_4 hR hw hK m (p + 1) f (by omega) (by omega)
    rw [fb_sm_succ] at ih
    refine c_waitsN hR.1 hn hR.2.1 hw.g31 (by omega) (fun hb => ?_) (fun hb => ?_)
    · refine ⟨fun z => absurd z (by decide), fun _ => ⟨vp_in_nI (by omega) (by decide), nm_e (nm_r (nI_1 p) ?_)⟩⟩
      rw [nI_clamp (by omega), hR.2.2.2.2.2.2.2.1 p (by omega), nI_add]
      rw [if_neg (by rw [hb]; decide)] at ih
      exact ih
    · refine ⟨fun _ => nm_r (nI_1 p) ?_, fun z => absurd rfl z⟩
      rw [if_pos hb] at ih
      exact ih
theorem c_allSorrow {K : Int32 → tq_St → Prop} (hR : RC S o A) (hw : wfE A) (hK : K (nI (sorF A)) S) : wp_X1_allSorrow o S K :=
  c_allSorrow_4 hR hw hK (aN A) 0 2000 (by omega) (by have := hw.1; omega)
theorem zb_never {w : Nat} (h : w ≤ 1000) : nI w - 1 = -1 ↔ w = 0 := by
  have h1 : ∀ w, w ≤ 1000 → (nI w - 1 = -1 ↔ w = 0) := by decide +kernel
  exact h1 w h
def wepF (A : aE) : Nat := fb_ct (fun p => decide (aW A p ≠ 0)) (aN A)
theorem c_everWept_4 {K : Int32 → tq_St → Prop} (hR : RC S o A) (hw : wfE A) (hK : K (nI (wepF A)) S) : ∀ (m p f : Nat), p + m = aN A → m < f → wp_X1_everWept_4 o K f (nI (fb_ct (fun p => decide (aW A p ≠ 0)) p)) (nI p) S
  | 0, p, f + 1, h1, h2 => by
    have hn := hw.1
    unfold wp_X1_everWept_4
    rw [hR.1]
    refine pk_le (aN A) p (fun _ => ?_) (fun z => absurd z (by omega))
    rw [show p = aN A by omega]
    exact hK
  | m + 1, p, f + 1, h1, h2 => by
    have hn := hw.1
    unfold wp_X1_everWept_4
    rw [hR.1]
    refine pk_le (aN A) p (fun z => absurd z (by omega)) (fun _ => ?_)
    have ih := c_everWept_4 hR hw hK m (p + 1) f (by omega) (by omega)
    rw [fb_ct_succ] at ih
    rw [nI_clamp (by omega), hR.2.2.2.2.2.2.2.2.1 p (by omega), zb_never (hw.2.2.2.1 p)]
    refine ⟨vp_in_nI (by omega) (by decide), fun z => nm_r (nI_1 p) ?_, fun z => nm_r (nI_1 _) (nm_r (nI_1 p) ?_)⟩
    · rw [if_neg (by simp [z])] at ih
      exact ih
    · rw [if_pos (by simp [z])] at ih
      exact ih
theorem c_everWept {K : Int32 → tq_St → Prop} (hR : RC S o A) (hw : wfE A) (hK : K (nI (wepF A)) S) : wp_X1_everWept o S K :=
  c_everWept_4 hR hw hK (aN A) 0 2000 (by omega) (by have := hw.1; omega)
def trmF (A : aE) : Nat := fb_ct (fun i => decide (aA A i = 6)) (aC A)
theorem c_trams_4 {K : Int32 → tq_St → Prop} (hR : RC S o A) (hw : wfE A) (hK : K (nI (trmF A)) S) : ∀ (m i f : Nat), i + m = aC A → m < f → wp_X1_tramsPlanned_4 o K f (nI (fb_ct (fun i => decide (aA A i = 6)) i)) (nI i) S
  | 0, i, f + 1, h1, h2 => by
    have hc := hw.2.2.2.2.2.2.2.2.1
    unfold wp_X1_tramsPlanned_4
    rw [hR.2.2.2.2.2.1]
    refine pk_le (aC A) i (fun _ => ?_) (fun z => absurd z (by omega))
    rw [show i = aC A by omega]
    exact hK
  | m + 1, i, f + 1, h1, h2 => by
    have hn := hw.1
    have hc := hw.2.2.2.2.2.2.2.2.1
    have ho := hw.2.2.2.2.2.2.2.2.2 i (by omega)
    unfold wp_X1_tramsPlanned_4
    rw [hR.2.2.2.2.2.1]
    refine pk_le (aC A) i (fun z => absurd z (by omega)) (fun _ => ?_)
    have ih := c_trams_4 hR hw hK m (i + 1) f (by omega) (by omega)
    rw [fb_ct_succ] at ih
    have e6 : (6 : Int32) = nI 6 := rfl
    rw [nI_clamp (by omega), hR.2.2.2.2.2.2.2.2.2 i (by omega), e6, nI_eq (by omega) (by decide)]
    refine ⟨vp_in_nI (by omega) (by decide), fun z => nm_r (nI_1 i) ?_, fun z => nm_r (nI_1 _) (nm_r (nI_1 i) ?_)⟩
    · rw [if_neg (by simp [z])] at ih
      exact ih
    · rw [if_pos (by simp [z])] at ih
      exact ih
theorem c_trams {K : Int32 → tq_St → Prop} (hR : RC S o A) (hw : wfE A) (hK : K (nI (trmF A)) S) : wp_X1_tramsPlanned o S K :=
  c_trams_4 hR hw hK (aC A) 0 2000 (by omega) (by have := hw.2.2.2.2.2.2.2.2.1; omega)
def oW (w : Nat) : Int32 := if w = 0 then -4 else nI w - 1
theorem c_weptOrNone {p : Nat} {K : Int32 → tq_St → Prop} (hR : RC S o A) (hw : wfE A) (hp : p < aN A) (hK : K (oW (aW A p)) S) : wp_X1_weptOrNone o (nI p) S K := by
  have hn := hw.1
  unfold wp_X1_weptOrNone
  rw [nI_clamp (by omega), hR.2.2.2.2.2.2.2.2.1 p hp, zb_never (hw.2.2.2.1 p)]
  unfold oW at hK
  refine ⟨vp_in_nI (by omega) (by decide), fun z => ⟨vp_in_nI (by omega) (by decide), ?_⟩, fun z => ?_⟩
  · rw [if_neg z] at hK; exact hK
  · rw [if_pos z] at hK; exact hK
def wbI (n g : Nat) : Int32 := (((1 : Int32) <<< ((nI n : Int32) &&& 31)) - 1) &&& ((nI g) ^^^ (-1))
theorem c_waitingBits {K : Int32 → tq_St → Prop} (hR : RC S o A) (hK : K (wbI (aN A) (aG A)) S) : wp_X1_waitingBits o S K := by
  unfold wp_X1_waitingBits
  rw [hR.1, hR.2.1]
  exact hK
theorem c_isAct {x : Int32} {K : Int32 → tq_St → Prop} (hR : RC S o A) (hw : wfE A) (h1 : ∀ a, okA (aN A) a → x = nI a → K 1 S) (h0 : (∀ a, okA (aN A) a → x ≠ nI a) → K 0 S) : wp_X1_isAct o x S K := by
  unfold wp_X1_isAct
  refine c_isThere hR.1 hw.1 (fun j hj e => ⟨fun _ => h1 j (Or.inl hj) e, fun z => absurd z (by decide)⟩) (fun hno => ⟨fun z => absurd rfl z, fun _ => ?_⟩)
  refine ⟨fun e => h1 5 (Or.inr (Or.inl rfl)) e, fun e5 => ⟨fun e6 => h0 (fun a ha e => ?_), fun e => h1 6 (Or.inr (Or.inr rfl)) e⟩⟩
  rcases ha with ha | ha | ha
  · exact hno a ha e
  · subst ha; exact e5 e
  · subst ha; exact e6 e
end EVP
end
