-- THE WORLD BEHIND BOTH CONSTRUCTORS IS THE LAW'S WORLD
def lw_evb : List Nat := [0, 6, 14, 27, 33, 39, 45, 51, 60, 66, 72, 78, 84, 90, 96, 102, 108, 118, 124]
def lw_jx : List Nat := [0, 0, 1, 0, 2, 0, 0, 0, 3, 0, 0, 0, 0, 0, 0, 0, 0, 4, 5, 0, 0, 0, 6, 0, 7, 8, 9, 10, 11]
def lw_ix (o r : Nat) : Nat := if o < 19 then lw_evb.getD o 0 + r else if o = 19 then 12 + r else if o = 20 then 20 + r else if o = 21 then 23 + r else if o = 22 then 57 + r else 130 + 2 * (o - 23) + r
def lw_f (q q' : Nat) (u u' : Nat → Nat) (o r : Nat) : Nat := if o < 27 then u (lw_ix o r) else if o = 27 then (if r = 0 then q else u (107 + r)) else if r = 0 then q' else u' (lw_jx.getD r 0)
def lw_pos (i : Nat × Nat) : Nat := if i.1 < 27 then lw_ix i.1 i.2 + 1 else if i.1 = 27 then (if i.2 = 0 then 0 else 108 + i.2) else if i.2 = 0 then 139 else 140 + lw_jx.getD i.2 0
def lw_S0 : tq_St := (fun o k => if o < 19 then (if k = 8 then 2 else if k = 9 then 4 else if k = 13 then -4 else 0) else 0, fun o k => if o = 28 then (if k = 1 then upd (upd (upd (upd (fun _ => 0) 0 10) 1 5) 2 4) 3 20 else if k = 16 then upd (upd (upd (upd (upd (upd (upd (upd (fun _ => 0) 0 0) 1 5) 2 9) 3 13) 4 16) 5 20) 6 25) 7 29 else if k = 17 then upd (upd (upd (upd (upd (upd (upd (upd (upd (upd (upd (upd (upd (upd (upd (upd (upd (upd (upd (upd (upd (upd (upd (upd (upd (upd (upd (upd (upd (fun _ => 0) 0 112) 1 108) 2 97) 3 105) 4 110) 5 115) 6 111) 7 102) 8 116) 9 115) 10 104) 11 97) 12 109) 13 100) 14 114) 15 121) 16 114) 17 111) 18 111) 19 109) 20 116) 21 104) 22 105) 23 110) 24 107) 25 112) 26 108) 27 97) 28 110 else if k = 25 then upd (upd (upd (upd (fun _ => 0) 0 (-4)) 1 (-4)) 2 (-4)) 3 (-4) else fun _ => 0) else fun _ => 0, 0, fun _ => 0)
theorem arrV_cong {c : ClassId} {N : Nat} {f g : Nat → Value} (h : ∀ j, j < N → f j = g j) : arrV c N f = arrV c N g := by
  unfold arrV
  congr 1
  congr 1
  funext j
  exact h j.val j.isLt
section LWW
variable {D : va_G} {tf : Nat → ClassId} {q q' : Nat} {u u' : Nat → Nat}
def lw_ok (D : va_G) (tf : Nat → ClassId) (q q' : Nat) (u u' : Nat → Nat) (o r k : Nat) : Prop := ∃ e, (wn_X6 (fun _ _ => 0, D, tf) q u ++ wn_X7 (fun _ _ => 0, D, tf) q' u')[k]? = some (lw_f q q' u u' o r, e) ∧ ∀ H, va_at D vwCl (lw_f q q' u u' o r, e) H → va_at D vwCl (lw_f q q' u u' o r, tq_gc (lw_f q q' u u', D, tf) lw_S0 o r) H
/-- an array of references, by what its places hold -/
theorem lw_ref {o r k n t : Nat} {f g : Nat → Option Nat} (h1 : (wn_X6 (fun _ _ => 0, D, tf) q u ++ wn_X7 (fun _ _ => 0, D, tf) q' u')[k]? = some (lw_f q q' u u' o r, .inl (tf t, n, .inr (.inr (.inr (.inr f)))))) (h2 : tq_gc (lw_f q q' u u', D, tf) lw_S0 o r = .inl (tf t, n, .inr (.inr (.inr (.inr g))))) (h : ∀ j, j < n → f j = g j) : lw_ok D tf q q' u u' o r k := by
  refine ⟨_, h1, fun H hH => ?_⟩
  rw [h2]
  show H[lw_f q q' u u' o r]? = some (vp_cell (tf t) (n, .inr (.inr (.inr (.inr g)))))
  have hH : H[lw_f q q' u u' o r]? = some (vp_cell (tf t) (n, .inr (.inr (.inr (.inr f))))) := hH
  rw [hH, vp_cell_q, vp_cell_q]
  exact congrArg some (arrV_cong (fun j hj => by rw [h j hj]))
theorem lw_e0 : ∀ r, r < 6 → lw_ok D tf q q' u u' 0 r (lw_pos (0, r))
  | 0, _ => show lw_ok D tf q q' u u' 0 0 1 from ⟨_, rfl, fun _ h => h⟩
  | 1, _ => show lw_ok D tf q q' u u' 0 1 2 from ⟨_, rfl, fun _ h => h⟩
  | 2, _ => show lw_ok D tf q q' u u' 0 2 3 from ⟨_, rfl, fun _ h => h⟩
  | 3, _ => show lw_ok D tf q q' u u' 0 3 4 from ⟨_, rfl, fun _ h => h⟩
  | 4, _ => show lw_ok D tf q q' u u' 0 4 5 from ⟨_, rfl, fun _ h => h⟩
  | 5, _ => show lw_ok D tf q q' u u' 0 5 6 from ⟨_, rfl, fun _ h => h⟩
  | r + 6, h => absurd h (by omega)
theorem lw_e1 : ∀ r, r < 6 → lw_ok D tf q q' u u' 1 r (lw_pos (1, r))
  | 0, _ => show lw_ok D tf q q' u u' 1 0 7 from ⟨_, rfl, fun _ h => h⟩
  | 1, _ => show lw_ok D tf q q' u u' 1 1 8 from ⟨_, rfl, fun _ h => h⟩
  | 2, _ => show lw_ok D tf q q' u u' 1 2 9 from ⟨_, rfl, fun _ h => h⟩
  | 3, _ => show lw_ok D tf q q' u u' 1 3 10 from ⟨_, rfl, fun _ h => h⟩
  | 4, _ => show lw_ok D tf q q' u u' 1 4 11 from ⟨_, rfl, fun _ h => h⟩
  | 5, _ => show lw_ok D tf q q' u u' 1 5 12 from ⟨_, rfl, fun _ h => h⟩
  | r + 6, h => absurd h (by omega)
theorem lw_e2 : ∀ r, r < 6 → lw_ok D tf q q' u u' 2 r (lw_pos (2, r))
  | 0, _ => show lw_ok D tf q q' u u' 2 0 15 from ⟨_, rfl, fun _ h => h⟩
  | 1, _ => show lw_ok D tf q q' u u' 2 1 16 from ⟨_, rfl, fun _ h => h⟩
  | 2, _ => show lw_ok D tf q q' u u' 2 2 17 from ⟨_, rfl, fun _ h => h⟩
  | 3, _ => show lw_ok D tf q q' u u' 2 3 18 from ⟨_, rfl, fun _ h => h⟩
  | 4, _ => show lw_ok D tf q q' u u' 2 4 19 from ⟨_, rfl, fun _ h => h⟩
  | 5, _ => show lw_ok D tf q q' u u' 2 5 20 from ⟨_, rfl, fun _ h => h⟩
  | r + 6, h => absurd h (by omega)
theorem lw_e3 : ∀ r, r < 6 → lw_ok D tf q q' u u' 3 r (lw_pos (3, r))
  | 0, _ => show lw_ok D tf q q' u u' 3 0 28 from ⟨_, rfl, fun _ h => h⟩
  | 1, _ => show lw_ok D tf q q' u u' 3 1 29 from ⟨_, rfl, fun _ h => h⟩
  | 2, _ => show lw_ok D tf q q' u u' 3 2 30 from ⟨_, rfl, fun _ h => h⟩
  | 3, _ => show lw_ok D tf q q' u u' 3 3 31 from ⟨_, rfl, fun _ h => h⟩
  | 4, _ => show lw_ok D tf q q' u u' 3 4 32 from ⟨_, rfl, fun _ h => h⟩
  | 5, _ => show lw_ok D tf q q' u u' 3 5 33 from ⟨_, rfl, fun _ h => h⟩
  | r + 6, h => absurd h (by omega)
theorem lw_e4 : ∀ r, r < 6 → lw_ok D tf q q' u u' 4 r (lw_pos (4, r))
  | 0, _ => show lw_ok D tf q q' u u' 4 0 34 from ⟨_, rfl, fun _ h => h⟩
  | 1, _ => show lw_ok D tf q q' u u' 4 1 35 from ⟨_, rfl, fun _ h => h⟩
  | 2, _ => show lw_ok D tf q q' u u' 4 2 36 from ⟨_, rfl, fun _ h => h⟩
  | 3, _ => show lw_ok D tf q q' u u' 4 3 37 from ⟨_, rfl, fun _ h => h⟩
  | 4, _ => show lw_ok D tf q q' u u' 4 4 38 from ⟨_, rfl, fun _ h => h⟩
  | 5, _ => show lw_ok D tf q q' u u' 4 5 39 from ⟨_, rfl, fun _ h => h⟩
  | r + 6, h => absurd h (by omega)
theorem lw_e5 : ∀ r, r < 6 → lw_ok D tf q q' u u' 5 r (lw_pos (5, r))
  | 0, _ => show lw_ok D tf q q' u u' 5 0 40 from ⟨_, rfl, fun _ h => h⟩
  | 1, _ => show lw_ok D tf q q' u u' 5 1 41 from ⟨_, rfl, fun _ h => h⟩
  | 2, _ => show lw_ok D tf q q' u u' 5 2 42 from ⟨_, rfl, fun _ h => h⟩
  | 3, _ => show lw_ok D tf q q' u u' 5 3 43 from ⟨_, rfl, fun _ h => h⟩
  | 4, _ => show lw_ok D tf q q' u u' 5 4 44 from ⟨_, rfl, fun _ h => h⟩
  | 5, _ => show lw_ok D tf q q' u u' 5 5 45 from ⟨_, rfl, fun _ h => h⟩
  | r + 6, h => absurd h (by omega)
theorem lw_e6 : ∀ r, r < 6 → lw_ok D tf q q' u u' 6 r (lw_pos (6, r))
  | 0, _ => show lw_ok D tf q q' u u' 6 0 46 from ⟨_, rfl, fun _ h => h⟩
  | 1, _ => show lw_ok D tf q q' u u' 6 1 47 from ⟨_, rfl, fun _ h => h⟩
  | 2, _ => show lw_ok D tf q q' u u' 6 2 48 from ⟨_, rfl, fun _ h => h⟩
  | 3, _ => show lw_ok D tf q q' u u' 6 3 49 from ⟨_, rfl, fun _ h => h⟩
  | 4, _ => show lw_ok D tf q q' u u' 6 4 50 from ⟨_, rfl, fun _ h => h⟩
  | 5, _ => show lw_ok D tf q q' u u' 6 5 51 from ⟨_, rfl, fun _ h => h⟩
  | r + 6, h => absurd h (by omega)
theorem lw_e7 : ∀ r, r < 6 → lw_ok D tf q q' u u' 7 r (lw_pos (7, r))
  | 0, _ => show lw_ok D tf q q' u u' 7 0 52 from ⟨_, rfl, fun _ h => h⟩
  | 1, _ => show lw_ok D tf q q' u u' 7 1 53 from ⟨_, rfl, fun _ h => h⟩
  | 2, _ => show lw_ok D tf q q' u u' 7 2 54 from ⟨_, rfl, fun _ h => h⟩
  | 3, _ => show lw_ok D tf q q' u u' 7 3 55 from ⟨_, rfl, fun _ h => h⟩
  | 4, _ => show lw_ok D tf q q' u u' 7 4 56 from ⟨_, rfl, fun _ h => h⟩
  | 5, _ => show lw_ok D tf q q' u u' 7 5 57 from ⟨_, rfl, fun _ h => h⟩
  | r + 6, h => absurd h (by omega)
theorem lw_e8 : ∀ r, r < 6 → lw_ok D tf q q' u u' 8 r (lw_pos (8, r))
  | 0, _ => show lw_ok D tf q q' u u' 8 0 61 from ⟨_, rfl, fun _ h => h⟩
  | 1, _ => show lw_ok D tf q q' u u' 8 1 62 from ⟨_, rfl, fun _ h => h⟩
  | 2, _ => show lw_ok D tf q q' u u' 8 2 63 from ⟨_, rfl, fun _ h => h⟩
  | 3, _ => show lw_ok D tf q q' u u' 8 3 64 from ⟨_, rfl, fun _ h => h⟩
  | 4, _ => show lw_ok D tf q q' u u' 8 4 65 from ⟨_, rfl, fun _ h => h⟩
  | 5, _ => show lw_ok D tf q q' u u' 8 5 66 from ⟨_, rfl, fun _ h => h⟩
  | r + 6, h => absurd h (by omega)
theorem lw_e9 : ∀ r, r < 6 → lw_ok D tf q q' u u' 9 r (lw_pos (9, r))
  | 0, _ => show lw_ok D tf q q' u u' 9 0 67 from ⟨_, rfl, fun _ h => h⟩
  | 1, _ => show lw_ok D tf q q' u u' 9 1 68 from ⟨_, rfl, fun _ h => h⟩
  | 2, _ => show lw_ok D tf q q' u u' 9 2 69 from ⟨_, rfl, fun _ h => h⟩
  | 3, _ => show lw_ok D tf q q' u u' 9 3 70 from ⟨_, rfl, fun _ h => h⟩
  | 4, _ => show lw_ok D tf q q' u u' 9 4 71 from ⟨_, rfl, fun _ h => h⟩
  | 5, _ => show lw_ok D tf q q' u u' 9 5 72 from ⟨_, rfl, fun _ h => h⟩
  | r + 6, h => absurd h (by omega)
theorem lw_e10 : ∀ r, r < 6 → lw_ok D tf q q' u u' 10 r (lw_pos (10, r))
  | 0, _ => show lw_ok D tf q q' u u' 10 0 73 from ⟨_, rfl, fun _ h => h⟩
  | 1, _ => show lw_ok D tf q q' u u' 10 1 74 from ⟨_, rfl, fun _ h => h⟩
  | 2, _ => show lw_ok D tf q q' u u' 10 2 75 from ⟨_, rfl, fun _ h => h⟩
  | 3, _ => show lw_ok D tf q q' u u' 10 3 76 from ⟨_, rfl, fun _ h => h⟩
  | 4, _ => show lw_ok D tf q q' u u' 10 4 77 from ⟨_, rfl, fun _ h => h⟩
  | 5, _ => show lw_ok D tf q q' u u' 10 5 78 from ⟨_, rfl, fun _ h => h⟩
  | r + 6, h => absurd h (by omega)
theorem lw_e11 : ∀ r, r < 6 → lw_ok D tf q q' u u' 11 r (lw_pos (11, r))
  | 0, _ => show lw_ok D tf q q' u u' 11 0 79 from ⟨_, rfl, fun _ h => h⟩
  | 1, _ => show lw_ok D tf q q' u u' 11 1 80 from ⟨_, rfl, fun _ h => h⟩
  | 2, _ => show lw_ok D tf q q' u u' 11 2 81 from ⟨_, rfl, fun _ h => h⟩
  | 3, _ => show lw_ok D tf q q' u u' 11 3 82 from ⟨_, rfl, fun _ h => h⟩
  | 4, _ => show lw_ok D tf q q' u u' 11 4 83 from ⟨_, rfl, fun _ h => h⟩
  | 5, _ => show lw_ok D tf q q' u u' 11 5 84 from ⟨_, rfl, fun _ h => h⟩
  | r + 6, h => absurd h (by omega)
theorem lw_e12 : ∀ r, r < 6 → lw_ok D tf q q' u u' 12 r (lw_pos (12, r))
  | 0, _ => show lw_ok D tf q q' u u' 12 0 85 from ⟨_, rfl, fun _ h => h⟩
  | 1, _ => show lw_ok D tf q q' u u' 12 1 86 from ⟨_, rfl, fun _ h => h⟩
  | 2, _ => show lw_ok D tf q q' u u' 12 2 87 from ⟨_, rfl, fun _ h => h⟩
  | 3, _ => show lw_ok D tf q q' u u' 12 3 88 from ⟨_, rfl, fun _ h => h⟩
  | 4, _ => show lw_ok D tf q q' u u' 12 4 89 from ⟨_, rfl, fun _ h => h⟩
  | 5, _ => show lw_ok D tf q q' u u' 12 5 90 from ⟨_, rfl, fun _ h => h⟩
  | r + 6, h => absurd h (by omega)
theorem lw_e13 : ∀ r, r < 6 → lw_ok D tf q q' u u' 13 r (lw_pos (13, r))
  | 0, _ => show lw_ok D tf q q' u u' 13 0 91 from ⟨_, rfl, fun _ h => h⟩
  | 1, _ => show lw_ok D tf q q' u u' 13 1 92 from ⟨_, rfl, fun _ h => h⟩
  | 2, _ => show lw_ok D tf q q' u u' 13 2 93 from ⟨_, rfl, fun _ h => h⟩
  | 3, _ => show lw_ok D tf q q' u u' 13 3 94 from ⟨_, rfl, fun _ h => h⟩
  | 4, _ => show lw_ok D tf q q' u u' 13 4 95 from ⟨_, rfl, fun _ h => h⟩
  | 5, _ => show lw_ok D tf q q' u u' 13 5 96 from ⟨_, rfl, fun _ h => h⟩
  | r + 6, h => absurd h (by omega)
theorem lw_e14 : ∀ r, r < 6 → lw_ok D tf q q' u u' 14 r (lw_pos (14, r))
  | 0, _ => show lw_ok D tf q q' u u' 14 0 97 from ⟨_, rfl, fun _ h => h⟩
  | 1, _ => show lw_ok D tf q q' u u' 14 1 98 from ⟨_, rfl, fun _ h => h⟩
  | 2, _ => show lw_ok D tf q q' u u' 14 2 99 from ⟨_, rfl, fun _ h => h⟩
  | 3, _ => show lw_ok D tf q q' u u' 14 3 100 from ⟨_, rfl, fun _ h => h⟩
  | 4, _ => show lw_ok D tf q q' u u' 14 4 101 from ⟨_, rfl, fun _ h => h⟩
  | 5, _ => show lw_ok D tf q q' u u' 14 5 102 from ⟨_, rfl, fun _ h => h⟩
  | r + 6, h => absurd h (by omega)
theorem lw_e15 : ∀ r, r < 6 → lw_ok D tf q q' u u' 15 r (lw_pos (15, r))
  | 0, _ => show lw_ok D tf q q' u u' 15 0 103 from ⟨_, rfl, fun _ h => h⟩
  | 1, _ => show lw_ok D tf q q' u u' 15 1 104 from ⟨_, rfl, fun _ h => h⟩
  | 2, _ => show lw_ok D tf q q' u u' 15 2 105 from ⟨_, rfl, fun _ h => h⟩
  | 3, _ => show lw_ok D tf q q' u u' 15 3 106 from ⟨_, rfl, fun _ h => h⟩
  | 4, _ => show lw_ok D tf q q' u u' 15 4 107 from ⟨_, rfl, fun _ h => h⟩
  | 5, _ => show lw_ok D tf q q' u u' 15 5 108 from ⟨_, rfl, fun _ h => h⟩
  | r + 6, h => absurd h (by omega)
theorem lw_e16 : ∀ r, r < 6 → lw_ok D tf q q' u u' 16 r (lw_pos (16, r))
  | 0, _ => show lw_ok D tf q q' u u' 16 0 109 from ⟨_, rfl, fun _ h => h⟩
  | 1, _ => show lw_ok D tf q q' u u' 16 1 110 from ⟨_, rfl, fun _ h => h⟩
  | 2, _ => show lw_ok D tf q q' u u' 16 2 111 from ⟨_, rfl, fun _ h => h⟩
  | 3, _ => show lw_ok D tf q q' u u' 16 3 112 from ⟨_, rfl, fun _ h => h⟩
  | 4, _ => show lw_ok D tf q q' u u' 16 4 113 from ⟨_, rfl, fun _ h => h⟩
  | 5, _ => show lw_ok D tf q q' u u' 16 5 114 from ⟨_, rfl, fun _ h => h⟩
  | r + 6, h => absurd h (by omega)
theorem lw_e17 : ∀ r, r < 6 → lw_ok D tf q q' u u' 17 r (lw_pos (17, r))
  | 0, _ => show lw_ok D tf q q' u u' 17 0 119 from ⟨_, rfl, fun _ h => h⟩
  | 1, _ => show lw_ok D tf q q' u u' 17 1 120 from ⟨_, rfl, fun _ h => h⟩
  | 2, _ => show lw_ok D tf q q' u u' 17 2 121 from ⟨_, rfl, fun _ h => h⟩
  | 3, _ => show lw_ok D tf q q' u u' 17 3 122 from ⟨_, rfl, fun _ h => h⟩
  | 4, _ => show lw_ok D tf q q' u u' 17 4 123 from ⟨_, rfl, fun _ h => h⟩
  | 5, _ => show lw_ok D tf q q' u u' 17 5 124 from ⟨_, rfl, fun _ h => h⟩
  | r + 6, h => absurd h (by omega)
theorem lw_e18 : ∀ r, r < 6 → lw_ok D tf q q' u u' 18 r (lw_pos (18, r))
  | 0, _ => show lw_ok D tf q q' u u' 18 0 125 from ⟨_, rfl, fun _ h => h⟩
  | 1, _ => show lw_ok D tf q q' u u' 18 1 126 from ⟨_, rfl, fun _ h => h⟩
  | 2, _ => show lw_ok D tf q q' u u' 18 2 127 from ⟨_, rfl, fun _ h => h⟩
  | 3, _ => show lw_ok D tf q q' u u' 18 3 128 from ⟨_, rfl, fun _ h => h⟩
  | 4, _ => show lw_ok D tf q q' u u' 18 4 129 from ⟨_, rfl, fun _ h => h⟩
  | 5, _ => show lw_ok D tf q q' u u' 18 5 130 from ⟨_, rfl, fun _ h => h⟩
  | r + 6, h => absurd h (by omega)
theorem lw_ev : ∀ o, o < 19 → ∀ r, r < 6 → lw_ok D tf q q' u u' o r (lw_pos (o, r))
  | 0, _ => lw_e0
  | 1, _ => lw_e1
  | 2, _ => lw_e2
  | 3, _ => lw_e3
  | 4, _ => lw_e4
  | 5, _ => lw_e5
  | 6, _ => lw_e6
  | 7, _ => lw_e7
  | 8, _ => lw_e8
  | 9, _ => lw_e9
  | 10, _ => lw_e10
  | 11, _ => lw_e11
  | 12, _ => lw_e12
  | 13, _ => lw_e13
  | 14, _ => lw_e14
  | 15, _ => lw_e15
  | 16, _ => lw_e16
  | 17, _ => lw_e17
  | 18, _ => lw_e18
  | o + 19, h => absurd h (by omega)
theorem lw_o19_0 : lw_ok D tf q q' u u' 19 0 13 := ⟨_, rfl, fun _ h => h⟩
theorem lw_o19_1 : lw_ok D tf q q' u u' 19 1 14 := ⟨_, rfl, fun _ h => h⟩
theorem lw_o20_0 : lw_ok D tf q q' u u' 20 0 21 := ⟨_, rfl, fun _ h => h⟩
theorem lw_o20_1 : lw_ok D tf q q' u u' 20 1 22 := ⟨_, rfl, fun _ h => h⟩
theorem lw_o20_2 : lw_ok D tf q q' u u' 20 2 23 := ⟨_, rfl, fun _ h => h⟩
theorem lw_o21_0 : lw_ok D tf q q' u u' 21 0 24 := ⟨_, rfl, fun _ h => h⟩
theorem lw_o21_1 : lw_ok D tf q q' u u' 21 1 25 := by
  refine lw_ref (n := 5) (t := 4) (g := fun i => some (lw_f q q' u u' (3 + i) 0)) rfl rfl (fun j hj => ?_)
  match j, hj with
  | 0, _ => rfl
  | 1, _ => rfl
  | 2, _ => rfl
  | 3, _ => rfl
  | 4, _ => rfl
  | j + 5, h => exact absurd h (by omega)
theorem lw_o21_2 : lw_ok D tf q q' u u' 21 2 26 := ⟨_, rfl, fun _ h => h⟩
theorem lw_o21_3 : lw_ok D tf q q' u u' 21 3 27 := ⟨_, rfl, fun _ h => h⟩
theorem lw_o22_0 : lw_ok D tf q q' u u' 22 0 58 := ⟨_, rfl, fun _ h => h⟩
theorem lw_o22_1 : lw_ok D tf q q' u u' 22 1 59 := by
  refine lw_ref (n := 9) (t := 4) (g := fun i => some (lw_f q q' u u' (8 + i) 0)) rfl rfl (fun j hj => ?_)
  match j, hj with
  | 0, _ => rfl
  | 1, _ => rfl
  | 2, _ => rfl
  | 3, _ => rfl
  | 4, _ => rfl
  | 5, _ => rfl
  | 6, _ => rfl
  | 7, _ => rfl
  | 8, _ => rfl
  | j + 9, h => exact absurd h (by omega)
theorem lw_o22_2 : lw_ok D tf q q' u u' 22 2 60 := ⟨_, rfl, fun _ h => h⟩
theorem lw_o23_0 : lw_ok D tf q q' u u' 23 0 131 := ⟨_, rfl, fun _ h => h⟩
theorem lw_o23_1 : lw_ok D tf q q' u u' 23 1 132 := ⟨_, rfl, fun _ h => h⟩
theorem lw_o24_0 : lw_ok D tf q q' u u' 24 0 133 := ⟨_, rfl, fun _ h => h⟩
theorem lw_o24_1 : lw_ok D tf q q' u u' 24 1 134 := ⟨_, rfl, fun _ h => h⟩
theorem lw_o25_0 : lw_ok D tf q q' u u' 25 0 135 := ⟨_, rfl, fun _ h => h⟩
theorem lw_o25_1 : lw_ok D tf q q' u u' 25 1 136 := ⟨_, rfl, fun _ h => h⟩
theorem lw_o26_0 : lw_ok D tf q q' u u' 26 0 137 := ⟨_, rfl, fun _ h => h⟩
theorem lw_o26_1 : lw_ok D tf q q' u u' 26 1 138 := ⟨_, rfl, fun _ h => h⟩
theorem lw_o27_0 : lw_ok D tf q q' u u' 27 0 0 := ⟨_, rfl, fun _ h => h⟩
theorem lw_o27_7 : lw_ok D tf q q' u u' 27 7 115 := by
  refine lw_ref (n := 2) (t := 4) (g := fun i => some (lw_f q q' u u' (17 + i) 0)) rfl rfl (fun j hj => ?_)
  match j, hj with
  | 0, _ => rfl
  | 1, _ => rfl
  | j + 2, h => exact absurd h (by omega)
theorem lw_o27_8 : lw_ok D tf q q' u u' 27 8 116 := ⟨_, rfl, fun _ h => h⟩
theorem lw_o27_9 : lw_ok D tf q q' u u' 27 9 117 := by
  refine lw_ref (n := 4) (t := 5) (g := fun i => some (lw_f q q' u u' (23 + i) 0)) rfl rfl (fun j hj => ?_)
  match j, hj with
  | 0, _ => rfl
  | 1, _ => rfl
  | 2, _ => rfl
  | 3, _ => rfl
  | j + 4, h => exact absurd h (by omega)
theorem lw_o27_10 : lw_ok D tf q q' u u' 27 10 118 := ⟨_, rfl, fun _ h => h⟩
theorem lw_o28_0 : lw_ok D tf q q' u u' 28 0 139 := ⟨_, rfl, fun _ h => h⟩
theorem lw_o28_1 : lw_ok D tf q q' u u' 28 1 140 := ⟨_, rfl, fun _ h => h⟩
theorem lw_o28_2 : lw_ok D tf q q' u u' 28 2 141 := ⟨_, rfl, fun _ h => h⟩
theorem lw_o28_4 : lw_ok D tf q q' u u' 28 4 142 := ⟨_, rfl, fun _ h => h⟩
theorem lw_o28_8 : lw_ok D tf q q' u u' 28 8 143 := ⟨_, rfl, fun _ h => h⟩
theorem lw_o28_17 : lw_ok D tf q q' u u' 28 17 144 := ⟨_, rfl, fun _ h => h⟩
theorem lw_o28_18 : lw_ok D tf q q' u u' 28 18 145 := ⟨_, rfl, fun _ h => h⟩
theorem lw_o28_22 : lw_ok D tf q q' u u' 28 22 146 := ⟨_, rfl, fun _ h => h⟩
theorem lw_o28_24 : lw_ok D tf q q' u u' 28 24 147 := ⟨_, rfl, fun _ h => h⟩
theorem lw_o28_25 : lw_ok D tf q q' u u' 28 25 148 := ⟨_, rfl, fun _ h => h⟩
theorem lw_o28_26 : lw_ok D tf q q' u u' 28 26 149 := ⟨_, rfl, fun _ h => h⟩
theorem lw_o28_27 : lw_ok D tf q q' u u' 28 27 150 := ⟨_, rfl, fun _ h => h⟩
theorem lw_o28_28 : lw_ok D tf q q' u u' 28 28 151 := ⟨_, rfl, fun _ h => h⟩
theorem lw_ot : ∀ i ∈ tq_otc, lw_ok D tf q q' u u' i.1 i.2 (lw_pos i) := by
  unfold tq_otc
  exact List.forall_mem_cons.mpr ⟨lw_o19_0, List.forall_mem_cons.mpr ⟨lw_o19_1, List.forall_mem_cons.mpr ⟨lw_o20_0, List.forall_mem_cons.mpr ⟨lw_o20_1, List.forall_mem_cons.mpr ⟨lw_o20_2, List.forall_mem_cons.mpr ⟨lw_o21_0, List.forall_mem_cons.mpr ⟨lw_o21_1, List.forall_mem_cons.mpr ⟨lw_o21_2, List.forall_mem_cons.mpr ⟨lw_o21_3, List.forall_mem_cons.mpr ⟨lw_o22_0, List.forall_mem_cons.mpr ⟨lw_o22_1, List.forall_mem_cons.mpr ⟨lw_o22_2, List.forall_mem_cons.mpr ⟨lw_o23_0, List.forall_mem_cons.mpr ⟨lw_o23_1, List.forall_mem_cons.mpr ⟨lw_o24_0, List.forall_mem_cons.mpr ⟨lw_o24_1, List.forall_mem_cons.mpr ⟨lw_o25_0, List.forall_mem_cons.mpr ⟨lw_o25_1, List.forall_mem_cons.mpr ⟨lw_o26_0, List.forall_mem_cons.mpr ⟨lw_o26_1, List.forall_mem_cons.mpr ⟨lw_o27_0, List.forall_mem_cons.mpr ⟨lw_o27_7, List.forall_mem_cons.mpr ⟨lw_o27_8, List.forall_mem_cons.mpr ⟨lw_o27_9, List.forall_mem_cons.mpr ⟨lw_o27_10, List.forall_mem_cons.mpr ⟨lw_o28_0, List.forall_mem_cons.mpr ⟨lw_o28_1, List.forall_mem_cons.mpr ⟨lw_o28_2, List.forall_mem_cons.mpr ⟨lw_o28_4, List.forall_mem_cons.mpr ⟨lw_o28_8, List.forall_mem_cons.mpr ⟨lw_o28_17, List.forall_mem_cons.mpr ⟨lw_o28_18, List.forall_mem_cons.mpr ⟨lw_o28_22, List.forall_mem_cons.mpr ⟨lw_o28_24, List.forall_mem_cons.mpr ⟨lw_o28_25, List.forall_mem_cons.mpr ⟨lw_o28_26, List.forall_mem_cons.mpr ⟨lw_o28_27, List.forall_mem_cons.mpr ⟨lw_o28_28, fun _ h => absurd h List.not_mem_nil⟩⟩⟩⟩⟩⟩⟩⟩⟩⟩⟩⟩⟩⟩⟩⟩⟩⟩⟩⟩⟩⟩⟩⟩⟩⟩⟩⟩⟩⟩⟩⟩⟩⟩⟩⟩⟩⟩
theorem lw_all : ∀ i ∈ tq_cids, lw_ok D tf q q' u u' i.1 i.2 (lw_pos i) := by
  intro i hi
  rcases List.mem_append.mp hi with h | h
  · obtain ⟨o, ho, h⟩ := List.mem_flatMap.mp h
    obtain ⟨r, hr, rfl⟩ := List.mem_map.mp h
    exact lw_ev o (List.mem_range.mp ho) r (List.mem_range.mp hr)
  · exact lw_ot i h
theorem lw_posn : (tq_cids.map lw_pos).Nodup := by decide +kernel
theorem lw_wP {H : Heap} (h : va_P D vwCl (wn_X6 (fun _ _ => 0, D, tf) q u ++ wn_X7 (fun _ _ => 0, D, tf) q' u') H) : va_P D vwCl (tq_W (lw_f q q' u u', D, tf) lw_S0) H := by
  refine va_P_mem.mpr (fun c hc => ?_)
  obtain ⟨i, hi, rfl⟩ := List.mem_map.mp hc
  obtain ⟨e, h1, h2⟩ := lw_all (D := D) (tf := tf) (q := q) (q' := q') (u := u) (u' := u') i hi
  exact h2 H (h _ _ h1)
theorem lw_wD {A : Nat → Prop} (h : va_D A (wn_X6 (fun _ _ => 0, D, tf) q u ++ wn_X7 (fun _ _ => 0, D, tf) q' u')) : va_D A (tq_W (lw_f q q' u u', D, tf) lw_S0) := by
  have hk : ∀ (j : Nat) (c : Nat × va_E), (tq_W (lw_f q q' u u', D, tf) lw_S0)[j]? = some c → ∃ i, tq_cids[j]? = some i ∧ c.1 = lw_f q q' u u' i.1 i.2 := by
    intro j c hc
    unfold tq_W at hc
    rw [List.getElem?_map] at hc
    cases hi : tq_cids[j]? with
    | none => rw [hi] at hc; cases hc
    | some i => rw [hi] at hc; cases hc; exact ⟨i, rfl, rfl⟩
  refine ⟨fun j j' c c' hc hc' e => ?_, fun j c hc => ?_⟩
  · obtain ⟨i, hi, ei⟩ := hk j c hc
    obtain ⟨i', hi', ei'⟩ := hk j' c' hc'
    obtain ⟨x, h1, -⟩ := lw_all (D := D) (tf := tf) (q := q) (q' := q') (u := u) (u' := u') i (List.mem_of_getElem? hi)
    obtain ⟨x', h1', -⟩ := lw_all (D := D) (tf := tf) (q := q) (q' := q') (u := u) (u' := u') i' (List.mem_of_getElem? hi')
    have hp := h.1 _ _ _ _ h1 h1' (by show lw_f q q' u u' i.1 i.2 = lw_f q q' u u' i'.1 i'.2; rw [← ei, ← ei']; exact e)
    refine tq_ndi lw_posn (x := lw_pos i) ?_ ?_
    · rw [List.getElem?_map, hi]; rfl
    · rw [List.getElem?_map, hi', hp]; rfl
  · obtain ⟨i, hi, ei⟩ := hk j c hc
    obtain ⟨x, h1, -⟩ := lw_all (D := D) (tf := tf) (q := q) (q' := q') (u := u) (u' := u') i (List.mem_of_getElem? hi)
    rw [ei]
    exact h.2 _ _ h1
end LWW
-- .. and there nothing has been said yet
abbrev lw_G0 : aQ := ((0, fun _ => 0, fun _ => 0, fun _ => 0, 0, 0, 2, 4, 0, fun _ => 0), fun _ => none, (0, fun _ => 0), 0, (0, fun _ => 0, fun _ => false), fun _ => (none, 0, fun _ => 0), 0)
theorem lw_w0 : wfQ lw_G0 := ⟨e0_wf, fun k B e => absurd e (by simp), ⟨by decide, fun _ => by show 0 < 128; decide⟩, by decide, ⟨by decide, fun _ => by show 0 < 5; decide⟩, fun k l e => absurd e (by simp), fun _ => by show 0 ≤ 40; decide, by decide⟩
theorem lw_b0 : ∀ k, k < 4 → lw_S0.2.1 28 1 k = nI (brN k) := by decide +kernel
theorem lw_b1 : ∀ k, k < 4 → lw_S0.2.1 28 25 k = -4 := by decide +kernel
theorem lw_b2 : ∀ i, i < 8 → lw_S0.2.1 28 16 i = nI (tq_cuts.getD i 0) := by decide +kernel
theorem lw_b3 : ∀ i, i < 29 → lw_S0.2.1 28 17 i = nI (tq_lets.getD i 0) := by decide +kernel
theorem lw_r0 : RQ lw_S0 lw_G0 := by
  refine ⟨⟨rfl, rfl, rfl, rfl, rfl, rfl, fun p hp => absurd hp (by show ¬ p < 0; omega), fun p hp => absurd hp (by show ¬ p < 0; omega), fun p hp => absurd hp (by show ¬ p < 0; omega), fun p hp => absurd hp (by show ¬ p < 0; omega)⟩, fun k hk => rfl, ⟨rfl, fun i hi => absurd hi (by show ¬ i < 0; omega)⟩, rfl, ⟨rfl, fun i hi => absurd hi (by show ¬ i < 0; omega)⟩, fun k hk => ?_, rfl⟩
  show (if 23 + k < 19 then (if 1 = 8 then (2 : Int32) else if 1 = 9 then 4 else if 1 = 13 then -4 else 0) else 0) = 0
  rw [if_neg (by omega)]
theorem lw_z0 : RZ lw_S0 lw_G0 := by
  refine ⟨⟨rfl, fun p hp => absurd hp (by show ¬ p < 0; omega), fun p hp => absurd hp (by show ¬ p < 0; omega), fun p hp => absurd hp (by show ¬ p < 0; omega), rfl, rfl, by decide, by decide, rfl, fun p hp => absurd hp (by show ¬ p < 0; omega), lw_b0⟩, fun k hk => rfl, ⟨rfl, fun i hi => absurd hi (by show ¬ i < 0; omega)⟩, rfl, ⟨rfl, fun i hi => absurd hi (by show ¬ i < 0; omega)⟩, fun k hk => lw_b1 k hk, rfl, lw_b2, lw_b3⟩
theorem lw_J0 : lwJ lw_S0 := ⟨lw_G0, lw_w0, lw_r0, lw_z0⟩
