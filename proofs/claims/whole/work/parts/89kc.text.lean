theorem R_words {fu d r y w q n : Nat} {ks as ps : Nat → Nat} {C : Nat → Nat → Int32} {E : Nat → Int64} {M : Nat → Nat → Int32} {ML : Nat → Int64} {MR : Nat → Nat → Int64} {MV : Nat → Int64} {MY : Nat → Nat → Int32} (h : Rel fu C E M ML MR MV MY) (hS : RS d r y w q n ks as ps (C 1) (C 2) (C 3) (C 4) (M 0) (M 17) (M 18) (M 19)) (hH : RH n (C 14) (C 15) E (M 1) (M 2) (M 3) (M 14) MR) (s v2 p mX ok l4 l5 l6 l7 : Int32)
    (hok : ¬ ok = 0 ↔ ((0 ≤ l4 ∧ l4 ≤ l5) ∧ ¬ l7 = 0)) (hm : ¬ ok = 0 → ∃ a : Nat, a ≤ 40 ∧ mX = nI a ∧ l6 * l4 = nI a) :
    ∃ c r1 t1 s1 m1 r1' w1, m_X5_takeWordAndRow fu (C 0) (C 14) (C 15) E (C 19) (C 24) (C 25) s v2 p mX ok = some (c, (r1, t1, s1)) ∧ m_X6_noWords fu (M 0) ML (M 1) (M 3) MR (M 16) (M 21) s v2 p l4 l5 l6 l7 = some (c, (m1, r1', w1)) ∧ (∀ j, j ≠ 31 → m1 j = M 0 j) ∧ RR r1 r1' ∧
      (¬ c = 0 ∨ (c = 0 ∧ ¬ ok = 0 ∧ ∃ (p' a z : Nat) (l : List Nat), p' < 8 ∧ p = nI p' ∧ WD t1 s1 l ∧ WM m1 w1 l ∧ mX = nI a ∧ C 15 p' = nI z ∧ z ≤ 40 ∧ a ≤ z ∧ ∀ i, i < z → E (p' * 40 + i) = MR p' i)) := by
  obtain ⟨c, r1, t1, s1, m1, r1', w1, h1, h2, ⟨h3, h4⟩, h5⟩ := s_take2 (fu := fu) h.1 hS.2.2.2.2.2.2.1.2.2 hH (C 0) (C 19) (C 24) (C 25) (M 0) ML (M 16) (M 21) s v2 p mX ok l4 l5 l6 l7 hok hm
  refine ⟨c, r1, t1, s1, m1, r1', w1, h1, h2, h3, ?_, ?_⟩
  · rcases h4 with q | ⟨-, rfl, rfl, -⟩
    · exact h.2.2.2.ref q
    · exact h.2.2.2
  · rcases h4 with q | ⟨e, -, -, s', p', a, z, l, g1, g2, g3, g4, g5, g6, g7, g8, g9, g10, g11, g12, g13, g14⟩
    · exact Or.inl q.1
    · exact Or.inr ⟨e, h5 e, p', a, z, l, g3, g4, g6, g7, g8, g9, g11, g12, g13⟩
theorem v_lt {n : Nat} {V : Int64} (hn : n ≤ 8) : (V ≤ (nI n - 1).toInt64) ↔ V < lN n := by
  have h1 : ((nI n - 1).toInt64).toInt = (n : Int) - 1 := by
    rw [Int32.toInt_toInt64, show (1 : Int32) = nI 1 from rfl, pk_sub_toInt (by omega) (by decide)]
    rfl
  rw [l_le, l_lt, h1, pk_lT (by omega)]
  omega
/-- the i-th two of a log is so -/
def so (n : Nat) (ks ps : Nat → Nat) (e : Nat → Int64) (d r y w q : Nat) (l : List Nat) (i : Nat) : Prop := (0 ≤ e (2 * i) ∧ e (2 * i) < lN n) ∧ (wg (ks (e (2 * i)).toInt.toNat) (pt (ks (e (2 * i)).toInt.toNat) (ps (e (2 * i)).toInt.toNat) (ity y i)) (itd r d i) w q l).toInt64 = e (2 * i + 1)
theorem v_of {n : Nat} {V : Int64} (hn : n ≤ 8) (h : 0 ≤ V ∧ V < lN n) : ∃ u, u < n ∧ V = lN u ∧ V.toInt.toNat = u ∧ V.toInt32 = nI u := by
  obtain ⟨u, hu, rfl⟩ := pk_lOf (x := V) (fun q => by rw [l_lt] at q; have h1 := h.1; rw [l_le] at h1; omega)
  have : u < n := (pk_lLT hu (by omega)).mp h.2
  exact ⟨u, this, rfl, by rw [pk_lT (by omega)]; rfl, lN_i u⟩
