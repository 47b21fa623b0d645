theorem R_13_r (fu : Nat) (C : Nat → Nat → Int32) (E : Nat → Int64) (M : Nat → Nat → Int32) (ML : Nat → Int64) (MR : Nat → Nat → Int64) (MV : Nat → Int64) (MY : Nat → Nat → Int32) (f : Nat → Int32) (g : Nat → Int64) (kK kB kP : Nat → Int32) (h : Rel fu C E M ML MR MV MY) : ∃ (oX : Int32 × ((Nat → Int32) × (Nat → Int32) × (Nat → Int32) × (Nat → Int32) × (Nat → Int32) × (Nat → Int32) × (Nat → Int32) × (Nat → Int32) × (Nat → Int32) × (Nat → Int32))) (oM : Int32 × ((Nat → Int32) × (Nat → Int32) × (Nat → Int32) × (Nat → Int32) × (Nat → Int32) × (Nat → Int32) × (Nat → Int32) × (Nat → Int32) × (Nat → Int32) × (Nat → Int32))), m_X5_well fu (C 0) (C 1) (C 2) (C 3) (C 4) (C 9) (C 10) (C 11) (C 12) (C 17) (C 18) (C 19) = some oX ∧ m_X6_well_r fu (M 0) ML (M 15) (M 16) (M 17) (M 18) (M 19) (M 20) f g kK kB kP = some oM ∧ oX.1 = oM.1 ∧ Rel fu (upC (upC (upC (upC (upC (upC (upC (upC (upC (upC C 1 oX.2.1) 2 oX.2.2.1) 3 oX.2.2.2.1) 4 oX.2.2.2.2.1) 9 oX.2.2.2.2.2.1) 10 oX.2.2.2.2.2.2.1) 11 oX.2.2.2.2.2.2.2.1) 12 oX.2.2.2.2.2.2.2.2.1) 17 oX.2.2.2.2.2.2.2.2.2.1) 19 oX.2.2.2.2.2.2.2.2.2.2) E (upC (upC (upC (upC (upC (upC M 0 oM.2.1) 16 oM.2.2.1) 17 oM.2.2.2.1) 18 oM.2.2.2.2.1) 19 oM.2.2.2.2.2.1) 20 oM.2.2.2.2.2.2.1) ML MR MV MY := by
  obtain ⟨hf, ⟨d, r, y, w, q, n, ks, as, ps, hS, hH⟩, hT, hr⟩ := id h
  obtain ⟨hn1, hn2, hn8⟩ := hS.2.2.2.2.2.2.1
  obtain ⟨z, z1, z2, z3, z4⟩ := id hT
  obtain ⟨t1, a1, b1, c1, e1, e2, e3⟩ := s_becomes (fu := fu) (t := C 9) (tk := C 10) (tb := C 11) (tp := C 12) (f := C 1) (kk := C 2) (kb := C 3) (kp := C 4) hf
  obtain ⟨t2, a2, b2, c2, f1, f2, f3, f4, f5⟩ := s_takeFrom (fu := fu) (t := f) (tk := kK) (tb := kB) (tp := kP) (f := M 0) (kk := M 17) (kb := M 18) (kp := M 19) (tL := g) (g := ML) hf
  have hTB : TB (fun i => (C 18 i).toNatClampNeg) z (C 18) (M 15) := ⟨z1, fun i hi => by
    obtain ⟨b, hb, p1, p2⟩ := z4 i hi
    have e : (C 18 i).toNatClampNeg = b := by rw [p1, nI_clamp (by omega)]
    show (C 18 i).toNatClampNeg ≤ 255 ∧ C 18 i = nI (C 18 i).toNatClampNeg ∧ M 15 i = nI (C 18 i).toNatClampNeg
    rw [e]
    exact ⟨hb, p1, p2⟩⟩
  have hSR : SR n t1 a1 b1 c1 (M 0) (M 17) (M 18) (M 19) := ⟨d, r, y, w, q, n, ks, as, ps, Nat.le_refl _, hS.cong e2 (fun _ _ _ => rfl) rfl (fun i hi => ⟨e3 i hi, rfl, rfl, rfl⟩)⟩
  have X := s_readAll (fu := fu) (mL := ML) (told := M 20) hf hTB z2 z3 hSR
  unfold m_X5_well m_X6_well_r
  rw [e1, f1, Option.bind_some, Option.bind_some]
  dsimp only
  rcases X with ⟨t', x1, x2, x3, x4, m', y1, y2, y3, told', F, g1, g2, g3, g4, g5, g6⟩ | ⟨t', x1, x2, x3, x4, m', y1, y2, y3, told', c, g1, g2, g3, g4, g5, g6, g7⟩
  · rw [g1, g4, Option.bind_some, Option.bind_some]
    dsimp only
    obtain ⟨t3, a3, b3, c3, q1, q2, q3, q4, q5⟩ := s_takeFrom (fu := fu) (t := upd m' 7 0) (tk := y1) (tb := y2) (tp := y3) (f := t2) (kk := a2) (kb := b2) (kp := c2) (tL := ML) (g := g) hf
    rw [if_pos rfl, if_pos p00, (s_ref fu _ _).1.1, q1, Option.bind_some, Option.bind_some]
    dsimp only
    rw [(s_mref fu _ _ _).1.1, Option.bind_some]
    have h27 : t3 27 = nI F := (q4 27 (by decide) (Or.inr (by decide))).trans ((pk_un (by decide)).trans g5)
    refine ⟨_, _, rfl, rfl, ?_, ?_⟩
    · show (-20 : Int32) - t' 2 = (-20 : Int32) - t3 27
      rw [g2, h27]
    · refine ⟨hf, ⟨d, r, y, w, q, n, ks, as, ps, hS.cong (fun _ _ => rfl) (fun j j1 j2 => (q2 j j1 j2).trans (f2 j j1 j2)) (q3.trans f3) (fun i hi => ⟨⟨rfl, rfl, rfl⟩, ?_⟩), hH⟩, ⟨0, by decide, ?_, ?_, fun i hi => absurd hi (by omega)⟩, hr.r2⟩
      · obtain ⟨v1, v2, v3⟩ := q5 i hi
        obtain ⟨w1, w2, w3⟩ := f5 i hi
        exact ⟨v1.trans w1, v2.trans w2, v3.trans w3⟩
      · show upd t' 1 0 1 = nI 0
        exact pk_us
      · exact (q4 7 (by decide) (Or.inl (by decide))).trans pk_us
  · rw [g1, g4, Option.bind_some, Option.bind_some]
    dsimp only
    obtain ⟨t3, a3, b3, c3, q1, q2, q3⟩ := s_becomes (fu := fu) (t := C 1) (tk := C 2) (tb := C 3) (tp := C 4) (f := x1) (kk := x2) (kb := x3) (kp := x4) hf
    rw [if_neg (nI_m1 (by omega)), if_neg n10, q1, Option.bind_some]
    obtain ⟨d', r', y', w', q', n', ks', as', ps', hn', hS'⟩ := g6
    refine ⟨_, _, rfl, rfl, g5.symm, ?_⟩
    refine ⟨hf, ⟨d', r', y', w', q', n', ks', as', ps', hS'.cong q2 (fun j j1 j2 => (show upd m' 7 0 j = m' j from pk_un (by omega))) (show upd m' 7 0 20 = m' 20 from pk_un (by decide)) (fun i hi => ⟨q3 i hi, rfl, rfl, rfl⟩), hH.mono hn'⟩, ⟨0, by decide, (show upd t' 1 0 1 = nI 0 from pk_us), (show upd m' 7 0 7 = nI 0 from pk_us), fun i hi => absurd hi (by omega)⟩, hr⟩
