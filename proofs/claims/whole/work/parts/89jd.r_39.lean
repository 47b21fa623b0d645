theorem R_39 (fu : Nat) (C : Nat → Nat → Int32) (E : Nat → Int64) (M : Nat → Nat → Int32) (ML : Nat → Int64) (MR : Nat → Nat → Int64) (MV : Nat → Int64) (MY : Nat → Nat → Int32) (h : Rel fu C E M ML MR MV MY) (v1 : Int32) (v2 : Int32) (v3 : Int32) : ∃ (oX : Int32 × ((Nat → Int32) × (Nat → Int32) × (Nat → Int32) × (Nat → Int32) × (Nat → Int32))) (oM : Int32 × ((Nat → Int32) × (Nat → Int32) × (Nat → Int32) × (Nat → Int32))), m_X5_best fu (C 0) (C 1) (C 2) (C 4) (C 14) (C 15) E (C 19) (C 20) (C 21) (C 24) (C 25) v1 v2 v3 = some oX ∧ m_X6_best fu (M 0) ML (M 1) (M 3) MR (M 16) (M 17) (M 19) (M 21) (M 22) v1 v2 v3 = some oM ∧ oX.1 = oM.1 ∧ Rel fu (upC (upC (upC (upC (upC C 19 oX.2.1) 20 oX.2.2.1) 21 oX.2.2.2.1) 24 oX.2.2.2.2.1) 25 oX.2.2.2.2.2) E (upC (upC (upC (upC M 0 oM.2.1) 16 oM.2.2.1) 21 oM.2.2.2.1) 22 oM.2.2.2.2) ML MR MV MY := by
  obtain ⟨hf, ⟨d, r, y, w, q, n, ks, as, ps, hS, hH⟩, hT, hr⟩ := id h
  obtain ⟨hn1, hn2, hn8⟩ := hS.2.2.2.2.2.2.1
  unfold m_X5_best m_X6_best
  rw [s_isWithin, s_i (x := v3) (A := 0) (B := 1) (a := 0) (b := 1) rfl rfl, Option.bind_some, Option.bind_some]
  dsimp only
  obtain ⟨c, r1, t1, s1, m1, r1', w1, h1, h2, h3, h4, h5⟩ := R_word h hS hH v1 v2 (bI (0 ≤ v3 ∧ v3 ≤ 1)) 12 (bI (0 ≤ v3 ∧ v3 ≤ 1)) (fun e => ⟨fun q => ⟨e.2, q⟩, fun q => q.2⟩) (by decide)
  rw [h1, h2, Option.bind_some, Option.bind_some]
  dsimp only
  rcases h5 with c0 | ⟨c0, ok, s', l, g1, g2, g3, g4, g5, g6⟩
  · rw [if_neg c0, if_neg c0]
    exact ⟨_, _, rfl, rfl, rfl, h.go rfl rfl rfl rfl rfl rfl rfl rfl rfl (m21 h3) rfl rfl rfl rfl rfl rfl rfl rfl (h4)⟩
  · rw [if_pos c0, if_pos c0]
    subst c0
    obtain ⟨hw1, hw2, hw3, hw4⟩ := hS.2.2.2.1
    rw [s_keeps, Option.bind_some]
    obtain ⟨a, b, f1, f2, f3, f4, f5, f6⟩ := lf2 (b_X5_best_31 fu (C 0) (C 1) (C 2) (C 4) (C 14) (C 15) E) (b_X6_best_40 fu ML (M 1) (M 3) MR (M 17) (M 19)) (fun i x x' => x.1 = v3 ∧ (x.2.1 = x'.2.1 ∨ (i = 0 ∧ x'.2.1 = 0)) ∧ x.2.2.1 = x'.2.2.1 ∧ (i = 0 → x'.2.2.1 = -1) ∧ x.2.2.2.1 = nI i ∧ x.2.2.2.2.1 = r1 ∧ x.2.2.2.2.2.2.2.1 = t1 ∧ x.2.2.2.2.2.2.2.2 = s1 ∧ x'.1 = v3 ∧ x'.2.2.2.2.1 = r1' ∧ x'.2.2.2.2.2.1 = w1 ∧ KP m1 x'.2.2.2.1 ∧ x'.2.2.2.1 9 = nI i ∧ x'.2.2.2.1 11 = m1 11) 41 (fun o o' => ∃ a b, o = some a ∧ o' = some b ∧ a.1 = b.1 ∧ a.2.1 = r1 ∧ b.2.2.1 = r1' ∧ ∀ j, j < 35 → j ≠ 33 → b.2.1 j = m1 j)
      (by
        rintro i ⟨x1, x2, x3, x4, x5, x6, x7, x8, x9⟩ ⟨y1, y2, y3, y4, y5, y6, y7⟩ k k' hi ⟨u1, u2, u3, u4, u5, u6, u7, u8, u9, u10, u11, k1, k2, k3⟩
        dsimp only at u1 u2 u3 u4 u5 u6 u7 u8 u9 u10 u11 k1 k2 k3
        subst u1 u3 u5 u6 u7 u8 u9 u10 u11
        have T : ∀ v, v < n → MT y4 (M 17) (M 19) v (ks v) (ps v) i y w q := fun v hv => (s_MT (m' := m1) (v := v) hS (m21 h3) (by omega)).at k1 k2 (by omega) k3
        obtain ⟨t2, h2', a1⟩ := s_voicesOfYes (fu := fu) (t := C 0) (tr := x6) (th := x7) (dd := i) (ww := w) hf hS g4 (by omega) hw3 hw4
        obtain ⟨m2, mh, a2, a3⟩ := s_yesBits (fu := fu) (mL := ML) (h := y7) (n := n) (m := y4) (mw := y6) (l := l) hf ((k1.1 16 (by decide) (by decide) (by decide) (by decide) (by decide)).trans ((h3 16 (by decide)).trans hn2)) hn8 T (g5.kp k1)
        have hm9 : m2 9 = nI i := (a3 9 (by decide)).trans k2
        have hK : KP m1 (upd m2 9 (nI (i + 1))) ∧ upd m2 9 (nI (i + 1)) 9 = nI (i + 1) ∧ upd m2 9 (nI (i + 1)) 11 = m1 11 := ⟨(k1.sm a3).up (Or.inl rfl), pk_us, (pk_un (by decide)).trans ((a3 11 (by decide)).trans k3)⟩
        left
        unfold b_X5_best_31 b_X6_best_40 b_X5_best_71 b_X6_best_74 b_X6_best_90
        dsimp only
        rw [if_neg (show ¬ (40 : Int32) < nI i from nI_nlt (a := 40) (by omega) (by decide)), if_neg (show ¬ (40 : Int32) < y4 9 by rw [k2]; exact nI_nlt (a := 40) (by omega) (by decide)), hw1, a1, a2, Option.bind_some, Option.bind_some]
        dsimp only
        rw [s_bitc hn8, s_bitm hf hn8, Option.bind_some, Option.bind_some, hm9, nI_1]
        dsimp only
        have hc8 := cnt_le (f := yb ks ps i y w q l) n
        by_cases cc : nI (cnt (yb ks ps i y w q l) n) ≤ x3
        · have hi0 : i ≠ 0 := fun e => by
            rw [u4 e, i_le, nI_toInt (by omega), tm1] at cc
            omega
          rw [if_pos cc, if_pos cc, if_pos cc]
          refine ⟨(_, _, _, _, _, _, _, _, _), (_, _, _, _, _, _, _), ⟨rfl, Or.inl ?_, rfl, fun e => absurd e (by omega), rfl, rfl, rfl, rfl, rfl, rfl, rfl, hK⟩, rfl, rfl⟩
          rcases u2 with q | q
          · exact q
          · exact absurd q.1 hi0
        · rw [if_neg cc, if_neg cc, if_neg cc]
          exact ⟨(_, _, _, _, _, _, _, _, _), (_, _, _, _, _, _, _), ⟨rfl, Or.inl rfl, rfl, fun e => absurd e (by omega), rfl, rfl, rfl, rfl, rfl, rfl, rfl, hK⟩, rfl, rfl⟩)
      (by
        rintro ⟨x1, x2, x3, x4, x5, x6, x7, x8, x9⟩ ⟨y1, y2, y3, y4, y5, y6, y7⟩ k k' ⟨u1, u2, u3, u4, u5, u6, u7, u8, u9, u10, u11, k1, k2, k3⟩
        dsimp only at u1 u2 u3 u4 u5 u6 u7 u8 u9 u10 u11 k1 k2 k3
        subst u1 u3 u5 u6 u7 u8 u9 u10 u11
        have e2 : x2 = y2 := u2.resolve_right (fun q => absurd q.1 (by decide))
        subst e2
        obtain ⟨m2, a1, a2, -⟩ := k1.back (fu := fu) (mL := ML)
        unfold b_X5_best_31 b_X6_best_40 b_X5_best_88 b_X6_best_120
        dsimp only
        rw [if_pos (show (40 : Int32) < nI 41 by decide), if_pos (show (40 : Int32) < y4 9 by rw [k2]; decide), a1, Option.bind_some]
        by_cases c : y1 = 0
        · rw [if_pos c, if_pos c]
          exact ⟨_, _, rfl, rfl, rfl, rfl, rfl, a2⟩
        · rw [if_neg c, if_neg c]
          exact ⟨_, _, rfl, rfl, rfl, rfl, rfl, a2⟩) fu 0 (v3, (-1 : Int32), (-1 : Int32), (0 : Int32), r1, C 20, C 21, t1, s1) (v3, (0 : Int32), (-1 : Int32), upd (upd (upd (upd m1 35 (m1 9)) 36 (m1 11)) 37 (m1 10)) 9 0, r1', w1, M 22) (Nat.zero_le _) (by omega) ⟨rfl, Or.inr ⟨rfl, rfl⟩, rfl, fun _ => rfl, rfl, rfl, rfl, rfl, rfl, rfl, rfl, KP.keeps.up (Or.inl rfl), rfl, rfl⟩
    exact ⟨a, b, f1, f2, f3, h.go rfl rfl rfl rfl rfl rfl rfl rfl rfl (fun j hj => (f6 j (by omega) (by omega)).trans (h3 j (by omega))) rfl rfl rfl rfl rfl rfl rfl rfl (by show RR a.2.1 b.2.2.1; rw [f4, f5]; exact h4)⟩
