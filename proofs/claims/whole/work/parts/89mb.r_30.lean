theorem R_30 (fu : Nat) (C : Nat → Nat → Int32) (E : Nat → Int64) (M : Nat → Nat → Int32) (ML : Nat → Int64) (MR : Nat → Nat → Int64) (MV : Nat → Int64) (MY : Nat → Nat → Int32) (h : Rel fu C E M ML MR MV MY) (v1 : Int32) (v2 : Int32) (v3 : Int32) (v4 : Int32) (v5 : Int32) : ∃ (oX : Int32 × ((Nat → Int32) × (Nat → Int32) × (Nat → Int32) × (Nat → Int32) × (Nat → Int32) × (Nat → Int32))) (oM : Int32 × ((Nat → Int32) × (Nat → Int32) × (Nat → Int32) × (Nat → Int32) × (Nat → Int32) × (Nat → Int32))), m_X5_next fu (C 0) (C 1) (C 2) (C 4) (C 14) (C 15) E (C 19) (C 20) (C 21) (C 24) (C 25) (C 33) v1 v2 v3 v4 v5 = some oX ∧ m_X6_next fu (M 0) ML (M 1) (M 3) MR (M 16) (M 17) (M 19) (M 21) (M 22) (M 24) (M 25) v1 v2 v3 v4 v5 = some oM ∧ oX.1 = oM.1 ∧ Rel fu (upC (upC (upC (upC (upC (upC C 19 oX.2.1) 20 oX.2.2.1) 21 oX.2.2.2.1) 24 oX.2.2.2.2.1) 25 oX.2.2.2.2.2.1) 33 oX.2.2.2.2.2.2) E (upC (upC (upC (upC (upC (upC M 0 oM.2.1) 16 oM.2.2.1) 21 oM.2.2.2.1) 22 oM.2.2.2.2.1) 24 oM.2.2.2.2.2.1) 25 oM.2.2.2.2.2.2) ML MR MV MY := by
  obtain ⟨hf, ⟨d, r, y, w, q, n, ks, as, ps, hS, hH⟩, hT, hr⟩ := id h
  obtain ⟨hn1, hn2, hn8⟩ := hS.2.2.2.2.2.2.1
  unfold m_X5_next m_X6_next b_X5_next_27 b_X5_next_28
  simp only [s_isVoice, s_mVoice, s_isEchoSize, Option.bind_some, hn1, hn2]
  have no : ∀ may : Int32, ¬ ((0 ≤ v4 ∧ v4 ≤ 13) ∧ ¬ may = 0) → ∃ c r1 t1 s1 m1 r1' w1, m_X5_takeWordAndRow fu (C 0) (C 14) (C 15) E (C 19) (C 24) (C 25) v1 v2 v3 v4 0 = some (c, (r1, t1, s1)) ∧ m_X6_noWords fu (M 0) ML (M 1) (M 3) MR (M 16) (M 21) v1 v2 v3 v4 13 1 may = some (c, (m1, r1', w1)) ∧ (∀ j, j ≠ 31 → m1 j = M 0 j) ∧ RR r1 r1' ∧ ¬ c = 0 := fun may hm => by
    obtain ⟨c, r1, t1, s1, m1, r1', w1, h1, h2, h3, h4, h5⟩ := R_words h hS hH v1 v2 v3 v4 0 v4 13 1 may ⟨fun e => absurd rfl e, fun e => absurd e hm⟩ (fun e => absurd rfl e)
    refine ⟨c, r1, t1, s1, m1, r1', w1, h1, h2, h3, h4, ?_⟩
    rcases h5 with q | ⟨-, q, -⟩
    · exact q
    · exact absurd rfl q
  by_cases c1 : 0 ≤ v5 ∧ v5 ≤ nI n - 1
  · by_cases c2 : 0 ≤ v4 ∧ v4 ≤ 13
    · rw [bI_t c1, bI_t c2, if_neg n10, if_neg n10]
      obtain ⟨v, hv, rfl⟩ := v_ok hn8 c1
      have hv8 : v < 8 := by omega
      obtain ⟨a0, ha0, rfl⟩ := i_rng (m := 13) (by decide) c2
      obtain ⟨c, r1, t1, s1, m1, r1', w1, h1, h2, h3, h4, h5⟩ := R_words h hS hH v1 v2 v3 (nI a0) 1 (nI a0) 13 1 1 ⟨fun e => ⟨c2, n10⟩, fun e => n10⟩ (fun e => ⟨a0, by omega, rfl, (pk_mul 1 a0).trans (by rw [Nat.one_mul])⟩)
      rw [h1, h2, Option.bind_some, Option.bind_some]
      dsimp only
      rcases h5 with c0 | ⟨c0, ok, p', a, z, l, g1, g2, g4, g5, g6, g7, g8, g9, g10⟩
      · rw [if_neg c0, if_neg c0]
        exact ⟨_, _, rfl, rfl, rfl, h.go rfl rfl rfl rfl rfl rfl rfl rfl rfl (m21 h3) rfl rfl rfl rfl rfl rfl rfl rfl (h4)⟩
      · rw [if_pos c0, if_pos c0]
        subst c0 g2
        have hae : a0 = a := (nI_eq (by omega) (by omega)).mp g6
        subst hae
        have TM := s_MT (m' := m1) (v := v) hS (m21 h3) (by omega)
        obtain ⟨t', th', d', e1, eT⟩ := s_depthsOfEcho (fu := fu) (t := C 0) (tr := C 20) (th := C 21) (v := v) (e := MR p') hf hS hv8 g4 g1 g7 g8 g9 g10
        obtain ⟨m2, mh, my, e2, e3, eK, e5, e6, e7, e8⟩ := s_findDepths (fu := fu) (mL := ML) (mh := M 22) (may := M 24) (R := MR) hf TM g5 g1 (show a0 ≤ 40 by omega)
        rw [e1, e2, Option.bind_some, Option.bind_some]
        dsimp only
        generalize ed (ks v) (ps v) y l a0 (MR p') = F at e5 e6 e7 e8 ⊢
        rw [s_countB, Option.bind_some]
        dsimp only
        have hc41 := cnt_le (f := F) 41
        have k2 : m2 11 = m1 11 := e3 11 (by decide) (by decide)
        by_cases c3 : 2 ≤ cnt F 41
        · rw [if_pos (show (2 : Int32) ≤ nI (cnt F 41) from nI_le (a := 2) c3 (by omega))]
          obtain ⟨aa, bb, f1, f2, f3, f4, f5, f6⟩ := lf2 (b_X5_next_73 fu (C 0) (C 1) (C 2) (C 4) (C 14) (C 15) E) (b_X6_next_47 fu ML (M 1) (M 3) MR (M 17) (M 19)) (fun i x x' => x.1 = lN (bs F 41) ∧ x.2.1 = x'.2.1 ∧ x.2.2.1 = x'.2.2.1 ∧ x.2.2.2.1 = nI i ∧ x.2.2.2.2.1 = r1 ∧ (∃ d', TR x.2.2.2.2.2.1 (ks v) (ps v) d' r y w q) ∧ x'.1 = nI v ∧ x'.2.2.2.1 = nI i ∧ (KP m1 x'.2.2.2.2.1 ∧ x'.2.2.2.2.1 11 = m1 11 ∧ x'.2.2.2.2.1 42 = nI (cnt F 41)) ∧ x'.2.2.2.2.2.1 = r1' ∧ x'.2.2.2.2.2.2.2.2.1 = my) 40 (fun o o' => ∃ a b, o = some a ∧ o' = some b ∧ a.1 = b.1 ∧ a.2.1 = r1 ∧ b.2.2.1 = r1' ∧ ∀ j, j < 35 → j ≠ 33 → b.2.1 j = m1 j)
            (by
              rintro i ⟨x1, x2, x3, x4, x5, x6, x7, x8, x9, x10⟩ ⟨y1, y2, y3, y4, y5, y6, y7, y8, y9, y10⟩ k k' hi ⟨u1, u2, u3, u4, u5, ⟨d', u6⟩, u7, u8, ⟨q1, q2, q3⟩, u9, u10⟩
              dsimp only at u1 u2 u3 u4 u5 u6 u7 u8 u9 u10 q1 q2 q3
              subst u1 u2 u3 u4 u5 u7 u8 u9 u10
              obtain ⟨tr', pp', d2, a1, a2⟩ := s_mostLeft (fu := fu) (t := C 0) (parts := x10) (F := F) hf u6 hi
              obtain ⟨m3, sn', a3, a4⟩ := s_worstBy (fu := fu) (mL := ML) (snd := y10) (F := F) hf TM q1 q2 hi e8
              have KK : KP m1 m3 := ⟨fun j h1 h2 h3 h4 h5 => (a4 j h2).trans (q1.1 j h1 h2 h3 h4 h5), (a4 35 (by decide)).trans q1.2.1, (a4 36 (by decide)).trans q1.2.2.1, (a4 37 (by decide)).trans q1.2.2.2⟩
              have hI : ∀ (b2 b3 : Int32), lN (bs F 41) = lN (bs F 41) ∧ b2 = b2 ∧ b3 = b3 ∧ nI (i + 1) = nI (i + 1) ∧ x5 = x5 ∧ (∃ d', TR tr' (ks v) (ps v) d' r y w q) ∧ nI v = nI v ∧ nI (i + 1) = nI (i + 1) ∧ (KP m1 m3 ∧ m3 11 = m1 11 ∧ m3 42 = nI (cnt F 41)) ∧ y6 = y6 ∧ y9 = y9 := fun _ _ => ⟨rfl, rfl, rfl, rfl, rfl, ⟨d2, a2⟩, rfl, rfl, ⟨KK, (a4 11 (by decide)).trans q2, (a4 42 (by decide)).trans q3⟩, rfl, rfl⟩
              left
              unfold b_X5_next_73 b_X6_next_47 b_X5_next_105 b_X6_next_86 b_X6_next_102
              dsimp only
              rw [if_neg (show ¬ (40 : Int32) ≤ nI i from nI_ge (b := 40) hi (by decide)), if_neg (show ¬ (40 : Int32) ≤ nI i from nI_ge (b := 40) hi (by decide)), if_neg (show ¬ y5 42 ≤ (1 : Int32) by rw [q3]; exact nI_ge (a := 1) (by omega) (by omega)), a1, a3, Option.bind_some, Option.bind_some, mx_wsb, nI_1]
              dsimp only
              by_cases cc : x3 ≤ nI (wsb F (fun i_1 => co (rt (ks v) (pt (ks v) (ps v) y) i_1 i)) 41)
              · rw [if_pos cc, if_pos cc, if_pos cc]
                refine ⟨_, _, ?_, rfl, rfl⟩
                exact hI _ _
              · rw [if_neg cc, if_neg cc, if_neg cc]
                refine ⟨_, _, ?_, rfl, rfl⟩
                exact hI _ _)
            (by
              rintro ⟨x1, x2, x3, x4, x5, x6, x7, x8, x9, x10⟩ ⟨y1, y2, y3, y4, y5, y6, y7, y8, y9, y10⟩ k k' ⟨u1, u2, u3, u4, u5, ⟨d', u6⟩, u7, u8, ⟨q1, q2, q3⟩, u9, u10⟩
              dsimp only at u1 u2 u3 u4 u5 u6 u7 u8 u9 u10 q1 q2 q3
              subst u1 u2 u3 u4 u5 u7 u8 u9 u10
              obtain ⟨m3, b1, b2, -⟩ := q1.back (fu := fu) (mL := ML)
              unfold b_X5_next_73 b_X6_next_47 b_X6_next_110
              dsimp only
              rw [if_pos (show (40 : Int32) ≤ nI 40 by decide), if_pos (show (40 : Int32) ≤ nI 40 by decide), b1, Option.bind_some]
              exact ⟨_, _, rfl, rfl, rfl, rfl, rfl, b2⟩) fu 0 (lN (bs F 41), (-1 : Int32), (42 : Int32), (0 : Int32), r1, t', th', t1, s1, C 33) (nI v, (-1 : Int32), (42 : Int32), (0 : Int32), m2, r1', w1, mh, my, M 25) (Nat.zero_le _) (by omega) ⟨rfl, rfl, rfl, rfl, rfl, ⟨d', eT⟩, rfl, rfl, ⟨eK, k2, e5⟩, rfl, rfl⟩
          exact ⟨aa, bb, f1, f2, f3, h.go rfl rfl rfl rfl rfl rfl rfl rfl rfl (fun j hj => (f6 j (by omega) (by omega)).trans (h3 j (by omega))) rfl rfl rfl rfl rfl rfl rfl rfl (by show RR aa.2.1 bb.2.2.1; rw [f4, f5]; exact h4)⟩
        · rw [if_neg (show ¬ (2 : Int32) ≤ nI (cnt F 41) from nI_ge (b := 2) (by omega) (by decide))]
          obtain ⟨m3, b1, b2, -⟩ := eK.back (fu := fu) (mL := ML)
          have B : lfix (b_X6_next_47 fu ML (M 1) (M 3) MR (M 17) (M 19)) fu (nI v, (-1 : Int32), (42 : Int32), (0 : Int32), m2, r1', w1, mh, my, M 25) = some (-1, (m3, r1', w1, mh, my, M 25)) := by
            refine lf (b_X6_next_47 fu ML (M 1) (M 3) MR (M 17) (M 19)) (fun i x => x = (nI v, (-1 : Int32), (42 : Int32), (0 : Int32), m2, r1', w1, mh, my, M 25)) 0 (fun o => o = some (-1, (m3, r1', w1, mh, my, M 25))) (fun j x k4 hj _ => absurd hj (by omega)) ?_ fu 0 _ (Nat.zero_le _) (by omega) rfl
            rintro x k4 rfl
            unfold b_X6_next_47 b_X6_next_110
            dsimp only
            rw [if_neg (show ¬ (40 : Int32) ≤ 0 by decide), if_pos (show m2 42 ≤ (1 : Int32) by rw [e5]; exact nI_le (b := 1) (by omega) (by decide)), b1, Option.bind_some]
          rw [B]
          exact ⟨_, _, rfl, rfl, rfl, h.go rfl rfl rfl rfl rfl rfl rfl rfl rfl (fun j hj => (b2 j (by omega) (by omega)).trans (h3 j (by omega))) rfl rfl rfl rfl rfl rfl rfl rfl (h4)⟩
    · rw [bI_t c1, bI_f c2, if_neg n10, if_pos p00]
      obtain ⟨c, r1, t1, s1, m1, r1', w1, h1, h2, h3, h4, h5⟩ := no 1 (fun q => c2 q.1)
      rw [h1, h2, Option.bind_some, Option.bind_some, if_neg h5, if_neg h5]
      exact ⟨_, _, rfl, rfl, rfl, h.go rfl rfl rfl rfl rfl rfl rfl rfl rfl (m21 h3) rfl rfl rfl rfl rfl rfl rfl rfl (h4)⟩
  · rw [bI_f c1, if_pos p00]
    obtain ⟨c, r1, t1, s1, m1, r1', w1, h1, h2, h3, h4, h5⟩ := no 0 (fun q => q.2 rfl)
    rw [h1, h2, Option.bind_some, Option.bind_some, if_neg h5, if_neg h5]
    exact ⟨_, _, rfl, rfl, rfl, h.go rfl rfl rfl rfl rfl rfl rfl rfl rfl (m21 h3) rfl rfl rfl rfl rfl rfl rfl rfl (h4)⟩
