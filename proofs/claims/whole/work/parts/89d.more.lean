-- PURE 13: twins, days ahead, status, copy, says

theorem R_44 (fu : Nat) (C : Nat → Nat → Int32) (E : Nat → Int64) (M : Nat → Nat → Int32) (ML : Nat → Int64) (MR : Nat → Nat → Int64) (MV : Nat → Int64) (MY : Nat → Nat → Int32) (h : Rel fu C E M ML MR MV MY) : ∃ (oX : Int32 × ((Nat → Int32) × (Nat → Int32))) (oM : Int32 × Unit), m_X5_twins fu (C 0) (C 1) (C 2) (C 4) (C 20) (C 22)  = some oX ∧ m_X6_twins fu (M 0) ML (M 17) (M 19)  = some oM ∧ oX.1 = oM.1 ∧ Rel fu (upC (upC C 20 oX.2.1) 22 oX.2.2) E M ML MR MV MY := by
  obtain ⟨hf, ⟨d, r, y, w, q, n, ks, as, ps, hS, hH⟩, hT, hr⟩ := id h
  obtain ⟨hn1, hn2, hn8⟩ := hS.2.2.2.2.2.2.1
  have A : ∃ tr to, m_X5_twins fu (C 0) (C 1) (C 2) (C 4) (C 20) (C 22) = some (nI (tot (twb ks ps d y) n), (tr, to)) := by
    have hmx : tot (twb ks ps d y) (max n 1) = tot (twb ks ps d y) n := by
      rcases Nat.eq_zero_or_pos n with e | e
      · subst e; rfl
      · rw [Nat.max_eq_left e]
    unfold m_X5_twins
    refine lf (b_X5_twins_4 fu (C 0) (C 1) (C 2) (C 4)) (fun i x => x.1 = nI (tot (twb ks ps d y) i) ∧ x.2.1 = nI i ∧ 1 ≤ i) (max n 1) (fun o => ∃ tr to, o = some (nI (tot (twb ks ps d y) n), (tr, to))) ?_ ?_ fu 1 _ (Nat.le_max_right _ _) (by omega) ⟨rfl, rfl, Nat.le_refl _⟩
    · rintro i ⟨x1, x2, x3, x4⟩ k hi ⟨e1, e2, h1i⟩
      dsimp only at e1 e2
      subst e1 e2
      have hin : i < n := by omega
      left
      obtain ⟨tr, to, g⟩ := lf (b_X5_twins_17 fu (C 0) (C 1) (C 2) (C 4) k) (fun j x => x.1 = nI (tot (twb ks ps d y) i + cnt (twb ks ps d y i) j) ∧ x.2.1 = nI i ∧ x.2.2.1 = nI j) i (fun o => ∃ tr to, o = k (nI (tot (twb ks ps d y) (i + 1)), nI (i + 1), tr, to))
        (by
          rintro j ⟨x1, x2, x3, x4, x5⟩ k2 hj ⟨e1, e2, e3⟩
          dsimp only at e1 e2 e3
          subst e1 e2 e3
          left
          obtain ⟨tr', to', e⟩ := s_areTwins (fu := fu) (t := C 0) (tr := x4) (to := x5) (v := j) (o := i) hf hS (by omega) (by omega)
          unfold b_X5_twins_17 b_X5_twins_34
          dsimp only
          rw [if_neg (nI_ge hj (by omega)), e]
          simp only [Option.bind_some, nI_1]
          by_cases c : twb ks ps d y j i = true
          · rw [bI_t c, if_neg n10]
            exact ⟨(nI (tot (twb ks ps d y) i + cnt (twb ks ps d y i) j + 1), nI i, nI (j + 1), tr', to'), ⟨by rw [cnt_t (twb_sym.trans c)]; rfl, rfl, rfl⟩, rfl⟩
          · rw [bI_f c, if_pos p00]
            exact ⟨(nI (tot (twb ks ps d y) i + cnt (twb ks ps d y i) j), nI i, nI (j + 1), tr', to'), ⟨by rw [cnt_f (fun e => c (twb_sym.trans e))], rfl, rfl⟩, rfl⟩)
        (by
          rintro ⟨x1, x2, x3, x4, x5⟩ k2 ⟨e1, e2, e3⟩
          dsimp only at e1 e2 e3
          subst e1 e2 e3
          unfold b_X5_twins_17
          dsimp only
          rw [if_pos (nI_le (Nat.le_refl _) (by omega)), nI_1]
          exact ⟨x4, x5, rfl⟩) fu 0 (nI (tot (twb ks ps d y) i), nI i, (0 : Int32), x3, x4) (Nat.zero_le _) (by omega) ⟨rfl, rfl, rfl⟩
      refine ⟨(nI (tot (twb ks ps d y) (i + 1)), nI (i + 1), tr, to), ⟨rfl, rfl, by omega⟩, ?_⟩
      unfold b_X5_twins_4
      dsimp only
      rw [hn1, if_neg (nI_ge hin (by omega)), g]
    · rintro ⟨x1, x2, x3, x4⟩ k ⟨e1, e2, -⟩
      dsimp only at e1 e2
      subst e1 e2
      unfold b_X5_twins_4
      dsimp only
      rw [hn1, if_pos (nI_le (Nat.le_max_left _ _) (by omega)), hmx]
      exact ⟨x3, x4, rfl⟩
  have B : m_X6_twins fu (M 0) ML (M 17) (M 19) = some (nI (tot (twb ks ps d y) n), ()) := by
    unfold m_X6_twins
    refine lf (b_X6_twins_4 fu (M 0) ML (M 17) (M 19)) (fun i x => x.1 = nI (tot (twb ks ps d y) i) ∧ x.2 = nI i) n (fun o => o = some (nI (tot (twb ks ps d y) n), ())) ?_ ?_ fu 0 _ (Nat.zero_le _) (by omega) ⟨rfl, rfl⟩
    · rintro i ⟨x1, x2⟩ k hi ⟨e1, e2⟩
      dsimp only at e1 e2
      subst e1 e2
      left
      have g := lf (b_X6_twins_14 fu (M 0) ML (M 17) (M 19) k) (fun j x => x.1 = nI (tot (twb ks ps d y) i + cnt (twb ks ps d y i) j) ∧ x.2.1 = nI i ∧ x.2.2 = nI j) i (fun o => o = k (nI (tot (twb ks ps d y) (i + 1)), nI (i + 1)))
        (by
          rintro j ⟨x1, x2, x3⟩ k2 hj ⟨e1, e2, e3⟩
          dsimp only at e1 e2 e3
          subst e1 e2 e3
          left
          have e := s_mTwins (fu := fu) (mL := ML) (v := i) (o := j) hf hS (by omega) (by omega)
          unfold b_X6_twins_14 b_X6_twins_34
          dsimp only
          rw [if_neg (nI_ge hj (by omega)), e]
          simp only [Option.bind_some, nI_1]
          by_cases c : twb ks ps d y i j = true
          · rw [bI_t c, if_neg n10]
            exact ⟨(nI (tot (twb ks ps d y) i + cnt (twb ks ps d y i) j + 1), nI i, nI (j + 1)), ⟨by rw [cnt_t c]; rfl, rfl, rfl⟩, rfl⟩
          · rw [bI_f c, if_pos p00, Int32.add_zero]
            exact ⟨(nI (tot (twb ks ps d y) i + cnt (twb ks ps d y i) j), nI i, nI (j + 1)), ⟨by rw [cnt_f c], rfl, rfl⟩, rfl⟩)
        (by
          rintro ⟨x1, x2, x3⟩ k2 ⟨e1, e2, e3⟩
          dsimp only at e1 e2 e3
          subst e1 e2 e3
          unfold b_X6_twins_14
          dsimp only
          rw [if_pos (nI_le (Nat.le_refl _) (by omega)), nI_1]
          rfl) fu 0 (nI (tot (twb ks ps d y) i), nI i, (0 : Int32)) (Nat.zero_le _) (by omega) ⟨rfl, rfl, rfl⟩
      refine ⟨(nI (tot (twb ks ps d y) (i + 1)), nI (i + 1)), ⟨rfl, rfl⟩, ?_⟩
      unfold b_X6_twins_4
      dsimp only
      rw [hn2, if_neg (nI_ge hi (by omega)), g]
    · rintro ⟨x1, x2⟩ k ⟨e1, e2⟩
      dsimp only at e1 e2
      subst e1 e2
      unfold b_X6_twins_4
      dsimp only
      rw [hn2, if_pos (nI_le (Nat.le_refl _) (by omega))]
  obtain ⟨tr, to, A⟩ := A
  exact ⟨_, _, A, B, rfl, h.go rfl rfl rfl rfl rfl rfl rfl rfl rfl (fun _ _ => rfl) rfl rfl rfl rfl rfl rfl rfl rfl (hr)⟩

theorem R_34 (fu : Nat) (C : Nat → Nat → Int32) (E : Nat → Int64) (M : Nat → Nat → Int32) (ML : Nat → Int64) (MR : Nat → Nat → Int64) (MV : Nat → Int64) (MY : Nat → Nat → Int32) (h : Rel fu C E M ML MR MV MY) (v1 : Int32) : ∃ (oX : Int32 × (Nat → Int32)) (oM : Int32 × (Nat → Int32)), m_X5_ahead fu (C 0) (C 1) (C 19) v1 = some oX ∧ m_X6_ahead fu (M 0) ML (M 16) v1 = some oM ∧ oX.1 = oM.1 ∧ Rel fu (upC C 19 oX.2) E (upC M 16 oM.2) ML MR MV MY := by
  obtain ⟨hf, ⟨d, r, y, w, q, n, ks, as, ps, hS, hH⟩, hT, hr⟩ := id h
  obtain ⟨hn1, hn2, hn8⟩ := hS.2.2.2.2.2.2.1
  obtain ⟨a1, a2, a3, a4, a5, a6, a7, a8⟩ := id hS
  unfold m_X5_ahead m_X6_ahead
  simp only [s_isWithin, s_i (x := v1) (A := 0) (B := 200) (a := 0) (b := 200) rfl rfl, Option.bind_some]
  by_cases c1 : 0 ≤ v1 ∧ v1 ≤ 200
  · obtain ⟨e, he, rfl⟩ := i_rng (m := 200) (by decide) c1
    rw [bI_t c1, if_neg n10, if_neg n10]
    obtain ⟨a, b, g1, g2, g3, g4, g5⟩ := lf2 (b_X5_ahead_28 fu (C 0) (C 1)) (b_X6_ahead_26 fu (M 0) ML) (fun i x y => x.1 = nI e ∧ x.2.1 = y.2.1 ∧ x.2.2.1 = nI i ∧ x.2.2.2 = C 19 ∧ y.1 = nI e ∧ y.2.2.1 = nI i ∧ y.2.2.2 = M 16 ∧ ∃ dd, dd ≤ 40 ∧ y.2.1 = nI dd) e (fun o o' => ∃ a b, o = some a ∧ o' = some b ∧ a.1 = b.1 ∧ a.2 = C 19 ∧ b.2 = M 16)
      (by
        rintro i ⟨x1, x2, x3, x4⟩ ⟨y1, y2, y3, y4⟩ k k' hi ⟨f1, f2, f3, f4, f5, f6, f7, dd, hd, f8⟩
        dsimp only at f1 f2 f3 f4 f5 f6 f7 f8
        subst f1 f2 f3 f4 f5 f6 f7 f8
        left
        unfold b_X5_ahead_28 b_X6_ahead_26
        dsimp only
        rw [if_neg (nI_ge hi (by omega)), if_neg (nI_ge hi (by omega)), a2.1, a2.2.1, s_depthBehind hd a2.2.2, s_held hd a2.2.2, Option.bind_some, Option.bind_some, nI_1]
        exact ⟨(nI e, nI (dn dd r), nI (i + 1), C 19), (nI e, nI (dn dd r), nI (i + 1), M 16), ⟨rfl, rfl, rfl, rfl, rfl, rfl, rfl, _, dn_le, rfl⟩, rfl, rfl⟩)
      (by
        rintro ⟨x1, x2, x3, x4⟩ ⟨y1, y2, y3, y4⟩ k k' ⟨f1, f2, f3, f4, f5, f6, f7, -⟩
        dsimp only at f1 f2 f3 f4 f5 f6 f7
        subst f1 f2 f3 f4 f5 f6 f7
        unfold b_X5_ahead_28 b_X6_ahead_26
        dsimp only
        rw [if_pos (nI_le (Nat.le_refl _) (by omega)), if_pos (nI_le (Nat.le_refl _) (by omega))]
        exact ⟨_, _, rfl, rfl, rfl, rfl, rfl⟩) fu 0 (nI e, C 1 0, (0 : Int32), C 19) (nI e, M 0 9, (0 : Int32), M 16) (Nat.zero_le _) (by omega) ⟨rfl, a1.1.trans a1.2.1.symm, rfl, rfl, rfl, rfl, rfl, d, a1.2.2, a1.2.1⟩
    exact ⟨a, b, g1, g2, g3, h.go rfl rfl rfl rfl rfl rfl rfl rfl rfl (fun _ _ => rfl) rfl rfl rfl rfl rfl rfl rfl rfl (by show RR a.2 b.2; rw [g4, g5]; exact hr)⟩
  · rw [bI_f c1, if_pos p00, if_pos p00]
    rw [(s_ref fu _ _).1.1, (s_mref fu _ _ _).1.1, Option.bind_some, Option.bind_some]; exact ⟨_, _, rfl, rfl, rfl, h.go rfl rfl rfl rfl rfl rfl rfl rfl rfl (fun _ _ => rfl) rfl rfl rfl rfl rfl rfl rfl rfl hr.r2⟩

theorem R_42 (fu : Nat) (C : Nat → Nat → Int32) (E : Nat → Int64) (M : Nat → Nat → Int32) (ML : Nat → Int64) (MR : Nat → Nat → Int64) (MV : Nat → Int64) (MY : Nat → Nat → Int32) (h : Rel fu C E M ML MR MV MY) (v1 : Int32) : ∃ (oX : Int32 × (Nat → Int32)) (oM : Int32 × (Nat → Int32)), m_X5_sinks fu (C 0) (C 1) (C 19) v1 = some oX ∧ m_X6_sinks fu (M 0) ML (M 16) v1 = some oM ∧ oX.1 = oM.1 ∧ Rel fu (upC C 19 oX.2) E (upC M 16 oM.2) ML MR MV MY := by
  obtain ⟨hf, ⟨d, r, y, w, q, n, ks, as, ps, hS, hH⟩, hT, hr⟩ := id h
  obtain ⟨hn1, hn2, hn8⟩ := hS.2.2.2.2.2.2.1
  obtain ⟨a1, a2, a3, a4, a5, a6, a7, a8⟩ := id hS
  unfold m_X5_sinks m_X6_sinks
  simp only [s_isWithin, s_i (x := v1) (A := 0) (B := 40) (a := 0) (b := 40) rfl rfl, Option.bind_some]
  by_cases c1 : 0 ≤ v1 ∧ v1 ≤ 40
  · obtain ⟨e, he, rfl⟩ := i_rng (m := 40) (by decide) c1
    rw [bI_t c1, if_neg n10, if_neg n10]
    obtain ⟨a, b, g1, g2, g3, g4, g5⟩ := lf2 (b_X5_sinks_27 fu (C 0) (C 1)) (b_X6_sinks_26 fu (M 0) ML) (fun i x y => x.1 = nI e ∧ x.2.1 = y.2.1 ∧ x.2.2.1 = nI i ∧ x.2.2.2 = C 19 ∧ y.1 = nI e ∧ y.2.2.1 = nI i ∧ y.2.2.2 = M 16 ∧ ∃ dd, dd ≤ 40 ∧ y.2.1 = nI dd) 201 (fun o o' => ∃ a b, o = some a ∧ o' = some b ∧ a.1 = b.1 ∧ a.2 = C 19 ∧ b.2 = M 16)
      (by
        rintro i ⟨x1, x2, x3, x4⟩ ⟨y1, y2, y3, y4⟩ k k' hi ⟨f1, f2, f3, f4, f5, f6, f7, dd, hd, f8⟩
        dsimp only at f1 f2 f3 f4 f5 f6 f7 f8
        subst f1 f2 f3 f4 f5 f6 f7 f8
        unfold b_X5_sinks_27 b_X6_sinks_26
        dsimp only
        rw [if_neg (show ¬ (200 : Int32) < nI i from nI_nlt (a := 200) (by omega) (by decide)), if_neg (show ¬ (200 : Int32) < nI i from nI_nlt (a := 200) (by omega) (by decide))]
        by_cases c : nI dd < nI e
        · left
          rw [if_pos c, if_pos c, a2.1, a2.2.1, s_depthBehind hd a2.2.2, s_held hd a2.2.2, Option.bind_some, Option.bind_some, nI_1]
          exact ⟨(nI e, nI (dn dd r), nI (i + 1), C 19), (nI e, nI (dn dd r), nI (i + 1), M 16), ⟨rfl, rfl, rfl, rfl, rfl, rfl, rfl, _, dn_le, rfl⟩, rfl, rfl⟩
        · right
          rw [if_neg c, if_neg c]
          exact ⟨_, _, rfl, rfl, rfl, rfl, rfl⟩)
      (by
        rintro ⟨x1, x2, x3, x4⟩ ⟨y1, y2, y3, y4⟩ k k' ⟨f1, f2, f3, f4, f5, f6, f7, -⟩
        dsimp only at f1 f2 f3 f4 f5 f6 f7
        subst f1 f2 f3 f4 f5 f6 f7
        unfold b_X5_sinks_27 b_X6_sinks_26
        dsimp only
        rw [if_pos (show (200 : Int32) < nI 201 by decide), if_pos (show (200 : Int32) < nI 201 by decide)]
        exact ⟨_, _, rfl, rfl, rfl, rfl, rfl⟩) fu 0 (nI e, C 1 0, (0 : Int32), C 19) (nI e, M 0 9, (0 : Int32), M 16) (Nat.zero_le _) (by omega) ⟨rfl, a1.1.trans a1.2.1.symm, rfl, rfl, rfl, rfl, rfl, d, a1.2.2, a1.2.1⟩
    exact ⟨a, b, g1, g2, g3, h.go rfl rfl rfl rfl rfl rfl rfl rfl rfl (fun _ _ => rfl) rfl rfl rfl rfl rfl rfl rfl rfl (by show RR a.2 b.2; rw [g4, g5]; exact hr)⟩
  · rw [bI_f c1, if_pos p00, if_pos p00]
    rw [(s_ref fu _ _).1.1, (s_mref fu _ _ _).1.1, Option.bind_some, Option.bind_some]; exact ⟨_, _, rfl, rfl, rfl, h.go rfl rfl rfl rfl rfl rfl rfl rfl rfl (fun _ _ => rfl) rfl rfl rfl rfl rfl rfl rfl rfl hr.r2⟩

theorem R_48 (fu : Nat) (C : Nat → Nat → Int32) (E : Nat → Int64) (M : Nat → Nat → Int32) (ML : Nat → Int64) (MR : Nat → Nat → Int64) (MV : Nat → Int64) (MY : Nat → Nat → Int32) (h : Rel fu C E M ML MR MV MY) (v1 : Int32) : ∃ (oX : Int32 × ((Nat → Int32) × (Nat → Int32))) (oM : Int32 × ((Nat → Int32) × (Nat → Int32))), m_X5_days fu (C 0) (C 1) (C 19) v1 = some oX ∧ m_X6_days fu (M 0) ML (M 16) v1 = some oM ∧ oX.1 = oM.1 ∧ Rel fu (upC (upC C 1 oX.2.1) 19 oX.2.2) E (upC (upC M 0 oM.2.1) 16 oM.2.2) ML MR MV MY := by
  obtain ⟨hf, ⟨d, r, y, w, q, n, ks, as, ps, hS, hH⟩, hT, hr⟩ := id h
  obtain ⟨hn1, hn2, hn8⟩ := hS.2.2.2.2.2.2.1
  unfold m_X5_days m_X6_days
  simp only [s_isWithin, s_i (x := v1) (A := 1) (B := 60) (a := 1) (b := 60) rfl rfl, Option.bind_some]
  by_cases c1 : 1 ≤ v1 ∧ v1 ≤ 60
  · obtain ⟨e, he, rfl⟩ := i_rng (m := 60) (by decide) ⟨i_tr (by decide) c1.1, c1.2⟩
    rw [bI_t c1, if_neg n10, if_neg n10]
    obtain ⟨a, b, g1, g2, g3, g4, g5, dd, yy, g6, g7⟩ := lf2 (b_X5_days_19 fu (C 0)) (b_X6_days_21 fu ML) (fun i x y' => x.1 = nI e ∧ x.2.1 = nI i ∧ x.2.2.2 = C 19 ∧ y'.1 = nI e ∧ y'.2.1 = nI i ∧ y'.2.2.2 = M 16 ∧ ∃ dd yy, RS dd r yy w q n ks as ps x.2.2.1 (C 2) (C 3) (C 4) y'.2.2.1 (M 17) (M 18) (M 19) ∧ y'.2.2.1 7 = M 0 7) e (fun o o' => ∃ a b, o = some a ∧ o' = some b ∧ a.1 = b.1 ∧ a.2.2 = C 19 ∧ b.2.2 = M 16 ∧ ∃ dd yy, RS dd r yy w q n ks as ps a.2.1 (C 2) (C 3) (C 4) b.2.1 (M 17) (M 18) (M 19) ∧ b.2.1 7 = M 0 7)
      (by
        rintro i ⟨x1, x2, x3, x4⟩ ⟨y1, y2, y3, y4⟩ k k' hi ⟨f1, f2, f3, f4, f5, f6, dd, yy, f7, f8⟩
        dsimp only at f1 f2 f3 f4 f5 f6 f7 f8
        subst f1 f2 f3 f4 f5 f6
        left
        obtain ⟨now', m', p1, p2, p3, p4⟩ := f7.pass (fu := fu) ML
        unfold b_X5_days_19 b_X6_days_21
        dsimp only
        rw [if_neg (nI_ge hi (by omega)), if_neg (nI_ge hi (by omega)), p1, p2, Option.bind_some, Option.bind_some, nI_1]
        exact ⟨(nI e, nI (i + 1), now', C 19), (nI e, nI (i + 1), m', M 16), ⟨rfl, rfl, rfl, rfl, rfl, rfl, _, _, p3, (p4 7 (by decide) (by decide)).trans f8⟩, rfl, rfl⟩)
      (by
        rintro ⟨x1, x2, x3, x4⟩ ⟨y1, y2, y3, y4⟩ k k' ⟨f1, f2, f3, f4, f5, f6, dd, yy, f7, f8⟩
        dsimp only at f1 f2 f3 f4 f5 f6 f7 f8
        subst f1 f2 f3 f4 f5 f6
        unfold b_X5_days_19 b_X6_days_21
        dsimp only
        rw [if_pos (nI_le (Nat.le_refl _) (by omega)), if_pos (nI_le (Nat.le_refl _) (by omega))]
        exact ⟨_, _, rfl, rfl, f7.1.1.trans f7.1.2.1.symm, rfl, rfl, _, _, f7, f8⟩) fu 0 (nI e, (0 : Int32), C 1, C 19) (nI e, (0 : Int32), M 0, M 16) (Nat.zero_le _) (by omega) ⟨rfl, rfl, rfl, rfl, rfl, rfl, d, y, hS, rfl⟩
    obtain ⟨z, z1, z2, z3, z4⟩ := hT
    exact ⟨a, b, g1, g2, g3, hf, ⟨dd, r, yy, w, q, n, ks, as, ps, g6, hH⟩, ⟨z, z1, z2, g7.trans z3, z4⟩, by show RR a.2.2 b.2.2; rw [g4, g5]; exact hr⟩
  · rw [bI_f c1, if_pos p00, if_pos p00]
    rw [(s_ref fu _ _).1.1, (s_mref fu _ _ _).1.1, Option.bind_some, Option.bind_some]; exact ⟨_, _, rfl, rfl, rfl, h.go rfl rfl rfl rfl rfl rfl rfl rfl rfl (fun _ _ => rfl) rfl rfl rfl rfl rfl rfl rfl rfl hr.r2⟩

theorem R_53 (fu : Nat) (C : Nat → Nat → Int32) (E : Nat → Int64) (M : Nat → Nat → Int32) (ML : Nat → Int64) (MR : Nat → Nat → Int64) (MV : Nat → Int64) (MY : Nat → Nat → Int32) (h : Rel fu C E M ML MR MV MY) (v1 : Int32) : ∃ (oX : Int32 × Unit) (oM : Int32 × Unit), m_X5_status fu (C 0) (C 1) (C 14) (C 17) (C 19) v1 = some oX ∧ m_X6_status fu (M 0) ML (M 1) (M 16) v1 = some oM ∧ oX.1 = oM.1 ∧ Rel fu C E M ML MR MV MY := by
  obtain ⟨hf, ⟨d, r, y, w, q, n, ks, as, ps, hS, hH⟩, hT, hr⟩ := id h
  obtain ⟨hn1, hn2, hn8⟩ := hS.2.2.2.2.2.2.1
  obtain ⟨a1, a2, a3, a4, a5, a6, a7, a8⟩ := id hS
  obtain ⟨z, z1, z2, z3, z4⟩ := id hT
  unfold m_X5_status m_X6_status b_X6_status_170
  simp only [s_isWithin, s_i (x := v1) (A := 12) (B := 16) (a := 12) (b := 16) rfl rfl, Option.bind_some]
  by_cases c1 : 12 ≤ v1 ∧ v1 ≤ 16
  · obtain ⟨j, hj, rfl⟩ := i_rng (m := 16) (by decide) ⟨i_tr (by decide) c1.1, c1.2⟩
    have h12 : 12 ≤ j := (nI_le_iff (a := 12) (by decide) (by omega)).mp c1.1
    rw [bI_t c1, if_neg n10, show nI j - (12 : Int32) = nI (j - 12) from by rw [show (12 : Int32) = nI 12 from rfl, pk_sub h12], show nI j - (10 : Int32) = nI (j - 10) from by rw [show (10 : Int32) = nI 10 from rfl, pk_sub (by omega)], gd_t (inb_n (by omega) (by decide)), nI_clamp (by omega)]
    rw [if_neg (show ¬ nI j = (0 : Int32) from fun e => by have := (nI_eq (b := 0) (by omega) (by decide)).mp e; omega)]
    rw [if_neg (show ¬ nI j = (1 : Int32) from fun e => by have := (nI_eq (b := 1) (by omega) (by decide)).mp e; omega)]
    rw [if_neg (show ¬ nI j = (2 : Int32) from fun e => by have := (nI_eq (b := 2) (by omega) (by decide)).mp e; omega)]
    rw [if_neg (show ¬ nI j = (3 : Int32) from fun e => by have := (nI_eq (b := 3) (by omega) (by decide)).mp e; omega)]
    rw [if_neg (show ¬ nI j = (4 : Int32) from fun e => by have := (nI_eq (b := 4) (by omega) (by decide)).mp e; omega)]
    rw [if_neg (show ¬ nI j = (5 : Int32) from fun e => by have := (nI_eq (b := 5) (by omega) (by decide)).mp e; omega)]
    rw [if_neg (show ¬ nI j = (6 : Int32) from fun e => by have := (nI_eq (b := 6) (by omega) (by decide)).mp e; omega)]
    rw [if_neg (show ¬ nI j = (7 : Int32) from fun e => by have := (nI_eq (b := 7) (by omega) (by decide)).mp e; omega)]
    rw [if_neg (show ¬ nI j = (8 : Int32) from fun e => by have := (nI_eq (b := 8) (by omega) (by decide)).mp e; omega)]
    rw [if_neg (show ¬ nI j = (9 : Int32) from fun e => by have := (nI_eq (b := 9) (by omega) (by decide)).mp e; omega)]
    rw [if_neg (show ¬ nI j = (10 : Int32) from fun e => by have := (nI_eq (b := 10) (by omega) (by decide)).mp e; omega)]
    rw [if_neg n10, gd_t (inb_n (by omega) (by decide)), nI_clamp (by omega)]
    refine ⟨_, _, rfl, rfl, ?_, h⟩
    show C 19 (j - 12) = M 16 (j - 10)
    rw [hr (j - 12) (by omega), show j - 12 + 2 = j - 10 by omega]
  · rw [bI_f c1, if_pos p00]
    by_cases w0 : v1 = 0
    · rw [if_pos w0, if_pos w0]
      exact ⟨_, _, rfl, rfl, hn1.trans hn2.symm, h⟩
    rw [if_neg w0, if_neg w0]
    by_cases w1 : v1 = 1
    · rw [if_pos w1, if_pos w1]
      exact ⟨_, _, rfl, rfl, a1.1.trans a1.2.1.symm, h⟩
    rw [if_neg w1, if_neg w1]
    by_cases w2 : v1 = 2
    · rw [if_pos w2, if_pos w2]
      exact ⟨_, _, rfl, rfl, a2.1.trans a2.2.1.symm, h⟩
    rw [if_neg w2, if_neg w2]
    by_cases w3 : v1 = 3
    · rw [if_pos w3, if_pos w3]
      exact ⟨_, _, rfl, rfl, a3.1.trans a3.2.1.symm, h⟩
    rw [if_neg w3, if_neg w3]
    by_cases w4 : v1 = 4
    · rw [if_pos w4, if_pos w4]
      exact ⟨_, _, rfl, rfl, a4.1.trans a4.2.1.symm, h⟩
    rw [if_neg w4, if_neg w4]
    by_cases w5 : v1 = 5
    · rw [if_pos w5, if_pos w5]
      exact ⟨_, _, rfl, rfl, a5.1.trans a5.2.1.symm, h⟩
    rw [if_neg w5, if_neg w5]
    by_cases w6 : v1 = 6
    · rw [if_pos w6, if_pos w6]
      exact ⟨_, _, rfl, rfl, a6.1, h⟩
    rw [if_neg w6, if_neg w6]
    by_cases w7 : v1 = 7
    · rw [if_pos w7, if_pos w7]
      exact ⟨_, _, rfl, rfl, a6.2.1, h⟩
    rw [if_neg w7, if_neg w7]
    by_cases w8 : v1 = 8
    · rw [if_pos w8, if_pos w8]
      exact ⟨_, _, rfl, rfl, z2.trans z3.symm, h⟩
    rw [if_neg w8, if_neg w8]
    by_cases w9 : v1 = 9
    · rw [if_pos w9, if_pos w9]
      exact ⟨_, _, rfl, rfl, a6.2.2, h⟩
    rw [if_neg w9, if_neg w9]
    by_cases w10 : v1 = 10
    · rw [if_pos w10, if_pos w10]
      obtain ⟨a, b, g1, g2, g3⟩ := lf2 (b_X0_countHolding_4 fu (C 14)) (b_X6_status_112 fu (M 0) ML (M 1) (M 16)) (fun i x y => x.1 = y.1 ∧ x.2 = nI i ∧ y.2 = nI i) 8 (fun o o' => ∃ a b, o = some a ∧ o' = some b ∧ a.1 = b.1)
        (by
          rintro i ⟨x1, x2⟩ ⟨y1, y2⟩ k k' hi ⟨f1, f2, f3⟩
          dsimp only at f1 f2 f3
          subst f1 f2 f3
          left
          unfold b_X0_countHolding_4 b_X6_status_112 b_X0_countHolding_23 b_X6_status_133
          dsimp only
          rw [if_neg (show ¬ (8 : Int32) ≤ nI i from nI_ge (b := 8) hi (by decide)), if_neg (show ¬ (8 : Int32) ≤ nI i from nI_ge (b := 8) hi (by decide))]
          simp only [gd_t (ib8 hi), cl8 hi, nI_1]
          rcases hH i hi with ⟨q1, q2, q3⟩ | ⟨t, zz, ht, hz, b1, b2, b3, b4, b5, b6⟩ | ⟨v, hv, k1, k2, k3, k4⟩
          · rw [if_pos q1, if_pos q3, Int32.add_zero]
            exact ⟨(x1, nI (i + 1)), (x1, nI (i + 1)), ⟨rfl, rfl, rfl⟩, rfl, rfl⟩
          · rw [if_neg (by rw [b1]; exact (k_row ht).2), if_neg (by rw [b3]; decide)]
            exact ⟨(x1 + 1, nI (i + 1)), (x1 + 1, nI (i + 1)), ⟨rfl, rfl, rfl⟩, rfl, rfl⟩
          · rw [if_neg (by rw [k1]; exact (k_voice (by omega)).2), if_neg (by rw [k3]; decide)]
            exact ⟨(x1 + 1, nI (i + 1)), (x1 + 1, nI (i + 1)), ⟨rfl, rfl, rfl⟩, rfl, rfl⟩)
        (by
          rintro ⟨x1, x2⟩ ⟨y1, y2⟩ k k' ⟨f1, f2, f3⟩
          dsimp only at f1 f2 f3
          subst f1 f2 f3
          unfold b_X0_countHolding_4 b_X6_status_112
          dsimp only
          rw [if_pos (show (8 : Int32) ≤ nI 8 by decide), if_pos (show (8 : Int32) ≤ nI 8 by decide)]
          exact ⟨_, _, rfl, rfl, rfl⟩) fu 0 ((0 : Int32), (0 : Int32)) ((0 : Int32), (0 : Int32)) (Nat.zero_le _) (by omega) ⟨rfl, rfl, rfl⟩
      rw [show m_X0_countHolding fu (C 14) = some a from g1, Option.bind_some, g2]
      exact ⟨_, _, rfl, rfl, g3, h⟩
    rw [if_neg w10, if_neg w10, if_pos p00]
    exact ⟨_, _, rfl, rfl, rfl, h⟩
