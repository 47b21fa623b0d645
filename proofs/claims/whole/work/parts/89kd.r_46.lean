theorem R_46 (fu : Nat) (C : Nat → Nat → Int32) (E : Nat → Int64) (M : Nat → Nat → Int32) (ML : Nat → Int64) (MR : Nat → Nat → Int64) (MV : Nat → Int64) (MY : Nat → Nat → Int32) (h : Rel fu C E M ML MR MV MY) (v1 : Int32) (v2 : Int32) (v3 : Int32) (v4 : Int32) : ∃ (oX : Int32 × ((Nat → Int32) × (Nat → Int32) × (Nat → Int32) × (Nat → Int32) × (Nat → Int32))) (oM : Int32 × ((Nat → Int32) × (Nat → Int32) × (Nat → Int32) × (Nat → Int32))), m_X5_judge fu (C 0) (C 1) (C 2) (C 4) (C 14) (C 15) E (C 19) (C 20) (C 21) (C 24) (C 25) v1 v2 v3 v4 = some oX ∧ m_X6_judge fu (M 0) ML (M 1) (M 3) MR (M 16) (M 17) (M 19) (M 21) (M 22) v1 v2 v3 v4 = some oM ∧ oX.1 = oM.1 ∧ Rel fu (upC (upC (upC (upC (upC C 19 oX.2.1) 20 oX.2.2.1) 21 oX.2.2.2.1) 24 oX.2.2.2.2.1) 25 oX.2.2.2.2.2) E (upC (upC (upC (upC M 0 oM.2.1) 16 oM.2.2.1) 21 oM.2.2.2.1) 22 oM.2.2.2.2) ML MR MV MY := by
  obtain ⟨hf, ⟨d, r, y, w, q, n, ks, as, ps, hS, hH⟩, hT, hr⟩ := id h
  obtain ⟨hn1, hn2, hn8⟩ := hS.2.2.2.2.2.2.1
  unfold m_X5_judge m_X6_judge
  rw [s_isWithin, Option.bind_some]
  dsimp only
  obtain ⟨c, r1, t1, s1, m1, r1', w1, h1, h2, h3, h4, h5⟩ := R_words h hS hH v1 v2 v3 ((2 : Int32) * v4) (bI (0 ≤ v4 ∧ v4 ≤ 20)) v4 20 2 1 ⟨fun e => ⟨Classical.byContradiction fun q => e (bI_f q), n10⟩, fun e => by rw [bI_t e.1]; exact n10⟩ (fun e => by
    obtain ⟨a, ha, rfl⟩ := i_rng (m := 20) (by decide) (Classical.byContradiction fun q => e (bI_f q))
    exact ⟨2 * a, by omega, pk_mul 2 a, pk_mul 2 a⟩)
  rw [h1, h2, Option.bind_some, Option.bind_some]
  dsimp only
  rcases h5 with c0 | ⟨c0, ok, p', a, z, l, g1, g2, g4, g5, g6, g7, g8, g9, g10⟩
  · rw [if_neg c0, if_neg c0]
    exact ⟨_, _, rfl, rfl, rfl, h.go rfl rfl rfl rfl rfl rfl rfl rfl rfl (m21 h3) rfl rfl rfl rfl rfl rfl rfl rfl (h4)⟩
  · rw [if_pos c0, if_pos c0]
    subst c0 g2
    obtain ⟨e, he, rfl⟩ := i_rng (m := 20) (by decide) (Classical.byContradiction fun q => ok (bI_f q))
    have hae : a = 2 * e := by
      have e1 : nI (2 * e) = nI a := (pk_mul 2 e).symm.trans g6
      exact ((nI_eq (by omega) (by omega)).mp e1).symm
    subst hae
    have hm16 : m1 16 = nI n := (h3 16 (by decide)).trans hn2
    have hdec : ∀ i, Decidable (so n ks ps (MR p') d r y w q l i) := fun i => Classical.propDecidable _
    have A : ∃ tr th, lfix (b_X5_judge_32 fu (C 0) (C 1) (C 2) (C 4) (C 14) (C 15) E) fu (nI p', nI e, (0 : Int32), r1, C 20, C 21, t1, s1) = some (ff (fun i => decide (¬ so n ks ps (MR p') d r y w q l i)) e 0, (r1, tr, th, t1, s1)) := by
      refine lf (b_X5_judge_32 fu (C 0) (C 1) (C 2) (C 4) (C 14) (C 15) E) (fun i x => x.1 = nI p' ∧ x.2.1 = nI e ∧ x.2.2.1 = nI i ∧ x.2.2.2.1 = r1 ∧ x.2.2.2.2.2.2.1 = t1 ∧ x.2.2.2.2.2.2.2 = s1 ∧ ff (fun i => decide (¬ so n ks ps (MR p') d r y w q l i)) e 0 = ff (fun i => decide (¬ so n ks ps (MR p') d r y w q l i)) (e - i) i) e (fun o => ∃ tr th, o = some (ff (fun i => decide (¬ so n ks ps (MR p') d r y w q l i)) e 0, (r1, tr, th, t1, s1))) ?_ ?_ fu 0 _ (Nat.zero_le _) (by omega) ⟨rfl, rfl, rfl, rfl, rfl, rfl, rfl⟩
      · rintro i ⟨x1, x2, x3, x4, x5, x6, x7, x8⟩ k hi ⟨u1, u2, u3, u4, u5, u6, u7⟩
        dsimp only at u1 u2 u3 u4 u5 u6 u7
        subst u1 u2 u3 u4 u5 u6
        have a1 : m_X0_elementAt fu (C 15) E (nI p') ((2 : Int32) * nI i) = some (MR p' (2 * i), ()) := by
          rw [show (2 : Int32) * nI i = nI (2 * i) from pk_mul 2 i, s_elementAt g1 g7 g8 (by omega), g10 _ (by omega)]
        have a2 : m_X0_elementAt fu (C 15) E (nI p') ((2 : Int32) * nI i + 1) = some (MR p' (2 * i + 1), ()) := by
          rw [show (2 : Int32) * nI i = nI (2 * i) from pk_mul 2 i, nI_1, s_elementAt g1 g7 g8 (by omega), g10 _ (by omega)]
        have hS1 : ∃ t2 h2, m_X5_isSo fu (C 0) (C 1) (C 2) (C 4) (C 15) E x5 x6 x7 x8 (nI p') (nI i) = some (if so n ks ps (MR p') d r y w q l i then 1 else 0, (t2, h2)) := by
          unfold m_X5_isSo b_X5_isSo_31 b_X5_isSo_88
          rw [a1, Option.bind_some, hn1]
          dsimp only
          by_cases c1 : MR p' (2 * i) < 0
          · rw [if_pos ((lg_neg _ _).mpr c1), if_neg (fun q => by have := q.1.1; rw [l_le] at this; rw [l_lt] at c1; omega)]
            exact ⟨_, _, rfl⟩
          · rw [if_neg (fun q => c1 ((lg_neg _ _).mp q)), nI_l (by omega)]
            by_cases c2 : MR p' (2 * i) < lN n
            · rw [if_pos ((lg_neg _ _).mpr c2)]
              have c3 : 0 ≤ MR p' (2 * i) ∧ MR p' (2 * i) < lN n := ⟨by rw [l_le]; rw [l_lt] at c1; omega, c2⟩
              obtain ⟨u, hu, q1, q2, q3⟩ := v_of hn8 c3
              obtain ⟨t', b1, b2, -⟩ := s_standsFor (fu := fu) (t := x5) (v := u) hS (by omega)
              obtain ⟨t2, b3, b4⟩ := s_passDays (fu := fu) (n := i) hf (by omega) b2
              obtain ⟨t3, h3', b5, b6⟩ := s_weighs (fu := fu) (h := x6) hf b4 g4
              rw [q3, b1, Option.bind_some, b3, Option.bind_some, b5, Option.bind_some]
              dsimp only
              rw [a2, Option.bind_some]
              dsimp only
              by_cases c4 : (wg (ks u) (pt (ks u) (ps u) (ity y i)) (itd r d i) w q l).toInt64 = MR p' (2 * i + 1)
              · rw [if_pos ((lg_zero _ _).mpr c4), gd_t (Or.inr rfl), if_pos ⟨c3, by rw [q2]; exact c4⟩]
                exact ⟨_, _, rfl⟩
              · rw [if_neg (fun q => c4 ((lg_zero _ _).mp q)), gd_t (Or.inl rfl), if_neg (fun q => c4 (by have := q.2; rw [q2] at this; exact this))]
                exact ⟨_, _, rfl⟩
            · rw [if_neg (fun q => c2 ((lg_neg _ _).mp q)), if_neg (fun q => c2 q.1.2)]
              exact ⟨_, _, rfl⟩
        obtain ⟨t2, h2', a3⟩ := hS1
        unfold b_X5_judge_32
        dsimp only
        rw [if_neg (nI_ge hi (by omega)), a3, Option.bind_some, u7, show e - i = (e - (i + 1)) + 1 by omega]
        dsimp only
        by_cases c : so n ks ps (MR p') d r y w q l i
        · rw [if_pos c, if_neg n10, ff_f (P := fun i => decide (¬ so n ks ps (MR p') d r y w q l i)) (fun q => of_decide_eq_true q c), nI_1]
          exact Or.inl ⟨(_, _, _, _, _, _, _, _), ⟨rfl, rfl, rfl, rfl, rfl, rfl, rfl⟩, rfl⟩
        · rw [if_neg c, if_pos p00, ff_t (P := fun i => decide (¬ so n ks ps (MR p') d r y w q l i)) (decide_eq_true c)]
          exact Or.inr ⟨_, _, rfl⟩
      · rintro ⟨x1, x2, x3, x4, x5, x6, x7, x8⟩ k ⟨u1, u2, u3, u4, u5, u6, u7⟩
        dsimp only at u1 u2 u3 u4 u5 u6 u7
        subst u1 u2 u3 u4 u5 u6
        unfold b_X5_judge_32
        dsimp only
        rw [if_pos (nI_le (Nat.le_refl _) (by omega)), u7, Nat.sub_self]
        exact ⟨x5, x6, rfl⟩
    have B : ∃ m' h', lfix (b_X6_judge_33 fu ML (M 1) (M 3) MR (M 17) (M 19)) fu (nI p', nI e, (-1 : Int32), (0 : Int32), upd (upd (upd m1 35 (m1 9)) 36 (m1 11)) 37 (m1 10), r1', w1, M 22) = some (ff (fun i => decide (¬ so n ks ps (MR p') d r y w q l i)) e 0, (m', r1', w1, h')) ∧ ∀ j, j < 35 → j ≠ 33 → m' j = m1 j := by
      have e3 : ∀ v, v < n → MT m1 (M 17) (M 19) v (ks v) (ps v) d y w q := fun v hv => s_MT (m' := m1) (v := v) hS (m21 h3) (by omega)
      have k0 : MD m1 (upd (upd (upd m1 35 (m1 9)) 36 (m1 11)) 37 (m1 10)) d r y := ⟨KP.keeps, ⟨(h3 9 (by decide)).trans hS.1.2.1, hS.1.2.2⟩, ⟨(h3 10 (by decide)).trans hS.2.1.2.1, hS.2.1.2.2⟩, (h3 11 (by decide)).trans hS.2.2.1.2.1, hS.2.2.1.2.2⟩
      refine lf (b_X6_judge_33 fu ML (M 1) (M 3) MR (M 17) (M 19)) (fun i x => x.1 = nI p' ∧ x.2.1 = nI e ∧ x.2.2.2.1 = nI i ∧ x.2.2.2.2.2.1 = r1' ∧ x.2.2.2.2.2.2.1 = w1 ∧ MD m1 x.2.2.2.2.1 (itd r d i) r (ity y i) ∧ ((x.2.2.1 = -1 ∧ ff (fun i => decide (¬ so n ks ps (MR p') d r y w q l i)) e 0 = ff (fun i => decide (¬ so n ks ps (MR p') d r y w q l i)) (e - i) i) ∨ (¬ x.2.2.1 = -1 ∧ x.2.2.1 = ff (fun i => decide (¬ so n ks ps (MR p') d r y w q l i)) e 0))) e (fun o => ∃ m' h', o = some (ff (fun i => decide (¬ so n ks ps (MR p') d r y w q l i)) e 0, (m', r1', w1, h')) ∧ ∀ j, j < 35 → j ≠ 33 → m' j = m1 j) ?_ ?_ fu 0 _ (Nat.zero_le _) (by omega) ⟨rfl, rfl, rfl, rfl, rfl, k0, Or.inl ⟨rfl, rfl⟩⟩
      · rintro i ⟨x1, x2, x3, x4, x5, x6, x7, x8⟩ k hi ⟨u1, u2, u3, u4, u5, u6, u7⟩
        dsimp only at u1 u2 u3 u4 u5 u6 u7
        subst u1 u2 u3 u4 u5
        rcases u7 with ⟨u7, u8⟩ | ⟨u7, u8⟩
        · subst u7
          left
          have i1 : inb (nI p') 8 := ib8 g1
          have i2 : inb (nI (2 * i)) 40 := inb_n (by omega) (by decide)
          have i3 : inb (nI (2 * i + 1)) 40 := inb_n (by omega) (by decide)
          have hgo : ∃ (m2 h2 : Nat → Int32) (b : Bool), SM x5 m2 ∧ (b = true ↔ so n ks ps (MR p') d r y w q l i) ∧ b_X6_judge_33 fu ML (M 1) (M 3) MR (M 17) (M 19) k (nI p', nI e, -1, nI i, x5, x6, x7, x8) = b_X6_judge_105 fu ML (M 1) (M 3) MR (M 17) (M 19) k (nI p') (nI e) (nI i) (if b = true then 1 else 0) m2 x6 x7 h2 := by
            unfold b_X6_judge_33 b_X6_judge_104
            dsimp only
            rw [if_neg (nI_ge hi (by omega)), if_pos rfl, show (2 : Int32) * nI i = nI (2 * i) from pk_mul 2 i, nI_1]
            simp only [gd_t i1, gd_t i2, gd_t i3, cl8 g1, nI_clamp (show 2 * i < 2 ^ 31 by omega), nI_clamp (show 2 * i + 1 < 2 ^ 31 by omega)]
            rw [s_in, Option.bind_some, u6.1.1 16 (by decide) (by decide) (by decide) (by decide) (by decide), hm16]
            dsimp only
            by_cases c1 : 0 ≤ MR p' (2 * i) ∧ MR p' (2 * i) ≤ (nI n - 1).toInt64
            · have c3 : 0 ≤ MR p' (2 * i) ∧ MR p' (2 * i) < lN n := ⟨c1.1, (v_lt hn8).mp c1.2⟩
              obtain ⟨u, hu, q1, q2, q3⟩ := v_of hn8 c3
              obtain ⟨m2, mh, b1, b2⟩ := s_weighedOf (fu := fu) (mL := ML) (h := x8) hf ((e3 u hu).md u6) (g5.kp u6.1)
              rw [bI_t c1, if_neg n10, q3, b1, Option.bind_some]
              dsimp only
              by_cases c4 : (wg (ks u) (pt (ks u) (ps u) (ity y i)) (itd r d i) w q l).toInt64 = MR p' (2 * i + 1)
              · rw [if_pos ((lg_zero _ _).mpr c4)]
                exact ⟨m2, mh, true, b2, ⟨fun _ => ⟨c3, by rw [q2]; exact c4⟩, fun _ => rfl⟩, rfl⟩
              · rw [if_neg (fun q => c4 ((lg_zero _ _).mp q))]
                exact ⟨m2, mh, false, b2, ⟨fun q => absurd q (by decide), fun q => absurd (by have := q.2; rw [q2] at this; exact this) c4⟩, rfl⟩
            · rw [bI_f c1, if_pos p00]
              exact ⟨x5, x8, false, SM.rf, ⟨fun q => absurd q (by decide), fun q => absurd ⟨q.1.1, (v_lt hn8).mpr q.1.2⟩ c1⟩, rfl⟩
          obtain ⟨m2, h2', b, a1, a2, a3⟩ := hgo
          obtain ⟨m3, b1, b2⟩ := (u6.sm a1).pass (fu := fu) (mL := ML)
          rw [a3]
          unfold b_X6_judge_105 b_X6_judge_118
          rw [b1, Option.bind_some, nI_1]
          rw [show e - i = (e - (i + 1)) + 1 by omega] at u8
          by_cases c : b = true
          · rw [if_pos c, if_neg n10]
            rw [ff_f (P := fun i => decide (¬ so n ks ps (MR p') d r y w q l i)) (fun q => of_decide_eq_true q (a2.mp c))] at u8
            exact ⟨(_, _, _, _, _, _, _, _), ⟨rfl, rfl, rfl, rfl, rfl, b2, Or.inl ⟨rfl, u8⟩⟩, rfl⟩
          · rw [if_neg c, if_pos p00]
            rw [ff_t (P := fun i => decide (¬ so n ks ps (MR p') d r y w q l i)) (decide_eq_true (fun q => c (a2.mpr q)))] at u8
            exact ⟨(_, _, _, _, _, _, _, _), ⟨rfl, rfl, rfl, rfl, rfl, b2, Or.inr ⟨nI_m1 (by omega), u8.symm⟩⟩, rfl⟩
        · right
          obtain ⟨m2, a1, a2, -⟩ := u6.1.back (fu := fu) (mL := ML)
          unfold b_X6_judge_33 b_X6_judge_130
          dsimp only
          rw [if_neg (nI_ge hi (by omega)), if_neg u7, a1, Option.bind_some, u8]
          exact ⟨_, _, rfl, a2⟩
      · rintro ⟨x1, x2, x3, x4, x5, x6, x7, x8⟩ k ⟨u1, u2, u3, u4, u5, u6, u7⟩
        dsimp only at u1 u2 u3 u4 u5 u6 u7
        subst u1 u2 u3 u4 u5
        obtain ⟨m2, a1, a2, -⟩ := u6.1.back (fu := fu) (mL := ML)
        unfold b_X6_judge_33 b_X6_judge_130
        dsimp only
        rw [if_pos (nI_le (Nat.le_refl _) (by omega)), a1, Option.bind_some]
        refine ⟨m2, x8, ?_, a2⟩
        rcases u7 with ⟨u7, u8⟩ | ⟨-, u8⟩
        · rw [u7, u8, Nat.sub_self]; rfl
        · rw [u8]
    obtain ⟨tr, th, A⟩ := A
    obtain ⟨m', h', B, B2⟩ := B
    rw [s_keeps, Option.bind_some, A, B]
    exact ⟨_, _, rfl, rfl, rfl, h.go rfl rfl rfl rfl rfl rfl rfl rfl rfl (fun j hj => (B2 j (by omega) (by omega)).trans (h3 j (by omega))) rfl rfl rfl rfl rfl rfl rfl rfl (h4)⟩
