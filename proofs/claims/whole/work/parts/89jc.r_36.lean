theorem R_36 (fu : Nat) (C : Nat → Nat → Int32) (E : Nat → Int64) (M : Nat → Nat → Int32) (ML : Nat → Int64) (MR : Nat → Nat → Int64) (MV : Nat → Int64) (MY : Nat → Nat → Int32) (h : Rel fu C E M ML MR MV MY) (v1 : Int32) (v2 : Int32) : ∃ (oX : Int32 × ((Nat → Int32) × (Nat → Int32) × (Nat → Int32) × (Nat → Int32) × (Nat → Int32))) (oM : Int32 × ((Nat → Int32) × (Nat → Int32) × (Nat → Int32) × (Nat → Int32))), m_X5_fairest fu (C 0) (C 1) (C 2) (C 4) (C 14) (C 15) E (C 19) (C 20) (C 21) (C 24) (C 25) v1 v2 = some oX ∧ m_X6_fairest fu (M 0) ML (M 1) (M 3) MR (M 16) (M 17) (M 19) (M 21) (M 22) v1 v2 = some oM ∧ oX.1 = oM.1 ∧ Rel fu (upC (upC (upC (upC (upC C 19 oX.2.1) 20 oX.2.2.1) 21 oX.2.2.2.1) 24 oX.2.2.2.2.1) 25 oX.2.2.2.2.2) E (upC (upC (upC (upC M 0 oM.2.1) 16 oM.2.2.1) 21 oM.2.2.2.1) 22 oM.2.2.2.2) ML MR MV MY := by
  obtain ⟨hf, ⟨d, r, y, w, q, n, ks, as, ps, hS, hH⟩, hT, hr⟩ := id h
  obtain ⟨hn1, hn2, hn8⟩ := hS.2.2.2.2.2.2.1
  unfold m_X5_fairest m_X6_fairest b_X6_fairest_46
  obtain ⟨c, r1, t1, s1, m1, r1', w1, h1, h2, h3, h4, h5⟩ := R_word h hS hH v1 v2 1 12 1 (fun e => ⟨fun q => ⟨e.2, q⟩, fun q => q.2⟩) (by decide)
  rw [h1, h2, Option.bind_some, Option.bind_some, Option.bind_some]
  dsimp only
  rcases h5 with c0 | ⟨c0, ok, s', l, g1, g2, g3, g4, g5, g6⟩
  · rw [if_neg c0, if_neg c0]
    exact ⟨_, _, rfl, rfl, rfl, h.go rfl rfl rfl rfl rfl rfl rfl rfl rfl (m21 h3) rfl rfl rfl rfl rfl rfl rfl rfl (h4)⟩
  · rw [if_pos c0, if_pos c0]
    subst c0
    obtain ⟨hw1, hw2, hw3, hw4⟩ := hS.2.2.2.1
    obtain ⟨hq1, hq2, hq3⟩ := hS.2.2.2.2.1
    have mw : m1 12 = nI w := (h3 12 (by decide)).trans hw2
    have mq : m1 13 = nI q := (h3 13 (by decide)).trans hq2
    obtain ⟨s0, hs0, hs2, b1, b2⟩ : ∃ s0 : Nat, s0 ≤ 9 ∧ 2 ≤ s0 ∧ (if (2 : Int32) < C 1 4 + 1 then C 1 4 + 1 else 2) = nI s0 ∧ (if (2 : Int32) ≤ m1 13 then m1 13 + 1 else 2) = nI s0 := by
      rw [hq1, mq, nI_1]
      by_cases c : 2 ≤ q
      · rw [if_pos (show (2 : Int32) < nI (q + 1) from nI_lt (a := 2) (by omega) (by omega)), if_pos (show (2 : Int32) ≤ nI q from nI_le (a := 2) c (by omega))]
        exact ⟨q + 1, by omega, by omega, rfl, rfl⟩
      · rw [if_neg (show ¬ (2 : Int32) < nI (q + 1) from nI_nlt (a := 2) (by omega) (by decide)), if_neg (show ¬ (2 : Int32) ≤ nI q from nI_ge (b := 2) (by omega) (by decide))]
        exact ⟨2, by omega, by omega, rfl, rfl⟩
    rw [b1]
    have b3 : ∀ (X : Int32 → Option (Int32 × ((Nat → Int32) × (Nat → Int32) × (Nat → Int32) × (Nat → Int32)))), (if (2 : Int32) ≤ m1 13 then X (m1 13 + 1) else X 2) = X (nI s0) := fun X => by
      rw [← b2]
      by_cases c : (2 : Int32) ≤ m1 13
      · rw [if_pos c, if_pos c]
      · rw [if_neg c, if_neg c]
    rw [b3 (fun z => lfix (b_X6_fairest_48 fu ML (M 1) (M 3) MR (M 17) (M 19)) fu (m1 12, (-1 : Int32), (-1 : Int32), z, m1, r1', w1, M 22)), mw]
    obtain ⟨a, b, f1, f2, f3, f4, f5, f6⟩ := lf2 (b_X5_fairest_35 fu (C 0) (C 1) (C 2) (C 4) (C 14) (C 15) E) (b_X6_fairest_48 fu ML (M 1) (M 3) MR (M 17) (M 19)) (fun i x x' => x.1 = x'.2.1 ∧ x.2.1 = x'.2.2.1 ∧ x.2.2.1 = nI i ∧ x.2.2.2.1 = r1 ∧ x.2.2.2.2.2.2.1 = t1 ∧ x.2.2.2.2.2.2.2 = s1 ∧ x'.1 = nI w ∧ x'.2.2.2.1 = nI i ∧ x'.2.2.2.2.2.1 = r1' ∧ x'.2.2.2.2.2.2.1 = w1 ∧ (∀ j, j ≠ 12 → j ≠ 33 → x'.2.2.2.2.1 j = m1 j) ∧ 2 ≤ i) 10 (fun o o' => ∃ a b, o = some a ∧ o' = some b ∧ a.1 = b.1 ∧ a.2.1 = r1 ∧ b.2.2.1 = r1' ∧ SM m1 b.2.1)
      (by
        rintro i ⟨x1, x2, x3, x4, x5, x6, x7, x8⟩ ⟨y1, y2, y3, y4, y5, y6, y7, y8⟩ k k' hi ⟨u1, u2, u3, u4, u5, u6, u7, u8, u9, u10, u11, ci⟩
        dsimp only at u1 u2 u3 u4 u5 u6 u7 u8 u9 u10 u11
        subst u1 u2 u3 u4 u5 u6 u7 u8 u9 u10
        have T : ∀ v, v < n → MT (upd y5 12 (nI i)) (M 17) (M 19) v (ks v) (ps v) d y i q := fun v hv => by
          obtain ⟨b0, b1, b2, b3, b4, b5, b6, b7, b8, b9, b10, b11, b12, b13⟩ := s_MT (m' := m1) (v := v) hS (m21 h3) (by omega)
          exact ⟨b0, b1, b2, (pk_un (by decide)).trans ((u11 9 (by decide) (by decide)).trans b3), (pk_un (by decide)).trans ((u11 11 (by decide) (by decide)).trans b4), pk_us, (pk_un (by decide)).trans ((u11 13 (by decide) (by decide)).trans b6), b7, b8, b9, b10, ci, by omega, b13⟩
        obtain ⟨t2, h2', a1⟩ := s_voicesOfYes (fu := fu) (t := C 0) (tr := x5) (th := x6) (dd := d) (ww := i) hf hS g4 hS.1.2.2 ci (by omega)
        obtain ⟨m2, mh, a2, a3⟩ := s_yesBits (fu := fu) (mL := ML) (h := y8) (n := n) (m := upd y5 12 (nI i)) (mw := y7) (l := l) hf ((pk_un (by decide)).trans ((u11 16 (by decide) (by decide)).trans ((h3 16 (by decide)).trans hn2))) hn8 T ⟨(pk_un (by decide)).trans ((u11 31 (by decide) (by decide)).trans g5.1), g5.2⟩
        left
        unfold b_X5_fairest_35 b_X6_fairest_48 b_X5_fairest_75 b_X6_fairest_84 b_X6_fairest_100
        dsimp only
        have hd := hS.1.1
        rw [if_neg (show ¬ (9 : Int32) < nI i from nI_nlt (a := 9) (by omega) (by decide)), if_neg (show ¬ (9 : Int32) < nI i from nI_nlt (a := 9) (by omega) (by decide)), hd, a1, a2, Option.bind_some, Option.bind_some]
        dsimp only
        rw [s_bitc hn8, s_bitm hf hn8, Option.bind_some, Option.bind_some, nI_1]
        dsimp only
        have hk : ∀ j, j ≠ 12 → j ≠ 33 → m2 j = m1 j := fun j j1 j2 => (a3 j j2).trans ((pk_un j1).trans (u11 j j1 j2))
        by_cases cc : nI (cnt (yb ks ps d y i q l) n) ≤ x2
        · rw [if_pos cc, if_pos cc, if_pos cc]
          exact ⟨(_, _, _, _, _, _, _, _), (_, _, _, _, _, _, _, _), ⟨rfl, rfl, rfl, rfl, rfl, rfl, rfl, rfl, rfl, rfl, hk, by omega⟩, rfl, rfl⟩
        · rw [if_neg cc, if_neg cc, if_neg cc]
          exact ⟨(_, _, _, _, _, _, _, _), (_, _, _, _, _, _, _, _), ⟨rfl, rfl, rfl, rfl, rfl, rfl, rfl, rfl, rfl, rfl, hk, by omega⟩, rfl, rfl⟩)
      (by
        rintro ⟨x1, x2, x3, x4, x5, x6, x7, x8⟩ ⟨y1, y2, y3, y4, y5, y6, y7, y8⟩ k k' ⟨u1, u2, u3, u4, u5, u6, u7, u8, u9, u10, u11, -⟩
        dsimp only at u1 u2 u3 u4 u5 u6 u7 u8 u9 u10 u11
        subst u1 u2 u3 u4 u5 u6 u7 u8 u9 u10
        unfold b_X5_fairest_35 b_X6_fairest_48
        dsimp only
        rw [if_pos (show (9 : Int32) < nI 10 by decide), if_pos (show (9 : Int32) < nI 10 by decide)]
        refine ⟨_, _, rfl, rfl, rfl, rfl, rfl, fun j hj => ?_⟩
        show upd y5 12 (nI w) j = m1 j
        by_cases c : j = 12
        · subst c; exact pk_us.trans mw.symm
        · exact (pk_un c).trans (u11 j c hj)) fu s0 ((-1 : Int32), (-1 : Int32), nI s0, r1, C 20, C 21, t1, s1) (nI w, (-1 : Int32), (-1 : Int32), nI s0, m1, r1', w1, M 22) (by omega) (by omega) ⟨rfl, rfl, rfl, rfl, rfl, rfl, rfl, rfl, rfl, rfl, fun _ _ _ => rfl, hs2⟩
    exact ⟨a, b, f1, f2, f3, h.go rfl rfl rfl rfl rfl rfl rfl rfl rfl (m21s h3 f6) rfl rfl rfl rfl rfl rfl rfl rfl (by show RR a.2.1 b.2.2.1; rw [f4, f5]; exact h4)⟩
