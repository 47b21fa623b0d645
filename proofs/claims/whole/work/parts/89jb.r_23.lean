theorem R_23 (fu : Nat) (C : Nat → Nat → Int32) (E : Nat → Int64) (M : Nat → Nat → Int32) (ML : Nat → Int64) (MR : Nat → Nat → Int64) (MV : Nat → Int64) (MY : Nat → Nat → Int32) (h : Rel fu C E M ML MR MV MY) (v1 : Int32) (v2 : Int32) (v3 : Int32) (v4 : Int32) : ∃ (oX : Int32 × ((Nat → Int32) × (Nat → Int32) × (Nat → Int32) × (Nat → Int32) × (Nat → Int32))) (oM : Int32 × ((Nat → Int32) × (Nat → Int32) × (Nat → Int32) × (Nat → Int32))), m_X5_yeses fu (C 0) (C 1) (C 2) (C 4) (C 14) (C 15) E (C 19) (C 20) (C 21) (C 24) (C 25) v1 v2 v3 v4 = some oX ∧ m_X6_yeses fu (M 0) ML (M 1) (M 3) MR (M 16) (M 17) (M 19) (M 21) (M 22) v1 v2 v3 v4 = some oM ∧ oX.1 = oM.1 ∧ Rel fu (upC (upC (upC (upC (upC C 19 oX.2.1) 20 oX.2.2.1) 21 oX.2.2.2.1) 24 oX.2.2.2.2.1) 25 oX.2.2.2.2.2) E (upC (upC (upC (upC M 0 oM.2.1) 16 oM.2.2.1) 21 oM.2.2.2.1) 22 oM.2.2.2.2) ML MR MV MY := by
  obtain ⟨hf, ⟨d, r, y, w, q, n, ks, as, ps, hS, hH⟩, hT, hr⟩ := id h
  obtain ⟨hn1, hn2, hn8⟩ := hS.2.2.2.2.2.2.1
  unfold m_X5_yeses m_X6_yeses b_X5_yeses_25 b_X5_yeses_26 b_X6_yeses_28 b_X6_yeses_29
  simp only [s_isVoice, s_mVoice, s_isWithin, s_i (x := v4) (A := 0) (B := 1) (a := 0) (b := 1) rfl rfl, Option.bind_some, hn1, hn2]
  by_cases c1 : 0 ≤ v3 ∧ v3 ≤ nI n - 1
  · by_cases c2 : 0 ≤ v4 ∧ v4 ≤ 1
    · rw [bI_t c1, bI_t c2, if_neg n10, if_neg n10, if_neg n10, if_neg n10]
      obtain ⟨v, hv, rfl⟩ := v_ok hn8 c1
      have hv8 : v < 8 := by omega
      obtain ⟨e, he, rfl⟩ := i_rng (m := 1) (by decide) c2
      obtain ⟨c, r1, t1, s1, m1, r1', w1, h1, h2, h3, h4, h5⟩ := R_word h hS hH v1 v2 1 12 1 (fun e => ⟨fun q => ⟨e.2, q⟩, fun q => q.2⟩) (by decide)
      rw [h1, h2, Option.bind_some, Option.bind_some]
      dsimp only
      rcases h5 with c0 | ⟨c0, ok, s', l, g1, g2, g3, g4, g5, g6⟩
      · rw [if_neg c0, if_neg c0]
        exact ⟨_, _, rfl, rfl, rfl, h.go rfl rfl rfl rfl rfl rfl rfl rfl rfl (m21 h3) rfl rfl rfl rfl rfl rfl rfl rfl h4⟩
      rw [if_pos c0, if_pos c0]
      have e3 := s_MT (m' := m1) (v := v) hS (m21 h3) (by omega)
      obtain ⟨t', th', d', e1, -⟩ := s_depthsOfYes (fu := fu) (t := C 0) (tr := C 20) (th := C 21) (v := v) hf hS hv8 g4
      rw [e1, Option.bind_some]
      dsimp only
      rw [s_tellOf hf (by omega), Option.bind_some]
      have B : ∃ m' h', lfix (b_X6_yeses_57 fu ML (M 1) (M 3) MR (M 17) (M 19)) fu (nI v, nI e, (0 : Int32), (-1 : Int32), upd (upd (upd (upd m1 35 (m1 9)) 36 (m1 11)) 37 (m1 10)) 9 0, r1', w1, M 22) = some (tw (dys (ks v) (ps v) y w q l) e, (m', r1', w1, h')) ∧ ∀ j, j < 35 → j ≠ 33 → m' j = m1 j := by
        refine lf (b_X6_yeses_57 fu ML (M 1) (M 3) MR (M 17) (M 19)) (fun i x => x.1 = nI v ∧ x.2.1 = nI e ∧ x.2.2.1 = nI (cnt (dys (ks v) (ps v) y w q l) i) ∧ x.2.2.2.1 = fi (dys (ks v) (ps v) y w q l) i ∧ (KP m1 x.2.2.2.2.1 ∧ x.2.2.2.2.1 9 = nI i ∧ x.2.2.2.2.1 11 = m1 11) ∧ x.2.2.2.2.2.1 = r1' ∧ x.2.2.2.2.2.2.1 = w1) 41 (fun o => ∃ m' h', o = some (tw (dys (ks v) (ps v) y w q l) e, (m', r1', w1, h')) ∧ ∀ j, j < 35 → j ≠ 33 → m' j = m1 j) ?_ ?_ fu 0 _ (Nat.zero_le _) (by omega) ⟨rfl, rfl, rfl, rfl, ⟨KP.keeps.up (Or.inl rfl), rfl, rfl⟩, rfl, rfl⟩
        · rintro i ⟨x1, x2, x3, x4, x5, x6, x7, x8⟩ k hi ⟨u1, u2, u3, u4, ⟨k1, k2, k3⟩, u6, u7⟩
          dsimp only at u1 u2 u3 u4 k1 k2 k3 u6 u7
          subst u1 u2 u3 u4 u6 u7
          obtain ⟨m2, mh, a1, a2⟩ := s_gets (fu := fu) (mL := ML) (h := x8) hf (e3.at k1 k2 (by omega) k3) (g5.kp k1)
          have hm9 : m2 9 = nI i := (a2 9 (by decide)).trans k2
          have hK : KP m1 (upd m2 9 (nI (i + 1))) ∧ upd m2 9 (nI (i + 1)) 9 = nI (i + 1) ∧ upd m2 9 (nI (i + 1)) 11 = m1 11 := ⟨(k1.sm a2).up (Or.inl rfl), pk_us, (pk_un (by decide)).trans ((a2 11 (by decide)).trans k3)⟩
          left
          unfold b_X6_yeses_57 b_X6_yeses_85 b_X6_yeses_106 b_X6_yeses_108
          dsimp only
          rw [if_neg (show ¬ (40 : Int32) < x5 9 by rw [k2]; exact nI_nlt (a := 40) (by omega) (by decide)), a1, Option.bind_some]
          dsimp only
          rw [hm9, nI_1]
          by_cases c : wg (ks v) (pt (ks v) (ps v) y) i w q l = 1
          · have ct : dys (ks v) (ps v) y w q l i = true := decide_eq_true c
            rw [bI_t c, if_neg n10, if_neg n10]
            by_cases c3 : fi (dys (ks v) (ps v) y w q l) i = -1
            · rw [if_pos c3]
              exact ⟨(_, _, _, _, _, _, _, _), ⟨rfl, rfl, by rw [cnt_t ct]; exact nI_1 _, by rw [fi_s, if_pos ⟨c3, ct⟩], hK, rfl, rfl⟩, rfl⟩
            · rw [if_neg c3]
              exact ⟨(_, _, _, _, _, _, _, _), ⟨rfl, rfl, by rw [cnt_t ct]; exact nI_1 _, by rw [fi_s, if_neg (fun q => c3 q.1)], hK, rfl, rfl⟩, rfl⟩
          · have ct : ¬ dys (ks v) (ps v) y w q l i = true := fun e => c (of_decide_eq_true e)
            rw [bI_f c, if_pos p00, if_pos p00]
            exact ⟨(_, _, _, _, _, _, _, _), ⟨rfl, rfl, by rw [cnt_f ct]; exact nI_add _ 0, by rw [fi_s, if_neg (fun q => ct q.2)], hK, rfl, rfl⟩, rfl⟩
        · rintro ⟨x1, x2, x3, x4, x5, x6, x7, x8⟩ k ⟨u1, u2, u3, u4, ⟨k1, k2, k3⟩, u6, u7⟩
          dsimp only at u1 u2 u3 u4 k1 k2 k3 u6 u7
          subst u1 u2 u6 u7
          obtain ⟨m2, a1, a2, -⟩ := k1.back (fu := fu) (mL := ML)
          unfold b_X6_yeses_57 b_X6_yeses_139
          dsimp only
          rw [if_pos (show (40 : Int32) < x5 9 by rw [k2]; decide), a1, Option.bind_some]
          rcases (show e = 0 ∨ e = 1 by omega) with rfl | rfl
          · rw [if_pos (show nI 0 = 0 from rfl), u3, tw_0]
            exact ⟨_, _, rfl, a2⟩
          · rw [if_neg (show ¬ nI 1 = 0 by decide), u4, tw_1]
            exact ⟨_, _, rfl, a2⟩
      obtain ⟨m', h', B, B2⟩ := B
      rw [s_keeps, Option.bind_some, B]
      exact ⟨_, _, rfl, rfl, rfl, h.go rfl rfl rfl rfl rfl rfl rfl rfl rfl (fun j hj => (B2 j (by omega) (by omega)).trans (h3 j (by omega))) rfl rfl rfl rfl rfl rfl rfl rfl (h4)⟩
    · rw [bI_t c1, bI_f c2, if_neg n10, if_neg n10, if_pos p00, if_pos p00]
      obtain ⟨c, r1, t1, s1, m1, r1', w1, h1, h2, h3, h4, h5⟩ := R_word h hS hH v1 v2 0 12 0 (fun e => ⟨fun q => absurd rfl q, fun q => absurd rfl q.2⟩) (by decide)
      rw [h1, h2, Option.bind_some, Option.bind_some]
      dsimp only
      rcases h5 with c0 | ⟨c0, ok, -⟩
      · rw [if_neg c0, if_neg c0]
        exact ⟨_, _, rfl, rfl, rfl, h.go rfl rfl rfl rfl rfl rfl rfl rfl rfl (m21 h3) rfl rfl rfl rfl rfl rfl rfl rfl h4⟩
      · exact absurd rfl ok
  · rw [bI_f c1, if_pos p00, if_pos p00]
    obtain ⟨c, r1, t1, s1, m1, r1', w1, h1, h2, h3, h4, h5⟩ := R_word h hS hH v1 v2 0 12 0 (fun e => ⟨fun q => absurd rfl q, fun q => absurd rfl q.2⟩) (by decide)
    rw [h1, h2, Option.bind_some, Option.bind_some]
    dsimp only
    rcases h5 with c0 | ⟨c0, ok, -⟩
    · rw [if_neg c0, if_neg c0]
      exact ⟨_, _, rfl, rfl, rfl, h.go rfl rfl rfl rfl rfl rfl rfl rfl rfl (m21 h3) rfl rfl rfl rfl rfl rfl rfl rfl h4⟩
    · exact absurd rfl ok
