theorem R_27 (fu : Nat) (C : Nat → Nat → Int32) (E : Nat → Int64) (M : Nat → Nat → Int32) (ML : Nat → Int64) (MR : Nat → Nat → Int64) (MV : Nat → Int64) (MY : Nat → Nat → Int32) (h : Rel fu C E M ML MR MV MY) (v1 : Int32) (v2 : Int32) (v3 : Int32) (v4 : Int32) (v5 : Int32) (v6 : Int32) : ∃ (oX : Int32 × ((Nat → Int32) × (Nat → Int32) × (Nat → Int32) × (Nat → Int32) × (Nat → Int32))) (oM : Int32 × ((Nat → Int32) × (Nat → Int32) × (Nat → Int32) × (Nat → Int32) × (Nat → Int32))), m_X5_depths fu (C 0) (C 1) (C 2) (C 4) (C 14) (C 15) E (C 19) (C 20) (C 21) (C 24) (C 25) v1 v2 v3 v4 v5 v6 = some oX ∧ m_X6_depths fu (M 0) ML (M 1) (M 3) MR (M 16) (M 17) (M 19) (M 21) (M 22) (M 24) v1 v2 v3 v4 v5 v6 = some oM ∧ oX.1 = oM.1 ∧ Rel fu (upC (upC (upC (upC (upC C 19 oX.2.1) 20 oX.2.2.1) 21 oX.2.2.2.1) 24 oX.2.2.2.2.1) 25 oX.2.2.2.2.2) E (upC (upC (upC (upC (upC M 0 oM.2.1) 16 oM.2.2.1) 21 oM.2.2.2.1) 22 oM.2.2.2.2.1) 24 oM.2.2.2.2.2) ML MR MV MY := by
  obtain ⟨hf, ⟨d, r, y, w, q, n, ks, as, ps, hS, hH⟩, hT, hr⟩ := id h
  obtain ⟨hn1, hn2, hn8⟩ := hS.2.2.2.2.2.2.1
  unfold m_X5_depths m_X6_depths b_X5_depths_37 b_X5_depths_38 b_X6_depths_35 b_X6_depths_36
  simp only [s_isVoice, s_mVoice, s_isEchoSize, s_isWithin, s_i (x := v6) (A := 0) (B := 2) (a := 0) (b := 2) rfl rfl, Option.bind_some, hn1, hn2]
  have no : ∀ may : Int32, ¬ ((0 ≤ v4 ∧ v4 ≤ 13) ∧ ¬ may = 0) → ∃ c r1 t1 s1 m1 r1' w1, m_X5_takeWordAndRow fu (C 0) (C 14) (C 15) E (C 19) (C 24) (C 25) v1 v2 v3 v4 0 = some (c, (r1, t1, s1)) ∧ m_X6_noWords fu (M 0) ML (M 1) (M 3) MR (M 16) (M 21) v1 v2 v3 v4 13 1 may = some (c, (m1, r1', w1)) ∧ (∀ j, j ≠ 31 → m1 j = M 0 j) ∧ RR r1 r1' ∧ ¬ c = 0 := fun may hm => by
    obtain ⟨c, r1, t1, s1, m1, r1', w1, h1, h2, h3, h4, h5⟩ := R_words h hS hH v1 v2 v3 v4 0 v4 13 1 may ⟨fun e => absurd rfl e, fun e => absurd e hm⟩ (fun e => absurd rfl e)
    refine ⟨c, r1, t1, s1, m1, r1', w1, h1, h2, h3, h4, ?_⟩
    rcases h5 with q | ⟨-, q, -⟩
    · exact q
    · exact absurd rfl q
  by_cases c1 : 0 ≤ v5 ∧ v5 ≤ nI n - 1
  · by_cases c3 : 0 ≤ v6 ∧ v6 ≤ 2
    · by_cases c2 : 0 ≤ v4 ∧ v4 ≤ 13
      · rw [bI_t c1, bI_t c2, bI_t c3, if_neg n10, if_neg n10, if_neg n10, if_neg n10, if_neg n10]
        obtain ⟨v, hv, rfl⟩ := v_ok hn8 c1
        have hv8 : v < 8 := by omega
        obtain ⟨e, he, rfl⟩ := i_rng (m := 2) (by decide) c3
        obtain ⟨a0, ha0, rfl⟩ := i_rng (m := 13) (by decide) c2
        obtain ⟨c, r1, t1, s1, m1, r1', w1, h1, h2, h3, h4, h5⟩ := R_words h hS hH v1 v2 v3 (nI a0) 1 (nI a0) 13 1 1 ⟨fun e => ⟨c2, n10⟩, fun e => n10⟩ (fun e => ⟨a0, by omega, rfl, (pk_mul 1 a0).trans (by rw [Nat.one_mul])⟩)
        rw [h1, h2, Option.bind_some, Option.bind_some]
        dsimp only
        rcases h5 with c0 | ⟨c0, ok, p', a, z, l, g1, g2, g4, g5, g6, g7, g8, g9, g10⟩
        · rw [if_neg c0, if_neg c0]
          exact ⟨_, _, rfl, rfl, rfl, h.go rfl rfl rfl rfl rfl rfl rfl rfl rfl (m21 h3) rfl rfl rfl rfl rfl rfl rfl rfl (h4)⟩
        · rw [if_pos c0, if_pos c0]
          subst c0 g2
          have hae : a0 = a := (nI_eq (by omega) (by omega)).mp g6
          subst hae
          obtain ⟨t', th', d', e1, -⟩ := s_depthsOfEcho (fu := fu) (t := C 0) (tr := C 20) (th := C 21) (v := v) (e := MR p') hf hS hv8 g4 g1 g7 g8 g9 g10
          obtain ⟨m2, mh, my, e2, e3, -, e5, e6, e7, -⟩ := s_findDepths (fu := fu) (mL := ML) (mh := M 22) (may := M 24) (R := MR) hf (s_MT (m' := m1) (v := v) hS (m21 h3) (by omega)) g5 g1 (show a0 ≤ 40 by omega)
          rw [e1, e2, Option.bind_some, Option.bind_some]
          dsimp only
          rw [s_tellOf hf he, Option.bind_some, e5, e6, e7]
          unfold b_X6_depths_87
          have hm : ∀ j, j < 21 → m2 j = M 0 j := fun j hj => (e3 j (by omega) (by omega)).trans (h3 j (by omega))
          rcases (show e = 0 ∨ e = 1 ∨ e = 2 by omega) with rfl | rfl | rfl
          · rw [if_pos (show nI 0 = 0 from rfl), tw_0]
            exact ⟨_, _, rfl, rfl, rfl, h.go rfl rfl rfl rfl rfl rfl rfl rfl rfl (hm) rfl rfl rfl rfl rfl rfl rfl rfl (h4)⟩
          · rw [if_neg (show ¬ nI 1 = 0 by decide), if_pos (show nI 1 = (1 : Int32) from rfl), tw_1]
            generalize fi (ed (ks v) (ps v) y l a0 (MR p')) 41 = G
            exact ⟨_, _, rfl, rfl, rfl, h.go rfl rfl rfl rfl rfl rfl rfl rfl rfl (hm) rfl rfl rfl rfl rfl rfl rfl rfl (h4)⟩
          · rw [if_neg (show ¬ nI 2 = 0 by decide), if_neg (show ¬ nI 2 = (1 : Int32) by decide), tw_2]
            generalize gr (ed (ks v) (ps v) y l a0 (MR p')) 41 = G
            exact ⟨_, _, rfl, rfl, rfl, h.go rfl rfl rfl rfl rfl rfl rfl rfl rfl (hm) rfl rfl rfl rfl rfl rfl rfl rfl (h4)⟩
      · rw [bI_t c1, bI_f c2, bI_t c3, if_neg n10, if_pos p00, if_neg n10, if_neg n10]
        obtain ⟨c, r1, t1, s1, m1, r1', w1, h1, h2, h3, h4, h5⟩ := no 1 (fun q => c2 q.1)
        rw [h1, h2, Option.bind_some, Option.bind_some, if_neg h5, if_neg h5]
        exact ⟨_, _, rfl, rfl, rfl, h.go rfl rfl rfl rfl rfl rfl rfl rfl rfl (m21 h3) rfl rfl rfl rfl rfl rfl rfl rfl (h4)⟩
    · rw [bI_t c1, bI_f c3, if_neg n10, if_neg n10, if_pos p00, if_pos p00, ite_self]
      obtain ⟨c, r1, t1, s1, m1, r1', w1, h1, h2, h3, h4, h5⟩ := no 0 (fun q => q.2 rfl)
      rw [h1, h2, Option.bind_some, Option.bind_some, if_neg h5, if_neg h5]
      exact ⟨_, _, rfl, rfl, rfl, h.go rfl rfl rfl rfl rfl rfl rfl rfl rfl (m21 h3) rfl rfl rfl rfl rfl rfl rfl rfl (h4)⟩
  · rw [bI_f c1, if_pos p00, if_pos p00]
    obtain ⟨c, r1, t1, s1, m1, r1', w1, h1, h2, h3, h4, h5⟩ := no 0 (fun q => q.2 rfl)
    rw [h1, h2, Option.bind_some, Option.bind_some, if_neg h5, if_neg h5]
    exact ⟨_, _, rfl, rfl, rfl, h.go rfl rfl rfl rfl rfl rfl rfl rfl rfl (m21 h3) rfl rfl rfl rfl rfl rfl rfl rfl (h4)⟩
