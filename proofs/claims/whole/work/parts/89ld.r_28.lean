theorem R_28 (fu : Nat) (C : Nat → Nat → Int32) (E : Nat → Int64) (M : Nat → Nat → Int32) (ML : Nat → Int64) (MR : Nat → Nat → Int64) (MV : Nat → Int64) (MY : Nat → Nat → Int32) (h : Rel fu C E M ML MR MV MY) (v1 : Int32) (v2 : Int32) (v3 : Int32) (v4 : Int32) (v5 : Int32) (v6 : Int32) : ∃ (oX : Int32 × ((Nat → Int32) × (Nat → Int32) × (Nat → Int32) × (Nat → Int32) × (Nat → Int32))) (oM : Int32 × ((Nat → Int32) × (Nat → Int32) × (Nat → Int32) × (Nat → Int32) × (Nat → Int32) × (Nat → Int32))), m_X5_fits fu (C 0) (C 1) (C 2) (C 4) (C 14) (C 15) E (C 19) (C 20) (C 21) (C 24) (C 25) v1 v2 v3 v4 v5 v6 = some oX ∧ m_X6_fits fu (M 0) ML (M 1) (M 3) MR (M 16) (M 17) (M 19) (M 21) (M 22) v1 v2 v3 v4 v5 v6 = some oM ∧ oX.1 = oM.1 ∧ Rel fu (upC (upC (upC (upC (upC C 19 oX.2.1) 20 oX.2.2.1) 21 oX.2.2.2.1) 24 oX.2.2.2.2.1) 25 oX.2.2.2.2.2) E (upC (upC (upC (upC (upC (upC M 0 oM.2.1) 16 oM.2.2.1) 17 oM.2.2.2.1) 19 oM.2.2.2.2.1) 21 oM.2.2.2.2.2.1) 22 oM.2.2.2.2.2.2) ML MR MV MY := by
  obtain ⟨hf, ⟨d, r, y, w, q, n, ks, as, ps, hS, hH⟩, hT, hr⟩ := id h
  obtain ⟨hn1, hn2, hn8⟩ := hS.2.2.2.2.2.2.1
  unfold m_X5_fits m_X6_fits b_X5_fits_37 b_X5_fits_38 b_X6_fits_33 b_X6_fits_34
  simp only [s_isVoice, s_mVoice, s_isEchoSize, s_isWithin, s_i (x := v6) (A := 0) (B := 1) (a := 0) (b := 1) rfl rfl, Option.bind_some, hn1, hn2]
  have no : ∀ may : Int32, ¬ ((0 ≤ v4 ∧ v4 ≤ 13) ∧ ¬ may = 0) → ∃ c r1 t1 s1 m1 r1' w1, m_X5_takeWordAndRow fu (C 0) (C 14) (C 15) E (C 19) (C 24) (C 25) v1 v2 v3 v4 0 = some (c, (r1, t1, s1)) ∧ m_X6_noWords fu (M 0) ML (M 1) (M 3) MR (M 16) (M 21) v1 v2 v3 v4 13 1 may = some (c, (m1, r1', w1)) ∧ (∀ j, j ≠ 31 → m1 j = M 0 j) ∧ RR r1 r1' ∧ ¬ c = 0 := fun may hm => by
    obtain ⟨c, r1, t1, s1, m1, r1', w1, h1, h2, h3, h4, h5⟩ := R_words h hS hH v1 v2 v3 v4 0 v4 13 1 may ⟨fun e => absurd rfl e, fun e => absurd e hm⟩ (fun e => absurd rfl e)
    refine ⟨c, r1, t1, s1, m1, r1', w1, h1, h2, h3, h4, ?_⟩
    rcases h5 with q | ⟨-, q, -⟩
    · exact q
    · exact absurd rfl q
  by_cases c1 : 0 ≤ v5 ∧ v5 ≤ nI n - 1
  · by_cases c3 : 0 ≤ v6 ∧ v6 ≤ 1
    · by_cases c2 : 0 ≤ v4 ∧ v4 ≤ 13
      · rw [bI_t c1, bI_t c2, bI_t c3, if_neg n10, if_neg n10, if_neg n10, if_neg n10, if_neg n10]
        obtain ⟨v, hv, rfl⟩ := v_ok hn8 c1
        have hv8 : v < 8 := by omega
        obtain ⟨e, he, rfl⟩ := i_rng (m := 1) (by decide) c3
        obtain ⟨a0, ha0, rfl⟩ := i_rng (m := 13) (by decide) c2
        obtain ⟨c, r1, t1, s1, m1, r1', w1, h1, h2, h3, h4, h5⟩ := R_words h hS hH v1 v2 v3 (nI a0) 1 (nI a0) 13 1 1 ⟨fun e => ⟨c2, n10⟩, fun e => n10⟩ (fun e => ⟨a0, by omega, rfl, (pk_mul 1 a0).trans (by rw [Nat.one_mul])⟩)
        rw [h1, h2, Option.bind_some, Option.bind_some]
        dsimp only
        rcases h5 with c0 | ⟨c0, ok, p', a, z, l, g1, g2, g4, g5, g6, g7, g8, g9, g10⟩
        · rw [if_neg c0, if_neg c0]
          refine ⟨_, _, rfl, rfl, rfl, h.go2 rfl rfl rfl rfl rfl rfl rfl rfl rfl (m21 h3) rfl rfl rfl rfl rfl (fun _ _ => rfl) rfl (fun _ _ => rfl) h4⟩
        · rw [if_pos c0, if_pos c0]
          subst c0 g2
          have hae : a0 = a := (nI_eq (by omega) (by omega)).mp g6
          subst hae
          have T := s_MT (m' := m1) (v := v) hS (m21 h3) (by omega)
          have i8 : inb (nI v) 8 := ib8 hv8
          rw [gd_t i8, gd_t i8, cl8 hv8]
          unfold b_X5_fits_77
          have fin : ∀ (G : Nat → Bool) (o : Option (Int32 × ((Nat → Int32) × (Nat → Int32) × (Nat → Int32) × (Nat → Int32) × (Nat → Int32)))) (nn : Nat), (∃ t' th', o = some (bits G nn, (r1, t', th', t1, s1))) → (∃ m' mk' mp' h', lfix (b_X6_fits_71 fu ML (M 1) (M 3) MR) fu (nI p', nI a0, nI v, nI e, M 17 v, M 19 v, (0 : Int32), (0 : Int32), m1, r1', M 17, M 19, w1, M 22) = some (bits G nn, (m', r1', mk', mp', w1, h')) ∧ SM m1 m' ∧ (∀ i, i < 8 → mk' i = M 17 i) ∧ ∀ i, i < 8 → mp' i = M 19 i) → ∃ (oX : Int32 × ((Nat → Int32) × (Nat → Int32) × (Nat → Int32) × (Nat → Int32) × (Nat → Int32))) (oM : Int32 × ((Nat → Int32) × (Nat → Int32) × (Nat → Int32) × (Nat → Int32) × (Nat → Int32) × (Nat → Int32))), o = some oX ∧ lfix (b_X6_fits_71 fu ML (M 1) (M 3) MR) fu (nI p', nI a0, nI v, nI e, M 17 v, M 19 v, (0 : Int32), (0 : Int32), m1, r1', M 17, M 19, w1, M 22) = some oM ∧ oX.1 = oM.1 ∧ Rel fu (upC (upC (upC (upC (upC C 19 oX.2.1) 20 oX.2.2.1) 21 oX.2.2.2.1) 24 oX.2.2.2.2.1) 25 oX.2.2.2.2.2) E (upC (upC (upC (upC (upC (upC M 0 oM.2.1) 16 oM.2.2.1) 17 oM.2.2.2.1) 19 oM.2.2.2.2.1) 21 oM.2.2.2.2.2.1) 22 oM.2.2.2.2.2.2) ML MR MV MY := by
            rintro G o nn ⟨t', th', rfl⟩ ⟨m', mk', mp', h', q1, q2, q3, q4⟩
            rw [q1]
            exact ⟨_, _, rfl, rfl, rfl, h.go2 rfl rfl rfl rfl rfl rfl rfl rfl rfl (m21s h3 q2) rfl rfl rfl rfl rfl q3 rfl q4 h4⟩
          have step : ∀ (G : Nat → Bool) (nn : Nat), nn ≤ 21 → ((e = 0 ∧ nn = 6 ∧ G = ek (ps v) d y l a0 (MR p')) ∨ (e = 1 ∧ nn = 21 ∧ G = ep (ks v) d y l a0 (MR p'))) → ∃ m' mk' mp' h', lfix (b_X6_fits_71 fu ML (M 1) (M 3) MR) fu (nI p', nI a0, nI v, nI e, M 17 v, M 19 v, (0 : Int32), (0 : Int32), m1, r1', M 17, M 19, w1, M 22) = some (bits G nn, (m', r1', mk', mp', w1, h')) ∧ SM m1 m' ∧ (∀ i, i < 8 → mk' i = M 17 i) ∧ ∀ i, i < 8 → mp' i = M 19 i := by
            intro G nn hnn hG
            refine lf (b_X6_fits_71 fu ML (M 1) (M 3) MR) (fun i x => x.1 = nI p' ∧ x.2.1 = nI a0 ∧ x.2.2.1 = nI v ∧ x.2.2.2.1 = nI e ∧ x.2.2.2.2.1 = M 17 v ∧ x.2.2.2.2.2.1 = M 19 v ∧ x.2.2.2.2.2.2.1 = bits G i ∧ x.2.2.2.2.2.2.2.1 = nI i ∧ SM m1 x.2.2.2.2.2.2.2.2.1 ∧ x.2.2.2.2.2.2.2.2.2.1 = r1' ∧ (∀ j, j ≠ v → x.2.2.2.2.2.2.2.2.2.2.1 j = M 17 j) ∧ (∀ j, j ≠ v → x.2.2.2.2.2.2.2.2.2.2.2.1 j = M 19 j) ∧ x.2.2.2.2.2.2.2.2.2.2.2.2.1 = w1) nn (fun o => ∃ m' mk' mp' h', o = some (bits G nn, (m', r1', mk', mp', w1, h')) ∧ SM m1 m' ∧ (∀ i, i < 8 → mk' i = M 17 i) ∧ ∀ i, i < 8 → mp' i = M 19 i) ?_ ?_ fu 0 _ (Nat.zero_le _) (by omega) ⟨rfl, rfl, rfl, rfl, rfl, rfl, rfl, rfl, SM.rf, rfl, fun _ _ => rfl, fun _ _ => rfl, rfl⟩
            · rintro i ⟨x1, x2, x3, x4, x5, x6, x7, x8, x9, x10, x11, x12, x13, x14⟩ k2 hi ⟨u1, u2, u3, u4, u5, u6, u7, u8, u9, u10, u11, u12, u13⟩
              dsimp only at u1 u2 u3 u4 u5 u6 u7 u8 u9 u10 u11 u12 u13
              subst u1 u2 u3 u4 u5 u6 u7 u8 u10 u13
              obtain ⟨kk, pp, hkk, hpp, hG2⟩ : ∃ kk pp : Nat, (kk = (if e = 0 then i else ks v) ∧ kk ≤ 5) ∧ (pp = (if e = 1 then i else ps v) ∧ pp ≤ 20) ∧ (G i = true ↔ er (ec kk (pt kk pp y) d l) a0 (MR p')) := by
                have hk5 := T.2.2.2.2.2.2.2.1
                have hp20 := T.2.2.2.2.2.2.2.2.1
                rcases hG with ⟨rfl, rfl, rfl⟩ | ⟨rfl, rfl, rfl⟩
                · exact ⟨i, ps v, ⟨rfl, by omega⟩, ⟨rfl, hp20⟩, decide_eq_true_iff⟩
                · exact ⟨ks v, i, ⟨rfl, hk5⟩, ⟨rfl, by omega⟩, decide_eq_true_iff⟩
              have T2 : MT x9 (upd x11 v (nI kk)) (upd x12 v (nI pp)) v kk pp d y w q := by
                obtain ⟨b0, b1, b2, b3, b4, b5, b6, b7, b8, b9⟩ := T.sm u9
                exact ⟨b0, pk_us, pk_us, b3, b4, b5, b6, hkk.2, hpp.2, b9⟩
              obtain ⟨m2, h2', a1, a2⟩ := s_isEcho (fu := fu) (mL := ML) (mh := x14) (R := MR) hf T2 (g5.sm u9) g1 (show a0 ≤ 40 by omega)
              have hk1 : ∀ j, j ≠ v → (upd x11 v (nI kk)) j = M 17 j := fun j hj => (pk_un hj).trans (u11 j hj)
              have hp1 : ∀ j, j ≠ v → (upd x12 v (nI pp)) j = M 19 j := fun j hj => (pk_un hj).trans (u12 j hj)
              have hkv : M 17 v = nI (ks v) := T.2.1
              have hpv : M 19 v = nI (ps v) := T.2.2.1
              have b148 : ∀ (o2 : Int32 × ((Nat → Int32) × (Nat → Int32))), o2 = (bI (er (ec kk (pt kk pp y) d l) a0 (MR p')), (m2, h2')) → (if o2.1 = 0 then b_X6_fits_148 fu ML (M 1) (M 3) MR k2 (nI p') (nI a0) (nI v) (nI e) (M 17 v) (M 19 v) (nI i) (bits G i) (0 : Int32) o2.2.1 x10 (upd x11 v (nI kk)) (upd x12 v (nI pp)) x13 o2.2.2 else b_X6_fits_148 fu ML (M 1) (M 3) MR k2 (nI p') (nI a0) (nI v) (nI e) (M 17 v) (M 19 v) (nI i) (bits G i) ((1 : Int32) <<< (nI i &&& 31)) o2.2.1 x10 (upd x11 v (nI kk)) (upd x12 v (nI pp)) x13 o2.2.2) = k2 (nI p', nI a0, nI v, nI e, M 17 v, M 19 v, bits G (i + 1), nI (i + 1), m2, x10, upd x11 v (nI kk), upd x12 v (nI pp), x13, h2') := by
                rintro o2 rfl
                unfold b_X6_fits_148
                dsimp only
                by_cases c : er (ec kk (pt kk pp y) d l) a0 (MR p')
                · rw [bI_t c, if_neg n10, nI_1, bits_t (hG2.mpr c)]
                · rw [bI_f c, if_pos p00, nI_1, bits_f (fun q => c (hG2.mp q)), Int32.or_zero]
              left
              refine ⟨(nI p', nI a0, nI v, nI e, M 17 v, M 19 v, bits G (i + 1), nI (i + 1), m2, x10, upd x11 v (nI kk), upd x12 v (nI pp), x13, h2'), ⟨rfl, rfl, rfl, rfl, rfl, rfl, rfl, rfl, u9.tr a2, rfl, hk1, hp1, rfl⟩, ?_⟩
              unfold b_X6_fits_71 b_X6_fits_84 b_X6_fits_105 b_X6_fits_125
              dsimp only
              simp only [gd_t i8, cl8 hv8]
              rcases hG with ⟨rfl, rfl, rfl⟩ | ⟨rfl, rfl, rfl⟩
              · have ek' : kk = i := hkk.1
                have ep' : pp = ps v := hpp.1
                subst ek' ep'
                rw [← hpv] at a1 b148 ⊢
                rw [if_pos (show nI 0 = 0 from rfl), if_neg (show ¬ (5 : Int32) < nI kk from nI_nlt (a := 5) (by omega) (by decide)), if_pos (show nI 0 = 0 from rfl), if_neg (show ¬ nI 0 = (1 : Int32) by decide), a1, Option.bind_some]
                exact b148 _ rfl
              · have ek' : kk = ks v := hkk.1
                have ep' : pp = i := hpp.1
                subst ek' ep'
                rw [← hkv] at a1 b148 ⊢
                rw [if_neg (show ¬ nI 1 = 0 by decide), if_neg (show ¬ (20 : Int32) < nI pp from nI_nlt (a := 20) (by omega) (by decide)), if_neg (show ¬ nI 1 = 0 by decide), if_pos (show nI 1 = (1 : Int32) from rfl), a1, Option.bind_some]
                exact b148 _ rfl
            · rintro ⟨x1, x2, x3, x4, x5, x6, x7, x8, x9, x10, x11, x12, x13, x14⟩ k2 ⟨u1, u2, u3, u4, u5, u6, u7, u8, u9, u10, u11, u12, u13⟩
              dsimp only at u1 u2 u3 u4 u5 u6 u7 u8 u9 u10 u11 u12 u13
              subst u1 u2 u3 u4 u5 u6 u7 u8 u10 u13
              have hb : ∀ j, (upd x11 v (M 17 v)) j = M 17 j := fun j => by
                by_cases c : j = v
                · subst c; exact pk_us
                · exact (pk_un c).trans (u11 j c)
              have hb2 : ∀ j, (upd x12 v (M 19 v)) j = M 19 j := fun j => by
                by_cases c : j = v
                · subst c; exact pk_us
                · exact (pk_un c).trans (u12 j c)
              refine ⟨x9, upd x11 v (M 17 v), upd x12 v (M 19 v), x14, ?_, u9, fun j _ => hb j, fun j _ => hb2 j⟩
              unfold b_X6_fits_71 b_X6_fits_84
              dsimp only
              simp only [gd_t i8, cl8 hv8]
              rcases hG with ⟨rfl, rfl, rfl⟩ | ⟨rfl, rfl, rfl⟩
              · rw [if_pos (show nI 0 = 0 from rfl), if_pos (show (5 : Int32) < nI 6 by decide)]
              · rw [if_neg (show ¬ nI 1 = 0 by decide), if_pos (show (20 : Int32) < nI 21 by decide)]
          rcases (show e = 0 ∨ e = 1 by omega) with rfl | rfl
          · obtain ⟨t', th', e1⟩ := s_kindsOfEcho (fu := fu) (t := C 0) (tr := C 20) (th := C 21) (v := v) (e := MR p') hf hS hv8 g4 g1 g7 g8 g9 g10
            refine fin (ek (ps v) d y l a0 (MR p')) _ 6 ⟨t', th', ?_⟩ (step _ 6 (by decide) (Or.inl ⟨rfl, rfl, rfl⟩))
            rw [if_pos (show nI 0 = 0 from rfl), e1, Option.bind_some]
          · obtain ⟨t', th', e1⟩ := s_pitchesOfEcho (fu := fu) (t := C 0) (tr := C 20) (th := C 21) (v := v) (e := MR p') hf hS hv8 g4 g1 g7 g8 g9 g10
            refine fin (ep (ks v) d y l a0 (MR p')) _ 21 ⟨t', th', ?_⟩ (step _ 21 (by decide) (Or.inr ⟨rfl, rfl, rfl⟩))
            rw [if_neg (show ¬ nI 1 = 0 by decide), e1, Option.bind_some]
      · rw [bI_t c1, bI_f c2, bI_t c3, if_neg n10, if_pos p00, if_neg n10, if_neg n10]
        obtain ⟨c, r1, t1, s1, m1, r1', w1, h1, h2, h3, h4, h5⟩ := no 1 (fun q => c2 q.1)
        rw [h1, h2, Option.bind_some, Option.bind_some, if_neg h5, if_neg h5]
        exact ⟨_, _, rfl, rfl, rfl, h.go2 rfl rfl rfl rfl rfl rfl rfl rfl rfl (m21 h3) rfl rfl rfl rfl rfl (fun _ _ => rfl) rfl (fun _ _ => rfl) h4⟩
    · rw [bI_t c1, bI_f c3, if_neg n10, if_neg n10, if_pos p00, if_pos p00, ite_self]
      obtain ⟨c, r1, t1, s1, m1, r1', w1, h1, h2, h3, h4, h5⟩ := no 0 (fun q => q.2 rfl)
      rw [h1, h2, Option.bind_some, Option.bind_some, if_neg h5, if_neg h5]
      exact ⟨_, _, rfl, rfl, rfl, h.go2 rfl rfl rfl rfl rfl rfl rfl rfl rfl (m21 h3) rfl rfl rfl rfl rfl (fun _ _ => rfl) rfl (fun _ _ => rfl) h4⟩
  · rw [bI_f c1, if_pos p00, if_pos p00]
    obtain ⟨c, r1, t1, s1, m1, r1', w1, h1, h2, h3, h4, h5⟩ := no 0 (fun q => q.2 rfl)
    rw [h1, h2, Option.bind_some, Option.bind_some, if_neg h5, if_neg h5]
    exact ⟨_, _, rfl, rfl, rfl, h.go2 rfl rfl rfl rfl rfl rfl rfl rfl rfl (m21 h3) rfl rfl rfl rfl rfl (fun _ _ => rfl) rfl (fun _ _ => rfl) h4⟩
