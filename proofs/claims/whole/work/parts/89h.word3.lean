-- PURE 17: says, less, rains, alike

theorem R_6 (fu : Nat) (C : Nat → Nat → Int32) (E : Nat → Int64) (M : Nat → Nat → Int32) (ML : Nat → Int64) (MR : Nat → Nat → Int64) (MV : Nat → Int64) (MY : Nat → Nat → Int32) (h : Rel fu C E M ML MR MV MY) (v1 : Int32) (v2 : Int32) : ∃ (oX : Int32 × ((Nat → Int32) × (Nat → Int32) × (Nat → Int32) × (Nat → Int32) × (Nat → Int32))) (oM : Int32 × ((Nat → Int32) × (Nat → Int32) × (Nat → Int32) × (Nat → Int32))), m_X5_says fu (C 0) (C 1) (C 2) (C 4) (C 14) (C 19) (C 20) (C 21) (C 26) (C 27) v1 v2 = some oX ∧ m_X6_says fu (M 0) ML (M 1) (M 14) (M 16) (M 17) (M 19) (M 21) (M 22) v1 v2 = some oM ∧ oX.1 = oM.1 ∧ Rel fu (upC (upC (upC (upC (upC C 19 oX.2.1) 20 oX.2.2.1) 21 oX.2.2.2.1) 26 oX.2.2.2.2.1) 27 oX.2.2.2.2.2) E (upC (upC (upC (upC M 0 oM.2.1) 16 oM.2.2.1) 21 oM.2.2.2.1) 22 oM.2.2.2.2) ML MR MV MY := by
  obtain ⟨hf, ⟨d, r, y, w, q, n, ks, as, ps, hS, hH⟩, hT, hr⟩ := id h
  obtain ⟨hn1, hn2, hn8⟩ := hS.2.2.2.2.2.2.1
  unfold m_X5_says m_X6_says b_X5_says_14 b_X5_says_74 b_X6_says_24 b_X6_says_69 b_X6_says_76
  have z01 : ((0 : Int32) = 1) = False := eq_false (by decide)
  have z02 : ((0 : Int32) = 2) = False := eq_false (by decide)
  have z12 : ((1 : Int32) = 2) = False := eq_false (by decide)
  have z10 : ((1 : Int32) = 0) = False := eq_false (by decide)
  have z20 : ((2 : Int32) = 0) = False := eq_false (by decide)
  have z21 : ((2 : Int32) = 1) = False := eq_false (by decide)
  simp only [s_isShelf, s_isKind, s_i (x := v1) (A := 0) (B := 7) (a := 0) (b := 7) rfl rfl, s_i (x := v2) (A := 0) (B := 5) (a := 0) (b := 5) rfl rfl, Option.bind_some]
  by_cases c1 : 0 ≤ v1 ∧ v1 ≤ 7
  · by_cases c2 : 0 ≤ v2 ∧ v2 ≤ 5
    · obtain ⟨s, hs, rfl⟩ := i_0_7 c1
      rw [bI_t c1, bI_t c2, if_neg n10, if_neg n10, if_neg n10, if_neg n10]
      simp only [gd_t (ib8 hs), cl8 hs]
      rcases hH.see fu hn8 hs with ⟨p1, p2, p3, p4, p5⟩ | ⟨t, z, p1, p2, b3, b4, b5, b6, p5, b8, b9, b10⟩ | ⟨v, p1, p2, hv, k4, k5, p5, k7⟩
      · simp only [p2, p5, Option.bind_some, z10, z01, z02, if_false, if_true]
        rw [(s_ref fu _ _).1.2.2, (s_mref fu _ _ _).1.2.2, Option.bind_some, Option.bind_some]; exact ⟨_, _, rfl, rfl, rfl, h.go rfl rfl rfl rfl rfl rfl rfl rfl rfl (fun _ _ => rfl) rfl rfl rfl rfl rfl rfl rfl rfl hr.r4⟩
      · have nv : ¬ (0 ≤ nI t - 10 ∧ nI t - 10 ≤ nI n - 1) := fun e => by
          have h1 := e.1
          rw [show (10 : Int32) = nI 10 from rfl] at h1
          have := pk_sneg (a := t) (b := 10) (by decide) (by omega)
          rw [i_le] at h1
          rw [i_lt] at this
          omega
        simp only [p2, p5, Option.bind_some, s_holdingOf hs, b5, s_isVoice, hn1, bI_f nv, if_true]
        rw [(s_ref fu _ _).1.2.1, (s_mref fu _ _ _).1.2.1, Option.bind_some, Option.bind_some]; exact ⟨_, _, rfl, rfl, rfl, h.go rfl rfl rfl rfl rfl rfl rfl rfl rfl (fun _ _ => rfl) rfl rfl rfl rfl rfl rfl rfl rfl hr.r3⟩
      · have hv8 : v < 8 := by omega
        have ev : nI (10 + v) - (10 : Int32) = nI v := by rw [show (10 : Int32) = nI 10 from rfl, pk_sub (by omega), Nat.add_sub_cancel_left]
        obtain ⟨b1, b2, b3⟩ := hS.2.2.2.2.2.2.2 v hv8
        simp only [p2, p5, k7, Option.bind_some, s_holdingOf hs, k4, ev, s_isVoice, hn1, bI_t (v_ok' hn8 hv), z10, z20, z21, if_false, if_true, s_kindOf hv8, s_isUnder, s_mUnder, gd_t (ib8 hv8), cl8 hv8, b1.1, b1.2.1, s_pitchOf hv8]
        by_cases cu : (nI (ks v) = v2 ∨ v2 = 0 ∨ nI (ks v) = 3 ∧ v2 = 1 ∨ nI (ks v) = 4 ∧ v2 = 2)
        · rw [bI_t cu, if_neg n10, if_neg n10]
          by_cases c0 : v2 = 0
          · rw [if_pos c0, if_pos c0]
            refine ⟨_, _, rfl, rfl, ?_, h.go rfl rfl rfl rfl rfl rfl rfl rfl rfl (fun _ _ => rfl) rfl rfl rfl rfl rfl rfl rfl rfl (hr)⟩
            exact b3.1.trans b3.2.1.symm
          · rw [if_neg c0, if_neg c0]
            unfold m_X4_clear
            rw [Option.bind_some]
            have hr12 : ∀ x ∈ List.range 12, x < 40 := fun x hx => by have := List.mem_range.mp hx; omega
            have A : ∃ tr' th' td' ts', lfix (b_X5_says_104 fu (C 0) (C 1) (C 2) (C 4) (C 14)) fu (nI v, (0 : Int32), C 19, C 20, C 21, upd (C 26) 1 0, C 27) = some (nI (sm (ec (ks v) (pt (ks v) (ps v) y) d (List.range 12))), (C 19, tr', th', td', ts')) := by
              refine lf (b_X5_says_104 fu (C 0) (C 1) (C 2) (C 4) (C 14)) (fun i x => x.1 = nI v ∧ x.2.1 = nI i ∧ x.2.2.1 = C 19 ∧ x.2.2.2.1 = C 20 ∧ x.2.2.2.2.1 = C 21 ∧ x.2.2.2.2.2.1 1 = nI (List.range i).length ∧ Bf x.2.2.2.2.2.2 (List.range i)) 12 (fun o => ∃ tr' th' td' ts', o = some (nI (sm (ec (ks v) (pt (ks v) (ps v) y) d (List.range 12))), (C 19, tr', th', td', ts'))) ?_ ?_ fu 0 _ (Nat.zero_le _) (by omega) ⟨rfl, rfl, rfl, rfl, rfl, rfl, Bf_nil⟩
              · rintro i ⟨x1, x2, x3, x4, x5, x6, x7⟩ k hi ⟨e1, e2, e3, e4, e5, e6, e7⟩
                dsimp only at e1 e2 e3 e4 e5 e6 e7
                subst e1 e2 e3 e4 e5
                obtain ⟨t2, g2, a1, a2, a3⟩ := s_add (fu := fu) (x := i) e6 (by rw [List.length_range]; omega) e7
                left
                unfold b_X5_says_104
                dsimp only
                rw [if_neg (show ¬ (12 : Int32) ≤ nI i from nI_ge (b := 12) hi (by decide)), a1, Option.bind_some, nI_1]
                exact ⟨(nI v, nI (i + 1), C 19, C 20, C 21, t2, g2), ⟨rfl, rfl, rfl, rfl, rfl, by rw [List.range_succ]; exact a2, by rw [List.range_succ]; exact a3⟩, rfl⟩
              · rintro ⟨x1, x2, x3, x4, x5, x6, x7⟩ k ⟨e1, e2, e3, e4, e5, e6, e7⟩
                dsimp only at e1 e2 e3 e4 e5 e6 e7
                subst e1 e2 e3 e4 e5
                obtain ⟨t', a1, a2, -⟩ := s_standsFor (fu := fu) (t := C 20) (v := v) hS hv8
                obtain ⟨t2, h2', a3, -, a4, a5⟩ := s_hears (fu := fu) (h := C 21) hf a2 (l := List.range 12) ⟨e6, by rw [List.length_range]; decide, e7, hr12⟩
                have hl := ec_len (k := ks v) (p := pt (ks v) (ps v) y) (d := d) (w := List.range 12)
                rw [List.length_range] at hl
                unfold b_X5_says_104
                dsimp only
                rw [if_pos (show (12 : Int32) ≤ nI 12 by decide), a1, Option.bind_some, a3, Option.bind_some]
                dsimp only
                rw [s_total hf a4 (by omega) a5 ec_lt, Option.bind_some]
                exact ⟨_, _, _, _, rfl⟩
            have B : ∃ m' w' h', lfix (b_X6_says_110 fu ML (M 1) (M 14) (M 17) (M 19)) fu (nI s, (0 : Int32), M 0, M 16, M 21, M 22) = some (nI (sm (ec (ks v) (pt (ks v) (ps v) y) d (List.range 12))), (m', M 16, w', h')) ∧ ∀ j, j < 21 → m' j = M 0 j := by
              refine lf (b_X6_says_110 fu ML (M 1) (M 14) (M 17) (M 19)) (fun i x => x.1 = nI s ∧ x.2.1 = nI i ∧ x.2.2.1 = M 0 ∧ x.2.2.2.1 = M 16 ∧ x.2.2.2.2.2 = M 22 ∧ Bf x.2.2.2.2.1 (List.range i)) 12 (fun o => ∃ m' w' h', o = some (nI (sm (ec (ks v) (pt (ks v) (ps v) y) d (List.range 12))), (m', M 16, w', h')) ∧ ∀ j, j < 21 → m' j = M 0 j) ?_ ?_ fu 0 _ (Nat.zero_le _) (by omega) ⟨rfl, rfl, rfl, rfl, rfl, Bf_nil⟩
              · rintro i ⟨x1, x2, x3, x4, x5, x6⟩ k hi ⟨e1, e2, e3, e4, e5, e6⟩
                dsimp only at e1 e2 e3 e4 e5 e6
                subst e1 e2 e3 e4 e5
                left
                unfold b_X6_says_110
                dsimp only
                rw [if_neg (show ¬ (12 : Int32) ≤ nI i from nI_ge (b := 12) hi (by decide)), gd_t (inb_n hi (by decide)), nI_clamp (by omega), nI_1]
                refine ⟨(nI s, nI (i + 1), M 0, M 16, upd x5 i (nI i), M 22), ⟨rfl, rfl, rfl, rfl, rfl, ?_⟩, rfl⟩
                rw [List.range_succ]
                have := Bf_push (x := i) e6
                rw [List.length_range] at this
                exact this
              · rintro ⟨x1, x2, x3, x4, x5, x6⟩ k ⟨e1, e2, e3, e4, e5, e6⟩
                dsimp only at e1 e2 e3 e4 e5 e6
                subst e1 e2 e3 e4 e5
                have T := s_MT (m' := upd (M 0) 31 12) (v := v) hS (fun j hj => pk_un (by omega)) hv8
                obtain ⟨m2, mh, a1, a2, -⟩ := s_sumOf (fu := fu) (mL := ML) (h := M 22) hf T (l := List.range 12) ⟨pk_us, by rw [List.length_range]; decide, e6, hr12⟩
                unfold b_X6_says_110
                dsimp only
                rw [if_pos (show (12 : Int32) ≤ nI 12 by decide), gd_t (ib8 hs), cl8 hs, k7, a1, Option.bind_some]
                exact ⟨_, _, _, rfl, fun j hj => (a2 j (by omega)).trans (pk_un (by omega))⟩
            obtain ⟨tr', th', td', ts', A⟩ := A
            obtain ⟨m', w', h', B, B2⟩ := B
            rw [A, B]
            exact ⟨_, _, rfl, rfl, rfl, h.go rfl rfl rfl rfl rfl rfl rfl rfl rfl (B2) rfl rfl rfl rfl rfl rfl rfl rfl (hr)⟩
        · rw [bI_f cu, if_pos p00, if_pos p00]
          rw [(s_ref fu _ _).1.2.1, (s_mref fu _ _ _).1.2.1, Option.bind_some, Option.bind_some]; exact ⟨_, _, rfl, rfl, rfl, h.go rfl rfl rfl rfl rfl rfl rfl rfl rfl (fun _ _ => rfl) rfl rfl rfl rfl rfl rfl rfl rfl hr.r3⟩
    · rw [bI_t c1, bI_f c2, if_neg n10, if_neg n10, if_pos p00, if_pos p00]
      rw [(s_ref fu _ _).1.1, (s_mref fu _ _ _).1.1, Option.bind_some, Option.bind_some]; exact ⟨_, _, rfl, rfl, rfl, h.go rfl rfl rfl rfl rfl rfl rfl rfl rfl (fun _ _ => rfl) rfl rfl rfl rfl rfl rfl rfl rfl hr.r2⟩
  · rw [bI_f c1, if_pos p00, if_pos p00]
    rw [(s_ref fu _ _).1.1, (s_mref fu _ _ _).1.1, Option.bind_some, Option.bind_some]; exact ⟨_, _, rfl, rfl, rfl, h.go rfl rfl rfl rfl rfl rfl rfl rfl rfl (fun _ _ => rfl) rfl rfl rfl rfl rfl rfl rfl rfl hr.r2⟩

theorem R_38 (fu : Nat) (C : Nat → Nat → Int32) (E : Nat → Int64) (M : Nat → Nat → Int32) (ML : Nat → Int64) (MR : Nat → Nat → Int64) (MV : Nat → Int64) (MY : Nat → Nat → Int32) (h : Rel fu C E M ML MR MV MY) (v1 : Int32) (v2 : Int32) (v3 : Int32) : ∃ (oX : Int32 × ((Nat → Int32) × (Nat → Int32) × (Nat → Int32) × (Nat → Int32) × (Nat → Int32) × (Nat → Int32) × (Nat → Int32))) (oM : Int32 × ((Nat → Int32) × (Nat → Int32) × (Nat → Int32) × (Nat → Int32))), m_X5_less fu (C 0) (C 1) (C 2) (C 4) (C 14) (C 15) E (C 19) (C 20) (C 21) (C 24) (C 25) (C 26) (C 27) v1 v2 v3 = some oX ∧ m_X6_less fu (M 0) ML (M 1) (M 3) MR (M 16) (M 17) (M 19) (M 21) (M 22) v1 v2 v3 = some oM ∧ oX.1 = oM.1 ∧ Rel fu (upC (upC (upC (upC (upC (upC (upC C 19 oX.2.1) 20 oX.2.2.1) 21 oX.2.2.2.1) 24 oX.2.2.2.2.1) 25 oX.2.2.2.2.2.1) 26 oX.2.2.2.2.2.2.1) 27 oX.2.2.2.2.2.2.2) E (upC (upC (upC (upC M 0 oM.2.1) 16 oM.2.2.1) 21 oM.2.2.2.1) 22 oM.2.2.2.2) ML MR MV MY := by
  obtain ⟨hf, ⟨d, r, y, w, q, n, ks, as, ps, hS, hH⟩, hT, hr⟩ := id h
  obtain ⟨hn1, hn2, hn8⟩ := hS.2.2.2.2.2.2.1
  unfold m_X5_less m_X6_less
  simp only [s_isVoice, s_mVoice, Option.bind_some, hn1, hn2]
  by_cases c1 : 0 ≤ v3 ∧ v3 ≤ nI n - 1
  · rw [bI_t c1]
    obtain ⟨v, hv, rfl⟩ := v_ok hn8 c1
    have hv8 : v < 8 := by omega
    obtain ⟨c, r1, t1, s1, m1, r1', w1, h1, h2, h3, h4, h5⟩ := R_word h hS hH v1 v2 1 12 1 (fun e => ⟨fun q => ⟨e.2, q⟩, fun q => q.2⟩) (by decide)
    rw [h1, h2, Option.bind_some, Option.bind_some]
    dsimp only
    rcases h5 with c0 | ⟨c0, ok, s', l, g1, g2, g3, g4, g5, g6⟩
    · rw [if_neg c0, if_neg c0]
      exact ⟨_, _, rfl, rfl, rfl, h.go rfl rfl rfl rfl rfl rfl rfl rfl rfl (m21 h3) rfl rfl rfl rfl rfl rfl rfl rfl h4⟩
    rw [if_pos c0, if_pos c0]
    subst g2
    subst g3
    have hl12 := g4.2.1
    obtain ⟨t', e1, e2, -⟩ := s_standsFor (fu := fu) (t := C 20) (v := v) hS (by omega)
    have e3 := s_MT (m' := upd m1 31 (nI l.length - 1)) (v := v) hS (fun j hj => (pk_un (by omega)).trans (h3 j (by omega))) (by omega)
    rw [e1, Option.bind_some]
    obtain ⟨a, b, f1, f2, f3, f4, f5, f6⟩ := lf2 (b_X5_less_36 fu (C 0) (C 1) (C 2) (C 4) (C 14) (C 15) E) (b_X6_less_33 fu ML (M 1) (M 3) MR (M 17) (M 19)) (fun i x x' => x.1 = nI l.length ∧ x.2.1 = nI i ∧ x.2.2.1 = r1 ∧ x.2.2.2.2.2.1 = t1 ∧ x.2.2.2.2.2.2.1 = s1 ∧ x'.1 = nI s' ∧ x'.2.1 = nI l.length ∧ x'.2.2.1 = nI v ∧ x'.2.2.2.1 = nI i ∧ x'.2.2.2.2.2.1 = r1' ∧ TR x.2.2.2.1 (ks v) (ps v) d r y w q ∧ SM (upd m1 31 (nI l.length - 1)) x'.2.2.2.2.1) l.length (fun o o' => ∃ a b, o = some a ∧ o' = some b ∧ a.1 = b.1 ∧ a.2.1 = r1 ∧ b.2.2.1 = r1' ∧ SM (upd m1 31 (nI l.length - 1)) b.2.1)
      (by
        rintro i ⟨x1, x2, x3, x4, x5, x6, x7, x8, x9⟩ ⟨y1, y2, y3, y4, y5, y6, y7, y8⟩ k k' hi ⟨u1, u2, u3, u4, u5, u6, u7, u8, u9, u10, u11, u12⟩
        dsimp only at u1 u2 u3 u4 u5 u6 u7 u8 u9 u10 u11 u12
        subst u1 u2 u3 u4 u5 u6 u7 u8 u9 u10
        have hle : (l.eraseIdx i).length = l.length - 1 := List.length_eraseIdx_of_lt hi
        have en : nI l.length - (1 : Int32) = nI (l.length - 1) := by rw [show (1 : Int32) = nI 1 from rfl, pk_sub (by omega)]
        obtain ⟨ta, ga, a1, a2, a3⟩ := s_takes (fu := fu) (t := x8) (g := x9) (b := i) (but := nI i) hf g4 (fun j hj => nI_eq (by omega) (by omega))
        obtain ⟨t2, h2', e4, e5⟩ := s_weighs (fu := fu) (h := x5) hf u11 (l := l.eraseIdx i) ⟨a2, by omega, a3, mem_er g4.2.2.2⟩
        obtain ⟨w', bw, ew⟩ := lf (b_X6_less_42 fu ML (M 1) (M 3) MR (M 17) (M 19) k') (fun j x => x.1 = nI s' ∧ x.2.1 = nI l.length ∧ x.2.2.1 = nI v ∧ x.2.2.2.1 = nI i ∧ x.2.2.2.2.1 = nI j ∧ x.2.2.2.2.2.1 = y5 ∧ x.2.2.2.2.2.2.1 = y6 ∧ x.2.2.2.2.2.2.2.2 = y8 ∧ Bf x.2.2.2.2.2.2.2.1 ((l.eraseIdx i).take j)) (l.length - 1) (fun o => ∃ w', Bf w' (l.eraseIdx i) ∧ o = (m_X6_gets fu y5 ML (M 17) (M 19) w' y8 (nI v)).bind fun o6 => (if o6.1 = 0 then k' (nI s', nI l.length, nI v, nI i + 1, o6.2.1, y6, w', o6.2.2) else some (nI i, (o6.2.1, y6, w', o6.2.2))))
          (by
            rintro j ⟨z1, z2, z3, z4, z5, z6, z7, z8, z9⟩ k2 hj ⟨p1, p2, p3, p4, p5, p6, p7, p8, p9⟩
            dsimp only at p1 p2 p3 p4 p5 p6 p7 p8 p9
            subst p1 p2 p3 p4 p5 p6 p7 p8
            have hx := List.getElem?_eq_getElem (l := l.eraseIdx i) (i := j) (by omega)
            have hx2 := List.getElem?_eraseIdx (l := l) (i := i) (j := j)
            left
            unfold b_X6_less_42 b_X6_less_78
            dsimp only
            rw [en, if_neg (nI_ge hj (by omega))]
            simp only [gd_t (ib8 g1), cl8 g1, nI_1, gd_t (inb_n (show j < 12 by omega) (by decide)), gd_t (inb_n (show j < 40 by omega) (by decide)), gd_t (inb_n (show j + 1 < 40 by omega) (by decide)), nI_clamp (show j < 2 ^ 31 by omega), nI_clamp (show j + 1 < 2 ^ 31 by omega)]
            have wit : ∀ idx, l[idx]? = some (l.eraseIdx i)[j] → Bf (upd z8 j ((MR s' idx).toInt32)) ((l.eraseIdx i).take (j + 1)) := fun idx hidx => by
              rw [List.take_add_one, hx, g6 idx _ hidx, lN_i]
              have := Bf_push (x := (l.eraseIdx i)[j]) p9
              rw [List.length_take, Nat.min_eq_left (by omega)] at this
              exact this
            by_cases c : nI i ≤ nI j
            · have cc := (nI_le_iff (by omega) (by omega)).mp c
              rw [if_pos c]
              rw [if_neg (by omega), hx] at hx2
              exact ⟨(nI s', nI l.length, nI v, nI i, nI (j + 1), z6, z7, upd z8 j ((MR s' (j + 1)).toInt32), z9), ⟨rfl, rfl, rfl, rfl, rfl, rfl, rfl, rfl, wit _ hx2.symm⟩, rfl⟩
            · have cc : j < i := by
                rcases Nat.lt_or_ge j i with q | q
                · exact q
                · exact absurd (nI_le q (by omega)) c
              rw [if_neg c]
              rw [if_pos cc, hx] at hx2
              exact ⟨(nI s', nI l.length, nI v, nI i, nI (j + 1), z6, z7, upd z8 j ((MR s' j).toInt32), z9), ⟨rfl, rfl, rfl, rfl, rfl, rfl, rfl, rfl, wit _ hx2.symm⟩, rfl⟩)
          (by
            rintro ⟨z1, z2, z3, z4, z5, z6, z7, z8, z9⟩ k2 ⟨p1, p2, p3, p4, p5, p6, p7, p8, p9⟩
            dsimp only at p1 p2 p3 p4 p5 p6 p7 p8 p9
            subst p1 p2 p3 p4 p5 p6 p7 p8
            unfold b_X6_less_42
            dsimp only
            rw [en, if_pos (nI_le (Nat.le_refl _) (by omega))]
            rw [← hle, List.take_length] at p9
            exact ⟨z8, p9, rfl⟩) fu 0 (nI s', nI l.length, nI v, nI i, (0 : Int32), y5, y6, y7, y8) (Nat.zero_le _) (by omega) ⟨rfl, rfl, rfl, rfl, rfl, rfl, rfl, rfl, by rw [List.take_zero]; exact Bf_nil⟩
        have h31 : y5 31 = nI (l.eraseIdx i).length := by rw [u12 31 (by decide), pk_us, en, hle]
        obtain ⟨m2, mh, e6, e7⟩ := s_gets (fu := fu) (mL := ML) (h := y8) hf (e3.sm u12) (l := l.eraseIdx i) ⟨h31, by omega, bw, mem_er g4.2.2.2⟩
        unfold b_X5_less_36 b_X6_less_33
        dsimp only
        rw [if_neg (nI_ge hi (by omega)), if_neg (nI_ge hi (by omega)), ew, a1, Option.bind_some]
        dsimp only
        rw [e4, Option.bind_some, e6, Option.bind_some, nI_1]
        dsimp only
        by_cases c : wg (ks v) (pt (ks v) (ps v) y) d w q (l.eraseIdx i) = 1
        · rw [if_pos c, bI_t c, if_neg n10]
          exact Or.inr ⟨_, _, rfl, rfl, rfl, rfl, rfl, u12.tr e7⟩
        · rw [if_neg c, bI_f c, if_pos p00]
          exact Or.inl ⟨(nI l.length, nI (i + 1), x3, t2, h2', x6, x7, ta, ga), (nI s', nI l.length, nI v, nI (i + 1), m2, y6, w', mh), ⟨rfl, rfl, rfl, rfl, rfl, rfl, rfl, rfl, rfl, rfl, u11.sb e5, u12.tr e7⟩, rfl, rfl⟩)
      (by
        rintro ⟨x1, x2, x3, x4, x5, x6, x7, x8, x9⟩ ⟨y1, y2, y3, y4, y5, y6, y7, y8⟩ k k' ⟨u1, u2, u3, u4, u5, u6, u7, u8, u9, u10, u11, u12⟩
        dsimp only at u1 u2 u3 u4 u5 u6 u7 u8 u9 u10 u11 u12
        subst u1 u2 u3 u4 u5 u6 u7 u8 u9 u10
        unfold b_X5_less_36 b_X6_less_33
        dsimp only
        rw [if_pos (nI_le (Nat.le_refl _) (by omega)), if_pos (nI_le (Nat.le_refl _) (by omega))]
        exact ⟨_, _, rfl, rfl, rfl, rfl, rfl, u12⟩) fu 0 (nI l.length, (0 : Int32), r1, t', C 21, t1, s1, C 26, C 27) (nI s', nI l.length, nI v, (0 : Int32), upd m1 31 (nI l.length - 1), r1', w1, M 22) (Nat.zero_le _) (by omega) ⟨rfl, rfl, rfl, rfl, rfl, rfl, rfl, rfl, rfl, rfl, e2, SM.rf⟩
    exact ⟨a, b, f1, f2, f3, h.go rfl rfl rfl rfl rfl rfl rfl rfl rfl (fun j hj => (f6 j (by omega)).trans ((pk_un (by omega)).trans (h3 j (by omega)))) rfl rfl rfl rfl rfl rfl rfl rfl (by show RR a.2.1 b.2.2.1; rw [f4, f5]; exact h4)⟩
  · rw [bI_f c1]
    obtain ⟨c, r1, t1, s1, m1, r1', w1, h1, h2, h3, h4, h5⟩ := R_word h hS hH v1 v2 0 12 0 (fun e => ⟨fun q => absurd rfl q, fun q => absurd rfl q.2⟩) (by decide)
    rw [h1, h2, Option.bind_some, Option.bind_some]
    dsimp only
    rcases h5 with c0 | ⟨c0, ok, -⟩
    · rw [if_neg c0, if_neg c0]
      exact ⟨_, _, rfl, rfl, rfl, h.go rfl rfl rfl rfl rfl rfl rfl rfl rfl (m21 h3) rfl rfl rfl rfl rfl rfl rfl rfl h4⟩
    · exact absurd rfl ok

theorem R_35 (fu : Nat) (C : Nat → Nat → Int32) (E : Nat → Int64) (M : Nat → Nat → Int32) (ML : Nat → Int64) (MR : Nat → Nat → Int64) (MV : Nat → Int64) (MY : Nat → Nat → Int32) (h : Rel fu C E M ML MR MV MY) (v1 : Int32) (v2 : Int32) (v3 : Int32) (v4 : Int32) : ∃ (oX : Int32 × ((Nat → Int32) × (Nat → Int32) × (Nat → Int32) × (Nat → Int32) × (Nat → Int32))) (oM : Int32 × ((Nat → Int32) × (Nat → Int32) × (Nat → Int32) × (Nat → Int32))), m_X5_rains fu (C 0) (C 1) (C 2) (C 4) (C 14) (C 15) E (C 19) (C 20) (C 21) (C 24) (C 25) v1 v2 v3 v4 = some oX ∧ m_X6_rains fu (M 0) ML (M 1) (M 3) MR (M 16) (M 17) (M 19) (M 21) (M 22) v1 v2 v3 v4 = some oM ∧ oX.1 = oM.1 ∧ Rel fu (upC (upC (upC (upC (upC C 19 oX.2.1) 20 oX.2.2.1) 21 oX.2.2.2.1) 24 oX.2.2.2.2.1) 25 oX.2.2.2.2.2) E (upC (upC (upC (upC M 0 oM.2.1) 16 oM.2.2.1) 21 oM.2.2.2.1) 22 oM.2.2.2.2) ML MR MV MY := by
  obtain ⟨hf, ⟨d, r, y, w, q, n, ks, as, ps, hS, hH⟩, hT, hr⟩ := id h
  obtain ⟨hn1, hn2, hn8⟩ := hS.2.2.2.2.2.2.1
  unfold m_X5_rains m_X6_rains b_X5_rains_26 b_X5_rains_27 b_X6_rains_30 b_X6_rains_31
  simp only [s_isVoice, s_mVoice, s_isWithin, s_i (x := v4) (A := 0) (B := 60) (a := 0) (b := 60) rfl rfl, Option.bind_some, hn1, hn2]
  by_cases c1 : 0 ≤ v3 ∧ v3 ≤ nI n - 1
  · by_cases c2 : 0 ≤ v4 ∧ v4 ≤ 60
    · rw [bI_t c1, bI_t c2, if_neg n10, if_neg n10, if_neg n10, if_neg n10]
      obtain ⟨v, hv, rfl⟩ := v_ok hn8 c1
      have hv8 : v < 8 := by omega
      obtain ⟨e, he, rfl⟩ := i_rng (m := 60) (by decide) c2
      obtain ⟨c, r1, t1, s1, m1, r1', w1, h1, h2, h3, h4, h5⟩ := R_word h hS hH v1 v2 1 12 1 (fun e => ⟨fun q => ⟨e.2, q⟩, fun q => q.2⟩) (by decide)
      rw [h1, h2, Option.bind_some, Option.bind_some]
      dsimp only
      rcases h5 with c0 | ⟨c0, ok, s', l, g1, g2, g3, g4, g5, g6⟩
      · rw [if_neg c0, if_neg c0]
        exact ⟨_, _, rfl, rfl, rfl, h.go rfl rfl rfl rfl rfl rfl rfl rfl rfl (m21 h3) rfl rfl rfl rfl rfl rfl rfl rfl h4⟩
      rw [if_pos c0, if_pos c0]
      have e3 := s_MT (m' := m1) (v := v) hS (m21 h3) (by omega)
      have hd0 : m1 9 = nI d := (h3 9 (by decide)).trans hS.1.2.1
      have hy0 : m1 11 = nI y := (h3 11 (by decide)).trans hS.2.2.1.2.1
      have A : ∃ tr th, lfix (b_X5_rains_43 fu (C 0) (C 1) (C 2) (C 4) (C 14) (C 15) E) fu (nI v, nI e, (0 : Int32), r1, C 20, C 21, t1, s1) = some (ff (fun rr => decide (wg (ks v) (pt (ks v) (ps v) (ity y e)) (itd rr d e) w q l = 1)) 10 0, (r1, tr, th, t1, s1)) := by
        refine lf (b_X5_rains_43 fu (C 0) (C 1) (C 2) (C 4) (C 14) (C 15) E) (fun i x => x.1 = nI v ∧ x.2.1 = nI e ∧ x.2.2.1 = nI i ∧ x.2.2.2.1 = r1 ∧ x.2.2.2.2.2.2.1 = t1 ∧ x.2.2.2.2.2.2.2 = s1 ∧ ff (fun rr => decide (wg (ks v) (pt (ks v) (ps v) (ity y e)) (itd rr d e) w q l = 1)) 10 0 = ff (fun rr => decide (wg (ks v) (pt (ks v) (ps v) (ity y e)) (itd rr d e) w q l = 1)) (10 - i) i) 10 (fun o => ∃ tr th, o = some (ff (fun rr => decide (wg (ks v) (pt (ks v) (ps v) (ity y e)) (itd rr d e) w q l = 1)) 10 0, (r1, tr, th, t1, s1))) ?_ ?_ fu 0 _ (Nat.zero_le _) (by omega) ⟨rfl, rfl, rfl, rfl, rfl, rfl, rfl⟩
        · rintro i ⟨x1, x2, x3, x4, x5, x6, x7, x8⟩ k hi ⟨u1, u2, u3, u4, u5, u6, u7⟩
          dsimp only at u1 u2 u3 u4 u5 u6 u7
          subst u1 u2 u3 u4 u5 u6
          obtain ⟨t', a1, a2, -⟩ := s_standsFor (fu := fu) (t := x5) (v := v) hS (by omega)
          obtain ⟨t2, a3, a4⟩ := s_passDays (fu := fu) (n := e) hf (by omega) (a2.rain (r' := i) (by omega))
          obtain ⟨t3, h3', a5, a6⟩ := s_weighs (fu := fu) (h := x6) hf a4 g4
          unfold b_X5_rains_43
          dsimp only
          rw [if_neg (show ¬ (9 : Int32) < nI i from nI_nlt (a := 9) (by omega) (by decide)), a1, Option.bind_some, a3, Option.bind_some, a5, Option.bind_some]
          dsimp only
          rw [u7, show 10 - i = (10 - (i + 1)) + 1 by omega]
          by_cases c : wg (ks v) (pt (ks v) (ps v) (ity y e)) (itd i d e) w q l = 1
          · rw [if_pos c, ff_t (decide_eq_true c)]
            exact Or.inr ⟨t3, h3', rfl⟩
          · rw [if_neg c, ff_f (fun e => c (of_decide_eq_true e)), nI_1]
            exact Or.inl ⟨(nI v, nI e, nI (i + 1), x4, t3, h3', x7, x8), ⟨rfl, rfl, rfl, rfl, rfl, rfl, rfl⟩, rfl⟩
        · rintro ⟨x1, x2, x3, x4, x5, x6, x7, x8⟩ k ⟨u1, u2, u3, u4, u5, u6, u7⟩
          dsimp only at u1 u2 u3 u4 u5 u6 u7
          subst u1 u2 u3 u4 u5 u6
          unfold b_X5_rains_43
          dsimp only
          rw [if_pos (show (9 : Int32) < nI 10 by decide), u7]
          exact ⟨x5, x6, rfl⟩
      have B : ∃ m' h', lfix (b_X6_rains_55 fu ML (M 1) (M 3) MR (M 17) (M 19)) fu (nI v, nI e, (-1 : Int32), (9 : Int32), upd (upd (upd m1 35 (m1 9)) 36 (m1 11)) 37 (m1 10), r1', w1, M 22) = some (ff (fun rr => decide (wg (ks v) (pt (ks v) (ps v) (ity y e)) (itd rr d e) w q l = 1)) 10 0, (m', r1', w1, h')) ∧ ∀ j, j < 35 → j ≠ 33 → m' j = m1 j := by
        refine lf (b_X6_rains_55 fu ML (M 1) (M 3) MR (M 17) (M 19)) (fun i x => x.1 = nI v ∧ x.2.1 = nI e ∧ x.2.2.1 = ff (fun rr => decide (wg (ks v) (pt (ks v) (ps v) (ity y e)) (itd rr d e) w q l = 1)) i (10 - i) ∧ x.2.2.2.1 = nI (10 - i) + (-1) ∧ KP m1 x.2.2.2.2.1 ∧ x.2.2.2.2.2.1 = r1' ∧ x.2.2.2.2.2.2.1 = w1) 10 (fun o => ∃ m' h', o = some (ff (fun rr => decide (wg (ks v) (pt (ks v) (ps v) (ity y e)) (itd rr d e) w q l = 1)) 10 0, (m', r1', w1, h')) ∧ ∀ j, j < 35 → j ≠ 33 → m' j = m1 j) ?_ ?_ fu 0 _ (Nat.zero_le _) (by omega) ⟨rfl, rfl, rfl, rfl, KP.keeps, rfl, rfl⟩
        · rintro i ⟨x1, x2, x3, x4, x5, x6, x7, x8⟩ k hi ⟨u1, u2, u3, u4, u5, u6, u7⟩
          dsimp only at u1 u2 u3 u4 u5 u6 u7
          subst u1 u2 u3 u4 u6 u7
          have e9 : nI (10 - i) + (-1) = nI (9 - i) := by rw [show 10 - i = (9 - i) + 1 by omega, pk_m1]
          obtain ⟨m2, a1, a2, a3⟩ := u5.back (fu := fu) (mL := ML)
          have k0 : MD m1 (upd m2 10 (nI (9 - i))) d (9 - i) y := ⟨a3.up (Or.inr (Or.inl rfl)), ⟨(pk_un (by decide)).trans ((a2 9 (by decide) (by decide)).trans hd0), hS.1.2.2⟩, ⟨pk_us, by omega⟩, (pk_un (by decide)).trans ((a2 11 (by decide) (by decide)).trans hy0), hS.2.2.1.2.2⟩
          left
          obtain ⟨m3, mh, e5, e6⟩ := lf (b_X6_rains_73 fu ML (M 1) (M 3) MR (M 17) (M 19) k) (fun j x => x.1 = nI v ∧ x.2.1 = nI e ∧ x.2.2.1 = ff (fun rr => decide (wg (ks v) (pt (ks v) (ps v) (ity y e)) (itd rr d e) w q l = 1)) i (10 - i) ∧ x.2.2.2.1 = nI (9 - i) ∧ x.2.2.2.2.1 = nI j ∧ x.2.2.2.2.2.2.1 = x6 ∧ x.2.2.2.2.2.2.2.1 = x7 ∧ MD m1 x.2.2.2.2.2.1 (itd (9 - i) d j) (9 - i) (ity y j)) e (fun o => ∃ m3 mh, o = k (nI v, nI e, ff (fun rr => decide (wg (ks v) (pt (ks v) (ps v) (ity y e)) (itd rr d e) w q l = 1)) (i + 1) (9 - i), nI (9 - i) + (-1), m3, x6, x7, mh) ∧ KP m1 m3)
            (by
              rintro j ⟨z1, z2, z3, z4, z5, z6, z7, z8, z9⟩ k2 hj ⟨p1, p2, p3, p4, p5, p6, p7, p8⟩
              dsimp only at p1 p2 p3 p4 p5 p6 p7 p8
              subst p1 p2 p3 p4 p5 p6 p7
              obtain ⟨m4, b1, b2⟩ := p8.pass (fu := fu) (mL := ML)
              left
              unfold b_X6_rains_73
              dsimp only
              rw [if_neg (nI_ge hj (by omega)), b1, Option.bind_some, nI_1 j]
              exact ⟨(nI v, nI e, _, nI (9 - i), nI (j + 1), m4, z7, z8, z9), ⟨rfl, rfl, rfl, rfl, rfl, rfl, rfl, b2⟩, rfl⟩)
            (by
              rintro ⟨z1, z2, z3, z4, z5, z6, z7, z8, z9⟩ k2 ⟨p1, p2, p3, p4, p5, p6, p7, p8⟩
              dsimp only at p1 p2 p3 p4 p5 p6 p7 p8
              subst p1 p2 p3 p4 p5 p6 p7
              obtain ⟨m4, mh, b1, b2⟩ := s_gets (fu := fu) (mL := ML) (h := z9) hf (e3.md p8) (g5.kp p8.1)
              unfold b_X6_rains_73 b_X6_rains_105
              dsimp only
              rw [if_pos (nI_le (Nat.le_refl _) (by omega)), b1, Option.bind_some]
              dsimp only
              by_cases c : wg (ks v) (pt (ks v) (ps v) (ity y e)) (itd (9 - i) d e) w q l = 1
              · rw [bI_t c, if_neg n10, ff_t (decide_eq_true c)]
                exact ⟨_, _, rfl, p8.1.sm b2⟩
              · rw [bI_f c, if_pos p00, ff_f (fun e => c (of_decide_eq_true e)), show 9 - i + 1 = 10 - i by omega]
                exact ⟨_, _, rfl, p8.1.sm b2⟩) fu 0 (nI v, nI e, ff (fun rr => decide (wg (ks v) (pt (ks v) (ps v) (ity y e)) (itd rr d e) w q l = 1)) i (10 - i), nI (9 - i), (0 : Int32), upd m2 10 (nI (9 - i)), x6, x7, x8) (Nat.zero_le _) (by omega) ⟨rfl, rfl, rfl, rfl, rfl, rfl, rfl, k0⟩
          unfold b_X6_rains_55
          dsimp only
          rw [e9, if_neg (nI_pos (by omega)), a1, Option.bind_some, e5]
          exact ⟨_, ⟨rfl, rfl, by rw [show 10 - (i + 1) = 9 - i by omega], by rw [show 10 - (i + 1) = 9 - i by omega], e6, rfl, rfl⟩, rfl⟩
        · rintro ⟨x1, x2, x3, x4, x5, x6, x7, x8⟩ k ⟨u1, u2, u3, u4, u5, u6, u7⟩
          dsimp only at u1 u2 u3 u4 u5 u6 u7
          subst u1 u2 u3 u4 u6 u7
          obtain ⟨m2, a1, a2, a3⟩ := u5.back (fu := fu) (mL := ML)
          unfold b_X6_rains_55
          dsimp only
          rw [if_pos (show nI (10 - 10) + (-1) < 0 by decide), a1, Option.bind_some]
          exact ⟨_, _, rfl, a2⟩
      obtain ⟨tr, th, A⟩ := A
      obtain ⟨m', h', B, B2⟩ := B
      rw [s_keeps, Option.bind_some, A, B]
      exact ⟨_, _, rfl, rfl, rfl, h.go rfl rfl rfl rfl rfl rfl rfl rfl rfl (fun j hj => (B2 j (by omega) (by omega)).trans (h3 j (by omega))) rfl rfl rfl rfl rfl rfl rfl rfl (h4)⟩
    · rw [bI_t c1, bI_f c2, if_neg n10, if_neg n10, if_pos p00, if_pos p00]
      obtain ⟨c, r1, t1, s1, m1, r1', w1, h1, h2, h3, h4, h5⟩ := R_word h hS hH v1 v2 0 12 0 (fun e => ⟨fun q => absurd rfl q, fun q => absurd rfl q.2⟩) (by decide)
      rw [h1, h2, Option.bind_some, Option.bind_some]
      dsimp only
      rcases h5 with c0 | ⟨c0, ok, -⟩
      · rw [if_neg c0, if_neg c0]
        exact ⟨_, _, rfl, rfl, rfl, h.go rfl rfl rfl rfl rfl rfl rfl rfl rfl (m21 h3) rfl rfl rfl rfl rfl rfl rfl rfl h4⟩
      · exact absurd rfl ok
  · rw [bI_f c1, if_pos p00, if_pos p00]
    obtain ⟨c, r1, t1, s1, m1, r1', w1, h1, h2, h3, h4, h5⟩ := R_word h hS hH v1 v2 0 12 0 (fun e => ⟨fun q => absurd rfl q, fun q => absurd rfl q.2⟩) (by decide)
    rw [h1, h2, Option.bind_some, Option.bind_some]
    dsimp only
    rcases h5 with c0 | ⟨c0, ok, -⟩
    · rw [if_neg c0, if_neg c0]
      exact ⟨_, _, rfl, rfl, rfl, h.go rfl rfl rfl rfl rfl rfl rfl rfl rfl (m21 h3) rfl rfl rfl rfl rfl rfl rfl rfl h4⟩
    · exact absurd rfl ok

theorem R_37 (fu : Nat) (C : Nat → Nat → Int32) (E : Nat → Int64) (M : Nat → Nat → Int32) (ML : Nat → Int64) (MR : Nat → Nat → Int64) (MV : Nat → Int64) (MY : Nat → Nat → Int32) (h : Rel fu C E M ML MR MV MY) (v1 : Int32) (v2 : Int32) (v3 : Int32) (v4 : Int32) : ∃ (oX : Int32 × ((Nat → Int32) × (Nat → Int32) × (Nat → Int32) × (Nat → Int32) × (Nat → Int32) × (Nat → Int32) × (Nat → Int32))) (oM : Int32 × ((Nat → Int32) × (Nat → Int32) × (Nat → Int32) × (Nat → Int32) × (Nat → Int32))), m_X5_alike fu (C 0) (C 1) (C 2) (C 4) (C 14) (C 15) E (C 19) (C 20) (C 21) (C 22) (C 23) (C 24) (C 25) v1 v2 v3 v4 = some oX ∧ m_X6_alike fu (M 0) ML (M 1) (M 3) MR (M 16) (M 17) (M 19) (M 21) (M 22) (M 23) v1 v2 v3 v4 = some oM ∧ oX.1 = oM.1 ∧ Rel fu (upC (upC (upC (upC (upC (upC (upC C 19 oX.2.1) 20 oX.2.2.1) 21 oX.2.2.2.1) 22 oX.2.2.2.2.1) 23 oX.2.2.2.2.2.1) 24 oX.2.2.2.2.2.2.1) 25 oX.2.2.2.2.2.2.2) E (upC (upC (upC (upC (upC M 0 oM.2.1) 16 oM.2.2.1) 21 oM.2.2.2.1) 22 oM.2.2.2.2.1) 23 oM.2.2.2.2.2) ML MR MV MY := by
  obtain ⟨hf, ⟨d, r, y, w, q, n, ks, as, ps, hS, hH⟩, hT, hr⟩ := id h
  obtain ⟨hn1, hn2, hn8⟩ := hS.2.2.2.2.2.2.1
  unfold m_X5_alike m_X6_alike b_X5_alike_24 b_X5_alike_25 b_X5_alike_104 b_X6_alike_26 b_X6_alike_27
  simp only [s_isVoice, s_mVoice, Option.bind_some, hn1, hn2]
  by_cases c1 : 0 ≤ v3 ∧ v3 ≤ nI n - 1
  · by_cases c2 : 0 ≤ v4 ∧ v4 ≤ nI n - 1
    · rw [bI_t c1, bI_t c2, if_neg n10, if_neg n10, if_neg n10, if_neg n10]
      obtain ⟨v, hv, rfl⟩ := v_ok hn8 c1
      have hv8 : v < 8 := by omega
      obtain ⟨o, ho, rfl⟩ := v_ok hn8 c2
      have ho8 : o < 8 := by omega
      obtain ⟨c, r1, t1, s1, m1, r1', w1, h1, h2, h3, h4, h5⟩ := R_word h hS hH v1 v2 1 12 1 (fun e => ⟨fun q => ⟨e.2, q⟩, fun q => q.2⟩) (by decide)
      rw [h1, h2, Option.bind_some, Option.bind_some]
      dsimp only
      rcases h5 with c0 | ⟨c0, ok, s', l, g1, g2, g3, g4, g5, g6⟩
      · rw [if_neg c0, if_neg c0]
        exact ⟨_, _, rfl, rfl, rfl, h.go rfl rfl rfl rfl rfl rfl rfl rfl rfl (m21 h3) rfl rfl rfl rfl rfl rfl rfl rfl h4⟩
      rw [if_pos c0, if_pos c0]
      have hl12 := g4.2.1
      obtain ⟨t', a1, a2, -⟩ := s_standsFor (fu := fu) (t := C 20) (v := v) hS hv8
      obtain ⟨t2, h2', a3, -, a4, a5⟩ := s_hears (fu := fu) (h := C 21) hf a2 g4
      obtain ⟨o', b1, b2, -⟩ := s_standsFor (fu := fu) (t := C 22) (v := o) hS ho8
      obtain ⟨o2, oh, b3, -, b4, b5⟩ := s_hears (fu := fu) (h := C 23) hf b2 g4
      have hl1 := ec_len (k := ks v) (p := pt (ks v) (ps v) y) (d := d) (w := l)
      have hl2 := ec_len (k := ks o) (p := pt (ks o) (ps o) y) (d := d) (w := l)
      rw [a1, Option.bind_some, a3, Option.bind_some, b1, Option.bind_some, b3, Option.bind_some]
      dsimp only
      rw [s_sameAs hf a4 (by omega) a5 ec_lt b4 (by omega) b5 ec_lt, Option.bind_some]
      have e3 := s_MT (m' := m1) (v := v) hS (m21 h3) (by omega)
      have e4 := s_MT (m' := m1) (v := o) hS (m21 h3) (by omega)
      obtain ⟨m2, mh, p1, p2, p3, p4⟩ := s_listen (fu := fu) (mL := ML) (h := M 22) hf e3 g5
      rw [p1, Option.bind_some]
      dsimp only
      have hlt1 : ∀ x ∈ ec (ks v) (pt (ks v) (ps v) y) d l, x < 40 := ec_lt
      have hlt2 : ∀ x ∈ ec (ks o) (pt (ks o) (ps o) y) d l, x < 40 := ec_lt
      have L2 : ∀ (mm : Nat → Int32) (h : Nat → Int32), SM m1 mm → ∃ m' h', m_X6_listen fu mm ML (M 17) (M 19) w1 h (nI o) = some (m', h') ∧ SM mm m' ∧ m' 33 = nI (ec (ks o) (pt (ks o) (ps o) y) d l).length ∧ Bf h' (ec (ks o) (pt (ks o) (ps o) y) d l) := fun mm h s => s_listen hf (e4.sm s) (g5.sm s)
      generalize ec (ks v) (pt (ks v) (ps v) y) d l = V at a4 a5 hl1 p3 p4 hlt1 ⊢
      generalize ec (ks o) (pt (ks o) (ps o) y) d l = O at b4 b5 hl2 L2 hlt2 ⊢
      rw [p3]
      obtain ⟨m', h', oo, B, B2⟩ : ∃ m' h' oo, lfix (b_X6_alike_54 fu ML (M 1) (M 3) MR (M 17) (M 19)) fu (nI o, nI V.length, (0 : Int32), m2, r1', w1, mh, M 23) = some (bI (V = O), (m', r1', w1, h', oo)) ∧ SM m1 m' := by
        refine lf (b_X6_alike_54 fu ML (M 1) (M 3) MR (M 17) (M 19)) (fun i x => x.1 = nI o ∧ x.2.1 = nI V.length ∧ x.2.2.1 = nI i ∧ x.2.2.2.1 = m2 ∧ x.2.2.2.2.1 = r1' ∧ x.2.2.2.2.2.1 = w1 ∧ x.2.2.2.2.2.2.1 = mh ∧ Bf x.2.2.2.2.2.2.2 (V.take i)) V.length (fun z => ∃ m' h' oo, z = some (bI (V = O), (m', r1', w1, h', oo)) ∧ SM m1 m') ?_ ?_ fu 0 _ (Nat.zero_le _) (by omega) ⟨rfl, rfl, rfl, rfl, rfl, rfl, rfl, by rw [List.take_zero]; exact Bf_nil⟩
        · rintro i ⟨x1, x2, x3, x4, x5, x6, x7, x8⟩ k hi ⟨u1, u2, u3, u4, u5, u6, u7, u8⟩
          dsimp only at u1 u2 u3 u4 u5 u6 u7 u8
          subst u1 u2 u3 u4 u5 u6 u7
          have hx := List.getElem?_eq_getElem hi
          left
          unfold b_X6_alike_54
          dsimp only
          rw [if_neg (by rw [p3]; exact nI_ge hi (by omega)), gd_t (inb_n (by omega) (by decide)), gd_t (inb_n (by omega) (by decide)), nI_clamp (by omega), p4 i _ hx, nI_1]
          refine ⟨(nI o, nI V.length, nI (i + 1), x4, x5, x6, x7, upd x8 i (nI V[i])), ⟨rfl, rfl, rfl, rfl, rfl, rfl, rfl, ?_⟩, rfl⟩
          have := Bf_push (x := V[i]) u8
          rw [List.length_take, Nat.min_eq_left (by omega)] at this
          rw [List.take_add_one, hx]
          exact this
        · rintro ⟨x1, x2, x3, x4, x5, x6, x7, x8⟩ k ⟨u1, u2, u3, u4, u5, u6, u7, u8⟩
          dsimp only at u1 u2 u3 u4 u5 u6 u7 u8
          subst u1 u2 u3 u4 u5 u6 u7
          rw [List.take_length] at u8
          obtain ⟨m3, h3', q1, q2, q3, q4⟩ := L2 x4 x7 p2
          unfold b_X6_alike_54 b_X6_alike_103
          dsimp only
          rw [if_pos (by rw [p3]; exact nI_le (Nat.le_refl _) (by omega)), q1, Option.bind_some]
          dsimp only
          by_cases c : O.length = V.length
          · rw [if_pos (by rw [q3, c]), s_alike2 hf q3 (by omega) q4 hlt2 u8 hlt1 (Or.inl ⟨rfl, c.symm⟩)]
            exact ⟨_, _, _, rfl, p2.tr q2⟩
          · rw [if_neg (by rw [q3]; exact fun e => c ((nI_eq (by omega) (by omega)).mp e)), s_alike2 hf q3 (by omega) q4 hlt2 u8 hlt1 (Or.inr ⟨rfl, fun e => c e.symm⟩)]
            exact ⟨_, _, _, rfl, p2.tr q2⟩
      rw [B]
      by_cases c : V = O
      · rw [bI_t c, if_neg n10]
        exact ⟨_, _, rfl, rfl, rfl, h.go rfl rfl rfl rfl rfl rfl rfl rfl rfl (m21s h3 B2) rfl rfl rfl rfl rfl rfl rfl rfl (h4)⟩
      · rw [bI_f c, if_pos p00]
        exact ⟨_, _, rfl, rfl, rfl, h.go rfl rfl rfl rfl rfl rfl rfl rfl rfl (m21s h3 B2) rfl rfl rfl rfl rfl rfl rfl rfl (h4)⟩
    · rw [bI_t c1, bI_f c2, if_neg n10, if_neg n10, if_pos p00, if_pos p00]
      obtain ⟨c, r1, t1, s1, m1, r1', w1, h1, h2, h3, h4, h5⟩ := R_word h hS hH v1 v2 0 12 0 (fun e => ⟨fun q => absurd rfl q, fun q => absurd rfl q.2⟩) (by decide)
      rw [h1, h2, Option.bind_some, Option.bind_some]
      dsimp only
      rcases h5 with c0 | ⟨c0, ok, -⟩
      · rw [if_neg c0, if_neg c0]
        exact ⟨_, _, rfl, rfl, rfl, h.go rfl rfl rfl rfl rfl rfl rfl rfl rfl (m21 h3) rfl rfl rfl rfl rfl rfl rfl rfl h4⟩
      · exact absurd rfl ok
  · rw [bI_f c1, if_pos p00, if_pos p00]
    obtain ⟨c, r1, t1, s1, m1, r1', w1, h1, h2, h3, h4, h5⟩ := R_word h hS hH v1 v2 0 12 0 (fun e => ⟨fun q => absurd rfl q, fun q => absurd rfl q.2⟩) (by decide)
    rw [h1, h2, Option.bind_some, Option.bind_some]
    dsimp only
    rcases h5 with c0 | ⟨c0, ok, -⟩
    · rw [if_neg c0, if_neg c0]
      exact ⟨_, _, rfl, rfl, rfl, h.go rfl rfl rfl rfl rfl rfl rfl rfl rfl (m21 h3) rfl rfl rfl rfl rfl rfl rfl rfl h4⟩
    · exact absurd rfl ok
