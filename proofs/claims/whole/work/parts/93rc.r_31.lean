theorem R_31 (fu : Nat) (C : Nat → Nat → Int32) (E : Nat → Int64) (M : Nat → Nat → Int32) (ML : Nat → Int64) (MR : Nat → Nat → Int64) (MV : Nat → Int64) (MY : Nat → Nat → Int32) (h : Rel fu C E M ML MR MV MY) (v1 : Int32) (v2 : Int32) (v3 : Int32) : ∃ (oX : Int32 × ((Nat → Int32) × (Nat → Int32) × (Nat → Int32) × (Nat → Int32) × (Nat → Int32) × (Nat → Int32) × (Nat → Int32) × (Nat → Int32))) (oM : Int32 × ((Nat → Int32) × (Nat → Int32) × (Nat → Int32) × (Nat → Int32) × (Nat → Nat → Int32) × (Nat → Int32))), m_X5_suits fu (C 0) (C 1) (C 2) (C 4) (C 14) (C 15) E (C 19) (C 20) (C 21) (C 24) (C 25) (C 28) (C 29) (C 30) v1 v2 v3 = some oX ∧ m_X6_suits fu (M 0) ML (M 1) (M 3) MR (M 16) (M 17) (M 19) (M 21) (M 22) MY (M 35) v1 v2 v3 = some oM ∧ oX.1 = oM.1 ∧ Rel fu (upC (upC (upC (upC (upC (upC (upC (upC C 19 oX.2.1) 20 oX.2.2.1) 21 oX.2.2.2.1) 24 oX.2.2.2.2.1) 25 oX.2.2.2.2.2.1) 28 oX.2.2.2.2.2.2.1) 29 oX.2.2.2.2.2.2.2.1) 30 oX.2.2.2.2.2.2.2.2) E (upC (upC (upC (upC (upC M 0 oM.2.1) 16 oM.2.2.1) 21 oM.2.2.2.1) 22 oM.2.2.2.2.1) 35 oM.2.2.2.2.2.2) ML MR MV oM.2.2.2.2.2.1 := by
  obtain ⟨hf, ⟨d, r, y, w, q, n, ks, as, ps, hS, hH⟩, hT, hr⟩ := id h
  obtain ⟨hn1, hn2, hn8⟩ := hS.2.2.2.2.2.2.1
  unfold m_X5_suits m_X6_suits b_X5_suits_13 b_X6_suits_15
  by_cases c2 : v3 < -1
  · rw [if_pos c2, if_pos c2]
    obtain ⟨c, r1, t1, s1, m1, r1', w1, h1, h2, h3, h4, h5⟩ := R_word h hS hH v1 v2 0 12 0 (fun e => ⟨fun q => absurd rfl q, fun q => absurd rfl q.2⟩) (by decide)
    rw [h1, h2, Option.bind_some, Option.bind_some]
    dsimp only
    rcases h5 with c0 | ⟨c0, ok, -⟩
    · rw [if_neg c0, if_neg c0]
      exact ⟨_, _, rfl, rfl, rfl, h.go rfl rfl rfl rfl rfl rfl rfl rfl rfl (m21 h3) rfl rfl rfl rfl rfl rfl rfl rfl h4⟩
    · exact absurd rfl ok
  · rw [if_neg c2, if_neg c2]
    obtain ⟨c, r1, t1, s1, m1, r1', w1, h1, h2, h3, h4, h5⟩ := R_word h hS hH v1 v2 1 12 1 (fun e => ⟨fun q => ⟨e.2, q⟩, fun q => q.2⟩) (by decide)
    rw [h1, h2, Option.bind_some, Option.bind_some]
    dsimp only
    rcases h5 with c0 | ⟨c0, ok, s', l, g1, g2, g3, g4, g5, g6⟩
    · rw [if_neg c0, if_neg c0]
      exact ⟨_, _, rfl, rfl, rfl, h.go rfl rfl rfl rfl rfl rfl rfl rfl rfl (m21 h3) rfl rfl rfl rfl rfl rfl rfl rfl h4⟩
    rw [if_pos c0, if_pos c0]
    have hd40 := hS.1.2.2
    have hm16 : m1 16 = nI n := (h3 16 (by decide)).trans hn2
    obtain ⟨hw1, hw2, hw3, hw4⟩ := hS.2.2.2.1
    obtain ⟨Y, hY⟩ : ∃ Y : Nat → Nat → Bool, Y = fun v k => decide (wg (ks v) (pt (ks v) (ps v) y) (min 40 (d + k)) w q l = 1) := ⟨_, rfl⟩
    have hY1 : ∀ v k, Y v k = true ↔ wg (ks v) (pt (ks v) (ps v) y) (min 40 (d + k)) w q l = 1 := fun v k => by rw [hY]; exact decide_eq_true_iff
    obtain ⟨m2, mh, YR, more, s1', s2, s3, s4⟩ := s_findSuits (fu := fu) (mL := ML) (mh := M 22) (YR := MY) (more := M 35) (Y := Y) hf hn8 hm16 ((h3 9 (by decide)).trans hS.1.2.1) hd40 (fun v hv => s_MT (m' := m1) (v := v) hS (m21 h3) (by omega)) g5 hY1
    have hmm : ∀ j, j < 21 → m2 j = M 0 j := fun j hj => (s2 j (by omega) (by omega)).trans (h3 j (by omega))
    have hm216 : m2 16 = nI n := (s2 16 (by decide) (by decide)).trans hm16
    have h256 := p2_256 hn8
    have h0n : 0 < 2 ^ n := Nat.two_pow_pos n
    rw [s1', Option.bind_some]
    dsimp only
    -- the class's side, when there are so many voices
    have X : v3 < nI n → ∃ a tr th ya mf nf, lfix (b_X5_suits_47 fu (C 0) (C 1) (C 2) (C 4) (C 14) (C 15) E) fu (v3, (0 : Int32), r1, C 20, C 21, t1, s1, C 28, C 29, C 30) = some (a, (r1, tr, th, t1, s1, ya, mf, nf)) ∧ ((v3 = -1 ∧ a = nI (mo_w n Y 0)) ∨ (¬ v3 = -1 ∧ m_X5_voiceInOrder fu (C 0) nf v3 = some (a, ()) ∧ ∀ S, S < 2 ^ n → FV n Y S (nf S))) := by
      intro _
      refine lf (b_X5_suits_47 fu (C 0) (C 1) (C 2) (C 4) (C 14) (C 15) E) (fun i x => x.1 = v3 ∧ x.2.1 = nI i ∧ x.2.2.1 = r1 ∧ x.2.2.2.2.2.1 = t1 ∧ x.2.2.2.2.2.2.1 = s1 ∧ ∀ k, k < i → ∃ f, x.2.2.2.2.2.2.2.1 k = nI (bs f n) ∧ ∀ v, v < n → f v = Y v k) 8 (fun o => ∃ a tr th ya mf nf, o = some (a, (r1, tr, th, t1, s1, ya, mf, nf)) ∧ ((v3 = -1 ∧ a = nI (mo_w n Y 0)) ∨ (¬ v3 = -1 ∧ m_X5_voiceInOrder fu (C 0) nf v3 = some (a, ()) ∧ ∀ S, S < 2 ^ n → FV n Y S (nf S)))) ?_ ?_ fu 0 _ (Nat.zero_le _) (by omega) ⟨rfl, rfl, rfl, rfl, rfl, fun k hk => absurd hk (by omega)⟩
      · rintro i ⟨x1, x2, x3, x4, x5, x6, x7, x8, x9, x10⟩ k2 hi ⟨u1, u2, u3, u4, u5, u6⟩
        dsimp only at u1 u2 u3 u4 u5 u6
        have hdep : (if (C 1 0 + x2) < (40 : Int32) then (C 1 0 + x2) else (40 : Int32)) = nI (min 40 (d + i)) := by
          rw [hS.1.1, u2, nI_add]
          by_cases c : d + i < 40
          · rw [if_pos (show nI (d + i) < (40 : Int32) from nI_lt (b := 40) c (by decide)), Nat.min_eq_right (by omega)]
          · rw [if_neg (show ¬ nI (d + i) < (40 : Int32) from nI_nlt (b := 40) (by omega) (by omega)), Nat.min_eq_left (by omega)]; rfl
        obtain ⟨t2, h2', a1⟩ := s_voicesOfYes (fu := fu) (t := C 0) (tr := x4) (th := x5) (dd := min 40 (d + i)) (ww := w) hf hS g4 (by omega) hw3 hw4
        left
        unfold b_X5_suits_47
        dsimp only
        rw [hdep, u4, u5, hw1, a1, Option.bind_some, u2, if_neg (show ¬ (8 : Int32) ≤ nI i from nI_ge (b := 8) hi (by decide)), gd_t (inb_n hi (by decide)), nI_clamp (by omega), nI_1, bits_bs n (by omega)]
        refine ⟨_, ?_, rfl⟩
        refine ⟨u1, rfl, u3, rfl, rfl, fun k hk => ?_⟩
        by_cases c : k = i
        · subst c
          exact ⟨_, pk_us, fun v hv => by rw [hY]; rfl⟩
        · obtain ⟨f, f1, f2⟩ := u6 k (by omega)
          exact ⟨f, (pk_un c).trans f1, f2⟩
      · rintro ⟨x1, x2, x3, x4, x5, x6, x7, x8, x9, x10⟩ k2 ⟨u1, u2, u3, u4, u5, u6⟩
        dsimp only at u1 u2 u3 u4 u5 u6
        obtain ⟨mf, nf, a1, a2, a3⟩ := s_findOrder (fu := fu) (t := C 0) (mf := x9) (nf := x10) (Y := Y) hf hn8 hn1 u6
        unfold b_X5_suits_47 b_X5_suits_116
        dsimp only
        rw [if_pos (show (8 : Int32) ≤ x2 by rw [u2]; decide), a1, Option.bind_some, u1, u3, u4, u5]
        dsimp only
        by_cases c3 : v3 = -1
        · rw [if_pos c3, gd_t (show inb (0 : Int32) 256 by decide), show (0 : Int32).toNatClampNeg = 0 from rfl, a2 0 h0n]
          exact ⟨_, _, _, _, _, _, rfl, Or.inl ⟨c3, rfl⟩⟩
        · rw [if_neg c3]
          obtain ⟨j, hj, hje⟩ := i_from c2 c3
          have V : ∃ a, m_X5_voiceInOrder fu (C 0) nf v3 = some (a, ()) := by
            unfold m_X5_voiceInOrder
            refine lf (b_X5_voiceInOrder_7 fu (C 0) nf) (fun i x => x.1 = v3 ∧ x.2.2.2 = nI i ∧ ∃ S, S < 2 ^ n ∧ x.2.1 = nI S ∧ pc S = i) n (fun o => ∃ a, o = some (a, ())) ?_ ?_ fu 0 _ (Nat.zero_le _) (by omega) ⟨rfl, rfl, 0, h0n, rfl, by decide⟩
            · rintro i ⟨z1, z2, z3, z4⟩ k3 hi ⟨w1, w2, S, w3, w4, w5⟩
              dsimp only at w1 w2 w4
              subst w1 w2 w4
              unfold b_X5_voiceInOrder_7 b_X5_voiceInOrder_43
              dsimp only
              by_cases c : z1 < nI i
              · rw [if_pos c]
                exact Or.inr ⟨_, rfl⟩
              · obtain ⟨f, p1, p2, p3, -, -⟩ := a3 S w3 (by omega)
                left
                rw [if_neg c, s_isWithin, Option.bind_some, bI_t (show (0 : Int32) ≤ nI S ∧ nI S ≤ (255 : Int32) from w_0n (m := 255) (by omega) (by decide)), if_neg (show ¬ ((1 : Int32), ()).1 = 0 from n10), gd_t (inb_n (by omega) (by decide)), Option.bind_some, nI_clamp (by omega), p2, orI (show f < 8 by omega), nI_1]
                exact ⟨_, ⟨rfl, rfl, S ||| 2 ^ f, or_lt w3 p1, rfl, by rw [(pc_lt hn8 w3 p1 p3).1, w5]⟩, rfl⟩
            · rintro ⟨z1, z2, z3, z4⟩ k3 ⟨w1, w2, S, w3, w4, w5⟩
              dsimp only at w1 w2 w4
              subst w1 w2 w4
              unfold b_X5_voiceInOrder_7 b_X5_voiceInOrder_43
              dsimp only
              rw [if_pos (by assumption)]
              exact ⟨_, rfl⟩
          obtain ⟨a, V⟩ := V
          rw [V, Option.bind_some]
          exact ⟨_, _, _, _, _, _, rfl, Or.inr ⟨c3, V, a3⟩⟩
    by_cases c3 : v3 = -1
    · obtain ⟨a, tr, th, ya, mf, nf, x1, x2⟩ := X (by rw [c3, i_lt, nI_toInt (by omega), tm1]; omega)
      rw [if_pos (show v3 < C 1 8 by rw [hn1, c3, i_lt, nI_toInt (by omega), tm1]; omega), x1, if_pos c3, gd_t (show inb (0 : Int32) 256 by decide), show (0 : Int32).toNatClampNeg = 0 from rfl, s3 0 h0n]
      have ha : a = nI (mo_w n Y 0) := by
        rcases x2 with ⟨-, q⟩ | ⟨q, -⟩
        · exact q
        · exact absurd c3 q
      exact ⟨_, _, rfl, rfl, ha, h.go rfl rfl rfl rfl rfl rfl rfl rfl rfl (hmm) rfl rfl rfl rfl rfl rfl rfl rfl (h4)⟩
    · rw [if_neg c3]
      by_cases c4 : v3 < nI n
      · obtain ⟨a, tr, th, ya, mf, nf, x1, x2⟩ := X c4
        rw [if_pos (show v3 < C 1 8 by rw [hn1]; exact c4), x1, if_pos (show v3 < m2 16 by rw [hm216]; exact c4)]
        obtain ⟨j, hj, rfl⟩ := i_from c2 c3
        have hjn : j < n := (nI_ltI hj (by omega)).mp c4
        obtain ⟨xv, xf⟩ : m_X5_voiceInOrder fu (C 0) nf (nI j) = some (a, ()) ∧ ∀ S, S < 2 ^ n → FV n Y S (nf S) := by
          rcases x2 with ⟨q, -⟩ | ⟨-, q1, q2⟩
          · exact absurd q c3
          · exact ⟨q1, q2⟩
        have Bm : lfix (b_X6_suits_68 fu ML (M 1) (M 3) MR (M 17) (M 19)) fu (nI j, (0 : Int32), (-1 : Int32), (0 : Int32), m2, r1', w1, mh, YR, more) = some (a, (m2, r1', w1, mh, YR, more)) := by
          unfold m_X5_voiceInOrder at xv
          revert xv
          refine lf2 (b_X5_voiceInOrder_7 fu (C 0) nf) (b_X6_suits_68 fu ML (M 1) (M 3) MR (M 17) (M 19)) (fun i x x' => x.1 = nI j ∧ x.2.2.2 = nI i ∧ (∃ S, S < 2 ^ n ∧ x.2.1 = nI S ∧ pc S = i ∧ x'.2.1 = nI S) ∧ x'.1 = nI j ∧ x'.2.2.1 = x.2.2.1 ∧ x'.2.2.2.1 = nI i ∧ x'.2.2.2.2 = (m2, r1', w1, mh, YR, more)) (j + 1) (fun o o' => o = some (a, ()) → o' = some (a, (m2, r1', w1, mh, YR, more))) ?_ ?_ fu 0 _ _ (Nat.zero_le _) (by omega) ⟨rfl, rfl, ⟨0, h0n, rfl, by decide, rfl⟩, rfl, rfl, rfl, rfl⟩
          · rintro i ⟨z1, z2, z3, z4⟩ ⟨y1, y2, y3, y4, y5⟩ k3 k4 hi ⟨q1, q2, ⟨S, q3, q4, q5, q6⟩, q7, q8, q9, q10⟩
            dsimp only at q1 q2 q4 q6 q7 q8 q9 q10
            subst q1 q2 q4 q6 q7 q8 q9 q10
            obtain ⟨f, p1, p2, p3, p4, p5⟩ := xf S q3 (by omega)
            left
            unfold b_X5_voiceInOrder_7 b_X6_suits_68
            dsimp only
            have hni : ¬ nI j < nI i := nI_nlt (by omega) (by omega)
            rw [if_neg hni, if_neg hni, s_isWithin, Option.bind_some, bI_t (show (0 : Int32) ≤ nI S ∧ nI S ≤ (255 : Int32) from w_0n (m := 255) (by omega) (by decide)), if_neg (show ¬ ((1 : Int32), ()).1 = 0 from n10), gd_t (inb_n (by omega) (by decide)), Option.bind_some, nI_clamp (by omega), p2, orI (show f < 8 by omega), nI_1]
            have l4 := or_lt q3 p1
            have inner : lfix (b_X6_suits_77 fu ML (M 1) (M 3) MR (M 17) (M 19) k4) fu (nI j, nI S, (0 : Int32), nI i, m2, r1', w1, mh, YR, more) = k4 (nI j, nI (S ||| 2 ^ f), nI f, nI (i + 1), m2, r1', w1, mh, YR, more) := by
              have val : ∀ v, v < n → S.testBit v = false → ∃ b : Int32, (b = 0 ∨ b = 1) ∧ YR v i = b ∧ (more (S ||| 2 ^ v) + b = more S ↔ cv_s n Y S v = mo_w n Y S) := by
                intro v hv hb
                obtain ⟨r1, r2, r3⟩ := pc_lt hn8 q3 hv hb
                have hcv : cv_s n Y S v = (if Y v (pc S) = true then 1 else 0) + mo_w n Y (S ||| 2 ^ v) := by unfold cv_s; rw [if_neg (by rw [hb]; decide)]
                have h8 := mw_le (S := S ||| 2 ^ v) (Y := Y) hn8
                have h8' := mw_le (S := S) (Y := Y) hn8
                refine ⟨YR v i, ?_, rfl, ?_⟩
                · rw [s4 v i hv (by omega)]
                  exact bI_bz
                · rw [s3 _ (or_lt q3 hv), s3 _ q3, s4 v i hv (by omega), hcv, q5]
                  by_cases cy : Y v i = true
                  · rw [bI_t cy, if_pos cy, nI_1, nI_eq (by omega) (by omega), Nat.add_comm]
                  · rw [bI_f cy, if_neg cy, Int32.add_zero, Nat.zero_add, nI_eq (by omega) (by omega)]
              have step : ∀ v k5, v < n → b_X6_suits_77 fu ML (M 1) (M 3) MR (M 17) (M 19) k4 k5 (nI j, nI S, nI v, nI i, m2, r1', w1, mh, YR, more) = if S.testBit v = false ∧ cv_s n Y S v = mo_w n Y S then k4 (nI j, nI (S ||| 2 ^ v), nI v, nI (i + 1), m2, r1', w1, mh, YR, more) else k5 (nI j, nI S, nI (v + 1), nI i, m2, r1', w1, mh, YR, more) := by
                intro v k5 hv
                unfold b_X6_suits_77 b_X6_suits_118 b_X6_suits_129
                dsimp only
                rw [sh_8 S (by omega) v (by omega), nI_1, nI_1]
                by_cases ct : S.testBit v = true
                · rw [if_pos ct, if_pos rfl, if_neg (fun q => by rw [ct] at q; exact absurd q.1 (by decide))]
                · have cf : S.testBit v = false := by simpa using ct
                  obtain ⟨b, hb1, hb2, hb3⟩ := val v hv cf
                  have lv := or_lt q3 hv
                  have hv8 : inb (nI v) 8 := inb_n (by omega) (by decide)
                  rw [if_neg ct, if_neg (show ¬ (0 : Int32) = 1 by decide), orI (show v < 8 by omega), gd_t (inb_n (by omega) (by decide)), gd_t hv8, gd_t hv8, gd_t (inb_n (by omega) (by decide)), nI_clamp (show v < 2 ^ 31 by omega), nI_clamp (show i < 2 ^ 31 by omega), nI_clamp (show S ||| 2 ^ v < 2 ^ 31 by omega), gd_t (inb_n (by omega) (by decide)), gd_t (inb_n (by omega) (by decide)), nI_clamp (show S < 2 ^ 31 by omega)]
                  rcases hb1 with rfl | rfl
                  · rw [if_pos hb2]
                    by_cases cc : cv_s n Y S v = mo_w n Y S
                    · rw [if_pos (hb3.mpr cc), if_pos ⟨cf, cc⟩]
                    · rw [if_neg (fun q => cc (hb3.mp q)), if_neg (fun q => cc q.2)]
                  · rw [if_neg (show ¬ YR v i = 0 by rw [hb2]; exact n10)]
                    by_cases cc : cv_s n Y S v = mo_w n Y S
                    · rw [if_pos (hb3.mpr cc), if_pos ⟨cf, cc⟩]
                    · rw [if_neg (fun q => cc (hb3.mp q)), if_neg (fun q => cc q.2)]
              refine lf (b_X6_suits_77 fu ML (M 1) (M 3) MR (M 17) (M 19) k4) (fun v x => x = (nI j, nI S, nI v, nI i, m2, r1', w1, mh, YR, more)) f (fun o => o = k4 (nI j, nI (S ||| 2 ^ f), nI f, nI (i + 1), m2, r1', w1, mh, YR, more)) ?_ ?_ fu 0 _ (Nat.zero_le _) (by omega) rfl
              · rintro v x k5 hv rfl
                refine Or.inl ⟨_, rfl, ?_⟩
                rw [step v k5 (by omega), if_neg (fun q => p5 v hv q.1 q.2)]
              · rintro x k5 rfl
                rw [step f k5 p1, if_pos ⟨p3, p4⟩]
            refine ⟨(nI j, nI (S ||| 2 ^ f), nI f, nI (i + 1)), (nI j, nI (S ||| 2 ^ f), nI f, nI (i + 1), m2, r1', w1, mh, YR, more), ⟨rfl, rfl, ⟨S ||| 2 ^ f, l4, rfl, by rw [(pc_lt hn8 q3 p1 p3).1, q5], rfl⟩, rfl, rfl, rfl, rfl⟩, rfl, inner⟩
          · rintro ⟨z1, z2, z3, z4⟩ ⟨y1, y2, y3, y4, y5⟩ k3 k4 ⟨q1, q2, ⟨S, q3, q4, q5, q6⟩, q7, q8, q9, q10⟩
            dsimp only at q1 q2 q4 q6 q7 q8 q9 q10
            subst q1 q2 q4 q6 q7 q8 q9 q10
            unfold b_X5_voiceInOrder_7 b_X5_voiceInOrder_43 b_X6_suits_68
            dsimp only
            have hlt : nI j < nI (j + 1) := nI_lt (by omega) (by omega)
            rw [if_pos hlt, if_pos hlt]
            intro e
            rw [Option.some.injEq, Prod.mk.injEq] at e
            rw [e.1]
        rw [Bm]
        exact ⟨_, _, rfl, rfl, rfl, h.go rfl rfl rfl rfl rfl rfl rfl rfl rfl (hmm) rfl rfl rfl rfl rfl rfl rfl rfl (h4)⟩
      · rw [if_neg (show ¬ v3 < C 1 8 by rw [hn1]; exact c4), if_neg (show ¬ v3 < m2 16 by rw [hm216]; exact c4), (s_ref fu _ _).2.1, (s_mref fu _ _ _).2.1, Option.bind_some, Option.bind_some]
        exact ⟨_, _, rfl, rfl, rfl, h.go rfl rfl rfl rfl rfl rfl rfl rfl rfl (hmm) rfl rfl rfl rfl rfl rfl rfl rfl (h4.r5)⟩
