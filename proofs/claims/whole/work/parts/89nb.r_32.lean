theorem R_32 (fu : Nat) (C : Nat → Nat → Int32) (E : Nat → Int64) (M : Nat → Nat → Int32) (ML : Nat → Int64) (MR : Nat → Nat → Int64) (MV : Nat → Int64) (MY : Nat → Nat → Int32) (h : Rel fu C E M ML MR MV MY) (v1 : Int32) (v2 : Int32) (v3 : Int32) (v4 : Int32) (v5 : Int32) : ∃ (oX : Int32 × ((Nat → Int32) × (Nat → Int32) × (Nat → Int32) × (Nat → Int32) × (Nat → Int32))) (oM : Int32 × ((Nat → Int32) × (Nat → Int32) × (Nat → Int32) × (Nat → Int32) × (Nat → Int32))), m_X5_buckets fu (C 0) (C 1) (C 2) (C 4) (C 14) (C 15) E (C 19) (C 20) (C 21) (C 24) (C 25) v1 v2 v3 v4 v5 = some oX ∧ m_X6_buckets fu (M 0) ML (M 1) (M 3) MR (M 16) (M 17) (M 19) (M 21) (M 22) (M 36) v1 v2 v3 v4 v5 = some oM ∧ oX.1 = oM.1 ∧ Rel fu (upC (upC (upC (upC (upC C 19 oX.2.1) 20 oX.2.2.1) 21 oX.2.2.2.1) 24 oX.2.2.2.2.1) 25 oX.2.2.2.2.2) E (upC (upC (upC (upC (upC M 0 oM.2.1) 16 oM.2.2.1) 21 oM.2.2.2.1) 22 oM.2.2.2.2.1) 36 oM.2.2.2.2.2) ML MR MV MY := by
  obtain ⟨hf, ⟨d, r, y, w, q, n, ks, as, ps, hS, hH⟩, hT, hr⟩ := id h
  obtain ⟨hn1, hn2, hn8⟩ := hS.2.2.2.2.2.2.1
  unfold m_X5_buckets m_X6_buckets b_X5_buckets_36 b_X5_buckets_37 b_X6_buckets_41 b_X6_buckets_42
  simp only [s_isVoice, s_mVoice, s_isWithin, s_i (x := v4) (A := 0) (B := 8) (a := 0) (b := 8) rfl rfl, s_i (x := v5) (A := 0) (B := 1) (a := 0) (b := 1) rfl rfl, Option.bind_some, hn1, hn2]
  by_cases c1 : 0 ≤ v3 ∧ v3 ≤ nI n - 1
  · by_cases c2 : 0 ≤ v4 ∧ v4 ≤ 8
    · by_cases c3 : 0 ≤ v5 ∧ v5 ≤ 1
      · rw [bI_t c1, bI_t c2, bI_t c3, if_neg n10, if_neg n10, if_neg n10, if_neg n10, if_neg n10, if_neg n10]
        obtain ⟨v, hv, rfl⟩ := v_ok hn8 c1
        have hv8 : v < 8 := by omega
        obtain ⟨k, hk, rfl⟩ := i_rng (m := 8) (by decide) c2
        obtain ⟨e, he, rfl⟩ := i_rng (m := 1) (by decide) c3
        obtain ⟨c, r1, t1, s1, m1, r1', w1, h1, h2, h3, h4, h5⟩ := R_word h hS hH v1 v2 1 12 1 (fun e => ⟨fun q => ⟨e.2, q⟩, fun q => q.2⟩) (by decide)
        rw [h1, h2, Option.bind_some, Option.bind_some]
        dsimp only
        rcases h5 with c0 | ⟨c0, ok, s', l, g1, g2, g3, g4, g5, g6⟩
        · rw [if_neg c0, if_neg c0]
          exact ⟨_, _, rfl, rfl, rfl, h.go rfl rfl rfl rfl rfl rfl rfl rfl rfl (m21 h3) rfl rfl rfl rfl rfl rfl rfl rfl h4⟩
        rw [if_pos c0, if_pos c0]
        have e3 := s_MT (m' := m1) (v := v) hS (m21 h3) (by omega)
        obtain ⟨t', th', d', e1, -⟩ := s_depthsOfYes (fu := fu) (t := C 0) (tr := C 20) (th := C 21) (v := v) hf hS hv8 g4
        rw [e1, Option.bind_some]
        dsimp only
        obtain ⟨f, hfd⟩ : ∃ f, f = dys (ks v) (ps v) y w q l := ⟨_, rfl⟩
        rw [← hfd]
        have hd0 : C 1 0 = nI d := hS.1.1
        have hd40 := hS.1.2.2
        have A : lfix (b_X5_buckets_66 fu (C 0) (C 1) (C 2) (C 4) (C 14) (C 15) E) fu (nI e, lN (bs f 41), (0 : Int64), nI k - 1, r1, t', th', t1, s1) = some (if e = 0 then bI (gm f k true d = true) else if k = 0 then -1 else fm_v (gm f (k - 1) false) d, (r1, t', th', t1, s1)) := by
          refine lf (b_X5_buckets_66 fu (C 0) (C 1) (C 2) (C 4) (C 14) (C 15) E) (fun i x => x = (nI e, lN (bs (gm f i (decide ((k - i) % 2 = 0))) 41), (if i = 0 then (0 : Int64) else lN (bs (gm f (i - 1) (decide ((k - (i - 1)) % 2 = 0))) 41)), nI (k - i) - 1, r1, t', th', t1, s1)) k (fun o => o = some (if e = 0 then bI (gm f k true d = true) else if k = 0 then -1 else fm_v (gm f (k - 1) false) d, (r1, t', th', t1, s1))) ?_ ?_ fu 0 _ (Nat.zero_le _) (by omega) rfl
          · rintro i x k2 hi rfl
            obtain ⟨tt, htt⟩ : ∃ tt, k - i = tt + 1 := ⟨k - i - 1, by omega⟩
            left
            refine ⟨_, rfl, ?_⟩
            unfold b_X5_buckets_66 b_X5_buckets_89
            dsimp only
            rw [htt, nI_pred, if_neg (nI_pos (by omega)), show nI tt - nI tt / (2 : Int32) * (2 : Int32) = nI (tt % 2) from pk_rem (d := 2) (by omega) (by decide) (by decide), show k - (i + 1) = tt by omega, if_neg (show ¬ i + 1 = 0 by omega), Nat.add_sub_cancel, htt, show nI tt + (-1 : Int32) = nI tt - 1 from (Int32.sub_eq_add_neg _ _).symm]
            have hb : gm f (i + 1) (decide (tt % 2 = 0)) = wb (gm f i (decide ((tt + 1) % 2 = 0))) (decide (tt % 2 = 0)) := by
              show wb (gm f i (!decide (tt % 2 = 0))) (decide (tt % 2 = 0)) = _
              rw [show (!decide (tt % 2 = 0)) = decide ((tt + 1) % 2 = 0) from by
                rcases (show tt % 2 = 0 ∨ tt % 2 = 1 by omega) with q | q
                · rw [q, show (tt + 1) % 2 = 1 by omega]; rfl
                · rw [q, show (tt + 1) % 2 = 0 by omega]; rfl]
            rw [hb]
            rcases (show tt % 2 = 0 ∨ tt % 2 = 1 by omega) with q | q
            · rw [q, if_pos (show nI 0 = 0 from rfl), s_wonBefore, Option.bind_some]
              rfl
            · rw [q, if_neg (show ¬ nI 1 = 0 by decide), s_wonBefore, Option.bind_some]
              rfl
          · rintro x k2 rfl
            unfold b_X5_buckets_66 b_X5_buckets_125
            dsimp only
            rw [Nat.sub_self, if_pos (show nI 0 - (1 : Int32) < 0 by decide), show decide (0 % 2 = 0) = true from rfl, hd0]
            rcases (show e = 0 ∨ e = 1 by omega) with rfl | rfl
            · rw [if_pos (show nI 0 = 0 from rfl), s_isInB (by omega), Option.bind_some, if_pos (show (0 : Nat) = 0 from rfl)]
              dsimp only
              cases gm f k true d <;> rfl
            · rw [if_neg (show ¬ nI 1 = 0 by decide), if_neg (show ¬ (1 : Nat) = 0 by decide)]
              by_cases ck : k = 0
              · rw [if_pos ck, if_pos ck, show (0 : Int64) = lN (bs (fun _ => false) 41) from by rw [bs_ff]; rfl, s_firstMove hd0 hd40, Option.bind_some]
                rfl
              · rw [if_neg ck, if_neg ck, s_firstMove hd0 hd40, Option.bind_some, show k - (k - 1) = 1 by omega]
                rfl
        have B : ∃ m' h' yb', lfix (b_X6_buckets_64 fu ML (M 1) (M 3) MR (M 17) (M 19)) fu (nI v, nI k, nI e, upd (upd (upd (upd m1 35 (m1 9)) 36 (m1 11)) 37 (m1 10)) 9 0, r1', w1, M 22, M 36) = some (if e = 0 then bI (gm f k true d = true) else if k = 0 then -1 else fm_v (gm f (k - 1) false) d, (m', r1', w1, h', yb')) ∧ ∀ j, j < 35 → j ≠ 33 → m' j = m1 j := by
          refine lf (b_X6_buckets_64 fu ML (M 1) (M 3) MR (M 17) (M 19)) (fun i x => x.1 = nI v ∧ x.2.1 = nI k ∧ x.2.2.1 = nI e ∧ (KP m1 x.2.2.2.1 ∧ x.2.2.2.1 9 = nI i ∧ x.2.2.2.1 11 = m1 11) ∧ x.2.2.2.2.1 = r1' ∧ x.2.2.2.2.2.1 = w1 ∧ ∀ j, j < i → x.2.2.2.2.2.2.2 j = bI (f j = true)) 41 (fun o => ∃ m' h' yb', o = some (if e = 0 then bI (gm f k true d = true) else if k = 0 then -1 else fm_v (gm f (k - 1) false) d, (m', r1', w1, h', yb')) ∧ ∀ j, j < 35 → j ≠ 33 → m' j = m1 j) ?_ ?_ fu 0 _ (Nat.zero_le _) (by omega) ⟨rfl, rfl, rfl, ⟨KP.keeps.up (Or.inl rfl), rfl, rfl⟩, rfl, rfl, fun j hj => absurd hj (by omega)⟩
          · rintro i ⟨x1, x2, x3, x4, x5, x6, x7, x8⟩ k2 hi ⟨u1, u2, u3, ⟨k1, k2', k3⟩, u6, u7, u8⟩
            dsimp only at u1 u2 u3 k1 k2' k3 u6 u7 u8
            subst u1 u2 u3 u6 u7
            obtain ⟨m2, mh, a1, a2⟩ := s_gets (fu := fu) (mL := ML) (h := x7) hf (e3.at k1 k2' (by omega) k3) (g5.kp k1)
            have hm9 : m2 9 = nI i := (a2 9 (by decide)).trans k2'
            have hK : KP m1 (upd m2 9 (nI (i + 1))) ∧ upd m2 9 (nI (i + 1)) 9 = nI (i + 1) ∧ upd m2 9 (nI (i + 1)) 11 = m1 11 := ⟨(k1.sm a2).up (Or.inl rfl), pk_us, (pk_un (by decide)).trans ((a2 11 (by decide)).trans k3)⟩
            left
            unfold b_X6_buckets_64
            dsimp only
            rw [if_neg (show ¬ (40 : Int32) < x4 9 by rw [k2']; exact nI_nlt (a := 40) (by omega) (by decide)), a1, Option.bind_some, gd_t (show inb (x4 9) 41 by rw [k2']; exact inb_n hi (by decide))]
            dsimp only
            rw [gd_t bI_bz, hm9, k2', nI_1, nI_clamp (by omega)]
            refine ⟨(_, _, _, _, _, _, _, _), ⟨rfl, rfl, rfl, hK, rfl, rfl, fun j hj => ?_⟩, rfl⟩
            show upd x8 i _ j = _
            by_cases c : j = i
            · subst c
              rw [pk_us, hfd]
              exact bI_c ⟨fun q => decide_eq_true q, fun q => of_decide_eq_true q⟩
            · exact (pk_un c).trans (u8 j (by omega))
          · rintro ⟨x1, x2, x3, x4, x5, x6, x7, x8⟩ k2 ⟨u1, u2, u3, ⟨k1, k2', k3⟩, u6, u7, u8⟩
            dsimp only at u1 u2 u3 k1 k2' k3 u6 u7 u8
            subst u1 u2 u3 u6 u7
            obtain ⟨m2, a1, a2, -⟩ := k1.back (fu := fu) (mL := ML)
            have hm9 : m2 9 = nI d := (a2 9 (by decide) (by decide)).trans ((h3 9 (by decide)).trans hS.1.2.1)
            unfold b_X6_buckets_64 b_X6_buckets_128
            dsimp only
            rw [if_pos (show (40 : Int32) < x4 9 by rw [k2']; decide), a1, Option.bind_some, hm9]
            rcases (show e = 0 ∨ e = 1 by omega) with rfl | rfl
            · rw [if_pos (show nI 0 = 0 from rfl), s_makes (B := 1) (b := true) hf u8 hk hd40 rfl, Option.bind_some, if_pos (show (0 : Nat) = 0 from rfl)]
              dsimp only
              refine ⟨m2, x7, x8, ?_, a2⟩
              cases gm f k true d <;> rfl
            · rw [if_neg (show ¬ nI 1 = 0 by decide), if_neg (show ¬ (1 : Nat) = 0 by decide)]
              refine ⟨m2, x7, x8, ?_, a2⟩
              refine lf (b_X6_buckets_132 fu ML (M 1) (M 3) MR (M 17) (M 19)) (fun j x => x = (nI k, nI j, m2, x5, x6, x7, x8) ∧ ∀ i, i < j → ¬ k = 0 ∧ ¬ gm f (k - 1) false (mv d i) = true) 3 (fun o => o = some (if k = 0 then -1 else fm_v (gm f (k - 1) false) d, (m2, x5, x6, x7, x8))) ?_ ?_ fu 0 _ (Nat.zero_le _) (by omega) ⟨rfl, fun i hi => absurd hi (by omega)⟩
              · rintro j x k4 hj ⟨rfl, h2⟩
                unfold b_X6_buckets_132 b_X6_buckets_176
                dsimp only
                rw [if_neg (show ¬ (3 : Int32) ≤ nI j from nI_ge (b := 3) hj (by decide))]
                by_cases ck : k = 0
                · right
                  rw [if_pos ck, if_pos (show nI k ≤ 0 by rw [ck]; decide)]
                · rw [if_neg ck, if_neg (nI_nle (by omega) (by omega))]
                  have hh : m_X6_held fu ((m2 9 + nI j) - 1) = some (nI (mv d j), ()) := by
                    rw [hm9, nI_add, show (1 : Int32) = nI 1 from rfl, s_heldI (pk_sub_toInt (by omega) (by decide))]
                    congr 3
                    rcases (show j = 0 ∨ j = 1 ∨ j = 2 by omega) with rfl | rfl | rfl
                    · show _ = d - 1; omega
                    · show _ = d; omega
                    · show _ = min 40 (d + 1); omega
                  obtain ⟨kk, hkk⟩ : ∃ kk, k = kk + 1 := ⟨k - 1, by omega⟩
                  rw [hh, Option.bind_some, show nI k - 1 = nI (k - 1) from by rw [hkk, nI_pred, Nat.add_sub_cancel]]
                  dsimp only
                  rw [s_makes (B := 0) (b := false) hf u8 (show k - 1 ≤ 8 by omega) (mv_le hd40) rfl, Option.bind_some]
                  dsimp only
                  by_cases c : gm f (k - 1) false (mv d j) = true
                  · right
                    rw [bI_t c, if_neg n10]
                    congr 2
                    unfold fm_v
                    rcases (show j = 0 ∨ j = 1 ∨ j = 2 by omega) with rfl | rfl | rfl
                    · rw [if_pos c]; rfl
                    · rw [if_neg (h2 0 (by decide)).2, if_pos c]; rfl
                    · rw [if_neg (h2 0 (by decide)).2, if_neg (h2 1 (by decide)).2, if_pos c]; rfl
                  · left
                    rw [bI_f c, if_pos p00, nI_1]
                    exact ⟨_, ⟨rfl, fun i hi => by
                      rcases Nat.lt_or_ge i j with q | q
                      · exact h2 i q
                      · have : i = j := by omega
                        subst this; exact ⟨ck, c⟩⟩, rfl⟩
              · rintro x k4 ⟨rfl, h2⟩
                unfold b_X6_buckets_132 b_X6_buckets_176
                dsimp only
                rw [if_pos (show (3 : Int32) ≤ nI 3 by decide), if_neg (h2 0 (by decide)).1]
                congr 2
                unfold fm_v
                rw [if_neg (h2 0 (by decide)).2, if_neg (h2 1 (by decide)).2, if_neg (h2 2 (by decide)).2]
        obtain ⟨m', h', yb', B, B2⟩ := B
        rw [A, s_keeps, Option.bind_some, B]
        exact ⟨_, _, rfl, rfl, rfl, h.go rfl rfl rfl rfl rfl rfl rfl rfl rfl (fun j hj => (B2 j (by omega) (by omega)).trans (h3 j (by omega))) rfl rfl rfl rfl rfl rfl rfl rfl (h4)⟩
      · rw [bI_t c1, bI_t c2, bI_f c3, if_neg n10, if_neg n10, if_neg n10, if_neg n10, if_pos p00, if_pos p00]
        obtain ⟨c, r1, t1, s1, m1, r1', w1, h1, h2, h3, h4, h5⟩ := R_word h hS hH v1 v2 0 12 0 (fun e => ⟨fun q => absurd rfl q, fun q => absurd rfl q.2⟩) (by decide)
        rw [h1, h2, Option.bind_some, Option.bind_some]
        dsimp only
        rcases h5 with c0 | ⟨c0, ok, -⟩
        · rw [if_neg c0, if_neg c0]
          exact ⟨_, _, rfl, rfl, rfl, h.go rfl rfl rfl rfl rfl rfl rfl rfl rfl (m21 h3) rfl rfl rfl rfl rfl rfl rfl rfl h4⟩
        · exact absurd rfl ok
    · rw [bI_t c1, bI_f c2, if_neg n10, if_neg n10, if_pos p00, if_pos p00]
      obtain ⟨c, r1, t1, s1, m1, r1', w1, h1, h2, h3, h4, h5⟩ := R_word h hS hH v1 v2 0 12 0 (fun e => ⟨fun q => absurd rfl q, fun q => absurd rfl q.2⟩) (by decide)
      rw [h1, h2, Option.bind_some, Option.bind_some]
      dsimp only
      rcases h5 with c0 | ⟨c0, ok, -⟩
      · rw [if_neg c0, if_neg c0]
        exact ⟨_, _, rfl, rfl, rfl, h.go rfl rfl rfl rfl rfl rfl rfl rfl rfl (m21 h3) rfl rfl rfl rfl rfl rfl rfl rfl h4⟩
      · exact absurd rfl ok
  · rw [bI_f c1, if_pos p00, if_pos p00]
    obtain ⟨c, r1, t1, s1, m1, r1', w1, h1, h2, h3, h4, h5⟩ := R_word h hS hH v1 v2 0 12 0 (fun e => ⟨fun q => absurd rfl q, fun q => absurd rfl q.2⟩) (by decide)
    rw [h1, h2, Option.bind_some, Option.bind_some]
    dsimp only
    rcases h5 with c0 | ⟨c0, ok, -⟩
    · rw [if_neg c0, if_neg c0]
      exact ⟨_, _, rfl, rfl, rfl, h.go rfl rfl rfl rfl rfl rfl rfl rfl rfl (m21 h3) rfl rfl rfl rfl rfl rfl rfl rfl h4⟩
    · exact absurd rfl ok
