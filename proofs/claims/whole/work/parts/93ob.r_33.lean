theorem R_33 (fu : Nat) (C : Nat → Nat → Int32) (E : Nat → Int64) (M : Nat → Nat → Int32) (ML : Nat → Int64) (MR : Nat → Nat → Int64) (MV : Nat → Int64) (MY : Nat → Nat → Int32) (h : Rel fu C E M ML MR MV MY) (v1 : Int32) (v2 : Int32) (v3 : Int32) (v4 : Int32) (v5 : Int32) : ∃ (oX : Int32 × ((Nat → Int32) × (Nat → Int32) × (Nat → Int32) × (Nat → Int32) × (Nat → Int32) × (Nat → Int32) × (Nat → Int32))) (oM : Int32 × ((Nat → Int32) × (Nat → Int64) × (Nat → Int32) × (Nat → Int32) × (Nat → Int32))), m_X5_odds fu (C 0) (C 1) (C 2) (C 4) (C 14) (C 15) E (C 19) (C 20) (C 21) (C 24) (C 25) (C 31) (C 32) v1 v2 v3 v4 v5 = some oX ∧ m_X6_odds fu (M 0) ML (M 1) (M 3) MR (M 16) (M 17) (M 19) (M 21) (M 22) v1 v2 v3 v4 v5 = some oM ∧ oX.1 = oM.1 ∧ Rel fu (upC (upC (upC (upC (upC (upC (upC C 19 oX.2.1) 20 oX.2.2.1) 21 oX.2.2.2.1) 24 oX.2.2.2.2.1) 25 oX.2.2.2.2.2.1) 31 oX.2.2.2.2.2.2.1) 32 oX.2.2.2.2.2.2.2) E (upC (upC (upC (upC M 0 oM.2.1) 16 oM.2.2.2.1) 21 oM.2.2.2.2.1) 22 oM.2.2.2.2.2) oM.2.2.1 MR MV MY := by
  obtain ⟨hf, ⟨d, r, y, w, q, n, ks, as, ps, hS, hH⟩, hT, hr⟩ := id h
  obtain ⟨hn1, hn2, hn8⟩ := hS.2.2.2.2.2.2.1
  unfold m_X5_odds m_X6_odds b_X5_odds_35 b_X5_odds_36 b_X6_odds_41 b_X6_odds_42
  simp only [s_isVoice, s_mVoice, s_isWithin, s_i (x := v4) (A := 0) (B := 3) (a := 0) (b := 3) rfl rfl, s_i (x := v5) (A := 0) (B := 1) (a := 0) (b := 1) rfl rfl, Option.bind_some, hn1, hn2]
  by_cases c1 : 0 ≤ v3 ∧ v3 ≤ nI n - 1
  · by_cases c2 : 0 ≤ v4 ∧ v4 ≤ 3
    · by_cases c3 : 0 ≤ v5 ∧ v5 ≤ 1
      · rw [bI_t c1, bI_t c2, bI_t c3, if_neg n10, if_neg n10, if_neg n10, if_neg n10, if_neg n10, if_neg n10]
        obtain ⟨v, hv, rfl⟩ := v_ok hn8 c1
        have hv8 : v < 8 := by omega
        obtain ⟨t, ht, rfl⟩ := i_rng (m := 3) (by decide) c2
        obtain ⟨e, he, rfl⟩ := i_rng (m := 1) (by decide) c3
        obtain ⟨c, r1, t1, s1, m1, r1', w1, h1, h2, h3, h4, h5⟩ := R_word h hS hH v1 v2 1 12 1 (fun e => ⟨fun q => ⟨e.2, q⟩, fun q => q.2⟩) (by decide)
        rw [h1, h2, Option.bind_some, Option.bind_some]
        dsimp only
        rcases h5 with c0 | ⟨c0, ok, s', l, g1, g2, g3, g4, g5, g6⟩
        · rw [if_neg c0, if_neg c0]
          exact ⟨_, _, rfl, rfl, rfl, h.go rfl rfl rfl rfl rfl rfl rfl rfl rfl (m21 h3) rfl rfl rfl rfl rfl rfl rfl rfl h4⟩
        rw [if_pos c0, if_pos c0]
        have e3 := s_MT (m' := m1) (v := v) hS (m21 h3) (by omega)
        obtain ⟨t', e1, e2, -⟩ := s_standsFor (fu := fu) (t := C 20) (v := v) hS (by omega)
        rw [e1, Option.bind_some]
        have hd0 : C 1 0 = nI d := hS.1.1
        have hd40 := hS.1.2.2
        obtain ⟨A, hA⟩ : ∃ A : Nat, A = if e = 0 then 1000000 else 1000 := ⟨_, rfl⟩
        obtain ⟨Y, hY⟩ : ∃ Y, Y = if e = 0 then fs (yg (ks v) (ps v) (ity y t) w q l) t d else fs (fun d => d) t d := ⟨_, rfl⟩
        have hA2 : A = 1000 ∨ A = 1000000 := by rw [hA]; split <;> simp
        have X : ∃ tr th wy wt, b_X5_odds_75 fu (C 0) (C 1) (C 2) (C 4) (C 14) (C 15) E (nI t) (nI e) (nI A) r1 t' (C 21) t1 s1 (C 31) (C 32) = some (nI (A / 10 ^ t * Y), (r1, tr, th, t1, s1, wy, wt)) := by
          unfold b_X5_odds_75
          refine lf (b_X5_odds_80 fu (C 0) (C 1) (C 2) (C 4) (C 14) (C 15) E) (fun i x => x.1 = nI t ∧ x.2.1 = nI e ∧ x.2.2.1 = nI A ∧ x.2.2.2.1 = nI i ∧ x.2.2.2.2.1 = r1 ∧ x.2.2.2.2.2.1 = t' ∧ x.2.2.2.2.2.2.2.1 = t1 ∧ x.2.2.2.2.2.2.2.2.1 = s1 ∧ ∀ j, j < i → x.2.2.2.2.2.2.2.2.2.1 j = nI (if j = d then 1 else 0)) 41 (fun o => ∃ tr th wy wt, o = some (nI (A / 10 ^ t * Y), (r1, tr, th, t1, s1, wy, wt))) ?_ ?_ fu 0 _ (Nat.zero_le _) (by omega) ⟨rfl, rfl, rfl, rfl, rfl, rfl, rfl, rfl, fun j hj => absurd hj (by omega)⟩
          · rintro i ⟨x1, x2, x3, x4, x5, x6, x7, x8, x9, x10, x11⟩ k2 hi ⟨u1, u2, u3, u4, u5, u6, u7, u8, u9⟩
            dsimp only at u1 u2 u3 u4 u5 u6 u7 u8 u9
            subst u1 u2 u3 u4 u5 u6 u7 u8
            have hw : ∀ b : Int32, b = nI (if i = d then 1 else 0) → ∀ j, j < i + 1 → upd x10 i b j = nI (if j = d then 1 else 0) := fun b hb j hj => by
              by_cases c : j = i
              · subst c; exact pk_us.trans hb
              · exact (pk_un c).trans (u9 j (by omega))
            left
            unfold b_X5_odds_80 b_X5_odds_110
            dsimp only
            rw [if_neg (show ¬ (40 : Int32) < nI i from nI_nlt (a := 40) (by omega) (by decide)), gd_t (inb41 hi), gd_t (inb41 hi), nI_clamp (by omega), nI_1]
            by_cases c : i = d
            · rw [if_pos (show nI i = C 1 0 by rw [hd0, c])]
              refine ⟨_, ?_, rfl⟩
              exact ⟨rfl, rfl, rfl, rfl, rfl, rfl, rfl, rfl, hw 1 (by rw [if_pos c]; rfl)⟩
            · rw [if_neg (show ¬ nI i = C 1 0 by rw [hd0]; exact fun q => c ((nI_eq (by omega) (by omega)).mp q))]
              refine ⟨_, ?_, rfl⟩
              exact ⟨rfl, rfl, rfl, rfl, rfl, rfl, rfl, rfl, hw 0 (by rw [if_neg c]; rfl)⟩
          · rintro ⟨x1, x2, x3, x4, x5, x6, x7, x8, x9, x10, x11⟩ k2 ⟨u1, u2, u3, u4, u5, u6, u7, u8, u9⟩
            dsimp only at u1 u2 u3 u4 u5 u6 u7 u8 u9
            subst u1 u2 u3 u4 u5 u6 u7 u8
            unfold b_X5_odds_80
            dsimp only
            rw [if_pos (show (40 : Int32) < nI 41 by decide)]
            have U0 : ∀ h : Nat → Nat, su (fun i => (if i = d then 1 else 0) * h i) 41 = fs h 0 d := fun h => by
              have := su_up (W := fun _ => 0) (h := h) (e := d) (a := 1) 41 (by omega)
              rw [su_c (f := fun i => (if i = d then 1 else 0) * h i) (g := fun i => (if i = d then (fun _ => 0) i + 1 else (fun _ => 0) i) * h i) 41 (fun i _ => rfl), this, su_c (f := fun i => (fun _ => 0) i * h i) (g := fun _ => 0) 41 (fun i _ => Nat.zero_mul _), su_0, Nat.one_mul, Nat.zero_add]
              rfl
            refine lf (b_X5_odds_120 fu (C 0) (C 1) (C 2) (C 4) (C 14) (C 15) E) (fun i x => x.1 = nI t ∧ x.2.1 = nI e ∧ x.2.2.1 = nI (A / 10 ^ i) ∧ x.2.2.2.1 = nI i ∧ x.2.2.2.2.1 = x5 ∧ (∃ d', TR x.2.2.2.2.2.1 (ks v) (ps v) d' r (ity y i) w q) ∧ x.2.2.2.2.2.2.2.1 = x8 ∧ x.2.2.2.2.2.2.2.2.1 = x9 ∧ ∃ W, WY x.2.2.2.2.2.2.2.2.2.1 W ∧ ∀ h : Nat → Nat, su (fun i => W i * h i) 41 = fs h i d) t (fun o => ∃ tr th wy wt, o = some (nI (A / 10 ^ t * Y), (x5, tr, th, x8, x9, wy, wt))) ?_ ?_ fu 0 _ (Nat.zero_le _) (by omega) ⟨rfl, rfl, by rw [Nat.pow_zero, Nat.div_one], rfl, rfl, ⟨d, e2⟩, rfl, rfl, _, u9, U0⟩
            · rintro i ⟨z1, z2, z3, z4, z5, z6, z7, z8, z9, z10, z11⟩ k3 hi ⟨w1, w2, w3, w4, w5, ⟨d', w6⟩, w7, w8, W, w9, w10⟩
              dsimp only at w1 w2 w3 w4 w5 w6 w7 w8 w9
              subst w1 w2 w3 w4 w5 w7 w8
              obtain ⟨wy', wt', W', a1, a2, a3⟩ := s_spread (fu := fu) (t := C 0) (wt := z11) hf w9 w10
              obtain ⟨tr', a4, a5⟩ := w6.pass (fu := fu)
              have hAi : A / 10 ^ i < 2 ^ 31 := Nat.lt_of_le_of_lt (Nat.div_le_self _ _) (by rcases hA2 with q | q <;> rw [q] <;> decide)
              left
              unfold b_X5_odds_120
              dsimp only
              rw [if_neg (nI_ge hi (by omega)), a1, Option.bind_some, a4, Option.bind_some, nI_1, show nI (A / 10 ^ i) / (10 : Int32) = nI (A / 10 ^ i / 10) from pk_div (d := 10) hAi (by decide) (by decide)]
              refine ⟨_, ?_, rfl⟩
              exact ⟨rfl, rfl, by rw [Nat.pow_succ, Nat.div_div_eq_div_mul], rfl, rfl, ⟨_, a5⟩, rfl, rfl, W', a2, a3⟩
            · rintro ⟨z1, z2, z3, z4, z5, z6, z7, z8, z9, z10, z11⟩ k3 ⟨w1, w2, w3, w4, w5, ⟨d', w6⟩, w7, w8, W, w9, w10⟩
              dsimp only at w1 w2 w3 w4 w5 w6 w7 w8 w9
              subst w1 w2 w3 w4 w5 w7 w8
              have hb : ∀ i, i < 41 → W i < 2 ^ 31 := fun i hi => by
                have h1 := su_le (f := fun i => W i * 1) 41 i hi
                rw [w10 (fun _ => 1), fs_one] at h1
                have h2 : W i * 1 ≤ 10 ^ t := h1
                have h3 : (10 : Nat) ^ t ≤ 10 ^ 3 := Nat.pow_le_pow_right (by decide) ht
                omega
              unfold b_X5_odds_120 b_X5_odds_169
              dsimp only
              rw [if_pos (nI_le (Nat.le_refl _) (by omega))]
              rcases (show e = 0 ∨ e = 1 by omega) with rfl | rfl
              · obtain ⟨t2, h2, a1⟩ := s_waysToYes (fu := fu) (t := C 0) (th := z7) hf w6 g4 w9 hb
                rw [if_pos (show nI 0 = 0 from rfl), a1, Option.bind_some, w10 (fun i => if wg (ks v) (pt (ks v) (ps v) (ity y t)) i w q l = 1 then 1 else 0)]
                dsimp only
                rw [pk_mul, hY, if_pos (show (0 : Nat) = 0 from rfl)]
                exact ⟨_, _, _, _, rfl⟩
              · rw [if_neg (show ¬ nI 1 = 0 by decide), s_depthsOfWays hf w9, Option.bind_some, w10 (fun i => i)]
                dsimp only
                rw [pk_mul, hY, if_neg (show ¬ (1 : Nat) = 0 by decide)]
                exact ⟨_, _, _, _, rfl⟩
        have hYb : Y ≤ 40 * 10 ^ t := by
          rw [hY]
          split
          · exact Nat.le_trans (fs_le (c := 1) (fun d => by unfold yg; split <;> omega) t d) (Nat.mul_le_mul_right _ (by decide))
          · have : ∀ t d, d ≤ 40 → fs (fun d => d) t d ≤ 40 * 10 ^ t := by
              intro t
              induction t with
              | zero => intro d hd; show d ≤ 40 * 1; omega
              | succ t ih =>
                intro d hd
                have h2 : ∀ n, su (fun r => fs (fun d => d) t (dn d r)) n ≤ n * (40 * 10 ^ t) := by
                  intro n
                  induction n with
                  | zero => exact Nat.zero_le _
                  | succ n ihn =>
                    rw [su_s, Nat.succ_mul]
                    have := ih (dn d n) dn_le
                    omega
                have h3 := h2 10
                rw [fs_s, Nat.pow_succ, ← Nat.mul_assoc, Nat.mul_comm (40 * 10 ^ t) 10]
                exact h3
            exact this t d hd40
        have h10t : (10 : Nat) ^ t ≤ 1000 := by
          have := Nat.pow_le_pow_right (n := 10) (by decide) ht
          exact this
        have Bm : ∃ m' L' h', ((m_X6_fans fu (upd (upd (upd m1 35 (m1 9)) 36 (m1 11)) 37 (m1 10)) (vp_updL (vp_updL ML 38 (0 : Int64)) 39 (0 : Int64)) (M 17) (M 19) w1 (M 22) (nI v) (nI t)).bind fun o9 => (m_X6_goesBack fu o9.1 o9.2.1).bind fun o11 => (if nI t = 0 then b_X6_odds_114 fu (M 1) (M 3) MR (M 17) (M 19) (nI e) (1 : Int32) o11 o9.2.1 r1' w1 o9.2.2 else (if nI t = (1 : Int32) then b_X6_odds_114 fu (M 1) (M 3) MR (M 17) (M 19) (nI e) (10 : Int32) o11 o9.2.1 r1' w1 o9.2.2 else (if nI t = (2 : Int32) then b_X6_odds_114 fu (M 1) (M 3) MR (M 17) (M 19) (nI e) (100 : Int32) o11 o9.2.1 r1' w1 o9.2.2 else b_X6_odds_114 fu (M 1) (M 3) MR (M 17) (M 19) (nI e) (1000 : Int32) o11 o9.2.1 r1' w1 o9.2.2)))) = some (nI (A / 10 ^ t * Y), (m', L', r1', w1, h')) ∧ ∀ j, j < 35 → j ≠ 33 → m' j = m1 j := by
          have k0 : KP m1 (upd (upd (upd m1 35 (m1 9)) 36 (m1 11)) 37 (m1 10)) := KP.keeps
          obtain ⟨m2, L2, h2, a1, a2, a3, a4⟩ := s_fans (fu := fu) (v := v) hf t 5 (upd (upd (upd m1 35 (m1 9)) 36 (m1 11)) 37 (m1 10)) (M 22) (vp_updL (vp_updL ML 38 (0 : Int64)) 39 (0 : Int64)) d y (by omega) (by omega) (e3.kp k0 e3.2.2.2.1 hd40 e3.2.2.2.2.1 hS.2.2.1.2.2) (g5.kp k0)
          have kk : KP m1 m2 := ⟨fun j q1 q2 q3 q4 q5 => (a2 j q2 q3 q4 q5).trans (k0.1 j q1 q2 q3 q4 q5), (a2 35 (by decide) (by decide) (by decide) (by decide)).trans k0.2.1, (a2 36 (by decide) (by decide) (by decide) (by decide)).trans k0.2.2.1, (a2 37 (by decide) (by decide) (by decide) (by decide)).trans k0.2.2.2⟩
          obtain ⟨m3, b1, b2, -⟩ := kk.back (fu := fu) (mL := L2)
          have a38 : L2 38 = lN (fs (yg (ks v) (ps v) (ity y t) w q l) t d) := a3.trans (Int64.zero_add _)
          have a39 : L2 39 = lN (fs (fun d => d) t d) := a4.trans (Int64.zero_add _)
          unfold m_X6_fans
          rw [a1, Option.bind_some]
          dsimp only
          rw [b1, Option.bind_some]
          have e114 : ∀ s0 : Int32, s0 = nI (10 ^ t) → b_X6_odds_114 fu (M 1) (M 3) MR (M 17) (M 19) (nI e) s0 m3 L2 r1' w1 h2 = some (nI (A / 10 ^ t * Y), (m3, L2, r1', w1, h2)) := by
            rintro s0 rfl
            have hpos : 0 < (10 : Nat) ^ t := Nat.pow_pos (by decide)
            unfold b_X6_odds_114 b_X6_odds_148
            rw [nI_l (by omega), gd_t (show ¬ lN (10 ^ t) = 0 from fun q => absurd ((pk_lEQ (b := 0) (by omega) (by decide)).mp q) (by omega)), gd_t (show ¬ lN (10 ^ t) = 0 from fun q => absurd ((pk_lEQ (b := 0) (by omega) (by decide)).mp q) (by omega)), a38, a39, ← odd_d ht hA2]
            rcases (show e = 0 ∨ e = 1 by omega) with rfl | rfl
            · rw [if_pos (show nI 0 = 0 from rfl), hA, if_pos (show (0 : Nat) = 0 from rfl)]
              rw [if_pos (show (0 : Nat) = 0 from rfl)] at hY
              rw [← hY, show (1000000 : Int64) = lN 1000000 from rfl, lN_mul, pk_lDiv (by omega) hpos (by omega), lN_i]
            · rw [if_neg (show ¬ nI 1 = 0 by decide), hA, if_neg (show ¬ (1 : Nat) = 0 by decide)]
              rw [if_neg (show ¬ (1 : Nat) = 0 by decide)] at hY
              rw [← hY, show (1000 : Int64) = lN 1000 from rfl, lN_mul, pk_lDiv (by omega) hpos (by omega), lN_i]
          refine ⟨m3, L2, h2, ?_, b2⟩
          rcases (show t = 0 ∨ t = 1 ∨ t = 2 ∨ t = 3 by omega) with rfl | rfl | rfl | rfl
          · rw [if_pos (show nI 0 = 0 from rfl)]; exact e114 1 rfl
          · rw [if_neg (show ¬ nI 1 = 0 by decide), if_pos (show nI 1 = (1 : Int32) from rfl)]; exact e114 10 rfl
          · rw [if_neg (show ¬ nI 2 = 0 by decide), if_neg (show ¬ nI 2 = (1 : Int32) by decide), if_pos (show nI 2 = (2 : Int32) from rfl)]; exact e114 100 rfl
          · rw [if_neg (show ¬ nI 3 = 0 by decide), if_neg (show ¬ nI 3 = (1 : Int32) by decide), if_neg (show ¬ nI 3 = (2 : Int32) by decide)]; exact e114 1000 rfl
        obtain ⟨tr, th, wy, wt, X⟩ := X
        obtain ⟨m', L', h', B, B2⟩ := Bm
        rw [s_keeps, Option.bind_some, B]
        rcases (show e = 0 ∨ e = 1 by omega) with rfl | rfl
        · rw [if_pos (show (0 : Nat) = 0 from rfl)] at hA
          rw [if_pos (show nI 0 = 0 from rfl), show (1000000 : Int32) = nI A from by rw [hA]; rfl, X]
          exact ⟨_, _, rfl, rfl, rfl, h.go rfl rfl rfl rfl rfl rfl rfl rfl rfl (fun j hj => (B2 j (by omega) (by omega)).trans (h3 j (by omega))) rfl rfl rfl rfl rfl rfl rfl rfl (h4)⟩
        · rw [if_neg (show ¬ (1 : Nat) = 0 by decide)] at hA
          rw [if_neg (show ¬ nI 1 = 0 by decide), show (1000 : Int32) = nI A from by rw [hA]; rfl, X]
          exact ⟨_, _, rfl, rfl, rfl, h.go rfl rfl rfl rfl rfl rfl rfl rfl rfl (fun j hj => (B2 j (by omega) (by omega)).trans (h3 j (by omega))) rfl rfl rfl rfl rfl rfl rfl rfl (h4)⟩
      · rw [bI_t c1, bI_t c2, bI_f c3, if_neg n10, if_neg n10, if_neg n10, if_neg n10, if_pos p00, if_pos p00]
        obtain ⟨c, r1, t1, s1, m1, r1', w1, h1, h2, h3, h4, h5⟩ := R_word h hS hH v1 v2 0 12 0 (fun e => ⟨fun q => absurd rfl q, fun q => absurd rfl q.2⟩) (by decide)
        rw [h1, h2, Option.bind_some, Option.bind_some]
        dsimp only
        rcases h5 with c0 | ⟨c0, ok, -⟩
        · rw [if_neg c0, if_neg c0]
          exact ⟨_, _, rfl, rfl, rfl, h.go rfl rfl rfl rfl rfl rfl rfl rfl rfl (m21 h3) rfl rfl rfl rfl rfl rfl rfl rfl h4⟩
        · exact absurd rfl ok
    · rw [bI_t c1, bI_f c2, if_neg n10, if_neg n10, if_pos p00, if_pos p00]
      obtain ⟨c, r1, t1, s1, m1, r1', w1, h1, h2, h3, h4, h5⟩ := R_word h hS hH v1 v2 0 12 0 (fun e => ⟨fun q => absurd rfl q, fun q => absurd rfl q.2⟩) (by decide)
      rw [h1, h2, Option.bind_some, Option.bind_some]
      dsimp only
      rcases h5 with c0 | ⟨c0, ok, -⟩
      · rw [if_neg c0, if_neg c0]
        exact ⟨_, _, rfl, rfl, rfl, h.go rfl rfl rfl rfl rfl rfl rfl rfl rfl (m21 h3) rfl rfl rfl rfl rfl rfl rfl rfl h4⟩
      · exact absurd rfl ok
  · rw [bI_f c1, if_pos p00, if_pos p00]
    obtain ⟨c, r1, t1, s1, m1, r1', w1, h1, h2, h3, h4, h5⟩ := R_word h hS hH v1 v2 0 12 0 (fun e => ⟨fun q => absurd rfl q, fun q => absurd rfl q.2⟩) (by decide)
    rw [h1, h2, Option.bind_some, Option.bind_some]
    dsimp only
    rcases h5 with c0 | ⟨c0, ok, -⟩
    · rw [if_neg c0, if_neg c0]
      exact ⟨_, _, rfl, rfl, rfl, h.go rfl rfl rfl rfl rfl rfl rfl rfl rfl (m21 h3) rfl rfl rfl rfl rfl rfl rfl rfl h4⟩
    · exact absurd rfl ok
