-- PURE 14: copies; what a shelf says; image and again
theorem i_nle {a b : Int32} : a < b ↔ ¬ b ≤ a := by rw [i_lt, i_le]; omega
theorem x_places {R : Type} {i j n zp zq : Int32} {A B : R} : (if n < 0 then B else if i < 0 then B else if j < 0 then B else if zp < n then B else if zq < n then B else if zp - n < i then B else if j ≤ zq - n then A else B) = if (((0 ≤ n ∧ n ≤ zp) ∧ (0 ≤ i ∧ i ≤ zp - n)) ∧ ((0 ≤ n ∧ n ≤ zq) ∧ (0 ≤ j ∧ j ≤ zq - n))) then A else B := by
  by_cases g : (((0 ≤ n ∧ n ≤ zp) ∧ (0 ≤ i ∧ i ≤ zp - n)) ∧ ((0 ≤ n ∧ n ≤ zq) ∧ (0 ≤ j ∧ j ≤ zq - n)))
  · obtain ⟨⟨⟨g1, g2⟩, g3, g4⟩, ⟨-, g5⟩, g6, g7⟩ := id g
    rw [if_pos g, if_neg (fun e => i_nle.mp e g1), if_neg (fun e => i_nle.mp e g3), if_neg (fun e => i_nle.mp e g6), if_neg (fun e => i_nle.mp e g2), if_neg (fun e => i_nle.mp e g5), if_neg (fun e => i_nle.mp e g4), if_pos g7]
  · rw [if_neg g]
    by_cases h1 : n < 0
    · rw [if_pos h1]
    rw [if_neg h1]
    by_cases h2 : i < 0
    · rw [if_pos h2]
    rw [if_neg h2]
    by_cases h3 : j < 0
    · rw [if_pos h3]
    rw [if_neg h3]
    by_cases h4 : zp < n
    · rw [if_pos h4]
    rw [if_neg h4]
    by_cases h5 : zq < n
    · rw [if_pos h5]
    rw [if_neg h5]
    by_cases h6 : zp - n < i
    · rw [if_pos h6]
    rw [if_neg h6, if_neg]
    intro h7
    rw [i_nle, Classical.not_not] at h1 h2 h3 h4 h5 h6
    exact g ⟨⟨⟨h1, h4⟩, h2, h6⟩, ⟨h1, h5⟩, h3, h7⟩
theorem s_mcopy {fu p u i j e : Nat} {m : Nat → Int32} {mL : Nat → Int64} {sh rs rz r : Nat → Int32} {MR : Nat → Nat → Int64} {MV : Nat → Int64} (hfu : 5000 ≤ fu) (hp : p < 8) (hu : u < 8) (hi : i + e ≤ 40) (hj : j + e ≤ 40) :
    ∃ R' V', lfix (b_X6_copy_191 fu m mL sh rs rz) fu (nI p, nI u, nI i, nI j, nI e, (0 : Int32), MR, MV, r) = some (nI e, (R', V', r)) ∧ (∀ s, s ≠ u → R' s = MR s) ∧ ∀ x, R' u x = if j ≤ x ∧ x < j + e then MR p (i + (x - j)) else MR u x := by
  refine lf (b_X6_copy_191 fu m mL sh rs rz) (fun k x => x.1 = nI p ∧ x.2.1 = nI u ∧ x.2.2.1 = nI i ∧ x.2.2.2.1 = nI j ∧ x.2.2.2.2.1 = nI e ∧ x.2.2.2.2.2.1 = nI k ∧ x.2.2.2.2.2.2.1 = MR ∧ x.2.2.2.2.2.2.2.2 = r ∧ ∀ k', k' < k → x.2.2.2.2.2.2.2.1 k' = MR p (i + k')) e (fun o => ∃ R' V', o = some (nI e, (R', V', r)) ∧ (∀ s, s ≠ u → R' s = MR s) ∧ ∀ x, R' u x = if j ≤ x ∧ x < j + e then MR p (i + (x - j)) else MR u x) ?_ ?_ fu 0 _ (Nat.zero_le _) (by omega) ⟨rfl, rfl, rfl, rfl, rfl, rfl, rfl, rfl, fun k' h => absurd h (Nat.not_lt_zero _)⟩
  · rintro k ⟨x1, x2, x3, x4, x5, x6, x7, x8, x9⟩ kk hk ⟨e1, e2, e3, e4, e5, e6, e7, e8, e9⟩
    dsimp only at e1 e2 e3 e4 e5 e6 e7 e8 e9
    subst e1 e2 e3 e4 e5 e6 e7 e8
    refine Or.inl ⟨(nI p, nI u, nI i, nI j, nI e, nI (k + 1), x7, vp_updL x8 k (x7 p (i + k)), x9), ⟨rfl, rfl, rfl, rfl, rfl, rfl, rfl, rfl, fun k' h => ?_⟩, ?_⟩
    · dsimp only
      by_cases c : k' = k
      · subst c; exact pk_uLs
      · rw [pk_uLn c]; exact e9 k' (by omega)
    · unfold b_X6_copy_191
      dsimp only
      rw [if_neg (nI_ge hk (by omega)), gd_t (ib8 hp), gd_t (ib8 hp), nI_add, gd_t (inb_n (by omega) (by decide)), gd_t (inb_n (by omega) (by decide)), cl8 hp, nI_clamp (by omega), nI_clamp (by omega), nI_1]
  · rintro ⟨x1, x2, x3, x4, x5, x6, x7, x8, x9⟩ kk ⟨e1, e2, e3, e4, e5, e6, e7, e8, e9⟩
    dsimp only at e1 e2 e3 e4 e5 e6 e7 e8 e9
    subst e1 e2 e3 e4 e5 e6 e7 e8
    unfold b_X6_copy_191
    dsimp only
    rw [if_pos (nI_le (Nat.le_refl _) (by omega))]
    refine lf (b_X6_copy_225 fu m mL sh rs rz) (fun k x => x.1 = nI u ∧ x.2.1 = nI j ∧ x.2.2.1 = nI e ∧ x.2.2.2.1 = nI k ∧ x.2.2.2.2.2.1 = x8 ∧ x.2.2.2.2.2.2 = x9 ∧ (∀ s, s ≠ u → x.2.2.2.2.1 s = x7 s) ∧ ∀ z, x.2.2.2.2.1 u z = if j ≤ z ∧ z < j + k then x7 p (i + (z - j)) else x7 u z) e (fun o => ∃ R' V', o = some (nI e, (R', V', x9)) ∧ (∀ s, s ≠ u → R' s = x7 s) ∧ ∀ x, R' u x = if j ≤ x ∧ x < j + e then x7 p (i + (x - j)) else x7 u x) ?_ ?_ fu 0 _ (Nat.zero_le _) (by omega) ⟨rfl, rfl, rfl, rfl, rfl, rfl, fun _ _ => rfl, fun z => by rw [if_neg (by omega)]⟩
    · rintro k ⟨y1, y2, y3, y4, y5, y6, y7⟩ kk hk ⟨f1, f2, f3, f4, f5, f6, f7, f8⟩
      dsimp only at f1 f2 f3 f4 f5 f6 f7 f8
      subst f1 f2 f3 f4 f5 f6
      refine Or.inl ⟨(nI u, nI j, nI e, nI (k + 1), va_up y5 u (vp_updL (y5 u) (j + k) (y6 k)), y6, y7), ⟨rfl, rfl, rfl, rfl, rfl, rfl, fun s hs => ?_, fun z => ?_⟩, ?_⟩
      · dsimp only
        rw [va_up_ne _ _ hs]; exact f7 s hs
      · dsimp only
        rw [va_up_self]
        by_cases c : z = j + k
        · subst c
          rw [pk_uLs, if_pos (by omega), e9 k hk, show j + k - j = k by omega]
        · rw [pk_uLn c, f8 z]
          by_cases c2 : j ≤ z ∧ z < j + k
          · rw [if_pos c2, if_pos (by omega)]
          · rw [if_neg c2, if_neg (by omega)]
      · unfold b_X6_copy_225
        dsimp only
        rw [if_neg (nI_ge hk (by omega)), gd_t (ib8 hu), gd_t (inb_n (by omega) (by decide)), gd_t (ib8 hu), nI_add, gd_t (inb_n (by omega) (by decide)), cl8 hu, nI_clamp (by omega), nI_clamp (by omega), nI_1]
    · rintro ⟨y1, y2, y3, y4, y5, y6, y7⟩ kk ⟨f1, f2, f3, f4, f5, f6, f7, f8⟩
      dsimp only at f1 f2 f3 f4 f5 f6 f7 f8
      subst f1 f2 f3 f4 f5 f6
      unfold b_X6_copy_225
      dsimp only
      rw [if_pos (nI_le (Nat.le_refl _) (by omega))]
      exact ⟨y5, y6, rfl, f7, f8⟩
theorem RS.cong {d r y w q n : Nat} {ks as ps : Nat → Nat} {now nk na np m mk mb mp now' nk' na' np' m' mk' mb' mp' : Nat → Int32} (h : RS d r y w q n ks as ps now nk na np m mk mb mp)
    (e : ∀ j, j < 9 → now' j = now j) (e2 : ∀ j, 9 ≤ j → j < 17 → m' j = m j) (e3 : m' 20 = m 20) (e4 : ∀ i, i < 8 → (nk' i = nk i ∧ na' i = na i ∧ np' i = np i) ∧ mk' i = mk i ∧ mb' i = mb i ∧ mp' i = mp i) : RS d r y w q n ks as ps now' nk' na' np' m' mk' mb' mp' := by
  obtain ⟨a1, a2, a3, a4, a5, a6, a7, a8⟩ := h
  refine ⟨⟨(e 0 (by decide)).trans a1.1, (e2 9 (by decide) (by decide)).trans a1.2.1, a1.2.2⟩, ⟨(e 1 (by decide)).trans a2.1, (e2 10 (by decide) (by decide)).trans a2.2.1, a2.2.2⟩, ⟨(e 2 (by decide)).trans a3.1, (e2 11 (by decide) (by decide)).trans a3.2.1, a3.2.2⟩, ⟨(e 3 (by decide)).trans a4.1, (e2 12 (by decide) (by decide)).trans a4.2.1, a4.2.2⟩, ⟨(e 4 (by decide)).trans a5.1, (e2 13 (by decide) (by decide)).trans a5.2.1, a5.2.2⟩, ⟨?_, ?_, ?_⟩, ⟨(e 8 (by decide)).trans a7.1, (e2 16 (by decide) (by decide)).trans a7.2.1, a7.2.2⟩, fun i hi => ?_⟩
  · rw [e 5 (by decide), e2 14 (by decide) (by decide)]; exact a6.1
  · rw [e 6 (by decide), e2 15 (by decide) (by decide)]; exact a6.2.1
  · rw [e 7 (by decide), e3]; exact a6.2.2
  · obtain ⟨⟨p1, p2, p3⟩, p4, p5, p6⟩ := e4 i hi
    rw [p1, p2, p3, p4, p5, p6]
    exact a8 i hi
theorem s_copied {fu : Nat} {a b : Nat → Int32} (hfu : 5000 ≤ fu) : ∃ b', m_X6_copied fu 8 8 a b = some b' ∧ ∀ i, i < 8 → b' i = a i := by
  unfold m_X6_copied
  refine lf (b_X6_copied_2 fu 8 8 a) (fun i x => x.1 = nI i ∧ ∀ j, j < i → x.2 j = a j) 8 (fun o => ∃ b', o = some b' ∧ ∀ i, i < 8 → b' i = a i) ?_ ?_ fu 0 _ (Nat.zero_le _) (by omega) ⟨rfl, fun j h => absurd h (Nat.not_lt_zero _)⟩
  · rintro i ⟨x1, x2⟩ k hi ⟨e1, e2⟩
    dsimp only at e1 e2
    subst e1
    refine Or.inl ⟨(nI (i + 1), upd x2 i (a i)), ⟨rfl, fun j h => ?_⟩, ?_⟩
    · dsimp only
      by_cases c : j = i
      · subst c; exact pk_us
      · rw [pk_un c]; exact e2 j (by omega)
    · unfold b_X6_copied_2
      dsimp only
      rw [if_neg (show ¬ Int32.ofNat 8 ≤ nI i from nI_ge (b := 8) hi (by decide)), gd_t (ib8 hi), gd_t (ib8 hi), cl8 hi, nI_1]
  · rintro ⟨x1, x2⟩ k ⟨e1, e2⟩
    dsimp only at e1 e2
    subst e1
    unfold b_X6_copied_2
    dsimp only
    rw [if_pos (show Int32.ofNat 8 ≤ nI 8 by decide)]
    exact ⟨x2, rfl, e2⟩
theorem s_takeFrom {fu : Nat} {t tk tb tp f kk kb kp : Nat → Int32} {tL g : Nat → Int64} (hfu : 5000 ≤ fu) : ∃ t' a b c, m_X6_takeFrom fu t tL tk tb tp f g kk kb kp = some (t', a, b, c) ∧ (∀ j, 9 ≤ j → j < 17 → t' j = f j) ∧ t' 20 = f 20 ∧ (∀ j, j ≠ 20 → (j < 9 ∨ 17 ≤ j) → t' j = t j) ∧ ∀ i, i < 8 → a i = kk i ∧ b i = kb i ∧ c i = kp i := by
  obtain ⟨a, h1, h2⟩ := s_copied (fu := fu) (a := kk) (b := tk) hfu
  obtain ⟨b, h3, h4⟩ := s_copied (fu := fu) (a := kb) (b := tb) hfu
  obtain ⟨c, h5, h6⟩ := s_copied (fu := fu) (a := kp) (b := tp) hfu
  refine ⟨upd (upd (upd (upd (upd (upd (upd (upd (upd t 9 (f 9)) 10 (f 10)) 11 (f 11)) 12 (f 12)) 13 (f 13)) 14 (f 14)) 15 (f 15)) 16 (f 16)) 20 (f 20), a, b, c, by unfold m_X6_takeFrom; rw [h1, Option.bind_some, h3, Option.bind_some, h5, Option.bind_some], fun j g1 g2 => ?_, rfl, fun j g1 g2 => ?_, fun i hi => ⟨h2 i hi, h4 i hi, h6 i hi⟩⟩
  · rcases (by omega : j = 9 ∨ j = 10 ∨ j = 11 ∨ j = 12 ∨ j = 13 ∨ j = 14 ∨ j = 15 ∨ j = 16) with rfl | rfl | rfl | rfl | rfl | rfl | rfl | rfl <;> rfl
  · rw [pk_un g1, pk_un (by omega), pk_un (by omega), pk_un (by omega), pk_un (by omega), pk_un (by omega), pk_un (by omega), pk_un (by omega), pk_un (by omega)]
theorem s_becomes {fu : Nat} {t tk tb tp f kk kb kp : Nat → Int32} (hfu : 5000 ≤ fu) : ∃ t' a b c, m_X1_becomes fu t tk tb tp f kk kb kp = some (t', a, b, c) ∧ (∀ j, j < 9 → t' j = f j) ∧ ∀ i, i < 8 → a i = kk i ∧ b i = kb i ∧ c i = kp i := by
  unfold m_X1_becomes
  refine lf (b_X1_becomes_74 fu f kk kb kp) (fun i x => x.1 = nI i ∧ (∀ j, j < 9 → x.2.1 j = f j) ∧ ∀ j, j < i → x.2.2.1 j = kk j ∧ x.2.2.2.1 j = kb j ∧ x.2.2.2.2 j = kp j) 8 (fun o => ∃ t' a b c, o = some (t', a, b, c) ∧ (∀ j, j < 9 → t' j = f j) ∧ ∀ i, i < 8 → a i = kk i ∧ b i = kb i ∧ c i = kp i) ?_ ?_ fu 0 _ (Nat.zero_le _) (by omega) ⟨rfl, fun j g2 => ?_, fun j h => absurd h (Nat.not_lt_zero _)⟩
  · rintro i ⟨x1, x2, x3, x4, x5⟩ k hi ⟨e1, e2, e3⟩
    dsimp only at e1 e2 e3
    subst e1
    refine Or.inl ⟨(nI (i + 1), x2, upd x3 i (kk i), upd x4 i (kb i), upd x5 i (kp i)), ⟨rfl, e2, fun j h => ?_⟩, ?_⟩
    · dsimp only
      by_cases c : j = i
      · subst c; exact ⟨pk_us, pk_us, pk_us⟩
      · rw [pk_un c, pk_un c, pk_un c]; exact e3 j (by omega)
    · unfold b_X1_becomes_74
      dsimp only
      rw [if_neg (show ¬ (8 : Int32) ≤ nI i from nI_ge (b := 8) hi (by decide))]
      simp only [gd_t (ib8 hi), cl8 hi, nI_1]
  · rintro ⟨x1, x2, x3, x4, x5⟩ k ⟨e1, e2, e3⟩
    dsimp only at e1 e2 e3
    subst e1
    unfold b_X1_becomes_74
    dsimp only
    rw [if_pos (show (8 : Int32) ≤ nI 8 by decide)]
    exact ⟨x2, x3, x4, x5, rfl, e2, e3⟩
  · rcases (by omega : j = 0 ∨ j = 1 ∨ j = 2 ∨ j = 3 ∨ j = 4 ∨ j = 5 ∨ j = 6 ∨ j = 7 ∨ j = 8) with rfl | rfl | rfl | rfl | rfl | rfl | rfl | rfl | rfl <;> rfl
theorem s_drop {fu n : Nat} {hd : Nat → Int32} (hfu : 5000 ≤ fu) : ∃ hd', m_X0_dropVoicesFrom fu hd (nI n) = some hd' ∧ ∀ s, s < 8 → hd' s = if hd s < nI (10 + n) then hd s else -1 := by
  unfold m_X0_dropVoicesFrom
  refine lf (b_X0_dropVoicesFrom_2 fu) (fun i x => x.1 = nI n ∧ x.2.1 = nI i ∧ (∀ s, s < i → x.2.2 s = if hd s < nI (10 + n) then hd s else -1) ∧ ∀ s, i ≤ s → x.2.2 s = hd s) 8 (fun o => ∃ hd', o = some hd' ∧ ∀ s, s < 8 → hd' s = if hd s < nI (10 + n) then hd s else -1) ?_ ?_ fu 0 _ (Nat.zero_le _) (by omega) ⟨rfl, rfl, fun j h => absurd h (Nat.not_lt_zero _), fun _ _ => rfl⟩
  · rintro i ⟨x1, x2, x3⟩ k hi ⟨e1, e2, e3, e4⟩
    dsimp only at e1 e2 e3 e4
    subst e1 e2
    left
    unfold b_X0_dropVoicesFrom_2 b_X0_dropVoicesFrom_28
    dsimp only
    rw [if_neg (show ¬ (8 : Int32) ≤ nI i from nI_ge (b := 8) hi (by decide))]
    simp only [gd_t (ib8 hi), cl8 hi, nI_1, show (10 : Int32) + nI n = nI (10 + n) from by rw [show (10 : Int32) = nI 10 from rfl, nI_add], e4 i (Nat.le_refl _)]
    by_cases c : hd i < nI (10 + n)
    · rw [if_pos c]
      refine ⟨(nI n, nI (i + 1), x3), ⟨rfl, rfl, fun s hs => ?_, fun s hs => e4 s (by omega)⟩, rfl⟩
      rcases Nat.lt_or_ge s i with g | g
      · exact e3 s g
      · have : s = i := by omega
        subst this
        rw [if_pos c]; exact e4 s (Nat.le_refl _)
    · rw [if_neg c]
      refine ⟨(nI n, nI (i + 1), upd x3 i (-1)), ⟨rfl, rfl, fun s hs => ?_, fun s hs => ?_⟩, rfl⟩
      · dsimp only
        by_cases g : s = i
        · subst g; rw [pk_us, if_neg c]
        · rw [pk_un g]; exact e3 s (by omega)
      · dsimp only
        rw [pk_un (by omega)]; exact e4 s (by omega)
  · rintro ⟨x1, x2, x3⟩ k ⟨e1, e2, e3, e4⟩
    dsimp only at e1 e2 e3 e4
    subst e1 e2
    unfold b_X0_dropVoicesFrom_2
    dsimp only
    rw [if_pos (show (8 : Int32) ≤ nI 8 by decide)]
    exact ⟨x3, rfl, e3⟩
theorem s_again {fu n : Nat} {m sh shn mk mb mp f fk fb fp : Nat → Int32} {mL g : Nat → Int64} (hfu : 5000 ≤ fu) (hn : m 16 = nI n) : ∃ sh', lfix (b_X6_again_r_24 fu mL shn f g fk fb fp) fu ((0 : Int32), m, sh, mk, mb, mp) = some (1, (m, sh', mk, mb, mp)) ∧ ∀ s, s < 8 → sh' s = if sh s = 2 ∧ ¬ shn s < nI n then 0 else sh s := by
  refine lf (b_X6_again_r_24 fu mL shn f g fk fb fp) (fun i x => x.1 = nI i ∧ x.2.1 = m ∧ x.2.2.2.1 = mk ∧ x.2.2.2.2.1 = mb ∧ x.2.2.2.2.2 = mp ∧ (∀ s, s < i → x.2.2.1 s = if sh s = 2 ∧ ¬ shn s < nI n then 0 else sh s) ∧ ∀ s, i ≤ s → x.2.2.1 s = sh s) 8 (fun o => ∃ sh', o = some (1, (m, sh', mk, mb, mp)) ∧ ∀ s, s < 8 → sh' s = if sh s = 2 ∧ ¬ shn s < nI n then 0 else sh s) ?_ ?_ fu 0 _ (Nat.zero_le _) (by omega) ⟨rfl, rfl, rfl, rfl, rfl, fun j h => absurd h (Nat.not_lt_zero _), fun _ _ => rfl⟩
  · rintro i ⟨x1, x2, x3, x4, x5, x6⟩ k hi ⟨e1, e2, e3, e4, e5, e6, e7⟩
    dsimp only at e1 e2 e3 e4 e5 e6 e7
    subst e1 e2 e3 e4 e5
    left
    unfold b_X6_again_r_24 b_X6_again_r_60
    dsimp only
    rw [if_neg (show ¬ (8 : Int32) ≤ nI i from nI_ge (b := 8) hi (by decide))]
    simp only [gd_t (ib8 hi), cl8 hi, nI_1, hn, e7 i (Nat.le_refl _)]
    by_cases c : sh i = 2
    · rw [if_pos c]
      by_cases c2 : shn i < nI n
      · rw [if_pos c2]
        refine ⟨(nI (i + 1), x2, x3, x4, x5, x6), ⟨rfl, rfl, rfl, rfl, rfl, fun s hs => ?_, fun s hs => e7 s (by omega)⟩, rfl⟩
        rcases Nat.lt_or_ge s i with g | g
        · exact e6 s g
        · have : s = i := by omega
          subst this
          rw [if_neg (fun e => e.2 c2)]; exact e7 s (Nat.le_refl _)
      · rw [if_neg c2]
        refine ⟨(nI (i + 1), x2, upd x3 i 0, x4, x5, x6), ⟨rfl, rfl, rfl, rfl, rfl, fun s hs => ?_, fun s hs => ?_⟩, rfl⟩
        · dsimp only
          by_cases g : s = i
          · subst g; rw [pk_us, if_pos ⟨c, c2⟩]
          · rw [pk_un g]; exact e6 s (by omega)
        · dsimp only
          rw [pk_un (by omega)]; exact e7 s (by omega)
    · rw [if_neg c]
      refine ⟨(nI (i + 1), x2, x3, x4, x5, x6), ⟨rfl, rfl, rfl, rfl, rfl, fun s hs => ?_, fun s hs => e7 s (by omega)⟩, rfl⟩
      rcases Nat.lt_or_ge s i with g | g
      · exact e6 s g
      · have : s = i := by omega
        subst this
        rw [if_neg (fun e => c e.1)]; exact e7 s (Nat.le_refl _)
  · rintro ⟨x1, x2, x3, x4, x5, x6⟩ k ⟨e1, e2, e3, e4, e5, e6, e7⟩
    dsimp only at e1 e2 e3 e4 e5 e6 e7
    subst e1 e2 e3 e4 e5
    unfold b_X6_again_r_24
    dsimp only
    rw [if_pos (show (8 : Int32) ≤ nI 8 by decide)]
    exact ⟨x3, rfl, e6⟩

theorem R_2 (fu : Nat) (C : Nat → Nat → Int32) (E : Nat → Int64) (M : Nat → Nat → Int32) (ML : Nat → Int64) (MR : Nat → Nat → Int64) (MV : Nat → Int64) (MY : Nat → Nat → Int32) (h : Rel fu C E M ML MR MV MY) (v1 : Int32) (v2 : Int32) (v3 : Int32) (v4 : Int32) (v5 : Int32) : ∃ (oX : Int32 × ((Nat → Int64) × (Nat → Int32))) (oM : Int32 × ((Nat → Nat → Int64) × (Nat → Int64) × (Nat → Int32))), m_X5_copy fu (C 0) (C 14) (C 15) E (C 19) v1 v2 v3 v4 v5 = some oX ∧ m_X6_copy fu (M 0) ML (M 1) (M 2) (M 3) MR MV (M 16) v1 v2 v3 v4 v5 = some oM ∧ oX.1 = oM.1 ∧ Rel fu (upC C 19 oX.2.2) oX.2.1 (upC M 16 oM.2.2.2) ML oM.2.1 oM.2.2.1 MY := by
  obtain ⟨hf, ⟨d, r, y, w, q, n, ks, as, ps, hS, hH⟩, hT, hr⟩ := id h
  obtain ⟨hn1, hn2, hn8⟩ := hS.2.2.2.2.2.2.1
  unfold m_X5_copy m_X6_copy b_X5_copy_14 b_X5_copy_55 b_X5_copy_84 b_X5_copy_120 b_X6_copy_24 b_X6_copy_86 b_X6_copy_93 b_X6_copy_111 b_X6_copy_181 m_X0_haveTwoSorts b_X0_haveTwoSorts_33 b_X0_haveTwoSorts_34
  simp only [s_isShelf, s_i (x := v1) (A := 0) (B := 7) (a := 0) (b := 7) rfl rfl, s_i (x := v2) (A := 0) (B := 7) (a := 0) (b := 7) rfl rfl, Option.bind_some, gd_t (show bz 0 from Or.inl rfl), gd_t (show bz 1 from Or.inr rfl)]
  have z01 : ((0 : Int32) = 1) = False := eq_false (by decide)
  have z02 : ((0 : Int32) = 2) = False := eq_false (by decide)
  have z12 : ((1 : Int32) = 2) = False := eq_false (by decide)
  have z10 : ((1 : Int32) = 0) = False := eq_false (by decide)
  have z20 : ((2 : Int32) = 0) = False := eq_false (by decide)
  have z21 : ((2 : Int32) = 1) = False := eq_false (by decide)
  by_cases c1 : 0 ≤ v1 ∧ v1 ≤ 7
  · by_cases c2 : 0 ≤ v2 ∧ v2 ≤ 7
    · obtain ⟨p, hp, rfl⟩ := i_0_7 c1
      obtain ⟨u, hu, rfl⟩ := i_0_7 c2
      rw [bI_t c1, bI_t c2, if_neg n10, if_neg n10, if_neg n10, if_neg n10]
      simp only [gd_t (ib8 hp), gd_t (ib8 hu), cl8 hp, cl8 hu]
      rcases hH.see fu hn8 hp with ⟨p1, p2, p3, p4, p5⟩ | ⟨t, z, p1, p2, b3, b4, b5, b6, p5, b8, b9, b10⟩ | ⟨v, p1, p2, k3, k4, k5, p5, k7⟩
      · rcases hH.see fu hn8 hu with ⟨u1, u2, u3, u4, u5⟩ | ⟨t', z', u1, u2, d3, d4, d5, d6, u5, d8, d9, d10⟩ | ⟨v', u1, u2, l3, l4, l5, u5, l7⟩
        · simp only [p1, p2, p5, u1, u2, u5, Option.bind_some, z01, z02, z12, z10, z20, z21, if_true, if_false]
          rw [(s_ref fu _ _).1.2.2, (s_mref fu _ _ _).1.2.2, Option.bind_some, Option.bind_some]; exact ⟨_, _, rfl, rfl, rfl, h.go rfl rfl rfl rfl rfl rfl rfl rfl rfl (fun _ _ => rfl) rfl rfl rfl rfl rfl rfl rfl rfl hr.r4⟩
        · simp only [p1, p2, p5, u1, u2, u5, Option.bind_some, z01, z02, z12, z10, z20, z21, if_true, if_false]
          rw [(s_ref fu _ _).1.2.2, (s_mref fu _ _ _).1.2.2, Option.bind_some, Option.bind_some]; exact ⟨_, _, rfl, rfl, rfl, h.go rfl rfl rfl rfl rfl rfl rfl rfl rfl (fun _ _ => rfl) rfl rfl rfl rfl rfl rfl rfl rfl hr.r4⟩
        · simp only [p1, p2, p5, u1, u2, u5, Option.bind_some, z01, z02, z12, z10, z20, z21, if_true, if_false]
          rw [(s_ref fu _ _).1.2.1, (s_mref fu _ _ _).1.2.1, Option.bind_some, Option.bind_some]; exact ⟨_, _, rfl, rfl, rfl, h.go rfl rfl rfl rfl rfl rfl rfl rfl rfl (fun _ _ => rfl) rfl rfl rfl rfl rfl rfl rfl rfl hr.r3⟩
      · rcases hH.see fu hn8 hu with ⟨u1, u2, u3, u4, u5⟩ | ⟨t', z', u1, u2, d3, d4, d5, d6, u5, d8, d9, d10⟩ | ⟨v', u1, u2, l3, l4, l5, u5, l7⟩
        · simp only [p1, p2, p5, u1, u2, u5, Option.bind_some, z01, z02, z12, z10, z20, z21, if_true, if_false]
          rw [(s_ref fu _ _).1.2.2, (s_mref fu _ _ _).1.2.2, Option.bind_some, Option.bind_some]; exact ⟨_, _, rfl, rfl, rfl, h.go rfl rfl rfl rfl rfl rfl rfl rfl rfl (fun _ _ => rfl) rfl rfl rfl rfl rfl rfl rfl rfl hr.r4⟩
        · simp only [p1, p2, p5, u1, u2, u5, Option.bind_some, z01, z02, z12, z10, z20, z21, if_true, if_false, s_holdingOf hp, s_holdingOf hu, b5, d5, b8, d8]
          by_cases ct : nI t = nI t'
          · rw [if_pos ct, if_pos ct]
            simp only [Option.bind_some, if_true, s_hasPlaces hp, s_hasPlaces hu, b6, d6, b9, d9]
            rw [x_places]
            by_cases g1 : ((0 ≤ v5 ∧ v5 ≤ nI z) ∧ (0 ≤ v3 ∧ v3 ≤ nI z - v5))
            · by_cases g2 : ((0 ≤ v5 ∧ v5 ≤ nI z') ∧ (0 ≤ v4 ∧ v4 ≤ nI z' - v5))
              · rw [bI_t g1, bI_t g2, if_neg n10, if_neg n10, if_pos ⟨g1, g2⟩]
                obtain ⟨e, he, rfl⟩ := i_rng (by omega) g1.1
                have he' : e ≤ z' := (nI_le_iff (by omega) (by omega)).mp g2.1.2
                obtain ⟨i, hi, rfl⟩ := i_rng (m := z - e) (by omega) (by have := g1.2; rw [pk_sub he] at this; exact this)
                obtain ⟨j, hj, rfl⟩ := i_rng (m := z' - e) (by omega) (by have := g2.2; rw [pk_sub he'] at this; exact this)
                obtain ⟨R', V', r1, r2, r3⟩ := s_mcopy (fu := fu) (m := M 0) (mL := ML) (sh := M 1) (rs := M 2) (rz := M 3) (r := M 16) (MR := MR) (MV := MV) (i := i) (j := j) (e := e) hf hp hu (by omega) (by omega)
                have ea : nI p * (40 : Int32) + nI i = nI (p * 40 + i) := by rw [show (40 : Int32) = nI 40 from rfl, pk_mul, nI_add]
                have eb : nI u * (40 : Int32) + nI j = nI (u * 40 + j) := by rw [show (40 : Int32) = nI 40 from rfl, pk_mul, nI_add]
                have ec : m_X0_copyElements fu (C 15) E (nI p) (nI u) (nI i) (nI j) (nI e) = some (va_cpy E E (p * 40 + i) (u * 40 + j) e) := by
                  unfold m_X0_copyElements b_X0_copyElements_49
                  simp only [s_hasPlaces hp, s_hasPlaces hu, b6, d6, Option.bind_some, bI_t g1, bI_t g2, z10, if_false, ea, eb]
                  rw [nI_clamp (by omega), nI_clamp (by omega), nI_clamp (by omega), gd_t ⟨nI_pos (by omega), nI_pos (by omega), nI_pos (by omega), by omega, by omega⟩]
                rw [ec, r1, Option.bind_some]
                refine ⟨_, _, rfl, rfl, rfl, hf, ⟨d, r, y, w, q, n, ks, as, ps, hS, ?_⟩, hT, hr⟩
                refine hH.put (s := u) (fun s' hs' ne => ⟨⟨rfl, rfl⟩, fun i' hi' => pk_cpy_out (by omega), ⟨rfl, rfl, rfl, rfl⟩, fun i' _ => congrFun (r2 s' ne) i'⟩) (Or.inr (Or.inl ⟨t', z', d3, d4, d5, d6, u5, d8, d9, fun x hx => ?_⟩))
                show va_cpy E E (p * 40 + i) (u * 40 + j) e (u * 40 + x) = R' u x
                rw [r3]
                by_cases cx : j ≤ x ∧ x < j + e
                · rw [if_pos cx, pk_cpy_in (by omega) (by omega), show p * 40 + i + (u * 40 + x - (u * 40 + j)) = p * 40 + (i + (x - j)) by omega]
                  exact b10 _ (by omega)
                · rw [if_neg cx, pk_cpy_out (by omega)]
                  exact d10 x hx
              · rw [bI_t g1, bI_f g2, if_neg n10, if_pos p00, if_neg (fun e => g2 e.2)]
                rw [(s_ref fu _ _).1.1, (s_mref fu _ _ _).1.1, Option.bind_some, Option.bind_some]; exact ⟨_, _, rfl, rfl, rfl, h.go rfl rfl rfl rfl rfl rfl rfl rfl rfl (fun _ _ => rfl) rfl rfl rfl rfl rfl rfl rfl rfl hr.r2⟩
            · rw [bI_f g1, if_pos p00, if_neg (fun e => g1 e.1)]
              rw [(s_ref fu _ _).1.1, (s_mref fu _ _ _).1.1, Option.bind_some, Option.bind_some]; exact ⟨_, _, rfl, rfl, rfl, h.go rfl rfl rfl rfl rfl rfl rfl rfl rfl (fun _ _ => rfl) rfl rfl rfl rfl rfl rfl rfl rfl hr.r2⟩
          · rw [if_neg ct, if_neg ct]
            simp only [Option.bind_some, z10, if_false]
            rw [(s_ref fu _ _).1.2.1, (s_mref fu _ _ _).1.2.1, Option.bind_some, Option.bind_some]; exact ⟨_, _, rfl, rfl, rfl, h.go rfl rfl rfl rfl rfl rfl rfl rfl rfl (fun _ _ => rfl) rfl rfl rfl rfl rfl rfl rfl rfl hr.r3⟩
        · simp only [p1, p2, p5, u1, u2, u5, Option.bind_some, z01, z02, z12, z10, z20, z21, if_true, if_false]
          rw [(s_ref fu _ _).1.2.1, (s_mref fu _ _ _).1.2.1, Option.bind_some, Option.bind_some]; exact ⟨_, _, rfl, rfl, rfl, h.go rfl rfl rfl rfl rfl rfl rfl rfl rfl (fun _ _ => rfl) rfl rfl rfl rfl rfl rfl rfl rfl hr.r3⟩
      · rcases hH.see fu hn8 hu with ⟨u1, u2, u3, u4, u5⟩ | ⟨t', z', u1, u2, d3, d4, d5, d6, u5, d8, d9, d10⟩ | ⟨v', u1, u2, l3, l4, l5, u5, l7⟩
        · simp only [p1, p2, p5, u1, u2, u5, Option.bind_some, z01, z02, z12, z10, z20, z21, if_true, if_false]
          rw [(s_ref fu _ _).1.2.1, (s_mref fu _ _ _).1.2.1, Option.bind_some, Option.bind_some]; exact ⟨_, _, rfl, rfl, rfl, h.go rfl rfl rfl rfl rfl rfl rfl rfl rfl (fun _ _ => rfl) rfl rfl rfl rfl rfl rfl rfl rfl hr.r3⟩
        · simp only [p1, p2, p5, u1, u2, u5, Option.bind_some, z01, z02, z12, z10, z20, z21, if_true, if_false]
          rw [(s_ref fu _ _).1.2.1, (s_mref fu _ _ _).1.2.1, Option.bind_some, Option.bind_some]; exact ⟨_, _, rfl, rfl, rfl, h.go rfl rfl rfl rfl rfl rfl rfl rfl rfl (fun _ _ => rfl) rfl rfl rfl rfl rfl rfl rfl rfl hr.r3⟩
        · simp only [p1, p2, p5, u1, u2, u5, Option.bind_some, z01, z02, z12, z10, z20, z21, if_true, if_false]
          rw [(s_ref fu _ _).1.2.1, (s_mref fu _ _ _).1.2.1, Option.bind_some, Option.bind_some]; exact ⟨_, _, rfl, rfl, rfl, h.go rfl rfl rfl rfl rfl rfl rfl rfl rfl (fun _ _ => rfl) rfl rfl rfl rfl rfl rfl rfl rfl hr.r3⟩
    · rw [bI_t c1, bI_f c2, if_neg n10, if_neg n10, if_pos p00, if_pos p00]
      rw [(s_ref fu _ _).1.1, (s_mref fu _ _ _).1.1, Option.bind_some, Option.bind_some]; exact ⟨_, _, rfl, rfl, rfl, h.go rfl rfl rfl rfl rfl rfl rfl rfl rfl (fun _ _ => rfl) rfl rfl rfl rfl rfl rfl rfl rfl hr.r2⟩
  · rw [bI_f c1, if_pos p00, if_pos p00]
    rw [(s_ref fu _ _).1.1, (s_mref fu _ _ _).1.1, Option.bind_some, Option.bind_some]; exact ⟨_, _, rfl, rfl, rfl, h.go rfl rfl rfl rfl rfl rfl rfl rfl rfl (fun _ _ => rfl) rfl rfl rfl rfl rfl rfl rfl rfl hr.r2⟩

theorem R_51_r (fu : Nat) (C : Nat → Nat → Int32) (E : Nat → Int64) (M : Nat → Nat → Int32) (ML : Nat → Int64) (MR : Nat → Nat → Int64) (MV : Nat → Int64) (MY : Nat → Nat → Int32) (km : Nat → Nat) (f : Nat → Int32) (g : Nat → Int64) (kK kB kP : Nat → Int32) (h : Rel fu C E M ML MR MV MY) (hK : RelK (some km) (C 0) (C 5) (C 6) (C 7) (C 8) f kK kB kP) : ∃ (oX : Int32 × ((Nat → Int32) × (Nat → Int32) × (Nat → Int32) × (Nat → Int32) × (Nat → Int32))) (oM : Int32 × ((Nat → Int32) × (Nat → Int32) × (Nat → Int32) × (Nat → Int32))), m_X5_image fu (C 0) (C 1) (C 2) (C 3) (C 4) (C 5) (C 6) (C 7) (C 8) = some oX ∧ m_X6_image_r fu (M 0) ML (M 17) (M 18) (M 19) f g kK kB kP = some oM ∧ oX.1 = oM.1 ∧ Rel fu (upC (upC (upC (upC (upC C 0 oX.2.1) 5 oX.2.2.1) 6 oX.2.2.2.1) 7 oX.2.2.2.2.1) 8 oX.2.2.2.2.2) E M ML MR MV MY ∧ RelK (some km) ((upC (upC (upC (upC (upC C 0 oX.2.1) 5 oX.2.2.1) 6 oX.2.2.2.1) 7 oX.2.2.2.2.1) 8 oX.2.2.2.2.2) 0) ((upC (upC (upC (upC (upC C 0 oX.2.1) 5 oX.2.2.1) 6 oX.2.2.2.1) 7 oX.2.2.2.2.1) 8 oX.2.2.2.2.2) 5) ((upC (upC (upC (upC (upC C 0 oX.2.1) 5 oX.2.2.1) 6 oX.2.2.2.1) 7 oX.2.2.2.2.1) 8 oX.2.2.2.2.2) 6) ((upC (upC (upC (upC (upC C 0 oX.2.1) 5 oX.2.2.1) 6 oX.2.2.2.1) 7 oX.2.2.2.2.1) 8 oX.2.2.2.2.2) 7) ((upC (upC (upC (upC (upC C 0 oX.2.1) 5 oX.2.2.1) 6 oX.2.2.2.1) 7 oX.2.2.2.2.1) 8 oX.2.2.2.2.2) 8) oM.2.1 oM.2.2.1 oM.2.2.2.1 oM.2.2.2.2 := by
  obtain ⟨hf, ⟨d, r, y, w, q, n, ks, as, ps, hS, hH⟩, hT, hr⟩ := id h
  obtain ⟨hn1, hn2, hn8⟩ := hS.2.2.2.2.2.2.1
  obtain ⟨t1, a1, b1, c1, e1, e2, e3⟩ := s_becomes (fu := fu) (t := C 5) (tk := C 6) (tb := C 7) (tp := C 8) (f := C 1) (kk := C 2) (kb := C 3) (kp := C 4) hf
  obtain ⟨t2, a2, b2, c2, f1, f2, f3, f4, f5⟩ := s_takeFrom (fu := fu) (t := f) (tk := kK) (tb := kB) (tp := kP) (f := M 0) (kk := M 17) (kb := M 18) (kp := M 19) (tL := g) (g := ML) hf
  unfold m_X5_image m_X6_image_r
  rw [e1, f1, Option.bind_some, Option.bind_some]
  refine ⟨_, _, rfl, rfl, rfl, ?_⟩
  exact ⟨⟨hf, ⟨d, r, y, w, q, n, ks, as, ps, hS, hH⟩, hT, hr⟩, rfl, d, r, y, w, q, n, ks, as, ps, hS.cong e2 f2 f3 (fun i hi => ⟨e3 i hi, f5 i hi⟩)⟩

theorem R_52_n (fu : Nat) (C : Nat → Nat → Int32) (E : Nat → Int64) (M : Nat → Nat → Int32) (ML : Nat → Int64) (MR : Nat → Nat → Int64) (MV : Nat → Int64) (MY : Nat → Nat → Int32) {f kK kB kP : Nat → Int32} (h : Rel fu C E M ML MR MV MY) (hK : RelK none (C 0) (C 5) (C 6) (C 7) (C 8) f kK kB kP) : ∃ (oX : Int32 × ((Nat → Int32) × (Nat → Int32) × (Nat → Int32) × (Nat → Int32) × (Nat → Int32) × (Nat → Int32))) (oM : Int32 × (Nat → Int32)), m_X5_again fu (C 0) (C 1) (C 2) (C 3) (C 4) (C 5) (C 6) (C 7) (C 8) (C 14) (C 19) = some oX ∧ m_X6_again_n fu (M 0) ML (M 16) = some oM ∧ oX.1 = oM.1 ∧ Rel fu (upC (upC (upC (upC (upC (upC C 1 oX.2.1) 2 oX.2.2.1) 3 oX.2.2.2.1) 4 oX.2.2.2.2.1) 14 oX.2.2.2.2.2.1) 19 oX.2.2.2.2.2.2) E (upC M 16 oM.2) ML MR MV MY ∧ RelK none ((upC (upC (upC (upC (upC (upC C 1 oX.2.1) 2 oX.2.2.1) 3 oX.2.2.2.1) 4 oX.2.2.2.2.1) 14 oX.2.2.2.2.2.1) 19 oX.2.2.2.2.2.2) 0) ((upC (upC (upC (upC (upC (upC C 1 oX.2.1) 2 oX.2.2.1) 3 oX.2.2.2.1) 4 oX.2.2.2.2.1) 14 oX.2.2.2.2.2.1) 19 oX.2.2.2.2.2.2) 5) ((upC (upC (upC (upC (upC (upC C 1 oX.2.1) 2 oX.2.2.1) 3 oX.2.2.2.1) 4 oX.2.2.2.2.1) 14 oX.2.2.2.2.2.1) 19 oX.2.2.2.2.2.2) 6) ((upC (upC (upC (upC (upC (upC C 1 oX.2.1) 2 oX.2.2.1) 3 oX.2.2.2.1) 4 oX.2.2.2.2.1) 14 oX.2.2.2.2.2.1) 19 oX.2.2.2.2.2.2) 7) ((upC (upC (upC (upC (upC (upC C 1 oX.2.1) 2 oX.2.2.1) 3 oX.2.2.2.1) 4 oX.2.2.2.2.1) 14 oX.2.2.2.2.2.1) 19 oX.2.2.2.2.2.2) 8) f kK kB kP := by
  obtain ⟨hf, ⟨d, r, y, w, q, n, ks, as, ps, hS, hH⟩, hT, hr⟩ := id h
  obtain ⟨hn1, hn2, hn8⟩ := hS.2.2.2.2.2.2.1
  have hk : C 0 3 = 0 := hK
  unfold m_X5_again m_X6_again_n
  rw [if_pos hk, (s_ref fu _ _).2.1, (s_mref fu _ _ _).2.1, Option.bind_some, Option.bind_some]
  exact ⟨_, _, rfl, rfl, rfl, h.go rfl rfl rfl rfl rfl rfl rfl rfl rfl (fun _ _ => rfl) rfl rfl rfl rfl rfl rfl rfl rfl (hr.r5), hk⟩

theorem R_52_r (fu : Nat) (C : Nat → Nat → Int32) (E : Nat → Int64) (M : Nat → Nat → Int32) (ML : Nat → Int64) (MR : Nat → Nat → Int64) (MV : Nat → Int64) (MY : Nat → Nat → Int32) (km : Nat → Nat) (f : Nat → Int32) (g : Nat → Int64) (kK kB kP : Nat → Int32) (h : Rel fu C E M ML MR MV MY) (hK : RelK (some km) (C 0) (C 5) (C 6) (C 7) (C 8) f kK kB kP) : ∃ (oX : Int32 × ((Nat → Int32) × (Nat → Int32) × (Nat → Int32) × (Nat → Int32) × (Nat → Int32) × (Nat → Int32))) (oM : Int32 × ((Nat → Int32) × (Nat → Int32) × (Nat → Int32) × (Nat → Int32) × (Nat → Int32))), m_X5_again fu (C 0) (C 1) (C 2) (C 3) (C 4) (C 5) (C 6) (C 7) (C 8) (C 14) (C 19) = some oX ∧ m_X6_again_r fu (M 0) ML (M 1) (M 14) (M 17) (M 18) (M 19) f g kK kB kP = some oM ∧ oX.1 = oM.1 ∧ Rel fu (upC (upC (upC (upC (upC (upC C 1 oX.2.1) 2 oX.2.2.1) 3 oX.2.2.2.1) 4 oX.2.2.2.2.1) 14 oX.2.2.2.2.2.1) 19 oX.2.2.2.2.2.2) E (upC (upC (upC (upC (upC M 0 oM.2.1) 1 oM.2.2.1) 17 oM.2.2.2.1) 18 oM.2.2.2.2.1) 19 oM.2.2.2.2.2) ML MR MV MY ∧ RelK (some km) ((upC (upC (upC (upC (upC (upC C 1 oX.2.1) 2 oX.2.2.1) 3 oX.2.2.2.1) 4 oX.2.2.2.2.1) 14 oX.2.2.2.2.2.1) 19 oX.2.2.2.2.2.2) 0) ((upC (upC (upC (upC (upC (upC C 1 oX.2.1) 2 oX.2.2.1) 3 oX.2.2.2.1) 4 oX.2.2.2.2.1) 14 oX.2.2.2.2.2.1) 19 oX.2.2.2.2.2.2) 5) ((upC (upC (upC (upC (upC (upC C 1 oX.2.1) 2 oX.2.2.1) 3 oX.2.2.2.1) 4 oX.2.2.2.2.1) 14 oX.2.2.2.2.2.1) 19 oX.2.2.2.2.2.2) 6) ((upC (upC (upC (upC (upC (upC C 1 oX.2.1) 2 oX.2.2.1) 3 oX.2.2.2.1) 4 oX.2.2.2.2.1) 14 oX.2.2.2.2.2.1) 19 oX.2.2.2.2.2.2) 7) ((upC (upC (upC (upC (upC (upC C 1 oX.2.1) 2 oX.2.2.1) 3 oX.2.2.2.1) 4 oX.2.2.2.2.1) 14 oX.2.2.2.2.2.1) 19 oX.2.2.2.2.2.2) 8) f kK kB kP := by
  obtain ⟨hf, ⟨d, r, y, w, q, n, ks, as, ps, hS, hH⟩, hT, hr⟩ := id h
  obtain ⟨hn1, hn2, hn8⟩ := hS.2.2.2.2.2.2.1
  obtain ⟨hk, d', r', y', w', q', n', ks', as', ps', hS'⟩ := hK
  obtain ⟨t1, a1, b1, c1, e1, e2, e3⟩ := s_becomes (fu := fu) (t := C 1) (tk := C 2) (tb := C 3) (tp := C 4) (f := C 5) (kk := C 6) (kb := C 7) (kp := C 8) hf
  obtain ⟨t2, a2, b2, c2, f1, f2, f3, f4, f5⟩ := s_takeFrom (fu := fu) (t := M 0) (tk := M 17) (tb := M 18) (tp := M 19) (f := f) (kk := kK) (kb := kB) (kp := kP) (tL := ML) (g := g) hf
  have hS2 := hS'.cong e2 f2 f3 (fun i hi => ⟨e3 i hi, f5 i hi⟩)
  obtain ⟨m1, m2, m3⟩ := hS2.2.2.2.2.2.2.1
  obtain ⟨hd', g1, g2⟩ := s_drop (fu := fu) (n := n') (hd := C 14) hf
  obtain ⟨sh', g3, g4⟩ := s_again (fu := fu) (n := n') (m := t2) (sh := M 1) (shn := M 14) (mk := a2) (mb := b2) (mp := c2) (f := f) (fk := kK) (fb := kB) (fp := kP) (mL := ML) (g := g) hf m2
  have hk0 : ¬ C 0 3 = 0 := by rw [hk]; decide
  unfold m_X5_again m_X6_again_r
  rw [if_neg hk0, e1, Option.bind_some, f1, Option.bind_some]
  dsimp only
  rw [m1, g1, g3, Option.bind_some]
  refine ⟨_, _, rfl, rfl, rfl, ?_⟩
  refine ⟨⟨hf, ⟨d', r', y', w', q', n', ks', as', ps', hS2, fun s hs => ?_⟩, ?_, hr⟩, hk, d', r', y', w', q', n', ks', as', ps', hS'⟩
  · show (hd' s = -1 ∧ C 15 s = 0 ∧ sh' s = 0) ∨ (∃ t z : Nat, t ≤ 4 ∧ z ≤ 40 ∧ hd' s = nI t ∧ C 15 s = nI z ∧ sh' s = 1 ∧ M 2 s = nI t ∧ M 3 s = nI z ∧ ∀ i, i < z → E (s * 40 + i) = MR s i) ∨ (∃ v : Nat, v < n' ∧ hd' s = nI (10 + v) ∧ C 15 s = 0 ∧ sh' s = 2 ∧ M 14 s = nI v)
    rw [g2 s hs, g4 s hs]
    rcases hH s hs with ⟨q1, q2, q3⟩ | ⟨t, z, ht, hz, p1, p2, p3, p4, p5, p6⟩ | ⟨v, hv, k1, k2, k3, k4⟩
    · rw [q1, q3, if_pos (by rw [i_lt, nI_toInt (by omega), show (-1 : Int32).toInt = -1 from by decide]; omega), if_neg (fun e => absurd e.1 (by decide))]
      exact Or.inl ⟨rfl, q2, rfl⟩
    · rw [p1, p3, if_pos (nI_lt (by omega) (by omega)), if_neg (fun e => absurd e.1 (by decide))]
      exact Or.inr (Or.inl ⟨t, z, ht, hz, rfl, p2, rfl, p4, p5, p6⟩)
    · rw [k1, k3, k4]
      by_cases c : v < n'
      · rw [if_pos (nI_lt (by omega) (by omega)), if_neg (fun e => e.2 (nI_lt c (by omega)))]
        exact Or.inr (Or.inr ⟨v, c, rfl, k2, rfl, rfl⟩)
      · rw [if_neg (nI_nlt (by omega) (by omega)), if_pos ⟨rfl, nI_nlt (by omega) (by omega)⟩]
        exact Or.inl ⟨rfl, k2, rfl⟩
  · obtain ⟨z, z1, z2, z3, z4⟩ := hT
    exact ⟨z, z1, z2, (f4 7 (by decide) (Or.inl (by decide))).trans z3, z4⟩
