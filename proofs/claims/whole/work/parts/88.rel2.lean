-- PURE 8: the relation goes on; a voice; a word
theorem Rel.go {fu : Nat} {C C' : Nat → Nat → Int32} {E E' : Nat → Int64} {M M' : Nat → Nat → Int32} {ML ML' : Nat → Int64} {MR : Nat → Nat → Int64} {MV MV' : Nat → Int64} {MY MY' : Nat → Nat → Int32} (h : Rel fu C E M ML MR MV MY)
    (c1 : C' 1 = C 1) (c2 : C' 2 = C 2) (c3 : C' 3 = C 3) (c4 : C' 4 = C 4) (c14 : C' 14 = C 14) (c15 : C' 15 = C 15) (c17 : C' 17 = C 17) (c18 : C' 18 = C 18) (cE : E' = E)
    (m0 : ∀ j, j < 21 → M' 0 j = M 0 j) (m1 : M' 1 = M 1) (m2 : M' 2 = M 2) (m3 : M' 3 = M 3) (m14 : M' 14 = M 14) (m15 : M' 15 = M 15) (m17 : M' 17 = M 17) (m18 : M' 18 = M 18) (m19 : M' 19 = M 19) (hr : RR (C' 19) (M' 16)) : Rel fu C' E' M' ML' MR MV' MY' := by
  obtain ⟨hf, ⟨d, r, y, w, q, n, ks, as, ps, hS, hH⟩, ⟨z, z1, z2, z3, z4⟩, -⟩ := h
  obtain ⟨a1, a2, a3, a4, a5, a6, a7, a8⟩ := hS
  refine ⟨hf, ⟨d, r, y, w, q, n, ks, as, ps, ⟨?_, ?_, ?_, ?_, ?_, ?_, ?_, ?_⟩, ?_⟩, ⟨z, z1, ?_, ?_, ?_⟩, hr⟩
  · rw [c1, m0 9 (by decide)]; exact a1
  · rw [c1, m0 10 (by decide)]; exact a2
  · rw [c1, m0 11 (by decide)]; exact a3
  · rw [c1, m0 12 (by decide)]; exact a4
  · rw [c1, m0 13 (by decide)]; exact a5
  · rw [c1, m0 14 (by decide), m0 15 (by decide), m0 20 (by decide)]; exact a6
  · rw [c1, m0 16 (by decide)]; exact a7
  · rw [c2, c3, c4, m17, m18, m19]; exact a8
  · rw [c14, c15, cE, m1, m2, m3, m14]; exact hH
  · rw [c17]; exact z2
  · rw [m0 7 (by decide)]; exact z3
  · rw [c18, m15]; exact z4
/-- a number that may be a voice's -/
theorem v_ok {n : Nat} {v : Int32} (hn : n ≤ 8) (h : 0 ≤ v ∧ v ≤ nI n - 1) : ∃ j : Nat, j < n ∧ v = nI j := by
  rcases Nat.eq_zero_or_pos n with e | e
  · subst e
    exfalso
    have h1 := h.1; have h2 := h.2
    rw [i_le] at h1 h2
    rw [show (nI 0 - 1 : Int32).toInt = -1 from by decide] at h2
    have : (0 : Int32).toInt = 0 := by decide
    omega
  · rw [show (1 : Int32) = nI 1 from rfl, pk_sub e] at h
    obtain ⟨j, h1, h2⟩ := i_rng (by omega) h
    exact ⟨j, by omega, h2⟩
theorem v_ok' {n j : Nat} (hn : n ≤ 8) (h : j < n) : 0 ≤ nI j ∧ nI j ≤ nI n - 1 := by
  rw [show (1 : Int32) = nI 1 from rfl, pk_sub (by omega)]
  exact ⟨nI_pos' (by omega), nI_le (by omega) (by omega)⟩
theorem s_kindOf {fu : Nat} {t nk : Nat → Int32} {v : Nat} (hv : v < 8) : m_X1_kindOf fu t nk (nI v) = some (nk v, ()) := by
  unfold m_X1_kindOf b_X1_kindOf_20
  rw [s_isWithin, Option.bind_some, bI_t (show (0 : Int32) ≤ nI v ∧ nI v ≤ (7 : Int32) from w_0n (m := 7) (by omega) (by decide)), if_neg (show ¬ ((1 : Int32), ()).1 = 0 by decide), gd_t (inb_n hv (by decide)), nI_clamp (by omega)]
theorem s_aOf {fu : Nat} {t nk : Nat → Int32} {v : Nat} (hv : v < 8) : m_X1_aOf fu t nk (nI v) = some (nk v, ()) := by
  unfold m_X1_aOf b_X1_aOf_20
  rw [s_isWithin, Option.bind_some, bI_t (show (0 : Int32) ≤ nI v ∧ nI v ≤ (7 : Int32) from w_0n (m := 7) (by omega) (by decide)), if_neg (show ¬ ((1 : Int32), ()).1 = 0 by decide), gd_t (inb_n hv (by decide)), nI_clamp (by omega)]
theorem s_pitchOf {fu : Nat} {t nk : Nat → Int32} {v : Nat} (hv : v < 8) : m_X1_pitchOf fu t nk (nI v) = some (nk v, ()) := by
  unfold m_X1_pitchOf b_X1_pitchOf_20
  rw [s_isWithin, Option.bind_some, bI_t (show (0 : Int32) ≤ nI v ∧ nI v ≤ (7 : Int32) from w_0n (m := 7) (by omega) (by decide)), if_neg (show ¬ ((1 : Int32), ()).1 = 0 by decide), gd_t (inb_n hv (by decide)), nI_clamp (by omega)]
theorem s_standsFor {fu d r y w q n : Nat} {ks as ps : Nat → Nat} {now nk na np m mk mb mp t : Nat → Int32} {v : Nat} (h : RS d r y w q n ks as ps now nk na np m mk mb mp) (hv : v < 8) : ∃ t', m_X3_standsFor fu t now nk np (nI v) = some t' ∧ TR t' (ks v) (ps v) d r y w q ∧ t' 8 = 0 := by
  obtain ⟨a1, a2, a3, a4, a5, a6, a7, a8⟩ := h
  obtain ⟨b1, b2, b3⟩ := a8 v hv
  refine ⟨upd (upd (upd (upd (upd (upd (upd (upd t 0 (nk v)) 1 (np v)) 2 (now 0)) 3 (now 1)) 4 (now 2)) 5 (now 3)) 6 (now 4)) 8 0, ?_, ?_, ?_⟩
  · unfold m_X3_standsFor
    rw [s_kindOf hv, Option.bind_some, s_pitchOf hv, Option.bind_some]
  · exact ⟨b1.1, b3.1, a1.1, a2.1, a3.1, a4.1, a5.1, b1.2.2, b3.2.2, a1.2.2, a2.2.2, a3.2.2, a4.2.2.1, a4.2.2.2, by have := a5.2.2; have := a4.2.2.2; omega⟩
  · rfl
theorem s_MT {d r y w q n : Nat} {ks as ps : Nat → Nat} {now nk na np m m' mk mb mp : Nat → Int32} {v : Nat} (h : RS d r y w q n ks as ps now nk na np m mk mb mp) (hm : ∀ j, j < 21 → m' j = m j) (hv : v < 8) : MT m' mk mp v (ks v) (ps v) d y w q := by
  obtain ⟨a1, a2, a3, a4, a5, a6, a7, a8⟩ := h
  obtain ⟨b1, b2, b3⟩ := a8 v hv
  exact ⟨hv, b1.2.1, b3.2.1, (hm 9 (by decide)).trans a1.2.1, (hm 11 (by decide)).trans a3.2.1, (hm 12 (by decide)).trans a4.2.1, (hm 13 (by decide)).trans a5.2.1, b1.2.2, b3.2.2, a1.2.2, a3.2.2, a4.2.2.1, a4.2.2.2, by have := a5.2.2; have := a4.2.2.2; omega⟩
/-- a word is taken by both sides of the relation -/
theorem R_word {fu d r y w q n : Nat} {ks as ps : Nat → Nat} {C : Nat → Nat → Int32} {E : Nat → Int64} {M : Nat → Nat → Int32} {ML : Nat → Int64} {MR : Nat → Nat → Int64} {MV : Nat → Int64} {MY : Nat → Nat → Int32} (h : Rel fu C E M ML MR MV MY) (hS : RS d r y w q n ks as ps (C 1) (C 2) (C 3) (C 4) (M 0) (M 17) (M 18) (M 19)) (hH : RH n (C 14) (C 15) E (M 1) (M 2) (M 3) (M 14) MR) (s v2 ok most may : Int32)
    (hok : 0 ≤ v2 ∧ v2 ≤ 12 → (¬ ok = 0 ↔ (v2 ≤ most ∧ ¬ may = 0))) (hmost : most ≤ 12) :
    ∃ c r1 t1 s1 m1 r1' w1, m_X5_takeWord fu (C 0) (C 14) (C 15) E (C 19) (C 24) (C 25) s v2 ok = some (c, (r1, t1, s1)) ∧ m_X6_noWord fu (M 0) ML (M 1) (M 3) MR (M 16) (M 21) s v2 most may = some (c, (m1, r1', w1)) ∧ (∀ j, j ≠ 31 → m1 j = M 0 j) ∧ RR r1 r1' ∧
      (¬ c = 0 ∨ (c = 0 ∧ ¬ ok = 0 ∧ ∃ (s' : Nat) (l : List Nat), s' < 8 ∧ s = nI s' ∧ v2 = nI l.length ∧ WD t1 s1 l ∧ WM m1 w1 l ∧ ∀ i x, l[i]? = some x → MR s' i = lN x)) := by
  obtain ⟨c, r1, t1, s1, m1, r1', w1, h1, h2, ⟨h3, h4⟩, h5⟩ := s_take1 (fu := fu) h.1 hS.2.2.2.2.2.2.1.2.2 hH (C 0) (C 19) (C 24) (C 25) (M 0) ML (M 16) (M 21) s v2 ok most may hok hmost
  refine ⟨c, r1, t1, s1, m1, r1', w1, h1, h2, h3, ?_, ?_⟩
  · rcases h4 with q | ⟨-, rfl, rfl, -⟩
    · exact h.2.2.2.ref q
    · exact h.2.2.2
  · rcases h4 with q | ⟨e, -, -, s', p', a, z, l, g1, g2, g3, g4, g5, g6, g7, g8, g9, g10, g11, g12, g13, g14⟩
    · exact Or.inl q.1
    · exact Or.inr ⟨e, h5 e, s', l, g1, g2, g5, g6, g7, g14⟩
theorem m21 {m m' : Nat → Int32} (h : ∀ j, j ≠ 31 → m' j = m j) : ∀ j, j < 21 → m' j = m j := fun j hj => h j (by omega)
theorem m21s {m m' m2 : Nat → Int32} (h : ∀ j, j ≠ 31 → m' j = m j) (s : SM m' m2) : ∀ j, j < 21 → m2 j = m j := fun j hj => (s j (by omega)).trans (h j (by omega))
theorem R_19 (fu : Nat) (C : Nat → Nat → Int32) (E : Nat → Int64) (M : Nat → Nat → Int32) (ML : Nat → Int64) (MR : Nat → Nat → Int64) (MV : Nat → Int64) (MY : Nat → Nat → Int32) (h : Rel fu C E M ML MR MV MY) (v1 : Int32) (v2 : Int32) (v3 : Int32) : ∃ (oX : Int32 × ((Nat → Int32) × (Nat → Int32) × (Nat → Int32) × (Nat → Int32) × (Nat → Int32))) (oM : Int32 × ((Nat → Int32) × (Nat → Int32) × (Nat → Int32) × (Nat → Int32))), m_X5_weighed fu (C 0) (C 1) (C 2) (C 4) (C 14) (C 15) E (C 19) (C 20) (C 21) (C 24) (C 25) v1 v2 v3 = some oX ∧ m_X6_weighed fu (M 0) ML (M 1) (M 3) MR (M 16) (M 17) (M 19) (M 21) (M 22) v1 v2 v3 = some oM ∧ oX.1 = oM.1 ∧ Rel fu (upC (upC (upC (upC (upC C 19 oX.2.1) 20 oX.2.2.1) 21 oX.2.2.2.1) 24 oX.2.2.2.2.1) 25 oX.2.2.2.2.2) E (upC (upC (upC (upC M 0 oM.2.1) 16 oM.2.2.1) 21 oM.2.2.2.1) 22 oM.2.2.2.2) ML MR MV MY := by
  obtain ⟨hf, ⟨d, r, y, w, q, n, ks, as, ps, hS, hH⟩, hT, hr⟩ := id h
  obtain ⟨hn1, hn2, hn8⟩ := hS.2.2.2.2.2.2.1
  obtain ⟨c, r1, t1, s1, m1, r1', w1, h1, h2, h3, h4, h5⟩ := R_word h hS hH v1 v2 (bI (0 ≤ v3 ∧ v3 ≤ nI n - 1)) 12 (bI (0 ≤ v3 ∧ v3 ≤ nI n - 1)) (fun e => ⟨fun q => ⟨e.2, q⟩, fun q => q.2⟩) (by decide)
  unfold m_X5_weighed m_X6_weighed b_X6_weighed_30
  rw [s_isVoice, Option.bind_some, s_mVoice, Option.bind_some, hn1, hn2]
  dsimp only
  rw [h1, h2, Option.bind_some, Option.bind_some]
  dsimp only
  rcases h5 with c0 | ⟨c0, ok, s', l, g1, g2, g3, g4, g5, g6⟩
  · rw [if_neg c0, if_neg c0]
    exact ⟨_, _, rfl, rfl, rfl, h.go rfl rfl rfl rfl rfl rfl rfl rfl rfl (m21 h3) rfl rfl rfl rfl rfl rfl rfl rfl h4⟩
  · rw [if_pos c0, if_pos c0]
    obtain ⟨v, hv, rfl⟩ := v_ok hn8 (Classical.byContradiction fun q => ok (bI_f q))
    obtain ⟨t', e1, e2, -⟩ := s_standsFor (fu := fu) (t := C 20) (v := v) hS (by omega)
    obtain ⟨t2, h2', e3, -⟩ := s_weighs (fu := fu) (h := C 21) hf e2 g4
    obtain ⟨m2, mh, e4, e5⟩ := s_weighedOf (fu := fu) (mL := ML) (h := M 22) hf (s_MT (m' := m1) (v := v) hS (m21 h3) (by omega)) g5
    rw [e1, Option.bind_some, e3, Option.bind_some, e4, Option.bind_some]
    exact ⟨_, _, rfl, rfl, rfl, h.go rfl rfl rfl rfl rfl rfl rfl rfl rfl (m21s h3 e5) rfl rfl rfl rfl rfl rfl rfl rfl h4⟩
