-- PURE 15: questions by a word and a voice
theorem tm1 : (-1 : Int32).toInt = -1 := by decide
theorem i_from {x : Int32} (h : ¬ x < -1) (h2 : ¬ x = -1) : ∃ j : Nat, j < 2 ^ 31 ∧ x = nI j := nI_of (fun e => by
  rw [i_lt, tm1] at h
  rw [i_eq, tm1] at h2
  rw [i_lt, t0] at e
  omega)
def KP (m0 m : Nat → Int32) : Prop := (∀ j, j < 35 → j ≠ 9 → j ≠ 10 → j ≠ 11 → j ≠ 33 → m j = m0 j) ∧ m 35 = m0 9 ∧ m 36 = m0 11 ∧ m 37 = m0 10
theorem KP.sm {m0 m m' : Nat → Int32} (h : KP m0 m) (s : SM m m') : KP m0 m' := ⟨fun j h1 h2 h3 h4 h5 => (s j h5).trans (h.1 j h1 h2 h3 h4 h5), (s 35 (by decide)).trans h.2.1, (s 36 (by decide)).trans h.2.2.1, (s 37 (by decide)).trans h.2.2.2⟩
theorem KP.up {m0 m : Nat → Int32} {i : Nat} {x : Int32} (h : KP m0 m) (hi : i = 9 ∨ i = 10 ∨ i = 11) : KP m0 (upd m i x) := ⟨fun j h1 h2 h3 h4 h5 => (pk_un (by omega)).trans (h.1 j h1 h2 h3 h4 h5), (pk_un (by omega)).trans h.2.1, (pk_un (by omega)).trans h.2.2.1, (pk_un (by omega)).trans h.2.2.2⟩
theorem s_keeps {fu : Nat} {m : Nat → Int32} {mL : Nat → Int64} : m_X6_keeps fu m mL = some (upd (upd (upd m 35 (m 9)) 36 (m 11)) 37 (m 10)) := rfl
theorem KP.keeps {m : Nat → Int32} : KP m (upd (upd (upd m 35 (m 9)) 36 (m 11)) 37 (m 10)) := ⟨fun j h1 _ _ _ _ => by rw [pk_un (by omega), pk_un (by omega), pk_un (by omega)], rfl, rfl, rfl⟩
theorem KP.back {fu : Nat} {m0 m : Nat → Int32} {mL : Nat → Int64} (h : KP m0 m) : ∃ m', m_X6_goesBack fu m mL = some m' ∧ (∀ j, j < 35 → j ≠ 33 → m' j = m0 j) ∧ KP m0 m' := by
  refine ⟨upd (upd (upd m 9 (m 35)) 11 (m 36)) 10 (m 37), rfl, fun j h1 h2 => ?_, ((h.up (Or.inl rfl)).up (Or.inr (Or.inr rfl))).up (Or.inr (Or.inl rfl))⟩
  by_cases c : j = 10
  · subst c; exact pk_us.trans h.2.2.2
  · rw [pk_un c]
    by_cases c2 : j = 11
    · subst c2; exact pk_us.trans h.2.2.1
    · rw [pk_un c2]
      by_cases c3 : j = 9
      · subst c3; exact pk_us.trans h.2.1
      · rw [pk_un c3]; exact h.1 j h1 c3 c c2 h2
theorem WM.kp {m0 m mw : Nat → Int32} {l : List Nat} (h : WM m0 mw l) (k : KP m0 m) : WM m mw l := ⟨(k.1 31 (by decide) (by decide) (by decide) (by decide) (by decide)).trans h.1, h.2⟩
theorem MT.kp {m0 m mk mp : Nat → Int32} {v k p d y w q d' y' : Nat} (h : MT m0 mk mp v k p d y w q) (c : KP m0 m) (h9 : m 9 = nI d') (hd : d' ≤ 40) (h11 : m 11 = nI y') (hy : y' ≤ 9999) : MT m mk mp v k p d' y' w q := by
  obtain ⟨b0, b1, b2, b3, b4, b5, b6, b7, b8, b9, b10, b11, b12, b13⟩ := h
  exact ⟨b0, b1, b2, h9, h11, (c.1 12 (by decide) (by decide) (by decide) (by decide) (by decide)).trans b5, (c.1 13 (by decide) (by decide) (by decide) (by decide) (by decide)).trans b6, b7, b8, hd, hy, b11, b12, b13⟩
/-- the reference's well while days are tried -/
def MD (m0 m : Nat → Int32) (d r y : Nat) : Prop := KP m0 m ∧ (m 9 = nI d ∧ d ≤ 40) ∧ (m 10 = nI r ∧ r ≤ 9) ∧ (m 11 = nI y ∧ y ≤ 9999)
theorem MD.sm {m0 m m' : Nat → Int32} {d r y : Nat} (h : MD m0 m d r y) (s : SM m m') : MD m0 m' d r y := ⟨h.1.sm s, ⟨(s 9 (by decide)).trans h.2.1.1, h.2.1.2⟩, ⟨(s 10 (by decide)).trans h.2.2.1.1, h.2.2.1.2⟩, ⟨(s 11 (by decide)).trans h.2.2.2.1, h.2.2.2.2⟩⟩
theorem MD.pass {fu d r y : Nat} {m0 m : Nat → Int32} {mL : Nat → Int64} (h : MD m0 m d r y) : ∃ m', m_X6_passes fu m mL = some m' ∧ MD m0 m' (dn d r) r (dy y) := by
  obtain ⟨a1, ⟨a2, a3⟩, ⟨a4, a5⟩, a6, a7⟩ := h
  exact ⟨_, s_passes a2 a3 a4 a5 a6 a7, (a1.up (Or.inl rfl)).up (Or.inr (Or.inr rfl)), ⟨rfl, dn_le⟩, ⟨a4, a5⟩, rfl, dy_le⟩
theorem MT.md {m0 m mk mp : Nat → Int32} {v k p d r y w q d' y' : Nat} (h : MT m0 mk mp v k p d y w q) (c : MD m0 m d' r y') : MT m mk mp v k p d' y' w q := h.kp c.1 c.2.1.1 c.2.1.2 c.2.2.2.1 c.2.2.2.2
theorem TR.pass {fu k p d r y w q : Nat} {t : Nat → Int32} (h : TR t k p d r y w q) : ∃ t', m_X3_passDay fu t = some t' ∧ TR t' k p (dn d r) r (dy y) w q := by
  obtain ⟨a0, a1, a2, a3, a4, a5, a6, b0, b1, b2, b3, b4, b5⟩ := h
  exact ⟨_, s_passDay3 a2 b2 a3 b3 a4 b4, a0, a1, rfl, a3, rfl, a5, a6, b0, b1, dn_le, b3, dy_le, b5⟩
theorem TR.pitch {k p d r y w q p' : Nat} {t : Nat → Int32} (h : TR t k p d r y w q) (hp : p' ≤ 20) : TR (upd t 1 (nI p')) k p' d r y w q := by
  obtain ⟨a0, a1, a2, a3, a4, a5, a6, b0, b1, b2, b3, b4, b5⟩ := h
  exact ⟨a0, rfl, a2, a3, a4, a5, a6, b0, hp, b2, b3, b4, b5⟩
theorem TR.kind {k p d r y w q k' : Nat} {t : Nat → Int32} (h : TR t k p d r y w q) (hp : k' ≤ 5) : TR (upd t 0 (nI k')) k' p d r y w q := by
  obtain ⟨a0, a1, a2, a3, a4, a5, a6, b0, b1, b2, b3, b4, b5⟩ := h
  exact ⟨rfl, a1, a2, a3, a4, a5, a6, hp, b1, b2, b3, b4, b5⟩
theorem TR.depth {k p d r y w q d' : Nat} {t : Nat → Int32} (h : TR t k p d r y w q) (hp : d' ≤ 40) : TR (upd t 2 (nI d')) k p d' r y w q := by
  obtain ⟨a0, a1, a2, a3, a4, a5, a6, b0, b1, b2, b3, b4, b5⟩ := h
  exact ⟨a0, a1, rfl, a3, a4, a5, a6, b0, b1, hp, b3, b4, b5⟩
theorem TR.rain {k p d r y w q r' : Nat} {t : Nat → Int32} (h : TR t k p d r y w q) (hp : r' ≤ 9) : TR (upd t 3 (nI r')) k p d r' y w q := by
  obtain ⟨a0, a1, a2, a3, a4, a5, a6, b0, b1, b2, b3, b4, b5⟩ := h
  exact ⟨a0, a1, a2, rfl, a4, a5, a6, b0, b1, b2, hp, b4, b5⟩
theorem MT.pitch {m mk mp : Nat → Int32} {v k p d y w q p' : Nat} (h : MT m mk mp v k p d y w q) (hp : p' ≤ 20) : MT m mk (upd mp v (nI p')) v k p' d y w q := by
  obtain ⟨b0, b1, b2, b3, b4, b5, b6, b7, b8, b9, b10, b11, b12, b13⟩ := h
  exact ⟨b0, b1, pk_us, b3, b4, b5, b6, b7, hp, b9, b10, b11, b12, b13⟩
theorem Rel.go2 {fu : Nat} {C C' : Nat → Nat → Int32} {E E' : Nat → Int64} {M M' : Nat → Nat → Int32} {ML ML' : Nat → Int64} {MR : Nat → Nat → Int64} {MV MV' : Nat → Int64} {MY MY' : Nat → Nat → Int32} (h : Rel fu C E M ML MR MV MY)
    (c1 : C' 1 = C 1) (c2 : C' 2 = C 2) (c3 : C' 3 = C 3) (c4 : C' 4 = C 4) (c14 : C' 14 = C 14) (c15 : C' 15 = C 15) (c17 : C' 17 = C 17) (c18 : C' 18 = C 18) (cE : E' = E)
    (m0 : ∀ j, j < 21 → M' 0 j = M 0 j) (m1 : M' 1 = M 1) (m2 : M' 2 = M 2) (m3 : M' 3 = M 3) (m14 : M' 14 = M 14) (m15 : M' 15 = M 15) (m17 : ∀ i, i < 8 → M' 17 i = M 17 i) (m18 : M' 18 = M 18) (m19 : ∀ i, i < 8 → M' 19 i = M 19 i) (hr : RR (C' 19) (M' 16)) : Rel fu C' E' M' ML' MR MV' MY' := by
  obtain ⟨hf, ⟨d, r, y, w, q, n, ks, as, ps, hS, hH⟩, ⟨z, z1, z2, z3, z4⟩, -⟩ := h
  refine ⟨hf, ⟨d, r, y, w, q, n, ks, as, ps, hS.cong (fun j _ => by rw [c1]) (fun j _ h => m0 j (by omega)) (m0 20 (by decide)) (fun i hi => ⟨⟨by rw [c2], by rw [c3], by rw [c4]⟩, m17 i hi, by rw [m18], m19 i hi⟩), ?_⟩, ⟨z, z1, ?_, ?_, ?_⟩, hr⟩
  · rw [c14, c15, cE, m1, m2, m3, m14]; exact hH
  · rw [c17]; exact z2
  · rw [m0 7 (by decide)]; exact z3
  · rw [c18, m15]; exact z4

theorem R_17 (fu : Nat) (C : Nat → Nat → Int32) (E : Nat → Int64) (M : Nat → Nat → Int32) (ML : Nat → Int64) (MR : Nat → Nat → Int64) (MV : Nat → Int64) (MY : Nat → Nat → Int32) (h : Rel fu C E M ML MR MV MY) (v1 : Int32) (v2 : Int32) (v3 : Int32) (v4 : Int32) : ∃ (oX : Int32 × ((Nat → Int32) × (Nat → Int32) × (Nat → Int32) × (Nat → Int32) × (Nat → Int32))) (oM : Int32 × ((Nat → Int32) × (Nat → Int32) × (Nat → Int32) × (Nat → Int32))), m_X5_echo fu (C 0) (C 1) (C 2) (C 4) (C 14) (C 15) E (C 19) (C 20) (C 21) (C 24) (C 25) v1 v2 v3 v4 = some oX ∧ m_X6_echo fu (M 0) ML (M 1) (M 3) MR (M 16) (M 17) (M 19) (M 21) (M 22) v1 v2 v3 v4 = some oM ∧ oX.1 = oM.1 ∧ Rel fu (upC (upC (upC (upC (upC C 19 oX.2.1) 20 oX.2.2.1) 21 oX.2.2.2.1) 24 oX.2.2.2.2.1) 25 oX.2.2.2.2.2) E (upC (upC (upC (upC M 0 oM.2.1) 16 oM.2.2.1) 21 oM.2.2.2.1) 22 oM.2.2.2.2) ML MR MV MY := by
  obtain ⟨hf, ⟨d, r, y, w, q, n, ks, as, ps, hS, hH⟩, hT, hr⟩ := id h
  obtain ⟨hn1, hn2, hn8⟩ := hS.2.2.2.2.2.2.1
  unfold m_X5_echo m_X6_echo b_X5_echo_21 b_X5_echo_22 b_X5_echo_102 b_X6_echo_23 b_X6_echo_24 b_X6_echo_80
  simp only [s_isVoice, s_mVoice, Option.bind_some, hn1, hn2]
  by_cases c1 : 0 ≤ v3 ∧ v3 ≤ nI n - 1
  · rw [bI_t c1, if_neg n10, if_neg n10]
    obtain ⟨v, hv, rfl⟩ := v_ok hn8 c1
    have hv8 : v < 8 := by omega
    by_cases c2 : v4 < -1
    · rw [if_pos c2, if_pos c2]
      obtain ⟨c, r1, t1, s1, m1, r1', w1, h1, h2, h3, h4, h5⟩ := R_word h hS hH v1 v2 0 12 0 (fun e => ⟨fun q => absurd rfl q, fun q => absurd rfl q.2⟩) (by decide)
      rw [h1, h2, Option.bind_some, Option.bind_some]
      dsimp only
      rcases h5 with c0 | ⟨c0, ok, -⟩
      · rw [if_neg c0, if_neg c0]
        exact ⟨_, _, rfl, rfl, rfl, h.go rfl rfl rfl rfl rfl rfl rfl rfl rfl (m21 h3) rfl rfl rfl rfl rfl rfl rfl rfl h4⟩
      · exact absurd rfl ok
    · rw [if_neg c2, if_neg c2]
      obtain ⟨c, r1, t1, s1, m1, r1', w1, h1, h2, h3, h4, h5⟩ := R_word h hS hH v1 v2 1 12 1 (fun e => ⟨fun q => ⟨e.2, q⟩, fun q => q.2⟩) (by decide)
      rw [h1, h2, Option.bind_some, Option.bind_some]
      dsimp only
      rcases h5 with c0 | ⟨c0, ok, s', l, g1, g2, g3, g4, g5, g6⟩
      · rw [if_neg c0, if_neg c0]
        exact ⟨_, _, rfl, rfl, rfl, h.go rfl rfl rfl rfl rfl rfl rfl rfl rfl (m21 h3) rfl rfl rfl rfl rfl rfl rfl rfl h4⟩
      rw [if_pos c0, if_pos c0]
      obtain ⟨t', e1, e2, -⟩ := s_standsFor (fu := fu) (t := C 20) (v := v) hS (by omega)
      obtain ⟨t2, h2', e3, -, e4, e5⟩ := s_hears (fu := fu) (h := C 21) hf e2 g4
      obtain ⟨m2, mh, e6, e7, e8, e9⟩ := s_listen (fu := fu) (mL := ML) (h := M 22) hf (s_MT (m' := m1) (v := v) hS (m21 h3) (by omega)) g5
      have hl := ec_len (k := ks v) (p := pt (ks v) (ps v) y) (d := d) (w := l)
      have hl12 := g4.2.1
      rw [e1, Option.bind_some, e3, Option.bind_some, e6, Option.bind_some]
      dsimp only
      by_cases c3 : v4 = -1
      · rw [if_pos c3, if_pos c3]
        refine ⟨_, _, rfl, rfl, ?_, h.go rfl rfl rfl rfl rfl rfl rfl rfl rfl (m21s h3 e7) rfl rfl rfl rfl rfl rfl rfl rfl (h4)⟩
        exact e4.trans e8.symm
      · rw [if_neg c3, if_neg c3]
        obtain ⟨e, he, rfl⟩ := i_from c2 c3
        by_cases c4 : (ec (ks v) (pt (ks v) (ps v) y) d l).length ≤ e
        · rw [if_pos (by rw [e4]; exact nI_le c4 he), if_pos (by rw [e8]; exact nI_le c4 he), (s_ref fu _ _).2.1, (s_mref fu _ _ _).2.1, Option.bind_some, Option.bind_some]
          exact ⟨_, _, rfl, rfl, rfl, h.go rfl rfl rfl rfl rfl rfl rfl rfl rfl (m21s h3 e7) rfl rfl rfl rfl rfl rfl rfl rfl (h4.r5)⟩
        · have hlt : e < (ec (ks v) (pt (ks v) (ps v) y) d l).length := by omega
          rw [if_neg (by rw [e4]; exact nI_ge hlt (by omega)), if_neg (by rw [e8]; exact nI_ge hlt (by omega)), s_heardAt e4 (by omega) e5 (List.getElem?_eq_getElem hlt), Option.bind_some, gd_t (inb_n (by omega) (by decide)), nI_clamp (by omega), e9 e _ (List.getElem?_eq_getElem hlt)]
          exact ⟨_, _, rfl, rfl, rfl, h.go rfl rfl rfl rfl rfl rfl rfl rfl rfl (m21s h3 e7) rfl rfl rfl rfl rfl rfl rfl rfl (h4)⟩
  · rw [bI_f c1, if_pos p00, if_pos p00]
    obtain ⟨c, r1, t1, s1, m1, r1', w1, h1, h2, h3, h4, h5⟩ := R_word h hS hH v1 v2 0 12 0 (fun e => ⟨fun q => absurd rfl q, fun q => absurd rfl q.2⟩) (by decide)
    rw [h1, h2, Option.bind_some, Option.bind_some]
    dsimp only
    rcases h5 with c0 | ⟨c0, ok, -⟩
    · rw [if_neg c0, if_neg c0]
      exact ⟨_, _, rfl, rfl, rfl, h.go rfl rfl rfl rfl rfl rfl rfl rfl rfl (m21 h3) rfl rfl rfl rfl rfl rfl rfl rfl h4⟩
    · exact absurd rfl ok

theorem R_21 (fu : Nat) (C : Nat → Nat → Int32) (E : Nat → Int64) (M : Nat → Nat → Int32) (ML : Nat → Int64) (MR : Nat → Nat → Int64) (MV : Nat → Int64) (MY : Nat → Nat → Int32) (h : Rel fu C E M ML MR MV MY) (v1 : Int32) (v2 : Int32) (v3 : Int32) : ∃ (oX : Int32 × ((Nat → Int32) × (Nat → Int32) × (Nat → Int32) × (Nat → Int32) × (Nat → Int32))) (oM : Int32 × ((Nat → Int32) × (Nat → Int32) × (Nat → Int32) × (Nat → Int32))), m_X5_when fu (C 0) (C 1) (C 2) (C 4) (C 14) (C 15) E (C 19) (C 20) (C 21) (C 24) (C 25) v1 v2 v3 = some oX ∧ m_X6_when fu (M 0) ML (M 1) (M 3) MR (M 16) (M 17) (M 19) (M 21) (M 22) v1 v2 v3 = some oM ∧ oX.1 = oM.1 ∧ Rel fu (upC (upC (upC (upC (upC C 19 oX.2.1) 20 oX.2.2.1) 21 oX.2.2.2.1) 24 oX.2.2.2.2.1) 25 oX.2.2.2.2.2) E (upC (upC (upC (upC M 0 oM.2.1) 16 oM.2.2.1) 21 oM.2.2.2.1) 22 oM.2.2.2.2) ML MR MV MY := by
  obtain ⟨hf, ⟨d, r, y, w, q, n, ks, as, ps, hS, hH⟩, hT, hr⟩ := id h
  obtain ⟨hn1, hn2, hn8⟩ := hS.2.2.2.2.2.2.1
  unfold m_X5_when m_X6_when
  simp only [s_isVoice, s_mVoice, Option.bind_some, hn1, hn2]
  by_cases c1 : 0 ≤ v3 ∧ v3 ≤ nI n - 1
  · rw [bI_t c1]
    obtain ⟨v, hv, rfl⟩ := v_ok hn8 c1
    have hv8 : v < 8 := by omega
    obtain ⟨c, r1, t1, s1, m1, r1', w1, h1, h2, h3, h4, h5⟩ := R_word h hS hH v1 v2 1 12 1 (fun e => ⟨fun q => ⟨e.2, q⟩, fun q => q.2⟩) (by decide)
    rw [h1, h2, Option.bind_some, Option.bind_some]
    dsimp only
    rcases h5 with c0 | ⟨c0, ok, s', l, g1, g2, g3, g4, g5, g6⟩
    · rw [if_neg c0, if_neg c0]
      exact ⟨_, _, rfl, rfl, rfl, h.go rfl rfl rfl rfl rfl rfl rfl rfl rfl (m21 h3) rfl rfl rfl rfl rfl rfl rfl rfl h4⟩
    rw [if_pos c0, if_pos c0]
    obtain ⟨t', e1, e2, -⟩ := s_standsFor (fu := fu) (t := C 20) (v := v) hS (by omega)
    have e3 := s_MT (m' := m1) (v := v) hS (m21 h3) (by omega)
    have k0 : MD m1 (upd (upd (upd m1 35 (m1 9)) 36 (m1 11)) 37 (m1 10)) d r y := ⟨KP.keeps, ⟨e3.2.2.2.1, hS.1.2.2⟩, ⟨(h3 10 (by decide)).trans hS.2.1.2.1, hS.2.1.2.2⟩, e3.2.2.2.2.1, hS.2.2.1.2.2⟩
    rw [e1, s_keeps, Option.bind_some, Option.bind_some]
    obtain ⟨a, b, f1, f2, f3, f4, f5, f6⟩ := lf2 (b_X5_when_36 fu (C 0) (C 1) (C 2) (C 4) (C 14) (C 15) E) (b_X6_when_30 fu ML (M 1) (M 3) MR (M 17) (M 19)) (fun i x x' => x.1 = nI i ∧ x.2.1 = r1 ∧ x.2.2.2.2.1 = t1 ∧ x.2.2.2.2.2 = s1 ∧ x'.1 = nI v ∧ x'.2.1 = nI i ∧ x'.2.2.2.1 = r1' ∧ x'.2.2.2.2.1 = w1 ∧ ∃ dd yy, TR x.2.2.1 (ks v) (ps v) dd r yy w q ∧ MD m1 x'.2.2.1 dd r yy) 61 (fun o o' => ∃ a b, o = some a ∧ o' = some b ∧ a.1 = b.1 ∧ a.2.1 = r1 ∧ b.2.2.1 = r1' ∧ ∀ j, j < 35 → j ≠ 33 → b.2.1 j = m1 j)
      (by
        rintro i ⟨x1, x2, x3, x4, x5, x6⟩ ⟨y1, y2, y3, y4, y5, y6⟩ k k' hi ⟨u1, u2, u3, u4, u5, u6, u7, u8, dd, yy, u9, u10⟩
        dsimp only at u1 u2 u3 u4 u5 u6 u7 u8 u9 u10
        subst u1 u2 u3 u4 u5 u6 u7 u8
        obtain ⟨t2, h2', e4, e5⟩ := s_weighs (fu := fu) (h := x4) hf u9 g4
        obtain ⟨m2, mh, e6, e7⟩ := s_gets (fu := fu) (mL := ML) (h := y6) hf (e3.md u10) (g5.kp u10.1)
        unfold b_X5_when_36 b_X6_when_30 b_X6_when_55 b_X6_when_72
        dsimp only
        rw [if_neg (show ¬ (60 : Int32) < nI i from nI_nlt (a := 60) (by omega) (by decide)), if_neg (show ¬ (60 : Int32) < nI i from nI_nlt (a := 60) (by omega) (by decide)), e4, e6, Option.bind_some, Option.bind_some]
        dsimp only
        by_cases c : wg (ks v) (pt (ks v) (ps v) yy) dd w q l = 1
        · rw [if_pos c, bI_t c, if_neg n10]
          obtain ⟨m3, b1, b2, -⟩ := (u10.1.sm e7).back (fu := fu) (mL := ML)
          right
          rw [b1, Option.bind_some, if_neg (show ¬ (60 : Int32) < nI i from nI_nlt (a := 60) (by omega) (by decide))]
          exact ⟨_, _, rfl, rfl, rfl, rfl, rfl, b2⟩
        · rw [if_neg c, bI_f c, if_pos p00]
          obtain ⟨t3, b1, b2⟩ := (u9.sb e5).pass (fu := fu)
          obtain ⟨m3, b3, b4⟩ := (u10.sm e7).pass (fu := fu) (mL := ML)
          left
          rw [b1, b3, Option.bind_some, Option.bind_some, nI_1]
          exact ⟨(nI (i + 1), x2, t3, h2', x5, x6), (nI v, nI (i + 1), m3, y4, y5, mh), ⟨rfl, rfl, rfl, rfl, rfl, rfl, rfl, rfl, _, _, b2, b4⟩, rfl, rfl⟩)
      (by
        rintro ⟨x1, x2, x3, x4, x5, x6⟩ ⟨y1, y2, y3, y4, y5, y6⟩ k k' ⟨u1, u2, u3, u4, u5, u6, u7, u8, dd, yy, u9, u10⟩
        dsimp only at u1 u2 u3 u4 u5 u6 u7 u8 u9 u10
        subst u1 u2 u3 u4 u5 u6 u7 u8
        unfold b_X5_when_36 b_X6_when_30 b_X6_when_55 b_X6_when_72
        dsimp only
        obtain ⟨m3, b1, b2, -⟩ := u10.1.back (fu := fu) (mL := ML)
        rw [if_pos (show (60 : Int32) < nI 61 by decide), if_pos (show (60 : Int32) < nI 61 by decide), b1, Option.bind_some, if_pos (show (60 : Int32) < nI 61 by decide)]
        exact ⟨_, _, rfl, rfl, rfl, rfl, rfl, b2⟩) fu 0 ((0 : Int32), r1, t', C 21, t1, s1) (nI v, (0 : Int32), _, r1', w1, M 22) (Nat.zero_le _) (by omega) ⟨rfl, rfl, rfl, rfl, rfl, rfl, rfl, rfl, d, y, e2, k0⟩
    exact ⟨a, b, f1, f2, f3, h.go rfl rfl rfl rfl rfl rfl rfl rfl rfl (fun j hj => (f6 j (by omega) (by omega)).trans (h3 j (by omega))) rfl rfl rfl rfl rfl rfl rfl rfl (by show RR a.2.1 b.2.2.1; rw [f4, f5]; exact h4)⟩
  · rw [bI_f c1]
    obtain ⟨c, r1, t1, s1, m1, r1', w1, h1, h2, h3, h4, h5⟩ := R_word h hS hH v1 v2 0 12 0 (fun e => ⟨fun q => absurd rfl q, fun q => absurd rfl q.2⟩) (by decide)
    rw [h1, h2, Option.bind_some, Option.bind_some]
    dsimp only
    rcases h5 with c0 | ⟨c0, ok, -⟩
    · rw [if_neg c0, if_neg c0]
      exact ⟨_, _, rfl, rfl, rfl, h.go rfl rfl rfl rfl rfl rfl rfl rfl rfl (m21 h3) rfl rfl rfl rfl rfl rfl rfl rfl h4⟩
    · exact absurd rfl ok

theorem R_22 (fu : Nat) (C : Nat → Nat → Int32) (E : Nat → Int64) (M : Nat → Nat → Int32) (ML : Nat → Int64) (MR : Nat → Nat → Int64) (MV : Nat → Int64) (MY : Nat → Nat → Int32) (h : Rel fu C E M ML MR MV MY) (v1 : Int32) (v2 : Int32) (v3 : Int32) : ∃ (oX : Int32 × ((Nat → Int32) × (Nat → Int32) × (Nat → Int32) × (Nat → Int32) × (Nat → Int32))) (oM : Int32 × ((Nat → Int32) × (Nat → Int32) × (Nat → Int32) × (Nat → Int32))), m_X5_sure fu (C 0) (C 1) (C 2) (C 4) (C 14) (C 15) E (C 19) (C 20) (C 21) (C 24) (C 25) v1 v2 v3 = some oX ∧ m_X6_sure fu (M 0) ML (M 1) (M 3) MR (M 16) (M 17) (M 19) (M 21) (M 22) v1 v2 v3 = some oM ∧ oX.1 = oM.1 ∧ Rel fu (upC (upC (upC (upC (upC C 19 oX.2.1) 20 oX.2.2.1) 21 oX.2.2.2.1) 24 oX.2.2.2.2.1) 25 oX.2.2.2.2.2) E (upC (upC (upC (upC M 0 oM.2.1) 16 oM.2.2.1) 21 oM.2.2.2.1) 22 oM.2.2.2.2) ML MR MV MY := by
  obtain ⟨hf, ⟨d, r, y, w, q, n, ks, as, ps, hS, hH⟩, hT, hr⟩ := id h
  obtain ⟨hn1, hn2, hn8⟩ := hS.2.2.2.2.2.2.1
  unfold m_X5_sure m_X6_sure
  simp only [s_isVoice, s_mVoice, Option.bind_some, hn1, hn2]
  by_cases c1 : 0 ≤ v3 ∧ v3 ≤ nI n - 1
  · rw [bI_t c1]
    obtain ⟨v, hv, rfl⟩ := v_ok hn8 c1
    have hv8 : v < 8 := by omega
    obtain ⟨c, r1, t1, s1, m1, r1', w1, h1, h2, h3, h4, h5⟩ := R_word h hS hH v1 v2 1 12 1 (fun e => ⟨fun q => ⟨e.2, q⟩, fun q => q.2⟩) (by decide)
    rw [h1, h2, Option.bind_some, Option.bind_some]
    dsimp only
    rcases h5 with c0 | ⟨c0, ok, s', l, g1, g2, g3, g4, g5, g6⟩
    · rw [if_neg c0, if_neg c0]
      exact ⟨_, _, rfl, rfl, rfl, h.go rfl rfl rfl rfl rfl rfl rfl rfl rfl (m21 h3) rfl rfl rfl rfl rfl rfl rfl rfl h4⟩
    rw [if_pos c0, if_pos c0]
    obtain ⟨t', e1, e2, -⟩ := s_standsFor (fu := fu) (t := C 20) (v := v) hS (by omega)
    have e3 := s_MT (m' := m1) (v := v) hS (m21 h3) (by omega)
    have k0 : MD m1 (upd (upd (upd m1 35 (m1 9)) 36 (m1 11)) 37 (m1 10)) d r y := ⟨KP.keeps, ⟨e3.2.2.2.1, hS.1.2.2⟩, ⟨(h3 10 (by decide)).trans hS.2.1.2.1, hS.2.1.2.2⟩, e3.2.2.2.2.1, hS.2.2.1.2.2⟩
    rw [e1, s_keeps, Option.bind_some, Option.bind_some]
    obtain ⟨a, b, f1, f2, f3, f4, f5, f6⟩ := lf2 (b_X5_sure_36 fu (C 0) (C 1) (C 2) (C 4) (C 14) (C 15) E) (b_X6_sure_30 fu ML (M 1) (M 3) MR (M 17) (M 19)) (fun i x x' => x.1 = nI i ∧ x.2.1 = r1 ∧ x.2.2.2.2.1 = t1 ∧ x.2.2.2.2.2 = s1 ∧ x'.1 = nI v ∧ x'.2.1 = nI i ∧ x'.2.2.2.1 = r1' ∧ x'.2.2.2.2.1 = w1 ∧ ∃ dd yy, TR x.2.2.1 (ks v) (ps v) dd r yy w q ∧ MD m1 x'.2.2.1 dd r yy) 60 (fun o o' => ∃ a b, o = some a ∧ o' = some b ∧ a.1 = b.1 ∧ a.2.1 = r1 ∧ b.2.2.1 = r1' ∧ ∀ j, j < 35 → j ≠ 33 → b.2.1 j = m1 j)
      (by
        rintro i ⟨x1, x2, x3, x4, x5, x6⟩ ⟨y1, y2, y3, y4, y5, y6⟩ k k' hi ⟨u1, u2, u3, u4, u5, u6, u7, u8, dd, yy, u9, u10⟩
        dsimp only at u1 u2 u3 u4 u5 u6 u7 u8 u9 u10
        subst u1 u2 u3 u4 u5 u6 u7 u8
        obtain ⟨t2, h2', e4, e5⟩ := s_weighs (fu := fu) (h := x4) hf u9 g4
        obtain ⟨m2, mh, e6, e7⟩ := s_gets (fu := fu) (mL := ML) (h := y6) hf (e3.md u10) (g5.kp u10.1)
        unfold b_X5_sure_36 b_X6_sure_30 b_X6_sure_55
        dsimp only
        rw [if_neg (show ¬ (60 : Int32) ≤ nI i from nI_ge (b := 60) (by omega) (by decide)), if_neg (show ¬ (60 : Int32) ≤ nI i from nI_ge (b := 60) (by omega) (by decide)), e4, e6, Option.bind_some, Option.bind_some]
        dsimp only
        by_cases c : wg (ks v) (pt (ks v) (ps v) yy) dd w q l = 1
        · rw [if_pos c, bI_t c, if_neg n10]
          obtain ⟨t3, b1, b2⟩ := (u9.sb e5).pass (fu := fu)
          obtain ⟨m3, b3, b4⟩ := (u10.sm e7).pass (fu := fu) (mL := ML)
          left
          rw [b1, b3, Option.bind_some, Option.bind_some, nI_1]
          exact ⟨(nI (i + 1), x2, t3, h2', x5, x6), (nI v, nI (i + 1), m3, y4, y5, mh), ⟨rfl, rfl, rfl, rfl, rfl, rfl, rfl, rfl, _, _, b2, b4⟩, rfl, rfl⟩
        · rw [if_neg c, bI_f c, if_pos p00]
          obtain ⟨m3, b1, b2, -⟩ := (u10.1.sm e7).back (fu := fu) (mL := ML)
          right
          rw [b1, Option.bind_some]
          exact ⟨_, _, rfl, rfl, rfl, rfl, rfl, b2⟩)
      (by
        rintro ⟨x1, x2, x3, x4, x5, x6⟩ ⟨y1, y2, y3, y4, y5, y6⟩ k k' ⟨u1, u2, u3, u4, u5, u6, u7, u8, dd, yy, u9, u10⟩
        dsimp only at u1 u2 u3 u4 u5 u6 u7 u8 u9 u10
        subst u1 u2 u3 u4 u5 u6 u7 u8
        unfold b_X5_sure_36 b_X6_sure_30 b_X6_sure_55
        dsimp only
        obtain ⟨m3, b1, b2, -⟩ := u10.1.back (fu := fu) (mL := ML)
        rw [if_pos (show (60 : Int32) ≤ nI 60 by decide), if_pos (show (60 : Int32) ≤ nI 60 by decide), b1, Option.bind_some]
        exact ⟨_, _, rfl, rfl, rfl, rfl, rfl, b2⟩) fu 0 ((0 : Int32), r1, t', C 21, t1, s1) (nI v, (0 : Int32), _, r1', w1, M 22) (Nat.zero_le _) (by omega) ⟨rfl, rfl, rfl, rfl, rfl, rfl, rfl, rfl, d, y, e2, k0⟩
    exact ⟨a, b, f1, f2, f3, h.go rfl rfl rfl rfl rfl rfl rfl rfl rfl (fun j hj => (f6 j (by omega) (by omega)).trans (h3 j (by omega))) rfl rfl rfl rfl rfl rfl rfl rfl (by show RR a.2.1 b.2.2.1; rw [f4, f5]; exact h4)⟩
  · rw [bI_f c1]
    obtain ⟨c, r1, t1, s1, m1, r1', w1, h1, h2, h3, h4, h5⟩ := R_word h hS hH v1 v2 0 12 0 (fun e => ⟨fun q => absurd rfl q, fun q => absurd rfl q.2⟩) (by decide)
    rw [h1, h2, Option.bind_some, Option.bind_some]
    dsimp only
    rcases h5 with c0 | ⟨c0, ok, -⟩
    · rw [if_neg c0, if_neg c0]
      exact ⟨_, _, rfl, rfl, rfl, h.go rfl rfl rfl rfl rfl rfl rfl rfl rfl (m21 h3) rfl rfl rfl rfl rfl rfl rfl rfl h4⟩
    · exact absurd rfl ok

theorem R_24 (fu : Nat) (C : Nat → Nat → Int32) (E : Nat → Int64) (M : Nat → Nat → Int32) (ML : Nat → Int64) (MR : Nat → Nat → Int64) (MV : Nat → Int64) (MY : Nat → Nat → Int32) (h : Rel fu C E M ML MR MV MY) (v1 : Int32) (v2 : Int32) (v3 : Int32) : ∃ (oX : Int32 × ((Nat → Int32) × (Nat → Int32) × (Nat → Int32) × (Nat → Int32) × (Nat → Int32))) (oM : Int32 × ((Nat → Int32) × (Nat → Int32) × (Nat → Int32) × (Nat → Int32) × (Nat → Int32))), m_X5_tuned fu (C 0) (C 1) (C 2) (C 4) (C 14) (C 15) E (C 19) (C 20) (C 21) (C 24) (C 25) v1 v2 v3 = some oX ∧ m_X6_tuned fu (M 0) ML (M 1) (M 3) MR (M 16) (M 17) (M 19) (M 21) (M 22) v1 v2 v3 = some oM ∧ oX.1 = oM.1 ∧ Rel fu (upC (upC (upC (upC (upC C 19 oX.2.1) 20 oX.2.2.1) 21 oX.2.2.2.1) 24 oX.2.2.2.2.1) 25 oX.2.2.2.2.2) E (upC (upC (upC (upC (upC M 0 oM.2.1) 16 oM.2.2.1) 19 oM.2.2.2.1) 21 oM.2.2.2.2.1) 22 oM.2.2.2.2.2) ML MR MV MY := by
  obtain ⟨hf, ⟨d, r, y, w, q, n, ks, as, ps, hS, hH⟩, hT, hr⟩ := id h
  obtain ⟨hn1, hn2, hn8⟩ := hS.2.2.2.2.2.2.1
  unfold m_X5_tuned m_X6_tuned
  simp only [s_isVoice, s_mVoice, Option.bind_some, hn1, hn2]
  by_cases c1 : 0 ≤ v3 ∧ v3 ≤ nI n - 1
  · rw [bI_t c1]
    obtain ⟨v, hv, rfl⟩ := v_ok hn8 c1
    have hv8 : v < 8 := by omega
    obtain ⟨c, r1, t1, s1, m1, r1', w1, h1, h2, h3, h4, h5⟩ := R_word h hS hH v1 v2 1 12 1 (fun e => ⟨fun q => ⟨e.2, q⟩, fun q => q.2⟩) (by decide)
    rw [h1, h2, Option.bind_some, Option.bind_some]
    dsimp only
    rcases h5 with c0 | ⟨c0, ok, s', l, g1, g2, g3, g4, g5, g6⟩
    · rw [if_neg c0, if_neg c0]
      exact ⟨_, _, rfl, rfl, rfl, h.go rfl rfl rfl rfl rfl rfl rfl rfl rfl (m21 h3) rfl rfl rfl rfl rfl rfl rfl rfl h4⟩
    rw [if_pos c0, if_pos c0]
    obtain ⟨t', e1, e2, -⟩ := s_standsFor (fu := fu) (t := C 20) (v := v) hS (by omega)
    have e3 := s_MT (m' := m1) (v := v) hS (m21 h3) (by omega)
    rw [e1, Option.bind_some, gd_t (ib8 hv8), cl8 hv8]
    obtain ⟨a, b, f1, f2, f3, f4, f5, f6, f7⟩ := lf2 (b_X5_tuned_39 fu (C 0) (C 1) (C 2) (C 4) (C 14) (C 15) E) (b_X6_tuned_37 fu ML (M 1) (M 3) MR (M 17)) (fun i x x' => x.1 = x'.2.2.1 ∧ x.2.1 = nI i ∧ x.2.2.1 = r1 ∧ x.2.2.2.2.2.1 = t1 ∧ x.2.2.2.2.2.2 = s1 ∧ x'.1 = nI v ∧ x'.2.1 = M 19 v ∧ x'.2.2.2.1 = nI i ∧ x'.2.2.2.2.2.1 = r1' ∧ x'.2.2.2.2.2.2.2.1 = w1 ∧ (∃ p', TR x.2.2.2.1 (ks v) p' d r y w q ∧ p' ≤ 20 ∧ MT x'.2.2.2.2.1 (M 17) x'.2.2.2.2.2.2.1 v (ks v) p' d y w q) ∧ (∀ i, i ≠ v → x'.2.2.2.2.2.2.1 i = M 19 i) ∧ SM m1 x'.2.2.2.2.1) 21 (fun o o' => ∃ a b, o = some a ∧ o' = some b ∧ a.1 = b.1 ∧ a.2.1 = r1 ∧ b.2.2.1 = r1' ∧ SM m1 b.2.1 ∧ ∀ i, i < 8 → b.2.2.2.1 i = M 19 i)
      (by
        rintro i ⟨x1, x2, x3, x4, x5, x6, x7⟩ ⟨y1, y2, y3, y4, y5, y6, y7, y8, y9⟩ k k' hi ⟨u1, u2, u3, u4, u5, u6, u7, u8, u9, u10, ⟨p', u11, u12, u13⟩, u14, u15⟩
        dsimp only at u1 u2 u3 u4 u5 u6 u7 u8 u9 u10 u11 u12 u13 u14 u15
        subst u1 u2 u3 u4 u5 u6 u7 u8 u9 u10
        have k1 := u13.pitch (p' := i) (by omega)
        obtain ⟨t2, h2', e4, e5⟩ := s_weighs (fu := fu) (h := x5) hf (u11.pitch (p' := i) (by omega)) g4
        obtain ⟨m2, mh, e6, e7⟩ := s_gets (fu := fu) (mL := ML) (h := y9) hf k1 (g5.sm u15)
        left
        unfold b_X5_tuned_39 b_X6_tuned_37 b_X5_tuned_79 b_X6_tuned_70
        dsimp only
        rw [if_neg (show ¬ (20 : Int32) < nI i from nI_nlt (a := 20) (by omega) (by decide)), if_neg (show ¬ (20 : Int32) < nI i from nI_nlt (a := 20) (by omega) (by decide)), e4, Option.bind_some, gd_t (ib8 hv8), cl8 hv8, e6, Option.bind_some, nI_1]
        dsimp only
        by_cases c : wg (ks v) (pt (ks v) i y) d w q l = 1
        · rw [if_pos c, bI_t c, if_neg n10]
          exact ⟨(x1 ||| (1 <<< (nI i &&& 31)), nI (i + 1), x3, t2, h2', x6, x7), (nI v, M 19 v, x1 ||| (1 <<< (nI i &&& 31)), nI (i + 1), m2, y6, upd y7 v (nI i), y8, mh), ⟨rfl, rfl, rfl, rfl, rfl, rfl, rfl, rfl, rfl, rfl, ⟨i, (u11.pitch (by omega)).sb e5, by omega, k1.sm e7⟩, fun z hz => (pk_un hz).trans (u14 z hz), u15.tr e7⟩, rfl, rfl⟩
        · rw [if_neg c, bI_f c, if_pos p00, Int32.or_zero]
          exact ⟨(x1, nI (i + 1), x3, t2, h2', x6, x7), (nI v, M 19 v, x1, nI (i + 1), m2, y6, upd y7 v (nI i), y8, mh), ⟨rfl, rfl, rfl, rfl, rfl, rfl, rfl, rfl, rfl, rfl, ⟨i, (u11.pitch (by omega)).sb e5, by omega, k1.sm e7⟩, fun z hz => (pk_un hz).trans (u14 z hz), u15.tr e7⟩, rfl, rfl⟩)
      (by
        rintro ⟨x1, x2, x3, x4, x5, x6, x7⟩ ⟨y1, y2, y3, y4, y5, y6, y7, y8, y9⟩ k k' ⟨u1, u2, u3, u4, u5, u6, u7, u8, u9, u10, -, u14, u15⟩
        dsimp only at u1 u2 u3 u4 u5 u6 u7 u8 u9 u10 u14 u15
        subst u1 u2 u3 u4 u5 u6 u7 u8 u9 u10
        unfold b_X5_tuned_39 b_X6_tuned_37
        dsimp only
        rw [if_pos (show (20 : Int32) < nI 21 by decide), if_pos (show (20 : Int32) < nI 21 by decide), gd_t (ib8 hv8), cl8 hv8]
        refine ⟨_, _, rfl, rfl, rfl, rfl, rfl, u15, fun i hi => ?_⟩
        by_cases c : i = v
        · subst c; exact pk_us
        · exact (pk_un c).trans (u14 i c)) fu 0 ((0 : Int32), (0 : Int32), r1, t', C 21, t1, s1) (nI v, M 19 v, (0 : Int32), (0 : Int32), m1, r1', M 19, w1, M 22) (Nat.zero_le _) (by omega) ⟨rfl, rfl, rfl, rfl, rfl, rfl, rfl, rfl, rfl, rfl, ⟨ps v, e2, e2.2.2.2.2.2.2.2.2.1, e3⟩, fun _ _ => rfl, SM.rf⟩
    exact ⟨a, b, f1, f2, f3, h.go2 rfl rfl rfl rfl rfl rfl rfl rfl rfl (m21s h3 f6) rfl rfl rfl rfl rfl (fun _ _ => rfl) rfl f7 (by show RR a.2.1 b.2.2.1; rw [f4, f5]; exact h4)⟩
  · rw [bI_f c1]
    obtain ⟨c, r1, t1, s1, m1, r1', w1, h1, h2, h3, h4, h5⟩ := R_word h hS hH v1 v2 0 12 0 (fun e => ⟨fun q => absurd rfl q, fun q => absurd rfl q.2⟩) (by decide)
    rw [h1, h2, Option.bind_some, Option.bind_some]
    dsimp only
    rcases h5 with c0 | ⟨c0, ok, -⟩
    · rw [if_neg c0, if_neg c0]
      exact ⟨_, _, rfl, rfl, rfl, h.go rfl rfl rfl rfl rfl rfl rfl rfl rfl (m21 h3) rfl rfl rfl rfl rfl rfl rfl rfl h4⟩
    · exact absurd rfl ok

theorem R_41 (fu : Nat) (C : Nat → Nat → Int32) (E : Nat → Int64) (M : Nat → Nat → Int32) (ML : Nat → Int64) (MR : Nat → Nat → Int64) (MV : Nat → Int64) (MY : Nat → Nat → Int32) (h : Rel fu C E M ML MR MV MY) (v1 : Int32) (v2 : Int32) (v3 : Int32) : ∃ (oX : Int32 × ((Nat → Int32) × (Nat → Int32) × (Nat → Int32) × (Nat → Int32) × (Nat → Int32))) (oM : Int32 × ((Nat → Int32) × (Nat → Int32) × (Nat → Int32) × (Nat → Int32))), m_X5_like fu (C 0) (C 1) (C 2) (C 4) (C 14) (C 15) E (C 19) (C 20) (C 21) (C 24) (C 25) v1 v2 v3 = some oX ∧ m_X6_like fu (M 0) ML (M 1) (M 3) MR (M 16) (M 17) (M 19) (M 21) (M 22) v1 v2 v3 = some oM ∧ oX.1 = oM.1 ∧ Rel fu (upC (upC (upC (upC (upC C 19 oX.2.1) 20 oX.2.2.1) 21 oX.2.2.2.1) 24 oX.2.2.2.2.1) 25 oX.2.2.2.2.2) E (upC (upC (upC (upC M 0 oM.2.1) 16 oM.2.2.1) 21 oM.2.2.2.1) 22 oM.2.2.2.2) ML MR MV MY := by
  obtain ⟨hf, ⟨d, r, y, w, q, n, ks, as, ps, hS, hH⟩, hT, hr⟩ := id h
  obtain ⟨hn1, hn2, hn8⟩ := hS.2.2.2.2.2.2.1
  unfold m_X5_like m_X6_like
  simp only [s_isVoice, s_mVoice, Option.bind_some, hn1, hn2]
  by_cases c1 : 0 ≤ v3 ∧ v3 ≤ nI n - 1
  · rw [bI_t c1]
    obtain ⟨v, hv, rfl⟩ := v_ok hn8 c1
    have hv8 : v < 8 := by omega
    obtain ⟨c, r1, t1, s1, m1, r1', w1, h1, h2, h3, h4, h5⟩ := R_word h hS hH v1 v2 1 12 1 (fun e => ⟨fun q => ⟨e.2, q⟩, fun q => q.2⟩) (by decide)
    rw [h1, h2, Option.bind_some, Option.bind_some]
    dsimp only
    rcases h5 with c0 | ⟨c0, ok, s', l, g1, g2, g3, g4, g5, g6⟩
    · rw [if_neg c0, if_neg c0]
      exact ⟨_, _, rfl, rfl, rfl, h.go rfl rfl rfl rfl rfl rfl rfl rfl rfl (m21 h3) rfl rfl rfl rfl rfl rfl rfl rfl h4⟩
    rw [if_pos c0, if_pos c0]
    obtain ⟨t', e1, e2, -⟩ := s_standsFor (fu := fu) (t := C 20) (v := v) hS (by omega)
    have e3 := s_MT (m' := m1) (v := v) hS (m21 h3) (by omega)
    obtain ⟨t2, h2', e4, e5⟩ := s_weighs (fu := fu) (h := C 21) hf e2 g4
    obtain ⟨m2, mh, e6, e7⟩ := s_weighedOf (fu := fu) (mL := ML) (h := M 22) hf e3 g5
    rw [e1, Option.bind_some, e4, e6, Option.bind_some, Option.bind_some]
    dsimp only
    generalize wg (ks v) (pt (ks v) (ps v) y) d w q l = wx
    obtain ⟨a, b, f1, f2, f3, f4, f5, f6⟩ := lf2 (b_X5_like_52 fu (C 0) (C 1) (C 2) (C 4) (C 14) (C 15) E) (b_X6_like_36 fu ML (M 1) (M 3) MR (M 17) (M 19)) (fun i x x' => x.1 = wx ∧ x.2.1 = x'.2.1 ∧ x.2.2.1 = nI i ∧ x.2.2.2.1 = r1 ∧ x.2.2.2.2.2.2.1 = t1 ∧ x.2.2.2.2.2.2.2 = s1 ∧ x'.1 = wx ∧ x'.2.2.1 = nI i ∧ x'.2.2.2.2.1 = r1' ∧ x'.2.2.2.2.2.1 = w1 ∧ SM m1 x'.2.2.2.1) n (fun o o' => ∃ a b, o = some a ∧ o' = some b ∧ a.1 = b.1 ∧ a.2.1 = r1 ∧ b.2.2.1 = r1' ∧ SM m1 b.2.1)
      (by
        rintro i ⟨x1, x2, x3, x4, x5, x6, x7, x8⟩ ⟨y1, y2, y3, y4, y5, y6, y7⟩ k k' hi ⟨u1, u2, u3, u4, u5, u6, u7, u8, u9, u10, u11⟩
        dsimp only at u1 u2 u3 u4 u5 u6 u7 u8 u9 u10 u11
        subst u1 u2 u3 u4 u5 u6 u7 u8 u9 u10
        obtain ⟨t', e1, e2, -⟩ := s_standsFor (fu := fu) (t := x5) (v := i) hS (by omega)
        have e3 := s_MT (m' := m1) (v := i) hS (m21 h3) (by omega)
        obtain ⟨t2, h2', e4, e5⟩ := s_weighs (fu := fu) (h := x6) hf e2 g4
        obtain ⟨m2, mh, e6, e7⟩ := s_weighedOf (fu := fu) (mL := ML) (h := y7) hf (e3.sm u11) (g5.sm u11)
        left
        unfold b_X5_like_52 b_X6_like_36 b_X5_like_102 b_X6_like_66
        dsimp only
        rw [if_neg (by rw [hn1]; exact nI_ge hi (by omega)), if_neg (by rw [u11 16 (by decide), h3 16 (by decide), hn2]; exact nI_ge hi (by omega)), e1, Option.bind_some, e4, e6, Option.bind_some, Option.bind_some, nI_1]
        dsimp only
        by_cases c : wg (ks i) (pt (ks i) (ps i) y) d w q l = y1
        · rw [if_pos c, if_pos c]
          exact ⟨(y1, x2 ||| (1 <<< (nI i &&& 31)), nI (i + 1), x4, t2, h2', x7, x8), (y1, x2 ||| (1 <<< (nI i &&& 31)), nI (i + 1), m2, y5, y6, mh), ⟨rfl, rfl, rfl, rfl, rfl, rfl, rfl, rfl, rfl, rfl, u11.tr e7⟩, rfl, rfl⟩
        · rw [if_neg c, if_neg c, Int32.or_zero]
          exact ⟨(y1, x2, nI (i + 1), x4, t2, h2', x7, x8), (y1, x2, nI (i + 1), m2, y5, y6, mh), ⟨rfl, rfl, rfl, rfl, rfl, rfl, rfl, rfl, rfl, rfl, u11.tr e7⟩, rfl, rfl⟩)
      (by
        rintro ⟨x1, x2, x3, x4, x5, x6, x7, x8⟩ ⟨y1, y2, y3, y4, y5, y6, y7⟩ k k' ⟨u1, u2, u3, u4, u5, u6, u7, u8, u9, u10, u11⟩
        dsimp only at u1 u2 u3 u4 u5 u6 u7 u8 u9 u10 u11
        subst u1 u2 u3 u4 u5 u6 u7 u8 u9 u10
        unfold b_X5_like_52 b_X6_like_36
        dsimp only
        rw [if_pos (by rw [hn1]; exact nI_le (Nat.le_refl _) (by omega)), if_pos (by rw [u11 16 (by decide), h3 16 (by decide), hn2]; exact nI_le (Nat.le_refl _) (by omega))]
        exact ⟨_, _, rfl, rfl, rfl, rfl, rfl, u11⟩) fu 0 (wx, (0 : Int32), (0 : Int32), r1, t2, h2', t1, s1) (wx, (0 : Int32), (0 : Int32), m2, r1', w1, mh) (Nat.zero_le _) (by omega) ⟨rfl, rfl, rfl, rfl, rfl, rfl, rfl, rfl, rfl, rfl, e7⟩
    exact ⟨a, b, f1, f2, f3, h.go rfl rfl rfl rfl rfl rfl rfl rfl rfl (m21s h3 f6) rfl rfl rfl rfl rfl rfl rfl rfl (by show RR a.2.1 b.2.2.1; rw [f4, f5]; exact h4)⟩
  · rw [bI_f c1]
    obtain ⟨c, r1, t1, s1, m1, r1', w1, h1, h2, h3, h4, h5⟩ := R_word h hS hH v1 v2 0 12 0 (fun e => ⟨fun q => absurd rfl q, fun q => absurd rfl q.2⟩) (by decide)
    rw [h1, h2, Option.bind_some, Option.bind_some]
    dsimp only
    rcases h5 with c0 | ⟨c0, ok, -⟩
    · rw [if_neg c0, if_neg c0]
      exact ⟨_, _, rfl, rfl, rfl, h.go rfl rfl rfl rfl rfl rfl rfl rfl rfl (m21 h3) rfl rfl rfl rfl rfl rfl rfl rfl h4⟩
    · exact absurd rfl ok

theorem R_40 (fu : Nat) (C : Nat → Nat → Int32) (E : Nat → Int64) (M : Nat → Nat → Int32) (ML : Nat → Int64) (MR : Nat → Nat → Int64) (MV : Nat → Int64) (MY : Nat → Nat → Int32) (h : Rel fu C E M ML MR MV MY) (v1 : Int32) (v2 : Int32) : ∃ (oX : Int32 × ((Nat → Int32) × (Nat → Int32) × (Nat → Int32) × (Nat → Int32) × (Nat → Int32))) (oM : Int32 × ((Nat → Int32) × (Nat → Int32) × (Nat → Int32) × (Nat → Int32))), m_X5_mute fu (C 0) (C 1) (C 2) (C 4) (C 14) (C 15) E (C 19) (C 20) (C 21) (C 24) (C 25) v1 v2 = some oX ∧ m_X6_mute fu (M 0) ML (M 1) (M 3) MR (M 16) (M 17) (M 19) (M 21) (M 22) v1 v2 = some oM ∧ oX.1 = oM.1 ∧ Rel fu (upC (upC (upC (upC (upC C 19 oX.2.1) 20 oX.2.2.1) 21 oX.2.2.2.1) 24 oX.2.2.2.2.1) 25 oX.2.2.2.2.2) E (upC (upC (upC (upC M 0 oM.2.1) 16 oM.2.2.1) 21 oM.2.2.2.1) 22 oM.2.2.2.2) ML MR MV MY := by
  obtain ⟨hf, ⟨d, r, y, w, q, n, ks, as, ps, hS, hH⟩, hT, hr⟩ := id h
  obtain ⟨hn1, hn2, hn8⟩ := hS.2.2.2.2.2.2.1
  unfold m_X5_mute m_X6_mute
  obtain ⟨c, r1, t1, s1, m1, r1', w1, h1, h2, h3, h4, h5⟩ := R_word h hS hH v1 v2 1 12 1 (fun e => ⟨fun q => ⟨e.2, q⟩, fun q => q.2⟩) (by decide)
  rw [h1, h2, Option.bind_some, Option.bind_some]
  dsimp only
  rcases h5 with c0 | ⟨c0, ok, s', l, g1, g2, g3, g4, g5, g6⟩
  · rw [if_neg c0]
    have e : lfix (b_X6_mute_16 fu ML (M 1) (M 3) MR (M 17) (M 19)) fu (c, (0 : Int32), (0 : Int32), m1, r1', w1, M 22) = some (c, (m1, r1', w1, M 22)) := by
      refine lf (b_X6_mute_16 fu ML (M 1) (M 3) MR (M 17) (M 19)) (fun i x => x = (c, (0 : Int32), (0 : Int32), m1, r1', w1, M 22)) 0 (fun o => o = some (c, (m1, r1', w1, M 22))) ?_ ?_ fu 0 _ (Nat.le_refl _) (by omega) rfl
      · intro i x k hi
        omega
      · intro x k e
        subst e
        unfold b_X6_mute_16 b_X6_mute_58 b_X6_mute_68
        dsimp only
        simp only [if_neg c0]
        exact ite_self _
    rw [e]
    exact ⟨_, _, rfl, rfl, rfl, h.go rfl rfl rfl rfl rfl rfl rfl rfl rfl (m21 h3) rfl rfl rfl rfl rfl rfl rfl rfl (h4)⟩
  · rw [if_pos c0]
    subst c0
    obtain ⟨a, b, f1, f2, f3, f4, f5, f6⟩ := lf2 (b_X5_mute_20 fu (C 0) (C 1) (C 2) (C 4) (C 14) (C 15) E) (b_X6_mute_16 fu ML (M 1) (M 3) MR (M 17) (M 19)) (fun i x x' => x.1 = x'.2.1 ∧ x.2.1 = nI i ∧ x.2.2.1 = r1 ∧ x.2.2.2.2.2.1 = t1 ∧ x.2.2.2.2.2.2 = s1 ∧ x'.1 = 0 ∧ x'.2.2.1 = nI i ∧ x'.2.2.2.2.1 = r1' ∧ x'.2.2.2.2.2.1 = w1 ∧ SM m1 x'.2.2.2.1) n (fun o o' => ∃ a b, o = some a ∧ o' = some b ∧ a.1 = b.1 ∧ a.2.1 = r1 ∧ b.2.2.1 = r1' ∧ SM m1 b.2.1)
      (by
        rintro i ⟨x1, x2, x3, x4, x5, x6, x7⟩ ⟨y1, y2, y3, y4, y5, y6, y7⟩ k k' hi ⟨u1, u2, u3, u4, u5, u6, u7, u8, u9, u10⟩
        dsimp only at u1 u2 u3 u4 u5 u6 u7 u8 u9 u10
        subst u1 u2 u3 u4 u5 u6 u7 u8 u9
        obtain ⟨t', e1, e2, -⟩ := s_standsFor (fu := fu) (t := x4) (v := i) hS (by omega)
        have e3 := s_MT (m' := m1) (v := i) hS (m21 h3) (by omega)
        obtain ⟨t2, h2', e4, e5⟩ := s_weighs (fu := fu) (h := x5) hf e2 g4
        obtain ⟨m2, mh, e6, e7⟩ := s_weighedOf (fu := fu) (mL := ML) (h := y7) hf (e3.sm u10) (g5.sm u10)
        left
        unfold b_X5_mute_20 b_X6_mute_16 b_X5_mute_69 b_X6_mute_49
        dsimp only
        rw [if_neg (by rw [hn1]; exact nI_ge hi (by omega)), if_neg (by rw [u10 16 (by decide), h3 16 (by decide), hn2]; exact nI_ge hi (by omega)), if_pos p00, e1, Option.bind_some, e4, e6, Option.bind_some, Option.bind_some, nI_1]
        dsimp only
        by_cases c : wg (ks i) (pt (ks i) (ps i) y) d w q l = -1
        · rw [if_pos c, if_pos c]
          exact ⟨(x1 ||| (1 <<< (nI i &&& 31)), nI (i + 1), x3, t2, h2', x6, x7), (0, x1 ||| (1 <<< (nI i &&& 31)), nI (i + 1), m2, y5, y6, mh), ⟨rfl, rfl, rfl, rfl, rfl, rfl, rfl, rfl, rfl, u10.tr e7⟩, rfl, rfl⟩
        · rw [if_neg c, if_neg c, Int32.or_zero]
          exact ⟨(x1, nI (i + 1), x3, t2, h2', x6, x7), (0, x1, nI (i + 1), m2, y5, y6, mh), ⟨rfl, rfl, rfl, rfl, rfl, rfl, rfl, rfl, rfl, u10.tr e7⟩, rfl, rfl⟩)
      (by
        rintro ⟨x1, x2, x3, x4, x5, x6, x7⟩ ⟨y1, y2, y3, y4, y5, y6, y7⟩ k k' ⟨u1, u2, u3, u4, u5, u6, u7, u8, u9, u10⟩
        dsimp only at u1 u2 u3 u4 u5 u6 u7 u8 u9 u10
        subst u1 u2 u3 u4 u5 u6 u7 u8 u9
        unfold b_X5_mute_20 b_X6_mute_16 b_X6_mute_58 b_X6_mute_68
        dsimp only
        rw [if_pos (by rw [hn1]; exact nI_le (Nat.le_refl _) (by omega)), if_pos (by rw [u10 16 (by decide), h3 16 (by decide), hn2]; exact nI_le (Nat.le_refl _) (by omega)), if_pos p00]
        exact ⟨_, _, rfl, rfl, rfl, rfl, rfl, u10⟩) fu 0 ((0 : Int32), (0 : Int32), r1, C 20, C 21, t1, s1) ((0 : Int32), (0 : Int32), (0 : Int32), m1, r1', w1, M 22) (Nat.zero_le _) (by omega) ⟨rfl, rfl, rfl, rfl, rfl, rfl, rfl, rfl, rfl, SM.rf⟩
    exact ⟨a, b, f1, f2, f3, h.go rfl rfl rfl rfl rfl rfl rfl rfl rfl (m21s h3 f6) rfl rfl rfl rfl rfl rfl rfl rfl (by show RR a.2.1 b.2.2.1; rw [f4, f5]; exact h4)⟩
