-- PURE 9: questions by a word
def yesv (k p d y w q : Nat) (l : List Nat) : Prop := wg k (pt k p y) d w q l = 1
theorem s_gets {fu : Nat} {m : Nat → Int32} {mL : Nat → Int64} {mk mp mw h : Nat → Int32} {v k p d y w q : Nat} {l : List Nat} (hfu : 5000 ≤ fu) (T : MT m mk mp v k p d y w q) (Wd : WM m mw l) :
    ∃ m' h', m_X6_gets fu m mL mk mp mw h (nI v) = some (bI (wg k (pt k p y) d w q l = 1), (m', h')) ∧ SM m m' := by
  obtain ⟨m', h', e1, e2⟩ := s_weighedOf (fu := fu) (mL := mL) (h := h) hfu T Wd
  refine ⟨m', h', ?_, e2⟩
  unfold m_X6_gets b_X6_gets_14
  rw [e1, Option.bind_some]
  dsimp only
  by_cases c : wg k (pt k p y) d w q l = 1
  · rw [if_pos c, gd_t (Or.inr rfl), bI_t c]
  · rw [if_neg c, gd_t (Or.inl rfl), bI_f c]
def bits (f : Nat → Bool) : Nat → Int32
  | 0 => 0
  | n + 1 => if f n then bits f n ||| (1 <<< (nI n &&& 31)) else bits f n
theorem bits_t {f : Nat → Bool} {n : Nat} (h : f n = true) : bits f (n + 1) = bits f n ||| (1 <<< (nI n &&& 31)) := by
  show (if f n then bits f n ||| (1 <<< (nI n &&& 31)) else bits f n) = _
  rw [if_pos h]
theorem bits_f {f : Nat → Bool} {n : Nat} (h : ¬ f n = true) : bits f (n + 1) = bits f n := by
  show (if f n then bits f n ||| (1 <<< (nI n &&& 31)) else bits f n) = _
  rw [if_neg h]
def yb (ks ps : Nat → Nat) (d y w q : Nat) (l : List Nat) : Nat → Bool := fun v => decide (wg (ks v) (pt (ks v) (ps v) y) d w q l = 1)
theorem TR.dw {t : Nat → Int32} {k p d r y w q dd ww : Nat} (h : TR t k p d r y w q) (hd : dd ≤ 40) (h2 : 2 ≤ ww) (h9 : ww ≤ 9) : TR (upd (upd t 2 (nI dd)) 5 (nI ww)) k p dd r y ww q := by
  obtain ⟨a0, a1, a2, a3, a4, a5, a6, b0, b1, b2, b3, b4, b5, b6, b7⟩ := h
  exact ⟨a0, a1, rfl, a3, a4, rfl, a6, b0, b1, hd, b3, b4, h2, h9, b7⟩
theorem s_voicesOfYes {fu d r y w q n dd ww : Nat} {ks as ps : Nat → Nat} {t now nk na np m mk mb mp tr th f g : Nat → Int32} {l : List Nat} (hfu : 5000 ≤ fu) (hS : RS d r y w q n ks as ps now nk na np m mk mb mp) (Wd : WD f g l) (hd : dd ≤ 40) (h2 : 2 ≤ ww) (h9 : ww ≤ 9) :
    ∃ t' h', m_X5_voicesOfYes fu t now nk np tr th f g (nI dd) (nI ww) = some (bits (yb ks ps dd y ww q l) n, (t', h')) := by
  obtain ⟨hn1, hn2, hn8⟩ := hS.2.2.2.2.2.2.1
  unfold m_X5_voicesOfYes
  refine lf (b_X5_voicesOfYes_5 fu t now nk np f g) (fun i x => x.1 = nI dd ∧ x.2.1 = nI ww ∧ x.2.2.1 = bits (yb ks ps dd y ww q l) i ∧ x.2.2.2.1 = nI i) n (fun o => ∃ t' h', o = some (bits (yb ks ps dd y ww q l) n, (t', h'))) ?_ ?_ fu 0 _ (Nat.zero_le _) (by omega) ⟨rfl, rfl, rfl, rfl⟩
  · rintro i ⟨x1, x2, x3, x4, x5, x6⟩ k hi ⟨e1, e2, e3, e4⟩
    dsimp only at e1 e2 e3 e4
    subst e1 e2 e3 e4
    obtain ⟨t', a1, a2, -⟩ := s_standsFor (fu := fu) (t := x5) (v := i) hS (by omega)
    obtain ⟨t2, h2', a3, -⟩ := s_weighs (fu := fu) (h := x6) hfu (a2.dw hd h2 h9) Wd
    refine Or.inl ⟨(nI dd, nI ww, bits (yb ks ps dd y ww q l) (i + 1), nI (i + 1), t2, h2'), ⟨rfl, rfl, rfl, rfl⟩, ?_⟩
    unfold b_X5_voicesOfYes_5 b_X5_voicesOfYes_68
    dsimp only
    rw [if_neg (by rw [hn1]; exact nI_ge hi (by omega)), a1, Option.bind_some, a3, Option.bind_some, nI_1]
    dsimp only
    by_cases c : wg (ks i) (pt (ks i) (ps i) y) dd ww q l = 1
    · rw [if_pos c, bits_t (show yb ks ps dd y ww q l i = true from decide_eq_true c)]
    · rw [if_neg c, bits_f (show ¬ yb ks ps dd y ww q l i = true from fun e => c (of_decide_eq_true e))]
  · rintro ⟨x1, x2, x3, x4, x5, x6⟩ k ⟨e1, e2, e3, e4⟩
    dsimp only at e1 e2 e3 e4
    subst e1 e2 e3 e4
    refine ⟨x5, x6, ?_⟩
    unfold b_X5_voicesOfYes_5
    dsimp only
    rw [if_pos (by rw [hn1]; exact nI_le (Nat.le_refl _) (by omega))]
theorem s_yesBits {fu n d y w q : Nat} {ks ps : Nat → Nat} {m mk mp mw h : Nat → Int32} {mL : Nat → Int64} {l : List Nat} (hfu : 5000 ≤ fu) (hn : m 16 = nI n) (hn8 : n ≤ 8) (T : ∀ v, v < n → MT m mk mp v (ks v) (ps v) d y w q) (Wd : WM m mw l) :
    ∃ m' h', m_X6_yesBits fu m mL mk mp mw h = some (bits (yb ks ps d y w q l) n, (m', h')) ∧ SM m m' := by
  unfold m_X6_yesBits
  refine lf (b_X6_yesBits_4 fu mL mk mp mw) (fun i x => x.1 = bits (yb ks ps d y w q l) i ∧ x.2.1 = nI i ∧ SM m x.2.2.1) n (fun o => ∃ m' h', o = some (bits (yb ks ps d y w q l) n, (m', h')) ∧ SM m m') ?_ ?_ fu 0 _ (Nat.zero_le _) (by omega) ⟨rfl, rfl, SM.rf⟩
  · rintro i ⟨x1, x2, x3, x4⟩ k hi ⟨e1, e2, e3⟩
    dsimp only at e1 e2 e3
    subst e1 e2
    obtain ⟨m2, h2, a1, a2⟩ := s_gets (fu := fu) (mL := mL) (h := x4) hfu ((T i hi).sm e3) (Wd.sm e3)
    refine Or.inl ⟨(bits (yb ks ps d y w q l) (i + 1), nI (i + 1), m2, h2), ⟨rfl, rfl, e3.tr a2⟩, ?_⟩
    unfold b_X6_yesBits_4 b_X6_yesBits_28
    dsimp only
    rw [if_neg (by rw [e3 16 (by decide), hn]; exact nI_ge hi (by omega)), a1, Option.bind_some, nI_1]
    dsimp only
    by_cases c : wg (ks i) (pt (ks i) (ps i) y) d w q l = 1
    · rw [bI_t c, if_neg (by decide), bits_t (show yb ks ps d y w q l i = true from decide_eq_true c)]
    · rw [bI_f c, if_pos rfl, bits_f (show ¬ yb ks ps d y w q l i = true from fun e => c (of_decide_eq_true e)), Int32.or_zero]
  · rintro ⟨x1, x2, x3, x4⟩ k ⟨e1, e2, e3⟩
    dsimp only at e1 e2 e3
    subst e1 e2
    refine ⟨x3, x4, ?_, e3⟩
    unfold b_X6_yesBits_4
    dsimp only
    rw [if_pos (by rw [e3 16 (by decide), hn]; exact nI_le (Nat.le_refl _) (by omega))]

theorem R_18 (fu : Nat) (C : Nat → Nat → Int32) (E : Nat → Int64) (M : Nat → Nat → Int32) (ML : Nat → Int64) (MR : Nat → Nat → Int64) (MV : Nat → Int64) (MY : Nat → Nat → Int32) (h : Rel fu C E M ML MR MV MY) (v1 : Int32) (v2 : Int32) (v3 : Int32) : ∃ (oX : Int32 × ((Nat → Int32) × (Nat → Int32) × (Nat → Int32) × (Nat → Int32) × (Nat → Int32))) (oM : Int32 × ((Nat → Int32) × (Nat → Int32) × (Nat → Int32) × (Nat → Int32))), m_X5_sum fu (C 0) (C 1) (C 2) (C 4) (C 14) (C 15) E (C 19) (C 20) (C 21) (C 24) (C 25) v1 v2 v3 = some oX ∧ m_X6_sum fu (M 0) ML (M 1) (M 3) MR (M 16) (M 17) (M 19) (M 21) (M 22) v1 v2 v3 = some oM ∧ oX.1 = oM.1 ∧ Rel fu (upC (upC (upC (upC (upC C 19 oX.2.1) 20 oX.2.2.1) 21 oX.2.2.2.1) 24 oX.2.2.2.2.1) 25 oX.2.2.2.2.2) E (upC (upC (upC (upC M 0 oM.2.1) 16 oM.2.2.1) 21 oM.2.2.2.1) 22 oM.2.2.2.2) ML MR MV MY := by
  obtain ⟨hf, ⟨d, r, y, w, q, n, ks, as, ps, hS, hH⟩, hT, hr⟩ := id h
  obtain ⟨hn1, hn2, hn8⟩ := hS.2.2.2.2.2.2.1
  obtain ⟨c, r1, t1, s1, m1, r1', w1, h1, h2, h3, h4, h5⟩ := R_word h hS hH v1 v2 (bI (0 ≤ v3 ∧ v3 ≤ nI n - 1)) 12 (bI (0 ≤ v3 ∧ v3 ≤ nI n - 1)) (fun e => ⟨fun q => ⟨e.2, q⟩, fun q => q.2⟩) (by decide)
  unfold m_X5_sum m_X6_sum b_X6_sum_30
  rw [s_isVoice, Option.bind_some, s_mVoice, Option.bind_some, hn1, hn2]
  dsimp only
  rw [h1, h2, Option.bind_some, Option.bind_some]
  dsimp only
  rcases h5 with c0 | ⟨c0, ok, s', l, g1, g2, g3, g4, g5, g6⟩
  · rw [if_neg c0, if_neg c0]
    exact ⟨_, _, rfl, rfl, rfl, h.go rfl rfl rfl rfl rfl rfl rfl rfl rfl (m21 h3) rfl rfl rfl rfl rfl rfl rfl rfl h4⟩
  · rw [if_pos c0, if_pos c0]
    obtain ⟨v, hv, rfl⟩ := v_ok hn8 (Classical.byContradiction fun q => ok (bI_f q))
    obtain ⟨t', e1, e2, -⟩ := s_standsFor (fu := fu) (t := C 20) (v := v) hS (by omega)
    obtain ⟨t2, h2', e3, -, e4, e5⟩ := s_hears (fu := fu) (h := C 21) hf e2 g4
    obtain ⟨m2, mh, e6, e7, -⟩ := s_sumOf (fu := fu) (mL := ML) (h := M 22) hf (s_MT (m' := m1) (v := v) hS (m21 h3) (by omega)) g5
    have hl := ec_len (k := ks v) (p := pt (ks v) (ps v) y) (d := d) (w := l)
    have hl12 := g4.2.1
    rw [e1, Option.bind_some, e3, Option.bind_some]
    dsimp only
    rw [s_total hf e4 (by omega) e5 ec_lt, Option.bind_some, e6, Option.bind_some]
    exact ⟨_, _, rfl, rfl, rfl, h.go rfl rfl rfl rfl rfl rfl rfl rfl rfl (m21s h3 e7) rfl rfl rfl rfl rfl rfl rfl rfl h4⟩

theorem R_20 (fu : Nat) (C : Nat → Nat → Int32) (E : Nat → Int64) (M : Nat → Nat → Int32) (ML : Nat → Int64) (MR : Nat → Nat → Int64) (MV : Nat → Int64) (MY : Nat → Nat → Int32) (h : Rel fu C E M ML MR MV MY) (v1 : Int32) (v2 : Int32) : ∃ (oX : Int32 × ((Nat → Int32) × (Nat → Int32) × (Nat → Int32) × (Nat → Int32) × (Nat → Int32))) (oM : Int32 × ((Nat → Int32) × (Nat → Int32) × (Nat → Int32) × (Nat → Int32))), m_X5_heard fu (C 0) (C 1) (C 2) (C 4) (C 14) (C 15) E (C 19) (C 20) (C 21) (C 24) (C 25) v1 v2 = some oX ∧ m_X6_heard fu (M 0) ML (M 1) (M 3) MR (M 16) (M 17) (M 19) (M 21) (M 22) v1 v2 = some oM ∧ oX.1 = oM.1 ∧ Rel fu (upC (upC (upC (upC (upC C 19 oX.2.1) 20 oX.2.2.1) 21 oX.2.2.2.1) 24 oX.2.2.2.2.1) 25 oX.2.2.2.2.2) E (upC (upC (upC (upC M 0 oM.2.1) 16 oM.2.2.1) 21 oM.2.2.2.1) 22 oM.2.2.2.2) ML MR MV MY := by
  obtain ⟨hf, ⟨d, r, y, w, q, n, ks, as, ps, hS, hH⟩, hT, hr⟩ := id h
  obtain ⟨hn1, hn2, hn8⟩ := hS.2.2.2.2.2.2.1
  obtain ⟨c, r1, t1, s1, m1, r1', w1, h1, h2, h3, h4, h5⟩ := R_word h hS hH v1 v2 1 12 1 (fun e => ⟨fun q => ⟨e.2, q⟩, fun q => q.2⟩) (by decide)
  unfold m_X5_heard m_X6_heard b_X6_heard_22
  rw [h1, h2, Option.bind_some, Option.bind_some]
  dsimp only
  rcases h5 with c0 | ⟨c0, ok, s', l, g1, g2, g3, g4, g5, g6⟩
  · rw [if_neg c0, if_neg c0]
    exact ⟨_, _, rfl, rfl, rfl, h.go rfl rfl rfl rfl rfl rfl rfl rfl rfl (m21 h3) rfl rfl rfl rfl rfl rfl rfl rfl h4⟩
  · rw [if_pos c0, if_pos c0, hS.1.1, hS.2.2.2.1.1]
    obtain ⟨t2, h2', e1⟩ := s_voicesOfYes (fu := fu) (t := C 0) (tr := C 20) (th := C 21) (dd := d) (ww := w) hf hS g4 hS.1.2.2 hS.2.2.2.1.2.2.1 hS.2.2.2.1.2.2.2
    obtain ⟨m2, mh, e2, e3⟩ := s_yesBits (fu := fu) (mL := ML) (h := M 22) (n := n) hf ((h3 16 (by decide)).trans hn2) hn8 (fun v hv => s_MT (m' := m1) (v := v) hS (m21 h3) (by omega)) g5
    rw [e1, Option.bind_some, e2, Option.bind_some]
    exact ⟨_, _, rfl, rfl, rfl, h.go rfl rfl rfl rfl rfl rfl rfl rfl rfl (m21s h3 e3) rfl rfl rfl rfl rfl rfl rfl rfl h4⟩
