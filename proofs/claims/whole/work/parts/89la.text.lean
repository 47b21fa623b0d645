-- PURE 21: a told echo: depths, kinds, pitches; what to shout next
/-- the echo is just the told elements -/
abbrev er (L : List Nat) (a : Nat) (e : Nat → Int64) : Prop := L.length = a ∧ ∀ i, i < a → lN (L.getD i 0) = e i
theorem s_echoIsRow {fu k p d r y w q p' a z : Nat} {t sz tr th f g : Nat → Int32} {E e : Nat → Int64} {l : List Nat} (hfu : 5000 ≤ fu) (T : TR tr k p d r y w q) (Wd : WD f g l) (hp : p' < 8) (hz : sz p' = nI z) (h40 : z ≤ 40) (ha : a ≤ z) (he : ∀ i, i < z → E (p' * 40 + i) = e i) :
    ∃ t' h', m_X5_echoIsRow fu t sz E tr th f g (nI p') (nI a) = some (bI (er (ec k (pt k p y) d l) a e), (t', h')) ∧ SB tr t' := by
  obtain ⟨t1, h1, e1, e2, e3, e4⟩ := s_hears (fu := fu) (h := th) hfu T Wd
  have hl := ec_len (k := k) (p := pt k p y) (d := d) (w := l)
  have hlt : ∀ x ∈ ec k (pt k p y) d l, x < 40 := ec_lt
  have hl12 := Wd.2.1
  generalize ec k (pt k p y) d l = L at e3 e4 hl hlt ⊢
  refine ⟨t1, h1, ?_, e2⟩
  unfold m_X5_echoIsRow
  rw [e1, Option.bind_some]
  dsimp only
  by_cases c : L.length = a
  · subst c
    rw [if_pos e3]
    refine lf (b_X5_echoIsRow_26 fu t sz E f g) (fun i x => x.1 = nI p' ∧ x.2.1 = nI L.length ∧ x.2.2.1 = nI i ∧ x.2.2.2.1 = t1 ∧ x.2.2.2.2 = h1 ∧ ∀ j, j < i → lN (L.getD j 0) = e j) L.length (fun o => o = some (bI (er L L.length e), (t1, h1))) ?_ ?_ fu 0 _ (Nat.zero_le _) (by omega) ⟨rfl, rfl, rfl, rfl, rfl, fun j hj => absurd hj (by omega)⟩
    · rintro i ⟨x1, x2, x3, x4, x5⟩ k2 hi ⟨u1, u2, u3, u4, u5, u6⟩
      dsimp only at u1 u2 u3 u4 u5 u6
      subst u1 u2 u3 u4 u5
      have hx := List.getElem?_eq_getElem hi
      have hx40 := hlt _ (List.getElem_mem hi)
      have hg : L.getD i 0 = L[i] := by rw [List.getD_eq_getElem?_getD, hx]; rfl
      unfold b_X5_echoIsRow_26
      dsimp only
      rw [if_neg (nI_ge hi (by omega)), s_heardAt e3 (by omega) e4 hx, Option.bind_some, s_elementAt hp hz h40 (by omega), Option.bind_some, he i (by omega)]
      dsimp only
      rw [nI_l (by omega), nI_1]
      by_cases c2 : lN L[i] = e i
      · rw [if_pos ((lg_zero _ _).mpr c2)]
        exact Or.inl ⟨_, ⟨rfl, rfl, rfl, rfl, rfl, fun j hj => by
          rcases Nat.lt_or_ge j i with q | q
          · exact u6 j q
          · have : j = i := by omega
            subst this; rw [hg]; exact c2⟩, rfl⟩
      · rw [if_neg (fun q => c2 ((lg_zero _ _).mp q)), bI_f (fun q => c2 (by rw [← hg]; exact q.2 i hi))]
        exact Or.inr rfl
    · rintro ⟨x1, x2, x3, x4, x5⟩ k2 ⟨u1, u2, u3, u4, u5, u6⟩
      dsimp only at u1 u2 u3 u4 u5 u6
      subst u1 u2 u3 u4 u5
      unfold b_X5_echoIsRow_26
      dsimp only
      rw [if_pos (nI_le (Nat.le_refl _) (by omega)), bI_t ⟨rfl, u6⟩]
  · rw [if_neg (show ¬ t1 8 = nI a by rw [e3]; exact fun q => c ((nI_eq (by omega) (by omega)).mp q)), bI_f (fun q => c q.1)]
theorem s_isEcho {fu v k p d y w q p' a : Nat} {m mk mp mw mh : Nat → Int32} {mL : Nat → Int64} {R : Nat → Nat → Int64} {l : List Nat} (hfu : 5000 ≤ fu) (T : MT m mk mp v k p d y w q) (Wd : WM m mw l) (hp : p' < 8) (ha : a ≤ 40) :
    ∃ m' h', m_X6_isEcho fu m mL R mk mp mw mh (nI v) (nI p') (nI a) = some (bI (er (ec k (pt k p y) d l) a (R p')), (m', h')) ∧ SM m m' := by
  obtain ⟨m1, h1, e1, e2, e3, e4⟩ := s_listen (fu := fu) (mL := mL) (h := mh) hfu T Wd
  have hl := ec_len (k := k) (p := pt k p y) (d := d) (w := l)
  have hlt : ∀ x ∈ ec k (pt k p y) d l, x < 40 := ec_lt
  have hl12 := Wd.2.1
  generalize ec k (pt k p y) d l = L at e3 e4 hl hlt ⊢
  refine ⟨m1, h1, ?_, e2⟩
  unfold m_X6_isEcho
  rw [e1, Option.bind_some]
  dsimp only
  by_cases c : L.length = a
  · subst c
    rw [if_pos e3]
    refine lf (b_X6_isEcho_18 fu mL R mk mp mw) (fun i x => x.1 = nI p' ∧ x.2.1 = nI L.length ∧ x.2.2.1 = nI i ∧ x.2.2.2.1 = m1 ∧ x.2.2.2.2 = h1 ∧ ∀ j, j < i → lN (L.getD j 0) = R p' j) L.length (fun o => o = some (bI (er L L.length (R p')), (m1, h1))) ?_ ?_ fu 0 _ (Nat.zero_le _) (by omega) ⟨rfl, rfl, rfl, rfl, rfl, fun j hj => absurd hj (by omega)⟩
    · rintro i ⟨x1, x2, x3, x4, x5⟩ k2 hi ⟨u1, u2, u3, u4, u5, u6⟩
      dsimp only at u1 u2 u3 u4 u5 u6
      subst u1 u2 u3 u4 u5
      have hx := List.getElem?_eq_getElem hi
      have hx40 := hlt _ (List.getElem_mem hi)
      have hg : L.getD i 0 = L[i] := by rw [List.getD_eq_getElem?_getD, hx]; rfl
      have i1 : inb (nI p') 8 := ib8 hp
      have i2 : inb (nI i) 13 := inb_n (by omega) (by decide)
      have i3 : inb (nI i) 40 := inb_n (by omega) (by decide)
      unfold b_X6_isEcho_18
      dsimp only
      rw [if_neg (nI_ge hi (by omega))]
      simp only [gd_t i1, gd_t i2, gd_t i3, cl8 hp, nI_clamp (show i < 2 ^ 31 by omega)]
      rw [e4 i _ hx, nI_l (by omega), nI_1]
      by_cases c2 : lN L[i] = R p' i
      · rw [if_pos ((lg_zero _ _).mpr c2)]
        exact Or.inl ⟨_, ⟨rfl, rfl, rfl, rfl, rfl, fun j hj => by
          rcases Nat.lt_or_ge j i with q | q
          · exact u6 j q
          · have : j = i := by omega
            subst this; rw [hg]; exact c2⟩, rfl⟩
      · rw [if_neg (fun q => c2 ((lg_zero _ _).mp q)), bI_f (fun q => c2 (by rw [← hg]; exact q.2 i hi))]
        exact Or.inr rfl
    · rintro ⟨x1, x2, x3, x4, x5⟩ k2 ⟨u1, u2, u3, u4, u5, u6⟩
      dsimp only at u1 u2 u3 u4 u5 u6
      subst u1 u2 u3 u4 u5
      unfold b_X6_isEcho_18
      dsimp only
      rw [if_pos (nI_le (Nat.le_refl _) (by omega)), bI_t ⟨rfl, u6⟩]
  · rw [if_neg (show ¬ m1 33 = nI a by rw [e3]; exact fun q => c ((nI_eq (by omega) (by omega)).mp q)), bI_f (fun q => c q.1)]
/-- by which depth, kind, pitch it is so -/
def ed (k p y : Nat) (l : List Nat) (a : Nat) (e : Nat → Int64) : Nat → Bool := fun d => decide (er (ec k (pt k p y) d l) a e)
def ek (p d y : Nat) (l : List Nat) (a : Nat) (e : Nat → Int64) : Nat → Bool := fun k => decide (er (ec k (pt k p y) d l) a e)
def ep (k d y : Nat) (l : List Nat) (a : Nat) (e : Nat → Int64) : Nat → Bool := fun p => decide (er (ec k (pt k p y) d l) a e)
section EchoX
variable {fu d r y w q n v p' a z : Nat} {ks as ps : Nat → Nat} {t now nk na np m mk mb mp sz tr th f g : Nat → Int32} {E e : Nat → Int64} {l : List Nat}
theorem s_depthsOfEcho (hfu : 5000 ≤ fu) (hS : RS d r y w q n ks as ps now nk na np m mk mb mp) (hv : v < 8) (Wd : WD f g l) (hp : p' < 8) (hz : sz p' = nI z) (h40 : z ≤ 40) (ha : a ≤ z) (he : ∀ i, i < z → E (p' * 40 + i) = e i) :
    ∃ t' h' d', m_X5_depthsOfEcho fu t now nk np sz E tr th f g (nI v) (nI p') (nI a) = some (lN (bs (ed (ks v) (ps v) y l a e) 41), (t', h')) ∧ TR t' (ks v) (ps v) d' r y w q := by
  obtain ⟨t0, e1, e2, -⟩ := s_standsFor (fu := fu) (t := tr) (v := v) hS hv
  unfold m_X5_depthsOfEcho
  rw [e1, Option.bind_some]
  refine lf (b_X5_depthsOfEcho_18 fu t now nk np sz E f g) (fun i x => x.1 = nI p' ∧ x.2.1 = nI a ∧ x.2.2.1 = lN (bs (ed (ks v) (ps v) y l a e) i) ∧ x.2.2.2.1 = nI i ∧ ∃ d', TR x.2.2.2.2.1 (ks v) (ps v) d' r y w q) 41 (fun o => ∃ t' h' d', o = some (lN (bs (ed (ks v) (ps v) y l a e) 41), (t', h')) ∧ TR t' (ks v) (ps v) d' r y w q) ?_ ?_ fu 0 _ (Nat.zero_le _) (by omega) ⟨rfl, rfl, rfl, rfl, d, e2⟩
  · rintro i ⟨x1, x2, x3, x4, x5, x6⟩ k2 hi ⟨u1, u2, u3, u4, d', u5⟩
    dsimp only at u1 u2 u3 u4 u5
    subst u1 u2 u3 u4
    have hb : bs (ed (ks v) (ps v) y l a e) i < 2 ^ 64 := Nat.lt_of_lt_of_le bs_lt (Nat.pow_le_pow_right (by decide) (by omega))
    obtain ⟨t2, h2, a1, a2⟩ := s_echoIsRow (fu := fu) (t := t) (th := x6) hfu (u5.depth (d' := i) (by omega)) Wd hp hz h40 ha he
    left
    unfold b_X5_depthsOfEcho_18 b_X5_depthsOfEcho_52
    dsimp only
    rw [if_neg (show ¬ (40 : Int32) < nI i from nI_nlt (a := 40) (by omega) (by decide)), a1, Option.bind_some, nI_1]
    dsimp only
    by_cases c : er (ec (ks v) (pt (ks v) (ps v) y) i l) a e
    · rw [bI_t c, if_neg n10, bs_or hb (by omega), ← bs_t (f := ed (ks v) (ps v) y l a e) (show ed (ks v) (ps v) y l a e i = true from decide_eq_true c)]
      exact ⟨(_, _, _, _, t2, h2), ⟨rfl, rfl, rfl, rfl, i, (u5.depth (by omega)).sb a2⟩, rfl⟩
    · rw [bI_f c, if_pos p00]
      exact ⟨(_, _, _, _, t2, h2), ⟨rfl, rfl, by rw [bs_f (show ¬ ed (ks v) (ps v) y l a e i = true from fun e => c (of_decide_eq_true e))], rfl, i, (u5.depth (by omega)).sb a2⟩, rfl⟩
  · rintro ⟨x1, x2, x3, x4, x5, x6⟩ k2 ⟨u1, u2, u3, u4, d', u5⟩
    dsimp only at u1 u2 u3 u4 u5
    subst u1 u2 u3 u4
    unfold b_X5_depthsOfEcho_18
    dsimp only
    rw [if_pos (show (40 : Int32) < nI 41 by decide)]
    exact ⟨x5, x6, d', rfl, u5⟩
theorem s_kindsOfEcho (hfu : 5000 ≤ fu) (hS : RS d r y w q n ks as ps now nk na np m mk mb mp) (hv : v < 8) (Wd : WD f g l) (hp : p' < 8) (hz : sz p' = nI z) (h40 : z ≤ 40) (ha : a ≤ z) (he : ∀ i, i < z → E (p' * 40 + i) = e i) :
    ∃ t' h', m_X5_kindsOfEcho fu t now nk np sz E tr th f g (nI v) (nI p') (nI a) = some (bits (ek (ps v) d y l a e) 6, (t', h')) := by
  obtain ⟨t0, e1, e2, -⟩ := s_standsFor (fu := fu) (t := tr) (v := v) hS hv
  unfold m_X5_kindsOfEcho
  rw [e1, Option.bind_some]
  refine lf (b_X5_kindsOfEcho_18 fu t now nk np sz E f g) (fun i x => x.1 = nI p' ∧ x.2.1 = nI a ∧ x.2.2.1 = bits (ek (ps v) d y l a e) i ∧ x.2.2.2.1 = nI i ∧ ∃ k', TR x.2.2.2.2.1 k' (ps v) d r y w q) 6 (fun o => ∃ t' h', o = some (bits (ek (ps v) d y l a e) 6, (t', h'))) ?_ ?_ fu 0 _ (Nat.zero_le _) (by omega) ⟨rfl, rfl, rfl, rfl, _, e2⟩
  · rintro i ⟨x1, x2, x3, x4, x5, x6⟩ k2 hi ⟨u1, u2, u3, u4, d', u5⟩
    dsimp only at u1 u2 u3 u4 u5
    subst u1 u2 u3 u4
    obtain ⟨t2, h2, a1, a2⟩ := s_echoIsRow (fu := fu) (t := t) (th := x6) hfu (u5.kind (k' := i) (by omega)) Wd hp hz h40 ha he
    left
    unfold b_X5_kindsOfEcho_18 b_X5_kindsOfEcho_51
    dsimp only
    rw [if_neg (show ¬ (5 : Int32) < nI i from nI_nlt (a := 5) (by omega) (by decide)), a1, Option.bind_some, nI_1]
    dsimp only
    by_cases c : er (ec i (pt i (ps v) y) d l) a e
    · rw [bI_t c, if_neg n10, ← bits_t (f := ek (ps v) d y l a e) (show ek (ps v) d y l a e i = true from decide_eq_true c)]
      exact ⟨(_, _, _, _, t2, h2), ⟨rfl, rfl, rfl, rfl, i, (u5.kind (by omega)).sb a2⟩, rfl⟩
    · rw [bI_f c, if_pos p00]
      exact ⟨(_, _, _, _, t2, h2), ⟨rfl, rfl, by rw [bits_f (show ¬ ek (ps v) d y l a e i = true from fun e => c (of_decide_eq_true e))], rfl, i, (u5.kind (by omega)).sb a2⟩, rfl⟩
  · rintro ⟨x1, x2, x3, x4, x5, x6⟩ k2 ⟨u1, u2, u3, u4, d', u5⟩
    dsimp only at u1 u2 u3 u4 u5
    subst u1 u2 u3 u4
    unfold b_X5_kindsOfEcho_18
    dsimp only
    rw [if_pos (show (5 : Int32) < nI 6 by decide)]
    exact ⟨x5, x6, rfl⟩
theorem s_pitchesOfEcho (hfu : 5000 ≤ fu) (hS : RS d r y w q n ks as ps now nk na np m mk mb mp) (hv : v < 8) (Wd : WD f g l) (hp : p' < 8) (hz : sz p' = nI z) (h40 : z ≤ 40) (ha : a ≤ z) (he : ∀ i, i < z → E (p' * 40 + i) = e i) :
    ∃ t' h', m_X5_pitchesOfEcho fu t now nk np sz E tr th f g (nI v) (nI p') (nI a) = some (bits (ep (ks v) d y l a e) 21, (t', h')) := by
  obtain ⟨t0, e1, e2, -⟩ := s_standsFor (fu := fu) (t := tr) (v := v) hS hv
  unfold m_X5_pitchesOfEcho
  rw [e1, Option.bind_some]
  refine lf (b_X5_pitchesOfEcho_18 fu t now nk np sz E f g) (fun i x => x.1 = nI p' ∧ x.2.1 = nI a ∧ x.2.2.1 = bits (ep (ks v) d y l a e) i ∧ x.2.2.2.1 = nI i ∧ ∃ k', TR x.2.2.2.2.1 (ks v) k' d r y w q) 21 (fun o => ∃ t' h', o = some (bits (ep (ks v) d y l a e) 21, (t', h'))) ?_ ?_ fu 0 _ (Nat.zero_le _) (by omega) ⟨rfl, rfl, rfl, rfl, _, e2⟩
  · rintro i ⟨x1, x2, x3, x4, x5, x6⟩ k2 hi ⟨u1, u2, u3, u4, d', u5⟩
    dsimp only at u1 u2 u3 u4 u5
    subst u1 u2 u3 u4
    obtain ⟨t2, h2, a1, a2⟩ := s_echoIsRow (fu := fu) (t := t) (th := x6) hfu (u5.pitch (p' := i) (by omega)) Wd hp hz h40 ha he
    left
    unfold b_X5_pitchesOfEcho_18 b_X5_pitchesOfEcho_52
    dsimp only
    rw [if_neg (show ¬ (20 : Int32) < nI i from nI_nlt (a := 20) (by omega) (by decide)), a1, Option.bind_some, nI_1]
    dsimp only
    by_cases c : er (ec (ks v) (pt (ks v) i y) d l) a e
    · rw [bI_t c, if_neg n10, ← bits_t (f := ep (ks v) d y l a e) (show ep (ks v) d y l a e i = true from decide_eq_true c)]
      exact ⟨(_, _, _, _, t2, h2), ⟨rfl, rfl, rfl, rfl, i, (u5.pitch (by omega)).sb a2⟩, rfl⟩
    · rw [bI_f c, if_pos p00]
      exact ⟨(_, _, _, _, t2, h2), ⟨rfl, rfl, by rw [bits_f (show ¬ ep (ks v) d y l a e i = true from fun e => c (of_decide_eq_true e))], rfl, i, (u5.pitch (by omega)).sb a2⟩, rfl⟩
  · rintro ⟨x1, x2, x3, x4, x5, x6⟩ k2 ⟨u1, u2, u3, u4, d', u5⟩
    dsimp only at u1 u2 u3 u4 u5
    subst u1 u2 u3 u4
    unfold b_X5_pitchesOfEcho_18
    dsimp only
    rw [if_pos (show (20 : Int32) < nI 21 by decide)]
    exact ⟨x5, x6, rfl⟩
end EchoX
theorem uq_o {m : Nat → Int32} {a b c e : Int32} {j : Nat} (h1 : j ≠ 42) (h2 : j ≠ 43) (h3 : j ≠ 44) (h4 : j ≠ 9) : upd (upd (upd (upd m 42 a) 43 b) 44 c) 9 e j = m j := (pk_un h4).trans ((pk_un h3).trans ((pk_un h2).trans (pk_un h1)))
theorem uq_42 {m : Nat → Int32} {a b c e : Int32} : upd (upd (upd (upd m 42 a) 43 b) 44 c) 9 e 42 = a := (pk_un (by decide)).trans ((pk_un (by decide)).trans ((pk_un (by decide)).trans pk_us))
theorem uq_43 {m : Nat → Int32} {a b c e : Int32} : upd (upd (upd (upd m 42 a) 43 b) 44 c) 9 e 43 = b := (pk_un (by decide)).trans ((pk_un (by decide)).trans pk_us)
theorem uq_44 {m : Nat → Int32} {a b c e : Int32} : upd (upd (upd (upd m 42 a) 43 b) 44 c) 9 e 44 = c := (pk_un (by decide)).trans pk_us
/-- the reference finds the depths -/
theorem s_findDepths {fu v k p d y w q p' a : Nat} {m mk mp mw mh may : Nat → Int32} {mL : Nat → Int64} {R : Nat → Nat → Int64} {l : List Nat} (hfu : 5000 ≤ fu) (T : MT m mk mp v k p d y w q) (Wd : WM m mw l) (hp : p' < 8) (ha : a ≤ 40) :
    ∃ m' h' may', m_X6_findDepths fu m mL R mk mp mw mh may (nI v) (nI p') (nI a) = some (m', h', may') ∧ (∀ j, j < 35 → j ≠ 33 → m' j = m j) ∧ KP m m' ∧ m' 42 = nI (cnt (ed k p y l a (R p')) 41) ∧ m' 43 = fi (ed k p y l a (R p')) 41 ∧ m' 44 = gr (ed k p y l a (R p')) 41 ∧ ∀ i, i < 41 → may' i = if ed k p y l a (R p') i = true then 1 else 0 := by
  unfold m_X6_findDepths
  rw [s_keeps, Option.bind_some]
  have up : ∀ {m0 m1 : Nat → Int32} {i : Nat} {x : Int32}, KP m0 m1 → 38 ≤ i → KP m0 (upd m1 i x) := fun {m0 m1 i x} h hi => ⟨fun j h1 h2 h3 h4 h5 => (pk_un (by omega)).trans (h.1 j h1 h2 h3 h4 h5), (pk_un (by omega)).trans h.2.1, (pk_un (by omega)).trans h.2.2.1, (pk_un (by omega)).trans h.2.2.2⟩
  refine lf (b_X6_findDepths_24 fu mL R mk mp mw) (fun i x => x.1 = nI v ∧ x.2.1 = nI p' ∧ x.2.2.1 = nI a ∧ KP m x.2.2.2.1 ∧ x.2.2.2.1 9 = nI i ∧ x.2.2.2.1 11 = m 11 ∧ x.2.2.2.1 42 = nI (cnt (ed k p y l a (R p')) i) ∧ x.2.2.2.1 43 = fi (ed k p y l a (R p')) i ∧ x.2.2.2.1 44 = gr (ed k p y l a (R p')) i ∧ ∀ j, j < i → x.2.2.2.2.2 j = if ed k p y l a (R p') j = true then 1 else 0) 41 (fun o => ∃ m' h' may', o = some (m', h', may') ∧ (∀ j, j < 35 → j ≠ 33 → m' j = m j) ∧ KP m m' ∧ m' 42 = nI (cnt (ed k p y l a (R p')) 41) ∧ m' 43 = fi (ed k p y l a (R p')) 41 ∧ m' 44 = gr (ed k p y l a (R p')) 41 ∧ ∀ i, i < 41 → may' i = if ed k p y l a (R p') i = true then 1 else 0) ?_ ?_ fu 0 _ (Nat.zero_le _) (by omega) ⟨rfl, rfl, rfl, (up (up (up KP.keeps (by decide)) (by decide)) (by decide)).up (Or.inl rfl), rfl, rfl, rfl, rfl, rfl, fun j hj => absurd hj (by omega)⟩
  · rintro i ⟨x1, x2, x3, x4, x5, x6⟩ k2 hi ⟨u1, u2, u3, u4, u5, u6, u7, u8, u9, u10⟩
    dsimp only at u1 u2 u3 u4 u5 u6 u7 u8 u9 u10
    subst u1 u2 u3
    obtain ⟨m2, h2, a1, a2⟩ := s_isEcho (fu := fu) (mL := mL) (mh := x5) (R := R) hfu (T.at u4 u5 (by omega) u6) (Wd.kp u4) hp ha
    have q9 : m2 9 = nI i := (a2 9 (by decide)).trans u5
    have q11 : m2 11 = m 11 := (a2 11 (by decide)).trans u6
    have q42 := (a2 42 (by decide)).trans u7
    have q43 := (a2 43 (by decide)).trans u8
    have q44 := (a2 44 (by decide)).trans u9
    have qK := u4.sm a2
    have i41 : inb (nI i) 41 := inb_n hi (by decide)
    have hmay : ∀ b : Int32, (b = if ed k p y l a (R p') i = true then 1 else 0) → ∀ j, j < i + 1 → (upd x6 i b) j = if ed k p y l a (R p') j = true then 1 else 0 := fun b hb j hj => by
      by_cases c : j = i
      · subst c; exact pk_us.trans hb
      · exact (pk_un c).trans (u10 j (by omega))
    left
    unfold b_X6_findDepths_24 b_X6_findDepths_71 b_X6_findDepths_103 b_X6_findDepths_107 b_X6_findDepths_134
    dsimp only
    rw [if_neg (show ¬ (40 : Int32) < x4 9 by rw [u5]; exact nI_nlt (a := 40) (by omega) (by decide)), a1, Option.bind_some]
    dsimp only
    have n9 : (9 : Nat) ≠ 42 := by decide
    have n9' : (9 : Nat) ≠ 43 := by decide
    have n9'' : (9 : Nat) ≠ 44 := by decide
    have n43 : (43 : Nat) ≠ 42 := by decide
    have n44 : (44 : Nat) ≠ 43 := by decide
    have n44' : (44 : Nat) ≠ 42 := by decide
    by_cases c : er (ec k (pt k p y) i l) a (R p')
    · have ct : ed k p y l a (R p') i = true := decide_eq_true c
      simp only [bI_t c, gd_t (show bz (1 : Int32) from Or.inr rfl), u5, q9, pk_un n9, pk_un n9', pk_un n9'', pk_un n43, pk_un n44, pk_un n44', pk_us, gd_t i41, nI_clamp (show i < 2 ^ 31 by omega), if_neg n10, q42, q43, q44, nI_1]
      have hm := hmay 1 (by rw [if_pos ct])
      by_cases c3 : fi (ed k p y l a (R p')) i = -1
      · rw [if_pos c3]
        refine ⟨_, ?_, rfl⟩
        dsimp only
        exact ⟨rfl, rfl, rfl, (up (up (up qK (by decide)) (by decide)) (by decide)).up (Or.inl rfl), pk_us, (uq_o (by decide) (by decide) (by decide) (by decide)).trans q11, uq_42.trans (by rw [cnt_t ct]), uq_43.trans (by rw [fi_s, if_pos ⟨c3, ct⟩]), uq_44.trans (by rw [gr_s, if_pos ct]), hm⟩
      · rw [if_neg c3]
        refine ⟨_, ?_, rfl⟩
        dsimp only
        exact ⟨rfl, rfl, rfl, (up (up (up qK (by decide)) (by decide)) (by decide)).up (Or.inl rfl), pk_us, (uq_o (by decide) (by decide) (by decide) (by decide)).trans q11, uq_42.trans (by rw [cnt_t ct]), uq_43.trans (by rw [fi_s, if_neg (fun q => c3 q.1)]), uq_44.trans (by rw [gr_s, if_pos ct]), hm⟩
    · have ct : ¬ ed k p y l a (R p') i = true := fun e => c (of_decide_eq_true e)
      simp only [bI_f c, gd_t (show bz (0 : Int32) from Or.inl rfl), u5, q9, pk_un n9, pk_un n9', pk_un n9'', pk_un n43, pk_un n44, pk_un n44', pk_us, gd_t i41, nI_clamp (show i < 2 ^ 31 by omega), if_pos p00, q42, q43, q44, nI_1]
      have hm := hmay 0 (by rw [if_neg ct])
      refine ⟨_, ?_, rfl⟩
      dsimp only
      exact ⟨rfl, rfl, rfl, (up (up (up qK (by decide)) (by decide)) (by decide)).up (Or.inl rfl), pk_us, (uq_o (by decide) (by decide) (by decide) (by decide)).trans q11, uq_42.trans (by rw [cnt_f ct]; exact nI_add _ 0), uq_43.trans (by rw [fi_s, if_neg (fun q => ct q.2)]), uq_44.trans (by rw [gr_s, if_neg ct]), hm⟩
  · rintro ⟨x1, x2, x3, x4, x5, x6⟩ k2 ⟨u1, u2, u3, u4, u5, u6, u7, u8, u9, u10⟩
    dsimp only at u1 u2 u3 u4 u5 u6 u7 u8 u9 u10
    subst u1 u2 u3
    have gb : m_X6_goesBack fu x4 mL = some (upd (upd (upd x4 9 (x4 35)) 11 (x4 36)) 10 (x4 37)) := rfl
    obtain ⟨m2, b1, b2, b3⟩ := u4.back (fu := fu) (mL := mL)
    have em : m2 = upd (upd (upd x4 9 (x4 35)) 11 (x4 36)) 10 (x4 37) := Option.some.inj (b1.symm.trans gb)
    unfold b_X6_findDepths_24
    dsimp only
    rw [if_pos (show (40 : Int32) < x4 9 by rw [u5]; decide), b1, Option.bind_some]
    refine ⟨_, _, _, rfl, b2, b3, ?_, ?_, ?_, u10⟩
    · rw [em, pk_un (by decide), pk_un (by decide), pk_un (by decide)]; exact u7
    · rw [em, pk_un (by decide), pk_un (by decide), pk_un (by decide)]; exact u8
    · rw [em, pk_un (by decide), pk_un (by decide), pk_un (by decide)]; exact u9
theorem bs_zero {f : Nat → Bool} : ∀ n, cnt f n = 0 ↔ bs f n = 0 := by
  intro n
  induction n with
  | zero => exact ⟨fun _ => rfl, fun _ => rfl⟩
  | succ n ih =>
    by_cases c : f n = true
    · constructor
      · intro h; rw [cnt_t c] at h; omega
      · intro h
        have := bs_bit (f := f) (n + 1) n
        rw [h, Nat.zero_testBit, c] at this
        simp at this
    · rw [cnt_f c, bs_f c]; exact ih
