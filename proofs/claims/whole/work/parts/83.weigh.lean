-- PURE 3: what the class hears, and how it is weighed
theorem fm_take {f : Nat → Option Nat} {l : List Nat} {i x : Nat} (h : l[i]? = some x) : (l.take (i + 1)).filterMap f = (l.take i).filterMap f ++ (f x).toList := by
  rw [List.take_add_one, h, List.filterMap_append]
  congr 1
theorem fm_len {f : Nat → Option Nat} {l : List Nat} {i : Nat} : ((l.take i).filterMap f).length ≤ i := by
  have h1 : ((l.take i).filterMap f).length ≤ (l.take i).length := List.length_filterMap_le ..
  rw [List.length_take] at h1
  omega
theorem nI_0k : (0 : Int32) = nI 0 := rfl
theorem s_hears_loop {fu : Nat} {t t1 h1 f g : Nat → Int32} {k p d r y w q : Nat} {l l0 : List Nat} (hfu : 5000 ≤ fu) (T : TR t k p d r y w q) (Wd : WD f g l) (S1 : SB t t1) (c1 : t1 8 = nI l0.length) (b1 : Bf h1 l0) (h0 : l0.length ≤ 1) :
    ∃ t' h', b_X3_hears_32 fu f g t1 h1 = some (t', h') ∧ SB t t' ∧ t' 8 = nI (if k = 4 then (l0 ++ l.filterMap (rt k (pt k p y) d)).reverse else l0 ++ l.filterMap (rt k (pt k p y) d)).length ∧ Bf h' (if k = 4 then (l0 ++ l.filterMap (rt k (pt k p y) d)).reverse else l0 ++ l.filterMap (rt k (pt k p y) d)) := by
  unfold b_X3_hears_32
  obtain ⟨w1, w2, w3, w4⟩ := id Wd
  refine lf (b_X3_hears_34 fu f g) (fun i x => x.1 = nI i ∧ SB t x.2.1 ∧ x.2.1 8 = nI (l0 ++ (l.take i).filterMap (rt k (pt k p y) d)).length ∧ Bf x.2.2 (l0 ++ (l.take i).filterMap (rt k (pt k p y) d))) l.length
    (fun o => ∃ t' h', o = some (t', h') ∧ SB t t' ∧ t' 8 = nI (if k = 4 then (l0 ++ l.filterMap (rt k (pt k p y) d)).reverse else l0 ++ l.filterMap (rt k (pt k p y) d)).length ∧ Bf h' (if k = 4 then (l0 ++ l.filterMap (rt k (pt k p y) d)).reverse else l0 ++ l.filterMap (rt k (pt k p y) d))) ?_ ?_ fu 0 _ (Nat.zero_le _) (by omega) ⟨rfl, S1, by simpa using c1, by simpa using b1⟩
  · rintro i ⟨x1, x2, x3⟩ kk hi ⟨e1, e2, e3, e4⟩
    dsimp only at e1 e2 e3 e4
    subst e1
    obtain ⟨s, hs⟩ : ∃ s, l[i]? = some s := ⟨l[i], List.getElem?_eq_getElem hi⟩
    have hlen : (l0 ++ (l.take i).filterMap (rt k (pt k p y) d)).length < 13 := by
      rw [List.length_append]
      have := fm_len (f := rt k (pt k p y) d) (l := l) (i := i)
      omega
    obtain ⟨t', h', g1, g2, g3, g4⟩ := s_hearBack (fu := fu) (s := s) (T.sb e2) (w4 s (List.mem_of_getElem? hs)) e3 e4 hlen
    refine Or.inl ⟨(nI (i + 1), t', h'), ⟨rfl, e2.tr g2, ?_, ?_⟩, ?_⟩
    · rw [fm_take hs, ← List.append_assoc]; exact g3
    · rw [fm_take hs, ← List.append_assoc]; exact g4
    · unfold b_X3_hears_34
      dsimp only
      rw [if_neg (by rw [w1]; exact nI_ge hi (by omega)), s_soundAt Wd hs, Option.bind_some]
      dsimp only
      rw [g1, Option.bind_some, nI_1]
  · rintro ⟨x1, x2, x3⟩ kk ⟨e1, e2, e3, e4⟩
    dsimp only at e1 e2 e3 e4
    subst e1
    rw [List.take_length] at e3 e4
    unfold b_X3_hears_34 b_X3_hears_69
    dsimp only
    rw [if_pos (by rw [w1]; exact nI_le (Nat.le_refl _) (by omega))]
    have hk : x2 0 = nI k := (e2 0 (by decide)).trans T.1
    have hk5 : k ≤ 5 := T.2.2.2.2.2.2.2.1
    by_cases c4 : k = 4
    · rw [if_pos (by rw [hk, c4]; rfl), if_pos c4]
      have hlen : (l0 ++ l.filterMap (rt k (pt k p y) d)).length ≤ 13 := by
        rw [List.length_append]
        have := fm_len (f := rt k (pt k p y) d) (l := l) (i := l.length)
        rw [List.take_length] at this
        omega
      obtain ⟨h', g1, g2⟩ := s_turnRound (fu := fu) hfu e3 hlen e4
      rw [g1, Option.bind_some]
      exact ⟨x2, h', rfl, e2, by rw [List.length_reverse]; exact e3, g2⟩
    · rw [if_neg (show ¬ x2 0 = (4 : Int32) from fun e => c4 ((nI_eq (b := 4) (by omega) (by omega)).mp (hk.symm.trans e))), if_neg c4]
      exact ⟨x2, x3, rfl, e2, e3, e4⟩
theorem s_hears {fu : Nat} {t h f g : Nat → Int32} {k p d r y w q : Nat} {l : List Nat} (hfu : 5000 ≤ fu) (T : TR t k p d r y w q) (Wd : WD f g l) :
    ∃ t' h', m_X3_hears fu t h f g = some (t', h') ∧ SB t t' ∧ t' 8 = nI (ec k (pt k p y) d l).length ∧ Bf h' (ec k (pt k p y) d l) := by
  obtain ⟨w1, w2, w3, w4⟩ := id Wd
  have hk5 : k ≤ 5 := T.2.2.2.2.2.2.2.1
  unfold m_X3_hears
  have one : stw k l = l → ∃ t' h', b_X3_hears_32 fu f g (upd t 8 0) h = some (t', h') ∧ SB t t' ∧ t' 8 = nI (ec k (pt k p y) d l).length ∧ Bf h' (ec k (pt k p y) d l) := by
    intro e
    have := s_hears_loop (fu := fu) (t1 := upd t 8 0) (h1 := h) (l0 := []) hfu T Wd SB.up (by rw [pk_us]; rfl) Bf_nil (by simp)
    unfold ec
    rw [e]
    simpa using this
  by_cases c0 : l.length = 0
  · rw [if_pos (by rw [w1, c0]; decide)]
    have : l = [] := List.length_eq_zero_iff.mp c0
    subst this
    exact one (by unfold stw; split <;> rfl)
  · rw [if_neg (by rw [w1]; exact nI_nle (by omega) (by omega)), s_isUnder, Option.bind_some, T.1]
    dsimp only
    have k2 : (nI k = 2) ↔ k = 2 := nI_eq (b := 2) (by omega) (by omega)
    have k4 : (nI k = 4) ↔ k = 4 := nI_eq (b := 4) (by omega) (by omega)
    by_cases c : k = 2 ∨ k = 4
    · have hb : nI k = 2 ∨ (2 : Int32) = 0 ∨ (nI k = 3 ∧ (2 : Int32) = 1) ∨ (nI k = 4 ∧ (2 : Int32) = 2) := c.elim (fun c => Or.inl (k2.mpr c)) (fun c => Or.inr (Or.inr (Or.inr ⟨k4.mpr c, rfl⟩)))
      obtain ⟨s, hs⟩ : ∃ s, l[0]? = some s := ⟨l[0], List.getElem?_eq_getElem (by omega)⟩
      rw [bI_t hb, if_neg (by decide), show (0 : Int32) = nI 0 from rfl, s_soundAt Wd hs, Option.bind_some]
      dsimp only
      obtain ⟨t', h', g1, g2, g3, g4⟩ := s_hearBack (fu := fu) (s := s) (l := []) (h := h) (T.sb (SB.up (v := nI 0))) (w4 s (List.mem_of_getElem? hs)) (by rw [pk_us]; rfl) Bf_nil (by simp)
      rw [g1, Option.bind_some]
      rw [List.nil_append] at g3 g4
      have := s_hears_loop (fu := fu) (t1 := t') (h1 := h') (l0 := (rt k (pt k p y) d s).toList) hfu T Wd (SB.up.tr g2) g3 g4 (by cases rt k (pt k p y) d s <;> simp)
      have e1 : (stw k l).filterMap (rt k (pt k p y) d) = (rt k (pt k p y) d s).toList ++ l.filterMap (rt k (pt k p y) d) := by
        unfold stw
        rw [if_pos c, List.filterMap_append]
        congr 1
        have := fm_take (f := rt k (pt k p y) d) hs
        simpa using this
      unfold ec
      rw [e1]
      exact this
    · have hb : ¬ (nI k = 2 ∨ (2 : Int32) = 0 ∨ (nI k = 3 ∧ (2 : Int32) = 1) ∨ (nI k = 4 ∧ (2 : Int32) = 2)) := by
        rintro (e | e | e | e)
        · exact c (Or.inl (k2.mp e))
        · exact absurd e (by decide)
        · exact absurd e.2 (by decide)
        · exact c (Or.inr (k4.mp e.1))
      rw [bI_f hb, if_pos rfl]
      exact one (by unfold stw; rw [if_neg c])
theorem s_heardAt {fu : Nat} {t h : Nat → Int32} {l : List Nat} {i x : Nat} (hc : t 8 = nI l.length) (hl : l.length ≤ 13) (hb : Bf h l) (hx : l[i]? = some x) : m_X3_heardAt fu t h (nI i) = some (nI x, ()) := by
  have hi : i < l.length := (List.getElem?_eq_some_iff.mp hx).1
  unfold m_X3_heardAt b_X3_heardAt_27 b_X3_heardAt_28
  rw [if_neg (by rw [hc]; exact nI_ge hi (by omega)), s_isWithin, Option.bind_some, bI_t (show (0 : Int32) ≤ nI i ∧ nI i ≤ (12 : Int32) from w_0n (m := 12) (by omega) (by decide)), if_neg (by decide), gd_t (inb_n (by omega) (by decide)), nI_clamp (by omega), hb i x hx]
theorem s_total {fu : Nat} {t h : Nat → Int32} {l : List Nat} (hfu : 5000 ≤ fu) (hc : t 8 = nI l.length) (hl : l.length ≤ 13) (hb : Bf h l) (h40 : ∀ x ∈ l, x < 40) : m_X3_total fu t h = some (nI (sm l), ()) := by
  unfold m_X3_total
  refine lf (b_X3_total_4 fu t h) (fun i x => x.1 = nI (sm (l.take i)) ∧ x.2 = nI i) l.length (fun o => o = some (nI (sm l), ())) ?_ ?_ fu 0 _ (Nat.zero_le _) (by omega) ⟨rfl, rfl⟩
  · rintro i ⟨x1, x2⟩ kk hi ⟨e1, e2⟩
    dsimp only at e1 e2
    subst e1 e2
    obtain ⟨x, hx⟩ : ∃ x, l[i]? = some x := ⟨l[i], List.getElem?_eq_getElem hi⟩
    refine Or.inl ⟨(nI (sm (l.take (i + 1))), nI (i + 1)), ⟨rfl, rfl⟩, ?_⟩
    unfold b_X3_total_4
    dsimp only
    rw [if_neg (by rw [hc]; exact nI_ge hi (by omega)), s_heardAt hc hl hb hx, Option.bind_some]
    dsimp only
    rw [nI_add, nI_1, sm_take hx]
  · rintro ⟨x1, x2⟩ kk ⟨e1, e2⟩
    dsimp only at e1 e2
    subst e1 e2
    unfold b_X3_total_4
    dsimp only
    rw [if_pos (by rw [hc]; exact nI_le (Nat.le_refl _) (by omega)), List.take_length]
theorem sm_b {k p d : Nat} {l : List Nat} (h : l.length ≤ 12) : sm (ec k p d l) ≤ 520 := by
  have h1 := sm_le (l := ec k p d l) ec_lt (ec k p d l).length
  rw [List.take_length] at h1
  have := ec_len (k := k) (p := p) (d := d) (w := l)
  omega
theorem s_weighs {fu : Nat} {t h f g : Nat → Int32} {k p d r y w q : Nat} {l : List Nat} (hfu : 5000 ≤ fu) (T : TR t k p d r y w q) (Wd : WD f g l) :
    ∃ t' h', m_X3_weighs fu t h f g = some (wg k (pt k p y) d w q l, (t', h')) ∧ SB t t' := by
  obtain ⟨t', h', g1, g2, g3, g4⟩ := s_hears (fu := fu) (h := h) hfu T Wd
  have hl := ec_len (k := k) (p := pt k p y) (d := d) (w := l)
  have hsm := sm_b (k := k) (p := pt k p y) (d := d) (l := l) Wd.2.1
  have T' := T.sb g2
  refine ⟨t', h', ?_, g2⟩
  unfold m_X3_weighs b_X3_weighs_41 b_X3_weighs_42 wg
  rw [g1, Option.bind_some]
  dsimp only
  have w2 : 2 ≤ w ∧ w ≤ 9 := ⟨T.2.2.2.2.2.2.2.2.2.2.2.2.1, T.2.2.2.2.2.2.2.2.2.2.2.2.2.1⟩
  have q9 : q ≤ 9 := T.2.2.2.2.2.2.2.2.2.2.2.2.2.2
  have hwl := Wd.2.1
  have hw0 : ¬ nI w = 0 := nI_ne0 (n := w) (by omega) (by omega)
  by_cases c0 : (ec k (pt k p y) d l).length = 0
  · rw [if_pos (by rw [g3, c0]; rfl), if_pos c0]
  · have e5 : t' 5 = nI w := T'.2.2.2.2.2.1
    have e6 : t' 6 = nI q := T'.2.2.2.2.2.2.1
    rw [if_neg (by rw [g3]; exact nI_ne0 (by omega) (by omega)), if_neg c0, if_neg (by rw [e5]; exact nI_nle (by omega) (by omega)), s_total hfu g3 (by omega) g4 ec_lt, Option.bind_some]
    dsimp only
    rw [gd_t (show ¬ t' 5 = 0 from by rw [e5]; exact hw0)]
    have hlt : sm (ec k (pt k p y) d l) % w < 2 ^ 31 := Nat.lt_of_le_of_lt (Nat.mod_le _ _) (Nat.lt_of_le_of_lt hsm (by decide))
    have hr : nI (sm (ec k (pt k p y) d l)) - nI (sm (ec k (pt k p y) d l)) / nI w * nI w = nI (sm (ec k (pt k p y) d l) % w) := pk_rem (Nat.lt_of_le_of_lt hsm (by decide)) (by omega) (by omega)
    have hb : (nI (sm (ec k (pt k p y) d l)) - nI (sm (ec k (pt k p y) d l)) / t' 5 * t' 5 = t' 6) ↔ sm (ec k (pt k p y) d l) % w = q := by
      rw [e5, e6, hr]
      exact nI_eq hlt (Nat.lt_of_le_of_lt q9 (by decide))
    by_cases c1 : sm (ec k (pt k p y) d l) % w = q
    · rw [if_pos (hb.mpr c1), if_pos c1]
    · rw [if_neg (fun e => c1 (hb.mp e)), if_neg c1]
