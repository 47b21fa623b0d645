-- PURE 4: the reference: what comes back, what is heard, how it is weighed
def MT (m mk mp : Nat → Int32) (v k p d y w q : Nat) : Prop := v < 8 ∧ mk v = nI k ∧ mp v = nI p ∧ m 9 = nI d ∧ m 11 = nI y ∧ m 12 = nI w ∧ m 13 = nI q ∧ k ≤ 5 ∧ p ≤ 20 ∧ d ≤ 40 ∧ y ≤ 9999 ∧ 2 ≤ w ∧ w ≤ 9 ∧ q ≤ 9
def SM (m m' : Nat → Int32) : Prop := ∀ j, j ≠ 33 → m' j = m j
theorem SM.rf {t : Nat → Int32} : SM t t := fun _ _ => rfl
theorem SM.tr {a b c : Nat → Int32} (h : SM a b) (h2 : SM b c) : SM a c := fun j hj => (h2 j hj).trans (h j hj)
theorem SM.up {t : Nat → Int32} {v : Int32} : SM t (upd t 33 v) := fun j hj => pk_un hj
theorem MT.sm {m m' mk mp : Nat → Int32} {v k p d y w q : Nat} (h : MT m mk mp v k p d y w q) (s : SM m m') : MT m' mk mp v k p d y w q := by
  obtain ⟨a0, a1, a2, a3, a4, a5, a6, b⟩ := h
  exact ⟨a0, a1, a2, (s 9 (by decide)).trans a3, (s 11 (by decide)).trans a4, (s 12 (by decide)).trans a5, (s 13 (by decide)).trans a6, b⟩
def WM (m mw : Nat → Int32) (l : List Nat) : Prop := m 31 = nI l.length ∧ l.length ≤ 12 ∧ Bf mw l ∧ ∀ x ∈ l, x < 40
theorem WM.sm {m m' mw : Nat → Int32} {l : List Nat} (h : WM m mw l) (s : SM m m') : WM m' mw l := ⟨(s 31 (by decide)).trans h.1, h.2⟩
theorem s_mpitchOf {fu : Nat} {m : Nat → Int32} {mL : Nat → Int64} {mk mp : Nat → Int32} {v k p d y w q : Nat} (h : MT m mk mp v k p d y w q) : m_X6_pitchOf fu m mL mk mp (nI v) = some (nI (pt k p y), ()) := by
  obtain ⟨a0, a1, a2, a3, a4, a5, a6, b0, b1, b2, b3, b4, b5⟩ := h
  unfold m_X6_pitchOf b_X6_pitchOf_33 pt
  have hi : inb (nI v) 8 := inb_n a0 (by decide)
  rw [gd_t hi, gd_t hi, gd_t hi, nI_clamp (by omega), a1, a2, a4, show (5 : Int32) = nI 5 from rfl, show (10 : Int32) = nI 10 from rfl]
  by_cases c : k = 5
  · rw [if_pos (by rw [c]), if_pos c, pk_div (by omega) (by decide) (by decide), nI_add]
  · rw [if_neg (fun e => c ((nI_eq (by omega) (by omega)).mp e)), if_neg c]
theorem s_comesBack {fu : Nat} {m : Nat → Int32} {mL : Nat → Int64} {mk mp : Nat → Int32} {v k p d y w q s : Nat} (h : MT m mk mp v k p d y w q) (hs : s < 40) : m_X6_comesBack fu m mL mk mp (nI v) (nI s) = some (ro (rt k (pt k p y) d s), ()) := by
  have hp := s_mpitchOf (fu := fu) (mL := mL) h
  obtain ⟨a0, a1, a2, a3, a4, a5, a6, b0, b1, b2, b3, b4, b5⟩ := h
  have hpt := pt_le (k := k) b1 b3
  have hi : inb (nI v) 8 := inb_n a0 (by decide)
  have k1 : (nI k = 1) ↔ k = 1 := nI_eq (b := 1) (by omega) (by omega)
  have k3 : (nI k = 3) ↔ k = 3 := nI_eq (b := 3) (by omega) (by omega)
  have e2 : nI d / (2 : Int32) = nI (d / 2) := by rw [show (2 : Int32) = nI 2 from rfl, pk_div (by omega) (by decide) (by decide)]
  unfold m_X6_comesBack b_X6_comesBack_20 b_X6_comesBack_25 b_X6_comesBack_44 b_X6_comesBack_67
  simp only [gd_t hi, hp, Option.bind_some, nI_clamp (show v < 2 ^ 31 by omega), a1, a3, e2]
  rw [x_ret s (d / 2) _ hs (by omega) hpt, x_ret s d _ hs b2 hpt, if_neg (show ¬ (1 : Int32) = 0 by decide), if_pos trivial]
  unfold rt
  by_cases c1 : k = 1
  · have c3 : ¬ k = 3 := by omega
    rw [if_pos (k1.mpr c1), if_neg (fun e => c3 (k3.mp e)), if_neg (fun e => e.1 (Or.inl c1)), if_neg c3]
    rfl
  · rw [if_neg (fun e => c1 (k1.mp e))]
    by_cases c3 : k = 3
    · rw [if_pos (k3.mpr c3), if_pos (k3.mpr c3), if_neg (fun e => e.1 (Or.inr c3)), if_pos c3]
      rfl
    · rw [if_neg (fun e => c3 (k3.mp e)), if_neg (fun e => c3 (k3.mp e))]
      have cc : ¬ (k = 1 ∨ k = 3) := fun e => e.elim c1 c3
      by_cases c7 : (s + d) % 7 = 0
      · rw [if_pos ((x_7 s d hs b2).mpr c7), if_pos ⟨cc, c7⟩]
        rfl
      · rw [if_neg (fun e => c7 ((x_7 s d hs b2).mp e)), if_neg (fun e => c7 e.2), if_neg c3]
        rfl
/-- the inner loop: the sound s, cn times -/
theorem s_listen_in {fu : Nat} {m : Nat → Int32} {mL : Nat → Int64} {mk mp mw h : Nat → Int32} {v k p d y w q s i cn : Nat} {l l0 : List Nat} {fl : Int32} {kk : (Int32 × Int32 × Int32 × (Nat → Int32) × (Nat → Int32)) → Option ((Nat → Int32) × (Nat → Int32))} (hfu : 5000 ≤ fu) (T : MT m mk mp v k p d y w q) (Wd : WM m mw l) (hs : l[i]? = some s) (hc : m 33 = nI l0.length) (hb : Bf h l0) (hl : l0.length + cn ≤ 13)
    (hcn : cn = 1 ∧ (fl = 0 ∨ i ≠ 0) ∨ cn = 2 ∧ fl ≠ 0 ∧ i = 0) :
    ∃ m' h', lfix (b_X6_listen_44 fu mL mk mp mw kk) fu (nI v, fl, nI i, (0 : Int32), m, h) = kk (nI v, fl, nI (i + 1), m', h') ∧ SM m m' ∧ m' 33 = nI (l0 ++ ((List.replicate cn s).filterMap (rt k (pt k p y) d))).length ∧ Bf h' (l0 ++ ((List.replicate cn s).filterMap (rt k (pt k p y) d))) := by
  have hi : i < l.length := (List.getElem?_eq_some_iff.mp hs).1
  have hi12 : i < 12 := Nat.lt_of_lt_of_le hi Wd.2.1
  have hs40 := Wd.2.2.2 s (List.mem_of_getElem? hs)
  have hlim : ∀ (a : Int32) (m1 h1 : Nat → Int32), b_X6_listen_44 fu mL mk mp mw kk = b_X6_listen_44 fu mL mk mp mw kk := fun _ _ _ => rfl
  refine lf (b_X6_listen_44 fu mL mk mp mw kk) (fun j x => x.1 = nI v ∧ x.2.1 = fl ∧ x.2.2.1 = nI i ∧ x.2.2.2.1 = nI j ∧ SM m x.2.2.2.2.1 ∧ x.2.2.2.2.1 33 = nI (l0 ++ ((List.replicate j s).filterMap (rt k (pt k p y) d))).length ∧ Bf x.2.2.2.2.2 (l0 ++ ((List.replicate j s).filterMap (rt k (pt k p y) d)))) cn
    (fun o => ∃ m' h', o = kk (nI v, fl, nI (i + 1), m', h') ∧ SM m m' ∧ m' 33 = nI (l0 ++ ((List.replicate cn s).filterMap (rt k (pt k p y) d))).length ∧ Bf h' (l0 ++ ((List.replicate cn s).filterMap (rt k (pt k p y) d)))) ?_ ?_ fu 0 _ (Nat.zero_le _) (by omega) ⟨rfl, rfl, rfl, rfl, SM.rf, by simpa using hc, by simpa using hb⟩
  · rintro j ⟨x1, x2, x3, x4, x5, x6⟩ k44 hj ⟨e1, e2, e3, e4, e5, e6, e7⟩
    dsimp only at e1 e2 e3 e4 e5 e6 e7
    subst e1 e2 e3 e4
    have hrep : (List.replicate (j + 1) s).filterMap (rt k (pt k p y) d) = (List.replicate j s).filterMap (rt k (pt k p y) d) ++ (rt k (pt k p y) d s).toList := by
      rw [List.replicate_succ', List.filterMap_append]
      congr 1
    have hlen : (l0 ++ ((List.replicate j s).filterMap (rt k (pt k p y) d))).length < 13 := by
      rw [List.length_append]
      have h1 : ((List.replicate j s).filterMap (rt k (pt k p y) d)).length ≤ (List.replicate j s).length := List.length_filterMap_le ..
      rw [List.length_replicate] at h1
      omega
    have step : b_X6_listen_44 fu mL mk mp mw kk k44 (nI v, x2, nI i, nI j, x5, x6) = (m_X6_comesBack fu x5 mL mk mp (nI v) (nI s)).bind fun o11 => if o11.1 = (-1 : Int32) then k44 (nI v, x2, nI i, nI (j + 1), x5, x6) else gd (inb (x5 33) 13) (k44 (nI v, x2, nI i, nI (j + 1), upd x5 33 (x5 33 + 1), upd x6 (x5 33).toNatClampNeg o11.1)) := by
      unfold b_X6_listen_44 b_X6_listen_58 b_X6_listen_59 b_X6_listen_99
      dsimp only
      have hw : gd (inb (nI i) 12) ((m_X6_comesBack fu x5 mL mk mp (nI v) (mw (nI i).toNatClampNeg)).bind fun o11 => if o11.1 = (-1 : Int32) then k44 (nI v, x2, nI i, nI j + 1, x5, x6) else gd (inb (x5 33) 13) (k44 (nI v, x2, nI i, nI j + 1, upd x5 33 (x5 33 + 1), upd x6 (x5 33).toNatClampNeg o11.1))) = (m_X6_comesBack fu x5 mL mk mp (nI v) (nI s)).bind fun o11 => if o11.1 = (-1 : Int32) then k44 (nI v, x2, nI i, nI (j + 1), x5, x6) else gd (inb (x5 33) 13) (k44 (nI v, x2, nI i, nI (j + 1), upd x5 33 (x5 33 + 1), upd x6 (x5 33).toNatClampNeg o11.1)) := by
        rw [gd_t (inb_n hi12 (by decide)), nI_clamp (by omega), Wd.2.2.1 i s hs, nI_1]
      rcases hcn with ⟨h1, h2⟩ | ⟨h1, h2, h3⟩
      · have hj0 : j = 0 := by omega
        by_cases c2 : x2 = 0
        · rw [if_pos c2, if_neg (show ¬ (1 : Int32) ≤ nI j from by rw [hj0]; decide)]
          exact hw
        · rw [if_neg c2, if_neg (show ¬ nI i = 0 from nI_ne0 (by have := h2.resolve_left c2; omega) (by omega)), if_neg (show ¬ (1 : Int32) ≤ nI j from by rw [hj0]; decide)]
          exact hw
      · rw [if_neg h2, if_pos (show nI i = 0 from by rw [h3]; rfl), if_neg (show ¬ (2 : Int32) ≤ nI j from nI_ge (b := 2) (by omega) (by decide))]
        exact hw
    rw [step, s_comesBack (T.sm e5) hs40, Option.bind_some]
    cases e : rt k (pt k p y) d s with
    | none =>
      rw [e] at hrep
      refine Or.inl ⟨(nI v, x2, nI i, nI (j + 1), x5, x6), ⟨rfl, rfl, rfl, rfl, e5, ?_, ?_⟩, ?_⟩
      · rw [hrep]; simpa using e6
      · rw [hrep]; simpa using e7
      · dsimp only; rw [if_pos (show ro none = -1 from rfl)]
    | some x =>
      rw [e] at hrep
      have hx := rt_lt e
      have hne : ¬ ro (some x) = -1 := fun e2 => by have := (ro_none (some x) (fun z hz => by cases hz; exact hx)).mp e2; cases this
      refine Or.inl ⟨(nI v, x2, nI i, nI (j + 1), upd x5 33 (x5 33 + 1), upd x6 (x5 33).toNatClampNeg (nI x)), ⟨rfl, rfl, rfl, rfl, e5.tr SM.up, ?_, ?_⟩, ?_⟩
      · dsimp only
        rw [pk_us, hrep, ← List.append_assoc, e6, nI_1]
        simp [Nat.add_assoc]
      · dsimp only
        rw [hrep, ← List.append_assoc, e6, nI_clamp (by omega)]
        exact Bf_push e7
      · dsimp only
        rw [if_neg hne, gd_t (by rw [e6]; exact inb_n hlen (by decide))]
        rfl
  · rintro ⟨x1, x2, x3, x4, x5, x6⟩ k44 ⟨e1, e2, e3, e4, e5, e6, e7⟩
    dsimp only at e1 e2 e3 e4 e5 e6 e7
    subst e1 e2 e3 e4
    refine ⟨x5, x6, ?_, e5, e6, e7⟩
    unfold b_X6_listen_44 b_X6_listen_58 b_X6_listen_59
    dsimp only
    rcases hcn with ⟨h1, h2⟩ | ⟨h1, h2, h3⟩
    · by_cases c2 : x2 = 0
      · rw [if_pos c2, if_pos (show (1 : Int32) ≤ nI cn from by rw [h1]; decide), nI_1]
      · rw [if_neg c2, if_neg (show ¬ nI i = 0 from nI_ne0 (by have := h2.resolve_left c2; omega) (by omega)), if_pos (show (1 : Int32) ≤ nI cn from by rw [h1]; decide), nI_1]
    · rw [if_neg h2, if_pos (show nI i = 0 from by rw [h3]; rfl), if_pos (show (2 : Int32) ≤ nI cn from by rw [h1]; decide), nI_1]
theorem stw_take {k i : Nat} {l : List Nat} {s : Nat} (h : l[i]? = some s) : stw k (l.take (i + 1)) = stw k (l.take i) ++ List.replicate (if (k = 2 ∨ k = 4) ∧ i = 0 then 2 else 1) s := by
  have h1 : l.take (i + 1) = l.take i ++ [s] := by rw [List.take_add_one, h]; rfl
  unfold stw
  by_cases c : k = 2 ∨ k = 4
  · rw [if_pos c, if_pos c]
    by_cases c0 : i = 0
    · subst c0
      rw [if_pos ⟨c, rfl⟩, h1]
      rfl
    · rw [if_neg (fun e => c0 e.2), h1, List.take_append_of_le_length (by rw [List.length_take]; have := (List.getElem?_eq_some_iff.mp h).1; omega), List.append_assoc]
      rfl
  · rw [if_neg c, if_neg c, if_neg (fun e => c e.1), h1]
    rfl
theorem stw_len {k : Nat} {l : List Nat} : (stw k l).length ≤ l.length + 1 := by
  unfold stw
  split
  · rw [List.length_append, List.length_take]; omega
  · omega
theorem s_listen_turn {fu : Nat} {m : Nat → Int32} {mL : Nat → Int64} {mk mp mw h : Nat → Int32} {v k p d y w q : Nat} {l : List Nat} (hfu : 5000 ≤ fu) (T : MT m mk mp v k p d y w q) (hc : m 33 = nI l.length) (hl : l.length ≤ 13) (hb : Bf h l) :
    ∃ h', lfix (b_X6_listen_113 fu mL mk mp mw) fu (nI v, (0 : Int32), m, h) = some (m, h') ∧ Bf h' (if k = 4 then l.reverse else l) := by
  have hk : mk v = nI k := T.2.1
  have hk5 : k ≤ 5 := T.2.2.2.2.2.2.2.1
  have hv : v < 8 := T.1
  have k4 : (nI k = 4) ↔ k = 4 := nI_eq (b := 4) (by omega) (by omega)
  have e4 : m 33 / (2 : Int32) = nI (l.length / 2) := by rw [hc, show (2 : Int32) = nI 2 from rfl, pk_div (by omega) (by decide) (by decide)]
  by_cases c : k = 4
  · rw [if_pos c]
    refine lf (b_X6_listen_113 fu mL mk mp mw) (fun i x => x.1 = nI v ∧ x.2.1 = nI i ∧ x.2.2.1 = m ∧ RV l.length l i x.2.2.2) (l.length / 2) (fun o => ∃ h', o = some (m, h') ∧ Bf h' l.reverse) ?_ ?_ fu 0 _ (Nat.zero_le _) (by omega) ⟨rfl, rfl, rfl, RV_0 hb⟩
    · rintro i ⟨x1, x2, x3, x4⟩ kk hi ⟨e1, e2, e3, e5⟩
      dsimp only at e1 e2 e3 e5
      subst e1 e2 e3
      refine Or.inl ⟨(nI v, nI (i + 1), x3, upd (upd x4 i (x4 (l.length - 1 - i))) (l.length - 1 - i) (x4 i)), ⟨rfl, rfl, rfl, RV_step rfl hi e5⟩, ?_⟩
      unfold b_X6_listen_113
      dsimp only
      have e6 : (x3 33 - (1 : Int32)) - nI i = nI (l.length - 1 - i) := by rw [hc, show (1 : Int32) = nI 1 from rfl, pk_sub (by omega), pk_sub (by omega)]
      rw [e4, if_neg (nI_ge hi (by omega)), gd_t (inb_n hv (by decide)), nI_clamp (by omega), hk, if_pos (k4.mpr c), e6, gd_t (inb_n (by omega) (by decide)), gd_t (inb_n (by omega) (by decide)), gd_t (inb_n (by omega) (by decide)), gd_t (inb_n (by omega) (by decide)), nI_clamp (by omega), nI_clamp (by omega), nI_1]
    · rintro ⟨x1, x2, x3, x4⟩ kk ⟨e1, e2, e3, e5⟩
      dsimp only at e1 e2 e3 e5
      subst e1 e2 e3
      refine ⟨x4, ?_, RV_end e5⟩
      unfold b_X6_listen_113 b_X6_listen_181
      dsimp only
      rw [e4, if_pos (nI_le (Nat.le_refl _) (by omega))]
  · rw [if_neg c]
    refine ⟨h, ?_, hb⟩
    obtain ⟨n, rfl⟩ : ∃ n, fu = n + 1 := ⟨fu - 1, by omega⟩
    show b_X6_listen_113 (n + 1) mL mk mp mw _ _ = _
    unfold b_X6_listen_113 b_X6_listen_181
    dsimp only
    by_cases c2 : m 33 / (2 : Int32) ≤ 0
    · rw [if_pos c2]
    · rw [if_neg c2, gd_t (inb_n hv (by decide)), nI_clamp (by omega), hk, if_neg (fun e => c (k4.mp e))]
theorem s_listen {fu : Nat} {m : Nat → Int32} {mL : Nat → Int64} {mk mp mw h : Nat → Int32} {v k p d y w q : Nat} {l : List Nat} (hfu : 5000 ≤ fu) (T : MT m mk mp v k p d y w q) (Wd : WM m mw l) :
    ∃ m' h', m_X6_listen fu m mL mk mp mw h (nI v) = some (m', h') ∧ SM m m' ∧ m' 33 = nI (ec k (pt k p y) d l).length ∧ Bf h' (ec k (pt k p y) d l) := by
  have hk : mk v = nI k := T.2.1
  have hk5 : k ≤ 5 := T.2.2.2.2.2.2.2.1
  have hv : v < 8 := T.1
  have k2 : (nI k = 2) ↔ k = 2 := nI_eq (b := 2) (by omega) (by omega)
  have k4 : (nI k = 4) ↔ k = 4 := nI_eq (b := 4) (by omega) (by omega)
  have hw12 := Wd.2.1
  have core : ∀ fl : Int32, (fl = 0 ∧ ¬ (k = 2 ∨ k = 4)) ∨ (fl = 1 ∧ (k = 2 ∨ k = 4)) → ∃ m' h', b_X6_listen_25 fu mL mk mp mw (nI v) fl m h = some (m', h') ∧ SM m m' ∧ m' 33 = nI (ec k (pt k p y) d l).length ∧ Bf h' (ec k (pt k p y) d l) := by
    intro fl hfl
    unfold b_X6_listen_25
    refine lf (b_X6_listen_33 fu mL mk mp mw) (fun i x => x.1 = nI v ∧ x.2.1 = fl ∧ x.2.2.1 = nI i ∧ SM m x.2.2.2.1 ∧ x.2.2.2.1 33 = nI ((stw k (l.take i)).filterMap (rt k (pt k p y) d)).length ∧ Bf x.2.2.2.2 ((stw k (l.take i)).filterMap (rt k (pt k p y) d))) l.length
      (fun o => ∃ m' h', o = some (m', h') ∧ SM m m' ∧ m' 33 = nI (ec k (pt k p y) d l).length ∧ Bf h' (ec k (pt k p y) d l)) ?_ ?_ fu 0 _ (Nat.zero_le _) (by omega) ⟨rfl, rfl, rfl, SM.up, ?_, ?_⟩
    · rintro i ⟨x1, x2, x3, x4, x5⟩ kk hi ⟨e1, e2, e3, e4, e5, e6⟩
      dsimp only at e1 e2 e3 e4 e5 e6
      subst e1 e2 e3
      obtain ⟨s, hs⟩ : ∃ s, l[i]? = some s := ⟨l[i], List.getElem?_eq_getElem hi⟩
      have hlen : ((stw k (l.take i)).filterMap (rt k (pt k p y) d)).length + (if (k = 2 ∨ k = 4) ∧ i = 0 then 2 else 1) ≤ 13 := by
        have h1 : ((stw k (l.take i)).filterMap (rt k (pt k p y) d)).length ≤ (stw k (l.take i)).length := List.length_filterMap_le ..
        have h2 := stw_len (k := k) (l := l.take i)
        rw [List.length_take] at h2
        by_cases c0 : i = 0
        · subst c0
          have : (stw k (l.take 0)).length = 0 := by unfold stw; split <;> rfl
          split <;> omega
        · rw [if_neg (fun e => c0 e.2)]; omega
      obtain ⟨m', h', g1, g2, g3, g4⟩ := s_listen_in (fu := fu) (mL := mL) (s := s) (i := i) (cn := if (k = 2 ∨ k = 4) ∧ i = 0 then 2 else 1) (fl := x2) (kk := kk) hfu (T.sm e4) (Wd.sm e4) hs e5 e6 hlen (by
        rcases hfl with ⟨f1, f2⟩ | ⟨f1, f2⟩
        · exact Or.inl ⟨by rw [if_neg (fun e => f2 e.1)], Or.inl f1⟩
        · by_cases c0 : i = 0
          · exact Or.inr ⟨by rw [if_pos ⟨f2, c0⟩], by rw [f1]; decide, c0⟩
          · exact Or.inl ⟨by rw [if_neg (fun e => c0 e.2)], Or.inr c0⟩)
      refine Or.inl ⟨(nI v, x2, nI (i + 1), m', h'), ⟨rfl, rfl, rfl, e4.tr g2, ?_, ?_⟩, ?_⟩
      · rw [stw_take hs, List.filterMap_append]; exact g3
      · rw [stw_take hs, List.filterMap_append]; exact g4
      · unfold b_X6_listen_33
        dsimp only
        rw [if_neg (by rw [(e4 31 (by decide)), Wd.1]; exact nI_ge hi (by omega))]
        exact g1
    · rintro ⟨x1, x2, x3, x4, x5⟩ kk ⟨e1, e2, e3, e4, e5, e6⟩
      dsimp only at e1 e2 e3 e4 e5 e6
      subst e1 e2 e3
      rw [List.take_length] at e5 e6
      have hlen : ((stw k l).filterMap (rt k (pt k p y) d)).length ≤ 13 := by
        have h1 : ((stw k l).filterMap (rt k (pt k p y) d)).length ≤ (stw k l).length := List.length_filterMap_le ..
        have h2 := stw_len (k := k) (l := l)
        omega
      obtain ⟨h', g1, g2⟩ := s_listen_turn (fu := fu) (mL := mL) (mw := mw) hfu (T.sm e4) e5 hlen e6
      refine ⟨x4, h', ?_, e4, ?_, g2⟩
      · unfold b_X6_listen_33
        dsimp only
        rw [if_pos (by rw [(e4 31 (by decide)), Wd.1]; exact nI_le (Nat.le_refl _) (by omega))]
        exact g1
      · unfold ec
        split
        · rw [List.length_reverse]; exact e5
        · exact e5
    · dsimp only
      rw [pk_us]
      have : stw k (l.take 0) = [] := by unfold stw; split <;> rfl
      rw [this]
      rfl
    · have : stw k (l.take 0) = [] := by unfold stw; split <;> rfl
      rw [this]
      exact Bf_nil
  unfold m_X6_listen b_X6_listen_20
  have hi : inb (nI v) 8 := inb_n hv (by decide)
  rw [gd_t hi, gd_t hi, nI_clamp (by omega), hk]
  by_cases c2 : k = 2
  · rw [if_pos (k2.mpr c2)]
    exact core 1 (Or.inr ⟨rfl, Or.inl c2⟩)
  · rw [if_neg (fun e => c2 (k2.mp e))]
    by_cases c4 : k = 4
    · rw [if_pos (k4.mpr c4)]
      exact core 1 (Or.inr ⟨rfl, Or.inr c4⟩)
    · rw [if_neg (fun e => c4 (k4.mp e))]
      exact core 0 (Or.inl ⟨rfl, fun e => e.elim c2 c4⟩)
theorem s_sumOf {fu : Nat} {m : Nat → Int32} {mL : Nat → Int64} {mk mp mw h : Nat → Int32} {v k p d y w q : Nat} {l : List Nat} (hfu : 5000 ≤ fu) (T : MT m mk mp v k p d y w q) (Wd : WM m mw l) :
    ∃ m' h', m_X6_sumOf fu m mL mk mp mw h (nI v) = some (nI (sm (ec k (pt k p y) d l)), (m', h')) ∧ SM m m' ∧ m' 33 = nI (ec k (pt k p y) d l).length := by
  obtain ⟨m', h', g1, g2, g3, g4⟩ := s_listen (fu := fu) (mL := mL) (h := h) hfu T Wd
  have hl := ec_len (k := k) (p := pt k p y) (d := d) (w := l)
  have hw12 := Wd.2.1
  refine ⟨m', h', ?_, g2, g3⟩
  unfold m_X6_sumOf
  rw [g1, Option.bind_some]
  dsimp only
  generalize ec k (pt k p y) d l = L at g3 g4 hl ⊢
  refine lf (b_X6_sumOf_9 fu mL mk mp mw) (fun i x => x.1 = nI (sm (L.take i)) ∧ x.2.1 = nI i ∧ x.2.2.1 = m' ∧ x.2.2.2 = h') L.length (fun o => o = some (nI (sm L), (m', h'))) ?_ ?_ fu 0 _ (Nat.zero_le _) (by omega) ⟨rfl, rfl, rfl, rfl⟩
  · rintro i ⟨x1, x2, x3, x4⟩ kk hi ⟨e1, e2, e3, e4⟩
    dsimp only at e1 e2 e3 e4
    subst e1 e2 e3 e4
    obtain ⟨x, hx⟩ : ∃ x, L[i]? = some x := ⟨L[i], List.getElem?_eq_getElem hi⟩
    refine Or.inl ⟨(nI (sm (L.take (i + 1))), nI (i + 1), x3, x4), ⟨rfl, rfl, rfl, rfl⟩, ?_⟩
    unfold b_X6_sumOf_9
    dsimp only
    rw [if_neg (by rw [g3]; exact nI_ge hi (by omega)), gd_t (inb_n (by omega) (by decide)), nI_clamp (by omega), g4 i x hx, nI_add, nI_1, sm_take hx]
  · rintro ⟨x1, x2, x3, x4⟩ kk ⟨e1, e2, e3, e4⟩
    dsimp only at e1 e2 e3 e4
    subst e1 e2 e3 e4
    unfold b_X6_sumOf_9
    dsimp only
    rw [if_pos (by rw [g3]; exact nI_le (Nat.le_refl _) (by omega)), List.take_length]
theorem s_weighedOf {fu : Nat} {m : Nat → Int32} {mL : Nat → Int64} {mk mp mw h : Nat → Int32} {v k p d y w q : Nat} {l : List Nat} (hfu : 5000 ≤ fu) (T : MT m mk mp v k p d y w q) (Wd : WM m mw l) :
    ∃ m' h', m_X6_weighedOf fu m mL mk mp mw h (nI v) = some (wg k (pt k p y) d w q l, (m', h')) ∧ SM m m' := by
  obtain ⟨m', h', g1, g2, g3⟩ := s_sumOf (fu := fu) (mL := mL) (h := h) hfu T Wd
  have hl := ec_len (k := k) (p := pt k p y) (d := d) (w := l)
  have hsm := sm_b (k := k) (p := pt k p y) (d := d) (l := l) Wd.2.1
  have hw12 := Wd.2.1
  have T' := T.sm g2
  obtain ⟨-, -, -, -, -, e12, e13, -, -, -, -, w2, w9, q9⟩ := T'
  have hw0 : ¬ nI w = 0 := nI_ne0 (n := w) (by omega) (by omega)
  refine ⟨m', h', ?_, g2⟩
  unfold m_X6_weighedOf b_X6_weighedOf_35 wg
  rw [g1, Option.bind_some]
  dsimp only
  by_cases c0 : (ec k (pt k p y) d l).length = 0
  · rw [if_pos (by rw [g3, c0]; rfl), if_pos c0]
  · rw [if_neg (by rw [g3]; exact nI_ne0 (by omega) (by omega)), if_neg c0, gd_t (show ¬ m' 12 = 0 from by rw [e12]; exact hw0)]
    have hlt : sm (ec k (pt k p y) d l) % w < 2 ^ 31 := Nat.lt_of_le_of_lt (Nat.mod_le _ _) (Nat.lt_of_le_of_lt hsm (by decide))
    have hr : nI (sm (ec k (pt k p y) d l)) - nI (sm (ec k (pt k p y) d l)) / nI w * nI w = nI (sm (ec k (pt k p y) d l) % w) := pk_rem (Nat.lt_of_le_of_lt hsm (by decide)) (by omega) (by omega)
    have hb : (nI (sm (ec k (pt k p y) d l)) - nI (sm (ec k (pt k p y) d l)) / m' 12 * m' 12 = m' 13) ↔ sm (ec k (pt k p y) d l) % w = q := by
      rw [e12, e13, hr]
      exact nI_eq hlt (Nat.lt_of_le_of_lt q9 (by decide))
    by_cases c1 : sm (ec k (pt k p y) d l) % w = q
    · rw [if_pos (hb.mpr c1), if_pos c1]
    · rw [if_neg (fun e => c1 (hb.mp e)), if_neg c1]
