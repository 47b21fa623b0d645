-- PURE 2: the class's trial
def TR (t : Nat → Int32) (k p d r y w q : Nat) : Prop := t 0 = nI k ∧ t 1 = nI p ∧ t 2 = nI d ∧ t 3 = nI r ∧ t 4 = nI y ∧ t 5 = nI w ∧ t 6 = nI q ∧ k ≤ 5 ∧ p ≤ 20 ∧ d ≤ 40 ∧ r ≤ 9 ∧ y ≤ 9999 ∧ 2 ≤ w ∧ w ≤ 9 ∧ q ≤ 9
def SB (t t' : Nat → Int32) : Prop := ∀ j, j ≠ 8 → t' j = t j
theorem SB.rf {t : Nat → Int32} : SB t t := fun _ _ => rfl
theorem SB.tr {a b c : Nat → Int32} (h : SB a b) (h2 : SB b c) : SB a c := fun j hj => (h2 j hj).trans (h j hj)
theorem SB.up {t : Nat → Int32} {v : Int32} : SB t (upd t 8 v) := fun j hj => pk_un hj
theorem TR.sb {t t' : Nat → Int32} {k p d r y w q : Nat} (h : TR t k p d r y w q) (s : SB t t') : TR t' k p d r y w q := by
  obtain ⟨a0, a1, a2, a3, a4, a5, a6, b⟩ := h
  exact ⟨(s 0 (by decide)).trans a0, (s 1 (by decide)).trans a1, (s 2 (by decide)).trans a2, (s 3 (by decide)).trans a3, (s 4 (by decide)).trans a4, (s 5 (by decide)).trans a5, (s 6 (by decide)).trans a6, b⟩
def WD (f g : Nat → Int32) (l : List Nat) : Prop := f 1 = nI l.length ∧ l.length ≤ 12 ∧ Bf g l ∧ ∀ x ∈ l, x < 40
theorem s_pitchToday {fu : Nat} {t : Nat → Int32} {k p d r y w q : Nat} (h : TR t k p d r y w q) : m_X3_pitchToday fu t = some (nI (pt k p y), ()) := by
  obtain ⟨a0, a1, a2, a3, a4, a5, a6, b0, b1, b2, b3, b4, b5⟩ := h
  unfold m_X3_pitchToday b_X3_pitchToday_27 pt
  rw [a0, a1, a4, show (5 : Int32) = nI 5 from rfl, show (10 : Int32) = nI 10 from rfl]
  by_cases c : k = 5
  · rw [if_pos (by rw [c]), if_pos c, pk_div (by omega) (by decide) (by decide), nI_add]
  · rw [if_neg (fun e => c ((nI_eq (by omega) (by omega)).mp e)), if_neg c]
theorem pt_le {k p y : Nat} (hp : p ≤ 20) (hy : y ≤ 9999) : pt k p y ≤ 2000 := by unfold pt; split <;> omega
theorem s_returnOf {fu : Nat} {t : Nat → Int32} {k p d r y w q s : Nat} (h : TR t k p d r y w q) (hs : s < 40) : m_X3_returnOf fu t (nI s) = some (ro (rt k (pt k p y) d s), ()) := by
  have hp := s_pitchToday (fu := fu) h
  obtain ⟨a0, a1, a2, a3, a4, a5, a6, b0, b1, b2, b3, b4, b5⟩ := h
  have hpt := pt_le (k := k) b1 b4
  unfold m_X3_returnOf b_X3_returnOf_30 b_X3_returnOf_46
  rw [s_isUnder, Option.bind_some, hp, Option.bind_some, Option.bind_some, a0, a2]
  have e2 : nI d / (2 : Int32) = nI (d / 2) := by rw [show (2 : Int32) = nI 2 from rfl, pk_div (by omega) (by decide) (by decide)]
  rw [e2, x_ret s (d / 2) _ hs (by omega) hpt, x_ret s d _ hs b2 hpt]
  have k1 : (nI k = 1) ↔ k = 1 := by rw [show (1 : Int32) = nI 1 from rfl, nI_eq (by omega) (by omega)]
  have k3 : (nI k = 3) ↔ k = 3 := by rw [show (3 : Int32) = nI 3 from rfl, nI_eq (by omega) (by omega)]
  have eb : (bI (nI k = 1 ∨ (1 : Int32) = 0 ∨ (nI k = 3 ∧ (1 : Int32) = 1) ∨ (nI k = 4 ∧ (1 : Int32) = 2)) = 0) ↔ ¬ (k = 1 ∨ k = 3) := by
    rw [bI_0, k1, k3]
    constructor
    · intro hh c; exact hh (c.elim Or.inl (fun c => Or.inr (Or.inr (Or.inl ⟨c, rfl⟩))))
    · intro hh c
      rcases c with c | c | c | c
      · exact hh (Or.inl c)
      · exact absurd c (by decide)
      · exact hh (Or.inr c.1)
      · exact absurd c.2 (by decide)
  unfold rt
  by_cases c3 : k = 3
  · rw [if_pos (k3.mpr c3), if_neg (fun e => (eb.mp e) (Or.inr c3)), if_neg (fun e => e.1 (Or.inr c3)), if_pos c3]
    rfl
  · rw [if_neg (fun e => c3 (k3.mp e))]
    by_cases c1 : k = 1
    · rw [if_neg (fun e => (eb.mp e) (Or.inl c1)), if_neg (fun e => e.1 (Or.inl c1)), if_neg c3]
      rfl
    · have cc : ¬ (k = 1 ∨ k = 3) := fun e => e.elim c1 c3
      rw [if_pos (eb.mpr cc)]
      by_cases c7 : (s + d) % 7 = 0
      · rw [if_pos ((x_7 s d hs b2).mpr c7), if_pos ⟨cc, c7⟩]
        rfl
      · rw [if_neg (fun e => c7 ((x_7 s d hs b2).mp e)), if_neg (fun e => c7 e.2), if_neg c3]
        rfl
theorem ro_none (o : Option Nat) (h : ∀ x, o = some x → x < 40) : ro o = -1 ↔ o = none := by
  cases o with
  | none => exact ⟨fun _ => rfl, fun _ => rfl⟩
  | some x =>
    have := h x rfl
    refine ⟨fun e => ?_, fun e => by cases e⟩
    have e2 : (nI x).toInt = (-1 : Int32).toInt := congrArg Int32.toInt e
    rw [nI_toInt (by omega)] at e2
    have : (-1 : Int32).toInt = -1 := by decide
    omega
theorem inb_n {n N : Nat} (h : n < N) (hN : N < 2 ^ 31) : inb (nI n) N := vp_in_nI h hN
theorem w_0n {n m : Nat} (h : n ≤ m) (hm : m < 2 ^ 31) : (0 : Int32) ≤ nI n ∧ nI n ≤ nI m := ⟨nI_le (a := 0) (Nat.zero_le _) (by omega), nI_le h hm⟩
theorem s_hearBack {fu : Nat} {t h : Nat → Int32} {k p d r y w q s : Nat} {l : List Nat} (T : TR t k p d r y w q) (hs : s < 40) (hc : t 8 = nI l.length) (hb : Bf h l) (hl : l.length < 13) :
    ∃ t' h', m_X3_hearBack fu t h (nI s) = some (t', h') ∧ SB t t' ∧ t' 8 = nI (l ++ (rt k (pt k p y) d s).toList).length ∧ Bf h' (l ++ (rt k (pt k p y) d s).toList) := by
  unfold m_X3_hearBack b_X3_hearBack_44
  rw [s_returnOf T hs, Option.bind_some]
  cases e : rt k (pt k p y) d s with
  | none =>
    exact ⟨t, h, by dsimp only; rw [if_pos (show ro none = -1 from rfl)], SB.rf, by simpa using hc, by simpa using hb⟩
  | some x =>
    have hx := rt_lt e
    have hne : ¬ ro (some x) = -1 := fun e2 => by have := (ro_none (some x) (fun z hz => by cases hz; exact hx)).mp e2; cases this
    have hw : (0 : Int32) ≤ t 8 ∧ t 8 ≤ (12 : Int32) := by rw [hc]; exact w_0n (m := 12) (by omega) (by decide)
    refine ⟨upd t 8 (t 8 + 1), upd h (t 8).toNatClampNeg (nI x), ?_, SB.up, ?_, ?_⟩
    · rw [if_neg hne, s_isWithin, Option.bind_some, bI_t hw, if_neg (by decide), gd_t (by rw [hc]; exact inb_n hl (by decide))]
      rfl
    · rw [pk_us, hc]
      simp only [Option.toList_some, List.length_append, List.length_cons, List.length_nil]
      exact nI_1 _
    · rw [hc, nI_clamp (by omega)]
      exact Bf_push hb
theorem s_soundAt {fu : Nat} {f g : Nat → Int32} {l : List Nat} {i x : Nat} (W : WD f g l) (hx : l[i]? = some x) : m_X4_soundAt fu f g (nI i) = some (nI x, ()) := by
  obtain ⟨h1, h2, h3, -⟩ := W
  have hi : i < l.length := (List.getElem?_eq_some_iff.mp hx).1
  unfold m_X4_soundAt b_X4_soundAt_27 b_X4_soundAt_28
  rw [if_neg (by rw [h1]; exact nI_ge hi (by omega)), s_isWithin, Option.bind_some, bI_t (show (0 : Int32) ≤ nI i ∧ nI i ≤ (11 : Int32) from w_0n (m := 11) (by omega) (by decide)), if_neg (by decide), gd_t (inb_n (by omega) (by decide)), nI_clamp (by omega), h3 i x hx]
theorem s_turnRound {fu : Nat} {t h : Nat → Int32} {l : List Nat} (hfu : 5000 ≤ fu) (hc : t 8 = nI l.length) (hl : l.length ≤ 13) (hb : Bf h l) : ∃ h', m_X3_turnRound fu t h = some h' ∧ Bf h' l.reverse := by
  unfold m_X3_turnRound
  refine lf (b_X3_turnRound_2 fu t) (fun i x => x.1 = nI i ∧ RV l.length l i x.2) (l.length / 2) (fun o => ∃ h', o = some h' ∧ Bf h' l.reverse) ?_ ?_ fu 0 _ (Nat.zero_le _) (by omega) ⟨rfl, RV_0 hb⟩
  · rintro i ⟨x1, x2⟩ kk hi ⟨e1, e2⟩
    dsimp only at e1 e2
    subst e1
    refine Or.inl ⟨(nI (i + 1), upd (upd x2 i (x2 (l.length - 1 - i))) (l.length - 1 - i) (x2 i)), ⟨rfl, RV_step rfl hi e2⟩, ?_⟩
    unfold b_X3_turnRound_2 b_X3_turnRound_63
    dsimp only
    have e3 : (t 8 - (1 : Int32)) - nI i = nI (l.length - 1 - i) := by rw [hc, show (1 : Int32) = nI 1 from rfl, pk_sub (by omega), pk_sub (by omega)]
    have e4 : t 8 / (2 : Int32) = nI (l.length / 2) := by rw [hc, show (2 : Int32) = nI 2 from rfl, pk_div (by omega) (by decide) (by decide)]
    rw [e4, if_neg (nI_ge hi (by omega)), if_neg (by rw [show (6 : Int32) = nI 6 from rfl]; exact nI_ge (by omega) (by decide)), e3, s_isWithin, Option.bind_some, bI_t (show (0 : Int32) ≤ nI (l.length - 1 - i) ∧ nI (l.length - 1 - i) ≤ (12 : Int32) from w_0n (m := 12) (by omega) (by decide)), if_neg (by decide), gd_t (inb_n (by omega) (by decide)), gd_t (inb_n (by omega) (by decide)), gd_t (inb_n (by omega) (by decide)), gd_t (inb_n (by omega) (by decide)), nI_clamp (by omega), nI_clamp (by omega), nI_1]
  · rintro ⟨x1, x2⟩ kk ⟨e1, e2⟩
    dsimp only at e1 e2
    subst e1
    refine ⟨x2, ?_, RV_end e2⟩
    unfold b_X3_turnRound_2 b_X3_turnRound_69
    dsimp only
    have e4 : t 8 / (2 : Int32) = nI (l.length / 2) := by rw [hc, show (2 : Int32) = nI 2 from rfl, pk_div (by omega) (by decide) (by decide)]
    rw [e4, if_pos (nI_le (Nat.le_refl _) (by omega))]
