-- PURE 24: odds by rains
def su (h : Nat → Nat) : Nat → Nat
  | 0 => 0
  | n + 1 => su h n + h n
theorem su_s {h : Nat → Nat} {n : Nat} : su h (n + 1) = su h n + h n := rfl
theorem su_add {f g : Nat → Nat} : ∀ n, su (fun i => f i + g i) n = su f n + su g n := by
  intro n
  induction n with
  | zero => rfl
  | succ n ih => rw [su_s, su_s, su_s, ih]; omega
theorem su_mul {f : Nat → Nat} {c : Nat} : ∀ n, su (fun i => c * f i) n = c * su f n := by
  intro n
  induction n with
  | zero => rfl
  | succ n ih => rw [su_s, su_s, ih, Nat.mul_add]
theorem su_c {f g : Nat → Nat} : ∀ n, (∀ i, i < n → f i = g i) → su f n = su g n := by
  intro n
  induction n with
  | zero => intro _; rfl
  | succ n ih => intro h; rw [su_s, su_s, ih (fun i hi => h i (by omega)), h n (by omega)]
theorem su_le {f : Nat → Nat} : ∀ n i, i < n → f i ≤ su f n := by
  intro n
  induction n with
  | zero => intro i hi; omega
  | succ n ih =>
    intro i hi
    rw [su_s]
    rcases Nat.lt_or_ge i n with c | c
    · have := ih i c; omega
    · have : i = n := by omega
      subst this; omega
theorem su_0 : ∀ n, su (fun _ => 0) n = 0 := by
  intro n
  induction n with
  | zero => rfl
  | succ n ih => rw [su_s, ih]
/-- one place counted up -/
theorem su_up {W h : Nat → Nat} {e a : Nat} : ∀ n, e < n → su (fun i => (if i = e then W i + a else W i) * h i) n = su (fun i => W i * h i) n + a * h e := by
  intro n
  induction n with
  | zero => intro q; omega
  | succ n ih =>
    intro hn
    rw [su_s, su_s]
    rcases Nat.lt_or_ge e n with c | c
    · rw [ih c, if_neg (by omega)]; omega
    · have : e = n := by omega
      subst this
      have e1 : su (fun i => (if i = e then W i + a else W i) * h i) e = su (fun i => W i * h i) e := su_c e (fun i hi => by rw [if_neg (by omega)])
      rw [e1, if_pos rfl, Nat.add_mul]
      omega
/-- all that rain may bring in t days -/
def fs (g : Nat → Nat) : Nat → Nat → Nat
  | 0, d => g d
  | t + 1, d => su (fun r => fs g t (dn d r)) 10
theorem fs_s {g : Nat → Nat} {t d : Nat} : fs g (t + 1) d = su (fun r => fs g t (dn d r)) 10 := rfl
theorem fs_c {g : Nat → Nat} : ∀ t d, fs (fun e => su (fun r => g (dn e r)) 10) t d = fs g (t + 1) d := by
  intro t
  induction t with
  | zero => intro d; rfl
  | succ t ih =>
    intro d
    rw [fs_s, fs_s (t := t + 1)]
    exact su_c 10 (fun r _ => ih (dn d r))
theorem fs_one : ∀ t d, fs (fun _ => 1) t d = 10 ^ t := by
  intro t
  induction t with
  | zero => intro d; rfl
  | succ t ih =>
    intro d
    rw [fs_s, su_c (g := fun _ => 10 ^ t * 1) 10 (fun r _ => by rw [ih, Nat.mul_one]), su_mul, Nat.pow_succ]
    rfl
theorem fs_le {g : Nat → Nat} {c : Nat} (h : ∀ d, g d ≤ c) : ∀ t d, fs g t d ≤ c * 10 ^ t := by
  intro t
  induction t with
  | zero => intro d; rw [Nat.pow_zero, Nat.mul_one]; exact h d
  | succ t ih =>
    intro d
    have h2 : ∀ n, su (fun r => fs g t (dn d r)) n ≤ n * (c * 10 ^ t) := by
      intro n
      induction n with
      | zero => exact Nat.zero_le _
      | succ n ihn =>
        rw [su_s, Nat.succ_mul]
        have := ih (dn d n)
        omega
    have h3 := h2 10
    rw [fs_s, Nat.pow_succ, ← Nat.mul_assoc, Nat.mul_comm (c * 10 ^ t) 10]
    exact h3
/-- ways, by depth -/
def WY (ways : Nat → Int32) (W : Nat → Nat) : Prop := ∀ i, i < 41 → ways i = nI (W i)
theorem inb41 {i : Nat} (h : i < 41) : inb (nI i) 41 := inb_n h (by decide)
theorem s_spread {fu d t0 : Nat} {t ways wt : Nat → Int32} {W : Nat → Nat} (hfu : 5000 ≤ fu) (hW : WY ways W) (hU : ∀ h : Nat → Nat, su (fun i => W i * h i) 41 = fs h t0 d) :
    ∃ ways' wt' W', m_X5_spreadWays fu t ways wt = some (ways', wt') ∧ WY ways' W' ∧ ∀ h : Nat → Nat, su (fun i => W' i * h i) 41 = fs h (t0 + 1) d := by
  obtain ⟨p1, a1, a2⟩ := s_fillI (fu := fu) (n := 41) (p0 := wt) (v := 0) hfu (by decide)
  unfold m_X5_spreadWays
  rw [a1, Option.bind_some]
  refine lf (b_X5_spreadWays_10 fu t) (fun i x => x.1 = nI i ∧ x.2.1 = ways ∧ ∃ V, WY x.2.2 V ∧ ∀ h : Nat → Nat, su (fun e => V e * h e) 41 = su (fun e => W e * su (fun r => h (dn e r)) 10) i) 41 (fun o => ∃ ways' wt' W', o = some (ways', wt') ∧ WY ways' W' ∧ ∀ h : Nat → Nat, su (fun i => W' i * h i) 41 = fs h (t0 + 1) d) ?_ ?_ fu 0 _ (Nat.zero_le _) (by omega) ⟨rfl, rfl, fun _ => 0, a2, fun h => by rw [su_c (g := fun _ => 0) 41 (fun i _ => Nat.zero_mul _), su_0]; rfl⟩
  · rintro i ⟨x1, x2, x3⟩ k hi ⟨e1, e2, V, e3, e4⟩
    dsimp only at e1 e2 e3 e4
    subst e1 e2
    left
    have A : ∃ x3' V', b_X5_spreadWays_10 fu t k (nI i, x2, x3) = k (nI (i + 1), x2, x3') ∧ WY x3' V' ∧ ∀ h : Nat → Nat, su (fun e => V' e * h e) 41 = su (fun e => V e * h e) 41 + W i * su (fun r => h (dn i r)) 10 := by
      unfold b_X5_spreadWays_10
      dsimp only
      rw [if_neg (show ¬ (40 : Int32) < nI i from nI_nlt (a := 40) (by omega) (by decide))]
      refine lf (b_X5_spreadWays_18 fu t k) (fun r x => x.1 = nI i ∧ x.2.1 = nI r ∧ x.2.2.1 = x2 ∧ ∃ V', WY x.2.2.2 V' ∧ ∀ h : Nat → Nat, su (fun e => V' e * h e) 41 = su (fun e => V e * h e) 41 + W i * su (fun r => h (dn i r)) r) 10 (fun o => ∃ x3' V', o = k (nI (i + 1), x2, x3') ∧ WY x3' V' ∧ ∀ h : Nat → Nat, su (fun e => V' e * h e) 41 = su (fun e => V e * h e) 41 + W i * su (fun r => h (dn i r)) 10) ?_ ?_ fu 0 _ (Nat.zero_le _) (by omega) ⟨rfl, rfl, rfl, V, e3, fun h => rfl⟩
      · rintro r ⟨y1, y2, y3, y4⟩ k2 hr ⟨f1, f2, f3, V', f4, f5⟩
        dsimp only at f1 f2 f3 f4 f5
        subst f1 f2 f3
        have hd := dn_le (d := i) (r := r)
        left
        unfold b_X5_spreadWays_18 b_X5_spreadWays_55
        dsimp only
        rw [if_neg (show ¬ (9 : Int32) < nI r from nI_nlt (a := 9) (by omega) (by decide)), s_depthBehind (by omega) (by omega), Option.bind_some, s_isWithin, Option.bind_some]
        dsimp only
        rw [bI_t (show (0 : Int32) ≤ nI (dn i r) ∧ nI (dn i r) ≤ (40 : Int32) from w_0n (m := 40) hd (by decide)), if_neg n10, gd_t (inb41 (by omega)), gd_t (inb41 (by omega)), gd_t (inb41 (by omega)), nI_clamp (show dn i r < 2 ^ 31 by omega), nI_clamp (show i < 2 ^ 31 by omega), f4 _ (by omega), hW i hi, nI_add, nI_1]
        refine ⟨(nI i, nI (r + 1), y3, upd y4 (dn i r) (nI (V' (dn i r) + W i))), ⟨rfl, rfl, rfl, fun e => if e = dn i r then V' e + W i else V' e, fun e he => ?_, fun h => ?_⟩, rfl⟩
        · show upd y4 (dn i r) (nI (V' (dn i r) + W i)) e = nI (if e = dn i r then V' e + W i else V' e)
          by_cases c : e = dn i r
          · rw [if_pos c, c]; exact pk_us
          · rw [if_neg c]; exact (pk_un c).trans (f4 e he)
        · show su (fun e => (if e = dn i r then V' e + W i else V' e) * h e) 41 = _
          rw [su_up 41 (by omega), f5, su_s (h := fun r => h (dn i r)) (n := r), Nat.mul_add]
          omega
      · rintro ⟨y1, y2, y3, y4⟩ k2 ⟨f1, f2, f3, V', f4, f5⟩
        dsimp only at f1 f2 f3 f4 f5
        subst f1 f2 f3
        unfold b_X5_spreadWays_18
        dsimp only
        rw [if_pos (show (9 : Int32) < nI 10 by decide), nI_1]
        exact ⟨y4, V', rfl, f4, f5⟩
    obtain ⟨x3', V', b1, b2, b3⟩ := A
    refine ⟨(nI (i + 1), x2, x3'), ⟨rfl, rfl, V', b2, fun h => ?_⟩, b1⟩
    rw [b3, e4]
    exact (su_s (h := fun e => W e * su (fun r => h (dn e r)) 10) (n := i)).symm
  · rintro ⟨x1, x2, x3⟩ k ⟨e1, e2, V, e3, e4⟩
    dsimp only at e1 e2 e3 e4
    subst e1 e2
    unfold b_X5_spreadWays_10
    dsimp only
    rw [if_pos (show (40 : Int32) < nI 41 by decide), gd_t (by decide)]
    refine ⟨_, _, V, rfl, fun i hi => ?_, fun h => ?_⟩
    · rw [show (0 : Int32).toNatClampNeg = 0 from rfl, show (41 : Int32).toNatClampNeg = 41 from rfl]
      refine Eq.trans ?_ (e3 i hi)
      simp [va_cpy, hi]
    · rw [e4, hU, fs_c]
theorem s_waysToYes {fu k p d r y w q : Nat} {t tr th f g ways : Nat → Int32} {W : Nat → Nat} {l : List Nat} (hfu : 5000 ≤ fu) (T : TR tr k p d r y w q) (Wd : WD f g l) (hW : WY ways W) (hb : ∀ i, i < 41 → W i < 2 ^ 31) :
    ∃ t' h', m_X5_waysToYes fu t tr th f g ways = some (nI (su (fun i => W i * (if wg k (pt k p y) i w q l = 1 then 1 else 0)) 41), (t', h')) := by
  unfold m_X5_waysToYes
  refine lf (b_X5_waysToYes_4 fu t f g ways) (fun i x => x.1 = nI (su (fun i => W i * (if wg k (pt k p y) i w q l = 1 then 1 else 0)) i) ∧ x.2.1 = nI i ∧ ∃ d', TR x.2.2.1 k p d' r y w q) 41 (fun o => ∃ t' h', o = some (nI (su (fun i => W i * (if wg k (pt k p y) i w q l = 1 then 1 else 0)) 41), (t', h'))) ?_ ?_ fu 0 _ (Nat.zero_le _) (by omega) ⟨rfl, rfl, d, T⟩
  · rintro i ⟨x1, x2, x3, x4⟩ k2 hi ⟨e1, e2, d', e3⟩
    dsimp only at e1 e2 e3
    subst e1 e2
    have T2 := e3.depth (d' := i) (by omega)
    have hwi : ways (nI i).toNatClampNeg = nI (W i) := by rw [nI_clamp (by omega)]; exact hW i hi
    left
    unfold b_X5_waysToYes_4 b_X5_waysToYes_51
    dsimp only
    rw [if_neg (show ¬ (40 : Int32) < nI i from nI_nlt (a := 40) (by omega) (by decide)), gd_t (inb41 hi)]
    by_cases c0 : W i = 0
    · rw [if_pos (show ways (nI i).toNatClampNeg ≤ 0 by rw [hwi, c0]; decide), nI_1]
      refine ⟨_, ?_, rfl⟩
      exact ⟨by show nI _ = nI _; rw [su_s, c0, Nat.zero_mul]; rfl, rfl, i, T2⟩
    · rw [if_neg (show ¬ ways (nI i).toNatClampNeg ≤ 0 by rw [hwi]; exact nI_nle (by omega) (hb i hi))]
      obtain ⟨t2, h2, a1, a2⟩ := s_weighs (fu := fu) (h := x4) hfu T2 Wd
      rw [a1, Option.bind_some, nI_1]
      dsimp only
      by_cases c : wg k (pt k p y) i w q l = 1
      · rw [if_pos c, gd_t (inb41 hi), hwi, nI_add]
        refine ⟨_, ?_, rfl⟩
        exact ⟨by rw [su_s, if_pos c, Nat.mul_one], rfl, i, T2.sb a2⟩
      · rw [if_neg c]
        refine ⟨_, ?_, rfl⟩
        exact ⟨by show nI _ = nI _; rw [su_s, if_neg c, Nat.mul_zero]; rfl, rfl, i, T2.sb a2⟩
  · rintro ⟨x1, x2, x3, x4⟩ k2 ⟨e1, e2, d', e3⟩
    dsimp only at e1 e2 e3
    subst e1 e2
    unfold b_X5_waysToYes_4
    dsimp only
    rw [if_pos (show (40 : Int32) < nI 41 by decide)]
    exact ⟨x3, x4, rfl⟩
theorem s_depthsOfWays {fu : Nat} {t ways : Nat → Int32} {W : Nat → Nat} (hfu : 5000 ≤ fu) (hW : WY ways W) : m_X5_depthsOfWays fu t ways = some (nI (su (fun i => W i * i) 41), ()) := by
  unfold m_X5_depthsOfWays
  refine lf (b_X5_depthsOfWays_4 fu t ways) (fun i x => x = (nI (su (fun i => W i * i) i), nI i)) 41 (fun o => o = some (nI (su (fun i => W i * i) 41), ())) ?_ ?_ fu 0 _ (Nat.zero_le _) (by omega) rfl
  · rintro i x k hi rfl
    left
    unfold b_X5_depthsOfWays_4
    dsimp only
    rw [if_neg (show ¬ (40 : Int32) < nI i from nI_nlt (a := 40) (by omega) (by decide)), gd_t (inb41 hi), nI_clamp (by omega), hW i hi, pk_mul, nI_add, nI_1]
    exact ⟨_, rfl, rfl⟩
  · rintro x k rfl
    unfold b_X5_depthsOfWays_4
    dsimp only
    rw [if_pos (show (40 : Int32) < nI 41 by decide)]
/-- the reference fans out -/
def FX (m m' : Nat → Int32) : Prop := ∀ j, j ≠ 9 → j ≠ 10 → j ≠ 11 → j ≠ 33 → m' j = m j
theorem FX.tr {a b c : Nat → Int32} (h : FX a b) (h2 : FX b c) : FX a c := fun j q1 q2 q3 q4 => (h2 j q1 q2 q3 q4).trans (h j q1 q2 q3 q4)
theorem FX.mt {m m' mk mp : Nat → Int32} {v k p d y w q d' y' : Nat} (h : FX m m') (T : MT m mk mp v k p d y w q) (h9 : m' 9 = nI d') (hd : d' ≤ 40) (h11 : m' 11 = nI y') (hy : y' ≤ 9999) : MT m' mk mp v k p d' y' w q := by
  obtain ⟨b0, b1, b2, b3, b4, b5, b6, b7, b8, b9, b10, b11, b12, b13⟩ := T
  exact ⟨b0, b1, b2, h9, h11, (h 12 (by decide) (by decide) (by decide) (by decide)).trans b5, (h 13 (by decide) (by decide) (by decide) (by decide)).trans b6, b7, b8, hd, hy, b11, b12, b13⟩
theorem ity_c : ∀ t y, ity (dy y) t = ity y (t + 1) := by
  intro t
  induction t with
  | zero => intro y; rfl
  | succ t ih => intro y; show dy (ity (dy y) t) = dy (ity y (t + 1)); rw [ih]
def yg (k p y w q : Nat) (l : List Nat) : Nat → Nat := fun d => if wg k (pt k p y) d w q l = 1 then 1 else 0
theorem s_fans {fu v k p w q : Nat} {mk mp mw : Nat → Int32} {l : List Nat} (hfu : 5000 ≤ fu) : ∀ (t D : Nat) (m mh : Nat → Int32) (L : Nat → Int64) (d y : Nat), t < D → t ≤ 100 → MT m mk mp v k p d y w q → WM m mw l →
    ∃ m' L' h', lfix (F_X6_fans fu mk mp mw) D (m, L, mh, nI v, nI t) = some (m', L', h') ∧ FX m m' ∧ L' 38 = L 38 + lN (fs (yg k p (ity y t) w q l) t d) ∧ L' 39 = L 39 + lN (fs (fun d => d) t d) := by
  intro t
  induction t with
  | zero =>
    intro D m mh L d y hD _ T Wd
    obtain ⟨D', rfl⟩ : ∃ D', D = D' + 1 := ⟨D - 1, by omega⟩
    show ∃ m' L' h', G_X6_fans fu mk mp mw (lfix (F_X6_fans fu mk mp mw) D') m L mh (nI v) (nI 0) = some (m', L', h') ∧ _
    obtain ⟨m2, h2, a1, a2⟩ := s_gets (fu := fu) (mL := L) (h := mh) hfu T Wd
    have hm9 : m2 9 = nI d := (a2 9 (by decide)).trans T.2.2.2.1
    have hd := T.2.2.2.2.2.2.2.2.2.1
    unfold G_X6_fans b_X6_fans_22
    rw [if_pos (show nI 0 = 0 from rfl), a1, Option.bind_some]
    dsimp only
    rw [hm9, nI_l (by omega)]
    have n39 : (39 : Nat) ≠ 38 := by decide
    by_cases c : wg k (pt k p y) d w q l = 1
    · rw [bI_t c, if_neg n10]
      refine ⟨_, _, _, rfl, fun j q1 q2 q3 q4 => a2 j q4, ?_, ?_⟩
      · show L 38 + 1 = L 38 + lN (fs (yg k p y w q l) 0 d)
        rw [show fs (yg k p y w q l) 0 d = 1 from if_pos c]; rfl
      · rfl
    · rw [bI_f c, if_pos p00]
      refine ⟨_, _, _, rfl, fun j q1 q2 q3 q4 => a2 j q4, ?_, ?_⟩
      · show L 38 + 0 = L 38 + lN (fs (yg k p y w q l) 0 d)
        rw [show fs (yg k p y w q l) 0 d = 0 from if_neg c]; rfl
      · rfl
  | succ t ih =>
    intro D m mh L d y hD ht T Wd
    obtain ⟨D', rfl⟩ : ∃ D', D = D' + 1 := ⟨D - 1, by omega⟩
    show ∃ m' L' h', G_X6_fans fu mk mp mw (lfix (F_X6_fans fu mk mp mw) D') m L mh (nI v) (nI (t + 1)) = some (m', L', h') ∧ _
    have hrc := fun (m mh : Nat → Int32) (L : Nat → Int64) (d y : Nat) => ih D' m mh L d y (by omega) (by omega)
    generalize lfix (F_X6_fans fu mk mp mw) D' = rc at hrc ⊢
    have h9 : m 9 = nI d := T.2.2.2.1
    have h11 : m 11 = nI y := T.2.2.2.2.1
    have hd40 : d ≤ 40 := T.2.2.2.2.2.2.2.2.2.1
    have hy : y ≤ 9999 := T.2.2.2.2.2.2.2.2.2.2.1
    unfold G_X6_fans
    rw [if_neg (nI_ne0 (by omega) (by omega)), h9, h11]
    refine lf (b_X6_fans_55 fu mk mp mw rc) (fun r x => x.1 = nI v ∧ x.2.1 = nI (t + 1) ∧ x.2.2.1 = nI d ∧ x.2.2.2.1 = nI y ∧ x.2.2.2.2.1 = nI r ∧ (FX m x.2.2.2.2.2.1 ∧ x.2.2.2.2.2.1 9 = nI d ∧ x.2.2.2.2.2.1 11 = nI y) ∧ x.2.2.2.2.2.2.1 38 = L 38 + lN (su (fun r => fs (yg k p (ity y (t + 1)) w q l) t (dn d r)) r) ∧ x.2.2.2.2.2.2.1 39 = L 39 + lN (su (fun r => fs (fun d => d) t (dn d r)) r)) 10 (fun o => ∃ m' L' h', o = some (m', L', h') ∧ FX m m' ∧ L' 38 = L 38 + lN (fs (yg k p (ity y (t + 1)) w q l) (t + 1) d) ∧ L' 39 = L 39 + lN (fs (fun d => d) (t + 1) d)) ?_ ?_ fu 0 _ (Nat.zero_le _) (by omega) ⟨rfl, rfl, rfl, rfl, rfl, ⟨fun _ _ _ _ _ => rfl, h9, h11⟩, (Int64.add_zero _).symm, (Int64.add_zero _).symm⟩
    · rintro r ⟨x1, x2, x3, x4, x5, x6, x7, x8⟩ k2 hr ⟨e1, e2, e3, e4, e5, ⟨f1, f2, f3⟩, e6, e7⟩
      dsimp only at e1 e2 e3 e4 e5 f1 f2 f3 e6 e7
      subst e1 e2 e3 e4 e5
      have hp : m_X6_passes fu (upd x6 10 (nI r)) x7 = some (upd (upd (upd x6 10 (nI r)) 9 (nI (dn d r))) 11 (nI (dy y))) := s_passes ((pk_un (by decide)).trans f2) hd40 pk_us (by omega) ((pk_un (by decide)).trans f3) hy
      have g1 : FX m (upd (upd (upd x6 10 (nI r)) 9 (nI (dn d r))) 11 (nI (dy y))) := fun j q1 q2 q3 q4 => (pk_un q3).trans ((pk_un q1).trans ((pk_un q2).trans (f1 j q1 q2 q3 q4)))
      have T2 : MT (upd (upd (upd x6 10 (nI r)) 9 (nI (dn d r))) 11 (nI (dy y))) mk mp v k p (dn d r) (dy y) w q := g1.mt T ((pk_un (by decide)).trans pk_us) dn_le pk_us dy_le
      have W2 : WM (upd (upd (upd x6 10 (nI r)) 9 (nI (dn d r))) 11 (nI (dy y))) mw l := ⟨(g1 31 (by decide) (by decide) (by decide) (by decide)).trans Wd.1, Wd.2⟩
      obtain ⟨m3, L3, h3, b1, b2, b3, b4⟩ := hrc _ x8 x7 _ _ T2 W2
      rw [ity_c] at b3
      have hI : FX m (upd (upd m3 9 (nI d)) 11 (nI y)) ∧ upd (upd m3 9 (nI d)) 11 (nI y) 9 = nI d ∧ upd (upd m3 9 (nI d)) 11 (nI y) 11 = nI y := ⟨fun j q1 q2 q3 q4 => (pk_un q3).trans ((pk_un q1).trans ((b2 j q1 q2 q3 q4).trans (g1 j q1 q2 q3 q4))), (pk_un (by decide)).trans pk_us, pk_us⟩
      have j1 : L3 38 = L 38 + lN (su (fun r => fs (yg k p (ity y (t + 1)) w q l) t (dn d r)) (r + 1)) := by rw [b3, e6, Int64.add_assoc, lN_add, su_s]
      have j2 : L3 39 = L 39 + lN (su (fun r => fs (fun d => d) t (dn d r)) (r + 1)) := by rw [b4, e7, Int64.add_assoc, lN_add, su_s]
      left
      unfold b_X6_fans_55
      dsimp only
      rw [if_neg (show ¬ (9 : Int32) < nI r from nI_nlt (a := 9) (by omega) (by decide)), hp, Option.bind_some, nI_pred, b1, Option.bind_some, nI_1]
      refine ⟨_, ?_, rfl⟩
      exact ⟨rfl, rfl, rfl, rfl, rfl, hI, j1, j2⟩
    · rintro ⟨x1, x2, x3, x4, x5, x6, x7, x8⟩ k2 ⟨e1, e2, e3, e4, e5, ⟨f1, f2, f3⟩, e6, e7⟩
      dsimp only at e1 e2 e3 e4 e5 f1 f2 f3 e6 e7
      subst e1 e2 e3 e4 e5
      unfold b_X6_fans_55
      dsimp only
      rw [if_pos (show (9 : Int32) < nI 10 by decide)]
      exact ⟨_, _, _, rfl, f1, e6, e7⟩
theorem odd_d {A t Y : Nat} (ht : t ≤ 3) (hA : A = 1000 ∨ A = 1000000) : A * Y / 10 ^ t = A / 10 ^ t * Y := by
  rcases (show t = 0 ∨ t = 1 ∨ t = 2 ∨ t = 3 by omega) with rfl | rfl | rfl | rfl <;> rcases hA with rfl | rfl <;> omega
