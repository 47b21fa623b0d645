-- PURE 22: what to shout next
def co (o : Option Nat) : Nat := match o with | none => 40 | some x => x
theorem ro_co {o o' : Option Nat} (h : ∀ x, o = some x → x < 40) (h' : ∀ x, o' = some x → x < 40) : ro o = ro o' ↔ co o = co o' := by
  cases o with
  | none => cases o' with
    | none => exact ⟨fun _ => rfl, fun _ => rfl⟩
    | some x =>
      have hx := h' x rfl
      exact ⟨fun e => absurd e.symm (nI_m1 (by omega)), fun e => by have e2 : (40 : Nat) = x := e; omega⟩
  | some x =>
    have hx := h x rfl
    cases o' with
    | none => exact ⟨fun e => absurd e (nI_m1 (by omega)), fun e => by have e2 : x = 40 := e; omega⟩
    | some x' =>
      have hx' := h' x' rfl
      exact nI_eq (by omega) (by omega)
/-- as many as are in one part, among the first i -/
def cn (F : Nat → Bool) (c : Nat → Nat) (i b : Nat) : Nat := cnt (fun e => F e && decide (c e = b)) i
theorem cn_s {F : Nat → Bool} {c : Nat → Nat} {i b : Nat} : cn F c (i + 1) b = if F i = true ∧ c i = b then cn F c i b + 1 else cn F c i b := by
  unfold cn
  by_cases h : F i = true ∧ c i = b
  · rw [if_pos h, cnt_t (by show (F i && decide (c i = b)) = true; rw [h.1, decide_eq_true h.2]; rfl)]
  · rw [if_neg h, cnt_f (by
      show ¬ (F i && decide (c i = b)) = true
      intro q
      rw [Bool.and_eq_true] at q
      exact h ⟨q.1, of_decide_eq_true q.2⟩)]
theorem cn_le {F : Nat → Bool} {c : Nat → Nat} {i b : Nat} : cn F c i b ≤ i := cnt_le i
def mx (F : Nat → Bool) (c : Nat → Nat) : Nat → Nat
  | 0 => 0
  | n + 1 => if F n = true then max (mx F c n) (cn F c (n + 1) (c n)) else mx F c n
theorem mx_s {F : Nat → Bool} {c : Nat → Nat} {n : Nat} : mx F c (n + 1) = if F n = true then max (mx F c n) (cn F c (n + 1) (c n)) else mx F c n := rfl
def wsb (F : Nat → Bool) (c : Nat → Nat) : Nat → Nat
  | 0 => 0
  | n + 1 => max (wsb F c n) (if F n = true then cn F c 41 (c n) else 0)
theorem wsb_s {F : Nat → Bool} {c : Nat → Nat} {n : Nat} : wsb F c (n + 1) = max (wsb F c n) (if F n = true then cn F c 41 (c n) else 0) := rfl
theorem mx_ge {F : Nat → Bool} {c : Nat → Nat} : ∀ n b, cn F c n b ≤ mx F c n := by
  intro n
  induction n with
  | zero => intro b; exact Nat.le_refl _
  | succ n ih =>
    intro b
    rw [mx_s]
    by_cases h : F n = true ∧ c n = b
    · rw [if_pos h.1, ← h.2]; omega
    · have e : cn F c (n + 1) b = cn F c n b := by rw [cn_s, if_neg h]
      have := ih b
      rw [e]
      split <;> omega
theorem cn_mono {F : Nat → Bool} {c : Nat → Nat} {b : Nat} : ∀ k n, cn F c n b ≤ cn F c (n + k) b := by
  intro k
  induction k with
  | zero => intro n; exact Nat.le_refl _
  | succ k ih =>
    intro n
    have h1 := ih n
    have h2 : cn F c (n + (k + 1)) b = if F (n + k) = true ∧ c (n + k) = b then cn F c (n + k) b + 1 else cn F c (n + k) b := cn_s
    rw [h2]
    split <;> omega
theorem mx_le {F : Nat → Bool} {c : Nat → Nat} : ∀ n, n ≤ 41 → mx F c n ≤ wsb F c n := by
  intro n
  induction n with
  | zero => intro _; exact Nat.le_refl _
  | succ n ih =>
    intro hn
    have h1 := ih (by omega)
    rw [mx_s, wsb_s]
    by_cases h : F n = true
    · rw [if_pos h, if_pos h]
      have h2 := cn_mono (F := F) (c := c) (b := c n) (41 - (n + 1)) (n + 1)
      rw [show n + 1 + (41 - (n + 1)) = 41 by omega] at h2
      omega
    · rw [if_neg h, if_neg h]; omega
theorem wsb_le {F : Nat → Bool} {c : Nat → Nat} : ∀ n, wsb F c n ≤ mx F c 41 := by
  intro n
  induction n with
  | zero => exact Nat.zero_le _
  | succ n ih =>
    rw [wsb_s]
    have h := mx_ge (F := F) (c := c) 41 (c n)
    split <;> omega
theorem mx_wsb {F : Nat → Bool} {c : Nat → Nat} : mx F c 41 = wsb F c 41 := Nat.le_antisymm (mx_le 41 (Nat.le_refl _)) (wsb_le 41)
theorem mx_b {F : Nat → Bool} {c : Nat → Nat} : ∀ n, mx F c n ≤ n := by
  intro n
  induction n with
  | zero => exact Nat.le_refl _
  | succ n ih =>
    rw [mx_s]
    have := cn_le (F := F) (c := c) (i := n + 1) (b := c n)
    split <;> omega
theorem wsb_b {F : Nat → Bool} {c : Nat → Nat} (n : Nat) : wsb F c n ≤ 41 := Nat.le_trans (wsb_le n) (mx_b 41)
theorem s_fillI {fu n : Nat} {p0 : Nat → Int32} {v : Int32} (hfu : 5000 ≤ fu) (hn : n ≤ 1000) : ∃ p1, m_J7_fill_53178 fu n p0 v = some p1 ∧ ∀ i, i < n → p1 i = v := by
  unfold m_J7_fill_53178
  refine lf (b_J7_fill_53178_5 fu n) (fun i x => x.1 = v ∧ x.2.1 = nI i ∧ x.2.2.1 = nI n ∧ ∀ j, j < i → x.2.2.2 j = v) n (fun o => ∃ p1, o = some p1 ∧ ∀ i, i < n → p1 i = v) ?_ ?_ fu 0 _ (Nat.zero_le _) (by omega) ⟨rfl, rfl, rfl, fun j hj => absurd hj (by omega)⟩
  · rintro i ⟨x1, x2, x3, x4⟩ k hi ⟨e1, e2, e3, e4⟩
    dsimp only at e1 e2 e3 e4
    subst e1 e2 e3
    left
    unfold b_J7_fill_53178_5
    dsimp only
    rw [if_neg (nI_ge hi (by omega)), gd_t (inb_n hi (by omega)), nI_clamp (by omega), nI_1]
    exact ⟨_, ⟨rfl, rfl, rfl, fun j hj => by
      show upd x4 i x1 j = x1
      by_cases c : j = i
      · subst c; exact pk_us
      · exact (pk_un c).trans (e4 j (by omega))⟩, rfl⟩
  · rintro ⟨x1, x2, x3, x4⟩ k ⟨e1, e2, e3, e4⟩
    dsimp only at e1 e2 e3 e4
    subst e1 e2 e3
    unfold b_J7_fill_53178_5
    dsimp only
    rw [if_pos (nI_le (Nat.le_refl _) (by omega))]
    exact ⟨_, rfl, e4⟩
theorem s_mostLeft {fu k p d r y w q s : Nat} {t tr parts : Nat → Int32} {F : Nat → Bool} (hfu : 5000 ≤ fu) (T : TR tr k p d r y w q) (hs : s < 40) :
    ∃ tr' parts' d', m_X5_mostLeftBehind fu t tr parts (nI s) (lN (bs F 41)) = some (nI (mx F (fun i => co (rt k (pt k p y) i s)) 41), (tr', parts')) ∧ TR tr' k p d' r y w q := by
  obtain ⟨p1, a1, a2⟩ := s_fillI (fu := fu) (n := 41) (p0 := parts) (v := 0) hfu (by decide)
  unfold m_X5_mostLeftBehind
  rw [a1, Option.bind_some]
  refine lf (b_X5_mostLeftBehind_14 fu t) (fun i x => x.1 = nI s ∧ x.2.1 = lN (bs F 41) ∧ x.2.2.1 = nI (mx F (fun i => co (rt k (pt k p y) i s)) i) ∧ x.2.2.2.1 = nI i ∧ (∃ d', TR x.2.2.2.2.1 k p d' r y w q) ∧ ∀ b, b < 41 → x.2.2.2.2.2 b = nI (cn F (fun i => co (rt k (pt k p y) i s)) i b)) 41 (fun o => ∃ tr' parts' d', o = some (nI (mx F (fun i => co (rt k (pt k p y) i s)) 41), (tr', parts')) ∧ TR tr' k p d' r y w q) ?_ ?_ fu 0 _ (Nat.zero_le _) (by omega) ⟨rfl, rfl, rfl, rfl, ⟨d, T⟩, a2⟩
  · rintro i ⟨x1, x2, x3, x4, x5, x6⟩ k2 hi ⟨u1, u2, u3, u4, ⟨d', u5⟩, u6⟩
    dsimp only at u1 u2 u3 u4 u5 u6
    subst u1 u2 u3 u4
    left
    unfold b_X5_mostLeftBehind_14 b_X5_mostLeftBehind_100
    dsimp only
    rw [if_neg (show ¬ (40 : Int32) < nI i from nI_nlt (a := 40) (by omega) (by decide)), s_isInB hi, Option.bind_some, nI_1]
    dsimp only
    by_cases c : F i = true
    · have T2 := u5.depth (d' := i) (by omega)
      rw [bI_t c, if_neg n10, s_returnOf T2 hs, Option.bind_some]
      dsimp only
      have hc40 : co (rt k (pt k p y) i s) < 41 := by
        cases e : rt k (pt k p y) i s with
        | none => show 40 < 41; decide
        | some z => have := rt_lt e; show z < 41; omega
      have e62 : ∀ s0 : Int32, s0 = nI (co (rt k (pt k p y) i s)) → b_X5_mostLeftBehind_62 fu t k2 (nI s) (lN (bs F 41)) (nI (mx F (fun i => co (rt k (pt k p y) i s)) i)) (nI i) s0 (upd x5 2 (nI i)) x6 = k2 (nI s, lN (bs F 41), nI (mx F (fun i => co (rt k (pt k p y) i s)) (i + 1)), nI (i + 1), upd x5 2 (nI i), upd x6 (co (rt k (pt k p y) i s)) (nI (cn F (fun i => co (rt k (pt k p y) i s)) (i + 1) (co (rt k (pt k p y) i s))))) := by
        rintro s0 rfl
        have i41 : inb (nI (co (rt k (pt k p y) i s))) 41 := inb_n hc40 (by decide)
        have hcl : (nI (co (rt k (pt k p y) i s))).toNatClampNeg = co (rt k (pt k p y) i s) := nI_clamp (by omega)
        have hcn : cn F (fun i => co (rt k (pt k p y) i s)) (i + 1) (co (rt k (pt k p y) i s)) = cn F (fun i => co (rt k (pt k p y) i s)) i (co (rt k (pt k p y) i s)) + 1 := by rw [cn_s, if_pos ⟨c, rfl⟩]
        have hb1 := cn_le (F := F) (c := fun i => co (rt k (pt k p y) i s)) (i := i + 1) (b := co (rt k (pt k p y) i s))
        have hb2 := mx_b (F := F) (c := fun i => co (rt k (pt k p y) i s)) i
        unfold b_X5_mostLeftBehind_62 b_X5_mostLeftBehind_100
        rw [s_isWithin, Option.bind_some, bI_t (show (0 : Int32) ≤ nI (co (rt k (pt k p y) i s)) ∧ nI (co (rt k (pt k p y) i s)) ≤ (40 : Int32) from w_0n (m := 40) (by omega) (by decide))]
        dsimp only
        rw [if_neg n10]
        simp only [gd_t i41, hcl, Option.bind_some, u6 _ hc40, pk_us, nI_1]
        rw [← hcn, mx_s, if_pos c]
        congr 1
        congr 1
        congr 1
        congr 1
        by_cases c3 : mx F (fun i => co (rt k (pt k p y) i s)) i < cn F (fun i => co (rt k (pt k p y) i s)) (i + 1) (co (rt k (pt k p y) i s))
        · rw [if_pos (nI_lt c3 (by omega)), Nat.max_eq_right (by omega)]
        · rw [if_neg (nI_nlt (by omega) (by omega)), Nat.max_eq_left (by omega)]
      refine ⟨(nI s, lN (bs F 41), nI (mx F (fun i => co (rt k (pt k p y) i s)) (i + 1)), nI (i + 1), upd x5 2 (nI i), upd x6 (co (rt k (pt k p y) i s)) (nI (cn F (fun i => co (rt k (pt k p y) i s)) (i + 1) (co (rt k (pt k p y) i s))))), ⟨rfl, rfl, rfl, rfl, ⟨i, T2⟩, fun b hb => ?_⟩, ?_⟩
      · show upd x6 (co (rt k (pt k p y) i s)) (nI (cn F (fun i => co (rt k (pt k p y) i s)) (i + 1) (co (rt k (pt k p y) i s)))) b = _
        by_cases cb : b = co (rt k (pt k p y) i s)
        · subst cb; exact pk_us
        · rw [pk_un cb, u6 b hb, cn_s, if_neg (fun q => cb q.2.symm)]
      · cases e : rt k (pt k p y) i s with
        | none =>
          rw [e] at e62
          rw [if_pos (show ro none = (-1 : Int32) from rfl)]
          exact e62 40 rfl
        | some z =>
          have hz := rt_lt e
          rw [e] at e62
          rw [if_neg (show ¬ ro (some z) = (-1 : Int32) from nI_m1 (by omega))]
          exact e62 _ rfl
    · rw [bI_f c, if_pos p00]
      exact ⟨(_, _, _, _, _, _), ⟨rfl, rfl, by rw [mx_s, if_neg c], rfl, ⟨d', u5⟩, fun b hb => by rw [cn_s, if_neg (fun q => c q.1)]; exact u6 b hb⟩, rfl⟩
  · rintro ⟨x1, x2, x3, x4, x5, x6⟩ k2 ⟨u1, u2, u3, u4, ⟨d', u5⟩, u6⟩
    dsimp only at u1 u2 u3 u4 u5 u6
    subst u1 u2 u3 u4
    unfold b_X5_mostLeftBehind_14
    dsimp only
    rw [if_pos (show (40 : Int32) < nI 41 by decide)]
    exact ⟨x5, x6, d', rfl, u5⟩
theorem s_worstBy {fu v k p d y w q s : Nat} {m0 m mk mp may snd : Nat → Int32} {mL : Nat → Int64} {F : Nat → Bool} (hfu : 5000 ≤ fu) (T : MT m0 mk mp v k p d y w q) (K : KP m0 m) (h11 : m 11 = m0 11) (hs : s < 40) (hmay : ∀ i, i < 41 → may i = if F i = true then 1 else 0) :
    ∃ m' snd', m_X6_worstBy fu m mL mk mp may snd (nI v) (nI s) = some (nI (wsb F (fun i => co (rt k (pt k p y) i s)) 41), (m', snd')) ∧ ∀ j, j ≠ 9 → m' j = m j := by
  have hlt : ∀ i x, rt k (pt k p y) i s = some x → x < 40 := fun i x e => rt_lt e
  unfold m_X6_worstBy
  refine lf (b_X6_worstBy_5 fu mL mk mp may) (fun i x => x.1 = nI v ∧ x.2.1 = nI s ∧ x.2.2.1 9 = nI i ∧ (∀ j, j ≠ 9 → x.2.2.1 j = m j) ∧ ∀ j, j < i → x.2.2.2 j = ro (rt k (pt k p y) j s)) 41 (fun o => ∃ m' snd', o = some (nI (wsb F (fun i => co (rt k (pt k p y) i s)) 41), (m', snd')) ∧ ∀ j, j ≠ 9 → m' j = m j) ?_ ?_ fu 0 _ (Nat.zero_le _) (by omega) ⟨rfl, rfl, rfl, fun j hj => pk_un hj, fun j hj => absurd hj (by omega)⟩
  · rintro i ⟨x1, x2, x3, x4⟩ k2 hi ⟨u1, u2, u3, u4, u5⟩
    dsimp only at u1 u2 u3 u4 u5
    subst u1 u2
    have KK : KP m0 x3 := ⟨fun j h1 h2 h3 h4 h5 => (u4 j h2).trans (K.1 j h1 h2 h3 h4 h5), (u4 35 (by decide)).trans K.2.1, (u4 36 (by decide)).trans K.2.2.1, (u4 37 (by decide)).trans K.2.2.2⟩
    left
    unfold b_X6_worstBy_5
    dsimp only
    rw [if_neg (show ¬ (40 : Int32) < x3 9 by rw [u3]; exact nI_nlt (a := 40) (by omega) (by decide)), s_comesBack (T.at KK u3 (by omega) ((u4 11 (by decide)).trans h11)) hs, Option.bind_some, gd_t (show inb (x3 9) 41 by rw [u3]; exact inb_n hi (by decide)), u3, nI_clamp (by omega), nI_1]
    refine ⟨(nI v, nI s, upd x3 9 (nI (i + 1)), upd x4 i (ro (rt k (pt k p y) i s))), ⟨rfl, rfl, (show upd x3 9 (nI (i + 1)) 9 = nI (i + 1) from pk_us), fun j hj => (show upd x3 9 (nI (i + 1)) j = m j from (pk_un hj).trans (u4 j hj)), fun j hj => ?_⟩, rfl⟩
    show upd x4 i (ro (rt k (pt k p y) i s)) j = _
    by_cases c : j = i
    · subst c; exact pk_us
    · exact (pk_un c).trans (u5 j (by omega))
  · rintro ⟨x1, x2, x3, x4⟩ k2 ⟨u1, u2, u3, u4, u5⟩
    dsimp only at u1 u2 u3 u4 u5
    subst u1 u2
    unfold b_X6_worstBy_5
    dsimp only
    rw [if_pos (show (40 : Int32) < x3 9 by rw [u3]; decide)]
    refine lf (b_X6_worstBy_47 fu mL mk mp may) (fun i x => x.1 = nI (wsb F (fun i => co (rt k (pt k p y) i s)) i) ∧ x.2.1 = nI i ∧ x.2.2.1 = x3 ∧ x.2.2.2 = x4) 41 (fun o => ∃ m' snd', o = some (nI (wsb F (fun i => co (rt k (pt k p y) i s)) 41), (m', snd')) ∧ ∀ j, j ≠ 9 → m' j = m j) ?_ ?_ fu 0 _ (Nat.zero_le _) (by omega) ⟨rfl, rfl, rfl, rfl⟩
    · rintro i ⟨z1, z2, z3, z4⟩ k3 hi ⟨w1, w2, w3, w4⟩
      dsimp only at w1 w2 w3 w4
      subst w1 w2 w3 w4
      have i41 : inb (nI i) 41 := inb_n hi (by decide)
      have e120 : ∀ b : Nat, b ≤ 41 → b_X6_worstBy_120 fu mL mk mp may k3 (nI (wsb F (fun i => co (rt k (pt k p y) i s)) i)) (nI i) (nI b) z3 z4 = k3 (nI (max (wsb F (fun i => co (rt k (pt k p y) i s)) i) b), nI (i + 1), z3, z4) := by
        intro b hb
        have hb2 := wsb_b (F := F) (c := fun i => co (rt k (pt k p y) i s)) i
        unfold b_X6_worstBy_120 b_X6_worstBy_132
        rw [nI_1]
        by_cases c3 : b ≤ wsb F (fun i => co (rt k (pt k p y) i s)) i
        · rw [if_pos (nI_le c3 (by omega)), Nat.max_eq_left c3]
        · rw [if_neg (nI_ge (by omega) (by omega)), Nat.max_eq_right (by omega)]
      left
      refine ⟨(nI (wsb F (fun i => co (rt k (pt k p y) i s)) (i + 1)), nI (i + 1), z3, z4), ⟨rfl, rfl, rfl, rfl⟩, ?_⟩
      unfold b_X6_worstBy_47
      dsimp only
      rw [if_neg (show ¬ (40 : Int32) < nI i from nI_nlt (a := 40) (by omega) (by decide)), wsb_s]
      by_cases c : F i = true
      · rw [if_pos c]
        refine lf (b_X6_worstBy_60 fu mL mk mp may k3) (fun j x => x = (nI (wsb F (fun i => co (rt k (pt k p y) i s)) i), nI i, nI (cn F (fun i => co (rt k (pt k p y) i s)) j (co (rt k (pt k p y) i s))), nI j, z3, z4)) 41 (fun o => o = k3 (nI (max (wsb F (fun i => co (rt k (pt k p y) i s)) i) (cn F (fun i => co (rt k (pt k p y) i s)) 41 (co (rt k (pt k p y) i s)))), nI (i + 1), z3, z4)) ?_ ?_ fu 0 _ (Nat.zero_le _) (by omega) rfl
        · rintro j x k4 hj rfl
          have j41 : inb (nI j) 41 := inb_n hj (by decide)
          left
          unfold b_X6_worstBy_60 b_X6_worstBy_110 b_X6_worstBy_111
          dsimp only
          rw [if_neg (show ¬ (40 : Int32) < nI j from nI_nlt (a := 40) (by omega) (by decide))]
          simp only [gd_t i41, gd_t j41, nI_clamp (show i < 2 ^ 31 by omega), nI_clamp (show j < 2 ^ 31 by omega)]
          rw [hmay i hi, if_pos c, if_neg n10, hmay j hj, u5 i hi, u5 j hj]
          refine ⟨_, rfl, ?_⟩
          by_cases cj : F j = true
          · rw [if_pos cj, if_neg n10]
            by_cases cc : co (rt k (pt k p y) j s) = co (rt k (pt k p y) i s)
            · rw [if_pos ((ro_co (hlt j) (hlt i)).mpr cc), nI_1, nI_1, cn_s, if_pos ⟨cj, cc⟩]
            · rw [if_neg (fun q => cc ((ro_co (hlt j) (hlt i)).mp q)), nI_1, Int32.add_zero, cn_s, if_neg (fun q => cc q.2)]
          · rw [if_neg cj, if_pos p00, nI_1, Int32.add_zero, cn_s, if_neg (fun q => cj q.1)]
        · rintro x k4 rfl
          unfold b_X6_worstBy_60
          dsimp only
          rw [if_pos (show (40 : Int32) < nI 41 by decide)]
          exact e120 _ cn_le
      · rw [if_neg c]
        refine lf (b_X6_worstBy_60 fu mL mk mp may k3) (fun j x => x = (nI (wsb F (fun i => co (rt k (pt k p y) i s)) i), nI i, nI 0, nI 0, z3, z4)) 0 (fun o => o = k3 (nI (max (wsb F (fun i => co (rt k (pt k p y) i s)) i) 0), nI (i + 1), z3, z4)) (fun j x k4 hj _ => absurd hj (by omega)) ?_ fu 0 _ (Nat.zero_le _) (by omega) rfl
        rintro x k4 rfl
        unfold b_X6_worstBy_60
        dsimp only
        rw [if_neg (show ¬ (40 : Int32) < nI 0 by decide), gd_t i41, if_pos (show may (nI i).toNatClampNeg = 0 by rw [nI_clamp (by omega), hmay i hi, if_neg c])]
        exact e120 0 (by decide)
    · rintro ⟨z1, z2, z3, z4⟩ k3 ⟨w1, w2, w3, w4⟩
      dsimp only at w1 w2 w3 w4
      subst w1 w2 w3 w4
      unfold b_X6_worstBy_47
      dsimp only
      rw [if_pos (show (40 : Int32) < nI 41 by decide)]
      exact ⟨_, _, rfl, u4⟩
