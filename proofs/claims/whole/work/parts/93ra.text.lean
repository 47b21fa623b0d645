-- PURE 29: the order of a day
def mxv (f : Nat → Nat) : Nat → Nat
  | 0 => 0
  | n + 1 => max (mxv f n) (f n)
theorem mxv_s {f : Nat → Nat} {n : Nat} : mxv f (n + 1) = max (mxv f n) (f n) := rfl
theorem mxv_ge {f : Nat → Nat} : ∀ n i, i < n → f i ≤ mxv f n := by
  intro n
  induction n with
  | zero => intro i hi; omega
  | succ n ih =>
    intro i hi
    rw [mxv_s]
    rcases Nat.lt_or_ge i n with c | c
    · have := ih i c; omega
    · have : i = n := by omega
      subst this; omega
theorem mxv_le {f : Nat → Nat} {c : Nat} : ∀ n, (∀ i, i < n → f i ≤ c) → mxv f n ≤ c := by
  intro n
  induction n with
  | zero => intro _; exact Nat.zero_le _
  | succ n ih =>
    intro h
    have h1 := ih (fun i hi => h i (by omega))
    have h2 := h n (by omega)
    rw [mxv_s]; omega
theorem mxv_c {f g : Nat → Nat} : ∀ n, (∀ i, i < n → f i = g i) → mxv f n = mxv g n := by
  intro n
  induction n with
  | zero => intro _; rfl
  | succ n ih => intro h; rw [mxv_s, mxv_s, ih (fun i hi => h i (by omega)), h n (by omega)]
/-- the most yeses still to be had, r voices being left -/
def mo_r (n : Nat) (Y : Nat → Nat → Bool) : Nat → Nat → Nat
  | 0, _ => 0
  | r + 1, S => mxv (fun v => if S.testBit v = true then 0 else (if Y v (pc S) = true then 1 else 0) + mo_r n Y r (S ||| 2 ^ v)) n
def mo_w (n : Nat) (Y : Nat → Nat → Bool) (S : Nat) : Nat := mo_r n Y (n - pc S) S
def cv_s (n : Nat) (Y : Nat → Nat → Bool) (S v : Nat) : Nat := if S.testBit v = true then 0 else (if Y v (pc S) = true then 1 else 0) + mo_w n Y (S ||| 2 ^ v)
theorem or_8 : ∀ S, S < 256 → ∀ v, v < 8 → (S.testBit v = true → S ||| 2 ^ v = S) ∧ (S.testBit v = false → pc (S ||| 2 ^ v) = pc S + 1 ∧ S < S ||| 2 ^ v) := by decide +kernel
theorem sh_8 : ∀ S, S < 256 → ∀ v, v < 8 → ((nI S >>> (nI v &&& 31)) &&& 1) = (if S.testBit v = true then 1 else 0) := by decide +kernel
theorem sl_8 : ∀ v, v < 9 → ((1 : Int32) <<< (nI v &&& 31)) = nI (2 ^ v) := by decide +kernel
theorem orI {S v : Nat} (hv : v < 8) : nI S ||| ((1 : Int32) <<< (nI v &&& 31)) = nI (S ||| 2 ^ v) := by rw [sl_8 v (by omega), fa_or]
theorem p2_256 {n : Nat} (hn : n ≤ 8) : 2 ^ n ≤ 256 := Nat.pow_le_pow_right (n := 2) (by decide) hn
theorem or_lt {n S v : Nat} (hS : S < 2 ^ n) (hv : v < n) : S ||| 2 ^ v < 2 ^ n := Nat.or_lt_two_pow hS (Nat.pow_lt_pow_right (by decide) hv)
theorem pc_n {n S : Nat} (hn : n ≤ 8) (hS : S < 2 ^ n) : pc S ≤ n := by
  have e : S = bs (fun i => S.testBit i) n := bs_ext (fun i => by
    by_cases c : i < n
    · rw [decide_eq_true c, Bool.true_and]
    · rw [decide_eq_false c, Bool.false_and]
      exact Nat.testBit_lt_two_pow (Nat.lt_of_lt_of_le hS (Nat.pow_le_pow_right (by decide) (by omega))))
  rw [e, pc_bs hn]
  exact cnt_le n
theorem pc_lt {n S v : Nat} (hn : n ≤ 8) (hS : S < 2 ^ n) (hv : v < n) (h : S.testBit v = false) : pc (S ||| 2 ^ v) = pc S + 1 ∧ pc S < n ∧ S < S ||| 2 ^ v := by
  have h256 := p2_256 hn
  obtain ⟨h1, h2⟩ := (or_8 S (by omega) v (by omega)).2 h
  have := pc_n hn (or_lt hS hv)
  exact ⟨h1, by omega, h2⟩
theorem mo_le {n : Nat} {Y : Nat → Nat → Bool} : ∀ r S, mo_r n Y r S ≤ r := by
  intro r
  induction r with
  | zero => intro S; exact Nat.le_refl _
  | succ r ih =>
    intro S
    refine mxv_le n (fun v _ => ?_)
    have := ih (S ||| 2 ^ v)
    split
    · omega
    · split <;> omega
theorem mw_le {n S : Nat} {Y : Nat → Nat → Bool} (hn : n ≤ 8) : mo_w n Y S ≤ 8 := Nat.le_trans (mo_le _ _) (by omega)
theorem mw_eq {n S : Nat} {Y : Nat → Nat → Bool} (hn : n ≤ 8) (hS : S < 2 ^ n) : mo_w n Y S = mxv (cv_s n Y S) n := by
  have hp := pc_n hn hS
  by_cases c : pc S = n
  · have e : mo_w n Y S = 0 := by unfold mo_w; rw [c, Nat.sub_self]; rfl
    have e2 : mxv (cv_s n Y S) n ≤ 0 := mxv_le n (fun v hv => by
      unfold cv_s
      by_cases ct : S.testBit v = true
      · rw [if_pos ct]; exact Nat.le_refl _
      · have := (pc_lt hn hS hv (by simpa using ct)).2.1
        omega)
    omega
  · obtain ⟨r, hr⟩ : ∃ r, n - pc S = r + 1 := ⟨n - pc S - 1, by omega⟩
    unfold mo_w
    rw [hr]
    refine mxv_c n (fun v hv => ?_)
    unfold cv_s
    by_cases ct : S.testBit v = true
    · rw [if_pos ct, if_pos ct]
    · rw [if_neg ct, if_neg ct]
      have := (pc_lt hn hS hv (by simpa using ct)).1
      unfold mo_w
      rw [show n - pc (S ||| 2 ^ v) = r by omega]
theorem cv_le {n S v : Nat} {Y : Nat → Nat → Bool} (hn : n ≤ 8) : cv_s n Y S v ≤ 9 := by
  have := mw_le (S := S ||| 2 ^ v) (Y := Y) hn
  unfold cv_s
  split
  · omega
  · split <;> omega
/-- the first voice that leads to the most -/
def FV (n : Nat) (Y : Nat → Nat → Bool) (S : Nat) (x : Int32) : Prop := pc S < n → ∃ f, f < n ∧ x = nI f ∧ S.testBit f = false ∧ cv_s n Y S f = mo_w n Y S ∧ ∀ v, v < f → S.testBit v = false → ¬ cv_s n Y S v = mo_w n Y S
theorem s_findNext {fu n S : Nat} {t now mf nf : Nat → Int32} {Y : Nat → Nat → Bool} {yy : Int32} (hfu : 5000 ≤ fu) (hn : n ≤ 8) (hn1 : now 8 = nI n) (hS : S < 2 ^ n) (hM : ∀ j, S < j → j < 2 ^ n → mf j = nI (mo_w n Y j)) (hY : ∀ v, v < n → S.testBit v = false → ((yy >>> (nI v &&& 31)) &&& 1) = (if Y v (pc S) = true then 1 else 0)) :
    ∃ x, m_X5_findNextVoice fu t now mf nf (nI S) yy = some (upd mf S (nI (mo_w n Y S)), upd nf S x) ∧ FV n Y S x := by
  have h256 := p2_256 hn
  unfold m_X5_findNextVoice
  refine lf (b_X5_findNextVoice_8 fu t now) (fun i x => x.1 = nI S ∧ x.2.1 = yy ∧ x.2.2.2.2.1 = nI i ∧ x.2.2.2.2.2.1 = mf ∧ x.2.2.2.2.2.2 = nf ∧ ((x.2.2.1 = -1 ∧ x.2.2.2.1 = -1 ∧ ∀ v, v < i → S.testBit v = true) ∨ (∃ f, x.2.2.1 = nI (cv_s n Y S f) ∧ x.2.2.2.1 = nI f ∧ f < i ∧ S.testBit f = false ∧ (∀ v, v < i → S.testBit v = false → cv_s n Y S v ≤ cv_s n Y S f) ∧ ∀ v, v < f → S.testBit v = false → cv_s n Y S v < cv_s n Y S f))) n (fun o => ∃ x, o = some (upd mf S (nI (mo_w n Y S)), upd nf S x) ∧ FV n Y S x) ?_ ?_ fu 0 _ (Nat.zero_le _) (by omega) ⟨rfl, rfl, rfl, rfl, rfl, Or.inl ⟨rfl, rfl, fun v hv => absurd hv (by omega)⟩⟩
  · rintro i ⟨x1, x2, x3, x4, x5, x6, x7⟩ k hi ⟨e1, e2, e3, e4, e5, e6⟩
    dsimp only at e1 e2 e3 e4 e5 e6
    subst e1 e2 e3 e4 e5
    have hor := (or_8 S (by omega) i (by omega))
    left
    unfold b_X5_findNextVoice_8 b_X5_findNextVoice_75
    dsimp only
    rw [if_neg (show ¬ now 8 ≤ nI i by rw [hn1]; exact nI_ge hi (by omega)), orI (show i < 8 by omega), nI_1]
    by_cases ct : S.testBit i = true
    · rw [if_pos (show nI (S ||| 2 ^ i) = nI S by rw [hor.1 ct])]
      refine ⟨_, ?_, rfl⟩
      refine ⟨rfl, rfl, rfl, rfl, rfl, ?_⟩
      rcases e6 with ⟨q1, q2, q3⟩ | ⟨f, q1, q2, q3, q4, q5, q6⟩
      · exact Or.inl ⟨q1, q2, fun v hv => by
          rcases Nat.lt_or_ge v i with c | c
          · exact q3 v c
          · have : v = i := by omega
            subst this; exact ct⟩
      · exact Or.inr ⟨f, q1, q2, by omega, q4, fun v hv hb => by
          rcases Nat.lt_or_ge v i with c | c
          · exact q5 v c hb
          · have : v = i := by omega
            subst this; rw [ct] at hb; exact absurd hb (by decide), q6⟩
    · have cf : S.testBit i = false := by simpa using ct
      obtain ⟨l1, l2, l3⟩ := pc_lt hn hS hi cf
      have l4 := or_lt hS hi
      have hcv : cv_s n Y S i = (if Y i (pc S) = true then 1 else 0) + mo_w n Y (S ||| 2 ^ i) := by unfold cv_s; rw [if_neg ct]
      have hc9 := cv_le (S := S) (v := i) (Y := Y) hn
      have hv12 : ((x2 >>> (nI i &&& 31)) &&& 1) + x6 (nI (S ||| 2 ^ i)).toNatClampNeg = nI (cv_s n Y S i) := by
        rw [hY i hi cf, nI_clamp (by omega), hM _ l3 l4, hcv]
        by_cases cy : Y i (pc S) = true
        · rw [if_pos cy, if_pos cy]; exact nI_add 1 _
        · rw [if_neg cy, if_neg cy]; exact nI_add 0 _
      rw [if_neg (show ¬ nI (S ||| 2 ^ i) = nI S from fun q => by have := (nI_eq (by omega) (by omega)).mp q; omega), s_isWithin, Option.bind_some, bI_t (show (0 : Int32) ≤ nI (S ||| 2 ^ i) ∧ nI (S ||| 2 ^ i) ≤ (255 : Int32) from w_0n (m := 255) (by omega) (by decide)), if_neg (show ¬ ((1 : Int32), ()).1 = 0 from n10), gd_t (inb_n (by omega) (by decide)), Option.bind_some, hv12]
      rcases e6 with ⟨q1, q2, q3⟩ | ⟨f, q1, q2, q3, q4, q5, q6⟩
      · rw [if_neg (show ¬ nI (cv_s n Y S i) ≤ x3 by rw [q1, i_le, nI_toInt (by omega), tm1]; omega)]
        refine ⟨_, ?_, rfl⟩
        exact ⟨rfl, rfl, rfl, rfl, rfl, Or.inr ⟨i, rfl, rfl, by omega, cf, fun v hv hb => by
          rcases Nat.lt_or_ge v i with c | c
          · rw [q3 v c] at hb; exact absurd hb (by decide)
          · have : v = i := by omega
            subst this; exact Nat.le_refl _, fun v hv hb => by rw [q3 v hv] at hb; exact absurd hb (by decide)⟩⟩
      · have hcf := cv_le (S := S) (v := f) (Y := Y) hn
        by_cases cc : cv_s n Y S i ≤ cv_s n Y S f
        · rw [if_pos (show nI (cv_s n Y S i) ≤ x3 by rw [q1]; exact nI_le cc (by omega))]
          refine ⟨_, ?_, rfl⟩
          exact ⟨rfl, rfl, rfl, rfl, rfl, Or.inr ⟨f, q1, q2, by omega, q4, fun v hv hb => by
            rcases Nat.lt_or_ge v i with c | c
            · exact q5 v c hb
            · have : v = i := by omega
              subst this; exact cc, q6⟩⟩
        · rw [if_neg (show ¬ nI (cv_s n Y S i) ≤ x3 by rw [q1]; exact nI_ge (by omega) (by omega))]
          refine ⟨_, ?_, rfl⟩
          exact ⟨rfl, rfl, rfl, rfl, rfl, Or.inr ⟨i, rfl, rfl, by omega, cf, fun v hv hb => by
            rcases Nat.lt_or_ge v i with c | c
            · have := q5 v c hb; omega
            · have : v = i := by omega
              subst this; exact Nat.le_refl _, fun v hv hb => by have := q5 v hv hb; omega⟩⟩
  · rintro ⟨x1, x2, x3, x4, x5, x6, x7⟩ k ⟨e1, e2, e3, e4, e5, e6⟩
    dsimp only at e1 e2 e3 e4 e5 e6
    subst e1 e2 e3 e4 e5
    have i256 : inb (nI S) 256 := inb_n (by omega) (by decide)
    unfold b_X5_findNextVoice_8 b_X5_findNextVoice_111
    dsimp only
    rw [if_pos (show now 8 ≤ nI n by rw [hn1]; exact nI_le (Nat.le_refl _) (by omega)), s_isWithin, Option.bind_some, bI_t (show (0 : Int32) ≤ nI S ∧ nI S ≤ (255 : Int32) from w_0n (m := 255) (by omega) (by decide)), if_neg (show ¬ ((1 : Int32), ()).1 = 0 from n10), gd_t i256, gd_t i256, nI_clamp (show S < 2 ^ 31 by omega)]
    have hw := mw_eq (Y := Y) hn hS
    rcases e6 with ⟨q1, q2, q3⟩ | ⟨f, q1, q2, q3, q4, q5, q6⟩
    · have hz : mo_w n Y S = 0 := by
        have : mxv (cv_s n Y S) n ≤ 0 := mxv_le n (fun v hv => by unfold cv_s; rw [if_pos (q3 v hv)]; exact Nat.le_refl _)
        omega
      refine ⟨x4, ?_, fun hp => ?_⟩
      · rw [if_neg (show ¬ (0 : Int32) < x3 by rw [q1]; decide), hz]; rfl
      · exfalso
        have e : S = bs (fun _ => true) n := bs_ext (fun i => by
          by_cases c : i < n
          · rw [q3 i c, decide_eq_true c]; rfl
          · rw [decide_eq_false c, Bool.false_and]
            exact Nat.testBit_lt_two_pow (Nat.lt_of_lt_of_le hS (Nat.pow_le_pow_right (by decide) (by omega))))
        have h2 : ∀ m, cnt (fun _ => true) m = m := by
          intro m
          induction m with
          | zero => rfl
          | succ m ih => rw [cnt_t rfl, ih]
        have h3 := pc_bs (f := fun _ => true) hn
        rw [← e, h2] at h3
        omega
    · have hz : mo_w n Y S = cv_s n Y S f := by
        have h1 := mxv_ge (f := cv_s n Y S) n f q3
        have h2 : mxv (cv_s n Y S) n ≤ cv_s n Y S f := mxv_le n (fun v hv => by
          by_cases ct : S.testBit v = true
          · have : cv_s n Y S v = 0 := by unfold cv_s; rw [if_pos ct]
            omega
          · exact q5 v hv (by simpa using ct))
        omega
      have hcf := cv_le (S := S) (v := f) (Y := Y) hn
      refine ⟨x4, ?_, fun _ => ⟨f, q3, q2, q4, hz.symm, fun v hv hb q => ?_⟩⟩
      · rw [q1, hz]
        by_cases c0 : 0 < cv_s n Y S f
        · rw [if_pos (show (0 : Int32) < nI (cv_s n Y S f) from nI_lt (a := 0) c0 (by omega))]
        · rw [if_neg (show ¬ (0 : Int32) < nI (cv_s n Y S f) from nI_nlt (b := 0) (a := 0) (by omega) (by decide) |> fun _ => by rw [show cv_s n Y S f = 0 by omega]; decide), show cv_s n Y S f = 0 by omega]
          rfl
      · have := q6 v hv hb
        omega
theorem s_findOrder {fu n : Nat} {t now ya mf nf : Nat → Int32} {Y : Nat → Nat → Bool} (hfu : 5000 ≤ fu) (hn : n ≤ 8) (hn1 : now 8 = nI n) (hY : ∀ k, k < 8 → ∃ f, ya k = nI (bs f n) ∧ ∀ v, v < n → f v = Y v k) :
    ∃ mf' nf', m_X5_findOrder fu t now ya mf nf = some (mf', nf') ∧ (∀ S, S < 2 ^ n → mf' S = nI (mo_w n Y S)) ∧ ∀ S, S < 2 ^ n → FV n Y S (nf' S) := by
  have h256 := p2_256 hn
  have hA1 : 1 ≤ 2 ^ n := Nat.one_le_two_pow
  have hst : (if (255 : Int32) < ((1 : Int32) <<< (now 8 &&& 31)) - 1 then (255 : Int32) else ((1 : Int32) <<< (now 8 &&& 31)) - 1) = nI (2 ^ n - 0) + (-1) := by
    rw [hn1, sl_8 n (by omega), show (1 : Int32) = nI 1 from rfl, pk_sub hA1, Nat.sub_zero, if_neg (show ¬ (255 : Int32) < nI (2 ^ n - 1) from nI_nlt (a := 255) (by omega) (by decide))]
    obtain ⟨A, hA⟩ : ∃ A, 2 ^ n = A + 1 := ⟨2 ^ n - 1, by omega⟩
    rw [hA, show (-nI 1 : Int32) = -1 from rfl, pk_m1]; rfl
  unfold m_X5_findOrder
  rw [hst, Option.bind_some]
  refine lf (b_X5_findOrder_20 fu t now ya) (fun i x => x.1 = nI (2 ^ n - i) + (-1) ∧ (∀ S, 2 ^ n ≤ S + i → S < 2 ^ n → x.2.1 S = nI (mo_w n Y S)) ∧ ∀ S, 2 ^ n ≤ S + i → S < 2 ^ n → FV n Y S (x.2.2 S)) (2 ^ n) (fun o => ∃ mf' nf', o = some (mf', nf') ∧ (∀ S, S < 2 ^ n → mf' S = nI (mo_w n Y S)) ∧ ∀ S, S < 2 ^ n → FV n Y S (nf' S)) ?_ ?_ fu 0 _ (Nat.zero_le _) (by omega) ⟨rfl, fun S h1 h2 => absurd h1 (by omega), fun S h1 h2 => absurd h1 (by omega)⟩
  · rintro i ⟨x1, x2, x3⟩ k hi ⟨e1, e2, e3⟩
    dsimp only at e1 e2 e3
    subst e1
    obtain ⟨S, hS⟩ : ∃ S, 2 ^ n - i = S + 1 := ⟨2 ^ n - i - 1, by omega⟩
    have hSn : S < 2 ^ n := by omega
    have hpc := pc_n hn hSn
    have hyo : ∃ yy, m_X5_yesesOfPlace fu t ya (nI (pc S)) = some (yy, ()) ∧ ∀ v, v < n → S.testBit v = false → ((yy >>> (nI v &&& 31)) &&& 1) = (if Y v (pc S) = true then 1 else 0) := by
      unfold m_X5_yesesOfPlace b_X5_yesesOfPlace_20
      rw [s_isWithin, Option.bind_some]
      by_cases c8 : pc S < 8
      · obtain ⟨f, f1, f2⟩ := hY (pc S) c8
        rw [bI_t (x_sh c8), if_neg (show ¬ ((1 : Int32), ()).1 = 0 from n10), gd_t (inb_n c8 (by decide)), nI_clamp (by omega), f1]
        refine ⟨_, rfl, fun v hv _ => ?_⟩
        rw [sh_8 _ (bs_8 hn) v (by omega), bs_bit, decide_eq_true hv, Bool.true_and, f2 v hv]
      · rw [bI_f (show ¬ (0 ≤ nI (pc S) ∧ nI (pc S) ≤ (7 : Int32)) from fun q => by have := (nI_le_iff (b := 7) (by omega) (by decide)).mp q.2; omega), if_pos (show ((0 : Int32), ()).1 = 0 from rfl)]
        refine ⟨0, rfl, fun v hv hb => ?_⟩
        have := (pc_lt hn hSn hv hb).2.1
        omega
    obtain ⟨yy, y1, y2⟩ := hyo
    obtain ⟨x, a1, a2⟩ := s_findNext (fu := fu) (t := t) (mf := x2) (nf := x3) (Y := Y) (yy := yy) hfu hn hn1 hSn (fun j j1 j2 => e2 j (by omega) j2) y2
    left
    unfold b_X5_findOrder_20
    dsimp only
    rw [hS, pk_m1, if_neg (nI_pos (by omega)), show m_J6_bitCount_0f7a4 fu (nI S) = m_J6_bitCount_0f7a4 0 (nI S) from rfl, bc8 S (by omega), Option.bind_some]
    dsimp only
    rw [y1, Option.bind_some]
    dsimp only
    rw [a1, Option.bind_some]
    refine ⟨(nI S + (-1), upd x2 S (nI (mo_w n Y S)), upd x3 S x), ⟨by rw [show 2 ^ n - (i + 1) = S by omega], fun j j1 j2 => ?_, fun j j1 j2 => ?_⟩, rfl⟩
    · show upd x2 S (nI (mo_w n Y S)) j = _
      by_cases c : j = S
      · subst c; exact pk_us
      · exact (pk_un c).trans (e2 j (by omega) j2)
    · show FV n Y j (upd x3 S x j)
      by_cases c : j = S
      · subst c; rw [pk_us]; exact a2
      · rw [pk_un c]; exact e3 j (by omega) j2
  · rintro ⟨x1, x2, x3⟩ k ⟨e1, e2, e3⟩
    dsimp only at e1 e2 e3
    subst e1
    unfold b_X5_findOrder_20
    dsimp only
    rw [Nat.sub_self, if_pos (show nI 0 + (-1) < (0 : Int32) by decide)]
    exact ⟨x2, x3, rfl, fun S hS => e2 S (by omega) hS, fun S hS => e3 S (by omega) hS⟩
