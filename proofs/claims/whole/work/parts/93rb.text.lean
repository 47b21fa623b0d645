-- PURE 30: the order of a day in the reference
theorem s_findSuits {fu d y w q n : Nat} {ks ps : Nat → Nat} {m mk mp mw mh more : Nat → Int32} {YR : Nat → Nat → Int32} {mL : Nat → Int64} {l : List Nat} {Y : Nat → Nat → Bool} (hfu : 5000 ≤ fu) (hn : n ≤ 8) (hn2 : m 16 = nI n) (hd9 : m 9 = nI d) (hd : d ≤ 40) (T : ∀ v, v < n → MT m mk mp v (ks v) (ps v) d y w q) (Wd : WM m mw l) (hY : ∀ v k, Y v k = true ↔ wg (ks v) (pt (ks v) (ps v) y) (min 40 (d + k)) w q l = 1) :
    ∃ m' h' YR' more', m_X6_findSuits fu m mL mk mp mw mh YR more = some (m', h', YR', more') ∧ (∀ j, j < 35 → j ≠ 33 → m' j = m j) ∧ (∀ S, S < 2 ^ n → more' S = nI (mo_w n Y S)) ∧ ∀ v k, v < n → k < n → YR' v k = bI (Y v k = true) := by
  have h256 := p2_256 hn
  have hA1 : 1 ≤ 2 ^ n := Nat.one_le_two_pow
  unfold m_X6_findSuits
  rw [s_keeps, Option.bind_some]
  refine lf (b_X6_findSuits_6 fu mL mk mp mw) (fun i x => x.1 = nI i ∧ (KP m x.2.1 ∧ x.2.1 11 = m 11) ∧ ∀ v k, v < n → k < i → x.2.2.2.1 v k = bI (Y v k = true)) n (fun o => ∃ m' h' YR' more', o = some (m', h', YR', more') ∧ (∀ j, j < 35 → j ≠ 33 → m' j = m j) ∧ (∀ S, S < 2 ^ n → more' S = nI (mo_w n Y S)) ∧ ∀ v k, v < n → k < n → YR' v k = bI (Y v k = true)) ?_ ?_ fu 0 _ (Nat.zero_le _) (by omega) ⟨rfl, ⟨KP.keeps, rfl⟩, fun v k _ hk => absurd hk (by omega)⟩
  · rintro i ⟨x1, x2, x3, x4, x5⟩ k hi ⟨e1, ⟨e2, e3⟩, e4⟩
    dsimp only at e1 e2 e3 e4
    subst e1
    have h16 : x2 16 = nI n := (e2.1 16 (by decide) (by decide) (by decide) (by decide) (by decide)).trans hn2
    have h35 : x2 35 = nI d := e2.2.1.trans hd9
    have hheld : m_X6_held fu (x2 35 + nI i) = some (nI (min 40 (d + i)), ()) := by
      rw [h35, nI_add, s_heldI (nI_toInt (by omega))]
      rfl
    left
    have A : ∃ x', ((KP m x'.2.1 ∧ x'.2.1 11 = m 11) ∧ ∀ v k, v < n → k < i + 1 → x'.2.2.2.1 v k = bI (Y v k = true)) ∧ x'.1 = nI (i + 1) ∧ lfix (b_X6_findSuits_29 fu mL mk mp mw k) fu (nI i, (0 : Int32), upd x2 9 (nI (min 40 (d + i))), x3, x4, x5) = k x' := by
      refine lf (b_X6_findSuits_29 fu mL mk mp mw k) (fun v x => x.1 = nI i ∧ x.2.1 = nI v ∧ (KP m x.2.2.1 ∧ x.2.2.1 9 = nI (min 40 (d + i)) ∧ x.2.2.1 11 = m 11) ∧ (∀ v' k', v' < n → k' < i → x.2.2.2.2.1 v' k' = bI (Y v' k' = true)) ∧ ∀ v', v' < v → x.2.2.2.2.1 v' i = bI (Y v' i = true)) n (fun o => ∃ x', ((KP m x'.2.1 ∧ x'.2.1 11 = m 11) ∧ ∀ v k, v < n → k < i + 1 → x'.2.2.2.1 v k = bI (Y v k = true)) ∧ x'.1 = nI (i + 1) ∧ o = k x') ?_ ?_ fu 0 (nI i, (0 : Int32), upd x2 9 (nI (min 40 (d + i))), x3, x4, x5) (Nat.zero_le _) (by omega) ⟨rfl, rfl, ⟨e2.up (Or.inl rfl), (show upd x2 9 (nI (min 40 (d + i))) 9 = nI (min 40 (d + i)) from pk_us), (show upd x2 9 (nI (min 40 (d + i))) 11 = m 11 from (pk_un (by decide)).trans e3)⟩, e4, fun v' hv => absurd hv (by omega)⟩
      · rintro v ⟨y1, y2, y3, y4, y5, y6⟩ k2 hv ⟨f1, f2, ⟨f3, f4, f5⟩, f6, f7⟩
        dsimp only at f1 f2 f3 f4 f5 f6 f7
        subst f1 f2
        have g16 : y3 16 = nI n := (f3.1 16 (by decide) (by decide) (by decide) (by decide) (by decide)).trans hn2
        have hv8 : inb (nI v) 8 := inb_n (by omega) (by decide)
        have hi8 : inb (nI i) 8 := inb_n (by omega) (by decide)
        obtain ⟨m2, h2, a1, a2⟩ := s_gets (fu := fu) (mL := mL) (h := y4) hfu ((T v hv).at f3 f4 (by omega) f5) (Wd.kp f3)
        left
        unfold b_X6_findSuits_29
        dsimp only
        rw [if_neg (show ¬ y3 16 ≤ nI v by rw [g16]; exact nI_ge hv (by omega)), gd_t hv8, a1, Option.bind_some, gd_t hv8, gd_t hi8]
        dsimp only
        rw [gd_t bI_bz, nI_clamp (show v < 2 ^ 31 by omega), nI_clamp (show i < 2 ^ 31 by omega), nI_1]
        have hb : bI (wg (ks v) (pt (ks v) (ps v) y) (min 40 (d + i)) w q l = 1) = bI (Y v i = true) := bI_c (hY v i).symm
        rw [hb]
        have hK : KP m m2 ∧ m2 9 = nI (min 40 (d + i)) ∧ m2 11 = m 11 := ⟨f3.sm a2, (a2 9 (by decide)).trans f4, (a2 11 (by decide)).trans f5⟩
        have up_s : ∀ (f : Nat → Nat → Int32) (a : Nat) (g : Nat → Int32), va_up f a g a = g := fun f a g => by simp [va_up]
        have up_n : ∀ (f : Nat → Nat → Int32) (a b : Nat) (g : Nat → Int32), b ≠ a → va_up f a g b = f b := fun f a b g hb => by simp [va_up, hb]
        refine ⟨(nI i, nI (v + 1), m2, h2, va_up y5 v (upd (y5 v) i (bI (Y v i = true))), y6), ⟨rfl, rfl, hK, fun v' k' hv' hk' => ?_, fun v' hv' => ?_⟩, rfl⟩
        · show va_up y5 v (upd (y5 v) i (bI (Y v i = true))) v' k' = _
          by_cases c : v' = v
          · subst c
            rw [up_s]
            exact (pk_un (by omega)).trans (f6 v' k' hv' hk')
          · rw [up_n _ _ _ _ c]; exact f6 v' k' hv' hk'
        · show va_up y5 v (upd (y5 v) i (bI (Y v i = true))) v' i = _
          by_cases c : v' = v
          · subst c
            rw [up_s]; exact pk_us
          · rw [up_n _ _ _ _ c]; exact f7 v' (by omega)
      · rintro ⟨y1, y2, y3, y4, y5, y6⟩ k2 ⟨f1, f2, ⟨f3, f4, f5⟩, f6, f7⟩
        dsimp only at f1 f2 f3 f4 f5 f6 f7
        subst f1 f2
        have g16 : y3 16 = nI n := (f3.1 16 (by decide) (by decide) (by decide) (by decide) (by decide)).trans hn2
        unfold b_X6_findSuits_29
        dsimp only
        rw [if_pos (show y3 16 ≤ nI n by rw [g16]; exact nI_le (Nat.le_refl _) (by omega)), nI_1]
        exact ⟨(nI (i + 1), y3, y4, y5, y6), ⟨⟨f3, f5⟩, fun v' k' hv' hk' => by
          rcases Nat.lt_or_ge k' i with c | c
          · exact f6 v' k' hv' c
          · have : k' = i := by omega
            subst this; exact f7 v' hv'⟩, rfl, rfl⟩
    obtain ⟨x', b1, b2, b3⟩ := A
    unfold b_X6_findSuits_6
    dsimp only
    rw [if_neg (show ¬ x2 16 ≤ nI i by rw [h16]; exact nI_ge hi (by omega)), hheld, Option.bind_some]
    exact ⟨x', ⟨b2, b1.1, b1.2⟩, b3⟩
  · rintro ⟨x1, x2, x3, x4, x5⟩ k ⟨e1, ⟨e2, e3⟩, e4⟩
    dsimp only at e1 e2 e3 e4
    subst e1
    have h16 : x2 16 = nI n := (e2.1 16 (by decide) (by decide) (by decide) (by decide) (by decide)).trans hn2
    obtain ⟨m3, b1, b2, -⟩ := e2.back (fu := fu) (mL := mL)
    have g16 : m3 16 = nI n := (b2 16 (by decide) (by decide)).trans hn2
    obtain ⟨A, hA⟩ : ∃ A, 2 ^ n = A + 1 := ⟨2 ^ n - 1, by omega⟩
    have hall : ((1 : Int32) <<< (m3 16 &&& 31)) - 1 = nI A := by rw [g16, sl_8 n (by omega), hA, nI_pred]
    have hpA : pc A = n := by
      have e : A = bs (fun _ => true) n := bs_ext (fun i => by
        rw [show A = 2 ^ n - 1 by omega, Nat.testBit_two_pow_sub_one]
        simp)
      have h2 : ∀ m, cnt (fun _ => true) m = m := by
        intro m
        induction m with
        | zero => rfl
        | succ m ih => rw [cnt_t rfl, ih]
      rw [e, pc_bs hn, h2]
    have hWA : mo_w n Y A = 0 := by unfold mo_w; rw [hpA, Nat.sub_self]; rfl
    unfold b_X6_findSuits_6
    dsimp only
    rw [if_pos (show x2 16 ≤ nI n by rw [h16]; exact nI_le (Nat.le_refl _) (by omega)), b1, Option.bind_some, hall, gd_t (inb_n (by omega) (by decide)), nI_clamp (show A < 2 ^ 31 by omega)]
    refine lf (b_X6_findSuits_86 fu mL mk mp mw) (fun i x => x.1 = nI (2 ^ n - i) + (-1) ∧ x.2.1 = m3 ∧ x.2.2.2.1 = x4 ∧ ∀ S, 2 ^ n ≤ S + i → S < 2 ^ n → x.2.2.2.2 S = nI (mo_w n Y S)) (2 ^ n) (fun o => ∃ m' h' YR' more', o = some (m', h', YR', more') ∧ (∀ j, j < 35 → j ≠ 33 → m' j = m j) ∧ (∀ S, S < 2 ^ n → more' S = nI (mo_w n Y S)) ∧ ∀ v k, v < n → k < n → YR' v k = bI (Y v k = true)) ?_ ?_ fu 1 _ hA1 (by omega) ⟨by
      show nI A - 1 = nI (2 ^ n - 1) + (-1)
      rw [show 2 ^ n - 1 = A by omega, Int32.sub_eq_add_neg], rfl, rfl, fun S h1 h2 => by
      have : S = A := by omega
      subst this
      show upd x5 S 0 S = _
      rw [hWA]; exact pk_us⟩
    · rintro i ⟨z1, z2, z3, z4, z5⟩ k2 hi ⟨w1, w2, w3, w4⟩
      dsimp only at w1 w2 w3 w4
      subst w1 w2 w3
      obtain ⟨S, hS⟩ : ∃ S, 2 ^ n - i = S + 1 := ⟨2 ^ n - i - 1, by omega⟩
      have hSn : S < 2 ^ n := by omega
      have i256 : inb (nI S) 256 := inb_n (by omega) (by decide)
      left
      unfold b_X6_findSuits_86
      dsimp only
      rw [hS, pk_m1, if_neg (nI_pos (by omega)), gd_t i256, nI_clamp (show S < 2 ^ 31 by omega)]
      have hB : ∃ mo', lfix (b_X6_findSuits_99 fu mL mk mp mw k2) fu (nI S, (0 : Int32), z2, z3, z4, upd z5 S 0) = k2 (nI S + (-1), z2, z3, z4, mo') ∧ mo' S = nI (mo_w n Y S) ∧ ∀ j, j ≠ S → mo' j = z5 j := by
        refine lf (b_X6_findSuits_99 fu mL mk mp mw k2) (fun v x => x.1 = nI S ∧ x.2.1 = nI v ∧ x.2.2.1 = z2 ∧ x.2.2.2.1 = z3 ∧ x.2.2.2.2.1 = z4 ∧ x.2.2.2.2.2 S = nI (mxv (cv_s n Y S) v) ∧ ∀ j, j ≠ S → x.2.2.2.2.2 j = z5 j) n (fun o => ∃ mo', o = k2 (nI S + (-1), z2, z3, z4, mo') ∧ mo' S = nI (mo_w n Y S) ∧ ∀ j, j ≠ S → mo' j = z5 j) ?_ ?_ fu 0 _ (Nat.zero_le _) (by omega) ⟨rfl, rfl, rfl, rfl, rfl, pk_us, fun j hj => pk_un hj⟩
        · rintro v ⟨y1, y2, y3, y4, y5, y6⟩ k4 hv ⟨f1, f2, f3, f4, f5, f6, f7⟩
          dsimp only at f1 f2 f3 f4 f5 f6 f7
          subst f1 f2 f3 f4 f5
          have hm9 : mxv (cv_s n Y S) v ≤ 9 := mxv_le v (fun i _ => cv_le hn)
          have hc9 := cv_le (S := S) (v := v) (Y := Y) hn
          have e149 : b_X6_findSuits_149 fu mL mk mp mw k2 k4 (nI S) (nI v) (nI (cv_s n Y S v)) y3 y4 y5 y6 = k4 (nI S, nI (v + 1), y3, y4, y5, upd y6 S (nI (mxv (cv_s n Y S) (v + 1)))) := by
            unfold b_X6_findSuits_149 b_X6_findSuits_178
            have k0 : (nI S).toNatClampNeg = S := nI_clamp (by omega)
            by_cases cc : cv_s n Y S v ≤ mxv (cv_s n Y S) v
            · rw [gd_t i256, if_pos (show nI (cv_s n Y S v) ≤ y6 (nI S).toNatClampNeg by rw [k0, f6]; exact nI_le cc (by omega)), gd_t i256, gd_t i256, k0, f6, mxv_s, nI_1, Nat.max_eq_left cc]
            · rw [gd_t i256, if_neg (show ¬ nI (cv_s n Y S v) ≤ y6 (nI S).toNatClampNeg by rw [k0, f6]; exact nI_ge (by omega) (by omega)), gd_t i256, k0, mxv_s, nI_1, Nat.max_eq_right (by omega)]
          left
          refine ⟨(nI S, nI (v + 1), y3, y4, y5, upd y6 S (nI (mxv (cv_s n Y S) (v + 1)))), ⟨rfl, rfl, rfl, rfl, rfl, (show upd y6 S (nI (mxv (cv_s n Y S) (v + 1))) S = _ from pk_us), fun j hj => (show upd y6 S (nI (mxv (cv_s n Y S) (v + 1))) j = _ from (pk_un hj).trans (f7 j hj))⟩, ?_⟩
          unfold b_X6_findSuits_99
          dsimp only
          rw [if_neg (show ¬ y3 16 ≤ nI v by rw [g16]; exact nI_ge hv (by omega)), sh_8 S (by omega) v (by omega)]
          by_cases ct : S.testBit v = true
          · rw [if_pos ct, if_neg (show ¬ (1 : Int32) = 0 from n10), ← e149, show cv_s n Y S v = 0 from by unfold cv_s; rw [if_pos ct]]
            rfl
          · have cf : S.testBit v = false := by simpa using ct
            obtain ⟨l1, l2, l3⟩ := pc_lt hn hSn hv cf
            have l4 := or_lt hSn hv
            have hv8 : inb (nI v) 8 := inb_n (by omega) (by decide)
            have hcv : cv_s n Y S v = (if Y v (pc S) = true then 1 else 0) + mo_w n Y (S ||| 2 ^ v) := by unfold cv_s; rw [if_neg ct]
            rw [if_neg ct, if_pos p00, orI (show v < 8 by omega), gd_t (inb_n (by omega) (by decide)), gd_t hv8, s_bitmx hfu (by omega), Option.bind_some, gd_t hv8]
            dsimp only
            rw [gd_t (inb_n (by omega) (by decide)), nI_clamp (show v < 2 ^ 31 by omega), nI_clamp (show pc S < 2 ^ 31 by omega), nI_clamp (show S ||| 2 ^ v < 2 ^ 31 by omega), f7 _ (by omega), w4 _ (by omega) l4]
            unfold b_X6_findSuits_144
            have hyr := e4 v (pc S) hv l2
            rw [← e149, hcv]
            by_cases cy : Y v (pc S) = true
            · rw [if_neg (show ¬ y5 v (pc S) = 0 by rw [hyr, bI_t cy]; exact n10), if_pos cy, show nI (mo_w n Y (S ||| 2 ^ v)) + (1 : Int32) = nI (1 + mo_w n Y (S ||| 2 ^ v)) from by rw [nI_1, Nat.add_comm]]
            · rw [if_pos (show y5 v (pc S) = 0 by rw [hyr, bI_f cy]), if_neg cy, show nI (mo_w n Y (S ||| 2 ^ v)) + (0 : Int32) = nI (0 + mo_w n Y (S ||| 2 ^ v)) from by rw [Int32.add_zero, Nat.zero_add]]
        · rintro ⟨y1, y2, y3, y4, y5, y6⟩ k4 ⟨f1, f2, f3, f4, f5, f6, f7⟩
          dsimp only at f1 f2 f3 f4 f5 f6 f7
          subst f1 f2 f3 f4 f5
          unfold b_X6_findSuits_99
          dsimp only
          rw [if_pos (show y3 16 ≤ nI n by rw [g16]; exact nI_le (Nat.le_refl _) (by omega))]
          exact ⟨y6, rfl, by rw [f6, mw_eq hn hSn], f7⟩
      obtain ⟨mo', c1, c2, c3⟩ := hB
      rw [c1]
      refine ⟨(nI S + (-1), z2, z3, z4, mo'), ⟨by rw [show 2 ^ n - (i + 1) = S by omega], rfl, rfl, fun j j1 j2 => ?_⟩, rfl⟩
      show mo' j = _
      by_cases c : j = S
      · subst c; exact c2
      · exact (c3 j c).trans (w4 j (by omega) j2)
    · rintro ⟨z1, z2, z3, z4, z5⟩ k2 ⟨w1, w2, w3, w4⟩
      dsimp only at w1 w2 w3 w4
      subst w1 w2 w3
      unfold b_X6_findSuits_86
      dsimp only
      rw [Nat.sub_self, if_pos (show nI 0 + (-1) < (0 : Int32) by decide)]
      exact ⟨z2, z3, z4, z5, rfl, b2, fun S hS => w4 S (by omega) hS, e4⟩
