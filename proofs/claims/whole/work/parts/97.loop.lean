theorem lw_lt {L k : Nat} (hL : L ≤ 3584) (hk : 7 * k ≤ L) (h : ¬ (Int32.ofNat L - 7) < nI (7 * k)) : 7 * k + 7 ≤ L := by
  rcases Nat.lt_or_ge L (7 * k + 7) with q | q
  · exfalso
    apply h
    rw [Int32.lt_iff_toInt_lt, show (7 : Int32) = nI 7 from rfl, show Int32.ofNat L = nI L from rfl, pk_sub_toInt (by omega) (by omega), nI_toInt (by omega)]
    omega
  · exact q
set_option maxHeartbeats 400000000 in
set_option maxRecDepth 100000 in
theorem law_loop {p : Program} {l : Launch} {e : Env} {s : State} {m : MethodId} {below : List Frame} {meth : Method} {c : Code} {b L : Nat} {xs : Nat → Int32} {D : va_G} {cA : Nat → ClassId} {Ks Vs : Nat → Nat} {fv : Value} (hL : L ≤ 3584) (hLC : LC p s m meth c b L xs D cA Ks Vs fv) (fu : Nat) (ad am : Nat → Nat) : ∀ (n k : Nat) (x3 : Int32), x3 = nI (7 * k) → 7 * k ≤ L → L + 1 ≤ 7 * k + n → ∀ (C : Nat → Nat → Int32) (E : Nat → Int64) (M : Nat → Nat → Int32) (ML : Nat → Int64) (MR : Nat → Nat → Int64) (MV : Nat → Int64) (MY : Nat → Nat → Int32) (ko to : Option (Nat → Nat)) (f : Nat → Int32) (g : Nat → Int64) (kK kB kP : Nat → Int32) (f2 : Nat → Int32) (g2 : Nat → Int64) (tK tB tP : Nat → Int32), Rel fu C E M ML MR MV MY → RelK ko (C 0) (C 5) (C 6) (C 7) (C 8) f kK kB kP → ∀ (H : Heap) (locs : List Loc) (ls : Array Slot), va_P D CL (wL cA ad am (kvO ko) (kvO to) C E M ML MR MV MY ++ (w4 cA ko f g kK kB kP ++ w4 cA to f2 g2 tK tB tP)) H → va_D (fun q : Nat => s.heap.size ≤ q) (wL cA ad am (kvO ko) (kvO to) C E M ML MR MV MY ++ (w4 cA ko f g kK kB kP ++ w4 cA to f2 g2 tK tB tP)) → va_S (fun q : Nat => s.heap.size ≤ q) s.heap H locs → lv_has ls 4 [(0, .ref b), (1, .ref (ad 0)), (2, .ref (am 0)), (3, .int x3)] → W p l e room_1 s m #[Value.ref b] below meth c H locs (71 + k * 37) (2663 + k * 1224) (lw_Z below #[Value.ref b] s) (F0 m 18 ls []) := by
  obtain ⟨⟨hx, hb, hr, hml, hown, hts, hX, hbl, hlocks, hgv⟩, hK, hN, hSS⟩ := id hLC
  have hA : ∀ q : Nat, s.heap.size ≤ q → (fun q : Nat => s.heap.size ≤ q) q := fun _ h => h
  have hbA : ¬ (fun q : Nat => s.heap.size ≤ q) b := Nat.not_le.mpr hbl
  intro n
  induction n with
  | zero => intro k x3 e3 h1 h2; exact absurd h2 (by omega)
  | succ n ih =>
    intro k x3 e3 hk hn C E M ML MR MV MY ko to f g kK kB kP f2 g2 tK tB tP hRel hRK H locs ls hP hD hS hl
    refine lv_iload_n hx hb dL_law_18 rfl (lv_at hl 3 rfl) ?_
    refine lv_aload_n hx hb dL_law_19 rfl (lv_at hl 0 rfl) ?_
    refine va_slen hx hb hX hbl hbA hS dL_law_20 ?_
    refine lv_bipush (v := (7 : Int32)) hx hb dL_law_21 (by decide) ?_
    refine lv_isub hx hb dL_law_23 ?_
    refine lv_icmp_gt (tgt := 2367) hx hb dL_law_24 (by decide) (fun c9 => ?_) (fun c9 => ?_)
    · refine lv_iconst (v := (1 : Int32)) hx hb dL_law_2367 (by decide) ?_
      refine va_forget (fun q hq => hS.2.2 q hq) ?_
      refine W.widen (k := 600000) (n := 7302250) (by omega) (by omega) ?_
      exact lw_ret hx hb hr hlocks dL_law_2368
    · have hlt : 7 * k + 7 ≤ L := lw_lt hL hk (by rw [e3] at c9; exact c9)
      have hin : ∀ j : Nat, j < 7 → vp_in (x3 + Int32.ofNat j) L := fun j hj => by
        rw [e3, show nI (7 * k) + Int32.ofNat j = nI (7 * k + j) from nI_add _ _]
        exact vp_in_nI (by omega) (by omega)
      have hcs : 71 + k * 37 ≤ room_1.cells ∧ 2663 + k * 1224 ≤ room_1.slots := ⟨show 71 + k * 37 ≤ 600000 by omega, show 2663 + k * 1224 ≤ 7302250 by omega⟩
      have hcs2 : 71 + k * 37 + 37 ≤ room_1.cells ∧ 2663 + k * 1224 + 1224 ≤ room_1.slots := ⟨show 71 + k * 37 + 37 ≤ 600000 by omega, show 2663 + k * 1224 + 1224 ≤ 7302250 by omega⟩
      have next : ∀ (c5 s5 : Nat), c5 ≤ 71 + (k + 1) * 37 → s5 ≤ 2663 + (k + 1) * 1224 → ∀ (C : Nat → Nat → Int32) (E : Nat → Int64) (M : Nat → Nat → Int32) (ML : Nat → Int64) (MR : Nat → Nat → Int64) (MV : Nat → Int64) (MY : Nat → Nat → Int32) (ko to : Option (Nat → Nat)) (f : Nat → Int32) (g : Nat → Int64) (kK kB kP : Nat → Int32) (f2 : Nat → Int32) (g2 : Nat → Int64) (tK tB tP : Nat → Int32), Rel fu C E M ML MR MV MY → RelK ko (C 0) (C 5) (C 6) (C 7) (C 8) f kK kB kP → ∀ (H : Heap) (locs : List Loc) (ls : Array Slot), va_P D CL (wL cA ad am (kvO ko) (kvO to) C E M ML MR MV MY ++ (w4 cA ko f g kK kB kP ++ w4 cA to f2 g2 tK tB tP)) H → va_D (fun q : Nat => s.heap.size ≤ q) (wL cA ad am (kvO ko) (kvO to) C E M ML MR MV MY ++ (w4 cA ko f g kK kB kP ++ w4 cA to f2 g2 tK tB tP)) → va_S (fun q : Nat => s.heap.size ≤ q) s.heap H locs → lv_has ls 4 [(0, .ref b), (1, .ref (ad 0)), (2, .ref (am 0)), (3, .int x3)] → W p l e room_1 s m #[Value.ref b] below meth c H locs c5 s5 (lw_Z below #[Value.ref b] s) (F0 m 2361 ls []) := by
        intro c5 s5 hc5 hs5 C E M ML MR MV MY ko to f g kK kB kP f2 g2 tK tB tP hRel hRK H locs ls hP hD hS hl
        refine lv_iinc (v := x3 + 7) (lv' := [(3, .int (x3 + 7)), (0, .ref b), (1, .ref (ad 0)), (2, .ref (am 0))]) hx hb dL_law_2361 hl (k := 3) rfl rfl (by decide) rfl (fun ls hl => ?_)
        refine lv_goto (tgt := 18) hx hb dL_law_2364 (by decide) ?_
        refine W.widen (k := 71 + (k + 1) * 37) (n := 2663 + (k + 1) * 1224) hc5 hs5 ?_
        exact ih (k + 1) (x3 + 7) (by rw [e3, show (7 : Int32) = nI 7 from rfl, nI_add]; rfl) (by omega) (by omega) _ _ _ _ _ _ _ _ _ _ _ _ _ _ _ _ _ _ _ hRel hRK H locs ls hP hD hS (lv_sub hl [1, 2, 3, 0] rfl)
      refine lv_aload_n hx hb dL_law_27 rfl (lv_at hl 0 rfl) ?_
      refine lv_iload_n hx hb dL_law_28 rfl (lv_at hl 3 rfl) ?_
      refine va_sld hx hb hX hbl hbA hS (by have := hin 0 (by decide); rwa [show x3 + Int32.ofNat 0 = x3 from by rw [e3]; exact nI_add _ 0] at this) dL_law_29 ?_
      refine lv_bipush (v := (63 : Int32)) hx hb dL_law_30 (by decide) ?_
      refine lv_iand hx hb dL_law_32 ?_
      generalize hv : (xs x3.toNatClampNeg &&& (63 : Int32)) = v
      by_cases c0 : v = (0 : Int32)
      · have he : v.toInt = 0 := by rw [c0]; decide
        refine lv_tableIn (tgt := 264) (off := 231) hx hb dL_law_33 (by rw [he]; decide) (by rw [he]; decide) (by rw [he]; rfl) (by decide) ?_
        obtain ⟨oX, oM, hoX, hoM, heq, hR2⟩ := R_0 fu C E M ML MR MV MY hRel (xs (x3 + (1 : Int32)).toNatClampNeg) (xs (x3 + (2 : Int32)).toNatClampNeg) (xs (x3 + (3 : Int32)).toNatClampNeg)
        exact law_0 hLC fu ad am _ _ C E M ML MR MV MY _ x3 _ _ _ rfl rfl rfl hin oX hoX oM hoM heq hcs (fun H locs ls hP hD hS hl => next _ _ (by omega) (by omega) _ _ _ _ _ _ _ ko to f g kK kB kP f2 g2 tK tB tP hR2 hRK H locs ls hP hD hS hl) H locs ls hP hD hS hl
      by_cases c1 : v = (1 : Int32)
      · have he : v.toInt = 1 := by rw [c1]; decide
        refine lv_tableIn (tgt := 307) (off := 274) hx hb dL_law_33 (by rw [he]; decide) (by rw [he]; decide) (by rw [he]; rfl) (by decide) ?_
        obtain ⟨oX, oM, hoX, hoM, heq, hR2⟩ := R_1 fu C E M ML MR MV MY hRel (xs (x3 + (1 : Int32)).toNatClampNeg) (xs (x3 + (2 : Int32)).toNatClampNeg) (xs (x3 + (3 : Int32)).toNatClampNeg) (xs (x3 + (4 : Int32)).toNatClampNeg)
        exact law_1 hLC fu ad am _ _ C E M ML MR MV MY _ x3 _ _ _ _ rfl rfl rfl rfl hin oX hoX oM hoM heq hcs (fun H locs ls hP hD hS hl => next _ _ (by omega) (by omega) _ _ _ _ _ _ _ ko to f g kK kB kP f2 g2 tK tB tP hR2 hRK H locs ls hP hD hS hl) H locs ls hP hD hS hl
      by_cases c2 : v = (2 : Int32)
      · have he : v.toInt = 2 := by rw [c2]; decide
        refine lv_tableIn (tgt := 380) (off := 347) hx hb dL_law_33 (by rw [he]; decide) (by rw [he]; decide) (by rw [he]; rfl) (by decide) ?_
        obtain ⟨oX, oM, hoX, hoM, heq, hR2⟩ := R_2 fu C E M ML MR MV MY hRel (xs (x3 + (1 : Int32)).toNatClampNeg) (xs (x3 + (2 : Int32)).toNatClampNeg) (xs (x3 + (3 : Int32)).toNatClampNeg) (xs (x3 + (4 : Int32)).toNatClampNeg) (xs (x3 + (5 : Int32)).toNatClampNeg)
        exact law_2 hLC fu ad am _ _ C E M ML MR MV MY _ x3 _ _ _ _ _ rfl rfl rfl rfl rfl hin oX hoX oM hoM heq hcs (fun H locs ls hP hD hS hl => next _ _ (by omega) (by omega) _ _ _ _ _ _ _ ko to f g kK kB kP f2 g2 tK tB tP hR2 hRK H locs ls hP hD hS hl) H locs ls hP hD hS hl
      by_cases c3 : v = (3 : Int32)
      · have he : v.toInt = 3 := by rw [c3]; decide
        refine lv_tableIn (tgt := 443) (off := 410) hx hb dL_law_33 (by rw [he]; decide) (by rw [he]; decide) (by rw [he]; rfl) (by decide) ?_
        obtain ⟨oX, oM, hoX, hoM, heq, hR2⟩ := R_3 fu C E M ML MR MV MY hRel (xs (x3 + (1 : Int32)).toNatClampNeg) (xs (x3 + (2 : Int32)).toNatClampNeg)
        exact law_3 hLC fu ad am _ _ C E M ML MR MV MY _ x3 _ _ rfl rfl hin oX hoX oM hoM heq hcs (fun H locs ls hP hD hS hl => next _ _ (by omega) (by omega) _ _ _ _ _ _ _ ko to f g kK kB kP f2 g2 tK tB tP hR2 hRK H locs ls hP hD hS hl) H locs ls hP hD hS hl
      by_cases c4 : v = (4 : Int32)
      · have he : v.toInt = 4 := by rw [c4]; decide
        refine lv_tableIn (tgt := 477) (off := 444) hx hb dL_law_33 (by rw [he]; decide) (by rw [he]; decide) (by rw [he]; rfl) (by decide) ?_
        obtain ⟨oX, oM, hoX, hoM, heq, hR2⟩ := R_4 fu C E M ML MR MV MY hRel (xs (x3 + (1 : Int32)).toNatClampNeg)
        exact law_4 hLC fu ad am _ _ C E M ML MR MV MY _ x3 _ rfl hin oX hoX oM hoM heq hcs (fun H locs ls hP hD hS hl => next _ _ (by omega) (by omega) _ _ _ _ _ _ _ ko to f g kK kB kP f2 g2 tK tB tP hR2 hRK H locs ls hP hD hS hl) H locs ls hP hD hS hl
      by_cases c5 : v = (5 : Int32)
      · have he : v.toInt = 5 := by rw [c5]; decide
        refine lv_tableIn (tgt := 500) (off := 467) hx hb dL_law_33 (by rw [he]; decide) (by rw [he]; decide) (by rw [he]; rfl) (by decide) ?_
        obtain ⟨oX, oM, hoX, hoM, heq, hR2⟩ := R_5 fu C E M ML MR MV MY hRel (xs (x3 + (1 : Int32)).toNatClampNeg) (xs (x3 + (2 : Int32)).toNatClampNeg)
        exact law_5 hLC fu ad am _ _ C E M ML MR MV MY _ x3 _ _ rfl rfl hin oX hoX oM hoM heq hcs (fun H locs ls hP hD hS hl => next _ _ (by omega) (by omega) _ _ _ _ _ _ _ ko to f g kK kB kP f2 g2 tK tB tP hR2 hRK H locs ls hP hD hS hl) H locs ls hP hD hS hl
      by_cases c6 : v = (6 : Int32)
      · have he : v.toInt = 6 := by rw [c6]; decide
        refine lv_tableIn (tgt := 533) (off := 500) hx hb dL_law_33 (by rw [he]; decide) (by rw [he]; decide) (by rw [he]; rfl) (by decide) ?_
        obtain ⟨oX, oM, hoX, hoM, heq, hR2⟩ := R_6 fu C E M ML MR MV MY hRel (xs (x3 + (1 : Int32)).toNatClampNeg) (xs (x3 + (2 : Int32)).toNatClampNeg)
        exact law_6 hLC fu ad am _ _ C E M ML MR MV MY _ x3 _ _ rfl rfl hin oX hoX oM hoM heq hcs (fun H locs ls hP hD hS hl => next _ _ (by omega) (by omega) _ _ _ _ _ _ _ ko to f g kK kB kP f2 g2 tK tB tP hR2 hRK H locs ls hP hD hS hl) H locs ls hP hD hS hl
      by_cases c7 : v = (7 : Int32)
      · have he : v.toInt = 7 := by rw [c7]; decide
        refine lv_tableIn (tgt := 566) (off := 533) hx hb dL_law_33 (by rw [he]; decide) (by rw [he]; decide) (by rw [he]; rfl) (by decide) ?_
        obtain ⟨oX, oM, hoX, hoM, heq, hR2⟩ := R_7 fu C E M ML MR MV MY hRel (xs (x3 + (1 : Int32)).toNatClampNeg) (xs (x3 + (2 : Int32)).toNatClampNeg) (xs (x3 + (3 : Int32)).toNatClampNeg)
        exact law_7 hLC fu ad am _ _ C E M ML MR MV MY _ x3 _ _ _ rfl rfl rfl hin oX hoX oM hoM heq hcs (fun H locs ls hP hD hS hl => next _ _ (by omega) (by omega) _ _ _ _ _ _ _ ko to f g kK kB kP f2 g2 tK tB tP hR2 hRK H locs ls hP hD hS hl) H locs ls hP hD hS hl
      by_cases c8 : v = (8 : Int32)
      · have he : v.toInt = 8 := by rw [c8]; decide
        refine lv_tableIn (tgt := 609) (off := 576) hx hb dL_law_33 (by rw [he]; decide) (by rw [he]; decide) (by rw [he]; rfl) (by decide) ?_
        obtain ⟨oX, oM, hoX, hoM, heq, hR2⟩ := R_8 fu C E M ML MR MV MY hRel (xs (x3 + (1 : Int32)).toNatClampNeg) (xs (x3 + (2 : Int32)).toNatClampNeg)
        exact law_8 hLC fu ad am _ _ C E M ML MR MV MY _ x3 _ _ rfl rfl hin oX hoX oM hoM heq hcs (fun H locs ls hP hD hS hl => next _ _ (by omega) (by omega) _ _ _ _ _ _ _ ko to f g kK kB kP f2 g2 tK tB tP hR2 hRK H locs ls hP hD hS hl) H locs ls hP hD hS hl
      by_cases c9 : v = (9 : Int32)
      · have he : v.toInt = 9 := by rw [c9]; decide
        refine lv_tableIn (tgt := 642) (off := 609) hx hb dL_law_33 (by rw [he]; decide) (by rw [he]; decide) (by rw [he]; rfl) (by decide) ?_
        obtain ⟨oX, oM, hoX, hoM, heq, hR2⟩ := R_9 fu C E M ML MR MV MY hRel (xs (x3 + (1 : Int32)).toNatClampNeg) (xs (x3 + (2 : Int32)).toNatClampNeg)
        exact law_9 hLC fu ad am _ _ C E M ML MR MV MY _ x3 _ _ rfl rfl hin oX hoX oM hoM heq hcs (fun H locs ls hP hD hS hl => next _ _ (by omega) (by omega) _ _ _ _ _ _ _ ko to f g kK kB kP f2 g2 tK tB tP hR2 hRK H locs ls hP hD hS hl) H locs ls hP hD hS hl
      by_cases c10 : v = (10 : Int32)
      · have he : v.toInt = 10 := by rw [c10]; decide
        refine lv_tableIn (tgt := 675) (off := 642) hx hb dL_law_33 (by rw [he]; decide) (by rw [he]; decide) (by rw [he]; rfl) (by decide) ?_
        obtain ⟨oX, oM, hoX, hoM, heq, hR2⟩ := R_10 fu C E M ML MR MV MY hRel (xs (x3 + (1 : Int32)).toNatClampNeg) (xs (x3 + (2 : Int32)).toNatClampNeg)
        exact law_10 hLC fu ad am _ _ C E M ML MR MV MY _ x3 _ _ rfl rfl hin oX hoX oM hoM heq hcs (fun H locs ls hP hD hS hl => next _ _ (by omega) (by omega) _ _ _ _ _ _ _ ko to f g kK kB kP f2 g2 tK tB tP hR2 hRK H locs ls hP hD hS hl) H locs ls hP hD hS hl
      by_cases c11 : v = (11 : Int32)
      · have he : v.toInt = 11 := by rw [c11]; decide
        refine lv_tableIn (tgt := 708) (off := 675) hx hb dL_law_33 (by rw [he]; decide) (by rw [he]; decide) (by rw [he]; rfl) (by decide) ?_
        obtain ⟨oX, oM, hoX, hoM, heq, hR2⟩ := R_11 fu C E M ML MR MV MY hRel (xs (x3 + (1 : Int32)).toNatClampNeg)
        exact law_11 hLC fu ad am _ _ C E M ML MR MV MY _ x3 _ rfl hin oX hoX oM hoM heq hcs (fun H locs ls hP hD hS hl => next _ _ (by omega) (by omega) _ _ _ _ _ _ _ ko to f g kK kB kP f2 g2 tK tB tP hR2 hRK H locs ls hP hD hS hl) H locs ls hP hD hS hl
      by_cases c12 : v = (12 : Int32)
      · have he : v.toInt = 12 := by rw [c12]; decide
        refine lv_tableIn (tgt := 731) (off := 698) hx hb dL_law_33 (by rw [he]; decide) (by rw [he]; decide) (by rw [he]; rfl) (by decide) ?_
        obtain ⟨oX, oM, hoX, hoM, heq, hR2⟩ := R_12 fu C E M ML MR MV MY hRel 
        exact law_12 hLC fu ad am _ _ C E M ML MR MV MY _ x3   hin oX hoX oM hoM heq hcs (fun H locs ls hP hD hS hl => next _ _ (by omega) (by omega) _ _ _ _ _ _ _ ko to f g kK kB kP f2 g2 tK tB tP hR2 hRK H locs ls hP hD hS hl) H locs ls hP hD hS hl
      by_cases c13 : v = (13 : Int32)
      · have he : v.toInt = 13 := by rw [c13]; decide
        refine lv_tableIn (tgt := 744) (off := 711) hx hb dL_law_33 (by rw [he]; decide) (by rw [he]; decide) (by rw [he]; rfl) (by decide) ?_
        cases to with
        | none =>
          obtain ⟨oX, oM, hoX, hoM, heq, hR2⟩ := R_13_a fu C E M ML MR MV MY hRel
          have hP5 : va_P D CL ((wL cA ad am (kvO ko) (kvO none) C E M ML MR MV MY) ++ w4 cA ko f g kK kB kP) H := by
            rw [show w4 cA none f2 g2 tK tB tP = [] from rfl, List.append_nil] at hP; exact hP
          have hD5 : va_D (fun q : Nat => s.heap.size ≤ q) ((wL cA ad am (kvO ko) (kvO none) C E M ML MR MV MY) ++ w4 cA ko f g kK kB kP) := by
            rw [show w4 cA none f2 g2 tK tB tP = [] from rfl, List.append_nil] at hD; exact hD
          exact law_13_a hLC fu ad am (kvO ko) .null C E M ML MR MV MY (w4 cA ko f g kK kB kP) x3 oX hoX oM hoM heq hcs hcs2 (fun km H locs ls hP hD hS hl => next _ _ (by omega) (by omega) _ _ _ _ _ _ _ ko (some km) f g kK kB kP _ _ _ _ _ hR2 hRK H locs ls (by have h9 := hP.swap; rw [List.append_assoc] at h9; exact h9) (by have h9 := hD.swap; rw [List.append_assoc] at h9; exact h9) hS hl) H locs ls hP5 hD5 hS hl
        | some km =>
          obtain ⟨oX, oM, hoX, hoM, heq, hR2⟩ := R_13_r fu C E M ML MR MV MY f2 g2 tK tB tP hRel
          have hP5 : va_P D CL ((wL cA ad am (kvO ko) (kvO (some km)) C E M ML MR MV MY ++ [(km 0, e_X6 km .null .null f2 g2), (km 17, eI cA 8 tK), (km 18, eI cA 8 tB), (km 19, eI cA 8 tP)]) ++ w4 cA ko f g kK kB kP) H := by
            rw [← List.append_assoc] at hP; exact hP.swap
          have hD5 : va_D (fun q : Nat => s.heap.size ≤ q) ((wL cA ad am (kvO ko) (kvO (some km)) C E M ML MR MV MY ++ [(km 0, e_X6 km .null .null f2 g2), (km 17, eI cA 8 tK), (km 18, eI cA 8 tB), (km 19, eI cA 8 tP)]) ++ w4 cA ko f g kK kB kP) := by
            rw [← List.append_assoc] at hD; exact hD.swap
          exact law_13_r hLC fu ad am (kvO ko) .null C E M ML MR MV MY km f2 g2 tK tB tP (w4 cA ko f g kK kB kP) x3 oX hoX oM hoM heq hcs (fun H locs ls hP hD hS hl => next _ _ (by omega) (by omega) _ _ _ _ _ _ _ ko (some km) f g kK kB kP _ _ _ _ _ hR2 hRK H locs ls (by have h9 := hP.swap; rw [List.append_assoc] at h9; exact h9) (by have h9 := hD.swap; rw [List.append_assoc] at h9; exact h9) hS hl) H locs ls hP5 hD5 hS hl
      by_cases c14 : v = (14 : Int32)
      · have he : v.toInt = 14 := by rw [c14]; decide
        refine lv_tableIn (tgt := 757) (off := 724) hx hb dL_law_33 (by rw [he]; decide) (by rw [he]; decide) (by rw [he]; rfl) (by decide) ?_
        obtain ⟨oX, oM, hoX, hoM, heq, hR2⟩ := R_14 fu C E M ML MR MV MY hRel (xs (x3 + (1 : Int32)).toNatClampNeg) (xs (x3 + (2 : Int32)).toNatClampNeg)
        exact law_14 hLC fu ad am _ _ C E M ML MR MV MY _ x3 _ _ rfl rfl hin oX hoX oM hoM heq hcs (fun H locs ls hP hD hS hl => next _ _ (by omega) (by omega) _ _ _ _ _ _ _ ko to f g kK kB kP f2 g2 tK tB tP hR2 hRK H locs ls hP hD hS hl) H locs ls hP hD hS hl
      by_cases c15 : v = (15 : Int32)
      · have he : v.toInt = 15 := by rw [c15]; decide
        refine lv_tableIn (tgt := 790) (off := 757) hx hb dL_law_33 (by rw [he]; decide) (by rw [he]; decide) (by rw [he]; rfl) (by decide) ?_
        obtain ⟨oX, oM, hoX, hoM, heq, hR2⟩ := R_15 fu C E M ML MR MV MY hRel (xs (x3 + (1 : Int32)).toNatClampNeg) (xs (x3 + (2 : Int32)).toNatClampNeg)
        exact law_15 hLC fu ad am _ _ C E M ML MR MV MY _ x3 _ _ rfl rfl hin oX hoX oM hoM heq hcs (fun H locs ls hP hD hS hl => next _ _ (by omega) (by omega) _ _ _ _ _ _ _ ko to f g kK kB kP f2 g2 tK tB tP hR2 hRK H locs ls hP hD hS hl) H locs ls hP hD hS hl
      by_cases c16 : v = (16 : Int32)
      · have he : v.toInt = 16 := by rw [c16]; decide
        refine lv_tableIn (tgt := 823) (off := 790) hx hb dL_law_33 (by rw [he]; decide) (by rw [he]; decide) (by rw [he]; rfl) (by decide) ?_
        obtain ⟨oX, oM, hoX, hoM, heq, hR2⟩ := R_16 fu C E M ML MR MV MY hRel (xs (x3 + (1 : Int32)).toNatClampNeg)
        exact law_16 hLC fu ad am _ _ C E M ML MR MV MY _ x3 _ rfl hin oX hoX oM hoM heq hcs (fun H locs ls hP hD hS hl => next _ _ (by omega) (by omega) _ _ _ _ _ _ _ ko to f g kK kB kP f2 g2 tK tB tP hR2 hRK H locs ls hP hD hS hl) H locs ls hP hD hS hl
      by_cases c17 : v = (17 : Int32)
      · have he : v.toInt = 17 := by rw [c17]; decide
        refine lv_tableIn (tgt := 846) (off := 813) hx hb dL_law_33 (by rw [he]; decide) (by rw [he]; decide) (by rw [he]; rfl) (by decide) ?_
        obtain ⟨oX, oM, hoX, hoM, heq, hR2⟩ := R_17 fu C E M ML MR MV MY hRel (xs (x3 + (1 : Int32)).toNatClampNeg) (xs (x3 + (2 : Int32)).toNatClampNeg) (xs (x3 + (3 : Int32)).toNatClampNeg) (xs (x3 + (4 : Int32)).toNatClampNeg)
        exact law_17 hLC fu ad am _ _ C E M ML MR MV MY _ x3 _ _ _ _ rfl rfl rfl rfl hin oX hoX oM hoM heq hcs (fun H locs ls hP hD hS hl => next _ _ (by omega) (by omega) _ _ _ _ _ _ _ ko to f g kK kB kP f2 g2 tK tB tP hR2 hRK H locs ls hP hD hS hl) H locs ls hP hD hS hl
      by_cases c18 : v = (18 : Int32)
      · have he : v.toInt = 18 := by rw [c18]; decide
        refine lv_tableIn (tgt := 899) (off := 866) hx hb dL_law_33 (by rw [he]; decide) (by rw [he]; decide) (by rw [he]; rfl) (by decide) ?_
        obtain ⟨oX, oM, hoX, hoM, heq, hR2⟩ := R_18 fu C E M ML MR MV MY hRel (xs (x3 + (1 : Int32)).toNatClampNeg) (xs (x3 + (2 : Int32)).toNatClampNeg) (xs (x3 + (3 : Int32)).toNatClampNeg)
        exact law_18 hLC fu ad am _ _ C E M ML MR MV MY _ x3 _ _ _ rfl rfl rfl hin oX hoX oM hoM heq hcs (fun H locs ls hP hD hS hl => next _ _ (by omega) (by omega) _ _ _ _ _ _ _ ko to f g kK kB kP f2 g2 tK tB tP hR2 hRK H locs ls hP hD hS hl) H locs ls hP hD hS hl
      by_cases c19 : v = (19 : Int32)
      · have he : v.toInt = 19 := by rw [c19]; decide
        refine lv_tableIn (tgt := 942) (off := 909) hx hb dL_law_33 (by rw [he]; decide) (by rw [he]; decide) (by rw [he]; rfl) (by decide) ?_
        obtain ⟨oX, oM, hoX, hoM, heq, hR2⟩ := R_19 fu C E M ML MR MV MY hRel (xs (x3 + (1 : Int32)).toNatClampNeg) (xs (x3 + (2 : Int32)).toNatClampNeg) (xs (x3 + (3 : Int32)).toNatClampNeg)
        exact law_19 hLC fu ad am _ _ C E M ML MR MV MY _ x3 _ _ _ rfl rfl rfl hin oX hoX oM hoM heq hcs (fun H locs ls hP hD hS hl => next _ _ (by omega) (by omega) _ _ _ _ _ _ _ ko to f g kK kB kP f2 g2 tK tB tP hR2 hRK H locs ls hP hD hS hl) H locs ls hP hD hS hl
      by_cases c20 : v = (20 : Int32)
      · have he : v.toInt = 20 := by rw [c20]; decide
        refine lv_tableIn (tgt := 985) (off := 952) hx hb dL_law_33 (by rw [he]; decide) (by rw [he]; decide) (by rw [he]; rfl) (by decide) ?_
        obtain ⟨oX, oM, hoX, hoM, heq, hR2⟩ := R_20 fu C E M ML MR MV MY hRel (xs (x3 + (1 : Int32)).toNatClampNeg) (xs (x3 + (2 : Int32)).toNatClampNeg)
        exact law_20 hLC fu ad am _ _ C E M ML MR MV MY _ x3 _ _ rfl rfl hin oX hoX oM hoM heq hcs (fun H locs ls hP hD hS hl => next _ _ (by omega) (by omega) _ _ _ _ _ _ _ ko to f g kK kB kP f2 g2 tK tB tP hR2 hRK H locs ls hP hD hS hl) H locs ls hP hD hS hl
      by_cases c21 : v = (21 : Int32)
      · have he : v.toInt = 21 := by rw [c21]; decide
        refine lv_tableIn (tgt := 1018) (off := 985) hx hb dL_law_33 (by rw [he]; decide) (by rw [he]; decide) (by rw [he]; rfl) (by decide) ?_
        obtain ⟨oX, oM, hoX, hoM, heq, hR2⟩ := R_21 fu C E M ML MR MV MY hRel (xs (x3 + (1 : Int32)).toNatClampNeg) (xs (x3 + (2 : Int32)).toNatClampNeg) (xs (x3 + (3 : Int32)).toNatClampNeg)
        exact law_21 hLC fu ad am _ _ C E M ML MR MV MY _ x3 _ _ _ rfl rfl rfl hin oX hoX oM hoM heq hcs (fun H locs ls hP hD hS hl => next _ _ (by omega) (by omega) _ _ _ _ _ _ _ ko to f g kK kB kP f2 g2 tK tB tP hR2 hRK H locs ls hP hD hS hl) H locs ls hP hD hS hl
      by_cases c22 : v = (22 : Int32)
      · have he : v.toInt = 22 := by rw [c22]; decide
        refine lv_tableIn (tgt := 1061) (off := 1028) hx hb dL_law_33 (by rw [he]; decide) (by rw [he]; decide) (by rw [he]; rfl) (by decide) ?_
        obtain ⟨oX, oM, hoX, hoM, heq, hR2⟩ := R_22 fu C E M ML MR MV MY hRel (xs (x3 + (1 : Int32)).toNatClampNeg) (xs (x3 + (2 : Int32)).toNatClampNeg) (xs (x3 + (3 : Int32)).toNatClampNeg)
        exact law_22 hLC fu ad am _ _ C E M ML MR MV MY _ x3 _ _ _ rfl rfl rfl hin oX hoX oM hoM heq hcs (fun H locs ls hP hD hS hl => next _ _ (by omega) (by omega) _ _ _ _ _ _ _ ko to f g kK kB kP f2 g2 tK tB tP hR2 hRK H locs ls hP hD hS hl) H locs ls hP hD hS hl
      by_cases c23 : v = (23 : Int32)
      · have he : v.toInt = 23 := by rw [c23]; decide
        refine lv_tableIn (tgt := 1104) (off := 1071) hx hb dL_law_33 (by rw [he]; decide) (by rw [he]; decide) (by rw [he]; rfl) (by decide) ?_
        obtain ⟨oX, oM, hoX, hoM, heq, hR2⟩ := R_23 fu C E M ML MR MV MY hRel (xs (x3 + (1 : Int32)).toNatClampNeg) (xs (x3 + (2 : Int32)).toNatClampNeg) (xs (x3 + (3 : Int32)).toNatClampNeg) (xs (x3 + (4 : Int32)).toNatClampNeg)
        exact law_23 hLC fu ad am _ _ C E M ML MR MV MY _ x3 _ _ _ _ rfl rfl rfl rfl hin oX hoX oM hoM heq hcs (fun H locs ls hP hD hS hl => next _ _ (by omega) (by omega) _ _ _ _ _ _ _ ko to f g kK kB kP f2 g2 tK tB tP hR2 hRK H locs ls hP hD hS hl) H locs ls hP hD hS hl
      by_cases c24 : v = (24 : Int32)
      · have he : v.toInt = 24 := by rw [c24]; decide
        refine lv_tableIn (tgt := 1157) (off := 1124) hx hb dL_law_33 (by rw [he]; decide) (by rw [he]; decide) (by rw [he]; rfl) (by decide) ?_
        obtain ⟨oX, oM, hoX, hoM, heq, hR2⟩ := R_24 fu C E M ML MR MV MY hRel (xs (x3 + (1 : Int32)).toNatClampNeg) (xs (x3 + (2 : Int32)).toNatClampNeg) (xs (x3 + (3 : Int32)).toNatClampNeg)
        exact law_24 hLC fu ad am _ _ C E M ML MR MV MY _ x3 _ _ _ rfl rfl rfl hin oX hoX oM hoM heq hcs (fun H locs ls hP hD hS hl => next _ _ (by omega) (by omega) _ _ _ _ _ _ _ ko to f g kK kB kP f2 g2 tK tB tP hR2 hRK H locs ls hP hD hS hl) H locs ls hP hD hS hl
      by_cases c25 : v = (25 : Int32)
      · have he : v.toInt = 25 := by rw [c25]; decide
        refine lv_tableIn (tgt := 1200) (off := 1167) hx hb dL_law_33 (by rw [he]; decide) (by rw [he]; decide) (by rw [he]; rfl) (by decide) ?_
        obtain ⟨oX, oM, hoX, hoM, heq, hR2⟩ := R_25 fu C E M ML MR MV MY hRel (xs (x3 + (1 : Int32)).toNatClampNeg) (xs (x3 + (2 : Int32)).toNatClampNeg) (xs (x3 + (3 : Int32)).toNatClampNeg)
        exact law_25 hLC fu ad am _ _ C E M ML MR MV MY _ x3 _ _ _ rfl rfl rfl hin oX hoX oM hoM heq hcs (fun H locs ls hP hD hS hl => next _ _ (by omega) (by omega) _ _ _ _ _ _ _ ko to f g kK kB kP f2 g2 tK tB tP hR2 hRK H locs ls hP hD hS hl) H locs ls hP hD hS hl
      by_cases c26 : v = (26 : Int32)
      · have he : v.toInt = 26 := by rw [c26]; decide
        refine lv_tableIn (tgt := 1243) (off := 1210) hx hb dL_law_33 (by rw [he]; decide) (by rw [he]; decide) (by rw [he]; rfl) (by decide) ?_
        obtain ⟨oX, oM, hoX, hoM, heq, hR2⟩ := R_26 fu C E M ML MR MV MY hRel (xs (x3 + (1 : Int32)).toNatClampNeg) (xs (x3 + (2 : Int32)).toNatClampNeg)
        exact law_26 hLC fu ad am _ _ C E M ML MR MV MY _ x3 _ _ rfl rfl hin oX hoX oM hoM heq hcs (fun H locs ls hP hD hS hl => next _ _ (by omega) (by omega) _ _ _ _ _ _ _ ko to f g kK kB kP f2 g2 tK tB tP hR2 hRK H locs ls hP hD hS hl) H locs ls hP hD hS hl
      by_cases c27 : v = (27 : Int32)
      · have he : v.toInt = 27 := by rw [c27]; decide
        refine lv_tableIn (tgt := 1276) (off := 1243) hx hb dL_law_33 (by rw [he]; decide) (by rw [he]; decide) (by rw [he]; rfl) (by decide) ?_
        obtain ⟨oX, oM, hoX, hoM, heq, hR2⟩ := R_27 fu C E M ML MR MV MY hRel (xs (x3 + (1 : Int32)).toNatClampNeg) (xs (x3 + (2 : Int32)).toNatClampNeg) (xs (x3 + (3 : Int32)).toNatClampNeg) (xs (x3 + (4 : Int32)).toNatClampNeg) (xs (x3 + (5 : Int32)).toNatClampNeg) (xs (x3 + (6 : Int32)).toNatClampNeg)
        exact law_27 hLC fu ad am _ _ C E M ML MR MV MY _ x3 _ _ _ _ _ _ rfl rfl rfl rfl rfl rfl hin oX hoX oM hoM heq hcs (fun H locs ls hP hD hS hl => next _ _ (by omega) (by omega) _ _ _ _ _ _ _ ko to f g kK kB kP f2 g2 tK tB tP hR2 hRK H locs ls hP hD hS hl) H locs ls hP hD hS hl
      by_cases c28 : v = (28 : Int32)
      · have he : v.toInt = 28 := by rw [c28]; decide
        refine lv_tableIn (tgt := 1351) (off := 1318) hx hb dL_law_33 (by rw [he]; decide) (by rw [he]; decide) (by rw [he]; rfl) (by decide) ?_
        obtain ⟨oX, oM, hoX, hoM, heq, hR2⟩ := R_28 fu C E M ML MR MV MY hRel (xs (x3 + (1 : Int32)).toNatClampNeg) (xs (x3 + (2 : Int32)).toNatClampNeg) (xs (x3 + (3 : Int32)).toNatClampNeg) (xs (x3 + (4 : Int32)).toNatClampNeg) (xs (x3 + (5 : Int32)).toNatClampNeg) (xs (x3 + (6 : Int32)).toNatClampNeg)
        exact law_28 hLC fu ad am _ _ C E M ML MR MV MY _ x3 _ _ _ _ _ _ rfl rfl rfl rfl rfl rfl hin oX hoX oM hoM heq hcs (fun H locs ls hP hD hS hl => next _ _ (by omega) (by omega) _ _ _ _ _ _ _ ko to f g kK kB kP f2 g2 tK tB tP hR2 hRK H locs ls hP hD hS hl) H locs ls hP hD hS hl
      by_cases c29 : v = (29 : Int32)
      · have he : v.toInt = 29 := by rw [c29]; decide
        refine lv_tableIn (tgt := 1426) (off := 1393) hx hb dL_law_33 (by rw [he]; decide) (by rw [he]; decide) (by rw [he]; rfl) (by decide) ?_
        obtain ⟨oX, oM, hoX, hoM, heq, hR2⟩ := R_29 fu C E M ML MR MV MY hRel (xs (x3 + (1 : Int32)).toNatClampNeg) (xs (x3 + (2 : Int32)).toNatClampNeg) (xs (x3 + (3 : Int32)).toNatClampNeg) (xs (x3 + (4 : Int32)).toNatClampNeg) (xs (x3 + (5 : Int32)).toNatClampNeg)
        exact law_29 hLC fu ad am _ _ C E M ML MR MV MY _ x3 _ _ _ _ _ rfl rfl rfl rfl rfl hin oX hoX oM hoM heq hcs (fun H locs ls hP hD hS hl => next _ _ (by omega) (by omega) _ _ _ _ _ _ _ ko to f g kK kB kP f2 g2 tK tB tP hR2 hRK H locs ls hP hD hS hl) H locs ls hP hD hS hl
      by_cases c30 : v = (30 : Int32)
      · have he : v.toInt = 30 := by rw [c30]; decide
        refine lv_tableIn (tgt := 1489) (off := 1456) hx hb dL_law_33 (by rw [he]; decide) (by rw [he]; decide) (by rw [he]; rfl) (by decide) ?_
        obtain ⟨oX, oM, hoX, hoM, heq, hR2⟩ := R_30 fu C E M ML MR MV MY hRel (xs (x3 + (1 : Int32)).toNatClampNeg) (xs (x3 + (2 : Int32)).toNatClampNeg) (xs (x3 + (3 : Int32)).toNatClampNeg) (xs (x3 + (4 : Int32)).toNatClampNeg) (xs (x3 + (5 : Int32)).toNatClampNeg)
        exact law_30 hLC fu ad am _ _ C E M ML MR MV MY _ x3 _ _ _ _ _ rfl rfl rfl rfl rfl hin oX hoX oM hoM heq hcs (fun H locs ls hP hD hS hl => next _ _ (by omega) (by omega) _ _ _ _ _ _ _ ko to f g kK kB kP f2 g2 tK tB tP hR2 hRK H locs ls hP hD hS hl) H locs ls hP hD hS hl
      by_cases c31 : v = (31 : Int32)
      · have he : v.toInt = 31 := by rw [c31]; decide
        refine lv_tableIn (tgt := 1552) (off := 1519) hx hb dL_law_33 (by rw [he]; decide) (by rw [he]; decide) (by rw [he]; rfl) (by decide) ?_
        obtain ⟨oX, oM, hoX, hoM, heq, hR2⟩ := R_31 fu C E M ML MR MV MY hRel (xs (x3 + (1 : Int32)).toNatClampNeg) (xs (x3 + (2 : Int32)).toNatClampNeg) (xs (x3 + (3 : Int32)).toNatClampNeg)
        exact law_31 hLC fu ad am _ _ C E M ML MR MV MY _ x3 _ _ _ rfl rfl rfl hin oX hoX oM hoM heq hcs (fun H locs ls hP hD hS hl => next _ _ (by omega) (by omega) _ _ _ _ _ _ _ ko to f g kK kB kP f2 g2 tK tB tP hR2 hRK H locs ls hP hD hS hl) H locs ls hP hD hS hl
      by_cases c32 : v = (32 : Int32)
      · have he : v.toInt = 32 := by rw [c32]; decide
        refine lv_tableIn (tgt := 1595) (off := 1562) hx hb dL_law_33 (by rw [he]; decide) (by rw [he]; decide) (by rw [he]; rfl) (by decide) ?_
        obtain ⟨oX, oM, hoX, hoM, heq, hR2⟩ := R_32 fu C E M ML MR MV MY hRel (xs (x3 + (1 : Int32)).toNatClampNeg) (xs (x3 + (2 : Int32)).toNatClampNeg) (xs (x3 + (3 : Int32)).toNatClampNeg) (xs (x3 + (4 : Int32)).toNatClampNeg) (xs (x3 + (5 : Int32)).toNatClampNeg)
        exact law_32 hLC fu ad am _ _ C E M ML MR MV MY _ x3 _ _ _ _ _ rfl rfl rfl rfl rfl hin oX hoX oM hoM heq hcs (fun H locs ls hP hD hS hl => next _ _ (by omega) (by omega) _ _ _ _ _ _ _ ko to f g kK kB kP f2 g2 tK tB tP hR2 hRK H locs ls hP hD hS hl) H locs ls hP hD hS hl
      by_cases c33 : v = (33 : Int32)
      · have he : v.toInt = 33 := by rw [c33]; decide
        refine lv_tableIn (tgt := 1658) (off := 1625) hx hb dL_law_33 (by rw [he]; decide) (by rw [he]; decide) (by rw [he]; rfl) (by decide) ?_
        obtain ⟨oX, oM, hoX, hoM, heq, hR2⟩ := R_33 fu C E M ML MR MV MY hRel (xs (x3 + (1 : Int32)).toNatClampNeg) (xs (x3 + (2 : Int32)).toNatClampNeg) (xs (x3 + (3 : Int32)).toNatClampNeg) (xs (x3 + (4 : Int32)).toNatClampNeg) (xs (x3 + (5 : Int32)).toNatClampNeg)
        exact law_33 hLC fu ad am _ _ C E M ML MR MV MY _ x3 _ _ _ _ _ rfl rfl rfl rfl rfl hin oX hoX oM hoM heq hcs (fun H locs ls hP hD hS hl => next _ _ (by omega) (by omega) _ _ _ _ _ _ _ ko to f g kK kB kP f2 g2 tK tB tP hR2 hRK H locs ls hP hD hS hl) H locs ls hP hD hS hl
      by_cases c34 : v = (34 : Int32)
      · have he : v.toInt = 34 := by rw [c34]; decide
        refine lv_tableIn (tgt := 1721) (off := 1688) hx hb dL_law_33 (by rw [he]; decide) (by rw [he]; decide) (by rw [he]; rfl) (by decide) ?_
        obtain ⟨oX, oM, hoX, hoM, heq, hR2⟩ := R_34 fu C E M ML MR MV MY hRel (xs (x3 + (1 : Int32)).toNatClampNeg)
        exact law_34 hLC fu ad am _ _ C E M ML MR MV MY _ x3 _ rfl hin oX hoX oM hoM heq hcs (fun H locs ls hP hD hS hl => next _ _ (by omega) (by omega) _ _ _ _ _ _ _ ko to f g kK kB kP f2 g2 tK tB tP hR2 hRK H locs ls hP hD hS hl) H locs ls hP hD hS hl
      by_cases c35 : v = (35 : Int32)
      · have he : v.toInt = 35 := by rw [c35]; decide
        refine lv_tableIn (tgt := 1744) (off := 1711) hx hb dL_law_33 (by rw [he]; decide) (by rw [he]; decide) (by rw [he]; rfl) (by decide) ?_
        obtain ⟨oX, oM, hoX, hoM, heq, hR2⟩ := R_35 fu C E M ML MR MV MY hRel (xs (x3 + (1 : Int32)).toNatClampNeg) (xs (x3 + (2 : Int32)).toNatClampNeg) (xs (x3 + (3 : Int32)).toNatClampNeg) (xs (x3 + (4 : Int32)).toNatClampNeg)
        exact law_35 hLC fu ad am _ _ C E M ML MR MV MY _ x3 _ _ _ _ rfl rfl rfl rfl hin oX hoX oM hoM heq hcs (fun H locs ls hP hD hS hl => next _ _ (by omega) (by omega) _ _ _ _ _ _ _ ko to f g kK kB kP f2 g2 tK tB tP hR2 hRK H locs ls hP hD hS hl) H locs ls hP hD hS hl
      by_cases c36 : v = (36 : Int32)
      · have he : v.toInt = 36 := by rw [c36]; decide
        refine lv_tableIn (tgt := 1797) (off := 1764) hx hb dL_law_33 (by rw [he]; decide) (by rw [he]; decide) (by rw [he]; rfl) (by decide) ?_
        obtain ⟨oX, oM, hoX, hoM, heq, hR2⟩ := R_36 fu C E M ML MR MV MY hRel (xs (x3 + (1 : Int32)).toNatClampNeg) (xs (x3 + (2 : Int32)).toNatClampNeg)
        exact law_36 hLC fu ad am _ _ C E M ML MR MV MY _ x3 _ _ rfl rfl hin oX hoX oM hoM heq hcs (fun H locs ls hP hD hS hl => next _ _ (by omega) (by omega) _ _ _ _ _ _ _ ko to f g kK kB kP f2 g2 tK tB tP hR2 hRK H locs ls hP hD hS hl) H locs ls hP hD hS hl
      by_cases c37 : v = (37 : Int32)
      · have he : v.toInt = 37 := by rw [c37]; decide
        refine lv_tableIn (tgt := 1830) (off := 1797) hx hb dL_law_33 (by rw [he]; decide) (by rw [he]; decide) (by rw [he]; rfl) (by decide) ?_
        obtain ⟨oX, oM, hoX, hoM, heq, hR2⟩ := R_37 fu C E M ML MR MV MY hRel (xs (x3 + (1 : Int32)).toNatClampNeg) (xs (x3 + (2 : Int32)).toNatClampNeg) (xs (x3 + (3 : Int32)).toNatClampNeg) (xs (x3 + (4 : Int32)).toNatClampNeg)
        exact law_37 hLC fu ad am _ _ C E M ML MR MV MY _ x3 _ _ _ _ rfl rfl rfl rfl hin oX hoX oM hoM heq hcs (fun H locs ls hP hD hS hl => next _ _ (by omega) (by omega) _ _ _ _ _ _ _ ko to f g kK kB kP f2 g2 tK tB tP hR2 hRK H locs ls hP hD hS hl) H locs ls hP hD hS hl
      by_cases c38 : v = (38 : Int32)
      · have he : v.toInt = 38 := by rw [c38]; decide
        refine lv_tableIn (tgt := 1883) (off := 1850) hx hb dL_law_33 (by rw [he]; decide) (by rw [he]; decide) (by rw [he]; rfl) (by decide) ?_
        obtain ⟨oX, oM, hoX, hoM, heq, hR2⟩ := R_38 fu C E M ML MR MV MY hRel (xs (x3 + (1 : Int32)).toNatClampNeg) (xs (x3 + (2 : Int32)).toNatClampNeg) (xs (x3 + (3 : Int32)).toNatClampNeg)
        exact law_38 hLC fu ad am _ _ C E M ML MR MV MY _ x3 _ _ _ rfl rfl rfl hin oX hoX oM hoM heq hcs (fun H locs ls hP hD hS hl => next _ _ (by omega) (by omega) _ _ _ _ _ _ _ ko to f g kK kB kP f2 g2 tK tB tP hR2 hRK H locs ls hP hD hS hl) H locs ls hP hD hS hl
      by_cases c39 : v = (39 : Int32)
      · have he : v.toInt = 39 := by rw [c39]; decide
        refine lv_tableIn (tgt := 1926) (off := 1893) hx hb dL_law_33 (by rw [he]; decide) (by rw [he]; decide) (by rw [he]; rfl) (by decide) ?_
        obtain ⟨oX, oM, hoX, hoM, heq, hR2⟩ := R_39 fu C E M ML MR MV MY hRel (xs (x3 + (1 : Int32)).toNatClampNeg) (xs (x3 + (2 : Int32)).toNatClampNeg) (xs (x3 + (3 : Int32)).toNatClampNeg)
        exact law_39 hLC fu ad am _ _ C E M ML MR MV MY _ x3 _ _ _ rfl rfl rfl hin oX hoX oM hoM heq hcs (fun H locs ls hP hD hS hl => next _ _ (by omega) (by omega) _ _ _ _ _ _ _ ko to f g kK kB kP f2 g2 tK tB tP hR2 hRK H locs ls hP hD hS hl) H locs ls hP hD hS hl
      by_cases c40 : v = (40 : Int32)
      · have he : v.toInt = 40 := by rw [c40]; decide
        refine lv_tableIn (tgt := 1969) (off := 1936) hx hb dL_law_33 (by rw [he]; decide) (by rw [he]; decide) (by rw [he]; rfl) (by decide) ?_
        obtain ⟨oX, oM, hoX, hoM, heq, hR2⟩ := R_40 fu C E M ML MR MV MY hRel (xs (x3 + (1 : Int32)).toNatClampNeg) (xs (x3 + (2 : Int32)).toNatClampNeg)
        exact law_40 hLC fu ad am _ _ C E M ML MR MV MY _ x3 _ _ rfl rfl hin oX hoX oM hoM heq hcs (fun H locs ls hP hD hS hl => next _ _ (by omega) (by omega) _ _ _ _ _ _ _ ko to f g kK kB kP f2 g2 tK tB tP hR2 hRK H locs ls hP hD hS hl) H locs ls hP hD hS hl
      by_cases c41 : v = (41 : Int32)
      · have he : v.toInt = 41 := by rw [c41]; decide
        refine lv_tableIn (tgt := 2002) (off := 1969) hx hb dL_law_33 (by rw [he]; decide) (by rw [he]; decide) (by rw [he]; rfl) (by decide) ?_
        obtain ⟨oX, oM, hoX, hoM, heq, hR2⟩ := R_41 fu C E M ML MR MV MY hRel (xs (x3 + (1 : Int32)).toNatClampNeg) (xs (x3 + (2 : Int32)).toNatClampNeg) (xs (x3 + (3 : Int32)).toNatClampNeg)
        exact law_41 hLC fu ad am _ _ C E M ML MR MV MY _ x3 _ _ _ rfl rfl rfl hin oX hoX oM hoM heq hcs (fun H locs ls hP hD hS hl => next _ _ (by omega) (by omega) _ _ _ _ _ _ _ ko to f g kK kB kP f2 g2 tK tB tP hR2 hRK H locs ls hP hD hS hl) H locs ls hP hD hS hl
      by_cases c42 : v = (42 : Int32)
      · have he : v.toInt = 42 := by rw [c42]; decide
        refine lv_tableIn (tgt := 2045) (off := 2012) hx hb dL_law_33 (by rw [he]; decide) (by rw [he]; decide) (by rw [he]; rfl) (by decide) ?_
        obtain ⟨oX, oM, hoX, hoM, heq, hR2⟩ := R_42 fu C E M ML MR MV MY hRel (xs (x3 + (1 : Int32)).toNatClampNeg)
        exact law_42 hLC fu ad am _ _ C E M ML MR MV MY _ x3 _ rfl hin oX hoX oM hoM heq hcs (fun H locs ls hP hD hS hl => next _ _ (by omega) (by omega) _ _ _ _ _ _ _ ko to f g kK kB kP f2 g2 tK tB tP hR2 hRK H locs ls hP hD hS hl) H locs ls hP hD hS hl
      by_cases c43 : v = (43 : Int32)
      · have he : v.toInt = 43 := by rw [c43]; decide
        refine lv_tableIn (tgt := 2068) (off := 2035) hx hb dL_law_33 (by rw [he]; decide) (by rw [he]; decide) (by rw [he]; rfl) (by decide) ?_
        obtain ⟨oX, oM, hoX, hoM, heq, hR2⟩ := R_43 fu C E M ML MR MV MY hRel (xs (x3 + (1 : Int32)).toNatClampNeg)
        exact law_43 hLC fu ad am _ _ C E M ML MR MV MY _ x3 _ rfl hin oX hoX oM hoM heq hcs (fun H locs ls hP hD hS hl => next _ _ (by omega) (by omega) _ _ _ _ _ _ _ ko to f g kK kB kP f2 g2 tK tB tP hR2 hRK H locs ls hP hD hS hl) H locs ls hP hD hS hl
      by_cases c44 : v = (44 : Int32)
      · have he : v.toInt = 44 := by rw [c44]; decide
        refine lv_tableIn (tgt := 2091) (off := 2058) hx hb dL_law_33 (by rw [he]; decide) (by rw [he]; decide) (by rw [he]; rfl) (by decide) ?_
        obtain ⟨oX, oM, hoX, hoM, heq, hR2⟩ := R_44 fu C E M ML MR MV MY hRel 
        exact law_44 hLC fu ad am _ _ C E M ML MR MV MY _ x3   hin oX hoX oM hoM heq hcs (fun H locs ls hP hD hS hl => next _ _ (by omega) (by omega) _ _ _ _ _ _ _ ko to f g kK kB kP f2 g2 tK tB tP hR2 hRK H locs ls hP hD hS hl) H locs ls hP hD hS hl
      by_cases c45 : v = (45 : Int32)
      · have he : v.toInt = 45 := by rw [c45]; decide
        refine lv_tableIn (tgt := 2104) (off := 2071) hx hb dL_law_33 (by rw [he]; decide) (by rw [he]; decide) (by rw [he]; rfl) (by decide) ?_
        obtain ⟨oX, oM, hoX, hoM, heq, hR2⟩ := R_45 fu C E M ML MR MV MY hRel (xs (x3 + (1 : Int32)).toNatClampNeg)
        exact law_45 hLC fu ad am _ _ C E M ML MR MV MY _ x3 _ rfl hin oX hoX oM hoM heq hcs (fun H locs ls hP hD hS hl => next _ _ (by omega) (by omega) _ _ _ _ _ _ _ ko to f g kK kB kP f2 g2 tK tB tP hR2 hRK H locs ls hP hD hS hl) H locs ls hP hD hS hl
      by_cases c46 : v = (46 : Int32)
      · have he : v.toInt = 46 := by rw [c46]; decide
        refine lv_tableIn (tgt := 2127) (off := 2094) hx hb dL_law_33 (by rw [he]; decide) (by rw [he]; decide) (by rw [he]; rfl) (by decide) ?_
        obtain ⟨oX, oM, hoX, hoM, heq, hR2⟩ := R_46 fu C E M ML MR MV MY hRel (xs (x3 + (1 : Int32)).toNatClampNeg) (xs (x3 + (2 : Int32)).toNatClampNeg) (xs (x3 + (3 : Int32)).toNatClampNeg) (xs (x3 + (4 : Int32)).toNatClampNeg)
        exact law_46 hLC fu ad am _ _ C E M ML MR MV MY _ x3 _ _ _ _ rfl rfl rfl rfl hin oX hoX oM hoM heq hcs (fun H locs ls hP hD hS hl => next _ _ (by omega) (by omega) _ _ _ _ _ _ _ ko to f g kK kB kP f2 g2 tK tB tP hR2 hRK H locs ls hP hD hS hl) H locs ls hP hD hS hl
      by_cases c47 : v = (47 : Int32)
      · have he : v.toInt = 47 := by rw [c47]; decide
        refine lv_tableIn (tgt := 2180) (off := 2147) hx hb dL_law_33 (by rw [he]; decide) (by rw [he]; decide) (by rw [he]; rfl) (by decide) ?_
        obtain ⟨oX, oM, hoX, hoM, heq, hR2⟩ := R_47 fu C E M ML MR MV MY hRel (xs (x3 + (1 : Int32)).toNatClampNeg) (xs (x3 + (2 : Int32)).toNatClampNeg) (xs (x3 + (3 : Int32)).toNatClampNeg)
        exact law_47 hLC fu ad am _ _ C E M ML MR MV MY _ x3 _ _ _ rfl rfl rfl hin oX hoX oM hoM heq hcs (fun H locs ls hP hD hS hl => next _ _ (by omega) (by omega) _ _ _ _ _ _ _ ko to f g kK kB kP f2 g2 tK tB tP hR2 hRK H locs ls hP hD hS hl) H locs ls hP hD hS hl
      by_cases c48 : v = (48 : Int32)
      · have he : v.toInt = 48 := by rw [c48]; decide
        refine lv_tableIn (tgt := 2223) (off := 2190) hx hb dL_law_33 (by rw [he]; decide) (by rw [he]; decide) (by rw [he]; rfl) (by decide) ?_
        obtain ⟨oX, oM, hoX, hoM, heq, hR2⟩ := R_48 fu C E M ML MR MV MY hRel (xs (x3 + (1 : Int32)).toNatClampNeg)
        exact law_48 hLC fu ad am _ _ C E M ML MR MV MY _ x3 _ rfl hin oX hoX oM hoM heq hcs (fun H locs ls hP hD hS hl => next _ _ (by omega) (by omega) _ _ _ _ _ _ _ ko to f g kK kB kP f2 g2 tK tB tP hR2 hRK H locs ls hP hD hS hl) H locs ls hP hD hS hl
      by_cases c49 : v = (49 : Int32)
      · have he : v.toInt = 49 := by rw [c49]; decide
        refine lv_tableIn (tgt := 2246) (off := 2213) hx hb dL_law_33 (by rw [he]; decide) (by rw [he]; decide) (by rw [he]; rfl) (by decide) ?_
        obtain ⟨oX, oM, hoX, hoM, heq, hR2⟩ := R_49 fu C E M ML MR MV MY hRel (xs (x3 + (1 : Int32)).toNatClampNeg) (xs (x3 + (2 : Int32)).toNatClampNeg) (xs (x3 + (3 : Int32)).toNatClampNeg)
        exact law_49 hLC fu ad am _ _ C E M ML MR MV MY _ x3 _ _ _ rfl rfl rfl hin oX hoX oM hoM heq hcs (fun H locs ls hP hD hS hl => next _ _ (by omega) (by omega) _ _ _ _ _ _ _ ko to f g kK kB kP f2 g2 tK tB tP hR2 hRK H locs ls hP hD hS hl) H locs ls hP hD hS hl
      by_cases c50 : v = (50 : Int32)
      · have he : v.toInt = 50 := by rw [c50]; decide
        refine lv_tableIn (tgt := 2289) (off := 2256) hx hb dL_law_33 (by rw [he]; decide) (by rw [he]; decide) (by rw [he]; rfl) (by decide) ?_
        obtain ⟨oX, oM, hoX, hoM, heq, hR2⟩ := R_50 fu C E M ML MR MV MY hRel (xs (x3 + (1 : Int32)).toNatClampNeg)
        exact law_50 hLC fu ad am _ _ C E M ML MR MV MY _ x3 _ rfl hin oX hoX oM hoM heq hcs (fun H locs ls hP hD hS hl => next _ _ (by omega) (by omega) _ _ _ _ _ _ _ ko to f g kK kB kP f2 g2 tK tB tP hR2 hRK H locs ls hP hD hS hl) H locs ls hP hD hS hl
      by_cases c51 : v = (51 : Int32)
      · have he : v.toInt = 51 := by rw [c51]; decide
        refine lv_tableIn (tgt := 2312) (off := 2279) hx hb dL_law_33 (by rw [he]; decide) (by rw [he]; decide) (by rw [he]; rfl) (by decide) ?_
        cases ko with
        | none =>
          obtain ⟨oX, oM, hoX, hoM, heq, hR2, hK2⟩ := R_51_a fu C E M ML MR MV MY f kK kB kP hRel hRK
          have hP5 : va_P D CL ((wL cA ad am (kvO none) (kvO to) C E M ML MR MV MY) ++ w4 cA to f2 g2 tK tB tP) H := by
            exact hP
          have hD5 : va_D (fun q : Nat => s.heap.size ≤ q) ((wL cA ad am (kvO none) (kvO to) C E M ML MR MV MY) ++ w4 cA to f2 g2 tK tB tP) := by
            exact hD
          exact law_51_a hLC fu ad am .null (kvO to) C E M ML MR MV MY (w4 cA to f2 g2 tK tB tP) x3 oX hoX oM hoM heq hcs hcs2 (fun km H locs ls hP hD hS hl => next _ _ (by omega) (by omega) _ _ _ _ _ _ _ (some km) to _ _ _ _ _ f2 g2 tK tB tP hR2 (hK2 km) H locs ls (by rw [List.append_assoc] at hP; exact hP) (by rw [List.append_assoc] at hD; exact hD) hS hl) H locs ls hP5 hD5 hS hl
        | some km =>
          obtain ⟨oX, oM, hoX, hoM, heq, hR2, hK2⟩ := R_51_r fu C E M ML MR MV MY km f g kK kB kP hRel hRK
          have hP5 : va_P D CL ((wL cA ad am (kvO (some km)) (kvO to) C E M ML MR MV MY ++ [(km 0, e_X6 km .null .null f g), (km 17, eI cA 8 kK), (km 18, eI cA 8 kB), (km 19, eI cA 8 kP)]) ++ w4 cA to f2 g2 tK tB tP) H := by
            rw [List.append_assoc]; exact hP
          have hD5 : va_D (fun q : Nat => s.heap.size ≤ q) ((wL cA ad am (kvO (some km)) (kvO to) C E M ML MR MV MY ++ [(km 0, e_X6 km .null .null f g), (km 17, eI cA 8 kK), (km 18, eI cA 8 kB), (km 19, eI cA 8 kP)]) ++ w4 cA to f2 g2 tK tB tP) := by
            rw [List.append_assoc]; exact hD
          exact law_51_r hLC fu ad am .null (kvO to) C E M ML MR MV MY km f g kK kB kP (w4 cA to f2 g2 tK tB tP) x3 oX hoX oM hoM heq hcs (fun H locs ls hP hD hS hl => next _ _ (by omega) (by omega) _ _ _ _ _ _ _ (some km) to _ _ _ _ _ f2 g2 tK tB tP hR2 hK2 H locs ls (by rw [List.append_assoc] at hP; exact hP) (by rw [List.append_assoc] at hD; exact hD) hS hl) H locs ls hP5 hD5 hS hl
      by_cases c52 : v = (52 : Int32)
      · have he : v.toInt = 52 := by rw [c52]; decide
        refine lv_tableIn (tgt := 2325) (off := 2292) hx hb dL_law_33 (by rw [he]; decide) (by rw [he]; decide) (by rw [he]; rfl) (by decide) ?_
        cases ko with
        | none =>
          obtain ⟨oX, oM, hoX, hoM, heq, hR2, hK2⟩ := R_52_n fu C E M ML MR MV MY hRel hRK
          have hP5 : va_P D CL ((wL cA ad am (kvO none) (kvO to) C E M ML MR MV MY) ++ w4 cA to f2 g2 tK tB tP) H := by
            exact hP
          have hD5 : va_D (fun q : Nat => s.heap.size ≤ q) ((wL cA ad am (kvO none) (kvO to) C E M ML MR MV MY) ++ w4 cA to f2 g2 tK tB tP) := by
            exact hD
          exact law_52_n hLC fu ad am .null (kvO to) C E M ML MR MV MY (w4 cA to f2 g2 tK tB tP) x3 oX hoX oM hoM heq hcs (fun H locs ls hP hD hS hl => next _ _ (by omega) (by omega) _ _ _ _ _ _ _ none to f g kK kB kP f2 g2 tK tB tP hR2 hK2 H locs ls hP hD hS hl) H locs ls hP5 hD5 hS hl
        | some km =>
          obtain ⟨oX, oM, hoX, hoM, heq, hR2, hK2⟩ := R_52_r fu C E M ML MR MV MY km f g kK kB kP hRel hRK
          have hP5 : va_P D CL ((wL cA ad am (kvO (some km)) (kvO to) C E M ML MR MV MY ++ [(km 0, e_X6 km .null .null f g), (km 17, eI cA 8 kK), (km 18, eI cA 8 kB), (km 19, eI cA 8 kP)]) ++ w4 cA to f2 g2 tK tB tP) H := by
            rw [List.append_assoc]; exact hP
          have hD5 : va_D (fun q : Nat => s.heap.size ≤ q) ((wL cA ad am (kvO (some km)) (kvO to) C E M ML MR MV MY ++ [(km 0, e_X6 km .null .null f g), (km 17, eI cA 8 kK), (km 18, eI cA 8 kB), (km 19, eI cA 8 kP)]) ++ w4 cA to f2 g2 tK tB tP) := by
            rw [List.append_assoc]; exact hD
          exact law_52_r hLC fu ad am .null (kvO to) C E M ML MR MV MY km f g kK kB kP (w4 cA to f2 g2 tK tB tP) x3 oX hoX oM hoM heq hcs (fun H locs ls hP hD hS hl => next _ _ (by omega) (by omega) _ _ _ _ _ _ _ (some km) to _ _ _ _ _ f2 g2 tK tB tP hR2 hK2 H locs ls (by rw [List.append_assoc] at hP; exact hP) (by rw [List.append_assoc] at hD; exact hD) hS hl) H locs ls hP5 hD5 hS hl
      by_cases c53 : v = (53 : Int32)
      · have he : v.toInt = 53 := by rw [c53]; decide
        refine lv_tableIn (tgt := 2338) (off := 2305) hx hb dL_law_33 (by rw [he]; decide) (by rw [he]; decide) (by rw [he]; rfl) (by decide) ?_
        obtain ⟨oX, oM, hoX, hoM, heq, hR2⟩ := R_53 fu C E M ML MR MV MY hRel (xs (x3 + (1 : Int32)).toNatClampNeg)
        exact law_53 hLC fu ad am _ _ C E M ML MR MV MY _ x3 _ rfl hin oX hoX oM hoM heq hcs (fun H locs ls hP hD hS hl => next _ _ (by omega) (by omega) _ _ _ _ _ _ _ ko to f g kK kB kP f2 g2 tK tB tP hR2 hRK H locs ls hP hD hS hl) H locs ls hP hD hS hl
      have ho : v.toInt < 0 ∨ 53 < v.toInt := by
        refine Classical.byContradiction fun hh => ?_
        have h1 : 0 ≤ v.toInt ∧ v.toInt ≤ 53 := by omega
        have h2 : v.toInt = 0 ∨ v.toInt = 1 ∨ v.toInt = 2 ∨ v.toInt = 3 ∨ v.toInt = 4 ∨ v.toInt = 5 ∨ v.toInt = 6 ∨ v.toInt = 7 ∨ v.toInt = 8 ∨ v.toInt = 9 ∨ v.toInt = 10 ∨ v.toInt = 11 ∨ v.toInt = 12 ∨ v.toInt = 13 ∨ v.toInt = 14 ∨ v.toInt = 15 ∨ v.toInt = 16 ∨ v.toInt = 17 ∨ v.toInt = 18 ∨ v.toInt = 19 ∨ v.toInt = 20 ∨ v.toInt = 21 ∨ v.toInt = 22 ∨ v.toInt = 23 ∨ v.toInt = 24 ∨ v.toInt = 25 ∨ v.toInt = 26 ∨ v.toInt = 27 ∨ v.toInt = 28 ∨ v.toInt = 29 ∨ v.toInt = 30 ∨ v.toInt = 31 ∨ v.toInt = 32 ∨ v.toInt = 33 ∨ v.toInt = 34 ∨ v.toInt = 35 ∨ v.toInt = 36 ∨ v.toInt = 37 ∨ v.toInt = 38 ∨ v.toInt = 39 ∨ v.toInt = 40 ∨ v.toInt = 41 ∨ v.toInt = 42 ∨ v.toInt = 43 ∨ v.toInt = 44 ∨ v.toInt = 45 ∨ v.toInt = 46 ∨ v.toInt = 47 ∨ v.toInt = 48 ∨ v.toInt = 49 ∨ v.toInt = 50 ∨ v.toInt = 51 ∨ v.toInt = 52 ∨ v.toInt = 53 := by omega
        rcases h2 with h2 | h2 | h2 | h2 | h2 | h2 | h2 | h2 | h2 | h2 | h2 | h2 | h2 | h2 | h2 | h2 | h2 | h2 | h2 | h2 | h2 | h2 | h2 | h2 | h2 | h2 | h2 | h2 | h2 | h2 | h2 | h2 | h2 | h2 | h2 | h2 | h2 | h2 | h2 | h2 | h2 | h2 | h2 | h2 | h2 | h2 | h2 | h2 | h2 | h2 | h2 | h2 | h2 | h2
        · exact c0 (Int32.toInt_inj.mp (h2.trans (by decide)))
        · exact c1 (Int32.toInt_inj.mp (h2.trans (by decide)))
        · exact c2 (Int32.toInt_inj.mp (h2.trans (by decide)))
        · exact c3 (Int32.toInt_inj.mp (h2.trans (by decide)))
        · exact c4 (Int32.toInt_inj.mp (h2.trans (by decide)))
        · exact c5 (Int32.toInt_inj.mp (h2.trans (by decide)))
        · exact c6 (Int32.toInt_inj.mp (h2.trans (by decide)))
        · exact c7 (Int32.toInt_inj.mp (h2.trans (by decide)))
        · exact c8 (Int32.toInt_inj.mp (h2.trans (by decide)))
        · exact c9 (Int32.toInt_inj.mp (h2.trans (by decide)))
        · exact c10 (Int32.toInt_inj.mp (h2.trans (by decide)))
        · exact c11 (Int32.toInt_inj.mp (h2.trans (by decide)))
        · exact c12 (Int32.toInt_inj.mp (h2.trans (by decide)))
        · exact c13 (Int32.toInt_inj.mp (h2.trans (by decide)))
        · exact c14 (Int32.toInt_inj.mp (h2.trans (by decide)))
        · exact c15 (Int32.toInt_inj.mp (h2.trans (by decide)))
        · exact c16 (Int32.toInt_inj.mp (h2.trans (by decide)))
        · exact c17 (Int32.toInt_inj.mp (h2.trans (by decide)))
        · exact c18 (Int32.toInt_inj.mp (h2.trans (by decide)))
        · exact c19 (Int32.toInt_inj.mp (h2.trans (by decide)))
        · exact c20 (Int32.toInt_inj.mp (h2.trans (by decide)))
        · exact c21 (Int32.toInt_inj.mp (h2.trans (by decide)))
        · exact c22 (Int32.toInt_inj.mp (h2.trans (by decide)))
        · exact c23 (Int32.toInt_inj.mp (h2.trans (by decide)))
        · exact c24 (Int32.toInt_inj.mp (h2.trans (by decide)))
        · exact c25 (Int32.toInt_inj.mp (h2.trans (by decide)))
        · exact c26 (Int32.toInt_inj.mp (h2.trans (by decide)))
        · exact c27 (Int32.toInt_inj.mp (h2.trans (by decide)))
        · exact c28 (Int32.toInt_inj.mp (h2.trans (by decide)))
        · exact c29 (Int32.toInt_inj.mp (h2.trans (by decide)))
        · exact c30 (Int32.toInt_inj.mp (h2.trans (by decide)))
        · exact c31 (Int32.toInt_inj.mp (h2.trans (by decide)))
        · exact c32 (Int32.toInt_inj.mp (h2.trans (by decide)))
        · exact c33 (Int32.toInt_inj.mp (h2.trans (by decide)))
        · exact c34 (Int32.toInt_inj.mp (h2.trans (by decide)))
        · exact c35 (Int32.toInt_inj.mp (h2.trans (by decide)))
        · exact c36 (Int32.toInt_inj.mp (h2.trans (by decide)))
        · exact c37 (Int32.toInt_inj.mp (h2.trans (by decide)))
        · exact c38 (Int32.toInt_inj.mp (h2.trans (by decide)))
        · exact c39 (Int32.toInt_inj.mp (h2.trans (by decide)))
        · exact c40 (Int32.toInt_inj.mp (h2.trans (by decide)))
        · exact c41 (Int32.toInt_inj.mp (h2.trans (by decide)))
        · exact c42 (Int32.toInt_inj.mp (h2.trans (by decide)))
        · exact c43 (Int32.toInt_inj.mp (h2.trans (by decide)))
        · exact c44 (Int32.toInt_inj.mp (h2.trans (by decide)))
        · exact c45 (Int32.toInt_inj.mp (h2.trans (by decide)))
        · exact c46 (Int32.toInt_inj.mp (h2.trans (by decide)))
        · exact c47 (Int32.toInt_inj.mp (h2.trans (by decide)))
        · exact c48 (Int32.toInt_inj.mp (h2.trans (by decide)))
        · exact c49 (Int32.toInt_inj.mp (h2.trans (by decide)))
        · exact c50 (Int32.toInt_inj.mp (h2.trans (by decide)))
        · exact c51 (Int32.toInt_inj.mp (h2.trans (by decide)))
        · exact c52 (Int32.toInt_inj.mp (h2.trans (by decide)))
        · exact c53 (Int32.toInt_inj.mp (h2.trans (by decide)))
      refine lv_tableOut (tgt := 2361) hx hb dL_law_33 ho (by decide) ?_
      exact next _ _ (by omega) (by omega) _ _ _ _ _ _ _ ko to f g kK kB kP f2 g2 tK tB tP hRel hRK H locs ls hP hD hS hl
