-- PURE 7: a word alone
theorem s_take1 {fu nv : Nat} {hd sz : Nat → Int32} {el : Nat → Int64} {sh rs rz shn : Nat → Int32} {MR : Nat → Nat → Int64} (hfu : 5000 ≤ fu) (hnv : nv ≤ 8) (hR : RH nv hd sz el sh rs rz shn MR) (t r told snd m : Nat → Int32) (mL : Nat → Int64) (r' mw : Nat → Int32) (s n ok most may : Int32)
    (hok : 0 ≤ n ∧ n ≤ 12 → (¬ ok = 0 ↔ (n ≤ most ∧ ¬ may = 0))) (hmost : most ≤ 12) :
    ∃ c r1 t1 s1 m1 r1' w1, m_X5_takeWord fu t hd sz el r told snd s n ok = some (c, (r1, t1, s1)) ∧ m_X6_noWord fu m mL sh rz MR r' mw s n most may = some (c, (m1, r1', w1)) ∧ Took hd sz el rz MR r r' m s n s 0 c r1 t1 s1 m1 r1' w1 ∧ (c = 0 → ¬ ok = 0) := by
  -- the reference's other way to take a word comes to the same
  by_cases c0 : (0 ≤ s ∧ s ≤ 7) ∧ (0 ≤ n ∧ n ≤ 12) ∧ ¬ ok = 0
  case neg =>
    -- a number that may not be
    have R2 : Ref2 r r' (-2) (upd r 0 (r 0 + 1)) (upd r' 2 (r' 2 + 1)) := ⟨by decide, 0, by decide, rfl, rfl⟩
    have X2 : b_X5_takeWordAndRow_29 fu t hd sz el r told snd = some (-2, (upd r 0 (r 0 + 1), told, snd)) := by unfold b_X5_takeWordAndRow_29; rw [(s_ref fu t r).1.1, Option.bind_some]
    have M2 : b_X6_noWord_28 fu mL sh rz MR m r' mw = some (-2, (m, upd r' 2 (r' 2 + 1), mw)) := by unfold b_X6_noWord_28; rw [(s_mref fu m mL r').1.1, Option.bind_some]
    refine ⟨-2, upd r 0 (r 0 + 1), told, snd, m, upd r' 2 (r' 2 + 1), mw, ?_, ?_, ⟨fun _ _ => rfl, Or.inl R2⟩, fun e => absurd e (by decide)⟩
    · unfold m_X5_takeWord m_X5_takeWordAndRow
      rw [X2]
      simp only [s_isShelf, s_isWithin, Option.bind_some]
      by_cases c1 : 0 ≤ s ∧ s ≤ 7
      · rw [bI_t c1, if_neg (by decide)]
        by_cases c2 : 0 ≤ n ∧ n ≤ 12
        · rw [bI_t c2, if_neg (by decide), if_neg (by decide), if_pos (Classical.byContradiction fun q => c0 ⟨c1, c2, q⟩), Option.bind_some]
        · rw [bI_f c2, if_pos rfl, Option.bind_some]
      · rw [bI_f c1, if_pos rfl, Option.bind_some]
    · unfold m_X6_noWord
      rw [M2]
      simp only [s_mbad, s_min, Option.bind_some]
      by_cases c1 : 0 ≤ s ∧ s ≤ 7
      · rw [bI_t c1, if_neg (by decide)]
        by_cases c2 : 0 ≤ n ∧ n ≤ most
        · have c3 : 0 ≤ n ∧ n ≤ 12 := ⟨c2.1, by have := c2.2; rw [i_le] at this hmost ⊢; omega⟩
          rw [bI_t c2, if_neg (by decide), if_pos (Classical.byContradiction fun q => c0 ⟨c1, c3, (hok c3).mpr ⟨c2.2, q⟩⟩)]
        · rw [bI_f c2, if_pos rfl]
      · rw [bI_f c1, if_pos rfl]
  obtain ⟨c1, c2, c4⟩ := c0
  obtain ⟨c5, c6⟩ := (hok c2).mp c4
  -- as if a row of no elements were looked at besides
  obtain ⟨c, r1, t1, s1, m1, r1', w1, h1, h2, h3, h4⟩ := s_take2 (fu := fu) hfu hnv hR t r told snd m mL r' mw s n s 0 ok 0 0 0 ok ⟨fun e => ⟨⟨by decide, by decide⟩, e⟩, fun e => e.2⟩ (fun _ => ⟨0, by decide, rfl, rfl⟩)
  refine ⟨c, r1, t1, s1, m1, r1', w1, ?_, ?_, h3, h4⟩
  · unfold m_X5_takeWord
    rw [h1, Option.bind_some]
  · rw [← h2]
    obtain ⟨s', hs', rfl⟩ := i_0_7 c1
    have hbs : inb (nI s') 8 := inb_n hs' (by decide)
    unfold m_X6_noWord m_X6_noWords m_X6_noRow b_X6_noRow_55 b_X6_noWords_54 b_X6_noWords_81 b_X6_noWords_106 b_X6_noWords_137 b_X6_noWord_28
    simp only [s_mbad, s_m12, s_min, Option.bind_some, gd_t hbs, nI_clamp (show s' < 2 ^ 31 by omega), (s_mref fu m mL r').1.1, (s_mref fu m mL r').1.2.1, (s_mref fu m mL r').1.2.2]
    have c7 : (0 : Int32) ≤ 0 ∧ (0 : Int32) ≤ 0 := ⟨by decide, by decide⟩
    rw [bI_t c1, bI_t c2, bI_t ⟨c2.1, c5⟩, bI_t c7]
    simp only [show ¬ ((1 : Int32) = 0) by decide, if_false, if_neg c4, if_neg c6]
    by_cases d1 : sh s' = 2
    · simp only [if_pos d1]; rfl
    · simp only [if_neg d1]
      by_cases d3 : sh s' = 0
      · simp only [if_pos d3, Option.bind_some]; rfl
      · simp only [if_neg d3, Option.bind_some]
        rw [if_pos trivial]
        have hz : ∃ z : Nat, z ≤ 40 ∧ rz s' = nI z := by
          rcases hR s' hs' with ⟨-, -, q⟩ | ⟨_, z, _, q2, _, _, _, _, q7, _⟩ | ⟨_, _, _, _, q, _⟩
          · exact absurd q d3
          · exact ⟨z, q2, q7⟩
          · exact absurd q d1
        obtain ⟨z, hz1, hz2⟩ := hz
        obtain ⟨n', hn', rfl⟩ := i_rng (m := 12) (by decide) c2
        rw [hz2]
        have hz0 : (0 : Int32) * 0 ≤ nI z := nI_pos' (by omega)
        by_cases d5 : n' ≤ z
        · rw [if_pos (nI_le d5 (by omega)), if_neg (nI_nlt d5 (by omega)), if_pos hz0]
        · rw [if_neg (nI_ge (by omega) (by omega)), if_pos (nI_lt (by omega) (by omega)), (s_mref fu m mL r').1.1, Option.bind_some]
