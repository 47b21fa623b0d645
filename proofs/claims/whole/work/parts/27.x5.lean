def b_X5_depthsOfEcho_52 (fu : Nat) (t : Nat → Int32) (t_now : Nat → Int32) (t_now_kinds : Nat → Int32) (t_now_pitches : Nat → Int32) (t_shelves_sizes : Nat → Int32) (t_shelves_elements : Nat → Int64) (t_told : Nat → Int32) (t_told_sounds : Nat → Int32) (k_18 : (Int32 × Int32 × Int64 × Int32 × (Nat → Int32) × (Nat → Int32)) → Option (Int64 × ((Nat → Int32) × (Nat → Int32)))) (l2 : Int32) (l3 : Int32) (l4 : Int64) (l6 : Int32) (t_trial : Nat → Int32) (t_trial_heard : Nat → Int32) : Option (Int64 × ((Nat → Int32) × (Nat → Int32))) :=
  k_18 (l2, l3, l4, (l6 + (1 : Int32)), t_trial, t_trial_heard)
def b_X5_depthsOfEcho_18 (fu : Nat) (t : Nat → Int32) (t_now : Nat → Int32) (t_now_kinds : Nat → Int32) (t_now_pitches : Nat → Int32) (t_shelves_sizes : Nat → Int32) (t_shelves_elements : Nat → Int64) (t_told : Nat → Int32) (t_told_sounds : Nat → Int32) (k_18 : (Int32 × Int32 × Int64 × Int32 × (Nat → Int32) × (Nat → Int32)) → Option (Int64 × ((Nat → Int32) × (Nat → Int32)))) (x : Int32 × Int32 × Int64 × Int32 × (Nat → Int32) × (Nat → Int32)) : Option (Int64 × ((Nat → Int32) × (Nat → Int32))) :=
  (if (40 : Int32) < x.2.2.2.1 then
        some (x.2.2.1, (x.2.2.2.2.1, x.2.2.2.2.2))
      else
        (m_X5_echoIsRow fu t t_shelves_sizes t_shelves_elements (upd x.2.2.2.2.1 2 x.2.2.2.1) x.2.2.2.2.2 t_told t_told_sounds x.1 x.2.1).bind fun o2 =>
        (if o2.1 = 0 then
          b_X5_depthsOfEcho_52 fu t t_now t_now_kinds t_now_pitches t_shelves_sizes t_shelves_elements t_told t_told_sounds k_18 x.1 x.2.1 x.2.2.1 x.2.2.2.1 o2.2.1 o2.2.2
        else
          b_X5_depthsOfEcho_52 fu t t_now t_now_kinds t_now_pitches t_shelves_sizes t_shelves_elements t_told t_told_sounds k_18 x.1 x.2.1 (x.2.2.1 ||| ((1 : Int64) <<< (x.2.2.2.1.toInt64 &&& 63))) x.2.2.2.1 o2.2.1 o2.2.2))
def m_X5_depthsOfEcho (fu : Nat) (t : Nat → Int32) (t_now : Nat → Int32) (t_now_kinds : Nat → Int32) (t_now_pitches : Nat → Int32) (t_shelves_sizes : Nat → Int32) (t_shelves_elements : Nat → Int64) (t_trial : Nat → Int32) (t_trial_heard : Nat → Int32) (t_told : Nat → Int32) (t_told_sounds : Nat → Int32) (l1 : Int32) (l2 : Int32) (l3 : Int32) : Option (Int64 × ((Nat → Int32) × (Nat → Int32))) :=
  (m_X3_standsFor fu t_trial t_now t_now_kinds t_now_pitches l1).bind fun o5 =>
  lfix (b_X5_depthsOfEcho_18 fu t t_now t_now_kinds t_now_pitches t_shelves_sizes t_shelves_elements t_told t_told_sounds) fu (l2, l3, (0 : Int64), (0 : Int32), o5, t_trial_heard)
abbrev rm_X5_depthsOfEcho : Room := ({ frames := 5, cells := 0, slots := 0, locals := 111 } : Room)
abbrev w0_X5_depthsOfEcho (cA : Nat → ClassId) (ad : Nat → Nat) (t : Nat → Int32) (t_now : Nat → Int32) (t_now_kinds : Nat → Int32) (t_now_pitches : Nat → Int32) (t_shelves_sizes : Nat → Int32) (t_shelves_elements : Nat → Int64) (t_trial : Nat → Int32) (t_trial_heard : Nat → Int32) (t_told : Nat → Int32) (t_told_sounds : Nat → Int32) : va_W := [((ad 0), e_X5 ad t), ((ad 1), e_X1 (ad 2) (ad 3) (ad 4) t_now), ((ad 2), eI cA 8 t_now_kinds), ((ad 4), eI cA 8 t_now_pitches), ((ad 13), e_X0 (ad 14) (ad 15) (ad 16)), ((ad 15), eI cA 8 t_shelves_sizes), ((ad 16), eJ cA 320 t_shelves_elements), ((ad 20), e_X3 (ad 21) t_trial), ((ad 21), eI cA 13 t_trial_heard), ((ad 24), e_X4 (ad 25) t_told), ((ad 25), eI cA 12 t_told_sounds)]
abbrev w1_X5_depthsOfEcho (cA : Nat → ClassId) (ad : Nat → Nat) (t : Nat → Int32) (t_now : Nat → Int32) (t_now_kinds : Nat → Int32) (t_now_pitches : Nat → Int32) (t_shelves_sizes : Nat → Int32) (t_shelves_elements : Nat → Int64) (t_told : Nat → Int32) (t_told_sounds : Nat → Int32) (u : (Nat → Int32) × (Nat → Int32)) : va_W := [((ad 0), e_X5 ad t), ((ad 1), e_X1 (ad 2) (ad 3) (ad 4) t_now), ((ad 2), eI cA 8 t_now_kinds), ((ad 4), eI cA 8 t_now_pitches), ((ad 13), e_X0 (ad 14) (ad 15) (ad 16)), ((ad 15), eI cA 8 t_shelves_sizes), ((ad 16), eJ cA 320 t_shelves_elements), ((ad 20), e_X3 (ad 21) u.1), ((ad 21), eI cA 13 u.2), ((ad 24), e_X4 (ad 25) t_told), ((ad 25), eI cA 12 t_told_sounds)]
theorem hd_X5_depthsOfEcho : yX5_depthsOfEcho.cls = RX5 ∧ yX5_depthsOfEcho.cls ≠ "java/lang/invoke/MethodHandle" ∧ yX5_depthsOfEcho.cls ≠ "java/lang/invoke/VarHandle" ∧ (parseMethodDescriptor yX5_depthsOfEcho.desc).map (fun d => d.parameters.length) = some 3 := by decide +kernel
set_option maxHeartbeats 40000000 in
set_option maxRecDepth 100000 in
theorem c_X5_depthsOfEcho (l : Launch) (D : va_G) (cA : Nat → ClassId) (sz : Nat) (fu : Nat) (ad : Nat → Nat) (t : Nat → Int32) (t_now : Nat → Int32) (t_now_kinds : Nat → Int32) (t_now_pitches : Nat → Int32) (t_shelves_sizes : Nat → Int32) (t_shelves_elements : Nat → Int64) (t_trial : Nat → Int32) (t_trial_heard : Nat → Int32) (t_told : Nat → Int32) (t_told_sounds : Nat → Int32) (l1 : Int32) (l2 : Int32) (l3 : Int32) (out : Int64 × ((Nat → Int32) × (Nat → Int32))) (hm : m_X5_depthsOfEcho fu t t_now t_now_kinds t_now_pitches t_shelves_sizes t_shelves_elements t_trial t_trial_heard t_told t_told_sounds l1 l2 l3 = some out) : ML l yX5_depthsOfEcho (wU yX5_depthsOfEcho cX5_depthsOfEcho 7 ((Option.some Jvm.ClassFile.FieldType.long))) rm_X5_depthsOfEcho D cA sz [.ref (ad 0), .int l1, .int l2, .int l3] (w0_X5_depthsOfEcho cA ad t t_now t_now_kinds t_now_pitches t_shelves_sizes t_shelves_elements t_trial t_trial_heard t_told t_told_sounds) out (w1_X5_depthsOfEcho cA ad t t_now t_now_kinds t_now_pitches t_shelves_sizes t_shelves_elements t_told t_told_sounds) := by
  refine Met.ofW (cc := cX5_depthsOfEcho) (maxL := 7) (ret := (Option.some Jvm.ClassFile.FieldType.long)) (by decide) rfl ?_
  intro p e s m args below meth c s₁ B hml hv
  obtain ⟨hargs, hsz, hP, hK, hD0, hN⟩ := hv
  have hx := B.exec
  have hb := B.bytes
  have hr := B.returns
  have htg : ∀ w ∈ gw, w.before args s = true := fun w h => atoms_spec (ws := wU yX5_depthsOfEcho cX5_depthsOfEcho 7 ((Option.some Jvm.ClassFile.FieldType.long))) B.pre w (List.mem_cons_of_mem _ h)
  have hown : s.vm.findClass RX5 = some m.cls := findClass_of_methodNamed B.named
  have hlocks := B.notSynchronized
  subst hsz
  have hD := hD0.self (sz := s.heap.size)
  have hA : ∀ q : Nat, s.heap.size ≤ q → va_A (w0_X5_depthsOfEcho cA ad t t_now t_now_kinds t_now_pitches t_shelves_sizes t_shelves_elements t_trial t_trial_heard t_told t_told_sounds) s.heap.size q := fun q h => Or.inr h
  have hS : va_S (va_A (w0_X5_depthsOfEcho cA ad t t_now t_now_kinds t_now_pitches t_shelves_sizes t_shelves_elements t_trial t_trial_heard t_told t_told_sounds) s.heap.size) s.heap s.heap [] := va_S.rf
  generalize va_A (w0_X5_depthsOfEcho cA ad t t_now t_now_kinds t_now_pitches t_shelves_sizes t_shelves_elements t_trial t_trial_heard t_told t_told_sounds) s.heap.size = A at hA hD hS ⊢
  obtain ⟨Q, hQ⟩ : ∃ Q : State → Prop, Q = MQ below (va_Ql (fun (r : Int64) (u : (Nat → Int32) × (Nat → Int32)) => (r, u) = out) (pst0 D cA A (w1_X5_depthsOfEcho cA ad t t_now t_now_kinds t_now_pitches t_shelves_sizes t_shelves_elements t_told t_told_sounds)) A) args s 0 0 A := ⟨_, rfl⟩
  refine (?_ : W p l e rm_X5_depthsOfEcho s m args below meth c s.heap [] 0 0 (MQ below (va_Ql (fun (r : Int64) (u : (Nat → Int32) × (Nat → Int32)) => (r, u) = out) (pst0 D cA A (w1_X5_depthsOfEcho cA ad t t_now t_now_kinds t_now_pitches t_shelves_sizes t_shelves_elements t_told t_told_sounds)) A) args s 0 0 A) (entryFrame m args 7))
  rw [← hQ]
  have hP : va_P D CL [((ad 0), e_X5 ad t), ((ad 1), e_X1 (ad 2) (ad 3) (ad 4) t_now), ((ad 2), eI cA 8 t_now_kinds), ((ad 4), eI cA 8 t_now_pitches), ((ad 13), e_X0 (ad 14) (ad 15) (ad 16)), ((ad 15), eI cA 8 t_shelves_sizes), ((ad 16), eJ cA 320 t_shelves_elements), ((ad 20), e_X3 (ad 21) t_trial), ((ad 21), eI cA 13 t_trial_heard), ((ad 24), e_X4 (ad 25) t_told), ((ad 25), eI cA 12 t_told_sounds)] s.heap := hP
  have hD : va_D A [((ad 0), e_X5 ad t), ((ad 1), e_X1 (ad 2) (ad 3) (ad 4) t_now), ((ad 2), eI cA 8 t_now_kinds), ((ad 4), eI cA 8 t_now_pitches), ((ad 13), e_X0 (ad 14) (ad 15) (ad 16)), ((ad 15), eI cA 8 t_shelves_sizes), ((ad 16), eJ cA 320 t_shelves_elements), ((ad 20), e_X3 (ad 21) t_trial), ((ad 21), eI cA 13 t_trial_heard), ((ad 24), e_X4 (ad 25) t_told), ((ad 25), eI cA 12 t_told_sounds)] := hD
  have B_52 : ∀ (k_18 : (Int32 × Int32 × Int64 × Int32 × (Nat → Int32) × (Nat → Int32)) → Option (Int64 × ((Nat → Int32) × (Nat → Int32)))) (HK_18 : ∀ (x : Int32 × Int32 × Int64 × Int32 × (Nat → Int32) × (Nat → Int32)) (H : Heap) (locs : List Loc) (ls : Array Slot), k_18 x = some out → va_P D CL [((ad 0), e_X5 ad t), ((ad 1), e_X1 (ad 2) (ad 3) (ad 4) t_now), ((ad 2), eI cA 8 t_now_kinds), ((ad 4), eI cA 8 t_now_pitches), ((ad 13), e_X0 (ad 14) (ad 15) (ad 16)), ((ad 15), eI cA 8 t_shelves_sizes), ((ad 16), eJ cA 320 t_shelves_elements), ((ad 20), e_X3 (ad 21) x.2.2.2.2.1), ((ad 21), eI cA 13 x.2.2.2.2.2), ((ad 24), e_X4 (ad 25) t_told), ((ad 25), eI cA 12 t_told_sounds)] H → va_D A [((ad 0), e_X5 ad t), ((ad 1), e_X1 (ad 2) (ad 3) (ad 4) t_now), ((ad 2), eI cA 8 t_now_kinds), ((ad 4), eI cA 8 t_now_pitches), ((ad 13), e_X0 (ad 14) (ad 15) (ad 16)), ((ad 15), eI cA 8 t_shelves_sizes), ((ad 16), eJ cA 320 t_shelves_elements), ((ad 20), e_X3 (ad 21) x.2.2.2.2.1), ((ad 21), eI cA 13 x.2.2.2.2.2), ((ad 24), e_X4 (ad 25) t_told), ((ad 25), eI cA 12 t_told_sounds)] → va_S A s.heap H locs → lv_has ls 7 [(0, .ref (ad 0)), (2, .int x.1), (3, .int x.2.1), (4, .long x.2.2.1), (6, .int x.2.2.2.1)] → W p l e rm_X5_depthsOfEcho s m args below meth c H locs 0 0 Q (F0 m 18 ls [])) (l2 : Int32) (l3 : Int32) (l4 : Int64) (l6 : Int32) (t_trial : Nat → Int32) (t_trial_heard : Nat → Int32) (H : Heap) (locs : List Loc) (ls : Array Slot), b_X5_depthsOfEcho_52 fu t t_now t_now_kinds t_now_pitches t_shelves_sizes t_shelves_elements t_told t_told_sounds k_18 l2 l3 l4 l6 t_trial t_trial_heard = some out → va_P D CL [((ad 0), e_X5 ad t), ((ad 1), e_X1 (ad 2) (ad 3) (ad 4) t_now), ((ad 2), eI cA 8 t_now_kinds), ((ad 4), eI cA 8 t_now_pitches), ((ad 13), e_X0 (ad 14) (ad 15) (ad 16)), ((ad 15), eI cA 8 t_shelves_sizes), ((ad 16), eJ cA 320 t_shelves_elements), ((ad 20), e_X3 (ad 21) t_trial), ((ad 21), eI cA 13 t_trial_heard), ((ad 24), e_X4 (ad 25) t_told), ((ad 25), eI cA 12 t_told_sounds)] H → va_D A [((ad 0), e_X5 ad t), ((ad 1), e_X1 (ad 2) (ad 3) (ad 4) t_now), ((ad 2), eI cA 8 t_now_kinds), ((ad 4), eI cA 8 t_now_pitches), ((ad 13), e_X0 (ad 14) (ad 15) (ad 16)), ((ad 15), eI cA 8 t_shelves_sizes), ((ad 16), eJ cA 320 t_shelves_elements), ((ad 20), e_X3 (ad 21) t_trial), ((ad 21), eI cA 13 t_trial_heard), ((ad 24), e_X4 (ad 25) t_told), ((ad 25), eI cA 12 t_told_sounds)] → va_S A s.heap H locs → lv_has ls 7 [(0, .ref (ad 0)), (2, .int l2), (3, .int l3), (4, .long l4), (6, .int l6)] → W p l e rm_X5_depthsOfEcho s m args below meth c H locs 0 0 Q (F0 m 52 ls []) := by
    intro k_18 HK_18 l2 l3 l4 l6 t_trial t_trial_heard H locs ls hm hP hD hS hl
    unfold b_X5_depthsOfEcho_52 at hm
    refine lv_iinc (v := (l6 + (1 : Int32))) (lv' := [(6, .int (l6 + (1 : Int32))), (0, .ref (ad 0)), (2, .int l2), (3, .int l3), (4, .long l4)]) hx hb dX5_depthsOfEcho_52 hl (k := 4) rfl rfl (by decide) rfl (fun ls hl => ?_)
    refine lv_goto (tgt := 18) hx hb dX5_depthsOfEcho_55 (by decide) ?_
    exact HK_18 _ _ _ _ hm hP hD hS (lv_sub hl [1, 2, 3, 4, 0] rfl)
  have B_18 : ∀ (n : Nat) (x : Int32 × Int32 × Int64 × Int32 × (Nat → Int32) × (Nat → Int32)) (H : Heap) (locs : List Loc) (ls : Array Slot), lfix (b_X5_depthsOfEcho_18 fu t t_now t_now_kinds t_now_pitches t_shelves_sizes t_shelves_elements t_told t_told_sounds) n x = some out → va_P D CL [((ad 0), e_X5 ad t), ((ad 1), e_X1 (ad 2) (ad 3) (ad 4) t_now), ((ad 2), eI cA 8 t_now_kinds), ((ad 4), eI cA 8 t_now_pitches), ((ad 13), e_X0 (ad 14) (ad 15) (ad 16)), ((ad 15), eI cA 8 t_shelves_sizes), ((ad 16), eJ cA 320 t_shelves_elements), ((ad 20), e_X3 (ad 21) x.2.2.2.2.1), ((ad 21), eI cA 13 x.2.2.2.2.2), ((ad 24), e_X4 (ad 25) t_told), ((ad 25), eI cA 12 t_told_sounds)] H → va_D A [((ad 0), e_X5 ad t), ((ad 1), e_X1 (ad 2) (ad 3) (ad 4) t_now), ((ad 2), eI cA 8 t_now_kinds), ((ad 4), eI cA 8 t_now_pitches), ((ad 13), e_X0 (ad 14) (ad 15) (ad 16)), ((ad 15), eI cA 8 t_shelves_sizes), ((ad 16), eJ cA 320 t_shelves_elements), ((ad 20), e_X3 (ad 21) x.2.2.2.2.1), ((ad 21), eI cA 13 x.2.2.2.2.2), ((ad 24), e_X4 (ad 25) t_told), ((ad 25), eI cA 12 t_told_sounds)] → va_S A s.heap H locs → lv_has ls 7 [(0, .ref (ad 0)), (2, .int x.1), (3, .int x.2.1), (4, .long x.2.2.1), (6, .int x.2.2.2.1)] → W p l e rm_X5_depthsOfEcho s m args below meth c H locs 0 0 Q (F0 m 18 ls []) := by
    intro  n
    induction n with
    | zero => intro x H locs ls hm; cases (show none = some out from hm)
    | succ n HK_18 =>
      intro x H locs ls hm hP hD hS hl
      replace hm : b_X5_depthsOfEcho_18 fu t t_now t_now_kinds t_now_pitches t_shelves_sizes t_shelves_elements t_told t_told_sounds (lfix (b_X5_depthsOfEcho_18 fu t t_now t_now_kinds t_now_pitches t_shelves_sizes t_shelves_elements t_told t_told_sounds) n) x = some out := hm
      unfold b_X5_depthsOfEcho_18 at hm
      refine lv_iload hx hb dX5_depthsOfEcho_18 (lv_at hl 4 rfl) ?_
      refine lv_bipush (v := (40 : Int32)) hx hb dX5_depthsOfEcho_20 (by decide) ?_
      refine lv_icmp_gt (tgt := 58) hx hb dX5_depthsOfEcho_22 (by decide) (fun c1 => ?_) (fun c1 => ?_)
      · have hm := it_t c1 hm
        refine lv_lload hx hb dX5_depthsOfEcho_58 (lv_at hl 3 rfl) ?_
        rw [hQ]
        exact W.lret (v := x.2.2.1) hx hb hr (fun t9 ht hW => ⟨⟨x.2.2.1, (x.2.2.2.2.1, x.2.2.2.2.2), rfl, (Option.some.inj hm), by rw [ht]; exact hP, va_K.moved hW.alike hK, hD⟩, hS.F ht⟩) hS.2.2 dX5_depthsOfEcho_60
      · have hm := it_f c1 hm
        refine lv_aload_n hx hb dX5_depthsOfEcho_25 rfl (lv_at hl 0 rfl) ?_
        refine va_get (D := D) (ci := 5) (v := .ref (ad 20)) (C := RX5) (T := TX5) (N := 17) hx hb htg inX5 hown hK hP 0 rfl rfl 7 (by decide) (htg _ q_1_195) (fun _ h9 => h9) rfl dX5_depthsOfEcho_26 ?_
        refine lv_iload hx hb dX5_depthsOfEcho_29 (lv_at hl 4 rfl) ?_
        refine va_putN (D := D) (ci := 3) (v := .int x.2.2.2.1) (ty := .int) (C := RX3) (T := TX3) (N := 9) hx hb htg inX3 tyX3 tyX3_ok nmX3 hown hK hP hD hS 7 rfl rfl 2 (by decide) (va_Nw.use rfl (hN _ q_1_144)) (fun _ h9 => h9) rfl (by decide +kernel) rfl rfl (Nat.le_of_ble_eq_true rfl) dX5_depthsOfEcho_31 (fun H locs (hP : va_P D CL [((ad 0), e_X5 ad t), ((ad 1), e_X1 (ad 2) (ad 3) (ad 4) t_now), ((ad 2), eI cA 8 t_now_kinds), ((ad 4), eI cA 8 t_now_pitches), ((ad 13), e_X0 (ad 14) (ad 15) (ad 16)), ((ad 15), eI cA 8 t_shelves_sizes), ((ad 16), eJ cA 320 t_shelves_elements), ((ad 20), e_X3 (ad 21) (upd x.2.2.2.2.1 2 x.2.2.2.1)), ((ad 21), eI cA 13 x.2.2.2.2.2), ((ad 24), e_X4 (ad 25) t_told), ((ad 25), eI cA 12 t_told_sounds)] H) (hD : va_D A [((ad 0), e_X5 ad t), ((ad 1), e_X1 (ad 2) (ad 3) (ad 4) t_now), ((ad 2), eI cA 8 t_now_kinds), ((ad 4), eI cA 8 t_now_pitches), ((ad 13), e_X0 (ad 14) (ad 15) (ad 16)), ((ad 15), eI cA 8 t_shelves_sizes), ((ad 16), eJ cA 320 t_shelves_elements), ((ad 20), e_X3 (ad 21) (upd x.2.2.2.2.1 2 x.2.2.2.1)), ((ad 21), eI cA 13 x.2.2.2.2.2), ((ad 24), e_X4 (ad 25) t_told), ((ad 25), eI cA 12 t_told_sounds)]) hS => ?_)
        refine lv_aload_n hx hb dX5_depthsOfEcho_34 rfl (lv_at hl 0 rfl) ?_
        refine lv_iload_n hx hb dX5_depthsOfEcho_35 rfl (lv_at hl 1 rfl) ?_
        refine lv_iload_n hx hb dX5_depthsOfEcho_36 rfl (lv_at hl 2 rfl) ?_
        obtain ⟨o2, ho3, hm⟩ := bd_s hm
        refine xr_i (wr := [((ad 1), e_X1 (ad 2) (ad 3) (ad 4) t_now), ((ad 2), eI cA 8 t_now_kinds), ((ad 4), eI cA 8 t_now_pitches)]) (wn := [((ad 0), e_X5 ad t), ((ad 1), e_X1 (ad 2) (ad 3) (ad 4) t_now), ((ad 2), eI cA 8 t_now_kinds), ((ad 4), eI cA 8 t_now_pitches), ((ad 13), e_X0 (ad 14) (ad 15) (ad 16)), ((ad 15), eI cA 8 t_shelves_sizes), ((ad 16), eJ cA 320 t_shelves_elements), ((ad 20), e_X3 (ad 21) o2.2.1), ((ad 21), eI cA 13 o2.2.2), ((ad 24), e_X4 (ad 25) t_told), ((ad 25), eI cA 12 t_told_sounds)]) (va_runV (As := [.int x.1, .int x.2.1]) (rest := []) ⟨hx, hb, hml, hown, htg⟩ (c_X5_echoIsRow l D cA _ fu ad t t_shelves_sizes t_shelves_elements (upd x.2.2.2.2.1 2 x.2.2.2.1) x.2.2.2.2.2 t_told t_told_sounds x.1 x.2.1 o2 ho3) (cwV 2 htg (gV q_4_84 q_4_86 q_p4_13 q_1_1 q_4_87) rfl rfl rfl hd_X5_echoIsRow ⟨Nat.le_of_ble_eq_true rfl, Nat.le_of_ble_eq_true rfl⟩) (xpV hN hK hP hD [0, 4, 5, 6, 7, 8, 9, 10] rfl (by decide) rfl rfl) rfl rfl hl.1 rfl (lv_room (Nat.le_of_ble_eq_true rfl)) dX5_depthsOfEcho_37 ⟨Nat.zero_le _, Nat.zero_le _⟩) hP hD hS hA [0, 4, 5, 6, 7, 8, 9, 10] [1, 2, 3] [3, 0, 1, 2, 4, 5, 6, 7, 8, 9, 10] rfl rfl (by decide) (by decide) rfl (by decide) (fun H locs hP hD hS => ?_)
        refine lv_if_eq (tgt := 52) hx hb dX5_depthsOfEcho_40 (by decide) (fun c4 => ?_) (fun c4 => ?_)
        · have hm := it_t c4 hm
          exact B_52 _ HK_18 _ _ _ _ _ _ _ _ _ hm hP hD hS (lv_sub hl [0, 1, 2, 3, 4] rfl)
        · have hm := it_f c4 hm
          refine lv_lload hx hb dX5_depthsOfEcho_43 (lv_at hl 3 rfl) ?_
          refine lv_lconst (v := (1 : Int64)) hx hb dX5_depthsOfEcho_45 (by decide) ?_
          refine lv_iload hx hb dX5_depthsOfEcho_46 (lv_at hl 4 rfl) ?_
          refine lv_lshl hx hb dX5_depthsOfEcho_48 rfl ?_
          refine lv_lor hx hb dX5_depthsOfEcho_49 ?_
          refine lv_lstore (lv' := [(4, .long (x.2.2.1 ||| ((1 : Int64) <<< (x.2.2.2.1.toInt64 &&& 63)))), (0, .ref (ad 0)), (2, .int x.1), (3, .int x.2.1), (6, .int x.2.2.2.1)]) hx hb dX5_depthsOfEcho_50 hl (by decide) rfl (fun ls hl => ?_)
          exact B_52 _ HK_18 _ _ _ _ _ _ _ _ _ hm hP hD hS (lv_sub hl [1, 2, 3, 0, 4] rfl)
  unfold m_X5_depthsOfEcho at hm
  subst hargs
  have hl := lv_entry ([.ref (ad 0), .int l1, .int l2, .int l3]) (n := 7) (Nat.le_of_ble_eq_true rfl)
  rw [lg_entry_eq]
  generalize (lg_sl ([.ref (ad 0), .int l1, .int l2, .int l3]) ++ List.replicate (7 - (lg_sl ([.ref (ad 0), .int l1, .int l2, .int l3])).length) Slot.unset).toArray = ls at hl ⊢
  have hl : lv_has ls 7 [(0, .ref (ad 0)), (1, .int l1), (2, .int l2), (3, .int l3)] := hl
  refine lv_aload_n hx hb dX5_depthsOfEcho_0 rfl (lv_at hl 0 rfl) ?_
  refine va_get (D := D) (ci := 5) (v := .ref (ad 20)) (C := RX5) (T := TX5) (N := 17) hx hb htg inX5 hown hK hP 0 rfl rfl 7 (by decide) (htg _ q_1_195) (fun _ h9 => h9) rfl dX5_depthsOfEcho_1 ?_
  refine lv_aload_n hx hb dX5_depthsOfEcho_4 rfl (lv_at hl 0 rfl) ?_
  refine va_get (D := D) (ci := 5) (v := .ref (ad 1)) (C := RX5) (T := TX5) (N := 17) hx hb htg inX5 hown hK hP 0 rfl rfl 0 (by decide) (htg _ q_1_188) (fun _ h9 => h9) rfl dX5_depthsOfEcho_5 ?_
  refine lv_iload_n hx hb dX5_depthsOfEcho_8 rfl (lv_at hl 1 rfl) ?_
  obtain ⟨o5, ho6, hm⟩ := bd_s hm
  refine xr_v (wr := [((ad 0), e_X5 ad t), ((ad 13), e_X0 (ad 14) (ad 15) (ad 16)), ((ad 15), eI cA 8 t_shelves_sizes), ((ad 16), eJ cA 320 t_shelves_elements), ((ad 21), eI cA 13 t_trial_heard), ((ad 24), e_X4 (ad 25) t_told), ((ad 25), eI cA 12 t_told_sounds)]) (wn := [((ad 0), e_X5 ad t), ((ad 1), e_X1 (ad 2) (ad 3) (ad 4) t_now), ((ad 2), eI cA 8 t_now_kinds), ((ad 4), eI cA 8 t_now_pitches), ((ad 13), e_X0 (ad 14) (ad 15) (ad 16)), ((ad 15), eI cA 8 t_shelves_sizes), ((ad 16), eJ cA 320 t_shelves_elements), ((ad 20), e_X3 (ad 21) o5), ((ad 21), eI cA 13 t_trial_heard), ((ad 24), e_X4 (ad 25) t_told), ((ad 25), eI cA 12 t_told_sounds)]) (va_runVN (As := [.ref (ad 1), .int l1]) (rest := []) ⟨hx, hb, hml, hown, htg⟩ (c_X3_standsFor l D cA _ fu (ad 20) (ad 21) (ad 1) (ad 2) (ad 3) (ad 4) t_trial t_now t_now_kinds t_now_pitches l1 o5 ho6) ⟨va_cnB 2 htg (gU q_2_126) rfl rfl rfl (hN _ q_2_123) (htg _ q_1_6) hd_X3_standsFor.2 ⟨Nat.le_of_ble_eq_true rfl, Nat.le_of_ble_eq_true rfl⟩, htg _ q_2_125, htg _ q_p2_0⟩ (xpV hN hK hP hD [7, 1, 2, 3] rfl (by decide) rfl rfl) rfl rfl hl.1 rfl (lv_room (Nat.le_of_ble_eq_true rfl)) dX5_depthsOfEcho_9 ⟨Nat.zero_le _, Nat.zero_le _⟩) hP hD hS hA [7, 1, 2, 3] [0, 4, 5, 6, 8, 9, 10] [0, 8, 9, 10, 1, 2, 3, 7, 4, 5, 6] rfl rfl (by decide) (by decide) rfl (by decide) (fun H locs hP hD hS => ?_)
  refine lv_lconst (v := (0 : Int64)) hx hb dX5_depthsOfEcho_12 (by decide) ?_
  refine lv_lstore (lv' := [(4, .long (0 : Int64)), (0, .ref (ad 0)), (1, .int l1), (2, .int l2), (3, .int l3)]) hx hb dX5_depthsOfEcho_13 hl (by decide) rfl (fun ls hl => ?_)
  refine lv_iconst (v := (0 : Int32)) hx hb dX5_depthsOfEcho_15 (by decide) ?_
  refine lv_istore (lv' := [(6, .int (0 : Int32)), (4, .long (0 : Int64)), (0, .ref (ad 0)), (1, .int l1), (2, .int l2), (3, .int l3)]) hx hb dX5_depthsOfEcho_16 hl (by decide) rfl (fun ls hl => ?_)
  exact B_18 fu _ _ _ _ hm hP hD hS (lv_sub hl [2, 4, 5, 1, 0] rfl)
def b_X5_depths_38 (fu : Nat) (t : Nat → Int32) (t_now : Nat → Int32) (t_now_kinds : Nat → Int32) (t_now_pitches : Nat → Int32) (t_shelves_holding : Nat → Int32) (t_shelves_sizes : Nat → Int32) (t_shelves_elements : Nat → Int64) (l3 : Int32) (l4 : Int32) (l5 : Int32) (l6 : Int32) (s1 : Int32) (s2 : Int32) (s3 : Int32) (s4 : Int32) (s5 : Int32) (t_refusals : Nat → Int32) (t_trial : Nat → Int32) (t_trial_heard : Nat → Int32) (t_told : Nat → Int32) (t_told_sounds : Nat → Int32) : Option (Int32 × ((Nat → Int32) × (Nat → Int32) × (Nat → Int32) × (Nat → Int32) × (Nat → Int32))) :=
  (m_X5_takeWordAndRow fu t t_shelves_holding t_shelves_sizes t_shelves_elements t_refusals t_told t_told_sounds s1 s2 s3 s4 s5).bind fun o1 =>
    (if o1.1 = 0 then
      (m_X5_depthsOfEcho fu t t_now t_now_kinds t_now_pitches t_shelves_sizes t_shelves_elements t_trial t_trial_heard o1.2.2.1 o1.2.2.2 l5 l3 l4).bind fun o4 =>
      (m_X5_tellOf fu o4.1 l6).bind fun o6 =>
      some (o6.1, (o1.2.1, o4.2.1, o4.2.2, o1.2.2.1, o1.2.2.2))
    else
      some (o1.1, (o1.2.1, t_trial, t_trial_heard, o1.2.2.1, o1.2.2.2)))
def b_X5_depths_37 (fu : Nat) (t : Nat → Int32) (t_now : Nat → Int32) (t_now_kinds : Nat → Int32) (t_now_pitches : Nat → Int32) (t_shelves_holding : Nat → Int32) (t_shelves_sizes : Nat → Int32) (t_shelves_elements : Nat → Int64) (l3 : Int32) (l4 : Int32) (l5 : Int32) (l6 : Int32) (s1 : Int32) (s2 : Int32) (s3 : Int32) (s4 : Int32) (t_refusals : Nat → Int32) (t_trial : Nat → Int32) (t_trial_heard : Nat → Int32) (t_told : Nat → Int32) (t_told_sounds : Nat → Int32) : Option (Int32 × ((Nat → Int32) × (Nat → Int32) × (Nat → Int32) × (Nat → Int32) × (Nat → Int32))) :=
  b_X5_depths_38 fu t t_now t_now_kinds t_now_pitches t_shelves_holding t_shelves_sizes t_shelves_elements l3 l4 l5 l6 s1 s2 s3 s4 (0 : Int32) t_refusals t_trial t_trial_heard t_told t_told_sounds
def m_X5_depths (fu : Nat) (t : Nat → Int32) (t_now : Nat → Int32) (t_now_kinds : Nat → Int32) (t_now_pitches : Nat → Int32) (t_shelves_holding : Nat → Int32) (t_shelves_sizes : Nat → Int32) (t_shelves_elements : Nat → Int64) (t_refusals : Nat → Int32) (t_trial : Nat → Int32) (t_trial_heard : Nat → Int32) (t_told : Nat → Int32) (t_told_sounds : Nat → Int32) (l1 : Int32) (l2 : Int32) (l3 : Int32) (l4 : Int32) (l5 : Int32) (l6 : Int32) : Option (Int32 × ((Nat → Int32) × (Nat → Int32) × (Nat → Int32) × (Nat → Int32) × (Nat → Int32))) :=
  (m_X5_isVoice fu t t_now l5).bind fun o8 =>
  (if o8.1 = 0 then
    b_X5_depths_37 fu t t_now t_now_kinds t_now_pitches t_shelves_holding t_shelves_sizes t_shelves_elements l3 l4 l5 l6 l1 l2 l3 l4 t_refusals t_trial t_trial_heard t_told t_told_sounds
  else
    (m_X5_isEchoSize fu l4).bind fun o11 =>
    (if o11.1 = 0 then
      b_X5_depths_37 fu t t_now t_now_kinds t_now_pitches t_shelves_holding t_shelves_sizes t_shelves_elements l3 l4 l5 l6 l1 l2 l3 l4 t_refusals t_trial t_trial_heard t_told t_told_sounds
    else
      (m_X5_isWithin fu l6 (0 : Int32) (2 : Int32)).bind fun o14 =>
      (if o14.1 = 0 then
        b_X5_depths_37 fu t t_now t_now_kinds t_now_pitches t_shelves_holding t_shelves_sizes t_shelves_elements l3 l4 l5 l6 l1 l2 l3 l4 t_refusals t_trial t_trial_heard t_told t_told_sounds
      else
        b_X5_depths_38 fu t t_now t_now_kinds t_now_pitches t_shelves_holding t_shelves_sizes t_shelves_elements l3 l4 l5 l6 l1 l2 l3 l4 (1 : Int32) t_refusals t_trial t_trial_heard t_told t_told_sounds)))
abbrev rm_X5_depths : Room := ({ frames := 6, cells := 0, slots := 0, locals := 137 } : Room)
abbrev w0_X5_depths (cA : Nat → ClassId) (ad : Nat → Nat) (t : Nat → Int32) (t_now : Nat → Int32) (t_now_kinds : Nat → Int32) (t_now_pitches : Nat → Int32) (t_shelves_holding : Nat → Int32) (t_shelves_sizes : Nat → Int32) (t_shelves_elements : Nat → Int64) (t_refusals : Nat → Int32) (t_trial : Nat → Int32) (t_trial_heard : Nat → Int32) (t_told : Nat → Int32) (t_told_sounds : Nat → Int32) : va_W := [((ad 0), e_X5 ad t), ((ad 1), e_X1 (ad 2) (ad 3) (ad 4) t_now), ((ad 2), eI cA 8 t_now_kinds), ((ad 4), eI cA 8 t_now_pitches), ((ad 13), e_X0 (ad 14) (ad 15) (ad 16)), ((ad 14), eI cA 8 t_shelves_holding), ((ad 15), eI cA 8 t_shelves_sizes), ((ad 16), eJ cA 320 t_shelves_elements), ((ad 19), eI cA 5 t_refusals), ((ad 20), e_X3 (ad 21) t_trial), ((ad 21), eI cA 13 t_trial_heard), ((ad 24), e_X4 (ad 25) t_told), ((ad 25), eI cA 12 t_told_sounds)]
abbrev w1_X5_depths (cA : Nat → ClassId) (ad : Nat → Nat) (t : Nat → Int32) (t_now : Nat → Int32) (t_now_kinds : Nat → Int32) (t_now_pitches : Nat → Int32) (t_shelves_holding : Nat → Int32) (t_shelves_sizes : Nat → Int32) (t_shelves_elements : Nat → Int64) (u : (Nat → Int32) × (Nat → Int32) × (Nat → Int32) × (Nat → Int32) × (Nat → Int32)) : va_W := [((ad 0), e_X5 ad t), ((ad 1), e_X1 (ad 2) (ad 3) (ad 4) t_now), ((ad 2), eI cA 8 t_now_kinds), ((ad 4), eI cA 8 t_now_pitches), ((ad 13), e_X0 (ad 14) (ad 15) (ad 16)), ((ad 14), eI cA 8 t_shelves_holding), ((ad 15), eI cA 8 t_shelves_sizes), ((ad 16), eJ cA 320 t_shelves_elements), ((ad 19), eI cA 5 u.1), ((ad 20), e_X3 (ad 21) u.2.1), ((ad 21), eI cA 13 u.2.2.1), ((ad 24), e_X4 (ad 25) u.2.2.2.1), ((ad 25), eI cA 12 u.2.2.2.2)]
theorem hd_X5_depths : yX5_depths.cls = RX5 ∧ yX5_depths.cls ≠ "java/lang/invoke/MethodHandle" ∧ yX5_depths.cls ≠ "java/lang/invoke/VarHandle" ∧ (parseMethodDescriptor yX5_depths.desc).map (fun d => d.parameters.length) = some 6 := by decide +kernel
set_option maxHeartbeats 40000000 in
set_option maxRecDepth 100000 in
theorem c_X5_depths (l : Launch) (D : va_G) (cA : Nat → ClassId) (sz : Nat) (fu : Nat) (ad : Nat → Nat) (t : Nat → Int32) (t_now : Nat → Int32) (t_now_kinds : Nat → Int32) (t_now_pitches : Nat → Int32) (t_shelves_holding : Nat → Int32) (t_shelves_sizes : Nat → Int32) (t_shelves_elements : Nat → Int64) (t_refusals : Nat → Int32) (t_trial : Nat → Int32) (t_trial_heard : Nat → Int32) (t_told : Nat → Int32) (t_told_sounds : Nat → Int32) (l1 : Int32) (l2 : Int32) (l3 : Int32) (l4 : Int32) (l5 : Int32) (l6 : Int32) (out : Int32 × ((Nat → Int32) × (Nat → Int32) × (Nat → Int32) × (Nat → Int32) × (Nat → Int32))) (hm : m_X5_depths fu t t_now t_now_kinds t_now_pitches t_shelves_holding t_shelves_sizes t_shelves_elements t_refusals t_trial t_trial_heard t_told t_told_sounds l1 l2 l3 l4 l5 l6 = some out) : MI l yX5_depths (wU yX5_depths cX5_depths 8 ((Option.some Jvm.ClassFile.FieldType.int))) rm_X5_depths D cA sz [.ref (ad 0), .int l1, .int l2, .int l3, .int l4, .int l5, .int l6] (w0_X5_depths cA ad t t_now t_now_kinds t_now_pitches t_shelves_holding t_shelves_sizes t_shelves_elements t_refusals t_trial t_trial_heard t_told t_told_sounds) out (w1_X5_depths cA ad t t_now t_now_kinds t_now_pitches t_shelves_holding t_shelves_sizes t_shelves_elements) := by
  refine Met.ofW (cc := cX5_depths) (maxL := 8) (ret := (Option.some Jvm.ClassFile.FieldType.int)) (by decide) rfl ?_
  intro p e s m args below meth c s₁ B hml hv
  obtain ⟨hargs, hsz, hP, hK, hD0, hN⟩ := hv
  have hx := B.exec
  have hb := B.bytes
  have hr := B.returns
  have htg : ∀ w ∈ gw, w.before args s = true := fun w h => atoms_spec (ws := wU yX5_depths cX5_depths 8 ((Option.some Jvm.ClassFile.FieldType.int))) B.pre w (List.mem_cons_of_mem _ h)
  have hown : s.vm.findClass RX5 = some m.cls := findClass_of_methodNamed B.named
  have hlocks := B.notSynchronized
  subst hsz
  have hD := hD0.self (sz := s.heap.size)
  have hA : ∀ q : Nat, s.heap.size ≤ q → va_A (w0_X5_depths cA ad t t_now t_now_kinds t_now_pitches t_shelves_holding t_shelves_sizes t_shelves_elements t_refusals t_trial t_trial_heard t_told t_told_sounds) s.heap.size q := fun q h => Or.inr h
  have hS : va_S (va_A (w0_X5_depths cA ad t t_now t_now_kinds t_now_pitches t_shelves_holding t_shelves_sizes t_shelves_elements t_refusals t_trial t_trial_heard t_told t_told_sounds) s.heap.size) s.heap s.heap [] := va_S.rf
  generalize va_A (w0_X5_depths cA ad t t_now t_now_kinds t_now_pitches t_shelves_holding t_shelves_sizes t_shelves_elements t_refusals t_trial t_trial_heard t_told t_told_sounds) s.heap.size = A at hA hD hS ⊢
  obtain ⟨Q, hQ⟩ : ∃ Q : State → Prop, Q = MQ below (va_Qi (fun (r : Int32) (u : (Nat → Int32) × (Nat → Int32) × (Nat → Int32) × (Nat → Int32) × (Nat → Int32)) => (r, u) = out) (pst0 D cA A (w1_X5_depths cA ad t t_now t_now_kinds t_now_pitches t_shelves_holding t_shelves_sizes t_shelves_elements)) A) args s 0 0 A := ⟨_, rfl⟩
  refine (?_ : W p l e rm_X5_depths s m args below meth c s.heap [] 0 0 (MQ below (va_Qi (fun (r : Int32) (u : (Nat → Int32) × (Nat → Int32) × (Nat → Int32) × (Nat → Int32) × (Nat → Int32)) => (r, u) = out) (pst0 D cA A (w1_X5_depths cA ad t t_now t_now_kinds t_now_pitches t_shelves_holding t_shelves_sizes t_shelves_elements)) A) args s 0 0 A) (entryFrame m args 8))
  rw [← hQ]
  have hP : va_P D CL [((ad 0), e_X5 ad t), ((ad 1), e_X1 (ad 2) (ad 3) (ad 4) t_now), ((ad 2), eI cA 8 t_now_kinds), ((ad 4), eI cA 8 t_now_pitches), ((ad 13), e_X0 (ad 14) (ad 15) (ad 16)), ((ad 14), eI cA 8 t_shelves_holding), ((ad 15), eI cA 8 t_shelves_sizes), ((ad 16), eJ cA 320 t_shelves_elements), ((ad 19), eI cA 5 t_refusals), ((ad 20), e_X3 (ad 21) t_trial), ((ad 21), eI cA 13 t_trial_heard), ((ad 24), e_X4 (ad 25) t_told), ((ad 25), eI cA 12 t_told_sounds)] s.heap := hP
  have hD : va_D A [((ad 0), e_X5 ad t), ((ad 1), e_X1 (ad 2) (ad 3) (ad 4) t_now), ((ad 2), eI cA 8 t_now_kinds), ((ad 4), eI cA 8 t_now_pitches), ((ad 13), e_X0 (ad 14) (ad 15) (ad 16)), ((ad 14), eI cA 8 t_shelves_holding), ((ad 15), eI cA 8 t_shelves_sizes), ((ad 16), eJ cA 320 t_shelves_elements), ((ad 19), eI cA 5 t_refusals), ((ad 20), e_X3 (ad 21) t_trial), ((ad 21), eI cA 13 t_trial_heard), ((ad 24), e_X4 (ad 25) t_told), ((ad 25), eI cA 12 t_told_sounds)] := hD
  have B_38 : ∀ (l3 : Int32) (l4 : Int32) (l5 : Int32) (l6 : Int32) (s1 : Int32) (s2 : Int32) (s3 : Int32) (s4 : Int32) (s5 : Int32) (t_refusals : Nat → Int32) (t_trial : Nat → Int32) (t_trial_heard : Nat → Int32) (t_told : Nat → Int32) (t_told_sounds : Nat → Int32) (H : Heap) (locs : List Loc) (ls : Array Slot), b_X5_depths_38 fu t t_now t_now_kinds t_now_pitches t_shelves_holding t_shelves_sizes t_shelves_elements l3 l4 l5 l6 s1 s2 s3 s4 s5 t_refusals t_trial t_trial_heard t_told t_told_sounds = some out → va_P D CL [((ad 0), e_X5 ad t), ((ad 1), e_X1 (ad 2) (ad 3) (ad 4) t_now), ((ad 2), eI cA 8 t_now_kinds), ((ad 4), eI cA 8 t_now_pitches), ((ad 13), e_X0 (ad 14) (ad 15) (ad 16)), ((ad 14), eI cA 8 t_shelves_holding), ((ad 15), eI cA 8 t_shelves_sizes), ((ad 16), eJ cA 320 t_shelves_elements), ((ad 19), eI cA 5 t_refusals), ((ad 20), e_X3 (ad 21) t_trial), ((ad 21), eI cA 13 t_trial_heard), ((ad 24), e_X4 (ad 25) t_told), ((ad 25), eI cA 12 t_told_sounds)] H → va_D A [((ad 0), e_X5 ad t), ((ad 1), e_X1 (ad 2) (ad 3) (ad 4) t_now), ((ad 2), eI cA 8 t_now_kinds), ((ad 4), eI cA 8 t_now_pitches), ((ad 13), e_X0 (ad 14) (ad 15) (ad 16)), ((ad 14), eI cA 8 t_shelves_holding), ((ad 15), eI cA 8 t_shelves_sizes), ((ad 16), eJ cA 320 t_shelves_elements), ((ad 19), eI cA 5 t_refusals), ((ad 20), e_X3 (ad 21) t_trial), ((ad 21), eI cA 13 t_trial_heard), ((ad 24), e_X4 (ad 25) t_told), ((ad 25), eI cA 12 t_told_sounds)] → va_S A s.heap H locs → lv_has ls 8 [(0, .ref (ad 0)), (3, .int l3), (4, .int l4), (5, .int l5), (6, .int l6)] → W p l e rm_X5_depths s m args below meth c H locs 0 0 Q (F0 m 38 ls [.int s5, .int s4, .int s3, .int s2, .int s1, .ref (ad 0)]) := by
    intro  l3 l4 l5 l6 s1 s2 s3 s4 s5 t_refusals t_trial t_trial_heard t_told t_told_sounds H locs ls hm hP hD hS hl
    unfold b_X5_depths_38 at hm
    obtain ⟨o1, ho2, hm⟩ := bd_s hm
    refine xr_i (wr := [((ad 1), e_X1 (ad 2) (ad 3) (ad 4) t_now), ((ad 2), eI cA 8 t_now_kinds), ((ad 4), eI cA 8 t_now_pitches), ((ad 20), e_X3 (ad 21) t_trial), ((ad 21), eI cA 13 t_trial_heard)]) (wn := [((ad 0), e_X5 ad t), ((ad 1), e_X1 (ad 2) (ad 3) (ad 4) t_now), ((ad 2), eI cA 8 t_now_kinds), ((ad 4), eI cA 8 t_now_pitches), ((ad 13), e_X0 (ad 14) (ad 15) (ad 16)), ((ad 14), eI cA 8 t_shelves_holding), ((ad 15), eI cA 8 t_shelves_sizes), ((ad 16), eJ cA 320 t_shelves_elements), ((ad 19), eI cA 5 o1.2.1), ((ad 20), e_X3 (ad 21) t_trial), ((ad 21), eI cA 13 t_trial_heard), ((ad 24), e_X4 (ad 25) o1.2.2.1), ((ad 25), eI cA 12 o1.2.2.2)]) (va_runV (As := [.int s1, .int s2, .int s3, .int s4, .int s5]) (rest := []) ⟨hx, hb, hml, hown, htg⟩ (c_X5_takeWordAndRow l D cA _ fu ad t t_shelves_holding t_shelves_sizes t_shelves_elements t_refusals t_told t_told_sounds s1 s2 s3 s4 s5 o1 ho2) (cwV 5 htg (gV q_3_130 q_3_132 q_p3_13 q_1_1 q_3_133) rfl rfl rfl hd_X5_takeWordAndRow ⟨Nat.le_of_ble_eq_true rfl, Nat.le_of_ble_eq_true rfl⟩) (xpV hN hK hP hD [0, 4, 5, 6, 7, 8, 11, 12] rfl (by decide) rfl rfl) rfl rfl hl.1 rfl (lv_room (Nat.le_of_ble_eq_true rfl)) dX5_depths_38 ⟨Nat.zero_le _, Nat.zero_le _⟩) hP hD hS hA [0, 4, 5, 6, 7, 8, 11, 12] [1, 2, 3, 9, 10] [5, 0, 1, 2, 6, 7, 8, 9, 10, 3, 4, 11, 12] rfl rfl (by decide) (by decide) rfl (by decide) (fun H locs hP hD hS => ?_)
    refine lv_istore (lv' := [(7, .int o1.1), (0, .ref (ad 0)), (3, .int l3), (4, .int l4), (5, .int l5), (6, .int l6)]) hx hb dX5_depths_41 hl (by decide) rfl (fun ls hl => ?_)
    refine lv_iload hx hb dX5_depths_43 (lv_at hl 0 rfl) ?_
    refine lv_if_eq (tgt := 51) hx hb dX5_depths_45 (by decide) (fun c3 => ?_) (fun c3 => ?_)
    · have hm := it_t c3 hm
      refine lv_aload_n hx hb dX5_depths_51 rfl (lv_at hl 1 rfl) ?_
      refine lv_iload hx hb dX5_depths_52 (lv_at hl 4 rfl) ?_
      refine lv_iload_n hx hb dX5_depths_54 rfl (lv_at hl 2 rfl) ?_
      refine lv_iload hx hb dX5_depths_55 (lv_at hl 3 rfl) ?_
      obtain ⟨o4, ho5, hm⟩ := bd_s hm
      refine xr_l (wr := [((ad 14), eI cA 8 t_shelves_holding), ((ad 19), eI cA 5 o1.2.1)]) (wn := [((ad 0), e_X5 ad t), ((ad 1), e_X1 (ad 2) (ad 3) (ad 4) t_now), ((ad 2), eI cA 8 t_now_kinds), ((ad 4), eI cA 8 t_now_pitches), ((ad 13), e_X0 (ad 14) (ad 15) (ad 16)), ((ad 14), eI cA 8 t_shelves_holding), ((ad 15), eI cA 8 t_shelves_sizes), ((ad 16), eJ cA 320 t_shelves_elements), ((ad 19), eI cA 5 o1.2.1), ((ad 20), e_X3 (ad 21) o4.2.1), ((ad 21), eI cA 13 o4.2.2), ((ad 24), e_X4 (ad 25) o1.2.2.1), ((ad 25), eI cA 12 o1.2.2.2)]) (va_runV (As := [.int l5, .int l3, .int l4]) (rest := []) ⟨hx, hb, hml, hown, htg⟩ (c_X5_depthsOfEcho l D cA _ fu ad t t_now t_now_kinds t_now_pitches t_shelves_sizes t_shelves_elements t_trial t_trial_heard o1.2.2.1 o1.2.2.2 l5 l3 l4 o4 ho5) (cwV 3 htg (gV q_4_80 q_4_82 q_p4_12 q_1_1 q_4_83) rfl rfl rfl hd_X5_depthsOfEcho ⟨Nat.le_of_ble_eq_true rfl, Nat.le_of_ble_eq_true rfl⟩) (xpV hN hK hP hD [0, 1, 2, 3, 4, 6, 7, 9, 10, 11, 12] rfl (by decide) rfl rfl) rfl rfl hl.1 rfl (lv_room (Nat.le_of_ble_eq_true rfl)) dX5_depths_57 ⟨Nat.zero_le _, Nat.zero_le _⟩) hP hD hS hA [0, 1, 2, 3, 4, 6, 7, 9, 10, 11, 12] [5, 8] [2, 3, 4, 5, 6, 0, 7, 8, 1, 9, 10, 11, 12] rfl rfl (by decide) (by decide) rfl (by decide) (fun H locs hP hD hS => ?_)
      refine lv_iload hx hb dX5_depths_60 (lv_at hl 5 rfl) ?_
      obtain ⟨o6, ho7, hm⟩ := bd_s hm
      refine xr_i (wr := [((ad 0), e_X5 ad t), ((ad 1), e_X1 (ad 2) (ad 3) (ad 4) t_now), ((ad 2), eI cA 8 t_now_kinds), ((ad 4), eI cA 8 t_now_pitches), ((ad 13), e_X0 (ad 14) (ad 15) (ad 16)), ((ad 14), eI cA 8 t_shelves_holding), ((ad 15), eI cA 8 t_shelves_sizes), ((ad 16), eJ cA 320 t_shelves_elements), ((ad 19), eI cA 5 o1.2.1), ((ad 20), e_X3 (ad 21) o4.2.1), ((ad 21), eI cA 13 o4.2.2), ((ad 24), e_X4 (ad 25) o1.2.2.1), ((ad 25), eI cA 12 o1.2.2.2)]) (wn := [((ad 0), e_X5 ad t), ((ad 1), e_X1 (ad 2) (ad 3) (ad 4) t_now), ((ad 2), eI cA 8 t_now_kinds), ((ad 4), eI cA 8 t_now_pitches), ((ad 13), e_X0 (ad 14) (ad 15) (ad 16)), ((ad 14), eI cA 8 t_shelves_holding), ((ad 15), eI cA 8 t_shelves_sizes), ((ad 16), eJ cA 320 t_shelves_elements), ((ad 19), eI cA 5 o1.2.1), ((ad 20), e_X3 (ad 21) o4.2.1), ((ad 21), eI cA 13 o4.2.2), ((ad 24), e_X4 (ad 25) o1.2.2.1), ((ad 25), eI cA 12 o1.2.2.2)]) (va_runS (As := [.long o4.1, .int l6]) (rest := []) ⟨hx, hb, hml, hown, htg⟩ (c_X5_tellOf l D cA _ fu o4.1 l6 o6 ho7) (cwS 2 htg (gS q_3_176 q_3_177 q_1_1 q_3_178) rfl rfl rfl hd_X5_tellOf ⟨Nat.le_of_ble_eq_true rfl, Nat.le_of_ble_eq_true rfl⟩) (xpS hN hK hP hD [] rfl (by decide)) rfl rfl hl.1 rfl (lv_room (Nat.le_of_ble_eq_true rfl)) dX5_depths_62 ⟨Nat.zero_le _, Nat.zero_le _⟩) hP hD hS hA [] [0, 1, 2, 3, 4, 5, 6, 7, 8, 9, 10, 11, 12] [0, 1, 2, 3, 4, 5, 6, 7, 8, 9, 10, 11, 12] rfl rfl (by decide) (by decide) rfl (by decide) (fun H locs hP hD hS => ?_)
      rw [hQ]
      exact W.iret (v := o6.1) hx hb hr (fun t9 ht hW => ⟨⟨o6.1, (o1.2.1, o4.2.1, o4.2.2, o1.2.2.1, o1.2.2.2), rfl, (Option.some.inj hm), by rw [ht]; exact hP, va_K.moved hW.alike hK, hD⟩, hS.F ht⟩) hS.2.2 dX5_depths_65
    · have hm := it_f c3 hm
      refine lv_iload hx hb dX5_depths_48 (lv_at hl 0 rfl) ?_
      rw [hQ]
      exact W.iret (v := o1.1) hx hb hr (fun t9 ht hW => ⟨⟨o1.1, (o1.2.1, t_trial, t_trial_heard, o1.2.2.1, o1.2.2.2), rfl, (Option.some.inj hm), by rw [ht]; exact hP, va_K.moved hW.alike hK, hD⟩, hS.F ht⟩) hS.2.2 dX5_depths_50
  have B_37 : ∀ (l3 : Int32) (l4 : Int32) (l5 : Int32) (l6 : Int32) (s1 : Int32) (s2 : Int32) (s3 : Int32) (s4 : Int32) (t_refusals : Nat → Int32) (t_trial : Nat → Int32) (t_trial_heard : Nat → Int32) (t_told : Nat → Int32) (t_told_sounds : Nat → Int32) (H : Heap) (locs : List Loc) (ls : Array Slot), b_X5_depths_37 fu t t_now t_now_kinds t_now_pitches t_shelves_holding t_shelves_sizes t_shelves_elements l3 l4 l5 l6 s1 s2 s3 s4 t_refusals t_trial t_trial_heard t_told t_told_sounds = some out → va_P D CL [((ad 0), e_X5 ad t), ((ad 1), e_X1 (ad 2) (ad 3) (ad 4) t_now), ((ad 2), eI cA 8 t_now_kinds), ((ad 4), eI cA 8 t_now_pitches), ((ad 13), e_X0 (ad 14) (ad 15) (ad 16)), ((ad 14), eI cA 8 t_shelves_holding), ((ad 15), eI cA 8 t_shelves_sizes), ((ad 16), eJ cA 320 t_shelves_elements), ((ad 19), eI cA 5 t_refusals), ((ad 20), e_X3 (ad 21) t_trial), ((ad 21), eI cA 13 t_trial_heard), ((ad 24), e_X4 (ad 25) t_told), ((ad 25), eI cA 12 t_told_sounds)] H → va_D A [((ad 0), e_X5 ad t), ((ad 1), e_X1 (ad 2) (ad 3) (ad 4) t_now), ((ad 2), eI cA 8 t_now_kinds), ((ad 4), eI cA 8 t_now_pitches), ((ad 13), e_X0 (ad 14) (ad 15) (ad 16)), ((ad 14), eI cA 8 t_shelves_holding), ((ad 15), eI cA 8 t_shelves_sizes), ((ad 16), eJ cA 320 t_shelves_elements), ((ad 19), eI cA 5 t_refusals), ((ad 20), e_X3 (ad 21) t_trial), ((ad 21), eI cA 13 t_trial_heard), ((ad 24), e_X4 (ad 25) t_told), ((ad 25), eI cA 12 t_told_sounds)] → va_S A s.heap H locs → lv_has ls 8 [(0, .ref (ad 0)), (3, .int l3), (4, .int l4), (5, .int l5), (6, .int l6)] → W p l e rm_X5_depths s m args below meth c H locs 0 0 Q (F0 m 37 ls [.int s4, .int s3, .int s2, .int s1, .ref (ad 0)]) := by
    intro  l3 l4 l5 l6 s1 s2 s3 s4 t_refusals t_trial t_trial_heard t_told t_told_sounds H locs ls hm hP hD hS hl
    unfold b_X5_depths_37 at hm
    refine lv_iconst (v := (0 : Int32)) hx hb dX5_depths_37 (by decide) ?_
    exact B_38 _ _ _ _ _ _ _ _ _ _ _ _ _ _ _ _ _ hm hP hD hS (lv_sub hl [0, 1, 2, 3, 4] rfl)
  unfold m_X5_depths at hm
  subst hargs
  have hl := lv_entry ([.ref (ad 0), .int l1, .int l2, .int l3, .int l4, .int l5, .int l6]) (n := 8) (Nat.le_of_ble_eq_true rfl)
  rw [lg_entry_eq]
  generalize (lg_sl ([.ref (ad 0), .int l1, .int l2, .int l3, .int l4, .int l5, .int l6]) ++ List.replicate (8 - (lg_sl ([.ref (ad 0), .int l1, .int l2, .int l3, .int l4, .int l5, .int l6])).length) Slot.unset).toArray = ls at hl ⊢
  have hl : lv_has ls 8 [(0, .ref (ad 0)), (1, .int l1), (2, .int l2), (3, .int l3), (4, .int l4), (5, .int l5), (6, .int l6)] := hl
  refine lv_aload_n hx hb dX5_depths_0 rfl (lv_at hl 0 rfl) ?_
  refine lv_iload_n hx hb dX5_depths_1 rfl (lv_at hl 1 rfl) ?_
  refine lv_iload_n hx hb dX5_depths_2 rfl (lv_at hl 2 rfl) ?_
  refine lv_iload_n hx hb dX5_depths_3 rfl (lv_at hl 3 rfl) ?_
  refine lv_iload hx hb dX5_depths_4 (lv_at hl 4 rfl) ?_
  refine lv_aload_n hx hb dX5_depths_6 rfl (lv_at hl 0 rfl) ?_
  refine lv_iload hx hb dX5_depths_7 (lv_at hl 5 rfl) ?_
  obtain ⟨o8, ho9, hm⟩ := bd_s hm
  refine xr_i (wr := [((ad 2), eI cA 8 t_now_kinds), ((ad 4), eI cA 8 t_now_pitches), ((ad 13), e_X0 (ad 14) (ad 15) (ad 16)), ((ad 14), eI cA 8 t_shelves_holding), ((ad 15), eI cA 8 t_shelves_sizes), ((ad 16), eJ cA 320 t_shelves_elements), ((ad 19), eI cA 5 t_refusals), ((ad 20), e_X3 (ad 21) t_trial), ((ad 21), eI cA 13 t_trial_heard), ((ad 24), e_X4 (ad 25) t_told), ((ad 25), eI cA 12 t_told_sounds)]) (wn := [((ad 0), e_X5 ad t), ((ad 1), e_X1 (ad 2) (ad 3) (ad 4) t_now), ((ad 2), eI cA 8 t_now_kinds), ((ad 4), eI cA 8 t_now_pitches), ((ad 13), e_X0 (ad 14) (ad 15) (ad 16)), ((ad 14), eI cA 8 t_shelves_holding), ((ad 15), eI cA 8 t_shelves_sizes), ((ad 16), eJ cA 320 t_shelves_elements), ((ad 19), eI cA 5 t_refusals), ((ad 20), e_X3 (ad 21) t_trial), ((ad 21), eI cA 13 t_trial_heard), ((ad 24), e_X4 (ad 25) t_told), ((ad 25), eI cA 12 t_told_sounds)]) (va_runV (As := [.int l5]) (rest := [.int l4, .int l3, .int l2, .int l1, .ref (ad 0)]) ⟨hx, hb, hml, hown, htg⟩ (c_X5_isVoice l D cA _ fu ad t t_now l5 o8 ho9) (cwV 1 htg (gV q_2_87 q_2_89 q_p1_10 q_1_1 q_2_90) rfl rfl rfl hd_X5_isVoice ⟨Nat.le_of_ble_eq_true rfl, Nat.le_of_ble_eq_true rfl⟩) (xpV hN hK hP hD [0, 1] rfl (by decide) rfl rfl) rfl rfl hl.1 rfl (lv_room (Nat.le_of_ble_eq_true rfl)) dX5_depths_9 ⟨Nat.zero_le _, Nat.zero_le _⟩) hP hD hS hA [0, 1] [2, 3, 4, 5, 6, 7, 8, 9, 10, 11, 12] [11, 12, 0, 1, 2, 3, 4, 5, 6, 7, 8, 9, 10] rfl rfl (by decide) (by decide) rfl (by decide) (fun H locs hP hD hS => ?_)
  refine lv_if_eq (tgt := 37) hx hb dX5_depths_12 (by decide) (fun c10 => ?_) (fun c10 => ?_)
  · have hm := it_t c10 hm
    exact B_37 _ _ _ _ _ _ _ _ _ _ _ _ _ _ _ _ hm hP hD hS (lv_sub hl [0, 3, 4, 5, 6] rfl)
  · have hm := it_f c10 hm
    refine lv_iload hx hb dX5_depths_15 (lv_at hl 4 rfl) ?_
    obtain ⟨o11, ho12, hm⟩ := bd_s hm
    refine xr_i (wr := [((ad 0), e_X5 ad t), ((ad 1), e_X1 (ad 2) (ad 3) (ad 4) t_now), ((ad 2), eI cA 8 t_now_kinds), ((ad 4), eI cA 8 t_now_pitches), ((ad 13), e_X0 (ad 14) (ad 15) (ad 16)), ((ad 14), eI cA 8 t_shelves_holding), ((ad 15), eI cA 8 t_shelves_sizes), ((ad 16), eJ cA 320 t_shelves_elements), ((ad 19), eI cA 5 t_refusals), ((ad 20), e_X3 (ad 21) t_trial), ((ad 21), eI cA 13 t_trial_heard), ((ad 24), e_X4 (ad 25) t_told), ((ad 25), eI cA 12 t_told_sounds)]) (wn := [((ad 0), e_X5 ad t), ((ad 1), e_X1 (ad 2) (ad 3) (ad 4) t_now), ((ad 2), eI cA 8 t_now_kinds), ((ad 4), eI cA 8 t_now_pitches), ((ad 13), e_X0 (ad 14) (ad 15) (ad 16)), ((ad 14), eI cA 8 t_shelves_holding), ((ad 15), eI cA 8 t_shelves_sizes), ((ad 16), eJ cA 320 t_shelves_elements), ((ad 19), eI cA 5 t_refusals), ((ad 20), e_X3 (ad 21) t_trial), ((ad 21), eI cA 13 t_trial_heard), ((ad 24), e_X4 (ad 25) t_told), ((ad 25), eI cA 12 t_told_sounds)]) (va_runS (As := [.int l4]) (rest := [.int l4, .int l3, .int l2, .int l1, .ref (ad 0)]) ⟨hx, hb, hml, hown, htg⟩ (c_X5_isEchoSize l D cA _ fu l4 o11 ho12) (cwS 1 htg (gS q_4_77 q_4_78 q_1_1 q_4_79) rfl rfl rfl hd_X5_isEchoSize ⟨Nat.le_of_ble_eq_true rfl, Nat.le_of_ble_eq_true rfl⟩) (xpS hN hK hP hD [] rfl (by decide)) rfl rfl hl.1 rfl (lv_room (Nat.le_of_ble_eq_true rfl)) dX5_depths_17 ⟨Nat.zero_le _, Nat.zero_le _⟩) hP hD hS hA [] [0, 1, 2, 3, 4, 5, 6, 7, 8, 9, 10, 11, 12] [0, 1, 2, 3, 4, 5, 6, 7, 8, 9, 10, 11, 12] rfl rfl (by decide) (by decide) rfl (by decide) (fun H locs hP hD hS => ?_)
    refine lv_if_eq (tgt := 37) hx hb dX5_depths_20 (by decide) (fun c13 => ?_) (fun c13 => ?_)
    · have hm := it_t c13 hm
      exact B_37 _ _ _ _ _ _ _ _ _ _ _ _ _ _ _ _ hm hP hD hS (lv_sub hl [0, 3, 4, 5, 6] rfl)
    · have hm := it_f c13 hm
      refine lv_iload hx hb dX5_depths_23 (lv_at hl 6 rfl) ?_
      refine lv_iconst (v := (0 : Int32)) hx hb dX5_depths_25 (by decide) ?_
      refine lv_iconst (v := (2 : Int32)) hx hb dX5_depths_26 (by decide) ?_
      obtain ⟨o14, ho15, hm⟩ := bd_s hm
      refine xr_i (wr := [((ad 0), e_X5 ad t), ((ad 1), e_X1 (ad 2) (ad 3) (ad 4) t_now), ((ad 2), eI cA 8 t_now_kinds), ((ad 4), eI cA 8 t_now_pitches), ((ad 13), e_X0 (ad 14) (ad 15) (ad 16)), ((ad 14), eI cA 8 t_shelves_holding), ((ad 15), eI cA 8 t_shelves_sizes), ((ad 16), eJ cA 320 t_shelves_elements), ((ad 19), eI cA 5 t_refusals), ((ad 20), e_X3 (ad 21) t_trial), ((ad 21), eI cA 13 t_trial_heard), ((ad 24), e_X4 (ad 25) t_told), ((ad 25), eI cA 12 t_told_sounds)]) (wn := [((ad 0), e_X5 ad t), ((ad 1), e_X1 (ad 2) (ad 3) (ad 4) t_now), ((ad 2), eI cA 8 t_now_kinds), ((ad 4), eI cA 8 t_now_pitches), ((ad 13), e_X0 (ad 14) (ad 15) (ad 16)), ((ad 14), eI cA 8 t_shelves_holding), ((ad 15), eI cA 8 t_shelves_sizes), ((ad 16), eJ cA 320 t_shelves_elements), ((ad 19), eI cA 5 t_refusals), ((ad 20), e_X3 (ad 21) t_trial), ((ad 21), eI cA 13 t_trial_heard), ((ad 24), e_X4 (ad 25) t_told), ((ad 25), eI cA 12 t_told_sounds)]) (va_runS (As := [.int l6, .int (0 : Int32), .int (2 : Int32)]) (rest := [.int l4, .int l3, .int l2, .int l1, .ref (ad 0)]) ⟨hx, hb, hml, hown, htg⟩ (c_X5_isWithin l D cA _ fu l6 (0 : Int32) (2 : Int32) o14 ho15) (cwS 3 htg (gS q_2_7 q_2_8 q_1_1 q_2_9) rfl rfl rfl hd_X5_isWithin ⟨Nat.le_of_ble_eq_true rfl, Nat.le_of_ble_eq_true rfl⟩) (xpS hN hK hP hD [] rfl (by decide)) rfl rfl hl.1 rfl (lv_room (Nat.le_of_ble_eq_true rfl)) dX5_depths_27 ⟨Nat.zero_le _, Nat.zero_le _⟩) hP hD hS hA [] [0, 1, 2, 3, 4, 5, 6, 7, 8, 9, 10, 11, 12] [0, 1, 2, 3, 4, 5, 6, 7, 8, 9, 10, 11, 12] rfl rfl (by decide) (by decide) rfl (by decide) (fun H locs hP hD hS => ?_)
      refine lv_if_eq (tgt := 37) hx hb dX5_depths_30 (by decide) (fun c16 => ?_) (fun c16 => ?_)
      · have hm := it_t c16 hm
        exact B_37 _ _ _ _ _ _ _ _ _ _ _ _ _ _ _ _ hm hP hD hS (lv_sub hl [0, 3, 4, 5, 6] rfl)
      · have hm := it_f c16 hm
        refine lv_iconst (v := (1 : Int32)) hx hb dX5_depths_33 (by decide) ?_
        refine lv_goto (tgt := 38) hx hb dX5_depths_34 (by decide) ?_
        exact B_38 _ _ _ _ _ _ _ _ _ _ _ _ _ _ _ _ _ hm hP hD hS (lv_sub hl [0, 3, 4, 5, 6] rfl)
def b_X5_kindsOfEcho_51 (fu : Nat) (t : Nat → Int32) (t_now : Nat → Int32) (t_now_kinds : Nat → Int32) (t_now_pitches : Nat → Int32) (t_shelves_sizes : Nat → Int32) (t_shelves_elements : Nat → Int64) (t_told : Nat → Int32) (t_told_sounds : Nat → Int32) (k_18 : (Int32 × Int32 × Int32 × Int32 × (Nat → Int32) × (Nat → Int32)) → Option (Int32 × ((Nat → Int32) × (Nat → Int32)))) (l2 : Int32) (l3 : Int32) (l4 : Int32) (l5 : Int32) (t_trial : Nat → Int32) (t_trial_heard : Nat → Int32) : Option (Int32 × ((Nat → Int32) × (Nat → Int32))) :=
  k_18 (l2, l3, l4, (l5 + (1 : Int32)), t_trial, t_trial_heard)
def b_X5_kindsOfEcho_18 (fu : Nat) (t : Nat → Int32) (t_now : Nat → Int32) (t_now_kinds : Nat → Int32) (t_now_pitches : Nat → Int32) (t_shelves_sizes : Nat → Int32) (t_shelves_elements : Nat → Int64) (t_told : Nat → Int32) (t_told_sounds : Nat → Int32) (k_18 : (Int32 × Int32 × Int32 × Int32 × (Nat → Int32) × (Nat → Int32)) → Option (Int32 × ((Nat → Int32) × (Nat → Int32)))) (x : Int32 × Int32 × Int32 × Int32 × (Nat → Int32) × (Nat → Int32)) : Option (Int32 × ((Nat → Int32) × (Nat → Int32))) :=
  (if (5 : Int32) < x.2.2.2.1 then
        some (x.2.2.1, (x.2.2.2.2.1, x.2.2.2.2.2))
      else
        (m_X5_echoIsRow fu t t_shelves_sizes t_shelves_elements (upd x.2.2.2.2.1 0 x.2.2.2.1) x.2.2.2.2.2 t_told t_told_sounds x.1 x.2.1).bind fun o2 =>
        (if o2.1 = 0 then
          b_X5_kindsOfEcho_51 fu t t_now t_now_kinds t_now_pitches t_shelves_sizes t_shelves_elements t_told t_told_sounds k_18 x.1 x.2.1 x.2.2.1 x.2.2.2.1 o2.2.1 o2.2.2
        else
          b_X5_kindsOfEcho_51 fu t t_now t_now_kinds t_now_pitches t_shelves_sizes t_shelves_elements t_told t_told_sounds k_18 x.1 x.2.1 (x.2.2.1 ||| ((1 : Int32) <<< (x.2.2.2.1 &&& 31))) x.2.2.2.1 o2.2.1 o2.2.2))
def m_X5_kindsOfEcho (fu : Nat) (t : Nat → Int32) (t_now : Nat → Int32) (t_now_kinds : Nat → Int32) (t_now_pitches : Nat → Int32) (t_shelves_sizes : Nat → Int32) (t_shelves_elements : Nat → Int64) (t_trial : Nat → Int32) (t_trial_heard : Nat → Int32) (t_told : Nat → Int32) (t_told_sounds : Nat → Int32) (l1 : Int32) (l2 : Int32) (l3 : Int32) : Option (Int32 × ((Nat → Int32) × (Nat → Int32))) :=
  (m_X3_standsFor fu t_trial t_now t_now_kinds t_now_pitches l1).bind fun o5 =>
  lfix (b_X5_kindsOfEcho_18 fu t t_now t_now_kinds t_now_pitches t_shelves_sizes t_shelves_elements t_told t_told_sounds) fu (l2, l3, (0 : Int32), (0 : Int32), o5, t_trial_heard)
abbrev rm_X5_kindsOfEcho : Room := ({ frames := 5, cells := 0, slots := 0, locals := 111 } : Room)
abbrev w0_X5_kindsOfEcho (cA : Nat → ClassId) (ad : Nat → Nat) (t : Nat → Int32) (t_now : Nat → Int32) (t_now_kinds : Nat → Int32) (t_now_pitches : Nat → Int32) (t_shelves_sizes : Nat → Int32) (t_shelves_elements : Nat → Int64) (t_trial : Nat → Int32) (t_trial_heard : Nat → Int32) (t_told : Nat → Int32) (t_told_sounds : Nat → Int32) : va_W := [((ad 0), e_X5 ad t), ((ad 1), e_X1 (ad 2) (ad 3) (ad 4) t_now), ((ad 2), eI cA 8 t_now_kinds), ((ad 4), eI cA 8 t_now_pitches), ((ad 13), e_X0 (ad 14) (ad 15) (ad 16)), ((ad 15), eI cA 8 t_shelves_sizes), ((ad 16), eJ cA 320 t_shelves_elements), ((ad 20), e_X3 (ad 21) t_trial), ((ad 21), eI cA 13 t_trial_heard), ((ad 24), e_X4 (ad 25) t_told), ((ad 25), eI cA 12 t_told_sounds)]
abbrev w1_X5_kindsOfEcho (cA : Nat → ClassId) (ad : Nat → Nat) (t : Nat → Int32) (t_now : Nat → Int32) (t_now_kinds : Nat → Int32) (t_now_pitches : Nat → Int32) (t_shelves_sizes : Nat → Int32) (t_shelves_elements : Nat → Int64) (t_told : Nat → Int32) (t_told_sounds : Nat → Int32) (u : (Nat → Int32) × (Nat → Int32)) : va_W := [((ad 0), e_X5 ad t), ((ad 1), e_X1 (ad 2) (ad 3) (ad 4) t_now), ((ad 2), eI cA 8 t_now_kinds), ((ad 4), eI cA 8 t_now_pitches), ((ad 13), e_X0 (ad 14) (ad 15) (ad 16)), ((ad 15), eI cA 8 t_shelves_sizes), ((ad 16), eJ cA 320 t_shelves_elements), ((ad 20), e_X3 (ad 21) u.1), ((ad 21), eI cA 13 u.2), ((ad 24), e_X4 (ad 25) t_told), ((ad 25), eI cA 12 t_told_sounds)]
theorem hd_X5_kindsOfEcho : yX5_kindsOfEcho.cls = RX5 ∧ yX5_kindsOfEcho.cls ≠ "java/lang/invoke/MethodHandle" ∧ yX5_kindsOfEcho.cls ≠ "java/lang/invoke/VarHandle" ∧ (parseMethodDescriptor yX5_kindsOfEcho.desc).map (fun d => d.parameters.length) = some 3 := by decide +kernel
set_option maxHeartbeats 40000000 in
set_option maxRecDepth 100000 in
theorem c_X5_kindsOfEcho (l : Launch) (D : va_G) (cA : Nat → ClassId) (sz : Nat) (fu : Nat) (ad : Nat → Nat) (t : Nat → Int32) (t_now : Nat → Int32) (t_now_kinds : Nat → Int32) (t_now_pitches : Nat → Int32) (t_shelves_sizes : Nat → Int32) (t_shelves_elements : Nat → Int64) (t_trial : Nat → Int32) (t_trial_heard : Nat → Int32) (t_told : Nat → Int32) (t_told_sounds : Nat → Int32) (l1 : Int32) (l2 : Int32) (l3 : Int32) (out : Int32 × ((Nat → Int32) × (Nat → Int32))) (hm : m_X5_kindsOfEcho fu t t_now t_now_kinds t_now_pitches t_shelves_sizes t_shelves_elements t_trial t_trial_heard t_told t_told_sounds l1 l2 l3 = some out) : MI l yX5_kindsOfEcho (wU yX5_kindsOfEcho cX5_kindsOfEcho 6 ((Option.some Jvm.ClassFile.FieldType.int))) rm_X5_kindsOfEcho D cA sz [.ref (ad 0), .int l1, .int l2, .int l3] (w0_X5_kindsOfEcho cA ad t t_now t_now_kinds t_now_pitches t_shelves_sizes t_shelves_elements t_trial t_trial_heard t_told t_told_sounds) out (w1_X5_kindsOfEcho cA ad t t_now t_now_kinds t_now_pitches t_shelves_sizes t_shelves_elements t_told t_told_sounds) := by
  refine Met.ofW (cc := cX5_kindsOfEcho) (maxL := 6) (ret := (Option.some Jvm.ClassFile.FieldType.int)) (by decide) rfl ?_
  intro p e s m args below meth c s₁ B hml hv
  obtain ⟨hargs, hsz, hP, hK, hD0, hN⟩ := hv
  have hx := B.exec
  have hb := B.bytes
  have hr := B.returns
  have htg : ∀ w ∈ gw, w.before args s = true := fun w h => atoms_spec (ws := wU yX5_kindsOfEcho cX5_kindsOfEcho 6 ((Option.some Jvm.ClassFile.FieldType.int))) B.pre w (List.mem_cons_of_mem _ h)
  have hown : s.vm.findClass RX5 = some m.cls := findClass_of_methodNamed B.named
  have hlocks := B.notSynchronized
  subst hsz
  have hD := hD0.self (sz := s.heap.size)
  have hA : ∀ q : Nat, s.heap.size ≤ q → va_A (w0_X5_kindsOfEcho cA ad t t_now t_now_kinds t_now_pitches t_shelves_sizes t_shelves_elements t_trial t_trial_heard t_told t_told_sounds) s.heap.size q := fun q h => Or.inr h
  have hS : va_S (va_A (w0_X5_kindsOfEcho cA ad t t_now t_now_kinds t_now_pitches t_shelves_sizes t_shelves_elements t_trial t_trial_heard t_told t_told_sounds) s.heap.size) s.heap s.heap [] := va_S.rf
  generalize va_A (w0_X5_kindsOfEcho cA ad t t_now t_now_kinds t_now_pitches t_shelves_sizes t_shelves_elements t_trial t_trial_heard t_told t_told_sounds) s.heap.size = A at hA hD hS ⊢
  obtain ⟨Q, hQ⟩ : ∃ Q : State → Prop, Q = MQ below (va_Qi (fun (r : Int32) (u : (Nat → Int32) × (Nat → Int32)) => (r, u) = out) (pst0 D cA A (w1_X5_kindsOfEcho cA ad t t_now t_now_kinds t_now_pitches t_shelves_sizes t_shelves_elements t_told t_told_sounds)) A) args s 0 0 A := ⟨_, rfl⟩
  refine (?_ : W p l e rm_X5_kindsOfEcho s m args below meth c s.heap [] 0 0 (MQ below (va_Qi (fun (r : Int32) (u : (Nat → Int32) × (Nat → Int32)) => (r, u) = out) (pst0 D cA A (w1_X5_kindsOfEcho cA ad t t_now t_now_kinds t_now_pitches t_shelves_sizes t_shelves_elements t_told t_told_sounds)) A) args s 0 0 A) (entryFrame m args 6))
  rw [← hQ]
  have hP : va_P D CL [((ad 0), e_X5 ad t), ((ad 1), e_X1 (ad 2) (ad 3) (ad 4) t_now), ((ad 2), eI cA 8 t_now_kinds), ((ad 4), eI cA 8 t_now_pitches), ((ad 13), e_X0 (ad 14) (ad 15) (ad 16)), ((ad 15), eI cA 8 t_shelves_sizes), ((ad 16), eJ cA 320 t_shelves_elements), ((ad 20), e_X3 (ad 21) t_trial), ((ad 21), eI cA 13 t_trial_heard), ((ad 24), e_X4 (ad 25) t_told), ((ad 25), eI cA 12 t_told_sounds)] s.heap := hP
  have hD : va_D A [((ad 0), e_X5 ad t), ((ad 1), e_X1 (ad 2) (ad 3) (ad 4) t_now), ((ad 2), eI cA 8 t_now_kinds), ((ad 4), eI cA 8 t_now_pitches), ((ad 13), e_X0 (ad 14) (ad 15) (ad 16)), ((ad 15), eI cA 8 t_shelves_sizes), ((ad 16), eJ cA 320 t_shelves_elements), ((ad 20), e_X3 (ad 21) t_trial), ((ad 21), eI cA 13 t_trial_heard), ((ad 24), e_X4 (ad 25) t_told), ((ad 25), eI cA 12 t_told_sounds)] := hD
  have B_51 : ∀ (k_18 : (Int32 × Int32 × Int32 × Int32 × (Nat → Int32) × (Nat → Int32)) → Option (Int32 × ((Nat → Int32) × (Nat → Int32)))) (HK_18 : ∀ (x : Int32 × Int32 × Int32 × Int32 × (Nat → Int32) × (Nat → Int32)) (H : Heap) (locs : List Loc) (ls : Array Slot), k_18 x = some out → va_P D CL [((ad 0), e_X5 ad t), ((ad 1), e_X1 (ad 2) (ad 3) (ad 4) t_now), ((ad 2), eI cA 8 t_now_kinds), ((ad 4), eI cA 8 t_now_pitches), ((ad 13), e_X0 (ad 14) (ad 15) (ad 16)), ((ad 15), eI cA 8 t_shelves_sizes), ((ad 16), eJ cA 320 t_shelves_elements), ((ad 20), e_X3 (ad 21) x.2.2.2.2.1), ((ad 21), eI cA 13 x.2.2.2.2.2), ((ad 24), e_X4 (ad 25) t_told), ((ad 25), eI cA 12 t_told_sounds)] H → va_D A [((ad 0), e_X5 ad t), ((ad 1), e_X1 (ad 2) (ad 3) (ad 4) t_now), ((ad 2), eI cA 8 t_now_kinds), ((ad 4), eI cA 8 t_now_pitches), ((ad 13), e_X0 (ad 14) (ad 15) (ad 16)), ((ad 15), eI cA 8 t_shelves_sizes), ((ad 16), eJ cA 320 t_shelves_elements), ((ad 20), e_X3 (ad 21) x.2.2.2.2.1), ((ad 21), eI cA 13 x.2.2.2.2.2), ((ad 24), e_X4 (ad 25) t_told), ((ad 25), eI cA 12 t_told_sounds)] → va_S A s.heap H locs → lv_has ls 6 [(0, .ref (ad 0)), (2, .int x.1), (3, .int x.2.1), (4, .int x.2.2.1), (5, .int x.2.2.2.1)] → W p l e rm_X5_kindsOfEcho s m args below meth c H locs 0 0 Q (F0 m 18 ls [])) (l2 : Int32) (l3 : Int32) (l4 : Int32) (l5 : Int32) (t_trial : Nat → Int32) (t_trial_heard : Nat → Int32) (H : Heap) (locs : List Loc) (ls : Array Slot), b_X5_kindsOfEcho_51 fu t t_now t_now_kinds t_now_pitches t_shelves_sizes t_shelves_elements t_told t_told_sounds k_18 l2 l3 l4 l5 t_trial t_trial_heard = some out → va_P D CL [((ad 0), e_X5 ad t), ((ad 1), e_X1 (ad 2) (ad 3) (ad 4) t_now), ((ad 2), eI cA 8 t_now_kinds), ((ad 4), eI cA 8 t_now_pitches), ((ad 13), e_X0 (ad 14) (ad 15) (ad 16)), ((ad 15), eI cA 8 t_shelves_sizes), ((ad 16), eJ cA 320 t_shelves_elements), ((ad 20), e_X3 (ad 21) t_trial), ((ad 21), eI cA 13 t_trial_heard), ((ad 24), e_X4 (ad 25) t_told), ((ad 25), eI cA 12 t_told_sounds)] H → va_D A [((ad 0), e_X5 ad t), ((ad 1), e_X1 (ad 2) (ad 3) (ad 4) t_now), ((ad 2), eI cA 8 t_now_kinds), ((ad 4), eI cA 8 t_now_pitches), ((ad 13), e_X0 (ad 14) (ad 15) (ad 16)), ((ad 15), eI cA 8 t_shelves_sizes), ((ad 16), eJ cA 320 t_shelves_elements), ((ad 20), e_X3 (ad 21) t_trial), ((ad 21), eI cA 13 t_trial_heard), ((ad 24), e_X4 (ad 25) t_told), ((ad 25), eI cA 12 t_told_sounds)] → va_S A s.heap H locs → lv_has ls 6 [(0, .ref (ad 0)), (2, .int l2), (3, .int l3), (4, .int l4), (5, .int l5)] → W p l e rm_X5_kindsOfEcho s m args below meth c H locs 0 0 Q (F0 m 51 ls []) := by
    intro k_18 HK_18 l2 l3 l4 l5 t_trial t_trial_heard H locs ls hm hP hD hS hl
    unfold b_X5_kindsOfEcho_51 at hm
    refine lv_iinc (v := (l5 + (1 : Int32))) (lv' := [(5, .int (l5 + (1 : Int32))), (0, .ref (ad 0)), (2, .int l2), (3, .int l3), (4, .int l4)]) hx hb dX5_kindsOfEcho_51 hl (k := 4) rfl rfl (by decide) rfl (fun ls hl => ?_)
    refine lv_goto (tgt := 18) hx hb dX5_kindsOfEcho_54 (by decide) ?_
    exact HK_18 _ _ _ _ hm hP hD hS (lv_sub hl [1, 2, 3, 4, 0] rfl)
  have B_18 : ∀ (n : Nat) (x : Int32 × Int32 × Int32 × Int32 × (Nat → Int32) × (Nat → Int32)) (H : Heap) (locs : List Loc) (ls : Array Slot), lfix (b_X5_kindsOfEcho_18 fu t t_now t_now_kinds t_now_pitches t_shelves_sizes t_shelves_elements t_told t_told_sounds) n x = some out → va_P D CL [((ad 0), e_X5 ad t), ((ad 1), e_X1 (ad 2) (ad 3) (ad 4) t_now), ((ad 2), eI cA 8 t_now_kinds), ((ad 4), eI cA 8 t_now_pitches), ((ad 13), e_X0 (ad 14) (ad 15) (ad 16)), ((ad 15), eI cA 8 t_shelves_sizes), ((ad 16), eJ cA 320 t_shelves_elements), ((ad 20), e_X3 (ad 21) x.2.2.2.2.1), ((ad 21), eI cA 13 x.2.2.2.2.2), ((ad 24), e_X4 (ad 25) t_told), ((ad 25), eI cA 12 t_told_sounds)] H → va_D A [((ad 0), e_X5 ad t), ((ad 1), e_X1 (ad 2) (ad 3) (ad 4) t_now), ((ad 2), eI cA 8 t_now_kinds), ((ad 4), eI cA 8 t_now_pitches), ((ad 13), e_X0 (ad 14) (ad 15) (ad 16)), ((ad 15), eI cA 8 t_shelves_sizes), ((ad 16), eJ cA 320 t_shelves_elements), ((ad 20), e_X3 (ad 21) x.2.2.2.2.1), ((ad 21), eI cA 13 x.2.2.2.2.2), ((ad 24), e_X4 (ad 25) t_told), ((ad 25), eI cA 12 t_told_sounds)] → va_S A s.heap H locs → lv_has ls 6 [(0, .ref (ad 0)), (2, .int x.1), (3, .int x.2.1), (4, .int x.2.2.1), (5, .int x.2.2.2.1)] → W p l e rm_X5_kindsOfEcho s m args below meth c H locs 0 0 Q (F0 m 18 ls []) := by
    intro  n
    induction n with
    | zero => intro x H locs ls hm; cases (show none = some out from hm)
    | succ n HK_18 =>
      intro x H locs ls hm hP hD hS hl
      replace hm : b_X5_kindsOfEcho_18 fu t t_now t_now_kinds t_now_pitches t_shelves_sizes t_shelves_elements t_told t_told_sounds (lfix (b_X5_kindsOfEcho_18 fu t t_now t_now_kinds t_now_pitches t_shelves_sizes t_shelves_elements t_told t_told_sounds) n) x = some out := hm
      unfold b_X5_kindsOfEcho_18 at hm
      refine lv_iload hx hb dX5_kindsOfEcho_18 (lv_at hl 4 rfl) ?_
      refine lv_iconst (v := (5 : Int32)) hx hb dX5_kindsOfEcho_20 (by decide) ?_
      refine lv_icmp_gt (tgt := 57) hx hb dX5_kindsOfEcho_21 (by decide) (fun c1 => ?_) (fun c1 => ?_)
      · have hm := it_t c1 hm
        refine lv_iload hx hb dX5_kindsOfEcho_57 (lv_at hl 3 rfl) ?_
        rw [hQ]
        exact W.iret (v := x.2.2.1) hx hb hr (fun t9 ht hW => ⟨⟨x.2.2.1, (x.2.2.2.2.1, x.2.2.2.2.2), rfl, (Option.some.inj hm), by rw [ht]; exact hP, va_K.moved hW.alike hK, hD⟩, hS.F ht⟩) hS.2.2 dX5_kindsOfEcho_59
      · have hm := it_f c1 hm
        refine lv_aload_n hx hb dX5_kindsOfEcho_24 rfl (lv_at hl 0 rfl) ?_
        refine va_get (D := D) (ci := 5) (v := .ref (ad 20)) (C := RX5) (T := TX5) (N := 17) hx hb htg inX5 hown hK hP 0 rfl rfl 7 (by decide) (htg _ q_1_195) (fun _ h9 => h9) rfl dX5_kindsOfEcho_25 ?_
        refine lv_iload hx hb dX5_kindsOfEcho_28 (lv_at hl 4 rfl) ?_
        refine va_putN (D := D) (ci := 3) (v := .int x.2.2.2.1) (ty := .int) (C := RX3) (T := TX3) (N := 9) hx hb htg inX3 tyX3 tyX3_ok nmX3 hown hK hP hD hS 7 rfl rfl 0 (by decide) (va_Nw.use rfl (hN _ q_1_140)) (fun _ h9 => h9) rfl (by decide +kernel) rfl rfl (Nat.le_of_ble_eq_true rfl) dX5_kindsOfEcho_30 (fun H locs (hP : va_P D CL [((ad 0), e_X5 ad t), ((ad 1), e_X1 (ad 2) (ad 3) (ad 4) t_now), ((ad 2), eI cA 8 t_now_kinds), ((ad 4), eI cA 8 t_now_pitches), ((ad 13), e_X0 (ad 14) (ad 15) (ad 16)), ((ad 15), eI cA 8 t_shelves_sizes), ((ad 16), eJ cA 320 t_shelves_elements), ((ad 20), e_X3 (ad 21) (upd x.2.2.2.2.1 0 x.2.2.2.1)), ((ad 21), eI cA 13 x.2.2.2.2.2), ((ad 24), e_X4 (ad 25) t_told), ((ad 25), eI cA 12 t_told_sounds)] H) (hD : va_D A [((ad 0), e_X5 ad t), ((ad 1), e_X1 (ad 2) (ad 3) (ad 4) t_now), ((ad 2), eI cA 8 t_now_kinds), ((ad 4), eI cA 8 t_now_pitches), ((ad 13), e_X0 (ad 14) (ad 15) (ad 16)), ((ad 15), eI cA 8 t_shelves_sizes), ((ad 16), eJ cA 320 t_shelves_elements), ((ad 20), e_X3 (ad 21) (upd x.2.2.2.2.1 0 x.2.2.2.1)), ((ad 21), eI cA 13 x.2.2.2.2.2), ((ad 24), e_X4 (ad 25) t_told), ((ad 25), eI cA 12 t_told_sounds)]) hS => ?_)
        refine lv_aload_n hx hb dX5_kindsOfEcho_33 rfl (lv_at hl 0 rfl) ?_
        refine lv_iload_n hx hb dX5_kindsOfEcho_34 rfl (lv_at hl 1 rfl) ?_
        refine lv_iload_n hx hb dX5_kindsOfEcho_35 rfl (lv_at hl 2 rfl) ?_
        obtain ⟨o2, ho3, hm⟩ := bd_s hm
        refine xr_i (wr := [((ad 1), e_X1 (ad 2) (ad 3) (ad 4) t_now), ((ad 2), eI cA 8 t_now_kinds), ((ad 4), eI cA 8 t_now_pitches)]) (wn := [((ad 0), e_X5 ad t), ((ad 1), e_X1 (ad 2) (ad 3) (ad 4) t_now), ((ad 2), eI cA 8 t_now_kinds), ((ad 4), eI cA 8 t_now_pitches), ((ad 13), e_X0 (ad 14) (ad 15) (ad 16)), ((ad 15), eI cA 8 t_shelves_sizes), ((ad 16), eJ cA 320 t_shelves_elements), ((ad 20), e_X3 (ad 21) o2.2.1), ((ad 21), eI cA 13 o2.2.2), ((ad 24), e_X4 (ad 25) t_told), ((ad 25), eI cA 12 t_told_sounds)]) (va_runV (As := [.int x.1, .int x.2.1]) (rest := []) ⟨hx, hb, hml, hown, htg⟩ (c_X5_echoIsRow l D cA _ fu ad t t_shelves_sizes t_shelves_elements (upd x.2.2.2.2.1 0 x.2.2.2.1) x.2.2.2.2.2 t_told t_told_sounds x.1 x.2.1 o2 ho3) (cwV 2 htg (gV q_4_84 q_4_86 q_p4_13 q_1_1 q_4_87) rfl rfl rfl hd_X5_echoIsRow ⟨Nat.le_of_ble_eq_true rfl, Nat.le_of_ble_eq_true rfl⟩) (xpV hN hK hP hD [0, 4, 5, 6, 7, 8, 9, 10] rfl (by decide) rfl rfl) rfl rfl hl.1 rfl (lv_room (Nat.le_of_ble_eq_true rfl)) dX5_kindsOfEcho_36 ⟨Nat.zero_le _, Nat.zero_le _⟩) hP hD hS hA [0, 4, 5, 6, 7, 8, 9, 10] [1, 2, 3] [3, 0, 1, 2, 4, 5, 6, 7, 8, 9, 10] rfl rfl (by decide) (by decide) rfl (by decide) (fun H locs hP hD hS => ?_)
        refine lv_if_eq (tgt := 51) hx hb dX5_kindsOfEcho_39 (by decide) (fun c4 => ?_) (fun c4 => ?_)
        · have hm := it_t c4 hm
          exact B_51 _ HK_18 _ _ _ _ _ _ _ _ _ hm hP hD hS (lv_sub hl [0, 1, 2, 3, 4] rfl)
        · have hm := it_f c4 hm
          refine lv_iload hx hb dX5_kindsOfEcho_42 (lv_at hl 3 rfl) ?_
          refine lv_iconst (v := (1 : Int32)) hx hb dX5_kindsOfEcho_44 (by decide) ?_
          refine lv_iload hx hb dX5_kindsOfEcho_45 (lv_at hl 4 rfl) ?_
          refine lv_ishl hx hb dX5_kindsOfEcho_47 ?_
          refine lv_ior hx hb dX5_kindsOfEcho_48 ?_
          refine lv_istore (lv' := [(4, .int (x.2.2.1 ||| ((1 : Int32) <<< (x.2.2.2.1 &&& 31)))), (0, .ref (ad 0)), (2, .int x.1), (3, .int x.2.1), (5, .int x.2.2.2.1)]) hx hb dX5_kindsOfEcho_49 hl (by decide) rfl (fun ls hl => ?_)
          exact B_51 _ HK_18 _ _ _ _ _ _ _ _ _ hm hP hD hS (lv_sub hl [1, 2, 3, 0, 4] rfl)
  unfold m_X5_kindsOfEcho at hm
  subst hargs
  have hl := lv_entry ([.ref (ad 0), .int l1, .int l2, .int l3]) (n := 6) (Nat.le_of_ble_eq_true rfl)
  rw [lg_entry_eq]
  generalize (lg_sl ([.ref (ad 0), .int l1, .int l2, .int l3]) ++ List.replicate (6 - (lg_sl ([.ref (ad 0), .int l1, .int l2, .int l3])).length) Slot.unset).toArray = ls at hl ⊢
  have hl : lv_has ls 6 [(0, .ref (ad 0)), (1, .int l1), (2, .int l2), (3, .int l3)] := hl
  refine lv_aload_n hx hb dX5_kindsOfEcho_0 rfl (lv_at hl 0 rfl) ?_
  refine va_get (D := D) (ci := 5) (v := .ref (ad 20)) (C := RX5) (T := TX5) (N := 17) hx hb htg inX5 hown hK hP 0 rfl rfl 7 (by decide) (htg _ q_1_195) (fun _ h9 => h9) rfl dX5_kindsOfEcho_1 ?_
  refine lv_aload_n hx hb dX5_kindsOfEcho_4 rfl (lv_at hl 0 rfl) ?_
  refine va_get (D := D) (ci := 5) (v := .ref (ad 1)) (C := RX5) (T := TX5) (N := 17) hx hb htg inX5 hown hK hP 0 rfl rfl 0 (by decide) (htg _ q_1_188) (fun _ h9 => h9) rfl dX5_kindsOfEcho_5 ?_
  refine lv_iload_n hx hb dX5_kindsOfEcho_8 rfl (lv_at hl 1 rfl) ?_
  obtain ⟨o5, ho6, hm⟩ := bd_s hm
  refine xr_v (wr := [((ad 0), e_X5 ad t), ((ad 13), e_X0 (ad 14) (ad 15) (ad 16)), ((ad 15), eI cA 8 t_shelves_sizes), ((ad 16), eJ cA 320 t_shelves_elements), ((ad 21), eI cA 13 t_trial_heard), ((ad 24), e_X4 (ad 25) t_told), ((ad 25), eI cA 12 t_told_sounds)]) (wn := [((ad 0), e_X5 ad t), ((ad 1), e_X1 (ad 2) (ad 3) (ad 4) t_now), ((ad 2), eI cA 8 t_now_kinds), ((ad 4), eI cA 8 t_now_pitches), ((ad 13), e_X0 (ad 14) (ad 15) (ad 16)), ((ad 15), eI cA 8 t_shelves_sizes), ((ad 16), eJ cA 320 t_shelves_elements), ((ad 20), e_X3 (ad 21) o5), ((ad 21), eI cA 13 t_trial_heard), ((ad 24), e_X4 (ad 25) t_told), ((ad 25), eI cA 12 t_told_sounds)]) (va_runVN (As := [.ref (ad 1), .int l1]) (rest := []) ⟨hx, hb, hml, hown, htg⟩ (c_X3_standsFor l D cA _ fu (ad 20) (ad 21) (ad 1) (ad 2) (ad 3) (ad 4) t_trial t_now t_now_kinds t_now_pitches l1 o5 ho6) ⟨va_cnB 2 htg (gU q_2_126) rfl rfl rfl (hN _ q_2_123) (htg _ q_1_6) hd_X3_standsFor.2 ⟨Nat.le_of_ble_eq_true rfl, Nat.le_of_ble_eq_true rfl⟩, htg _ q_2_125, htg _ q_p2_0⟩ (xpV hN hK hP hD [7, 1, 2, 3] rfl (by decide) rfl rfl) rfl rfl hl.1 rfl (lv_room (Nat.le_of_ble_eq_true rfl)) dX5_kindsOfEcho_9 ⟨Nat.zero_le _, Nat.zero_le _⟩) hP hD hS hA [7, 1, 2, 3] [0, 4, 5, 6, 8, 9, 10] [0, 8, 9, 10, 1, 2, 3, 7, 4, 5, 6] rfl rfl (by decide) (by decide) rfl (by decide) (fun H locs hP hD hS => ?_)
  refine lv_iconst (v := (0 : Int32)) hx hb dX5_kindsOfEcho_12 (by decide) ?_
  refine lv_istore (lv' := [(4, .int (0 : Int32)), (0, .ref (ad 0)), (1, .int l1), (2, .int l2), (3, .int l3)]) hx hb dX5_kindsOfEcho_13 hl (by decide) rfl (fun ls hl => ?_)
  refine lv_iconst (v := (0 : Int32)) hx hb dX5_kindsOfEcho_15 (by decide) ?_
  refine lv_istore (lv' := [(5, .int (0 : Int32)), (4, .int (0 : Int32)), (0, .ref (ad 0)), (1, .int l1), (2, .int l2), (3, .int l3)]) hx hb dX5_kindsOfEcho_16 hl (by decide) rfl (fun ls hl => ?_)
  exact B_18 fu _ _ _ _ hm hP hD hS (lv_sub hl [2, 4, 5, 1, 0] rfl)
def b_X5_pitchesOfEcho_52 (fu : Nat) (t : Nat → Int32) (t_now : Nat → Int32) (t_now_kinds : Nat → Int32) (t_now_pitches : Nat → Int32) (t_shelves_sizes : Nat → Int32) (t_shelves_elements : Nat → Int64) (t_told : Nat → Int32) (t_told_sounds : Nat → Int32) (k_18 : (Int32 × Int32 × Int32 × Int32 × (Nat → Int32) × (Nat → Int32)) → Option (Int32 × ((Nat → Int32) × (Nat → Int32)))) (l2 : Int32) (l3 : Int32) (l4 : Int32) (l5 : Int32) (t_trial : Nat → Int32) (t_trial_heard : Nat → Int32) : Option (Int32 × ((Nat → Int32) × (Nat → Int32))) :=
  k_18 (l2, l3, l4, (l5 + (1 : Int32)), t_trial, t_trial_heard)
def b_X5_pitchesOfEcho_18 (fu : Nat) (t : Nat → Int32) (t_now : Nat → Int32) (t_now_kinds : Nat → Int32) (t_now_pitches : Nat → Int32) (t_shelves_sizes : Nat → Int32) (t_shelves_elements : Nat → Int64) (t_told : Nat → Int32) (t_told_sounds : Nat → Int32) (k_18 : (Int32 × Int32 × Int32 × Int32 × (Nat → Int32) × (Nat → Int32)) → Option (Int32 × ((Nat → Int32) × (Nat → Int32)))) (x : Int32 × Int32 × Int32 × Int32 × (Nat → Int32) × (Nat → Int32)) : Option (Int32 × ((Nat → Int32) × (Nat → Int32))) :=
  (if (20 : Int32) < x.2.2.2.1 then
        some (x.2.2.1, (x.2.2.2.2.1, x.2.2.2.2.2))
      else
        (m_X5_echoIsRow fu t t_shelves_sizes t_shelves_elements (upd x.2.2.2.2.1 1 x.2.2.2.1) x.2.2.2.2.2 t_told t_told_sounds x.1 x.2.1).bind fun o2 =>
        (if o2.1 = 0 then
          b_X5_pitchesOfEcho_52 fu t t_now t_now_kinds t_now_pitches t_shelves_sizes t_shelves_elements t_told t_told_sounds k_18 x.1 x.2.1 x.2.2.1 x.2.2.2.1 o2.2.1 o2.2.2
        else
          b_X5_pitchesOfEcho_52 fu t t_now t_now_kinds t_now_pitches t_shelves_sizes t_shelves_elements t_told t_told_sounds k_18 x.1 x.2.1 (x.2.2.1 ||| ((1 : Int32) <<< (x.2.2.2.1 &&& 31))) x.2.2.2.1 o2.2.1 o2.2.2))
def m_X5_pitchesOfEcho (fu : Nat) (t : Nat → Int32) (t_now : Nat → Int32) (t_now_kinds : Nat → Int32) (t_now_pitches : Nat → Int32) (t_shelves_sizes : Nat → Int32) (t_shelves_elements : Nat → Int64) (t_trial : Nat → Int32) (t_trial_heard : Nat → Int32) (t_told : Nat → Int32) (t_told_sounds : Nat → Int32) (l1 : Int32) (l2 : Int32) (l3 : Int32) : Option (Int32 × ((Nat → Int32) × (Nat → Int32))) :=
  (m_X3_standsFor fu t_trial t_now t_now_kinds t_now_pitches l1).bind fun o5 =>
  lfix (b_X5_pitchesOfEcho_18 fu t t_now t_now_kinds t_now_pitches t_shelves_sizes t_shelves_elements t_told t_told_sounds) fu (l2, l3, (0 : Int32), (0 : Int32), o5, t_trial_heard)
abbrev rm_X5_pitchesOfEcho : Room := ({ frames := 5, cells := 0, slots := 0, locals := 111 } : Room)
abbrev w0_X5_pitchesOfEcho (cA : Nat → ClassId) (ad : Nat → Nat) (t : Nat → Int32) (t_now : Nat → Int32) (t_now_kinds : Nat → Int32) (t_now_pitches : Nat → Int32) (t_shelves_sizes : Nat → Int32) (t_shelves_elements : Nat → Int64) (t_trial : Nat → Int32) (t_trial_heard : Nat → Int32) (t_told : Nat → Int32) (t_told_sounds : Nat → Int32) : va_W := [((ad 0), e_X5 ad t), ((ad 1), e_X1 (ad 2) (ad 3) (ad 4) t_now), ((ad 2), eI cA 8 t_now_kinds), ((ad 4), eI cA 8 t_now_pitches), ((ad 13), e_X0 (ad 14) (ad 15) (ad 16)), ((ad 15), eI cA 8 t_shelves_sizes), ((ad 16), eJ cA 320 t_shelves_elements), ((ad 20), e_X3 (ad 21) t_trial), ((ad 21), eI cA 13 t_trial_heard), ((ad 24), e_X4 (ad 25) t_told), ((ad 25), eI cA 12 t_told_sounds)]
abbrev w1_X5_pitchesOfEcho (cA : Nat → ClassId) (ad : Nat → Nat) (t : Nat → Int32) (t_now : Nat → Int32) (t_now_kinds : Nat → Int32) (t_now_pitches : Nat → Int32) (t_shelves_sizes : Nat → Int32) (t_shelves_elements : Nat → Int64) (t_told : Nat → Int32) (t_told_sounds : Nat → Int32) (u : (Nat → Int32) × (Nat → Int32)) : va_W := [((ad 0), e_X5 ad t), ((ad 1), e_X1 (ad 2) (ad 3) (ad 4) t_now), ((ad 2), eI cA 8 t_now_kinds), ((ad 4), eI cA 8 t_now_pitches), ((ad 13), e_X0 (ad 14) (ad 15) (ad 16)), ((ad 15), eI cA 8 t_shelves_sizes), ((ad 16), eJ cA 320 t_shelves_elements), ((ad 20), e_X3 (ad 21) u.1), ((ad 21), eI cA 13 u.2), ((ad 24), e_X4 (ad 25) t_told), ((ad 25), eI cA 12 t_told_sounds)]
theorem hd_X5_pitchesOfEcho : yX5_pitchesOfEcho.cls = RX5 ∧ yX5_pitchesOfEcho.cls ≠ "java/lang/invoke/MethodHandle" ∧ yX5_pitchesOfEcho.cls ≠ "java/lang/invoke/VarHandle" ∧ (parseMethodDescriptor yX5_pitchesOfEcho.desc).map (fun d => d.parameters.length) = some 3 := by decide +kernel
set_option maxHeartbeats 40000000 in
set_option maxRecDepth 100000 in
theorem c_X5_pitchesOfEcho (l : Launch) (D : va_G) (cA : Nat → ClassId) (sz : Nat) (fu : Nat) (ad : Nat → Nat) (t : Nat → Int32) (t_now : Nat → Int32) (t_now_kinds : Nat → Int32) (t_now_pitches : Nat → Int32) (t_shelves_sizes : Nat → Int32) (t_shelves_elements : Nat → Int64) (t_trial : Nat → Int32) (t_trial_heard : Nat → Int32) (t_told : Nat → Int32) (t_told_sounds : Nat → Int32) (l1 : Int32) (l2 : Int32) (l3 : Int32) (out : Int32 × ((Nat → Int32) × (Nat → Int32))) (hm : m_X5_pitchesOfEcho fu t t_now t_now_kinds t_now_pitches t_shelves_sizes t_shelves_elements t_trial t_trial_heard t_told t_told_sounds l1 l2 l3 = some out) : MI l yX5_pitchesOfEcho (wU yX5_pitchesOfEcho cX5_pitchesOfEcho 6 ((Option.some Jvm.ClassFile.FieldType.int))) rm_X5_pitchesOfEcho D cA sz [.ref (ad 0), .int l1, .int l2, .int l3] (w0_X5_pitchesOfEcho cA ad t t_now t_now_kinds t_now_pitches t_shelves_sizes t_shelves_elements t_trial t_trial_heard t_told t_told_sounds) out (w1_X5_pitchesOfEcho cA ad t t_now t_now_kinds t_now_pitches t_shelves_sizes t_shelves_elements t_told t_told_sounds) := by
  refine Met.ofW (cc := cX5_pitchesOfEcho) (maxL := 6) (ret := (Option.some Jvm.ClassFile.FieldType.int)) (by decide) rfl ?_
  intro p e s m args below meth c s₁ B hml hv
  obtain ⟨hargs, hsz, hP, hK, hD0, hN⟩ := hv
  have hx := B.exec
  have hb := B.bytes
  have hr := B.returns
  have htg : ∀ w ∈ gw, w.before args s = true := fun w h => atoms_spec (ws := wU yX5_pitchesOfEcho cX5_pitchesOfEcho 6 ((Option.some Jvm.ClassFile.FieldType.int))) B.pre w (List.mem_cons_of_mem _ h)
  have hown : s.vm.findClass RX5 = some m.cls := findClass_of_methodNamed B.named
  have hlocks := B.notSynchronized
  subst hsz
  have hD := hD0.self (sz := s.heap.size)
  have hA : ∀ q : Nat, s.heap.size ≤ q → va_A (w0_X5_pitchesOfEcho cA ad t t_now t_now_kinds t_now_pitches t_shelves_sizes t_shelves_elements t_trial t_trial_heard t_told t_told_sounds) s.heap.size q := fun q h => Or.inr h
  have hS : va_S (va_A (w0_X5_pitchesOfEcho cA ad t t_now t_now_kinds t_now_pitches t_shelves_sizes t_shelves_elements t_trial t_trial_heard t_told t_told_sounds) s.heap.size) s.heap s.heap [] := va_S.rf
  generalize va_A (w0_X5_pitchesOfEcho cA ad t t_now t_now_kinds t_now_pitches t_shelves_sizes t_shelves_elements t_trial t_trial_heard t_told t_told_sounds) s.heap.size = A at hA hD hS ⊢
  obtain ⟨Q, hQ⟩ : ∃ Q : State → Prop, Q = MQ below (va_Qi (fun (r : Int32) (u : (Nat → Int32) × (Nat → Int32)) => (r, u) = out) (pst0 D cA A (w1_X5_pitchesOfEcho cA ad t t_now t_now_kinds t_now_pitches t_shelves_sizes t_shelves_elements t_told t_told_sounds)) A) args s 0 0 A := ⟨_, rfl⟩
  refine (?_ : W p l e rm_X5_pitchesOfEcho s m args below meth c s.heap [] 0 0 (MQ below (va_Qi (fun (r : Int32) (u : (Nat → Int32) × (Nat → Int32)) => (r, u) = out) (pst0 D cA A (w1_X5_pitchesOfEcho cA ad t t_now t_now_kinds t_now_pitches t_shelves_sizes t_shelves_elements t_told t_told_sounds)) A) args s 0 0 A) (entryFrame m args 6))
  rw [← hQ]
  have hP : va_P D CL [((ad 0), e_X5 ad t), ((ad 1), e_X1 (ad 2) (ad 3) (ad 4) t_now), ((ad 2), eI cA 8 t_now_kinds), ((ad 4), eI cA 8 t_now_pitches), ((ad 13), e_X0 (ad 14) (ad 15) (ad 16)), ((ad 15), eI cA 8 t_shelves_sizes), ((ad 16), eJ cA 320 t_shelves_elements), ((ad 20), e_X3 (ad 21) t_trial), ((ad 21), eI cA 13 t_trial_heard), ((ad 24), e_X4 (ad 25) t_told), ((ad 25), eI cA 12 t_told_sounds)] s.heap := hP
  have hD : va_D A [((ad 0), e_X5 ad t), ((ad 1), e_X1 (ad 2) (ad 3) (ad 4) t_now), ((ad 2), eI cA 8 t_now_kinds), ((ad 4), eI cA 8 t_now_pitches), ((ad 13), e_X0 (ad 14) (ad 15) (ad 16)), ((ad 15), eI cA 8 t_shelves_sizes), ((ad 16), eJ cA 320 t_shelves_elements), ((ad 20), e_X3 (ad 21) t_trial), ((ad 21), eI cA 13 t_trial_heard), ((ad 24), e_X4 (ad 25) t_told), ((ad 25), eI cA 12 t_told_sounds)] := hD
  have B_52 : ∀ (k_18 : (Int32 × Int32 × Int32 × Int32 × (Nat → Int32) × (Nat → Int32)) → Option (Int32 × ((Nat → Int32) × (Nat → Int32)))) (HK_18 : ∀ (x : Int32 × Int32 × Int32 × Int32 × (Nat → Int32) × (Nat → Int32)) (H : Heap) (locs : List Loc) (ls : Array Slot), k_18 x = some out → va_P D CL [((ad 0), e_X5 ad t), ((ad 1), e_X1 (ad 2) (ad 3) (ad 4) t_now), ((ad 2), eI cA 8 t_now_kinds), ((ad 4), eI cA 8 t_now_pitches), ((ad 13), e_X0 (ad 14) (ad 15) (ad 16)), ((ad 15), eI cA 8 t_shelves_sizes), ((ad 16), eJ cA 320 t_shelves_elements), ((ad 20), e_X3 (ad 21) x.2.2.2.2.1), ((ad 21), eI cA 13 x.2.2.2.2.2), ((ad 24), e_X4 (ad 25) t_told), ((ad 25), eI cA 12 t_told_sounds)] H → va_D A [((ad 0), e_X5 ad t), ((ad 1), e_X1 (ad 2) (ad 3) (ad 4) t_now), ((ad 2), eI cA 8 t_now_kinds), ((ad 4), eI cA 8 t_now_pitches), ((ad 13), e_X0 (ad 14) (ad 15) (ad 16)), ((ad 15), eI cA 8 t_shelves_sizes), ((ad 16), eJ cA 320 t_shelves_elements), ((ad 20), e_X3 (ad 21) x.2.2.2.2.1), ((ad 21), eI cA 13 x.2.2.2.2.2), ((ad 24), e_X4 (ad 25) t_told), ((ad 25), eI cA 12 t_told_sounds)] → va_S A s.heap H locs → lv_has ls 6 [(0, .ref (ad 0)), (2, .int x.1), (3, .int x.2.1), (4, .int x.2.2.1), (5, .int x.2.2.2.1)] → W p l e rm_X5_pitchesOfEcho s m args below meth c H locs 0 0 Q (F0 m 18 ls [])) (l2 : Int32) (l3 : Int32) (l4 : Int32) (l5 : Int32) (t_trial : Nat → Int32) (t_trial_heard : Nat → Int32) (H : Heap) (locs : List Loc) (ls : Array Slot), b_X5_pitchesOfEcho_52 fu t t_now t_now_kinds t_now_pitches t_shelves_sizes t_shelves_elements t_told t_told_sounds k_18 l2 l3 l4 l5 t_trial t_trial_heard = some out → va_P D CL [((ad 0), e_X5 ad t), ((ad 1), e_X1 (ad 2) (ad 3) (ad 4) t_now), ((ad 2), eI cA 8 t_now_kinds), ((ad 4), eI cA 8 t_now_pitches), ((ad 13), e_X0 (ad 14) (ad 15) (ad 16)), ((ad 15), eI cA 8 t_shelves_sizes), ((ad 16), eJ cA 320 t_shelves_elements), ((ad 20), e_X3 (ad 21) t_trial), ((ad 21), eI cA 13 t_trial_heard), ((ad 24), e_X4 (ad 25) t_told), ((ad 25), eI cA 12 t_told_sounds)] H → va_D A [((ad 0), e_X5 ad t), ((ad 1), e_X1 (ad 2) (ad 3) (ad 4) t_now), ((ad 2), eI cA 8 t_now_kinds), ((ad 4), eI cA 8 t_now_pitches), ((ad 13), e_X0 (ad 14) (ad 15) (ad 16)), ((ad 15), eI cA 8 t_shelves_sizes), ((ad 16), eJ cA 320 t_shelves_elements), ((ad 20), e_X3 (ad 21) t_trial), ((ad 21), eI cA 13 t_trial_heard), ((ad 24), e_X4 (ad 25) t_told), ((ad 25), eI cA 12 t_told_sounds)] → va_S A s.heap H locs → lv_has ls 6 [(0, .ref (ad 0)), (2, .int l2), (3, .int l3), (4, .int l4), (5, .int l5)] → W p l e rm_X5_pitchesOfEcho s m args below meth c H locs 0 0 Q (F0 m 52 ls []) := by
    intro k_18 HK_18 l2 l3 l4 l5 t_trial t_trial_heard H locs ls hm hP hD hS hl
    unfold b_X5_pitchesOfEcho_52 at hm
    refine lv_iinc (v := (l5 + (1 : Int32))) (lv' := [(5, .int (l5 + (1 : Int32))), (0, .ref (ad 0)), (2, .int l2), (3, .int l3), (4, .int l4)]) hx hb dX5_pitchesOfEcho_52 hl (k := 4) rfl rfl (by decide) rfl (fun ls hl => ?_)
    refine lv_goto (tgt := 18) hx hb dX5_pitchesOfEcho_55 (by decide) ?_
    exact HK_18 _ _ _ _ hm hP hD hS (lv_sub hl [1, 2, 3, 4, 0] rfl)
  have B_18 : ∀ (n : Nat) (x : Int32 × Int32 × Int32 × Int32 × (Nat → Int32) × (Nat → Int32)) (H : Heap) (locs : List Loc) (ls : Array Slot), lfix (b_X5_pitchesOfEcho_18 fu t t_now t_now_kinds t_now_pitches t_shelves_sizes t_shelves_elements t_told t_told_sounds) n x = some out → va_P D CL [((ad 0), e_X5 ad t), ((ad 1), e_X1 (ad 2) (ad 3) (ad 4) t_now), ((ad 2), eI cA 8 t_now_kinds), ((ad 4), eI cA 8 t_now_pitches), ((ad 13), e_X0 (ad 14) (ad 15) (ad 16)), ((ad 15), eI cA 8 t_shelves_sizes), ((ad 16), eJ cA 320 t_shelves_elements), ((ad 20), e_X3 (ad 21) x.2.2.2.2.1), ((ad 21), eI cA 13 x.2.2.2.2.2), ((ad 24), e_X4 (ad 25) t_told), ((ad 25), eI cA 12 t_told_sounds)] H → va_D A [((ad 0), e_X5 ad t), ((ad 1), e_X1 (ad 2) (ad 3) (ad 4) t_now), ((ad 2), eI cA 8 t_now_kinds), ((ad 4), eI cA 8 t_now_pitches), ((ad 13), e_X0 (ad 14) (ad 15) (ad 16)), ((ad 15), eI cA 8 t_shelves_sizes), ((ad 16), eJ cA 320 t_shelves_elements), ((ad 20), e_X3 (ad 21) x.2.2.2.2.1), ((ad 21), eI cA 13 x.2.2.2.2.2), ((ad 24), e_X4 (ad 25) t_told), ((ad 25), eI cA 12 t_told_sounds)] → va_S A s.heap H locs → lv_has ls 6 [(0, .ref (ad 0)), (2, .int x.1), (3, .int x.2.1), (4, .int x.2.2.1), (5, .int x.2.2.2.1)] → W p l e rm_X5_pitchesOfEcho s m args below meth c H locs 0 0 Q (F0 m 18 ls []) := by
    intro  n
    induction n with
    | zero => intro x H locs ls hm; cases (show none = some out from hm)
    | succ n HK_18 =>
      intro x H locs ls hm hP hD hS hl
      replace hm : b_X5_pitchesOfEcho_18 fu t t_now t_now_kinds t_now_pitches t_shelves_sizes t_shelves_elements t_told t_told_sounds (lfix (b_X5_pitchesOfEcho_18 fu t t_now t_now_kinds t_now_pitches t_shelves_sizes t_shelves_elements t_told t_told_sounds) n) x = some out := hm
      unfold b_X5_pitchesOfEcho_18 at hm
      refine lv_iload hx hb dX5_pitchesOfEcho_18 (lv_at hl 4 rfl) ?_
      refine lv_bipush (v := (20 : Int32)) hx hb dX5_pitchesOfEcho_20 (by decide) ?_
      refine lv_icmp_gt (tgt := 58) hx hb dX5_pitchesOfEcho_22 (by decide) (fun c1 => ?_) (fun c1 => ?_)
      · have hm := it_t c1 hm
        refine lv_iload hx hb dX5_pitchesOfEcho_58 (lv_at hl 3 rfl) ?_
        rw [hQ]
        exact W.iret (v := x.2.2.1) hx hb hr (fun t9 ht hW => ⟨⟨x.2.2.1, (x.2.2.2.2.1, x.2.2.2.2.2), rfl, (Option.some.inj hm), by rw [ht]; exact hP, va_K.moved hW.alike hK, hD⟩, hS.F ht⟩) hS.2.2 dX5_pitchesOfEcho_60
      · have hm := it_f c1 hm
        refine lv_aload_n hx hb dX5_pitchesOfEcho_25 rfl (lv_at hl 0 rfl) ?_
        refine va_get (D := D) (ci := 5) (v := .ref (ad 20)) (C := RX5) (T := TX5) (N := 17) hx hb htg inX5 hown hK hP 0 rfl rfl 7 (by decide) (htg _ q_1_195) (fun _ h9 => h9) rfl dX5_pitchesOfEcho_26 ?_
        refine lv_iload hx hb dX5_pitchesOfEcho_29 (lv_at hl 4 rfl) ?_
        refine va_putN (D := D) (ci := 3) (v := .int x.2.2.2.1) (ty := .int) (C := RX3) (T := TX3) (N := 9) hx hb htg inX3 tyX3 tyX3_ok nmX3 hown hK hP hD hS 7 rfl rfl 1 (by decide) (va_Nw.use rfl (hN _ q_1_142)) (fun _ h9 => h9) rfl (by decide +kernel) rfl rfl (Nat.le_of_ble_eq_true rfl) dX5_pitchesOfEcho_31 (fun H locs (hP : va_P D CL [((ad 0), e_X5 ad t), ((ad 1), e_X1 (ad 2) (ad 3) (ad 4) t_now), ((ad 2), eI cA 8 t_now_kinds), ((ad 4), eI cA 8 t_now_pitches), ((ad 13), e_X0 (ad 14) (ad 15) (ad 16)), ((ad 15), eI cA 8 t_shelves_sizes), ((ad 16), eJ cA 320 t_shelves_elements), ((ad 20), e_X3 (ad 21) (upd x.2.2.2.2.1 1 x.2.2.2.1)), ((ad 21), eI cA 13 x.2.2.2.2.2), ((ad 24), e_X4 (ad 25) t_told), ((ad 25), eI cA 12 t_told_sounds)] H) (hD : va_D A [((ad 0), e_X5 ad t), ((ad 1), e_X1 (ad 2) (ad 3) (ad 4) t_now), ((ad 2), eI cA 8 t_now_kinds), ((ad 4), eI cA 8 t_now_pitches), ((ad 13), e_X0 (ad 14) (ad 15) (ad 16)), ((ad 15), eI cA 8 t_shelves_sizes), ((ad 16), eJ cA 320 t_shelves_elements), ((ad 20), e_X3 (ad 21) (upd x.2.2.2.2.1 1 x.2.2.2.1)), ((ad 21), eI cA 13 x.2.2.2.2.2), ((ad 24), e_X4 (ad 25) t_told), ((ad 25), eI cA 12 t_told_sounds)]) hS => ?_)
        refine lv_aload_n hx hb dX5_pitchesOfEcho_34 rfl (lv_at hl 0 rfl) ?_
        refine lv_iload_n hx hb dX5_pitchesOfEcho_35 rfl (lv_at hl 1 rfl) ?_
        refine lv_iload_n hx hb dX5_pitchesOfEcho_36 rfl (lv_at hl 2 rfl) ?_
        obtain ⟨o2, ho3, hm⟩ := bd_s hm
        refine xr_i (wr := [((ad 1), e_X1 (ad 2) (ad 3) (ad 4) t_now), ((ad 2), eI cA 8 t_now_kinds), ((ad 4), eI cA 8 t_now_pitches)]) (wn := [((ad 0), e_X5 ad t), ((ad 1), e_X1 (ad 2) (ad 3) (ad 4) t_now), ((ad 2), eI cA 8 t_now_kinds), ((ad 4), eI cA 8 t_now_pitches), ((ad 13), e_X0 (ad 14) (ad 15) (ad 16)), ((ad 15), eI cA 8 t_shelves_sizes), ((ad 16), eJ cA 320 t_shelves_elements), ((ad 20), e_X3 (ad 21) o2.2.1), ((ad 21), eI cA 13 o2.2.2), ((ad 24), e_X4 (ad 25) t_told), ((ad 25), eI cA 12 t_told_sounds)]) (va_runV (As := [.int x.1, .int x.2.1]) (rest := []) ⟨hx, hb, hml, hown, htg⟩ (c_X5_echoIsRow l D cA _ fu ad t t_shelves_sizes t_shelves_elements (upd x.2.2.2.2.1 1 x.2.2.2.1) x.2.2.2.2.2 t_told t_told_sounds x.1 x.2.1 o2 ho3) (cwV 2 htg (gV q_4_84 q_4_86 q_p4_13 q_1_1 q_4_87) rfl rfl rfl hd_X5_echoIsRow ⟨Nat.le_of_ble_eq_true rfl, Nat.le_of_ble_eq_true rfl⟩) (xpV hN hK hP hD [0, 4, 5, 6, 7, 8, 9, 10] rfl (by decide) rfl rfl) rfl rfl hl.1 rfl (lv_room (Nat.le_of_ble_eq_true rfl)) dX5_pitchesOfEcho_37 ⟨Nat.zero_le _, Nat.zero_le _⟩) hP hD hS hA [0, 4, 5, 6, 7, 8, 9, 10] [1, 2, 3] [3, 0, 1, 2, 4, 5, 6, 7, 8, 9, 10] rfl rfl (by decide) (by decide) rfl (by decide) (fun H locs hP hD hS => ?_)
        refine lv_if_eq (tgt := 52) hx hb dX5_pitchesOfEcho_40 (by decide) (fun c4 => ?_) (fun c4 => ?_)
        · have hm := it_t c4 hm
          exact B_52 _ HK_18 _ _ _ _ _ _ _ _ _ hm hP hD hS (lv_sub hl [0, 1, 2, 3, 4] rfl)
        · have hm := it_f c4 hm
          refine lv_iload hx hb dX5_pitchesOfEcho_43 (lv_at hl 3 rfl) ?_
          refine lv_iconst (v := (1 : Int32)) hx hb dX5_pitchesOfEcho_45 (by decide) ?_
          refine lv_iload hx hb dX5_pitchesOfEcho_46 (lv_at hl 4 rfl) ?_
          refine lv_ishl hx hb dX5_pitchesOfEcho_48 ?_
          refine lv_ior hx hb dX5_pitchesOfEcho_49 ?_
          refine lv_istore (lv' := [(4, .int (x.2.2.1 ||| ((1 : Int32) <<< (x.2.2.2.1 &&& 31)))), (0, .ref (ad 0)), (2, .int x.1), (3, .int x.2.1), (5, .int x.2.2.2.1)]) hx hb dX5_pitchesOfEcho_50 hl (by decide) rfl (fun ls hl => ?_)
          exact B_52 _ HK_18 _ _ _ _ _ _ _ _ _ hm hP hD hS (lv_sub hl [1, 2, 3, 0, 4] rfl)
  unfold m_X5_pitchesOfEcho at hm
  subst hargs
  have hl := lv_entry ([.ref (ad 0), .int l1, .int l2, .int l3]) (n := 6) (Nat.le_of_ble_eq_true rfl)
  rw [lg_entry_eq]
  generalize (lg_sl ([.ref (ad 0), .int l1, .int l2, .int l3]) ++ List.replicate (6 - (lg_sl ([.ref (ad 0), .int l1, .int l2, .int l3])).length) Slot.unset).toArray = ls at hl ⊢
  have hl : lv_has ls 6 [(0, .ref (ad 0)), (1, .int l1), (2, .int l2), (3, .int l3)] := hl
  refine lv_aload_n hx hb dX5_pitchesOfEcho_0 rfl (lv_at hl 0 rfl) ?_
  refine va_get (D := D) (ci := 5) (v := .ref (ad 20)) (C := RX5) (T := TX5) (N := 17) hx hb htg inX5 hown hK hP 0 rfl rfl 7 (by decide) (htg _ q_1_195) (fun _ h9 => h9) rfl dX5_pitchesOfEcho_1 ?_
  refine lv_aload_n hx hb dX5_pitchesOfEcho_4 rfl (lv_at hl 0 rfl) ?_
  refine va_get (D := D) (ci := 5) (v := .ref (ad 1)) (C := RX5) (T := TX5) (N := 17) hx hb htg inX5 hown hK hP 0 rfl rfl 0 (by decide) (htg _ q_1_188) (fun _ h9 => h9) rfl dX5_pitchesOfEcho_5 ?_
  refine lv_iload_n hx hb dX5_pitchesOfEcho_8 rfl (lv_at hl 1 rfl) ?_
  obtain ⟨o5, ho6, hm⟩ := bd_s hm
  refine xr_v (wr := [((ad 0), e_X5 ad t), ((ad 13), e_X0 (ad 14) (ad 15) (ad 16)), ((ad 15), eI cA 8 t_shelves_sizes), ((ad 16), eJ cA 320 t_shelves_elements), ((ad 21), eI cA 13 t_trial_heard), ((ad 24), e_X4 (ad 25) t_told), ((ad 25), eI cA 12 t_told_sounds)]) (wn := [((ad 0), e_X5 ad t), ((ad 1), e_X1 (ad 2) (ad 3) (ad 4) t_now), ((ad 2), eI cA 8 t_now_kinds), ((ad 4), eI cA 8 t_now_pitches), ((ad 13), e_X0 (ad 14) (ad 15) (ad 16)), ((ad 15), eI cA 8 t_shelves_sizes), ((ad 16), eJ cA 320 t_shelves_elements), ((ad 20), e_X3 (ad 21) o5), ((ad 21), eI cA 13 t_trial_heard), ((ad 24), e_X4 (ad 25) t_told), ((ad 25), eI cA 12 t_told_sounds)]) (va_runVN (As := [.ref (ad 1), .int l1]) (rest := []) ⟨hx, hb, hml, hown, htg⟩ (c_X3_standsFor l D cA _ fu (ad 20) (ad 21) (ad 1) (ad 2) (ad 3) (ad 4) t_trial t_now t_now_kinds t_now_pitches l1 o5 ho6) ⟨va_cnB 2 htg (gU q_2_126) rfl rfl rfl (hN _ q_2_123) (htg _ q_1_6) hd_X3_standsFor.2 ⟨Nat.le_of_ble_eq_true rfl, Nat.le_of_ble_eq_true rfl⟩, htg _ q_2_125, htg _ q_p2_0⟩ (xpV hN hK hP hD [7, 1, 2, 3] rfl (by decide) rfl rfl) rfl rfl hl.1 rfl (lv_room (Nat.le_of_ble_eq_true rfl)) dX5_pitchesOfEcho_9 ⟨Nat.zero_le _, Nat.zero_le _⟩) hP hD hS hA [7, 1, 2, 3] [0, 4, 5, 6, 8, 9, 10] [0, 8, 9, 10, 1, 2, 3, 7, 4, 5, 6] rfl rfl (by decide) (by decide) rfl (by decide) (fun H locs hP hD hS => ?_)
  refine lv_iconst (v := (0 : Int32)) hx hb dX5_pitchesOfEcho_12 (by decide) ?_
  refine lv_istore (lv' := [(4, .int (0 : Int32)), (0, .ref (ad 0)), (1, .int l1), (2, .int l2), (3, .int l3)]) hx hb dX5_pitchesOfEcho_13 hl (by decide) rfl (fun ls hl => ?_)
  refine lv_iconst (v := (0 : Int32)) hx hb dX5_pitchesOfEcho_15 (by decide) ?_
  refine lv_istore (lv' := [(5, .int (0 : Int32)), (4, .int (0 : Int32)), (0, .ref (ad 0)), (1, .int l1), (2, .int l2), (3, .int l3)]) hx hb dX5_pitchesOfEcho_16 hl (by decide) rfl (fun ls hl => ?_)
  exact B_18 fu _ _ _ _ hm hP hD hS (lv_sub hl [2, 4, 5, 1, 0] rfl)
def b_X5_fits_77 (fu : Nat) (t : Nat → Int32) (t_now : Nat → Int32) (t_now_kinds : Nat → Int32) (t_now_pitches : Nat → Int32) (t_shelves_holding : Nat → Int32) (t_shelves_sizes : Nat → Int32) (t_shelves_elements : Nat → Int64) (s0 : Int32) (t_refusals : Nat → Int32) (t_trial : Nat → Int32) (t_trial_heard : Nat → Int32) (t_told : Nat → Int32) (t_told_sounds : Nat → Int32) : Option (Int32 × ((Nat → Int32) × (Nat → Int32) × (Nat → Int32) × (Nat → Int32) × (Nat → Int32))) :=
  some (s0, (t_refusals, t_trial, t_trial_heard, t_told, t_told_sounds))
def b_X5_fits_38 (fu : Nat) (t : Nat → Int32) (t_now : Nat → Int32) (t_now_kinds : Nat → Int32) (t_now_pitches : Nat → Int32) (t_shelves_holding : Nat → Int32) (t_shelves_sizes : Nat → Int32) (t_shelves_elements : Nat → Int64) (l3 : Int32) (l4 : Int32) (l5 : Int32) (l6 : Int32) (s1 : Int32) (s2 : Int32) (s3 : Int32) (s4 : Int32) (s5 : Int32) (t_refusals : Nat → Int32) (t_trial : Nat → Int32) (t_trial_heard : Nat → Int32) (t_told : Nat → Int32) (t_told_sounds : Nat → Int32) : Option (Int32 × ((Nat → Int32) × (Nat → Int32) × (Nat → Int32) × (Nat → Int32) × (Nat → Int32))) :=
  (m_X5_takeWordAndRow fu t t_shelves_holding t_shelves_sizes t_shelves_elements t_refusals t_told t_told_sounds s1 s2 s3 s4 s5).bind fun o1 =>
    (if o1.1 = 0 then
      (if l6 = 0 then
        (m_X5_kindsOfEcho fu t t_now t_now_kinds t_now_pitches t_shelves_sizes t_shelves_elements t_trial t_trial_heard o1.2.2.1 o1.2.2.2 l5 l3 l4).bind fun o7 =>
        b_X5_fits_77 fu t t_now t_now_kinds t_now_pitches t_shelves_holding t_shelves_sizes t_shelves_elements o7.1 o1.2.1 o7.2.1 o7.2.2 o1.2.2.1 o1.2.2.2
      else
        (m_X5_pitchesOfEcho fu t t_now t_now_kinds t_now_pitches t_shelves_sizes t_shelves_elements t_trial t_trial_heard o1.2.2.1 o1.2.2.2 l5 l3 l4).bind fun o5 =>
        b_X5_fits_77 fu t t_now t_now_kinds t_now_pitches t_shelves_holding t_shelves_sizes t_shelves_elements o5.1 o1.2.1 o5.2.1 o5.2.2 o1.2.2.1 o1.2.2.2)
    else
      some (o1.1, (o1.2.1, t_trial, t_trial_heard, o1.2.2.1, o1.2.2.2)))
def b_X5_fits_37 (fu : Nat) (t : Nat → Int32) (t_now : Nat → Int32) (t_now_kinds : Nat → Int32) (t_now_pitches : Nat → Int32) (t_shelves_holding : Nat → Int32) (t_shelves_sizes : Nat → Int32) (t_shelves_elements : Nat → Int64) (l3 : Int32) (l4 : Int32) (l5 : Int32) (l6 : Int32) (s1 : Int32) (s2 : Int32) (s3 : Int32) (s4 : Int32) (t_refusals : Nat → Int32) (t_trial : Nat → Int32) (t_trial_heard : Nat → Int32) (t_told : Nat → Int32) (t_told_sounds : Nat → Int32) : Option (Int32 × ((Nat → Int32) × (Nat → Int32) × (Nat → Int32) × (Nat → Int32) × (Nat → Int32))) :=
  b_X5_fits_38 fu t t_now t_now_kinds t_now_pitches t_shelves_holding t_shelves_sizes t_shelves_elements l3 l4 l5 l6 s1 s2 s3 s4 (0 : Int32) t_refusals t_trial t_trial_heard t_told t_told_sounds
def m_X5_fits (fu : Nat) (t : Nat → Int32) (t_now : Nat → Int32) (t_now_kinds : Nat → Int32) (t_now_pitches : Nat → Int32) (t_shelves_holding : Nat → Int32) (t_shelves_sizes : Nat → Int32) (t_shelves_elements : Nat → Int64) (t_refusals : Nat → Int32) (t_trial : Nat → Int32) (t_trial_heard : Nat → Int32) (t_told : Nat → Int32) (t_told_sounds : Nat → Int32) (l1 : Int32) (l2 : Int32) (l3 : Int32) (l4 : Int32) (l5 : Int32) (l6 : Int32) : Option (Int32 × ((Nat → Int32) × (Nat → Int32) × (Nat → Int32) × (Nat → Int32) × (Nat → Int32))) :=
  (m_X5_isVoice fu t t_now l5).bind fun o9 =>
  (if o9.1 = 0 then
    b_X5_fits_37 fu t t_now t_now_kinds t_now_pitches t_shelves_holding t_shelves_sizes t_shelves_elements l3 l4 l5 l6 l1 l2 l3 l4 t_refusals t_trial t_trial_heard t_told t_told_sounds
  else
    (m_X5_isEchoSize fu l4).bind fun o12 =>
    (if o12.1 = 0 then
      b_X5_fits_37 fu t t_now t_now_kinds t_now_pitches t_shelves_holding t_shelves_sizes t_shelves_elements l3 l4 l5 l6 l1 l2 l3 l4 t_refusals t_trial t_trial_heard t_told t_told_sounds
    else
      (m_X5_isWithin fu l6 (0 : Int32) (1 : Int32)).bind fun o15 =>
      (if o15.1 = 0 then
        b_X5_fits_37 fu t t_now t_now_kinds t_now_pitches t_shelves_holding t_shelves_sizes t_shelves_elements l3 l4 l5 l6 l1 l2 l3 l4 t_refusals t_trial t_trial_heard t_told t_told_sounds
      else
        b_X5_fits_38 fu t t_now t_now_kinds t_now_pitches t_shelves_holding t_shelves_sizes t_shelves_elements l3 l4 l5 l6 l1 l2 l3 l4 (1 : Int32) t_refusals t_trial t_trial_heard t_told t_told_sounds)))
abbrev rm_X5_fits : Room := ({ frames := 6, cells := 0, slots := 0, locals := 136 } : Room)
abbrev w0_X5_fits (cA : Nat → ClassId) (ad : Nat → Nat) (t : Nat → Int32) (t_now : Nat → Int32) (t_now_kinds : Nat → Int32) (t_now_pitches : Nat → Int32) (t_shelves_holding : Nat → Int32) (t_shelves_sizes : Nat → Int32) (t_shelves_elements : Nat → Int64) (t_refusals : Nat → Int32) (t_trial : Nat → Int32) (t_trial_heard : Nat → Int32) (t_told : Nat → Int32) (t_told_sounds : Nat → Int32) : va_W := [((ad 0), e_X5 ad t), ((ad 1), e_X1 (ad 2) (ad 3) (ad 4) t_now), ((ad 2), eI cA 8 t_now_kinds), ((ad 4), eI cA 8 t_now_pitches), ((ad 13), e_X0 (ad 14) (ad 15) (ad 16)), ((ad 14), eI cA 8 t_shelves_holding), ((ad 15), eI cA 8 t_shelves_sizes), ((ad 16), eJ cA 320 t_shelves_elements), ((ad 19), eI cA 5 t_refusals), ((ad 20), e_X3 (ad 21) t_trial), ((ad 21), eI cA 13 t_trial_heard), ((ad 24), e_X4 (ad 25) t_told), ((ad 25), eI cA 12 t_told_sounds)]
abbrev w1_X5_fits (cA : Nat → ClassId) (ad : Nat → Nat) (t : Nat → Int32) (t_now : Nat → Int32) (t_now_kinds : Nat → Int32) (t_now_pitches : Nat → Int32) (t_shelves_holding : Nat → Int32) (t_shelves_sizes : Nat → Int32) (t_shelves_elements : Nat → Int64) (u : (Nat → Int32) × (Nat → Int32) × (Nat → Int32) × (Nat → Int32) × (Nat → Int32)) : va_W := [((ad 0), e_X5 ad t), ((ad 1), e_X1 (ad 2) (ad 3) (ad 4) t_now), ((ad 2), eI cA 8 t_now_kinds), ((ad 4), eI cA 8 t_now_pitches), ((ad 13), e_X0 (ad 14) (ad 15) (ad 16)), ((ad 14), eI cA 8 t_shelves_holding), ((ad 15), eI cA 8 t_shelves_sizes), ((ad 16), eJ cA 320 t_shelves_elements), ((ad 19), eI cA 5 u.1), ((ad 20), e_X3 (ad 21) u.2.1), ((ad 21), eI cA 13 u.2.2.1), ((ad 24), e_X4 (ad 25) u.2.2.2.1), ((ad 25), eI cA 12 u.2.2.2.2)]
theorem hd_X5_fits : yX5_fits.cls = RX5 ∧ yX5_fits.cls ≠ "java/lang/invoke/MethodHandle" ∧ yX5_fits.cls ≠ "java/lang/invoke/VarHandle" ∧ (parseMethodDescriptor yX5_fits.desc).map (fun d => d.parameters.length) = some 6 := by decide +kernel
set_option maxHeartbeats 40000000 in
set_option maxRecDepth 100000 in
theorem c_X5_fits (l : Launch) (D : va_G) (cA : Nat → ClassId) (sz : Nat) (fu : Nat) (ad : Nat → Nat) (t : Nat → Int32) (t_now : Nat → Int32) (t_now_kinds : Nat → Int32) (t_now_pitches : Nat → Int32) (t_shelves_holding : Nat → Int32) (t_shelves_sizes : Nat → Int32) (t_shelves_elements : Nat → Int64) (t_refusals : Nat → Int32) (t_trial : Nat → Int32) (t_trial_heard : Nat → Int32) (t_told : Nat → Int32) (t_told_sounds : Nat → Int32) (l1 : Int32) (l2 : Int32) (l3 : Int32) (l4 : Int32) (l5 : Int32) (l6 : Int32) (out : Int32 × ((Nat → Int32) × (Nat → Int32) × (Nat → Int32) × (Nat → Int32) × (Nat → Int32))) (hm : m_X5_fits fu t t_now t_now_kinds t_now_pitches t_shelves_holding t_shelves_sizes t_shelves_elements t_refusals t_trial t_trial_heard t_told t_told_sounds l1 l2 l3 l4 l5 l6 = some out) : MI l yX5_fits (wU yX5_fits cX5_fits 8 ((Option.some Jvm.ClassFile.FieldType.int))) rm_X5_fits D cA sz [.ref (ad 0), .int l1, .int l2, .int l3, .int l4, .int l5, .int l6] (w0_X5_fits cA ad t t_now t_now_kinds t_now_pitches t_shelves_holding t_shelves_sizes t_shelves_elements t_refusals t_trial t_trial_heard t_told t_told_sounds) out (w1_X5_fits cA ad t t_now t_now_kinds t_now_pitches t_shelves_holding t_shelves_sizes t_shelves_elements) := by
  refine Met.ofW (cc := cX5_fits) (maxL := 8) (ret := (Option.some Jvm.ClassFile.FieldType.int)) (by decide) rfl ?_
  intro p e s m args below meth c s₁ B hml hv
  obtain ⟨hargs, hsz, hP, hK, hD0, hN⟩ := hv
  have hx := B.exec
  have hb := B.bytes
  have hr := B.returns
  have htg : ∀ w ∈ gw, w.before args s = true := fun w h => atoms_spec (ws := wU yX5_fits cX5_fits 8 ((Option.some Jvm.ClassFile.FieldType.int))) B.pre w (List.mem_cons_of_mem _ h)
  have hown : s.vm.findClass RX5 = some m.cls := findClass_of_methodNamed B.named
  have hlocks := B.notSynchronized
  subst hsz
  have hD := hD0.self (sz := s.heap.size)
  have hA : ∀ q : Nat, s.heap.size ≤ q → va_A (w0_X5_fits cA ad t t_now t_now_kinds t_now_pitches t_shelves_holding t_shelves_sizes t_shelves_elements t_refusals t_trial t_trial_heard t_told t_told_sounds) s.heap.size q := fun q h => Or.inr h
  have hS : va_S (va_A (w0_X5_fits cA ad t t_now t_now_kinds t_now_pitches t_shelves_holding t_shelves_sizes t_shelves_elements t_refusals t_trial t_trial_heard t_told t_told_sounds) s.heap.size) s.heap s.heap [] := va_S.rf
  generalize va_A (w0_X5_fits cA ad t t_now t_now_kinds t_now_pitches t_shelves_holding t_shelves_sizes t_shelves_elements t_refusals t_trial t_trial_heard t_told t_told_sounds) s.heap.size = A at hA hD hS ⊢
  obtain ⟨Q, hQ⟩ : ∃ Q : State → Prop, Q = MQ below (va_Qi (fun (r : Int32) (u : (Nat → Int32) × (Nat → Int32) × (Nat → Int32) × (Nat → Int32) × (Nat → Int32)) => (r, u) = out) (pst0 D cA A (w1_X5_fits cA ad t t_now t_now_kinds t_now_pitches t_shelves_holding t_shelves_sizes t_shelves_elements)) A) args s 0 0 A := ⟨_, rfl⟩
  refine (?_ : W p l e rm_X5_fits s m args below meth c s.heap [] 0 0 (MQ below (va_Qi (fun (r : Int32) (u : (Nat → Int32) × (Nat → Int32) × (Nat → Int32) × (Nat → Int32) × (Nat → Int32)) => (r, u) = out) (pst0 D cA A (w1_X5_fits cA ad t t_now t_now_kinds t_now_pitches t_shelves_holding t_shelves_sizes t_shelves_elements)) A) args s 0 0 A) (entryFrame m args 8))
  rw [← hQ]
  have hP : va_P D CL [((ad 0), e_X5 ad t), ((ad 1), e_X1 (ad 2) (ad 3) (ad 4) t_now), ((ad 2), eI cA 8 t_now_kinds), ((ad 4), eI cA 8 t_now_pitches), ((ad 13), e_X0 (ad 14) (ad 15) (ad 16)), ((ad 14), eI cA 8 t_shelves_holding), ((ad 15), eI cA 8 t_shelves_sizes), ((ad 16), eJ cA 320 t_shelves_elements), ((ad 19), eI cA 5 t_refusals), ((ad 20), e_X3 (ad 21) t_trial), ((ad 21), eI cA 13 t_trial_heard), ((ad 24), e_X4 (ad 25) t_told), ((ad 25), eI cA 12 t_told_sounds)] s.heap := hP
  have hD : va_D A [((ad 0), e_X5 ad t), ((ad 1), e_X1 (ad 2) (ad 3) (ad 4) t_now), ((ad 2), eI cA 8 t_now_kinds), ((ad 4), eI cA 8 t_now_pitches), ((ad 13), e_X0 (ad 14) (ad 15) (ad 16)), ((ad 14), eI cA 8 t_shelves_holding), ((ad 15), eI cA 8 t_shelves_sizes), ((ad 16), eJ cA 320 t_shelves_elements), ((ad 19), eI cA 5 t_refusals), ((ad 20), e_X3 (ad 21) t_trial), ((ad 21), eI cA 13 t_trial_heard), ((ad 24), e_X4 (ad 25) t_told), ((ad 25), eI cA 12 t_told_sounds)] := hD
  have B_77 : ∀ (s0 : Int32) (t_refusals : Nat → Int32) (t_trial : Nat → Int32) (t_trial_heard : Nat → Int32) (t_told : Nat → Int32) (t_told_sounds : Nat → Int32) (H : Heap) (locs : List Loc) (ls : Array Slot), b_X5_fits_77 fu t t_now t_now_kinds t_now_pitches t_shelves_holding t_shelves_sizes t_shelves_elements s0 t_refusals t_trial t_trial_heard t_told t_told_sounds = some out → va_P D CL [((ad 0), e_X5 ad t), ((ad 1), e_X1 (ad 2) (ad 3) (ad 4) t_now), ((ad 2), eI cA 8 t_now_kinds), ((ad 4), eI cA 8 t_now_pitches), ((ad 13), e_X0 (ad 14) (ad 15) (ad 16)), ((ad 14), eI cA 8 t_shelves_holding), ((ad 15), eI cA 8 t_shelves_sizes), ((ad 16), eJ cA 320 t_shelves_elements), ((ad 19), eI cA 5 t_refusals), ((ad 20), e_X3 (ad 21) t_trial), ((ad 21), eI cA 13 t_trial_heard), ((ad 24), e_X4 (ad 25) t_told), ((ad 25), eI cA 12 t_told_sounds)] H → va_D A [((ad 0), e_X5 ad t), ((ad 1), e_X1 (ad 2) (ad 3) (ad 4) t_now), ((ad 2), eI cA 8 t_now_kinds), ((ad 4), eI cA 8 t_now_pitches), ((ad 13), e_X0 (ad 14) (ad 15) (ad 16)), ((ad 14), eI cA 8 t_shelves_holding), ((ad 15), eI cA 8 t_shelves_sizes), ((ad 16), eJ cA 320 t_shelves_elements), ((ad 19), eI cA 5 t_refusals), ((ad 20), e_X3 (ad 21) t_trial), ((ad 21), eI cA 13 t_trial_heard), ((ad 24), e_X4 (ad 25) t_told), ((ad 25), eI cA 12 t_told_sounds)] → va_S A s.heap H locs → lv_has ls 8 [(0, .ref (ad 0))] → W p l e rm_X5_fits s m args below meth c H locs 0 0 Q (F0 m 77 ls [.int s0]) := by
    intro  s0 t_refusals t_trial t_trial_heard t_told t_told_sounds H locs ls hm hP hD hS hl
    unfold b_X5_fits_77 at hm
    rw [hQ]
    exact W.iret (v := s0) hx hb hr (fun t9 ht hW => ⟨⟨s0, (t_refusals, t_trial, t_trial_heard, t_told, t_told_sounds), rfl, (Option.some.inj hm), by rw [ht]; exact hP, va_K.moved hW.alike hK, hD⟩, hS.F ht⟩) hS.2.2 dX5_fits_77
  have B_38 : ∀ (l3 : Int32) (l4 : Int32) (l5 : Int32) (l6 : Int32) (s1 : Int32) (s2 : Int32) (s3 : Int32) (s4 : Int32) (s5 : Int32) (t_refusals : Nat → Int32) (t_trial : Nat → Int32) (t_trial_heard : Nat → Int32) (t_told : Nat → Int32) (t_told_sounds : Nat → Int32) (H : Heap) (locs : List Loc) (ls : Array Slot), b_X5_fits_38 fu t t_now t_now_kinds t_now_pitches t_shelves_holding t_shelves_sizes t_shelves_elements l3 l4 l5 l6 s1 s2 s3 s4 s5 t_refusals t_trial t_trial_heard t_told t_told_sounds = some out → va_P D CL [((ad 0), e_X5 ad t), ((ad 1), e_X1 (ad 2) (ad 3) (ad 4) t_now), ((ad 2), eI cA 8 t_now_kinds), ((ad 4), eI cA 8 t_now_pitches), ((ad 13), e_X0 (ad 14) (ad 15) (ad 16)), ((ad 14), eI cA 8 t_shelves_holding), ((ad 15), eI cA 8 t_shelves_sizes), ((ad 16), eJ cA 320 t_shelves_elements), ((ad 19), eI cA 5 t_refusals), ((ad 20), e_X3 (ad 21) t_trial), ((ad 21), eI cA 13 t_trial_heard), ((ad 24), e_X4 (ad 25) t_told), ((ad 25), eI cA 12 t_told_sounds)] H → va_D A [((ad 0), e_X5 ad t), ((ad 1), e_X1 (ad 2) (ad 3) (ad 4) t_now), ((ad 2), eI cA 8 t_now_kinds), ((ad 4), eI cA 8 t_now_pitches), ((ad 13), e_X0 (ad 14) (ad 15) (ad 16)), ((ad 14), eI cA 8 t_shelves_holding), ((ad 15), eI cA 8 t_shelves_sizes), ((ad 16), eJ cA 320 t_shelves_elements), ((ad 19), eI cA 5 t_refusals), ((ad 20), e_X3 (ad 21) t_trial), ((ad 21), eI cA 13 t_trial_heard), ((ad 24), e_X4 (ad 25) t_told), ((ad 25), eI cA 12 t_told_sounds)] → va_S A s.heap H locs → lv_has ls 8 [(0, .ref (ad 0)), (3, .int l3), (4, .int l4), (5, .int l5), (6, .int l6)] → W p l e rm_X5_fits s m args below meth c H locs 0 0 Q (F0 m 38 ls [.int s5, .int s4, .int s3, .int s2, .int s1, .ref (ad 0)]) := by
    intro  l3 l4 l5 l6 s1 s2 s3 s4 s5 t_refusals t_trial t_trial_heard t_told t_told_sounds H locs ls hm hP hD hS hl
    unfold b_X5_fits_38 at hm
    obtain ⟨o1, ho2, hm⟩ := bd_s hm
    refine xr_i (wr := [((ad 1), e_X1 (ad 2) (ad 3) (ad 4) t_now), ((ad 2), eI cA 8 t_now_kinds), ((ad 4), eI cA 8 t_now_pitches), ((ad 20), e_X3 (ad 21) t_trial), ((ad 21), eI cA 13 t_trial_heard)]) (wn := [((ad 0), e_X5 ad t), ((ad 1), e_X1 (ad 2) (ad 3) (ad 4) t_now), ((ad 2), eI cA 8 t_now_kinds), ((ad 4), eI cA 8 t_now_pitches), ((ad 13), e_X0 (ad 14) (ad 15) (ad 16)), ((ad 14), eI cA 8 t_shelves_holding), ((ad 15), eI cA 8 t_shelves_sizes), ((ad 16), eJ cA 320 t_shelves_elements), ((ad 19), eI cA 5 o1.2.1), ((ad 20), e_X3 (ad 21) t_trial), ((ad 21), eI cA 13 t_trial_heard), ((ad 24), e_X4 (ad 25) o1.2.2.1), ((ad 25), eI cA 12 o1.2.2.2)]) (va_runV (As := [.int s1, .int s2, .int s3, .int s4, .int s5]) (rest := []) ⟨hx, hb, hml, hown, htg⟩ (c_X5_takeWordAndRow l D cA _ fu ad t t_shelves_holding t_shelves_sizes t_shelves_elements t_refusals t_told t_told_sounds s1 s2 s3 s4 s5 o1 ho2) (cwV 5 htg (gV q_3_130 q_3_132 q_p3_13 q_1_1 q_3_133) rfl rfl rfl hd_X5_takeWordAndRow ⟨Nat.le_of_ble_eq_true rfl, Nat.le_of_ble_eq_true rfl⟩) (xpV hN hK hP hD [0, 4, 5, 6, 7, 8, 11, 12] rfl (by decide) rfl rfl) rfl rfl hl.1 rfl (lv_room (Nat.le_of_ble_eq_true rfl)) dX5_fits_38 ⟨Nat.zero_le _, Nat.zero_le _⟩) hP hD hS hA [0, 4, 5, 6, 7, 8, 11, 12] [1, 2, 3, 9, 10] [5, 0, 1, 2, 6, 7, 8, 9, 10, 3, 4, 11, 12] rfl rfl (by decide) (by decide) rfl (by decide) (fun H locs hP hD hS => ?_)
    refine lv_istore (lv' := [(7, .int o1.1), (0, .ref (ad 0)), (3, .int l3), (4, .int l4), (5, .int l5), (6, .int l6)]) hx hb dX5_fits_41 hl (by decide) rfl (fun ls hl => ?_)
    refine lv_iload hx hb dX5_fits_43 (lv_at hl 0 rfl) ?_
    refine lv_if_eq (tgt := 51) hx hb dX5_fits_45 (by decide) (fun c3 => ?_) (fun c3 => ?_)
    · have hm := it_t c3 hm
      refine lv_iload hx hb dX5_fits_51 (lv_at hl 5 rfl) ?_
      refine lv_if_ne (tgt := 68) hx hb dX5_fits_53 (by decide) (fun c4 => ?_) (fun c4 => ?_)
      · have hm := it_f c4 hm
        refine lv_aload_n hx hb dX5_fits_68 rfl (lv_at hl 1 rfl) ?_
        refine lv_iload hx hb dX5_fits_69 (lv_at hl 4 rfl) ?_
        refine lv_iload_n hx hb dX5_fits_71 rfl (lv_at hl 2 rfl) ?_
        refine lv_iload hx hb dX5_fits_72 (lv_at hl 3 rfl) ?_
        obtain ⟨o5, ho6, hm⟩ := bd_s hm
        refine xr_i (wr := [((ad 14), eI cA 8 t_shelves_holding), ((ad 19), eI cA 5 o1.2.1)]) (wn := [((ad 0), e_X5 ad t), ((ad 1), e_X1 (ad 2) (ad 3) (ad 4) t_now), ((ad 2), eI cA 8 t_now_kinds), ((ad 4), eI cA 8 t_now_pitches), ((ad 13), e_X0 (ad 14) (ad 15) (ad 16)), ((ad 14), eI cA 8 t_shelves_holding), ((ad 15), eI cA 8 t_shelves_sizes), ((ad 16), eJ cA 320 t_shelves_elements), ((ad 19), eI cA 5 o1.2.1), ((ad 20), e_X3 (ad 21) o5.2.1), ((ad 21), eI cA 13 o5.2.2), ((ad 24), e_X4 (ad 25) o1.2.2.1), ((ad 25), eI cA 12 o1.2.2.2)]) (va_runV (As := [.int l5, .int l3, .int l4]) (rest := []) ⟨hx, hb, hml, hown, htg⟩ (c_X5_pitchesOfEcho l D cA _ fu ad t t_now t_now_kinds t_now_pitches t_shelves_sizes t_shelves_elements t_trial t_trial_heard o1.2.2.1 o1.2.2.2 l5 l3 l4 o5 ho6) (cwV 3 htg (gV q_4_96 q_4_98 q_p4_15 q_1_1 q_4_99) rfl rfl rfl hd_X5_pitchesOfEcho ⟨Nat.le_of_ble_eq_true rfl, Nat.le_of_ble_eq_true rfl⟩) (xpV hN hK hP hD [0, 1, 2, 3, 4, 6, 7, 9, 10, 11, 12] rfl (by decide) rfl rfl) rfl rfl hl.1 rfl (lv_room (Nat.le_of_ble_eq_true rfl)) dX5_fits_74 ⟨Nat.zero_le _, Nat.zero_le _⟩) hP hD hS hA [0, 1, 2, 3, 4, 6, 7, 9, 10, 11, 12] [5, 8] [2, 3, 4, 5, 6, 0, 7, 8, 1, 9, 10, 11, 12] rfl rfl (by decide) (by decide) rfl (by decide) (fun H locs hP hD hS => ?_)
        exact B_77 _ _ _ _ _ _ _ _ _ hm hP hD hS (lv_sub hl [1] rfl)
      · have hm := it_t c4 hm
        refine lv_aload_n hx hb dX5_fits_56 rfl (lv_at hl 1 rfl) ?_
        refine lv_iload hx hb dX5_fits_57 (lv_at hl 4 rfl) ?_
        refine lv_iload_n hx hb dX5_fits_59 rfl (lv_at hl 2 rfl) ?_
        refine lv_iload hx hb dX5_fits_60 (lv_at hl 3 rfl) ?_
        obtain ⟨o7, ho8, hm⟩ := bd_s hm
        refine xr_i (wr := [((ad 14), eI cA 8 t_shelves_holding), ((ad 19), eI cA 5 o1.2.1)]) (wn := [((ad 0), e_X5 ad t), ((ad 1), e_X1 (ad 2) (ad 3) (ad 4) t_now), ((ad 2), eI cA 8 t_now_kinds), ((ad 4), eI cA 8 t_now_pitches), ((ad 13), e_X0 (ad 14) (ad 15) (ad 16)), ((ad 14), eI cA 8 t_shelves_holding), ((ad 15), eI cA 8 t_shelves_sizes), ((ad 16), eJ cA 320 t_shelves_elements), ((ad 19), eI cA 5 o1.2.1), ((ad 20), e_X3 (ad 21) o7.2.1), ((ad 21), eI cA 13 o7.2.2), ((ad 24), e_X4 (ad 25) o1.2.2.1), ((ad 25), eI cA 12 o1.2.2.2)]) (va_runV (As := [.int l5, .int l3, .int l4]) (rest := []) ⟨hx, hb, hml, hown, htg⟩ (c_X5_kindsOfEcho l D cA _ fu ad t t_now t_now_kinds t_now_pitches t_shelves_sizes t_shelves_elements t_trial t_trial_heard o1.2.2.1 o1.2.2.2 l5 l3 l4 o7 ho8) (cwV 3 htg (gV q_4_92 q_4_94 q_p4_14 q_1_1 q_4_95) rfl rfl rfl hd_X5_kindsOfEcho ⟨Nat.le_of_ble_eq_true rfl, Nat.le_of_ble_eq_true rfl⟩) (xpV hN hK hP hD [0, 1, 2, 3, 4, 6, 7, 9, 10, 11, 12] rfl (by decide) rfl rfl) rfl rfl hl.1 rfl (lv_room (Nat.le_of_ble_eq_true rfl)) dX5_fits_62 ⟨Nat.zero_le _, Nat.zero_le _⟩) hP hD hS hA [0, 1, 2, 3, 4, 6, 7, 9, 10, 11, 12] [5, 8] [2, 3, 4, 5, 6, 0, 7, 8, 1, 9, 10, 11, 12] rfl rfl (by decide) (by decide) rfl (by decide) (fun H locs hP hD hS => ?_)
        refine lv_goto (tgt := 77) hx hb dX5_fits_65 (by decide) ?_
        exact B_77 _ _ _ _ _ _ _ _ _ hm hP hD hS (lv_sub hl [1] rfl)
    · have hm := it_f c3 hm
      refine lv_iload hx hb dX5_fits_48 (lv_at hl 0 rfl) ?_
      rw [hQ]
      exact W.iret (v := o1.1) hx hb hr (fun t9 ht hW => ⟨⟨o1.1, (o1.2.1, t_trial, t_trial_heard, o1.2.2.1, o1.2.2.2), rfl, (Option.some.inj hm), by rw [ht]; exact hP, va_K.moved hW.alike hK, hD⟩, hS.F ht⟩) hS.2.2 dX5_fits_50
  have B_37 : ∀ (l3 : Int32) (l4 : Int32) (l5 : Int32) (l6 : Int32) (s1 : Int32) (s2 : Int32) (s3 : Int32) (s4 : Int32) (t_refusals : Nat → Int32) (t_trial : Nat → Int32) (t_trial_heard : Nat → Int32) (t_told : Nat → Int32) (t_told_sounds : Nat → Int32) (H : Heap) (locs : List Loc) (ls : Array Slot), b_X5_fits_37 fu t t_now t_now_kinds t_now_pitches t_shelves_holding t_shelves_sizes t_shelves_elements l3 l4 l5 l6 s1 s2 s3 s4 t_refusals t_trial t_trial_heard t_told t_told_sounds = some out → va_P D CL [((ad 0), e_X5 ad t), ((ad 1), e_X1 (ad 2) (ad 3) (ad 4) t_now), ((ad 2), eI cA 8 t_now_kinds), ((ad 4), eI cA 8 t_now_pitches), ((ad 13), e_X0 (ad 14) (ad 15) (ad 16)), ((ad 14), eI cA 8 t_shelves_holding), ((ad 15), eI cA 8 t_shelves_sizes), ((ad 16), eJ cA 320 t_shelves_elements), ((ad 19), eI cA 5 t_refusals), ((ad 20), e_X3 (ad 21) t_trial), ((ad 21), eI cA 13 t_trial_heard), ((ad 24), e_X4 (ad 25) t_told), ((ad 25), eI cA 12 t_told_sounds)] H → va_D A [((ad 0), e_X5 ad t), ((ad 1), e_X1 (ad 2) (ad 3) (ad 4) t_now), ((ad 2), eI cA 8 t_now_kinds), ((ad 4), eI cA 8 t_now_pitches), ((ad 13), e_X0 (ad 14) (ad 15) (ad 16)), ((ad 14), eI cA 8 t_shelves_holding), ((ad 15), eI cA 8 t_shelves_sizes), ((ad 16), eJ cA 320 t_shelves_elements), ((ad 19), eI cA 5 t_refusals), ((ad 20), e_X3 (ad 21) t_trial), ((ad 21), eI cA 13 t_trial_heard), ((ad 24), e_X4 (ad 25) t_told), ((ad 25), eI cA 12 t_told_sounds)] → va_S A s.heap H locs → lv_has ls 8 [(0, .ref (ad 0)), (3, .int l3), (4, .int l4), (5, .int l5), (6, .int l6)] → W p l e rm_X5_fits s m args below meth c H locs 0 0 Q (F0 m 37 ls [.int s4, .int s3, .int s2, .int s1, .ref (ad 0)]) := by
    intro  l3 l4 l5 l6 s1 s2 s3 s4 t_refusals t_trial t_trial_heard t_told t_told_sounds H locs ls hm hP hD hS hl
    unfold b_X5_fits_37 at hm
    refine lv_iconst (v := (0 : Int32)) hx hb dX5_fits_37 (by decide) ?_
    exact B_38 _ _ _ _ _ _ _ _ _ _ _ _ _ _ _ _ _ hm hP hD hS (lv_sub hl [0, 1, 2, 3, 4] rfl)
  unfold m_X5_fits at hm
  subst hargs
  have hl := lv_entry ([.ref (ad 0), .int l1, .int l2, .int l3, .int l4, .int l5, .int l6]) (n := 8) (Nat.le_of_ble_eq_true rfl)
  rw [lg_entry_eq]
  generalize (lg_sl ([.ref (ad 0), .int l1, .int l2, .int l3, .int l4, .int l5, .int l6]) ++ List.replicate (8 - (lg_sl ([.ref (ad 0), .int l1, .int l2, .int l3, .int l4, .int l5, .int l6])).length) Slot.unset).toArray = ls at hl ⊢
  have hl : lv_has ls 8 [(0, .ref (ad 0)), (1, .int l1), (2, .int l2), (3, .int l3), (4, .int l4), (5, .int l5), (6, .int l6)] := hl
  refine lv_aload_n hx hb dX5_fits_0 rfl (lv_at hl 0 rfl) ?_
  refine lv_iload_n hx hb dX5_fits_1 rfl (lv_at hl 1 rfl) ?_
  refine lv_iload_n hx hb dX5_fits_2 rfl (lv_at hl 2 rfl) ?_
  refine lv_iload_n hx hb dX5_fits_3 rfl (lv_at hl 3 rfl) ?_
  refine lv_iload hx hb dX5_fits_4 (lv_at hl 4 rfl) ?_
  refine lv_aload_n hx hb dX5_fits_6 rfl (lv_at hl 0 rfl) ?_
  refine lv_iload hx hb dX5_fits_7 (lv_at hl 5 rfl) ?_
  obtain ⟨o9, ho10, hm⟩ := bd_s hm
  refine xr_i (wr := [((ad 2), eI cA 8 t_now_kinds), ((ad 4), eI cA 8 t_now_pitches), ((ad 13), e_X0 (ad 14) (ad 15) (ad 16)), ((ad 14), eI cA 8 t_shelves_holding), ((ad 15), eI cA 8 t_shelves_sizes), ((ad 16), eJ cA 320 t_shelves_elements), ((ad 19), eI cA 5 t_refusals), ((ad 20), e_X3 (ad 21) t_trial), ((ad 21), eI cA 13 t_trial_heard), ((ad 24), e_X4 (ad 25) t_told), ((ad 25), eI cA 12 t_told_sounds)]) (wn := [((ad 0), e_X5 ad t), ((ad 1), e_X1 (ad 2) (ad 3) (ad 4) t_now), ((ad 2), eI cA 8 t_now_kinds), ((ad 4), eI cA 8 t_now_pitches), ((ad 13), e_X0 (ad 14) (ad 15) (ad 16)), ((ad 14), eI cA 8 t_shelves_holding), ((ad 15), eI cA 8 t_shelves_sizes), ((ad 16), eJ cA 320 t_shelves_elements), ((ad 19), eI cA 5 t_refusals), ((ad 20), e_X3 (ad 21) t_trial), ((ad 21), eI cA 13 t_trial_heard), ((ad 24), e_X4 (ad 25) t_told), ((ad 25), eI cA 12 t_told_sounds)]) (va_runV (As := [.int l5]) (rest := [.int l4, .int l3, .int l2, .int l1, .ref (ad 0)]) ⟨hx, hb, hml, hown, htg⟩ (c_X5_isVoice l D cA _ fu ad t t_now l5 o9 ho10) (cwV 1 htg (gV q_2_87 q_2_89 q_p1_10 q_1_1 q_2_90) rfl rfl rfl hd_X5_isVoice ⟨Nat.le_of_ble_eq_true rfl, Nat.le_of_ble_eq_true rfl⟩) (xpV hN hK hP hD [0, 1] rfl (by decide) rfl rfl) rfl rfl hl.1 rfl (lv_room (Nat.le_of_ble_eq_true rfl)) dX5_fits_9 ⟨Nat.zero_le _, Nat.zero_le _⟩) hP hD hS hA [0, 1] [2, 3, 4, 5, 6, 7, 8, 9, 10, 11, 12] [11, 12, 0, 1, 2, 3, 4, 5, 6, 7, 8, 9, 10] rfl rfl (by decide) (by decide) rfl (by decide) (fun H locs hP hD hS => ?_)
  refine lv_if_eq (tgt := 37) hx hb dX5_fits_12 (by decide) (fun c11 => ?_) (fun c11 => ?_)
  · have hm := it_t c11 hm
    exact B_37 _ _ _ _ _ _ _ _ _ _ _ _ _ _ _ _ hm hP hD hS (lv_sub hl [0, 3, 4, 5, 6] rfl)
  · have hm := it_f c11 hm
    refine lv_iload hx hb dX5_fits_15 (lv_at hl 4 rfl) ?_
    obtain ⟨o12, ho13, hm⟩ := bd_s hm
    refine xr_i (wr := [((ad 0), e_X5 ad t), ((ad 1), e_X1 (ad 2) (ad 3) (ad 4) t_now), ((ad 2), eI cA 8 t_now_kinds), ((ad 4), eI cA 8 t_now_pitches), ((ad 13), e_X0 (ad 14) (ad 15) (ad 16)), ((ad 14), eI cA 8 t_shelves_holding), ((ad 15), eI cA 8 t_shelves_sizes), ((ad 16), eJ cA 320 t_shelves_elements), ((ad 19), eI cA 5 t_refusals), ((ad 20), e_X3 (ad 21) t_trial), ((ad 21), eI cA 13 t_trial_heard), ((ad 24), e_X4 (ad 25) t_told), ((ad 25), eI cA 12 t_told_sounds)]) (wn := [((ad 0), e_X5 ad t), ((ad 1), e_X1 (ad 2) (ad 3) (ad 4) t_now), ((ad 2), eI cA 8 t_now_kinds), ((ad 4), eI cA 8 t_now_pitches), ((ad 13), e_X0 (ad 14) (ad 15) (ad 16)), ((ad 14), eI cA 8 t_shelves_holding), ((ad 15), eI cA 8 t_shelves_sizes), ((ad 16), eJ cA 320 t_shelves_elements), ((ad 19), eI cA 5 t_refusals), ((ad 20), e_X3 (ad 21) t_trial), ((ad 21), eI cA 13 t_trial_heard), ((ad 24), e_X4 (ad 25) t_told), ((ad 25), eI cA 12 t_told_sounds)]) (va_runS (As := [.int l4]) (rest := [.int l4, .int l3, .int l2, .int l1, .ref (ad 0)]) ⟨hx, hb, hml, hown, htg⟩ (c_X5_isEchoSize l D cA _ fu l4 o12 ho13) (cwS 1 htg (gS q_4_77 q_4_78 q_1_1 q_4_79) rfl rfl rfl hd_X5_isEchoSize ⟨Nat.le_of_ble_eq_true rfl, Nat.le_of_ble_eq_true rfl⟩) (xpS hN hK hP hD [] rfl (by decide)) rfl rfl hl.1 rfl (lv_room (Nat.le_of_ble_eq_true rfl)) dX5_fits_17 ⟨Nat.zero_le _, Nat.zero_le _⟩) hP hD hS hA [] [0, 1, 2, 3, 4, 5, 6, 7, 8, 9, 10, 11, 12] [0, 1, 2, 3, 4, 5, 6, 7, 8, 9, 10, 11, 12] rfl rfl (by decide) (by decide) rfl (by decide) (fun H locs hP hD hS => ?_)
    refine lv_if_eq (tgt := 37) hx hb dX5_fits_20 (by decide) (fun c14 => ?_) (fun c14 => ?_)
    · have hm := it_t c14 hm
      exact B_37 _ _ _ _ _ _ _ _ _ _ _ _ _ _ _ _ hm hP hD hS (lv_sub hl [0, 3, 4, 5, 6] rfl)
    · have hm := it_f c14 hm
      refine lv_iload hx hb dX5_fits_23 (lv_at hl 6 rfl) ?_
      refine lv_iconst (v := (0 : Int32)) hx hb dX5_fits_25 (by decide) ?_
      refine lv_iconst (v := (1 : Int32)) hx hb dX5_fits_26 (by decide) ?_
      obtain ⟨o15, ho16, hm⟩ := bd_s hm
      refine xr_i (wr := [((ad 0), e_X5 ad t), ((ad 1), e_X1 (ad 2) (ad 3) (ad 4) t_now), ((ad 2), eI cA 8 t_now_kinds), ((ad 4), eI cA 8 t_now_pitches), ((ad 13), e_X0 (ad 14) (ad 15) (ad 16)), ((ad 14), eI cA 8 t_shelves_holding), ((ad 15), eI cA 8 t_shelves_sizes), ((ad 16), eJ cA 320 t_shelves_elements), ((ad 19), eI cA 5 t_refusals), ((ad 20), e_X3 (ad 21) t_trial), ((ad 21), eI cA 13 t_trial_heard), ((ad 24), e_X4 (ad 25) t_told), ((ad 25), eI cA 12 t_told_sounds)]) (wn := [((ad 0), e_X5 ad t), ((ad 1), e_X1 (ad 2) (ad 3) (ad 4) t_now), ((ad 2), eI cA 8 t_now_kinds), ((ad 4), eI cA 8 t_now_pitches), ((ad 13), e_X0 (ad 14) (ad 15) (ad 16)), ((ad 14), eI cA 8 t_shelves_holding), ((ad 15), eI cA 8 t_shelves_sizes), ((ad 16), eJ cA 320 t_shelves_elements), ((ad 19), eI cA 5 t_refusals), ((ad 20), e_X3 (ad 21) t_trial), ((ad 21), eI cA 13 t_trial_heard), ((ad 24), e_X4 (ad 25) t_told), ((ad 25), eI cA 12 t_told_sounds)]) (va_runS (As := [.int l6, .int (0 : Int32), .int (1 : Int32)]) (rest := [.int l4, .int l3, .int l2, .int l1, .ref (ad 0)]) ⟨hx, hb, hml, hown, htg⟩ (c_X5_isWithin l D cA _ fu l6 (0 : Int32) (1 : Int32) o15 ho16) (cwS 3 htg (gS q_2_7 q_2_8 q_1_1 q_2_9) rfl rfl rfl hd_X5_isWithin ⟨Nat.le_of_ble_eq_true rfl, Nat.le_of_ble_eq_true rfl⟩) (xpS hN hK hP hD [] rfl (by decide)) rfl rfl hl.1 rfl (lv_room (Nat.le_of_ble_eq_true rfl)) dX5_fits_27 ⟨Nat.zero_le _, Nat.zero_le _⟩) hP hD hS hA [] [0, 1, 2, 3, 4, 5, 6, 7, 8, 9, 10, 11, 12] [0, 1, 2, 3, 4, 5, 6, 7, 8, 9, 10, 11, 12] rfl rfl (by decide) (by decide) rfl (by decide) (fun H locs hP hD hS => ?_)
      refine lv_if_eq (tgt := 37) hx hb dX5_fits_30 (by decide) (fun c17 => ?_) (fun c17 => ?_)
      · have hm := it_t c17 hm
        exact B_37 _ _ _ _ _ _ _ _ _ _ _ _ _ _ _ _ hm hP hD hS (lv_sub hl [0, 3, 4, 5, 6] rfl)
      · have hm := it_f c17 hm
        refine lv_iconst (v := (1 : Int32)) hx hb dX5_fits_33 (by decide) ?_
        refine lv_goto (tgt := 38) hx hb dX5_fits_34 (by decide) ?_
        exact B_38 _ _ _ _ _ _ _ _ _ _ _ _ _ _ _ _ _ hm hP hD hS (lv_sub hl [0, 3, 4, 5, 6] rfl)
def b_X5_below_60 (fu : Nat) (t : Nat → Int32) (t_now : Nat → Int32) (t_now_kinds : Nat → Int32) (t_now_pitches : Nat → Int32) (t_shelves_holding : Nat → Int32) (t_shelves_sizes : Nat → Int32) (t_shelves_elements : Nat → Int64) (s0 : Int32) (t_refusals : Nat → Int32) (t_trial : Nat → Int32) (t_trial_heard : Nat → Int32) (t_told : Nat → Int32) (t_told_sounds : Nat → Int32) : Option (Int32 × ((Nat → Int32) × (Nat → Int32) × (Nat → Int32) × (Nat → Int32) × (Nat → Int32))) :=
  some (s0, (t_refusals, t_trial, t_trial_heard, t_told, t_told_sounds))
def b_X5_below_28 (fu : Nat) (t : Nat → Int32) (t_now : Nat → Int32) (t_now_kinds : Nat → Int32) (t_now_pitches : Nat → Int32) (t_shelves_holding : Nat → Int32) (t_shelves_sizes : Nat → Int32) (t_shelves_elements : Nat → Int64) (l3 : Int32) (l4 : Int32) (l5 : Int32) (s1 : Int32) (s2 : Int32) (s3 : Int32) (s4 : Int32) (s5 : Int32) (t_refusals : Nat → Int32) (t_trial : Nat → Int32) (t_trial_heard : Nat → Int32) (t_told : Nat → Int32) (t_told_sounds : Nat → Int32) : Option (Int32 × ((Nat → Int32) × (Nat → Int32) × (Nat → Int32) × (Nat → Int32) × (Nat → Int32))) :=
  (m_X5_takeWordAndRow fu t t_shelves_holding t_shelves_sizes t_shelves_elements t_refusals t_told t_told_sounds s1 s2 s3 s4 s5).bind fun o1 =>
    (if o1.1 = 0 then
      (m_X5_depthsOfEcho fu t t_now t_now_kinds t_now_pitches t_shelves_sizes t_shelves_elements t_trial t_trial_heard o1.2.2.1 o1.2.2.2 l5 l3 l4).bind fun o4 =>
      (if (lg_cmp o4.1 (0 : Int64)) = 0 then
        b_X5_below_60 fu t t_now t_now_kinds t_now_pitches t_shelves_holding t_shelves_sizes t_shelves_elements (1 : Int32) o1.2.1 o4.2.1 o4.2.2 o1.2.2.1 o1.2.2.2
      else
        b_X5_below_60 fu t t_now t_now_kinds t_now_pitches t_shelves_holding t_shelves_sizes t_shelves_elements (0 : Int32) o1.2.1 o4.2.1 o4.2.2 o1.2.2.1 o1.2.2.2)
    else
      some (o1.1, (o1.2.1, t_trial, t_trial_heard, o1.2.2.1, o1.2.2.2)))
def b_X5_below_27 (fu : Nat) (t : Nat → Int32) (t_now : Nat → Int32) (t_now_kinds : Nat → Int32) (t_now_pitches : Nat → Int32) (t_shelves_holding : Nat → Int32) (t_shelves_sizes : Nat → Int32) (t_shelves_elements : Nat → Int64) (l3 : Int32) (l4 : Int32) (l5 : Int32) (s1 : Int32) (s2 : Int32) (s3 : Int32) (s4 : Int32) (t_refusals : Nat → Int32) (t_trial : Nat → Int32) (t_trial_heard : Nat → Int32) (t_told : Nat → Int32) (t_told_sounds : Nat → Int32) : Option (Int32 × ((Nat → Int32) × (Nat → Int32) × (Nat → Int32) × (Nat → Int32) × (Nat → Int32))) :=
  b_X5_below_28 fu t t_now t_now_kinds t_now_pitches t_shelves_holding t_shelves_sizes t_shelves_elements l3 l4 l5 s1 s2 s3 s4 (0 : Int32) t_refusals t_trial t_trial_heard t_told t_told_sounds
def m_X5_below (fu : Nat) (t : Nat → Int32) (t_now : Nat → Int32) (t_now_kinds : Nat → Int32) (t_now_pitches : Nat → Int32) (t_shelves_holding : Nat → Int32) (t_shelves_sizes : Nat → Int32) (t_shelves_elements : Nat → Int64) (t_refusals : Nat → Int32) (t_trial : Nat → Int32) (t_trial_heard : Nat → Int32) (t_told : Nat → Int32) (t_told_sounds : Nat → Int32) (l1 : Int32) (l2 : Int32) (l3 : Int32) (l4 : Int32) (l5 : Int32) : Option (Int32 × ((Nat → Int32) × (Nat → Int32) × (Nat → Int32) × (Nat → Int32) × (Nat → Int32))) :=
  (m_X5_isVoice fu t t_now l5).bind fun o7 =>
  (if o7.1 = 0 then
    b_X5_below_27 fu t t_now t_now_kinds t_now_pitches t_shelves_holding t_shelves_sizes t_shelves_elements l3 l4 l5 l1 l2 l3 l4 t_refusals t_trial t_trial_heard t_told t_told_sounds
  else
    (m_X5_isEchoSize fu l4).bind fun o10 =>
    (if o10.1 = 0 then
      b_X5_below_27 fu t t_now t_now_kinds t_now_pitches t_shelves_holding t_shelves_sizes t_shelves_elements l3 l4 l5 l1 l2 l3 l4 t_refusals t_trial t_trial_heard t_told t_told_sounds
    else
      b_X5_below_28 fu t t_now t_now_kinds t_now_pitches t_shelves_holding t_shelves_sizes t_shelves_elements l3 l4 l5 l1 l2 l3 l4 (1 : Int32) t_refusals t_trial t_trial_heard t_told t_told_sounds))
abbrev rm_X5_below : Room := ({ frames := 6, cells := 0, slots := 0, locals := 137 } : Room)
abbrev w0_X5_below (cA : Nat → ClassId) (ad : Nat → Nat) (t : Nat → Int32) (t_now : Nat → Int32) (t_now_kinds : Nat → Int32) (t_now_pitches : Nat → Int32) (t_shelves_holding : Nat → Int32) (t_shelves_sizes : Nat → Int32) (t_shelves_elements : Nat → Int64) (t_refusals : Nat → Int32) (t_trial : Nat → Int32) (t_trial_heard : Nat → Int32) (t_told : Nat → Int32) (t_told_sounds : Nat → Int32) : va_W := [((ad 0), e_X5 ad t), ((ad 1), e_X1 (ad 2) (ad 3) (ad 4) t_now), ((ad 2), eI cA 8 t_now_kinds), ((ad 4), eI cA 8 t_now_pitches), ((ad 13), e_X0 (ad 14) (ad 15) (ad 16)), ((ad 14), eI cA 8 t_shelves_holding), ((ad 15), eI cA 8 t_shelves_sizes), ((ad 16), eJ cA 320 t_shelves_elements), ((ad 19), eI cA 5 t_refusals), ((ad 20), e_X3 (ad 21) t_trial), ((ad 21), eI cA 13 t_trial_heard), ((ad 24), e_X4 (ad 25) t_told), ((ad 25), eI cA 12 t_told_sounds)]
abbrev w1_X5_below (cA : Nat → ClassId) (ad : Nat → Nat) (t : Nat → Int32) (t_now : Nat → Int32) (t_now_kinds : Nat → Int32) (t_now_pitches : Nat → Int32) (t_shelves_holding : Nat → Int32) (t_shelves_sizes : Nat → Int32) (t_shelves_elements : Nat → Int64) (u : (Nat → Int32) × (Nat → Int32) × (Nat → Int32) × (Nat → Int32) × (Nat → Int32)) : va_W := [((ad 0), e_X5 ad t), ((ad 1), e_X1 (ad 2) (ad 3) (ad 4) t_now), ((ad 2), eI cA 8 t_now_kinds), ((ad 4), eI cA 8 t_now_pitches), ((ad 13), e_X0 (ad 14) (ad 15) (ad 16)), ((ad 14), eI cA 8 t_shelves_holding), ((ad 15), eI cA 8 t_shelves_sizes), ((ad 16), eJ cA 320 t_shelves_elements), ((ad 19), eI cA 5 u.1), ((ad 20), e_X3 (ad 21) u.2.1), ((ad 21), eI cA 13 u.2.2.1), ((ad 24), e_X4 (ad 25) u.2.2.2.1), ((ad 25), eI cA 12 u.2.2.2.2)]
theorem hd_X5_below : yX5_below.cls = RX5 ∧ yX5_below.cls ≠ "java/lang/invoke/MethodHandle" ∧ yX5_below.cls ≠ "java/lang/invoke/VarHandle" ∧ (parseMethodDescriptor yX5_below.desc).map (fun d => d.parameters.length) = some 5 := by decide +kernel
set_option maxHeartbeats 40000000 in
set_option maxRecDepth 100000 in
theorem c_X5_below (l : Launch) (D : va_G) (cA : Nat → ClassId) (sz : Nat) (fu : Nat) (ad : Nat → Nat) (t : Nat → Int32) (t_now : Nat → Int32) (t_now_kinds : Nat → Int32) (t_now_pitches : Nat → Int32) (t_shelves_holding : Nat → Int32) (t_shelves_sizes : Nat → Int32) (t_shelves_elements : Nat → Int64) (t_refusals : Nat → Int32) (t_trial : Nat → Int32) (t_trial_heard : Nat → Int32) (t_told : Nat → Int32) (t_told_sounds : Nat → Int32) (l1 : Int32) (l2 : Int32) (l3 : Int32) (l4 : Int32) (l5 : Int32) (out : Int32 × ((Nat → Int32) × (Nat → Int32) × (Nat → Int32) × (Nat → Int32) × (Nat → Int32))) (hm : m_X5_below fu t t_now t_now_kinds t_now_pitches t_shelves_holding t_shelves_sizes t_shelves_elements t_refusals t_trial t_trial_heard t_told t_told_sounds l1 l2 l3 l4 l5 = some out) : MI l yX5_below (wU yX5_below cX5_below 7 ((Option.some Jvm.ClassFile.FieldType.int))) rm_X5_below D cA sz [.ref (ad 0), .int l1, .int l2, .int l3, .int l4, .int l5] (w0_X5_below cA ad t t_now t_now_kinds t_now_pitches t_shelves_holding t_shelves_sizes t_shelves_elements t_refusals t_trial t_trial_heard t_told t_told_sounds) out (w1_X5_below cA ad t t_now t_now_kinds t_now_pitches t_shelves_holding t_shelves_sizes t_shelves_elements) := by
  refine Met.ofW (cc := cX5_below) (maxL := 7) (ret := (Option.some Jvm.ClassFile.FieldType.int)) (by decide) rfl ?_
  intro p e s m args below meth c s₁ B hml hv
  obtain ⟨hargs, hsz, hP, hK, hD0, hN⟩ := hv
  have hx := B.exec
  have hb := B.bytes
  have hr := B.returns
  have htg : ∀ w ∈ gw, w.before args s = true := fun w h => atoms_spec (ws := wU yX5_below cX5_below 7 ((Option.some Jvm.ClassFile.FieldType.int))) B.pre w (List.mem_cons_of_mem _ h)
  have hown : s.vm.findClass RX5 = some m.cls := findClass_of_methodNamed B.named
  have hlocks := B.notSynchronized
  subst hsz
  have hD := hD0.self (sz := s.heap.size)
  have hA : ∀ q : Nat, s.heap.size ≤ q → va_A (w0_X5_below cA ad t t_now t_now_kinds t_now_pitches t_shelves_holding t_shelves_sizes t_shelves_elements t_refusals t_trial t_trial_heard t_told t_told_sounds) s.heap.size q := fun q h => Or.inr h
  have hS : va_S (va_A (w0_X5_below cA ad t t_now t_now_kinds t_now_pitches t_shelves_holding t_shelves_sizes t_shelves_elements t_refusals t_trial t_trial_heard t_told t_told_sounds) s.heap.size) s.heap s.heap [] := va_S.rf
  generalize va_A (w0_X5_below cA ad t t_now t_now_kinds t_now_pitches t_shelves_holding t_shelves_sizes t_shelves_elements t_refusals t_trial t_trial_heard t_told t_told_sounds) s.heap.size = A at hA hD hS ⊢
  obtain ⟨Q, hQ⟩ : ∃ Q : State → Prop, Q = MQ below (va_Qi (fun (r : Int32) (u : (Nat → Int32) × (Nat → Int32) × (Nat → Int32) × (Nat → Int32) × (Nat → Int32)) => (r, u) = out) (pst0 D cA A (w1_X5_below cA ad t t_now t_now_kinds t_now_pitches t_shelves_holding t_shelves_sizes t_shelves_elements)) A) args s 0 0 A := ⟨_, rfl⟩
  refine (?_ : W p l e rm_X5_below s m args below meth c s.heap [] 0 0 (MQ below (va_Qi (fun (r : Int32) (u : (Nat → Int32) × (Nat → Int32) × (Nat → Int32) × (Nat → Int32) × (Nat → Int32)) => (r, u) = out) (pst0 D cA A (w1_X5_below cA ad t t_now t_now_kinds t_now_pitches t_shelves_holding t_shelves_sizes t_shelves_elements)) A) args s 0 0 A) (entryFrame m args 7))
  rw [← hQ]
  have hP : va_P D CL [((ad 0), e_X5 ad t), ((ad 1), e_X1 (ad 2) (ad 3) (ad 4) t_now), ((ad 2), eI cA 8 t_now_kinds), ((ad 4), eI cA 8 t_now_pitches), ((ad 13), e_X0 (ad 14) (ad 15) (ad 16)), ((ad 14), eI cA 8 t_shelves_holding), ((ad 15), eI cA 8 t_shelves_sizes), ((ad 16), eJ cA 320 t_shelves_elements), ((ad 19), eI cA 5 t_refusals), ((ad 20), e_X3 (ad 21) t_trial), ((ad 21), eI cA 13 t_trial_heard), ((ad 24), e_X4 (ad 25) t_told), ((ad 25), eI cA 12 t_told_sounds)] s.heap := hP
  have hD : va_D A [((ad 0), e_X5 ad t), ((ad 1), e_X1 (ad 2) (ad 3) (ad 4) t_now), ((ad 2), eI cA 8 t_now_kinds), ((ad 4), eI cA 8 t_now_pitches), ((ad 13), e_X0 (ad 14) (ad 15) (ad 16)), ((ad 14), eI cA 8 t_shelves_holding), ((ad 15), eI cA 8 t_shelves_sizes), ((ad 16), eJ cA 320 t_shelves_elements), ((ad 19), eI cA 5 t_refusals), ((ad 20), e_X3 (ad 21) t_trial), ((ad 21), eI cA 13 t_trial_heard), ((ad 24), e_X4 (ad 25) t_told), ((ad 25), eI cA 12 t_told_sounds)] := hD
  have B_60 : ∀ (s0 : Int32) (t_refusals : Nat → Int32) (t_trial : Nat → Int32) (t_trial_heard : Nat → Int32) (t_told : Nat → Int32) (t_told_sounds : Nat → Int32) (H : Heap) (locs : List Loc) (ls : Array Slot), b_X5_below_60 fu t t_now t_now_kinds t_now_pitches t_shelves_holding t_shelves_sizes t_shelves_elements s0 t_refusals t_trial t_trial_heard t_told t_told_sounds = some out → va_P D CL [((ad 0), e_X5 ad t), ((ad 1), e_X1 (ad 2) (ad 3) (ad 4) t_now), ((ad 2), eI cA 8 t_now_kinds), ((ad 4), eI cA 8 t_now_pitches), ((ad 13), e_X0 (ad 14) (ad 15) (ad 16)), ((ad 14), eI cA 8 t_shelves_holding), ((ad 15), eI cA 8 t_shelves_sizes), ((ad 16), eJ cA 320 t_shelves_elements), ((ad 19), eI cA 5 t_refusals), ((ad 20), e_X3 (ad 21) t_trial), ((ad 21), eI cA 13 t_trial_heard), ((ad 24), e_X4 (ad 25) t_told), ((ad 25), eI cA 12 t_told_sounds)] H → va_D A [((ad 0), e_X5 ad t), ((ad 1), e_X1 (ad 2) (ad 3) (ad 4) t_now), ((ad 2), eI cA 8 t_now_kinds), ((ad 4), eI cA 8 t_now_pitches), ((ad 13), e_X0 (ad 14) (ad 15) (ad 16)), ((ad 14), eI cA 8 t_shelves_holding), ((ad 15), eI cA 8 t_shelves_sizes), ((ad 16), eJ cA 320 t_shelves_elements), ((ad 19), eI cA 5 t_refusals), ((ad 20), e_X3 (ad 21) t_trial), ((ad 21), eI cA 13 t_trial_heard), ((ad 24), e_X4 (ad 25) t_told), ((ad 25), eI cA 12 t_told_sounds)] → va_S A s.heap H locs → lv_has ls 7 [(0, .ref (ad 0))] → W p l e rm_X5_below s m args below meth c H locs 0 0 Q (F0 m 60 ls [.int s0]) := by
    intro  s0 t_refusals t_trial t_trial_heard t_told t_told_sounds H locs ls hm hP hD hS hl
    unfold b_X5_below_60 at hm
    rw [hQ]
    exact W.iret (v := s0) hx hb hr (fun t9 ht hW => ⟨⟨s0, (t_refusals, t_trial, t_trial_heard, t_told, t_told_sounds), rfl, (Option.some.inj hm), by rw [ht]; exact hP, va_K.moved hW.alike hK, hD⟩, hS.F ht⟩) hS.2.2 dX5_below_60
  have B_28 : ∀ (l3 : Int32) (l4 : Int32) (l5 : Int32) (s1 : Int32) (s2 : Int32) (s3 : Int32) (s4 : Int32) (s5 : Int32) (t_refusals : Nat → Int32) (t_trial : Nat → Int32) (t_trial_heard : Nat → Int32) (t_told : Nat → Int32) (t_told_sounds : Nat → Int32) (H : Heap) (locs : List Loc) (ls : Array Slot), b_X5_below_28 fu t t_now t_now_kinds t_now_pitches t_shelves_holding t_shelves_sizes t_shelves_elements l3 l4 l5 s1 s2 s3 s4 s5 t_refusals t_trial t_trial_heard t_told t_told_sounds = some out → va_P D CL [((ad 0), e_X5 ad t), ((ad 1), e_X1 (ad 2) (ad 3) (ad 4) t_now), ((ad 2), eI cA 8 t_now_kinds), ((ad 4), eI cA 8 t_now_pitches), ((ad 13), e_X0 (ad 14) (ad 15) (ad 16)), ((ad 14), eI cA 8 t_shelves_holding), ((ad 15), eI cA 8 t_shelves_sizes), ((ad 16), eJ cA 320 t_shelves_elements), ((ad 19), eI cA 5 t_refusals), ((ad 20), e_X3 (ad 21) t_trial), ((ad 21), eI cA 13 t_trial_heard), ((ad 24), e_X4 (ad 25) t_told), ((ad 25), eI cA 12 t_told_sounds)] H → va_D A [((ad 0), e_X5 ad t), ((ad 1), e_X1 (ad 2) (ad 3) (ad 4) t_now), ((ad 2), eI cA 8 t_now_kinds), ((ad 4), eI cA 8 t_now_pitches), ((ad 13), e_X0 (ad 14) (ad 15) (ad 16)), ((ad 14), eI cA 8 t_shelves_holding), ((ad 15), eI cA 8 t_shelves_sizes), ((ad 16), eJ cA 320 t_shelves_elements), ((ad 19), eI cA 5 t_refusals), ((ad 20), e_X3 (ad 21) t_trial), ((ad 21), eI cA 13 t_trial_heard), ((ad 24), e_X4 (ad 25) t_told), ((ad 25), eI cA 12 t_told_sounds)] → va_S A s.heap H locs → lv_has ls 7 [(0, .ref (ad 0)), (3, .int l3), (4, .int l4), (5, .int l5)] → W p l e rm_X5_below s m args below meth c H locs 0 0 Q (F0 m 28 ls [.int s5, .int s4, .int s3, .int s2, .int s1, .ref (ad 0)]) := by
    intro  l3 l4 l5 s1 s2 s3 s4 s5 t_refusals t_trial t_trial_heard t_told t_told_sounds H locs ls hm hP hD hS hl
    unfold b_X5_below_28 at hm
    obtain ⟨o1, ho2, hm⟩ := bd_s hm
    refine xr_i (wr := [((ad 1), e_X1 (ad 2) (ad 3) (ad 4) t_now), ((ad 2), eI cA 8 t_now_kinds), ((ad 4), eI cA 8 t_now_pitches), ((ad 20), e_X3 (ad 21) t_trial), ((ad 21), eI cA 13 t_trial_heard)]) (wn := [((ad 0), e_X5 ad t), ((ad 1), e_X1 (ad 2) (ad 3) (ad 4) t_now), ((ad 2), eI cA 8 t_now_kinds), ((ad 4), eI cA 8 t_now_pitches), ((ad 13), e_X0 (ad 14) (ad 15) (ad 16)), ((ad 14), eI cA 8 t_shelves_holding), ((ad 15), eI cA 8 t_shelves_sizes), ((ad 16), eJ cA 320 t_shelves_elements), ((ad 19), eI cA 5 o1.2.1), ((ad 20), e_X3 (ad 21) t_trial), ((ad 21), eI cA 13 t_trial_heard), ((ad 24), e_X4 (ad 25) o1.2.2.1), ((ad 25), eI cA 12 o1.2.2.2)]) (va_runV (As := [.int s1, .int s2, .int s3, .int s4, .int s5]) (rest := []) ⟨hx, hb, hml, hown, htg⟩ (c_X5_takeWordAndRow l D cA _ fu ad t t_shelves_holding t_shelves_sizes t_shelves_elements t_refusals t_told t_told_sounds s1 s2 s3 s4 s5 o1 ho2) (cwV 5 htg (gV q_3_130 q_3_132 q_p3_13 q_1_1 q_3_133) rfl rfl rfl hd_X5_takeWordAndRow ⟨Nat.le_of_ble_eq_true rfl, Nat.le_of_ble_eq_true rfl⟩) (xpV hN hK hP hD [0, 4, 5, 6, 7, 8, 11, 12] rfl (by decide) rfl rfl) rfl rfl hl.1 rfl (lv_room (Nat.le_of_ble_eq_true rfl)) dX5_below_28 ⟨Nat.zero_le _, Nat.zero_le _⟩) hP hD hS hA [0, 4, 5, 6, 7, 8, 11, 12] [1, 2, 3, 9, 10] [5, 0, 1, 2, 6, 7, 8, 9, 10, 3, 4, 11, 12] rfl rfl (by decide) (by decide) rfl (by decide) (fun H locs hP hD hS => ?_)
    refine lv_istore (lv' := [(6, .int o1.1), (0, .ref (ad 0)), (3, .int l3), (4, .int l4), (5, .int l5)]) hx hb dX5_below_31 hl (by decide) rfl (fun ls hl => ?_)
    refine lv_iload hx hb dX5_below_33 (lv_at hl 0 rfl) ?_
    refine lv_if_eq (tgt := 41) hx hb dX5_below_35 (by decide) (fun c3 => ?_) (fun c3 => ?_)
    · have hm := it_t c3 hm
      refine lv_aload_n hx hb dX5_below_41 rfl (lv_at hl 1 rfl) ?_
      refine lv_iload hx hb dX5_below_42 (lv_at hl 4 rfl) ?_
      refine lv_iload_n hx hb dX5_below_44 rfl (lv_at hl 2 rfl) ?_
      refine lv_iload hx hb dX5_below_45 (lv_at hl 3 rfl) ?_
      obtain ⟨o4, ho5, hm⟩ := bd_s hm
      refine xr_l (wr := [((ad 14), eI cA 8 t_shelves_holding), ((ad 19), eI cA 5 o1.2.1)]) (wn := [((ad 0), e_X5 ad t), ((ad 1), e_X1 (ad 2) (ad 3) (ad 4) t_now), ((ad 2), eI cA 8 t_now_kinds), ((ad 4), eI cA 8 t_now_pitches), ((ad 13), e_X0 (ad 14) (ad 15) (ad 16)), ((ad 14), eI cA 8 t_shelves_holding), ((ad 15), eI cA 8 t_shelves_sizes), ((ad 16), eJ cA 320 t_shelves_elements), ((ad 19), eI cA 5 o1.2.1), ((ad 20), e_X3 (ad 21) o4.2.1), ((ad 21), eI cA 13 o4.2.2), ((ad 24), e_X4 (ad 25) o1.2.2.1), ((ad 25), eI cA 12 o1.2.2.2)]) (va_runV (As := [.int l5, .int l3, .int l4]) (rest := []) ⟨hx, hb, hml, hown, htg⟩ (c_X5_depthsOfEcho l D cA _ fu ad t t_now t_now_kinds t_now_pitches t_shelves_sizes t_shelves_elements t_trial t_trial_heard o1.2.2.1 o1.2.2.2 l5 l3 l4 o4 ho5) (cwV 3 htg (gV q_4_80 q_4_82 q_p4_12 q_1_1 q_4_83) rfl rfl rfl hd_X5_depthsOfEcho ⟨Nat.le_of_ble_eq_true rfl, Nat.le_of_ble_eq_true rfl⟩) (xpV hN hK hP hD [0, 1, 2, 3, 4, 6, 7, 9, 10, 11, 12] rfl (by decide) rfl rfl) rfl rfl hl.1 rfl (lv_room (Nat.le_of_ble_eq_true rfl)) dX5_below_47 ⟨Nat.zero_le _, Nat.zero_le _⟩) hP hD hS hA [0, 1, 2, 3, 4, 6, 7, 9, 10, 11, 12] [5, 8] [2, 3, 4, 5, 6, 0, 7, 8, 1, 9, 10, 11, 12] rfl rfl (by decide) (by decide) rfl (by decide) (fun H locs hP hD hS => ?_)
      refine lv_lconst (v := (0 : Int64)) hx hb dX5_below_50 (by decide) ?_
      refine W.lcmp hx hb dX5_below_51 ?_
      refine lv_if_ne (tgt := 59) hx hb dX5_below_52 (by decide) (fun c6 => ?_) (fun c6 => ?_)
      · have hm := it_f c6 hm
        refine lv_iconst (v := (0 : Int32)) hx hb dX5_below_59 (by decide) ?_
        exact B_60 _ _ _ _ _ _ _ _ _ hm hP hD hS (lv_sub hl [1] rfl)
      · have hm := it_t c6 hm
        refine lv_iconst (v := (1 : Int32)) hx hb dX5_below_55 (by decide) ?_
        refine lv_goto (tgt := 60) hx hb dX5_below_56 (by decide) ?_
        exact B_60 _ _ _ _ _ _ _ _ _ hm hP hD hS (lv_sub hl [1] rfl)
    · have hm := it_f c3 hm
      refine lv_iload hx hb dX5_below_38 (lv_at hl 0 rfl) ?_
      rw [hQ]
      exact W.iret (v := o1.1) hx hb hr (fun t9 ht hW => ⟨⟨o1.1, (o1.2.1, t_trial, t_trial_heard, o1.2.2.1, o1.2.2.2), rfl, (Option.some.inj hm), by rw [ht]; exact hP, va_K.moved hW.alike hK, hD⟩, hS.F ht⟩) hS.2.2 dX5_below_40
  have B_27 : ∀ (l3 : Int32) (l4 : Int32) (l5 : Int32) (s1 : Int32) (s2 : Int32) (s3 : Int32) (s4 : Int32) (t_refusals : Nat → Int32) (t_trial : Nat → Int32) (t_trial_heard : Nat → Int32) (t_told : Nat → Int32) (t_told_sounds : Nat → Int32) (H : Heap) (locs : List Loc) (ls : Array Slot), b_X5_below_27 fu t t_now t_now_kinds t_now_pitches t_shelves_holding t_shelves_sizes t_shelves_elements l3 l4 l5 s1 s2 s3 s4 t_refusals t_trial t_trial_heard t_told t_told_sounds = some out → va_P D CL [((ad 0), e_X5 ad t), ((ad 1), e_X1 (ad 2) (ad 3) (ad 4) t_now), ((ad 2), eI cA 8 t_now_kinds), ((ad 4), eI cA 8 t_now_pitches), ((ad 13), e_X0 (ad 14) (ad 15) (ad 16)), ((ad 14), eI cA 8 t_shelves_holding), ((ad 15), eI cA 8 t_shelves_sizes), ((ad 16), eJ cA 320 t_shelves_elements), ((ad 19), eI cA 5 t_refusals), ((ad 20), e_X3 (ad 21) t_trial), ((ad 21), eI cA 13 t_trial_heard), ((ad 24), e_X4 (ad 25) t_told), ((ad 25), eI cA 12 t_told_sounds)] H → va_D A [((ad 0), e_X5 ad t), ((ad 1), e_X1 (ad 2) (ad 3) (ad 4) t_now), ((ad 2), eI cA 8 t_now_kinds), ((ad 4), eI cA 8 t_now_pitches), ((ad 13), e_X0 (ad 14) (ad 15) (ad 16)), ((ad 14), eI cA 8 t_shelves_holding), ((ad 15), eI cA 8 t_shelves_sizes), ((ad 16), eJ cA 320 t_shelves_elements), ((ad 19), eI cA 5 t_refusals), ((ad 20), e_X3 (ad 21) t_trial), ((ad 21), eI cA 13 t_trial_heard), ((ad 24), e_X4 (ad 25) t_told), ((ad 25), eI cA 12 t_told_sounds)] → va_S A s.heap H locs → lv_has ls 7 [(0, .ref (ad 0)), (3, .int l3), (4, .int l4), (5, .int l5)] → W p l e rm_X5_below s m args below meth c H locs 0 0 Q (F0 m 27 ls [.int s4, .int s3, .int s2, .int s1, .ref (ad 0)]) := by
    intro  l3 l4 l5 s1 s2 s3 s4 t_refusals t_trial t_trial_heard t_told t_told_sounds H locs ls hm hP hD hS hl
    unfold b_X5_below_27 at hm
    refine lv_iconst (v := (0 : Int32)) hx hb dX5_below_27 (by decide) ?_
    exact B_28 _ _ _ _ _ _ _ _ _ _ _ _ _ _ _ _ hm hP hD hS (lv_sub hl [0, 1, 2, 3] rfl)
  unfold m_X5_below at hm
  subst hargs
  have hl := lv_entry ([.ref (ad 0), .int l1, .int l2, .int l3, .int l4, .int l5]) (n := 7) (Nat.le_of_ble_eq_true rfl)
  rw [lg_entry_eq]
  generalize (lg_sl ([.ref (ad 0), .int l1, .int l2, .int l3, .int l4, .int l5]) ++ List.replicate (7 - (lg_sl ([.ref (ad 0), .int l1, .int l2, .int l3, .int l4, .int l5])).length) Slot.unset).toArray = ls at hl ⊢
  have hl : lv_has ls 7 [(0, .ref (ad 0)), (1, .int l1), (2, .int l2), (3, .int l3), (4, .int l4), (5, .int l5)] := hl
  refine lv_aload_n hx hb dX5_below_0 rfl (lv_at hl 0 rfl) ?_
  refine lv_iload_n hx hb dX5_below_1 rfl (lv_at hl 1 rfl) ?_
  refine lv_iload_n hx hb dX5_below_2 rfl (lv_at hl 2 rfl) ?_
  refine lv_iload_n hx hb dX5_below_3 rfl (lv_at hl 3 rfl) ?_
  refine lv_iload hx hb dX5_below_4 (lv_at hl 4 rfl) ?_
  refine lv_aload_n hx hb dX5_below_6 rfl (lv_at hl 0 rfl) ?_
  refine lv_iload hx hb dX5_below_7 (lv_at hl 5 rfl) ?_
  obtain ⟨o7, ho8, hm⟩ := bd_s hm
  refine xr_i (wr := [((ad 2), eI cA 8 t_now_kinds), ((ad 4), eI cA 8 t_now_pitches), ((ad 13), e_X0 (ad 14) (ad 15) (ad 16)), ((ad 14), eI cA 8 t_shelves_holding), ((ad 15), eI cA 8 t_shelves_sizes), ((ad 16), eJ cA 320 t_shelves_elements), ((ad 19), eI cA 5 t_refusals), ((ad 20), e_X3 (ad 21) t_trial), ((ad 21), eI cA 13 t_trial_heard), ((ad 24), e_X4 (ad 25) t_told), ((ad 25), eI cA 12 t_told_sounds)]) (wn := [((ad 0), e_X5 ad t), ((ad 1), e_X1 (ad 2) (ad 3) (ad 4) t_now), ((ad 2), eI cA 8 t_now_kinds), ((ad 4), eI cA 8 t_now_pitches), ((ad 13), e_X0 (ad 14) (ad 15) (ad 16)), ((ad 14), eI cA 8 t_shelves_holding), ((ad 15), eI cA 8 t_shelves_sizes), ((ad 16), eJ cA 320 t_shelves_elements), ((ad 19), eI cA 5 t_refusals), ((ad 20), e_X3 (ad 21) t_trial), ((ad 21), eI cA 13 t_trial_heard), ((ad 24), e_X4 (ad 25) t_told), ((ad 25), eI cA 12 t_told_sounds)]) (va_runV (As := [.int l5]) (rest := [.int l4, .int l3, .int l2, .int l1, .ref (ad 0)]) ⟨hx, hb, hml, hown, htg⟩ (c_X5_isVoice l D cA _ fu ad t t_now l5 o7 ho8) (cwV 1 htg (gV q_2_87 q_2_89 q_p1_10 q_1_1 q_2_90) rfl rfl rfl hd_X5_isVoice ⟨Nat.le_of_ble_eq_true rfl, Nat.le_of_ble_eq_true rfl⟩) (xpV hN hK hP hD [0, 1] rfl (by decide) rfl rfl) rfl rfl hl.1 rfl (lv_room (Nat.le_of_ble_eq_true rfl)) dX5_below_9 ⟨Nat.zero_le _, Nat.zero_le _⟩) hP hD hS hA [0, 1] [2, 3, 4, 5, 6, 7, 8, 9, 10, 11, 12] [11, 12, 0, 1, 2, 3, 4, 5, 6, 7, 8, 9, 10] rfl rfl (by decide) (by decide) rfl (by decide) (fun H locs hP hD hS => ?_)
  refine lv_if_eq (tgt := 27) hx hb dX5_below_12 (by decide) (fun c9 => ?_) (fun c9 => ?_)
  · have hm := it_t c9 hm
    exact B_27 _ _ _ _ _ _ _ _ _ _ _ _ _ _ _ hm hP hD hS (lv_sub hl [0, 3, 4, 5] rfl)
  · have hm := it_f c9 hm
    refine lv_iload hx hb dX5_below_15 (lv_at hl 4 rfl) ?_
    obtain ⟨o10, ho11, hm⟩ := bd_s hm
    refine xr_i (wr := [((ad 0), e_X5 ad t), ((ad 1), e_X1 (ad 2) (ad 3) (ad 4) t_now), ((ad 2), eI cA 8 t_now_kinds), ((ad 4), eI cA 8 t_now_pitches), ((ad 13), e_X0 (ad 14) (ad 15) (ad 16)), ((ad 14), eI cA 8 t_shelves_holding), ((ad 15), eI cA 8 t_shelves_sizes), ((ad 16), eJ cA 320 t_shelves_elements), ((ad 19), eI cA 5 t_refusals), ((ad 20), e_X3 (ad 21) t_trial), ((ad 21), eI cA 13 t_trial_heard), ((ad 24), e_X4 (ad 25) t_told), ((ad 25), eI cA 12 t_told_sounds)]) (wn := [((ad 0), e_X5 ad t), ((ad 1), e_X1 (ad 2) (ad 3) (ad 4) t_now), ((ad 2), eI cA 8 t_now_kinds), ((ad 4), eI cA 8 t_now_pitches), ((ad 13), e_X0 (ad 14) (ad 15) (ad 16)), ((ad 14), eI cA 8 t_shelves_holding), ((ad 15), eI cA 8 t_shelves_sizes), ((ad 16), eJ cA 320 t_shelves_elements), ((ad 19), eI cA 5 t_refusals), ((ad 20), e_X3 (ad 21) t_trial), ((ad 21), eI cA 13 t_trial_heard), ((ad 24), e_X4 (ad 25) t_told), ((ad 25), eI cA 12 t_told_sounds)]) (va_runS (As := [.int l4]) (rest := [.int l4, .int l3, .int l2, .int l1, .ref (ad 0)]) ⟨hx, hb, hml, hown, htg⟩ (c_X5_isEchoSize l D cA _ fu l4 o10 ho11) (cwS 1 htg (gS q_4_77 q_4_78 q_1_1 q_4_79) rfl rfl rfl hd_X5_isEchoSize ⟨Nat.le_of_ble_eq_true rfl, Nat.le_of_ble_eq_true rfl⟩) (xpS hN hK hP hD [] rfl (by decide)) rfl rfl hl.1 rfl (lv_room (Nat.le_of_ble_eq_true rfl)) dX5_below_17 ⟨Nat.zero_le _, Nat.zero_le _⟩) hP hD hS hA [] [0, 1, 2, 3, 4, 5, 6, 7, 8, 9, 10, 11, 12] [0, 1, 2, 3, 4, 5, 6, 7, 8, 9, 10, 11, 12] rfl rfl (by decide) (by decide) rfl (by decide) (fun H locs hP hD hS => ?_)
    refine lv_if_eq (tgt := 27) hx hb dX5_below_20 (by decide) (fun c12 => ?_) (fun c12 => ?_)
    · have hm := it_t c12 hm
      exact B_27 _ _ _ _ _ _ _ _ _ _ _ _ _ _ _ hm hP hD hS (lv_sub hl [0, 3, 4, 5] rfl)
    · have hm := it_f c12 hm
      refine lv_iconst (v := (1 : Int32)) hx hb dX5_below_23 (by decide) ?_
      refine lv_goto (tgt := 28) hx hb dX5_below_24 (by decide) ?_
      exact B_28 _ _ _ _ _ _ _ _ _ _ _ _ _ _ _ _ hm hP hD hS (lv_sub hl [0, 3, 4, 5] rfl)
def b_X5_mostLeftBehind_100 (fu : Nat) (t : Nat → Int32) (k_14 : (Int32 × Int64 × Int32 × Int32 × (Nat → Int32) × (Nat → Int32)) → Option (Int32 × ((Nat → Int32) × (Nat → Int32)))) (l1 : Int32) (l2 : Int64) (l4 : Int32) (l5 : Int32) (t_trial : Nat → Int32) (t_parts : Nat → Int32) : Option (Int32 × ((Nat → Int32) × (Nat → Int32))) :=
  k_14 (l1, l2, l4, (l5 + (1 : Int32)), t_trial, t_parts)
def b_X5_mostLeftBehind_62 (fu : Nat) (t : Nat → Int32) (k_14 : (Int32 × Int64 × Int32 × Int32 × (Nat → Int32) × (Nat → Int32)) → Option (Int32 × ((Nat → Int32) × (Nat → Int32)))) (l1 : Int32) (l2 : Int64) (l4 : Int32) (l5 : Int32) (s0 : Int32) (t_trial : Nat → Int32) (t_parts : Nat → Int32) : Option (Int32 × ((Nat → Int32) × (Nat → Int32))) :=
  (m_X5_isWithin fu s0 (0 : Int32) (40 : Int32)).bind fun o1 =>
    (if o1.1 = 0 then
      b_X5_mostLeftBehind_100 fu t k_14 l1 l2 l4 l5 t_trial t_parts
    else
      gd (inb s0 41) (
      gd (inb s0 41) (
      gd (inb s0 41) (
      (some (if l4 < ((upd t_parts s0.toNatClampNeg ((t_parts s0.toNatClampNeg) + (1 : Int32))) s0.toNatClampNeg) then ((upd t_parts s0.toNatClampNeg ((t_parts s0.toNatClampNeg) + (1 : Int32))) s0.toNatClampNeg) else l4)).bind fun v7 =>
      b_X5_mostLeftBehind_100 fu t k_14 l1 l2 v7 l5 t_trial (upd t_parts s0.toNatClampNeg ((t_parts s0.toNatClampNeg) + (1 : Int32)))))))
def b_X5_mostLeftBehind_14 (fu : Nat) (t : Nat → Int32) (k_14 : (Int32 × Int64 × Int32 × Int32 × (Nat → Int32) × (Nat → Int32)) → Option (Int32 × ((Nat → Int32) × (Nat → Int32)))) (x : Int32 × Int64 × Int32 × Int32 × (Nat → Int32) × (Nat → Int32)) : Option (Int32 × ((Nat → Int32) × (Nat → Int32))) :=
  (if (40 : Int32) < x.2.2.2.1 then
        some (x.2.2.1, (x.2.2.2.2.1, x.2.2.2.2.2))
      else
        (m_X5_isIn fu x.2.1 x.2.2.2.1).bind fun o10 =>
        (if o10.1 = 0 then
          b_X5_mostLeftBehind_100 fu t k_14 x.1 x.2.1 x.2.2.1 x.2.2.2.1 x.2.2.2.2.1 x.2.2.2.2.2
        else
          (m_X3_returnOf fu (upd x.2.2.2.2.1 2 x.2.2.2.1) x.1).bind fun o13 =>
          (if o13.1 = (-1 : Int32) then
            b_X5_mostLeftBehind_62 fu t k_14 x.1 x.2.1 x.2.2.1 x.2.2.2.1 (40 : Int32) (upd x.2.2.2.2.1 2 x.2.2.2.1) x.2.2.2.2.2
          else
            b_X5_mostLeftBehind_62 fu t k_14 x.1 x.2.1 x.2.2.1 x.2.2.2.1 o13.1 (upd x.2.2.2.2.1 2 x.2.2.2.1) x.2.2.2.2.2)))
def m_X5_mostLeftBehind (fu : Nat) (t : Nat → Int32) (t_trial : Nat → Int32) (t_parts : Nat → Int32) (l1 : Int32) (l2 : Int64) : Option (Int32 × ((Nat → Int32) × (Nat → Int32))) :=
  (m_J7_fill_53178 fu 41 t_parts (0 : Int32)).bind fun o16 =>
  lfix (b_X5_mostLeftBehind_14 fu t) fu (l1, l2, (0 : Int32), (0 : Int32), t_trial, o16)
abbrev rm_X5_mostLeftBehind : Room := ({ frames := 2, cells := 0, slots := 0, locals := 44 } : Room)
abbrev w0_X5_mostLeftBehind (cA : Nat → ClassId) (ad : Nat → Nat) (t : Nat → Int32) (t_trial : Nat → Int32) (t_parts : Nat → Int32) : va_W := [((ad 0), e_X5 ad t), ((ad 20), e_X3 (ad 21) t_trial), ((ad 33), eI cA 41 t_parts)]
abbrev w1_X5_mostLeftBehind (cA : Nat → ClassId) (ad : Nat → Nat) (t : Nat → Int32) (u : (Nat → Int32) × (Nat → Int32)) : va_W := [((ad 0), e_X5 ad t), ((ad 20), e_X3 (ad 21) u.1), ((ad 33), eI cA 41 u.2)]
theorem hd_X5_mostLeftBehind : yX5_mostLeftBehind.cls = RX5 ∧ yX5_mostLeftBehind.cls ≠ "java/lang/invoke/MethodHandle" ∧ yX5_mostLeftBehind.cls ≠ "java/lang/invoke/VarHandle" ∧ (parseMethodDescriptor yX5_mostLeftBehind.desc).map (fun d => d.parameters.length) = some 2 := by decide +kernel
set_option maxHeartbeats 40000000 in
set_option maxRecDepth 100000 in
theorem c_X5_mostLeftBehind (l : Launch) (D : va_G) (cA : Nat → ClassId) (sz : Nat) (fu : Nat) (ad : Nat → Nat) (t : Nat → Int32) (t_trial : Nat → Int32) (t_parts : Nat → Int32) (l1 : Int32) (l2 : Int64) (out : Int32 × ((Nat → Int32) × (Nat → Int32))) (hm : m_X5_mostLeftBehind fu t t_trial t_parts l1 l2 = some out) : MI l yX5_mostLeftBehind (wU yX5_mostLeftBehind cX5_mostLeftBehind 8 ((Option.some Jvm.ClassFile.FieldType.int))) rm_X5_mostLeftBehind D cA sz [.ref (ad 0), .int l1, .long l2] (w0_X5_mostLeftBehind cA ad t t_trial t_parts) out (w1_X5_mostLeftBehind cA ad t) := by
  refine Met.ofW (cc := cX5_mostLeftBehind) (maxL := 8) (ret := (Option.some Jvm.ClassFile.FieldType.int)) (by decide) rfl ?_
  intro p e s m args below meth c s₁ B hml hv
  obtain ⟨hargs, hsz, hP, hK, hD0, hN⟩ := hv
  have hx := B.exec
  have hb := B.bytes
  have hr := B.returns
  have htg : ∀ w ∈ gw, w.before args s = true := fun w h => atoms_spec (ws := wU yX5_mostLeftBehind cX5_mostLeftBehind 8 ((Option.some Jvm.ClassFile.FieldType.int))) B.pre w (List.mem_cons_of_mem _ h)
  have hown : s.vm.findClass RX5 = some m.cls := findClass_of_methodNamed B.named
  have hlocks := B.notSynchronized
  subst hsz
  have hD := hD0.self (sz := s.heap.size)
  have hA : ∀ q : Nat, s.heap.size ≤ q → va_A (w0_X5_mostLeftBehind cA ad t t_trial t_parts) s.heap.size q := fun q h => Or.inr h
  have hS : va_S (va_A (w0_X5_mostLeftBehind cA ad t t_trial t_parts) s.heap.size) s.heap s.heap [] := va_S.rf
  generalize va_A (w0_X5_mostLeftBehind cA ad t t_trial t_parts) s.heap.size = A at hA hD hS ⊢
  obtain ⟨Q, hQ⟩ : ∃ Q : State → Prop, Q = MQ below (va_Qi (fun (r : Int32) (u : (Nat → Int32) × (Nat → Int32)) => (r, u) = out) (pst0 D cA A (w1_X5_mostLeftBehind cA ad t)) A) args s 0 0 A := ⟨_, rfl⟩
  refine (?_ : W p l e rm_X5_mostLeftBehind s m args below meth c s.heap [] 0 0 (MQ below (va_Qi (fun (r : Int32) (u : (Nat → Int32) × (Nat → Int32)) => (r, u) = out) (pst0 D cA A (w1_X5_mostLeftBehind cA ad t)) A) args s 0 0 A) (entryFrame m args 8))
  rw [← hQ]
  have hP : va_P D CL [((ad 0), e_X5 ad t), ((ad 20), e_X3 (ad 21) t_trial), ((ad 33), eI cA 41 t_parts)] s.heap := hP
  have hD : va_D A [((ad 0), e_X5 ad t), ((ad 20), e_X3 (ad 21) t_trial), ((ad 33), eI cA 41 t_parts)] := hD
  have B_100 : ∀ (k_14 : (Int32 × Int64 × Int32 × Int32 × (Nat → Int32) × (Nat → Int32)) → Option (Int32 × ((Nat → Int32) × (Nat → Int32)))) (HK_14 : ∀ (x : Int32 × Int64 × Int32 × Int32 × (Nat → Int32) × (Nat → Int32)) (H : Heap) (locs : List Loc) (ls : Array Slot), k_14 x = some out → va_P D CL [((ad 0), e_X5 ad t), ((ad 20), e_X3 (ad 21) x.2.2.2.2.1), ((ad 33), eI cA 41 x.2.2.2.2.2)] H → va_D A [((ad 0), e_X5 ad t), ((ad 20), e_X3 (ad 21) x.2.2.2.2.1), ((ad 33), eI cA 41 x.2.2.2.2.2)] → va_S A s.heap H locs → lv_has ls 8 [(0, .ref (ad 0)), (1, .int x.1), (2, .long x.2.1), (4, .int x.2.2.1), (5, .int x.2.2.2.1)] → W p l e rm_X5_mostLeftBehind s m args below meth c H locs 0 0 Q (F0 m 14 ls [])) (l1 : Int32) (l2 : Int64) (l4 : Int32) (l5 : Int32) (t_trial : Nat → Int32) (t_parts : Nat → Int32) (H : Heap) (locs : List Loc) (ls : Array Slot), b_X5_mostLeftBehind_100 fu t k_14 l1 l2 l4 l5 t_trial t_parts = some out → va_P D CL [((ad 0), e_X5 ad t), ((ad 20), e_X3 (ad 21) t_trial), ((ad 33), eI cA 41 t_parts)] H → va_D A [((ad 0), e_X5 ad t), ((ad 20), e_X3 (ad 21) t_trial), ((ad 33), eI cA 41 t_parts)] → va_S A s.heap H locs → lv_has ls 8 [(0, .ref (ad 0)), (1, .int l1), (2, .long l2), (4, .int l4), (5, .int l5)] → W p l e rm_X5_mostLeftBehind s m args below meth c H locs 0 0 Q (F0 m 100 ls []) := by
    intro k_14 HK_14 l1 l2 l4 l5 t_trial t_parts H locs ls hm hP hD hS hl
    unfold b_X5_mostLeftBehind_100 at hm
    refine lv_iinc (v := (l5 + (1 : Int32))) (lv' := [(5, .int (l5 + (1 : Int32))), (0, .ref (ad 0)), (1, .int l1), (2, .long l2), (4, .int l4)]) hx hb dX5_mostLeftBehind_100 hl (k := 4) rfl rfl (by decide) rfl (fun ls hl => ?_)
    refine lv_goto (tgt := 14) hx hb dX5_mostLeftBehind_103 (by decide) ?_
    exact HK_14 _ _ _ _ hm hP hD hS (lv_sub hl [1, 2, 3, 4, 0] rfl)
  have B_62 : ∀ (k_14 : (Int32 × Int64 × Int32 × Int32 × (Nat → Int32) × (Nat → Int32)) → Option (Int32 × ((Nat → Int32) × (Nat → Int32)))) (HK_14 : ∀ (x : Int32 × Int64 × Int32 × Int32 × (Nat → Int32) × (Nat → Int32)) (H : Heap) (locs : List Loc) (ls : Array Slot), k_14 x = some out → va_P D CL [((ad 0), e_X5 ad t), ((ad 20), e_X3 (ad 21) x.2.2.2.2.1), ((ad 33), eI cA 41 x.2.2.2.2.2)] H → va_D A [((ad 0), e_X5 ad t), ((ad 20), e_X3 (ad 21) x.2.2.2.2.1), ((ad 33), eI cA 41 x.2.2.2.2.2)] → va_S A s.heap H locs → lv_has ls 8 [(0, .ref (ad 0)), (1, .int x.1), (2, .long x.2.1), (4, .int x.2.2.1), (5, .int x.2.2.2.1)] → W p l e rm_X5_mostLeftBehind s m args below meth c H locs 0 0 Q (F0 m 14 ls [])) (l1 : Int32) (l2 : Int64) (l4 : Int32) (l5 : Int32) (s0 : Int32) (t_trial : Nat → Int32) (t_parts : Nat → Int32) (H : Heap) (locs : List Loc) (ls : Array Slot), b_X5_mostLeftBehind_62 fu t k_14 l1 l2 l4 l5 s0 t_trial t_parts = some out → va_P D CL [((ad 0), e_X5 ad t), ((ad 20), e_X3 (ad 21) t_trial), ((ad 33), eI cA 41 t_parts)] H → va_D A [((ad 0), e_X5 ad t), ((ad 20), e_X3 (ad 21) t_trial), ((ad 33), eI cA 41 t_parts)] → va_S A s.heap H locs → lv_has ls 8 [(0, .ref (ad 0)), (1, .int l1), (2, .long l2), (4, .int l4), (5, .int l5)] → W p l e rm_X5_mostLeftBehind s m args below meth c H locs 0 0 Q (F0 m 62 ls [.int s0]) := by
    intro k_14 HK_14 l1 l2 l4 l5 s0 t_trial t_parts H locs ls hm hP hD hS hl
    unfold b_X5_mostLeftBehind_62 at hm
    refine lv_istore (lv' := [(7, .int s0), (0, .ref (ad 0)), (1, .int l1), (2, .long l2), (4, .int l4), (5, .int l5)]) hx hb dX5_mostLeftBehind_62 hl (by decide) rfl (fun ls hl => ?_)
    refine lv_iload hx hb dX5_mostLeftBehind_64 (lv_at hl 0 rfl) ?_
    refine lv_iconst (v := (0 : Int32)) hx hb dX5_mostLeftBehind_66 (by decide) ?_
    refine lv_bipush (v := (40 : Int32)) hx hb dX5_mostLeftBehind_67 (by decide) ?_
    obtain ⟨o1, ho2, hm⟩ := bd_s hm
    refine xr_i (wr := [((ad 0), e_X5 ad t), ((ad 20), e_X3 (ad 21) t_trial), ((ad 33), eI cA 41 t_parts)]) (wn := [((ad 0), e_X5 ad t), ((ad 20), e_X3 (ad 21) t_trial), ((ad 33), eI cA 41 t_parts)]) (va_runS (As := [.int s0, .int (0 : Int32), .int (40 : Int32)]) (rest := []) ⟨hx, hb, hml, hown, htg⟩ (c_X5_isWithin l D cA _ fu s0 (0 : Int32) (40 : Int32) o1 ho2) (cwS 3 htg (gS q_2_7 q_2_8 q_1_1 q_2_9) rfl rfl rfl hd_X5_isWithin ⟨Nat.le_of_ble_eq_true rfl, Nat.le_of_ble_eq_true rfl⟩) (xpS hN hK hP hD [] rfl (by decide)) rfl rfl hl.1 rfl (lv_room (Nat.le_of_ble_eq_true rfl)) dX5_mostLeftBehind_69 ⟨Nat.zero_le _, Nat.zero_le _⟩) hP hD hS hA [] [0, 1, 2] [0, 1, 2] rfl rfl (by decide) (by decide) rfl (by decide) (fun H locs hP hD hS => ?_)
    refine lv_if_eq (tgt := 100) hx hb dX5_mostLeftBehind_72 (by decide) (fun c3 => ?_) (fun c3 => ?_)
    · have hm := it_t c3 hm
      exact B_100 _ HK_14 _ _ _ _ _ _ _ _ _ hm hP hD hS (lv_sub hl [1, 2, 3, 4, 5] rfl)
    · have hm := it_f c3 hm
      refine lv_aload_n hx hb dX5_mostLeftBehind_75 rfl (lv_at hl 1 rfl) ?_
      refine va_get (D := D) (ci := 5) (v := .ref (ad 33)) (C := RX5) (T := TX5) (N := 17) hx hb htg inX5 hown hK hP 0 rfl rfl 16 (by decide) (htg _ q_1_204) (fun _ h9 => h9) rfl dX5_mostLeftBehind_76 ?_
      refine lv_iload hx hb dX5_mostLeftBehind_79 (lv_at hl 0 rfl) ?_
      refine lv_dup2_11 hx hb dX5_mostLeftBehind_81 rfl rfl ?_
      obtain ⟨hi4, hm⟩ := gd_s hm
      refine va_iald hx hb hK hP 2 0 rfl rfl hi4 dX5_mostLeftBehind_82 ?_
      refine lv_iconst (v := (1 : Int32)) hx hb dX5_mostLeftBehind_83 (by decide) ?_
      refine lv_iadd hx hb dX5_mostLeftBehind_84 ?_
      obtain ⟨hi5, hm⟩ := gd_s hm
      refine va_iast hx hb hK hP hD hS 2 0 rfl rfl hi5 dX5_mostLeftBehind_85 (fun H locs (hP : va_P D CL [((ad 0), e_X5 ad t), ((ad 20), e_X3 (ad 21) t_trial), ((ad 33), eI cA 41 (upd t_parts s0.toNatClampNeg ((t_parts s0.toNatClampNeg) + (1 : Int32))))] H) (hD : va_D A [((ad 0), e_X5 ad t), ((ad 20), e_X3 (ad 21) t_trial), ((ad 33), eI cA 41 (upd t_parts s0.toNatClampNeg ((t_parts s0.toNatClampNeg) + (1 : Int32))))]) hS => ?_)
      refine lv_iload hx hb dX5_mostLeftBehind_86 (lv_at hl 4 rfl) ?_
      refine lv_aload_n hx hb dX5_mostLeftBehind_88 rfl (lv_at hl 1 rfl) ?_
      refine va_get (D := D) (ci := 5) (v := .ref (ad 33)) (C := RX5) (T := TX5) (N := 17) hx hb htg inX5 hown hK hP 0 rfl rfl 16 (by decide) (htg _ q_1_204) (fun _ h9 => h9) rfl dX5_mostLeftBehind_89 ?_
      refine lv_iload hx hb dX5_mostLeftBehind_92 (lv_at hl 0 rfl) ?_
      obtain ⟨hi6, hm⟩ := gd_s hm
      refine va_iald hx hb hK hP 2 0 rfl rfl hi6 dX5_mostLeftBehind_94 ?_
      refine va_mmax hx hb (hml.trans hl.1.symm) hown (htg _ q_3_158) (htg _ q_3_159) (htg _ q_1_14) (htg _ q_3_160) (Nat.le_of_ble_eq_true rfl) (Nat.le_of_ble_eq_true rfl) (Nat.zero_le _) (Nat.zero_le _) dX5_mostLeftBehind_95 ?_
      obtain ⟨v7, hv8, hm⟩ := bd_s hm
      rw [Option.some.inj hv8]
      refine lv_istore (lv' := [(4, .int v7), (7, .int s0), (0, .ref (ad 0)), (1, .int l1), (2, .long l2), (5, .int l5)]) hx hb dX5_mostLeftBehind_98 hl (by decide) rfl (fun ls hl => ?_)
      exact B_100 _ HK_14 _ _ _ _ _ _ _ _ _ hm hP hD hS (lv_sub hl [2, 3, 4, 0, 5] rfl)
  have B_14 : ∀ (n : Nat) (x : Int32 × Int64 × Int32 × Int32 × (Nat → Int32) × (Nat → Int32)) (H : Heap) (locs : List Loc) (ls : Array Slot), lfix (b_X5_mostLeftBehind_14 fu t) n x = some out → va_P D CL [((ad 0), e_X5 ad t), ((ad 20), e_X3 (ad 21) x.2.2.2.2.1), ((ad 33), eI cA 41 x.2.2.2.2.2)] H → va_D A [((ad 0), e_X5 ad t), ((ad 20), e_X3 (ad 21) x.2.2.2.2.1), ((ad 33), eI cA 41 x.2.2.2.2.2)] → va_S A s.heap H locs → lv_has ls 8 [(0, .ref (ad 0)), (1, .int x.1), (2, .long x.2.1), (4, .int x.2.2.1), (5, .int x.2.2.2.1)] → W p l e rm_X5_mostLeftBehind s m args below meth c H locs 0 0 Q (F0 m 14 ls []) := by
    intro  n
    induction n with
    | zero => intro x H locs ls hm; cases (show none = some out from hm)
    | succ n HK_14 =>
      intro x H locs ls hm hP hD hS hl
      replace hm : b_X5_mostLeftBehind_14 fu t (lfix (b_X5_mostLeftBehind_14 fu t) n) x = some out := hm
      unfold b_X5_mostLeftBehind_14 at hm
      refine lv_iload hx hb dX5_mostLeftBehind_14 (lv_at hl 4 rfl) ?_
      refine lv_bipush (v := (40 : Int32)) hx hb dX5_mostLeftBehind_16 (by decide) ?_
      refine lv_icmp_gt (tgt := 106) hx hb dX5_mostLeftBehind_18 (by decide) (fun c9 => ?_) (fun c9 => ?_)
      · have hm := it_t c9 hm
        refine lv_iload hx hb dX5_mostLeftBehind_106 (lv_at hl 3 rfl) ?_
        rw [hQ]
        exact W.iret (v := x.2.2.1) hx hb hr (fun t9 ht hW => ⟨⟨x.2.2.1, (x.2.2.2.2.1, x.2.2.2.2.2), rfl, (Option.some.inj hm), by rw [ht]; exact hP, va_K.moved hW.alike hK, hD⟩, hS.F ht⟩) hS.2.2 dX5_mostLeftBehind_108
      · have hm := it_f c9 hm
        refine lv_lload_n hx hb dX5_mostLeftBehind_21 rfl (lv_at hl 2 rfl) ?_
        refine lv_iload hx hb dX5_mostLeftBehind_22 (lv_at hl 4 rfl) ?_
        obtain ⟨o10, ho11, hm⟩ := bd_s hm
        refine xr_i (wr := [((ad 0), e_X5 ad t), ((ad 20), e_X3 (ad 21) x.2.2.2.2.1), ((ad 33), eI cA 41 x.2.2.2.2.2)]) (wn := [((ad 0), e_X5 ad t), ((ad 20), e_X3 (ad 21) x.2.2.2.2.1), ((ad 33), eI cA 41 x.2.2.2.2.2)]) (va_runS (As := [.long x.2.1, .int x.2.2.2.1]) (rest := []) ⟨hx, hb, hml, hown, htg⟩ (c_X5_isIn l D cA _ fu x.2.1 x.2.2.2.1 o10 ho11) (cwS 2 htg (gS q_3_185 q_3_186 q_1_1 q_3_187) rfl rfl rfl hd_X5_isIn ⟨Nat.le_of_ble_eq_true rfl, Nat.le_of_ble_eq_true rfl⟩) (xpS hN hK hP hD [] rfl (by decide)) rfl rfl hl.1 rfl (lv_room (Nat.le_of_ble_eq_true rfl)) dX5_mostLeftBehind_24 ⟨Nat.zero_le _, Nat.zero_le _⟩) hP hD hS hA [] [0, 1, 2] [0, 1, 2] rfl rfl (by decide) (by decide) rfl (by decide) (fun H locs hP hD hS => ?_)
        refine lv_if_eq (tgt := 100) hx hb dX5_mostLeftBehind_27 (by decide) (fun c12 => ?_) (fun c12 => ?_)
        · have hm := it_t c12 hm
          exact B_100 _ HK_14 _ _ _ _ _ _ _ _ _ hm hP hD hS (lv_sub hl [0, 1, 2, 3, 4] rfl)
        · have hm := it_f c12 hm
          refine lv_aload_n hx hb dX5_mostLeftBehind_30 rfl (lv_at hl 0 rfl) ?_
          refine va_get (D := D) (ci := 5) (v := .ref (ad 20)) (C := RX5) (T := TX5) (N := 17) hx hb htg inX5 hown hK hP 0 rfl rfl 7 (by decide) (htg _ q_1_195) (fun _ h9 => h9) rfl dX5_mostLeftBehind_31 ?_
          refine lv_iload hx hb dX5_mostLeftBehind_34 (lv_at hl 4 rfl) ?_
          refine va_putN (D := D) (ci := 3) (v := .int x.2.2.2.1) (ty := .int) (C := RX3) (T := TX3) (N := 9) hx hb htg inX3 tyX3 tyX3_ok nmX3 hown hK hP hD hS 1 rfl rfl 2 (by decide) (va_Nw.use rfl (hN _ q_1_144)) (fun _ h9 => h9) rfl (by decide +kernel) rfl rfl (Nat.le_of_ble_eq_true rfl) dX5_mostLeftBehind_36 (fun H locs (hP : va_P D CL [((ad 0), e_X5 ad t), ((ad 20), e_X3 (ad 21) (upd x.2.2.2.2.1 2 x.2.2.2.1)), ((ad 33), eI cA 41 x.2.2.2.2.2)] H) (hD : va_D A [((ad 0), e_X5 ad t), ((ad 20), e_X3 (ad 21) (upd x.2.2.2.2.1 2 x.2.2.2.1)), ((ad 33), eI cA 41 x.2.2.2.2.2)]) hS => ?_)
          refine lv_aload_n hx hb dX5_mostLeftBehind_39 rfl (lv_at hl 0 rfl) ?_
          refine va_get (D := D) (ci := 5) (v := .ref (ad 20)) (C := RX5) (T := TX5) (N := 17) hx hb htg inX5 hown hK hP 0 rfl rfl 7 (by decide) (htg _ q_1_195) (fun _ h9 => h9) rfl dX5_mostLeftBehind_40 ?_
          refine lv_iload_n hx hb dX5_mostLeftBehind_43 rfl (lv_at hl 1 rfl) ?_
          obtain ⟨o13, ho14, hm⟩ := bd_s hm
          refine xr_i (wr := [((ad 0), e_X5 ad t), ((ad 33), eI cA 41 x.2.2.2.2.2)]) (wn := [((ad 0), e_X5 ad t), ((ad 20), e_X3 (ad 21) (upd x.2.2.2.2.1 2 x.2.2.2.1)), ((ad 33), eI cA 41 x.2.2.2.2.2)]) (va_runVN (As := [.int x.1]) (rest := []) ⟨hx, hb, hml, hown, htg⟩ (c_X3_returnOf l D cA _ fu (ad 20) (ad 21) (upd x.2.2.2.2.1 2 x.2.2.2.1) x.1 o13 ho14) ⟨va_cnB 1 htg (gU q_2_145) rfl rfl rfl (hN _ q_3_86) (htg _ q_1_6) hd_X3_returnOf.2 ⟨Nat.le_of_ble_eq_true rfl, Nat.le_of_ble_eq_true rfl⟩, htg _ q_2_144, htg _ q_p2_4⟩ (xpV hN hK hP hD [1] rfl (by decide) rfl rfl) rfl rfl hl.1 rfl (lv_room (Nat.le_of_ble_eq_true rfl)) dX5_mostLeftBehind_44 ⟨Nat.zero_le _, Nat.zero_le _⟩) hP hD hS hA [1] [0, 2] [0, 2, 1] rfl rfl (by decide) (by decide) rfl (by decide) (fun H locs hP hD hS => ?_)
          refine lv_istore (lv' := [(6, .int o13.1), (0, .ref (ad 0)), (1, .int x.1), (2, .long x.2.1), (4, .int x.2.2.1), (5, .int x.2.2.2.1)]) hx hb dX5_mostLeftBehind_47 hl (by decide) rfl (fun ls hl => ?_)
          refine lv_iload hx hb dX5_mostLeftBehind_49 (lv_at hl 0 rfl) ?_
          refine lv_iconst (v := (-1 : Int32)) hx hb dX5_mostLeftBehind_51 (by decide) ?_
          refine lv_icmp_ne (tgt := 60) hx hb dX5_mostLeftBehind_52 (by decide) (fun c15 => ?_) (fun c15 => ?_)
          · have hm := it_f c15 hm
            refine lv_iload hx hb dX5_mostLeftBehind_60 (lv_at hl 0 rfl) ?_
            exact B_62 _ HK_14 _ _ _ _ _ _ _ _ _ _ hm hP hD hS (lv_sub hl [1, 2, 3, 4, 5] rfl)
          · have hm := it_t c15 hm
            refine lv_bipush (v := (40 : Int32)) hx hb dX5_mostLeftBehind_55 (by decide) ?_
            refine lv_goto (tgt := 62) hx hb dX5_mostLeftBehind_57 (by decide) ?_
            exact B_62 _ HK_14 _ _ _ _ _ _ _ _ _ _ hm hP hD hS (lv_sub hl [1, 2, 3, 4, 5] rfl)
  unfold m_X5_mostLeftBehind at hm
  subst hargs
  have hl := lv_entry ([.ref (ad 0), .int l1, .long l2]) (n := 8) (Nat.le_of_ble_eq_true rfl)
  rw [lg_entry_eq]
  generalize (lg_sl ([.ref (ad 0), .int l1, .long l2]) ++ List.replicate (8 - (lg_sl ([.ref (ad 0), .int l1, .long l2])).length) Slot.unset).toArray = ls at hl ⊢
  have hl : lv_has ls 8 [(0, .ref (ad 0)), (1, .int l1), (2, .long l2)] := hl
  refine lv_aload_n hx hb dX5_mostLeftBehind_0 rfl (lv_at hl 0 rfl) ?_
  refine va_get (D := D) (ci := 5) (v := .ref (ad 33)) (C := RX5) (T := TX5) (N := 17) hx hb htg inX5 hown hK hP 0 rfl rfl 16 (by decide) (htg _ q_1_204) (fun _ h9 => h9) rfl dX5_mostLeftBehind_1 ?_
  refine lv_iconst (v := (0 : Int32)) hx hb dX5_mostLeftBehind_4 (by decide) ?_
  obtain ⟨o16, ho17, hm⟩ := bd_s hm
  refine xr_v (wr := [((ad 0), e_X5 ad t), ((ad 20), e_X3 (ad 21) t_trial)]) (wn := [((ad 0), e_X5 ad t), ((ad 20), e_X3 (ad 21) t_trial), ((ad 33), eI cA 41 o16)]) (va_runS (As := [.ref (ad 33), .int (0 : Int32)]) (rest := []) ⟨hx, hb, hml, hown, htg⟩ (c_J7_fill_53178 l D cA _ fu (ad 33) 41 t_parts (0 : Int32) o16 ho17) ⟨callB_of 2 htg (gU q_1_97) rfl rfl rfl (htg _ q_1_4) (htg _ q_4_16) hd_J7_fill_53178.2 ⟨Nat.le_of_ble_eq_true rfl, Nat.le_of_ble_eq_true rfl⟩, htg _ q_1_96⟩ (xpS hN hK hP hD [2] rfl (by decide)) rfl rfl hl.1 rfl (lv_room (Nat.le_of_ble_eq_true rfl)) dX5_mostLeftBehind_5 ⟨Nat.zero_le _, Nat.zero_le _⟩) hP hD hS hA [2] [0, 1] [0, 1, 2] rfl rfl (by decide) (by decide) rfl (by decide) (fun H locs hP hD hS => ?_)
  refine lv_iconst (v := (0 : Int32)) hx hb dX5_mostLeftBehind_8 (by decide) ?_
  refine lv_istore (lv' := [(4, .int (0 : Int32)), (0, .ref (ad 0)), (1, .int l1), (2, .long l2)]) hx hb dX5_mostLeftBehind_9 hl (by decide) rfl (fun ls hl => ?_)
  refine lv_iconst (v := (0 : Int32)) hx hb dX5_mostLeftBehind_11 (by decide) ?_
  refine lv_istore (lv' := [(5, .int (0 : Int32)), (4, .int (0 : Int32)), (0, .ref (ad 0)), (1, .int l1), (2, .long l2)]) hx hb dX5_mostLeftBehind_12 hl (by decide) rfl (fun ls hl => ?_)
  exact B_14 fu _ _ _ _ hm hP hD hS (lv_sub hl [2, 3, 4, 1, 0] rfl)
