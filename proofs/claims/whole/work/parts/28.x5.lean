def b_X5_next_105 (fu : Nat) (t : Nat → Int32) (t_now : Nat → Int32) (t_now_kinds : Nat → Int32) (t_now_pitches : Nat → Int32) (t_shelves_holding : Nat → Int32) (t_shelves_sizes : Nat → Int32) (t_shelves_elements : Nat → Int64) (k_73 : (Int64 × Int32 × Int32 × Int32 × (Nat → Int32) × (Nat → Int32) × (Nat → Int32) × (Nat → Int32) × (Nat → Int32) × (Nat → Int32)) → Option (Int32 × ((Nat → Int32) × (Nat → Int32) × (Nat → Int32) × (Nat → Int32) × (Nat → Int32) × (Nat → Int32)))) (l7 : Int64) (l9 : Int32) (l10 : Int32) (l11 : Int32) (t_refusals : Nat → Int32) (t_trial : Nat → Int32) (t_trial_heard : Nat → Int32) (t_told : Nat → Int32) (t_told_sounds : Nat → Int32) (t_parts : Nat → Int32) : Option (Int32 × ((Nat → Int32) × (Nat → Int32) × (Nat → Int32) × (Nat → Int32) × (Nat → Int32) × (Nat → Int32))) :=
  k_73 (l7, l9, l10, (l11 + (1 : Int32)), t_refusals, t_trial, t_trial_heard, t_told, t_told_sounds, t_parts)
def b_X5_next_73 (fu : Nat) (t : Nat → Int32) (t_now : Nat → Int32) (t_now_kinds : Nat → Int32) (t_now_pitches : Nat → Int32) (t_shelves_holding : Nat → Int32) (t_shelves_sizes : Nat → Int32) (t_shelves_elements : Nat → Int64) (k_73 : (Int64 × Int32 × Int32 × Int32 × (Nat → Int32) × (Nat → Int32) × (Nat → Int32) × (Nat → Int32) × (Nat → Int32) × (Nat → Int32)) → Option (Int32 × ((Nat → Int32) × (Nat → Int32) × (Nat → Int32) × (Nat → Int32) × (Nat → Int32) × (Nat → Int32)))) (x : Int64 × Int32 × Int32 × Int32 × (Nat → Int32) × (Nat → Int32) × (Nat → Int32) × (Nat → Int32) × (Nat → Int32) × (Nat → Int32)) : Option (Int32 × ((Nat → Int32) × (Nat → Int32) × (Nat → Int32) × (Nat → Int32) × (Nat → Int32) × (Nat → Int32))) :=
  (if (40 : Int32) ≤ x.2.2.2.1 then
        some (x.2.1, (x.2.2.2.2.1, x.2.2.2.2.2.1, x.2.2.2.2.2.2.1, x.2.2.2.2.2.2.2.1, x.2.2.2.2.2.2.2.2.1, x.2.2.2.2.2.2.2.2.2))
      else
        (m_X5_mostLeftBehind fu t x.2.2.2.2.2.1 x.2.2.2.2.2.2.2.2.2 x.2.2.2.1 x.1).bind fun o2 =>
        (if x.2.2.1 ≤ o2.1 then
          b_X5_next_105 fu t t_now t_now_kinds t_now_pitches t_shelves_holding t_shelves_sizes t_shelves_elements k_73 x.1 x.2.1 x.2.2.1 x.2.2.2.1 x.2.2.2.2.1 o2.2.1 x.2.2.2.2.2.2.1 x.2.2.2.2.2.2.2.1 x.2.2.2.2.2.2.2.2.1 o2.2.2
        else
          b_X5_next_105 fu t t_now t_now_kinds t_now_pitches t_shelves_holding t_shelves_sizes t_shelves_elements k_73 x.1 x.2.2.2.1 o2.1 x.2.2.2.1 x.2.2.2.2.1 o2.2.1 x.2.2.2.2.2.2.1 x.2.2.2.2.2.2.2.1 x.2.2.2.2.2.2.2.2.1 o2.2.2))
def b_X5_next_28 (fu : Nat) (t : Nat → Int32) (t_now : Nat → Int32) (t_now_kinds : Nat → Int32) (t_now_pitches : Nat → Int32) (t_shelves_holding : Nat → Int32) (t_shelves_sizes : Nat → Int32) (t_shelves_elements : Nat → Int64) (l3 : Int32) (l4 : Int32) (l5 : Int32) (s1 : Int32) (s2 : Int32) (s3 : Int32) (s4 : Int32) (s5 : Int32) (t_refusals : Nat → Int32) (t_trial : Nat → Int32) (t_trial_heard : Nat → Int32) (t_told : Nat → Int32) (t_told_sounds : Nat → Int32) (t_parts : Nat → Int32) : Option (Int32 × ((Nat → Int32) × (Nat → Int32) × (Nat → Int32) × (Nat → Int32) × (Nat → Int32) × (Nat → Int32))) :=
  (m_X5_takeWordAndRow fu t t_shelves_holding t_shelves_sizes t_shelves_elements t_refusals t_told t_told_sounds s1 s2 s3 s4 s5).bind fun o5 =>
    (if o5.1 = 0 then
      (m_X5_depthsOfEcho fu t t_now t_now_kinds t_now_pitches t_shelves_sizes t_shelves_elements t_trial t_trial_heard o5.2.2.1 o5.2.2.2 l5 l3 l4).bind fun o8 =>
      (m_J13_bitCount_95d88 fu o8.1).bind fun o10 =>
      (if (2 : Int32) ≤ o10.1 then
        lfix (b_X5_next_73 fu t t_now t_now_kinds t_now_pitches t_shelves_holding t_shelves_sizes t_shelves_elements) fu (o8.1, (-1 : Int32), (42 : Int32), (0 : Int32), o5.2.1, o8.2.1, o8.2.2, o5.2.2.1, o5.2.2.2, t_parts)
      else
        some ((-1 : Int32), (o5.2.1, o8.2.1, o8.2.2, o5.2.2.1, o5.2.2.2, t_parts)))
    else
      some (o5.1, (o5.2.1, t_trial, t_trial_heard, o5.2.2.1, o5.2.2.2, t_parts)))
def b_X5_next_27 (fu : Nat) (t : Nat → Int32) (t_now : Nat → Int32) (t_now_kinds : Nat → Int32) (t_now_pitches : Nat → Int32) (t_shelves_holding : Nat → Int32) (t_shelves_sizes : Nat → Int32) (t_shelves_elements : Nat → Int64) (l3 : Int32) (l4 : Int32) (l5 : Int32) (s1 : Int32) (s2 : Int32) (s3 : Int32) (s4 : Int32) (t_refusals : Nat → Int32) (t_trial : Nat → Int32) (t_trial_heard : Nat → Int32) (t_told : Nat → Int32) (t_told_sounds : Nat → Int32) (t_parts : Nat → Int32) : Option (Int32 × ((Nat → Int32) × (Nat → Int32) × (Nat → Int32) × (Nat → Int32) × (Nat → Int32) × (Nat → Int32))) :=
  b_X5_next_28 fu t t_now t_now_kinds t_now_pitches t_shelves_holding t_shelves_sizes t_shelves_elements l3 l4 l5 s1 s2 s3 s4 (0 : Int32) t_refusals t_trial t_trial_heard t_told t_told_sounds t_parts
def m_X5_next (fu : Nat) (t : Nat → Int32) (t_now : Nat → Int32) (t_now_kinds : Nat → Int32) (t_now_pitches : Nat → Int32) (t_shelves_holding : Nat → Int32) (t_shelves_sizes : Nat → Int32) (t_shelves_elements : Nat → Int64) (t_refusals : Nat → Int32) (t_trial : Nat → Int32) (t_trial_heard : Nat → Int32) (t_told : Nat → Int32) (t_told_sounds : Nat → Int32) (t_parts : Nat → Int32) (l1 : Int32) (l2 : Int32) (l3 : Int32) (l4 : Int32) (l5 : Int32) : Option (Int32 × ((Nat → Int32) × (Nat → Int32) × (Nat → Int32) × (Nat → Int32) × (Nat → Int32) × (Nat → Int32))) :=
  (m_X5_isVoice fu t t_now l5).bind fun o13 =>
  (if o13.1 = 0 then
    b_X5_next_27 fu t t_now t_now_kinds t_now_pitches t_shelves_holding t_shelves_sizes t_shelves_elements l3 l4 l5 l1 l2 l3 l4 t_refusals t_trial t_trial_heard t_told t_told_sounds t_parts
  else
    (m_X5_isEchoSize fu l4).bind fun o16 =>
    (if o16.1 = 0 then
      b_X5_next_27 fu t t_now t_now_kinds t_now_pitches t_shelves_holding t_shelves_sizes t_shelves_elements l3 l4 l5 l1 l2 l3 l4 t_refusals t_trial t_trial_heard t_told t_told_sounds t_parts
    else
      b_X5_next_28 fu t t_now t_now_kinds t_now_pitches t_shelves_holding t_shelves_sizes t_shelves_elements l3 l4 l5 l1 l2 l3 l4 (1 : Int32) t_refusals t_trial t_trial_heard t_told t_told_sounds t_parts))
abbrev rm_X5_next : Room := ({ frames := 6, cells := 0, slots := 0, locals := 137 } : Room)
abbrev w0_X5_next (cA : Nat → ClassId) (ad : Nat → Nat) (t : Nat → Int32) (t_now : Nat → Int32) (t_now_kinds : Nat → Int32) (t_now_pitches : Nat → Int32) (t_shelves_holding : Nat → Int32) (t_shelves_sizes : Nat → Int32) (t_shelves_elements : Nat → Int64) (t_refusals : Nat → Int32) (t_trial : Nat → Int32) (t_trial_heard : Nat → Int32) (t_told : Nat → Int32) (t_told_sounds : Nat → Int32) (t_parts : Nat → Int32) : va_W := [((ad 0), e_X5 ad t), ((ad 1), e_X1 (ad 2) (ad 3) (ad 4) t_now), ((ad 2), eI cA 8 t_now_kinds), ((ad 4), eI cA 8 t_now_pitches), ((ad 13), e_X0 (ad 14) (ad 15) (ad 16)), ((ad 14), eI cA 8 t_shelves_holding), ((ad 15), eI cA 8 t_shelves_sizes), ((ad 16), eJ cA 320 t_shelves_elements), ((ad 19), eI cA 5 t_refusals), ((ad 20), e_X3 (ad 21) t_trial), ((ad 21), eI cA 13 t_trial_heard), ((ad 24), e_X4 (ad 25) t_told), ((ad 25), eI cA 12 t_told_sounds), ((ad 33), eI cA 41 t_parts)]
abbrev w1_X5_next (cA : Nat → ClassId) (ad : Nat → Nat) (t : Nat → Int32) (t_now : Nat → Int32) (t_now_kinds : Nat → Int32) (t_now_pitches : Nat → Int32) (t_shelves_holding : Nat → Int32) (t_shelves_sizes : Nat → Int32) (t_shelves_elements : Nat → Int64) (u : (Nat → Int32) × (Nat → Int32) × (Nat → Int32) × (Nat → Int32) × (Nat → Int32) × (Nat → Int32)) : va_W := [((ad 0), e_X5 ad t), ((ad 1), e_X1 (ad 2) (ad 3) (ad 4) t_now), ((ad 2), eI cA 8 t_now_kinds), ((ad 4), eI cA 8 t_now_pitches), ((ad 13), e_X0 (ad 14) (ad 15) (ad 16)), ((ad 14), eI cA 8 t_shelves_holding), ((ad 15), eI cA 8 t_shelves_sizes), ((ad 16), eJ cA 320 t_shelves_elements), ((ad 19), eI cA 5 u.1), ((ad 20), e_X3 (ad 21) u.2.1), ((ad 21), eI cA 13 u.2.2.1), ((ad 24), e_X4 (ad 25) u.2.2.2.1), ((ad 25), eI cA 12 u.2.2.2.2.1), ((ad 33), eI cA 41 u.2.2.2.2.2)]
theorem hd_X5_next : yX5_next.cls = RX5 ∧ yX5_next.cls ≠ "java/lang/invoke/MethodHandle" ∧ yX5_next.cls ≠ "java/lang/invoke/VarHandle" ∧ (parseMethodDescriptor yX5_next.desc).map (fun d => d.parameters.length) = some 5 := by decide +kernel
set_option maxHeartbeats 40000000 in
set_option maxRecDepth 100000 in
theorem c_X5_next (l : Launch) (D : va_G) (cA : Nat → ClassId) (sz : Nat) (fu : Nat) (ad : Nat → Nat) (t : Nat → Int32) (t_now : Nat → Int32) (t_now_kinds : Nat → Int32) (t_now_pitches : Nat → Int32) (t_shelves_holding : Nat → Int32) (t_shelves_sizes : Nat → Int32) (t_shelves_elements : Nat → Int64) (t_refusals : Nat → Int32) (t_trial : Nat → Int32) (t_trial_heard : Nat → Int32) (t_told : Nat → Int32) (t_told_sounds : Nat → Int32) (t_parts : Nat → Int32) (l1 : Int32) (l2 : Int32) (l3 : Int32) (l4 : Int32) (l5 : Int32) (out : Int32 × ((Nat → Int32) × (Nat → Int32) × (Nat → Int32) × (Nat → Int32) × (Nat → Int32) × (Nat → Int32))) (hm : m_X5_next fu t t_now t_now_kinds t_now_pitches t_shelves_holding t_shelves_sizes t_shelves_elements t_refusals t_trial t_trial_heard t_told t_told_sounds t_parts l1 l2 l3 l4 l5 = some out) : MI l yX5_next (wU yX5_next cX5_next 13 ((Option.some Jvm.ClassFile.FieldType.int))) rm_X5_next D cA sz [.ref (ad 0), .int l1, .int l2, .int l3, .int l4, .int l5] (w0_X5_next cA ad t t_now t_now_kinds t_now_pitches t_shelves_holding t_shelves_sizes t_shelves_elements t_refusals t_trial t_trial_heard t_told t_told_sounds t_parts) out (w1_X5_next cA ad t t_now t_now_kinds t_now_pitches t_shelves_holding t_shelves_sizes t_shelves_elements) := by
  refine Met.ofW (cc := cX5_next) (maxL := 13) (ret := (Option.some Jvm.ClassFile.FieldType.int)) (by decide) rfl ?_
  intro p e s m args below meth c s₁ B hml hv
  obtain ⟨hargs, hsz, hP, hK, hD0, hN⟩ := hv
  have hx := B.exec
  have hb := B.bytes
  have hr := B.returns
  have htg : ∀ w ∈ gw, w.before args s = true := fun w h => atoms_spec (ws := wU yX5_next cX5_next 13 ((Option.some Jvm.ClassFile.FieldType.int))) B.pre w (List.mem_cons_of_mem _ h)
  have hown : s.vm.findClass RX5 = some m.cls := findClass_of_methodNamed B.named
  have hlocks := B.notSynchronized
  subst hsz
  have hD := hD0.self (sz := s.heap.size)
  have hA : ∀ q : Nat, s.heap.size ≤ q → va_A (w0_X5_next cA ad t t_now t_now_kinds t_now_pitches t_shelves_holding t_shelves_sizes t_shelves_elements t_refusals t_trial t_trial_heard t_told t_told_sounds t_parts) s.heap.size q := fun q h => Or.inr h
  have hS : va_S (va_A (w0_X5_next cA ad t t_now t_now_kinds t_now_pitches t_shelves_holding t_shelves_sizes t_shelves_elements t_refusals t_trial t_trial_heard t_told t_told_sounds t_parts) s.heap.size) s.heap s.heap [] := va_S.rf
  generalize va_A (w0_X5_next cA ad t t_now t_now_kinds t_now_pitches t_shelves_holding t_shelves_sizes t_shelves_elements t_refusals t_trial t_trial_heard t_told t_told_sounds t_parts) s.heap.size = A at hA hD hS ⊢
  obtain ⟨Q, hQ⟩ : ∃ Q : State → Prop, Q = MQ below (va_Qi (fun (r : Int32) (u : (Nat → Int32) × (Nat → Int32) × (Nat → Int32) × (Nat → Int32) × (Nat → Int32) × (Nat → Int32)) => (r, u) = out) (pst0 D cA A (w1_X5_next cA ad t t_now t_now_kinds t_now_pitches t_shelves_holding t_shelves_sizes t_shelves_elements)) A) args s 0 0 A := ⟨_, rfl⟩
  refine (?_ : W p l e rm_X5_next s m args below meth c s.heap [] 0 0 (MQ below (va_Qi (fun (r : Int32) (u : (Nat → Int32) × (Nat → Int32) × (Nat → Int32) × (Nat → Int32) × (Nat → Int32) × (Nat → Int32)) => (r, u) = out) (pst0 D cA A (w1_X5_next cA ad t t_now t_now_kinds t_now_pitches t_shelves_holding t_shelves_sizes t_shelves_elements)) A) args s 0 0 A) (entryFrame m args 13))
  rw [← hQ]
  have hP : va_P D CL [((ad 0), e_X5 ad t), ((ad 1), e_X1 (ad 2) (ad 3) (ad 4) t_now), ((ad 2), eI cA 8 t_now_kinds), ((ad 4), eI cA 8 t_now_pitches), ((ad 13), e_X0 (ad 14) (ad 15) (ad 16)), ((ad 14), eI cA 8 t_shelves_holding), ((ad 15), eI cA 8 t_shelves_sizes), ((ad 16), eJ cA 320 t_shelves_elements), ((ad 19), eI cA 5 t_refusals), ((ad 20), e_X3 (ad 21) t_trial), ((ad 21), eI cA 13 t_trial_heard), ((ad 24), e_X4 (ad 25) t_told), ((ad 25), eI cA 12 t_told_sounds), ((ad 33), eI cA 41 t_parts)] s.heap := hP
  have hD : va_D A [((ad 0), e_X5 ad t), ((ad 1), e_X1 (ad 2) (ad 3) (ad 4) t_now), ((ad 2), eI cA 8 t_now_kinds), ((ad 4), eI cA 8 t_now_pitches), ((ad 13), e_X0 (ad 14) (ad 15) (ad 16)), ((ad 14), eI cA 8 t_shelves_holding), ((ad 15), eI cA 8 t_shelves_sizes), ((ad 16), eJ cA 320 t_shelves_elements), ((ad 19), eI cA 5 t_refusals), ((ad 20), e_X3 (ad 21) t_trial), ((ad 21), eI cA 13 t_trial_heard), ((ad 24), e_X4 (ad 25) t_told), ((ad 25), eI cA 12 t_told_sounds), ((ad 33), eI cA 41 t_parts)] := hD
  have B_105 : ∀ (k_73 : (Int64 × Int32 × Int32 × Int32 × (Nat → Int32) × (Nat → Int32) × (Nat → Int32) × (Nat → Int32) × (Nat → Int32) × (Nat → Int32)) → Option (Int32 × ((Nat → Int32) × (Nat → Int32) × (Nat → Int32) × (Nat → Int32) × (Nat → Int32) × (Nat → Int32)))) (HK_73 : ∀ (x : Int64 × Int32 × Int32 × Int32 × (Nat → Int32) × (Nat → Int32) × (Nat → Int32) × (Nat → Int32) × (Nat → Int32) × (Nat → Int32)) (H : Heap) (locs : List Loc) (ls : Array Slot), k_73 x = some out → va_P D CL [((ad 0), e_X5 ad t), ((ad 1), e_X1 (ad 2) (ad 3) (ad 4) t_now), ((ad 2), eI cA 8 t_now_kinds), ((ad 4), eI cA 8 t_now_pitches), ((ad 13), e_X0 (ad 14) (ad 15) (ad 16)), ((ad 14), eI cA 8 t_shelves_holding), ((ad 15), eI cA 8 t_shelves_sizes), ((ad 16), eJ cA 320 t_shelves_elements), ((ad 19), eI cA 5 x.2.2.2.2.1), ((ad 20), e_X3 (ad 21) x.2.2.2.2.2.1), ((ad 21), eI cA 13 x.2.2.2.2.2.2.1), ((ad 24), e_X4 (ad 25) x.2.2.2.2.2.2.2.1), ((ad 25), eI cA 12 x.2.2.2.2.2.2.2.2.1), ((ad 33), eI cA 41 x.2.2.2.2.2.2.2.2.2)] H → va_D A [((ad 0), e_X5 ad t), ((ad 1), e_X1 (ad 2) (ad 3) (ad 4) t_now), ((ad 2), eI cA 8 t_now_kinds), ((ad 4), eI cA 8 t_now_pitches), ((ad 13), e_X0 (ad 14) (ad 15) (ad 16)), ((ad 14), eI cA 8 t_shelves_holding), ((ad 15), eI cA 8 t_shelves_sizes), ((ad 16), eJ cA 320 t_shelves_elements), ((ad 19), eI cA 5 x.2.2.2.2.1), ((ad 20), e_X3 (ad 21) x.2.2.2.2.2.1), ((ad 21), eI cA 13 x.2.2.2.2.2.2.1), ((ad 24), e_X4 (ad 25) x.2.2.2.2.2.2.2.1), ((ad 25), eI cA 12 x.2.2.2.2.2.2.2.2.1), ((ad 33), eI cA 41 x.2.2.2.2.2.2.2.2.2)] → va_S A s.heap H locs → lv_has ls 13 [(0, .ref (ad 0)), (7, .long x.1), (9, .int x.2.1), (10, .int x.2.2.1), (11, .int x.2.2.2.1)] → W p l e rm_X5_next s m args below meth c H locs 0 0 Q (F0 m 73 ls [])) (l7 : Int64) (l9 : Int32) (l10 : Int32) (l11 : Int32) (t_refusals : Nat → Int32) (t_trial : Nat → Int32) (t_trial_heard : Nat → Int32) (t_told : Nat → Int32) (t_told_sounds : Nat → Int32) (t_parts : Nat → Int32) (H : Heap) (locs : List Loc) (ls : Array Slot), b_X5_next_105 fu t t_now t_now_kinds t_now_pitches t_shelves_holding t_shelves_sizes t_shelves_elements k_73 l7 l9 l10 l11 t_refusals t_trial t_trial_heard t_told t_told_sounds t_parts = some out → va_P D CL [((ad 0), e_X5 ad t), ((ad 1), e_X1 (ad 2) (ad 3) (ad 4) t_now), ((ad 2), eI cA 8 t_now_kinds), ((ad 4), eI cA 8 t_now_pitches), ((ad 13), e_X0 (ad 14) (ad 15) (ad 16)), ((ad 14), eI cA 8 t_shelves_holding), ((ad 15), eI cA 8 t_shelves_sizes), ((ad 16), eJ cA 320 t_shelves_elements), ((ad 19), eI cA 5 t_refusals), ((ad 20), e_X3 (ad 21) t_trial), ((ad 21), eI cA 13 t_trial_heard), ((ad 24), e_X4 (ad 25) t_told), ((ad 25), eI cA 12 t_told_sounds), ((ad 33), eI cA 41 t_parts)] H → va_D A [((ad 0), e_X5 ad t), ((ad 1), e_X1 (ad 2) (ad 3) (ad 4) t_now), ((ad 2), eI cA 8 t_now_kinds), ((ad 4), eI cA 8 t_now_pitches), ((ad 13), e_X0 (ad 14) (ad 15) (ad 16)), ((ad 14), eI cA 8 t_shelves_holding), ((ad 15), eI cA 8 t_shelves_sizes), ((ad 16), eJ cA 320 t_shelves_elements), ((ad 19), eI cA 5 t_refusals), ((ad 20), e_X3 (ad 21) t_trial), ((ad 21), eI cA 13 t_trial_heard), ((ad 24), e_X4 (ad 25) t_told), ((ad 25), eI cA 12 t_told_sounds), ((ad 33), eI cA 41 t_parts)] → va_S A s.heap H locs → lv_has ls 13 [(0, .ref (ad 0)), (7, .long l7), (9, .int l9), (10, .int l10), (11, .int l11)] → W p l e rm_X5_next s m args below meth c H locs 0 0 Q (F0 m 105 ls []) := by
    intro k_73 HK_73 l7 l9 l10 l11 t_refusals t_trial t_trial_heard t_told t_told_sounds t_parts H locs ls hm hP hD hS hl
    unfold b_X5_next_105 at hm
    refine lv_iinc (v := (l11 + (1 : Int32))) (lv' := [(11, .int (l11 + (1 : Int32))), (0, .ref (ad 0)), (7, .long l7), (9, .int l9), (10, .int l10)]) hx hb dX5_next_105 hl (k := 4) rfl rfl (by decide) rfl (fun ls hl => ?_)
    refine lv_goto (tgt := 73) hx hb dX5_next_108 (by decide) ?_
    exact HK_73 _ _ _ _ hm hP hD hS (lv_sub hl [1, 2, 3, 4, 0] rfl)
  have B_73 : ∀ (n : Nat) (x : Int64 × Int32 × Int32 × Int32 × (Nat → Int32) × (Nat → Int32) × (Nat → Int32) × (Nat → Int32) × (Nat → Int32) × (Nat → Int32)) (H : Heap) (locs : List Loc) (ls : Array Slot), lfix (b_X5_next_73 fu t t_now t_now_kinds t_now_pitches t_shelves_holding t_shelves_sizes t_shelves_elements) n x = some out → va_P D CL [((ad 0), e_X5 ad t), ((ad 1), e_X1 (ad 2) (ad 3) (ad 4) t_now), ((ad 2), eI cA 8 t_now_kinds), ((ad 4), eI cA 8 t_now_pitches), ((ad 13), e_X0 (ad 14) (ad 15) (ad 16)), ((ad 14), eI cA 8 t_shelves_holding), ((ad 15), eI cA 8 t_shelves_sizes), ((ad 16), eJ cA 320 t_shelves_elements), ((ad 19), eI cA 5 x.2.2.2.2.1), ((ad 20), e_X3 (ad 21) x.2.2.2.2.2.1), ((ad 21), eI cA 13 x.2.2.2.2.2.2.1), ((ad 24), e_X4 (ad 25) x.2.2.2.2.2.2.2.1), ((ad 25), eI cA 12 x.2.2.2.2.2.2.2.2.1), ((ad 33), eI cA 41 x.2.2.2.2.2.2.2.2.2)] H → va_D A [((ad 0), e_X5 ad t), ((ad 1), e_X1 (ad 2) (ad 3) (ad 4) t_now), ((ad 2), eI cA 8 t_now_kinds), ((ad 4), eI cA 8 t_now_pitches), ((ad 13), e_X0 (ad 14) (ad 15) (ad 16)), ((ad 14), eI cA 8 t_shelves_holding), ((ad 15), eI cA 8 t_shelves_sizes), ((ad 16), eJ cA 320 t_shelves_elements), ((ad 19), eI cA 5 x.2.2.2.2.1), ((ad 20), e_X3 (ad 21) x.2.2.2.2.2.1), ((ad 21), eI cA 13 x.2.2.2.2.2.2.1), ((ad 24), e_X4 (ad 25) x.2.2.2.2.2.2.2.1), ((ad 25), eI cA 12 x.2.2.2.2.2.2.2.2.1), ((ad 33), eI cA 41 x.2.2.2.2.2.2.2.2.2)] → va_S A s.heap H locs → lv_has ls 13 [(0, .ref (ad 0)), (7, .long x.1), (9, .int x.2.1), (10, .int x.2.2.1), (11, .int x.2.2.2.1)] → W p l e rm_X5_next s m args below meth c H locs 0 0 Q (F0 m 73 ls []) := by
    intro  n
    induction n with
    | zero => intro x H locs ls hm; cases (show none = some out from hm)
    | succ n HK_73 =>
      intro x H locs ls hm hP hD hS hl
      replace hm : b_X5_next_73 fu t t_now t_now_kinds t_now_pitches t_shelves_holding t_shelves_sizes t_shelves_elements (lfix (b_X5_next_73 fu t t_now t_now_kinds t_now_pitches t_shelves_holding t_shelves_sizes t_shelves_elements) n) x = some out := hm
      unfold b_X5_next_73 at hm
      refine lv_iload hx hb dX5_next_73 (lv_at hl 4 rfl) ?_
      refine lv_bipush (v := (40 : Int32)) hx hb dX5_next_75 (by decide) ?_
      refine lv_icmp_ge (tgt := 111) hx hb dX5_next_77 (by decide) (fun c1 => ?_) (fun c1 => ?_)
      · have hm := it_t c1 hm
        refine lv_iload hx hb dX5_next_111 (lv_at hl 2 rfl) ?_
        rw [hQ]
        exact W.iret (v := x.2.1) hx hb hr (fun t9 ht hW => ⟨⟨x.2.1, (x.2.2.2.2.1, x.2.2.2.2.2.1, x.2.2.2.2.2.2.1, x.2.2.2.2.2.2.2.1, x.2.2.2.2.2.2.2.2.1, x.2.2.2.2.2.2.2.2.2), rfl, (Option.some.inj hm), by rw [ht]; exact hP, va_K.moved hW.alike hK, hD⟩, hS.F ht⟩) hS.2.2 dX5_next_113
      · have hm := it_f c1 hm
        refine lv_aload_n hx hb dX5_next_80 rfl (lv_at hl 0 rfl) ?_
        refine lv_iload hx hb dX5_next_81 (lv_at hl 4 rfl) ?_
        refine lv_lload hx hb dX5_next_83 (lv_at hl 1 rfl) ?_
        obtain ⟨o2, ho3, hm⟩ := bd_s hm
        refine xr_i (wr := [((ad 1), e_X1 (ad 2) (ad 3) (ad 4) t_now), ((ad 2), eI cA 8 t_now_kinds), ((ad 4), eI cA 8 t_now_pitches), ((ad 13), e_X0 (ad 14) (ad 15) (ad 16)), ((ad 14), eI cA 8 t_shelves_holding), ((ad 15), eI cA 8 t_shelves_sizes), ((ad 16), eJ cA 320 t_shelves_elements), ((ad 19), eI cA 5 x.2.2.2.2.1), ((ad 21), eI cA 13 x.2.2.2.2.2.2.1), ((ad 24), e_X4 (ad 25) x.2.2.2.2.2.2.2.1), ((ad 25), eI cA 12 x.2.2.2.2.2.2.2.2.1)]) (wn := [((ad 0), e_X5 ad t), ((ad 1), e_X1 (ad 2) (ad 3) (ad 4) t_now), ((ad 2), eI cA 8 t_now_kinds), ((ad 4), eI cA 8 t_now_pitches), ((ad 13), e_X0 (ad 14) (ad 15) (ad 16)), ((ad 14), eI cA 8 t_shelves_holding), ((ad 15), eI cA 8 t_shelves_sizes), ((ad 16), eJ cA 320 t_shelves_elements), ((ad 19), eI cA 5 x.2.2.2.2.1), ((ad 20), e_X3 (ad 21) o2.2.1), ((ad 21), eI cA 13 x.2.2.2.2.2.2.1), ((ad 24), e_X4 (ad 25) x.2.2.2.2.2.2.2.1), ((ad 25), eI cA 12 x.2.2.2.2.2.2.2.2.1), ((ad 33), eI cA 41 o2.2.2)]) (va_runV (As := [.int x.2.2.2.1, .long x.1]) (rest := []) ⟨hx, hb, hml, hown, htg⟩ (c_X5_mostLeftBehind l D cA _ fu ad t x.2.2.2.2.2.1 x.2.2.2.2.2.2.2.2.2 x.2.2.2.1 x.1 o2 ho3) (cwV 2 htg (gV q_4_108 q_4_110 q_p5_0 q_1_1 q_4_111) rfl rfl rfl hd_X5_mostLeftBehind ⟨Nat.le_of_ble_eq_true rfl, Nat.le_of_ble_eq_true rfl⟩) (xpV hN hK hP hD [0, 9, 13] rfl (by decide) rfl rfl) rfl rfl hl.1 rfl (lv_room (Nat.le_of_ble_eq_true rfl)) dX5_next_85 ⟨Nat.zero_le _, Nat.zero_le _⟩) hP hD hS hA [0, 9, 13] [1, 2, 3, 4, 5, 6, 7, 8, 10, 11, 12] [11, 0, 1, 2, 3, 4, 5, 6, 7, 12, 8, 9, 10, 13] rfl rfl (by decide) (by decide) rfl (by decide) (fun H locs hP hD hS => ?_)
        refine lv_istore (lv' := [(12, .int o2.1), (0, .ref (ad 0)), (7, .long x.1), (9, .int x.2.1), (10, .int x.2.2.1), (11, .int x.2.2.2.1)]) hx hb dX5_next_88 hl (by decide) rfl (fun ls hl => ?_)
        refine lv_iload hx hb dX5_next_90 (lv_at hl 0 rfl) ?_
        refine lv_iload hx hb dX5_next_92 (lv_at hl 4 rfl) ?_
        refine lv_icmp_ge (tgt := 105) hx hb dX5_next_94 (by decide) (fun c4 => ?_) (fun c4 => ?_)
        · have hm := it_t c4 hm
          exact B_105 _ HK_73 _ _ _ _ _ _ _ _ _ _ _ _ _ hm hP hD hS (lv_sub hl [1, 2, 3, 4, 5] rfl)
        · have hm := it_f c4 hm
          refine lv_iload hx hb dX5_next_97 (lv_at hl 0 rfl) ?_
          refine lv_istore (lv' := [(10, .int o2.1), (12, .int o2.1), (0, .ref (ad 0)), (7, .long x.1), (9, .int x.2.1), (11, .int x.2.2.2.1)]) hx hb dX5_next_99 hl (by decide) rfl (fun ls hl => ?_)
          refine lv_iload hx hb dX5_next_101 (lv_at hl 5 rfl) ?_
          refine lv_istore (lv' := [(9, .int x.2.2.2.1), (10, .int o2.1), (12, .int o2.1), (0, .ref (ad 0)), (7, .long x.1), (11, .int x.2.2.2.1)]) hx hb dX5_next_103 hl (by decide) rfl (fun ls hl => ?_)
          exact B_105 _ HK_73 _ _ _ _ _ _ _ _ _ _ _ _ _ hm hP hD hS (lv_sub hl [3, 4, 0, 1, 5] rfl)
  have B_28 : ∀ (l3 : Int32) (l4 : Int32) (l5 : Int32) (s1 : Int32) (s2 : Int32) (s3 : Int32) (s4 : Int32) (s5 : Int32) (t_refusals : Nat → Int32) (t_trial : Nat → Int32) (t_trial_heard : Nat → Int32) (t_told : Nat → Int32) (t_told_sounds : Nat → Int32) (t_parts : Nat → Int32) (H : Heap) (locs : List Loc) (ls : Array Slot), b_X5_next_28 fu t t_now t_now_kinds t_now_pitches t_shelves_holding t_shelves_sizes t_shelves_elements l3 l4 l5 s1 s2 s3 s4 s5 t_refusals t_trial t_trial_heard t_told t_told_sounds t_parts = some out → va_P D CL [((ad 0), e_X5 ad t), ((ad 1), e_X1 (ad 2) (ad 3) (ad 4) t_now), ((ad 2), eI cA 8 t_now_kinds), ((ad 4), eI cA 8 t_now_pitches), ((ad 13), e_X0 (ad 14) (ad 15) (ad 16)), ((ad 14), eI cA 8 t_shelves_holding), ((ad 15), eI cA 8 t_shelves_sizes), ((ad 16), eJ cA 320 t_shelves_elements), ((ad 19), eI cA 5 t_refusals), ((ad 20), e_X3 (ad 21) t_trial), ((ad 21), eI cA 13 t_trial_heard), ((ad 24), e_X4 (ad 25) t_told), ((ad 25), eI cA 12 t_told_sounds), ((ad 33), eI cA 41 t_parts)] H → va_D A [((ad 0), e_X5 ad t), ((ad 1), e_X1 (ad 2) (ad 3) (ad 4) t_now), ((ad 2), eI cA 8 t_now_kinds), ((ad 4), eI cA 8 t_now_pitches), ((ad 13), e_X0 (ad 14) (ad 15) (ad 16)), ((ad 14), eI cA 8 t_shelves_holding), ((ad 15), eI cA 8 t_shelves_sizes), ((ad 16), eJ cA 320 t_shelves_elements), ((ad 19), eI cA 5 t_refusals), ((ad 20), e_X3 (ad 21) t_trial), ((ad 21), eI cA 13 t_trial_heard), ((ad 24), e_X4 (ad 25) t_told), ((ad 25), eI cA 12 t_told_sounds), ((ad 33), eI cA 41 t_parts)] → va_S A s.heap H locs → lv_has ls 13 [(0, .ref (ad 0)), (3, .int l3), (4, .int l4), (5, .int l5)] → W p l e rm_X5_next s m args below meth c H locs 0 0 Q (F0 m 28 ls [.int s5, .int s4, .int s3, .int s2, .int s1, .ref (ad 0)]) := by
    intro  l3 l4 l5 s1 s2 s3 s4 s5 t_refusals t_trial t_trial_heard t_told t_told_sounds t_parts H locs ls hm hP hD hS hl
    unfold b_X5_next_28 at hm
    obtain ⟨o5, ho6, hm⟩ := bd_s hm
    refine xr_i (wr := [((ad 1), e_X1 (ad 2) (ad 3) (ad 4) t_now), ((ad 2), eI cA 8 t_now_kinds), ((ad 4), eI cA 8 t_now_pitches), ((ad 20), e_X3 (ad 21) t_trial), ((ad 21), eI cA 13 t_trial_heard), ((ad 33), eI cA 41 t_parts)]) (wn := [((ad 0), e_X5 ad t), ((ad 1), e_X1 (ad 2) (ad 3) (ad 4) t_now), ((ad 2), eI cA 8 t_now_kinds), ((ad 4), eI cA 8 t_now_pitches), ((ad 13), e_X0 (ad 14) (ad 15) (ad 16)), ((ad 14), eI cA 8 t_shelves_holding), ((ad 15), eI cA 8 t_shelves_sizes), ((ad 16), eJ cA 320 t_shelves_elements), ((ad 19), eI cA 5 o5.2.1), ((ad 20), e_X3 (ad 21) t_trial), ((ad 21), eI cA 13 t_trial_heard), ((ad 24), e_X4 (ad 25) o5.2.2.1), ((ad 25), eI cA 12 o5.2.2.2), ((ad 33), eI cA 41 t_parts)]) (va_runV (As := [.int s1, .int s2, .int s3, .int s4, .int s5]) (rest := []) ⟨hx, hb, hml, hown, htg⟩ (c_X5_takeWordAndRow l D cA _ fu ad t t_shelves_holding t_shelves_sizes t_shelves_elements t_refusals t_told t_told_sounds s1 s2 s3 s4 s5 o5 ho6) (cwV 5 htg (gV q_3_130 q_3_132 q_p3_13 q_1_1 q_3_133) rfl rfl rfl hd_X5_takeWordAndRow ⟨Nat.le_of_ble_eq_true rfl, Nat.le_of_ble_eq_true rfl⟩) (xpV hN hK hP hD [0, 4, 5, 6, 7, 8, 11, 12] rfl (by decide) rfl rfl) rfl rfl hl.1 rfl (lv_room (Nat.le_of_ble_eq_true rfl)) dX5_next_28 ⟨Nat.zero_le _, Nat.zero_le _⟩) hP hD hS hA [0, 4, 5, 6, 7, 8, 11, 12] [1, 2, 3, 9, 10, 13] [6, 0, 1, 2, 7, 8, 9, 10, 11, 3, 4, 12, 13, 5] rfl rfl (by decide) (by decide) rfl (by decide) (fun H locs hP hD hS => ?_)
    refine lv_istore (lv' := [(6, .int o5.1), (0, .ref (ad 0)), (3, .int l3), (4, .int l4), (5, .int l5)]) hx hb dX5_next_31 hl (by decide) rfl (fun ls hl => ?_)
    refine lv_iload hx hb dX5_next_33 (lv_at hl 0 rfl) ?_
    refine lv_if_eq (tgt := 41) hx hb dX5_next_35 (by decide) (fun c7 => ?_) (fun c7 => ?_)
    · have hm := it_t c7 hm
      refine lv_aload_n hx hb dX5_next_41 rfl (lv_at hl 1 rfl) ?_
      refine lv_iload hx hb dX5_next_42 (lv_at hl 4 rfl) ?_
      refine lv_iload_n hx hb dX5_next_44 rfl (lv_at hl 2 rfl) ?_
      refine lv_iload hx hb dX5_next_45 (lv_at hl 3 rfl) ?_
      obtain ⟨o8, ho9, hm⟩ := bd_s hm
      refine xr_l (wr := [((ad 14), eI cA 8 t_shelves_holding), ((ad 19), eI cA 5 o5.2.1), ((ad 33), eI cA 41 t_parts)]) (wn := [((ad 0), e_X5 ad t), ((ad 1), e_X1 (ad 2) (ad 3) (ad 4) t_now), ((ad 2), eI cA 8 t_now_kinds), ((ad 4), eI cA 8 t_now_pitches), ((ad 13), e_X0 (ad 14) (ad 15) (ad 16)), ((ad 14), eI cA 8 t_shelves_holding), ((ad 15), eI cA 8 t_shelves_sizes), ((ad 16), eJ cA 320 t_shelves_elements), ((ad 19), eI cA 5 o5.2.1), ((ad 20), e_X3 (ad 21) o8.2.1), ((ad 21), eI cA 13 o8.2.2), ((ad 24), e_X4 (ad 25) o5.2.2.1), ((ad 25), eI cA 12 o5.2.2.2), ((ad 33), eI cA 41 t_parts)]) (va_runV (As := [.int l5, .int l3, .int l4]) (rest := []) ⟨hx, hb, hml, hown, htg⟩ (c_X5_depthsOfEcho l D cA _ fu ad t t_now t_now_kinds t_now_pitches t_shelves_sizes t_shelves_elements t_trial t_trial_heard o5.2.2.1 o5.2.2.2 l5 l3 l4 o8 ho9) (cwV 3 htg (gV q_4_80 q_4_82 q_p4_12 q_1_1 q_4_83) rfl rfl rfl hd_X5_depthsOfEcho ⟨Nat.le_of_ble_eq_true rfl, Nat.le_of_ble_eq_true rfl⟩) (xpV hN hK hP hD [0, 1, 2, 3, 4, 6, 7, 9, 10, 11, 12] rfl (by decide) rfl rfl) rfl rfl hl.1 rfl (lv_room (Nat.le_of_ble_eq_true rfl)) dX5_next_47 ⟨Nat.zero_le _, Nat.zero_le _⟩) hP hD hS hA [0, 1, 2, 3, 4, 6, 7, 9, 10, 11, 12] [5, 8, 13] [3, 4, 5, 6, 7, 0, 8, 9, 1, 10, 11, 12, 13, 2] rfl rfl (by decide) (by decide) rfl (by decide) (fun H locs hP hD hS => ?_)
      refine lv_lstore (lv' := [(7, .long o8.1), (6, .int o5.1), (0, .ref (ad 0)), (3, .int l3), (4, .int l4), (5, .int l5)]) hx hb dX5_next_50 hl (by decide) rfl (fun ls hl => ?_)
      refine lv_lload hx hb dX5_next_52 (lv_at hl 0 rfl) ?_
      obtain ⟨o10, ho11, hm⟩ := bd_s hm
      refine xr_i (wr := [((ad 0), e_X5 ad t), ((ad 1), e_X1 (ad 2) (ad 3) (ad 4) t_now), ((ad 2), eI cA 8 t_now_kinds), ((ad 4), eI cA 8 t_now_pitches), ((ad 13), e_X0 (ad 14) (ad 15) (ad 16)), ((ad 14), eI cA 8 t_shelves_holding), ((ad 15), eI cA 8 t_shelves_sizes), ((ad 16), eJ cA 320 t_shelves_elements), ((ad 19), eI cA 5 o5.2.1), ((ad 20), e_X3 (ad 21) o8.2.1), ((ad 21), eI cA 13 o8.2.2), ((ad 24), e_X4 (ad 25) o5.2.2.1), ((ad 25), eI cA 12 o5.2.2.2), ((ad 33), eI cA 41 t_parts)]) (wn := [((ad 0), e_X5 ad t), ((ad 1), e_X1 (ad 2) (ad 3) (ad 4) t_now), ((ad 2), eI cA 8 t_now_kinds), ((ad 4), eI cA 8 t_now_pitches), ((ad 13), e_X0 (ad 14) (ad 15) (ad 16)), ((ad 14), eI cA 8 t_shelves_holding), ((ad 15), eI cA 8 t_shelves_sizes), ((ad 16), eJ cA 320 t_shelves_elements), ((ad 19), eI cA 5 o5.2.1), ((ad 20), e_X3 (ad 21) o8.2.1), ((ad 21), eI cA 13 o8.2.2), ((ad 24), e_X4 (ad 25) o5.2.2.1), ((ad 25), eI cA 12 o5.2.2.2), ((ad 33), eI cA 41 t_parts)]) (va_runS (As := [.long o8.1]) (rest := []) ⟨hx, hb, hml, hown, htg⟩ (c_J13_bitCount_95d88 l D cA _ fu o8.1 o10 ho11) ⟨callB_of 1 htg (gU q_3_181) rfl rfl rfl (htg _ q_1_15) (htg _ q_3_179) hd_J13_bitCount_95d88.2 ⟨Nat.le_of_ble_eq_true rfl, Nat.le_of_ble_eq_true rfl⟩, htg _ q_3_180⟩ (xpS hN hK hP hD [] rfl (by decide)) rfl rfl hl.1 rfl (lv_room (Nat.le_of_ble_eq_true rfl)) dX5_next_54 ⟨Nat.zero_le _, Nat.zero_le _⟩) hP hD hS hA [] [0, 1, 2, 3, 4, 5, 6, 7, 8, 9, 10, 11, 12, 13] [0, 1, 2, 3, 4, 5, 6, 7, 8, 9, 10, 11, 12, 13] rfl rfl (by decide) (by decide) rfl (by decide) (fun H locs hP hD hS => ?_)
      refine lv_iconst (v := (2 : Int32)) hx hb dX5_next_57 (by decide) ?_
      refine lv_icmp_ge (tgt := 63) hx hb dX5_next_58 (by decide) (fun c12 => ?_) (fun c12 => ?_)
      · have hm := it_t c12 hm
        refine lv_iconst (v := (-1 : Int32)) hx hb dX5_next_63 (by decide) ?_
        refine lv_istore (lv' := [(9, .int (-1 : Int32)), (7, .long o8.1), (6, .int o5.1), (0, .ref (ad 0)), (3, .int l3), (4, .int l4), (5, .int l5)]) hx hb dX5_next_64 hl (by decide) rfl (fun ls hl => ?_)
        refine lv_bipush (v := (42 : Int32)) hx hb dX5_next_66 (by decide) ?_
        refine lv_istore (lv' := [(10, .int (42 : Int32)), (9, .int (-1 : Int32)), (7, .long o8.1), (6, .int o5.1), (0, .ref (ad 0)), (3, .int l3), (4, .int l4), (5, .int l5)]) hx hb dX5_next_68 hl (by decide) rfl (fun ls hl => ?_)
        refine lv_iconst (v := (0 : Int32)) hx hb dX5_next_70 (by decide) ?_
        refine lv_istore (lv' := [(11, .int (0 : Int32)), (10, .int (42 : Int32)), (9, .int (-1 : Int32)), (7, .long o8.1), (6, .int o5.1), (0, .ref (ad 0)), (3, .int l3), (4, .int l4), (5, .int l5)]) hx hb dX5_next_71 hl (by decide) rfl (fun ls hl => ?_)
        exact B_73 fu _ _ _ _ hm hP hD hS (lv_sub hl [5, 3, 2, 1, 0] rfl)
      · have hm := it_f c12 hm
        refine lv_iconst (v := (-1 : Int32)) hx hb dX5_next_61 (by decide) ?_
        rw [hQ]
        exact W.iret (v := (-1 : Int32)) hx hb hr (fun t9 ht hW => ⟨⟨(-1 : Int32), (o5.2.1, o8.2.1, o8.2.2, o5.2.2.1, o5.2.2.2, t_parts), rfl, (Option.some.inj hm), by rw [ht]; exact hP, va_K.moved hW.alike hK, hD⟩, hS.F ht⟩) hS.2.2 dX5_next_62
    · have hm := it_f c7 hm
      refine lv_iload hx hb dX5_next_38 (lv_at hl 0 rfl) ?_
      rw [hQ]
      exact W.iret (v := o5.1) hx hb hr (fun t9 ht hW => ⟨⟨o5.1, (o5.2.1, t_trial, t_trial_heard, o5.2.2.1, o5.2.2.2, t_parts), rfl, (Option.some.inj hm), by rw [ht]; exact hP, va_K.moved hW.alike hK, hD⟩, hS.F ht⟩) hS.2.2 dX5_next_40
  have B_27 : ∀ (l3 : Int32) (l4 : Int32) (l5 : Int32) (s1 : Int32) (s2 : Int32) (s3 : Int32) (s4 : Int32) (t_refusals : Nat → Int32) (t_trial : Nat → Int32) (t_trial_heard : Nat → Int32) (t_told : Nat → Int32) (t_told_sounds : Nat → Int32) (t_parts : Nat → Int32) (H : Heap) (locs : List Loc) (ls : Array Slot), b_X5_next_27 fu t t_now t_now_kinds t_now_pitches t_shelves_holding t_shelves_sizes t_shelves_elements l3 l4 l5 s1 s2 s3 s4 t_refusals t_trial t_trial_heard t_told t_told_sounds t_parts = some out → va_P D CL [((ad 0), e_X5 ad t), ((ad 1), e_X1 (ad 2) (ad 3) (ad 4) t_now), ((ad 2), eI cA 8 t_now_kinds), ((ad 4), eI cA 8 t_now_pitches), ((ad 13), e_X0 (ad 14) (ad 15) (ad 16)), ((ad 14), eI cA 8 t_shelves_holding), ((ad 15), eI cA 8 t_shelves_sizes), ((ad 16), eJ cA 320 t_shelves_elements), ((ad 19), eI cA 5 t_refusals), ((ad 20), e_X3 (ad 21) t_trial), ((ad 21), eI cA 13 t_trial_heard), ((ad 24), e_X4 (ad 25) t_told), ((ad 25), eI cA 12 t_told_sounds), ((ad 33), eI cA 41 t_parts)] H → va_D A [((ad 0), e_X5 ad t), ((ad 1), e_X1 (ad 2) (ad 3) (ad 4) t_now), ((ad 2), eI cA 8 t_now_kinds), ((ad 4), eI cA 8 t_now_pitches), ((ad 13), e_X0 (ad 14) (ad 15) (ad 16)), ((ad 14), eI cA 8 t_shelves_holding), ((ad 15), eI cA 8 t_shelves_sizes), ((ad 16), eJ cA 320 t_shelves_elements), ((ad 19), eI cA 5 t_refusals), ((ad 20), e_X3 (ad 21) t_trial), ((ad 21), eI cA 13 t_trial_heard), ((ad 24), e_X4 (ad 25) t_told), ((ad 25), eI cA 12 t_told_sounds), ((ad 33), eI cA 41 t_parts)] → va_S A s.heap H locs → lv_has ls 13 [(0, .ref (ad 0)), (3, .int l3), (4, .int l4), (5, .int l5)] → W p l e rm_X5_next s m args below meth c H locs 0 0 Q (F0 m 27 ls [.int s4, .int s3, .int s2, .int s1, .ref (ad 0)]) := by
    intro  l3 l4 l5 s1 s2 s3 s4 t_refusals t_trial t_trial_heard t_told t_told_sounds t_parts H locs ls hm hP hD hS hl
    unfold b_X5_next_27 at hm
    refine lv_iconst (v := (0 : Int32)) hx hb dX5_next_27 (by decide) ?_
    exact B_28 _ _ _ _ _ _ _ _ _ _ _ _ _ _ _ _ _ hm hP hD hS (lv_sub hl [0, 1, 2, 3] rfl)
  unfold m_X5_next at hm
  subst hargs
  have hl := lv_entry ([.ref (ad 0), .int l1, .int l2, .int l3, .int l4, .int l5]) (n := 13) (Nat.le_of_ble_eq_true rfl)
  rw [lg_entry_eq]
  generalize (lg_sl ([.ref (ad 0), .int l1, .int l2, .int l3, .int l4, .int l5]) ++ List.replicate (13 - (lg_sl ([.ref (ad 0), .int l1, .int l2, .int l3, .int l4, .int l5])).length) Slot.unset).toArray = ls at hl ⊢
  have hl : lv_has ls 13 [(0, .ref (ad 0)), (1, .int l1), (2, .int l2), (3, .int l3), (4, .int l4), (5, .int l5)] := hl
  refine lv_aload_n hx hb dX5_next_0 rfl (lv_at hl 0 rfl) ?_
  refine lv_iload_n hx hb dX5_next_1 rfl (lv_at hl 1 rfl) ?_
  refine lv_iload_n hx hb dX5_next_2 rfl (lv_at hl 2 rfl) ?_
  refine lv_iload_n hx hb dX5_next_3 rfl (lv_at hl 3 rfl) ?_
  refine lv_iload hx hb dX5_next_4 (lv_at hl 4 rfl) ?_
  refine lv_aload_n hx hb dX5_next_6 rfl (lv_at hl 0 rfl) ?_
  refine lv_iload hx hb dX5_next_7 (lv_at hl 5 rfl) ?_
  obtain ⟨o13, ho14, hm⟩ := bd_s hm
  refine xr_i (wr := [((ad 2), eI cA 8 t_now_kinds), ((ad 4), eI cA 8 t_now_pitches), ((ad 13), e_X0 (ad 14) (ad 15) (ad 16)), ((ad 14), eI cA 8 t_shelves_holding), ((ad 15), eI cA 8 t_shelves_sizes), ((ad 16), eJ cA 320 t_shelves_elements), ((ad 19), eI cA 5 t_refusals), ((ad 20), e_X3 (ad 21) t_trial), ((ad 21), eI cA 13 t_trial_heard), ((ad 24), e_X4 (ad 25) t_told), ((ad 25), eI cA 12 t_told_sounds), ((ad 33), eI cA 41 t_parts)]) (wn := [((ad 0), e_X5 ad t), ((ad 1), e_X1 (ad 2) (ad 3) (ad 4) t_now), ((ad 2), eI cA 8 t_now_kinds), ((ad 4), eI cA 8 t_now_pitches), ((ad 13), e_X0 (ad 14) (ad 15) (ad 16)), ((ad 14), eI cA 8 t_shelves_holding), ((ad 15), eI cA 8 t_shelves_sizes), ((ad 16), eJ cA 320 t_shelves_elements), ((ad 19), eI cA 5 t_refusals), ((ad 20), e_X3 (ad 21) t_trial), ((ad 21), eI cA 13 t_trial_heard), ((ad 24), e_X4 (ad 25) t_told), ((ad 25), eI cA 12 t_told_sounds), ((ad 33), eI cA 41 t_parts)]) (va_runV (As := [.int l5]) (rest := [.int l4, .int l3, .int l2, .int l1, .ref (ad 0)]) ⟨hx, hb, hml, hown, htg⟩ (c_X5_isVoice l D cA _ fu ad t t_now l5 o13 ho14) (cwV 1 htg (gV q_2_87 q_2_89 q_p1_10 q_1_1 q_2_90) rfl rfl rfl hd_X5_isVoice ⟨Nat.le_of_ble_eq_true rfl, Nat.le_of_ble_eq_true rfl⟩) (xpV hN hK hP hD [0, 1] rfl (by decide) rfl rfl) rfl rfl hl.1 rfl (lv_room (Nat.le_of_ble_eq_true rfl)) dX5_next_9 ⟨Nat.zero_le _, Nat.zero_le _⟩) hP hD hS hA [0, 1] [2, 3, 4, 5, 6, 7, 8, 9, 10, 11, 12, 13] [12, 13, 0, 1, 2, 3, 4, 5, 6, 7, 8, 9, 10, 11] rfl rfl (by decide) (by decide) rfl (by decide) (fun H locs hP hD hS => ?_)
  refine lv_if_eq (tgt := 27) hx hb dX5_next_12 (by decide) (fun c15 => ?_) (fun c15 => ?_)
  · have hm := it_t c15 hm
    exact B_27 _ _ _ _ _ _ _ _ _ _ _ _ _ _ _ _ hm hP hD hS (lv_sub hl [0, 3, 4, 5] rfl)
  · have hm := it_f c15 hm
    refine lv_iload hx hb dX5_next_15 (lv_at hl 4 rfl) ?_
    obtain ⟨o16, ho17, hm⟩ := bd_s hm
    refine xr_i (wr := [((ad 0), e_X5 ad t), ((ad 1), e_X1 (ad 2) (ad 3) (ad 4) t_now), ((ad 2), eI cA 8 t_now_kinds), ((ad 4), eI cA 8 t_now_pitches), ((ad 13), e_X0 (ad 14) (ad 15) (ad 16)), ((ad 14), eI cA 8 t_shelves_holding), ((ad 15), eI cA 8 t_shelves_sizes), ((ad 16), eJ cA 320 t_shelves_elements), ((ad 19), eI cA 5 t_refusals), ((ad 20), e_X3 (ad 21) t_trial), ((ad 21), eI cA 13 t_trial_heard), ((ad 24), e_X4 (ad 25) t_told), ((ad 25), eI cA 12 t_told_sounds), ((ad 33), eI cA 41 t_parts)]) (wn := [((ad 0), e_X5 ad t), ((ad 1), e_X1 (ad 2) (ad 3) (ad 4) t_now), ((ad 2), eI cA 8 t_now_kinds), ((ad 4), eI cA 8 t_now_pitches), ((ad 13), e_X0 (ad 14) (ad 15) (ad 16)), ((ad 14), eI cA 8 t_shelves_holding), ((ad 15), eI cA 8 t_shelves_sizes), ((ad 16), eJ cA 320 t_shelves_elements), ((ad 19), eI cA 5 t_refusals), ((ad 20), e_X3 (ad 21) t_trial), ((ad 21), eI cA 13 t_trial_heard), ((ad 24), e_X4 (ad 25) t_told), ((ad 25), eI cA 12 t_told_sounds), ((ad 33), eI cA 41 t_parts)]) (va_runS (As := [.int l4]) (rest := [.int l4, .int l3, .int l2, .int l1, .ref (ad 0)]) ⟨hx, hb, hml, hown, htg⟩ (c_X5_isEchoSize l D cA _ fu l4 o16 ho17) (cwS 1 htg (gS q_4_77 q_4_78 q_1_1 q_4_79) rfl rfl rfl hd_X5_isEchoSize ⟨Nat.le_of_ble_eq_true rfl, Nat.le_of_ble_eq_true rfl⟩) (xpS hN hK hP hD [] rfl (by decide)) rfl rfl hl.1 rfl (lv_room (Nat.le_of_ble_eq_true rfl)) dX5_next_17 ⟨Nat.zero_le _, Nat.zero_le _⟩) hP hD hS hA [] [0, 1, 2, 3, 4, 5, 6, 7, 8, 9, 10, 11, 12, 13] [0, 1, 2, 3, 4, 5, 6, 7, 8, 9, 10, 11, 12, 13] rfl rfl (by decide) (by decide) rfl (by decide) (fun H locs hP hD hS => ?_)
    refine lv_if_eq (tgt := 27) hx hb dX5_next_20 (by decide) (fun c18 => ?_) (fun c18 => ?_)
    · have hm := it_t c18 hm
      exact B_27 _ _ _ _ _ _ _ _ _ _ _ _ _ _ _ _ hm hP hD hS (lv_sub hl [0, 3, 4, 5] rfl)
    · have hm := it_f c18 hm
      refine lv_iconst (v := (1 : Int32)) hx hb dX5_next_23 (by decide) ?_
      refine lv_goto (tgt := 28) hx hb dX5_next_24 (by decide) ?_
      exact B_28 _ _ _ _ _ _ _ _ _ _ _ _ _ _ _ _ _ hm hP hD hS (lv_sub hl [0, 3, 4, 5] rfl)
def b_X5_isSo_31 (fu : Nat) (t : Nat → Int32) (t_now : Nat → Int32) (t_now_kinds : Nat → Int32) (t_now_pitches : Nat → Int32) (t_shelves_sizes : Nat → Int32) (t_shelves_elements : Nat → Int64) (t_told : Nat → Int32) (t_told_sounds : Nat → Int32) (t_trial : Nat → Int32) (t_trial_heard : Nat → Int32) : Option (Int32 × ((Nat → Int32) × (Nat → Int32))) :=
  some ((0 : Int32), (t_trial, t_trial_heard))
def b_X5_isSo_88 (fu : Nat) (t : Nat → Int32) (t_now : Nat → Int32) (t_now_kinds : Nat → Int32) (t_now_pitches : Nat → Int32) (t_shelves_sizes : Nat → Int32) (t_shelves_elements : Nat → Int64) (t_told : Nat → Int32) (t_told_sounds : Nat → Int32) (s0 : Int32) (t_trial : Nat → Int32) (t_trial_heard : Nat → Int32) : Option (Int32 × ((Nat → Int32) × (Nat → Int32))) :=
  gd (bz s0) (some (s0, (t_trial, t_trial_heard)))
def m_X5_isSo (fu : Nat) (t : Nat → Int32) (t_now : Nat → Int32) (t_now_kinds : Nat → Int32) (t_now_pitches : Nat → Int32) (t_shelves_sizes : Nat → Int32) (t_shelves_elements : Nat → Int64) (t_trial : Nat → Int32) (t_trial_heard : Nat → Int32) (t_told : Nat → Int32) (t_told_sounds : Nat → Int32) (l1 : Int32) (l2 : Int32) : Option (Int32 × ((Nat → Int32) × (Nat → Int32))) :=
  (m_X0_elementAt fu t_shelves_sizes t_shelves_elements l1 ((2 : Int32) * l2)).bind fun o2 =>
  (if (lg_cmp o2.1 (0 : Int64)) < 0 then
    b_X5_isSo_31 fu t t_now t_now_kinds t_now_pitches t_shelves_sizes t_shelves_elements t_told t_told_sounds t_trial t_trial_heard
  else
    (if (lg_cmp o2.1 (t_now 8).toInt64) < 0 then
      (m_X3_standsFor fu t_trial t_now t_now_kinds t_now_pitches o2.1.toInt32).bind fun o6 =>
      (m_X3_passDays fu o6 l2).bind fun o8 =>
      (m_X3_weighs fu o8 t_trial_heard t_told t_told_sounds).bind fun o10 =>
      (m_X0_elementAt fu t_shelves_sizes t_shelves_elements l1 (((2 : Int32) * l2) + (1 : Int32))).bind fun o12 =>
      (if (lg_cmp o10.1.toInt64 o12.1) = 0 then
        b_X5_isSo_88 fu t t_now t_now_kinds t_now_pitches t_shelves_sizes t_shelves_elements t_told t_told_sounds (1 : Int32) o10.2.1 o10.2.2
      else
        b_X5_isSo_88 fu t t_now t_now_kinds t_now_pitches t_shelves_sizes t_shelves_elements t_told t_told_sounds (0 : Int32) o10.2.1 o10.2.2)
    else
      b_X5_isSo_31 fu t t_now t_now_kinds t_now_pitches t_shelves_sizes t_shelves_elements t_told t_told_sounds t_trial t_trial_heard))
abbrev rm_X5_isSo : Room := ({ frames := 5, cells := 0, slots := 0, locals := 109 } : Room)
abbrev w0_X5_isSo (cA : Nat → ClassId) (ad : Nat → Nat) (t : Nat → Int32) (t_now : Nat → Int32) (t_now_kinds : Nat → Int32) (t_now_pitches : Nat → Int32) (t_shelves_sizes : Nat → Int32) (t_shelves_elements : Nat → Int64) (t_trial : Nat → Int32) (t_trial_heard : Nat → Int32) (t_told : Nat → Int32) (t_told_sounds : Nat → Int32) : va_W := [((ad 0), e_X5 ad t), ((ad 1), e_X1 (ad 2) (ad 3) (ad 4) t_now), ((ad 2), eI cA 8 t_now_kinds), ((ad 4), eI cA 8 t_now_pitches), ((ad 13), e_X0 (ad 14) (ad 15) (ad 16)), ((ad 15), eI cA 8 t_shelves_sizes), ((ad 16), eJ cA 320 t_shelves_elements), ((ad 20), e_X3 (ad 21) t_trial), ((ad 21), eI cA 13 t_trial_heard), ((ad 24), e_X4 (ad 25) t_told), ((ad 25), eI cA 12 t_told_sounds)]
abbrev w1_X5_isSo (cA : Nat → ClassId) (ad : Nat → Nat) (t : Nat → Int32) (t_now : Nat → Int32) (t_now_kinds : Nat → Int32) (t_now_pitches : Nat → Int32) (t_shelves_sizes : Nat → Int32) (t_shelves_elements : Nat → Int64) (t_told : Nat → Int32) (t_told_sounds : Nat → Int32) (u : (Nat → Int32) × (Nat → Int32)) : va_W := [((ad 0), e_X5 ad t), ((ad 1), e_X1 (ad 2) (ad 3) (ad 4) t_now), ((ad 2), eI cA 8 t_now_kinds), ((ad 4), eI cA 8 t_now_pitches), ((ad 13), e_X0 (ad 14) (ad 15) (ad 16)), ((ad 15), eI cA 8 t_shelves_sizes), ((ad 16), eJ cA 320 t_shelves_elements), ((ad 20), e_X3 (ad 21) u.1), ((ad 21), eI cA 13 u.2), ((ad 24), e_X4 (ad 25) t_told), ((ad 25), eI cA 12 t_told_sounds)]
theorem hd_X5_isSo : yX5_isSo.cls = RX5 ∧ yX5_isSo.cls ≠ "java/lang/invoke/MethodHandle" ∧ yX5_isSo.cls ≠ "java/lang/invoke/VarHandle" ∧ (parseMethodDescriptor yX5_isSo.desc).map (fun d => d.parameters.length) = some 2 := by decide +kernel
set_option maxHeartbeats 40000000 in
set_option maxRecDepth 100000 in
theorem c_X5_isSo (l : Launch) (D : va_G) (cA : Nat → ClassId) (sz : Nat) (fu : Nat) (ad : Nat → Nat) (t : Nat → Int32) (t_now : Nat → Int32) (t_now_kinds : Nat → Int32) (t_now_pitches : Nat → Int32) (t_shelves_sizes : Nat → Int32) (t_shelves_elements : Nat → Int64) (t_trial : Nat → Int32) (t_trial_heard : Nat → Int32) (t_told : Nat → Int32) (t_told_sounds : Nat → Int32) (l1 : Int32) (l2 : Int32) (out : Int32 × ((Nat → Int32) × (Nat → Int32))) (hm : m_X5_isSo fu t t_now t_now_kinds t_now_pitches t_shelves_sizes t_shelves_elements t_trial t_trial_heard t_told t_told_sounds l1 l2 = some out) : MI l yX5_isSo (wU yX5_isSo cX5_isSo 5 ((Option.some Jvm.ClassFile.FieldType.boolean))) rm_X5_isSo D cA sz [.ref (ad 0), .int l1, .int l2] (w0_X5_isSo cA ad t t_now t_now_kinds t_now_pitches t_shelves_sizes t_shelves_elements t_trial t_trial_heard t_told t_told_sounds) out (w1_X5_isSo cA ad t t_now t_now_kinds t_now_pitches t_shelves_sizes t_shelves_elements t_told t_told_sounds) := by
  refine Met.ofW (cc := cX5_isSo) (maxL := 5) (ret := (Option.some Jvm.ClassFile.FieldType.boolean)) (by decide) rfl ?_
  intro p e s m args below meth c s₁ B hml hv
  obtain ⟨hargs, hsz, hP, hK, hD0, hN⟩ := hv
  have hx := B.exec
  have hb := B.bytes
  have hr := B.returns
  have htg : ∀ w ∈ gw, w.before args s = true := fun w h => atoms_spec (ws := wU yX5_isSo cX5_isSo 5 ((Option.some Jvm.ClassFile.FieldType.boolean))) B.pre w (List.mem_cons_of_mem _ h)
  have hown : s.vm.findClass RX5 = some m.cls := findClass_of_methodNamed B.named
  have hlocks := B.notSynchronized
  subst hsz
  have hD := hD0.self (sz := s.heap.size)
  have hA : ∀ q : Nat, s.heap.size ≤ q → va_A (w0_X5_isSo cA ad t t_now t_now_kinds t_now_pitches t_shelves_sizes t_shelves_elements t_trial t_trial_heard t_told t_told_sounds) s.heap.size q := fun q h => Or.inr h
  have hS : va_S (va_A (w0_X5_isSo cA ad t t_now t_now_kinds t_now_pitches t_shelves_sizes t_shelves_elements t_trial t_trial_heard t_told t_told_sounds) s.heap.size) s.heap s.heap [] := va_S.rf
  generalize va_A (w0_X5_isSo cA ad t t_now t_now_kinds t_now_pitches t_shelves_sizes t_shelves_elements t_trial t_trial_heard t_told t_told_sounds) s.heap.size = A at hA hD hS ⊢
  obtain ⟨Q, hQ⟩ : ∃ Q : State → Prop, Q = MQ below (va_Qi (fun (r : Int32) (u : (Nat → Int32) × (Nat → Int32)) => (r, u) = out) (pst0 D cA A (w1_X5_isSo cA ad t t_now t_now_kinds t_now_pitches t_shelves_sizes t_shelves_elements t_told t_told_sounds)) A) args s 0 0 A := ⟨_, rfl⟩
  refine (?_ : W p l e rm_X5_isSo s m args below meth c s.heap [] 0 0 (MQ below (va_Qi (fun (r : Int32) (u : (Nat → Int32) × (Nat → Int32)) => (r, u) = out) (pst0 D cA A (w1_X5_isSo cA ad t t_now t_now_kinds t_now_pitches t_shelves_sizes t_shelves_elements t_told t_told_sounds)) A) args s 0 0 A) (entryFrame m args 5))
  rw [← hQ]
  have hP : va_P D CL [((ad 0), e_X5 ad t), ((ad 1), e_X1 (ad 2) (ad 3) (ad 4) t_now), ((ad 2), eI cA 8 t_now_kinds), ((ad 4), eI cA 8 t_now_pitches), ((ad 13), e_X0 (ad 14) (ad 15) (ad 16)), ((ad 15), eI cA 8 t_shelves_sizes), ((ad 16), eJ cA 320 t_shelves_elements), ((ad 20), e_X3 (ad 21) t_trial), ((ad 21), eI cA 13 t_trial_heard), ((ad 24), e_X4 (ad 25) t_told), ((ad 25), eI cA 12 t_told_sounds)] s.heap := hP
  have hD : va_D A [((ad 0), e_X5 ad t), ((ad 1), e_X1 (ad 2) (ad 3) (ad 4) t_now), ((ad 2), eI cA 8 t_now_kinds), ((ad 4), eI cA 8 t_now_pitches), ((ad 13), e_X0 (ad 14) (ad 15) (ad 16)), ((ad 15), eI cA 8 t_shelves_sizes), ((ad 16), eJ cA 320 t_shelves_elements), ((ad 20), e_X3 (ad 21) t_trial), ((ad 21), eI cA 13 t_trial_heard), ((ad 24), e_X4 (ad 25) t_told), ((ad 25), eI cA 12 t_told_sounds)] := hD
  have B_31 : ∀ (t_trial : Nat → Int32) (t_trial_heard : Nat → Int32) (H : Heap) (locs : List Loc) (ls : Array Slot), b_X5_isSo_31 fu t t_now t_now_kinds t_now_pitches t_shelves_sizes t_shelves_elements t_told t_told_sounds t_trial t_trial_heard = some out → va_P D CL [((ad 0), e_X5 ad t), ((ad 1), e_X1 (ad 2) (ad 3) (ad 4) t_now), ((ad 2), eI cA 8 t_now_kinds), ((ad 4), eI cA 8 t_now_pitches), ((ad 13), e_X0 (ad 14) (ad 15) (ad 16)), ((ad 15), eI cA 8 t_shelves_sizes), ((ad 16), eJ cA 320 t_shelves_elements), ((ad 20), e_X3 (ad 21) t_trial), ((ad 21), eI cA 13 t_trial_heard), ((ad 24), e_X4 (ad 25) t_told), ((ad 25), eI cA 12 t_told_sounds)] H → va_D A [((ad 0), e_X5 ad t), ((ad 1), e_X1 (ad 2) (ad 3) (ad 4) t_now), ((ad 2), eI cA 8 t_now_kinds), ((ad 4), eI cA 8 t_now_pitches), ((ad 13), e_X0 (ad 14) (ad 15) (ad 16)), ((ad 15), eI cA 8 t_shelves_sizes), ((ad 16), eJ cA 320 t_shelves_elements), ((ad 20), e_X3 (ad 21) t_trial), ((ad 21), eI cA 13 t_trial_heard), ((ad 24), e_X4 (ad 25) t_told), ((ad 25), eI cA 12 t_told_sounds)] → va_S A s.heap H locs → lv_has ls 5 [(0, .ref (ad 0))] → W p l e rm_X5_isSo s m args below meth c H locs 0 0 Q (F0 m 31 ls []) := by
    intro  t_trial t_trial_heard H locs ls hm hP hD hS hl
    unfold b_X5_isSo_31 at hm
    refine lv_iconst (v := (0 : Int32)) hx hb dX5_isSo_31 (by decide) ?_
    rw [hQ]
    exact W.zret (v := (0 : Int32)) hx hb hr rfl (fun t9 ht hW => ⟨⟨(0 : Int32), (t_trial, t_trial_heard), rfl, (Option.some.inj hm), by rw [ht]; exact hP, va_K.moved hW.alike hK, hD⟩, hS.F ht⟩) hS.2.2 dX5_isSo_32
  have B_88 : ∀ (s0 : Int32) (t_trial : Nat → Int32) (t_trial_heard : Nat → Int32) (H : Heap) (locs : List Loc) (ls : Array Slot), b_X5_isSo_88 fu t t_now t_now_kinds t_now_pitches t_shelves_sizes t_shelves_elements t_told t_told_sounds s0 t_trial t_trial_heard = some out → va_P D CL [((ad 0), e_X5 ad t), ((ad 1), e_X1 (ad 2) (ad 3) (ad 4) t_now), ((ad 2), eI cA 8 t_now_kinds), ((ad 4), eI cA 8 t_now_pitches), ((ad 13), e_X0 (ad 14) (ad 15) (ad 16)), ((ad 15), eI cA 8 t_shelves_sizes), ((ad 16), eJ cA 320 t_shelves_elements), ((ad 20), e_X3 (ad 21) t_trial), ((ad 21), eI cA 13 t_trial_heard), ((ad 24), e_X4 (ad 25) t_told), ((ad 25), eI cA 12 t_told_sounds)] H → va_D A [((ad 0), e_X5 ad t), ((ad 1), e_X1 (ad 2) (ad 3) (ad 4) t_now), ((ad 2), eI cA 8 t_now_kinds), ((ad 4), eI cA 8 t_now_pitches), ((ad 13), e_X0 (ad 14) (ad 15) (ad 16)), ((ad 15), eI cA 8 t_shelves_sizes), ((ad 16), eJ cA 320 t_shelves_elements), ((ad 20), e_X3 (ad 21) t_trial), ((ad 21), eI cA 13 t_trial_heard), ((ad 24), e_X4 (ad 25) t_told), ((ad 25), eI cA 12 t_told_sounds)] → va_S A s.heap H locs → lv_has ls 5 [(0, .ref (ad 0))] → W p l e rm_X5_isSo s m args below meth c H locs 0 0 Q (F0 m 88 ls [.int s0]) := by
    intro  s0 t_trial t_trial_heard H locs ls hm hP hD hS hl
    unfold b_X5_isSo_88 at hm
    obtain ⟨hz1, hm⟩ := gd_s hm
    rw [hQ]
    exact W.zret (v := s0) hx hb hr (bz_nr hz1) (fun t9 ht hW => ⟨⟨s0, (t_trial, t_trial_heard), rfl, (Option.some.inj hm), by rw [ht]; exact hP, va_K.moved hW.alike hK, hD⟩, hS.F ht⟩) hS.2.2 dX5_isSo_88
  unfold m_X5_isSo at hm
  subst hargs
  have hl := lv_entry ([.ref (ad 0), .int l1, .int l2]) (n := 5) (Nat.le_of_ble_eq_true rfl)
  rw [lg_entry_eq]
  generalize (lg_sl ([.ref (ad 0), .int l1, .int l2]) ++ List.replicate (5 - (lg_sl ([.ref (ad 0), .int l1, .int l2])).length) Slot.unset).toArray = ls at hl ⊢
  have hl : lv_has ls 5 [(0, .ref (ad 0)), (1, .int l1), (2, .int l2)] := hl
  refine lv_aload_n hx hb dX5_isSo_0 rfl (lv_at hl 0 rfl) ?_
  refine va_get (D := D) (ci := 5) (v := .ref (ad 13)) (C := RX5) (T := TX5) (N := 17) hx hb htg inX5 hown hK hP 0 rfl rfl 4 (by decide) (htg _ q_1_192) (fun _ h9 => h9) rfl dX5_isSo_1 ?_
  refine lv_iload_n hx hb dX5_isSo_4 rfl (lv_at hl 1 rfl) ?_
  refine lv_iconst (v := (2 : Int32)) hx hb dX5_isSo_5 (by decide) ?_
  refine lv_iload_n hx hb dX5_isSo_6 rfl (lv_at hl 2 rfl) ?_
  refine lv_imul hx hb dX5_isSo_7 ?_
  obtain ⟨o2, ho3, hm⟩ := bd_s hm
  refine xr_l (wr := [((ad 0), e_X5 ad t), ((ad 1), e_X1 (ad 2) (ad 3) (ad 4) t_now), ((ad 2), eI cA 8 t_now_kinds), ((ad 4), eI cA 8 t_now_pitches), ((ad 20), e_X3 (ad 21) t_trial), ((ad 21), eI cA 13 t_trial_heard), ((ad 24), e_X4 (ad 25) t_told), ((ad 25), eI cA 12 t_told_sounds)]) (wn := [((ad 0), e_X5 ad t), ((ad 1), e_X1 (ad 2) (ad 3) (ad 4) t_now), ((ad 2), eI cA 8 t_now_kinds), ((ad 4), eI cA 8 t_now_pitches), ((ad 13), e_X0 (ad 14) (ad 15) (ad 16)), ((ad 15), eI cA 8 t_shelves_sizes), ((ad 16), eJ cA 320 t_shelves_elements), ((ad 20), e_X3 (ad 21) t_trial), ((ad 21), eI cA 13 t_trial_heard), ((ad 24), e_X4 (ad 25) t_told), ((ad 25), eI cA 12 t_told_sounds)]) (va_runVN (As := [.int l1, .int ((2 : Int32) * l2)]) (rest := []) ⟨hx, hb, hml, hown, htg⟩ (c_X0_elementAt l D cA _ fu (ad 13) (ad 14) (ad 15) (ad 16) t_shelves_sizes t_shelves_elements l1 ((2 : Int32) * l2) o2 ho3) ⟨va_cnB 2 htg (gU q_2_77) rfl rfl rfl (hN _ q_2_74) (htg _ q_1_3) hd_X0_elementAt.2 ⟨Nat.le_of_ble_eq_true rfl, Nat.le_of_ble_eq_true rfl⟩, htg _ q_2_76, htg _ q_p1_9⟩ (xpV hN hK hP hD [4, 5, 6] rfl (by decide) rfl rfl) rfl rfl hl.1 rfl (lv_room (Nat.le_of_ble_eq_true rfl)) dX5_isSo_8 ⟨Nat.zero_le _, Nat.zero_le _⟩) hP hD hS hA [4, 5, 6] [0, 1, 2, 3, 7, 8, 9, 10] [0, 1, 2, 3, 8, 9, 10, 4, 5, 6, 7] rfl rfl (by decide) (by decide) rfl (by decide) (fun H locs hP hD hS => ?_)
  refine lv_lstore_n (lv' := [(3, .long o2.1), (0, .ref (ad 0)), (1, .int l1), (2, .int l2)]) hx hb dX5_isSo_11 rfl hl (by decide) rfl (fun ls hl => ?_)
  refine lv_lload_n hx hb dX5_isSo_12 rfl (lv_at hl 0 rfl) ?_
  refine lv_lconst (v := (0 : Int64)) hx hb dX5_isSo_13 (by decide) ?_
  refine W.lcmp hx hb dX5_isSo_14 ?_
  refine lv_if_lt (tgt := 31) hx hb dX5_isSo_15 (by decide) (fun c4 => ?_) (fun c4 => ?_)
  · have hm := it_t c4 hm
    exact B_31 _ _ _ _ _ hm hP hD hS (lv_sub hl [1] rfl)
  · have hm := it_f c4 hm
    refine lv_lload_n hx hb dX5_isSo_18 rfl (lv_at hl 0 rfl) ?_
    refine lv_aload_n hx hb dX5_isSo_19 rfl (lv_at hl 1 rfl) ?_
    refine va_get (D := D) (ci := 5) (v := .ref (ad 1)) (C := RX5) (T := TX5) (N := 17) hx hb htg inX5 hown hK hP 0 rfl rfl 0 (by decide) (htg _ q_1_188) (fun _ h9 => h9) rfl dX5_isSo_20 ?_
    refine va_getN (D := D) (ci := 1) (v := .int (t_now 8)) (C := RX1) (T := TX1) (N := 12) hx hb htg inX1 hown hK hP 1 rfl rfl 8 (by decide) (va_Nw.use rfl (hN _ q_1_58)) (fun _ h9 => h9) rfl dX5_isSo_23 ?_
    refine lv_i2l hx hb dX5_isSo_26 rfl ?_
    refine W.lcmp hx hb dX5_isSo_27 ?_
    refine lv_if_lt (tgt := 33) hx hb dX5_isSo_28 (by decide) (fun c5 => ?_) (fun c5 => ?_)
    · have hm := it_t c5 hm
      refine lv_aload_n hx hb dX5_isSo_33 rfl (lv_at hl 1 rfl) ?_
      refine va_get (D := D) (ci := 5) (v := .ref (ad 20)) (C := RX5) (T := TX5) (N := 17) hx hb htg inX5 hown hK hP 0 rfl rfl 7 (by decide) (htg _ q_1_195) (fun _ h9 => h9) rfl dX5_isSo_34 ?_
      refine lv_aload_n hx hb dX5_isSo_37 rfl (lv_at hl 1 rfl) ?_
      refine va_get (D := D) (ci := 5) (v := .ref (ad 1)) (C := RX5) (T := TX5) (N := 17) hx hb htg inX5 hown hK hP 0 rfl rfl 0 (by decide) (htg _ q_1_188) (fun _ h9 => h9) rfl dX5_isSo_38 ?_
      refine lv_lload_n hx hb dX5_isSo_41 rfl (lv_at hl 0 rfl) ?_
      refine lv_l2i hx hb dX5_isSo_42 rfl ?_
      obtain ⟨o6, ho7, hm⟩ := bd_s hm
      refine xr_v (wr := [((ad 0), e_X5 ad t), ((ad 13), e_X0 (ad 14) (ad 15) (ad 16)), ((ad 15), eI cA 8 t_shelves_sizes), ((ad 16), eJ cA 320 t_shelves_elements), ((ad 21), eI cA 13 t_trial_heard), ((ad 24), e_X4 (ad 25) t_told), ((ad 25), eI cA 12 t_told_sounds)]) (wn := [((ad 0), e_X5 ad t), ((ad 1), e_X1 (ad 2) (ad 3) (ad 4) t_now), ((ad 2), eI cA 8 t_now_kinds), ((ad 4), eI cA 8 t_now_pitches), ((ad 13), e_X0 (ad 14) (ad 15) (ad 16)), ((ad 15), eI cA 8 t_shelves_sizes), ((ad 16), eJ cA 320 t_shelves_elements), ((ad 20), e_X3 (ad 21) o6), ((ad 21), eI cA 13 t_trial_heard), ((ad 24), e_X4 (ad 25) t_told), ((ad 25), eI cA 12 t_told_sounds)]) (va_runVN (As := [.ref (ad 1), .int o2.1.toInt32]) (rest := []) ⟨hx, hb, hml, hown, htg⟩ (c_X3_standsFor l D cA _ fu (ad 20) (ad 21) (ad 1) (ad 2) (ad 3) (ad 4) t_trial t_now t_now_kinds t_now_pitches o2.1.toInt32 o6 ho7) ⟨va_cnB 2 htg (gU q_2_126) rfl rfl rfl (hN _ q_2_123) (htg _ q_1_6) hd_X3_standsFor.2 ⟨Nat.le_of_ble_eq_true rfl, Nat.le_of_ble_eq_true rfl⟩, htg _ q_2_125, htg _ q_p2_0⟩ (xpV hN hK hP hD [7, 1, 2, 3] rfl (by decide) rfl rfl) rfl rfl hl.1 rfl (lv_room (Nat.le_of_ble_eq_true rfl)) dX5_isSo_43 ⟨Nat.zero_le _, Nat.zero_le _⟩) hP hD hS hA [7, 1, 2, 3] [0, 4, 5, 6, 8, 9, 10] [0, 8, 9, 10, 1, 2, 3, 7, 4, 5, 6] rfl rfl (by decide) (by decide) rfl (by decide) (fun H locs hP hD hS => ?_)
      refine lv_aload_n hx hb dX5_isSo_46 rfl (lv_at hl 1 rfl) ?_
      refine va_get (D := D) (ci := 5) (v := .ref (ad 20)) (C := RX5) (T := TX5) (N := 17) hx hb htg inX5 hown hK hP 0 rfl rfl 7 (by decide) (htg _ q_1_195) (fun _ h9 => h9) rfl dX5_isSo_47 ?_
      refine lv_iload_n hx hb dX5_isSo_50 rfl (lv_at hl 3 rfl) ?_
      obtain ⟨o8, ho9, hm⟩ := bd_s hm
      refine xr_v (wr := [((ad 0), e_X5 ad t), ((ad 1), e_X1 (ad 2) (ad 3) (ad 4) t_now), ((ad 2), eI cA 8 t_now_kinds), ((ad 4), eI cA 8 t_now_pitches), ((ad 13), e_X0 (ad 14) (ad 15) (ad 16)), ((ad 15), eI cA 8 t_shelves_sizes), ((ad 16), eJ cA 320 t_shelves_elements), ((ad 21), eI cA 13 t_trial_heard), ((ad 24), e_X4 (ad 25) t_told), ((ad 25), eI cA 12 t_told_sounds)]) (wn := [((ad 0), e_X5 ad t), ((ad 1), e_X1 (ad 2) (ad 3) (ad 4) t_now), ((ad 2), eI cA 8 t_now_kinds), ((ad 4), eI cA 8 t_now_pitches), ((ad 13), e_X0 (ad 14) (ad 15) (ad 16)), ((ad 15), eI cA 8 t_shelves_sizes), ((ad 16), eJ cA 320 t_shelves_elements), ((ad 20), e_X3 (ad 21) o8), ((ad 21), eI cA 13 t_trial_heard), ((ad 24), e_X4 (ad 25) t_told), ((ad 25), eI cA 12 t_told_sounds)]) (va_runVN (As := [.int l2]) (rest := []) ⟨hx, hb, hml, hown, htg⟩ (c_X3_passDays l D cA _ fu (ad 20) (ad 21) o6 l2 o8 ho9) ⟨va_cnB 1 htg (gU q_3_214) rfl rfl rfl (hN _ q_3_211) (htg _ q_1_6) hd_X3_passDays.2 ⟨Nat.le_of_ble_eq_true rfl, Nat.le_of_ble_eq_true rfl⟩, htg _ q_3_213, htg _ q_p4_1⟩ (xpV hN hK hP hD [7] rfl (by decide) rfl rfl) rfl rfl hl.1 rfl (lv_room (Nat.le_of_ble_eq_true rfl)) dX5_isSo_51 ⟨Nat.zero_le _, Nat.zero_le _⟩) hP hD hS hA [7] [0, 1, 2, 3, 4, 5, 6, 8, 9, 10] [0, 1, 2, 3, 4, 5, 6, 10, 7, 8, 9] rfl rfl (by decide) (by decide) rfl (by decide) (fun H locs hP hD hS => ?_)
      refine lv_aload_n hx hb dX5_isSo_54 rfl (lv_at hl 1 rfl) ?_
      refine va_get (D := D) (ci := 5) (v := .ref (ad 20)) (C := RX5) (T := TX5) (N := 17) hx hb htg inX5 hown hK hP 0 rfl rfl 7 (by decide) (htg _ q_1_195) (fun _ h9 => h9) rfl dX5_isSo_55 ?_
      refine lv_aload_n hx hb dX5_isSo_58 rfl (lv_at hl 1 rfl) ?_
      refine va_get (D := D) (ci := 5) (v := .ref (ad 24)) (C := RX5) (T := TX5) (N := 17) hx hb htg inX5 hown hK hP 0 rfl rfl 9 (by decide) (htg _ q_1_197) (fun _ h9 => h9) rfl dX5_isSo_59 ?_
      obtain ⟨o10, ho11, hm⟩ := bd_s hm
      refine xr_i (wr := [((ad 0), e_X5 ad t), ((ad 1), e_X1 (ad 2) (ad 3) (ad 4) t_now), ((ad 2), eI cA 8 t_now_kinds), ((ad 4), eI cA 8 t_now_pitches), ((ad 13), e_X0 (ad 14) (ad 15) (ad 16)), ((ad 15), eI cA 8 t_shelves_sizes), ((ad 16), eJ cA 320 t_shelves_elements)]) (wn := [((ad 0), e_X5 ad t), ((ad 1), e_X1 (ad 2) (ad 3) (ad 4) t_now), ((ad 2), eI cA 8 t_now_kinds), ((ad 4), eI cA 8 t_now_pitches), ((ad 13), e_X0 (ad 14) (ad 15) (ad 16)), ((ad 15), eI cA 8 t_shelves_sizes), ((ad 16), eJ cA 320 t_shelves_elements), ((ad 20), e_X3 (ad 21) o10.2.1), ((ad 21), eI cA 13 o10.2.2), ((ad 24), e_X4 (ad 25) t_told), ((ad 25), eI cA 12 t_told_sounds)]) (va_runVN (As := [.ref (ad 24)]) (rest := []) ⟨hx, hb, hml, hown, htg⟩ (c_X3_weighs l D cA _ fu (ad 20) (ad 21) (ad 24) (ad 25) o8 t_trial_heard t_told t_told_sounds o10 ho11) ⟨va_cnB 1 htg (gU q_3_118) rfl rfl rfl (hN _ q_3_115) (htg _ q_1_6) hd_X3_weighs.2 ⟨Nat.le_of_ble_eq_true rfl, Nat.le_of_ble_eq_true rfl⟩, htg _ q_3_117, htg _ q_p3_11⟩ (xpV hN hK hP hD [7, 8, 9, 10] rfl (by decide) rfl rfl) rfl rfl hl.1 rfl (lv_room (Nat.le_of_ble_eq_true rfl)) dX5_isSo_62 ⟨Nat.zero_le _, Nat.zero_le _⟩) hP hD hS hA [7, 8, 9, 10] [0, 1, 2, 3, 4, 5, 6] [0, 1, 2, 3, 4, 5, 6, 7, 8, 9, 10] rfl rfl (by decide) (by decide) rfl (by decide) (fun H locs hP hD hS => ?_)
      refine lv_i2l hx hb dX5_isSo_65 rfl ?_
      refine lv_aload_n hx hb dX5_isSo_66 rfl (lv_at hl 1 rfl) ?_
      refine va_get (D := D) (ci := 5) (v := .ref (ad 13)) (C := RX5) (T := TX5) (N := 17) hx hb htg inX5 hown hK hP 0 rfl rfl 4 (by decide) (htg _ q_1_192) (fun _ h9 => h9) rfl dX5_isSo_67 ?_
      refine lv_iload_n hx hb dX5_isSo_70 rfl (lv_at hl 2 rfl) ?_
      refine lv_iconst (v := (2 : Int32)) hx hb dX5_isSo_71 (by decide) ?_
      refine lv_iload_n hx hb dX5_isSo_72 rfl (lv_at hl 3 rfl) ?_
      refine lv_imul hx hb dX5_isSo_73 ?_
      refine lv_iconst (v := (1 : Int32)) hx hb dX5_isSo_74 (by decide) ?_
      refine lv_iadd hx hb dX5_isSo_75 ?_
      obtain ⟨o12, ho13, hm⟩ := bd_s hm
      refine xr_l (wr := [((ad 0), e_X5 ad t), ((ad 1), e_X1 (ad 2) (ad 3) (ad 4) t_now), ((ad 2), eI cA 8 t_now_kinds), ((ad 4), eI cA 8 t_now_pitches), ((ad 20), e_X3 (ad 21) o10.2.1), ((ad 21), eI cA 13 o10.2.2), ((ad 24), e_X4 (ad 25) t_told), ((ad 25), eI cA 12 t_told_sounds)]) (wn := [((ad 0), e_X5 ad t), ((ad 1), e_X1 (ad 2) (ad 3) (ad 4) t_now), ((ad 2), eI cA 8 t_now_kinds), ((ad 4), eI cA 8 t_now_pitches), ((ad 13), e_X0 (ad 14) (ad 15) (ad 16)), ((ad 15), eI cA 8 t_shelves_sizes), ((ad 16), eJ cA 320 t_shelves_elements), ((ad 20), e_X3 (ad 21) o10.2.1), ((ad 21), eI cA 13 o10.2.2), ((ad 24), e_X4 (ad 25) t_told), ((ad 25), eI cA 12 t_told_sounds)]) (va_runVN (As := [.int l1, .int (((2 : Int32) * l2) + (1 : Int32))]) (rest := [.long o10.1.toInt64]) ⟨hx, hb, hml, hown, htg⟩ (c_X0_elementAt l D cA _ fu (ad 13) (ad 14) (ad 15) (ad 16) t_shelves_sizes t_shelves_elements l1 (((2 : Int32) * l2) + (1 : Int32)) o12 ho13) ⟨va_cnB 2 htg (gU q_2_77) rfl rfl rfl (hN _ q_2_74) (htg _ q_1_3) hd_X0_elementAt.2 ⟨Nat.le_of_ble_eq_true rfl, Nat.le_of_ble_eq_true rfl⟩, htg _ q_2_76, htg _ q_p1_9⟩ (xpV hN hK hP hD [4, 5, 6] rfl (by decide) rfl rfl) rfl rfl hl.1 rfl (lv_room (Nat.le_of_ble_eq_true rfl)) dX5_isSo_76 ⟨Nat.zero_le _, Nat.zero_le _⟩) hP hD hS hA [4, 5, 6] [0, 1, 2, 3, 7, 8, 9, 10] [0, 1, 2, 3, 8, 9, 10, 4, 5, 6, 7] rfl rfl (by decide) (by decide) rfl (by decide) (fun H locs hP hD hS => ?_)
      refine W.lcmp hx hb dX5_isSo_79 ?_
      refine lv_if_ne (tgt := 87) hx hb dX5_isSo_80 (by decide) (fun c14 => ?_) (fun c14 => ?_)
      · have hm := it_f c14 hm
        refine lv_iconst (v := (0 : Int32)) hx hb dX5_isSo_87 (by decide) ?_
        exact B_88 _ _ _ _ _ _ hm hP hD hS (lv_sub hl [1] rfl)
      · have hm := it_t c14 hm
        refine lv_iconst (v := (1 : Int32)) hx hb dX5_isSo_83 (by decide) ?_
        refine lv_goto (tgt := 88) hx hb dX5_isSo_84 (by decide) ?_
        exact B_88 _ _ _ _ _ _ hm hP hD hS (lv_sub hl [1] rfl)
    · have hm := it_f c5 hm
      exact B_31 _ _ _ _ _ hm hP hD hS (lv_sub hl [1] rfl)
def b_X5_judge_32 (fu : Nat) (t : Nat → Int32) (t_now : Nat → Int32) (t_now_kinds : Nat → Int32) (t_now_pitches : Nat → Int32) (t_shelves_holding : Nat → Int32) (t_shelves_sizes : Nat → Int32) (t_shelves_elements : Nat → Int64) (k_32 : (Int32 × Int32 × Int32 × (Nat → Int32) × (Nat → Int32) × (Nat → Int32) × (Nat → Int32) × (Nat → Int32)) → Option (Int32 × ((Nat → Int32) × (Nat → Int32) × (Nat → Int32) × (Nat → Int32) × (Nat → Int32)))) (x : Int32 × Int32 × Int32 × (Nat → Int32) × (Nat → Int32) × (Nat → Int32) × (Nat → Int32) × (Nat → Int32)) : Option (Int32 × ((Nat → Int32) × (Nat → Int32) × (Nat → Int32) × (Nat → Int32) × (Nat → Int32))) :=
  (if x.2.1 ≤ x.2.2.1 then
        some ((-1 : Int32), (x.2.2.2.1, x.2.2.2.2.1, x.2.2.2.2.2.1, x.2.2.2.2.2.2.1, x.2.2.2.2.2.2.2))
      else
        (m_X5_isSo fu t t_now t_now_kinds t_now_pitches t_shelves_sizes t_shelves_elements x.2.2.2.2.1 x.2.2.2.2.2.1 x.2.2.2.2.2.2.1 x.2.2.2.2.2.2.2 x.1 x.2.2.1).bind fun o2 =>
        (if o2.1 = 0 then
          some (x.2.2.1, (x.2.2.2.1, o2.2.1, o2.2.2, x.2.2.2.2.2.2.1, x.2.2.2.2.2.2.2))
        else
          k_32 (x.1, x.2.1, (x.2.2.1 + (1 : Int32)), x.2.2.2.1, o2.2.1, o2.2.2, x.2.2.2.2.2.2.1, x.2.2.2.2.2.2.2)))
def m_X5_judge (fu : Nat) (t : Nat → Int32) (t_now : Nat → Int32) (t_now_kinds : Nat → Int32) (t_now_pitches : Nat → Int32) (t_shelves_holding : Nat → Int32) (t_shelves_sizes : Nat → Int32) (t_shelves_elements : Nat → Int64) (t_refusals : Nat → Int32) (t_trial : Nat → Int32) (t_trial_heard : Nat → Int32) (t_told : Nat → Int32) (t_told_sounds : Nat → Int32) (l1 : Int32) (l2 : Int32) (l3 : Int32) (l4 : Int32) : Option (Int32 × ((Nat → Int32) × (Nat → Int32) × (Nat → Int32) × (Nat → Int32) × (Nat → Int32))) :=
  (m_X5_isWithin fu l4 (0 : Int32) (20 : Int32)).bind fun o5 =>
  (m_X5_takeWordAndRow fu t t_shelves_holding t_shelves_sizes t_shelves_elements t_refusals t_told t_told_sounds l1 l2 l3 ((2 : Int32) * l4) o5.1).bind fun o7 =>
  (if o7.1 = 0 then
    lfix (b_X5_judge_32 fu t t_now t_now_kinds t_now_pitches t_shelves_holding t_shelves_sizes t_shelves_elements) fu (l3, l4, (0 : Int32), o7.2.1, t_trial, t_trial_heard, o7.2.2.1, o7.2.2.2)
  else
    some (o7.1, (o7.2.1, t_trial, t_trial_heard, o7.2.2.1, o7.2.2.2)))
abbrev rm_X5_judge : Room := ({ frames := 6, cells := 0, slots := 0, locals := 133 } : Room)
abbrev w0_X5_judge (cA : Nat → ClassId) (ad : Nat → Nat) (t : Nat → Int32) (t_now : Nat → Int32) (t_now_kinds : Nat → Int32) (t_now_pitches : Nat → Int32) (t_shelves_holding : Nat → Int32) (t_shelves_sizes : Nat → Int32) (t_shelves_elements : Nat → Int64) (t_refusals : Nat → Int32) (t_trial : Nat → Int32) (t_trial_heard : Nat → Int32) (t_told : Nat → Int32) (t_told_sounds : Nat → Int32) : va_W := [((ad 0), e_X5 ad t), ((ad 1), e_X1 (ad 2) (ad 3) (ad 4) t_now), ((ad 2), eI cA 8 t_now_kinds), ((ad 4), eI cA 8 t_now_pitches), ((ad 13), e_X0 (ad 14) (ad 15) (ad 16)), ((ad 14), eI cA 8 t_shelves_holding), ((ad 15), eI cA 8 t_shelves_sizes), ((ad 16), eJ cA 320 t_shelves_elements), ((ad 19), eI cA 5 t_refusals), ((ad 20), e_X3 (ad 21) t_trial), ((ad 21), eI cA 13 t_trial_heard), ((ad 24), e_X4 (ad 25) t_told), ((ad 25), eI cA 12 t_told_sounds)]
abbrev w1_X5_judge (cA : Nat → ClassId) (ad : Nat → Nat) (t : Nat → Int32) (t_now : Nat → Int32) (t_now_kinds : Nat → Int32) (t_now_pitches : Nat → Int32) (t_shelves_holding : Nat → Int32) (t_shelves_sizes : Nat → Int32) (t_shelves_elements : Nat → Int64) (u : (Nat → Int32) × (Nat → Int32) × (Nat → Int32) × (Nat → Int32) × (Nat → Int32)) : va_W := [((ad 0), e_X5 ad t), ((ad 1), e_X1 (ad 2) (ad 3) (ad 4) t_now), ((ad 2), eI cA 8 t_now_kinds), ((ad 4), eI cA 8 t_now_pitches), ((ad 13), e_X0 (ad 14) (ad 15) (ad 16)), ((ad 14), eI cA 8 t_shelves_holding), ((ad 15), eI cA 8 t_shelves_sizes), ((ad 16), eJ cA 320 t_shelves_elements), ((ad 19), eI cA 5 u.1), ((ad 20), e_X3 (ad 21) u.2.1), ((ad 21), eI cA 13 u.2.2.1), ((ad 24), e_X4 (ad 25) u.2.2.2.1), ((ad 25), eI cA 12 u.2.2.2.2)]
theorem hd_X5_judge : yX5_judge.cls = RX5 ∧ yX5_judge.cls ≠ "java/lang/invoke/MethodHandle" ∧ yX5_judge.cls ≠ "java/lang/invoke/VarHandle" ∧ (parseMethodDescriptor yX5_judge.desc).map (fun d => d.parameters.length) = some 4 := by decide +kernel
set_option maxHeartbeats 40000000 in
set_option maxRecDepth 100000 in
theorem c_X5_judge (l : Launch) (D : va_G) (cA : Nat → ClassId) (sz : Nat) (fu : Nat) (ad : Nat → Nat) (t : Nat → Int32) (t_now : Nat → Int32) (t_now_kinds : Nat → Int32) (t_now_pitches : Nat → Int32) (t_shelves_holding : Nat → Int32) (t_shelves_sizes : Nat → Int32) (t_shelves_elements : Nat → Int64) (t_refusals : Nat → Int32) (t_trial : Nat → Int32) (t_trial_heard : Nat → Int32) (t_told : Nat → Int32) (t_told_sounds : Nat → Int32) (l1 : Int32) (l2 : Int32) (l3 : Int32) (l4 : Int32) (out : Int32 × ((Nat → Int32) × (Nat → Int32) × (Nat → Int32) × (Nat → Int32) × (Nat → Int32))) (hm : m_X5_judge fu t t_now t_now_kinds t_now_pitches t_shelves_holding t_shelves_sizes t_shelves_elements t_refusals t_trial t_trial_heard t_told t_told_sounds l1 l2 l3 l4 = some out) : MI l yX5_judge (wU yX5_judge cX5_judge 7 ((Option.some Jvm.ClassFile.FieldType.int))) rm_X5_judge D cA sz [.ref (ad 0), .int l1, .int l2, .int l3, .int l4] (w0_X5_judge cA ad t t_now t_now_kinds t_now_pitches t_shelves_holding t_shelves_sizes t_shelves_elements t_refusals t_trial t_trial_heard t_told t_told_sounds) out (w1_X5_judge cA ad t t_now t_now_kinds t_now_pitches t_shelves_holding t_shelves_sizes t_shelves_elements) := by
  refine Met.ofW (cc := cX5_judge) (maxL := 7) (ret := (Option.some Jvm.ClassFile.FieldType.int)) (by decide) rfl ?_
  intro p e s m args below meth c s₁ B hml hv
  obtain ⟨hargs, hsz, hP, hK, hD0, hN⟩ := hv
  have hx := B.exec
  have hb := B.bytes
  have hr := B.returns
  have htg : ∀ w ∈ gw, w.before args s = true := fun w h => atoms_spec (ws := wU yX5_judge cX5_judge 7 ((Option.some Jvm.ClassFile.FieldType.int))) B.pre w (List.mem_cons_of_mem _ h)
  have hown : s.vm.findClass RX5 = some m.cls := findClass_of_methodNamed B.named
  have hlocks := B.notSynchronized
  subst hsz
  have hD := hD0.self (sz := s.heap.size)
  have hA : ∀ q : Nat, s.heap.size ≤ q → va_A (w0_X5_judge cA ad t t_now t_now_kinds t_now_pitches t_shelves_holding t_shelves_sizes t_shelves_elements t_refusals t_trial t_trial_heard t_told t_told_sounds) s.heap.size q := fun q h => Or.inr h
  have hS : va_S (va_A (w0_X5_judge cA ad t t_now t_now_kinds t_now_pitches t_shelves_holding t_shelves_sizes t_shelves_elements t_refusals t_trial t_trial_heard t_told t_told_sounds) s.heap.size) s.heap s.heap [] := va_S.rf
  generalize va_A (w0_X5_judge cA ad t t_now t_now_kinds t_now_pitches t_shelves_holding t_shelves_sizes t_shelves_elements t_refusals t_trial t_trial_heard t_told t_told_sounds) s.heap.size = A at hA hD hS ⊢
  obtain ⟨Q, hQ⟩ : ∃ Q : State → Prop, Q = MQ below (va_Qi (fun (r : Int32) (u : (Nat → Int32) × (Nat → Int32) × (Nat → Int32) × (Nat → Int32) × (Nat → Int32)) => (r, u) = out) (pst0 D cA A (w1_X5_judge cA ad t t_now t_now_kinds t_now_pitches t_shelves_holding t_shelves_sizes t_shelves_elements)) A) args s 0 0 A := ⟨_, rfl⟩
  refine (?_ : W p l e rm_X5_judge s m args below meth c s.heap [] 0 0 (MQ below (va_Qi (fun (r : Int32) (u : (Nat → Int32) × (Nat → Int32) × (Nat → Int32) × (Nat → Int32) × (Nat → Int32)) => (r, u) = out) (pst0 D cA A (w1_X5_judge cA ad t t_now t_now_kinds t_now_pitches t_shelves_holding t_shelves_sizes t_shelves_elements)) A) args s 0 0 A) (entryFrame m args 7))
  rw [← hQ]
  have hP : va_P D CL [((ad 0), e_X5 ad t), ((ad 1), e_X1 (ad 2) (ad 3) (ad 4) t_now), ((ad 2), eI cA 8 t_now_kinds), ((ad 4), eI cA 8 t_now_pitches), ((ad 13), e_X0 (ad 14) (ad 15) (ad 16)), ((ad 14), eI cA 8 t_shelves_holding), ((ad 15), eI cA 8 t_shelves_sizes), ((ad 16), eJ cA 320 t_shelves_elements), ((ad 19), eI cA 5 t_refusals), ((ad 20), e_X3 (ad 21) t_trial), ((ad 21), eI cA 13 t_trial_heard), ((ad 24), e_X4 (ad 25) t_told), ((ad 25), eI cA 12 t_told_sounds)] s.heap := hP
  have hD : va_D A [((ad 0), e_X5 ad t), ((ad 1), e_X1 (ad 2) (ad 3) (ad 4) t_now), ((ad 2), eI cA 8 t_now_kinds), ((ad 4), eI cA 8 t_now_pitches), ((ad 13), e_X0 (ad 14) (ad 15) (ad 16)), ((ad 14), eI cA 8 t_shelves_holding), ((ad 15), eI cA 8 t_shelves_sizes), ((ad 16), eJ cA 320 t_shelves_elements), ((ad 19), eI cA 5 t_refusals), ((ad 20), e_X3 (ad 21) t_trial), ((ad 21), eI cA 13 t_trial_heard), ((ad 24), e_X4 (ad 25) t_told), ((ad 25), eI cA 12 t_told_sounds)] := hD
  have B_32 : ∀ (n : Nat) (x : Int32 × Int32 × Int32 × (Nat → Int32) × (Nat → Int32) × (Nat → Int32) × (Nat → Int32) × (Nat → Int32)) (H : Heap) (locs : List Loc) (ls : Array Slot), lfix (b_X5_judge_32 fu t t_now t_now_kinds t_now_pitches t_shelves_holding t_shelves_sizes t_shelves_elements) n x = some out → va_P D CL [((ad 0), e_X5 ad t), ((ad 1), e_X1 (ad 2) (ad 3) (ad 4) t_now), ((ad 2), eI cA 8 t_now_kinds), ((ad 4), eI cA 8 t_now_pitches), ((ad 13), e_X0 (ad 14) (ad 15) (ad 16)), ((ad 14), eI cA 8 t_shelves_holding), ((ad 15), eI cA 8 t_shelves_sizes), ((ad 16), eJ cA 320 t_shelves_elements), ((ad 19), eI cA 5 x.2.2.2.1), ((ad 20), e_X3 (ad 21) x.2.2.2.2.1), ((ad 21), eI cA 13 x.2.2.2.2.2.1), ((ad 24), e_X4 (ad 25) x.2.2.2.2.2.2.1), ((ad 25), eI cA 12 x.2.2.2.2.2.2.2)] H → va_D A [((ad 0), e_X5 ad t), ((ad 1), e_X1 (ad 2) (ad 3) (ad 4) t_now), ((ad 2), eI cA 8 t_now_kinds), ((ad 4), eI cA 8 t_now_pitches), ((ad 13), e_X0 (ad 14) (ad 15) (ad 16)), ((ad 14), eI cA 8 t_shelves_holding), ((ad 15), eI cA 8 t_shelves_sizes), ((ad 16), eJ cA 320 t_shelves_elements), ((ad 19), eI cA 5 x.2.2.2.1), ((ad 20), e_X3 (ad 21) x.2.2.2.2.1), ((ad 21), eI cA 13 x.2.2.2.2.2.1), ((ad 24), e_X4 (ad 25) x.2.2.2.2.2.2.1), ((ad 25), eI cA 12 x.2.2.2.2.2.2.2)] → va_S A s.heap H locs → lv_has ls 7 [(0, .ref (ad 0)), (3, .int x.1), (4, .int x.2.1), (6, .int x.2.2.1)] → W p l e rm_X5_judge s m args below meth c H locs 0 0 Q (F0 m 32 ls []) := by
    intro  n
    induction n with
    | zero => intro x H locs ls hm; cases (show none = some out from hm)
    | succ n HK_32 =>
      intro x H locs ls hm hP hD hS hl
      replace hm : b_X5_judge_32 fu t t_now t_now_kinds t_now_pitches t_shelves_holding t_shelves_sizes t_shelves_elements (lfix (b_X5_judge_32 fu t t_now t_now_kinds t_now_pitches t_shelves_holding t_shelves_sizes t_shelves_elements) n) x = some out := hm
      unfold b_X5_judge_32 at hm
      refine lv_iload hx hb dX5_judge_32 (lv_at hl 3 rfl) ?_
      refine lv_iload hx hb dX5_judge_34 (lv_at hl 2 rfl) ?_
      refine lv_icmp_ge (tgt := 58) hx hb dX5_judge_36 (by decide) (fun c1 => ?_) (fun c1 => ?_)
      · have hm := it_t c1 hm
        refine lv_iconst (v := (-1 : Int32)) hx hb dX5_judge_58 (by decide) ?_
        rw [hQ]
        exact W.iret (v := (-1 : Int32)) hx hb hr (fun t9 ht hW => ⟨⟨(-1 : Int32), (x.2.2.2.1, x.2.2.2.2.1, x.2.2.2.2.2.1, x.2.2.2.2.2.2.1, x.2.2.2.2.2.2.2), rfl, (Option.some.inj hm), by rw [ht]; exact hP, va_K.moved hW.alike hK, hD⟩, hS.F ht⟩) hS.2.2 dX5_judge_59
      · have hm := it_f c1 hm
        refine lv_aload_n hx hb dX5_judge_39 rfl (lv_at hl 0 rfl) ?_
        refine lv_iload_n hx hb dX5_judge_40 rfl (lv_at hl 1 rfl) ?_
        refine lv_iload hx hb dX5_judge_41 (lv_at hl 3 rfl) ?_
        obtain ⟨o2, ho3, hm⟩ := bd_s hm
        refine xr_i (wr := [((ad 14), eI cA 8 t_shelves_holding), ((ad 19), eI cA 5 x.2.2.2.1)]) (wn := [((ad 0), e_X5 ad t), ((ad 1), e_X1 (ad 2) (ad 3) (ad 4) t_now), ((ad 2), eI cA 8 t_now_kinds), ((ad 4), eI cA 8 t_now_pitches), ((ad 13), e_X0 (ad 14) (ad 15) (ad 16)), ((ad 14), eI cA 8 t_shelves_holding), ((ad 15), eI cA 8 t_shelves_sizes), ((ad 16), eJ cA 320 t_shelves_elements), ((ad 19), eI cA 5 x.2.2.2.1), ((ad 20), e_X3 (ad 21) o2.2.1), ((ad 21), eI cA 13 o2.2.2), ((ad 24), e_X4 (ad 25) x.2.2.2.2.2.2.1), ((ad 25), eI cA 12 x.2.2.2.2.2.2.2)]) (va_runV (As := [.int x.1, .int x.2.2.1]) (rest := []) ⟨hx, hb, hml, hown, htg⟩ (c_X5_isSo l D cA _ fu ad t t_now t_now_kinds t_now_pitches t_shelves_sizes t_shelves_elements x.2.2.2.2.1 x.2.2.2.2.2.1 x.2.2.2.2.2.2.1 x.2.2.2.2.2.2.2 x.1 x.2.2.1 o2 ho3) (cwV 2 htg (gV q_4_116 q_4_118 q_p5_1 q_1_1 q_4_119) rfl rfl rfl hd_X5_isSo ⟨Nat.le_of_ble_eq_true rfl, Nat.le_of_ble_eq_true rfl⟩) (xpV hN hK hP hD [0, 1, 2, 3, 4, 6, 7, 9, 10, 11, 12] rfl (by decide) rfl rfl) rfl rfl hl.1 rfl (lv_room (Nat.le_of_ble_eq_true rfl)) dX5_judge_43 ⟨Nat.zero_le _, Nat.zero_le _⟩) hP hD hS hA [0, 1, 2, 3, 4, 6, 7, 9, 10, 11, 12] [5, 8] [2, 3, 4, 5, 6, 0, 7, 8, 1, 9, 10, 11, 12] rfl rfl (by decide) (by decide) rfl (by decide) (fun H locs hP hD hS => ?_)
        refine lv_if_ne (tgt := 52) hx hb dX5_judge_46 (by decide) (fun c4 => ?_) (fun c4 => ?_)
        · have hm := it_f c4 hm
          refine lv_iinc (v := (x.2.2.1 + (1 : Int32))) (lv' := [(6, .int (x.2.2.1 + (1 : Int32))), (0, .ref (ad 0)), (3, .int x.1), (4, .int x.2.1)]) hx hb dX5_judge_52 hl (k := 3) rfl rfl (by decide) rfl (fun ls hl => ?_)
          refine lv_goto (tgt := 32) hx hb dX5_judge_55 (by decide) ?_
          exact HK_32 _ _ _ _ hm hP hD hS (lv_sub hl [1, 2, 3, 0] rfl)
        · have hm := it_t c4 hm
          refine lv_iload hx hb dX5_judge_49 (lv_at hl 3 rfl) ?_
          rw [hQ]
          exact W.iret (v := x.2.2.1) hx hb hr (fun t9 ht hW => ⟨⟨x.2.2.1, (x.2.2.2.1, o2.2.1, o2.2.2, x.2.2.2.2.2.2.1, x.2.2.2.2.2.2.2), rfl, (Option.some.inj hm), by rw [ht]; exact hP, va_K.moved hW.alike hK, hD⟩, hS.F ht⟩) hS.2.2 dX5_judge_51
  unfold m_X5_judge at hm
  subst hargs
  have hl := lv_entry ([.ref (ad 0), .int l1, .int l2, .int l3, .int l4]) (n := 7) (Nat.le_of_ble_eq_true rfl)
  rw [lg_entry_eq]
  generalize (lg_sl ([.ref (ad 0), .int l1, .int l2, .int l3, .int l4]) ++ List.replicate (7 - (lg_sl ([.ref (ad 0), .int l1, .int l2, .int l3, .int l4])).length) Slot.unset).toArray = ls at hl ⊢
  have hl : lv_has ls 7 [(0, .ref (ad 0)), (1, .int l1), (2, .int l2), (3, .int l3), (4, .int l4)] := hl
  refine lv_aload_n hx hb dX5_judge_0 rfl (lv_at hl 0 rfl) ?_
  refine lv_iload_n hx hb dX5_judge_1 rfl (lv_at hl 1 rfl) ?_
  refine lv_iload_n hx hb dX5_judge_2 rfl (lv_at hl 2 rfl) ?_
  refine lv_iload_n hx hb dX5_judge_3 rfl (lv_at hl 3 rfl) ?_
  refine lv_iconst (v := (2 : Int32)) hx hb dX5_judge_4 (by decide) ?_
  refine lv_iload hx hb dX5_judge_5 (lv_at hl 4 rfl) ?_
  refine lv_imul hx hb dX5_judge_7 ?_
  refine lv_iload hx hb dX5_judge_8 (lv_at hl 4 rfl) ?_
  refine lv_iconst (v := (0 : Int32)) hx hb dX5_judge_10 (by decide) ?_
  refine lv_bipush (v := (20 : Int32)) hx hb dX5_judge_11 (by decide) ?_
  obtain ⟨o5, ho6, hm⟩ := bd_s hm
  refine xr_i (wr := [((ad 0), e_X5 ad t), ((ad 1), e_X1 (ad 2) (ad 3) (ad 4) t_now), ((ad 2), eI cA 8 t_now_kinds), ((ad 4), eI cA 8 t_now_pitches), ((ad 13), e_X0 (ad 14) (ad 15) (ad 16)), ((ad 14), eI cA 8 t_shelves_holding), ((ad 15), eI cA 8 t_shelves_sizes), ((ad 16), eJ cA 320 t_shelves_elements), ((ad 19), eI cA 5 t_refusals), ((ad 20), e_X3 (ad 21) t_trial), ((ad 21), eI cA 13 t_trial_heard), ((ad 24), e_X4 (ad 25) t_told), ((ad 25), eI cA 12 t_told_sounds)]) (wn := [((ad 0), e_X5 ad t), ((ad 1), e_X1 (ad 2) (ad 3) (ad 4) t_now), ((ad 2), eI cA 8 t_now_kinds), ((ad 4), eI cA 8 t_now_pitches), ((ad 13), e_X0 (ad 14) (ad 15) (ad 16)), ((ad 14), eI cA 8 t_shelves_holding), ((ad 15), eI cA 8 t_shelves_sizes), ((ad 16), eJ cA 320 t_shelves_elements), ((ad 19), eI cA 5 t_refusals), ((ad 20), e_X3 (ad 21) t_trial), ((ad 21), eI cA 13 t_trial_heard), ((ad 24), e_X4 (ad 25) t_told), ((ad 25), eI cA 12 t_told_sounds)]) (va_runS (As := [.int l4, .int (0 : Int32), .int (20 : Int32)]) (rest := [.int ((2 : Int32) * l4), .int l3, .int l2, .int l1, .ref (ad 0)]) ⟨hx, hb, hml, hown, htg⟩ (c_X5_isWithin l D cA _ fu l4 (0 : Int32) (20 : Int32) o5 ho6) (cwS 3 htg (gS q_2_7 q_2_8 q_1_1 q_2_9) rfl rfl rfl hd_X5_isWithin ⟨Nat.le_of_ble_eq_true rfl, Nat.le_of_ble_eq_true rfl⟩) (xpS hN hK hP hD [] rfl (by decide)) rfl rfl hl.1 rfl (lv_room (Nat.le_of_ble_eq_true rfl)) dX5_judge_13 ⟨Nat.zero_le _, Nat.zero_le _⟩) hP hD hS hA [] [0, 1, 2, 3, 4, 5, 6, 7, 8, 9, 10, 11, 12] [0, 1, 2, 3, 4, 5, 6, 7, 8, 9, 10, 11, 12] rfl rfl (by decide) (by decide) rfl (by decide) (fun H locs hP hD hS => ?_)
  obtain ⟨o7, ho8, hm⟩ := bd_s hm
  refine xr_i (wr := [((ad 1), e_X1 (ad 2) (ad 3) (ad 4) t_now), ((ad 2), eI cA 8 t_now_kinds), ((ad 4), eI cA 8 t_now_pitches), ((ad 20), e_X3 (ad 21) t_trial), ((ad 21), eI cA 13 t_trial_heard)]) (wn := [((ad 0), e_X5 ad t), ((ad 1), e_X1 (ad 2) (ad 3) (ad 4) t_now), ((ad 2), eI cA 8 t_now_kinds), ((ad 4), eI cA 8 t_now_pitches), ((ad 13), e_X0 (ad 14) (ad 15) (ad 16)), ((ad 14), eI cA 8 t_shelves_holding), ((ad 15), eI cA 8 t_shelves_sizes), ((ad 16), eJ cA 320 t_shelves_elements), ((ad 19), eI cA 5 o7.2.1), ((ad 20), e_X3 (ad 21) t_trial), ((ad 21), eI cA 13 t_trial_heard), ((ad 24), e_X4 (ad 25) o7.2.2.1), ((ad 25), eI cA 12 o7.2.2.2)]) (va_runV (As := [.int l1, .int l2, .int l3, .int ((2 : Int32) * l4), .int o5.1]) (rest := []) ⟨hx, hb, hml, hown, htg⟩ (c_X5_takeWordAndRow l D cA _ fu ad t t_shelves_holding t_shelves_sizes t_shelves_elements t_refusals t_told t_told_sounds l1 l2 l3 ((2 : Int32) * l4) o5.1 o7 ho8) (cwV 5 htg (gV q_3_130 q_3_132 q_p3_13 q_1_1 q_3_133) rfl rfl rfl hd_X5_takeWordAndRow ⟨Nat.le_of_ble_eq_true rfl, Nat.le_of_ble_eq_true rfl⟩) (xpV hN hK hP hD [0, 4, 5, 6, 7, 8, 11, 12] rfl (by decide) rfl rfl) rfl rfl hl.1 rfl (lv_room (Nat.le_of_ble_eq_true rfl)) dX5_judge_16 ⟨Nat.zero_le _, Nat.zero_le _⟩) hP hD hS hA [0, 4, 5, 6, 7, 8, 11, 12] [1, 2, 3, 9, 10] [5, 0, 1, 2, 6, 7, 8, 9, 10, 3, 4, 11, 12] rfl rfl (by decide) (by decide) rfl (by decide) (fun H locs hP hD hS => ?_)
  refine lv_istore (lv' := [(5, .int o7.1), (0, .ref (ad 0)), (1, .int l1), (2, .int l2), (3, .int l3), (4, .int l4)]) hx hb dX5_judge_19 hl (by decide) rfl (fun ls hl => ?_)
  refine lv_iload hx hb dX5_judge_21 (lv_at hl 0 rfl) ?_
  refine lv_if_eq (tgt := 29) hx hb dX5_judge_23 (by decide) (fun c9 => ?_) (fun c9 => ?_)
  · have hm := it_t c9 hm
    refine lv_iconst (v := (0 : Int32)) hx hb dX5_judge_29 (by decide) ?_
    refine lv_istore (lv' := [(6, .int (0 : Int32)), (5, .int o7.1), (0, .ref (ad 0)), (1, .int l1), (2, .int l2), (3, .int l3), (4, .int l4)]) hx hb dX5_judge_30 hl (by decide) rfl (fun ls hl => ?_)
    exact B_32 fu _ _ _ _ hm hP hD hS (lv_sub hl [2, 5, 6, 0] rfl)
  · have hm := it_f c9 hm
    refine lv_iload hx hb dX5_judge_26 (lv_at hl 0 rfl) ?_
    rw [hQ]
    exact W.iret (v := o7.1) hx hb hr (fun t9 ht hW => ⟨⟨o7.1, (o7.2.1, t_trial, t_trial_heard, o7.2.2.1, o7.2.2.2), rfl, (Option.some.inj hm), by rw [ht]; exact hP, va_K.moved hW.alike hK, hD⟩, hS.F ht⟩) hS.2.2 dX5_judge_28
def b_X5_ahead_28 (fu : Nat) (t : Nat → Int32) (t_now : Nat → Int32) (k_28 : (Int32 × Int32 × Int32 × (Nat → Int32)) → Option (Int32 × (Nat → Int32))) (x : Int32 × Int32 × Int32 × (Nat → Int32)) : Option (Int32 × (Nat → Int32)) :=
  (if x.1 ≤ x.2.2.1 then
        some (x.2.1, x.2.2.2)
      else
        (m_X5_depthBehind fu x.2.1 (t_now 1)).bind fun o2 =>
        k_28 (x.1, o2.1, (x.2.2.1 + (1 : Int32)), x.2.2.2))
def m_X5_ahead (fu : Nat) (t : Nat → Int32) (t_now : Nat → Int32) (t_refusals : Nat → Int32) (l1 : Int32) : Option (Int32 × (Nat → Int32)) :=
  (m_X5_isWithin fu l1 (0 : Int32) (200 : Int32)).bind fun o4 =>
  (if o4.1 = 0 then
    (m_X5_refuse fu t t_refusals (-2 : Int32)).bind fun o7 =>
    some (o7.1, o7.2)
  else
    lfix (b_X5_ahead_28 fu t t_now) fu (l1, (t_now 0), (0 : Int32), t_refusals))
abbrev rm_X5_ahead : Room := ({ frames := 2, cells := 0, slots := 0, locals := 44 } : Room)
abbrev w0_X5_ahead (cA : Nat → ClassId) (ad : Nat → Nat) (t : Nat → Int32) (t_now : Nat → Int32) (t_refusals : Nat → Int32) : va_W := [((ad 0), e_X5 ad t), ((ad 1), e_X1 (ad 2) (ad 3) (ad 4) t_now), ((ad 19), eI cA 5 t_refusals)]
abbrev w1_X5_ahead (cA : Nat → ClassId) (ad : Nat → Nat) (t : Nat → Int32) (t_now : Nat → Int32) (u : (Nat → Int32)) : va_W := [((ad 0), e_X5 ad t), ((ad 1), e_X1 (ad 2) (ad 3) (ad 4) t_now), ((ad 19), eI cA 5 u)]
theorem hd_X5_ahead : yX5_ahead.cls = RX5 ∧ yX5_ahead.cls ≠ "java/lang/invoke/MethodHandle" ∧ yX5_ahead.cls ≠ "java/lang/invoke/VarHandle" ∧ (parseMethodDescriptor yX5_ahead.desc).map (fun d => d.parameters.length) = some 1 := by decide +kernel
set_option maxHeartbeats 40000000 in
set_option maxRecDepth 100000 in
theorem c_X5_ahead (l : Launch) (D : va_G) (cA : Nat → ClassId) (sz : Nat) (fu : Nat) (ad : Nat → Nat) (t : Nat → Int32) (t_now : Nat → Int32) (t_refusals : Nat → Int32) (l1 : Int32) (out : Int32 × (Nat → Int32)) (hm : m_X5_ahead fu t t_now t_refusals l1 = some out) : MI l yX5_ahead (wU yX5_ahead cX5_ahead 4 ((Option.some Jvm.ClassFile.FieldType.int))) rm_X5_ahead D cA sz [.ref (ad 0), .int l1] (w0_X5_ahead cA ad t t_now t_refusals) out (w1_X5_ahead cA ad t t_now) := by
  refine Met.ofW (cc := cX5_ahead) (maxL := 4) (ret := (Option.some Jvm.ClassFile.FieldType.int)) (by decide) rfl ?_
  intro p e s m args below meth c s₁ B hml hv
  obtain ⟨hargs, hsz, hP, hK, hD0, hN⟩ := hv
  have hx := B.exec
  have hb := B.bytes
  have hr := B.returns
  have htg : ∀ w ∈ gw, w.before args s = true := fun w h => atoms_spec (ws := wU yX5_ahead cX5_ahead 4 ((Option.some Jvm.ClassFile.FieldType.int))) B.pre w (List.mem_cons_of_mem _ h)
  have hown : s.vm.findClass RX5 = some m.cls := findClass_of_methodNamed B.named
  have hlocks := B.notSynchronized
  subst hsz
  have hD := hD0.self (sz := s.heap.size)
  have hA : ∀ q : Nat, s.heap.size ≤ q → va_A (w0_X5_ahead cA ad t t_now t_refusals) s.heap.size q := fun q h => Or.inr h
  have hS : va_S (va_A (w0_X5_ahead cA ad t t_now t_refusals) s.heap.size) s.heap s.heap [] := va_S.rf
  generalize va_A (w0_X5_ahead cA ad t t_now t_refusals) s.heap.size = A at hA hD hS ⊢
  obtain ⟨Q, hQ⟩ : ∃ Q : State → Prop, Q = MQ below (va_Qi (fun (r : Int32) (u : (Nat → Int32)) => (r, u) = out) (pst0 D cA A (w1_X5_ahead cA ad t t_now)) A) args s 0 0 A := ⟨_, rfl⟩
  refine (?_ : W p l e rm_X5_ahead s m args below meth c s.heap [] 0 0 (MQ below (va_Qi (fun (r : Int32) (u : (Nat → Int32)) => (r, u) = out) (pst0 D cA A (w1_X5_ahead cA ad t t_now)) A) args s 0 0 A) (entryFrame m args 4))
  rw [← hQ]
  have hP : va_P D CL [((ad 0), e_X5 ad t), ((ad 1), e_X1 (ad 2) (ad 3) (ad 4) t_now), ((ad 19), eI cA 5 t_refusals)] s.heap := hP
  have hD : va_D A [((ad 0), e_X5 ad t), ((ad 1), e_X1 (ad 2) (ad 3) (ad 4) t_now), ((ad 19), eI cA 5 t_refusals)] := hD
  have B_28 : ∀ (n : Nat) (x : Int32 × Int32 × Int32 × (Nat → Int32)) (H : Heap) (locs : List Loc) (ls : Array Slot), lfix (b_X5_ahead_28 fu t t_now) n x = some out → va_P D CL [((ad 0), e_X5 ad t), ((ad 1), e_X1 (ad 2) (ad 3) (ad 4) t_now), ((ad 19), eI cA 5 x.2.2.2)] H → va_D A [((ad 0), e_X5 ad t), ((ad 1), e_X1 (ad 2) (ad 3) (ad 4) t_now), ((ad 19), eI cA 5 x.2.2.2)] → va_S A s.heap H locs → lv_has ls 4 [(0, .ref (ad 0)), (1, .int x.1), (2, .int x.2.1), (3, .int x.2.2.1)] → W p l e rm_X5_ahead s m args below meth c H locs 0 0 Q (F0 m 28 ls []) := by
    intro  n
    induction n with
    | zero => intro x H locs ls hm; cases (show none = some out from hm)
    | succ n HK_28 =>
      intro x H locs ls hm hP hD hS hl
      replace hm : b_X5_ahead_28 fu t t_now (lfix (b_X5_ahead_28 fu t t_now) n) x = some out := hm
      unfold b_X5_ahead_28 at hm
      refine lv_iload_n hx hb dX5_ahead_28 rfl (lv_at hl 3 rfl) ?_
      refine lv_iload_n hx hb dX5_ahead_29 rfl (lv_at hl 1 rfl) ?_
      refine lv_icmp_ge (tgt := 51) hx hb dX5_ahead_30 (by decide) (fun c1 => ?_) (fun c1 => ?_)
      · have hm := it_t c1 hm
        refine lv_iload_n hx hb dX5_ahead_51 rfl (lv_at hl 2 rfl) ?_
        rw [hQ]
        exact W.iret (v := x.2.1) hx hb hr (fun t9 ht hW => ⟨⟨x.2.1, x.2.2.2, rfl, (Option.some.inj hm), by rw [ht]; exact hP, va_K.moved hW.alike hK, hD⟩, hS.F ht⟩) hS.2.2 dX5_ahead_52
      · have hm := it_f c1 hm
        refine lv_iload_n hx hb dX5_ahead_33 rfl (lv_at hl 2 rfl) ?_
        refine lv_aload_n hx hb dX5_ahead_34 rfl (lv_at hl 0 rfl) ?_
        refine va_get (D := D) (ci := 5) (v := .ref (ad 1)) (C := RX5) (T := TX5) (N := 17) hx hb htg inX5 hown hK hP 0 rfl rfl 0 (by decide) (htg _ q_1_188) (fun _ h9 => h9) rfl dX5_ahead_35 ?_
        refine va_getN (D := D) (ci := 1) (v := .int (t_now 1)) (C := RX1) (T := TX1) (N := 12) hx hb htg inX1 hown hK hP 1 rfl rfl 1 (by decide) (va_Nw.use rfl (hN _ q_1_38)) (fun _ h9 => h9) rfl dX5_ahead_38 ?_
        obtain ⟨o2, ho3, hm⟩ := bd_s hm
        refine xr_i (wr := [((ad 0), e_X5 ad t), ((ad 1), e_X1 (ad 2) (ad 3) (ad 4) t_now), ((ad 19), eI cA 5 x.2.2.2)]) (wn := [((ad 0), e_X5 ad t), ((ad 1), e_X1 (ad 2) (ad 3) (ad 4) t_now), ((ad 19), eI cA 5 x.2.2.2)]) (va_runS (As := [.int x.2.1, .int (t_now 1)]) (rest := []) ⟨hx, hb, hml, hown, htg⟩ (c_X5_depthBehind l D cA _ fu x.2.1 (t_now 1) o2 ho3) (cwS 2 htg (gS q_4_17 q_3_153 q_1_1 q_3_154) rfl rfl rfl hd_X5_depthBehind ⟨Nat.le_of_ble_eq_true rfl, Nat.le_of_ble_eq_true rfl⟩) (xpS hN hK hP hD [] rfl (by decide)) rfl rfl hl.1 rfl (lv_room (Nat.le_of_ble_eq_true rfl)) dX5_ahead_41 ⟨Nat.zero_le _, Nat.zero_le _⟩) hP hD hS hA [] [0, 1, 2] [0, 1, 2] rfl rfl (by decide) (by decide) rfl (by decide) (fun H locs hP hD hS => ?_)
        refine lv_istore_n (lv' := [(2, .int o2.1), (0, .ref (ad 0)), (1, .int x.1), (3, .int x.2.2.1)]) hx hb dX5_ahead_44 rfl hl (by decide) rfl (fun ls hl => ?_)
        refine lv_iinc (v := (x.2.2.1 + (1 : Int32))) (lv' := [(3, .int (x.2.2.1 + (1 : Int32))), (2, .int o2.1), (0, .ref (ad 0)), (1, .int x.1)]) hx hb dX5_ahead_45 hl (k := 3) rfl rfl (by decide) rfl (fun ls hl => ?_)
        refine lv_goto (tgt := 28) hx hb dX5_ahead_48 (by decide) ?_
        exact HK_28 _ _ _ _ hm hP hD hS (lv_sub hl [2, 3, 1, 0] rfl)
  unfold m_X5_ahead at hm
  subst hargs
  have hl := lv_entry ([.ref (ad 0), .int l1]) (n := 4) (Nat.le_of_ble_eq_true rfl)
  rw [lg_entry_eq]
  generalize (lg_sl ([.ref (ad 0), .int l1]) ++ List.replicate (4 - (lg_sl ([.ref (ad 0), .int l1])).length) Slot.unset).toArray = ls at hl ⊢
  have hl : lv_has ls 4 [(0, .ref (ad 0)), (1, .int l1)] := hl
  refine lv_iload_n hx hb dX5_ahead_0 rfl (lv_at hl 1 rfl) ?_
  refine lv_iconst (v := (0 : Int32)) hx hb dX5_ahead_1 (by decide) ?_
  refine lv_sipush (v := (200 : Int32)) hx hb dX5_ahead_2 (by decide) ?_
  obtain ⟨o4, ho5, hm⟩ := bd_s hm
  refine xr_i (wr := [((ad 0), e_X5 ad t), ((ad 1), e_X1 (ad 2) (ad 3) (ad 4) t_now), ((ad 19), eI cA 5 t_refusals)]) (wn := [((ad 0), e_X5 ad t), ((ad 1), e_X1 (ad 2) (ad 3) (ad 4) t_now), ((ad 19), eI cA 5 t_refusals)]) (va_runS (As := [.int l1, .int (0 : Int32), .int (200 : Int32)]) (rest := []) ⟨hx, hb, hml, hown, htg⟩ (c_X5_isWithin l D cA _ fu l1 (0 : Int32) (200 : Int32) o4 ho5) (cwS 3 htg (gS q_2_7 q_2_8 q_1_1 q_2_9) rfl rfl rfl hd_X5_isWithin ⟨Nat.le_of_ble_eq_true rfl, Nat.le_of_ble_eq_true rfl⟩) (xpS hN hK hP hD [] rfl (by decide)) rfl rfl hl.1 rfl (lv_room (Nat.le_of_ble_eq_true rfl)) dX5_ahead_5 ⟨Nat.zero_le _, Nat.zero_le _⟩) hP hD hS hA [] [0, 1, 2] [0, 1, 2] rfl rfl (by decide) (by decide) rfl (by decide) (fun H locs hP hD hS => ?_)
  refine lv_if_ne (tgt := 18) hx hb dX5_ahead_8 (by decide) (fun c6 => ?_) (fun c6 => ?_)
  · have hm := it_f c6 hm
    refine lv_aload_n hx hb dX5_ahead_18 rfl (lv_at hl 0 rfl) ?_
    refine va_get (D := D) (ci := 5) (v := .ref (ad 1)) (C := RX5) (T := TX5) (N := 17) hx hb htg inX5 hown hK hP 0 rfl rfl 0 (by decide) (htg _ q_1_188) (fun _ h9 => h9) rfl dX5_ahead_19 ?_
    refine va_getN (D := D) (ci := 1) (v := .int (t_now 0)) (C := RX1) (T := TX1) (N := 12) hx hb htg inX1 hown hK hP 1 rfl rfl 0 (by decide) (va_Nw.use rfl (hN _ q_1_34)) (fun _ h9 => h9) rfl dX5_ahead_22 ?_
    refine lv_istore_n (lv' := [(2, .int (t_now 0)), (0, .ref (ad 0)), (1, .int l1)]) hx hb dX5_ahead_25 rfl hl (by decide) rfl (fun ls hl => ?_)
    refine lv_iconst (v := (0 : Int32)) hx hb dX5_ahead_26 (by decide) ?_
    refine lv_istore_n (lv' := [(3, .int (0 : Int32)), (2, .int (t_now 0)), (0, .ref (ad 0)), (1, .int l1)]) hx hb dX5_ahead_27 rfl hl (by decide) rfl (fun ls hl => ?_)
    exact B_28 fu _ _ _ _ hm hP hD hS (lv_sub hl [2, 3, 1, 0] rfl)
  · have hm := it_t c6 hm
    refine lv_aload_n hx hb dX5_ahead_11 rfl (lv_at hl 0 rfl) ?_
    refine lv_bipush (v := (-2 : Int32)) hx hb dX5_ahead_12 (by decide) ?_
    obtain ⟨o7, ho8, hm⟩ := bd_s hm
    refine xr_i (wr := [((ad 1), e_X1 (ad 2) (ad 3) (ad 4) t_now)]) (wn := [((ad 0), e_X5 ad t), ((ad 1), e_X1 (ad 2) (ad 3) (ad 4) t_now), ((ad 19), eI cA 5 o7.2)]) (va_runV (As := [.int (-2 : Int32)]) (rest := []) ⟨hx, hb, hml, hown, htg⟩ (c_X5_refuse l D cA _ fu ad t t_refusals (-2 : Int32) o7 ho8) (cwV 1 htg (gV q_2_10 q_2_12 q_p1_0 q_1_1 q_2_13) rfl rfl rfl hd_X5_refuse ⟨Nat.le_of_ble_eq_true rfl, Nat.le_of_ble_eq_true rfl⟩) (xpV hN hK hP hD [0, 2] rfl (by decide) rfl rfl) rfl rfl hl.1 rfl (lv_room (Nat.le_of_ble_eq_true rfl)) dX5_ahead_14 ⟨Nat.zero_le _, Nat.zero_le _⟩) hP hD hS hA [0, 2] [1] [1, 0, 2] rfl rfl (by decide) (by decide) rfl (by decide) (fun H locs hP hD hS => ?_)
    rw [hQ]
    exact W.iret (v := o7.1) hx hb hr (fun t9 ht hW => ⟨⟨o7.1, o7.2, rfl, (Option.some.inj hm), by rw [ht]; exact hP, va_K.moved hW.alike hK, hD⟩, hS.F ht⟩) hS.2.2 dX5_ahead_17
def b_X5_sinks_27 (fu : Nat) (t : Nat → Int32) (t_now : Nat → Int32) (k_27 : (Int32 × Int32 × Int32 × (Nat → Int32)) → Option (Int32 × (Nat → Int32))) (x : Int32 × Int32 × Int32 × (Nat → Int32)) : Option (Int32 × (Nat → Int32)) :=
  (if (200 : Int32) < x.2.2.1 then
        some ((-1 : Int32), x.2.2.2)
      else
        (if x.2.1 < x.1 then
          (m_X5_depthBehind fu x.2.1 (t_now 1)).bind fun o3 =>
          k_27 (x.1, o3.1, (x.2.2.1 + (1 : Int32)), x.2.2.2)
        else
          some (x.2.2.1, x.2.2.2)))
def m_X5_sinks (fu : Nat) (t : Nat → Int32) (t_now : Nat → Int32) (t_refusals : Nat → Int32) (l1 : Int32) : Option (Int32 × (Nat → Int32)) :=
  (m_X5_isWithin fu l1 (0 : Int32) (40 : Int32)).bind fun o5 =>
  (if o5.1 = 0 then
    (m_X5_refuse fu t t_refusals (-2 : Int32)).bind fun o8 =>
    some (o8.1, o8.2)
  else
    lfix (b_X5_sinks_27 fu t t_now) fu (l1, (t_now 0), (0 : Int32), t_refusals))
abbrev rm_X5_sinks : Room := ({ frames := 2, cells := 0, slots := 0, locals := 44 } : Room)
abbrev w0_X5_sinks (cA : Nat → ClassId) (ad : Nat → Nat) (t : Nat → Int32) (t_now : Nat → Int32) (t_refusals : Nat → Int32) : va_W := [((ad 0), e_X5 ad t), ((ad 1), e_X1 (ad 2) (ad 3) (ad 4) t_now), ((ad 19), eI cA 5 t_refusals)]
abbrev w1_X5_sinks (cA : Nat → ClassId) (ad : Nat → Nat) (t : Nat → Int32) (t_now : Nat → Int32) (u : (Nat → Int32)) : va_W := [((ad 0), e_X5 ad t), ((ad 1), e_X1 (ad 2) (ad 3) (ad 4) t_now), ((ad 19), eI cA 5 u)]
theorem hd_X5_sinks : yX5_sinks.cls = RX5 ∧ yX5_sinks.cls ≠ "java/lang/invoke/MethodHandle" ∧ yX5_sinks.cls ≠ "java/lang/invoke/VarHandle" ∧ (parseMethodDescriptor yX5_sinks.desc).map (fun d => d.parameters.length) = some 1 := by decide +kernel
set_option maxHeartbeats 40000000 in
set_option maxRecDepth 100000 in
theorem c_X5_sinks (l : Launch) (D : va_G) (cA : Nat → ClassId) (sz : Nat) (fu : Nat) (ad : Nat → Nat) (t : Nat → Int32) (t_now : Nat → Int32) (t_refusals : Nat → Int32) (l1 : Int32) (out : Int32 × (Nat → Int32)) (hm : m_X5_sinks fu t t_now t_refusals l1 = some out) : MI l yX5_sinks (wU yX5_sinks cX5_sinks 4 ((Option.some Jvm.ClassFile.FieldType.int))) rm_X5_sinks D cA sz [.ref (ad 0), .int l1] (w0_X5_sinks cA ad t t_now t_refusals) out (w1_X5_sinks cA ad t t_now) := by
  refine Met.ofW (cc := cX5_sinks) (maxL := 4) (ret := (Option.some Jvm.ClassFile.FieldType.int)) (by decide) rfl ?_
  intro p e s m args below meth c s₁ B hml hv
  obtain ⟨hargs, hsz, hP, hK, hD0, hN⟩ := hv
  have hx := B.exec
  have hb := B.bytes
  have hr := B.returns
  have htg : ∀ w ∈ gw, w.before args s = true := fun w h => atoms_spec (ws := wU yX5_sinks cX5_sinks 4 ((Option.some Jvm.ClassFile.FieldType.int))) B.pre w (List.mem_cons_of_mem _ h)
  have hown : s.vm.findClass RX5 = some m.cls := findClass_of_methodNamed B.named
  have hlocks := B.notSynchronized
  subst hsz
  have hD := hD0.self (sz := s.heap.size)
  have hA : ∀ q : Nat, s.heap.size ≤ q → va_A (w0_X5_sinks cA ad t t_now t_refusals) s.heap.size q := fun q h => Or.inr h
  have hS : va_S (va_A (w0_X5_sinks cA ad t t_now t_refusals) s.heap.size) s.heap s.heap [] := va_S.rf
  generalize va_A (w0_X5_sinks cA ad t t_now t_refusals) s.heap.size = A at hA hD hS ⊢
  obtain ⟨Q, hQ⟩ : ∃ Q : State → Prop, Q = MQ below (va_Qi (fun (r : Int32) (u : (Nat → Int32)) => (r, u) = out) (pst0 D cA A (w1_X5_sinks cA ad t t_now)) A) args s 0 0 A := ⟨_, rfl⟩
  refine (?_ : W p l e rm_X5_sinks s m args below meth c s.heap [] 0 0 (MQ below (va_Qi (fun (r : Int32) (u : (Nat → Int32)) => (r, u) = out) (pst0 D cA A (w1_X5_sinks cA ad t t_now)) A) args s 0 0 A) (entryFrame m args 4))
  rw [← hQ]
  have hP : va_P D CL [((ad 0), e_X5 ad t), ((ad 1), e_X1 (ad 2) (ad 3) (ad 4) t_now), ((ad 19), eI cA 5 t_refusals)] s.heap := hP
  have hD : va_D A [((ad 0), e_X5 ad t), ((ad 1), e_X1 (ad 2) (ad 3) (ad 4) t_now), ((ad 19), eI cA 5 t_refusals)] := hD
  have B_27 : ∀ (n : Nat) (x : Int32 × Int32 × Int32 × (Nat → Int32)) (H : Heap) (locs : List Loc) (ls : Array Slot), lfix (b_X5_sinks_27 fu t t_now) n x = some out → va_P D CL [((ad 0), e_X5 ad t), ((ad 1), e_X1 (ad 2) (ad 3) (ad 4) t_now), ((ad 19), eI cA 5 x.2.2.2)] H → va_D A [((ad 0), e_X5 ad t), ((ad 1), e_X1 (ad 2) (ad 3) (ad 4) t_now), ((ad 19), eI cA 5 x.2.2.2)] → va_S A s.heap H locs → lv_has ls 4 [(0, .ref (ad 0)), (1, .int x.1), (2, .int x.2.1), (3, .int x.2.2.1)] → W p l e rm_X5_sinks s m args below meth c H locs 0 0 Q (F0 m 27 ls []) := by
    intro  n
    induction n with
    | zero => intro x H locs ls hm; cases (show none = some out from hm)
    | succ n HK_27 =>
      intro x H locs ls hm hP hD hS hl
      replace hm : b_X5_sinks_27 fu t t_now (lfix (b_X5_sinks_27 fu t t_now) n) x = some out := hm
      unfold b_X5_sinks_27 at hm
      refine lv_iload_n hx hb dX5_sinks_27 rfl (lv_at hl 3 rfl) ?_
      refine lv_sipush (v := (200 : Int32)) hx hb dX5_sinks_28 (by decide) ?_
      refine lv_icmp_gt (tgt := 59) hx hb dX5_sinks_31 (by decide) (fun c1 => ?_) (fun c1 => ?_)
      · have hm := it_t c1 hm
        refine lv_iconst (v := (-1 : Int32)) hx hb dX5_sinks_59 (by decide) ?_
        rw [hQ]
        exact W.iret (v := (-1 : Int32)) hx hb hr (fun t9 ht hW => ⟨⟨(-1 : Int32), x.2.2.2, rfl, (Option.some.inj hm), by rw [ht]; exact hP, va_K.moved hW.alike hK, hD⟩, hS.F ht⟩) hS.2.2 dX5_sinks_60
      · have hm := it_f c1 hm
        refine lv_iload_n hx hb dX5_sinks_34 rfl (lv_at hl 2 rfl) ?_
        refine lv_iload_n hx hb dX5_sinks_35 rfl (lv_at hl 1 rfl) ?_
        refine lv_icmp_lt (tgt := 41) hx hb dX5_sinks_36 (by decide) (fun c2 => ?_) (fun c2 => ?_)
        · have hm := it_t c2 hm
          refine lv_iload_n hx hb dX5_sinks_41 rfl (lv_at hl 2 rfl) ?_
          refine lv_aload_n hx hb dX5_sinks_42 rfl (lv_at hl 0 rfl) ?_
          refine va_get (D := D) (ci := 5) (v := .ref (ad 1)) (C := RX5) (T := TX5) (N := 17) hx hb htg inX5 hown hK hP 0 rfl rfl 0 (by decide) (htg _ q_1_188) (fun _ h9 => h9) rfl dX5_sinks_43 ?_
          refine va_getN (D := D) (ci := 1) (v := .int (t_now 1)) (C := RX1) (T := TX1) (N := 12) hx hb htg inX1 hown hK hP 1 rfl rfl 1 (by decide) (va_Nw.use rfl (hN _ q_1_38)) (fun _ h9 => h9) rfl dX5_sinks_46 ?_
          obtain ⟨o3, ho4, hm⟩ := bd_s hm
          refine xr_i (wr := [((ad 0), e_X5 ad t), ((ad 1), e_X1 (ad 2) (ad 3) (ad 4) t_now), ((ad 19), eI cA 5 x.2.2.2)]) (wn := [((ad 0), e_X5 ad t), ((ad 1), e_X1 (ad 2) (ad 3) (ad 4) t_now), ((ad 19), eI cA 5 x.2.2.2)]) (va_runS (As := [.int x.2.1, .int (t_now 1)]) (rest := []) ⟨hx, hb, hml, hown, htg⟩ (c_X5_depthBehind l D cA _ fu x.2.1 (t_now 1) o3 ho4) (cwS 2 htg (gS q_4_17 q_3_153 q_1_1 q_3_154) rfl rfl rfl hd_X5_depthBehind ⟨Nat.le_of_ble_eq_true rfl, Nat.le_of_ble_eq_true rfl⟩) (xpS hN hK hP hD [] rfl (by decide)) rfl rfl hl.1 rfl (lv_room (Nat.le_of_ble_eq_true rfl)) dX5_sinks_49 ⟨Nat.zero_le _, Nat.zero_le _⟩) hP hD hS hA [] [0, 1, 2] [0, 1, 2] rfl rfl (by decide) (by decide) rfl (by decide) (fun H locs hP hD hS => ?_)
          refine lv_istore_n (lv' := [(2, .int o3.1), (0, .ref (ad 0)), (1, .int x.1), (3, .int x.2.2.1)]) hx hb dX5_sinks_52 rfl hl (by decide) rfl (fun ls hl => ?_)
          refine lv_iinc (v := (x.2.2.1 + (1 : Int32))) (lv' := [(3, .int (x.2.2.1 + (1 : Int32))), (2, .int o3.1), (0, .ref (ad 0)), (1, .int x.1)]) hx hb dX5_sinks_53 hl (k := 3) rfl rfl (by decide) rfl (fun ls hl => ?_)
          refine lv_goto (tgt := 27) hx hb dX5_sinks_56 (by decide) ?_
          exact HK_27 _ _ _ _ hm hP hD hS (lv_sub hl [2, 3, 1, 0] rfl)
        · have hm := it_f c2 hm
          refine lv_iload_n hx hb dX5_sinks_39 rfl (lv_at hl 3 rfl) ?_
          rw [hQ]
          exact W.iret (v := x.2.2.1) hx hb hr (fun t9 ht hW => ⟨⟨x.2.2.1, x.2.2.2, rfl, (Option.some.inj hm), by rw [ht]; exact hP, va_K.moved hW.alike hK, hD⟩, hS.F ht⟩) hS.2.2 dX5_sinks_40
  unfold m_X5_sinks at hm
  subst hargs
  have hl := lv_entry ([.ref (ad 0), .int l1]) (n := 4) (Nat.le_of_ble_eq_true rfl)
  rw [lg_entry_eq]
  generalize (lg_sl ([.ref (ad 0), .int l1]) ++ List.replicate (4 - (lg_sl ([.ref (ad 0), .int l1])).length) Slot.unset).toArray = ls at hl ⊢
  have hl : lv_has ls 4 [(0, .ref (ad 0)), (1, .int l1)] := hl
  refine lv_iload_n hx hb dX5_sinks_0 rfl (lv_at hl 1 rfl) ?_
  refine lv_iconst (v := (0 : Int32)) hx hb dX5_sinks_1 (by decide) ?_
  refine lv_bipush (v := (40 : Int32)) hx hb dX5_sinks_2 (by decide) ?_
  obtain ⟨o5, ho6, hm⟩ := bd_s hm
  refine xr_i (wr := [((ad 0), e_X5 ad t), ((ad 1), e_X1 (ad 2) (ad 3) (ad 4) t_now), ((ad 19), eI cA 5 t_refusals)]) (wn := [((ad 0), e_X5 ad t), ((ad 1), e_X1 (ad 2) (ad 3) (ad 4) t_now), ((ad 19), eI cA 5 t_refusals)]) (va_runS (As := [.int l1, .int (0 : Int32), .int (40 : Int32)]) (rest := []) ⟨hx, hb, hml, hown, htg⟩ (c_X5_isWithin l D cA _ fu l1 (0 : Int32) (40 : Int32) o5 ho6) (cwS 3 htg (gS q_2_7 q_2_8 q_1_1 q_2_9) rfl rfl rfl hd_X5_isWithin ⟨Nat.le_of_ble_eq_true rfl, Nat.le_of_ble_eq_true rfl⟩) (xpS hN hK hP hD [] rfl (by decide)) rfl rfl hl.1 rfl (lv_room (Nat.le_of_ble_eq_true rfl)) dX5_sinks_4 ⟨Nat.zero_le _, Nat.zero_le _⟩) hP hD hS hA [] [0, 1, 2] [0, 1, 2] rfl rfl (by decide) (by decide) rfl (by decide) (fun H locs hP hD hS => ?_)
  refine lv_if_ne (tgt := 17) hx hb dX5_sinks_7 (by decide) (fun c7 => ?_) (fun c7 => ?_)
  · have hm := it_f c7 hm
    refine lv_aload_n hx hb dX5_sinks_17 rfl (lv_at hl 0 rfl) ?_
    refine va_get (D := D) (ci := 5) (v := .ref (ad 1)) (C := RX5) (T := TX5) (N := 17) hx hb htg inX5 hown hK hP 0 rfl rfl 0 (by decide) (htg _ q_1_188) (fun _ h9 => h9) rfl dX5_sinks_18 ?_
    refine va_getN (D := D) (ci := 1) (v := .int (t_now 0)) (C := RX1) (T := TX1) (N := 12) hx hb htg inX1 hown hK hP 1 rfl rfl 0 (by decide) (va_Nw.use rfl (hN _ q_1_34)) (fun _ h9 => h9) rfl dX5_sinks_21 ?_
    refine lv_istore_n (lv' := [(2, .int (t_now 0)), (0, .ref (ad 0)), (1, .int l1)]) hx hb dX5_sinks_24 rfl hl (by decide) rfl (fun ls hl => ?_)
    refine lv_iconst (v := (0 : Int32)) hx hb dX5_sinks_25 (by decide) ?_
    refine lv_istore_n (lv' := [(3, .int (0 : Int32)), (2, .int (t_now 0)), (0, .ref (ad 0)), (1, .int l1)]) hx hb dX5_sinks_26 rfl hl (by decide) rfl (fun ls hl => ?_)
    exact B_27 fu _ _ _ _ hm hP hD hS (lv_sub hl [2, 3, 1, 0] rfl)
  · have hm := it_t c7 hm
    refine lv_aload_n hx hb dX5_sinks_10 rfl (lv_at hl 0 rfl) ?_
    refine lv_bipush (v := (-2 : Int32)) hx hb dX5_sinks_11 (by decide) ?_
    obtain ⟨o8, ho9, hm⟩ := bd_s hm
    refine xr_i (wr := [((ad 1), e_X1 (ad 2) (ad 3) (ad 4) t_now)]) (wn := [((ad 0), e_X5 ad t), ((ad 1), e_X1 (ad 2) (ad 3) (ad 4) t_now), ((ad 19), eI cA 5 o8.2)]) (va_runV (As := [.int (-2 : Int32)]) (rest := []) ⟨hx, hb, hml, hown, htg⟩ (c_X5_refuse l D cA _ fu ad t t_refusals (-2 : Int32) o8 ho9) (cwV 1 htg (gV q_2_10 q_2_12 q_p1_0 q_1_1 q_2_13) rfl rfl rfl hd_X5_refuse ⟨Nat.le_of_ble_eq_true rfl, Nat.le_of_ble_eq_true rfl⟩) (xpV hN hK hP hD [0, 2] rfl (by decide) rfl rfl) rfl rfl hl.1 rfl (lv_room (Nat.le_of_ble_eq_true rfl)) dX5_sinks_13 ⟨Nat.zero_le _, Nat.zero_le _⟩) hP hD hS hA [0, 2] [1] [1, 0, 2] rfl rfl (by decide) (by decide) rfl (by decide) (fun H locs hP hD hS => ?_)
    rw [hQ]
    exact W.iret (v := o8.1) hx hb hr (fun t9 ht hW => ⟨⟨o8.1, o8.2, rfl, (Option.some.inj hm), by rw [ht]; exact hP, va_K.moved hW.alike hK, hD⟩, hS.F ht⟩) hS.2.2 dX5_sinks_16
def b_X5_shoutInTruth_58 (fu : Nat) (t : Nat → Int32) (t_now_kinds : Nat → Int32) (t_now_pitches : Nat → Int32) (t_told : Nat → Int32) (t_told_sounds : Nat → Int32) (l2 : Int32) (t_now : Nat → Int32) (t_trial : Nat → Int32) (t_trial_heard : Nat → Int32) : Option (Int32 × ((Nat → Int32) × (Nat → Int32) × (Nat → Int32))) :=
  some (l2, (t_now, t_trial, t_trial_heard))
def m_X5_shoutInTruth (fu : Nat) (t : Nat → Int32) (t_now : Nat → Int32) (t_now_kinds : Nat → Int32) (t_now_pitches : Nat → Int32) (t_trial : Nat → Int32) (t_trial_heard : Nat → Int32) (t_told : Nat → Int32) (t_told_sounds : Nat → Int32) (l1 : Int32) : Option (Int32 × ((Nat → Int32) × (Nat → Int32) × (Nat → Int32))) :=
  (m_X3_standsFor fu t_trial t_now t_now_kinds t_now_pitches l1).bind fun o1 =>
  (m_X3_weighs fu o1 t_trial_heard t_told t_told_sounds).bind fun o3 =>
  (if o3.1 = (1 : Int32) then
    b_X5_shoutInTruth_58 fu t t_now_kinds t_now_pitches t_told t_told_sounds o3.1 (upd t_now 5 (t_now 5 + (1 : Int32))) o3.2.1 o3.2.2
  else
    b_X5_shoutInTruth_58 fu t t_now_kinds t_now_pitches t_told t_told_sounds o3.1 (upd t_now 6 (t_now 6 + (1 : Int32))) o3.2.1 o3.2.2)
abbrev rm_X5_shoutInTruth : Room := ({ frames := 5, cells := 0, slots := 0, locals := 109 } : Room)
abbrev w0_X5_shoutInTruth (cA : Nat → ClassId) (ad : Nat → Nat) (t : Nat → Int32) (t_now : Nat → Int32) (t_now_kinds : Nat → Int32) (t_now_pitches : Nat → Int32) (t_trial : Nat → Int32) (t_trial_heard : Nat → Int32) (t_told : Nat → Int32) (t_told_sounds : Nat → Int32) : va_W := [((ad 0), e_X5 ad t), ((ad 1), e_X1 (ad 2) (ad 3) (ad 4) t_now), ((ad 2), eI cA 8 t_now_kinds), ((ad 4), eI cA 8 t_now_pitches), ((ad 20), e_X3 (ad 21) t_trial), ((ad 21), eI cA 13 t_trial_heard), ((ad 24), e_X4 (ad 25) t_told), ((ad 25), eI cA 12 t_told_sounds)]
abbrev w1_X5_shoutInTruth (cA : Nat → ClassId) (ad : Nat → Nat) (t : Nat → Int32) (t_now_kinds : Nat → Int32) (t_now_pitches : Nat → Int32) (t_told : Nat → Int32) (t_told_sounds : Nat → Int32) (u : (Nat → Int32) × (Nat → Int32) × (Nat → Int32)) : va_W := [((ad 0), e_X5 ad t), ((ad 1), e_X1 (ad 2) (ad 3) (ad 4) u.1), ((ad 2), eI cA 8 t_now_kinds), ((ad 4), eI cA 8 t_now_pitches), ((ad 20), e_X3 (ad 21) u.2.1), ((ad 21), eI cA 13 u.2.2), ((ad 24), e_X4 (ad 25) t_told), ((ad 25), eI cA 12 t_told_sounds)]
theorem hd_X5_shoutInTruth : yX5_shoutInTruth.cls = RX5 ∧ yX5_shoutInTruth.cls ≠ "java/lang/invoke/MethodHandle" ∧ yX5_shoutInTruth.cls ≠ "java/lang/invoke/VarHandle" ∧ (parseMethodDescriptor yX5_shoutInTruth.desc).map (fun d => d.parameters.length) = some 1 := by decide +kernel
set_option maxHeartbeats 40000000 in
set_option maxRecDepth 100000 in
theorem c_X5_shoutInTruth (l : Launch) (D : va_G) (cA : Nat → ClassId) (sz : Nat) (fu : Nat) (ad : Nat → Nat) (t : Nat → Int32) (t_now : Nat → Int32) (t_now_kinds : Nat → Int32) (t_now_pitches : Nat → Int32) (t_trial : Nat → Int32) (t_trial_heard : Nat → Int32) (t_told : Nat → Int32) (t_told_sounds : Nat → Int32) (l1 : Int32) (out : Int32 × ((Nat → Int32) × (Nat → Int32) × (Nat → Int32))) (hm : m_X5_shoutInTruth fu t t_now t_now_kinds t_now_pitches t_trial t_trial_heard t_told t_told_sounds l1 = some out) : MI l yX5_shoutInTruth (wU yX5_shoutInTruth cX5_shoutInTruth 3 ((Option.some Jvm.ClassFile.FieldType.int))) rm_X5_shoutInTruth D cA sz [.ref (ad 0), .int l1] (w0_X5_shoutInTruth cA ad t t_now t_now_kinds t_now_pitches t_trial t_trial_heard t_told t_told_sounds) out (w1_X5_shoutInTruth cA ad t t_now_kinds t_now_pitches t_told t_told_sounds) := by
  refine Met.ofW (cc := cX5_shoutInTruth) (maxL := 3) (ret := (Option.some Jvm.ClassFile.FieldType.int)) (by decide) rfl ?_
  intro p e s m args below meth c s₁ B hml hv
  obtain ⟨hargs, hsz, hP, hK, hD0, hN⟩ := hv
  have hx := B.exec
  have hb := B.bytes
  have hr := B.returns
  have htg : ∀ w ∈ gw, w.before args s = true := fun w h => atoms_spec (ws := wU yX5_shoutInTruth cX5_shoutInTruth 3 ((Option.some Jvm.ClassFile.FieldType.int))) B.pre w (List.mem_cons_of_mem _ h)
  have hown : s.vm.findClass RX5 = some m.cls := findClass_of_methodNamed B.named
  have hlocks := B.notSynchronized
  subst hsz
  have hD := hD0.self (sz := s.heap.size)
  have hA : ∀ q : Nat, s.heap.size ≤ q → va_A (w0_X5_shoutInTruth cA ad t t_now t_now_kinds t_now_pitches t_trial t_trial_heard t_told t_told_sounds) s.heap.size q := fun q h => Or.inr h
  have hS : va_S (va_A (w0_X5_shoutInTruth cA ad t t_now t_now_kinds t_now_pitches t_trial t_trial_heard t_told t_told_sounds) s.heap.size) s.heap s.heap [] := va_S.rf
  generalize va_A (w0_X5_shoutInTruth cA ad t t_now t_now_kinds t_now_pitches t_trial t_trial_heard t_told t_told_sounds) s.heap.size = A at hA hD hS ⊢
  obtain ⟨Q, hQ⟩ : ∃ Q : State → Prop, Q = MQ below (va_Qi (fun (r : Int32) (u : (Nat → Int32) × (Nat → Int32) × (Nat → Int32)) => (r, u) = out) (pst0 D cA A (w1_X5_shoutInTruth cA ad t t_now_kinds t_now_pitches t_told t_told_sounds)) A) args s 0 0 A := ⟨_, rfl⟩
  refine (?_ : W p l e rm_X5_shoutInTruth s m args below meth c s.heap [] 0 0 (MQ below (va_Qi (fun (r : Int32) (u : (Nat → Int32) × (Nat → Int32) × (Nat → Int32)) => (r, u) = out) (pst0 D cA A (w1_X5_shoutInTruth cA ad t t_now_kinds t_now_pitches t_told t_told_sounds)) A) args s 0 0 A) (entryFrame m args 3))
  rw [← hQ]
  have hP : va_P D CL [((ad 0), e_X5 ad t), ((ad 1), e_X1 (ad 2) (ad 3) (ad 4) t_now), ((ad 2), eI cA 8 t_now_kinds), ((ad 4), eI cA 8 t_now_pitches), ((ad 20), e_X3 (ad 21) t_trial), ((ad 21), eI cA 13 t_trial_heard), ((ad 24), e_X4 (ad 25) t_told), ((ad 25), eI cA 12 t_told_sounds)] s.heap := hP
  have hD : va_D A [((ad 0), e_X5 ad t), ((ad 1), e_X1 (ad 2) (ad 3) (ad 4) t_now), ((ad 2), eI cA 8 t_now_kinds), ((ad 4), eI cA 8 t_now_pitches), ((ad 20), e_X3 (ad 21) t_trial), ((ad 21), eI cA 13 t_trial_heard), ((ad 24), e_X4 (ad 25) t_told), ((ad 25), eI cA 12 t_told_sounds)] := hD
  have B_58 : ∀ (l2 : Int32) (t_now : Nat → Int32) (t_trial : Nat → Int32) (t_trial_heard : Nat → Int32) (H : Heap) (locs : List Loc) (ls : Array Slot), b_X5_shoutInTruth_58 fu t t_now_kinds t_now_pitches t_told t_told_sounds l2 t_now t_trial t_trial_heard = some out → va_P D CL [((ad 0), e_X5 ad t), ((ad 1), e_X1 (ad 2) (ad 3) (ad 4) t_now), ((ad 2), eI cA 8 t_now_kinds), ((ad 4), eI cA 8 t_now_pitches), ((ad 20), e_X3 (ad 21) t_trial), ((ad 21), eI cA 13 t_trial_heard), ((ad 24), e_X4 (ad 25) t_told), ((ad 25), eI cA 12 t_told_sounds)] H → va_D A [((ad 0), e_X5 ad t), ((ad 1), e_X1 (ad 2) (ad 3) (ad 4) t_now), ((ad 2), eI cA 8 t_now_kinds), ((ad 4), eI cA 8 t_now_pitches), ((ad 20), e_X3 (ad 21) t_trial), ((ad 21), eI cA 13 t_trial_heard), ((ad 24), e_X4 (ad 25) t_told), ((ad 25), eI cA 12 t_told_sounds)] → va_S A s.heap H locs → lv_has ls 3 [(0, .ref (ad 0)), (2, .int l2)] → W p l e rm_X5_shoutInTruth s m args below meth c H locs 0 0 Q (F0 m 58 ls []) := by
    intro  l2 t_now t_trial t_trial_heard H locs ls hm hP hD hS hl
    unfold b_X5_shoutInTruth_58 at hm
    refine lv_iload_n hx hb dX5_shoutInTruth_58 rfl (lv_at hl 1 rfl) ?_
    rw [hQ]
    exact W.iret (v := l2) hx hb hr (fun t9 ht hW => ⟨⟨l2, (t_now, t_trial, t_trial_heard), rfl, (Option.some.inj hm), by rw [ht]; exact hP, va_K.moved hW.alike hK, hD⟩, hS.F ht⟩) hS.2.2 dX5_shoutInTruth_59
  unfold m_X5_shoutInTruth at hm
  subst hargs
  have hl := lv_entry ([.ref (ad 0), .int l1]) (n := 3) (Nat.le_of_ble_eq_true rfl)
  rw [lg_entry_eq]
  generalize (lg_sl ([.ref (ad 0), .int l1]) ++ List.replicate (3 - (lg_sl ([.ref (ad 0), .int l1])).length) Slot.unset).toArray = ls at hl ⊢
  have hl : lv_has ls 3 [(0, .ref (ad 0)), (1, .int l1)] := hl
  refine lv_aload_n hx hb dX5_shoutInTruth_0 rfl (lv_at hl 0 rfl) ?_
  refine va_get (D := D) (ci := 5) (v := .ref (ad 20)) (C := RX5) (T := TX5) (N := 17) hx hb htg inX5 hown hK hP 0 rfl rfl 7 (by decide) (htg _ q_1_195) (fun _ h9 => h9) rfl dX5_shoutInTruth_1 ?_
  refine lv_aload_n hx hb dX5_shoutInTruth_4 rfl (lv_at hl 0 rfl) ?_
  refine va_get (D := D) (ci := 5) (v := .ref (ad 1)) (C := RX5) (T := TX5) (N := 17) hx hb htg inX5 hown hK hP 0 rfl rfl 0 (by decide) (htg _ q_1_188) (fun _ h9 => h9) rfl dX5_shoutInTruth_5 ?_
  refine lv_iload_n hx hb dX5_shoutInTruth_8 rfl (lv_at hl 1 rfl) ?_
  obtain ⟨o1, ho2, hm⟩ := bd_s hm
  refine xr_v (wr := [((ad 0), e_X5 ad t), ((ad 21), eI cA 13 t_trial_heard), ((ad 24), e_X4 (ad 25) t_told), ((ad 25), eI cA 12 t_told_sounds)]) (wn := [((ad 0), e_X5 ad t), ((ad 1), e_X1 (ad 2) (ad 3) (ad 4) t_now), ((ad 2), eI cA 8 t_now_kinds), ((ad 4), eI cA 8 t_now_pitches), ((ad 20), e_X3 (ad 21) o1), ((ad 21), eI cA 13 t_trial_heard), ((ad 24), e_X4 (ad 25) t_told), ((ad 25), eI cA 12 t_told_sounds)]) (va_runVN (As := [.ref (ad 1), .int l1]) (rest := []) ⟨hx, hb, hml, hown, htg⟩ (c_X3_standsFor l D cA _ fu (ad 20) (ad 21) (ad 1) (ad 2) (ad 3) (ad 4) t_trial t_now t_now_kinds t_now_pitches l1 o1 ho2) ⟨va_cnB 2 htg (gU q_2_126) rfl rfl rfl (hN _ q_2_123) (htg _ q_1_6) hd_X3_standsFor.2 ⟨Nat.le_of_ble_eq_true rfl, Nat.le_of_ble_eq_true rfl⟩, htg _ q_2_125, htg _ q_p2_0⟩ (xpV hN hK hP hD [4, 1, 2, 3] rfl (by decide) rfl rfl) rfl rfl hl.1 rfl (lv_room (Nat.le_of_ble_eq_true rfl)) dX5_shoutInTruth_9 ⟨Nat.zero_le _, Nat.zero_le _⟩) hP hD hS hA [4, 1, 2, 3] [0, 5, 6, 7] [0, 5, 6, 7, 4, 1, 2, 3] rfl rfl (by decide) (by decide) rfl (by decide) (fun H locs hP hD hS => ?_)
  refine lv_aload_n hx hb dX5_shoutInTruth_12 rfl (lv_at hl 0 rfl) ?_
  refine va_get (D := D) (ci := 5) (v := .ref (ad 20)) (C := RX5) (T := TX5) (N := 17) hx hb htg inX5 hown hK hP 0 rfl rfl 7 (by decide) (htg _ q_1_195) (fun _ h9 => h9) rfl dX5_shoutInTruth_13 ?_
  refine lv_aload_n hx hb dX5_shoutInTruth_16 rfl (lv_at hl 0 rfl) ?_
  refine va_get (D := D) (ci := 5) (v := .ref (ad 24)) (C := RX5) (T := TX5) (N := 17) hx hb htg inX5 hown hK hP 0 rfl rfl 9 (by decide) (htg _ q_1_197) (fun _ h9 => h9) rfl dX5_shoutInTruth_17 ?_
  obtain ⟨o3, ho4, hm⟩ := bd_s hm
  refine xr_i (wr := [((ad 0), e_X5 ad t), ((ad 1), e_X1 (ad 2) (ad 3) (ad 4) t_now), ((ad 2), eI cA 8 t_now_kinds), ((ad 4), eI cA 8 t_now_pitches)]) (wn := [((ad 0), e_X5 ad t), ((ad 1), e_X1 (ad 2) (ad 3) (ad 4) t_now), ((ad 2), eI cA 8 t_now_kinds), ((ad 4), eI cA 8 t_now_pitches), ((ad 20), e_X3 (ad 21) o3.2.1), ((ad 21), eI cA 13 o3.2.2), ((ad 24), e_X4 (ad 25) t_told), ((ad 25), eI cA 12 t_told_sounds)]) (va_runVN (As := [.ref (ad 24)]) (rest := []) ⟨hx, hb, hml, hown, htg⟩ (c_X3_weighs l D cA _ fu (ad 20) (ad 21) (ad 24) (ad 25) o1 t_trial_heard t_told t_told_sounds o3 ho4) ⟨va_cnB 1 htg (gU q_3_118) rfl rfl rfl (hN _ q_3_115) (htg _ q_1_6) hd_X3_weighs.2 ⟨Nat.le_of_ble_eq_true rfl, Nat.le_of_ble_eq_true rfl⟩, htg _ q_3_117, htg _ q_p3_11⟩ (xpV hN hK hP hD [4, 5, 6, 7] rfl (by decide) rfl rfl) rfl rfl hl.1 rfl (lv_room (Nat.le_of_ble_eq_true rfl)) dX5_shoutInTruth_20 ⟨Nat.zero_le _, Nat.zero_le _⟩) hP hD hS hA [4, 5, 6, 7] [0, 1, 2, 3] [0, 1, 2, 3, 4, 5, 6, 7] rfl rfl (by decide) (by decide) rfl (by decide) (fun H locs hP hD hS => ?_)
  refine lv_istore_n (lv' := [(2, .int o3.1), (0, .ref (ad 0)), (1, .int l1)]) hx hb dX5_shoutInTruth_23 rfl hl (by decide) rfl (fun ls hl => ?_)
  refine lv_iload_n hx hb dX5_shoutInTruth_24 rfl (lv_at hl 0 rfl) ?_
  refine lv_iconst (v := (1 : Int32)) hx hb dX5_shoutInTruth_25 (by decide) ?_
  refine lv_icmp_ne (tgt := 45) hx hb dX5_shoutInTruth_26 (by decide) (fun c5 => ?_) (fun c5 => ?_)
  · have hm := it_f c5 hm
    refine lv_aload_n hx hb dX5_shoutInTruth_45 rfl (lv_at hl 1 rfl) ?_
    refine va_get (D := D) (ci := 5) (v := .ref (ad 1)) (C := RX5) (T := TX5) (N := 17) hx hb htg inX5 hown hK hP 0 rfl rfl 0 (by decide) (htg _ q_1_188) (fun _ h9 => h9) rfl dX5_shoutInTruth_46 ?_
    refine lv_dup hx hb dX5_shoutInTruth_49 rfl ?_
    refine va_getN (D := D) (ci := 1) (v := .int (t_now 6)) (C := RX1) (T := TX1) (N := 12) hx hb htg inX1 hown hK hP 1 rfl rfl 6 (by decide) (va_Nw.use rfl (hN _ q_1_54)) (fun _ h9 => h9) rfl dX5_shoutInTruth_50 ?_
    refine lv_iconst (v := (1 : Int32)) hx hb dX5_shoutInTruth_53 (by decide) ?_
    refine lv_iadd hx hb dX5_shoutInTruth_54 ?_
    refine va_putN (D := D) (ci := 1) (v := .int (t_now 6 + (1 : Int32))) (ty := .int) (C := RX1) (T := TX1) (N := 12) hx hb htg inX1 tyX1 tyX1_ok nmX1 hown hK hP hD hS 1 rfl rfl 6 (by decide) (va_Nw.use rfl (hN _ q_1_54)) (fun _ h9 => h9) rfl (by decide +kernel) rfl rfl (Nat.le_of_ble_eq_true rfl) dX5_shoutInTruth_55 (fun H locs (hP : va_P D CL [((ad 0), e_X5 ad t), ((ad 1), e_X1 (ad 2) (ad 3) (ad 4) (upd t_now 6 (t_now 6 + (1 : Int32)))), ((ad 2), eI cA 8 t_now_kinds), ((ad 4), eI cA 8 t_now_pitches), ((ad 20), e_X3 (ad 21) o3.2.1), ((ad 21), eI cA 13 o3.2.2), ((ad 24), e_X4 (ad 25) t_told), ((ad 25), eI cA 12 t_told_sounds)] H) (hD : va_D A [((ad 0), e_X5 ad t), ((ad 1), e_X1 (ad 2) (ad 3) (ad 4) (upd t_now 6 (t_now 6 + (1 : Int32)))), ((ad 2), eI cA 8 t_now_kinds), ((ad 4), eI cA 8 t_now_pitches), ((ad 20), e_X3 (ad 21) o3.2.1), ((ad 21), eI cA 13 o3.2.2), ((ad 24), e_X4 (ad 25) t_told), ((ad 25), eI cA 12 t_told_sounds)]) hS => ?_)
    exact B_58 _ _ _ _ _ _ _ hm hP hD hS (lv_sub hl [1, 0] rfl)
  · have hm := it_t c5 hm
    refine lv_aload_n hx hb dX5_shoutInTruth_29 rfl (lv_at hl 1 rfl) ?_
    refine va_get (D := D) (ci := 5) (v := .ref (ad 1)) (C := RX5) (T := TX5) (N := 17) hx hb htg inX5 hown hK hP 0 rfl rfl 0 (by decide) (htg _ q_1_188) (fun _ h9 => h9) rfl dX5_shoutInTruth_30 ?_
    refine lv_dup hx hb dX5_shoutInTruth_33 rfl ?_
    refine va_getN (D := D) (ci := 1) (v := .int (t_now 5)) (C := RX1) (T := TX1) (N := 12) hx hb htg inX1 hown hK hP 1 rfl rfl 5 (by decide) (va_Nw.use rfl (hN _ q_1_52)) (fun _ h9 => h9) rfl dX5_shoutInTruth_34 ?_
    refine lv_iconst (v := (1 : Int32)) hx hb dX5_shoutInTruth_37 (by decide) ?_
    refine lv_iadd hx hb dX5_shoutInTruth_38 ?_
    refine va_putN (D := D) (ci := 1) (v := .int (t_now 5 + (1 : Int32))) (ty := .int) (C := RX1) (T := TX1) (N := 12) hx hb htg inX1 tyX1 tyX1_ok nmX1 hown hK hP hD hS 1 rfl rfl 5 (by decide) (va_Nw.use rfl (hN _ q_1_52)) (fun _ h9 => h9) rfl (by decide +kernel) rfl rfl (Nat.le_of_ble_eq_true rfl) dX5_shoutInTruth_39 (fun H locs (hP : va_P D CL [((ad 0), e_X5 ad t), ((ad 1), e_X1 (ad 2) (ad 3) (ad 4) (upd t_now 5 (t_now 5 + (1 : Int32)))), ((ad 2), eI cA 8 t_now_kinds), ((ad 4), eI cA 8 t_now_pitches), ((ad 20), e_X3 (ad 21) o3.2.1), ((ad 21), eI cA 13 o3.2.2), ((ad 24), e_X4 (ad 25) t_told), ((ad 25), eI cA 12 t_told_sounds)] H) (hD : va_D A [((ad 0), e_X5 ad t), ((ad 1), e_X1 (ad 2) (ad 3) (ad 4) (upd t_now 5 (t_now 5 + (1 : Int32)))), ((ad 2), eI cA 8 t_now_kinds), ((ad 4), eI cA 8 t_now_pitches), ((ad 20), e_X3 (ad 21) o3.2.1), ((ad 21), eI cA 13 o3.2.2), ((ad 24), e_X4 (ad 25) t_told), ((ad 25), eI cA 12 t_told_sounds)]) hS => ?_)
    refine lv_goto (tgt := 58) hx hb dX5_shoutInTruth_42 (by decide) ?_
    exact B_58 _ _ _ _ _ _ _ hm hP hD hS (lv_sub hl [1, 0] rfl)
def m_X5_shout (fu : Nat) (t : Nat → Int32) (t_now : Nat → Int32) (t_now_kinds : Nat → Int32) (t_now_pitches : Nat → Int32) (t_shelves_holding : Nat → Int32) (t_shelves_sizes : Nat → Int32) (t_shelves_elements : Nat → Int64) (t_refusals : Nat → Int32) (t_trial : Nat → Int32) (t_trial_heard : Nat → Int32) (t_told : Nat → Int32) (t_told_sounds : Nat → Int32) (l1 : Int32) (l2 : Int32) (l3 : Int32) : Option (Int32 × ((Nat → Int32) × (Nat → Int32) × (Nat → Int32) × (Nat → Int32) × (Nat → Int32) × (Nat → Int32))) :=
  (m_X5_isVoice fu t t_now l3).bind fun o1 =>
  (m_X5_takeWord fu t t_shelves_holding t_shelves_sizes t_shelves_elements t_refusals t_told t_told_sounds l1 l2 o1.1).bind fun o3 =>
  (if o3.1 = 0 then
    (m_X5_shoutInTruth fu t t_now t_now_kinds t_now_pitches t_trial t_trial_heard o3.2.2.1 o3.2.2.2 l3).bind fun o6 =>
    some (o6.1, (o6.2.1, o3.2.1, o6.2.2.1, o6.2.2.2, o3.2.2.1, o3.2.2.2))
  else
    some (o3.1, (t_now, o3.2.1, t_trial, t_trial_heard, o3.2.2.1, o3.2.2.2)))
abbrev rm_X5_shout : Room := ({ frames := 6, cells := 0, slots := 0, locals := 138 } : Room)
abbrev w0_X5_shout (cA : Nat → ClassId) (ad : Nat → Nat) (t : Nat → Int32) (t_now : Nat → Int32) (t_now_kinds : Nat → Int32) (t_now_pitches : Nat → Int32) (t_shelves_holding : Nat → Int32) (t_shelves_sizes : Nat → Int32) (t_shelves_elements : Nat → Int64) (t_refusals : Nat → Int32) (t_trial : Nat → Int32) (t_trial_heard : Nat → Int32) (t_told : Nat → Int32) (t_told_sounds : Nat → Int32) : va_W := [((ad 0), e_X5 ad t), ((ad 1), e_X1 (ad 2) (ad 3) (ad 4) t_now), ((ad 2), eI cA 8 t_now_kinds), ((ad 4), eI cA 8 t_now_pitches), ((ad 13), e_X0 (ad 14) (ad 15) (ad 16)), ((ad 14), eI cA 8 t_shelves_holding), ((ad 15), eI cA 8 t_shelves_sizes), ((ad 16), eJ cA 320 t_shelves_elements), ((ad 19), eI cA 5 t_refusals), ((ad 20), e_X3 (ad 21) t_trial), ((ad 21), eI cA 13 t_trial_heard), ((ad 24), e_X4 (ad 25) t_told), ((ad 25), eI cA 12 t_told_sounds)]
abbrev w1_X5_shout (cA : Nat → ClassId) (ad : Nat → Nat) (t : Nat → Int32) (t_now_kinds : Nat → Int32) (t_now_pitches : Nat → Int32) (t_shelves_holding : Nat → Int32) (t_shelves_sizes : Nat → Int32) (t_shelves_elements : Nat → Int64) (u : (Nat → Int32) × (Nat → Int32) × (Nat → Int32) × (Nat → Int32) × (Nat → Int32) × (Nat → Int32)) : va_W := [((ad 0), e_X5 ad t), ((ad 1), e_X1 (ad 2) (ad 3) (ad 4) u.1), ((ad 2), eI cA 8 t_now_kinds), ((ad 4), eI cA 8 t_now_pitches), ((ad 13), e_X0 (ad 14) (ad 15) (ad 16)), ((ad 14), eI cA 8 t_shelves_holding), ((ad 15), eI cA 8 t_shelves_sizes), ((ad 16), eJ cA 320 t_shelves_elements), ((ad 19), eI cA 5 u.2.1), ((ad 20), e_X3 (ad 21) u.2.2.1), ((ad 21), eI cA 13 u.2.2.2.1), ((ad 24), e_X4 (ad 25) u.2.2.2.2.1), ((ad 25), eI cA 12 u.2.2.2.2.2)]
theorem hd_X5_shout : yX5_shout.cls = RX5 ∧ yX5_shout.cls ≠ "java/lang/invoke/MethodHandle" ∧ yX5_shout.cls ≠ "java/lang/invoke/VarHandle" ∧ (parseMethodDescriptor yX5_shout.desc).map (fun d => d.parameters.length) = some 3 := by decide +kernel
set_option maxHeartbeats 40000000 in
set_option maxRecDepth 100000 in
theorem c_X5_shout (l : Launch) (D : va_G) (cA : Nat → ClassId) (sz : Nat) (fu : Nat) (ad : Nat → Nat) (t : Nat → Int32) (t_now : Nat → Int32) (t_now_kinds : Nat → Int32) (t_now_pitches : Nat → Int32) (t_shelves_holding : Nat → Int32) (t_shelves_sizes : Nat → Int32) (t_shelves_elements : Nat → Int64) (t_refusals : Nat → Int32) (t_trial : Nat → Int32) (t_trial_heard : Nat → Int32) (t_told : Nat → Int32) (t_told_sounds : Nat → Int32) (l1 : Int32) (l2 : Int32) (l3 : Int32) (out : Int32 × ((Nat → Int32) × (Nat → Int32) × (Nat → Int32) × (Nat → Int32) × (Nat → Int32) × (Nat → Int32))) (hm : m_X5_shout fu t t_now t_now_kinds t_now_pitches t_shelves_holding t_shelves_sizes t_shelves_elements t_refusals t_trial t_trial_heard t_told t_told_sounds l1 l2 l3 = some out) : MI l yX5_shout (wU yX5_shout cX5_shout 5 ((Option.some Jvm.ClassFile.FieldType.int))) rm_X5_shout D cA sz [.ref (ad 0), .int l1, .int l2, .int l3] (w0_X5_shout cA ad t t_now t_now_kinds t_now_pitches t_shelves_holding t_shelves_sizes t_shelves_elements t_refusals t_trial t_trial_heard t_told t_told_sounds) out (w1_X5_shout cA ad t t_now_kinds t_now_pitches t_shelves_holding t_shelves_sizes t_shelves_elements) := by
  refine Met.ofW (cc := cX5_shout) (maxL := 5) (ret := (Option.some Jvm.ClassFile.FieldType.int)) (by decide) rfl ?_
  intro p e s m args below meth c s₁ B hml hv
  obtain ⟨hargs, hsz, hP, hK, hD0, hN⟩ := hv
  have hx := B.exec
  have hb := B.bytes
  have hr := B.returns
  have htg : ∀ w ∈ gw, w.before args s = true := fun w h => atoms_spec (ws := wU yX5_shout cX5_shout 5 ((Option.some Jvm.ClassFile.FieldType.int))) B.pre w (List.mem_cons_of_mem _ h)
  have hown : s.vm.findClass RX5 = some m.cls := findClass_of_methodNamed B.named
  have hlocks := B.notSynchronized
  subst hsz
  have hD := hD0.self (sz := s.heap.size)
  have hA : ∀ q : Nat, s.heap.size ≤ q → va_A (w0_X5_shout cA ad t t_now t_now_kinds t_now_pitches t_shelves_holding t_shelves_sizes t_shelves_elements t_refusals t_trial t_trial_heard t_told t_told_sounds) s.heap.size q := fun q h => Or.inr h
  have hS : va_S (va_A (w0_X5_shout cA ad t t_now t_now_kinds t_now_pitches t_shelves_holding t_shelves_sizes t_shelves_elements t_refusals t_trial t_trial_heard t_told t_told_sounds) s.heap.size) s.heap s.heap [] := va_S.rf
  generalize va_A (w0_X5_shout cA ad t t_now t_now_kinds t_now_pitches t_shelves_holding t_shelves_sizes t_shelves_elements t_refusals t_trial t_trial_heard t_told t_told_sounds) s.heap.size = A at hA hD hS ⊢
  obtain ⟨Q, hQ⟩ : ∃ Q : State → Prop, Q = MQ below (va_Qi (fun (r : Int32) (u : (Nat → Int32) × (Nat → Int32) × (Nat → Int32) × (Nat → Int32) × (Nat → Int32) × (Nat → Int32)) => (r, u) = out) (pst0 D cA A (w1_X5_shout cA ad t t_now_kinds t_now_pitches t_shelves_holding t_shelves_sizes t_shelves_elements)) A) args s 0 0 A := ⟨_, rfl⟩
  refine (?_ : W p l e rm_X5_shout s m args below meth c s.heap [] 0 0 (MQ below (va_Qi (fun (r : Int32) (u : (Nat → Int32) × (Nat → Int32) × (Nat → Int32) × (Nat → Int32) × (Nat → Int32) × (Nat → Int32)) => (r, u) = out) (pst0 D cA A (w1_X5_shout cA ad t t_now_kinds t_now_pitches t_shelves_holding t_shelves_sizes t_shelves_elements)) A) args s 0 0 A) (entryFrame m args 5))
  rw [← hQ]
  have hP : va_P D CL [((ad 0), e_X5 ad t), ((ad 1), e_X1 (ad 2) (ad 3) (ad 4) t_now), ((ad 2), eI cA 8 t_now_kinds), ((ad 4), eI cA 8 t_now_pitches), ((ad 13), e_X0 (ad 14) (ad 15) (ad 16)), ((ad 14), eI cA 8 t_shelves_holding), ((ad 15), eI cA 8 t_shelves_sizes), ((ad 16), eJ cA 320 t_shelves_elements), ((ad 19), eI cA 5 t_refusals), ((ad 20), e_X3 (ad 21) t_trial), ((ad 21), eI cA 13 t_trial_heard), ((ad 24), e_X4 (ad 25) t_told), ((ad 25), eI cA 12 t_told_sounds)] s.heap := hP
  have hD : va_D A [((ad 0), e_X5 ad t), ((ad 1), e_X1 (ad 2) (ad 3) (ad 4) t_now), ((ad 2), eI cA 8 t_now_kinds), ((ad 4), eI cA 8 t_now_pitches), ((ad 13), e_X0 (ad 14) (ad 15) (ad 16)), ((ad 14), eI cA 8 t_shelves_holding), ((ad 15), eI cA 8 t_shelves_sizes), ((ad 16), eJ cA 320 t_shelves_elements), ((ad 19), eI cA 5 t_refusals), ((ad 20), e_X3 (ad 21) t_trial), ((ad 21), eI cA 13 t_trial_heard), ((ad 24), e_X4 (ad 25) t_told), ((ad 25), eI cA 12 t_told_sounds)] := hD
  unfold m_X5_shout at hm
  subst hargs
  have hl := lv_entry ([.ref (ad 0), .int l1, .int l2, .int l3]) (n := 5) (Nat.le_of_ble_eq_true rfl)
  rw [lg_entry_eq]
  generalize (lg_sl ([.ref (ad 0), .int l1, .int l2, .int l3]) ++ List.replicate (5 - (lg_sl ([.ref (ad 0), .int l1, .int l2, .int l3])).length) Slot.unset).toArray = ls at hl ⊢
  have hl : lv_has ls 5 [(0, .ref (ad 0)), (1, .int l1), (2, .int l2), (3, .int l3)] := hl
  refine lv_aload_n hx hb dX5_shout_0 rfl (lv_at hl 0 rfl) ?_
  refine lv_iload_n hx hb dX5_shout_1 rfl (lv_at hl 1 rfl) ?_
  refine lv_iload_n hx hb dX5_shout_2 rfl (lv_at hl 2 rfl) ?_
  refine lv_aload_n hx hb dX5_shout_3 rfl (lv_at hl 0 rfl) ?_
  refine lv_iload_n hx hb dX5_shout_4 rfl (lv_at hl 3 rfl) ?_
  obtain ⟨o1, ho2, hm⟩ := bd_s hm
  refine xr_i (wr := [((ad 2), eI cA 8 t_now_kinds), ((ad 4), eI cA 8 t_now_pitches), ((ad 13), e_X0 (ad 14) (ad 15) (ad 16)), ((ad 14), eI cA 8 t_shelves_holding), ((ad 15), eI cA 8 t_shelves_sizes), ((ad 16), eJ cA 320 t_shelves_elements), ((ad 19), eI cA 5 t_refusals), ((ad 20), e_X3 (ad 21) t_trial), ((ad 21), eI cA 13 t_trial_heard), ((ad 24), e_X4 (ad 25) t_told), ((ad 25), eI cA 12 t_told_sounds)]) (wn := [((ad 0), e_X5 ad t), ((ad 1), e_X1 (ad 2) (ad 3) (ad 4) t_now), ((ad 2), eI cA 8 t_now_kinds), ((ad 4), eI cA 8 t_now_pitches), ((ad 13), e_X0 (ad 14) (ad 15) (ad 16)), ((ad 14), eI cA 8 t_shelves_holding), ((ad 15), eI cA 8 t_shelves_sizes), ((ad 16), eJ cA 320 t_shelves_elements), ((ad 19), eI cA 5 t_refusals), ((ad 20), e_X3 (ad 21) t_trial), ((ad 21), eI cA 13 t_trial_heard), ((ad 24), e_X4 (ad 25) t_told), ((ad 25), eI cA 12 t_told_sounds)]) (va_runV (As := [.int l3]) (rest := [.int l2, .int l1, .ref (ad 0)]) ⟨hx, hb, hml, hown, htg⟩ (c_X5_isVoice l D cA _ fu ad t t_now l3 o1 ho2) (cwV 1 htg (gV q_2_87 q_2_89 q_p1_10 q_1_1 q_2_90) rfl rfl rfl hd_X5_isVoice ⟨Nat.le_of_ble_eq_true rfl, Nat.le_of_ble_eq_true rfl⟩) (xpV hN hK hP hD [0, 1] rfl (by decide) rfl rfl) rfl rfl hl.1 rfl (lv_room (Nat.le_of_ble_eq_true rfl)) dX5_shout_5 ⟨Nat.zero_le _, Nat.zero_le _⟩) hP hD hS hA [0, 1] [2, 3, 4, 5, 6, 7, 8, 9, 10, 11, 12] [11, 12, 0, 1, 2, 3, 4, 5, 6, 7, 8, 9, 10] rfl rfl (by decide) (by decide) rfl (by decide) (fun H locs hP hD hS => ?_)
  obtain ⟨o3, ho4, hm⟩ := bd_s hm
  refine xr_i (wr := [((ad 1), e_X1 (ad 2) (ad 3) (ad 4) t_now), ((ad 2), eI cA 8 t_now_kinds), ((ad 4), eI cA 8 t_now_pitches), ((ad 20), e_X3 (ad 21) t_trial), ((ad 21), eI cA 13 t_trial_heard)]) (wn := [((ad 0), e_X5 ad t), ((ad 1), e_X1 (ad 2) (ad 3) (ad 4) t_now), ((ad 2), eI cA 8 t_now_kinds), ((ad 4), eI cA 8 t_now_pitches), ((ad 13), e_X0 (ad 14) (ad 15) (ad 16)), ((ad 14), eI cA 8 t_shelves_holding), ((ad 15), eI cA 8 t_shelves_sizes), ((ad 16), eJ cA 320 t_shelves_elements), ((ad 19), eI cA 5 o3.2.1), ((ad 20), e_X3 (ad 21) t_trial), ((ad 21), eI cA 13 t_trial_heard), ((ad 24), e_X4 (ad 25) o3.2.2.1), ((ad 25), eI cA 12 o3.2.2.2)]) (va_runV (As := [.int l1, .int l2, .int o1.1]) (rest := []) ⟨hx, hb, hml, hown, htg⟩ (c_X5_takeWord l D cA _ fu ad t t_shelves_holding t_shelves_sizes t_shelves_elements t_refusals t_told t_told_sounds l1 l2 o1.1 o3 ho4) (cwV 3 htg (gV q_3_126 q_3_128 q_p3_12 q_1_1 q_3_129) rfl rfl rfl hd_X5_takeWord ⟨Nat.le_of_ble_eq_true rfl, Nat.le_of_ble_eq_true rfl⟩) (xpV hN hK hP hD [0, 4, 5, 6, 7, 8, 11, 12] rfl (by decide) rfl rfl) rfl rfl hl.1 rfl (lv_room (Nat.le_of_ble_eq_true rfl)) dX5_shout_8 ⟨Nat.zero_le _, Nat.zero_le _⟩) hP hD hS hA [0, 4, 5, 6, 7, 8, 11, 12] [1, 2, 3, 9, 10] [5, 0, 1, 2, 6, 7, 8, 9, 10, 3, 4, 11, 12] rfl rfl (by decide) (by decide) rfl (by decide) (fun H locs hP hD hS => ?_)
  refine lv_istore (lv' := [(4, .int o3.1), (0, .ref (ad 0)), (1, .int l1), (2, .int l2), (3, .int l3)]) hx hb dX5_shout_11 hl (by decide) rfl (fun ls hl => ?_)
  refine lv_iload hx hb dX5_shout_13 (lv_at hl 0 rfl) ?_
  refine lv_if_eq (tgt := 21) hx hb dX5_shout_15 (by decide) (fun c5 => ?_) (fun c5 => ?_)
  · have hm := it_t c5 hm
    refine lv_aload_n hx hb dX5_shout_21 rfl (lv_at hl 1 rfl) ?_
    refine lv_iload_n hx hb dX5_shout_22 rfl (lv_at hl 4 rfl) ?_
    obtain ⟨o6, ho7, hm⟩ := bd_s hm
    refine xr_i (wr := [((ad 13), e_X0 (ad 14) (ad 15) (ad 16)), ((ad 14), eI cA 8 t_shelves_holding), ((ad 15), eI cA 8 t_shelves_sizes), ((ad 16), eJ cA 320 t_shelves_elements), ((ad 19), eI cA 5 o3.2.1)]) (wn := [((ad 0), e_X5 ad t), ((ad 1), e_X1 (ad 2) (ad 3) (ad 4) o6.2.1), ((ad 2), eI cA 8 t_now_kinds), ((ad 4), eI cA 8 t_now_pitches), ((ad 13), e_X0 (ad 14) (ad 15) (ad 16)), ((ad 14), eI cA 8 t_shelves_holding), ((ad 15), eI cA 8 t_shelves_sizes), ((ad 16), eJ cA 320 t_shelves_elements), ((ad 19), eI cA 5 o3.2.1), ((ad 20), e_X3 (ad 21) o6.2.2.1), ((ad 21), eI cA 13 o6.2.2.2), ((ad 24), e_X4 (ad 25) o3.2.2.1), ((ad 25), eI cA 12 o3.2.2.2)]) (va_runV (As := [.int l3]) (rest := []) ⟨hx, hb, hml, hown, htg⟩ (c_X5_shoutInTruth l D cA _ fu ad t t_now t_now_kinds t_now_pitches t_trial t_trial_heard o3.2.2.1 o3.2.2.2 l3 o6 ho7) (cwV 1 htg (gV q_4_132 q_4_134 q_p5_2 q_1_1 q_4_135) rfl rfl rfl hd_X5_shoutInTruth ⟨Nat.le_of_ble_eq_true rfl, Nat.le_of_ble_eq_true rfl⟩) (xpV hN hK hP hD [0, 1, 2, 3, 9, 10, 11, 12] rfl (by decide) rfl rfl) rfl rfl hl.1 rfl (lv_room (Nat.le_of_ble_eq_true rfl)) dX5_shout_23 ⟨Nat.zero_le _, Nat.zero_le _⟩) hP hD hS hA [0, 1, 2, 3, 9, 10, 11, 12] [4, 5, 6, 7, 8] [5, 6, 7, 8, 0, 1, 2, 3, 4, 9, 10, 11, 12] rfl rfl (by decide) (by decide) rfl (by decide) (fun H locs hP hD hS => ?_)
    rw [hQ]
    exact W.iret (v := o6.1) hx hb hr (fun t9 ht hW => ⟨⟨o6.1, (o6.2.1, o3.2.1, o6.2.2.1, o6.2.2.2, o3.2.2.1, o3.2.2.2), rfl, (Option.some.inj hm), by rw [ht]; exact hP, va_K.moved hW.alike hK, hD⟩, hS.F ht⟩) hS.2.2 dX5_shout_26
  · have hm := it_f c5 hm
    refine lv_iload hx hb dX5_shout_18 (lv_at hl 0 rfl) ?_
    rw [hQ]
    exact W.iret (v := o3.1) hx hb hr (fun t9 ht hW => ⟨⟨o3.1, (t_now, o3.2.1, t_trial, t_trial_heard, o3.2.2.1, o3.2.2.2), rfl, (Option.some.inj hm), by rw [ht]; exact hP, va_K.moved hW.alike hK, hD⟩, hS.F ht⟩) hS.2.2 dX5_shout_20
def b_X5_days_19 (fu : Nat) (t : Nat → Int32) (k_19 : (Int32 × Int32 × (Nat → Int32) × (Nat → Int32)) → Option (Int32 × ((Nat → Int32) × (Nat → Int32)))) (x : Int32 × Int32 × (Nat → Int32) × (Nat → Int32)) : Option (Int32 × ((Nat → Int32) × (Nat → Int32))) :=
  (if x.1 ≤ x.2.1 then
        some (x.2.2.1 0, (x.2.2.1, x.2.2.2))
      else
        (m_X1_passDay fu x.2.2.1).bind fun o2 =>
        k_19 (x.1, (x.2.1 + (1 : Int32)), o2, x.2.2.2))
def m_X5_days (fu : Nat) (t : Nat → Int32) (t_now : Nat → Int32) (t_refusals : Nat → Int32) (l1 : Int32) : Option (Int32 × ((Nat → Int32) × (Nat → Int32))) :=
  (m_X5_isWithin fu l1 (1 : Int32) (60 : Int32)).bind fun o4 =>
  (if o4.1 = 0 then
    (m_X5_refuse fu t t_refusals (-2 : Int32)).bind fun o7 =>
    some (o7.1, (t_now, o7.2))
  else
    lfix (b_X5_days_19 fu t) fu (l1, (0 : Int32), t_now, t_refusals))
abbrev rm_X5_days : Room := ({ frames := 3, cells := 0, slots := 0, locals := 55 } : Room)
abbrev w0_X5_days (cA : Nat → ClassId) (ad : Nat → Nat) (t : Nat → Int32) (t_now : Nat → Int32) (t_refusals : Nat → Int32) : va_W := [((ad 0), e_X5 ad t), ((ad 1), e_X1 (ad 2) (ad 3) (ad 4) t_now), ((ad 19), eI cA 5 t_refusals)]
abbrev w1_X5_days (cA : Nat → ClassId) (ad : Nat → Nat) (t : Nat → Int32) (u : (Nat → Int32) × (Nat → Int32)) : va_W := [((ad 0), e_X5 ad t), ((ad 1), e_X1 (ad 2) (ad 3) (ad 4) u.1), ((ad 19), eI cA 5 u.2)]
theorem hd_X5_days : yX5_days.cls = RX5 ∧ yX5_days.cls ≠ "java/lang/invoke/MethodHandle" ∧ yX5_days.cls ≠ "java/lang/invoke/VarHandle" ∧ (parseMethodDescriptor yX5_days.desc).map (fun d => d.parameters.length) = some 1 := by decide +kernel
set_option maxHeartbeats 40000000 in
set_option maxRecDepth 100000 in
theorem c_X5_days (l : Launch) (D : va_G) (cA : Nat → ClassId) (sz : Nat) (fu : Nat) (ad : Nat → Nat) (t : Nat → Int32) (t_now : Nat → Int32) (t_refusals : Nat → Int32) (l1 : Int32) (out : Int32 × ((Nat → Int32) × (Nat → Int32))) (hm : m_X5_days fu t t_now t_refusals l1 = some out) : MI l yX5_days (wU yX5_days cX5_days 3 ((Option.some Jvm.ClassFile.FieldType.int))) rm_X5_days D cA sz [.ref (ad 0), .int l1] (w0_X5_days cA ad t t_now t_refusals) out (w1_X5_days cA ad t) := by
  refine Met.ofW (cc := cX5_days) (maxL := 3) (ret := (Option.some Jvm.ClassFile.FieldType.int)) (by decide) rfl ?_
  intro p e s m args below meth c s₁ B hml hv
  obtain ⟨hargs, hsz, hP, hK, hD0, hN⟩ := hv
  have hx := B.exec
  have hb := B.bytes
  have hr := B.returns
  have htg : ∀ w ∈ gw, w.before args s = true := fun w h => atoms_spec (ws := wU yX5_days cX5_days 3 ((Option.some Jvm.ClassFile.FieldType.int))) B.pre w (List.mem_cons_of_mem _ h)
  have hown : s.vm.findClass RX5 = some m.cls := findClass_of_methodNamed B.named
  have hlocks := B.notSynchronized
  subst hsz
  have hD := hD0.self (sz := s.heap.size)
  have hA : ∀ q : Nat, s.heap.size ≤ q → va_A (w0_X5_days cA ad t t_now t_refusals) s.heap.size q := fun q h => Or.inr h
  have hS : va_S (va_A (w0_X5_days cA ad t t_now t_refusals) s.heap.size) s.heap s.heap [] := va_S.rf
  generalize va_A (w0_X5_days cA ad t t_now t_refusals) s.heap.size = A at hA hD hS ⊢
  obtain ⟨Q, hQ⟩ : ∃ Q : State → Prop, Q = MQ below (va_Qi (fun (r : Int32) (u : (Nat → Int32) × (Nat → Int32)) => (r, u) = out) (pst0 D cA A (w1_X5_days cA ad t)) A) args s 0 0 A := ⟨_, rfl⟩
  refine (?_ : W p l e rm_X5_days s m args below meth c s.heap [] 0 0 (MQ below (va_Qi (fun (r : Int32) (u : (Nat → Int32) × (Nat → Int32)) => (r, u) = out) (pst0 D cA A (w1_X5_days cA ad t)) A) args s 0 0 A) (entryFrame m args 3))
  rw [← hQ]
  have hP : va_P D CL [((ad 0), e_X5 ad t), ((ad 1), e_X1 (ad 2) (ad 3) (ad 4) t_now), ((ad 19), eI cA 5 t_refusals)] s.heap := hP
  have hD : va_D A [((ad 0), e_X5 ad t), ((ad 1), e_X1 (ad 2) (ad 3) (ad 4) t_now), ((ad 19), eI cA 5 t_refusals)] := hD
  have B_19 : ∀ (n : Nat) (x : Int32 × Int32 × (Nat → Int32) × (Nat → Int32)) (H : Heap) (locs : List Loc) (ls : Array Slot), lfix (b_X5_days_19 fu t) n x = some out → va_P D CL [((ad 0), e_X5 ad t), ((ad 1), e_X1 (ad 2) (ad 3) (ad 4) x.2.2.1), ((ad 19), eI cA 5 x.2.2.2)] H → va_D A [((ad 0), e_X5 ad t), ((ad 1), e_X1 (ad 2) (ad 3) (ad 4) x.2.2.1), ((ad 19), eI cA 5 x.2.2.2)] → va_S A s.heap H locs → lv_has ls 3 [(0, .ref (ad 0)), (1, .int x.1), (2, .int x.2.1)] → W p l e rm_X5_days s m args below meth c H locs 0 0 Q (F0 m 19 ls []) := by
    intro  n
    induction n with
    | zero => intro x H locs ls hm; cases (show none = some out from hm)
    | succ n HK_19 =>
      intro x H locs ls hm hP hD hS hl
      replace hm : b_X5_days_19 fu t (lfix (b_X5_days_19 fu t) n) x = some out := hm
      unfold b_X5_days_19 at hm
      refine lv_iload_n hx hb dX5_days_19 rfl (lv_at hl 2 rfl) ?_
      refine lv_iload_n hx hb dX5_days_20 rfl (lv_at hl 1 rfl) ?_
      refine lv_icmp_ge (tgt := 37) hx hb dX5_days_21 (by decide) (fun c1 => ?_) (fun c1 => ?_)
      · have hm := it_t c1 hm
        refine lv_aload_n hx hb dX5_days_37 rfl (lv_at hl 0 rfl) ?_
        refine va_get (D := D) (ci := 5) (v := .ref (ad 1)) (C := RX5) (T := TX5) (N := 17) hx hb htg inX5 hown hK hP 0 rfl rfl 0 (by decide) (htg _ q_1_188) (fun _ h9 => h9) rfl dX5_days_38 ?_
        refine va_getN (D := D) (ci := 1) (v := .int (x.2.2.1 0)) (C := RX1) (T := TX1) (N := 12) hx hb htg inX1 hown hK hP 1 rfl rfl 0 (by decide) (va_Nw.use rfl (hN _ q_1_34)) (fun _ h9 => h9) rfl dX5_days_41 ?_
        rw [hQ]
        exact W.iret (v := x.2.2.1 0) hx hb hr (fun t9 ht hW => ⟨⟨x.2.2.1 0, (x.2.2.1, x.2.2.2), rfl, (Option.some.inj hm), by rw [ht]; exact hP, va_K.moved hW.alike hK, hD⟩, hS.F ht⟩) hS.2.2 dX5_days_44
      · have hm := it_f c1 hm
        refine lv_aload_n hx hb dX5_days_24 rfl (lv_at hl 0 rfl) ?_
        refine va_get (D := D) (ci := 5) (v := .ref (ad 1)) (C := RX5) (T := TX5) (N := 17) hx hb htg inX5 hown hK hP 0 rfl rfl 0 (by decide) (htg _ q_1_188) (fun _ h9 => h9) rfl dX5_days_25 ?_
        obtain ⟨o2, ho3, hm⟩ := bd_s hm
        refine xr_v (wr := [((ad 0), e_X5 ad t), ((ad 19), eI cA 5 x.2.2.2)]) (wn := [((ad 0), e_X5 ad t), ((ad 1), e_X1 (ad 2) (ad 3) (ad 4) o2), ((ad 19), eI cA 5 x.2.2.2)]) (va_runVN (As := []) (rest := []) ⟨hx, hb, hml, hown, htg⟩ (c_X1_passDay l D cA _ fu (ad 1) (ad 2) (ad 3) (ad 4) x.2.2.1 o2 ho3) ⟨va_cnB 0 htg (gU q_4_143) rfl rfl rfl (hN _ q_4_140) (htg _ q_1_2) hd_X1_passDay.2 ⟨Nat.le_of_ble_eq_true rfl, Nat.le_of_ble_eq_true rfl⟩, htg _ q_4_142, htg _ q_p5_3⟩ (xpV hN hK hP hD [1] rfl (by decide) rfl rfl) rfl rfl hl.1 rfl (lv_room (Nat.le_of_ble_eq_true rfl)) dX5_days_28 ⟨Nat.zero_le _, Nat.zero_le _⟩) hP hD hS hA [1] [0, 2] [0, 2, 1] rfl rfl (by decide) (by decide) rfl (by decide) (fun H locs hP hD hS => ?_)
        refine lv_iinc (v := (x.2.1 + (1 : Int32))) (lv' := [(2, .int (x.2.1 + (1 : Int32))), (0, .ref (ad 0)), (1, .int x.1)]) hx hb dX5_days_31 hl (k := 2) rfl rfl (by decide) rfl (fun ls hl => ?_)
        refine lv_goto (tgt := 19) hx hb dX5_days_34 (by decide) ?_
        exact HK_19 _ _ _ _ hm hP hD hS (lv_sub hl [1, 2, 0] rfl)
  unfold m_X5_days at hm
  subst hargs
  have hl := lv_entry ([.ref (ad 0), .int l1]) (n := 3) (Nat.le_of_ble_eq_true rfl)
  rw [lg_entry_eq]
  generalize (lg_sl ([.ref (ad 0), .int l1]) ++ List.replicate (3 - (lg_sl ([.ref (ad 0), .int l1])).length) Slot.unset).toArray = ls at hl ⊢
  have hl : lv_has ls 3 [(0, .ref (ad 0)), (1, .int l1)] := hl
  refine lv_iload_n hx hb dX5_days_0 rfl (lv_at hl 1 rfl) ?_
  refine lv_iconst (v := (1 : Int32)) hx hb dX5_days_1 (by decide) ?_
  refine lv_bipush (v := (60 : Int32)) hx hb dX5_days_2 (by decide) ?_
  obtain ⟨o4, ho5, hm⟩ := bd_s hm
  refine xr_i (wr := [((ad 0), e_X5 ad t), ((ad 1), e_X1 (ad 2) (ad 3) (ad 4) t_now), ((ad 19), eI cA 5 t_refusals)]) (wn := [((ad 0), e_X5 ad t), ((ad 1), e_X1 (ad 2) (ad 3) (ad 4) t_now), ((ad 19), eI cA 5 t_refusals)]) (va_runS (As := [.int l1, .int (1 : Int32), .int (60 : Int32)]) (rest := []) ⟨hx, hb, hml, hown, htg⟩ (c_X5_isWithin l D cA _ fu l1 (1 : Int32) (60 : Int32) o4 ho5) (cwS 3 htg (gS q_2_7 q_2_8 q_1_1 q_2_9) rfl rfl rfl hd_X5_isWithin ⟨Nat.le_of_ble_eq_true rfl, Nat.le_of_ble_eq_true rfl⟩) (xpS hN hK hP hD [] rfl (by decide)) rfl rfl hl.1 rfl (lv_room (Nat.le_of_ble_eq_true rfl)) dX5_days_4 ⟨Nat.zero_le _, Nat.zero_le _⟩) hP hD hS hA [] [0, 1, 2] [0, 1, 2] rfl rfl (by decide) (by decide) rfl (by decide) (fun H locs hP hD hS => ?_)
  refine lv_if_ne (tgt := 17) hx hb dX5_days_7 (by decide) (fun c6 => ?_) (fun c6 => ?_)
  · have hm := it_f c6 hm
    refine lv_iconst (v := (0 : Int32)) hx hb dX5_days_17 (by decide) ?_
    refine lv_istore_n (lv' := [(2, .int (0 : Int32)), (0, .ref (ad 0)), (1, .int l1)]) hx hb dX5_days_18 rfl hl (by decide) rfl (fun ls hl => ?_)
    exact B_19 fu _ _ _ _ hm hP hD hS (lv_sub hl [1, 2, 0] rfl)
  · have hm := it_t c6 hm
    refine lv_aload_n hx hb dX5_days_10 rfl (lv_at hl 0 rfl) ?_
    refine lv_bipush (v := (-2 : Int32)) hx hb dX5_days_11 (by decide) ?_
    obtain ⟨o7, ho8, hm⟩ := bd_s hm
    refine xr_i (wr := [((ad 1), e_X1 (ad 2) (ad 3) (ad 4) t_now)]) (wn := [((ad 0), e_X5 ad t), ((ad 1), e_X1 (ad 2) (ad 3) (ad 4) t_now), ((ad 19), eI cA 5 o7.2)]) (va_runV (As := [.int (-2 : Int32)]) (rest := []) ⟨hx, hb, hml, hown, htg⟩ (c_X5_refuse l D cA _ fu ad t t_refusals (-2 : Int32) o7 ho8) (cwV 1 htg (gV q_2_10 q_2_12 q_p1_0 q_1_1 q_2_13) rfl rfl rfl hd_X5_refuse ⟨Nat.le_of_ble_eq_true rfl, Nat.le_of_ble_eq_true rfl⟩) (xpV hN hK hP hD [0, 2] rfl (by decide) rfl rfl) rfl rfl hl.1 rfl (lv_room (Nat.le_of_ble_eq_true rfl)) dX5_days_13 ⟨Nat.zero_le _, Nat.zero_le _⟩) hP hD hS hA [0, 2] [1] [1, 0, 2] rfl rfl (by decide) (by decide) rfl (by decide) (fun H locs hP hD hS => ?_)
    rw [hQ]
    exact W.iret (v := o7.1) hx hb hr (fun t9 ht hW => ⟨⟨o7.1, (t_now, o7.2), rfl, (Option.some.inj hm), by rw [ht]; exact hP, va_K.moved hW.alike hK, hD⟩, hS.F ht⟩) hS.2.2 dX5_days_16
def b_X5_drawn_93 (fu : Nat) (t : Nat → Int32) (t_now_kinds : Nat → Int32) (t_now_pitches : Nat → Int32) (t_shelves_holding : Nat → Int32) (t_shelves_sizes : Nat → Int32) (t_shelves_elements : Nat → Int64) (k_46 : (Int32 × Int32 × Int32 × (Nat → Int32) × (Nat → Int32) × (Nat → Int32) × (Nat → Int32) × (Nat → Int32) × (Nat → Int32)) → Option (Int32 × ((Nat → Int32) × (Nat → Int32) × (Nat → Int32) × (Nat → Int32) × (Nat → Int32) × (Nat → Int32)))) (l3 : Int32) (l5 : Int32) (l6 : Int32) (t_now : Nat → Int32) (t_refusals : Nat → Int32) (t_trial : Nat → Int32) (t_trial_heard : Nat → Int32) (t_told : Nat → Int32) (t_told_sounds : Nat → Int32) : Option (Int32 × ((Nat → Int32) × (Nat → Int32) × (Nat → Int32) × (Nat → Int32) × (Nat → Int32) × (Nat → Int32))) :=
  (m_X1_passDay fu t_now).bind fun o1 =>
    k_46 (l3, l5, (l6 + (1 : Int32)), o1, t_refusals, t_trial, t_trial_heard, t_told, t_told_sounds)
def b_X5_drawn_46 (fu : Nat) (t : Nat → Int32) (t_now_kinds : Nat → Int32) (t_now_pitches : Nat → Int32) (t_shelves_holding : Nat → Int32) (t_shelves_sizes : Nat → Int32) (t_shelves_elements : Nat → Int64) (k_46 : (Int32 × Int32 × Int32 × (Nat → Int32) × (Nat → Int32) × (Nat → Int32) × (Nat → Int32) × (Nat → Int32) × (Nat → Int32)) → Option (Int32 × ((Nat → Int32) × (Nat → Int32) × (Nat → Int32) × (Nat → Int32) × (Nat → Int32) × (Nat → Int32)))) (x : Int32 × Int32 × Int32 × (Nat → Int32) × (Nat → Int32) × (Nat → Int32) × (Nat → Int32) × (Nat → Int32) × (Nat → Int32)) : Option (Int32 × ((Nat → Int32) × (Nat → Int32) × (Nat → Int32) × (Nat → Int32) × (Nat → Int32) × (Nat → Int32))) :=
  (if x.1 ≤ x.2.2.1 then
        some (x.2.1, (x.2.2.2.1, x.2.2.2.2.1, x.2.2.2.2.2.1, x.2.2.2.2.2.2.1, x.2.2.2.2.2.2.2.1, x.2.2.2.2.2.2.2.2))
      else
        (m_X1_draw fu x.2.2.2.1 (10 : Int32)).bind fun o4 =>
        (m_X1_draw fu (upd o4.2 1 o4.1) (o4.2 8)).bind fun o6 =>
        (m_X5_shoutInTruth fu t o6.2 t_now_kinds t_now_pitches x.2.2.2.2.2.1 x.2.2.2.2.2.2.1 x.2.2.2.2.2.2.2.1 x.2.2.2.2.2.2.2.2 o6.1).bind fun o8 =>
        (if o8.1 = (1 : Int32) then
          b_X5_drawn_93 fu t t_now_kinds t_now_pitches t_shelves_holding t_shelves_sizes t_shelves_elements k_46 x.1 (x.2.1 + (1 : Int32)) x.2.2.1 o8.2.1 x.2.2.2.2.1 o8.2.2.1 o8.2.2.2 x.2.2.2.2.2.2.2.1 x.2.2.2.2.2.2.2.2
        else
          b_X5_drawn_93 fu t t_now_kinds t_now_pitches t_shelves_holding t_shelves_sizes t_shelves_elements k_46 x.1 x.2.1 x.2.2.1 o8.2.1 x.2.2.2.2.1 o8.2.2.1 o8.2.2.2 x.2.2.2.2.2.2.2.1 x.2.2.2.2.2.2.2.2))
def m_X5_drawn (fu : Nat) (t : Nat → Int32) (t_now : Nat → Int32) (t_now_kinds : Nat → Int32) (t_now_pitches : Nat → Int32) (t_shelves_holding : Nat → Int32) (t_shelves_sizes : Nat → Int32) (t_shelves_elements : Nat → Int64) (t_refusals : Nat → Int32) (t_trial : Nat → Int32) (t_trial_heard : Nat → Int32) (t_told : Nat → Int32) (t_told_sounds : Nat → Int32) (l1 : Int32) (l2 : Int32) (l3 : Int32) : Option (Int32 × ((Nat → Int32) × (Nat → Int32) × (Nat → Int32) × (Nat → Int32) × (Nat → Int32) × (Nat → Int32))) :=
  (m_X5_isWithin fu l3 (1 : Int32) (40 : Int32)).bind fun o11 =>
  (m_X5_takeWord fu t t_shelves_holding t_shelves_sizes t_shelves_elements t_refusals t_told t_told_sounds l1 l2 o11.1).bind fun o13 =>
  (if o13.1 = 0 then
    (if t_now 8 = 0 then
      (m_X5_refuse fu t o13.2.1 (-5 : Int32)).bind fun o17 =>
      some (o17.1, (t_now, o17.2, t_trial, t_trial_heard, o13.2.2.1, o13.2.2.2))
    else
      lfix (b_X5_drawn_46 fu t t_now_kinds t_now_pitches t_shelves_holding t_shelves_sizes t_shelves_elements) fu (l3, (0 : Int32), (0 : Int32), t_now, o13.2.1, t_trial, t_trial_heard, o13.2.2.1, o13.2.2.2))
  else
    some (o13.1, (t_now, o13.2.1, t_trial, t_trial_heard, o13.2.2.1, o13.2.2.2)))
abbrev rm_X5_drawn : Room := ({ frames := 6, cells := 0, slots := 0, locals := 138 } : Room)
abbrev w0_X5_drawn (cA : Nat → ClassId) (ad : Nat → Nat) (t : Nat → Int32) (t_now : Nat → Int32) (t_now_kinds : Nat → Int32) (t_now_pitches : Nat → Int32) (t_shelves_holding : Nat → Int32) (t_shelves_sizes : Nat → Int32) (t_shelves_elements : Nat → Int64) (t_refusals : Nat → Int32) (t_trial : Nat → Int32) (t_trial_heard : Nat → Int32) (t_told : Nat → Int32) (t_told_sounds : Nat → Int32) : va_W := [((ad 0), e_X5 ad t), ((ad 1), e_X1 (ad 2) (ad 3) (ad 4) t_now), ((ad 2), eI cA 8 t_now_kinds), ((ad 4), eI cA 8 t_now_pitches), ((ad 13), e_X0 (ad 14) (ad 15) (ad 16)), ((ad 14), eI cA 8 t_shelves_holding), ((ad 15), eI cA 8 t_shelves_sizes), ((ad 16), eJ cA 320 t_shelves_elements), ((ad 19), eI cA 5 t_refusals), ((ad 20), e_X3 (ad 21) t_trial), ((ad 21), eI cA 13 t_trial_heard), ((ad 24), e_X4 (ad 25) t_told), ((ad 25), eI cA 12 t_told_sounds)]
abbrev w1_X5_drawn (cA : Nat → ClassId) (ad : Nat → Nat) (t : Nat → Int32) (t_now_kinds : Nat → Int32) (t_now_pitches : Nat → Int32) (t_shelves_holding : Nat → Int32) (t_shelves_sizes : Nat → Int32) (t_shelves_elements : Nat → Int64) (u : (Nat → Int32) × (Nat → Int32) × (Nat → Int32) × (Nat → Int32) × (Nat → Int32) × (Nat → Int32)) : va_W := [((ad 0), e_X5 ad t), ((ad 1), e_X1 (ad 2) (ad 3) (ad 4) u.1), ((ad 2), eI cA 8 t_now_kinds), ((ad 4), eI cA 8 t_now_pitches), ((ad 13), e_X0 (ad 14) (ad 15) (ad 16)), ((ad 14), eI cA 8 t_shelves_holding), ((ad 15), eI cA 8 t_shelves_sizes), ((ad 16), eJ cA 320 t_shelves_elements), ((ad 19), eI cA 5 u.2.1), ((ad 20), e_X3 (ad 21) u.2.2.1), ((ad 21), eI cA 13 u.2.2.2.1), ((ad 24), e_X4 (ad 25) u.2.2.2.2.1), ((ad 25), eI cA 12 u.2.2.2.2.2)]
theorem hd_X5_drawn : yX5_drawn.cls = RX5 ∧ yX5_drawn.cls ≠ "java/lang/invoke/MethodHandle" ∧ yX5_drawn.cls ≠ "java/lang/invoke/VarHandle" ∧ (parseMethodDescriptor yX5_drawn.desc).map (fun d => d.parameters.length) = some 3 := by decide +kernel
set_option maxHeartbeats 40000000 in
set_option maxRecDepth 100000 in
theorem c_X5_drawn (l : Launch) (D : va_G) (cA : Nat → ClassId) (sz : Nat) (fu : Nat) (ad : Nat → Nat) (t : Nat → Int32) (t_now : Nat → Int32) (t_now_kinds : Nat → Int32) (t_now_pitches : Nat → Int32) (t_shelves_holding : Nat → Int32) (t_shelves_sizes : Nat → Int32) (t_shelves_elements : Nat → Int64) (t_refusals : Nat → Int32) (t_trial : Nat → Int32) (t_trial_heard : Nat → Int32) (t_told : Nat → Int32) (t_told_sounds : Nat → Int32) (l1 : Int32) (l2 : Int32) (l3 : Int32) (out : Int32 × ((Nat → Int32) × (Nat → Int32) × (Nat → Int32) × (Nat → Int32) × (Nat → Int32) × (Nat → Int32))) (hm : m_X5_drawn fu t t_now t_now_kinds t_now_pitches t_shelves_holding t_shelves_sizes t_shelves_elements t_refusals t_trial t_trial_heard t_told t_told_sounds l1 l2 l3 = some out) : MI l yX5_drawn (wU yX5_drawn cX5_drawn 7 ((Option.some Jvm.ClassFile.FieldType.int))) rm_X5_drawn D cA sz [.ref (ad 0), .int l1, .int l2, .int l3] (w0_X5_drawn cA ad t t_now t_now_kinds t_now_pitches t_shelves_holding t_shelves_sizes t_shelves_elements t_refusals t_trial t_trial_heard t_told t_told_sounds) out (w1_X5_drawn cA ad t t_now_kinds t_now_pitches t_shelves_holding t_shelves_sizes t_shelves_elements) := by
  refine Met.ofW (cc := cX5_drawn) (maxL := 7) (ret := (Option.some Jvm.ClassFile.FieldType.int)) (by decide) rfl ?_
  intro p e s m args below meth c s₁ B hml hv
  obtain ⟨hargs, hsz, hP, hK, hD0, hN⟩ := hv
  have hx := B.exec
  have hb := B.bytes
  have hr := B.returns
  have htg : ∀ w ∈ gw, w.before args s = true := fun w h => atoms_spec (ws := wU yX5_drawn cX5_drawn 7 ((Option.some Jvm.ClassFile.FieldType.int))) B.pre w (List.mem_cons_of_mem _ h)
  have hown : s.vm.findClass RX5 = some m.cls := findClass_of_methodNamed B.named
  have hlocks := B.notSynchronized
  subst hsz
  have hD := hD0.self (sz := s.heap.size)
  have hA : ∀ q : Nat, s.heap.size ≤ q → va_A (w0_X5_drawn cA ad t t_now t_now_kinds t_now_pitches t_shelves_holding t_shelves_sizes t_shelves_elements t_refusals t_trial t_trial_heard t_told t_told_sounds) s.heap.size q := fun q h => Or.inr h
  have hS : va_S (va_A (w0_X5_drawn cA ad t t_now t_now_kinds t_now_pitches t_shelves_holding t_shelves_sizes t_shelves_elements t_refusals t_trial t_trial_heard t_told t_told_sounds) s.heap.size) s.heap s.heap [] := va_S.rf
  generalize va_A (w0_X5_drawn cA ad t t_now t_now_kinds t_now_pitches t_shelves_holding t_shelves_sizes t_shelves_elements t_refusals t_trial t_trial_heard t_told t_told_sounds) s.heap.size = A at hA hD hS ⊢
  obtain ⟨Q, hQ⟩ : ∃ Q : State → Prop, Q = MQ below (va_Qi (fun (r : Int32) (u : (Nat → Int32) × (Nat → Int32) × (Nat → Int32) × (Nat → Int32) × (Nat → Int32) × (Nat → Int32)) => (r, u) = out) (pst0 D cA A (w1_X5_drawn cA ad t t_now_kinds t_now_pitches t_shelves_holding t_shelves_sizes t_shelves_elements)) A) args s 0 0 A := ⟨_, rfl⟩
  refine (?_ : W p l e rm_X5_drawn s m args below meth c s.heap [] 0 0 (MQ below (va_Qi (fun (r : Int32) (u : (Nat → Int32) × (Nat → Int32) × (Nat → Int32) × (Nat → Int32) × (Nat → Int32) × (Nat → Int32)) => (r, u) = out) (pst0 D cA A (w1_X5_drawn cA ad t t_now_kinds t_now_pitches t_shelves_holding t_shelves_sizes t_shelves_elements)) A) args s 0 0 A) (entryFrame m args 7))
  rw [← hQ]
  have hP : va_P D CL [((ad 0), e_X5 ad t), ((ad 1), e_X1 (ad 2) (ad 3) (ad 4) t_now), ((ad 2), eI cA 8 t_now_kinds), ((ad 4), eI cA 8 t_now_pitches), ((ad 13), e_X0 (ad 14) (ad 15) (ad 16)), ((ad 14), eI cA 8 t_shelves_holding), ((ad 15), eI cA 8 t_shelves_sizes), ((ad 16), eJ cA 320 t_shelves_elements), ((ad 19), eI cA 5 t_refusals), ((ad 20), e_X3 (ad 21) t_trial), ((ad 21), eI cA 13 t_trial_heard), ((ad 24), e_X4 (ad 25) t_told), ((ad 25), eI cA 12 t_told_sounds)] s.heap := hP
  have hD : va_D A [((ad 0), e_X5 ad t), ((ad 1), e_X1 (ad 2) (ad 3) (ad 4) t_now), ((ad 2), eI cA 8 t_now_kinds), ((ad 4), eI cA 8 t_now_pitches), ((ad 13), e_X0 (ad 14) (ad 15) (ad 16)), ((ad 14), eI cA 8 t_shelves_holding), ((ad 15), eI cA 8 t_shelves_sizes), ((ad 16), eJ cA 320 t_shelves_elements), ((ad 19), eI cA 5 t_refusals), ((ad 20), e_X3 (ad 21) t_trial), ((ad 21), eI cA 13 t_trial_heard), ((ad 24), e_X4 (ad 25) t_told), ((ad 25), eI cA 12 t_told_sounds)] := hD
  have B_93 : ∀ (k_46 : (Int32 × Int32 × Int32 × (Nat → Int32) × (Nat → Int32) × (Nat → Int32) × (Nat → Int32) × (Nat → Int32) × (Nat → Int32)) → Option (Int32 × ((Nat → Int32) × (Nat → Int32) × (Nat → Int32) × (Nat → Int32) × (Nat → Int32) × (Nat → Int32)))) (HK_46 : ∀ (x : Int32 × Int32 × Int32 × (Nat → Int32) × (Nat → Int32) × (Nat → Int32) × (Nat → Int32) × (Nat → Int32) × (Nat → Int32)) (H : Heap) (locs : List Loc) (ls : Array Slot), k_46 x = some out → va_P D CL [((ad 0), e_X5 ad t), ((ad 1), e_X1 (ad 2) (ad 3) (ad 4) x.2.2.2.1), ((ad 2), eI cA 8 t_now_kinds), ((ad 4), eI cA 8 t_now_pitches), ((ad 13), e_X0 (ad 14) (ad 15) (ad 16)), ((ad 14), eI cA 8 t_shelves_holding), ((ad 15), eI cA 8 t_shelves_sizes), ((ad 16), eJ cA 320 t_shelves_elements), ((ad 19), eI cA 5 x.2.2.2.2.1), ((ad 20), e_X3 (ad 21) x.2.2.2.2.2.1), ((ad 21), eI cA 13 x.2.2.2.2.2.2.1), ((ad 24), e_X4 (ad 25) x.2.2.2.2.2.2.2.1), ((ad 25), eI cA 12 x.2.2.2.2.2.2.2.2)] H → va_D A [((ad 0), e_X5 ad t), ((ad 1), e_X1 (ad 2) (ad 3) (ad 4) x.2.2.2.1), ((ad 2), eI cA 8 t_now_kinds), ((ad 4), eI cA 8 t_now_pitches), ((ad 13), e_X0 (ad 14) (ad 15) (ad 16)), ((ad 14), eI cA 8 t_shelves_holding), ((ad 15), eI cA 8 t_shelves_sizes), ((ad 16), eJ cA 320 t_shelves_elements), ((ad 19), eI cA 5 x.2.2.2.2.1), ((ad 20), e_X3 (ad 21) x.2.2.2.2.2.1), ((ad 21), eI cA 13 x.2.2.2.2.2.2.1), ((ad 24), e_X4 (ad 25) x.2.2.2.2.2.2.2.1), ((ad 25), eI cA 12 x.2.2.2.2.2.2.2.2)] → va_S A s.heap H locs → lv_has ls 7 [(0, .ref (ad 0)), (3, .int x.1), (5, .int x.2.1), (6, .int x.2.2.1)] → W p l e rm_X5_drawn s m args below meth c H locs 0 0 Q (F0 m 46 ls [])) (l3 : Int32) (l5 : Int32) (l6 : Int32) (t_now : Nat → Int32) (t_refusals : Nat → Int32) (t_trial : Nat → Int32) (t_trial_heard : Nat → Int32) (t_told : Nat → Int32) (t_told_sounds : Nat → Int32) (H : Heap) (locs : List Loc) (ls : Array Slot), b_X5_drawn_93 fu t t_now_kinds t_now_pitches t_shelves_holding t_shelves_sizes t_shelves_elements k_46 l3 l5 l6 t_now t_refusals t_trial t_trial_heard t_told t_told_sounds = some out → va_P D CL [((ad 0), e_X5 ad t), ((ad 1), e_X1 (ad 2) (ad 3) (ad 4) t_now), ((ad 2), eI cA 8 t_now_kinds), ((ad 4), eI cA 8 t_now_pitches), ((ad 13), e_X0 (ad 14) (ad 15) (ad 16)), ((ad 14), eI cA 8 t_shelves_holding), ((ad 15), eI cA 8 t_shelves_sizes), ((ad 16), eJ cA 320 t_shelves_elements), ((ad 19), eI cA 5 t_refusals), ((ad 20), e_X3 (ad 21) t_trial), ((ad 21), eI cA 13 t_trial_heard), ((ad 24), e_X4 (ad 25) t_told), ((ad 25), eI cA 12 t_told_sounds)] H → va_D A [((ad 0), e_X5 ad t), ((ad 1), e_X1 (ad 2) (ad 3) (ad 4) t_now), ((ad 2), eI cA 8 t_now_kinds), ((ad 4), eI cA 8 t_now_pitches), ((ad 13), e_X0 (ad 14) (ad 15) (ad 16)), ((ad 14), eI cA 8 t_shelves_holding), ((ad 15), eI cA 8 t_shelves_sizes), ((ad 16), eJ cA 320 t_shelves_elements), ((ad 19), eI cA 5 t_refusals), ((ad 20), e_X3 (ad 21) t_trial), ((ad 21), eI cA 13 t_trial_heard), ((ad 24), e_X4 (ad 25) t_told), ((ad 25), eI cA 12 t_told_sounds)] → va_S A s.heap H locs → lv_has ls 7 [(0, .ref (ad 0)), (3, .int l3), (5, .int l5), (6, .int l6)] → W p l e rm_X5_drawn s m args below meth c H locs 0 0 Q (F0 m 93 ls []) := by
    intro k_46 HK_46 l3 l5 l6 t_now t_refusals t_trial t_trial_heard t_told t_told_sounds H locs ls hm hP hD hS hl
    unfold b_X5_drawn_93 at hm
    refine lv_aload_n hx hb dX5_drawn_93 rfl (lv_at hl 0 rfl) ?_
    refine va_get (D := D) (ci := 5) (v := .ref (ad 1)) (C := RX5) (T := TX5) (N := 17) hx hb htg inX5 hown hK hP 0 rfl rfl 0 (by decide) (htg _ q_1_188) (fun _ h9 => h9) rfl dX5_drawn_94 ?_
    obtain ⟨o1, ho2, hm⟩ := bd_s hm
    refine xr_v (wr := [((ad 0), e_X5 ad t), ((ad 2), eI cA 8 t_now_kinds), ((ad 4), eI cA 8 t_now_pitches), ((ad 13), e_X0 (ad 14) (ad 15) (ad 16)), ((ad 14), eI cA 8 t_shelves_holding), ((ad 15), eI cA 8 t_shelves_sizes), ((ad 16), eJ cA 320 t_shelves_elements), ((ad 19), eI cA 5 t_refusals), ((ad 20), e_X3 (ad 21) t_trial), ((ad 21), eI cA 13 t_trial_heard), ((ad 24), e_X4 (ad 25) t_told), ((ad 25), eI cA 12 t_told_sounds)]) (wn := [((ad 0), e_X5 ad t), ((ad 1), e_X1 (ad 2) (ad 3) (ad 4) o1), ((ad 2), eI cA 8 t_now_kinds), ((ad 4), eI cA 8 t_now_pitches), ((ad 13), e_X0 (ad 14) (ad 15) (ad 16)), ((ad 14), eI cA 8 t_shelves_holding), ((ad 15), eI cA 8 t_shelves_sizes), ((ad 16), eJ cA 320 t_shelves_elements), ((ad 19), eI cA 5 t_refusals), ((ad 20), e_X3 (ad 21) t_trial), ((ad 21), eI cA 13 t_trial_heard), ((ad 24), e_X4 (ad 25) t_told), ((ad 25), eI cA 12 t_told_sounds)]) (va_runVN (As := []) (rest := []) ⟨hx, hb, hml, hown, htg⟩ (c_X1_passDay l D cA _ fu (ad 1) (ad 2) (ad 3) (ad 4) t_now o1 ho2) ⟨va_cnB 0 htg (gU q_4_143) rfl rfl rfl (hN _ q_4_140) (htg _ q_1_2) hd_X1_passDay.2 ⟨Nat.le_of_ble_eq_true rfl, Nat.le_of_ble_eq_true rfl⟩, htg _ q_4_142, htg _ q_p5_3⟩ (xpV hN hK hP hD [1] rfl (by decide) rfl rfl) rfl rfl hl.1 rfl (lv_room (Nat.le_of_ble_eq_true rfl)) dX5_drawn_97 ⟨Nat.zero_le _, Nat.zero_le _⟩) hP hD hS hA [1] [0, 2, 3, 4, 5, 6, 7, 8, 9, 10, 11, 12] [0, 12, 1, 2, 3, 4, 5, 6, 7, 8, 9, 10, 11] rfl rfl (by decide) (by decide) rfl (by decide) (fun H locs hP hD hS => ?_)
    refine lv_iinc (v := (l6 + (1 : Int32))) (lv' := [(6, .int (l6 + (1 : Int32))), (0, .ref (ad 0)), (3, .int l3), (5, .int l5)]) hx hb dX5_drawn_100 hl (k := 3) rfl rfl (by decide) rfl (fun ls hl => ?_)
    refine lv_goto (tgt := 46) hx hb dX5_drawn_103 (by decide) ?_
    exact HK_46 _ _ _ _ hm hP hD hS (lv_sub hl [1, 2, 3, 0] rfl)
  have B_46 : ∀ (n : Nat) (x : Int32 × Int32 × Int32 × (Nat → Int32) × (Nat → Int32) × (Nat → Int32) × (Nat → Int32) × (Nat → Int32) × (Nat → Int32)) (H : Heap) (locs : List Loc) (ls : Array Slot), lfix (b_X5_drawn_46 fu t t_now_kinds t_now_pitches t_shelves_holding t_shelves_sizes t_shelves_elements) n x = some out → va_P D CL [((ad 0), e_X5 ad t), ((ad 1), e_X1 (ad 2) (ad 3) (ad 4) x.2.2.2.1), ((ad 2), eI cA 8 t_now_kinds), ((ad 4), eI cA 8 t_now_pitches), ((ad 13), e_X0 (ad 14) (ad 15) (ad 16)), ((ad 14), eI cA 8 t_shelves_holding), ((ad 15), eI cA 8 t_shelves_sizes), ((ad 16), eJ cA 320 t_shelves_elements), ((ad 19), eI cA 5 x.2.2.2.2.1), ((ad 20), e_X3 (ad 21) x.2.2.2.2.2.1), ((ad 21), eI cA 13 x.2.2.2.2.2.2.1), ((ad 24), e_X4 (ad 25) x.2.2.2.2.2.2.2.1), ((ad 25), eI cA 12 x.2.2.2.2.2.2.2.2)] H → va_D A [((ad 0), e_X5 ad t), ((ad 1), e_X1 (ad 2) (ad 3) (ad 4) x.2.2.2.1), ((ad 2), eI cA 8 t_now_kinds), ((ad 4), eI cA 8 t_now_pitches), ((ad 13), e_X0 (ad 14) (ad 15) (ad 16)), ((ad 14), eI cA 8 t_shelves_holding), ((ad 15), eI cA 8 t_shelves_sizes), ((ad 16), eJ cA 320 t_shelves_elements), ((ad 19), eI cA 5 x.2.2.2.2.1), ((ad 20), e_X3 (ad 21) x.2.2.2.2.2.1), ((ad 21), eI cA 13 x.2.2.2.2.2.2.1), ((ad 24), e_X4 (ad 25) x.2.2.2.2.2.2.2.1), ((ad 25), eI cA 12 x.2.2.2.2.2.2.2.2)] → va_S A s.heap H locs → lv_has ls 7 [(0, .ref (ad 0)), (3, .int x.1), (5, .int x.2.1), (6, .int x.2.2.1)] → W p l e rm_X5_drawn s m args below meth c H locs 0 0 Q (F0 m 46 ls []) := by
    intro  n
    induction n with
    | zero => intro x H locs ls hm; cases (show none = some out from hm)
    | succ n HK_46 =>
      intro x H locs ls hm hP hD hS hl
      replace hm : b_X5_drawn_46 fu t t_now_kinds t_now_pitches t_shelves_holding t_shelves_sizes t_shelves_elements (lfix (b_X5_drawn_46 fu t t_now_kinds t_now_pitches t_shelves_holding t_shelves_sizes t_shelves_elements) n) x = some out := hm
      unfold b_X5_drawn_46 at hm
      refine lv_iload hx hb dX5_drawn_46 (lv_at hl 3 rfl) ?_
      refine lv_iload_n hx hb dX5_drawn_48 rfl (lv_at hl 1 rfl) ?_
      refine lv_icmp_ge (tgt := 106) hx hb dX5_drawn_49 (by decide) (fun c3 => ?_) (fun c3 => ?_)
      · have hm := it_t c3 hm
        refine lv_iload hx hb dX5_drawn_106 (lv_at hl 2 rfl) ?_
        rw [hQ]
        exact W.iret (v := x.2.1) hx hb hr (fun t9 ht hW => ⟨⟨x.2.1, (x.2.2.2.1, x.2.2.2.2.1, x.2.2.2.2.2.1, x.2.2.2.2.2.2.1, x.2.2.2.2.2.2.2.1, x.2.2.2.2.2.2.2.2), rfl, (Option.some.inj hm), by rw [ht]; exact hP, va_K.moved hW.alike hK, hD⟩, hS.F ht⟩) hS.2.2 dX5_drawn_108
      · have hm := it_f c3 hm
        refine lv_aload_n hx hb dX5_drawn_52 rfl (lv_at hl 0 rfl) ?_
        refine va_get (D := D) (ci := 5) (v := .ref (ad 1)) (C := RX5) (T := TX5) (N := 17) hx hb htg inX5 hown hK hP 0 rfl rfl 0 (by decide) (htg _ q_1_188) (fun _ h9 => h9) rfl dX5_drawn_53 ?_
        refine lv_aload_n hx hb dX5_drawn_56 rfl (lv_at hl 0 rfl) ?_
        refine va_get (D := D) (ci := 5) (v := .ref (ad 1)) (C := RX5) (T := TX5) (N := 17) hx hb htg inX5 hown hK hP 0 rfl rfl 0 (by decide) (htg _ q_1_188) (fun _ h9 => h9) rfl dX5_drawn_57 ?_
        refine lv_bipush (v := (10 : Int32)) hx hb dX5_drawn_60 (by decide) ?_
        obtain ⟨o4, ho5, hm⟩ := bd_s hm
        refine xr_i (wr := [((ad 0), e_X5 ad t), ((ad 2), eI cA 8 t_now_kinds), ((ad 4), eI cA 8 t_now_pitches), ((ad 13), e_X0 (ad 14) (ad 15) (ad 16)), ((ad 14), eI cA 8 t_shelves_holding), ((ad 15), eI cA 8 t_shelves_sizes), ((ad 16), eJ cA 320 t_shelves_elements), ((ad 19), eI cA 5 x.2.2.2.2.1), ((ad 20), e_X3 (ad 21) x.2.2.2.2.2.1), ((ad 21), eI cA 13 x.2.2.2.2.2.2.1), ((ad 24), e_X4 (ad 25) x.2.2.2.2.2.2.2.1), ((ad 25), eI cA 12 x.2.2.2.2.2.2.2.2)]) (wn := [((ad 0), e_X5 ad t), ((ad 1), e_X1 (ad 2) (ad 3) (ad 4) o4.2), ((ad 2), eI cA 8 t_now_kinds), ((ad 4), eI cA 8 t_now_pitches), ((ad 13), e_X0 (ad 14) (ad 15) (ad 16)), ((ad 14), eI cA 8 t_shelves_holding), ((ad 15), eI cA 8 t_shelves_sizes), ((ad 16), eJ cA 320 t_shelves_elements), ((ad 19), eI cA 5 x.2.2.2.2.1), ((ad 20), e_X3 (ad 21) x.2.2.2.2.2.1), ((ad 21), eI cA 13 x.2.2.2.2.2.2.1), ((ad 24), e_X4 (ad 25) x.2.2.2.2.2.2.2.1), ((ad 25), eI cA 12 x.2.2.2.2.2.2.2.2)]) (va_runVN (As := [.int (10 : Int32)]) (rest := [.ref (ad 1)]) ⟨hx, hb, hml, hown, htg⟩ (c_X1_draw l D cA _ fu (ad 1) (ad 2) (ad 3) (ad 4) x.2.2.2.1 (10 : Int32) o4 ho5) ⟨va_cnB 1 htg (gU q_4_153) rfl rfl rfl (hN _ q_4_150) (htg _ q_1_2) hd_X1_draw.2 ⟨Nat.le_of_ble_eq_true rfl, Nat.le_of_ble_eq_true rfl⟩, htg _ q_4_152, htg _ q_p5_4⟩ (xpV hN hK hP hD [1] rfl (by decide) rfl rfl) rfl rfl hl.1 rfl (lv_room (Nat.le_of_ble_eq_true rfl)) dX5_drawn_62 ⟨Nat.zero_le _, Nat.zero_le _⟩) hP hD hS hA [1] [0, 2, 3, 4, 5, 6, 7, 8, 9, 10, 11, 12] [0, 12, 1, 2, 3, 4, 5, 6, 7, 8, 9, 10, 11] rfl rfl (by decide) (by decide) rfl (by decide) (fun H locs hP hD hS => ?_)
        refine va_putN (D := D) (ci := 1) (v := .int o4.1) (ty := .int) (C := RX1) (T := TX1) (N := 12) hx hb htg inX1 tyX1 tyX1_ok nmX1 hown hK hP hD hS 1 rfl rfl 1 (by decide) (va_Nw.use rfl (hN _ q_1_38)) (fun _ h9 => h9) rfl (by decide +kernel) rfl rfl (Nat.le_of_ble_eq_true rfl) dX5_drawn_65 (fun H locs (hP : va_P D CL [((ad 0), e_X5 ad t), ((ad 1), e_X1 (ad 2) (ad 3) (ad 4) (upd o4.2 1 o4.1)), ((ad 2), eI cA 8 t_now_kinds), ((ad 4), eI cA 8 t_now_pitches), ((ad 13), e_X0 (ad 14) (ad 15) (ad 16)), ((ad 14), eI cA 8 t_shelves_holding), ((ad 15), eI cA 8 t_shelves_sizes), ((ad 16), eJ cA 320 t_shelves_elements), ((ad 19), eI cA 5 x.2.2.2.2.1), ((ad 20), e_X3 (ad 21) x.2.2.2.2.2.1), ((ad 21), eI cA 13 x.2.2.2.2.2.2.1), ((ad 24), e_X4 (ad 25) x.2.2.2.2.2.2.2.1), ((ad 25), eI cA 12 x.2.2.2.2.2.2.2.2)] H) (hD : va_D A [((ad 0), e_X5 ad t), ((ad 1), e_X1 (ad 2) (ad 3) (ad 4) (upd o4.2 1 o4.1)), ((ad 2), eI cA 8 t_now_kinds), ((ad 4), eI cA 8 t_now_pitches), ((ad 13), e_X0 (ad 14) (ad 15) (ad 16)), ((ad 14), eI cA 8 t_shelves_holding), ((ad 15), eI cA 8 t_shelves_sizes), ((ad 16), eJ cA 320 t_shelves_elements), ((ad 19), eI cA 5 x.2.2.2.2.1), ((ad 20), e_X3 (ad 21) x.2.2.2.2.2.1), ((ad 21), eI cA 13 x.2.2.2.2.2.2.1), ((ad 24), e_X4 (ad 25) x.2.2.2.2.2.2.2.1), ((ad 25), eI cA 12 x.2.2.2.2.2.2.2.2)]) hS => ?_)
        refine lv_aload_n hx hb dX5_drawn_68 rfl (lv_at hl 0 rfl) ?_
        refine lv_aload_n hx hb dX5_drawn_69 rfl (lv_at hl 0 rfl) ?_
        refine va_get (D := D) (ci := 5) (v := .ref (ad 1)) (C := RX5) (T := TX5) (N := 17) hx hb htg inX5 hown hK hP 0 rfl rfl 0 (by decide) (htg _ q_1_188) (fun _ h9 => h9) rfl dX5_drawn_70 ?_
        refine lv_aload_n hx hb dX5_drawn_73 rfl (lv_at hl 0 rfl) ?_
        refine va_get (D := D) (ci := 5) (v := .ref (ad 1)) (C := RX5) (T := TX5) (N := 17) hx hb htg inX5 hown hK hP 0 rfl rfl 0 (by decide) (htg _ q_1_188) (fun _ h9 => h9) rfl dX5_drawn_74 ?_
        refine va_getN (D := D) (ci := 1) (v := .int (o4.2 8)) (C := RX1) (T := TX1) (N := 12) hx hb htg inX1 hown hK hP 1 rfl rfl 8 (by decide) (va_Nw.use rfl (hN _ q_1_58)) (fun _ h9 => h9) rfl dX5_drawn_77 ?_
        obtain ⟨o6, ho7, hm⟩ := bd_s hm
        refine xr_i (wr := [((ad 0), e_X5 ad t), ((ad 2), eI cA 8 t_now_kinds), ((ad 4), eI cA 8 t_now_pitches), ((ad 13), e_X0 (ad 14) (ad 15) (ad 16)), ((ad 14), eI cA 8 t_shelves_holding), ((ad 15), eI cA 8 t_shelves_sizes), ((ad 16), eJ cA 320 t_shelves_elements), ((ad 19), eI cA 5 x.2.2.2.2.1), ((ad 20), e_X3 (ad 21) x.2.2.2.2.2.1), ((ad 21), eI cA 13 x.2.2.2.2.2.2.1), ((ad 24), e_X4 (ad 25) x.2.2.2.2.2.2.2.1), ((ad 25), eI cA 12 x.2.2.2.2.2.2.2.2)]) (wn := [((ad 0), e_X5 ad t), ((ad 1), e_X1 (ad 2) (ad 3) (ad 4) o6.2), ((ad 2), eI cA 8 t_now_kinds), ((ad 4), eI cA 8 t_now_pitches), ((ad 13), e_X0 (ad 14) (ad 15) (ad 16)), ((ad 14), eI cA 8 t_shelves_holding), ((ad 15), eI cA 8 t_shelves_sizes), ((ad 16), eJ cA 320 t_shelves_elements), ((ad 19), eI cA 5 x.2.2.2.2.1), ((ad 20), e_X3 (ad 21) x.2.2.2.2.2.1), ((ad 21), eI cA 13 x.2.2.2.2.2.2.1), ((ad 24), e_X4 (ad 25) x.2.2.2.2.2.2.2.1), ((ad 25), eI cA 12 x.2.2.2.2.2.2.2.2)]) (va_runVN (As := [.int (o4.2 8)]) (rest := [.ref (ad 0)]) ⟨hx, hb, hml, hown, htg⟩ (c_X1_draw l D cA _ fu (ad 1) (ad 2) (ad 3) (ad 4) (upd o4.2 1 o4.1) (o4.2 8) o6 ho7) ⟨va_cnB 1 htg (gU q_4_153) rfl rfl rfl (hN _ q_4_150) (htg _ q_1_2) hd_X1_draw.2 ⟨Nat.le_of_ble_eq_true rfl, Nat.le_of_ble_eq_true rfl⟩, htg _ q_4_152, htg _ q_p5_4⟩ (xpV hN hK hP hD [1] rfl (by decide) rfl rfl) rfl rfl hl.1 rfl (lv_room (Nat.le_of_ble_eq_true rfl)) dX5_drawn_80 ⟨Nat.zero_le _, Nat.zero_le _⟩) hP hD hS hA [1] [0, 2, 3, 4, 5, 6, 7, 8, 9, 10, 11, 12] [0, 12, 1, 2, 3, 4, 5, 6, 7, 8, 9, 10, 11] rfl rfl (by decide) (by decide) rfl (by decide) (fun H locs hP hD hS => ?_)
        obtain ⟨o8, ho9, hm⟩ := bd_s hm
        refine xr_i (wr := [((ad 13), e_X0 (ad 14) (ad 15) (ad 16)), ((ad 14), eI cA 8 t_shelves_holding), ((ad 15), eI cA 8 t_shelves_sizes), ((ad 16), eJ cA 320 t_shelves_elements), ((ad 19), eI cA 5 x.2.2.2.2.1)]) (wn := [((ad 0), e_X5 ad t), ((ad 1), e_X1 (ad 2) (ad 3) (ad 4) o8.2.1), ((ad 2), eI cA 8 t_now_kinds), ((ad 4), eI cA 8 t_now_pitches), ((ad 13), e_X0 (ad 14) (ad 15) (ad 16)), ((ad 14), eI cA 8 t_shelves_holding), ((ad 15), eI cA 8 t_shelves_sizes), ((ad 16), eJ cA 320 t_shelves_elements), ((ad 19), eI cA 5 x.2.2.2.2.1), ((ad 20), e_X3 (ad 21) o8.2.2.1), ((ad 21), eI cA 13 o8.2.2.2), ((ad 24), e_X4 (ad 25) x.2.2.2.2.2.2.2.1), ((ad 25), eI cA 12 x.2.2.2.2.2.2.2.2)]) (va_runV (As := [.int o6.1]) (rest := []) ⟨hx, hb, hml, hown, htg⟩ (c_X5_shoutInTruth l D cA _ fu ad t o6.2 t_now_kinds t_now_pitches x.2.2.2.2.2.1 x.2.2.2.2.2.2.1 x.2.2.2.2.2.2.2.1 x.2.2.2.2.2.2.2.2 o6.1 o8 ho9) (cwV 1 htg (gV q_4_132 q_4_134 q_p5_2 q_1_1 q_4_135) rfl rfl rfl hd_X5_shoutInTruth ⟨Nat.le_of_ble_eq_true rfl, Nat.le_of_ble_eq_true rfl⟩) (xpV hN hK hP hD [0, 1, 2, 3, 9, 10, 11, 12] rfl (by decide) rfl rfl) rfl rfl hl.1 rfl (lv_room (Nat.le_of_ble_eq_true rfl)) dX5_drawn_83 ⟨Nat.zero_le _, Nat.zero_le _⟩) hP hD hS hA [0, 1, 2, 3, 9, 10, 11, 12] [4, 5, 6, 7, 8] [5, 6, 7, 8, 0, 1, 2, 3, 4, 9, 10, 11, 12] rfl rfl (by decide) (by decide) rfl (by decide) (fun H locs hP hD hS => ?_)
        refine lv_iconst (v := (1 : Int32)) hx hb dX5_drawn_86 (by decide) ?_
        refine lv_icmp_ne (tgt := 93) hx hb dX5_drawn_87 (by decide) (fun c10 => ?_) (fun c10 => ?_)
        · have hm := it_f c10 hm
          exact B_93 _ HK_46 _ _ _ _ _ _ _ _ _ _ _ _ hm hP hD hS (lv_sub hl [0, 1, 2, 3] rfl)
        · have hm := it_t c10 hm
          refine lv_iinc (v := (x.2.1 + (1 : Int32))) (lv' := [(5, .int (x.2.1 + (1 : Int32))), (0, .ref (ad 0)), (3, .int x.1), (6, .int x.2.2.1)]) hx hb dX5_drawn_90 hl (k := 2) rfl rfl (by decide) rfl (fun ls hl => ?_)
          exact B_93 _ HK_46 _ _ _ _ _ _ _ _ _ _ _ _ hm hP hD hS (lv_sub hl [1, 2, 0, 3] rfl)
  unfold m_X5_drawn at hm
  subst hargs
  have hl := lv_entry ([.ref (ad 0), .int l1, .int l2, .int l3]) (n := 7) (Nat.le_of_ble_eq_true rfl)
  rw [lg_entry_eq]
  generalize (lg_sl ([.ref (ad 0), .int l1, .int l2, .int l3]) ++ List.replicate (7 - (lg_sl ([.ref (ad 0), .int l1, .int l2, .int l3])).length) Slot.unset).toArray = ls at hl ⊢
  have hl : lv_has ls 7 [(0, .ref (ad 0)), (1, .int l1), (2, .int l2), (3, .int l3)] := hl
  refine lv_aload_n hx hb dX5_drawn_0 rfl (lv_at hl 0 rfl) ?_
  refine lv_iload_n hx hb dX5_drawn_1 rfl (lv_at hl 1 rfl) ?_
  refine lv_iload_n hx hb dX5_drawn_2 rfl (lv_at hl 2 rfl) ?_
  refine lv_iload_n hx hb dX5_drawn_3 rfl (lv_at hl 3 rfl) ?_
  refine lv_iconst (v := (1 : Int32)) hx hb dX5_drawn_4 (by decide) ?_
  refine lv_bipush (v := (40 : Int32)) hx hb dX5_drawn_5 (by decide) ?_
  obtain ⟨o11, ho12, hm⟩ := bd_s hm
  refine xr_i (wr := [((ad 0), e_X5 ad t), ((ad 1), e_X1 (ad 2) (ad 3) (ad 4) t_now), ((ad 2), eI cA 8 t_now_kinds), ((ad 4), eI cA 8 t_now_pitches), ((ad 13), e_X0 (ad 14) (ad 15) (ad 16)), ((ad 14), eI cA 8 t_shelves_holding), ((ad 15), eI cA 8 t_shelves_sizes), ((ad 16), eJ cA 320 t_shelves_elements), ((ad 19), eI cA 5 t_refusals), ((ad 20), e_X3 (ad 21) t_trial), ((ad 21), eI cA 13 t_trial_heard), ((ad 24), e_X4 (ad 25) t_told), ((ad 25), eI cA 12 t_told_sounds)]) (wn := [((ad 0), e_X5 ad t), ((ad 1), e_X1 (ad 2) (ad 3) (ad 4) t_now), ((ad 2), eI cA 8 t_now_kinds), ((ad 4), eI cA 8 t_now_pitches), ((ad 13), e_X0 (ad 14) (ad 15) (ad 16)), ((ad 14), eI cA 8 t_shelves_holding), ((ad 15), eI cA 8 t_shelves_sizes), ((ad 16), eJ cA 320 t_shelves_elements), ((ad 19), eI cA 5 t_refusals), ((ad 20), e_X3 (ad 21) t_trial), ((ad 21), eI cA 13 t_trial_heard), ((ad 24), e_X4 (ad 25) t_told), ((ad 25), eI cA 12 t_told_sounds)]) (va_runS (As := [.int l3, .int (1 : Int32), .int (40 : Int32)]) (rest := [.int l2, .int l1, .ref (ad 0)]) ⟨hx, hb, hml, hown, htg⟩ (c_X5_isWithin l D cA _ fu l3 (1 : Int32) (40 : Int32) o11 ho12) (cwS 3 htg (gS q_2_7 q_2_8 q_1_1 q_2_9) rfl rfl rfl hd_X5_isWithin ⟨Nat.le_of_ble_eq_true rfl, Nat.le_of_ble_eq_true rfl⟩) (xpS hN hK hP hD [] rfl (by decide)) rfl rfl hl.1 rfl (lv_room (Nat.le_of_ble_eq_true rfl)) dX5_drawn_7 ⟨Nat.zero_le _, Nat.zero_le _⟩) hP hD hS hA [] [0, 1, 2, 3, 4, 5, 6, 7, 8, 9, 10, 11, 12] [0, 1, 2, 3, 4, 5, 6, 7, 8, 9, 10, 11, 12] rfl rfl (by decide) (by decide) rfl (by decide) (fun H locs hP hD hS => ?_)
  obtain ⟨o13, ho14, hm⟩ := bd_s hm
  refine xr_i (wr := [((ad 1), e_X1 (ad 2) (ad 3) (ad 4) t_now), ((ad 2), eI cA 8 t_now_kinds), ((ad 4), eI cA 8 t_now_pitches), ((ad 20), e_X3 (ad 21) t_trial), ((ad 21), eI cA 13 t_trial_heard)]) (wn := [((ad 0), e_X5 ad t), ((ad 1), e_X1 (ad 2) (ad 3) (ad 4) t_now), ((ad 2), eI cA 8 t_now_kinds), ((ad 4), eI cA 8 t_now_pitches), ((ad 13), e_X0 (ad 14) (ad 15) (ad 16)), ((ad 14), eI cA 8 t_shelves_holding), ((ad 15), eI cA 8 t_shelves_sizes), ((ad 16), eJ cA 320 t_shelves_elements), ((ad 19), eI cA 5 o13.2.1), ((ad 20), e_X3 (ad 21) t_trial), ((ad 21), eI cA 13 t_trial_heard), ((ad 24), e_X4 (ad 25) o13.2.2.1), ((ad 25), eI cA 12 o13.2.2.2)]) (va_runV (As := [.int l1, .int l2, .int o11.1]) (rest := []) ⟨hx, hb, hml, hown, htg⟩ (c_X5_takeWord l D cA _ fu ad t t_shelves_holding t_shelves_sizes t_shelves_elements t_refusals t_told t_told_sounds l1 l2 o11.1 o13 ho14) (cwV 3 htg (gV q_3_126 q_3_128 q_p3_12 q_1_1 q_3_129) rfl rfl rfl hd_X5_takeWord ⟨Nat.le_of_ble_eq_true rfl, Nat.le_of_ble_eq_true rfl⟩) (xpV hN hK hP hD [0, 4, 5, 6, 7, 8, 11, 12] rfl (by decide) rfl rfl) rfl rfl hl.1 rfl (lv_room (Nat.le_of_ble_eq_true rfl)) dX5_drawn_10 ⟨Nat.zero_le _, Nat.zero_le _⟩) hP hD hS hA [0, 4, 5, 6, 7, 8, 11, 12] [1, 2, 3, 9, 10] [5, 0, 1, 2, 6, 7, 8, 9, 10, 3, 4, 11, 12] rfl rfl (by decide) (by decide) rfl (by decide) (fun H locs hP hD hS => ?_)
  refine lv_istore (lv' := [(4, .int o13.1), (0, .ref (ad 0)), (1, .int l1), (2, .int l2), (3, .int l3)]) hx hb dX5_drawn_13 hl (by decide) rfl (fun ls hl => ?_)
  refine lv_iload hx hb dX5_drawn_15 (lv_at hl 0 rfl) ?_
  refine lv_if_eq (tgt := 23) hx hb dX5_drawn_17 (by decide) (fun c15 => ?_) (fun c15 => ?_)
  · have hm := it_t c15 hm
    refine lv_aload_n hx hb dX5_drawn_23 rfl (lv_at hl 1 rfl) ?_
    refine va_get (D := D) (ci := 5) (v := .ref (ad 1)) (C := RX5) (T := TX5) (N := 17) hx hb htg inX5 hown hK hP 0 rfl rfl 0 (by decide) (htg _ q_1_188) (fun _ h9 => h9) rfl dX5_drawn_24 ?_
    refine va_getN (D := D) (ci := 1) (v := .int (t_now 8)) (C := RX1) (T := TX1) (N := 12) hx hb htg inX1 hown hK hP 1 rfl rfl 8 (by decide) (va_Nw.use rfl (hN _ q_1_58)) (fun _ h9 => h9) rfl dX5_drawn_27 ?_
    refine lv_if_ne (tgt := 40) hx hb dX5_drawn_30 (by decide) (fun c16 => ?_) (fun c16 => ?_)
    · have hm := it_f c16 hm
      refine lv_iconst (v := (0 : Int32)) hx hb dX5_drawn_40 (by decide) ?_
      refine lv_istore (lv' := [(5, .int (0 : Int32)), (4, .int o13.1), (0, .ref (ad 0)), (1, .int l1), (2, .int l2), (3, .int l3)]) hx hb dX5_drawn_41 hl (by decide) rfl (fun ls hl => ?_)
      refine lv_iconst (v := (0 : Int32)) hx hb dX5_drawn_43 (by decide) ?_
      refine lv_istore (lv' := [(6, .int (0 : Int32)), (5, .int (0 : Int32)), (4, .int o13.1), (0, .ref (ad 0)), (1, .int l1), (2, .int l2), (3, .int l3)]) hx hb dX5_drawn_44 hl (by decide) rfl (fun ls hl => ?_)
      exact B_46 fu _ _ _ _ hm hP hD hS (lv_sub hl [3, 6, 1, 0] rfl)
    · have hm := it_t c16 hm
      refine lv_aload_n hx hb dX5_drawn_33 rfl (lv_at hl 1 rfl) ?_
      refine lv_bipush (v := (-5 : Int32)) hx hb dX5_drawn_34 (by decide) ?_
      obtain ⟨o17, ho18, hm⟩ := bd_s hm
      refine xr_i (wr := [((ad 1), e_X1 (ad 2) (ad 3) (ad 4) t_now), ((ad 2), eI cA 8 t_now_kinds), ((ad 4), eI cA 8 t_now_pitches), ((ad 13), e_X0 (ad 14) (ad 15) (ad 16)), ((ad 14), eI cA 8 t_shelves_holding), ((ad 15), eI cA 8 t_shelves_sizes), ((ad 16), eJ cA 320 t_shelves_elements), ((ad 20), e_X3 (ad 21) t_trial), ((ad 21), eI cA 13 t_trial_heard), ((ad 24), e_X4 (ad 25) o13.2.2.1), ((ad 25), eI cA 12 o13.2.2.2)]) (wn := [((ad 0), e_X5 ad t), ((ad 1), e_X1 (ad 2) (ad 3) (ad 4) t_now), ((ad 2), eI cA 8 t_now_kinds), ((ad 4), eI cA 8 t_now_pitches), ((ad 13), e_X0 (ad 14) (ad 15) (ad 16)), ((ad 14), eI cA 8 t_shelves_holding), ((ad 15), eI cA 8 t_shelves_sizes), ((ad 16), eJ cA 320 t_shelves_elements), ((ad 19), eI cA 5 o17.2), ((ad 20), e_X3 (ad 21) t_trial), ((ad 21), eI cA 13 t_trial_heard), ((ad 24), e_X4 (ad 25) o13.2.2.1), ((ad 25), eI cA 12 o13.2.2.2)]) (va_runV (As := [.int (-5 : Int32)]) (rest := []) ⟨hx, hb, hml, hown, htg⟩ (c_X5_refuse l D cA _ fu ad t o13.2.1 (-5 : Int32) o17 ho18) (cwV 1 htg (gV q_2_10 q_2_12 q_p1_0 q_1_1 q_2_13) rfl rfl rfl hd_X5_refuse ⟨Nat.le_of_ble_eq_true rfl, Nat.le_of_ble_eq_true rfl⟩) (xpV hN hK hP hD [0, 8] rfl (by decide) rfl rfl) rfl rfl hl.1 rfl (lv_room (Nat.le_of_ble_eq_true rfl)) dX5_drawn_36 ⟨Nat.zero_le _, Nat.zero_le _⟩) hP hD hS hA [0, 8] [1, 2, 3, 4, 5, 6, 7, 9, 10, 11, 12] [11, 0, 1, 2, 3, 4, 5, 6, 12, 7, 8, 9, 10] rfl rfl (by decide) (by decide) rfl (by decide) (fun H locs hP hD hS => ?_)
      rw [hQ]
      exact W.iret (v := o17.1) hx hb hr (fun t9 ht hW => ⟨⟨o17.1, (t_now, o17.2, t_trial, t_trial_heard, o13.2.2.1, o13.2.2.2), rfl, (Option.some.inj hm), by rw [ht]; exact hP, va_K.moved hW.alike hK, hD⟩, hS.F ht⟩) hS.2.2 dX5_drawn_39
  · have hm := it_f c15 hm
    refine lv_iload hx hb dX5_drawn_20 (lv_at hl 0 rfl) ?_
    rw [hQ]
    exact W.iret (v := o13.1) hx hb hr (fun t9 ht hW => ⟨⟨o13.1, (t_now, o13.2.1, t_trial, t_trial_heard, o13.2.2.1, o13.2.2.2), rfl, (Option.some.inj hm), by rw [ht]; exact hP, va_K.moved hW.alike hK, hD⟩, hS.F ht⟩) hS.2.2 dX5_drawn_22
