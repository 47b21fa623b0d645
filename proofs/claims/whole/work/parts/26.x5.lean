def b_X5_yesesOfPlace_20 (fu : Nat) (t : Nat → Int32) (t_yesesAt : Nat → Int32) (s0 : Int32) : Option (Int32 × Unit) :=
  some (s0, ())
def m_X5_yesesOfPlace (fu : Nat) (t : Nat → Int32) (t_yesesAt : Nat → Int32) (l1 : Int32) : Option (Int32 × Unit) :=
  (m_X5_isWithin fu l1 (0 : Int32) (7 : Int32)).bind fun o1 =>
  (if o1.1 = 0 then
    b_X5_yesesOfPlace_20 fu t t_yesesAt (0 : Int32)
  else
    gd (inb l1 8) (
    b_X5_yesesOfPlace_20 fu t t_yesesAt (t_yesesAt l1.toNatClampNeg)))
abbrev rm_X5_yesesOfPlace : Room := ({ frames := 1, cells := 0, slots := 0, locals := 22 } : Room)
abbrev w0_X5_yesesOfPlace (cA : Nat → ClassId) (ad : Nat → Nat) (t : Nat → Int32) (t_yesesAt : Nat → Int32) : va_W := [((ad 0), e_X5 ad t), ((ad 28), eI cA 8 t_yesesAt)]
abbrev w1_X5_yesesOfPlace (cA : Nat → ClassId) (ad : Nat → Nat) (t : Nat → Int32) (t_yesesAt : Nat → Int32) (u : Unit) : va_W := [((ad 0), e_X5 ad t), ((ad 28), eI cA 8 t_yesesAt)]
theorem hd_X5_yesesOfPlace : yX5_yesesOfPlace.cls = RX5 ∧ yX5_yesesOfPlace.cls ≠ "java/lang/invoke/MethodHandle" ∧ yX5_yesesOfPlace.cls ≠ "java/lang/invoke/VarHandle" ∧ (parseMethodDescriptor yX5_yesesOfPlace.desc).map (fun d => d.parameters.length) = some 1 := by decide +kernel
set_option maxHeartbeats 40000000 in
set_option maxRecDepth 100000 in
theorem c_X5_yesesOfPlace (l : Launch) (D : va_G) (cA : Nat → ClassId) (sz : Nat) (fu : Nat) (ad : Nat → Nat) (t : Nat → Int32) (t_yesesAt : Nat → Int32) (l1 : Int32) (out : Int32 × Unit) (hm : m_X5_yesesOfPlace fu t t_yesesAt l1 = some out) : MI l yX5_yesesOfPlace (wU yX5_yesesOfPlace cX5_yesesOfPlace 2 ((Option.some Jvm.ClassFile.FieldType.int))) rm_X5_yesesOfPlace D cA sz [.ref (ad 0), .int l1] (w0_X5_yesesOfPlace cA ad t t_yesesAt) out (w1_X5_yesesOfPlace cA ad t t_yesesAt) := by
  refine Met.ofW (cc := cX5_yesesOfPlace) (maxL := 2) (ret := (Option.some Jvm.ClassFile.FieldType.int)) (by decide) rfl ?_
  intro p e s m args below meth c s₁ B hml hv
  obtain ⟨hargs, hsz, hP, hK, hD0, hN⟩ := hv
  have hx := B.exec
  have hb := B.bytes
  have hr := B.returns
  have htg : ∀ w ∈ gw, w.before args s = true := fun w h => atoms_spec (ws := wU yX5_yesesOfPlace cX5_yesesOfPlace 2 ((Option.some Jvm.ClassFile.FieldType.int))) B.pre w (List.mem_cons_of_mem _ h)
  have hown : s.vm.findClass RX5 = some m.cls := findClass_of_methodNamed B.named
  have hlocks := B.notSynchronized
  subst hsz
  have hD := hD0.self (sz := s.heap.size)
  have hA : ∀ q : Nat, s.heap.size ≤ q → va_A (w0_X5_yesesOfPlace cA ad t t_yesesAt) s.heap.size q := fun q h => Or.inr h
  have hS : va_S (va_A (w0_X5_yesesOfPlace cA ad t t_yesesAt) s.heap.size) s.heap s.heap [] := va_S.rf
  generalize va_A (w0_X5_yesesOfPlace cA ad t t_yesesAt) s.heap.size = A at hA hD hS ⊢
  obtain ⟨Q, hQ⟩ : ∃ Q : State → Prop, Q = MQ below (va_Qi (fun (r : Int32) (u : Unit) => (r, u) = out) (pst0 D cA A (w1_X5_yesesOfPlace cA ad t t_yesesAt)) A) args s 0 0 A := ⟨_, rfl⟩
  refine (?_ : W p l e rm_X5_yesesOfPlace s m args below meth c s.heap [] 0 0 (MQ below (va_Qi (fun (r : Int32) (u : Unit) => (r, u) = out) (pst0 D cA A (w1_X5_yesesOfPlace cA ad t t_yesesAt)) A) args s 0 0 A) (entryFrame m args 2))
  rw [← hQ]
  have hP : va_P D CL [((ad 0), e_X5 ad t), ((ad 28), eI cA 8 t_yesesAt)] s.heap := hP
  have hD : va_D A [((ad 0), e_X5 ad t), ((ad 28), eI cA 8 t_yesesAt)] := hD
  have B_20 : ∀ (s0 : Int32) (H : Heap) (locs : List Loc) (ls : Array Slot), b_X5_yesesOfPlace_20 fu t t_yesesAt s0 = some out → va_P D CL [((ad 0), e_X5 ad t), ((ad 28), eI cA 8 t_yesesAt)] H → va_D A [((ad 0), e_X5 ad t), ((ad 28), eI cA 8 t_yesesAt)] → va_S A s.heap H locs → lv_has ls 2 [(0, .ref (ad 0))] → W p l e rm_X5_yesesOfPlace s m args below meth c H locs 0 0 Q (F0 m 20 ls [.int s0]) := by
    intro  s0 H locs ls hm hP hD hS hl
    unfold b_X5_yesesOfPlace_20 at hm
    rw [hQ]
    exact W.iret (v := s0) hx hb hr (fun t9 ht hW => ⟨⟨s0, (), rfl, (Option.some.inj hm), by rw [ht]; exact hP, va_K.moved hW.alike hK, hD⟩, hS.F ht⟩) hS.2.2 dX5_yesesOfPlace_20
  unfold m_X5_yesesOfPlace at hm
  subst hargs
  have hl := lv_entry ([.ref (ad 0), .int l1]) (n := 2) (Nat.le_of_ble_eq_true rfl)
  rw [lg_entry_eq]
  generalize (lg_sl ([.ref (ad 0), .int l1]) ++ List.replicate (2 - (lg_sl ([.ref (ad 0), .int l1])).length) Slot.unset).toArray = ls at hl ⊢
  have hl : lv_has ls 2 [(0, .ref (ad 0)), (1, .int l1)] := hl
  refine lv_iload_n hx hb dX5_yesesOfPlace_0 rfl (lv_at hl 1 rfl) ?_
  refine lv_iconst (v := (0 : Int32)) hx hb dX5_yesesOfPlace_1 (by decide) ?_
  refine lv_bipush (v := (7 : Int32)) hx hb dX5_yesesOfPlace_2 (by decide) ?_
  obtain ⟨o1, ho2, hm⟩ := bd_s hm
  refine xr_i (wr := [((ad 0), e_X5 ad t), ((ad 28), eI cA 8 t_yesesAt)]) (wn := [((ad 0), e_X5 ad t), ((ad 28), eI cA 8 t_yesesAt)]) (va_runS (As := [.int l1, .int (0 : Int32), .int (7 : Int32)]) (rest := []) ⟨hx, hb, hml, hown, htg⟩ (c_X5_isWithin l D cA _ fu l1 (0 : Int32) (7 : Int32) o1 ho2) (cwS 3 htg (gS q_2_7 q_2_8 q_1_1 q_2_9) rfl rfl rfl hd_X5_isWithin ⟨Nat.le_of_ble_eq_true rfl, Nat.le_of_ble_eq_true rfl⟩) (xpS hN hK hP hD [] rfl (by decide)) rfl rfl hl.1 rfl (lv_room (Nat.le_of_ble_eq_true rfl)) dX5_yesesOfPlace_4 ⟨Nat.zero_le _, Nat.zero_le _⟩) hP hD hS hA [] [0, 1] [0, 1] rfl rfl (by decide) (by decide) rfl (by decide) (fun H locs hP hD hS => ?_)
  refine lv_if_eq (tgt := 19) hx hb dX5_yesesOfPlace_7 (by decide) (fun c3 => ?_) (fun c3 => ?_)
  · have hm := it_t c3 hm
    refine lv_iconst (v := (0 : Int32)) hx hb dX5_yesesOfPlace_19 (by decide) ?_
    exact B_20 _ _ _ _ hm hP hD hS (lv_sub hl [0] rfl)
  · have hm := it_f c3 hm
    refine lv_aload_n hx hb dX5_yesesOfPlace_10 rfl (lv_at hl 0 rfl) ?_
    refine va_get (D := D) (ci := 5) (v := .ref (ad 28)) (C := RX5) (T := TX5) (N := 17) hx hb htg inX5 hown hK hP 0 rfl rfl 11 (by decide) (htg _ q_1_199) (fun _ h9 => h9) rfl dX5_yesesOfPlace_11 ?_
    refine lv_iload_n hx hb dX5_yesesOfPlace_14 rfl (lv_at hl 1 rfl) ?_
    obtain ⟨hi4, hm⟩ := gd_s hm
    refine va_iald hx hb hK hP 1 0 rfl rfl hi4 dX5_yesesOfPlace_15 ?_
    refine lv_goto (tgt := 20) hx hb dX5_yesesOfPlace_16 (by decide) ?_
    exact B_20 _ _ _ _ hm hP hD hS (lv_sub hl [0] rfl)
def b_X5_findNextVoice_111 (fu : Nat) (t : Nat → Int32) (t_now : Nat → Int32) (t_mostFrom : Nat → Int32) (t_nextFrom : Nat → Int32) : Option ((Nat → Int32) × (Nat → Int32)) :=
  some (t_mostFrom, t_nextFrom)
def b_X5_findNextVoice_75 (fu : Nat) (t : Nat → Int32) (t_now : Nat → Int32) (k_8 : (Int32 × Int32 × Int32 × Int32 × Int32 × (Nat → Int32) × (Nat → Int32)) → Option ((Nat → Int32) × (Nat → Int32))) (l1 : Int32) (l2 : Int32) (l3 : Int32) (l4 : Int32) (l5 : Int32) (t_mostFrom : Nat → Int32) (t_nextFrom : Nat → Int32) : Option ((Nat → Int32) × (Nat → Int32)) :=
  k_8 (l1, l2, l3, l4, (l5 + (1 : Int32)), t_mostFrom, t_nextFrom)
def b_X5_findNextVoice_8 (fu : Nat) (t : Nat → Int32) (t_now : Nat → Int32) (k_8 : (Int32 × Int32 × Int32 × Int32 × Int32 × (Nat → Int32) × (Nat → Int32)) → Option ((Nat → Int32) × (Nat → Int32))) (x : Int32 × Int32 × Int32 × Int32 × Int32 × (Nat → Int32) × (Nat → Int32)) : Option ((Nat → Int32) × (Nat → Int32)) :=
  (if t_now 8 ≤ x.2.2.2.2.1 then
        (m_X5_isWithin fu x.1 (0 : Int32) (255 : Int32)).bind fun o2 =>
        (if o2.1 = 0 then
          b_X5_findNextVoice_111 fu t t_now x.2.2.2.2.2.1 x.2.2.2.2.2.2
        else
          gd (inb x.1 256) (
          gd (inb x.1 256) (
          b_X5_findNextVoice_111 fu t t_now (upd x.2.2.2.2.2.1 x.1.toNatClampNeg (if (0 : Int32) < x.2.2.1 then x.2.2.1 else (0 : Int32))) (upd x.2.2.2.2.2.2 x.1.toNatClampNeg x.2.2.2.1))))
      else
        (if (x.1 ||| ((1 : Int32) <<< (x.2.2.2.2.1 &&& 31))) = x.1 then
          b_X5_findNextVoice_75 fu t t_now k_8 x.1 x.2.1 x.2.2.1 x.2.2.2.1 x.2.2.2.2.1 x.2.2.2.2.2.1 x.2.2.2.2.2.2
        else
          (m_X5_isWithin fu (x.1 ||| ((1 : Int32) <<< (x.2.2.2.2.1 &&& 31))) (0 : Int32) (255 : Int32)).bind fun o8 =>
          (if o8.1 = 0 then
            b_X5_findNextVoice_75 fu t t_now k_8 x.1 x.2.1 x.2.2.1 x.2.2.2.1 x.2.2.2.2.1 x.2.2.2.2.2.1 x.2.2.2.2.2.2
          else
            gd (inb (x.1 ||| ((1 : Int32) <<< (x.2.2.2.2.1 &&& 31))) 256) (
            (some (((x.2.1 >>> (x.2.2.2.2.1 &&& 31)) &&& (1 : Int32)) + (x.2.2.2.2.2.1 (x.1 ||| ((1 : Int32) <<< (x.2.2.2.2.1 &&& 31))).toNatClampNeg))).bind fun v12 =>
            (if v12 ≤ x.2.2.1 then
              b_X5_findNextVoice_75 fu t t_now k_8 x.1 x.2.1 x.2.2.1 x.2.2.2.1 x.2.2.2.2.1 x.2.2.2.2.2.1 x.2.2.2.2.2.2
            else
              b_X5_findNextVoice_75 fu t t_now k_8 x.1 x.2.1 v12 x.2.2.2.2.1 x.2.2.2.2.1 x.2.2.2.2.2.1 x.2.2.2.2.2.2)))))
def m_X5_findNextVoice (fu : Nat) (t : Nat → Int32) (t_now : Nat → Int32) (t_mostFrom : Nat → Int32) (t_nextFrom : Nat → Int32) (l1 : Int32) (l2 : Int32) : Option ((Nat → Int32) × (Nat → Int32)) :=
  lfix (b_X5_findNextVoice_8 fu t t_now) fu (l1, l2, (-1 : Int32), (-1 : Int32), (0 : Int32), t_mostFrom, t_nextFrom)
abbrev rm_X5_findNextVoice : Room := ({ frames := 1, cells := 0, slots := 0, locals := 22 } : Room)
abbrev w0_X5_findNextVoice (cA : Nat → ClassId) (ad : Nat → Nat) (t : Nat → Int32) (t_now : Nat → Int32) (t_mostFrom : Nat → Int32) (t_nextFrom : Nat → Int32) : va_W := [((ad 0), e_X5 ad t), ((ad 1), e_X1 (ad 2) (ad 3) (ad 4) t_now), ((ad 29), eI cA 256 t_mostFrom), ((ad 30), eI cA 256 t_nextFrom)]
abbrev w1_X5_findNextVoice (cA : Nat → ClassId) (ad : Nat → Nat) (t : Nat → Int32) (t_now : Nat → Int32) (u : (Nat → Int32) × (Nat → Int32)) : va_W := [((ad 0), e_X5 ad t), ((ad 1), e_X1 (ad 2) (ad 3) (ad 4) t_now), ((ad 29), eI cA 256 u.1), ((ad 30), eI cA 256 u.2)]
theorem hd_X5_findNextVoice : yX5_findNextVoice.cls = RX5 ∧ yX5_findNextVoice.cls ≠ "java/lang/invoke/MethodHandle" ∧ yX5_findNextVoice.cls ≠ "java/lang/invoke/VarHandle" ∧ (parseMethodDescriptor yX5_findNextVoice.desc).map (fun d => d.parameters.length) = some 2 := by decide +kernel
set_option maxHeartbeats 40000000 in
set_option maxRecDepth 100000 in
theorem c_X5_findNextVoice (l : Launch) (D : va_G) (cA : Nat → ClassId) (sz : Nat) (fu : Nat) (ad : Nat → Nat) (t : Nat → Int32) (t_now : Nat → Int32) (t_mostFrom : Nat → Int32) (t_nextFrom : Nat → Int32) (l1 : Int32) (l2 : Int32) (out : (Nat → Int32) × (Nat → Int32)) (hm : m_X5_findNextVoice fu t t_now t_mostFrom t_nextFrom l1 l2 = some out) : MV l yX5_findNextVoice (wU yX5_findNextVoice cX5_findNextVoice 8 ((Option.none : Option Jvm.ClassFile.FieldType))) rm_X5_findNextVoice D cA sz [.ref (ad 0), .int l1, .int l2] (w0_X5_findNextVoice cA ad t t_now t_mostFrom t_nextFrom) out (w1_X5_findNextVoice cA ad t t_now) := by
  refine Met.ofW (cc := cX5_findNextVoice) (maxL := 8) (ret := (Option.none : Option Jvm.ClassFile.FieldType)) (by decide) rfl ?_
  intro p e s m args below meth c s₁ B hml hv
  obtain ⟨hargs, hsz, hP, hK, hD0, hN⟩ := hv
  have hx := B.exec
  have hb := B.bytes
  have hr := B.returns
  have htg : ∀ w ∈ gw, w.before args s = true := fun w h => atoms_spec (ws := wU yX5_findNextVoice cX5_findNextVoice 8 ((Option.none : Option Jvm.ClassFile.FieldType))) B.pre w (List.mem_cons_of_mem _ h)
  have hown : s.vm.findClass RX5 = some m.cls := findClass_of_methodNamed B.named
  have hlocks := B.notSynchronized
  subst hsz
  have hD := hD0.self (sz := s.heap.size)
  have hA : ∀ q : Nat, s.heap.size ≤ q → va_A (w0_X5_findNextVoice cA ad t t_now t_mostFrom t_nextFrom) s.heap.size q := fun q h => Or.inr h
  have hS : va_S (va_A (w0_X5_findNextVoice cA ad t t_now t_mostFrom t_nextFrom) s.heap.size) s.heap s.heap [] := va_S.rf
  generalize va_A (w0_X5_findNextVoice cA ad t t_now t_mostFrom t_nextFrom) s.heap.size = A at hA hD hS ⊢
  obtain ⟨Q, hQ⟩ : ∃ Q : State → Prop, Q = MQ below (va_Qv (fun (u : (Nat → Int32) × (Nat → Int32)) => u = out) (pst0 D cA A (w1_X5_findNextVoice cA ad t t_now)) A) args s 0 0 A := ⟨_, rfl⟩
  refine (?_ : W p l e rm_X5_findNextVoice s m args below meth c s.heap [] 0 0 (MQ below (va_Qv (fun (u : (Nat → Int32) × (Nat → Int32)) => u = out) (pst0 D cA A (w1_X5_findNextVoice cA ad t t_now)) A) args s 0 0 A) (entryFrame m args 8))
  rw [← hQ]
  have hP : va_P D CL [((ad 0), e_X5 ad t), ((ad 1), e_X1 (ad 2) (ad 3) (ad 4) t_now), ((ad 29), eI cA 256 t_mostFrom), ((ad 30), eI cA 256 t_nextFrom)] s.heap := hP
  have hD : va_D A [((ad 0), e_X5 ad t), ((ad 1), e_X1 (ad 2) (ad 3) (ad 4) t_now), ((ad 29), eI cA 256 t_mostFrom), ((ad 30), eI cA 256 t_nextFrom)] := hD
  have B_111 : ∀ (t_mostFrom : Nat → Int32) (t_nextFrom : Nat → Int32) (H : Heap) (locs : List Loc) (ls : Array Slot), b_X5_findNextVoice_111 fu t t_now t_mostFrom t_nextFrom = some out → va_P D CL [((ad 0), e_X5 ad t), ((ad 1), e_X1 (ad 2) (ad 3) (ad 4) t_now), ((ad 29), eI cA 256 t_mostFrom), ((ad 30), eI cA 256 t_nextFrom)] H → va_D A [((ad 0), e_X5 ad t), ((ad 1), e_X1 (ad 2) (ad 3) (ad 4) t_now), ((ad 29), eI cA 256 t_mostFrom), ((ad 30), eI cA 256 t_nextFrom)] → va_S A s.heap H locs → lv_has ls 8 [(0, .ref (ad 0))] → W p l e rm_X5_findNextVoice s m args below meth c H locs 0 0 Q (F0 m 111 ls []) := by
    intro  t_mostFrom t_nextFrom H locs ls hm hP hD hS hl
    unfold b_X5_findNextVoice_111 at hm
    rw [hQ]
    exact W.vret hx hb hr (fun t9 ht hW => ⟨⟨(t_mostFrom, t_nextFrom), rfl, (Option.some.inj hm), by rw [ht]; exact hP, va_K.moved hW.alike hK, hD⟩, hS.F ht⟩) hS.2.2 dX5_findNextVoice_111
  have B_75 : ∀ (k_8 : (Int32 × Int32 × Int32 × Int32 × Int32 × (Nat → Int32) × (Nat → Int32)) → Option ((Nat → Int32) × (Nat → Int32))) (HK_8 : ∀ (x : Int32 × Int32 × Int32 × Int32 × Int32 × (Nat → Int32) × (Nat → Int32)) (H : Heap) (locs : List Loc) (ls : Array Slot), k_8 x = some out → va_P D CL [((ad 0), e_X5 ad t), ((ad 1), e_X1 (ad 2) (ad 3) (ad 4) t_now), ((ad 29), eI cA 256 x.2.2.2.2.2.1), ((ad 30), eI cA 256 x.2.2.2.2.2.2)] H → va_D A [((ad 0), e_X5 ad t), ((ad 1), e_X1 (ad 2) (ad 3) (ad 4) t_now), ((ad 29), eI cA 256 x.2.2.2.2.2.1), ((ad 30), eI cA 256 x.2.2.2.2.2.2)] → va_S A s.heap H locs → lv_has ls 8 [(0, .ref (ad 0)), (1, .int x.1), (2, .int x.2.1), (3, .int x.2.2.1), (4, .int x.2.2.2.1), (5, .int x.2.2.2.2.1)] → W p l e rm_X5_findNextVoice s m args below meth c H locs 0 0 Q (F0 m 8 ls [])) (l1 : Int32) (l2 : Int32) (l3 : Int32) (l4 : Int32) (l5 : Int32) (t_mostFrom : Nat → Int32) (t_nextFrom : Nat → Int32) (H : Heap) (locs : List Loc) (ls : Array Slot), b_X5_findNextVoice_75 fu t t_now k_8 l1 l2 l3 l4 l5 t_mostFrom t_nextFrom = some out → va_P D CL [((ad 0), e_X5 ad t), ((ad 1), e_X1 (ad 2) (ad 3) (ad 4) t_now), ((ad 29), eI cA 256 t_mostFrom), ((ad 30), eI cA 256 t_nextFrom)] H → va_D A [((ad 0), e_X5 ad t), ((ad 1), e_X1 (ad 2) (ad 3) (ad 4) t_now), ((ad 29), eI cA 256 t_mostFrom), ((ad 30), eI cA 256 t_nextFrom)] → va_S A s.heap H locs → lv_has ls 8 [(0, .ref (ad 0)), (1, .int l1), (2, .int l2), (3, .int l3), (4, .int l4), (5, .int l5)] → W p l e rm_X5_findNextVoice s m args below meth c H locs 0 0 Q (F0 m 75 ls []) := by
    intro k_8 HK_8 l1 l2 l3 l4 l5 t_mostFrom t_nextFrom H locs ls hm hP hD hS hl
    unfold b_X5_findNextVoice_75 at hm
    refine lv_iinc (v := (l5 + (1 : Int32))) (lv' := [(5, .int (l5 + (1 : Int32))), (0, .ref (ad 0)), (1, .int l1), (2, .int l2), (3, .int l3), (4, .int l4)]) hx hb dX5_findNextVoice_75 hl (k := 5) rfl rfl (by decide) rfl (fun ls hl => ?_)
    refine lv_goto (tgt := 8) hx hb dX5_findNextVoice_78 (by decide) ?_
    exact HK_8 _ _ _ _ hm hP hD hS (lv_sub hl [1, 2, 3, 4, 5, 0] rfl)
  have B_8 : ∀ (n : Nat) (x : Int32 × Int32 × Int32 × Int32 × Int32 × (Nat → Int32) × (Nat → Int32)) (H : Heap) (locs : List Loc) (ls : Array Slot), lfix (b_X5_findNextVoice_8 fu t t_now) n x = some out → va_P D CL [((ad 0), e_X5 ad t), ((ad 1), e_X1 (ad 2) (ad 3) (ad 4) t_now), ((ad 29), eI cA 256 x.2.2.2.2.2.1), ((ad 30), eI cA 256 x.2.2.2.2.2.2)] H → va_D A [((ad 0), e_X5 ad t), ((ad 1), e_X1 (ad 2) (ad 3) (ad 4) t_now), ((ad 29), eI cA 256 x.2.2.2.2.2.1), ((ad 30), eI cA 256 x.2.2.2.2.2.2)] → va_S A s.heap H locs → lv_has ls 8 [(0, .ref (ad 0)), (1, .int x.1), (2, .int x.2.1), (3, .int x.2.2.1), (4, .int x.2.2.2.1), (5, .int x.2.2.2.2.1)] → W p l e rm_X5_findNextVoice s m args below meth c H locs 0 0 Q (F0 m 8 ls []) := by
    intro  n
    induction n with
    | zero => intro x H locs ls hm; cases (show none = some out from hm)
    | succ n HK_8 =>
      intro x H locs ls hm hP hD hS hl
      replace hm : b_X5_findNextVoice_8 fu t t_now (lfix (b_X5_findNextVoice_8 fu t t_now) n) x = some out := hm
      unfold b_X5_findNextVoice_8 at hm
      refine lv_iload hx hb dX5_findNextVoice_8 (lv_at hl 5 rfl) ?_
      refine lv_aload_n hx hb dX5_findNextVoice_10 rfl (lv_at hl 0 rfl) ?_
      refine va_get (D := D) (ci := 5) (v := .ref (ad 1)) (C := RX5) (T := TX5) (N := 17) hx hb htg inX5 hown hK hP 0 rfl rfl 0 (by decide) (htg _ q_1_188) (fun _ h9 => h9) rfl dX5_findNextVoice_11 ?_
      refine va_getN (D := D) (ci := 1) (v := .int (t_now 8)) (C := RX1) (T := TX1) (N := 12) hx hb htg inX1 hown hK hP 1 rfl rfl 8 (by decide) (va_Nw.use rfl (hN _ q_1_58)) (fun _ h9 => h9) rfl dX5_findNextVoice_14 ?_
      refine lv_icmp_ge (tgt := 81) hx hb dX5_findNextVoice_17 (by decide) (fun c1 => ?_) (fun c1 => ?_)
      · have hm := it_t c1 hm
        refine lv_iload_n hx hb dX5_findNextVoice_81 rfl (lv_at hl 1 rfl) ?_
        refine lv_iconst (v := (0 : Int32)) hx hb dX5_findNextVoice_82 (by decide) ?_
        refine lv_sipush (v := (255 : Int32)) hx hb dX5_findNextVoice_83 (by decide) ?_
        obtain ⟨o2, ho3, hm⟩ := bd_s hm
        refine xr_i (wr := [((ad 0), e_X5 ad t), ((ad 1), e_X1 (ad 2) (ad 3) (ad 4) t_now), ((ad 29), eI cA 256 x.2.2.2.2.2.1), ((ad 30), eI cA 256 x.2.2.2.2.2.2)]) (wn := [((ad 0), e_X5 ad t), ((ad 1), e_X1 (ad 2) (ad 3) (ad 4) t_now), ((ad 29), eI cA 256 x.2.2.2.2.2.1), ((ad 30), eI cA 256 x.2.2.2.2.2.2)]) (va_runS (As := [.int x.1, .int (0 : Int32), .int (255 : Int32)]) (rest := []) ⟨hx, hb, hml, hown, htg⟩ (c_X5_isWithin l D cA _ fu x.1 (0 : Int32) (255 : Int32) o2 ho3) (cwS 3 htg (gS q_2_7 q_2_8 q_1_1 q_2_9) rfl rfl rfl hd_X5_isWithin ⟨Nat.le_of_ble_eq_true rfl, Nat.le_of_ble_eq_true rfl⟩) (xpS hN hK hP hD [] rfl (by decide)) rfl rfl hl.1 rfl (lv_room (Nat.le_of_ble_eq_true rfl)) dX5_findNextVoice_86 ⟨Nat.zero_le _, Nat.zero_le _⟩) hP hD hS hA [] [0, 1, 2, 3] [0, 1, 2, 3] rfl rfl (by decide) (by decide) rfl (by decide) (fun H locs hP hD hS => ?_)
        refine lv_if_eq (tgt := 111) hx hb dX5_findNextVoice_89 (by decide) (fun c4 => ?_) (fun c4 => ?_)
        · have hm := it_t c4 hm
          exact B_111 _ _ _ _ _ hm hP hD hS (lv_sub hl [0] rfl)
        · have hm := it_f c4 hm
          refine lv_aload_n hx hb dX5_findNextVoice_92 rfl (lv_at hl 0 rfl) ?_
          refine va_get (D := D) (ci := 5) (v := .ref (ad 29)) (C := RX5) (T := TX5) (N := 17) hx hb htg inX5 hown hK hP 0 rfl rfl 12 (by decide) (htg _ q_1_200) (fun _ h9 => h9) rfl dX5_findNextVoice_93 ?_
          refine lv_iload_n hx hb dX5_findNextVoice_96 rfl (lv_at hl 1 rfl) ?_
          refine lv_iconst (v := (0 : Int32)) hx hb dX5_findNextVoice_97 (by decide) ?_
          refine lv_iload_n hx hb dX5_findNextVoice_98 rfl (lv_at hl 3 rfl) ?_
          refine va_mmax hx hb (hml.trans hl.1.symm) hown (htg _ q_3_158) (htg _ q_3_159) (htg _ q_1_14) (htg _ q_3_160) (Nat.le_of_ble_eq_true rfl) (Nat.le_of_ble_eq_true rfl) (Nat.zero_le _) (Nat.zero_le _) dX5_findNextVoice_99 ?_
          obtain ⟨hi5, hm⟩ := gd_s hm
          refine va_iast hx hb hK hP hD hS 2 0 rfl rfl hi5 dX5_findNextVoice_102 (fun H locs (hP : va_P D CL [((ad 0), e_X5 ad t), ((ad 1), e_X1 (ad 2) (ad 3) (ad 4) t_now), ((ad 29), eI cA 256 (upd x.2.2.2.2.2.1 x.1.toNatClampNeg (if (0 : Int32) < x.2.2.1 then x.2.2.1 else (0 : Int32)))), ((ad 30), eI cA 256 x.2.2.2.2.2.2)] H) (hD : va_D A [((ad 0), e_X5 ad t), ((ad 1), e_X1 (ad 2) (ad 3) (ad 4) t_now), ((ad 29), eI cA 256 (upd x.2.2.2.2.2.1 x.1.toNatClampNeg (if (0 : Int32) < x.2.2.1 then x.2.2.1 else (0 : Int32)))), ((ad 30), eI cA 256 x.2.2.2.2.2.2)]) hS => ?_)
          refine lv_aload_n hx hb dX5_findNextVoice_103 rfl (lv_at hl 0 rfl) ?_
          refine va_get (D := D) (ci := 5) (v := .ref (ad 30)) (C := RX5) (T := TX5) (N := 17) hx hb htg inX5 hown hK hP 0 rfl rfl 13 (by decide) (htg _ q_1_201) (fun _ h9 => h9) rfl dX5_findNextVoice_104 ?_
          refine lv_iload_n hx hb dX5_findNextVoice_107 rfl (lv_at hl 1 rfl) ?_
          refine lv_iload hx hb dX5_findNextVoice_108 (lv_at hl 4 rfl) ?_
          obtain ⟨hi6, hm⟩ := gd_s hm
          refine va_iast hx hb hK hP hD hS 3 0 rfl rfl hi6 dX5_findNextVoice_110 (fun H locs (hP : va_P D CL [((ad 0), e_X5 ad t), ((ad 1), e_X1 (ad 2) (ad 3) (ad 4) t_now), ((ad 29), eI cA 256 (upd x.2.2.2.2.2.1 x.1.toNatClampNeg (if (0 : Int32) < x.2.2.1 then x.2.2.1 else (0 : Int32)))), ((ad 30), eI cA 256 (upd x.2.2.2.2.2.2 x.1.toNatClampNeg x.2.2.2.1))] H) (hD : va_D A [((ad 0), e_X5 ad t), ((ad 1), e_X1 (ad 2) (ad 3) (ad 4) t_now), ((ad 29), eI cA 256 (upd x.2.2.2.2.2.1 x.1.toNatClampNeg (if (0 : Int32) < x.2.2.1 then x.2.2.1 else (0 : Int32)))), ((ad 30), eI cA 256 (upd x.2.2.2.2.2.2 x.1.toNatClampNeg x.2.2.2.1))]) hS => ?_)
          exact B_111 _ _ _ _ _ hm hP hD hS (lv_sub hl [0] rfl)
      · have hm := it_f c1 hm
        refine lv_iload_n hx hb dX5_findNextVoice_20 rfl (lv_at hl 1 rfl) ?_
        refine lv_iconst (v := (1 : Int32)) hx hb dX5_findNextVoice_21 (by decide) ?_
        refine lv_iload hx hb dX5_findNextVoice_22 (lv_at hl 5 rfl) ?_
        refine lv_ishl hx hb dX5_findNextVoice_24 ?_
        refine lv_ior hx hb dX5_findNextVoice_25 ?_
        refine lv_istore (lv' := [(6, .int (x.1 ||| ((1 : Int32) <<< (x.2.2.2.2.1 &&& 31)))), (0, .ref (ad 0)), (1, .int x.1), (2, .int x.2.1), (3, .int x.2.2.1), (4, .int x.2.2.2.1), (5, .int x.2.2.2.2.1)]) hx hb dX5_findNextVoice_26 hl (by decide) rfl (fun ls hl => ?_)
        refine lv_iload hx hb dX5_findNextVoice_28 (lv_at hl 0 rfl) ?_
        refine lv_iload_n hx hb dX5_findNextVoice_30 rfl (lv_at hl 2 rfl) ?_
        refine lv_icmp_eq (tgt := 75) hx hb dX5_findNextVoice_31 (by decide) (fun c7 => ?_) (fun c7 => ?_)
        · have hm := it_t c7 hm
          exact B_75 _ HK_8 _ _ _ _ _ _ _ _ _ _ hm hP hD hS (lv_sub hl [1, 2, 3, 4, 5, 6] rfl)
        · have hm := it_f c7 hm
          refine lv_iload hx hb dX5_findNextVoice_34 (lv_at hl 0 rfl) ?_
          refine lv_iconst (v := (0 : Int32)) hx hb dX5_findNextVoice_36 (by decide) ?_
          refine lv_sipush (v := (255 : Int32)) hx hb dX5_findNextVoice_37 (by decide) ?_
          obtain ⟨o8, ho9, hm⟩ := bd_s hm
          refine xr_i (wr := [((ad 0), e_X5 ad t), ((ad 1), e_X1 (ad 2) (ad 3) (ad 4) t_now), ((ad 29), eI cA 256 x.2.2.2.2.2.1), ((ad 30), eI cA 256 x.2.2.2.2.2.2)]) (wn := [((ad 0), e_X5 ad t), ((ad 1), e_X1 (ad 2) (ad 3) (ad 4) t_now), ((ad 29), eI cA 256 x.2.2.2.2.2.1), ((ad 30), eI cA 256 x.2.2.2.2.2.2)]) (va_runS (As := [.int (x.1 ||| ((1 : Int32) <<< (x.2.2.2.2.1 &&& 31))), .int (0 : Int32), .int (255 : Int32)]) (rest := []) ⟨hx, hb, hml, hown, htg⟩ (c_X5_isWithin l D cA _ fu (x.1 ||| ((1 : Int32) <<< (x.2.2.2.2.1 &&& 31))) (0 : Int32) (255 : Int32) o8 ho9) (cwS 3 htg (gS q_2_7 q_2_8 q_1_1 q_2_9) rfl rfl rfl hd_X5_isWithin ⟨Nat.le_of_ble_eq_true rfl, Nat.le_of_ble_eq_true rfl⟩) (xpS hN hK hP hD [] rfl (by decide)) rfl rfl hl.1 rfl (lv_room (Nat.le_of_ble_eq_true rfl)) dX5_findNextVoice_40 ⟨Nat.zero_le _, Nat.zero_le _⟩) hP hD hS hA [] [0, 1, 2, 3] [0, 1, 2, 3] rfl rfl (by decide) (by decide) rfl (by decide) (fun H locs hP hD hS => ?_)
          refine lv_if_eq (tgt := 75) hx hb dX5_findNextVoice_43 (by decide) (fun c10 => ?_) (fun c10 => ?_)
          · have hm := it_t c10 hm
            exact B_75 _ HK_8 _ _ _ _ _ _ _ _ _ _ hm hP hD hS (lv_sub hl [1, 2, 3, 4, 5, 6] rfl)
          · have hm := it_f c10 hm
            refine lv_iload_n hx hb dX5_findNextVoice_46 rfl (lv_at hl 3 rfl) ?_
            refine lv_iload hx hb dX5_findNextVoice_47 (lv_at hl 6 rfl) ?_
            refine lv_ishr hx hb dX5_findNextVoice_49 ?_
            refine lv_iconst (v := (1 : Int32)) hx hb dX5_findNextVoice_50 (by decide) ?_
            refine lv_iand hx hb dX5_findNextVoice_51 ?_
            refine lv_aload_n hx hb dX5_findNextVoice_52 rfl (lv_at hl 1 rfl) ?_
            refine va_get (D := D) (ci := 5) (v := .ref (ad 29)) (C := RX5) (T := TX5) (N := 17) hx hb htg inX5 hown hK hP 0 rfl rfl 12 (by decide) (htg _ q_1_200) (fun _ h9 => h9) rfl dX5_findNextVoice_53 ?_
            refine lv_iload hx hb dX5_findNextVoice_56 (lv_at hl 0 rfl) ?_
            obtain ⟨hi11, hm⟩ := gd_s hm
            refine va_iald hx hb hK hP 2 0 rfl rfl hi11 dX5_findNextVoice_58 ?_
            refine lv_iadd hx hb dX5_findNextVoice_59 ?_
            obtain ⟨v12, hv13, hm⟩ := bd_s hm
            rw [Option.some.inj hv13]
            refine lv_istore (lv' := [(7, .int v12), (6, .int (x.1 ||| ((1 : Int32) <<< (x.2.2.2.2.1 &&& 31)))), (0, .ref (ad 0)), (1, .int x.1), (2, .int x.2.1), (3, .int x.2.2.1), (4, .int x.2.2.2.1), (5, .int x.2.2.2.2.1)]) hx hb dX5_findNextVoice_60 hl (by decide) rfl (fun ls hl => ?_)
            refine lv_iload hx hb dX5_findNextVoice_62 (lv_at hl 0 rfl) ?_
            refine lv_iload_n hx hb dX5_findNextVoice_64 rfl (lv_at hl 5 rfl) ?_
            refine lv_icmp_le (tgt := 75) hx hb dX5_findNextVoice_65 (by decide) (fun c14 => ?_) (fun c14 => ?_)
            · have hm := it_t c14 hm
              exact B_75 _ HK_8 _ _ _ _ _ _ _ _ _ _ hm hP hD hS (lv_sub hl [2, 3, 4, 5, 6, 7] rfl)
            · have hm := it_f c14 hm
              refine lv_iload hx hb dX5_findNextVoice_68 (lv_at hl 0 rfl) ?_
              refine lv_istore_n (lv' := [(3, .int v12), (7, .int v12), (6, .int (x.1 ||| ((1 : Int32) <<< (x.2.2.2.2.1 &&& 31)))), (0, .ref (ad 0)), (1, .int x.1), (2, .int x.2.1), (4, .int x.2.2.2.1), (5, .int x.2.2.2.2.1)]) hx hb dX5_findNextVoice_70 rfl hl (by decide) rfl (fun ls hl => ?_)
              refine lv_iload hx hb dX5_findNextVoice_71 (lv_at hl 7 rfl) ?_
              refine lv_istore (lv' := [(4, .int x.2.2.2.2.1), (3, .int v12), (7, .int v12), (6, .int (x.1 ||| ((1 : Int32) <<< (x.2.2.2.2.1 &&& 31)))), (0, .ref (ad 0)), (1, .int x.1), (2, .int x.2.1), (5, .int x.2.2.2.2.1)]) hx hb dX5_findNextVoice_73 hl (by decide) rfl (fun ls hl => ?_)
              exact B_75 _ HK_8 _ _ _ _ _ _ _ _ _ _ hm hP hD hS (lv_sub hl [4, 5, 6, 1, 0, 7] rfl)
  unfold m_X5_findNextVoice at hm
  subst hargs
  have hl := lv_entry ([.ref (ad 0), .int l1, .int l2]) (n := 8) (Nat.le_of_ble_eq_true rfl)
  rw [lg_entry_eq]
  generalize (lg_sl ([.ref (ad 0), .int l1, .int l2]) ++ List.replicate (8 - (lg_sl ([.ref (ad 0), .int l1, .int l2])).length) Slot.unset).toArray = ls at hl ⊢
  have hl : lv_has ls 8 [(0, .ref (ad 0)), (1, .int l1), (2, .int l2)] := hl
  refine lv_iconst (v := (-1 : Int32)) hx hb dX5_findNextVoice_0 (by decide) ?_
  refine lv_istore_n (lv' := [(3, .int (-1 : Int32)), (0, .ref (ad 0)), (1, .int l1), (2, .int l2)]) hx hb dX5_findNextVoice_1 rfl hl (by decide) rfl (fun ls hl => ?_)
  refine lv_iconst (v := (-1 : Int32)) hx hb dX5_findNextVoice_2 (by decide) ?_
  refine lv_istore (lv' := [(4, .int (-1 : Int32)), (3, .int (-1 : Int32)), (0, .ref (ad 0)), (1, .int l1), (2, .int l2)]) hx hb dX5_findNextVoice_3 hl (by decide) rfl (fun ls hl => ?_)
  refine lv_iconst (v := (0 : Int32)) hx hb dX5_findNextVoice_5 (by decide) ?_
  refine lv_istore (lv' := [(5, .int (0 : Int32)), (4, .int (-1 : Int32)), (3, .int (-1 : Int32)), (0, .ref (ad 0)), (1, .int l1), (2, .int l2)]) hx hb dX5_findNextVoice_6 hl (by decide) rfl (fun ls hl => ?_)
  exact B_8 fu _ _ _ _ hm hP hD hS (lv_sub hl [3, 4, 5, 2, 1, 0] rfl)
def b_X5_findOrder_20 (fu : Nat) (t : Nat → Int32) (t_now : Nat → Int32) (t_yesesAt : Nat → Int32) (k_20 : (Int32 × (Nat → Int32) × (Nat → Int32)) → Option ((Nat → Int32) × (Nat → Int32))) (x : Int32 × (Nat → Int32) × (Nat → Int32)) : Option ((Nat → Int32) × (Nat → Int32)) :=
  (if x.1 < 0 then
        some (x.2.1, x.2.2)
      else
        (m_J6_bitCount_0f7a4 fu x.1).bind fun o2 =>
        (m_X5_yesesOfPlace fu t t_yesesAt o2.1).bind fun o4 =>
        (m_X5_findNextVoice fu t t_now x.2.1 x.2.2 x.1 o4.1).bind fun o6 =>
        k_20 ((x.1 + (-1 : Int32)), o6.1, o6.2))
def m_X5_findOrder (fu : Nat) (t : Nat → Int32) (t_now : Nat → Int32) (t_yesesAt : Nat → Int32) (t_mostFrom : Nat → Int32) (t_nextFrom : Nat → Int32) : Option ((Nat → Int32) × (Nat → Int32)) :=
  (some (if (255 : Int32) < (((1 : Int32) <<< (t_now 8 &&& 31)) - (1 : Int32)) then (255 : Int32) else (((1 : Int32) <<< (t_now 8 &&& 31)) - (1 : Int32)))).bind fun v8 =>
  lfix (b_X5_findOrder_20 fu t t_now t_yesesAt) fu (v8, t_mostFrom, t_nextFrom)
abbrev rm_X5_findOrder : Room := ({ frames := 2, cells := 0, slots := 0, locals := 49 } : Room)
abbrev w0_X5_findOrder (cA : Nat → ClassId) (ad : Nat → Nat) (t : Nat → Int32) (t_now : Nat → Int32) (t_yesesAt : Nat → Int32) (t_mostFrom : Nat → Int32) (t_nextFrom : Nat → Int32) : va_W := [((ad 0), e_X5 ad t), ((ad 1), e_X1 (ad 2) (ad 3) (ad 4) t_now), ((ad 28), eI cA 8 t_yesesAt), ((ad 29), eI cA 256 t_mostFrom), ((ad 30), eI cA 256 t_nextFrom)]
abbrev w1_X5_findOrder (cA : Nat → ClassId) (ad : Nat → Nat) (t : Nat → Int32) (t_now : Nat → Int32) (t_yesesAt : Nat → Int32) (u : (Nat → Int32) × (Nat → Int32)) : va_W := [((ad 0), e_X5 ad t), ((ad 1), e_X1 (ad 2) (ad 3) (ad 4) t_now), ((ad 28), eI cA 8 t_yesesAt), ((ad 29), eI cA 256 u.1), ((ad 30), eI cA 256 u.2)]
theorem hd_X5_findOrder : yX5_findOrder.cls = RX5 ∧ yX5_findOrder.cls ≠ "java/lang/invoke/MethodHandle" ∧ yX5_findOrder.cls ≠ "java/lang/invoke/VarHandle" ∧ (parseMethodDescriptor yX5_findOrder.desc).map (fun d => d.parameters.length) = some 0 := by decide +kernel
set_option maxHeartbeats 40000000 in
set_option maxRecDepth 100000 in
theorem c_X5_findOrder (l : Launch) (D : va_G) (cA : Nat → ClassId) (sz : Nat) (fu : Nat) (ad : Nat → Nat) (t : Nat → Int32) (t_now : Nat → Int32) (t_yesesAt : Nat → Int32) (t_mostFrom : Nat → Int32) (t_nextFrom : Nat → Int32) (out : (Nat → Int32) × (Nat → Int32)) (hm : m_X5_findOrder fu t t_now t_yesesAt t_mostFrom t_nextFrom = some out) : MV l yX5_findOrder (wU yX5_findOrder cX5_findOrder 3 ((Option.none : Option Jvm.ClassFile.FieldType))) rm_X5_findOrder D cA sz [.ref (ad 0)] (w0_X5_findOrder cA ad t t_now t_yesesAt t_mostFrom t_nextFrom) out (w1_X5_findOrder cA ad t t_now t_yesesAt) := by
  refine Met.ofW (cc := cX5_findOrder) (maxL := 3) (ret := (Option.none : Option Jvm.ClassFile.FieldType)) (by decide) rfl ?_
  intro p e s m args below meth c s₁ B hml hv
  obtain ⟨hargs, hsz, hP, hK, hD0, hN⟩ := hv
  have hx := B.exec
  have hb := B.bytes
  have hr := B.returns
  have htg : ∀ w ∈ gw, w.before args s = true := fun w h => atoms_spec (ws := wU yX5_findOrder cX5_findOrder 3 ((Option.none : Option Jvm.ClassFile.FieldType))) B.pre w (List.mem_cons_of_mem _ h)
  have hown : s.vm.findClass RX5 = some m.cls := findClass_of_methodNamed B.named
  have hlocks := B.notSynchronized
  subst hsz
  have hD := hD0.self (sz := s.heap.size)
  have hA : ∀ q : Nat, s.heap.size ≤ q → va_A (w0_X5_findOrder cA ad t t_now t_yesesAt t_mostFrom t_nextFrom) s.heap.size q := fun q h => Or.inr h
  have hS : va_S (va_A (w0_X5_findOrder cA ad t t_now t_yesesAt t_mostFrom t_nextFrom) s.heap.size) s.heap s.heap [] := va_S.rf
  generalize va_A (w0_X5_findOrder cA ad t t_now t_yesesAt t_mostFrom t_nextFrom) s.heap.size = A at hA hD hS ⊢
  obtain ⟨Q, hQ⟩ : ∃ Q : State → Prop, Q = MQ below (va_Qv (fun (u : (Nat → Int32) × (Nat → Int32)) => u = out) (pst0 D cA A (w1_X5_findOrder cA ad t t_now t_yesesAt)) A) args s 0 0 A := ⟨_, rfl⟩
  refine (?_ : W p l e rm_X5_findOrder s m args below meth c s.heap [] 0 0 (MQ below (va_Qv (fun (u : (Nat → Int32) × (Nat → Int32)) => u = out) (pst0 D cA A (w1_X5_findOrder cA ad t t_now t_yesesAt)) A) args s 0 0 A) (entryFrame m args 3))
  rw [← hQ]
  have hP : va_P D CL [((ad 0), e_X5 ad t), ((ad 1), e_X1 (ad 2) (ad 3) (ad 4) t_now), ((ad 28), eI cA 8 t_yesesAt), ((ad 29), eI cA 256 t_mostFrom), ((ad 30), eI cA 256 t_nextFrom)] s.heap := hP
  have hD : va_D A [((ad 0), e_X5 ad t), ((ad 1), e_X1 (ad 2) (ad 3) (ad 4) t_now), ((ad 28), eI cA 8 t_yesesAt), ((ad 29), eI cA 256 t_mostFrom), ((ad 30), eI cA 256 t_nextFrom)] := hD
  have B_20 : ∀ (n : Nat) (x : Int32 × (Nat → Int32) × (Nat → Int32)) (H : Heap) (locs : List Loc) (ls : Array Slot), lfix (b_X5_findOrder_20 fu t t_now t_yesesAt) n x = some out → va_P D CL [((ad 0), e_X5 ad t), ((ad 1), e_X1 (ad 2) (ad 3) (ad 4) t_now), ((ad 28), eI cA 8 t_yesesAt), ((ad 29), eI cA 256 x.2.1), ((ad 30), eI cA 256 x.2.2)] H → va_D A [((ad 0), e_X5 ad t), ((ad 1), e_X1 (ad 2) (ad 3) (ad 4) t_now), ((ad 28), eI cA 8 t_yesesAt), ((ad 29), eI cA 256 x.2.1), ((ad 30), eI cA 256 x.2.2)] → va_S A s.heap H locs → lv_has ls 3 [(0, .ref (ad 0)), (2, .int x.1)] → W p l e rm_X5_findOrder s m args below meth c H locs 0 0 Q (F0 m 20 ls []) := by
    intro  n
    induction n with
    | zero => intro x H locs ls hm; cases (show none = some out from hm)
    | succ n HK_20 =>
      intro x H locs ls hm hP hD hS hl
      replace hm : b_X5_findOrder_20 fu t t_now t_yesesAt (lfix (b_X5_findOrder_20 fu t t_now t_yesesAt) n) x = some out := hm
      unfold b_X5_findOrder_20 at hm
      refine lv_iload_n hx hb dX5_findOrder_20 rfl (lv_at hl 1 rfl) ?_
      refine lv_if_lt (tgt := 43) hx hb dX5_findOrder_21 (by decide) (fun c1 => ?_) (fun c1 => ?_)
      · have hm := it_t c1 hm
        rw [hQ]
        exact W.vret hx hb hr (fun t9 ht hW => ⟨⟨(x.2.1, x.2.2), rfl, (Option.some.inj hm), by rw [ht]; exact hP, va_K.moved hW.alike hK, hD⟩, hS.F ht⟩) hS.2.2 dX5_findOrder_43
      · have hm := it_f c1 hm
        refine lv_aload_n hx hb dX5_findOrder_24 rfl (lv_at hl 0 rfl) ?_
        refine lv_iload_n hx hb dX5_findOrder_25 rfl (lv_at hl 1 rfl) ?_
        refine lv_aload_n hx hb dX5_findOrder_26 rfl (lv_at hl 0 rfl) ?_
        refine lv_iload_n hx hb dX5_findOrder_27 rfl (lv_at hl 1 rfl) ?_
        obtain ⟨o2, ho3, hm⟩ := bd_s hm
        refine xr_i (wr := [((ad 0), e_X5 ad t), ((ad 1), e_X1 (ad 2) (ad 3) (ad 4) t_now), ((ad 28), eI cA 8 t_yesesAt), ((ad 29), eI cA 256 x.2.1), ((ad 30), eI cA 256 x.2.2)]) (wn := [((ad 0), e_X5 ad t), ((ad 1), e_X1 (ad 2) (ad 3) (ad 4) t_now), ((ad 28), eI cA 8 t_yesesAt), ((ad 29), eI cA 256 x.2.1), ((ad 30), eI cA 256 x.2.2)]) (va_runS (As := [.int x.1]) (rest := [.ref (ad 0), .int x.1, .ref (ad 0)]) ⟨hx, hb, hml, hown, htg⟩ (c_J6_bitCount_0f7a4 l D cA _ fu x.1 o2 ho3) ⟨callB_of 1 htg (gU q_4_49) rfl rfl rfl (htg _ q_1_16) (htg _ q_4_47) hd_J6_bitCount_0f7a4.2 ⟨Nat.le_of_ble_eq_true rfl, Nat.le_of_ble_eq_true rfl⟩, htg _ q_4_48⟩ (xpS hN hK hP hD [] rfl (by decide)) rfl rfl hl.1 rfl (lv_room (Nat.le_of_ble_eq_true rfl)) dX5_findOrder_28 ⟨Nat.zero_le _, Nat.zero_le _⟩) hP hD hS hA [] [0, 1, 2, 3, 4] [0, 1, 2, 3, 4] rfl rfl (by decide) (by decide) rfl (by decide) (fun H locs hP hD hS => ?_)
        obtain ⟨o4, ho5, hm⟩ := bd_s hm
        refine xr_i (wr := [((ad 1), e_X1 (ad 2) (ad 3) (ad 4) t_now), ((ad 29), eI cA 256 x.2.1), ((ad 30), eI cA 256 x.2.2)]) (wn := [((ad 0), e_X5 ad t), ((ad 1), e_X1 (ad 2) (ad 3) (ad 4) t_now), ((ad 28), eI cA 8 t_yesesAt), ((ad 29), eI cA 256 x.2.1), ((ad 30), eI cA 256 x.2.2)]) (va_runV (As := [.int o2.1]) (rest := [.int x.1, .ref (ad 0)]) ⟨hx, hb, hml, hown, htg⟩ (c_X5_yesesOfPlace l D cA _ fu ad t t_yesesAt o2.1 o4 ho5) (cwV 1 htg (gV q_4_53 q_4_55 q_p4_9 q_1_1 q_4_56) rfl rfl rfl hd_X5_yesesOfPlace ⟨Nat.le_of_ble_eq_true rfl, Nat.le_of_ble_eq_true rfl⟩) (xpV hN hK hP hD [0, 2] rfl (by decide) rfl rfl) rfl rfl hl.1 rfl (lv_room (Nat.le_of_ble_eq_true rfl)) dX5_findOrder_31 ⟨Nat.zero_le _, Nat.zero_le _⟩) hP hD hS hA [0, 2] [1, 3, 4] [3, 0, 4, 1, 2] rfl rfl (by decide) (by decide) rfl (by decide) (fun H locs hP hD hS => ?_)
        obtain ⟨o6, ho7, hm⟩ := bd_s hm
        refine xr_v (wr := [((ad 28), eI cA 8 t_yesesAt)]) (wn := [((ad 0), e_X5 ad t), ((ad 1), e_X1 (ad 2) (ad 3) (ad 4) t_now), ((ad 28), eI cA 8 t_yesesAt), ((ad 29), eI cA 256 o6.1), ((ad 30), eI cA 256 o6.2)]) (va_runV (As := [.int x.1, .int o4.1]) (rest := []) ⟨hx, hb, hml, hown, htg⟩ (c_X5_findNextVoice l D cA _ fu ad t t_now x.2.1 x.2.2 x.1 o4.1 o6 ho7) (cwV 2 htg (gV q_4_57 q_4_59 q_p4_10 q_1_1 q_4_60) rfl rfl rfl hd_X5_findNextVoice ⟨Nat.le_of_ble_eq_true rfl, Nat.le_of_ble_eq_true rfl⟩) (xpV hN hK hP hD [0, 1, 3, 4] rfl (by decide) rfl rfl) rfl rfl hl.1 rfl (lv_room (Nat.le_of_ble_eq_true rfl)) dX5_findOrder_34 ⟨Nat.zero_le _, Nat.zero_le _⟩) hP hD hS hA [0, 1, 3, 4] [2] [1, 2, 0, 3, 4] rfl rfl (by decide) (by decide) rfl (by decide) (fun H locs hP hD hS => ?_)
        refine lv_iinc (v := (x.1 + (-1 : Int32))) (lv' := [(2, .int (x.1 + (-1 : Int32))), (0, .ref (ad 0))]) hx hb dX5_findOrder_37 hl (k := 1) rfl rfl (by decide) rfl (fun ls hl => ?_)
        refine lv_goto (tgt := 20) hx hb dX5_findOrder_40 (by decide) ?_
        exact HK_20 _ _ _ _ hm hP hD hS (lv_sub hl [1, 0] rfl)
  unfold m_X5_findOrder at hm
  subst hargs
  have hl := lv_entry ([.ref (ad 0)]) (n := 3) (Nat.le_of_ble_eq_true rfl)
  rw [lg_entry_eq]
  generalize (lg_sl ([.ref (ad 0)]) ++ List.replicate (3 - (lg_sl ([.ref (ad 0)])).length) Slot.unset).toArray = ls at hl ⊢
  have hl : lv_has ls 3 [(0, .ref (ad 0))] := hl
  refine lv_iconst (v := (1 : Int32)) hx hb dX5_findOrder_0 (by decide) ?_
  refine lv_aload_n hx hb dX5_findOrder_1 rfl (lv_at hl 0 rfl) ?_
  refine va_get (D := D) (ci := 5) (v := .ref (ad 1)) (C := RX5) (T := TX5) (N := 17) hx hb htg inX5 hown hK hP 0 rfl rfl 0 (by decide) (htg _ q_1_188) (fun _ h9 => h9) rfl dX5_findOrder_2 ?_
  refine va_getN (D := D) (ci := 1) (v := .int (t_now 8)) (C := RX1) (T := TX1) (N := 12) hx hb htg inX1 hown hK hP 1 rfl rfl 8 (by decide) (va_Nw.use rfl (hN _ q_1_58)) (fun _ h9 => h9) rfl dX5_findOrder_5 ?_
  refine lv_ishl hx hb dX5_findOrder_8 ?_
  refine lv_iconst (v := (1 : Int32)) hx hb dX5_findOrder_9 (by decide) ?_
  refine lv_isub hx hb dX5_findOrder_10 ?_
  refine lv_istore_n (lv' := [(1, .int (((1 : Int32) <<< (t_now 8 &&& 31)) - (1 : Int32))), (0, .ref (ad 0))]) hx hb dX5_findOrder_11 rfl hl (by decide) rfl (fun ls hl => ?_)
  refine lv_iload_n hx hb dX5_findOrder_12 rfl (lv_at hl 0 rfl) ?_
  refine lv_sipush (v := (255 : Int32)) hx hb dX5_findOrder_13 (by decide) ?_
  refine va_mmin hx hb (hml.trans hl.1.symm) hown (htg _ q_3_155) (htg _ q_3_156) (htg _ q_1_14) (htg _ q_3_157) (Nat.le_of_ble_eq_true rfl) (Nat.le_of_ble_eq_true rfl) (Nat.zero_le _) (Nat.zero_le _) dX5_findOrder_16 ?_
  obtain ⟨v8, hv9, hm⟩ := bd_s hm
  rw [Option.some.inj hv9]
  refine lv_istore_n (lv' := [(2, .int v8), (1, .int (((1 : Int32) <<< (t_now 8 &&& 31)) - (1 : Int32))), (0, .ref (ad 0))]) hx hb dX5_findOrder_19 rfl hl (by decide) rfl (fun ls hl => ?_)
  exact B_20 fu _ _ _ _ hm hP hD hS (lv_sub hl [2, 0] rfl)
def b_X5_voiceInOrder_43 (fu : Nat) (t : Nat → Int32) (t_nextFrom : Nat → Int32) (l3 : Int32) : Option (Int32 × Unit) :=
  some (l3, ())
def b_X5_voiceInOrder_7 (fu : Nat) (t : Nat → Int32) (t_nextFrom : Nat → Int32) (k_7 : (Int32 × Int32 × Int32 × Int32) → Option (Int32 × Unit)) (x : Int32 × Int32 × Int32 × Int32) : Option (Int32 × Unit) :=
  (if x.1 < x.2.2.2 then
        b_X5_voiceInOrder_43 fu t t_nextFrom x.2.2.1
      else
        (m_X5_isWithin fu x.2.1 (0 : Int32) (255 : Int32)).bind fun o2 =>
        (if o2.1 = 0 then
          b_X5_voiceInOrder_43 fu t t_nextFrom x.2.2.1
        else
          gd (inb x.2.1 256) (
          (some (x.2.1 ||| ((1 : Int32) <<< ((t_nextFrom x.2.1.toNatClampNeg) &&& 31)))).bind fun v6 =>
          k_7 (x.1, v6, (t_nextFrom x.2.1.toNatClampNeg), (x.2.2.2 + (1 : Int32))))))
def m_X5_voiceInOrder (fu : Nat) (t : Nat → Int32) (t_nextFrom : Nat → Int32) (l1 : Int32) : Option (Int32 × Unit) :=
  lfix (b_X5_voiceInOrder_7 fu t t_nextFrom) fu (l1, (0 : Int32), (-1 : Int32), (0 : Int32))
abbrev rm_X5_voiceInOrder : Room := ({ frames := 1, cells := 0, slots := 0, locals := 22 } : Room)
abbrev w0_X5_voiceInOrder (cA : Nat → ClassId) (ad : Nat → Nat) (t : Nat → Int32) (t_nextFrom : Nat → Int32) : va_W := [((ad 0), e_X5 ad t), ((ad 30), eI cA 256 t_nextFrom)]
abbrev w1_X5_voiceInOrder (cA : Nat → ClassId) (ad : Nat → Nat) (t : Nat → Int32) (t_nextFrom : Nat → Int32) (u : Unit) : va_W := [((ad 0), e_X5 ad t), ((ad 30), eI cA 256 t_nextFrom)]
theorem hd_X5_voiceInOrder : yX5_voiceInOrder.cls = RX5 ∧ yX5_voiceInOrder.cls ≠ "java/lang/invoke/MethodHandle" ∧ yX5_voiceInOrder.cls ≠ "java/lang/invoke/VarHandle" ∧ (parseMethodDescriptor yX5_voiceInOrder.desc).map (fun d => d.parameters.length) = some 1 := by decide +kernel
set_option maxHeartbeats 40000000 in
set_option maxRecDepth 100000 in
theorem c_X5_voiceInOrder (l : Launch) (D : va_G) (cA : Nat → ClassId) (sz : Nat) (fu : Nat) (ad : Nat → Nat) (t : Nat → Int32) (t_nextFrom : Nat → Int32) (l1 : Int32) (out : Int32 × Unit) (hm : m_X5_voiceInOrder fu t t_nextFrom l1 = some out) : MI l yX5_voiceInOrder (wU yX5_voiceInOrder cX5_voiceInOrder 5 ((Option.some Jvm.ClassFile.FieldType.int))) rm_X5_voiceInOrder D cA sz [.ref (ad 0), .int l1] (w0_X5_voiceInOrder cA ad t t_nextFrom) out (w1_X5_voiceInOrder cA ad t t_nextFrom) := by
  refine Met.ofW (cc := cX5_voiceInOrder) (maxL := 5) (ret := (Option.some Jvm.ClassFile.FieldType.int)) (by decide) rfl ?_
  intro p e s m args below meth c s₁ B hml hv
  obtain ⟨hargs, hsz, hP, hK, hD0, hN⟩ := hv
  have hx := B.exec
  have hb := B.bytes
  have hr := B.returns
  have htg : ∀ w ∈ gw, w.before args s = true := fun w h => atoms_spec (ws := wU yX5_voiceInOrder cX5_voiceInOrder 5 ((Option.some Jvm.ClassFile.FieldType.int))) B.pre w (List.mem_cons_of_mem _ h)
  have hown : s.vm.findClass RX5 = some m.cls := findClass_of_methodNamed B.named
  have hlocks := B.notSynchronized
  subst hsz
  have hD := hD0.self (sz := s.heap.size)
  have hA : ∀ q : Nat, s.heap.size ≤ q → va_A (w0_X5_voiceInOrder cA ad t t_nextFrom) s.heap.size q := fun q h => Or.inr h
  have hS : va_S (va_A (w0_X5_voiceInOrder cA ad t t_nextFrom) s.heap.size) s.heap s.heap [] := va_S.rf
  generalize va_A (w0_X5_voiceInOrder cA ad t t_nextFrom) s.heap.size = A at hA hD hS ⊢
  obtain ⟨Q, hQ⟩ : ∃ Q : State → Prop, Q = MQ below (va_Qi (fun (r : Int32) (u : Unit) => (r, u) = out) (pst0 D cA A (w1_X5_voiceInOrder cA ad t t_nextFrom)) A) args s 0 0 A := ⟨_, rfl⟩
  refine (?_ : W p l e rm_X5_voiceInOrder s m args below meth c s.heap [] 0 0 (MQ below (va_Qi (fun (r : Int32) (u : Unit) => (r, u) = out) (pst0 D cA A (w1_X5_voiceInOrder cA ad t t_nextFrom)) A) args s 0 0 A) (entryFrame m args 5))
  rw [← hQ]
  have hP : va_P D CL [((ad 0), e_X5 ad t), ((ad 30), eI cA 256 t_nextFrom)] s.heap := hP
  have hD : va_D A [((ad 0), e_X5 ad t), ((ad 30), eI cA 256 t_nextFrom)] := hD
  have B_43 : ∀ (l3 : Int32) (H : Heap) (locs : List Loc) (ls : Array Slot), b_X5_voiceInOrder_43 fu t t_nextFrom l3 = some out → va_P D CL [((ad 0), e_X5 ad t), ((ad 30), eI cA 256 t_nextFrom)] H → va_D A [((ad 0), e_X5 ad t), ((ad 30), eI cA 256 t_nextFrom)] → va_S A s.heap H locs → lv_has ls 5 [(0, .ref (ad 0)), (3, .int l3)] → W p l e rm_X5_voiceInOrder s m args below meth c H locs 0 0 Q (F0 m 43 ls []) := by
    intro  l3 H locs ls hm hP hD hS hl
    unfold b_X5_voiceInOrder_43 at hm
    refine lv_iload_n hx hb dX5_voiceInOrder_43 rfl (lv_at hl 1 rfl) ?_
    rw [hQ]
    exact W.iret (v := l3) hx hb hr (fun t9 ht hW => ⟨⟨l3, (), rfl, (Option.some.inj hm), by rw [ht]; exact hP, va_K.moved hW.alike hK, hD⟩, hS.F ht⟩) hS.2.2 dX5_voiceInOrder_44
  have B_7 : ∀ (n : Nat) (x : Int32 × Int32 × Int32 × Int32) (H : Heap) (locs : List Loc) (ls : Array Slot), lfix (b_X5_voiceInOrder_7 fu t t_nextFrom) n x = some out → va_P D CL [((ad 0), e_X5 ad t), ((ad 30), eI cA 256 t_nextFrom)] H → va_D A [((ad 0), e_X5 ad t), ((ad 30), eI cA 256 t_nextFrom)] → va_S A s.heap H locs → lv_has ls 5 [(0, .ref (ad 0)), (1, .int x.1), (2, .int x.2.1), (3, .int x.2.2.1), (4, .int x.2.2.2)] → W p l e rm_X5_voiceInOrder s m args below meth c H locs 0 0 Q (F0 m 7 ls []) := by
    intro  n
    induction n with
    | zero => intro x H locs ls hm; cases (show none = some out from hm)
    | succ n HK_7 =>
      intro x H locs ls hm hP hD hS hl
      replace hm : b_X5_voiceInOrder_7 fu t t_nextFrom (lfix (b_X5_voiceInOrder_7 fu t t_nextFrom) n) x = some out := hm
      unfold b_X5_voiceInOrder_7 at hm
      refine lv_iload hx hb dX5_voiceInOrder_7 (lv_at hl 4 rfl) ?_
      refine lv_iload_n hx hb dX5_voiceInOrder_9 rfl (lv_at hl 1 rfl) ?_
      refine lv_icmp_gt (tgt := 43) hx hb dX5_voiceInOrder_10 (by decide) (fun c1 => ?_) (fun c1 => ?_)
      · have hm := it_t c1 hm
        exact B_43 _ _ _ _ hm hP hD hS (lv_sub hl [0, 3] rfl)
      · have hm := it_f c1 hm
        refine lv_iload_n hx hb dX5_voiceInOrder_13 rfl (lv_at hl 2 rfl) ?_
        refine lv_iconst (v := (0 : Int32)) hx hb dX5_voiceInOrder_14 (by decide) ?_
        refine lv_sipush (v := (255 : Int32)) hx hb dX5_voiceInOrder_15 (by decide) ?_
        obtain ⟨o2, ho3, hm⟩ := bd_s hm
        refine xr_i (wr := [((ad 0), e_X5 ad t), ((ad 30), eI cA 256 t_nextFrom)]) (wn := [((ad 0), e_X5 ad t), ((ad 30), eI cA 256 t_nextFrom)]) (va_runS (As := [.int x.2.1, .int (0 : Int32), .int (255 : Int32)]) (rest := []) ⟨hx, hb, hml, hown, htg⟩ (c_X5_isWithin l D cA _ fu x.2.1 (0 : Int32) (255 : Int32) o2 ho3) (cwS 3 htg (gS q_2_7 q_2_8 q_1_1 q_2_9) rfl rfl rfl hd_X5_isWithin ⟨Nat.le_of_ble_eq_true rfl, Nat.le_of_ble_eq_true rfl⟩) (xpS hN hK hP hD [] rfl (by decide)) rfl rfl hl.1 rfl (lv_room (Nat.le_of_ble_eq_true rfl)) dX5_voiceInOrder_18 ⟨Nat.zero_le _, Nat.zero_le _⟩) hP hD hS hA [] [0, 1] [0, 1] rfl rfl (by decide) (by decide) rfl (by decide) (fun H locs hP hD hS => ?_)
        refine lv_if_eq (tgt := 43) hx hb dX5_voiceInOrder_21 (by decide) (fun c4 => ?_) (fun c4 => ?_)
        · have hm := it_t c4 hm
          exact B_43 _ _ _ _ hm hP hD hS (lv_sub hl [0, 3] rfl)
        · have hm := it_f c4 hm
          refine lv_aload_n hx hb dX5_voiceInOrder_24 rfl (lv_at hl 0 rfl) ?_
          refine va_get (D := D) (ci := 5) (v := .ref (ad 30)) (C := RX5) (T := TX5) (N := 17) hx hb htg inX5 hown hK hP 0 rfl rfl 13 (by decide) (htg _ q_1_201) (fun _ h9 => h9) rfl dX5_voiceInOrder_25 ?_
          refine lv_iload_n hx hb dX5_voiceInOrder_28 rfl (lv_at hl 2 rfl) ?_
          obtain ⟨hi5, hm⟩ := gd_s hm
          refine va_iald hx hb hK hP 1 0 rfl rfl hi5 dX5_voiceInOrder_29 ?_
          refine lv_istore_n (lv' := [(3, .int (t_nextFrom x.2.1.toNatClampNeg)), (0, .ref (ad 0)), (1, .int x.1), (2, .int x.2.1), (4, .int x.2.2.2)]) hx hb dX5_voiceInOrder_30 rfl hl (by decide) rfl (fun ls hl => ?_)
          refine lv_iload_n hx hb dX5_voiceInOrder_31 rfl (lv_at hl 3 rfl) ?_
          refine lv_iconst (v := (1 : Int32)) hx hb dX5_voiceInOrder_32 (by decide) ?_
          refine lv_iload_n hx hb dX5_voiceInOrder_33 rfl (lv_at hl 0 rfl) ?_
          refine lv_ishl hx hb dX5_voiceInOrder_34 ?_
          refine lv_ior hx hb dX5_voiceInOrder_35 ?_
          obtain ⟨v6, hv7, hm⟩ := bd_s hm
          rw [Option.some.inj hv7]
          refine lv_istore_n (lv' := [(2, .int v6), (3, .int (t_nextFrom x.2.1.toNatClampNeg)), (0, .ref (ad 0)), (1, .int x.1), (4, .int x.2.2.2)]) hx hb dX5_voiceInOrder_36 rfl hl (by decide) rfl (fun ls hl => ?_)
          refine lv_iinc (v := (x.2.2.2 + (1 : Int32))) (lv' := [(4, .int (x.2.2.2 + (1 : Int32))), (2, .int v6), (3, .int (t_nextFrom x.2.1.toNatClampNeg)), (0, .ref (ad 0)), (1, .int x.1)]) hx hb dX5_voiceInOrder_37 hl (k := 4) rfl rfl (by decide) rfl (fun ls hl => ?_)
          refine lv_goto (tgt := 7) hx hb dX5_voiceInOrder_40 (by decide) ?_
          exact HK_7 _ _ _ _ hm hP hD hS (lv_sub hl [3, 4, 1, 2, 0] rfl)
  unfold m_X5_voiceInOrder at hm
  subst hargs
  have hl := lv_entry ([.ref (ad 0), .int l1]) (n := 5) (Nat.le_of_ble_eq_true rfl)
  rw [lg_entry_eq]
  generalize (lg_sl ([.ref (ad 0), .int l1]) ++ List.replicate (5 - (lg_sl ([.ref (ad 0), .int l1])).length) Slot.unset).toArray = ls at hl ⊢
  have hl : lv_has ls 5 [(0, .ref (ad 0)), (1, .int l1)] := hl
  refine lv_iconst (v := (0 : Int32)) hx hb dX5_voiceInOrder_0 (by decide) ?_
  refine lv_istore_n (lv' := [(2, .int (0 : Int32)), (0, .ref (ad 0)), (1, .int l1)]) hx hb dX5_voiceInOrder_1 rfl hl (by decide) rfl (fun ls hl => ?_)
  refine lv_iconst (v := (-1 : Int32)) hx hb dX5_voiceInOrder_2 (by decide) ?_
  refine lv_istore_n (lv' := [(3, .int (-1 : Int32)), (2, .int (0 : Int32)), (0, .ref (ad 0)), (1, .int l1)]) hx hb dX5_voiceInOrder_3 rfl hl (by decide) rfl (fun ls hl => ?_)
  refine lv_iconst (v := (0 : Int32)) hx hb dX5_voiceInOrder_4 (by decide) ?_
  refine lv_istore (lv' := [(4, .int (0 : Int32)), (3, .int (-1 : Int32)), (2, .int (0 : Int32)), (0, .ref (ad 0)), (1, .int l1)]) hx hb dX5_voiceInOrder_5 hl (by decide) rfl (fun ls hl => ?_)
  exact B_7 fu _ _ _ _ hm hP hD hS (lv_sub hl [3, 4, 2, 1, 0] rfl)
def b_X5_suits_116 (fu : Nat) (t : Nat → Int32) (t_now : Nat → Int32) (t_now_kinds : Nat → Int32) (t_now_pitches : Nat → Int32) (t_shelves_holding : Nat → Int32) (t_shelves_sizes : Nat → Int32) (t_shelves_elements : Nat → Int64) (s0 : Int32) (t_refusals : Nat → Int32) (t_trial : Nat → Int32) (t_trial_heard : Nat → Int32) (t_told : Nat → Int32) (t_told_sounds : Nat → Int32) (t_yesesAt : Nat → Int32) (t_mostFrom : Nat → Int32) (t_nextFrom : Nat → Int32) : Option (Int32 × ((Nat → Int32) × (Nat → Int32) × (Nat → Int32) × (Nat → Int32) × (Nat → Int32) × (Nat → Int32) × (Nat → Int32) × (Nat → Int32))) :=
  some (s0, (t_refusals, t_trial, t_trial_heard, t_told, t_told_sounds, t_yesesAt, t_mostFrom, t_nextFrom))
def b_X5_suits_47 (fu : Nat) (t : Nat → Int32) (t_now : Nat → Int32) (t_now_kinds : Nat → Int32) (t_now_pitches : Nat → Int32) (t_shelves_holding : Nat → Int32) (t_shelves_sizes : Nat → Int32) (t_shelves_elements : Nat → Int64) (k_47 : (Int32 × Int32 × (Nat → Int32) × (Nat → Int32) × (Nat → Int32) × (Nat → Int32) × (Nat → Int32) × (Nat → Int32) × (Nat → Int32) × (Nat → Int32)) → Option (Int32 × ((Nat → Int32) × (Nat → Int32) × (Nat → Int32) × (Nat → Int32) × (Nat → Int32) × (Nat → Int32) × (Nat → Int32) × (Nat → Int32)))) (x : Int32 × Int32 × (Nat → Int32) × (Nat → Int32) × (Nat → Int32) × (Nat → Int32) × (Nat → Int32) × (Nat → Int32) × (Nat → Int32) × (Nat → Int32)) : Option (Int32 × ((Nat → Int32) × (Nat → Int32) × (Nat → Int32) × (Nat → Int32) × (Nat → Int32) × (Nat → Int32) × (Nat → Int32) × (Nat → Int32))) :=
  (if (8 : Int32) ≤ x.2.1 then
        (m_X5_findOrder fu t t_now x.2.2.2.2.2.2.2.1 x.2.2.2.2.2.2.2.2.1 x.2.2.2.2.2.2.2.2.2).bind fun o2 =>
        (if x.1 = (-1 : Int32) then
          gd (inb (0 : Int32) 256) (
          b_X5_suits_116 fu t t_now t_now_kinds t_now_pitches t_shelves_holding t_shelves_sizes t_shelves_elements (o2.1 (0 : Int32).toNatClampNeg) x.2.2.1 x.2.2.2.1 x.2.2.2.2.1 x.2.2.2.2.2.1 x.2.2.2.2.2.2.1 x.2.2.2.2.2.2.2.1 o2.1 o2.2)
        else
          (m_X5_voiceInOrder fu t o2.2 x.1).bind fun o5 =>
          b_X5_suits_116 fu t t_now t_now_kinds t_now_pitches t_shelves_holding t_shelves_sizes t_shelves_elements o5.1 x.2.2.1 x.2.2.2.1 x.2.2.2.2.1 x.2.2.2.2.2.1 x.2.2.2.2.2.2.1 x.2.2.2.2.2.2.2.1 o2.1 o2.2)
      else
        (m_X5_voicesOfYes fu t t_now t_now_kinds t_now_pitches x.2.2.2.1 x.2.2.2.2.1 x.2.2.2.2.2.1 x.2.2.2.2.2.2.1 (if (t_now 0 + x.2.1) < (40 : Int32) then (t_now 0 + x.2.1) else (40 : Int32)) (t_now 3)).bind fun o8 =>
        gd (inb x.2.1 8) (
        k_47 (x.1, (x.2.1 + (1 : Int32)), x.2.2.1, o8.2.1, o8.2.2, x.2.2.2.2.2.1, x.2.2.2.2.2.2.1, (upd x.2.2.2.2.2.2.2.1 x.2.1.toNatClampNeg o8.1), x.2.2.2.2.2.2.2.2.1, x.2.2.2.2.2.2.2.2.2)))
def b_X5_suits_13 (fu : Nat) (t : Nat → Int32) (t_now : Nat → Int32) (t_now_kinds : Nat → Int32) (t_now_pitches : Nat → Int32) (t_shelves_holding : Nat → Int32) (t_shelves_sizes : Nat → Int32) (t_shelves_elements : Nat → Int64) (l3 : Int32) (s1 : Int32) (s2 : Int32) (s3 : Int32) (t_refusals : Nat → Int32) (t_trial : Nat → Int32) (t_trial_heard : Nat → Int32) (t_told : Nat → Int32) (t_told_sounds : Nat → Int32) (t_yesesAt : Nat → Int32) (t_mostFrom : Nat → Int32) (t_nextFrom : Nat → Int32) : Option (Int32 × ((Nat → Int32) × (Nat → Int32) × (Nat → Int32) × (Nat → Int32) × (Nat → Int32) × (Nat → Int32) × (Nat → Int32) × (Nat → Int32))) :=
  (m_X5_takeWord fu t t_shelves_holding t_shelves_sizes t_shelves_elements t_refusals t_told t_told_sounds s1 s2 s3).bind fun o11 =>
    (if o11.1 = 0 then
      (if l3 < t_now 8 then
        lfix (b_X5_suits_47 fu t t_now t_now_kinds t_now_pitches t_shelves_holding t_shelves_sizes t_shelves_elements) fu (l3, (0 : Int32), o11.2.1, t_trial, t_trial_heard, o11.2.2.1, o11.2.2.2, t_yesesAt, t_mostFrom, t_nextFrom)
      else
        (m_X5_refuse fu t o11.2.1 (-5 : Int32)).bind fun o15 =>
        some (o15.1, (o15.2, t_trial, t_trial_heard, o11.2.2.1, o11.2.2.2, t_yesesAt, t_mostFrom, t_nextFrom)))
    else
      some (o11.1, (o11.2.1, t_trial, t_trial_heard, o11.2.2.1, o11.2.2.2, t_yesesAt, t_mostFrom, t_nextFrom)))
def m_X5_suits (fu : Nat) (t : Nat → Int32) (t_now : Nat → Int32) (t_now_kinds : Nat → Int32) (t_now_pitches : Nat → Int32) (t_shelves_holding : Nat → Int32) (t_shelves_sizes : Nat → Int32) (t_shelves_elements : Nat → Int64) (t_refusals : Nat → Int32) (t_trial : Nat → Int32) (t_trial_heard : Nat → Int32) (t_told : Nat → Int32) (t_told_sounds : Nat → Int32) (t_yesesAt : Nat → Int32) (t_mostFrom : Nat → Int32) (t_nextFrom : Nat → Int32) (l1 : Int32) (l2 : Int32) (l3 : Int32) : Option (Int32 × ((Nat → Int32) × (Nat → Int32) × (Nat → Int32) × (Nat → Int32) × (Nat → Int32) × (Nat → Int32) × (Nat → Int32) × (Nat → Int32))) :=
  (if l3 < (-1 : Int32) then
    b_X5_suits_13 fu t t_now t_now_kinds t_now_pitches t_shelves_holding t_shelves_sizes t_shelves_elements l3 l1 l2 (0 : Int32) t_refusals t_trial t_trial_heard t_told t_told_sounds t_yesesAt t_mostFrom t_nextFrom
  else
    b_X5_suits_13 fu t t_now t_now_kinds t_now_pitches t_shelves_holding t_shelves_sizes t_shelves_elements l3 l1 l2 (1 : Int32) t_refusals t_trial t_trial_heard t_told t_told_sounds t_yesesAt t_mostFrom t_nextFrom)
abbrev rm_X5_suits : Room := ({ frames := 6, cells := 0, slots := 0, locals := 138 } : Room)
abbrev w0_X5_suits (cA : Nat → ClassId) (ad : Nat → Nat) (t : Nat → Int32) (t_now : Nat → Int32) (t_now_kinds : Nat → Int32) (t_now_pitches : Nat → Int32) (t_shelves_holding : Nat → Int32) (t_shelves_sizes : Nat → Int32) (t_shelves_elements : Nat → Int64) (t_refusals : Nat → Int32) (t_trial : Nat → Int32) (t_trial_heard : Nat → Int32) (t_told : Nat → Int32) (t_told_sounds : Nat → Int32) (t_yesesAt : Nat → Int32) (t_mostFrom : Nat → Int32) (t_nextFrom : Nat → Int32) : va_W := [((ad 0), e_X5 ad t), ((ad 1), e_X1 (ad 2) (ad 3) (ad 4) t_now), ((ad 2), eI cA 8 t_now_kinds), ((ad 4), eI cA 8 t_now_pitches), ((ad 13), e_X0 (ad 14) (ad 15) (ad 16)), ((ad 14), eI cA 8 t_shelves_holding), ((ad 15), eI cA 8 t_shelves_sizes), ((ad 16), eJ cA 320 t_shelves_elements), ((ad 19), eI cA 5 t_refusals), ((ad 20), e_X3 (ad 21) t_trial), ((ad 21), eI cA 13 t_trial_heard), ((ad 24), e_X4 (ad 25) t_told), ((ad 25), eI cA 12 t_told_sounds), ((ad 28), eI cA 8 t_yesesAt), ((ad 29), eI cA 256 t_mostFrom), ((ad 30), eI cA 256 t_nextFrom)]
abbrev w1_X5_suits (cA : Nat → ClassId) (ad : Nat → Nat) (t : Nat → Int32) (t_now : Nat → Int32) (t_now_kinds : Nat → Int32) (t_now_pitches : Nat → Int32) (t_shelves_holding : Nat → Int32) (t_shelves_sizes : Nat → Int32) (t_shelves_elements : Nat → Int64) (u : (Nat → Int32) × (Nat → Int32) × (Nat → Int32) × (Nat → Int32) × (Nat → Int32) × (Nat → Int32) × (Nat → Int32) × (Nat → Int32)) : va_W := [((ad 0), e_X5 ad t), ((ad 1), e_X1 (ad 2) (ad 3) (ad 4) t_now), ((ad 2), eI cA 8 t_now_kinds), ((ad 4), eI cA 8 t_now_pitches), ((ad 13), e_X0 (ad 14) (ad 15) (ad 16)), ((ad 14), eI cA 8 t_shelves_holding), ((ad 15), eI cA 8 t_shelves_sizes), ((ad 16), eJ cA 320 t_shelves_elements), ((ad 19), eI cA 5 u.1), ((ad 20), e_X3 (ad 21) u.2.1), ((ad 21), eI cA 13 u.2.2.1), ((ad 24), e_X4 (ad 25) u.2.2.2.1), ((ad 25), eI cA 12 u.2.2.2.2.1), ((ad 28), eI cA 8 u.2.2.2.2.2.1), ((ad 29), eI cA 256 u.2.2.2.2.2.2.1), ((ad 30), eI cA 256 u.2.2.2.2.2.2.2)]
theorem hd_X5_suits : yX5_suits.cls = RX5 ∧ yX5_suits.cls ≠ "java/lang/invoke/MethodHandle" ∧ yX5_suits.cls ≠ "java/lang/invoke/VarHandle" ∧ (parseMethodDescriptor yX5_suits.desc).map (fun d => d.parameters.length) = some 3 := by decide +kernel
set_option maxHeartbeats 40000000 in
set_option maxRecDepth 100000 in
theorem c_X5_suits (l : Launch) (D : va_G) (cA : Nat → ClassId) (sz : Nat) (fu : Nat) (ad : Nat → Nat) (t : Nat → Int32) (t_now : Nat → Int32) (t_now_kinds : Nat → Int32) (t_now_pitches : Nat → Int32) (t_shelves_holding : Nat → Int32) (t_shelves_sizes : Nat → Int32) (t_shelves_elements : Nat → Int64) (t_refusals : Nat → Int32) (t_trial : Nat → Int32) (t_trial_heard : Nat → Int32) (t_told : Nat → Int32) (t_told_sounds : Nat → Int32) (t_yesesAt : Nat → Int32) (t_mostFrom : Nat → Int32) (t_nextFrom : Nat → Int32) (l1 : Int32) (l2 : Int32) (l3 : Int32) (out : Int32 × ((Nat → Int32) × (Nat → Int32) × (Nat → Int32) × (Nat → Int32) × (Nat → Int32) × (Nat → Int32) × (Nat → Int32) × (Nat → Int32))) (hm : m_X5_suits fu t t_now t_now_kinds t_now_pitches t_shelves_holding t_shelves_sizes t_shelves_elements t_refusals t_trial t_trial_heard t_told t_told_sounds t_yesesAt t_mostFrom t_nextFrom l1 l2 l3 = some out) : MI l yX5_suits (wU yX5_suits cX5_suits 6 ((Option.some Jvm.ClassFile.FieldType.int))) rm_X5_suits D cA sz [.ref (ad 0), .int l1, .int l2, .int l3] (w0_X5_suits cA ad t t_now t_now_kinds t_now_pitches t_shelves_holding t_shelves_sizes t_shelves_elements t_refusals t_trial t_trial_heard t_told t_told_sounds t_yesesAt t_mostFrom t_nextFrom) out (w1_X5_suits cA ad t t_now t_now_kinds t_now_pitches t_shelves_holding t_shelves_sizes t_shelves_elements) := by
  refine Met.ofW (cc := cX5_suits) (maxL := 6) (ret := (Option.some Jvm.ClassFile.FieldType.int)) (by decide) rfl ?_
  intro p e s m args below meth c s₁ B hml hv
  obtain ⟨hargs, hsz, hP, hK, hD0, hN⟩ := hv
  have hx := B.exec
  have hb := B.bytes
  have hr := B.returns
  have htg : ∀ w ∈ gw, w.before args s = true := fun w h => atoms_spec (ws := wU yX5_suits cX5_suits 6 ((Option.some Jvm.ClassFile.FieldType.int))) B.pre w (List.mem_cons_of_mem _ h)
  have hown : s.vm.findClass RX5 = some m.cls := findClass_of_methodNamed B.named
  have hlocks := B.notSynchronized
  subst hsz
  have hD := hD0.self (sz := s.heap.size)
  have hA : ∀ q : Nat, s.heap.size ≤ q → va_A (w0_X5_suits cA ad t t_now t_now_kinds t_now_pitches t_shelves_holding t_shelves_sizes t_shelves_elements t_refusals t_trial t_trial_heard t_told t_told_sounds t_yesesAt t_mostFrom t_nextFrom) s.heap.size q := fun q h => Or.inr h
  have hS : va_S (va_A (w0_X5_suits cA ad t t_now t_now_kinds t_now_pitches t_shelves_holding t_shelves_sizes t_shelves_elements t_refusals t_trial t_trial_heard t_told t_told_sounds t_yesesAt t_mostFrom t_nextFrom) s.heap.size) s.heap s.heap [] := va_S.rf
  generalize va_A (w0_X5_suits cA ad t t_now t_now_kinds t_now_pitches t_shelves_holding t_shelves_sizes t_shelves_elements t_refusals t_trial t_trial_heard t_told t_told_sounds t_yesesAt t_mostFrom t_nextFrom) s.heap.size = A at hA hD hS ⊢
  obtain ⟨Q, hQ⟩ : ∃ Q : State → Prop, Q = MQ below (va_Qi (fun (r : Int32) (u : (Nat → Int32) × (Nat → Int32) × (Nat → Int32) × (Nat → Int32) × (Nat → Int32) × (Nat → Int32) × (Nat → Int32) × (Nat → Int32)) => (r, u) = out) (pst0 D cA A (w1_X5_suits cA ad t t_now t_now_kinds t_now_pitches t_shelves_holding t_shelves_sizes t_shelves_elements)) A) args s 0 0 A := ⟨_, rfl⟩
  refine (?_ : W p l e rm_X5_suits s m args below meth c s.heap [] 0 0 (MQ below (va_Qi (fun (r : Int32) (u : (Nat → Int32) × (Nat → Int32) × (Nat → Int32) × (Nat → Int32) × (Nat → Int32) × (Nat → Int32) × (Nat → Int32) × (Nat → Int32)) => (r, u) = out) (pst0 D cA A (w1_X5_suits cA ad t t_now t_now_kinds t_now_pitches t_shelves_holding t_shelves_sizes t_shelves_elements)) A) args s 0 0 A) (entryFrame m args 6))
  rw [← hQ]
  have hP : va_P D CL [((ad 0), e_X5 ad t), ((ad 1), e_X1 (ad 2) (ad 3) (ad 4) t_now), ((ad 2), eI cA 8 t_now_kinds), ((ad 4), eI cA 8 t_now_pitches), ((ad 13), e_X0 (ad 14) (ad 15) (ad 16)), ((ad 14), eI cA 8 t_shelves_holding), ((ad 15), eI cA 8 t_shelves_sizes), ((ad 16), eJ cA 320 t_shelves_elements), ((ad 19), eI cA 5 t_refusals), ((ad 20), e_X3 (ad 21) t_trial), ((ad 21), eI cA 13 t_trial_heard), ((ad 24), e_X4 (ad 25) t_told), ((ad 25), eI cA 12 t_told_sounds), ((ad 28), eI cA 8 t_yesesAt), ((ad 29), eI cA 256 t_mostFrom), ((ad 30), eI cA 256 t_nextFrom)] s.heap := hP
  have hD : va_D A [((ad 0), e_X5 ad t), ((ad 1), e_X1 (ad 2) (ad 3) (ad 4) t_now), ((ad 2), eI cA 8 t_now_kinds), ((ad 4), eI cA 8 t_now_pitches), ((ad 13), e_X0 (ad 14) (ad 15) (ad 16)), ((ad 14), eI cA 8 t_shelves_holding), ((ad 15), eI cA 8 t_shelves_sizes), ((ad 16), eJ cA 320 t_shelves_elements), ((ad 19), eI cA 5 t_refusals), ((ad 20), e_X3 (ad 21) t_trial), ((ad 21), eI cA 13 t_trial_heard), ((ad 24), e_X4 (ad 25) t_told), ((ad 25), eI cA 12 t_told_sounds), ((ad 28), eI cA 8 t_yesesAt), ((ad 29), eI cA 256 t_mostFrom), ((ad 30), eI cA 256 t_nextFrom)] := hD
  have B_116 : ∀ (s0 : Int32) (t_refusals : Nat → Int32) (t_trial : Nat → Int32) (t_trial_heard : Nat → Int32) (t_told : Nat → Int32) (t_told_sounds : Nat → Int32) (t_yesesAt : Nat → Int32) (t_mostFrom : Nat → Int32) (t_nextFrom : Nat → Int32) (H : Heap) (locs : List Loc) (ls : Array Slot), b_X5_suits_116 fu t t_now t_now_kinds t_now_pitches t_shelves_holding t_shelves_sizes t_shelves_elements s0 t_refusals t_trial t_trial_heard t_told t_told_sounds t_yesesAt t_mostFrom t_nextFrom = some out → va_P D CL [((ad 0), e_X5 ad t), ((ad 1), e_X1 (ad 2) (ad 3) (ad 4) t_now), ((ad 2), eI cA 8 t_now_kinds), ((ad 4), eI cA 8 t_now_pitches), ((ad 13), e_X0 (ad 14) (ad 15) (ad 16)), ((ad 14), eI cA 8 t_shelves_holding), ((ad 15), eI cA 8 t_shelves_sizes), ((ad 16), eJ cA 320 t_shelves_elements), ((ad 19), eI cA 5 t_refusals), ((ad 20), e_X3 (ad 21) t_trial), ((ad 21), eI cA 13 t_trial_heard), ((ad 24), e_X4 (ad 25) t_told), ((ad 25), eI cA 12 t_told_sounds), ((ad 28), eI cA 8 t_yesesAt), ((ad 29), eI cA 256 t_mostFrom), ((ad 30), eI cA 256 t_nextFrom)] H → va_D A [((ad 0), e_X5 ad t), ((ad 1), e_X1 (ad 2) (ad 3) (ad 4) t_now), ((ad 2), eI cA 8 t_now_kinds), ((ad 4), eI cA 8 t_now_pitches), ((ad 13), e_X0 (ad 14) (ad 15) (ad 16)), ((ad 14), eI cA 8 t_shelves_holding), ((ad 15), eI cA 8 t_shelves_sizes), ((ad 16), eJ cA 320 t_shelves_elements), ((ad 19), eI cA 5 t_refusals), ((ad 20), e_X3 (ad 21) t_trial), ((ad 21), eI cA 13 t_trial_heard), ((ad 24), e_X4 (ad 25) t_told), ((ad 25), eI cA 12 t_told_sounds), ((ad 28), eI cA 8 t_yesesAt), ((ad 29), eI cA 256 t_mostFrom), ((ad 30), eI cA 256 t_nextFrom)] → va_S A s.heap H locs → lv_has ls 6 [(0, .ref (ad 0))] → W p l e rm_X5_suits s m args below meth c H locs 0 0 Q (F0 m 116 ls [.int s0]) := by
    intro  s0 t_refusals t_trial t_trial_heard t_told t_told_sounds t_yesesAt t_mostFrom t_nextFrom H locs ls hm hP hD hS hl
    unfold b_X5_suits_116 at hm
    rw [hQ]
    exact W.iret (v := s0) hx hb hr (fun t9 ht hW => ⟨⟨s0, (t_refusals, t_trial, t_trial_heard, t_told, t_told_sounds, t_yesesAt, t_mostFrom, t_nextFrom), rfl, (Option.some.inj hm), by rw [ht]; exact hP, va_K.moved hW.alike hK, hD⟩, hS.F ht⟩) hS.2.2 dX5_suits_116
  have B_47 : ∀ (n : Nat) (x : Int32 × Int32 × (Nat → Int32) × (Nat → Int32) × (Nat → Int32) × (Nat → Int32) × (Nat → Int32) × (Nat → Int32) × (Nat → Int32) × (Nat → Int32)) (H : Heap) (locs : List Loc) (ls : Array Slot), lfix (b_X5_suits_47 fu t t_now t_now_kinds t_now_pitches t_shelves_holding t_shelves_sizes t_shelves_elements) n x = some out → va_P D CL [((ad 0), e_X5 ad t), ((ad 1), e_X1 (ad 2) (ad 3) (ad 4) t_now), ((ad 2), eI cA 8 t_now_kinds), ((ad 4), eI cA 8 t_now_pitches), ((ad 13), e_X0 (ad 14) (ad 15) (ad 16)), ((ad 14), eI cA 8 t_shelves_holding), ((ad 15), eI cA 8 t_shelves_sizes), ((ad 16), eJ cA 320 t_shelves_elements), ((ad 19), eI cA 5 x.2.2.1), ((ad 20), e_X3 (ad 21) x.2.2.2.1), ((ad 21), eI cA 13 x.2.2.2.2.1), ((ad 24), e_X4 (ad 25) x.2.2.2.2.2.1), ((ad 25), eI cA 12 x.2.2.2.2.2.2.1), ((ad 28), eI cA 8 x.2.2.2.2.2.2.2.1), ((ad 29), eI cA 256 x.2.2.2.2.2.2.2.2.1), ((ad 30), eI cA 256 x.2.2.2.2.2.2.2.2.2)] H → va_D A [((ad 0), e_X5 ad t), ((ad 1), e_X1 (ad 2) (ad 3) (ad 4) t_now), ((ad 2), eI cA 8 t_now_kinds), ((ad 4), eI cA 8 t_now_pitches), ((ad 13), e_X0 (ad 14) (ad 15) (ad 16)), ((ad 14), eI cA 8 t_shelves_holding), ((ad 15), eI cA 8 t_shelves_sizes), ((ad 16), eJ cA 320 t_shelves_elements), ((ad 19), eI cA 5 x.2.2.1), ((ad 20), e_X3 (ad 21) x.2.2.2.1), ((ad 21), eI cA 13 x.2.2.2.2.1), ((ad 24), e_X4 (ad 25) x.2.2.2.2.2.1), ((ad 25), eI cA 12 x.2.2.2.2.2.2.1), ((ad 28), eI cA 8 x.2.2.2.2.2.2.2.1), ((ad 29), eI cA 256 x.2.2.2.2.2.2.2.2.1), ((ad 30), eI cA 256 x.2.2.2.2.2.2.2.2.2)] → va_S A s.heap H locs → lv_has ls 6 [(0, .ref (ad 0)), (3, .int x.1), (5, .int x.2.1)] → W p l e rm_X5_suits s m args below meth c H locs 0 0 Q (F0 m 47 ls []) := by
    intro  n
    induction n with
    | zero => intro x H locs ls hm; cases (show none = some out from hm)
    | succ n HK_47 =>
      intro x H locs ls hm hP hD hS hl
      replace hm : b_X5_suits_47 fu t t_now t_now_kinds t_now_pitches t_shelves_holding t_shelves_sizes t_shelves_elements (lfix (b_X5_suits_47 fu t t_now t_now_kinds t_now_pitches t_shelves_holding t_shelves_sizes t_shelves_elements) n) x = some out := hm
      unfold b_X5_suits_47 at hm
      refine lv_iload hx hb dX5_suits_47 (lv_at hl 2 rfl) ?_
      refine lv_bipush (v := (8 : Int32)) hx hb dX5_suits_49 (by decide) ?_
      refine lv_icmp_ge (tgt := 93) hx hb dX5_suits_51 (by decide) (fun c1 => ?_) (fun c1 => ?_)
      · have hm := it_t c1 hm
        refine lv_aload_n hx hb dX5_suits_93 rfl (lv_at hl 0 rfl) ?_
        obtain ⟨o2, ho3, hm⟩ := bd_s hm
        refine xr_v (wr := [((ad 2), eI cA 8 t_now_kinds), ((ad 4), eI cA 8 t_now_pitches), ((ad 13), e_X0 (ad 14) (ad 15) (ad 16)), ((ad 14), eI cA 8 t_shelves_holding), ((ad 15), eI cA 8 t_shelves_sizes), ((ad 16), eJ cA 320 t_shelves_elements), ((ad 19), eI cA 5 x.2.2.1), ((ad 20), e_X3 (ad 21) x.2.2.2.1), ((ad 21), eI cA 13 x.2.2.2.2.1), ((ad 24), e_X4 (ad 25) x.2.2.2.2.2.1), ((ad 25), eI cA 12 x.2.2.2.2.2.2.1)]) (wn := [((ad 0), e_X5 ad t), ((ad 1), e_X1 (ad 2) (ad 3) (ad 4) t_now), ((ad 2), eI cA 8 t_now_kinds), ((ad 4), eI cA 8 t_now_pitches), ((ad 13), e_X0 (ad 14) (ad 15) (ad 16)), ((ad 14), eI cA 8 t_shelves_holding), ((ad 15), eI cA 8 t_shelves_sizes), ((ad 16), eJ cA 320 t_shelves_elements), ((ad 19), eI cA 5 x.2.2.1), ((ad 20), e_X3 (ad 21) x.2.2.2.1), ((ad 21), eI cA 13 x.2.2.2.2.1), ((ad 24), e_X4 (ad 25) x.2.2.2.2.2.1), ((ad 25), eI cA 12 x.2.2.2.2.2.2.1), ((ad 28), eI cA 8 x.2.2.2.2.2.2.2.1), ((ad 29), eI cA 256 o2.1), ((ad 30), eI cA 256 o2.2)]) (va_runV (As := []) (rest := []) ⟨hx, hb, hml, hown, htg⟩ (c_X5_findOrder l D cA _ fu ad t t_now x.2.2.2.2.2.2.2.1 x.2.2.2.2.2.2.2.2.1 x.2.2.2.2.2.2.2.2.2 o2 ho3) (cwV 0 htg (gV q_4_43 q_4_45 q_p4_8 q_1_1 q_4_46) rfl rfl rfl hd_X5_findOrder ⟨Nat.le_of_ble_eq_true rfl, Nat.le_of_ble_eq_true rfl⟩) (xpV hN hK hP hD [0, 1, 13, 14, 15] rfl (by decide) rfl rfl) rfl rfl hl.1 rfl (lv_room (Nat.le_of_ble_eq_true rfl)) dX5_suits_94 ⟨Nat.zero_le _, Nat.zero_le _⟩) hP hD hS hA [0, 1, 13, 14, 15] [2, 3, 4, 5, 6, 7, 8, 9, 10, 11, 12] [11, 12, 0, 1, 2, 3, 4, 5, 6, 7, 8, 9, 10, 13, 14, 15] rfl rfl (by decide) (by decide) rfl (by decide) (fun H locs hP hD hS => ?_)
        refine lv_iload_n hx hb dX5_suits_97 rfl (lv_at hl 1 rfl) ?_
        refine lv_iconst (v := (-1 : Int32)) hx hb dX5_suits_98 (by decide) ?_
        refine lv_icmp_ne (tgt := 111) hx hb dX5_suits_99 (by decide) (fun c4 => ?_) (fun c4 => ?_)
        · have hm := it_f c4 hm
          refine lv_aload_n hx hb dX5_suits_111 rfl (lv_at hl 0 rfl) ?_
          refine lv_iload_n hx hb dX5_suits_112 rfl (lv_at hl 1 rfl) ?_
          obtain ⟨o5, ho6, hm⟩ := bd_s hm
          refine xr_i (wr := [((ad 1), e_X1 (ad 2) (ad 3) (ad 4) t_now), ((ad 2), eI cA 8 t_now_kinds), ((ad 4), eI cA 8 t_now_pitches), ((ad 13), e_X0 (ad 14) (ad 15) (ad 16)), ((ad 14), eI cA 8 t_shelves_holding), ((ad 15), eI cA 8 t_shelves_sizes), ((ad 16), eJ cA 320 t_shelves_elements), ((ad 19), eI cA 5 x.2.2.1), ((ad 20), e_X3 (ad 21) x.2.2.2.1), ((ad 21), eI cA 13 x.2.2.2.2.1), ((ad 24), e_X4 (ad 25) x.2.2.2.2.2.1), ((ad 25), eI cA 12 x.2.2.2.2.2.2.1), ((ad 28), eI cA 8 x.2.2.2.2.2.2.2.1), ((ad 29), eI cA 256 o2.1)]) (wn := [((ad 0), e_X5 ad t), ((ad 1), e_X1 (ad 2) (ad 3) (ad 4) t_now), ((ad 2), eI cA 8 t_now_kinds), ((ad 4), eI cA 8 t_now_pitches), ((ad 13), e_X0 (ad 14) (ad 15) (ad 16)), ((ad 14), eI cA 8 t_shelves_holding), ((ad 15), eI cA 8 t_shelves_sizes), ((ad 16), eJ cA 320 t_shelves_elements), ((ad 19), eI cA 5 x.2.2.1), ((ad 20), e_X3 (ad 21) x.2.2.2.1), ((ad 21), eI cA 13 x.2.2.2.2.1), ((ad 24), e_X4 (ad 25) x.2.2.2.2.2.1), ((ad 25), eI cA 12 x.2.2.2.2.2.2.1), ((ad 28), eI cA 8 x.2.2.2.2.2.2.2.1), ((ad 29), eI cA 256 o2.1), ((ad 30), eI cA 256 o2.2)]) (va_runV (As := [.int x.1]) (rest := []) ⟨hx, hb, hml, hown, htg⟩ (c_X5_voiceInOrder l D cA _ fu ad t o2.2 x.1 o5 ho6) (cwV 1 htg (gV q_4_61 q_4_63 q_p4_11 q_1_1 q_4_64) rfl rfl rfl hd_X5_voiceInOrder ⟨Nat.le_of_ble_eq_true rfl, Nat.le_of_ble_eq_true rfl⟩) (xpV hN hK hP hD [0, 15] rfl (by decide) rfl rfl) rfl rfl hl.1 rfl (lv_room (Nat.le_of_ble_eq_true rfl)) dX5_suits_113 ⟨Nat.zero_le _, Nat.zero_le _⟩) hP hD hS hA [0, 15] [1, 2, 3, 4, 5, 6, 7, 8, 9, 10, 11, 12, 13, 14] [14, 0, 1, 2, 3, 4, 5, 6, 7, 8, 9, 10, 11, 12, 13, 15] rfl rfl (by decide) (by decide) rfl (by decide) (fun H locs hP hD hS => ?_)
          exact B_116 _ _ _ _ _ _ _ _ _ _ _ _ hm hP hD hS (lv_sub hl [0] rfl)
        · have hm := it_t c4 hm
          refine lv_aload_n hx hb dX5_suits_102 rfl (lv_at hl 0 rfl) ?_
          refine va_get (D := D) (ci := 5) (v := .ref (ad 29)) (C := RX5) (T := TX5) (N := 17) hx hb htg inX5 hown hK hP 0 rfl rfl 12 (by decide) (htg _ q_1_200) (fun _ h9 => h9) rfl dX5_suits_103 ?_
          refine lv_iconst (v := (0 : Int32)) hx hb dX5_suits_106 (by decide) ?_
          obtain ⟨hi7, hm⟩ := gd_s hm
          refine va_iald hx hb hK hP 14 0 rfl rfl hi7 dX5_suits_107 ?_
          refine lv_goto (tgt := 116) hx hb dX5_suits_108 (by decide) ?_
          exact B_116 _ _ _ _ _ _ _ _ _ _ _ _ hm hP hD hS (lv_sub hl [0] rfl)
      · have hm := it_f c1 hm
        refine lv_aload_n hx hb dX5_suits_54 rfl (lv_at hl 0 rfl) ?_
        refine va_get (D := D) (ci := 5) (v := .ref (ad 28)) (C := RX5) (T := TX5) (N := 17) hx hb htg inX5 hown hK hP 0 rfl rfl 11 (by decide) (htg _ q_1_199) (fun _ h9 => h9) rfl dX5_suits_55 ?_
        refine lv_iload hx hb dX5_suits_58 (lv_at hl 2 rfl) ?_
        refine lv_aload_n hx hb dX5_suits_60 rfl (lv_at hl 0 rfl) ?_
        refine lv_bipush (v := (40 : Int32)) hx hb dX5_suits_61 (by decide) ?_
        refine lv_aload_n hx hb dX5_suits_63 rfl (lv_at hl 0 rfl) ?_
        refine va_get (D := D) (ci := 5) (v := .ref (ad 1)) (C := RX5) (T := TX5) (N := 17) hx hb htg inX5 hown hK hP 0 rfl rfl 0 (by decide) (htg _ q_1_188) (fun _ h9 => h9) rfl dX5_suits_64 ?_
        refine va_getN (D := D) (ci := 1) (v := .int (t_now 0)) (C := RX1) (T := TX1) (N := 12) hx hb htg inX1 hown hK hP 1 rfl rfl 0 (by decide) (va_Nw.use rfl (hN _ q_1_34)) (fun _ h9 => h9) rfl dX5_suits_67 ?_
        refine lv_iload hx hb dX5_suits_70 (lv_at hl 2 rfl) ?_
        refine lv_iadd hx hb dX5_suits_72 ?_
        refine va_mmin hx hb (hml.trans hl.1.symm) hown (htg _ q_3_155) (htg _ q_3_156) (htg _ q_1_14) (htg _ q_3_157) (Nat.le_of_ble_eq_true rfl) (Nat.le_of_ble_eq_true rfl) (Nat.zero_le _) (Nat.zero_le _) dX5_suits_73 ?_
        refine lv_aload_n hx hb dX5_suits_76 rfl (lv_at hl 0 rfl) ?_
        refine va_get (D := D) (ci := 5) (v := .ref (ad 1)) (C := RX5) (T := TX5) (N := 17) hx hb htg inX5 hown hK hP 0 rfl rfl 0 (by decide) (htg _ q_1_188) (fun _ h9 => h9) rfl dX5_suits_77 ?_
        refine va_getN (D := D) (ci := 1) (v := .int (t_now 3)) (C := RX1) (T := TX1) (N := 12) hx hb htg inX1 hown hK hP 1 rfl rfl 3 (by decide) (va_Nw.use rfl (hN _ q_1_46)) (fun _ h9 => h9) rfl dX5_suits_80 ?_
        obtain ⟨o8, ho9, hm⟩ := bd_s hm
        refine xr_i (wr := [((ad 13), e_X0 (ad 14) (ad 15) (ad 16)), ((ad 14), eI cA 8 t_shelves_holding), ((ad 15), eI cA 8 t_shelves_sizes), ((ad 16), eJ cA 320 t_shelves_elements), ((ad 19), eI cA 5 x.2.2.1), ((ad 28), eI cA 8 x.2.2.2.2.2.2.2.1), ((ad 29), eI cA 256 x.2.2.2.2.2.2.2.2.1), ((ad 30), eI cA 256 x.2.2.2.2.2.2.2.2.2)]) (wn := [((ad 0), e_X5 ad t), ((ad 1), e_X1 (ad 2) (ad 3) (ad 4) t_now), ((ad 2), eI cA 8 t_now_kinds), ((ad 4), eI cA 8 t_now_pitches), ((ad 13), e_X0 (ad 14) (ad 15) (ad 16)), ((ad 14), eI cA 8 t_shelves_holding), ((ad 15), eI cA 8 t_shelves_sizes), ((ad 16), eJ cA 320 t_shelves_elements), ((ad 19), eI cA 5 x.2.2.1), ((ad 20), e_X3 (ad 21) o8.2.1), ((ad 21), eI cA 13 o8.2.2), ((ad 24), e_X4 (ad 25) x.2.2.2.2.2.1), ((ad 25), eI cA 12 x.2.2.2.2.2.2.1), ((ad 28), eI cA 8 x.2.2.2.2.2.2.2.1), ((ad 29), eI cA 256 x.2.2.2.2.2.2.2.2.1), ((ad 30), eI cA 256 x.2.2.2.2.2.2.2.2.2)]) (va_runV (As := [.int (if (t_now 0 + x.2.1) < (40 : Int32) then (t_now 0 + x.2.1) else (40 : Int32)), .int (t_now 3)]) (rest := [.int x.2.1, .ref (ad 28)]) ⟨hx, hb, hml, hown, htg⟩ (c_X5_voicesOfYes l D cA _ fu ad t t_now t_now_kinds t_now_pitches x.2.2.2.1 x.2.2.2.2.1 x.2.2.2.2.2.1 x.2.2.2.2.2.2.1 (if (t_now 0 + x.2.1) < (40 : Int32) then (t_now 0 + x.2.1) else (40 : Int32)) (t_now 3) o8 ho9) (cwV 2 htg (gV q_4_31 q_4_33 q_p4_7 q_1_1 q_4_34) rfl rfl rfl hd_X5_voicesOfYes ⟨Nat.le_of_ble_eq_true rfl, Nat.le_of_ble_eq_true rfl⟩) (xpV hN hK hP hD [0, 1, 2, 3, 9, 10, 11, 12] rfl (by decide) rfl rfl) rfl rfl hl.1 rfl (lv_room (Nat.le_of_ble_eq_true rfl)) dX5_suits_83 ⟨Nat.zero_le _, Nat.zero_le _⟩) hP hD hS hA [0, 1, 2, 3, 9, 10, 11, 12] [4, 5, 6, 7, 8, 13, 14, 15] [8, 9, 10, 11, 0, 1, 2, 3, 4, 12, 13, 14, 15, 5, 6, 7] rfl rfl (by decide) (by decide) rfl (by decide) (fun H locs hP hD hS => ?_)
        obtain ⟨hi10, hm⟩ := gd_s hm
        refine va_iast hx hb hK hP hD hS 13 0 rfl rfl hi10 dX5_suits_86 (fun H locs (hP : va_P D CL [((ad 0), e_X5 ad t), ((ad 1), e_X1 (ad 2) (ad 3) (ad 4) t_now), ((ad 2), eI cA 8 t_now_kinds), ((ad 4), eI cA 8 t_now_pitches), ((ad 13), e_X0 (ad 14) (ad 15) (ad 16)), ((ad 14), eI cA 8 t_shelves_holding), ((ad 15), eI cA 8 t_shelves_sizes), ((ad 16), eJ cA 320 t_shelves_elements), ((ad 19), eI cA 5 x.2.2.1), ((ad 20), e_X3 (ad 21) o8.2.1), ((ad 21), eI cA 13 o8.2.2), ((ad 24), e_X4 (ad 25) x.2.2.2.2.2.1), ((ad 25), eI cA 12 x.2.2.2.2.2.2.1), ((ad 28), eI cA 8 (upd x.2.2.2.2.2.2.2.1 x.2.1.toNatClampNeg o8.1)), ((ad 29), eI cA 256 x.2.2.2.2.2.2.2.2.1), ((ad 30), eI cA 256 x.2.2.2.2.2.2.2.2.2)] H) (hD : va_D A [((ad 0), e_X5 ad t), ((ad 1), e_X1 (ad 2) (ad 3) (ad 4) t_now), ((ad 2), eI cA 8 t_now_kinds), ((ad 4), eI cA 8 t_now_pitches), ((ad 13), e_X0 (ad 14) (ad 15) (ad 16)), ((ad 14), eI cA 8 t_shelves_holding), ((ad 15), eI cA 8 t_shelves_sizes), ((ad 16), eJ cA 320 t_shelves_elements), ((ad 19), eI cA 5 x.2.2.1), ((ad 20), e_X3 (ad 21) o8.2.1), ((ad 21), eI cA 13 o8.2.2), ((ad 24), e_X4 (ad 25) x.2.2.2.2.2.1), ((ad 25), eI cA 12 x.2.2.2.2.2.2.1), ((ad 28), eI cA 8 (upd x.2.2.2.2.2.2.2.1 x.2.1.toNatClampNeg o8.1)), ((ad 29), eI cA 256 x.2.2.2.2.2.2.2.2.1), ((ad 30), eI cA 256 x.2.2.2.2.2.2.2.2.2)]) hS => ?_)
        refine lv_iinc (v := (x.2.1 + (1 : Int32))) (lv' := [(5, .int (x.2.1 + (1 : Int32))), (0, .ref (ad 0)), (3, .int x.1)]) hx hb dX5_suits_87 hl (k := 2) rfl rfl (by decide) rfl (fun ls hl => ?_)
        refine lv_goto (tgt := 47) hx hb dX5_suits_90 (by decide) ?_
        exact HK_47 _ _ _ _ hm hP hD hS (lv_sub hl [1, 2, 0] rfl)
  have B_13 : ∀ (l3 : Int32) (s1 : Int32) (s2 : Int32) (s3 : Int32) (t_refusals : Nat → Int32) (t_trial : Nat → Int32) (t_trial_heard : Nat → Int32) (t_told : Nat → Int32) (t_told_sounds : Nat → Int32) (t_yesesAt : Nat → Int32) (t_mostFrom : Nat → Int32) (t_nextFrom : Nat → Int32) (H : Heap) (locs : List Loc) (ls : Array Slot), b_X5_suits_13 fu t t_now t_now_kinds t_now_pitches t_shelves_holding t_shelves_sizes t_shelves_elements l3 s1 s2 s3 t_refusals t_trial t_trial_heard t_told t_told_sounds t_yesesAt t_mostFrom t_nextFrom = some out → va_P D CL [((ad 0), e_X5 ad t), ((ad 1), e_X1 (ad 2) (ad 3) (ad 4) t_now), ((ad 2), eI cA 8 t_now_kinds), ((ad 4), eI cA 8 t_now_pitches), ((ad 13), e_X0 (ad 14) (ad 15) (ad 16)), ((ad 14), eI cA 8 t_shelves_holding), ((ad 15), eI cA 8 t_shelves_sizes), ((ad 16), eJ cA 320 t_shelves_elements), ((ad 19), eI cA 5 t_refusals), ((ad 20), e_X3 (ad 21) t_trial), ((ad 21), eI cA 13 t_trial_heard), ((ad 24), e_X4 (ad 25) t_told), ((ad 25), eI cA 12 t_told_sounds), ((ad 28), eI cA 8 t_yesesAt), ((ad 29), eI cA 256 t_mostFrom), ((ad 30), eI cA 256 t_nextFrom)] H → va_D A [((ad 0), e_X5 ad t), ((ad 1), e_X1 (ad 2) (ad 3) (ad 4) t_now), ((ad 2), eI cA 8 t_now_kinds), ((ad 4), eI cA 8 t_now_pitches), ((ad 13), e_X0 (ad 14) (ad 15) (ad 16)), ((ad 14), eI cA 8 t_shelves_holding), ((ad 15), eI cA 8 t_shelves_sizes), ((ad 16), eJ cA 320 t_shelves_elements), ((ad 19), eI cA 5 t_refusals), ((ad 20), e_X3 (ad 21) t_trial), ((ad 21), eI cA 13 t_trial_heard), ((ad 24), e_X4 (ad 25) t_told), ((ad 25), eI cA 12 t_told_sounds), ((ad 28), eI cA 8 t_yesesAt), ((ad 29), eI cA 256 t_mostFrom), ((ad 30), eI cA 256 t_nextFrom)] → va_S A s.heap H locs → lv_has ls 6 [(0, .ref (ad 0)), (3, .int l3)] → W p l e rm_X5_suits s m args below meth c H locs 0 0 Q (F0 m 13 ls [.int s3, .int s2, .int s1, .ref (ad 0)]) := by
    intro  l3 s1 s2 s3 t_refusals t_trial t_trial_heard t_told t_told_sounds t_yesesAt t_mostFrom t_nextFrom H locs ls hm hP hD hS hl
    unfold b_X5_suits_13 at hm
    obtain ⟨o11, ho12, hm⟩ := bd_s hm
    refine xr_i (wr := [((ad 1), e_X1 (ad 2) (ad 3) (ad 4) t_now), ((ad 2), eI cA 8 t_now_kinds), ((ad 4), eI cA 8 t_now_pitches), ((ad 20), e_X3 (ad 21) t_trial), ((ad 21), eI cA 13 t_trial_heard), ((ad 28), eI cA 8 t_yesesAt), ((ad 29), eI cA 256 t_mostFrom), ((ad 30), eI cA 256 t_nextFrom)]) (wn := [((ad 0), e_X5 ad t), ((ad 1), e_X1 (ad 2) (ad 3) (ad 4) t_now), ((ad 2), eI cA 8 t_now_kinds), ((ad 4), eI cA 8 t_now_pitches), ((ad 13), e_X0 (ad 14) (ad 15) (ad 16)), ((ad 14), eI cA 8 t_shelves_holding), ((ad 15), eI cA 8 t_shelves_sizes), ((ad 16), eJ cA 320 t_shelves_elements), ((ad 19), eI cA 5 o11.2.1), ((ad 20), e_X3 (ad 21) t_trial), ((ad 21), eI cA 13 t_trial_heard), ((ad 24), e_X4 (ad 25) o11.2.2.1), ((ad 25), eI cA 12 o11.2.2.2), ((ad 28), eI cA 8 t_yesesAt), ((ad 29), eI cA 256 t_mostFrom), ((ad 30), eI cA 256 t_nextFrom)]) (va_runV (As := [.int s1, .int s2, .int s3]) (rest := []) ⟨hx, hb, hml, hown, htg⟩ (c_X5_takeWord l D cA _ fu ad t t_shelves_holding t_shelves_sizes t_shelves_elements t_refusals t_told t_told_sounds s1 s2 s3 o11 ho12) (cwV 3 htg (gV q_3_126 q_3_128 q_p3_12 q_1_1 q_3_129) rfl rfl rfl hd_X5_takeWord ⟨Nat.le_of_ble_eq_true rfl, Nat.le_of_ble_eq_true rfl⟩) (xpV hN hK hP hD [0, 4, 5, 6, 7, 8, 11, 12] rfl (by decide) rfl rfl) rfl rfl hl.1 rfl (lv_room (Nat.le_of_ble_eq_true rfl)) dX5_suits_13 ⟨Nat.zero_le _, Nat.zero_le _⟩) hP hD hS hA [0, 4, 5, 6, 7, 8, 11, 12] [1, 2, 3, 9, 10, 13, 14, 15] [8, 0, 1, 2, 9, 10, 11, 12, 13, 3, 4, 14, 15, 5, 6, 7] rfl rfl (by decide) (by decide) rfl (by decide) (fun H locs hP hD hS => ?_)
    refine lv_istore (lv' := [(4, .int o11.1), (0, .ref (ad 0)), (3, .int l3)]) hx hb dX5_suits_16 hl (by decide) rfl (fun ls hl => ?_)
    refine lv_iload hx hb dX5_suits_18 (lv_at hl 0 rfl) ?_
    refine lv_if_eq (tgt := 26) hx hb dX5_suits_20 (by decide) (fun c13 => ?_) (fun c13 => ?_)
    · have hm := it_t c13 hm
      refine lv_iload_n hx hb dX5_suits_26 rfl (lv_at hl 2 rfl) ?_
      refine lv_aload_n hx hb dX5_suits_27 rfl (lv_at hl 1 rfl) ?_
      refine va_get (D := D) (ci := 5) (v := .ref (ad 1)) (C := RX5) (T := TX5) (N := 17) hx hb htg inX5 hown hK hP 0 rfl rfl 0 (by decide) (htg _ q_1_188) (fun _ h9 => h9) rfl dX5_suits_28 ?_
      refine va_getN (D := D) (ci := 1) (v := .int (t_now 8)) (C := RX1) (T := TX1) (N := 12) hx hb htg inX1 hown hK hP 1 rfl rfl 8 (by decide) (va_Nw.use rfl (hN _ q_1_58)) (fun _ h9 => h9) rfl dX5_suits_31 ?_
      refine lv_icmp_lt (tgt := 44) hx hb dX5_suits_34 (by decide) (fun c14 => ?_) (fun c14 => ?_)
      · have hm := it_t c14 hm
        refine lv_iconst (v := (0 : Int32)) hx hb dX5_suits_44 (by decide) ?_
        refine lv_istore (lv' := [(5, .int (0 : Int32)), (4, .int o11.1), (0, .ref (ad 0)), (3, .int l3)]) hx hb dX5_suits_45 hl (by decide) rfl (fun ls hl => ?_)
        exact B_47 fu _ _ _ _ hm hP hD hS (lv_sub hl [2, 3, 0] rfl)
      · have hm := it_f c14 hm
        refine lv_aload_n hx hb dX5_suits_37 rfl (lv_at hl 1 rfl) ?_
        refine lv_bipush (v := (-5 : Int32)) hx hb dX5_suits_38 (by decide) ?_
        obtain ⟨o15, ho16, hm⟩ := bd_s hm
        refine xr_i (wr := [((ad 1), e_X1 (ad 2) (ad 3) (ad 4) t_now), ((ad 2), eI cA 8 t_now_kinds), ((ad 4), eI cA 8 t_now_pitches), ((ad 13), e_X0 (ad 14) (ad 15) (ad 16)), ((ad 14), eI cA 8 t_shelves_holding), ((ad 15), eI cA 8 t_shelves_sizes), ((ad 16), eJ cA 320 t_shelves_elements), ((ad 20), e_X3 (ad 21) t_trial), ((ad 21), eI cA 13 t_trial_heard), ((ad 24), e_X4 (ad 25) o11.2.2.1), ((ad 25), eI cA 12 o11.2.2.2), ((ad 28), eI cA 8 t_yesesAt), ((ad 29), eI cA 256 t_mostFrom), ((ad 30), eI cA 256 t_nextFrom)]) (wn := [((ad 0), e_X5 ad t), ((ad 1), e_X1 (ad 2) (ad 3) (ad 4) t_now), ((ad 2), eI cA 8 t_now_kinds), ((ad 4), eI cA 8 t_now_pitches), ((ad 13), e_X0 (ad 14) (ad 15) (ad 16)), ((ad 14), eI cA 8 t_shelves_holding), ((ad 15), eI cA 8 t_shelves_sizes), ((ad 16), eJ cA 320 t_shelves_elements), ((ad 19), eI cA 5 o15.2), ((ad 20), e_X3 (ad 21) t_trial), ((ad 21), eI cA 13 t_trial_heard), ((ad 24), e_X4 (ad 25) o11.2.2.1), ((ad 25), eI cA 12 o11.2.2.2), ((ad 28), eI cA 8 t_yesesAt), ((ad 29), eI cA 256 t_mostFrom), ((ad 30), eI cA 256 t_nextFrom)]) (va_runV (As := [.int (-5 : Int32)]) (rest := []) ⟨hx, hb, hml, hown, htg⟩ (c_X5_refuse l D cA _ fu ad t o11.2.1 (-5 : Int32) o15 ho16) (cwV 1 htg (gV q_2_10 q_2_12 q_p1_0 q_1_1 q_2_13) rfl rfl rfl hd_X5_refuse ⟨Nat.le_of_ble_eq_true rfl, Nat.le_of_ble_eq_true rfl⟩) (xpV hN hK hP hD [0, 8] rfl (by decide) rfl rfl) rfl rfl hl.1 rfl (lv_room (Nat.le_of_ble_eq_true rfl)) dX5_suits_40 ⟨Nat.zero_le _, Nat.zero_le _⟩) hP hD hS hA [0, 8] [1, 2, 3, 4, 5, 6, 7, 9, 10, 11, 12, 13, 14, 15] [14, 0, 1, 2, 3, 4, 5, 6, 15, 7, 8, 9, 10, 11, 12, 13] rfl rfl (by decide) (by decide) rfl (by decide) (fun H locs hP hD hS => ?_)
        rw [hQ]
        exact W.iret (v := o15.1) hx hb hr (fun t9 ht hW => ⟨⟨o15.1, (o15.2, t_trial, t_trial_heard, o11.2.2.1, o11.2.2.2, t_yesesAt, t_mostFrom, t_nextFrom), rfl, (Option.some.inj hm), by rw [ht]; exact hP, va_K.moved hW.alike hK, hD⟩, hS.F ht⟩) hS.2.2 dX5_suits_43
    · have hm := it_f c13 hm
      refine lv_iload hx hb dX5_suits_23 (lv_at hl 0 rfl) ?_
      rw [hQ]
      exact W.iret (v := o11.1) hx hb hr (fun t9 ht hW => ⟨⟨o11.1, (o11.2.1, t_trial, t_trial_heard, o11.2.2.1, o11.2.2.2, t_yesesAt, t_mostFrom, t_nextFrom), rfl, (Option.some.inj hm), by rw [ht]; exact hP, va_K.moved hW.alike hK, hD⟩, hS.F ht⟩) hS.2.2 dX5_suits_25
  unfold m_X5_suits at hm
  subst hargs
  have hl := lv_entry ([.ref (ad 0), .int l1, .int l2, .int l3]) (n := 6) (Nat.le_of_ble_eq_true rfl)
  rw [lg_entry_eq]
  generalize (lg_sl ([.ref (ad 0), .int l1, .int l2, .int l3]) ++ List.replicate (6 - (lg_sl ([.ref (ad 0), .int l1, .int l2, .int l3])).length) Slot.unset).toArray = ls at hl ⊢
  have hl : lv_has ls 6 [(0, .ref (ad 0)), (1, .int l1), (2, .int l2), (3, .int l3)] := hl
  refine lv_aload_n hx hb dX5_suits_0 rfl (lv_at hl 0 rfl) ?_
  refine lv_iload_n hx hb dX5_suits_1 rfl (lv_at hl 1 rfl) ?_
  refine lv_iload_n hx hb dX5_suits_2 rfl (lv_at hl 2 rfl) ?_
  refine lv_iload_n hx hb dX5_suits_3 rfl (lv_at hl 3 rfl) ?_
  refine lv_iconst (v := (-1 : Int32)) hx hb dX5_suits_4 (by decide) ?_
  refine lv_icmp_lt (tgt := 12) hx hb dX5_suits_5 (by decide) (fun c17 => ?_) (fun c17 => ?_)
  · have hm := it_t c17 hm
    refine lv_iconst (v := (0 : Int32)) hx hb dX5_suits_12 (by decide) ?_
    exact B_13 _ _ _ _ _ _ _ _ _ _ _ _ _ _ _ hm hP hD hS (lv_sub hl [0, 3] rfl)
  · have hm := it_f c17 hm
    refine lv_iconst (v := (1 : Int32)) hx hb dX5_suits_8 (by decide) ?_
    refine lv_goto (tgt := 13) hx hb dX5_suits_9 (by decide) ?_
    exact B_13 _ _ _ _ _ _ _ _ _ _ _ _ _ _ _ hm hP hD hS (lv_sub hl [0, 3] rfl)
def b_X5_fairest_75 (fu : Nat) (t : Nat → Int32) (t_now : Nat → Int32) (t_now_kinds : Nat → Int32) (t_now_pitches : Nat → Int32) (t_shelves_holding : Nat → Int32) (t_shelves_sizes : Nat → Int32) (t_shelves_elements : Nat → Int64) (k_35 : (Int32 × Int32 × Int32 × (Nat → Int32) × (Nat → Int32) × (Nat → Int32) × (Nat → Int32) × (Nat → Int32)) → Option (Int32 × ((Nat → Int32) × (Nat → Int32) × (Nat → Int32) × (Nat → Int32) × (Nat → Int32)))) (l4 : Int32) (l5 : Int32) (l6 : Int32) (t_refusals : Nat → Int32) (t_trial : Nat → Int32) (t_trial_heard : Nat → Int32) (t_told : Nat → Int32) (t_told_sounds : Nat → Int32) : Option (Int32 × ((Nat → Int32) × (Nat → Int32) × (Nat → Int32) × (Nat → Int32) × (Nat → Int32))) :=
  k_35 (l4, l5, (l6 + (1 : Int32)), t_refusals, t_trial, t_trial_heard, t_told, t_told_sounds)
def b_X5_fairest_35 (fu : Nat) (t : Nat → Int32) (t_now : Nat → Int32) (t_now_kinds : Nat → Int32) (t_now_pitches : Nat → Int32) (t_shelves_holding : Nat → Int32) (t_shelves_sizes : Nat → Int32) (t_shelves_elements : Nat → Int64) (k_35 : (Int32 × Int32 × Int32 × (Nat → Int32) × (Nat → Int32) × (Nat → Int32) × (Nat → Int32) × (Nat → Int32)) → Option (Int32 × ((Nat → Int32) × (Nat → Int32) × (Nat → Int32) × (Nat → Int32) × (Nat → Int32)))) (x : Int32 × Int32 × Int32 × (Nat → Int32) × (Nat → Int32) × (Nat → Int32) × (Nat → Int32) × (Nat → Int32)) : Option (Int32 × ((Nat → Int32) × (Nat → Int32) × (Nat → Int32) × (Nat → Int32) × (Nat → Int32))) :=
  (if (9 : Int32) < x.2.2.1 then
        some (x.1, (x.2.2.2.1, x.2.2.2.2.1, x.2.2.2.2.2.1, x.2.2.2.2.2.2.1, x.2.2.2.2.2.2.2))
      else
        (m_X5_voicesOfYes fu t t_now t_now_kinds t_now_pitches x.2.2.2.2.1 x.2.2.2.2.2.1 x.2.2.2.2.2.2.1 x.2.2.2.2.2.2.2 (t_now 0) x.2.2.1).bind fun o2 =>
        (m_J6_bitCount_0f7a4 fu o2.1).bind fun o4 =>
        (if o4.1 ≤ x.2.1 then
          b_X5_fairest_75 fu t t_now t_now_kinds t_now_pitches t_shelves_holding t_shelves_sizes t_shelves_elements k_35 x.1 x.2.1 x.2.2.1 x.2.2.2.1 o2.2.1 o2.2.2 x.2.2.2.2.2.2.1 x.2.2.2.2.2.2.2
        else
          b_X5_fairest_75 fu t t_now t_now_kinds t_now_pitches t_shelves_holding t_shelves_sizes t_shelves_elements k_35 x.2.2.1 o4.1 x.2.2.1 x.2.2.2.1 o2.2.1 o2.2.2 x.2.2.2.2.2.2.1 x.2.2.2.2.2.2.2))
def m_X5_fairest (fu : Nat) (t : Nat → Int32) (t_now : Nat → Int32) (t_now_kinds : Nat → Int32) (t_now_pitches : Nat → Int32) (t_shelves_holding : Nat → Int32) (t_shelves_sizes : Nat → Int32) (t_shelves_elements : Nat → Int64) (t_refusals : Nat → Int32) (t_trial : Nat → Int32) (t_trial_heard : Nat → Int32) (t_told : Nat → Int32) (t_told_sounds : Nat → Int32) (l1 : Int32) (l2 : Int32) : Option (Int32 × ((Nat → Int32) × (Nat → Int32) × (Nat → Int32) × (Nat → Int32) × (Nat → Int32))) :=
  (m_X5_takeWord fu t t_shelves_holding t_shelves_sizes t_shelves_elements t_refusals t_told t_told_sounds l1 l2 (1 : Int32)).bind fun o7 =>
  (if o7.1 = 0 then
    (some (if (2 : Int32) < (t_now 4 + (1 : Int32)) then (t_now 4 + (1 : Int32)) else (2 : Int32))).bind fun v10 =>
    lfix (b_X5_fairest_35 fu t t_now t_now_kinds t_now_pitches t_shelves_holding t_shelves_sizes t_shelves_elements) fu ((-1 : Int32), (-1 : Int32), v10, o7.2.1, t_trial, t_trial_heard, o7.2.2.1, o7.2.2.2)
  else
    some (o7.1, (o7.2.1, t_trial, t_trial_heard, o7.2.2.1, o7.2.2.2)))
abbrev rm_X5_fairest : Room := ({ frames := 6, cells := 0, slots := 0, locals := 138 } : Room)
abbrev w0_X5_fairest (cA : Nat → ClassId) (ad : Nat → Nat) (t : Nat → Int32) (t_now : Nat → Int32) (t_now_kinds : Nat → Int32) (t_now_pitches : Nat → Int32) (t_shelves_holding : Nat → Int32) (t_shelves_sizes : Nat → Int32) (t_shelves_elements : Nat → Int64) (t_refusals : Nat → Int32) (t_trial : Nat → Int32) (t_trial_heard : Nat → Int32) (t_told : Nat → Int32) (t_told_sounds : Nat → Int32) : va_W := [((ad 0), e_X5 ad t), ((ad 1), e_X1 (ad 2) (ad 3) (ad 4) t_now), ((ad 2), eI cA 8 t_now_kinds), ((ad 4), eI cA 8 t_now_pitches), ((ad 13), e_X0 (ad 14) (ad 15) (ad 16)), ((ad 14), eI cA 8 t_shelves_holding), ((ad 15), eI cA 8 t_shelves_sizes), ((ad 16), eJ cA 320 t_shelves_elements), ((ad 19), eI cA 5 t_refusals), ((ad 20), e_X3 (ad 21) t_trial), ((ad 21), eI cA 13 t_trial_heard), ((ad 24), e_X4 (ad 25) t_told), ((ad 25), eI cA 12 t_told_sounds)]
abbrev w1_X5_fairest (cA : Nat → ClassId) (ad : Nat → Nat) (t : Nat → Int32) (t_now : Nat → Int32) (t_now_kinds : Nat → Int32) (t_now_pitches : Nat → Int32) (t_shelves_holding : Nat → Int32) (t_shelves_sizes : Nat → Int32) (t_shelves_elements : Nat → Int64) (u : (Nat → Int32) × (Nat → Int32) × (Nat → Int32) × (Nat → Int32) × (Nat → Int32)) : va_W := [((ad 0), e_X5 ad t), ((ad 1), e_X1 (ad 2) (ad 3) (ad 4) t_now), ((ad 2), eI cA 8 t_now_kinds), ((ad 4), eI cA 8 t_now_pitches), ((ad 13), e_X0 (ad 14) (ad 15) (ad 16)), ((ad 14), eI cA 8 t_shelves_holding), ((ad 15), eI cA 8 t_shelves_sizes), ((ad 16), eJ cA 320 t_shelves_elements), ((ad 19), eI cA 5 u.1), ((ad 20), e_X3 (ad 21) u.2.1), ((ad 21), eI cA 13 u.2.2.1), ((ad 24), e_X4 (ad 25) u.2.2.2.1), ((ad 25), eI cA 12 u.2.2.2.2)]
theorem hd_X5_fairest : yX5_fairest.cls = RX5 ∧ yX5_fairest.cls ≠ "java/lang/invoke/MethodHandle" ∧ yX5_fairest.cls ≠ "java/lang/invoke/VarHandle" ∧ (parseMethodDescriptor yX5_fairest.desc).map (fun d => d.parameters.length) = some 2 := by decide +kernel
set_option maxHeartbeats 40000000 in
set_option maxRecDepth 100000 in
theorem c_X5_fairest (l : Launch) (D : va_G) (cA : Nat → ClassId) (sz : Nat) (fu : Nat) (ad : Nat → Nat) (t : Nat → Int32) (t_now : Nat → Int32) (t_now_kinds : Nat → Int32) (t_now_pitches : Nat → Int32) (t_shelves_holding : Nat → Int32) (t_shelves_sizes : Nat → Int32) (t_shelves_elements : Nat → Int64) (t_refusals : Nat → Int32) (t_trial : Nat → Int32) (t_trial_heard : Nat → Int32) (t_told : Nat → Int32) (t_told_sounds : Nat → Int32) (l1 : Int32) (l2 : Int32) (out : Int32 × ((Nat → Int32) × (Nat → Int32) × (Nat → Int32) × (Nat → Int32) × (Nat → Int32))) (hm : m_X5_fairest fu t t_now t_now_kinds t_now_pitches t_shelves_holding t_shelves_sizes t_shelves_elements t_refusals t_trial t_trial_heard t_told t_told_sounds l1 l2 = some out) : MI l yX5_fairest (wU yX5_fairest cX5_fairest 8 ((Option.some Jvm.ClassFile.FieldType.int))) rm_X5_fairest D cA sz [.ref (ad 0), .int l1, .int l2] (w0_X5_fairest cA ad t t_now t_now_kinds t_now_pitches t_shelves_holding t_shelves_sizes t_shelves_elements t_refusals t_trial t_trial_heard t_told t_told_sounds) out (w1_X5_fairest cA ad t t_now t_now_kinds t_now_pitches t_shelves_holding t_shelves_sizes t_shelves_elements) := by
  refine Met.ofW (cc := cX5_fairest) (maxL := 8) (ret := (Option.some Jvm.ClassFile.FieldType.int)) (by decide) rfl ?_
  intro p e s m args below meth c s₁ B hml hv
  obtain ⟨hargs, hsz, hP, hK, hD0, hN⟩ := hv
  have hx := B.exec
  have hb := B.bytes
  have hr := B.returns
  have htg : ∀ w ∈ gw, w.before args s = true := fun w h => atoms_spec (ws := wU yX5_fairest cX5_fairest 8 ((Option.some Jvm.ClassFile.FieldType.int))) B.pre w (List.mem_cons_of_mem _ h)
  have hown : s.vm.findClass RX5 = some m.cls := findClass_of_methodNamed B.named
  have hlocks := B.notSynchronized
  subst hsz
  have hD := hD0.self (sz := s.heap.size)
  have hA : ∀ q : Nat, s.heap.size ≤ q → va_A (w0_X5_fairest cA ad t t_now t_now_kinds t_now_pitches t_shelves_holding t_shelves_sizes t_shelves_elements t_refusals t_trial t_trial_heard t_told t_told_sounds) s.heap.size q := fun q h => Or.inr h
  have hS : va_S (va_A (w0_X5_fairest cA ad t t_now t_now_kinds t_now_pitches t_shelves_holding t_shelves_sizes t_shelves_elements t_refusals t_trial t_trial_heard t_told t_told_sounds) s.heap.size) s.heap s.heap [] := va_S.rf
  generalize va_A (w0_X5_fairest cA ad t t_now t_now_kinds t_now_pitches t_shelves_holding t_shelves_sizes t_shelves_elements t_refusals t_trial t_trial_heard t_told t_told_sounds) s.heap.size = A at hA hD hS ⊢
  obtain ⟨Q, hQ⟩ : ∃ Q : State → Prop, Q = MQ below (va_Qi (fun (r : Int32) (u : (Nat → Int32) × (Nat → Int32) × (Nat → Int32) × (Nat → Int32) × (Nat → Int32)) => (r, u) = out) (pst0 D cA A (w1_X5_fairest cA ad t t_now t_now_kinds t_now_pitches t_shelves_holding t_shelves_sizes t_shelves_elements)) A) args s 0 0 A := ⟨_, rfl⟩
  refine (?_ : W p l e rm_X5_fairest s m args below meth c s.heap [] 0 0 (MQ below (va_Qi (fun (r : Int32) (u : (Nat → Int32) × (Nat → Int32) × (Nat → Int32) × (Nat → Int32) × (Nat → Int32)) => (r, u) = out) (pst0 D cA A (w1_X5_fairest cA ad t t_now t_now_kinds t_now_pitches t_shelves_holding t_shelves_sizes t_shelves_elements)) A) args s 0 0 A) (entryFrame m args 8))
  rw [← hQ]
  have hP : va_P D CL [((ad 0), e_X5 ad t), ((ad 1), e_X1 (ad 2) (ad 3) (ad 4) t_now), ((ad 2), eI cA 8 t_now_kinds), ((ad 4), eI cA 8 t_now_pitches), ((ad 13), e_X0 (ad 14) (ad 15) (ad 16)), ((ad 14), eI cA 8 t_shelves_holding), ((ad 15), eI cA 8 t_shelves_sizes), ((ad 16), eJ cA 320 t_shelves_elements), ((ad 19), eI cA 5 t_refusals), ((ad 20), e_X3 (ad 21) t_trial), ((ad 21), eI cA 13 t_trial_heard), ((ad 24), e_X4 (ad 25) t_told), ((ad 25), eI cA 12 t_told_sounds)] s.heap := hP
  have hD : va_D A [((ad 0), e_X5 ad t), ((ad 1), e_X1 (ad 2) (ad 3) (ad 4) t_now), ((ad 2), eI cA 8 t_now_kinds), ((ad 4), eI cA 8 t_now_pitches), ((ad 13), e_X0 (ad 14) (ad 15) (ad 16)), ((ad 14), eI cA 8 t_shelves_holding), ((ad 15), eI cA 8 t_shelves_sizes), ((ad 16), eJ cA 320 t_shelves_elements), ((ad 19), eI cA 5 t_refusals), ((ad 20), e_X3 (ad 21) t_trial), ((ad 21), eI cA 13 t_trial_heard), ((ad 24), e_X4 (ad 25) t_told), ((ad 25), eI cA 12 t_told_sounds)] := hD
  have B_75 : ∀ (k_35 : (Int32 × Int32 × Int32 × (Nat → Int32) × (Nat → Int32) × (Nat → Int32) × (Nat → Int32) × (Nat → Int32)) → Option (Int32 × ((Nat → Int32) × (Nat → Int32) × (Nat → Int32) × (Nat → Int32) × (Nat → Int32)))) (HK_35 : ∀ (x : Int32 × Int32 × Int32 × (Nat → Int32) × (Nat → Int32) × (Nat → Int32) × (Nat → Int32) × (Nat → Int32)) (H : Heap) (locs : List Loc) (ls : Array Slot), k_35 x = some out → va_P D CL [((ad 0), e_X5 ad t), ((ad 1), e_X1 (ad 2) (ad 3) (ad 4) t_now), ((ad 2), eI cA 8 t_now_kinds), ((ad 4), eI cA 8 t_now_pitches), ((ad 13), e_X0 (ad 14) (ad 15) (ad 16)), ((ad 14), eI cA 8 t_shelves_holding), ((ad 15), eI cA 8 t_shelves_sizes), ((ad 16), eJ cA 320 t_shelves_elements), ((ad 19), eI cA 5 x.2.2.2.1), ((ad 20), e_X3 (ad 21) x.2.2.2.2.1), ((ad 21), eI cA 13 x.2.2.2.2.2.1), ((ad 24), e_X4 (ad 25) x.2.2.2.2.2.2.1), ((ad 25), eI cA 12 x.2.2.2.2.2.2.2)] H → va_D A [((ad 0), e_X5 ad t), ((ad 1), e_X1 (ad 2) (ad 3) (ad 4) t_now), ((ad 2), eI cA 8 t_now_kinds), ((ad 4), eI cA 8 t_now_pitches), ((ad 13), e_X0 (ad 14) (ad 15) (ad 16)), ((ad 14), eI cA 8 t_shelves_holding), ((ad 15), eI cA 8 t_shelves_sizes), ((ad 16), eJ cA 320 t_shelves_elements), ((ad 19), eI cA 5 x.2.2.2.1), ((ad 20), e_X3 (ad 21) x.2.2.2.2.1), ((ad 21), eI cA 13 x.2.2.2.2.2.1), ((ad 24), e_X4 (ad 25) x.2.2.2.2.2.2.1), ((ad 25), eI cA 12 x.2.2.2.2.2.2.2)] → va_S A s.heap H locs → lv_has ls 8 [(0, .ref (ad 0)), (4, .int x.1), (5, .int x.2.1), (6, .int x.2.2.1)] → W p l e rm_X5_fairest s m args below meth c H locs 0 0 Q (F0 m 35 ls [])) (l4 : Int32) (l5 : Int32) (l6 : Int32) (t_refusals : Nat → Int32) (t_trial : Nat → Int32) (t_trial_heard : Nat → Int32) (t_told : Nat → Int32) (t_told_sounds : Nat → Int32) (H : Heap) (locs : List Loc) (ls : Array Slot), b_X5_fairest_75 fu t t_now t_now_kinds t_now_pitches t_shelves_holding t_shelves_sizes t_shelves_elements k_35 l4 l5 l6 t_refusals t_trial t_trial_heard t_told t_told_sounds = some out → va_P D CL [((ad 0), e_X5 ad t), ((ad 1), e_X1 (ad 2) (ad 3) (ad 4) t_now), ((ad 2), eI cA 8 t_now_kinds), ((ad 4), eI cA 8 t_now_pitches), ((ad 13), e_X0 (ad 14) (ad 15) (ad 16)), ((ad 14), eI cA 8 t_shelves_holding), ((ad 15), eI cA 8 t_shelves_sizes), ((ad 16), eJ cA 320 t_shelves_elements), ((ad 19), eI cA 5 t_refusals), ((ad 20), e_X3 (ad 21) t_trial), ((ad 21), eI cA 13 t_trial_heard), ((ad 24), e_X4 (ad 25) t_told), ((ad 25), eI cA 12 t_told_sounds)] H → va_D A [((ad 0), e_X5 ad t), ((ad 1), e_X1 (ad 2) (ad 3) (ad 4) t_now), ((ad 2), eI cA 8 t_now_kinds), ((ad 4), eI cA 8 t_now_pitches), ((ad 13), e_X0 (ad 14) (ad 15) (ad 16)), ((ad 14), eI cA 8 t_shelves_holding), ((ad 15), eI cA 8 t_shelves_sizes), ((ad 16), eJ cA 320 t_shelves_elements), ((ad 19), eI cA 5 t_refusals), ((ad 20), e_X3 (ad 21) t_trial), ((ad 21), eI cA 13 t_trial_heard), ((ad 24), e_X4 (ad 25) t_told), ((ad 25), eI cA 12 t_told_sounds)] → va_S A s.heap H locs → lv_has ls 8 [(0, .ref (ad 0)), (4, .int l4), (5, .int l5), (6, .int l6)] → W p l e rm_X5_fairest s m args below meth c H locs 0 0 Q (F0 m 75 ls []) := by
    intro k_35 HK_35 l4 l5 l6 t_refusals t_trial t_trial_heard t_told t_told_sounds H locs ls hm hP hD hS hl
    unfold b_X5_fairest_75 at hm
    refine lv_iinc (v := (l6 + (1 : Int32))) (lv' := [(6, .int (l6 + (1 : Int32))), (0, .ref (ad 0)), (4, .int l4), (5, .int l5)]) hx hb dX5_fairest_75 hl (k := 3) rfl rfl (by decide) rfl (fun ls hl => ?_)
    refine lv_goto (tgt := 35) hx hb dX5_fairest_78 (by decide) ?_
    exact HK_35 _ _ _ _ hm hP hD hS (lv_sub hl [1, 2, 3, 0] rfl)
  have B_35 : ∀ (n : Nat) (x : Int32 × Int32 × Int32 × (Nat → Int32) × (Nat → Int32) × (Nat → Int32) × (Nat → Int32) × (Nat → Int32)) (H : Heap) (locs : List Loc) (ls : Array Slot), lfix (b_X5_fairest_35 fu t t_now t_now_kinds t_now_pitches t_shelves_holding t_shelves_sizes t_shelves_elements) n x = some out → va_P D CL [((ad 0), e_X5 ad t), ((ad 1), e_X1 (ad 2) (ad 3) (ad 4) t_now), ((ad 2), eI cA 8 t_now_kinds), ((ad 4), eI cA 8 t_now_pitches), ((ad 13), e_X0 (ad 14) (ad 15) (ad 16)), ((ad 14), eI cA 8 t_shelves_holding), ((ad 15), eI cA 8 t_shelves_sizes), ((ad 16), eJ cA 320 t_shelves_elements), ((ad 19), eI cA 5 x.2.2.2.1), ((ad 20), e_X3 (ad 21) x.2.2.2.2.1), ((ad 21), eI cA 13 x.2.2.2.2.2.1), ((ad 24), e_X4 (ad 25) x.2.2.2.2.2.2.1), ((ad 25), eI cA 12 x.2.2.2.2.2.2.2)] H → va_D A [((ad 0), e_X5 ad t), ((ad 1), e_X1 (ad 2) (ad 3) (ad 4) t_now), ((ad 2), eI cA 8 t_now_kinds), ((ad 4), eI cA 8 t_now_pitches), ((ad 13), e_X0 (ad 14) (ad 15) (ad 16)), ((ad 14), eI cA 8 t_shelves_holding), ((ad 15), eI cA 8 t_shelves_sizes), ((ad 16), eJ cA 320 t_shelves_elements), ((ad 19), eI cA 5 x.2.2.2.1), ((ad 20), e_X3 (ad 21) x.2.2.2.2.1), ((ad 21), eI cA 13 x.2.2.2.2.2.1), ((ad 24), e_X4 (ad 25) x.2.2.2.2.2.2.1), ((ad 25), eI cA 12 x.2.2.2.2.2.2.2)] → va_S A s.heap H locs → lv_has ls 8 [(0, .ref (ad 0)), (4, .int x.1), (5, .int x.2.1), (6, .int x.2.2.1)] → W p l e rm_X5_fairest s m args below meth c H locs 0 0 Q (F0 m 35 ls []) := by
    intro  n
    induction n with
    | zero => intro x H locs ls hm; cases (show none = some out from hm)
    | succ n HK_35 =>
      intro x H locs ls hm hP hD hS hl
      replace hm : b_X5_fairest_35 fu t t_now t_now_kinds t_now_pitches t_shelves_holding t_shelves_sizes t_shelves_elements (lfix (b_X5_fairest_35 fu t t_now t_now_kinds t_now_pitches t_shelves_holding t_shelves_sizes t_shelves_elements) n) x = some out := hm
      unfold b_X5_fairest_35 at hm
      refine lv_iload hx hb dX5_fairest_35 (lv_at hl 3 rfl) ?_
      refine lv_bipush (v := (9 : Int32)) hx hb dX5_fairest_37 (by decide) ?_
      refine lv_icmp_gt (tgt := 81) hx hb dX5_fairest_39 (by decide) (fun c1 => ?_) (fun c1 => ?_)
      · have hm := it_t c1 hm
        refine lv_iload hx hb dX5_fairest_81 (lv_at hl 1 rfl) ?_
        rw [hQ]
        exact W.iret (v := x.1) hx hb hr (fun t9 ht hW => ⟨⟨x.1, (x.2.2.2.1, x.2.2.2.2.1, x.2.2.2.2.2.1, x.2.2.2.2.2.2.1, x.2.2.2.2.2.2.2), rfl, (Option.some.inj hm), by rw [ht]; exact hP, va_K.moved hW.alike hK, hD⟩, hS.F ht⟩) hS.2.2 dX5_fairest_83
      · have hm := it_f c1 hm
        refine lv_aload_n hx hb dX5_fairest_42 rfl (lv_at hl 0 rfl) ?_
        refine lv_aload_n hx hb dX5_fairest_43 rfl (lv_at hl 0 rfl) ?_
        refine va_get (D := D) (ci := 5) (v := .ref (ad 1)) (C := RX5) (T := TX5) (N := 17) hx hb htg inX5 hown hK hP 0 rfl rfl 0 (by decide) (htg _ q_1_188) (fun _ h9 => h9) rfl dX5_fairest_44 ?_
        refine va_getN (D := D) (ci := 1) (v := .int (t_now 0)) (C := RX1) (T := TX1) (N := 12) hx hb htg inX1 hown hK hP 1 rfl rfl 0 (by decide) (va_Nw.use rfl (hN _ q_1_34)) (fun _ h9 => h9) rfl dX5_fairest_47 ?_
        refine lv_iload hx hb dX5_fairest_50 (lv_at hl 3 rfl) ?_
        obtain ⟨o2, ho3, hm⟩ := bd_s hm
        refine xr_i (wr := [((ad 13), e_X0 (ad 14) (ad 15) (ad 16)), ((ad 14), eI cA 8 t_shelves_holding), ((ad 15), eI cA 8 t_shelves_sizes), ((ad 16), eJ cA 320 t_shelves_elements), ((ad 19), eI cA 5 x.2.2.2.1)]) (wn := [((ad 0), e_X5 ad t), ((ad 1), e_X1 (ad 2) (ad 3) (ad 4) t_now), ((ad 2), eI cA 8 t_now_kinds), ((ad 4), eI cA 8 t_now_pitches), ((ad 13), e_X0 (ad 14) (ad 15) (ad 16)), ((ad 14), eI cA 8 t_shelves_holding), ((ad 15), eI cA 8 t_shelves_sizes), ((ad 16), eJ cA 320 t_shelves_elements), ((ad 19), eI cA 5 x.2.2.2.1), ((ad 20), e_X3 (ad 21) o2.2.1), ((ad 21), eI cA 13 o2.2.2), ((ad 24), e_X4 (ad 25) x.2.2.2.2.2.2.1), ((ad 25), eI cA 12 x.2.2.2.2.2.2.2)]) (va_runV (As := [.int (t_now 0), .int x.2.2.1]) (rest := []) ⟨hx, hb, hml, hown, htg⟩ (c_X5_voicesOfYes l D cA _ fu ad t t_now t_now_kinds t_now_pitches x.2.2.2.2.1 x.2.2.2.2.2.1 x.2.2.2.2.2.2.1 x.2.2.2.2.2.2.2 (t_now 0) x.2.2.1 o2 ho3) (cwV 2 htg (gV q_4_31 q_4_33 q_p4_7 q_1_1 q_4_34) rfl rfl rfl hd_X5_voicesOfYes ⟨Nat.le_of_ble_eq_true rfl, Nat.le_of_ble_eq_true rfl⟩) (xpV hN hK hP hD [0, 1, 2, 3, 9, 10, 11, 12] rfl (by decide) rfl rfl) rfl rfl hl.1 rfl (lv_room (Nat.le_of_ble_eq_true rfl)) dX5_fairest_52 ⟨Nat.zero_le _, Nat.zero_le _⟩) hP hD hS hA [0, 1, 2, 3, 9, 10, 11, 12] [4, 5, 6, 7, 8] [5, 6, 7, 8, 0, 1, 2, 3, 4, 9, 10, 11, 12] rfl rfl (by decide) (by decide) rfl (by decide) (fun H locs hP hD hS => ?_)
        obtain ⟨o4, ho5, hm⟩ := bd_s hm
        refine xr_i (wr := [((ad 0), e_X5 ad t), ((ad 1), e_X1 (ad 2) (ad 3) (ad 4) t_now), ((ad 2), eI cA 8 t_now_kinds), ((ad 4), eI cA 8 t_now_pitches), ((ad 13), e_X0 (ad 14) (ad 15) (ad 16)), ((ad 14), eI cA 8 t_shelves_holding), ((ad 15), eI cA 8 t_shelves_sizes), ((ad 16), eJ cA 320 t_shelves_elements), ((ad 19), eI cA 5 x.2.2.2.1), ((ad 20), e_X3 (ad 21) o2.2.1), ((ad 21), eI cA 13 o2.2.2), ((ad 24), e_X4 (ad 25) x.2.2.2.2.2.2.1), ((ad 25), eI cA 12 x.2.2.2.2.2.2.2)]) (wn := [((ad 0), e_X5 ad t), ((ad 1), e_X1 (ad 2) (ad 3) (ad 4) t_now), ((ad 2), eI cA 8 t_now_kinds), ((ad 4), eI cA 8 t_now_pitches), ((ad 13), e_X0 (ad 14) (ad 15) (ad 16)), ((ad 14), eI cA 8 t_shelves_holding), ((ad 15), eI cA 8 t_shelves_sizes), ((ad 16), eJ cA 320 t_shelves_elements), ((ad 19), eI cA 5 x.2.2.2.1), ((ad 20), e_X3 (ad 21) o2.2.1), ((ad 21), eI cA 13 o2.2.2), ((ad 24), e_X4 (ad 25) x.2.2.2.2.2.2.1), ((ad 25), eI cA 12 x.2.2.2.2.2.2.2)]) (va_runS (As := [.int o2.1]) (rest := []) ⟨hx, hb, hml, hown, htg⟩ (c_J6_bitCount_0f7a4 l D cA _ fu o2.1 o4 ho5) ⟨callB_of 1 htg (gU q_4_49) rfl rfl rfl (htg _ q_1_16) (htg _ q_4_47) hd_J6_bitCount_0f7a4.2 ⟨Nat.le_of_ble_eq_true rfl, Nat.le_of_ble_eq_true rfl⟩, htg _ q_4_48⟩ (xpS hN hK hP hD [] rfl (by decide)) rfl rfl hl.1 rfl (lv_room (Nat.le_of_ble_eq_true rfl)) dX5_fairest_55 ⟨Nat.zero_le _, Nat.zero_le _⟩) hP hD hS hA [] [0, 1, 2, 3, 4, 5, 6, 7, 8, 9, 10, 11, 12] [0, 1, 2, 3, 4, 5, 6, 7, 8, 9, 10, 11, 12] rfl rfl (by decide) (by decide) rfl (by decide) (fun H locs hP hD hS => ?_)
        refine lv_istore (lv' := [(7, .int o4.1), (0, .ref (ad 0)), (4, .int x.1), (5, .int x.2.1), (6, .int x.2.2.1)]) hx hb dX5_fairest_58 hl (by decide) rfl (fun ls hl => ?_)
        refine lv_iload hx hb dX5_fairest_60 (lv_at hl 0 rfl) ?_
        refine lv_iload hx hb dX5_fairest_62 (lv_at hl 3 rfl) ?_
        refine lv_icmp_le (tgt := 75) hx hb dX5_fairest_64 (by decide) (fun c6 => ?_) (fun c6 => ?_)
        · have hm := it_t c6 hm
          exact B_75 _ HK_35 _ _ _ _ _ _ _ _ _ _ _ hm hP hD hS (lv_sub hl [1, 2, 3, 4] rfl)
        · have hm := it_f c6 hm
          refine lv_iload hx hb dX5_fairest_67 (lv_at hl 0 rfl) ?_
          refine lv_istore (lv' := [(5, .int o4.1), (7, .int o4.1), (0, .ref (ad 0)), (4, .int x.1), (6, .int x.2.2.1)]) hx hb dX5_fairest_69 hl (by decide) rfl (fun ls hl => ?_)
          refine lv_iload hx hb dX5_fairest_71 (lv_at hl 4 rfl) ?_
          refine lv_istore (lv' := [(4, .int x.2.2.1), (5, .int o4.1), (7, .int o4.1), (0, .ref (ad 0)), (6, .int x.2.2.1)]) hx hb dX5_fairest_73 hl (by decide) rfl (fun ls hl => ?_)
          exact B_75 _ HK_35 _ _ _ _ _ _ _ _ _ _ _ hm hP hD hS (lv_sub hl [3, 0, 1, 4] rfl)
  unfold m_X5_fairest at hm
  subst hargs
  have hl := lv_entry ([.ref (ad 0), .int l1, .int l2]) (n := 8) (Nat.le_of_ble_eq_true rfl)
  rw [lg_entry_eq]
  generalize (lg_sl ([.ref (ad 0), .int l1, .int l2]) ++ List.replicate (8 - (lg_sl ([.ref (ad 0), .int l1, .int l2])).length) Slot.unset).toArray = ls at hl ⊢
  have hl : lv_has ls 8 [(0, .ref (ad 0)), (1, .int l1), (2, .int l2)] := hl
  refine lv_aload_n hx hb dX5_fairest_0 rfl (lv_at hl 0 rfl) ?_
  refine lv_iload_n hx hb dX5_fairest_1 rfl (lv_at hl 1 rfl) ?_
  refine lv_iload_n hx hb dX5_fairest_2 rfl (lv_at hl 2 rfl) ?_
  refine lv_iconst (v := (1 : Int32)) hx hb dX5_fairest_3 (by decide) ?_
  obtain ⟨o7, ho8, hm⟩ := bd_s hm
  refine xr_i (wr := [((ad 1), e_X1 (ad 2) (ad 3) (ad 4) t_now), ((ad 2), eI cA 8 t_now_kinds), ((ad 4), eI cA 8 t_now_pitches), ((ad 20), e_X3 (ad 21) t_trial), ((ad 21), eI cA 13 t_trial_heard)]) (wn := [((ad 0), e_X5 ad t), ((ad 1), e_X1 (ad 2) (ad 3) (ad 4) t_now), ((ad 2), eI cA 8 t_now_kinds), ((ad 4), eI cA 8 t_now_pitches), ((ad 13), e_X0 (ad 14) (ad 15) (ad 16)), ((ad 14), eI cA 8 t_shelves_holding), ((ad 15), eI cA 8 t_shelves_sizes), ((ad 16), eJ cA 320 t_shelves_elements), ((ad 19), eI cA 5 o7.2.1), ((ad 20), e_X3 (ad 21) t_trial), ((ad 21), eI cA 13 t_trial_heard), ((ad 24), e_X4 (ad 25) o7.2.2.1), ((ad 25), eI cA 12 o7.2.2.2)]) (va_runV (As := [.int l1, .int l2, .int (1 : Int32)]) (rest := []) ⟨hx, hb, hml, hown, htg⟩ (c_X5_takeWord l D cA _ fu ad t t_shelves_holding t_shelves_sizes t_shelves_elements t_refusals t_told t_told_sounds l1 l2 (1 : Int32) o7 ho8) (cwV 3 htg (gV q_3_126 q_3_128 q_p3_12 q_1_1 q_3_129) rfl rfl rfl hd_X5_takeWord ⟨Nat.le_of_ble_eq_true rfl, Nat.le_of_ble_eq_true rfl⟩) (xpV hN hK hP hD [0, 4, 5, 6, 7, 8, 11, 12] rfl (by decide) rfl rfl) rfl rfl hl.1 rfl (lv_room (Nat.le_of_ble_eq_true rfl)) dX5_fairest_4 ⟨Nat.zero_le _, Nat.zero_le _⟩) hP hD hS hA [0, 4, 5, 6, 7, 8, 11, 12] [1, 2, 3, 9, 10] [5, 0, 1, 2, 6, 7, 8, 9, 10, 3, 4, 11, 12] rfl rfl (by decide) (by decide) rfl (by decide) (fun H locs hP hD hS => ?_)
  refine lv_istore_n (lv' := [(3, .int o7.1), (0, .ref (ad 0)), (1, .int l1), (2, .int l2)]) hx hb dX5_fairest_7 rfl hl (by decide) rfl (fun ls hl => ?_)
  refine lv_iload_n hx hb dX5_fairest_8 rfl (lv_at hl 0 rfl) ?_
  refine lv_if_eq (tgt := 14) hx hb dX5_fairest_9 (by decide) (fun c9 => ?_) (fun c9 => ?_)
  · have hm := it_t c9 hm
    refine lv_iconst (v := (-1 : Int32)) hx hb dX5_fairest_14 (by decide) ?_
    refine lv_istore (lv' := [(4, .int (-1 : Int32)), (3, .int o7.1), (0, .ref (ad 0)), (1, .int l1), (2, .int l2)]) hx hb dX5_fairest_15 hl (by decide) rfl (fun ls hl => ?_)
    refine lv_iconst (v := (-1 : Int32)) hx hb dX5_fairest_17 (by decide) ?_
    refine lv_istore (lv' := [(5, .int (-1 : Int32)), (4, .int (-1 : Int32)), (3, .int o7.1), (0, .ref (ad 0)), (1, .int l1), (2, .int l2)]) hx hb dX5_fairest_18 hl (by decide) rfl (fun ls hl => ?_)
    refine lv_iconst (v := (2 : Int32)) hx hb dX5_fairest_20 (by decide) ?_
    refine lv_aload_n hx hb dX5_fairest_21 rfl (lv_at hl 3 rfl) ?_
    refine va_get (D := D) (ci := 5) (v := .ref (ad 1)) (C := RX5) (T := TX5) (N := 17) hx hb htg inX5 hown hK hP 0 rfl rfl 0 (by decide) (htg _ q_1_188) (fun _ h9 => h9) rfl dX5_fairest_22 ?_
    refine va_getN (D := D) (ci := 1) (v := .int (t_now 4)) (C := RX1) (T := TX1) (N := 12) hx hb htg inX1 hown hK hP 1 rfl rfl 4 (by decide) (va_Nw.use rfl (hN _ q_1_50)) (fun _ h9 => h9) rfl dX5_fairest_25 ?_
    refine lv_iconst (v := (1 : Int32)) hx hb dX5_fairest_28 (by decide) ?_
    refine lv_iadd hx hb dX5_fairest_29 ?_
    refine va_mmax hx hb (hml.trans hl.1.symm) hown (htg _ q_3_158) (htg _ q_3_159) (htg _ q_1_14) (htg _ q_3_160) (Nat.le_of_ble_eq_true rfl) (Nat.le_of_ble_eq_true rfl) (Nat.zero_le _) (Nat.zero_le _) dX5_fairest_30 ?_
    obtain ⟨v10, hv11, hm⟩ := bd_s hm
    rw [Option.some.inj hv11]
    refine lv_istore (lv' := [(6, .int v10), (5, .int (-1 : Int32)), (4, .int (-1 : Int32)), (3, .int o7.1), (0, .ref (ad 0)), (1, .int l1), (2, .int l2)]) hx hb dX5_fairest_33 hl (by decide) rfl (fun ls hl => ?_)
    exact B_35 fu _ _ _ _ hm hP hD hS (lv_sub hl [4, 2, 1, 0] rfl)
  · have hm := it_f c9 hm
    refine lv_iload_n hx hb dX5_fairest_12 rfl (lv_at hl 0 rfl) ?_
    rw [hQ]
    exact W.iret (v := o7.1) hx hb hr (fun t9 ht hW => ⟨⟨o7.1, (o7.2.1, t_trial, t_trial_heard, o7.2.2.1, o7.2.2.2), rfl, (Option.some.inj hm), by rw [ht]; exact hP, va_K.moved hW.alike hK, hD⟩, hS.F ht⟩) hS.2.2 dX5_fairest_13
def b_X5_best_88 (fu : Nat) (t : Nat → Int32) (t_now : Nat → Int32) (t_now_kinds : Nat → Int32) (t_now_pitches : Nat → Int32) (t_shelves_holding : Nat → Int32) (t_shelves_sizes : Nat → Int32) (t_shelves_elements : Nat → Int64) (s0 : Int32) (t_refusals : Nat → Int32) (t_trial : Nat → Int32) (t_trial_heard : Nat → Int32) (t_told : Nat → Int32) (t_told_sounds : Nat → Int32) : Option (Int32 × ((Nat → Int32) × (Nat → Int32) × (Nat → Int32) × (Nat → Int32) × (Nat → Int32))) :=
  some (s0, (t_refusals, t_trial, t_trial_heard, t_told, t_told_sounds))
def b_X5_best_71 (fu : Nat) (t : Nat → Int32) (t_now : Nat → Int32) (t_now_kinds : Nat → Int32) (t_now_pitches : Nat → Int32) (t_shelves_holding : Nat → Int32) (t_shelves_sizes : Nat → Int32) (t_shelves_elements : Nat → Int64) (k_31 : (Int32 × Int32 × Int32 × Int32 × (Nat → Int32) × (Nat → Int32) × (Nat → Int32) × (Nat → Int32) × (Nat → Int32)) → Option (Int32 × ((Nat → Int32) × (Nat → Int32) × (Nat → Int32) × (Nat → Int32) × (Nat → Int32)))) (l3 : Int32) (l5 : Int32) (l6 : Int32) (l7 : Int32) (t_refusals : Nat → Int32) (t_trial : Nat → Int32) (t_trial_heard : Nat → Int32) (t_told : Nat → Int32) (t_told_sounds : Nat → Int32) : Option (Int32 × ((Nat → Int32) × (Nat → Int32) × (Nat → Int32) × (Nat → Int32) × (Nat → Int32))) :=
  k_31 (l3, l5, l6, (l7 + (1 : Int32)), t_refusals, t_trial, t_trial_heard, t_told, t_told_sounds)
def b_X5_best_31 (fu : Nat) (t : Nat → Int32) (t_now : Nat → Int32) (t_now_kinds : Nat → Int32) (t_now_pitches : Nat → Int32) (t_shelves_holding : Nat → Int32) (t_shelves_sizes : Nat → Int32) (t_shelves_elements : Nat → Int64) (k_31 : (Int32 × Int32 × Int32 × Int32 × (Nat → Int32) × (Nat → Int32) × (Nat → Int32) × (Nat → Int32) × (Nat → Int32)) → Option (Int32 × ((Nat → Int32) × (Nat → Int32) × (Nat → Int32) × (Nat → Int32) × (Nat → Int32)))) (x : Int32 × Int32 × Int32 × Int32 × (Nat → Int32) × (Nat → Int32) × (Nat → Int32) × (Nat → Int32) × (Nat → Int32)) : Option (Int32 × ((Nat → Int32) × (Nat → Int32) × (Nat → Int32) × (Nat → Int32) × (Nat → Int32))) :=
  (if (40 : Int32) < x.2.2.2.1 then
        (if x.1 = 0 then
          b_X5_best_88 fu t t_now t_now_kinds t_now_pitches t_shelves_holding t_shelves_sizes t_shelves_elements x.2.1 x.2.2.2.2.1 x.2.2.2.2.2.1 x.2.2.2.2.2.2.1 x.2.2.2.2.2.2.2.1 x.2.2.2.2.2.2.2.2
        else
          b_X5_best_88 fu t t_now t_now_kinds t_now_pitches t_shelves_holding t_shelves_sizes t_shelves_elements x.2.2.1 x.2.2.2.2.1 x.2.2.2.2.2.1 x.2.2.2.2.2.2.1 x.2.2.2.2.2.2.2.1 x.2.2.2.2.2.2.2.2)
      else
        (m_X5_voicesOfYes fu t t_now t_now_kinds t_now_pitches x.2.2.2.2.2.1 x.2.2.2.2.2.2.1 x.2.2.2.2.2.2.2.1 x.2.2.2.2.2.2.2.2 x.2.2.2.1 (t_now 3)).bind fun o3 =>
        (m_J6_bitCount_0f7a4 fu o3.1).bind fun o5 =>
        (if o5.1 ≤ x.2.2.1 then
          b_X5_best_71 fu t t_now t_now_kinds t_now_pitches t_shelves_holding t_shelves_sizes t_shelves_elements k_31 x.1 x.2.1 x.2.2.1 x.2.2.2.1 x.2.2.2.2.1 o3.2.1 o3.2.2 x.2.2.2.2.2.2.2.1 x.2.2.2.2.2.2.2.2
        else
          b_X5_best_71 fu t t_now t_now_kinds t_now_pitches t_shelves_holding t_shelves_sizes t_shelves_elements k_31 x.1 x.2.2.2.1 o5.1 x.2.2.2.1 x.2.2.2.2.1 o3.2.1 o3.2.2 x.2.2.2.2.2.2.2.1 x.2.2.2.2.2.2.2.2))
def m_X5_best (fu : Nat) (t : Nat → Int32) (t_now : Nat → Int32) (t_now_kinds : Nat → Int32) (t_now_pitches : Nat → Int32) (t_shelves_holding : Nat → Int32) (t_shelves_sizes : Nat → Int32) (t_shelves_elements : Nat → Int64) (t_refusals : Nat → Int32) (t_trial : Nat → Int32) (t_trial_heard : Nat → Int32) (t_told : Nat → Int32) (t_told_sounds : Nat → Int32) (l1 : Int32) (l2 : Int32) (l3 : Int32) : Option (Int32 × ((Nat → Int32) × (Nat → Int32) × (Nat → Int32) × (Nat → Int32) × (Nat → Int32))) :=
  (m_X5_isWithin fu l3 (0 : Int32) (1 : Int32)).bind fun o8 =>
  (m_X5_takeWord fu t t_shelves_holding t_shelves_sizes t_shelves_elements t_refusals t_told t_told_sounds l1 l2 o8.1).bind fun o10 =>
  (if o10.1 = 0 then
    lfix (b_X5_best_31 fu t t_now t_now_kinds t_now_pitches t_shelves_holding t_shelves_sizes t_shelves_elements) fu (l3, (-1 : Int32), (-1 : Int32), (0 : Int32), o10.2.1, t_trial, t_trial_heard, o10.2.2.1, o10.2.2.2)
  else
    some (o10.1, (o10.2.1, t_trial, t_trial_heard, o10.2.2.1, o10.2.2.2)))
abbrev rm_X5_best : Room := ({ frames := 6, cells := 0, slots := 0, locals := 138 } : Room)
abbrev w0_X5_best (cA : Nat → ClassId) (ad : Nat → Nat) (t : Nat → Int32) (t_now : Nat → Int32) (t_now_kinds : Nat → Int32) (t_now_pitches : Nat → Int32) (t_shelves_holding : Nat → Int32) (t_shelves_sizes : Nat → Int32) (t_shelves_elements : Nat → Int64) (t_refusals : Nat → Int32) (t_trial : Nat → Int32) (t_trial_heard : Nat → Int32) (t_told : Nat → Int32) (t_told_sounds : Nat → Int32) : va_W := [((ad 0), e_X5 ad t), ((ad 1), e_X1 (ad 2) (ad 3) (ad 4) t_now), ((ad 2), eI cA 8 t_now_kinds), ((ad 4), eI cA 8 t_now_pitches), ((ad 13), e_X0 (ad 14) (ad 15) (ad 16)), ((ad 14), eI cA 8 t_shelves_holding), ((ad 15), eI cA 8 t_shelves_sizes), ((ad 16), eJ cA 320 t_shelves_elements), ((ad 19), eI cA 5 t_refusals), ((ad 20), e_X3 (ad 21) t_trial), ((ad 21), eI cA 13 t_trial_heard), ((ad 24), e_X4 (ad 25) t_told), ((ad 25), eI cA 12 t_told_sounds)]
abbrev w1_X5_best (cA : Nat → ClassId) (ad : Nat → Nat) (t : Nat → Int32) (t_now : Nat → Int32) (t_now_kinds : Nat → Int32) (t_now_pitches : Nat → Int32) (t_shelves_holding : Nat → Int32) (t_shelves_sizes : Nat → Int32) (t_shelves_elements : Nat → Int64) (u : (Nat → Int32) × (Nat → Int32) × (Nat → Int32) × (Nat → Int32) × (Nat → Int32)) : va_W := [((ad 0), e_X5 ad t), ((ad 1), e_X1 (ad 2) (ad 3) (ad 4) t_now), ((ad 2), eI cA 8 t_now_kinds), ((ad 4), eI cA 8 t_now_pitches), ((ad 13), e_X0 (ad 14) (ad 15) (ad 16)), ((ad 14), eI cA 8 t_shelves_holding), ((ad 15), eI cA 8 t_shelves_sizes), ((ad 16), eJ cA 320 t_shelves_elements), ((ad 19), eI cA 5 u.1), ((ad 20), e_X3 (ad 21) u.2.1), ((ad 21), eI cA 13 u.2.2.1), ((ad 24), e_X4 (ad 25) u.2.2.2.1), ((ad 25), eI cA 12 u.2.2.2.2)]
theorem hd_X5_best : yX5_best.cls = RX5 ∧ yX5_best.cls ≠ "java/lang/invoke/MethodHandle" ∧ yX5_best.cls ≠ "java/lang/invoke/VarHandle" ∧ (parseMethodDescriptor yX5_best.desc).map (fun d => d.parameters.length) = some 3 := by decide +kernel
set_option maxHeartbeats 40000000 in
set_option maxRecDepth 100000 in
theorem c_X5_best (l : Launch) (D : va_G) (cA : Nat → ClassId) (sz : Nat) (fu : Nat) (ad : Nat → Nat) (t : Nat → Int32) (t_now : Nat → Int32) (t_now_kinds : Nat → Int32) (t_now_pitches : Nat → Int32) (t_shelves_holding : Nat → Int32) (t_shelves_sizes : Nat → Int32) (t_shelves_elements : Nat → Int64) (t_refusals : Nat → Int32) (t_trial : Nat → Int32) (t_trial_heard : Nat → Int32) (t_told : Nat → Int32) (t_told_sounds : Nat → Int32) (l1 : Int32) (l2 : Int32) (l3 : Int32) (out : Int32 × ((Nat → Int32) × (Nat → Int32) × (Nat → Int32) × (Nat → Int32) × (Nat → Int32))) (hm : m_X5_best fu t t_now t_now_kinds t_now_pitches t_shelves_holding t_shelves_sizes t_shelves_elements t_refusals t_trial t_trial_heard t_told t_told_sounds l1 l2 l3 = some out) : MI l yX5_best (wU yX5_best cX5_best 9 ((Option.some Jvm.ClassFile.FieldType.int))) rm_X5_best D cA sz [.ref (ad 0), .int l1, .int l2, .int l3] (w0_X5_best cA ad t t_now t_now_kinds t_now_pitches t_shelves_holding t_shelves_sizes t_shelves_elements t_refusals t_trial t_trial_heard t_told t_told_sounds) out (w1_X5_best cA ad t t_now t_now_kinds t_now_pitches t_shelves_holding t_shelves_sizes t_shelves_elements) := by
  refine Met.ofW (cc := cX5_best) (maxL := 9) (ret := (Option.some Jvm.ClassFile.FieldType.int)) (by decide) rfl ?_
  intro p e s m args below meth c s₁ B hml hv
  obtain ⟨hargs, hsz, hP, hK, hD0, hN⟩ := hv
  have hx := B.exec
  have hb := B.bytes
  have hr := B.returns
  have htg : ∀ w ∈ gw, w.before args s = true := fun w h => atoms_spec (ws := wU yX5_best cX5_best 9 ((Option.some Jvm.ClassFile.FieldType.int))) B.pre w (List.mem_cons_of_mem _ h)
  have hown : s.vm.findClass RX5 = some m.cls := findClass_of_methodNamed B.named
  have hlocks := B.notSynchronized
  subst hsz
  have hD := hD0.self (sz := s.heap.size)
  have hA : ∀ q : Nat, s.heap.size ≤ q → va_A (w0_X5_best cA ad t t_now t_now_kinds t_now_pitches t_shelves_holding t_shelves_sizes t_shelves_elements t_refusals t_trial t_trial_heard t_told t_told_sounds) s.heap.size q := fun q h => Or.inr h
  have hS : va_S (va_A (w0_X5_best cA ad t t_now t_now_kinds t_now_pitches t_shelves_holding t_shelves_sizes t_shelves_elements t_refusals t_trial t_trial_heard t_told t_told_sounds) s.heap.size) s.heap s.heap [] := va_S.rf
  generalize va_A (w0_X5_best cA ad t t_now t_now_kinds t_now_pitches t_shelves_holding t_shelves_sizes t_shelves_elements t_refusals t_trial t_trial_heard t_told t_told_sounds) s.heap.size = A at hA hD hS ⊢
  obtain ⟨Q, hQ⟩ : ∃ Q : State → Prop, Q = MQ below (va_Qi (fun (r : Int32) (u : (Nat → Int32) × (Nat → Int32) × (Nat → Int32) × (Nat → Int32) × (Nat → Int32)) => (r, u) = out) (pst0 D cA A (w1_X5_best cA ad t t_now t_now_kinds t_now_pitches t_shelves_holding t_shelves_sizes t_shelves_elements)) A) args s 0 0 A := ⟨_, rfl⟩
  refine (?_ : W p l e rm_X5_best s m args below meth c s.heap [] 0 0 (MQ below (va_Qi (fun (r : Int32) (u : (Nat → Int32) × (Nat → Int32) × (Nat → Int32) × (Nat → Int32) × (Nat → Int32)) => (r, u) = out) (pst0 D cA A (w1_X5_best cA ad t t_now t_now_kinds t_now_pitches t_shelves_holding t_shelves_sizes t_shelves_elements)) A) args s 0 0 A) (entryFrame m args 9))
  rw [← hQ]
  have hP : va_P D CL [((ad 0), e_X5 ad t), ((ad 1), e_X1 (ad 2) (ad 3) (ad 4) t_now), ((ad 2), eI cA 8 t_now_kinds), ((ad 4), eI cA 8 t_now_pitches), ((ad 13), e_X0 (ad 14) (ad 15) (ad 16)), ((ad 14), eI cA 8 t_shelves_holding), ((ad 15), eI cA 8 t_shelves_sizes), ((ad 16), eJ cA 320 t_shelves_elements), ((ad 19), eI cA 5 t_refusals), ((ad 20), e_X3 (ad 21) t_trial), ((ad 21), eI cA 13 t_trial_heard), ((ad 24), e_X4 (ad 25) t_told), ((ad 25), eI cA 12 t_told_sounds)] s.heap := hP
  have hD : va_D A [((ad 0), e_X5 ad t), ((ad 1), e_X1 (ad 2) (ad 3) (ad 4) t_now), ((ad 2), eI cA 8 t_now_kinds), ((ad 4), eI cA 8 t_now_pitches), ((ad 13), e_X0 (ad 14) (ad 15) (ad 16)), ((ad 14), eI cA 8 t_shelves_holding), ((ad 15), eI cA 8 t_shelves_sizes), ((ad 16), eJ cA 320 t_shelves_elements), ((ad 19), eI cA 5 t_refusals), ((ad 20), e_X3 (ad 21) t_trial), ((ad 21), eI cA 13 t_trial_heard), ((ad 24), e_X4 (ad 25) t_told), ((ad 25), eI cA 12 t_told_sounds)] := hD
  have B_88 : ∀ (s0 : Int32) (t_refusals : Nat → Int32) (t_trial : Nat → Int32) (t_trial_heard : Nat → Int32) (t_told : Nat → Int32) (t_told_sounds : Nat → Int32) (H : Heap) (locs : List Loc) (ls : Array Slot), b_X5_best_88 fu t t_now t_now_kinds t_now_pitches t_shelves_holding t_shelves_sizes t_shelves_elements s0 t_refusals t_trial t_trial_heard t_told t_told_sounds = some out → va_P D CL [((ad 0), e_X5 ad t), ((ad 1), e_X1 (ad 2) (ad 3) (ad 4) t_now), ((ad 2), eI cA 8 t_now_kinds), ((ad 4), eI cA 8 t_now_pitches), ((ad 13), e_X0 (ad 14) (ad 15) (ad 16)), ((ad 14), eI cA 8 t_shelves_holding), ((ad 15), eI cA 8 t_shelves_sizes), ((ad 16), eJ cA 320 t_shelves_elements), ((ad 19), eI cA 5 t_refusals), ((ad 20), e_X3 (ad 21) t_trial), ((ad 21), eI cA 13 t_trial_heard), ((ad 24), e_X4 (ad 25) t_told), ((ad 25), eI cA 12 t_told_sounds)] H → va_D A [((ad 0), e_X5 ad t), ((ad 1), e_X1 (ad 2) (ad 3) (ad 4) t_now), ((ad 2), eI cA 8 t_now_kinds), ((ad 4), eI cA 8 t_now_pitches), ((ad 13), e_X0 (ad 14) (ad 15) (ad 16)), ((ad 14), eI cA 8 t_shelves_holding), ((ad 15), eI cA 8 t_shelves_sizes), ((ad 16), eJ cA 320 t_shelves_elements), ((ad 19), eI cA 5 t_refusals), ((ad 20), e_X3 (ad 21) t_trial), ((ad 21), eI cA 13 t_trial_heard), ((ad 24), e_X4 (ad 25) t_told), ((ad 25), eI cA 12 t_told_sounds)] → va_S A s.heap H locs → lv_has ls 9 [(0, .ref (ad 0))] → W p l e rm_X5_best s m args below meth c H locs 0 0 Q (F0 m 88 ls [.int s0]) := by
    intro  s0 t_refusals t_trial t_trial_heard t_told t_told_sounds H locs ls hm hP hD hS hl
    unfold b_X5_best_88 at hm
    rw [hQ]
    exact W.iret (v := s0) hx hb hr (fun t9 ht hW => ⟨⟨s0, (t_refusals, t_trial, t_trial_heard, t_told, t_told_sounds), rfl, (Option.some.inj hm), by rw [ht]; exact hP, va_K.moved hW.alike hK, hD⟩, hS.F ht⟩) hS.2.2 dX5_best_88
  have B_71 : ∀ (k_31 : (Int32 × Int32 × Int32 × Int32 × (Nat → Int32) × (Nat → Int32) × (Nat → Int32) × (Nat → Int32) × (Nat → Int32)) → Option (Int32 × ((Nat → Int32) × (Nat → Int32) × (Nat → Int32) × (Nat → Int32) × (Nat → Int32)))) (HK_31 : ∀ (x : Int32 × Int32 × Int32 × Int32 × (Nat → Int32) × (Nat → Int32) × (Nat → Int32) × (Nat → Int32) × (Nat → Int32)) (H : Heap) (locs : List Loc) (ls : Array Slot), k_31 x = some out → va_P D CL [((ad 0), e_X5 ad t), ((ad 1), e_X1 (ad 2) (ad 3) (ad 4) t_now), ((ad 2), eI cA 8 t_now_kinds), ((ad 4), eI cA 8 t_now_pitches), ((ad 13), e_X0 (ad 14) (ad 15) (ad 16)), ((ad 14), eI cA 8 t_shelves_holding), ((ad 15), eI cA 8 t_shelves_sizes), ((ad 16), eJ cA 320 t_shelves_elements), ((ad 19), eI cA 5 x.2.2.2.2.1), ((ad 20), e_X3 (ad 21) x.2.2.2.2.2.1), ((ad 21), eI cA 13 x.2.2.2.2.2.2.1), ((ad 24), e_X4 (ad 25) x.2.2.2.2.2.2.2.1), ((ad 25), eI cA 12 x.2.2.2.2.2.2.2.2)] H → va_D A [((ad 0), e_X5 ad t), ((ad 1), e_X1 (ad 2) (ad 3) (ad 4) t_now), ((ad 2), eI cA 8 t_now_kinds), ((ad 4), eI cA 8 t_now_pitches), ((ad 13), e_X0 (ad 14) (ad 15) (ad 16)), ((ad 14), eI cA 8 t_shelves_holding), ((ad 15), eI cA 8 t_shelves_sizes), ((ad 16), eJ cA 320 t_shelves_elements), ((ad 19), eI cA 5 x.2.2.2.2.1), ((ad 20), e_X3 (ad 21) x.2.2.2.2.2.1), ((ad 21), eI cA 13 x.2.2.2.2.2.2.1), ((ad 24), e_X4 (ad 25) x.2.2.2.2.2.2.2.1), ((ad 25), eI cA 12 x.2.2.2.2.2.2.2.2)] → va_S A s.heap H locs → lv_has ls 9 [(0, .ref (ad 0)), (3, .int x.1), (5, .int x.2.1), (6, .int x.2.2.1), (7, .int x.2.2.2.1)] → W p l e rm_X5_best s m args below meth c H locs 0 0 Q (F0 m 31 ls [])) (l3 : Int32) (l5 : Int32) (l6 : Int32) (l7 : Int32) (t_refusals : Nat → Int32) (t_trial : Nat → Int32) (t_trial_heard : Nat → Int32) (t_told : Nat → Int32) (t_told_sounds : Nat → Int32) (H : Heap) (locs : List Loc) (ls : Array Slot), b_X5_best_71 fu t t_now t_now_kinds t_now_pitches t_shelves_holding t_shelves_sizes t_shelves_elements k_31 l3 l5 l6 l7 t_refusals t_trial t_trial_heard t_told t_told_sounds = some out → va_P D CL [((ad 0), e_X5 ad t), ((ad 1), e_X1 (ad 2) (ad 3) (ad 4) t_now), ((ad 2), eI cA 8 t_now_kinds), ((ad 4), eI cA 8 t_now_pitches), ((ad 13), e_X0 (ad 14) (ad 15) (ad 16)), ((ad 14), eI cA 8 t_shelves_holding), ((ad 15), eI cA 8 t_shelves_sizes), ((ad 16), eJ cA 320 t_shelves_elements), ((ad 19), eI cA 5 t_refusals), ((ad 20), e_X3 (ad 21) t_trial), ((ad 21), eI cA 13 t_trial_heard), ((ad 24), e_X4 (ad 25) t_told), ((ad 25), eI cA 12 t_told_sounds)] H → va_D A [((ad 0), e_X5 ad t), ((ad 1), e_X1 (ad 2) (ad 3) (ad 4) t_now), ((ad 2), eI cA 8 t_now_kinds), ((ad 4), eI cA 8 t_now_pitches), ((ad 13), e_X0 (ad 14) (ad 15) (ad 16)), ((ad 14), eI cA 8 t_shelves_holding), ((ad 15), eI cA 8 t_shelves_sizes), ((ad 16), eJ cA 320 t_shelves_elements), ((ad 19), eI cA 5 t_refusals), ((ad 20), e_X3 (ad 21) t_trial), ((ad 21), eI cA 13 t_trial_heard), ((ad 24), e_X4 (ad 25) t_told), ((ad 25), eI cA 12 t_told_sounds)] → va_S A s.heap H locs → lv_has ls 9 [(0, .ref (ad 0)), (3, .int l3), (5, .int l5), (6, .int l6), (7, .int l7)] → W p l e rm_X5_best s m args below meth c H locs 0 0 Q (F0 m 71 ls []) := by
    intro k_31 HK_31 l3 l5 l6 l7 t_refusals t_trial t_trial_heard t_told t_told_sounds H locs ls hm hP hD hS hl
    unfold b_X5_best_71 at hm
    refine lv_iinc (v := (l7 + (1 : Int32))) (lv' := [(7, .int (l7 + (1 : Int32))), (0, .ref (ad 0)), (3, .int l3), (5, .int l5), (6, .int l6)]) hx hb dX5_best_71 hl (k := 4) rfl rfl (by decide) rfl (fun ls hl => ?_)
    refine lv_goto (tgt := 31) hx hb dX5_best_74 (by decide) ?_
    exact HK_31 _ _ _ _ hm hP hD hS (lv_sub hl [1, 2, 3, 4, 0] rfl)
  have B_31 : ∀ (n : Nat) (x : Int32 × Int32 × Int32 × Int32 × (Nat → Int32) × (Nat → Int32) × (Nat → Int32) × (Nat → Int32) × (Nat → Int32)) (H : Heap) (locs : List Loc) (ls : Array Slot), lfix (b_X5_best_31 fu t t_now t_now_kinds t_now_pitches t_shelves_holding t_shelves_sizes t_shelves_elements) n x = some out → va_P D CL [((ad 0), e_X5 ad t), ((ad 1), e_X1 (ad 2) (ad 3) (ad 4) t_now), ((ad 2), eI cA 8 t_now_kinds), ((ad 4), eI cA 8 t_now_pitches), ((ad 13), e_X0 (ad 14) (ad 15) (ad 16)), ((ad 14), eI cA 8 t_shelves_holding), ((ad 15), eI cA 8 t_shelves_sizes), ((ad 16), eJ cA 320 t_shelves_elements), ((ad 19), eI cA 5 x.2.2.2.2.1), ((ad 20), e_X3 (ad 21) x.2.2.2.2.2.1), ((ad 21), eI cA 13 x.2.2.2.2.2.2.1), ((ad 24), e_X4 (ad 25) x.2.2.2.2.2.2.2.1), ((ad 25), eI cA 12 x.2.2.2.2.2.2.2.2)] H → va_D A [((ad 0), e_X5 ad t), ((ad 1), e_X1 (ad 2) (ad 3) (ad 4) t_now), ((ad 2), eI cA 8 t_now_kinds), ((ad 4), eI cA 8 t_now_pitches), ((ad 13), e_X0 (ad 14) (ad 15) (ad 16)), ((ad 14), eI cA 8 t_shelves_holding), ((ad 15), eI cA 8 t_shelves_sizes), ((ad 16), eJ cA 320 t_shelves_elements), ((ad 19), eI cA 5 x.2.2.2.2.1), ((ad 20), e_X3 (ad 21) x.2.2.2.2.2.1), ((ad 21), eI cA 13 x.2.2.2.2.2.2.1), ((ad 24), e_X4 (ad 25) x.2.2.2.2.2.2.2.1), ((ad 25), eI cA 12 x.2.2.2.2.2.2.2.2)] → va_S A s.heap H locs → lv_has ls 9 [(0, .ref (ad 0)), (3, .int x.1), (5, .int x.2.1), (6, .int x.2.2.1), (7, .int x.2.2.2.1)] → W p l e rm_X5_best s m args below meth c H locs 0 0 Q (F0 m 31 ls []) := by
    intro  n
    induction n with
    | zero => intro x H locs ls hm; cases (show none = some out from hm)
    | succ n HK_31 =>
      intro x H locs ls hm hP hD hS hl
      replace hm : b_X5_best_31 fu t t_now t_now_kinds t_now_pitches t_shelves_holding t_shelves_sizes t_shelves_elements (lfix (b_X5_best_31 fu t t_now t_now_kinds t_now_pitches t_shelves_holding t_shelves_sizes t_shelves_elements) n) x = some out := hm
      unfold b_X5_best_31 at hm
      refine lv_iload hx hb dX5_best_31 (lv_at hl 4 rfl) ?_
      refine lv_bipush (v := (40 : Int32)) hx hb dX5_best_33 (by decide) ?_
      refine lv_icmp_gt (tgt := 77) hx hb dX5_best_35 (by decide) (fun c1 => ?_) (fun c1 => ?_)
      · have hm := it_t c1 hm
        refine lv_iload_n hx hb dX5_best_77 rfl (lv_at hl 1 rfl) ?_
        refine lv_if_ne (tgt := 86) hx hb dX5_best_78 (by decide) (fun c2 => ?_) (fun c2 => ?_)
        · have hm := it_f c2 hm
          refine lv_iload hx hb dX5_best_86 (lv_at hl 3 rfl) ?_
          exact B_88 _ _ _ _ _ _ _ _ _ hm hP hD hS (lv_sub hl [0] rfl)
        · have hm := it_t c2 hm
          refine lv_iload hx hb dX5_best_81 (lv_at hl 2 rfl) ?_
          refine lv_goto (tgt := 88) hx hb dX5_best_83 (by decide) ?_
          exact B_88 _ _ _ _ _ _ _ _ _ hm hP hD hS (lv_sub hl [0] rfl)
      · have hm := it_f c1 hm
        refine lv_aload_n hx hb dX5_best_38 rfl (lv_at hl 0 rfl) ?_
        refine lv_iload hx hb dX5_best_39 (lv_at hl 4 rfl) ?_
        refine lv_aload_n hx hb dX5_best_41 rfl (lv_at hl 0 rfl) ?_
        refine va_get (D := D) (ci := 5) (v := .ref (ad 1)) (C := RX5) (T := TX5) (N := 17) hx hb htg inX5 hown hK hP 0 rfl rfl 0 (by decide) (htg _ q_1_188) (fun _ h9 => h9) rfl dX5_best_42 ?_
        refine va_getN (D := D) (ci := 1) (v := .int (t_now 3)) (C := RX1) (T := TX1) (N := 12) hx hb htg inX1 hown hK hP 1 rfl rfl 3 (by decide) (va_Nw.use rfl (hN _ q_1_46)) (fun _ h9 => h9) rfl dX5_best_45 ?_
        obtain ⟨o3, ho4, hm⟩ := bd_s hm
        refine xr_i (wr := [((ad 13), e_X0 (ad 14) (ad 15) (ad 16)), ((ad 14), eI cA 8 t_shelves_holding), ((ad 15), eI cA 8 t_shelves_sizes), ((ad 16), eJ cA 320 t_shelves_elements), ((ad 19), eI cA 5 x.2.2.2.2.1)]) (wn := [((ad 0), e_X5 ad t), ((ad 1), e_X1 (ad 2) (ad 3) (ad 4) t_now), ((ad 2), eI cA 8 t_now_kinds), ((ad 4), eI cA 8 t_now_pitches), ((ad 13), e_X0 (ad 14) (ad 15) (ad 16)), ((ad 14), eI cA 8 t_shelves_holding), ((ad 15), eI cA 8 t_shelves_sizes), ((ad 16), eJ cA 320 t_shelves_elements), ((ad 19), eI cA 5 x.2.2.2.2.1), ((ad 20), e_X3 (ad 21) o3.2.1), ((ad 21), eI cA 13 o3.2.2), ((ad 24), e_X4 (ad 25) x.2.2.2.2.2.2.2.1), ((ad 25), eI cA 12 x.2.2.2.2.2.2.2.2)]) (va_runV (As := [.int x.2.2.2.1, .int (t_now 3)]) (rest := []) ⟨hx, hb, hml, hown, htg⟩ (c_X5_voicesOfYes l D cA _ fu ad t t_now t_now_kinds t_now_pitches x.2.2.2.2.2.1 x.2.2.2.2.2.2.1 x.2.2.2.2.2.2.2.1 x.2.2.2.2.2.2.2.2 x.2.2.2.1 (t_now 3) o3 ho4) (cwV 2 htg (gV q_4_31 q_4_33 q_p4_7 q_1_1 q_4_34) rfl rfl rfl hd_X5_voicesOfYes ⟨Nat.le_of_ble_eq_true rfl, Nat.le_of_ble_eq_true rfl⟩) (xpV hN hK hP hD [0, 1, 2, 3, 9, 10, 11, 12] rfl (by decide) rfl rfl) rfl rfl hl.1 rfl (lv_room (Nat.le_of_ble_eq_true rfl)) dX5_best_48 ⟨Nat.zero_le _, Nat.zero_le _⟩) hP hD hS hA [0, 1, 2, 3, 9, 10, 11, 12] [4, 5, 6, 7, 8] [5, 6, 7, 8, 0, 1, 2, 3, 4, 9, 10, 11, 12] rfl rfl (by decide) (by decide) rfl (by decide) (fun H locs hP hD hS => ?_)
        obtain ⟨o5, ho6, hm⟩ := bd_s hm
        refine xr_i (wr := [((ad 0), e_X5 ad t), ((ad 1), e_X1 (ad 2) (ad 3) (ad 4) t_now), ((ad 2), eI cA 8 t_now_kinds), ((ad 4), eI cA 8 t_now_pitches), ((ad 13), e_X0 (ad 14) (ad 15) (ad 16)), ((ad 14), eI cA 8 t_shelves_holding), ((ad 15), eI cA 8 t_shelves_sizes), ((ad 16), eJ cA 320 t_shelves_elements), ((ad 19), eI cA 5 x.2.2.2.2.1), ((ad 20), e_X3 (ad 21) o3.2.1), ((ad 21), eI cA 13 o3.2.2), ((ad 24), e_X4 (ad 25) x.2.2.2.2.2.2.2.1), ((ad 25), eI cA 12 x.2.2.2.2.2.2.2.2)]) (wn := [((ad 0), e_X5 ad t), ((ad 1), e_X1 (ad 2) (ad 3) (ad 4) t_now), ((ad 2), eI cA 8 t_now_kinds), ((ad 4), eI cA 8 t_now_pitches), ((ad 13), e_X0 (ad 14) (ad 15) (ad 16)), ((ad 14), eI cA 8 t_shelves_holding), ((ad 15), eI cA 8 t_shelves_sizes), ((ad 16), eJ cA 320 t_shelves_elements), ((ad 19), eI cA 5 x.2.2.2.2.1), ((ad 20), e_X3 (ad 21) o3.2.1), ((ad 21), eI cA 13 o3.2.2), ((ad 24), e_X4 (ad 25) x.2.2.2.2.2.2.2.1), ((ad 25), eI cA 12 x.2.2.2.2.2.2.2.2)]) (va_runS (As := [.int o3.1]) (rest := []) ⟨hx, hb, hml, hown, htg⟩ (c_J6_bitCount_0f7a4 l D cA _ fu o3.1 o5 ho6) ⟨callB_of 1 htg (gU q_4_49) rfl rfl rfl (htg _ q_1_16) (htg _ q_4_47) hd_J6_bitCount_0f7a4.2 ⟨Nat.le_of_ble_eq_true rfl, Nat.le_of_ble_eq_true rfl⟩, htg _ q_4_48⟩ (xpS hN hK hP hD [] rfl (by decide)) rfl rfl hl.1 rfl (lv_room (Nat.le_of_ble_eq_true rfl)) dX5_best_51 ⟨Nat.zero_le _, Nat.zero_le _⟩) hP hD hS hA [] [0, 1, 2, 3, 4, 5, 6, 7, 8, 9, 10, 11, 12] [0, 1, 2, 3, 4, 5, 6, 7, 8, 9, 10, 11, 12] rfl rfl (by decide) (by decide) rfl (by decide) (fun H locs hP hD hS => ?_)
        refine lv_istore (lv' := [(8, .int o5.1), (0, .ref (ad 0)), (3, .int x.1), (5, .int x.2.1), (6, .int x.2.2.1), (7, .int x.2.2.2.1)]) hx hb dX5_best_54 hl (by decide) rfl (fun ls hl => ?_)
        refine lv_iload hx hb dX5_best_56 (lv_at hl 0 rfl) ?_
        refine lv_iload hx hb dX5_best_58 (lv_at hl 4 rfl) ?_
        refine lv_icmp_le (tgt := 71) hx hb dX5_best_60 (by decide) (fun c7 => ?_) (fun c7 => ?_)
        · have hm := it_t c7 hm
          exact B_71 _ HK_31 _ _ _ _ _ _ _ _ _ _ _ _ hm hP hD hS (lv_sub hl [1, 2, 3, 4, 5] rfl)
        · have hm := it_f c7 hm
          refine lv_iload hx hb dX5_best_63 (lv_at hl 0 rfl) ?_
          refine lv_istore (lv' := [(6, .int o5.1), (8, .int o5.1), (0, .ref (ad 0)), (3, .int x.1), (5, .int x.2.1), (7, .int x.2.2.2.1)]) hx hb dX5_best_65 hl (by decide) rfl (fun ls hl => ?_)
          refine lv_iload hx hb dX5_best_67 (lv_at hl 5 rfl) ?_
          refine lv_istore (lv' := [(5, .int x.2.2.2.1), (6, .int o5.1), (8, .int o5.1), (0, .ref (ad 0)), (3, .int x.1), (7, .int x.2.2.2.1)]) hx hb dX5_best_69 hl (by decide) rfl (fun ls hl => ?_)
          exact B_71 _ HK_31 _ _ _ _ _ _ _ _ _ _ _ _ hm hP hD hS (lv_sub hl [3, 4, 0, 1, 5] rfl)
  unfold m_X5_best at hm
  subst hargs
  have hl := lv_entry ([.ref (ad 0), .int l1, .int l2, .int l3]) (n := 9) (Nat.le_of_ble_eq_true rfl)
  rw [lg_entry_eq]
  generalize (lg_sl ([.ref (ad 0), .int l1, .int l2, .int l3]) ++ List.replicate (9 - (lg_sl ([.ref (ad 0), .int l1, .int l2, .int l3])).length) Slot.unset).toArray = ls at hl ⊢
  have hl : lv_has ls 9 [(0, .ref (ad 0)), (1, .int l1), (2, .int l2), (3, .int l3)] := hl
  refine lv_aload_n hx hb dX5_best_0 rfl (lv_at hl 0 rfl) ?_
  refine lv_iload_n hx hb dX5_best_1 rfl (lv_at hl 1 rfl) ?_
  refine lv_iload_n hx hb dX5_best_2 rfl (lv_at hl 2 rfl) ?_
  refine lv_iload_n hx hb dX5_best_3 rfl (lv_at hl 3 rfl) ?_
  refine lv_iconst (v := (0 : Int32)) hx hb dX5_best_4 (by decide) ?_
  refine lv_iconst (v := (1 : Int32)) hx hb dX5_best_5 (by decide) ?_
  obtain ⟨o8, ho9, hm⟩ := bd_s hm
  refine xr_i (wr := [((ad 0), e_X5 ad t), ((ad 1), e_X1 (ad 2) (ad 3) (ad 4) t_now), ((ad 2), eI cA 8 t_now_kinds), ((ad 4), eI cA 8 t_now_pitches), ((ad 13), e_X0 (ad 14) (ad 15) (ad 16)), ((ad 14), eI cA 8 t_shelves_holding), ((ad 15), eI cA 8 t_shelves_sizes), ((ad 16), eJ cA 320 t_shelves_elements), ((ad 19), eI cA 5 t_refusals), ((ad 20), e_X3 (ad 21) t_trial), ((ad 21), eI cA 13 t_trial_heard), ((ad 24), e_X4 (ad 25) t_told), ((ad 25), eI cA 12 t_told_sounds)]) (wn := [((ad 0), e_X5 ad t), ((ad 1), e_X1 (ad 2) (ad 3) (ad 4) t_now), ((ad 2), eI cA 8 t_now_kinds), ((ad 4), eI cA 8 t_now_pitches), ((ad 13), e_X0 (ad 14) (ad 15) (ad 16)), ((ad 14), eI cA 8 t_shelves_holding), ((ad 15), eI cA 8 t_shelves_sizes), ((ad 16), eJ cA 320 t_shelves_elements), ((ad 19), eI cA 5 t_refusals), ((ad 20), e_X3 (ad 21) t_trial), ((ad 21), eI cA 13 t_trial_heard), ((ad 24), e_X4 (ad 25) t_told), ((ad 25), eI cA 12 t_told_sounds)]) (va_runS (As := [.int l3, .int (0 : Int32), .int (1 : Int32)]) (rest := [.int l2, .int l1, .ref (ad 0)]) ⟨hx, hb, hml, hown, htg⟩ (c_X5_isWithin l D cA _ fu l3 (0 : Int32) (1 : Int32) o8 ho9) (cwS 3 htg (gS q_2_7 q_2_8 q_1_1 q_2_9) rfl rfl rfl hd_X5_isWithin ⟨Nat.le_of_ble_eq_true rfl, Nat.le_of_ble_eq_true rfl⟩) (xpS hN hK hP hD [] rfl (by decide)) rfl rfl hl.1 rfl (lv_room (Nat.le_of_ble_eq_true rfl)) dX5_best_6 ⟨Nat.zero_le _, Nat.zero_le _⟩) hP hD hS hA [] [0, 1, 2, 3, 4, 5, 6, 7, 8, 9, 10, 11, 12] [0, 1, 2, 3, 4, 5, 6, 7, 8, 9, 10, 11, 12] rfl rfl (by decide) (by decide) rfl (by decide) (fun H locs hP hD hS => ?_)
  obtain ⟨o10, ho11, hm⟩ := bd_s hm
  refine xr_i (wr := [((ad 1), e_X1 (ad 2) (ad 3) (ad 4) t_now), ((ad 2), eI cA 8 t_now_kinds), ((ad 4), eI cA 8 t_now_pitches), ((ad 20), e_X3 (ad 21) t_trial), ((ad 21), eI cA 13 t_trial_heard)]) (wn := [((ad 0), e_X5 ad t), ((ad 1), e_X1 (ad 2) (ad 3) (ad 4) t_now), ((ad 2), eI cA 8 t_now_kinds), ((ad 4), eI cA 8 t_now_pitches), ((ad 13), e_X0 (ad 14) (ad 15) (ad 16)), ((ad 14), eI cA 8 t_shelves_holding), ((ad 15), eI cA 8 t_shelves_sizes), ((ad 16), eJ cA 320 t_shelves_elements), ((ad 19), eI cA 5 o10.2.1), ((ad 20), e_X3 (ad 21) t_trial), ((ad 21), eI cA 13 t_trial_heard), ((ad 24), e_X4 (ad 25) o10.2.2.1), ((ad 25), eI cA 12 o10.2.2.2)]) (va_runV (As := [.int l1, .int l2, .int o8.1]) (rest := []) ⟨hx, hb, hml, hown, htg⟩ (c_X5_takeWord l D cA _ fu ad t t_shelves_holding t_shelves_sizes t_shelves_elements t_refusals t_told t_told_sounds l1 l2 o8.1 o10 ho11) (cwV 3 htg (gV q_3_126 q_3_128 q_p3_12 q_1_1 q_3_129) rfl rfl rfl hd_X5_takeWord ⟨Nat.le_of_ble_eq_true rfl, Nat.le_of_ble_eq_true rfl⟩) (xpV hN hK hP hD [0, 4, 5, 6, 7, 8, 11, 12] rfl (by decide) rfl rfl) rfl rfl hl.1 rfl (lv_room (Nat.le_of_ble_eq_true rfl)) dX5_best_9 ⟨Nat.zero_le _, Nat.zero_le _⟩) hP hD hS hA [0, 4, 5, 6, 7, 8, 11, 12] [1, 2, 3, 9, 10] [5, 0, 1, 2, 6, 7, 8, 9, 10, 3, 4, 11, 12] rfl rfl (by decide) (by decide) rfl (by decide) (fun H locs hP hD hS => ?_)
  refine lv_istore (lv' := [(4, .int o10.1), (0, .ref (ad 0)), (1, .int l1), (2, .int l2), (3, .int l3)]) hx hb dX5_best_12 hl (by decide) rfl (fun ls hl => ?_)
  refine lv_iload hx hb dX5_best_14 (lv_at hl 0 rfl) ?_
  refine lv_if_eq (tgt := 22) hx hb dX5_best_16 (by decide) (fun c12 => ?_) (fun c12 => ?_)
  · have hm := it_t c12 hm
    refine lv_iconst (v := (-1 : Int32)) hx hb dX5_best_22 (by decide) ?_
    refine lv_istore (lv' := [(5, .int (-1 : Int32)), (4, .int o10.1), (0, .ref (ad 0)), (1, .int l1), (2, .int l2), (3, .int l3)]) hx hb dX5_best_23 hl (by decide) rfl (fun ls hl => ?_)
    refine lv_iconst (v := (-1 : Int32)) hx hb dX5_best_25 (by decide) ?_
    refine lv_istore (lv' := [(6, .int (-1 : Int32)), (5, .int (-1 : Int32)), (4, .int o10.1), (0, .ref (ad 0)), (1, .int l1), (2, .int l2), (3, .int l3)]) hx hb dX5_best_26 hl (by decide) rfl (fun ls hl => ?_)
    refine lv_iconst (v := (0 : Int32)) hx hb dX5_best_28 (by decide) ?_
    refine lv_istore (lv' := [(7, .int (0 : Int32)), (6, .int (-1 : Int32)), (5, .int (-1 : Int32)), (4, .int o10.1), (0, .ref (ad 0)), (1, .int l1), (2, .int l2), (3, .int l3)]) hx hb dX5_best_29 hl (by decide) rfl (fun ls hl => ?_)
    exact B_31 fu _ _ _ _ hm hP hD hS (lv_sub hl [4, 7, 2, 1, 0] rfl)
  · have hm := it_f c12 hm
    refine lv_iload hx hb dX5_best_19 (lv_at hl 0 rfl) ?_
    rw [hQ]
    exact W.iret (v := o10.1) hx hb hr (fun t9 ht hW => ⟨⟨o10.1, (o10.2.1, t_trial, t_trial_heard, o10.2.2.1, o10.2.2.2), rfl, (Option.some.inj hm), by rw [ht]; exact hP, va_K.moved hW.alike hK, hD⟩, hS.F ht⟩) hS.2.2 dX5_best_21
def b_X5_echoIsRow_26 (fu : Nat) (t : Nat → Int32) (t_shelves_sizes : Nat → Int32) (t_shelves_elements : Nat → Int64) (t_told : Nat → Int32) (t_told_sounds : Nat → Int32) (k_26 : (Int32 × Int32 × Int32 × (Nat → Int32) × (Nat → Int32)) → Option (Int32 × ((Nat → Int32) × (Nat → Int32)))) (x : Int32 × Int32 × Int32 × (Nat → Int32) × (Nat → Int32)) : Option (Int32 × ((Nat → Int32) × (Nat → Int32))) :=
  (if x.2.1 ≤ x.2.2.1 then
        some ((1 : Int32), (x.2.2.2.1, x.2.2.2.2))
      else
        (m_X3_heardAt fu x.2.2.2.1 x.2.2.2.2 x.2.2.1).bind fun o2 =>
        (m_X0_elementAt fu t_shelves_sizes t_shelves_elements x.1 x.2.2.1).bind fun o4 =>
        (if (lg_cmp o2.1.toInt64 o4.1) = 0 then
          k_26 (x.1, x.2.1, (x.2.2.1 + (1 : Int32)), x.2.2.2.1, x.2.2.2.2)
        else
          some ((0 : Int32), (x.2.2.2.1, x.2.2.2.2))))
def m_X5_echoIsRow (fu : Nat) (t : Nat → Int32) (t_shelves_sizes : Nat → Int32) (t_shelves_elements : Nat → Int64) (t_trial : Nat → Int32) (t_trial_heard : Nat → Int32) (t_told : Nat → Int32) (t_told_sounds : Nat → Int32) (l1 : Int32) (l2 : Int32) : Option (Int32 × ((Nat → Int32) × (Nat → Int32))) :=
  (m_X3_hears fu t_trial t_trial_heard t_told t_told_sounds).bind fun o7 =>
  (if o7.1 8 = l2 then
    lfix (b_X5_echoIsRow_26 fu t t_shelves_sizes t_shelves_elements t_told t_told_sounds) fu (l1, l2, (0 : Int32), o7.1, o7.2)
  else
    some ((0 : Int32), (o7.1, o7.2)))
abbrev rm_X5_echoIsRow : Room := ({ frames := 4, cells := 0, slots := 0, locals := 88 } : Room)
abbrev w0_X5_echoIsRow (cA : Nat → ClassId) (ad : Nat → Nat) (t : Nat → Int32) (t_shelves_sizes : Nat → Int32) (t_shelves_elements : Nat → Int64) (t_trial : Nat → Int32) (t_trial_heard : Nat → Int32) (t_told : Nat → Int32) (t_told_sounds : Nat → Int32) : va_W := [((ad 0), e_X5 ad t), ((ad 13), e_X0 (ad 14) (ad 15) (ad 16)), ((ad 15), eI cA 8 t_shelves_sizes), ((ad 16), eJ cA 320 t_shelves_elements), ((ad 20), e_X3 (ad 21) t_trial), ((ad 21), eI cA 13 t_trial_heard), ((ad 24), e_X4 (ad 25) t_told), ((ad 25), eI cA 12 t_told_sounds)]
abbrev w1_X5_echoIsRow (cA : Nat → ClassId) (ad : Nat → Nat) (t : Nat → Int32) (t_shelves_sizes : Nat → Int32) (t_shelves_elements : Nat → Int64) (t_told : Nat → Int32) (t_told_sounds : Nat → Int32) (u : (Nat → Int32) × (Nat → Int32)) : va_W := [((ad 0), e_X5 ad t), ((ad 13), e_X0 (ad 14) (ad 15) (ad 16)), ((ad 15), eI cA 8 t_shelves_sizes), ((ad 16), eJ cA 320 t_shelves_elements), ((ad 20), e_X3 (ad 21) u.1), ((ad 21), eI cA 13 u.2), ((ad 24), e_X4 (ad 25) t_told), ((ad 25), eI cA 12 t_told_sounds)]
theorem hd_X5_echoIsRow : yX5_echoIsRow.cls = RX5 ∧ yX5_echoIsRow.cls ≠ "java/lang/invoke/MethodHandle" ∧ yX5_echoIsRow.cls ≠ "java/lang/invoke/VarHandle" ∧ (parseMethodDescriptor yX5_echoIsRow.desc).map (fun d => d.parameters.length) = some 2 := by decide +kernel
set_option maxHeartbeats 40000000 in
set_option maxRecDepth 100000 in
theorem c_X5_echoIsRow (l : Launch) (D : va_G) (cA : Nat → ClassId) (sz : Nat) (fu : Nat) (ad : Nat → Nat) (t : Nat → Int32) (t_shelves_sizes : Nat → Int32) (t_shelves_elements : Nat → Int64) (t_trial : Nat → Int32) (t_trial_heard : Nat → Int32) (t_told : Nat → Int32) (t_told_sounds : Nat → Int32) (l1 : Int32) (l2 : Int32) (out : Int32 × ((Nat → Int32) × (Nat → Int32))) (hm : m_X5_echoIsRow fu t t_shelves_sizes t_shelves_elements t_trial t_trial_heard t_told t_told_sounds l1 l2 = some out) : MI l yX5_echoIsRow (wU yX5_echoIsRow cX5_echoIsRow 4 ((Option.some Jvm.ClassFile.FieldType.boolean))) rm_X5_echoIsRow D cA sz [.ref (ad 0), .int l1, .int l2] (w0_X5_echoIsRow cA ad t t_shelves_sizes t_shelves_elements t_trial t_trial_heard t_told t_told_sounds) out (w1_X5_echoIsRow cA ad t t_shelves_sizes t_shelves_elements t_told t_told_sounds) := by
  refine Met.ofW (cc := cX5_echoIsRow) (maxL := 4) (ret := (Option.some Jvm.ClassFile.FieldType.boolean)) (by decide) rfl ?_
  intro p e s m args below meth c s₁ B hml hv
  obtain ⟨hargs, hsz, hP, hK, hD0, hN⟩ := hv
  have hx := B.exec
  have hb := B.bytes
  have hr := B.returns
  have htg : ∀ w ∈ gw, w.before args s = true := fun w h => atoms_spec (ws := wU yX5_echoIsRow cX5_echoIsRow 4 ((Option.some Jvm.ClassFile.FieldType.boolean))) B.pre w (List.mem_cons_of_mem _ h)
  have hown : s.vm.findClass RX5 = some m.cls := findClass_of_methodNamed B.named
  have hlocks := B.notSynchronized
  subst hsz
  have hD := hD0.self (sz := s.heap.size)
  have hA : ∀ q : Nat, s.heap.size ≤ q → va_A (w0_X5_echoIsRow cA ad t t_shelves_sizes t_shelves_elements t_trial t_trial_heard t_told t_told_sounds) s.heap.size q := fun q h => Or.inr h
  have hS : va_S (va_A (w0_X5_echoIsRow cA ad t t_shelves_sizes t_shelves_elements t_trial t_trial_heard t_told t_told_sounds) s.heap.size) s.heap s.heap [] := va_S.rf
  generalize va_A (w0_X5_echoIsRow cA ad t t_shelves_sizes t_shelves_elements t_trial t_trial_heard t_told t_told_sounds) s.heap.size = A at hA hD hS ⊢
  obtain ⟨Q, hQ⟩ : ∃ Q : State → Prop, Q = MQ below (va_Qi (fun (r : Int32) (u : (Nat → Int32) × (Nat → Int32)) => (r, u) = out) (pst0 D cA A (w1_X5_echoIsRow cA ad t t_shelves_sizes t_shelves_elements t_told t_told_sounds)) A) args s 0 0 A := ⟨_, rfl⟩
  refine (?_ : W p l e rm_X5_echoIsRow s m args below meth c s.heap [] 0 0 (MQ below (va_Qi (fun (r : Int32) (u : (Nat → Int32) × (Nat → Int32)) => (r, u) = out) (pst0 D cA A (w1_X5_echoIsRow cA ad t t_shelves_sizes t_shelves_elements t_told t_told_sounds)) A) args s 0 0 A) (entryFrame m args 4))
  rw [← hQ]
  have hP : va_P D CL [((ad 0), e_X5 ad t), ((ad 13), e_X0 (ad 14) (ad 15) (ad 16)), ((ad 15), eI cA 8 t_shelves_sizes), ((ad 16), eJ cA 320 t_shelves_elements), ((ad 20), e_X3 (ad 21) t_trial), ((ad 21), eI cA 13 t_trial_heard), ((ad 24), e_X4 (ad 25) t_told), ((ad 25), eI cA 12 t_told_sounds)] s.heap := hP
  have hD : va_D A [((ad 0), e_X5 ad t), ((ad 13), e_X0 (ad 14) (ad 15) (ad 16)), ((ad 15), eI cA 8 t_shelves_sizes), ((ad 16), eJ cA 320 t_shelves_elements), ((ad 20), e_X3 (ad 21) t_trial), ((ad 21), eI cA 13 t_trial_heard), ((ad 24), e_X4 (ad 25) t_told), ((ad 25), eI cA 12 t_told_sounds)] := hD
  have B_26 : ∀ (n : Nat) (x : Int32 × Int32 × Int32 × (Nat → Int32) × (Nat → Int32)) (H : Heap) (locs : List Loc) (ls : Array Slot), lfix (b_X5_echoIsRow_26 fu t t_shelves_sizes t_shelves_elements t_told t_told_sounds) n x = some out → va_P D CL [((ad 0), e_X5 ad t), ((ad 13), e_X0 (ad 14) (ad 15) (ad 16)), ((ad 15), eI cA 8 t_shelves_sizes), ((ad 16), eJ cA 320 t_shelves_elements), ((ad 20), e_X3 (ad 21) x.2.2.2.1), ((ad 21), eI cA 13 x.2.2.2.2), ((ad 24), e_X4 (ad 25) t_told), ((ad 25), eI cA 12 t_told_sounds)] H → va_D A [((ad 0), e_X5 ad t), ((ad 13), e_X0 (ad 14) (ad 15) (ad 16)), ((ad 15), eI cA 8 t_shelves_sizes), ((ad 16), eJ cA 320 t_shelves_elements), ((ad 20), e_X3 (ad 21) x.2.2.2.1), ((ad 21), eI cA 13 x.2.2.2.2), ((ad 24), e_X4 (ad 25) t_told), ((ad 25), eI cA 12 t_told_sounds)] → va_S A s.heap H locs → lv_has ls 4 [(0, .ref (ad 0)), (1, .int x.1), (2, .int x.2.1), (3, .int x.2.2.1)] → W p l e rm_X5_echoIsRow s m args below meth c H locs 0 0 Q (F0 m 26 ls []) := by
    intro  n
    induction n with
    | zero => intro x H locs ls hm; cases (show none = some out from hm)
    | succ n HK_26 =>
      intro x H locs ls hm hP hD hS hl
      replace hm : b_X5_echoIsRow_26 fu t t_shelves_sizes t_shelves_elements t_told t_told_sounds (lfix (b_X5_echoIsRow_26 fu t t_shelves_sizes t_shelves_elements t_told t_told_sounds) n) x = some out := hm
      unfold b_X5_echoIsRow_26 at hm
      refine lv_iload_n hx hb dX5_echoIsRow_26 rfl (lv_at hl 3 rfl) ?_
      refine lv_iload_n hx hb dX5_echoIsRow_27 rfl (lv_at hl 2 rfl) ?_
      refine lv_icmp_ge (tgt := 61) hx hb dX5_echoIsRow_28 (by decide) (fun c1 => ?_) (fun c1 => ?_)
      · have hm := it_t c1 hm
        refine lv_iconst (v := (1 : Int32)) hx hb dX5_echoIsRow_61 (by decide) ?_
        rw [hQ]
        exact W.zret (v := (1 : Int32)) hx hb hr rfl (fun t9 ht hW => ⟨⟨(1 : Int32), (x.2.2.2.1, x.2.2.2.2), rfl, (Option.some.inj hm), by rw [ht]; exact hP, va_K.moved hW.alike hK, hD⟩, hS.F ht⟩) hS.2.2 dX5_echoIsRow_62
      · have hm := it_f c1 hm
        refine lv_aload_n hx hb dX5_echoIsRow_31 rfl (lv_at hl 0 rfl) ?_
        refine va_get (D := D) (ci := 5) (v := .ref (ad 20)) (C := RX5) (T := TX5) (N := 17) hx hb htg inX5 hown hK hP 0 rfl rfl 7 (by decide) (htg _ q_1_195) (fun _ h9 => h9) rfl dX5_echoIsRow_32 ?_
        refine lv_iload_n hx hb dX5_echoIsRow_35 rfl (lv_at hl 3 rfl) ?_
        obtain ⟨o2, ho3, hm⟩ := bd_s hm
        refine xr_i (wr := [((ad 0), e_X5 ad t), ((ad 13), e_X0 (ad 14) (ad 15) (ad 16)), ((ad 15), eI cA 8 t_shelves_sizes), ((ad 16), eJ cA 320 t_shelves_elements), ((ad 24), e_X4 (ad 25) t_told), ((ad 25), eI cA 12 t_told_sounds)]) (wn := [((ad 0), e_X5 ad t), ((ad 13), e_X0 (ad 14) (ad 15) (ad 16)), ((ad 15), eI cA 8 t_shelves_sizes), ((ad 16), eJ cA 320 t_shelves_elements), ((ad 20), e_X3 (ad 21) x.2.2.2.1), ((ad 21), eI cA 13 x.2.2.2.2), ((ad 24), e_X4 (ad 25) t_told), ((ad 25), eI cA 12 t_told_sounds)]) (va_runVN (As := [.int x.2.2.1]) (rest := []) ⟨hx, hb, hml, hown, htg⟩ (c_X3_heardAt l D cA _ fu (ad 20) (ad 21) x.2.2.2.1 x.2.2.2.2 x.2.2.1 o2 ho3) ⟨va_cnB 1 htg (gU q_2_162) rfl rfl rfl (hN _ q_3_135) (htg _ q_1_6) hd_X3_heardAt.2 ⟨Nat.le_of_ble_eq_true rfl, Nat.le_of_ble_eq_true rfl⟩, htg _ q_2_161, htg _ q_p2_8⟩ (xpV hN hK hP hD [4, 5] rfl (by decide) rfl rfl) rfl rfl hl.1 rfl (lv_room (Nat.le_of_ble_eq_true rfl)) dX5_echoIsRow_36 ⟨Nat.zero_le _, Nat.zero_le _⟩) hP hD hS hA [4, 5] [0, 1, 2, 3, 6, 7] [0, 1, 2, 3, 6, 7, 4, 5] rfl rfl (by decide) (by decide) rfl (by decide) (fun H locs hP hD hS => ?_)
        refine lv_i2l hx hb dX5_echoIsRow_39 rfl ?_
        refine lv_aload_n hx hb dX5_echoIsRow_40 rfl (lv_at hl 0 rfl) ?_
        refine va_get (D := D) (ci := 5) (v := .ref (ad 13)) (C := RX5) (T := TX5) (N := 17) hx hb htg inX5 hown hK hP 0 rfl rfl 4 (by decide) (htg _ q_1_192) (fun _ h9 => h9) rfl dX5_echoIsRow_41 ?_
        refine lv_iload_n hx hb dX5_echoIsRow_44 rfl (lv_at hl 1 rfl) ?_
        refine lv_iload_n hx hb dX5_echoIsRow_45 rfl (lv_at hl 3 rfl) ?_
        obtain ⟨o4, ho5, hm⟩ := bd_s hm
        refine xr_l (wr := [((ad 0), e_X5 ad t), ((ad 20), e_X3 (ad 21) x.2.2.2.1), ((ad 21), eI cA 13 x.2.2.2.2), ((ad 24), e_X4 (ad 25) t_told), ((ad 25), eI cA 12 t_told_sounds)]) (wn := [((ad 0), e_X5 ad t), ((ad 13), e_X0 (ad 14) (ad 15) (ad 16)), ((ad 15), eI cA 8 t_shelves_sizes), ((ad 16), eJ cA 320 t_shelves_elements), ((ad 20), e_X3 (ad 21) x.2.2.2.1), ((ad 21), eI cA 13 x.2.2.2.2), ((ad 24), e_X4 (ad 25) t_told), ((ad 25), eI cA 12 t_told_sounds)]) (va_runVN (As := [.int x.1, .int x.2.2.1]) (rest := [.long o2.1.toInt64]) ⟨hx, hb, hml, hown, htg⟩ (c_X0_elementAt l D cA _ fu (ad 13) (ad 14) (ad 15) (ad 16) t_shelves_sizes t_shelves_elements x.1 x.2.2.1 o4 ho5) ⟨va_cnB 2 htg (gU q_2_77) rfl rfl rfl (hN _ q_2_74) (htg _ q_1_3) hd_X0_elementAt.2 ⟨Nat.le_of_ble_eq_true rfl, Nat.le_of_ble_eq_true rfl⟩, htg _ q_2_76, htg _ q_p1_9⟩ (xpV hN hK hP hD [1, 2, 3] rfl (by decide) rfl rfl) rfl rfl hl.1 rfl (lv_room (Nat.le_of_ble_eq_true rfl)) dX5_echoIsRow_46 ⟨Nat.zero_le _, Nat.zero_le _⟩) hP hD hS hA [1, 2, 3] [0, 4, 5, 6, 7] [0, 5, 6, 7, 1, 2, 3, 4] rfl rfl (by decide) (by decide) rfl (by decide) (fun H locs hP hD hS => ?_)
        refine W.lcmp hx hb dX5_echoIsRow_49 ?_
        refine lv_if_eq (tgt := 55) hx hb dX5_echoIsRow_50 (by decide) (fun c6 => ?_) (fun c6 => ?_)
        · have hm := it_t c6 hm
          refine lv_iinc (v := (x.2.2.1 + (1 : Int32))) (lv' := [(3, .int (x.2.2.1 + (1 : Int32))), (0, .ref (ad 0)), (1, .int x.1), (2, .int x.2.1)]) hx hb dX5_echoIsRow_55 hl (k := 3) rfl rfl (by decide) rfl (fun ls hl => ?_)
          refine lv_goto (tgt := 26) hx hb dX5_echoIsRow_58 (by decide) ?_
          exact HK_26 _ _ _ _ hm hP hD hS (lv_sub hl [1, 2, 3, 0] rfl)
        · have hm := it_f c6 hm
          refine lv_iconst (v := (0 : Int32)) hx hb dX5_echoIsRow_53 (by decide) ?_
          rw [hQ]
          exact W.zret (v := (0 : Int32)) hx hb hr rfl (fun t9 ht hW => ⟨⟨(0 : Int32), (x.2.2.2.1, x.2.2.2.2), rfl, (Option.some.inj hm), by rw [ht]; exact hP, va_K.moved hW.alike hK, hD⟩, hS.F ht⟩) hS.2.2 dX5_echoIsRow_54
  unfold m_X5_echoIsRow at hm
  subst hargs
  have hl := lv_entry ([.ref (ad 0), .int l1, .int l2]) (n := 4) (Nat.le_of_ble_eq_true rfl)
  rw [lg_entry_eq]
  generalize (lg_sl ([.ref (ad 0), .int l1, .int l2]) ++ List.replicate (4 - (lg_sl ([.ref (ad 0), .int l1, .int l2])).length) Slot.unset).toArray = ls at hl ⊢
  have hl : lv_has ls 4 [(0, .ref (ad 0)), (1, .int l1), (2, .int l2)] := hl
  refine lv_aload_n hx hb dX5_echoIsRow_0 rfl (lv_at hl 0 rfl) ?_
  refine va_get (D := D) (ci := 5) (v := .ref (ad 20)) (C := RX5) (T := TX5) (N := 17) hx hb htg inX5 hown hK hP 0 rfl rfl 7 (by decide) (htg _ q_1_195) (fun _ h9 => h9) rfl dX5_echoIsRow_1 ?_
  refine lv_aload_n hx hb dX5_echoIsRow_4 rfl (lv_at hl 0 rfl) ?_
  refine va_get (D := D) (ci := 5) (v := .ref (ad 24)) (C := RX5) (T := TX5) (N := 17) hx hb htg inX5 hown hK hP 0 rfl rfl 9 (by decide) (htg _ q_1_197) (fun _ h9 => h9) rfl dX5_echoIsRow_5 ?_
  obtain ⟨o7, ho8, hm⟩ := bd_s hm
  refine xr_v (wr := [((ad 0), e_X5 ad t), ((ad 13), e_X0 (ad 14) (ad 15) (ad 16)), ((ad 15), eI cA 8 t_shelves_sizes), ((ad 16), eJ cA 320 t_shelves_elements)]) (wn := [((ad 0), e_X5 ad t), ((ad 13), e_X0 (ad 14) (ad 15) (ad 16)), ((ad 15), eI cA 8 t_shelves_sizes), ((ad 16), eJ cA 320 t_shelves_elements), ((ad 20), e_X3 (ad 21) o7.1), ((ad 21), eI cA 13 o7.2), ((ad 24), e_X4 (ad 25) t_told), ((ad 25), eI cA 12 t_told_sounds)]) (va_runVN (As := [.ref (ad 24)]) (rest := []) ⟨hx, hb, hml, hown, htg⟩ (c_X3_hears l D cA _ fu (ad 20) (ad 21) (ad 24) (ad 25) t_trial t_trial_heard t_told t_told_sounds o7 ho8) ⟨va_cnB 1 htg (gU q_2_132) rfl rfl rfl (hN _ q_2_129) (htg _ q_1_6) hd_X3_hears.2 ⟨Nat.le_of_ble_eq_true rfl, Nat.le_of_ble_eq_true rfl⟩, htg _ q_2_131, htg _ q_p2_1⟩ (xpV hN hK hP hD [4, 5, 6, 7] rfl (by decide) rfl rfl) rfl rfl hl.1 rfl (lv_room (Nat.le_of_ble_eq_true rfl)) dX5_echoIsRow_8 ⟨Nat.zero_le _, Nat.zero_le _⟩) hP hD hS hA [4, 5, 6, 7] [0, 1, 2, 3] [0, 1, 2, 3, 4, 5, 6, 7] rfl rfl (by decide) (by decide) rfl (by decide) (fun H locs hP hD hS => ?_)
  refine lv_aload_n hx hb dX5_echoIsRow_11 rfl (lv_at hl 0 rfl) ?_
  refine va_get (D := D) (ci := 5) (v := .ref (ad 20)) (C := RX5) (T := TX5) (N := 17) hx hb htg inX5 hown hK hP 0 rfl rfl 7 (by decide) (htg _ q_1_195) (fun _ h9 => h9) rfl dX5_echoIsRow_12 ?_
  refine va_getN (D := D) (ci := 3) (v := .int (o7.1 8)) (C := RX3) (T := TX3) (N := 9) hx hb htg inX3 hown hK hP 4 rfl rfl 8 (by decide) (va_Nw.use rfl (hN _ q_1_153)) (fun _ h9 => h9) rfl dX5_echoIsRow_15 ?_
  refine lv_iload_n hx hb dX5_echoIsRow_18 rfl (lv_at hl 2 rfl) ?_
  refine lv_icmp_eq (tgt := 24) hx hb dX5_echoIsRow_19 (by decide) (fun c9 => ?_) (fun c9 => ?_)
  · have hm := it_t c9 hm
    refine lv_iconst (v := (0 : Int32)) hx hb dX5_echoIsRow_24 (by decide) ?_
    refine lv_istore_n (lv' := [(3, .int (0 : Int32)), (0, .ref (ad 0)), (1, .int l1), (2, .int l2)]) hx hb dX5_echoIsRow_25 rfl hl (by decide) rfl (fun ls hl => ?_)
    exact B_26 fu _ _ _ _ hm hP hD hS (lv_sub hl [1, 2, 3, 0] rfl)
  · have hm := it_f c9 hm
    refine lv_iconst (v := (0 : Int32)) hx hb dX5_echoIsRow_22 (by decide) ?_
    rw [hQ]
    exact W.zret (v := (0 : Int32)) hx hb hr rfl (fun t9 ht hW => ⟨⟨(0 : Int32), (o7.1, o7.2), rfl, (Option.some.inj hm), by rw [ht]; exact hP, va_K.moved hW.alike hK, hD⟩, hS.F ht⟩) hS.2.2 dX5_echoIsRow_23
