def b_X6_plain_41 (fu : Nat) (t : Nat → Int32) (t_L : Nat → Int64) (t_kind : Nat → Int32) (t_pitch : Nat → Int32) (k_19 : (Int32 × Int32 × Int32 × (Nat → Int32)) → Option (Int32 × (Nat → Int32))) (l1 : Int32) (l3 : Int32) (s0 : Int32) (s1 : Int32) (t_refused : Nat → Int32) : Option (Int32 × (Nat → Int32)) :=
  k_19 (l1, (s0 + s1), (l3 + (1 : Int32)), t_refused)
def b_X6_plain_19 (fu : Nat) (t : Nat → Int32) (t_L : Nat → Int64) (t_kind : Nat → Int32) (t_pitch : Nat → Int32) (k_19 : (Int32 × Int32 × Int32 × (Nat → Int32)) → Option (Int32 × (Nat → Int32))) (x : Int32 × Int32 × Int32 × (Nat → Int32)) : Option (Int32 × (Nat → Int32)) :=
  (if (40 : Int32) ≤ x.2.2.1 then
        some (x.2.1, x.2.2.2)
      else
        (m_X6_comesBack fu t t_L t_kind t_pitch x.1 x.2.2.1).bind fun o2 =>
        (if o2.1 = x.2.2.1 then
          b_X6_plain_41 fu t t_L t_kind t_pitch k_19 x.1 x.2.2.1 x.2.1 (1 : Int32) x.2.2.2
        else
          b_X6_plain_41 fu t t_L t_kind t_pitch k_19 x.1 x.2.2.1 x.2.1 (0 : Int32) x.2.2.2))
def m_X6_plain (fu : Nat) (t : Nat → Int32) (t_L : Nat → Int64) (t_refused : Nat → Int32) (t_kind : Nat → Int32) (t_pitch : Nat → Int32) (l1 : Int32) : Option (Int32 × (Nat → Int32)) :=
  (m_X6_isVoice fu t t_L l1).bind fun o5 =>
  (if o5.1 = 0 then
    (m_X6_refuse fu t t_L t_refused (-2 : Int32)).bind fun o8 =>
    some (o8.1, o8.2)
  else
    lfix (b_X6_plain_19 fu t t_L t_kind t_pitch) fu (l1, (0 : Int32), (0 : Int32), t_refused))
abbrev rm_X6_plain : Room := ({ frames := 2, cells := 0, slots := 0, locals := 46 } : Room)
abbrev w0_X6_plain (cA : Nat → ClassId) (am : Nat → Nat) (tkv : Value) (ttv : Value) (t : Nat → Int32) (t_L : Nat → Int64) (t_refused : Nat → Int32) (t_kind : Nat → Int32) (t_pitch : Nat → Int32) : va_W := [((am 0), e_X6 am tkv ttv t t_L), ((am 16), eI cA 8 t_refused), ((am 17), eI cA 8 t_kind), ((am 19), eI cA 8 t_pitch)]
abbrev w1_X6_plain (cA : Nat → ClassId) (am : Nat → Nat) (tkv : Value) (ttv : Value) (t : Nat → Int32) (t_L : Nat → Int64) (t_kind : Nat → Int32) (t_pitch : Nat → Int32) (u : (Nat → Int32)) : va_W := [((am 0), e_X6 am tkv ttv t t_L), ((am 16), eI cA 8 u), ((am 17), eI cA 8 t_kind), ((am 19), eI cA 8 t_pitch)]
theorem hd_X6_plain : yX6_plain.cls = RX6 ∧ yX6_plain.cls ≠ "java/lang/invoke/MethodHandle" ∧ yX6_plain.cls ≠ "java/lang/invoke/VarHandle" ∧ (parseMethodDescriptor yX6_plain.desc).map (fun d => d.parameters.length) = some 1 := by decide +kernel
set_option maxHeartbeats 40000000 in
set_option maxRecDepth 100000 in
theorem c_X6_plain (l : Launch) (D : va_G) (cA : Nat → ClassId) (sz : Nat) (fu : Nat) (am : Nat → Nat) (tkv : Value) (ttv : Value) (t : Nat → Int32) (t_L : Nat → Int64) (t_refused : Nat → Int32) (t_kind : Nat → Int32) (t_pitch : Nat → Int32) (l1 : Int32) (out : Int32 × (Nat → Int32)) (hm : m_X6_plain fu t t_L t_refused t_kind t_pitch l1 = some out) : MI l yX6_plain (wU yX6_plain cX6_plain 4 ((Option.some Jvm.ClassFile.FieldType.int))) rm_X6_plain D cA sz [.ref (am 0), .int l1] (w0_X6_plain cA am tkv ttv t t_L t_refused t_kind t_pitch) out (w1_X6_plain cA am tkv ttv t t_L t_kind t_pitch) := by
  refine Met.ofW (cc := cX6_plain) (maxL := 4) (ret := (Option.some Jvm.ClassFile.FieldType.int)) (by decide) rfl ?_
  intro p e s m args below meth c s₁ B hml hv
  obtain ⟨hargs, hsz, hP, hK, hD0, hN⟩ := hv
  have hx := B.exec
  have hb := B.bytes
  have hr := B.returns
  have htg : ∀ w ∈ gw, w.before args s = true := fun w h => atoms_spec (ws := wU yX6_plain cX6_plain 4 ((Option.some Jvm.ClassFile.FieldType.int))) B.pre w (List.mem_cons_of_mem _ h)
  have hown : s.vm.findClass RX6 = some m.cls := findClass_of_methodNamed B.named
  have hlocks := B.notSynchronized
  subst hsz
  have hD := hD0.self (sz := s.heap.size)
  have hA : ∀ q : Nat, s.heap.size ≤ q → va_A (w0_X6_plain cA am tkv ttv t t_L t_refused t_kind t_pitch) s.heap.size q := fun q h => Or.inr h
  have hS : va_S (va_A (w0_X6_plain cA am tkv ttv t t_L t_refused t_kind t_pitch) s.heap.size) s.heap s.heap [] := va_S.rf
  generalize va_A (w0_X6_plain cA am tkv ttv t t_L t_refused t_kind t_pitch) s.heap.size = A at hA hD hS ⊢
  obtain ⟨Q, hQ⟩ : ∃ Q : State → Prop, Q = MQ below (va_Qi (fun (r : Int32) (u : (Nat → Int32)) => (r, u) = out) (pst0 D cA A (w1_X6_plain cA am tkv ttv t t_L t_kind t_pitch)) A) args s 0 0 A := ⟨_, rfl⟩
  refine (?_ : W p l e rm_X6_plain s m args below meth c s.heap [] 0 0 (MQ below (va_Qi (fun (r : Int32) (u : (Nat → Int32)) => (r, u) = out) (pst0 D cA A (w1_X6_plain cA am tkv ttv t t_L t_kind t_pitch)) A) args s 0 0 A) (entryFrame m args 4))
  rw [← hQ]
  have hP : va_P D CL [((am 0), e_X6 am tkv ttv t t_L), ((am 16), eI cA 8 t_refused), ((am 17), eI cA 8 t_kind), ((am 19), eI cA 8 t_pitch)] s.heap := hP
  have hD : va_D A [((am 0), e_X6 am tkv ttv t t_L), ((am 16), eI cA 8 t_refused), ((am 17), eI cA 8 t_kind), ((am 19), eI cA 8 t_pitch)] := hD
  have B_41 : ∀ (k_19 : (Int32 × Int32 × Int32 × (Nat → Int32)) → Option (Int32 × (Nat → Int32))) (HK_19 : ∀ (x : Int32 × Int32 × Int32 × (Nat → Int32)) (H : Heap) (locs : List Loc) (ls : Array Slot), k_19 x = some out → va_P D CL [((am 0), e_X6 am tkv ttv t t_L), ((am 16), eI cA 8 x.2.2.2), ((am 17), eI cA 8 t_kind), ((am 19), eI cA 8 t_pitch)] H → va_D A [((am 0), e_X6 am tkv ttv t t_L), ((am 16), eI cA 8 x.2.2.2), ((am 17), eI cA 8 t_kind), ((am 19), eI cA 8 t_pitch)] → va_S A s.heap H locs → lv_has ls 4 [(0, .ref (am 0)), (1, .int x.1), (2, .int x.2.1), (3, .int x.2.2.1)] → W p l e rm_X6_plain s m args below meth c H locs 0 0 Q (F0 m 19 ls [])) (l1 : Int32) (l3 : Int32) (s0 : Int32) (s1 : Int32) (t_refused : Nat → Int32) (H : Heap) (locs : List Loc) (ls : Array Slot), b_X6_plain_41 fu t t_L t_kind t_pitch k_19 l1 l3 s0 s1 t_refused = some out → va_P D CL [((am 0), e_X6 am tkv ttv t t_L), ((am 16), eI cA 8 t_refused), ((am 17), eI cA 8 t_kind), ((am 19), eI cA 8 t_pitch)] H → va_D A [((am 0), e_X6 am tkv ttv t t_L), ((am 16), eI cA 8 t_refused), ((am 17), eI cA 8 t_kind), ((am 19), eI cA 8 t_pitch)] → va_S A s.heap H locs → lv_has ls 4 [(0, .ref (am 0)), (1, .int l1), (3, .int l3)] → W p l e rm_X6_plain s m args below meth c H locs 0 0 Q (F0 m 41 ls [.int s1, .int s0]) := by
    intro k_19 HK_19 l1 l3 s0 s1 t_refused H locs ls hm hP hD hS hl
    unfold b_X6_plain_41 at hm
    refine lv_iadd hx hb dX6_plain_41 ?_
    refine lv_istore_n (lv' := [(2, .int (s0 + s1)), (0, .ref (am 0)), (1, .int l1), (3, .int l3)]) hx hb dX6_plain_42 rfl hl (by decide) rfl (fun ls hl => ?_)
    refine lv_iinc (v := (l3 + (1 : Int32))) (lv' := [(3, .int (l3 + (1 : Int32))), (2, .int (s0 + s1)), (0, .ref (am 0)), (1, .int l1)]) hx hb dX6_plain_43 hl (k := 3) rfl rfl (by decide) rfl (fun ls hl => ?_)
    refine lv_goto (tgt := 19) hx hb dX6_plain_46 (by decide) ?_
    exact HK_19 _ _ _ _ hm hP hD hS (lv_sub hl [2, 3, 1, 0] rfl)
  have B_19 : ∀ (n : Nat) (x : Int32 × Int32 × Int32 × (Nat → Int32)) (H : Heap) (locs : List Loc) (ls : Array Slot), lfix (b_X6_plain_19 fu t t_L t_kind t_pitch) n x = some out → va_P D CL [((am 0), e_X6 am tkv ttv t t_L), ((am 16), eI cA 8 x.2.2.2), ((am 17), eI cA 8 t_kind), ((am 19), eI cA 8 t_pitch)] H → va_D A [((am 0), e_X6 am tkv ttv t t_L), ((am 16), eI cA 8 x.2.2.2), ((am 17), eI cA 8 t_kind), ((am 19), eI cA 8 t_pitch)] → va_S A s.heap H locs → lv_has ls 4 [(0, .ref (am 0)), (1, .int x.1), (2, .int x.2.1), (3, .int x.2.2.1)] → W p l e rm_X6_plain s m args below meth c H locs 0 0 Q (F0 m 19 ls []) := by
    intro  n
    induction n with
    | zero => intro x H locs ls hm; cases (show none = some out from hm)
    | succ n HK_19 =>
      intro x H locs ls hm hP hD hS hl
      replace hm : b_X6_plain_19 fu t t_L t_kind t_pitch (lfix (b_X6_plain_19 fu t t_L t_kind t_pitch) n) x = some out := hm
      unfold b_X6_plain_19 at hm
      refine lv_iload_n hx hb dX6_plain_19 rfl (lv_at hl 3 rfl) ?_
      refine lv_bipush (v := (40 : Int32)) hx hb dX6_plain_20 (by decide) ?_
      refine lv_icmp_ge (tgt := 49) hx hb dX6_plain_22 (by decide) (fun c1 => ?_) (fun c1 => ?_)
      · have hm := it_t c1 hm
        refine lv_iload_n hx hb dX6_plain_49 rfl (lv_at hl 2 rfl) ?_
        rw [hQ]
        exact W.iret (v := x.2.1) hx hb hr (fun t9 ht hW => ⟨⟨x.2.1, x.2.2.2, rfl, (Option.some.inj hm), by rw [ht]; exact hP, va_K.moved hW.alike hK, hD⟩, hS.F ht⟩) hS.2.2 dX6_plain_50
      · have hm := it_f c1 hm
        refine lv_iload_n hx hb dX6_plain_25 rfl (lv_at hl 2 rfl) ?_
        refine lv_aload_n hx hb dX6_plain_26 rfl (lv_at hl 0 rfl) ?_
        refine lv_iload_n hx hb dX6_plain_27 rfl (lv_at hl 1 rfl) ?_
        refine lv_iload_n hx hb dX6_plain_28 rfl (lv_at hl 3 rfl) ?_
        obtain ⟨o2, ho3, hm⟩ := bd_s hm
        refine xr_i (wr := [((am 16), eI cA 8 x.2.2.2)]) (wn := [((am 0), e_X6 am tkv ttv t t_L), ((am 16), eI cA 8 x.2.2.2), ((am 17), eI cA 8 t_kind), ((am 19), eI cA 8 t_pitch)]) (va_runV (As := [.int x.1, .int x.2.2.1]) (rest := [.int x.2.1]) ⟨hx, hb, hml, hown, htg⟩ (c_X6_comesBack l D cA _ fu am tkv ttv t t_L t_kind t_pitch x.1 x.2.2.1 o2 ho3) (cwV 2 htg (gV q_5_159 q_5_161 q_p5_12 q_1_8 q_5_162) rfl rfl rfl hd_X6_comesBack ⟨Nat.le_of_ble_eq_true rfl, Nat.le_of_ble_eq_true rfl⟩) (xpV hN hK hP hD [0, 2, 3] rfl (by decide) rfl rfl) rfl rfl hl.1 rfl (lv_room (Nat.le_of_ble_eq_true rfl)) dX6_plain_29 ⟨Nat.zero_le _, Nat.zero_le _⟩) hP hD hS hA [0, 2, 3] [1] [1, 0, 2, 3] rfl rfl (by decide) (by decide) rfl (by decide) (fun H locs hP hD hS => ?_)
        refine lv_iload_n hx hb dX6_plain_32 rfl (lv_at hl 3 rfl) ?_
        refine lv_icmp_ne (tgt := 40) hx hb dX6_plain_33 (by decide) (fun c4 => ?_) (fun c4 => ?_)
        · have hm := it_f c4 hm
          refine lv_iconst (v := (0 : Int32)) hx hb dX6_plain_40 (by decide) ?_
          exact B_41 _ HK_19 _ _ _ _ _ _ _ _ hm hP hD hS (lv_sub hl [0, 1, 3] rfl)
        · have hm := it_t c4 hm
          refine lv_iconst (v := (1 : Int32)) hx hb dX6_plain_36 (by decide) ?_
          refine lv_goto (tgt := 41) hx hb dX6_plain_37 (by decide) ?_
          exact B_41 _ HK_19 _ _ _ _ _ _ _ _ hm hP hD hS (lv_sub hl [0, 1, 3] rfl)
  unfold m_X6_plain at hm
  subst hargs
  have hl := lv_entry ([.ref (am 0), .int l1]) (n := 4) (Nat.le_of_ble_eq_true rfl)
  rw [lg_entry_eq]
  generalize (lg_sl ([.ref (am 0), .int l1]) ++ List.replicate (4 - (lg_sl ([.ref (am 0), .int l1])).length) Slot.unset).toArray = ls at hl ⊢
  have hl : lv_has ls 4 [(0, .ref (am 0)), (1, .int l1)] := hl
  refine lv_aload_n hx hb dX6_plain_0 rfl (lv_at hl 0 rfl) ?_
  refine lv_iload_n hx hb dX6_plain_1 rfl (lv_at hl 1 rfl) ?_
  obtain ⟨o5, ho6, hm⟩ := bd_s hm
  refine xr_i (wr := [((am 16), eI cA 8 t_refused), ((am 17), eI cA 8 t_kind), ((am 19), eI cA 8 t_pitch)]) (wn := [((am 0), e_X6 am tkv ttv t t_L), ((am 16), eI cA 8 t_refused), ((am 17), eI cA 8 t_kind), ((am 19), eI cA 8 t_pitch)]) (va_runV (As := [.int l1]) (rest := []) ⟨hx, hb, hml, hown, htg⟩ (c_X6_isVoice l D cA _ fu am tkv ttv t t_L l1 o5 ho6) (cwV 1 htg (gV q_5_139 q_5_141 q_p5_9 q_1_8 q_5_142) rfl rfl rfl hd_X6_isVoice ⟨Nat.le_of_ble_eq_true rfl, Nat.le_of_ble_eq_true rfl⟩) (xpV hN hK hP hD [0] rfl (by decide) rfl rfl) rfl rfl hl.1 rfl (lv_room (Nat.le_of_ble_eq_true rfl)) dX6_plain_2 ⟨Nat.zero_le _, Nat.zero_le _⟩) hP hD hS hA [0] [1, 2, 3] [3, 0, 1, 2] rfl rfl (by decide) (by decide) rfl (by decide) (fun H locs hP hD hS => ?_)
  refine lv_if_ne (tgt := 15) hx hb dX6_plain_5 (by decide) (fun c7 => ?_) (fun c7 => ?_)
  · have hm := it_f c7 hm
    refine lv_iconst (v := (0 : Int32)) hx hb dX6_plain_15 (by decide) ?_
    refine lv_istore_n (lv' := [(2, .int (0 : Int32)), (0, .ref (am 0)), (1, .int l1)]) hx hb dX6_plain_16 rfl hl (by decide) rfl (fun ls hl => ?_)
    refine lv_iconst (v := (0 : Int32)) hx hb dX6_plain_17 (by decide) ?_
    refine lv_istore_n (lv' := [(3, .int (0 : Int32)), (2, .int (0 : Int32)), (0, .ref (am 0)), (1, .int l1)]) hx hb dX6_plain_18 rfl hl (by decide) rfl (fun ls hl => ?_)
    exact B_19 fu _ _ _ _ hm hP hD hS (lv_sub hl [2, 3, 1, 0] rfl)
  · have hm := it_t c7 hm
    refine lv_aload_n hx hb dX6_plain_8 rfl (lv_at hl 0 rfl) ?_
    refine lv_bipush (v := (-2 : Int32)) hx hb dX6_plain_9 (by decide) ?_
    obtain ⟨o8, ho9, hm⟩ := bd_s hm
    refine xr_i (wr := [((am 17), eI cA 8 t_kind), ((am 19), eI cA 8 t_pitch)]) (wn := [((am 0), e_X6 am tkv ttv t t_L), ((am 16), eI cA 8 o8.2), ((am 17), eI cA 8 t_kind), ((am 19), eI cA 8 t_pitch)]) (va_runV (As := [.int (-2 : Int32)]) (rest := []) ⟨hx, hb, hml, hown, htg⟩ (c_X6_refuse l D cA _ fu am tkv ttv t t_L t_refused (-2 : Int32) o8 ho9) (cwV 1 htg (gV q_5_108 q_5_110 q_p5_7 q_1_8 q_5_111) rfl rfl rfl hd_X6_refuse ⟨Nat.le_of_ble_eq_true rfl, Nat.le_of_ble_eq_true rfl⟩) (xpV hN hK hP hD [0, 1] rfl (by decide) rfl rfl) rfl rfl hl.1 rfl (lv_room (Nat.le_of_ble_eq_true rfl)) dX6_plain_11 ⟨Nat.zero_le _, Nat.zero_le _⟩) hP hD hS hA [0, 1] [2, 3] [2, 3, 0, 1] rfl rfl (by decide) (by decide) rfl (by decide) (fun H locs hP hD hS => ?_)
    rw [hQ]
    exact W.iret (v := o8.1) hx hb hr (fun t9 ht hW => ⟨⟨o8.1, o8.2, rfl, (Option.some.inj hm), by rw [ht]; exact hP, va_K.moved hW.alike hK, hD⟩, hS.F ht⟩) hS.2.2 dX6_plain_14
def b_X6_areTwins_2 (fu : Nat) (t : Nat → Int32) (t_L : Nat → Int64) (t_kind : Nat → Int32) (t_pitch : Nat → Int32) (k_2 : (Int32 × Int32 × Int32) → Option (Int32 × Unit)) (x : Int32 × Int32 × Int32) : Option (Int32 × Unit) :=
  (if (40 : Int32) ≤ x.2.2 then
        some ((1 : Int32), ())
      else
        (m_X6_comesBack fu t t_L t_kind t_pitch x.1 x.2.2).bind fun o2 =>
        (m_X6_comesBack fu t t_L t_kind t_pitch x.2.1 x.2.2).bind fun o4 =>
        (if o2.1 = o4.1 then
          k_2 (x.1, x.2.1, (x.2.2 + (1 : Int32)))
        else
          some ((0 : Int32), ())))
def m_X6_areTwins (fu : Nat) (t : Nat → Int32) (t_L : Nat → Int64) (t_kind : Nat → Int32) (t_pitch : Nat → Int32) (l1 : Int32) (l2 : Int32) : Option (Int32 × Unit) :=
  lfix (b_X6_areTwins_2 fu t t_L t_kind t_pitch) fu (l1, l2, (0 : Int32))
abbrev rm_X6_areTwins : Room := ({ frames := 2, cells := 0, slots := 0, locals := 45 } : Room)
abbrev w0_X6_areTwins (cA : Nat → ClassId) (am : Nat → Nat) (tkv : Value) (ttv : Value) (t : Nat → Int32) (t_L : Nat → Int64) (t_kind : Nat → Int32) (t_pitch : Nat → Int32) : va_W := [((am 0), e_X6 am tkv ttv t t_L), ((am 17), eI cA 8 t_kind), ((am 19), eI cA 8 t_pitch)]
abbrev w1_X6_areTwins (cA : Nat → ClassId) (am : Nat → Nat) (tkv : Value) (ttv : Value) (t : Nat → Int32) (t_L : Nat → Int64) (t_kind : Nat → Int32) (t_pitch : Nat → Int32) (u : Unit) : va_W := [((am 0), e_X6 am tkv ttv t t_L), ((am 17), eI cA 8 t_kind), ((am 19), eI cA 8 t_pitch)]
theorem hd_X6_areTwins : yX6_areTwins.cls = RX6 ∧ yX6_areTwins.cls ≠ "java/lang/invoke/MethodHandle" ∧ yX6_areTwins.cls ≠ "java/lang/invoke/VarHandle" ∧ (parseMethodDescriptor yX6_areTwins.desc).map (fun d => d.parameters.length) = some 2 := by decide +kernel
set_option maxHeartbeats 40000000 in
set_option maxRecDepth 100000 in
theorem c_X6_areTwins (l : Launch) (D : va_G) (cA : Nat → ClassId) (sz : Nat) (fu : Nat) (am : Nat → Nat) (tkv : Value) (ttv : Value) (t : Nat → Int32) (t_L : Nat → Int64) (t_kind : Nat → Int32) (t_pitch : Nat → Int32) (l1 : Int32) (l2 : Int32) (out : Int32 × Unit) (hm : m_X6_areTwins fu t t_L t_kind t_pitch l1 l2 = some out) : MI l yX6_areTwins (wU yX6_areTwins cX6_areTwins 4 ((Option.some Jvm.ClassFile.FieldType.boolean))) rm_X6_areTwins D cA sz [.ref (am 0), .int l1, .int l2] (w0_X6_areTwins cA am tkv ttv t t_L t_kind t_pitch) out (w1_X6_areTwins cA am tkv ttv t t_L t_kind t_pitch) := by
  refine Met.ofW (cc := cX6_areTwins) (maxL := 4) (ret := (Option.some Jvm.ClassFile.FieldType.boolean)) (by decide) rfl ?_
  intro p e s m args below meth c s₁ B hml hv
  obtain ⟨hargs, hsz, hP, hK, hD0, hN⟩ := hv
  have hx := B.exec
  have hb := B.bytes
  have hr := B.returns
  have htg : ∀ w ∈ gw, w.before args s = true := fun w h => atoms_spec (ws := wU yX6_areTwins cX6_areTwins 4 ((Option.some Jvm.ClassFile.FieldType.boolean))) B.pre w (List.mem_cons_of_mem _ h)
  have hown : s.vm.findClass RX6 = some m.cls := findClass_of_methodNamed B.named
  have hlocks := B.notSynchronized
  subst hsz
  have hD := hD0.self (sz := s.heap.size)
  have hA : ∀ q : Nat, s.heap.size ≤ q → va_A (w0_X6_areTwins cA am tkv ttv t t_L t_kind t_pitch) s.heap.size q := fun q h => Or.inr h
  have hS : va_S (va_A (w0_X6_areTwins cA am tkv ttv t t_L t_kind t_pitch) s.heap.size) s.heap s.heap [] := va_S.rf
  generalize va_A (w0_X6_areTwins cA am tkv ttv t t_L t_kind t_pitch) s.heap.size = A at hA hD hS ⊢
  obtain ⟨Q, hQ⟩ : ∃ Q : State → Prop, Q = MQ below (va_Qi (fun (r : Int32) (u : Unit) => (r, u) = out) (pst0 D cA A (w1_X6_areTwins cA am tkv ttv t t_L t_kind t_pitch)) A) args s 0 0 A := ⟨_, rfl⟩
  refine (?_ : W p l e rm_X6_areTwins s m args below meth c s.heap [] 0 0 (MQ below (va_Qi (fun (r : Int32) (u : Unit) => (r, u) = out) (pst0 D cA A (w1_X6_areTwins cA am tkv ttv t t_L t_kind t_pitch)) A) args s 0 0 A) (entryFrame m args 4))
  rw [← hQ]
  have hP : va_P D CL [((am 0), e_X6 am tkv ttv t t_L), ((am 17), eI cA 8 t_kind), ((am 19), eI cA 8 t_pitch)] s.heap := hP
  have hD : va_D A [((am 0), e_X6 am tkv ttv t t_L), ((am 17), eI cA 8 t_kind), ((am 19), eI cA 8 t_pitch)] := hD
  have B_2 : ∀ (n : Nat) (x : Int32 × Int32 × Int32) (H : Heap) (locs : List Loc) (ls : Array Slot), lfix (b_X6_areTwins_2 fu t t_L t_kind t_pitch) n x = some out → va_P D CL [((am 0), e_X6 am tkv ttv t t_L), ((am 17), eI cA 8 t_kind), ((am 19), eI cA 8 t_pitch)] H → va_D A [((am 0), e_X6 am tkv ttv t t_L), ((am 17), eI cA 8 t_kind), ((am 19), eI cA 8 t_pitch)] → va_S A s.heap H locs → lv_has ls 4 [(0, .ref (am 0)), (1, .int x.1), (2, .int x.2.1), (3, .int x.2.2)] → W p l e rm_X6_areTwins s m args below meth c H locs 0 0 Q (F0 m 2 ls []) := by
    intro  n
    induction n with
    | zero => intro x H locs ls hm; cases (show none = some out from hm)
    | succ n HK_2 =>
      intro x H locs ls hm hP hD hS hl
      replace hm : b_X6_areTwins_2 fu t t_L t_kind t_pitch (lfix (b_X6_areTwins_2 fu t t_L t_kind t_pitch) n) x = some out := hm
      unfold b_X6_areTwins_2 at hm
      refine lv_iload_n hx hb dX6_areTwins_2 rfl (lv_at hl 3 rfl) ?_
      refine lv_bipush (v := (40 : Int32)) hx hb dX6_areTwins_3 (by decide) ?_
      refine lv_icmp_ge (tgt := 31) hx hb dX6_areTwins_5 (by decide) (fun c1 => ?_) (fun c1 => ?_)
      · have hm := it_t c1 hm
        refine lv_iconst (v := (1 : Int32)) hx hb dX6_areTwins_31 (by decide) ?_
        rw [hQ]
        exact W.zret (v := (1 : Int32)) hx hb hr rfl (fun t9 ht hW => ⟨⟨(1 : Int32), (), rfl, (Option.some.inj hm), by rw [ht]; exact hP, va_K.moved hW.alike hK, hD⟩, hS.F ht⟩) hS.2.2 dX6_areTwins_32
      · have hm := it_f c1 hm
        refine lv_aload_n hx hb dX6_areTwins_8 rfl (lv_at hl 0 rfl) ?_
        refine lv_iload_n hx hb dX6_areTwins_9 rfl (lv_at hl 1 rfl) ?_
        refine lv_iload_n hx hb dX6_areTwins_10 rfl (lv_at hl 3 rfl) ?_
        obtain ⟨o2, ho3, hm⟩ := bd_s hm
        refine xr_i (wr := []) (wn := [((am 0), e_X6 am tkv ttv t t_L), ((am 17), eI cA 8 t_kind), ((am 19), eI cA 8 t_pitch)]) (va_runV (As := [.int x.1, .int x.2.2]) (rest := []) ⟨hx, hb, hml, hown, htg⟩ (c_X6_comesBack l D cA _ fu am tkv ttv t t_L t_kind t_pitch x.1 x.2.2 o2 ho3) (cwV 2 htg (gV q_5_159 q_5_161 q_p5_12 q_1_8 q_5_162) rfl rfl rfl hd_X6_comesBack ⟨Nat.le_of_ble_eq_true rfl, Nat.le_of_ble_eq_true rfl⟩) (xpV hN hK hP hD [0, 1, 2] rfl (by decide) rfl rfl) rfl rfl hl.1 rfl (lv_room (Nat.le_of_ble_eq_true rfl)) dX6_areTwins_11 ⟨Nat.zero_le _, Nat.zero_le _⟩) hP hD hS hA [0, 1, 2] [] [0, 1, 2] rfl rfl (by decide) (by decide) rfl (by decide) (fun H locs hP hD hS => ?_)
        refine lv_aload_n hx hb dX6_areTwins_14 rfl (lv_at hl 0 rfl) ?_
        refine lv_iload_n hx hb dX6_areTwins_15 rfl (lv_at hl 2 rfl) ?_
        refine lv_iload_n hx hb dX6_areTwins_16 rfl (lv_at hl 3 rfl) ?_
        obtain ⟨o4, ho5, hm⟩ := bd_s hm
        refine xr_i (wr := []) (wn := [((am 0), e_X6 am tkv ttv t t_L), ((am 17), eI cA 8 t_kind), ((am 19), eI cA 8 t_pitch)]) (va_runV (As := [.int x.2.1, .int x.2.2]) (rest := [.int o2.1]) ⟨hx, hb, hml, hown, htg⟩ (c_X6_comesBack l D cA _ fu am tkv ttv t t_L t_kind t_pitch x.2.1 x.2.2 o4 ho5) (cwV 2 htg (gV q_5_159 q_5_161 q_p5_12 q_1_8 q_5_162) rfl rfl rfl hd_X6_comesBack ⟨Nat.le_of_ble_eq_true rfl, Nat.le_of_ble_eq_true rfl⟩) (xpV hN hK hP hD [0, 1, 2] rfl (by decide) rfl rfl) rfl rfl hl.1 rfl (lv_room (Nat.le_of_ble_eq_true rfl)) dX6_areTwins_17 ⟨Nat.zero_le _, Nat.zero_le _⟩) hP hD hS hA [0, 1, 2] [] [0, 1, 2] rfl rfl (by decide) (by decide) rfl (by decide) (fun H locs hP hD hS => ?_)
        refine lv_icmp_eq (tgt := 25) hx hb dX6_areTwins_20 (by decide) (fun c6 => ?_) (fun c6 => ?_)
        · have hm := it_t c6 hm
          refine lv_iinc (v := (x.2.2 + (1 : Int32))) (lv' := [(3, .int (x.2.2 + (1 : Int32))), (0, .ref (am 0)), (1, .int x.1), (2, .int x.2.1)]) hx hb dX6_areTwins_25 hl (k := 3) rfl rfl (by decide) rfl (fun ls hl => ?_)
          refine lv_goto (tgt := 2) hx hb dX6_areTwins_28 (by decide) ?_
          exact HK_2 _ _ _ _ hm hP hD hS (lv_sub hl [1, 2, 3, 0] rfl)
        · have hm := it_f c6 hm
          refine lv_iconst (v := (0 : Int32)) hx hb dX6_areTwins_23 (by decide) ?_
          rw [hQ]
          exact W.zret (v := (0 : Int32)) hx hb hr rfl (fun t9 ht hW => ⟨⟨(0 : Int32), (), rfl, (Option.some.inj hm), by rw [ht]; exact hP, va_K.moved hW.alike hK, hD⟩, hS.F ht⟩) hS.2.2 dX6_areTwins_24
  unfold m_X6_areTwins at hm
  subst hargs
  have hl := lv_entry ([.ref (am 0), .int l1, .int l2]) (n := 4) (Nat.le_of_ble_eq_true rfl)
  rw [lg_entry_eq]
  generalize (lg_sl ([.ref (am 0), .int l1, .int l2]) ++ List.replicate (4 - (lg_sl ([.ref (am 0), .int l1, .int l2])).length) Slot.unset).toArray = ls at hl ⊢
  have hl : lv_has ls 4 [(0, .ref (am 0)), (1, .int l1), (2, .int l2)] := hl
  refine lv_iconst (v := (0 : Int32)) hx hb dX6_areTwins_0 (by decide) ?_
  refine lv_istore_n (lv' := [(3, .int (0 : Int32)), (0, .ref (am 0)), (1, .int l1), (2, .int l2)]) hx hb dX6_areTwins_1 rfl hl (by decide) rfl (fun ls hl => ?_)
  exact B_2 fu _ _ _ _ hm hP hD hS (lv_sub hl [1, 2, 3, 0] rfl)
def b_X6_twins_34 (fu : Nat) (t : Nat → Int32) (t_L : Nat → Int64) (t_kind : Nat → Int32) (t_pitch : Nat → Int32) (k_4 : (Int32 × Int32) → Option (Int32 × Unit)) (k_14 : (Int32 × Int32 × Int32) → Option (Int32 × Unit)) (l2 : Int32) (l3 : Int32) (s0 : Int32) (s1 : Int32) : Option (Int32 × Unit) :=
  k_14 ((s0 + s1), l2, (l3 + (1 : Int32)))
def b_X6_twins_14 (fu : Nat) (t : Nat → Int32) (t_L : Nat → Int64) (t_kind : Nat → Int32) (t_pitch : Nat → Int32) (k_4 : (Int32 × Int32) → Option (Int32 × Unit)) (k_14 : (Int32 × Int32 × Int32) → Option (Int32 × Unit)) (x : Int32 × Int32 × Int32) : Option (Int32 × Unit) :=
  (if x.2.1 ≤ x.2.2 then
        k_4 (x.1, (x.2.1 + (1 : Int32)))
      else
        (m_X6_areTwins fu t t_L t_kind t_pitch x.2.1 x.2.2).bind fun o2 =>
        (if o2.1 = 0 then
          b_X6_twins_34 fu t t_L t_kind t_pitch k_4 k_14 x.2.1 x.2.2 x.1 (0 : Int32)
        else
          b_X6_twins_34 fu t t_L t_kind t_pitch k_4 k_14 x.2.1 x.2.2 x.1 (1 : Int32)))
def b_X6_twins_4 (fu : Nat) (t : Nat → Int32) (t_L : Nat → Int64) (t_kind : Nat → Int32) (t_pitch : Nat → Int32) (k_4 : (Int32 × Int32) → Option (Int32 × Unit)) (x : Int32 × Int32) : Option (Int32 × Unit) :=
  (if t 16 ≤ x.2 then
        some (x.1, ())
      else
        lfix (b_X6_twins_14 fu t t_L t_kind t_pitch k_4) fu (x.1, x.2, (0 : Int32)))
def m_X6_twins (fu : Nat) (t : Nat → Int32) (t_L : Nat → Int64) (t_kind : Nat → Int32) (t_pitch : Nat → Int32) : Option (Int32 × Unit) :=
  lfix (b_X6_twins_4 fu t t_L t_kind t_pitch) fu ((0 : Int32), (0 : Int32))
abbrev rm_X6_twins : Room := ({ frames := 3, cells := 0, slots := 0, locals := 68 } : Room)
abbrev w0_X6_twins (cA : Nat → ClassId) (am : Nat → Nat) (tkv : Value) (ttv : Value) (t : Nat → Int32) (t_L : Nat → Int64) (t_kind : Nat → Int32) (t_pitch : Nat → Int32) : va_W := [((am 0), e_X6 am tkv ttv t t_L), ((am 17), eI cA 8 t_kind), ((am 19), eI cA 8 t_pitch)]
abbrev w1_X6_twins (cA : Nat → ClassId) (am : Nat → Nat) (tkv : Value) (ttv : Value) (t : Nat → Int32) (t_L : Nat → Int64) (t_kind : Nat → Int32) (t_pitch : Nat → Int32) (u : Unit) : va_W := [((am 0), e_X6 am tkv ttv t t_L), ((am 17), eI cA 8 t_kind), ((am 19), eI cA 8 t_pitch)]
theorem hd_X6_twins : yX6_twins.cls = RX6 ∧ yX6_twins.cls ≠ "java/lang/invoke/MethodHandle" ∧ yX6_twins.cls ≠ "java/lang/invoke/VarHandle" ∧ (parseMethodDescriptor yX6_twins.desc).map (fun d => d.parameters.length) = some 0 := by decide +kernel
set_option maxHeartbeats 40000000 in
set_option maxRecDepth 100000 in
theorem c_X6_twins (l : Launch) (D : va_G) (cA : Nat → ClassId) (sz : Nat) (fu : Nat) (am : Nat → Nat) (tkv : Value) (ttv : Value) (t : Nat → Int32) (t_L : Nat → Int64) (t_kind : Nat → Int32) (t_pitch : Nat → Int32) (out : Int32 × Unit) (hm : m_X6_twins fu t t_L t_kind t_pitch = some out) : MI l yX6_twins (wU yX6_twins cX6_twins 4 ((Option.some Jvm.ClassFile.FieldType.int))) rm_X6_twins D cA sz [.ref (am 0)] (w0_X6_twins cA am tkv ttv t t_L t_kind t_pitch) out (w1_X6_twins cA am tkv ttv t t_L t_kind t_pitch) := by
  refine Met.ofW (cc := cX6_twins) (maxL := 4) (ret := (Option.some Jvm.ClassFile.FieldType.int)) (by decide) rfl ?_
  intro p e s m args below meth c s₁ B hml hv
  obtain ⟨hargs, hsz, hP, hK, hD0, hN⟩ := hv
  have hx := B.exec
  have hb := B.bytes
  have hr := B.returns
  have htg : ∀ w ∈ gw, w.before args s = true := fun w h => atoms_spec (ws := wU yX6_twins cX6_twins 4 ((Option.some Jvm.ClassFile.FieldType.int))) B.pre w (List.mem_cons_of_mem _ h)
  have hown : s.vm.findClass RX6 = some m.cls := findClass_of_methodNamed B.named
  have hlocks := B.notSynchronized
  subst hsz
  have hD := hD0.self (sz := s.heap.size)
  have hA : ∀ q : Nat, s.heap.size ≤ q → va_A (w0_X6_twins cA am tkv ttv t t_L t_kind t_pitch) s.heap.size q := fun q h => Or.inr h
  have hS : va_S (va_A (w0_X6_twins cA am tkv ttv t t_L t_kind t_pitch) s.heap.size) s.heap s.heap [] := va_S.rf
  generalize va_A (w0_X6_twins cA am tkv ttv t t_L t_kind t_pitch) s.heap.size = A at hA hD hS ⊢
  obtain ⟨Q, hQ⟩ : ∃ Q : State → Prop, Q = MQ below (va_Qi (fun (r : Int32) (u : Unit) => (r, u) = out) (pst0 D cA A (w1_X6_twins cA am tkv ttv t t_L t_kind t_pitch)) A) args s 0 0 A := ⟨_, rfl⟩
  refine (?_ : W p l e rm_X6_twins s m args below meth c s.heap [] 0 0 (MQ below (va_Qi (fun (r : Int32) (u : Unit) => (r, u) = out) (pst0 D cA A (w1_X6_twins cA am tkv ttv t t_L t_kind t_pitch)) A) args s 0 0 A) (entryFrame m args 4))
  rw [← hQ]
  have hP : va_P D CL [((am 0), e_X6 am tkv ttv t t_L), ((am 17), eI cA 8 t_kind), ((am 19), eI cA 8 t_pitch)] s.heap := hP
  have hD : va_D A [((am 0), e_X6 am tkv ttv t t_L), ((am 17), eI cA 8 t_kind), ((am 19), eI cA 8 t_pitch)] := hD
  have B_34 : ∀ (k_4 : (Int32 × Int32) → Option (Int32 × Unit)) (HK_4 : ∀ (x : Int32 × Int32) (H : Heap) (locs : List Loc) (ls : Array Slot), k_4 x = some out → va_P D CL [((am 0), e_X6 am tkv ttv t t_L), ((am 17), eI cA 8 t_kind), ((am 19), eI cA 8 t_pitch)] H → va_D A [((am 0), e_X6 am tkv ttv t t_L), ((am 17), eI cA 8 t_kind), ((am 19), eI cA 8 t_pitch)] → va_S A s.heap H locs → lv_has ls 4 [(0, .ref (am 0)), (1, .int x.1), (2, .int x.2)] → W p l e rm_X6_twins s m args below meth c H locs 0 0 Q (F0 m 4 ls [])) (k_14 : (Int32 × Int32 × Int32) → Option (Int32 × Unit)) (HK_14 : ∀ (x : Int32 × Int32 × Int32) (H : Heap) (locs : List Loc) (ls : Array Slot), k_14 x = some out → va_P D CL [((am 0), e_X6 am tkv ttv t t_L), ((am 17), eI cA 8 t_kind), ((am 19), eI cA 8 t_pitch)] H → va_D A [((am 0), e_X6 am tkv ttv t t_L), ((am 17), eI cA 8 t_kind), ((am 19), eI cA 8 t_pitch)] → va_S A s.heap H locs → lv_has ls 4 [(0, .ref (am 0)), (1, .int x.1), (2, .int x.2.1), (3, .int x.2.2)] → W p l e rm_X6_twins s m args below meth c H locs 0 0 Q (F0 m 14 ls [])) (l2 : Int32) (l3 : Int32) (s0 : Int32) (s1 : Int32) (H : Heap) (locs : List Loc) (ls : Array Slot), b_X6_twins_34 fu t t_L t_kind t_pitch k_4 k_14 l2 l3 s0 s1 = some out → va_P D CL [((am 0), e_X6 am tkv ttv t t_L), ((am 17), eI cA 8 t_kind), ((am 19), eI cA 8 t_pitch)] H → va_D A [((am 0), e_X6 am tkv ttv t t_L), ((am 17), eI cA 8 t_kind), ((am 19), eI cA 8 t_pitch)] → va_S A s.heap H locs → lv_has ls 4 [(0, .ref (am 0)), (2, .int l2), (3, .int l3)] → W p l e rm_X6_twins s m args below meth c H locs 0 0 Q (F0 m 34 ls [.int s1, .int s0]) := by
    intro k_4 HK_4 k_14 HK_14 l2 l3 s0 s1 H locs ls hm hP hD hS hl
    unfold b_X6_twins_34 at hm
    refine lv_iadd hx hb dX6_twins_34 ?_
    refine lv_istore_n (lv' := [(1, .int (s0 + s1)), (0, .ref (am 0)), (2, .int l2), (3, .int l3)]) hx hb dX6_twins_35 rfl hl (by decide) rfl (fun ls hl => ?_)
    refine lv_iinc (v := (l3 + (1 : Int32))) (lv' := [(3, .int (l3 + (1 : Int32))), (1, .int (s0 + s1)), (0, .ref (am 0)), (2, .int l2)]) hx hb dX6_twins_36 hl (k := 3) rfl rfl (by decide) rfl (fun ls hl => ?_)
    refine lv_goto (tgt := 14) hx hb dX6_twins_39 (by decide) ?_
    exact HK_14 _ _ _ _ hm hP hD hS (lv_sub hl [2, 1, 3, 0] rfl)
  have B_14 : ∀ (k_4 : (Int32 × Int32) → Option (Int32 × Unit)) (HK_4 : ∀ (x : Int32 × Int32) (H : Heap) (locs : List Loc) (ls : Array Slot), k_4 x = some out → va_P D CL [((am 0), e_X6 am tkv ttv t t_L), ((am 17), eI cA 8 t_kind), ((am 19), eI cA 8 t_pitch)] H → va_D A [((am 0), e_X6 am tkv ttv t t_L), ((am 17), eI cA 8 t_kind), ((am 19), eI cA 8 t_pitch)] → va_S A s.heap H locs → lv_has ls 4 [(0, .ref (am 0)), (1, .int x.1), (2, .int x.2)] → W p l e rm_X6_twins s m args below meth c H locs 0 0 Q (F0 m 4 ls [])) (n : Nat) (x : Int32 × Int32 × Int32) (H : Heap) (locs : List Loc) (ls : Array Slot), lfix (b_X6_twins_14 fu t t_L t_kind t_pitch k_4) n x = some out → va_P D CL [((am 0), e_X6 am tkv ttv t t_L), ((am 17), eI cA 8 t_kind), ((am 19), eI cA 8 t_pitch)] H → va_D A [((am 0), e_X6 am tkv ttv t t_L), ((am 17), eI cA 8 t_kind), ((am 19), eI cA 8 t_pitch)] → va_S A s.heap H locs → lv_has ls 4 [(0, .ref (am 0)), (1, .int x.1), (2, .int x.2.1), (3, .int x.2.2)] → W p l e rm_X6_twins s m args below meth c H locs 0 0 Q (F0 m 14 ls []) := by
    intro k_4 HK_4 n
    induction n with
    | zero => intro x H locs ls hm; cases (show none = some out from hm)
    | succ n HK_14 =>
      intro x H locs ls hm hP hD hS hl
      replace hm : b_X6_twins_14 fu t t_L t_kind t_pitch k_4 (lfix (b_X6_twins_14 fu t t_L t_kind t_pitch k_4) n) x = some out := hm
      unfold b_X6_twins_14 at hm
      refine lv_iload_n hx hb dX6_twins_14 rfl (lv_at hl 3 rfl) ?_
      refine lv_iload_n hx hb dX6_twins_15 rfl (lv_at hl 2 rfl) ?_
      refine lv_icmp_ge (tgt := 42) hx hb dX6_twins_16 (by decide) (fun c1 => ?_) (fun c1 => ?_)
      · have hm := it_t c1 hm
        refine lv_iinc (v := (x.2.1 + (1 : Int32))) (lv' := [(2, .int (x.2.1 + (1 : Int32))), (0, .ref (am 0)), (1, .int x.1), (3, .int x.2.2)]) hx hb dX6_twins_42 hl (k := 2) rfl rfl (by decide) rfl (fun ls hl => ?_)
        refine lv_goto (tgt := 4) hx hb dX6_twins_45 (by decide) ?_
        exact HK_4 _ _ _ _ hm hP hD hS (lv_sub hl [1, 2, 0] rfl)
      · have hm := it_f c1 hm
        refine lv_iload_n hx hb dX6_twins_19 rfl (lv_at hl 1 rfl) ?_
        refine lv_aload_n hx hb dX6_twins_20 rfl (lv_at hl 0 rfl) ?_
        refine lv_iload_n hx hb dX6_twins_21 rfl (lv_at hl 2 rfl) ?_
        refine lv_iload_n hx hb dX6_twins_22 rfl (lv_at hl 3 rfl) ?_
        obtain ⟨o2, ho3, hm⟩ := bd_s hm
        refine xr_i (wr := []) (wn := [((am 0), e_X6 am tkv ttv t t_L), ((am 17), eI cA 8 t_kind), ((am 19), eI cA 8 t_pitch)]) (va_runV (As := [.int x.2.1, .int x.2.2]) (rest := [.int x.1]) ⟨hx, hb, hml, hown, htg⟩ (c_X6_areTwins l D cA _ fu am tkv ttv t t_L t_kind t_pitch x.2.1 x.2.2 o2 ho3) (cwV 2 htg (gV q_6_37 q_6_39 q_p6_7 q_1_8 q_6_40) rfl rfl rfl hd_X6_areTwins ⟨Nat.le_of_ble_eq_true rfl, Nat.le_of_ble_eq_true rfl⟩) (xpV hN hK hP hD [0, 1, 2] rfl (by decide) rfl rfl) rfl rfl hl.1 rfl (lv_room (Nat.le_of_ble_eq_true rfl)) dX6_twins_23 ⟨Nat.zero_le _, Nat.zero_le _⟩) hP hD hS hA [0, 1, 2] [] [0, 1, 2] rfl rfl (by decide) (by decide) rfl (by decide) (fun H locs hP hD hS => ?_)
        refine lv_if_eq (tgt := 33) hx hb dX6_twins_26 (by decide) (fun c4 => ?_) (fun c4 => ?_)
        · have hm := it_t c4 hm
          refine lv_iconst (v := (0 : Int32)) hx hb dX6_twins_33 (by decide) ?_
          exact B_34 _ HK_4 _ HK_14 _ _ _ _ _ _ _ hm hP hD hS (lv_sub hl [0, 2, 3] rfl)
        · have hm := it_f c4 hm
          refine lv_iconst (v := (1 : Int32)) hx hb dX6_twins_29 (by decide) ?_
          refine lv_goto (tgt := 34) hx hb dX6_twins_30 (by decide) ?_
          exact B_34 _ HK_4 _ HK_14 _ _ _ _ _ _ _ hm hP hD hS (lv_sub hl [0, 2, 3] rfl)
  have B_4 : ∀ (n : Nat) (x : Int32 × Int32) (H : Heap) (locs : List Loc) (ls : Array Slot), lfix (b_X6_twins_4 fu t t_L t_kind t_pitch) n x = some out → va_P D CL [((am 0), e_X6 am tkv ttv t t_L), ((am 17), eI cA 8 t_kind), ((am 19), eI cA 8 t_pitch)] H → va_D A [((am 0), e_X6 am tkv ttv t t_L), ((am 17), eI cA 8 t_kind), ((am 19), eI cA 8 t_pitch)] → va_S A s.heap H locs → lv_has ls 4 [(0, .ref (am 0)), (1, .int x.1), (2, .int x.2)] → W p l e rm_X6_twins s m args below meth c H locs 0 0 Q (F0 m 4 ls []) := by
    intro  n
    induction n with
    | zero => intro x H locs ls hm; cases (show none = some out from hm)
    | succ n HK_4 =>
      intro x H locs ls hm hP hD hS hl
      replace hm : b_X6_twins_4 fu t t_L t_kind t_pitch (lfix (b_X6_twins_4 fu t t_L t_kind t_pitch) n) x = some out := hm
      unfold b_X6_twins_4 at hm
      refine lv_iload_n hx hb dX6_twins_4 rfl (lv_at hl 2 rfl) ?_
      refine lv_aload_n hx hb dX6_twins_5 rfl (lv_at hl 0 rfl) ?_
      refine va_get (D := D) (ci := 6) (v := .int (t 16)) (C := RX6) (T := TX6) (N := 49) hx hb htg inX6 hown hK hP 0 rfl rfl 16 (by decide) (htg _ q_4_205) (fun _ h9 => h9) rfl dX6_twins_6 ?_
      refine lv_icmp_ge (tgt := 48) hx hb dX6_twins_9 (by decide) (fun c5 => ?_) (fun c5 => ?_)
      · have hm := it_t c5 hm
        refine lv_iload_n hx hb dX6_twins_48 rfl (lv_at hl 1 rfl) ?_
        rw [hQ]
        exact W.iret (v := x.1) hx hb hr (fun t9 ht hW => ⟨⟨x.1, (), rfl, (Option.some.inj hm), by rw [ht]; exact hP, va_K.moved hW.alike hK, hD⟩, hS.F ht⟩) hS.2.2 dX6_twins_49
      · have hm := it_f c5 hm
        refine lv_iconst (v := (0 : Int32)) hx hb dX6_twins_12 (by decide) ?_
        refine lv_istore_n (lv' := [(3, .int (0 : Int32)), (0, .ref (am 0)), (1, .int x.1), (2, .int x.2)]) hx hb dX6_twins_13 rfl hl (by decide) rfl (fun ls hl => ?_)
        exact B_14 _ HK_4 fu _ _ _ _ hm hP hD hS (lv_sub hl [1, 2, 3, 0] rfl)
  unfold m_X6_twins at hm
  subst hargs
  have hl := lv_entry ([.ref (am 0)]) (n := 4) (Nat.le_of_ble_eq_true rfl)
  rw [lg_entry_eq]
  generalize (lg_sl ([.ref (am 0)]) ++ List.replicate (4 - (lg_sl ([.ref (am 0)])).length) Slot.unset).toArray = ls at hl ⊢
  have hl : lv_has ls 4 [(0, .ref (am 0))] := hl
  refine lv_iconst (v := (0 : Int32)) hx hb dX6_twins_0 (by decide) ?_
  refine lv_istore_n (lv' := [(1, .int (0 : Int32)), (0, .ref (am 0))]) hx hb dX6_twins_1 rfl hl (by decide) rfl (fun ls hl => ?_)
  refine lv_iconst (v := (0 : Int32)) hx hb dX6_twins_2 (by decide) ?_
  refine lv_istore_n (lv' := [(2, .int (0 : Int32)), (1, .int (0 : Int32)), (0, .ref (am 0))]) hx hb dX6_twins_3 rfl hl (by decide) rfl (fun ls hl => ?_)
  exact B_4 fu _ _ _ _ hm hP hD hS (lv_sub hl [2, 1, 0] rfl)
def b_X6_ofKind_47 (fu : Nat) (t : Nat → Int32) (t_L : Nat → Int64) (t_kind : Nat → Int32) (k_23 : (Int32 × Int32 × Int32 × (Nat → Int32)) → Option (Int32 × (Nat → Int32))) (l1 : Int32) (l3 : Int32) (s0 : Int32) (s1 : Int32) (t_refused : Nat → Int32) : Option (Int32 × (Nat → Int32)) :=
  k_23 (l1, (s0 + s1), (l3 + (1 : Int32)), t_refused)
def b_X6_ofKind_23 (fu : Nat) (t : Nat → Int32) (t_L : Nat → Int64) (t_kind : Nat → Int32) (k_23 : (Int32 × Int32 × Int32 × (Nat → Int32)) → Option (Int32 × (Nat → Int32))) (x : Int32 × Int32 × Int32 × (Nat → Int32)) : Option (Int32 × (Nat → Int32)) :=
  (if t 16 ≤ x.2.2.1 then
        some (x.2.1, x.2.2.2)
      else
        gd (inb x.2.2.1 8) (
        (if (t_kind x.2.2.1.toNatClampNeg) = x.1 then
          b_X6_ofKind_47 fu t t_L t_kind k_23 x.1 x.2.2.1 x.2.1 (1 : Int32) x.2.2.2
        else
          b_X6_ofKind_47 fu t t_L t_kind k_23 x.1 x.2.2.1 x.2.1 (0 : Int32) x.2.2.2)))
def m_X6_ofKind (fu : Nat) (t : Nat → Int32) (t_L : Nat → Int64) (t_refused : Nat → Int32) (t_kind : Nat → Int32) (l1 : Int32) : Option (Int32 × (Nat → Int32)) :=
  (m_X6_in fu l1.toInt64 (0 : Int64) (5 : Int64)).bind fun o4 =>
  (if o4.1 = 0 then
    (m_X6_refuse fu t t_L t_refused (-2 : Int32)).bind fun o7 =>
    some (o7.1, o7.2)
  else
    lfix (b_X6_ofKind_23 fu t t_L t_kind) fu (l1, (0 : Int32), (0 : Int32), t_refused))
abbrev rm_X6_ofKind : Room := ({ frames := 1, cells := 0, slots := 0, locals := 25 } : Room)
abbrev w0_X6_ofKind (cA : Nat → ClassId) (am : Nat → Nat) (tkv : Value) (ttv : Value) (t : Nat → Int32) (t_L : Nat → Int64) (t_refused : Nat → Int32) (t_kind : Nat → Int32) : va_W := [((am 0), e_X6 am tkv ttv t t_L), ((am 16), eI cA 8 t_refused), ((am 17), eI cA 8 t_kind)]
abbrev w1_X6_ofKind (cA : Nat → ClassId) (am : Nat → Nat) (tkv : Value) (ttv : Value) (t : Nat → Int32) (t_L : Nat → Int64) (t_kind : Nat → Int32) (u : (Nat → Int32)) : va_W := [((am 0), e_X6 am tkv ttv t t_L), ((am 16), eI cA 8 u), ((am 17), eI cA 8 t_kind)]
theorem hd_X6_ofKind : yX6_ofKind.cls = RX6 ∧ yX6_ofKind.cls ≠ "java/lang/invoke/MethodHandle" ∧ yX6_ofKind.cls ≠ "java/lang/invoke/VarHandle" ∧ (parseMethodDescriptor yX6_ofKind.desc).map (fun d => d.parameters.length) = some 1 := by decide +kernel
set_option maxHeartbeats 40000000 in
set_option maxRecDepth 100000 in
theorem c_X6_ofKind (l : Launch) (D : va_G) (cA : Nat → ClassId) (sz : Nat) (fu : Nat) (am : Nat → Nat) (tkv : Value) (ttv : Value) (t : Nat → Int32) (t_L : Nat → Int64) (t_refused : Nat → Int32) (t_kind : Nat → Int32) (l1 : Int32) (out : Int32 × (Nat → Int32)) (hm : m_X6_ofKind fu t t_L t_refused t_kind l1 = some out) : MI l yX6_ofKind (wU yX6_ofKind cX6_ofKind 4 ((Option.some Jvm.ClassFile.FieldType.int))) rm_X6_ofKind D cA sz [.ref (am 0), .int l1] (w0_X6_ofKind cA am tkv ttv t t_L t_refused t_kind) out (w1_X6_ofKind cA am tkv ttv t t_L t_kind) := by
  refine Met.ofW (cc := cX6_ofKind) (maxL := 4) (ret := (Option.some Jvm.ClassFile.FieldType.int)) (by decide) rfl ?_
  intro p e s m args below meth c s₁ B hml hv
  obtain ⟨hargs, hsz, hP, hK, hD0, hN⟩ := hv
  have hx := B.exec
  have hb := B.bytes
  have hr := B.returns
  have htg : ∀ w ∈ gw, w.before args s = true := fun w h => atoms_spec (ws := wU yX6_ofKind cX6_ofKind 4 ((Option.some Jvm.ClassFile.FieldType.int))) B.pre w (List.mem_cons_of_mem _ h)
  have hown : s.vm.findClass RX6 = some m.cls := findClass_of_methodNamed B.named
  have hlocks := B.notSynchronized
  subst hsz
  have hD := hD0.self (sz := s.heap.size)
  have hA : ∀ q : Nat, s.heap.size ≤ q → va_A (w0_X6_ofKind cA am tkv ttv t t_L t_refused t_kind) s.heap.size q := fun q h => Or.inr h
  have hS : va_S (va_A (w0_X6_ofKind cA am tkv ttv t t_L t_refused t_kind) s.heap.size) s.heap s.heap [] := va_S.rf
  generalize va_A (w0_X6_ofKind cA am tkv ttv t t_L t_refused t_kind) s.heap.size = A at hA hD hS ⊢
  obtain ⟨Q, hQ⟩ : ∃ Q : State → Prop, Q = MQ below (va_Qi (fun (r : Int32) (u : (Nat → Int32)) => (r, u) = out) (pst0 D cA A (w1_X6_ofKind cA am tkv ttv t t_L t_kind)) A) args s 0 0 A := ⟨_, rfl⟩
  refine (?_ : W p l e rm_X6_ofKind s m args below meth c s.heap [] 0 0 (MQ below (va_Qi (fun (r : Int32) (u : (Nat → Int32)) => (r, u) = out) (pst0 D cA A (w1_X6_ofKind cA am tkv ttv t t_L t_kind)) A) args s 0 0 A) (entryFrame m args 4))
  rw [← hQ]
  have hP : va_P D CL [((am 0), e_X6 am tkv ttv t t_L), ((am 16), eI cA 8 t_refused), ((am 17), eI cA 8 t_kind)] s.heap := hP
  have hD : va_D A [((am 0), e_X6 am tkv ttv t t_L), ((am 16), eI cA 8 t_refused), ((am 17), eI cA 8 t_kind)] := hD
  have B_47 : ∀ (k_23 : (Int32 × Int32 × Int32 × (Nat → Int32)) → Option (Int32 × (Nat → Int32))) (HK_23 : ∀ (x : Int32 × Int32 × Int32 × (Nat → Int32)) (H : Heap) (locs : List Loc) (ls : Array Slot), k_23 x = some out → va_P D CL [((am 0), e_X6 am tkv ttv t t_L), ((am 16), eI cA 8 x.2.2.2), ((am 17), eI cA 8 t_kind)] H → va_D A [((am 0), e_X6 am tkv ttv t t_L), ((am 16), eI cA 8 x.2.2.2), ((am 17), eI cA 8 t_kind)] → va_S A s.heap H locs → lv_has ls 4 [(0, .ref (am 0)), (1, .int x.1), (2, .int x.2.1), (3, .int x.2.2.1)] → W p l e rm_X6_ofKind s m args below meth c H locs 0 0 Q (F0 m 23 ls [])) (l1 : Int32) (l3 : Int32) (s0 : Int32) (s1 : Int32) (t_refused : Nat → Int32) (H : Heap) (locs : List Loc) (ls : Array Slot), b_X6_ofKind_47 fu t t_L t_kind k_23 l1 l3 s0 s1 t_refused = some out → va_P D CL [((am 0), e_X6 am tkv ttv t t_L), ((am 16), eI cA 8 t_refused), ((am 17), eI cA 8 t_kind)] H → va_D A [((am 0), e_X6 am tkv ttv t t_L), ((am 16), eI cA 8 t_refused), ((am 17), eI cA 8 t_kind)] → va_S A s.heap H locs → lv_has ls 4 [(0, .ref (am 0)), (1, .int l1), (3, .int l3)] → W p l e rm_X6_ofKind s m args below meth c H locs 0 0 Q (F0 m 47 ls [.int s1, .int s0]) := by
    intro k_23 HK_23 l1 l3 s0 s1 t_refused H locs ls hm hP hD hS hl
    unfold b_X6_ofKind_47 at hm
    refine lv_iadd hx hb dX6_ofKind_47 ?_
    refine lv_istore_n (lv' := [(2, .int (s0 + s1)), (0, .ref (am 0)), (1, .int l1), (3, .int l3)]) hx hb dX6_ofKind_48 rfl hl (by decide) rfl (fun ls hl => ?_)
    refine lv_iinc (v := (l3 + (1 : Int32))) (lv' := [(3, .int (l3 + (1 : Int32))), (2, .int (s0 + s1)), (0, .ref (am 0)), (1, .int l1)]) hx hb dX6_ofKind_49 hl (k := 3) rfl rfl (by decide) rfl (fun ls hl => ?_)
    refine lv_goto (tgt := 23) hx hb dX6_ofKind_52 (by decide) ?_
    exact HK_23 _ _ _ _ hm hP hD hS (lv_sub hl [2, 3, 1, 0] rfl)
  have B_23 : ∀ (n : Nat) (x : Int32 × Int32 × Int32 × (Nat → Int32)) (H : Heap) (locs : List Loc) (ls : Array Slot), lfix (b_X6_ofKind_23 fu t t_L t_kind) n x = some out → va_P D CL [((am 0), e_X6 am tkv ttv t t_L), ((am 16), eI cA 8 x.2.2.2), ((am 17), eI cA 8 t_kind)] H → va_D A [((am 0), e_X6 am tkv ttv t t_L), ((am 16), eI cA 8 x.2.2.2), ((am 17), eI cA 8 t_kind)] → va_S A s.heap H locs → lv_has ls 4 [(0, .ref (am 0)), (1, .int x.1), (2, .int x.2.1), (3, .int x.2.2.1)] → W p l e rm_X6_ofKind s m args below meth c H locs 0 0 Q (F0 m 23 ls []) := by
    intro  n
    induction n with
    | zero => intro x H locs ls hm; cases (show none = some out from hm)
    | succ n HK_23 =>
      intro x H locs ls hm hP hD hS hl
      replace hm : b_X6_ofKind_23 fu t t_L t_kind (lfix (b_X6_ofKind_23 fu t t_L t_kind) n) x = some out := hm
      unfold b_X6_ofKind_23 at hm
      refine lv_iload_n hx hb dX6_ofKind_23 rfl (lv_at hl 3 rfl) ?_
      refine lv_aload_n hx hb dX6_ofKind_24 rfl (lv_at hl 0 rfl) ?_
      refine va_get (D := D) (ci := 6) (v := .int (t 16)) (C := RX6) (T := TX6) (N := 49) hx hb htg inX6 hown hK hP 0 rfl rfl 16 (by decide) (htg _ q_4_205) (fun _ h9 => h9) rfl dX6_ofKind_25 ?_
      refine lv_icmp_ge (tgt := 55) hx hb dX6_ofKind_28 (by decide) (fun c1 => ?_) (fun c1 => ?_)
      · have hm := it_t c1 hm
        refine lv_iload_n hx hb dX6_ofKind_55 rfl (lv_at hl 2 rfl) ?_
        rw [hQ]
        exact W.iret (v := x.2.1) hx hb hr (fun t9 ht hW => ⟨⟨x.2.1, x.2.2.2, rfl, (Option.some.inj hm), by rw [ht]; exact hP, va_K.moved hW.alike hK, hD⟩, hS.F ht⟩) hS.2.2 dX6_ofKind_56
      · have hm := it_f c1 hm
        refine lv_iload_n hx hb dX6_ofKind_31 rfl (lv_at hl 2 rfl) ?_
        refine lv_aload_n hx hb dX6_ofKind_32 rfl (lv_at hl 0 rfl) ?_
        refine va_get (D := D) (ci := 6) (v := .ref (am 17)) (C := RX6) (T := TX6) (N := 49) hx hb htg inX6 hown hK hP 0 rfl rfl 17 (by decide) (htg _ q_4_206) (fun _ h9 => h9) rfl dX6_ofKind_33 ?_
        refine lv_iload_n hx hb dX6_ofKind_36 rfl (lv_at hl 3 rfl) ?_
        obtain ⟨hi2, hm⟩ := gd_s hm
        refine va_iald hx hb hK hP 2 0 rfl rfl hi2 dX6_ofKind_37 ?_
        refine lv_iload_n hx hb dX6_ofKind_38 rfl (lv_at hl 1 rfl) ?_
        refine lv_icmp_ne (tgt := 46) hx hb dX6_ofKind_39 (by decide) (fun c3 => ?_) (fun c3 => ?_)
        · have hm := it_f c3 hm
          refine lv_iconst (v := (0 : Int32)) hx hb dX6_ofKind_46 (by decide) ?_
          exact B_47 _ HK_23 _ _ _ _ _ _ _ _ hm hP hD hS (lv_sub hl [0, 1, 3] rfl)
        · have hm := it_t c3 hm
          refine lv_iconst (v := (1 : Int32)) hx hb dX6_ofKind_42 (by decide) ?_
          refine lv_goto (tgt := 47) hx hb dX6_ofKind_43 (by decide) ?_
          exact B_47 _ HK_23 _ _ _ _ _ _ _ _ hm hP hD hS (lv_sub hl [0, 1, 3] rfl)
  unfold m_X6_ofKind at hm
  subst hargs
  have hl := lv_entry ([.ref (am 0), .int l1]) (n := 4) (Nat.le_of_ble_eq_true rfl)
  rw [lg_entry_eq]
  generalize (lg_sl ([.ref (am 0), .int l1]) ++ List.replicate (4 - (lg_sl ([.ref (am 0), .int l1])).length) Slot.unset).toArray = ls at hl ⊢
  have hl : lv_has ls 4 [(0, .ref (am 0)), (1, .int l1)] := hl
  refine lv_iload_n hx hb dX6_ofKind_0 rfl (lv_at hl 1 rfl) ?_
  refine lv_i2l hx hb dX6_ofKind_1 rfl ?_
  refine lv_lconst (v := (0 : Int64)) hx hb dX6_ofKind_2 (by decide) ?_
  refine lv_ldc2 (v := (5 : Int64)) hx hb hown (htg _ q_5_147) dX6_ofKind_3 ?_
  obtain ⟨o4, ho5, hm⟩ := bd_s hm
  refine xr_i (wr := [((am 0), e_X6 am tkv ttv t t_L), ((am 16), eI cA 8 t_refused), ((am 17), eI cA 8 t_kind)]) (wn := [((am 0), e_X6 am tkv ttv t t_L), ((am 16), eI cA 8 t_refused), ((am 17), eI cA 8 t_kind)]) (va_runS (As := [.long l1.toInt64, .long (0 : Int64), .long (5 : Int64)]) (rest := []) ⟨hx, hb, hml, hown, htg⟩ (c_X6_in l D cA _ fu l1.toInt64 (0 : Int64) (5 : Int64) o4 ho5) (cwS 3 htg (gS q_5_103 q_5_104 q_1_8 q_5_105) rfl rfl rfl hd_X6_in ⟨Nat.le_of_ble_eq_true rfl, Nat.le_of_ble_eq_true rfl⟩) (xpS hN hK hP hD [] rfl (by decide)) rfl rfl hl.1 rfl (lv_room (Nat.le_of_ble_eq_true rfl)) dX6_ofKind_6 ⟨Nat.zero_le _, Nat.zero_le _⟩) hP hD hS hA [] [0, 1, 2] [0, 1, 2] rfl rfl (by decide) (by decide) rfl (by decide) (fun H locs hP hD hS => ?_)
  refine lv_if_ne (tgt := 19) hx hb dX6_ofKind_9 (by decide) (fun c6 => ?_) (fun c6 => ?_)
  · have hm := it_f c6 hm
    refine lv_iconst (v := (0 : Int32)) hx hb dX6_ofKind_19 (by decide) ?_
    refine lv_istore_n (lv' := [(2, .int (0 : Int32)), (0, .ref (am 0)), (1, .int l1)]) hx hb dX6_ofKind_20 rfl hl (by decide) rfl (fun ls hl => ?_)
    refine lv_iconst (v := (0 : Int32)) hx hb dX6_ofKind_21 (by decide) ?_
    refine lv_istore_n (lv' := [(3, .int (0 : Int32)), (2, .int (0 : Int32)), (0, .ref (am 0)), (1, .int l1)]) hx hb dX6_ofKind_22 rfl hl (by decide) rfl (fun ls hl => ?_)
    exact B_23 fu _ _ _ _ hm hP hD hS (lv_sub hl [2, 3, 1, 0] rfl)
  · have hm := it_t c6 hm
    refine lv_aload_n hx hb dX6_ofKind_12 rfl (lv_at hl 0 rfl) ?_
    refine lv_bipush (v := (-2 : Int32)) hx hb dX6_ofKind_13 (by decide) ?_
    obtain ⟨o7, ho8, hm⟩ := bd_s hm
    refine xr_i (wr := [((am 17), eI cA 8 t_kind)]) (wn := [((am 0), e_X6 am tkv ttv t t_L), ((am 16), eI cA 8 o7.2), ((am 17), eI cA 8 t_kind)]) (va_runV (As := [.int (-2 : Int32)]) (rest := []) ⟨hx, hb, hml, hown, htg⟩ (c_X6_refuse l D cA _ fu am tkv ttv t t_L t_refused (-2 : Int32) o7 ho8) (cwV 1 htg (gV q_5_108 q_5_110 q_p5_7 q_1_8 q_5_111) rfl rfl rfl hd_X6_refuse ⟨Nat.le_of_ble_eq_true rfl, Nat.le_of_ble_eq_true rfl⟩) (xpV hN hK hP hD [0, 1] rfl (by decide) rfl rfl) rfl rfl hl.1 rfl (lv_room (Nat.le_of_ble_eq_true rfl)) dX6_ofKind_15 ⟨Nat.zero_le _, Nat.zero_le _⟩) hP hD hS hA [0, 1] [2] [1, 2, 0] rfl rfl (by decide) (by decide) rfl (by decide) (fun H locs hP hD hS => ?_)
    rw [hQ]
    exact W.iret (v := o7.1) hx hb hr (fun t9 ht hW => ⟨⟨o7.1, o7.2, rfl, (Option.some.inj hm), by rw [ht]; exact hP, va_K.moved hW.alike hK, hD⟩, hS.F ht⟩) hS.2.2 dX6_ofKind_18
def b_X6_weighedOf_35 (fu : Nat) (t_L : Nat → Int64) (t_kind : Nat → Int32) (t_pitch : Nat → Int32) (t_word : Nat → Int32) (s0 : Int32) (t : Nat → Int32) (t_heard : Nat → Int32) : Option (Int32 × ((Nat → Int32) × (Nat → Int32))) :=
  some (s0, (t, t_heard))
def m_X6_weighedOf (fu : Nat) (t : Nat → Int32) (t_L : Nat → Int64) (t_kind : Nat → Int32) (t_pitch : Nat → Int32) (t_word : Nat → Int32) (t_heard : Nat → Int32) (l1 : Int32) : Option (Int32 × ((Nat → Int32) × (Nat → Int32))) :=
  (m_X6_sumOf fu t t_L t_kind t_pitch t_word t_heard l1).bind fun o1 =>
  (if o1.2.1 33 = 0 then
    b_X6_weighedOf_35 fu t_L t_kind t_pitch t_word (-1 : Int32) o1.2.1 o1.2.2
  else
    gd (¬ o1.2.1 12 = 0) (
    (if (o1.1 - o1.1 / o1.2.1 12 * o1.2.1 12) = o1.2.1 13 then
      b_X6_weighedOf_35 fu t_L t_kind t_pitch t_word (1 : Int32) o1.2.1 o1.2.2
    else
      b_X6_weighedOf_35 fu t_L t_kind t_pitch t_word (0 : Int32) o1.2.1 o1.2.2)))
abbrev rm_X6_weighedOf : Room := ({ frames := 4, cells := 0, slots := 0, locals := 93 } : Room)
abbrev w0_X6_weighedOf (cA : Nat → ClassId) (am : Nat → Nat) (tkv : Value) (ttv : Value) (t : Nat → Int32) (t_L : Nat → Int64) (t_kind : Nat → Int32) (t_pitch : Nat → Int32) (t_word : Nat → Int32) (t_heard : Nat → Int32) : va_W := [((am 0), e_X6 am tkv ttv t t_L), ((am 17), eI cA 8 t_kind), ((am 19), eI cA 8 t_pitch), ((am 21), eI cA 12 t_word), ((am 22), eI cA 13 t_heard)]
abbrev w1_X6_weighedOf (cA : Nat → ClassId) (am : Nat → Nat) (tkv : Value) (ttv : Value) (t_L : Nat → Int64) (t_kind : Nat → Int32) (t_pitch : Nat → Int32) (t_word : Nat → Int32) (u : (Nat → Int32) × (Nat → Int32)) : va_W := [((am 0), e_X6 am tkv ttv u.1 t_L), ((am 17), eI cA 8 t_kind), ((am 19), eI cA 8 t_pitch), ((am 21), eI cA 12 t_word), ((am 22), eI cA 13 u.2)]
theorem hd_X6_weighedOf : yX6_weighedOf.cls = RX6 ∧ yX6_weighedOf.cls ≠ "java/lang/invoke/MethodHandle" ∧ yX6_weighedOf.cls ≠ "java/lang/invoke/VarHandle" ∧ (parseMethodDescriptor yX6_weighedOf.desc).map (fun d => d.parameters.length) = some 1 := by decide +kernel
set_option maxHeartbeats 40000000 in
set_option maxRecDepth 100000 in
theorem c_X6_weighedOf (l : Launch) (D : va_G) (cA : Nat → ClassId) (sz : Nat) (fu : Nat) (am : Nat → Nat) (tkv : Value) (ttv : Value) (t : Nat → Int32) (t_L : Nat → Int64) (t_kind : Nat → Int32) (t_pitch : Nat → Int32) (t_word : Nat → Int32) (t_heard : Nat → Int32) (l1 : Int32) (out : Int32 × ((Nat → Int32) × (Nat → Int32))) (hm : m_X6_weighedOf fu t t_L t_kind t_pitch t_word t_heard l1 = some out) : MI l yX6_weighedOf (wU yX6_weighedOf cX6_weighedOf 3 ((Option.some Jvm.ClassFile.FieldType.int))) rm_X6_weighedOf D cA sz [.ref (am 0), .int l1] (w0_X6_weighedOf cA am tkv ttv t t_L t_kind t_pitch t_word t_heard) out (w1_X6_weighedOf cA am tkv ttv t_L t_kind t_pitch t_word) := by
  refine Met.ofW (cc := cX6_weighedOf) (maxL := 3) (ret := (Option.some Jvm.ClassFile.FieldType.int)) (by decide) rfl ?_
  intro p e s m args below meth c s₁ B hml hv
  obtain ⟨hargs, hsz, hP, hK, hD0, hN⟩ := hv
  have hx := B.exec
  have hb := B.bytes
  have hr := B.returns
  have htg : ∀ w ∈ gw, w.before args s = true := fun w h => atoms_spec (ws := wU yX6_weighedOf cX6_weighedOf 3 ((Option.some Jvm.ClassFile.FieldType.int))) B.pre w (List.mem_cons_of_mem _ h)
  have hown : s.vm.findClass RX6 = some m.cls := findClass_of_methodNamed B.named
  have hlocks := B.notSynchronized
  subst hsz
  have hD := hD0.self (sz := s.heap.size)
  have hA : ∀ q : Nat, s.heap.size ≤ q → va_A (w0_X6_weighedOf cA am tkv ttv t t_L t_kind t_pitch t_word t_heard) s.heap.size q := fun q h => Or.inr h
  have hS : va_S (va_A (w0_X6_weighedOf cA am tkv ttv t t_L t_kind t_pitch t_word t_heard) s.heap.size) s.heap s.heap [] := va_S.rf
  generalize va_A (w0_X6_weighedOf cA am tkv ttv t t_L t_kind t_pitch t_word t_heard) s.heap.size = A at hA hD hS ⊢
  obtain ⟨Q, hQ⟩ : ∃ Q : State → Prop, Q = MQ below (va_Qi (fun (r : Int32) (u : (Nat → Int32) × (Nat → Int32)) => (r, u) = out) (pst0 D cA A (w1_X6_weighedOf cA am tkv ttv t_L t_kind t_pitch t_word)) A) args s 0 0 A := ⟨_, rfl⟩
  refine (?_ : W p l e rm_X6_weighedOf s m args below meth c s.heap [] 0 0 (MQ below (va_Qi (fun (r : Int32) (u : (Nat → Int32) × (Nat → Int32)) => (r, u) = out) (pst0 D cA A (w1_X6_weighedOf cA am tkv ttv t_L t_kind t_pitch t_word)) A) args s 0 0 A) (entryFrame m args 3))
  rw [← hQ]
  have hP : va_P D CL [((am 0), e_X6 am tkv ttv t t_L), ((am 17), eI cA 8 t_kind), ((am 19), eI cA 8 t_pitch), ((am 21), eI cA 12 t_word), ((am 22), eI cA 13 t_heard)] s.heap := hP
  have hD : va_D A [((am 0), e_X6 am tkv ttv t t_L), ((am 17), eI cA 8 t_kind), ((am 19), eI cA 8 t_pitch), ((am 21), eI cA 12 t_word), ((am 22), eI cA 13 t_heard)] := hD
  have B_35 : ∀ (s0 : Int32) (t : Nat → Int32) (t_heard : Nat → Int32) (H : Heap) (locs : List Loc) (ls : Array Slot), b_X6_weighedOf_35 fu t_L t_kind t_pitch t_word s0 t t_heard = some out → va_P D CL [((am 0), e_X6 am tkv ttv t t_L), ((am 17), eI cA 8 t_kind), ((am 19), eI cA 8 t_pitch), ((am 21), eI cA 12 t_word), ((am 22), eI cA 13 t_heard)] H → va_D A [((am 0), e_X6 am tkv ttv t t_L), ((am 17), eI cA 8 t_kind), ((am 19), eI cA 8 t_pitch), ((am 21), eI cA 12 t_word), ((am 22), eI cA 13 t_heard)] → va_S A s.heap H locs → lv_has ls 3 [(0, .ref (am 0))] → W p l e rm_X6_weighedOf s m args below meth c H locs 0 0 Q (F0 m 35 ls [.int s0]) := by
    intro  s0 t t_heard H locs ls hm hP hD hS hl
    unfold b_X6_weighedOf_35 at hm
    rw [hQ]
    exact W.iret (v := s0) hx hb hr (fun t9 ht hW => ⟨⟨s0, (t, t_heard), rfl, (Option.some.inj hm), by rw [ht]; exact hP, va_K.moved hW.alike hK, hD⟩, hS.F ht⟩) hS.2.2 dX6_weighedOf_35
  unfold m_X6_weighedOf at hm
  subst hargs
  have hl := lv_entry ([.ref (am 0), .int l1]) (n := 3) (Nat.le_of_ble_eq_true rfl)
  rw [lg_entry_eq]
  generalize (lg_sl ([.ref (am 0), .int l1]) ++ List.replicate (3 - (lg_sl ([.ref (am 0), .int l1])).length) Slot.unset).toArray = ls at hl ⊢
  have hl : lv_has ls 3 [(0, .ref (am 0)), (1, .int l1)] := hl
  refine lv_aload_n hx hb dX6_weighedOf_0 rfl (lv_at hl 0 rfl) ?_
  refine lv_iload_n hx hb dX6_weighedOf_1 rfl (lv_at hl 1 rfl) ?_
  obtain ⟨o1, ho2, hm⟩ := bd_s hm
  refine xr_i (wr := []) (wn := [((am 0), e_X6 am tkv ttv o1.2.1 t_L), ((am 17), eI cA 8 t_kind), ((am 19), eI cA 8 t_pitch), ((am 21), eI cA 12 t_word), ((am 22), eI cA 13 o1.2.2)]) (va_runV (As := [.int l1]) (rest := []) ⟨hx, hb, hml, hown, htg⟩ (c_X6_sumOf l D cA _ fu am tkv ttv t t_L t_kind t_pitch t_word t_heard l1 o1 ho2) (cwV 1 htg (gV q_5_151 q_5_153 q_p5_10 q_1_8 q_5_154) rfl rfl rfl hd_X6_sumOf ⟨Nat.le_of_ble_eq_true rfl, Nat.le_of_ble_eq_true rfl⟩) (xpV hN hK hP hD [0, 1, 2, 3, 4] rfl (by decide) rfl rfl) rfl rfl hl.1 rfl (lv_room (Nat.le_of_ble_eq_true rfl)) dX6_weighedOf_2 ⟨Nat.zero_le _, Nat.zero_le _⟩) hP hD hS hA [0, 1, 2, 3, 4] [] [0, 1, 2, 3, 4] rfl rfl (by decide) (by decide) rfl (by decide) (fun H locs hP hD hS => ?_)
  refine lv_istore_n (lv' := [(2, .int o1.1), (0, .ref (am 0)), (1, .int l1)]) hx hb dX6_weighedOf_5 rfl hl (by decide) rfl (fun ls hl => ?_)
  refine lv_aload_n hx hb dX6_weighedOf_6 rfl (lv_at hl 1 rfl) ?_
  refine va_get (D := D) (ci := 6) (v := .int (o1.2.1 33)) (C := RX6) (T := TX6) (N := 49) hx hb htg inX6 hown hK hP 0 rfl rfl 33 (by decide) (htg _ q_4_222) (fun _ h9 => h9) rfl dX6_weighedOf_7 ?_
  refine lv_if_ne (tgt := 17) hx hb dX6_weighedOf_10 (by decide) (fun c3 => ?_) (fun c3 => ?_)
  · have hm := it_f c3 hm
    refine lv_iload_n hx hb dX6_weighedOf_17 rfl (lv_at hl 0 rfl) ?_
    refine lv_aload_n hx hb dX6_weighedOf_18 rfl (lv_at hl 1 rfl) ?_
    refine va_get (D := D) (ci := 6) (v := .int (o1.2.1 12)) (C := RX6) (T := TX6) (N := 49) hx hb htg inX6 hown hK hP 0 rfl rfl 12 (by decide) (htg _ q_4_201) (fun _ h9 => h9) rfl dX6_weighedOf_19 ?_
    obtain ⟨hz4, hm⟩ := gd_s hm
    refine lv_irem hx hb dX6_weighedOf_22 hz4 ?_
    refine lv_aload_n hx hb dX6_weighedOf_23 rfl (lv_at hl 1 rfl) ?_
    refine va_get (D := D) (ci := 6) (v := .int (o1.2.1 13)) (C := RX6) (T := TX6) (N := 49) hx hb htg inX6 hown hK hP 0 rfl rfl 13 (by decide) (htg _ q_4_202) (fun _ h9 => h9) rfl dX6_weighedOf_24 ?_
    refine lv_icmp_ne (tgt := 34) hx hb dX6_weighedOf_27 (by decide) (fun c5 => ?_) (fun c5 => ?_)
    · have hm := it_f c5 hm
      refine lv_iconst (v := (0 : Int32)) hx hb dX6_weighedOf_34 (by decide) ?_
      exact B_35 _ _ _ _ _ _ hm hP hD hS (lv_sub hl [1] rfl)
    · have hm := it_t c5 hm
      refine lv_iconst (v := (1 : Int32)) hx hb dX6_weighedOf_30 (by decide) ?_
      refine lv_goto (tgt := 35) hx hb dX6_weighedOf_31 (by decide) ?_
      exact B_35 _ _ _ _ _ _ hm hP hD hS (lv_sub hl [1] rfl)
  · have hm := it_t c3 hm
    refine lv_iconst (v := (-1 : Int32)) hx hb dX6_weighedOf_13 (by decide) ?_
    refine lv_goto (tgt := 35) hx hb dX6_weighedOf_14 (by decide) ?_
    exact B_35 _ _ _ _ _ _ hm hP hD hS (lv_sub hl [1] rfl)
def b_X6_gets_14 (fu : Nat) (t_L : Nat → Int64) (t_kind : Nat → Int32) (t_pitch : Nat → Int32) (t_word : Nat → Int32) (s0 : Int32) (t : Nat → Int32) (t_heard : Nat → Int32) : Option (Int32 × ((Nat → Int32) × (Nat → Int32))) :=
  gd (bz s0) (some (s0, (t, t_heard)))
def m_X6_gets (fu : Nat) (t : Nat → Int32) (t_L : Nat → Int64) (t_kind : Nat → Int32) (t_pitch : Nat → Int32) (t_word : Nat → Int32) (t_heard : Nat → Int32) (l1 : Int32) : Option (Int32 × ((Nat → Int32) × (Nat → Int32))) :=
  (m_X6_weighedOf fu t t_L t_kind t_pitch t_word t_heard l1).bind fun o2 =>
  (if o2.1 = (1 : Int32) then
    b_X6_gets_14 fu t_L t_kind t_pitch t_word (1 : Int32) o2.2.1 o2.2.2
  else
    b_X6_gets_14 fu t_L t_kind t_pitch t_word (0 : Int32) o2.2.1 o2.2.2)
abbrev rm_X6_gets : Room := ({ frames := 5, cells := 0, slots := 0, locals := 115 } : Room)
abbrev w0_X6_gets (cA : Nat → ClassId) (am : Nat → Nat) (tkv : Value) (ttv : Value) (t : Nat → Int32) (t_L : Nat → Int64) (t_kind : Nat → Int32) (t_pitch : Nat → Int32) (t_word : Nat → Int32) (t_heard : Nat → Int32) : va_W := [((am 0), e_X6 am tkv ttv t t_L), ((am 17), eI cA 8 t_kind), ((am 19), eI cA 8 t_pitch), ((am 21), eI cA 12 t_word), ((am 22), eI cA 13 t_heard)]
abbrev w1_X6_gets (cA : Nat → ClassId) (am : Nat → Nat) (tkv : Value) (ttv : Value) (t_L : Nat → Int64) (t_kind : Nat → Int32) (t_pitch : Nat → Int32) (t_word : Nat → Int32) (u : (Nat → Int32) × (Nat → Int32)) : va_W := [((am 0), e_X6 am tkv ttv u.1 t_L), ((am 17), eI cA 8 t_kind), ((am 19), eI cA 8 t_pitch), ((am 21), eI cA 12 t_word), ((am 22), eI cA 13 u.2)]
theorem hd_X6_gets : yX6_gets.cls = RX6 ∧ yX6_gets.cls ≠ "java/lang/invoke/MethodHandle" ∧ yX6_gets.cls ≠ "java/lang/invoke/VarHandle" ∧ (parseMethodDescriptor yX6_gets.desc).map (fun d => d.parameters.length) = some 1 := by decide +kernel
set_option maxHeartbeats 40000000 in
set_option maxRecDepth 100000 in
theorem c_X6_gets (l : Launch) (D : va_G) (cA : Nat → ClassId) (sz : Nat) (fu : Nat) (am : Nat → Nat) (tkv : Value) (ttv : Value) (t : Nat → Int32) (t_L : Nat → Int64) (t_kind : Nat → Int32) (t_pitch : Nat → Int32) (t_word : Nat → Int32) (t_heard : Nat → Int32) (l1 : Int32) (out : Int32 × ((Nat → Int32) × (Nat → Int32))) (hm : m_X6_gets fu t t_L t_kind t_pitch t_word t_heard l1 = some out) : MI l yX6_gets (wU yX6_gets cX6_gets 2 ((Option.some Jvm.ClassFile.FieldType.boolean))) rm_X6_gets D cA sz [.ref (am 0), .int l1] (w0_X6_gets cA am tkv ttv t t_L t_kind t_pitch t_word t_heard) out (w1_X6_gets cA am tkv ttv t_L t_kind t_pitch t_word) := by
  refine Met.ofW (cc := cX6_gets) (maxL := 2) (ret := (Option.some Jvm.ClassFile.FieldType.boolean)) (by decide) rfl ?_
  intro p e s m args below meth c s₁ B hml hv
  obtain ⟨hargs, hsz, hP, hK, hD0, hN⟩ := hv
  have hx := B.exec
  have hb := B.bytes
  have hr := B.returns
  have htg : ∀ w ∈ gw, w.before args s = true := fun w h => atoms_spec (ws := wU yX6_gets cX6_gets 2 ((Option.some Jvm.ClassFile.FieldType.boolean))) B.pre w (List.mem_cons_of_mem _ h)
  have hown : s.vm.findClass RX6 = some m.cls := findClass_of_methodNamed B.named
  have hlocks := B.notSynchronized
  subst hsz
  have hD := hD0.self (sz := s.heap.size)
  have hA : ∀ q : Nat, s.heap.size ≤ q → va_A (w0_X6_gets cA am tkv ttv t t_L t_kind t_pitch t_word t_heard) s.heap.size q := fun q h => Or.inr h
  have hS : va_S (va_A (w0_X6_gets cA am tkv ttv t t_L t_kind t_pitch t_word t_heard) s.heap.size) s.heap s.heap [] := va_S.rf
  generalize va_A (w0_X6_gets cA am tkv ttv t t_L t_kind t_pitch t_word t_heard) s.heap.size = A at hA hD hS ⊢
  obtain ⟨Q, hQ⟩ : ∃ Q : State → Prop, Q = MQ below (va_Qi (fun (r : Int32) (u : (Nat → Int32) × (Nat → Int32)) => (r, u) = out) (pst0 D cA A (w1_X6_gets cA am tkv ttv t_L t_kind t_pitch t_word)) A) args s 0 0 A := ⟨_, rfl⟩
  refine (?_ : W p l e rm_X6_gets s m args below meth c s.heap [] 0 0 (MQ below (va_Qi (fun (r : Int32) (u : (Nat → Int32) × (Nat → Int32)) => (r, u) = out) (pst0 D cA A (w1_X6_gets cA am tkv ttv t_L t_kind t_pitch t_word)) A) args s 0 0 A) (entryFrame m args 2))
  rw [← hQ]
  have hP : va_P D CL [((am 0), e_X6 am tkv ttv t t_L), ((am 17), eI cA 8 t_kind), ((am 19), eI cA 8 t_pitch), ((am 21), eI cA 12 t_word), ((am 22), eI cA 13 t_heard)] s.heap := hP
  have hD : va_D A [((am 0), e_X6 am tkv ttv t t_L), ((am 17), eI cA 8 t_kind), ((am 19), eI cA 8 t_pitch), ((am 21), eI cA 12 t_word), ((am 22), eI cA 13 t_heard)] := hD
  have B_14 : ∀ (s0 : Int32) (t : Nat → Int32) (t_heard : Nat → Int32) (H : Heap) (locs : List Loc) (ls : Array Slot), b_X6_gets_14 fu t_L t_kind t_pitch t_word s0 t t_heard = some out → va_P D CL [((am 0), e_X6 am tkv ttv t t_L), ((am 17), eI cA 8 t_kind), ((am 19), eI cA 8 t_pitch), ((am 21), eI cA 12 t_word), ((am 22), eI cA 13 t_heard)] H → va_D A [((am 0), e_X6 am tkv ttv t t_L), ((am 17), eI cA 8 t_kind), ((am 19), eI cA 8 t_pitch), ((am 21), eI cA 12 t_word), ((am 22), eI cA 13 t_heard)] → va_S A s.heap H locs → lv_has ls 2 [(0, .ref (am 0))] → W p l e rm_X6_gets s m args below meth c H locs 0 0 Q (F0 m 14 ls [.int s0]) := by
    intro  s0 t t_heard H locs ls hm hP hD hS hl
    unfold b_X6_gets_14 at hm
    obtain ⟨hz1, hm⟩ := gd_s hm
    rw [hQ]
    exact W.zret (v := s0) hx hb hr (bz_nr hz1) (fun t9 ht hW => ⟨⟨s0, (t, t_heard), rfl, (Option.some.inj hm), by rw [ht]; exact hP, va_K.moved hW.alike hK, hD⟩, hS.F ht⟩) hS.2.2 dX6_gets_14
  unfold m_X6_gets at hm
  subst hargs
  have hl := lv_entry ([.ref (am 0), .int l1]) (n := 2) (Nat.le_of_ble_eq_true rfl)
  rw [lg_entry_eq]
  generalize (lg_sl ([.ref (am 0), .int l1]) ++ List.replicate (2 - (lg_sl ([.ref (am 0), .int l1])).length) Slot.unset).toArray = ls at hl ⊢
  have hl : lv_has ls 2 [(0, .ref (am 0)), (1, .int l1)] := hl
  refine lv_aload_n hx hb dX6_gets_0 rfl (lv_at hl 0 rfl) ?_
  refine lv_iload_n hx hb dX6_gets_1 rfl (lv_at hl 1 rfl) ?_
  obtain ⟨o2, ho3, hm⟩ := bd_s hm
  refine xr_i (wr := []) (wn := [((am 0), e_X6 am tkv ttv o2.2.1 t_L), ((am 17), eI cA 8 t_kind), ((am 19), eI cA 8 t_pitch), ((am 21), eI cA 12 t_word), ((am 22), eI cA 13 o2.2.2)]) (va_runV (As := [.int l1]) (rest := []) ⟨hx, hb, hml, hown, htg⟩ (c_X6_weighedOf l D cA _ fu am tkv ttv t t_L t_kind t_pitch t_word t_heard l1 o2 ho3) (cwV 1 htg (gV q_6_65 q_6_67 q_p6_10 q_1_8 q_6_68) rfl rfl rfl hd_X6_weighedOf ⟨Nat.le_of_ble_eq_true rfl, Nat.le_of_ble_eq_true rfl⟩) (xpV hN hK hP hD [0, 1, 2, 3, 4] rfl (by decide) rfl rfl) rfl rfl hl.1 rfl (lv_room (Nat.le_of_ble_eq_true rfl)) dX6_gets_2 ⟨Nat.zero_le _, Nat.zero_le _⟩) hP hD hS hA [0, 1, 2, 3, 4] [] [0, 1, 2, 3, 4] rfl rfl (by decide) (by decide) rfl (by decide) (fun H locs hP hD hS => ?_)
  refine lv_iconst (v := (1 : Int32)) hx hb dX6_gets_5 (by decide) ?_
  refine lv_icmp_ne (tgt := 13) hx hb dX6_gets_6 (by decide) (fun c4 => ?_) (fun c4 => ?_)
  · have hm := it_f c4 hm
    refine lv_iconst (v := (0 : Int32)) hx hb dX6_gets_13 (by decide) ?_
    exact B_14 _ _ _ _ _ _ hm hP hD hS (lv_sub hl [0] rfl)
  · have hm := it_t c4 hm
    refine lv_iconst (v := (1 : Int32)) hx hb dX6_gets_9 (by decide) ?_
    refine lv_goto (tgt := 14) hx hb dX6_gets_10 (by decide) ?_
    exact B_14 _ _ _ _ _ _ hm hP hD hS (lv_sub hl [0] rfl)
def b_X6_takeWord_7 (fu : Nat) (t_L : Nat → Int64) (t_rows_R : Nat → Nat → Int64) (k_7 : (Int32 × Int32 × Int32 × (Nat → Int32) × (Nat → Int32) × (Nat → Int32)) → Option (Int32 × ((Nat → Int32) × (Nat → Int32) × (Nat → Int32)))) (x : Int32 × Int32 × Int32 × (Nat → Int32) × (Nat → Int32) × (Nat → Int32)) : Option (Int32 × ((Nat → Int32) × (Nat → Int32) × (Nat → Int32))) :=
  (if x.2.1 ≤ x.2.2.1 then
        some ((0 : Int32), (x.2.2.2.1, x.2.2.2.2.1, x.2.2.2.2.2))
      else
        gd (inb x.1 8) (
        gd (inb x.1 8) (gd (inb x.2.2.1 40) (
        (m_X6_in fu (t_rows_R x.1.toNatClampNeg x.2.2.1.toNatClampNeg) (0 : Int64) (39 : Int64)).bind fun o6 =>
        (if o6.1 = 0 then
          (m_X6_refuse fu x.2.2.2.1 t_L x.2.2.2.2.1 (-5 : Int32)).bind fun o14 =>
          some (o14.1, (x.2.2.2.1, o14.2, x.2.2.2.2.2))
        else
          gd (inb x.1 8) (
          gd (inb x.1 8) (gd (inb x.2.2.1 40) (
          gd (inb x.2.2.1 12) (
          k_7 (x.1, x.2.1, (x.2.2.1 + (1 : Int32)), x.2.2.2.1, x.2.2.2.2.1, (upd x.2.2.2.2.2 x.2.2.1.toNatClampNeg ((t_rows_R x.1.toNatClampNeg x.2.2.1.toNatClampNeg).toInt32))))))))))))
def m_X6_takeWord (fu : Nat) (t : Nat → Int32) (t_L : Nat → Int64) (t_rows_R : Nat → Nat → Int64) (t_refused : Nat → Int32) (t_word : Nat → Int32) (l1 : Int32) (l2 : Int32) : Option (Int32 × ((Nat → Int32) × (Nat → Int32) × (Nat → Int32))) :=
  lfix (b_X6_takeWord_7 fu t_L t_rows_R) fu (l1, l2, (0 : Int32), (upd t 31 l2), t_refused, t_word)
abbrev rm_X6_takeWord : Room := ({ frames := 1, cells := 0, slots := 0, locals := 25 } : Room)
abbrev w0_X6_takeWord (cA : Nat → ClassId) (am : Nat → Nat) (tkv : Value) (ttv : Value) (t : Nat → Int32) (t_L : Nat → Int64) (t_rows_R : Nat → Nat → Int64) (t_refused : Nat → Int32) (t_word : Nat → Int32) : va_W := [((am 0), e_X6 am tkv ttv t t_L), ((am 4), eOJ cA am 5), (am 5, eJ cA 40 (t_rows_R 0)), (am 6, eJ cA 40 (t_rows_R 1)), (am 7, eJ cA 40 (t_rows_R 2)), (am 8, eJ cA 40 (t_rows_R 3)), (am 9, eJ cA 40 (t_rows_R 4)), (am 10, eJ cA 40 (t_rows_R 5)), (am 11, eJ cA 40 (t_rows_R 6)), (am 12, eJ cA 40 (t_rows_R 7)), ((am 16), eI cA 8 t_refused), ((am 21), eI cA 12 t_word)]
abbrev w1_X6_takeWord (cA : Nat → ClassId) (am : Nat → Nat) (tkv : Value) (ttv : Value) (t_L : Nat → Int64) (t_rows_R : Nat → Nat → Int64) (u : (Nat → Int32) × (Nat → Int32) × (Nat → Int32)) : va_W := [((am 0), e_X6 am tkv ttv u.1 t_L), ((am 4), eOJ cA am 5), (am 5, eJ cA 40 (t_rows_R 0)), (am 6, eJ cA 40 (t_rows_R 1)), (am 7, eJ cA 40 (t_rows_R 2)), (am 8, eJ cA 40 (t_rows_R 3)), (am 9, eJ cA 40 (t_rows_R 4)), (am 10, eJ cA 40 (t_rows_R 5)), (am 11, eJ cA 40 (t_rows_R 6)), (am 12, eJ cA 40 (t_rows_R 7)), ((am 16), eI cA 8 u.2.1), ((am 21), eI cA 12 u.2.2)]
theorem hd_X6_takeWord : yX6_takeWord.cls = RX6 ∧ yX6_takeWord.cls ≠ "java/lang/invoke/MethodHandle" ∧ yX6_takeWord.cls ≠ "java/lang/invoke/VarHandle" ∧ (parseMethodDescriptor yX6_takeWord.desc).map (fun d => d.parameters.length) = some 2 := by decide +kernel
set_option maxHeartbeats 40000000 in
set_option maxRecDepth 100000 in
theorem c_X6_takeWord (l : Launch) (D : va_G) (cA : Nat → ClassId) (sz : Nat) (fu : Nat) (am : Nat → Nat) (tkv : Value) (ttv : Value) (t : Nat → Int32) (t_L : Nat → Int64) (t_rows_R : Nat → Nat → Int64) (t_refused : Nat → Int32) (t_word : Nat → Int32) (l1 : Int32) (l2 : Int32) (out : Int32 × ((Nat → Int32) × (Nat → Int32) × (Nat → Int32))) (hm : m_X6_takeWord fu t t_L t_rows_R t_refused t_word l1 l2 = some out) : MI l yX6_takeWord (wU yX6_takeWord cX6_takeWord 4 ((Option.some Jvm.ClassFile.FieldType.int))) rm_X6_takeWord D cA sz [.ref (am 0), .int l1, .int l2] (w0_X6_takeWord cA am tkv ttv t t_L t_rows_R t_refused t_word) out (w1_X6_takeWord cA am tkv ttv t_L t_rows_R) := by
  refine Met.ofW (cc := cX6_takeWord) (maxL := 4) (ret := (Option.some Jvm.ClassFile.FieldType.int)) (by decide) rfl ?_
  intro p e s m args below meth c s₁ B hml hv
  obtain ⟨hargs, hsz, hP, hK, hD0, hN⟩ := hv
  have hx := B.exec
  have hb := B.bytes
  have hr := B.returns
  have htg : ∀ w ∈ gw, w.before args s = true := fun w h => atoms_spec (ws := wU yX6_takeWord cX6_takeWord 4 ((Option.some Jvm.ClassFile.FieldType.int))) B.pre w (List.mem_cons_of_mem _ h)
  have hown : s.vm.findClass RX6 = some m.cls := findClass_of_methodNamed B.named
  have hlocks := B.notSynchronized
  subst hsz
  have hD := hD0.self (sz := s.heap.size)
  have hA : ∀ q : Nat, s.heap.size ≤ q → va_A (w0_X6_takeWord cA am tkv ttv t t_L t_rows_R t_refused t_word) s.heap.size q := fun q h => Or.inr h
  have hS : va_S (va_A (w0_X6_takeWord cA am tkv ttv t t_L t_rows_R t_refused t_word) s.heap.size) s.heap s.heap [] := va_S.rf
  generalize va_A (w0_X6_takeWord cA am tkv ttv t t_L t_rows_R t_refused t_word) s.heap.size = A at hA hD hS ⊢
  obtain ⟨Q, hQ⟩ : ∃ Q : State → Prop, Q = MQ below (va_Qi (fun (r : Int32) (u : (Nat → Int32) × (Nat → Int32) × (Nat → Int32)) => (r, u) = out) (pst0 D cA A (w1_X6_takeWord cA am tkv ttv t_L t_rows_R)) A) args s 0 0 A := ⟨_, rfl⟩
  refine (?_ : W p l e rm_X6_takeWord s m args below meth c s.heap [] 0 0 (MQ below (va_Qi (fun (r : Int32) (u : (Nat → Int32) × (Nat → Int32) × (Nat → Int32)) => (r, u) = out) (pst0 D cA A (w1_X6_takeWord cA am tkv ttv t_L t_rows_R)) A) args s 0 0 A) (entryFrame m args 4))
  rw [← hQ]
  have hP : va_P D CL [((am 0), e_X6 am tkv ttv t t_L), ((am 4), eOJ cA am 5), (am 5, eJ cA 40 (t_rows_R 0)), (am 6, eJ cA 40 (t_rows_R 1)), (am 7, eJ cA 40 (t_rows_R 2)), (am 8, eJ cA 40 (t_rows_R 3)), (am 9, eJ cA 40 (t_rows_R 4)), (am 10, eJ cA 40 (t_rows_R 5)), (am 11, eJ cA 40 (t_rows_R 6)), (am 12, eJ cA 40 (t_rows_R 7)), ((am 16), eI cA 8 t_refused), ((am 21), eI cA 12 t_word)] s.heap := hP
  have hD : va_D A [((am 0), e_X6 am tkv ttv t t_L), ((am 4), eOJ cA am 5), (am 5, eJ cA 40 (t_rows_R 0)), (am 6, eJ cA 40 (t_rows_R 1)), (am 7, eJ cA 40 (t_rows_R 2)), (am 8, eJ cA 40 (t_rows_R 3)), (am 9, eJ cA 40 (t_rows_R 4)), (am 10, eJ cA 40 (t_rows_R 5)), (am 11, eJ cA 40 (t_rows_R 6)), (am 12, eJ cA 40 (t_rows_R 7)), ((am 16), eI cA 8 t_refused), ((am 21), eI cA 12 t_word)] := hD
  have B_7 : ∀ (n : Nat) (x : Int32 × Int32 × Int32 × (Nat → Int32) × (Nat → Int32) × (Nat → Int32)) (H : Heap) (locs : List Loc) (ls : Array Slot), lfix (b_X6_takeWord_7 fu t_L t_rows_R) n x = some out → va_P D CL [((am 0), e_X6 am tkv ttv x.2.2.2.1 t_L), ((am 4), eOJ cA am 5), (am 5, eJ cA 40 (t_rows_R 0)), (am 6, eJ cA 40 (t_rows_R 1)), (am 7, eJ cA 40 (t_rows_R 2)), (am 8, eJ cA 40 (t_rows_R 3)), (am 9, eJ cA 40 (t_rows_R 4)), (am 10, eJ cA 40 (t_rows_R 5)), (am 11, eJ cA 40 (t_rows_R 6)), (am 12, eJ cA 40 (t_rows_R 7)), ((am 16), eI cA 8 x.2.2.2.2.1), ((am 21), eI cA 12 x.2.2.2.2.2)] H → va_D A [((am 0), e_X6 am tkv ttv x.2.2.2.1 t_L), ((am 4), eOJ cA am 5), (am 5, eJ cA 40 (t_rows_R 0)), (am 6, eJ cA 40 (t_rows_R 1)), (am 7, eJ cA 40 (t_rows_R 2)), (am 8, eJ cA 40 (t_rows_R 3)), (am 9, eJ cA 40 (t_rows_R 4)), (am 10, eJ cA 40 (t_rows_R 5)), (am 11, eJ cA 40 (t_rows_R 6)), (am 12, eJ cA 40 (t_rows_R 7)), ((am 16), eI cA 8 x.2.2.2.2.1), ((am 21), eI cA 12 x.2.2.2.2.2)] → va_S A s.heap H locs → lv_has ls 4 [(0, .ref (am 0)), (1, .int x.1), (2, .int x.2.1), (3, .int x.2.2.1)] → W p l e rm_X6_takeWord s m args below meth c H locs 0 0 Q (F0 m 7 ls []) := by
    intro  n
    induction n with
    | zero => intro x H locs ls hm; cases (show none = some out from hm)
    | succ n HK_7 =>
      intro x H locs ls hm hP hD hS hl
      replace hm : b_X6_takeWord_7 fu t_L t_rows_R (lfix (b_X6_takeWord_7 fu t_L t_rows_R) n) x = some out := hm
      unfold b_X6_takeWord_7 at hm
      refine lv_iload_n hx hb dX6_takeWord_7 rfl (lv_at hl 3 rfl) ?_
      refine lv_iload_n hx hb dX6_takeWord_8 rfl (lv_at hl 2 rfl) ?_
      refine lv_icmp_ge (tgt := 58) hx hb dX6_takeWord_9 (by decide) (fun c1 => ?_) (fun c1 => ?_)
      · have hm := it_t c1 hm
        refine lv_iconst (v := (0 : Int32)) hx hb dX6_takeWord_58 (by decide) ?_
        rw [hQ]
        exact W.iret (v := (0 : Int32)) hx hb hr (fun t9 ht hW => ⟨⟨(0 : Int32), (x.2.2.2.1, x.2.2.2.2.1, x.2.2.2.2.2), rfl, (Option.some.inj hm), by rw [ht]; exact hP, va_K.moved hW.alike hK, hD⟩, hS.F ht⟩) hS.2.2 dX6_takeWord_59
      · have hm := it_f c1 hm
        refine lv_aload_n hx hb dX6_takeWord_12 rfl (lv_at hl 0 rfl) ?_
        refine va_get (D := D) (ci := 6) (v := .ref (am 4)) (C := RX6) (T := TX6) (N := 49) hx hb htg inX6 hown hK hP 0 rfl rfl 3 (by decide) (htg _ q_4_192) (fun _ h9 => h9) rfl dX6_takeWord_13 ?_
        refine lv_iload_n hx hb dX6_takeWord_16 rfl (lv_at hl 1 rfl) ?_
        obtain ⟨hi2, hm⟩ := gd_s hm
        refine va_ald2 hx hb hK hP 1 3 rfl rfl hi2 dX6_takeWord_17 ?_
        rw [show (va_rf ((fun i => if i < 8 then some (am (5 + i)) else none) x.1.toNatClampNeg)) = Value.ref (am (5 + x.1.toNatClampNeg)) from rf_lt (inb_lt hi2)]
        refine lv_iload_n hx hb dX6_takeWord_18 rfl (lv_at hl 3 rfl) ?_
        obtain ⟨hj4, hm⟩ := gd_s hm
        obtain ⟨hi3, hm⟩ := gd_s hm
        have hq5 : ([((am 0), e_X6 am tkv ttv x.2.2.2.1 t_L), ((am 4), eOJ cA am 5), (am 5, eJ cA 40 (t_rows_R 0)), (am 6, eJ cA 40 (t_rows_R 1)), (am 7, eJ cA 40 (t_rows_R 2)), (am 8, eJ cA 40 (t_rows_R 3)), (am 9, eJ cA 40 (t_rows_R 4)), (am 10, eJ cA 40 (t_rows_R 5)), (am 11, eJ cA 40 (t_rows_R 6)), (am 12, eJ cA 40 (t_rows_R 7)), ((am 16), eI cA 8 x.2.2.2.2.1), ((am 21), eI cA 12 x.2.2.2.2.2)] : va_W)[2 + x.1.toNatClampNeg]? = some (am (5 + x.1.toNatClampNeg), eJ cA 40 (t_rows_R x.1.toNatClampNeg)) := by
          have hj8 := inb_lt hj4
          generalize x.1.toNatClampNeg = j at hj8 ⊢
          rcases (show j = 0 ∨ j = 1 ∨ j = 2 ∨ j = 3 ∨ j = 4 ∨ j = 5 ∨ j = 6 ∨ j = 7 by omega) with rfl | rfl | rfl | rfl | rfl | rfl | rfl | rfl <;> rfl
        refine va_lald hx hb hK hP (2 + x.1.toNatClampNeg) 1 hq5 rfl hi3 dX6_takeWord_19 ?_
        refine lv_lconst (v := (0 : Int64)) hx hb dX6_takeWord_20 (by decide) ?_
        refine lv_ldc2 (v := (39 : Int64)) hx hb hown (htg _ q_6_24) dX6_takeWord_21 ?_
        obtain ⟨o6, ho7, hm⟩ := bd_s hm
        refine xr_i (wr := [((am 0), e_X6 am tkv ttv x.2.2.2.1 t_L), ((am 4), eOJ cA am 5), (am 5, eJ cA 40 (t_rows_R 0)), (am 6, eJ cA 40 (t_rows_R 1)), (am 7, eJ cA 40 (t_rows_R 2)), (am 8, eJ cA 40 (t_rows_R 3)), (am 9, eJ cA 40 (t_rows_R 4)), (am 10, eJ cA 40 (t_rows_R 5)), (am 11, eJ cA 40 (t_rows_R 6)), (am 12, eJ cA 40 (t_rows_R 7)), ((am 16), eI cA 8 x.2.2.2.2.1), ((am 21), eI cA 12 x.2.2.2.2.2)]) (wn := [((am 0), e_X6 am tkv ttv x.2.2.2.1 t_L), ((am 4), eOJ cA am 5), (am 5, eJ cA 40 (t_rows_R 0)), (am 6, eJ cA 40 (t_rows_R 1)), (am 7, eJ cA 40 (t_rows_R 2)), (am 8, eJ cA 40 (t_rows_R 3)), (am 9, eJ cA 40 (t_rows_R 4)), (am 10, eJ cA 40 (t_rows_R 5)), (am 11, eJ cA 40 (t_rows_R 6)), (am 12, eJ cA 40 (t_rows_R 7)), ((am 16), eI cA 8 x.2.2.2.2.1), ((am 21), eI cA 12 x.2.2.2.2.2)]) (va_runS (As := [.long (t_rows_R x.1.toNatClampNeg x.2.2.1.toNatClampNeg), .long (0 : Int64), .long (39 : Int64)]) (rest := []) ⟨hx, hb, hml, hown, htg⟩ (c_X6_in l D cA _ fu (t_rows_R x.1.toNatClampNeg x.2.2.1.toNatClampNeg) (0 : Int64) (39 : Int64) o6 ho7) (cwS 3 htg (gS q_5_103 q_5_104 q_1_8 q_5_105) rfl rfl rfl hd_X6_in ⟨Nat.le_of_ble_eq_true rfl, Nat.le_of_ble_eq_true rfl⟩) (xpS hN hK hP hD [] rfl (by decide)) rfl rfl hl.1 rfl (lv_room (Nat.le_of_ble_eq_true rfl)) dX6_takeWord_24 ⟨Nat.zero_le _, Nat.zero_le _⟩) hP hD hS hA [] [0, 1, 2, 3, 4, 5, 6, 7, 8, 9, 10, 11] [0, 1, 2, 3, 4, 5, 6, 7, 8, 9, 10, 11] rfl rfl (by decide) (by decide) rfl (by decide) (fun H locs hP hD hS => ?_)
        refine lv_if_ne (tgt := 37) hx hb dX6_takeWord_27 (by decide) (fun c8 => ?_) (fun c8 => ?_)
        · have hm := it_f c8 hm
          refine lv_aload_n hx hb dX6_takeWord_37 rfl (lv_at hl 0 rfl) ?_
          refine va_get (D := D) (ci := 6) (v := .ref (am 21)) (C := RX6) (T := TX6) (N := 49) hx hb htg inX6 hown hK hP 0 rfl rfl 30 (by decide) (htg _ q_4_219) (fun _ h9 => h9) rfl dX6_takeWord_38 ?_
          refine lv_iload_n hx hb dX6_takeWord_41 rfl (lv_at hl 3 rfl) ?_
          refine lv_aload_n hx hb dX6_takeWord_42 rfl (lv_at hl 0 rfl) ?_
          refine va_get (D := D) (ci := 6) (v := .ref (am 4)) (C := RX6) (T := TX6) (N := 49) hx hb htg inX6 hown hK hP 0 rfl rfl 3 (by decide) (htg _ q_4_192) (fun _ h9 => h9) rfl dX6_takeWord_43 ?_
          refine lv_iload_n hx hb dX6_takeWord_46 rfl (lv_at hl 1 rfl) ?_
          obtain ⟨hi9, hm⟩ := gd_s hm
          refine va_ald2 hx hb hK hP 1 3 rfl rfl hi9 dX6_takeWord_47 ?_
          rw [show (va_rf ((fun i => if i < 8 then some (am (5 + i)) else none) x.1.toNatClampNeg)) = Value.ref (am (5 + x.1.toNatClampNeg)) from rf_lt (inb_lt hi9)]
          refine lv_iload_n hx hb dX6_takeWord_48 rfl (lv_at hl 3 rfl) ?_
          obtain ⟨hj11, hm⟩ := gd_s hm
          obtain ⟨hi10, hm⟩ := gd_s hm
          have hq12 : ([((am 0), e_X6 am tkv ttv x.2.2.2.1 t_L), ((am 4), eOJ cA am 5), (am 5, eJ cA 40 (t_rows_R 0)), (am 6, eJ cA 40 (t_rows_R 1)), (am 7, eJ cA 40 (t_rows_R 2)), (am 8, eJ cA 40 (t_rows_R 3)), (am 9, eJ cA 40 (t_rows_R 4)), (am 10, eJ cA 40 (t_rows_R 5)), (am 11, eJ cA 40 (t_rows_R 6)), (am 12, eJ cA 40 (t_rows_R 7)), ((am 16), eI cA 8 x.2.2.2.2.1), ((am 21), eI cA 12 x.2.2.2.2.2)] : va_W)[2 + x.1.toNatClampNeg]? = some (am (5 + x.1.toNatClampNeg), eJ cA 40 (t_rows_R x.1.toNatClampNeg)) := by
            have hj8 := inb_lt hj11
            generalize x.1.toNatClampNeg = j at hj8 ⊢
            rcases (show j = 0 ∨ j = 1 ∨ j = 2 ∨ j = 3 ∨ j = 4 ∨ j = 5 ∨ j = 6 ∨ j = 7 by omega) with rfl | rfl | rfl | rfl | rfl | rfl | rfl | rfl <;> rfl
          refine va_lald hx hb hK hP (2 + x.1.toNatClampNeg) 1 hq12 rfl hi10 dX6_takeWord_49 ?_
          refine lv_l2i hx hb dX6_takeWord_50 rfl ?_
          obtain ⟨hi13, hm⟩ := gd_s hm
          refine va_iast hx hb hK hP hD hS 11 0 rfl rfl hi13 dX6_takeWord_51 (fun H locs (hP : va_P D CL [((am 0), e_X6 am tkv ttv x.2.2.2.1 t_L), ((am 4), eOJ cA am 5), (am 5, eJ cA 40 (t_rows_R 0)), (am 6, eJ cA 40 (t_rows_R 1)), (am 7, eJ cA 40 (t_rows_R 2)), (am 8, eJ cA 40 (t_rows_R 3)), (am 9, eJ cA 40 (t_rows_R 4)), (am 10, eJ cA 40 (t_rows_R 5)), (am 11, eJ cA 40 (t_rows_R 6)), (am 12, eJ cA 40 (t_rows_R 7)), ((am 16), eI cA 8 x.2.2.2.2.1), ((am 21), eI cA 12 (upd x.2.2.2.2.2 x.2.2.1.toNatClampNeg ((t_rows_R x.1.toNatClampNeg x.2.2.1.toNatClampNeg).toInt32)))] H) (hD : va_D A [((am 0), e_X6 am tkv ttv x.2.2.2.1 t_L), ((am 4), eOJ cA am 5), (am 5, eJ cA 40 (t_rows_R 0)), (am 6, eJ cA 40 (t_rows_R 1)), (am 7, eJ cA 40 (t_rows_R 2)), (am 8, eJ cA 40 (t_rows_R 3)), (am 9, eJ cA 40 (t_rows_R 4)), (am 10, eJ cA 40 (t_rows_R 5)), (am 11, eJ cA 40 (t_rows_R 6)), (am 12, eJ cA 40 (t_rows_R 7)), ((am 16), eI cA 8 x.2.2.2.2.1), ((am 21), eI cA 12 (upd x.2.2.2.2.2 x.2.2.1.toNatClampNeg ((t_rows_R x.1.toNatClampNeg x.2.2.1.toNatClampNeg).toInt32)))]) hS => ?_)
          refine lv_iinc (v := (x.2.2.1 + (1 : Int32))) (lv' := [(3, .int (x.2.2.1 + (1 : Int32))), (0, .ref (am 0)), (1, .int x.1), (2, .int x.2.1)]) hx hb dX6_takeWord_52 hl (k := 3) rfl rfl (by decide) rfl (fun ls hl => ?_)
          refine lv_goto (tgt := 7) hx hb dX6_takeWord_55 (by decide) ?_
          exact HK_7 _ _ _ _ hm hP hD hS (lv_sub hl [1, 2, 3, 0] rfl)
        · have hm := it_t c8 hm
          refine lv_aload_n hx hb dX6_takeWord_30 rfl (lv_at hl 0 rfl) ?_
          refine lv_bipush (v := (-5 : Int32)) hx hb dX6_takeWord_31 (by decide) ?_
          obtain ⟨o14, ho15, hm⟩ := bd_s hm
          refine xr_i (wr := [((am 4), eOJ cA am 5), (am 5, eJ cA 40 (t_rows_R 0)), (am 6, eJ cA 40 (t_rows_R 1)), (am 7, eJ cA 40 (t_rows_R 2)), (am 8, eJ cA 40 (t_rows_R 3)), (am 9, eJ cA 40 (t_rows_R 4)), (am 10, eJ cA 40 (t_rows_R 5)), (am 11, eJ cA 40 (t_rows_R 6)), (am 12, eJ cA 40 (t_rows_R 7)), ((am 21), eI cA 12 x.2.2.2.2.2)]) (wn := [((am 0), e_X6 am tkv ttv x.2.2.2.1 t_L), ((am 4), eOJ cA am 5), (am 5, eJ cA 40 (t_rows_R 0)), (am 6, eJ cA 40 (t_rows_R 1)), (am 7, eJ cA 40 (t_rows_R 2)), (am 8, eJ cA 40 (t_rows_R 3)), (am 9, eJ cA 40 (t_rows_R 4)), (am 10, eJ cA 40 (t_rows_R 5)), (am 11, eJ cA 40 (t_rows_R 6)), (am 12, eJ cA 40 (t_rows_R 7)), ((am 16), eI cA 8 o14.2), ((am 21), eI cA 12 x.2.2.2.2.2)]) (va_runV (As := [.int (-5 : Int32)]) (rest := []) ⟨hx, hb, hml, hown, htg⟩ (c_X6_refuse l D cA _ fu am tkv ttv x.2.2.2.1 t_L x.2.2.2.2.1 (-5 : Int32) o14 ho15) (cwV 1 htg (gV q_5_108 q_5_110 q_p5_7 q_1_8 q_5_111) rfl rfl rfl hd_X6_refuse ⟨Nat.le_of_ble_eq_true rfl, Nat.le_of_ble_eq_true rfl⟩) (xpV hN hK hP hD [0, 10] rfl (by decide) rfl rfl) rfl rfl hl.1 rfl (lv_room (Nat.le_of_ble_eq_true rfl)) dX6_takeWord_33 ⟨Nat.zero_le _, Nat.zero_le _⟩) hP hD hS hA [0, 10] [1, 2, 3, 4, 5, 6, 7, 8, 9, 11] [10, 0, 1, 2, 3, 4, 5, 6, 7, 8, 11, 9] rfl rfl (by decide) (by decide) rfl (by decide) (fun H locs hP hD hS => ?_)
          rw [hQ]
          exact W.iret (v := o14.1) hx hb hr (fun t9 ht hW => ⟨⟨o14.1, (x.2.2.2.1, o14.2, x.2.2.2.2.2), rfl, (Option.some.inj hm), by rw [ht]; exact hP, va_K.moved hW.alike hK, hD⟩, hS.F ht⟩) hS.2.2 dX6_takeWord_36
  unfold m_X6_takeWord at hm
  subst hargs
  have hl := lv_entry ([.ref (am 0), .int l1, .int l2]) (n := 4) (Nat.le_of_ble_eq_true rfl)
  rw [lg_entry_eq]
  generalize (lg_sl ([.ref (am 0), .int l1, .int l2]) ++ List.replicate (4 - (lg_sl ([.ref (am 0), .int l1, .int l2])).length) Slot.unset).toArray = ls at hl ⊢
  have hl : lv_has ls 4 [(0, .ref (am 0)), (1, .int l1), (2, .int l2)] := hl
  refine lv_aload_n hx hb dX6_takeWord_0 rfl (lv_at hl 0 rfl) ?_
  refine lv_iload_n hx hb dX6_takeWord_1 rfl (lv_at hl 2 rfl) ?_
  refine va_put (D := D) (ci := 6) (v := .int l2) (ty := .int) (C := RX6) (T := TX6) (N := 49) hx hb htg inX6 tyX6 tyX6_ok nmX6 hown hK hP hD hS 0 rfl rfl 31 (by decide) (htg _ q_4_220) (fun _ h9 => h9) rfl (by decide +kernel) rfl rfl (Nat.le_of_ble_eq_true rfl) dX6_takeWord_2 (fun H locs (hP : va_P D CL [((am 0), e_X6 am tkv ttv (upd t 31 l2) t_L), ((am 4), eOJ cA am 5), (am 5, eJ cA 40 (t_rows_R 0)), (am 6, eJ cA 40 (t_rows_R 1)), (am 7, eJ cA 40 (t_rows_R 2)), (am 8, eJ cA 40 (t_rows_R 3)), (am 9, eJ cA 40 (t_rows_R 4)), (am 10, eJ cA 40 (t_rows_R 5)), (am 11, eJ cA 40 (t_rows_R 6)), (am 12, eJ cA 40 (t_rows_R 7)), ((am 16), eI cA 8 t_refused), ((am 21), eI cA 12 t_word)] H) (hD : va_D A [((am 0), e_X6 am tkv ttv (upd t 31 l2) t_L), ((am 4), eOJ cA am 5), (am 5, eJ cA 40 (t_rows_R 0)), (am 6, eJ cA 40 (t_rows_R 1)), (am 7, eJ cA 40 (t_rows_R 2)), (am 8, eJ cA 40 (t_rows_R 3)), (am 9, eJ cA 40 (t_rows_R 4)), (am 10, eJ cA 40 (t_rows_R 5)), (am 11, eJ cA 40 (t_rows_R 6)), (am 12, eJ cA 40 (t_rows_R 7)), ((am 16), eI cA 8 t_refused), ((am 21), eI cA 12 t_word)]) hS => ?_)
  refine lv_iconst (v := (0 : Int32)) hx hb dX6_takeWord_5 (by decide) ?_
  refine lv_istore_n (lv' := [(3, .int (0 : Int32)), (0, .ref (am 0)), (1, .int l1), (2, .int l2)]) hx hb dX6_takeWord_6 rfl hl (by decide) rfl (fun ls hl => ?_)
  exact B_7 fu _ _ _ _ hm hP hD hS (lv_sub hl [1, 2, 3, 0] rfl)
def b_X6_noWord_28 (fu : Nat) (t_L : Nat → Int64) (t_shelf : Nat → Int32) (t_rowSize : Nat → Int32) (t_rows_R : Nat → Nat → Int64) (t : Nat → Int32) (t_refused : Nat → Int32) (t_word : Nat → Int32) : Option (Int32 × ((Nat → Int32) × (Nat → Int32) × (Nat → Int32))) :=
  (m_X6_refuse fu t t_L t_refused (-2 : Int32)).bind fun o1 =>
    some (o1.1, (t, o1.2, t_word))
def m_X6_noWord (fu : Nat) (t : Nat → Int32) (t_L : Nat → Int64) (t_shelf : Nat → Int32) (t_rowSize : Nat → Int32) (t_rows_R : Nat → Nat → Int64) (t_refused : Nat → Int32) (t_word : Nat → Int32) (l1 : Int32) (l2 : Int32) (l3 : Int32) (l4 : Int32) : Option (Int32 × ((Nat → Int32) × (Nat → Int32) × (Nat → Int32))) :=
  (m_X6_in fu l1.toInt64 (0 : Int64) (7 : Int64)).bind fun o3 =>
  (if o3.1 = 0 then
    b_X6_noWord_28 fu t_L t_shelf t_rowSize t_rows_R t t_refused t_word
  else
    (m_X6_in fu l2.toInt64 (0 : Int64) l3.toInt64).bind fun o6 =>
    (if o6.1 = 0 then
      b_X6_noWord_28 fu t_L t_shelf t_rowSize t_rows_R t t_refused t_word
    else
      (if l4 = 0 then
        b_X6_noWord_28 fu t_L t_shelf t_rowSize t_rows_R t t_refused t_word
      else
        (m_X6_noRow fu t t_L t_shelf t_refused l1).bind fun o10 =>
        (if o10.1 = 0 then
          gd (inb l1 8) (
          (if l2 ≤ (t_rowSize l1.toNatClampNeg) then
            (m_X6_takeWord fu t t_L t_rows_R o10.2 t_word l1 l2).bind fun o15 =>
            some (o15.1, (o15.2.1, o15.2.2.1, o15.2.2.2))
          else
            (m_X6_refuse fu t t_L o10.2 (-2 : Int32)).bind fun o17 =>
            some (o17.1, (t, o17.2, t_word))))
        else
          some (o10.1, (t, o10.2, t_word))))))
abbrev rm_X6_noWord : Room := ({ frames := 2, cells := 0, slots := 0, locals := 48 } : Room)
abbrev w0_X6_noWord (cA : Nat → ClassId) (am : Nat → Nat) (tkv : Value) (ttv : Value) (t : Nat → Int32) (t_L : Nat → Int64) (t_shelf : Nat → Int32) (t_rowSize : Nat → Int32) (t_rows_R : Nat → Nat → Int64) (t_refused : Nat → Int32) (t_word : Nat → Int32) : va_W := [((am 0), e_X6 am tkv ttv t t_L), ((am 1), eI cA 8 t_shelf), ((am 3), eI cA 8 t_rowSize), ((am 4), eOJ cA am 5), (am 5, eJ cA 40 (t_rows_R 0)), (am 6, eJ cA 40 (t_rows_R 1)), (am 7, eJ cA 40 (t_rows_R 2)), (am 8, eJ cA 40 (t_rows_R 3)), (am 9, eJ cA 40 (t_rows_R 4)), (am 10, eJ cA 40 (t_rows_R 5)), (am 11, eJ cA 40 (t_rows_R 6)), (am 12, eJ cA 40 (t_rows_R 7)), ((am 16), eI cA 8 t_refused), ((am 21), eI cA 12 t_word)]
abbrev w1_X6_noWord (cA : Nat → ClassId) (am : Nat → Nat) (tkv : Value) (ttv : Value) (t_L : Nat → Int64) (t_shelf : Nat → Int32) (t_rowSize : Nat → Int32) (t_rows_R : Nat → Nat → Int64) (u : (Nat → Int32) × (Nat → Int32) × (Nat → Int32)) : va_W := [((am 0), e_X6 am tkv ttv u.1 t_L), ((am 1), eI cA 8 t_shelf), ((am 3), eI cA 8 t_rowSize), ((am 4), eOJ cA am 5), (am 5, eJ cA 40 (t_rows_R 0)), (am 6, eJ cA 40 (t_rows_R 1)), (am 7, eJ cA 40 (t_rows_R 2)), (am 8, eJ cA 40 (t_rows_R 3)), (am 9, eJ cA 40 (t_rows_R 4)), (am 10, eJ cA 40 (t_rows_R 5)), (am 11, eJ cA 40 (t_rows_R 6)), (am 12, eJ cA 40 (t_rows_R 7)), ((am 16), eI cA 8 u.2.1), ((am 21), eI cA 12 u.2.2)]
theorem hd_X6_noWord : yX6_noWord.cls = RX6 ∧ yX6_noWord.cls ≠ "java/lang/invoke/MethodHandle" ∧ yX6_noWord.cls ≠ "java/lang/invoke/VarHandle" ∧ (parseMethodDescriptor yX6_noWord.desc).map (fun d => d.parameters.length) = some 4 := by decide +kernel
set_option maxHeartbeats 40000000 in
set_option maxRecDepth 100000 in
theorem c_X6_noWord (l : Launch) (D : va_G) (cA : Nat → ClassId) (sz : Nat) (fu : Nat) (am : Nat → Nat) (tkv : Value) (ttv : Value) (t : Nat → Int32) (t_L : Nat → Int64) (t_shelf : Nat → Int32) (t_rowSize : Nat → Int32) (t_rows_R : Nat → Nat → Int64) (t_refused : Nat → Int32) (t_word : Nat → Int32) (l1 : Int32) (l2 : Int32) (l3 : Int32) (l4 : Int32) (out : Int32 × ((Nat → Int32) × (Nat → Int32) × (Nat → Int32))) (hm : m_X6_noWord fu t t_L t_shelf t_rowSize t_rows_R t_refused t_word l1 l2 l3 l4 = some out) : MI l yX6_noWord (wU yX6_noWord cX6_noWord 6 ((Option.some Jvm.ClassFile.FieldType.int))) rm_X6_noWord D cA sz [.ref (am 0), .int l1, .int l2, .int l3, .int l4] (w0_X6_noWord cA am tkv ttv t t_L t_shelf t_rowSize t_rows_R t_refused t_word) out (w1_X6_noWord cA am tkv ttv t_L t_shelf t_rowSize t_rows_R) := by
  refine Met.ofW (cc := cX6_noWord) (maxL := 6) (ret := (Option.some Jvm.ClassFile.FieldType.int)) (by decide) rfl ?_
  intro p e s m args below meth c s₁ B hml hv
  obtain ⟨hargs, hsz, hP, hK, hD0, hN⟩ := hv
  have hx := B.exec
  have hb := B.bytes
  have hr := B.returns
  have htg : ∀ w ∈ gw, w.before args s = true := fun w h => atoms_spec (ws := wU yX6_noWord cX6_noWord 6 ((Option.some Jvm.ClassFile.FieldType.int))) B.pre w (List.mem_cons_of_mem _ h)
  have hown : s.vm.findClass RX6 = some m.cls := findClass_of_methodNamed B.named
  have hlocks := B.notSynchronized
  subst hsz
  have hD := hD0.self (sz := s.heap.size)
  have hA : ∀ q : Nat, s.heap.size ≤ q → va_A (w0_X6_noWord cA am tkv ttv t t_L t_shelf t_rowSize t_rows_R t_refused t_word) s.heap.size q := fun q h => Or.inr h
  have hS : va_S (va_A (w0_X6_noWord cA am tkv ttv t t_L t_shelf t_rowSize t_rows_R t_refused t_word) s.heap.size) s.heap s.heap [] := va_S.rf
  generalize va_A (w0_X6_noWord cA am tkv ttv t t_L t_shelf t_rowSize t_rows_R t_refused t_word) s.heap.size = A at hA hD hS ⊢
  obtain ⟨Q, hQ⟩ : ∃ Q : State → Prop, Q = MQ below (va_Qi (fun (r : Int32) (u : (Nat → Int32) × (Nat → Int32) × (Nat → Int32)) => (r, u) = out) (pst0 D cA A (w1_X6_noWord cA am tkv ttv t_L t_shelf t_rowSize t_rows_R)) A) args s 0 0 A := ⟨_, rfl⟩
  refine (?_ : W p l e rm_X6_noWord s m args below meth c s.heap [] 0 0 (MQ below (va_Qi (fun (r : Int32) (u : (Nat → Int32) × (Nat → Int32) × (Nat → Int32)) => (r, u) = out) (pst0 D cA A (w1_X6_noWord cA am tkv ttv t_L t_shelf t_rowSize t_rows_R)) A) args s 0 0 A) (entryFrame m args 6))
  rw [← hQ]
  have hP : va_P D CL [((am 0), e_X6 am tkv ttv t t_L), ((am 1), eI cA 8 t_shelf), ((am 3), eI cA 8 t_rowSize), ((am 4), eOJ cA am 5), (am 5, eJ cA 40 (t_rows_R 0)), (am 6, eJ cA 40 (t_rows_R 1)), (am 7, eJ cA 40 (t_rows_R 2)), (am 8, eJ cA 40 (t_rows_R 3)), (am 9, eJ cA 40 (t_rows_R 4)), (am 10, eJ cA 40 (t_rows_R 5)), (am 11, eJ cA 40 (t_rows_R 6)), (am 12, eJ cA 40 (t_rows_R 7)), ((am 16), eI cA 8 t_refused), ((am 21), eI cA 12 t_word)] s.heap := hP
  have hD : va_D A [((am 0), e_X6 am tkv ttv t t_L), ((am 1), eI cA 8 t_shelf), ((am 3), eI cA 8 t_rowSize), ((am 4), eOJ cA am 5), (am 5, eJ cA 40 (t_rows_R 0)), (am 6, eJ cA 40 (t_rows_R 1)), (am 7, eJ cA 40 (t_rows_R 2)), (am 8, eJ cA 40 (t_rows_R 3)), (am 9, eJ cA 40 (t_rows_R 4)), (am 10, eJ cA 40 (t_rows_R 5)), (am 11, eJ cA 40 (t_rows_R 6)), (am 12, eJ cA 40 (t_rows_R 7)), ((am 16), eI cA 8 t_refused), ((am 21), eI cA 12 t_word)] := hD
  have B_28 : ∀ (t : Nat → Int32) (t_refused : Nat → Int32) (t_word : Nat → Int32) (H : Heap) (locs : List Loc) (ls : Array Slot), b_X6_noWord_28 fu t_L t_shelf t_rowSize t_rows_R t t_refused t_word = some out → va_P D CL [((am 0), e_X6 am tkv ttv t t_L), ((am 1), eI cA 8 t_shelf), ((am 3), eI cA 8 t_rowSize), ((am 4), eOJ cA am 5), (am 5, eJ cA 40 (t_rows_R 0)), (am 6, eJ cA 40 (t_rows_R 1)), (am 7, eJ cA 40 (t_rows_R 2)), (am 8, eJ cA 40 (t_rows_R 3)), (am 9, eJ cA 40 (t_rows_R 4)), (am 10, eJ cA 40 (t_rows_R 5)), (am 11, eJ cA 40 (t_rows_R 6)), (am 12, eJ cA 40 (t_rows_R 7)), ((am 16), eI cA 8 t_refused), ((am 21), eI cA 12 t_word)] H → va_D A [((am 0), e_X6 am tkv ttv t t_L), ((am 1), eI cA 8 t_shelf), ((am 3), eI cA 8 t_rowSize), ((am 4), eOJ cA am 5), (am 5, eJ cA 40 (t_rows_R 0)), (am 6, eJ cA 40 (t_rows_R 1)), (am 7, eJ cA 40 (t_rows_R 2)), (am 8, eJ cA 40 (t_rows_R 3)), (am 9, eJ cA 40 (t_rows_R 4)), (am 10, eJ cA 40 (t_rows_R 5)), (am 11, eJ cA 40 (t_rows_R 6)), (am 12, eJ cA 40 (t_rows_R 7)), ((am 16), eI cA 8 t_refused), ((am 21), eI cA 12 t_word)] → va_S A s.heap H locs → lv_has ls 6 [(0, .ref (am 0))] → W p l e rm_X6_noWord s m args below meth c H locs 0 0 Q (F0 m 28 ls []) := by
    intro  t t_refused t_word H locs ls hm hP hD hS hl
    unfold b_X6_noWord_28 at hm
    refine lv_aload_n hx hb dX6_noWord_28 rfl (lv_at hl 0 rfl) ?_
    refine lv_bipush (v := (-2 : Int32)) hx hb dX6_noWord_29 (by decide) ?_
    obtain ⟨o1, ho2, hm⟩ := bd_s hm
    refine xr_i (wr := [((am 1), eI cA 8 t_shelf), ((am 3), eI cA 8 t_rowSize), ((am 4), eOJ cA am 5), (am 5, eJ cA 40 (t_rows_R 0)), (am 6, eJ cA 40 (t_rows_R 1)), (am 7, eJ cA 40 (t_rows_R 2)), (am 8, eJ cA 40 (t_rows_R 3)), (am 9, eJ cA 40 (t_rows_R 4)), (am 10, eJ cA 40 (t_rows_R 5)), (am 11, eJ cA 40 (t_rows_R 6)), (am 12, eJ cA 40 (t_rows_R 7)), ((am 21), eI cA 12 t_word)]) (wn := [((am 0), e_X6 am tkv ttv t t_L), ((am 1), eI cA 8 t_shelf), ((am 3), eI cA 8 t_rowSize), ((am 4), eOJ cA am 5), (am 5, eJ cA 40 (t_rows_R 0)), (am 6, eJ cA 40 (t_rows_R 1)), (am 7, eJ cA 40 (t_rows_R 2)), (am 8, eJ cA 40 (t_rows_R 3)), (am 9, eJ cA 40 (t_rows_R 4)), (am 10, eJ cA 40 (t_rows_R 5)), (am 11, eJ cA 40 (t_rows_R 6)), (am 12, eJ cA 40 (t_rows_R 7)), ((am 16), eI cA 8 o1.2), ((am 21), eI cA 12 t_word)]) (va_runV (As := [.int (-2 : Int32)]) (rest := []) ⟨hx, hb, hml, hown, htg⟩ (c_X6_refuse l D cA _ fu am tkv ttv t t_L t_refused (-2 : Int32) o1 ho2) (cwV 1 htg (gV q_5_108 q_5_110 q_p5_7 q_1_8 q_5_111) rfl rfl rfl hd_X6_refuse ⟨Nat.le_of_ble_eq_true rfl, Nat.le_of_ble_eq_true rfl⟩) (xpV hN hK hP hD [0, 12] rfl (by decide) rfl rfl) rfl rfl hl.1 rfl (lv_room (Nat.le_of_ble_eq_true rfl)) dX6_noWord_31 ⟨Nat.zero_le _, Nat.zero_le _⟩) hP hD hS hA [0, 12] [1, 2, 3, 4, 5, 6, 7, 8, 9, 10, 11, 13] [12, 0, 1, 2, 3, 4, 5, 6, 7, 8, 9, 10, 13, 11] rfl rfl (by decide) (by decide) rfl (by decide) (fun H locs hP hD hS => ?_)
    rw [hQ]
    exact W.iret (v := o1.1) hx hb hr (fun t9 ht hW => ⟨⟨o1.1, (t, o1.2, t_word), rfl, (Option.some.inj hm), by rw [ht]; exact hP, va_K.moved hW.alike hK, hD⟩, hS.F ht⟩) hS.2.2 dX6_noWord_34
  unfold m_X6_noWord at hm
  subst hargs
  have hl := lv_entry ([.ref (am 0), .int l1, .int l2, .int l3, .int l4]) (n := 6) (Nat.le_of_ble_eq_true rfl)
  rw [lg_entry_eq]
  generalize (lg_sl ([.ref (am 0), .int l1, .int l2, .int l3, .int l4]) ++ List.replicate (6 - (lg_sl ([.ref (am 0), .int l1, .int l2, .int l3, .int l4])).length) Slot.unset).toArray = ls at hl ⊢
  have hl : lv_has ls 6 [(0, .ref (am 0)), (1, .int l1), (2, .int l2), (3, .int l3), (4, .int l4)] := hl
  refine lv_iload_n hx hb dX6_noWord_0 rfl (lv_at hl 1 rfl) ?_
  refine lv_i2l hx hb dX6_noWord_1 rfl ?_
  refine lv_lconst (v := (0 : Int64)) hx hb dX6_noWord_2 (by decide) ?_
  refine lv_ldc2 (v := (7 : Int64)) hx hb hown (htg _ q_5_102) dX6_noWord_3 ?_
  obtain ⟨o3, ho4, hm⟩ := bd_s hm
  refine xr_i (wr := [((am 0), e_X6 am tkv ttv t t_L), ((am 1), eI cA 8 t_shelf), ((am 3), eI cA 8 t_rowSize), ((am 4), eOJ cA am 5), (am 5, eJ cA 40 (t_rows_R 0)), (am 6, eJ cA 40 (t_rows_R 1)), (am 7, eJ cA 40 (t_rows_R 2)), (am 8, eJ cA 40 (t_rows_R 3)), (am 9, eJ cA 40 (t_rows_R 4)), (am 10, eJ cA 40 (t_rows_R 5)), (am 11, eJ cA 40 (t_rows_R 6)), (am 12, eJ cA 40 (t_rows_R 7)), ((am 16), eI cA 8 t_refused), ((am 21), eI cA 12 t_word)]) (wn := [((am 0), e_X6 am tkv ttv t t_L), ((am 1), eI cA 8 t_shelf), ((am 3), eI cA 8 t_rowSize), ((am 4), eOJ cA am 5), (am 5, eJ cA 40 (t_rows_R 0)), (am 6, eJ cA 40 (t_rows_R 1)), (am 7, eJ cA 40 (t_rows_R 2)), (am 8, eJ cA 40 (t_rows_R 3)), (am 9, eJ cA 40 (t_rows_R 4)), (am 10, eJ cA 40 (t_rows_R 5)), (am 11, eJ cA 40 (t_rows_R 6)), (am 12, eJ cA 40 (t_rows_R 7)), ((am 16), eI cA 8 t_refused), ((am 21), eI cA 12 t_word)]) (va_runS (As := [.long l1.toInt64, .long (0 : Int64), .long (7 : Int64)]) (rest := []) ⟨hx, hb, hml, hown, htg⟩ (c_X6_in l D cA _ fu l1.toInt64 (0 : Int64) (7 : Int64) o3 ho4) (cwS 3 htg (gS q_5_103 q_5_104 q_1_8 q_5_105) rfl rfl rfl hd_X6_in ⟨Nat.le_of_ble_eq_true rfl, Nat.le_of_ble_eq_true rfl⟩) (xpS hN hK hP hD [] rfl (by decide)) rfl rfl hl.1 rfl (lv_room (Nat.le_of_ble_eq_true rfl)) dX6_noWord_6 ⟨Nat.zero_le _, Nat.zero_le _⟩) hP hD hS hA [] [0, 1, 2, 3, 4, 5, 6, 7, 8, 9, 10, 11, 12, 13] [0, 1, 2, 3, 4, 5, 6, 7, 8, 9, 10, 11, 12, 13] rfl rfl (by decide) (by decide) rfl (by decide) (fun H locs hP hD hS => ?_)
  refine lv_if_eq (tgt := 28) hx hb dX6_noWord_9 (by decide) (fun c5 => ?_) (fun c5 => ?_)
  · have hm := it_t c5 hm
    exact B_28 _ _ _ _ _ _ hm hP hD hS (lv_sub hl [0] rfl)
  · have hm := it_f c5 hm
    refine lv_iload_n hx hb dX6_noWord_12 rfl (lv_at hl 2 rfl) ?_
    refine lv_i2l hx hb dX6_noWord_13 rfl ?_
    refine lv_lconst (v := (0 : Int64)) hx hb dX6_noWord_14 (by decide) ?_
    refine lv_iload_n hx hb dX6_noWord_15 rfl (lv_at hl 3 rfl) ?_
    refine lv_i2l hx hb dX6_noWord_16 rfl ?_
    obtain ⟨o6, ho7, hm⟩ := bd_s hm
    refine xr_i (wr := [((am 0), e_X6 am tkv ttv t t_L), ((am 1), eI cA 8 t_shelf), ((am 3), eI cA 8 t_rowSize), ((am 4), eOJ cA am 5), (am 5, eJ cA 40 (t_rows_R 0)), (am 6, eJ cA 40 (t_rows_R 1)), (am 7, eJ cA 40 (t_rows_R 2)), (am 8, eJ cA 40 (t_rows_R 3)), (am 9, eJ cA 40 (t_rows_R 4)), (am 10, eJ cA 40 (t_rows_R 5)), (am 11, eJ cA 40 (t_rows_R 6)), (am 12, eJ cA 40 (t_rows_R 7)), ((am 16), eI cA 8 t_refused), ((am 21), eI cA 12 t_word)]) (wn := [((am 0), e_X6 am tkv ttv t t_L), ((am 1), eI cA 8 t_shelf), ((am 3), eI cA 8 t_rowSize), ((am 4), eOJ cA am 5), (am 5, eJ cA 40 (t_rows_R 0)), (am 6, eJ cA 40 (t_rows_R 1)), (am 7, eJ cA 40 (t_rows_R 2)), (am 8, eJ cA 40 (t_rows_R 3)), (am 9, eJ cA 40 (t_rows_R 4)), (am 10, eJ cA 40 (t_rows_R 5)), (am 11, eJ cA 40 (t_rows_R 6)), (am 12, eJ cA 40 (t_rows_R 7)), ((am 16), eI cA 8 t_refused), ((am 21), eI cA 12 t_word)]) (va_runS (As := [.long l2.toInt64, .long (0 : Int64), .long l3.toInt64]) (rest := []) ⟨hx, hb, hml, hown, htg⟩ (c_X6_in l D cA _ fu l2.toInt64 (0 : Int64) l3.toInt64 o6 ho7) (cwS 3 htg (gS q_5_103 q_5_104 q_1_8 q_5_105) rfl rfl rfl hd_X6_in ⟨Nat.le_of_ble_eq_true rfl, Nat.le_of_ble_eq_true rfl⟩) (xpS hN hK hP hD [] rfl (by decide)) rfl rfl hl.1 rfl (lv_room (Nat.le_of_ble_eq_true rfl)) dX6_noWord_17 ⟨Nat.zero_le _, Nat.zero_le _⟩) hP hD hS hA [] [0, 1, 2, 3, 4, 5, 6, 7, 8, 9, 10, 11, 12, 13] [0, 1, 2, 3, 4, 5, 6, 7, 8, 9, 10, 11, 12, 13] rfl rfl (by decide) (by decide) rfl (by decide) (fun H locs hP hD hS => ?_)
    refine lv_if_eq (tgt := 28) hx hb dX6_noWord_20 (by decide) (fun c8 => ?_) (fun c8 => ?_)
    · have hm := it_t c8 hm
      exact B_28 _ _ _ _ _ _ hm hP hD hS (lv_sub hl [0] rfl)
    · have hm := it_f c8 hm
      refine lv_iload hx hb dX6_noWord_23 (lv_at hl 4 rfl) ?_
      refine lv_if_ne (tgt := 35) hx hb dX6_noWord_25 (by decide) (fun c9 => ?_) (fun c9 => ?_)
      · have hm := it_f c9 hm
        refine lv_aload_n hx hb dX6_noWord_35 rfl (lv_at hl 0 rfl) ?_
        refine lv_iload_n hx hb dX6_noWord_36 rfl (lv_at hl 1 rfl) ?_
        obtain ⟨o10, ho11, hm⟩ := bd_s hm
        refine xr_i (wr := [((am 3), eI cA 8 t_rowSize), ((am 4), eOJ cA am 5), (am 5, eJ cA 40 (t_rows_R 0)), (am 6, eJ cA 40 (t_rows_R 1)), (am 7, eJ cA 40 (t_rows_R 2)), (am 8, eJ cA 40 (t_rows_R 3)), (am 9, eJ cA 40 (t_rows_R 4)), (am 10, eJ cA 40 (t_rows_R 5)), (am 11, eJ cA 40 (t_rows_R 6)), (am 12, eJ cA 40 (t_rows_R 7)), ((am 21), eI cA 12 t_word)]) (wn := [((am 0), e_X6 am tkv ttv t t_L), ((am 1), eI cA 8 t_shelf), ((am 3), eI cA 8 t_rowSize), ((am 4), eOJ cA am 5), (am 5, eJ cA 40 (t_rows_R 0)), (am 6, eJ cA 40 (t_rows_R 1)), (am 7, eJ cA 40 (t_rows_R 2)), (am 8, eJ cA 40 (t_rows_R 3)), (am 9, eJ cA 40 (t_rows_R 4)), (am 10, eJ cA 40 (t_rows_R 5)), (am 11, eJ cA 40 (t_rows_R 6)), (am 12, eJ cA 40 (t_rows_R 7)), ((am 16), eI cA 8 o10.2), ((am 21), eI cA 12 t_word)]) (va_runV (As := [.int l1]) (rest := []) ⟨hx, hb, hml, hown, htg⟩ (c_X6_noRow l D cA _ fu am tkv ttv t t_L t_shelf t_refused l1 o10 ho11) (cwV 1 htg (gV q_5_116 q_5_118 q_p5_8 q_1_8 q_5_119) rfl rfl rfl hd_X6_noRow ⟨Nat.le_of_ble_eq_true rfl, Nat.le_of_ble_eq_true rfl⟩) (xpV hN hK hP hD [0, 1, 12] rfl (by decide) rfl rfl) rfl rfl hl.1 rfl (lv_room (Nat.le_of_ble_eq_true rfl)) dX6_noWord_37 ⟨Nat.zero_le _, Nat.zero_le _⟩) hP hD hS hA [0, 1, 12] [2, 3, 4, 5, 6, 7, 8, 9, 10, 11, 13] [11, 12, 0, 1, 2, 3, 4, 5, 6, 7, 8, 9, 13, 10] rfl rfl (by decide) (by decide) rfl (by decide) (fun H locs hP hD hS => ?_)
        refine lv_istore (lv' := [(5, .int o10.1), (0, .ref (am 0)), (1, .int l1), (2, .int l2), (3, .int l3), (4, .int l4)]) hx hb dX6_noWord_40 hl (by decide) rfl (fun ls hl => ?_)
        refine lv_iload hx hb dX6_noWord_42 (lv_at hl 0 rfl) ?_
        refine lv_if_eq (tgt := 50) hx hb dX6_noWord_44 (by decide) (fun c12 => ?_) (fun c12 => ?_)
        · have hm := it_t c12 hm
          refine lv_aload_n hx hb dX6_noWord_50 rfl (lv_at hl 1 rfl) ?_
          refine va_get (D := D) (ci := 6) (v := .ref (am 3)) (C := RX6) (T := TX6) (N := 49) hx hb htg inX6 hown hK hP 0 rfl rfl 2 (by decide) (htg _ q_4_191) (fun _ h9 => h9) rfl dX6_noWord_51 ?_
          refine lv_iload_n hx hb dX6_noWord_54 rfl (lv_at hl 2 rfl) ?_
          obtain ⟨hi13, hm⟩ := gd_s hm
          refine va_iald hx hb hK hP 2 0 rfl rfl hi13 dX6_noWord_55 ?_
          refine lv_iload_n hx hb dX6_noWord_56 rfl (lv_at hl 3 rfl) ?_
          refine lv_icmp_ge (tgt := 67) hx hb dX6_noWord_57 (by decide) (fun c14 => ?_) (fun c14 => ?_)
          · have hm := it_t c14 hm
            refine lv_aload_n hx hb dX6_noWord_67 rfl (lv_at hl 1 rfl) ?_
            refine lv_iload_n hx hb dX6_noWord_68 rfl (lv_at hl 2 rfl) ?_
            refine lv_iload_n hx hb dX6_noWord_69 rfl (lv_at hl 3 rfl) ?_
            obtain ⟨o15, ho16, hm⟩ := bd_s hm
            refine xr_i (wr := [((am 1), eI cA 8 t_shelf), ((am 3), eI cA 8 t_rowSize)]) (wn := [((am 0), e_X6 am tkv ttv o15.2.1 t_L), ((am 1), eI cA 8 t_shelf), ((am 3), eI cA 8 t_rowSize), ((am 4), eOJ cA am 5), (am 5, eJ cA 40 (t_rows_R 0)), (am 6, eJ cA 40 (t_rows_R 1)), (am 7, eJ cA 40 (t_rows_R 2)), (am 8, eJ cA 40 (t_rows_R 3)), (am 9, eJ cA 40 (t_rows_R 4)), (am 10, eJ cA 40 (t_rows_R 5)), (am 11, eJ cA 40 (t_rows_R 6)), (am 12, eJ cA 40 (t_rows_R 7)), ((am 16), eI cA 8 o15.2.2.1), ((am 21), eI cA 12 o15.2.2.2)]) (va_runV (As := [.int l1, .int l2]) (rest := []) ⟨hx, hb, hml, hown, htg⟩ (c_X6_takeWord l D cA _ fu am tkv ttv t t_L t_rows_R o10.2 t_word l1 l2 o15 ho16) (cwV 2 htg (gV q_6_53 q_6_55 q_p6_9 q_1_8 q_6_56) rfl rfl rfl hd_X6_takeWord ⟨Nat.le_of_ble_eq_true rfl, Nat.le_of_ble_eq_true rfl⟩) (xpV hN hK hP hD [0, 3, 4, 5, 6, 7, 8, 9, 10, 11, 12, 13] rfl (by decide) rfl rfl) rfl rfl hl.1 rfl (lv_room (Nat.le_of_ble_eq_true rfl)) dX6_noWord_70 ⟨Nat.zero_le _, Nat.zero_le _⟩) hP hD hS hA [0, 3, 4, 5, 6, 7, 8, 9, 10, 11, 12, 13] [1, 2] [2, 0, 1, 3, 4, 5, 6, 7, 8, 9, 10, 11, 12, 13] rfl rfl (by decide) (by decide) rfl (by decide) (fun H locs hP hD hS => ?_)
            rw [hQ]
            exact W.iret (v := o15.1) hx hb hr (fun t9 ht hW => ⟨⟨o15.1, (o15.2.1, o15.2.2.1, o15.2.2.2), rfl, (Option.some.inj hm), by rw [ht]; exact hP, va_K.moved hW.alike hK, hD⟩, hS.F ht⟩) hS.2.2 dX6_noWord_73
          · have hm := it_f c14 hm
            refine lv_aload_n hx hb dX6_noWord_60 rfl (lv_at hl 1 rfl) ?_
            refine lv_bipush (v := (-2 : Int32)) hx hb dX6_noWord_61 (by decide) ?_
            obtain ⟨o17, ho18, hm⟩ := bd_s hm
            refine xr_i (wr := [((am 1), eI cA 8 t_shelf), ((am 3), eI cA 8 t_rowSize), ((am 4), eOJ cA am 5), (am 5, eJ cA 40 (t_rows_R 0)), (am 6, eJ cA 40 (t_rows_R 1)), (am 7, eJ cA 40 (t_rows_R 2)), (am 8, eJ cA 40 (t_rows_R 3)), (am 9, eJ cA 40 (t_rows_R 4)), (am 10, eJ cA 40 (t_rows_R 5)), (am 11, eJ cA 40 (t_rows_R 6)), (am 12, eJ cA 40 (t_rows_R 7)), ((am 21), eI cA 12 t_word)]) (wn := [((am 0), e_X6 am tkv ttv t t_L), ((am 1), eI cA 8 t_shelf), ((am 3), eI cA 8 t_rowSize), ((am 4), eOJ cA am 5), (am 5, eJ cA 40 (t_rows_R 0)), (am 6, eJ cA 40 (t_rows_R 1)), (am 7, eJ cA 40 (t_rows_R 2)), (am 8, eJ cA 40 (t_rows_R 3)), (am 9, eJ cA 40 (t_rows_R 4)), (am 10, eJ cA 40 (t_rows_R 5)), (am 11, eJ cA 40 (t_rows_R 6)), (am 12, eJ cA 40 (t_rows_R 7)), ((am 16), eI cA 8 o17.2), ((am 21), eI cA 12 t_word)]) (va_runV (As := [.int (-2 : Int32)]) (rest := []) ⟨hx, hb, hml, hown, htg⟩ (c_X6_refuse l D cA _ fu am tkv ttv t t_L o10.2 (-2 : Int32) o17 ho18) (cwV 1 htg (gV q_5_108 q_5_110 q_p5_7 q_1_8 q_5_111) rfl rfl rfl hd_X6_refuse ⟨Nat.le_of_ble_eq_true rfl, Nat.le_of_ble_eq_true rfl⟩) (xpV hN hK hP hD [0, 12] rfl (by decide) rfl rfl) rfl rfl hl.1 rfl (lv_room (Nat.le_of_ble_eq_true rfl)) dX6_noWord_63 ⟨Nat.zero_le _, Nat.zero_le _⟩) hP hD hS hA [0, 12] [1, 2, 3, 4, 5, 6, 7, 8, 9, 10, 11, 13] [12, 0, 1, 2, 3, 4, 5, 6, 7, 8, 9, 10, 13, 11] rfl rfl (by decide) (by decide) rfl (by decide) (fun H locs hP hD hS => ?_)
            rw [hQ]
            exact W.iret (v := o17.1) hx hb hr (fun t9 ht hW => ⟨⟨o17.1, (t, o17.2, t_word), rfl, (Option.some.inj hm), by rw [ht]; exact hP, va_K.moved hW.alike hK, hD⟩, hS.F ht⟩) hS.2.2 dX6_noWord_66
        · have hm := it_f c12 hm
          refine lv_iload hx hb dX6_noWord_47 (lv_at hl 0 rfl) ?_
          rw [hQ]
          exact W.iret (v := o10.1) hx hb hr (fun t9 ht hW => ⟨⟨o10.1, (t, o10.2, t_word), rfl, (Option.some.inj hm), by rw [ht]; exact hP, va_K.moved hW.alike hK, hD⟩, hS.F ht⟩) hS.2.2 dX6_noWord_49
      · have hm := it_t c9 hm
        exact B_28 _ _ _ _ _ _ hm hP hD hS (lv_sub hl [0] rfl)
def b_X6_noWords_54 (fu : Nat) (t_L : Nat → Int64) (t_shelf : Nat → Int32) (t_rowSize : Nat → Int32) (t_rows_R : Nat → Nat → Int64) (t : Nat → Int32) (t_refused : Nat → Int32) (t_word : Nat → Int32) : Option (Int32 × ((Nat → Int32) × (Nat → Int32) × (Nat → Int32))) :=
  (m_X6_refuse fu t t_L t_refused (-2 : Int32)).bind fun o1 =>
    some (o1.1, (t, o1.2, t_word))
def b_X6_noWords_81 (fu : Nat) (t_L : Nat → Int64) (t_shelf : Nat → Int32) (t_rowSize : Nat → Int32) (t_rows_R : Nat → Nat → Int64) (t : Nat → Int32) (t_refused : Nat → Int32) (t_word : Nat → Int32) : Option (Int32 × ((Nat → Int32) × (Nat → Int32) × (Nat → Int32))) :=
  (m_X6_refuse fu t t_L t_refused (-3 : Int32)).bind fun o3 =>
    some (o3.1, (t, o3.2, t_word))
def b_X6_noWords_106 (fu : Nat) (t_L : Nat → Int64) (t_shelf : Nat → Int32) (t_rowSize : Nat → Int32) (t_rows_R : Nat → Nat → Int64) (t : Nat → Int32) (t_refused : Nat → Int32) (t_word : Nat → Int32) : Option (Int32 × ((Nat → Int32) × (Nat → Int32) × (Nat → Int32))) :=
  (m_X6_refuse fu t t_L t_refused (-4 : Int32)).bind fun o5 =>
    some (o5.1, (t, o5.2, t_word))
def b_X6_noWords_137 (fu : Nat) (t_L : Nat → Int64) (t_shelf : Nat → Int32) (t_rowSize : Nat → Int32) (t_rows_R : Nat → Nat → Int64) (t : Nat → Int32) (t_refused : Nat → Int32) (t_word : Nat → Int32) : Option (Int32 × ((Nat → Int32) × (Nat → Int32) × (Nat → Int32))) :=
  (m_X6_refuse fu t t_L t_refused (-2 : Int32)).bind fun o7 =>
    some (o7.1, (t, o7.2, t_word))
def m_X6_noWords (fu : Nat) (t : Nat → Int32) (t_L : Nat → Int64) (t_shelf : Nat → Int32) (t_rowSize : Nat → Int32) (t_rows_R : Nat → Nat → Int64) (t_refused : Nat → Int32) (t_word : Nat → Int32) (l1 : Int32) (l2 : Int32) (l3 : Int32) (l4 : Int32) (l5 : Int32) (l6 : Int32) (l7 : Int32) : Option (Int32 × ((Nat → Int32) × (Nat → Int32) × (Nat → Int32))) :=
  (m_X6_in fu l1.toInt64 (0 : Int64) (7 : Int64)).bind fun o9 =>
  (if o9.1 = 0 then
    b_X6_noWords_54 fu t_L t_shelf t_rowSize t_rows_R t t_refused t_word
  else
    (m_X6_in fu l2.toInt64 (0 : Int64) (12 : Int64)).bind fun o12 =>
    (if o12.1 = 0 then
      b_X6_noWords_54 fu t_L t_shelf t_rowSize t_rows_R t t_refused t_word
    else
      (m_X6_in fu l3.toInt64 (0 : Int64) (7 : Int64)).bind fun o15 =>
      (if o15.1 = 0 then
        b_X6_noWords_54 fu t_L t_shelf t_rowSize t_rows_R t t_refused t_word
      else
        (m_X6_in fu l4.toInt64 (0 : Int64) l5.toInt64).bind fun o18 =>
        (if o18.1 = 0 then
          b_X6_noWords_54 fu t_L t_shelf t_rowSize t_rows_R t t_refused t_word
        else
          (if l7 = 0 then
            b_X6_noWords_54 fu t_L t_shelf t_rowSize t_rows_R t t_refused t_word
          else
            gd (inb l1 8) (
            (if (t_shelf l1.toNatClampNeg) = (2 : Int32) then
              b_X6_noWords_81 fu t_L t_shelf t_rowSize t_rows_R t t_refused t_word
            else
              gd (inb l3 8) (
              (if (t_shelf l3.toNatClampNeg) = (2 : Int32) then
                b_X6_noWords_81 fu t_L t_shelf t_rowSize t_rows_R t t_refused t_word
              else
                gd (inb l1 8) (
                (if (t_shelf l1.toNatClampNeg) = 0 then
                  b_X6_noWords_106 fu t_L t_shelf t_rowSize t_rows_R t t_refused t_word
                else
                  gd (inb l3 8) (
                  (if (t_shelf l3.toNatClampNeg) = 0 then
                    b_X6_noWords_106 fu t_L t_shelf t_rowSize t_rows_R t t_refused t_word
                  else
                    gd (inb l1 8) (
                    (if (t_rowSize l1.toNatClampNeg) < l2 then
                      b_X6_noWords_137 fu t_L t_shelf t_rowSize t_rows_R t t_refused t_word
                    else
                      gd (inb l3 8) (
                      (if (l6 * l4) ≤ (t_rowSize l3.toNatClampNeg) then
                        (m_X6_takeWord fu t t_L t_rows_R t_refused t_word l1 l2).bind fun o34 =>
                        some (o34.1, (o34.2.1, o34.2.2.1, o34.2.2.2))
                      else
                        b_X6_noWords_137 fu t_L t_shelf t_rowSize t_rows_R t t_refused t_word)))))))))))))))))
abbrev rm_X6_noWords : Room := ({ frames := 2, cells := 0, slots := 0, locals := 48 } : Room)
abbrev w0_X6_noWords (cA : Nat → ClassId) (am : Nat → Nat) (tkv : Value) (ttv : Value) (t : Nat → Int32) (t_L : Nat → Int64) (t_shelf : Nat → Int32) (t_rowSize : Nat → Int32) (t_rows_R : Nat → Nat → Int64) (t_refused : Nat → Int32) (t_word : Nat → Int32) : va_W := [((am 0), e_X6 am tkv ttv t t_L), ((am 1), eI cA 8 t_shelf), ((am 3), eI cA 8 t_rowSize), ((am 4), eOJ cA am 5), (am 5, eJ cA 40 (t_rows_R 0)), (am 6, eJ cA 40 (t_rows_R 1)), (am 7, eJ cA 40 (t_rows_R 2)), (am 8, eJ cA 40 (t_rows_R 3)), (am 9, eJ cA 40 (t_rows_R 4)), (am 10, eJ cA 40 (t_rows_R 5)), (am 11, eJ cA 40 (t_rows_R 6)), (am 12, eJ cA 40 (t_rows_R 7)), ((am 16), eI cA 8 t_refused), ((am 21), eI cA 12 t_word)]
abbrev w1_X6_noWords (cA : Nat → ClassId) (am : Nat → Nat) (tkv : Value) (ttv : Value) (t_L : Nat → Int64) (t_shelf : Nat → Int32) (t_rowSize : Nat → Int32) (t_rows_R : Nat → Nat → Int64) (u : (Nat → Int32) × (Nat → Int32) × (Nat → Int32)) : va_W := [((am 0), e_X6 am tkv ttv u.1 t_L), ((am 1), eI cA 8 t_shelf), ((am 3), eI cA 8 t_rowSize), ((am 4), eOJ cA am 5), (am 5, eJ cA 40 (t_rows_R 0)), (am 6, eJ cA 40 (t_rows_R 1)), (am 7, eJ cA 40 (t_rows_R 2)), (am 8, eJ cA 40 (t_rows_R 3)), (am 9, eJ cA 40 (t_rows_R 4)), (am 10, eJ cA 40 (t_rows_R 5)), (am 11, eJ cA 40 (t_rows_R 6)), (am 12, eJ cA 40 (t_rows_R 7)), ((am 16), eI cA 8 u.2.1), ((am 21), eI cA 12 u.2.2)]
theorem hd_X6_noWords : yX6_noWords.cls = RX6 ∧ yX6_noWords.cls ≠ "java/lang/invoke/MethodHandle" ∧ yX6_noWords.cls ≠ "java/lang/invoke/VarHandle" ∧ (parseMethodDescriptor yX6_noWords.desc).map (fun d => d.parameters.length) = some 7 := by decide +kernel
set_option maxHeartbeats 40000000 in
set_option maxRecDepth 100000 in
theorem c_X6_noWords (l : Launch) (D : va_G) (cA : Nat → ClassId) (sz : Nat) (fu : Nat) (am : Nat → Nat) (tkv : Value) (ttv : Value) (t : Nat → Int32) (t_L : Nat → Int64) (t_shelf : Nat → Int32) (t_rowSize : Nat → Int32) (t_rows_R : Nat → Nat → Int64) (t_refused : Nat → Int32) (t_word : Nat → Int32) (l1 : Int32) (l2 : Int32) (l3 : Int32) (l4 : Int32) (l5 : Int32) (l6 : Int32) (l7 : Int32) (out : Int32 × ((Nat → Int32) × (Nat → Int32) × (Nat → Int32))) (hm : m_X6_noWords fu t t_L t_shelf t_rowSize t_rows_R t_refused t_word l1 l2 l3 l4 l5 l6 l7 = some out) : MI l yX6_noWords (wU yX6_noWords cX6_noWords 8 ((Option.some Jvm.ClassFile.FieldType.int))) rm_X6_noWords D cA sz [.ref (am 0), .int l1, .int l2, .int l3, .int l4, .int l5, .int l6, .int l7] (w0_X6_noWords cA am tkv ttv t t_L t_shelf t_rowSize t_rows_R t_refused t_word) out (w1_X6_noWords cA am tkv ttv t_L t_shelf t_rowSize t_rows_R) := by
  refine Met.ofW (cc := cX6_noWords) (maxL := 8) (ret := (Option.some Jvm.ClassFile.FieldType.int)) (by decide) rfl ?_
  intro p e s m args below meth c s₁ B hml hv
  obtain ⟨hargs, hsz, hP, hK, hD0, hN⟩ := hv
  have hx := B.exec
  have hb := B.bytes
  have hr := B.returns
  have htg : ∀ w ∈ gw, w.before args s = true := fun w h => atoms_spec (ws := wU yX6_noWords cX6_noWords 8 ((Option.some Jvm.ClassFile.FieldType.int))) B.pre w (List.mem_cons_of_mem _ h)
  have hown : s.vm.findClass RX6 = some m.cls := findClass_of_methodNamed B.named
  have hlocks := B.notSynchronized
  subst hsz
  have hD := hD0.self (sz := s.heap.size)
  have hA : ∀ q : Nat, s.heap.size ≤ q → va_A (w0_X6_noWords cA am tkv ttv t t_L t_shelf t_rowSize t_rows_R t_refused t_word) s.heap.size q := fun q h => Or.inr h
  have hS : va_S (va_A (w0_X6_noWords cA am tkv ttv t t_L t_shelf t_rowSize t_rows_R t_refused t_word) s.heap.size) s.heap s.heap [] := va_S.rf
  generalize va_A (w0_X6_noWords cA am tkv ttv t t_L t_shelf t_rowSize t_rows_R t_refused t_word) s.heap.size = A at hA hD hS ⊢
  obtain ⟨Q, hQ⟩ : ∃ Q : State → Prop, Q = MQ below (va_Qi (fun (r : Int32) (u : (Nat → Int32) × (Nat → Int32) × (Nat → Int32)) => (r, u) = out) (pst0 D cA A (w1_X6_noWords cA am tkv ttv t_L t_shelf t_rowSize t_rows_R)) A) args s 0 0 A := ⟨_, rfl⟩
  refine (?_ : W p l e rm_X6_noWords s m args below meth c s.heap [] 0 0 (MQ below (va_Qi (fun (r : Int32) (u : (Nat → Int32) × (Nat → Int32) × (Nat → Int32)) => (r, u) = out) (pst0 D cA A (w1_X6_noWords cA am tkv ttv t_L t_shelf t_rowSize t_rows_R)) A) args s 0 0 A) (entryFrame m args 8))
  rw [← hQ]
  have hP : va_P D CL [((am 0), e_X6 am tkv ttv t t_L), ((am 1), eI cA 8 t_shelf), ((am 3), eI cA 8 t_rowSize), ((am 4), eOJ cA am 5), (am 5, eJ cA 40 (t_rows_R 0)), (am 6, eJ cA 40 (t_rows_R 1)), (am 7, eJ cA 40 (t_rows_R 2)), (am 8, eJ cA 40 (t_rows_R 3)), (am 9, eJ cA 40 (t_rows_R 4)), (am 10, eJ cA 40 (t_rows_R 5)), (am 11, eJ cA 40 (t_rows_R 6)), (am 12, eJ cA 40 (t_rows_R 7)), ((am 16), eI cA 8 t_refused), ((am 21), eI cA 12 t_word)] s.heap := hP
  have hD : va_D A [((am 0), e_X6 am tkv ttv t t_L), ((am 1), eI cA 8 t_shelf), ((am 3), eI cA 8 t_rowSize), ((am 4), eOJ cA am 5), (am 5, eJ cA 40 (t_rows_R 0)), (am 6, eJ cA 40 (t_rows_R 1)), (am 7, eJ cA 40 (t_rows_R 2)), (am 8, eJ cA 40 (t_rows_R 3)), (am 9, eJ cA 40 (t_rows_R 4)), (am 10, eJ cA 40 (t_rows_R 5)), (am 11, eJ cA 40 (t_rows_R 6)), (am 12, eJ cA 40 (t_rows_R 7)), ((am 16), eI cA 8 t_refused), ((am 21), eI cA 12 t_word)] := hD
  have B_54 : ∀ (t : Nat → Int32) (t_refused : Nat → Int32) (t_word : Nat → Int32) (H : Heap) (locs : List Loc) (ls : Array Slot), b_X6_noWords_54 fu t_L t_shelf t_rowSize t_rows_R t t_refused t_word = some out → va_P D CL [((am 0), e_X6 am tkv ttv t t_L), ((am 1), eI cA 8 t_shelf), ((am 3), eI cA 8 t_rowSize), ((am 4), eOJ cA am 5), (am 5, eJ cA 40 (t_rows_R 0)), (am 6, eJ cA 40 (t_rows_R 1)), (am 7, eJ cA 40 (t_rows_R 2)), (am 8, eJ cA 40 (t_rows_R 3)), (am 9, eJ cA 40 (t_rows_R 4)), (am 10, eJ cA 40 (t_rows_R 5)), (am 11, eJ cA 40 (t_rows_R 6)), (am 12, eJ cA 40 (t_rows_R 7)), ((am 16), eI cA 8 t_refused), ((am 21), eI cA 12 t_word)] H → va_D A [((am 0), e_X6 am tkv ttv t t_L), ((am 1), eI cA 8 t_shelf), ((am 3), eI cA 8 t_rowSize), ((am 4), eOJ cA am 5), (am 5, eJ cA 40 (t_rows_R 0)), (am 6, eJ cA 40 (t_rows_R 1)), (am 7, eJ cA 40 (t_rows_R 2)), (am 8, eJ cA 40 (t_rows_R 3)), (am 9, eJ cA 40 (t_rows_R 4)), (am 10, eJ cA 40 (t_rows_R 5)), (am 11, eJ cA 40 (t_rows_R 6)), (am 12, eJ cA 40 (t_rows_R 7)), ((am 16), eI cA 8 t_refused), ((am 21), eI cA 12 t_word)] → va_S A s.heap H locs → lv_has ls 8 [(0, .ref (am 0))] → W p l e rm_X6_noWords s m args below meth c H locs 0 0 Q (F0 m 54 ls []) := by
    intro  t t_refused t_word H locs ls hm hP hD hS hl
    unfold b_X6_noWords_54 at hm
    refine lv_aload_n hx hb dX6_noWords_54 rfl (lv_at hl 0 rfl) ?_
    refine lv_bipush (v := (-2 : Int32)) hx hb dX6_noWords_55 (by decide) ?_
    obtain ⟨o1, ho2, hm⟩ := bd_s hm
    refine xr_i (wr := [((am 1), eI cA 8 t_shelf), ((am 3), eI cA 8 t_rowSize), ((am 4), eOJ cA am 5), (am 5, eJ cA 40 (t_rows_R 0)), (am 6, eJ cA 40 (t_rows_R 1)), (am 7, eJ cA 40 (t_rows_R 2)), (am 8, eJ cA 40 (t_rows_R 3)), (am 9, eJ cA 40 (t_rows_R 4)), (am 10, eJ cA 40 (t_rows_R 5)), (am 11, eJ cA 40 (t_rows_R 6)), (am 12, eJ cA 40 (t_rows_R 7)), ((am 21), eI cA 12 t_word)]) (wn := [((am 0), e_X6 am tkv ttv t t_L), ((am 1), eI cA 8 t_shelf), ((am 3), eI cA 8 t_rowSize), ((am 4), eOJ cA am 5), (am 5, eJ cA 40 (t_rows_R 0)), (am 6, eJ cA 40 (t_rows_R 1)), (am 7, eJ cA 40 (t_rows_R 2)), (am 8, eJ cA 40 (t_rows_R 3)), (am 9, eJ cA 40 (t_rows_R 4)), (am 10, eJ cA 40 (t_rows_R 5)), (am 11, eJ cA 40 (t_rows_R 6)), (am 12, eJ cA 40 (t_rows_R 7)), ((am 16), eI cA 8 o1.2), ((am 21), eI cA 12 t_word)]) (va_runV (As := [.int (-2 : Int32)]) (rest := []) ⟨hx, hb, hml, hown, htg⟩ (c_X6_refuse l D cA _ fu am tkv ttv t t_L t_refused (-2 : Int32) o1 ho2) (cwV 1 htg (gV q_5_108 q_5_110 q_p5_7 q_1_8 q_5_111) rfl rfl rfl hd_X6_refuse ⟨Nat.le_of_ble_eq_true rfl, Nat.le_of_ble_eq_true rfl⟩) (xpV hN hK hP hD [0, 12] rfl (by decide) rfl rfl) rfl rfl hl.1 rfl (lv_room (Nat.le_of_ble_eq_true rfl)) dX6_noWords_57 ⟨Nat.zero_le _, Nat.zero_le _⟩) hP hD hS hA [0, 12] [1, 2, 3, 4, 5, 6, 7, 8, 9, 10, 11, 13] [12, 0, 1, 2, 3, 4, 5, 6, 7, 8, 9, 10, 13, 11] rfl rfl (by decide) (by decide) rfl (by decide) (fun H locs hP hD hS => ?_)
    rw [hQ]
    exact W.iret (v := o1.1) hx hb hr (fun t9 ht hW => ⟨⟨o1.1, (t, o1.2, t_word), rfl, (Option.some.inj hm), by rw [ht]; exact hP, va_K.moved hW.alike hK, hD⟩, hS.F ht⟩) hS.2.2 dX6_noWords_60
  have B_81 : ∀ (t : Nat → Int32) (t_refused : Nat → Int32) (t_word : Nat → Int32) (H : Heap) (locs : List Loc) (ls : Array Slot), b_X6_noWords_81 fu t_L t_shelf t_rowSize t_rows_R t t_refused t_word = some out → va_P D CL [((am 0), e_X6 am tkv ttv t t_L), ((am 1), eI cA 8 t_shelf), ((am 3), eI cA 8 t_rowSize), ((am 4), eOJ cA am 5), (am 5, eJ cA 40 (t_rows_R 0)), (am 6, eJ cA 40 (t_rows_R 1)), (am 7, eJ cA 40 (t_rows_R 2)), (am 8, eJ cA 40 (t_rows_R 3)), (am 9, eJ cA 40 (t_rows_R 4)), (am 10, eJ cA 40 (t_rows_R 5)), (am 11, eJ cA 40 (t_rows_R 6)), (am 12, eJ cA 40 (t_rows_R 7)), ((am 16), eI cA 8 t_refused), ((am 21), eI cA 12 t_word)] H → va_D A [((am 0), e_X6 am tkv ttv t t_L), ((am 1), eI cA 8 t_shelf), ((am 3), eI cA 8 t_rowSize), ((am 4), eOJ cA am 5), (am 5, eJ cA 40 (t_rows_R 0)), (am 6, eJ cA 40 (t_rows_R 1)), (am 7, eJ cA 40 (t_rows_R 2)), (am 8, eJ cA 40 (t_rows_R 3)), (am 9, eJ cA 40 (t_rows_R 4)), (am 10, eJ cA 40 (t_rows_R 5)), (am 11, eJ cA 40 (t_rows_R 6)), (am 12, eJ cA 40 (t_rows_R 7)), ((am 16), eI cA 8 t_refused), ((am 21), eI cA 12 t_word)] → va_S A s.heap H locs → lv_has ls 8 [(0, .ref (am 0))] → W p l e rm_X6_noWords s m args below meth c H locs 0 0 Q (F0 m 81 ls []) := by
    intro  t t_refused t_word H locs ls hm hP hD hS hl
    unfold b_X6_noWords_81 at hm
    refine lv_aload_n hx hb dX6_noWords_81 rfl (lv_at hl 0 rfl) ?_
    refine lv_bipush (v := (-3 : Int32)) hx hb dX6_noWords_82 (by decide) ?_
    obtain ⟨o3, ho4, hm⟩ := bd_s hm
    refine xr_i (wr := [((am 1), eI cA 8 t_shelf), ((am 3), eI cA 8 t_rowSize), ((am 4), eOJ cA am 5), (am 5, eJ cA 40 (t_rows_R 0)), (am 6, eJ cA 40 (t_rows_R 1)), (am 7, eJ cA 40 (t_rows_R 2)), (am 8, eJ cA 40 (t_rows_R 3)), (am 9, eJ cA 40 (t_rows_R 4)), (am 10, eJ cA 40 (t_rows_R 5)), (am 11, eJ cA 40 (t_rows_R 6)), (am 12, eJ cA 40 (t_rows_R 7)), ((am 21), eI cA 12 t_word)]) (wn := [((am 0), e_X6 am tkv ttv t t_L), ((am 1), eI cA 8 t_shelf), ((am 3), eI cA 8 t_rowSize), ((am 4), eOJ cA am 5), (am 5, eJ cA 40 (t_rows_R 0)), (am 6, eJ cA 40 (t_rows_R 1)), (am 7, eJ cA 40 (t_rows_R 2)), (am 8, eJ cA 40 (t_rows_R 3)), (am 9, eJ cA 40 (t_rows_R 4)), (am 10, eJ cA 40 (t_rows_R 5)), (am 11, eJ cA 40 (t_rows_R 6)), (am 12, eJ cA 40 (t_rows_R 7)), ((am 16), eI cA 8 o3.2), ((am 21), eI cA 12 t_word)]) (va_runV (As := [.int (-3 : Int32)]) (rest := []) ⟨hx, hb, hml, hown, htg⟩ (c_X6_refuse l D cA _ fu am tkv ttv t t_L t_refused (-3 : Int32) o3 ho4) (cwV 1 htg (gV q_5_108 q_5_110 q_p5_7 q_1_8 q_5_111) rfl rfl rfl hd_X6_refuse ⟨Nat.le_of_ble_eq_true rfl, Nat.le_of_ble_eq_true rfl⟩) (xpV hN hK hP hD [0, 12] rfl (by decide) rfl rfl) rfl rfl hl.1 rfl (lv_room (Nat.le_of_ble_eq_true rfl)) dX6_noWords_84 ⟨Nat.zero_le _, Nat.zero_le _⟩) hP hD hS hA [0, 12] [1, 2, 3, 4, 5, 6, 7, 8, 9, 10, 11, 13] [12, 0, 1, 2, 3, 4, 5, 6, 7, 8, 9, 10, 13, 11] rfl rfl (by decide) (by decide) rfl (by decide) (fun H locs hP hD hS => ?_)
    rw [hQ]
    exact W.iret (v := o3.1) hx hb hr (fun t9 ht hW => ⟨⟨o3.1, (t, o3.2, t_word), rfl, (Option.some.inj hm), by rw [ht]; exact hP, va_K.moved hW.alike hK, hD⟩, hS.F ht⟩) hS.2.2 dX6_noWords_87
  have B_106 : ∀ (t : Nat → Int32) (t_refused : Nat → Int32) (t_word : Nat → Int32) (H : Heap) (locs : List Loc) (ls : Array Slot), b_X6_noWords_106 fu t_L t_shelf t_rowSize t_rows_R t t_refused t_word = some out → va_P D CL [((am 0), e_X6 am tkv ttv t t_L), ((am 1), eI cA 8 t_shelf), ((am 3), eI cA 8 t_rowSize), ((am 4), eOJ cA am 5), (am 5, eJ cA 40 (t_rows_R 0)), (am 6, eJ cA 40 (t_rows_R 1)), (am 7, eJ cA 40 (t_rows_R 2)), (am 8, eJ cA 40 (t_rows_R 3)), (am 9, eJ cA 40 (t_rows_R 4)), (am 10, eJ cA 40 (t_rows_R 5)), (am 11, eJ cA 40 (t_rows_R 6)), (am 12, eJ cA 40 (t_rows_R 7)), ((am 16), eI cA 8 t_refused), ((am 21), eI cA 12 t_word)] H → va_D A [((am 0), e_X6 am tkv ttv t t_L), ((am 1), eI cA 8 t_shelf), ((am 3), eI cA 8 t_rowSize), ((am 4), eOJ cA am 5), (am 5, eJ cA 40 (t_rows_R 0)), (am 6, eJ cA 40 (t_rows_R 1)), (am 7, eJ cA 40 (t_rows_R 2)), (am 8, eJ cA 40 (t_rows_R 3)), (am 9, eJ cA 40 (t_rows_R 4)), (am 10, eJ cA 40 (t_rows_R 5)), (am 11, eJ cA 40 (t_rows_R 6)), (am 12, eJ cA 40 (t_rows_R 7)), ((am 16), eI cA 8 t_refused), ((am 21), eI cA 12 t_word)] → va_S A s.heap H locs → lv_has ls 8 [(0, .ref (am 0))] → W p l e rm_X6_noWords s m args below meth c H locs 0 0 Q (F0 m 106 ls []) := by
    intro  t t_refused t_word H locs ls hm hP hD hS hl
    unfold b_X6_noWords_106 at hm
    refine lv_aload_n hx hb dX6_noWords_106 rfl (lv_at hl 0 rfl) ?_
    refine lv_bipush (v := (-4 : Int32)) hx hb dX6_noWords_107 (by decide) ?_
    obtain ⟨o5, ho6, hm⟩ := bd_s hm
    refine xr_i (wr := [((am 1), eI cA 8 t_shelf), ((am 3), eI cA 8 t_rowSize), ((am 4), eOJ cA am 5), (am 5, eJ cA 40 (t_rows_R 0)), (am 6, eJ cA 40 (t_rows_R 1)), (am 7, eJ cA 40 (t_rows_R 2)), (am 8, eJ cA 40 (t_rows_R 3)), (am 9, eJ cA 40 (t_rows_R 4)), (am 10, eJ cA 40 (t_rows_R 5)), (am 11, eJ cA 40 (t_rows_R 6)), (am 12, eJ cA 40 (t_rows_R 7)), ((am 21), eI cA 12 t_word)]) (wn := [((am 0), e_X6 am tkv ttv t t_L), ((am 1), eI cA 8 t_shelf), ((am 3), eI cA 8 t_rowSize), ((am 4), eOJ cA am 5), (am 5, eJ cA 40 (t_rows_R 0)), (am 6, eJ cA 40 (t_rows_R 1)), (am 7, eJ cA 40 (t_rows_R 2)), (am 8, eJ cA 40 (t_rows_R 3)), (am 9, eJ cA 40 (t_rows_R 4)), (am 10, eJ cA 40 (t_rows_R 5)), (am 11, eJ cA 40 (t_rows_R 6)), (am 12, eJ cA 40 (t_rows_R 7)), ((am 16), eI cA 8 o5.2), ((am 21), eI cA 12 t_word)]) (va_runV (As := [.int (-4 : Int32)]) (rest := []) ⟨hx, hb, hml, hown, htg⟩ (c_X6_refuse l D cA _ fu am tkv ttv t t_L t_refused (-4 : Int32) o5 ho6) (cwV 1 htg (gV q_5_108 q_5_110 q_p5_7 q_1_8 q_5_111) rfl rfl rfl hd_X6_refuse ⟨Nat.le_of_ble_eq_true rfl, Nat.le_of_ble_eq_true rfl⟩) (xpV hN hK hP hD [0, 12] rfl (by decide) rfl rfl) rfl rfl hl.1 rfl (lv_room (Nat.le_of_ble_eq_true rfl)) dX6_noWords_109 ⟨Nat.zero_le _, Nat.zero_le _⟩) hP hD hS hA [0, 12] [1, 2, 3, 4, 5, 6, 7, 8, 9, 10, 11, 13] [12, 0, 1, 2, 3, 4, 5, 6, 7, 8, 9, 10, 13, 11] rfl rfl (by decide) (by decide) rfl (by decide) (fun H locs hP hD hS => ?_)
    rw [hQ]
    exact W.iret (v := o5.1) hx hb hr (fun t9 ht hW => ⟨⟨o5.1, (t, o5.2, t_word), rfl, (Option.some.inj hm), by rw [ht]; exact hP, va_K.moved hW.alike hK, hD⟩, hS.F ht⟩) hS.2.2 dX6_noWords_112
  have B_137 : ∀ (t : Nat → Int32) (t_refused : Nat → Int32) (t_word : Nat → Int32) (H : Heap) (locs : List Loc) (ls : Array Slot), b_X6_noWords_137 fu t_L t_shelf t_rowSize t_rows_R t t_refused t_word = some out → va_P D CL [((am 0), e_X6 am tkv ttv t t_L), ((am 1), eI cA 8 t_shelf), ((am 3), eI cA 8 t_rowSize), ((am 4), eOJ cA am 5), (am 5, eJ cA 40 (t_rows_R 0)), (am 6, eJ cA 40 (t_rows_R 1)), (am 7, eJ cA 40 (t_rows_R 2)), (am 8, eJ cA 40 (t_rows_R 3)), (am 9, eJ cA 40 (t_rows_R 4)), (am 10, eJ cA 40 (t_rows_R 5)), (am 11, eJ cA 40 (t_rows_R 6)), (am 12, eJ cA 40 (t_rows_R 7)), ((am 16), eI cA 8 t_refused), ((am 21), eI cA 12 t_word)] H → va_D A [((am 0), e_X6 am tkv ttv t t_L), ((am 1), eI cA 8 t_shelf), ((am 3), eI cA 8 t_rowSize), ((am 4), eOJ cA am 5), (am 5, eJ cA 40 (t_rows_R 0)), (am 6, eJ cA 40 (t_rows_R 1)), (am 7, eJ cA 40 (t_rows_R 2)), (am 8, eJ cA 40 (t_rows_R 3)), (am 9, eJ cA 40 (t_rows_R 4)), (am 10, eJ cA 40 (t_rows_R 5)), (am 11, eJ cA 40 (t_rows_R 6)), (am 12, eJ cA 40 (t_rows_R 7)), ((am 16), eI cA 8 t_refused), ((am 21), eI cA 12 t_word)] → va_S A s.heap H locs → lv_has ls 8 [(0, .ref (am 0))] → W p l e rm_X6_noWords s m args below meth c H locs 0 0 Q (F0 m 137 ls []) := by
    intro  t t_refused t_word H locs ls hm hP hD hS hl
    unfold b_X6_noWords_137 at hm
    refine lv_aload_n hx hb dX6_noWords_137 rfl (lv_at hl 0 rfl) ?_
    refine lv_bipush (v := (-2 : Int32)) hx hb dX6_noWords_138 (by decide) ?_
    obtain ⟨o7, ho8, hm⟩ := bd_s hm
    refine xr_i (wr := [((am 1), eI cA 8 t_shelf), ((am 3), eI cA 8 t_rowSize), ((am 4), eOJ cA am 5), (am 5, eJ cA 40 (t_rows_R 0)), (am 6, eJ cA 40 (t_rows_R 1)), (am 7, eJ cA 40 (t_rows_R 2)), (am 8, eJ cA 40 (t_rows_R 3)), (am 9, eJ cA 40 (t_rows_R 4)), (am 10, eJ cA 40 (t_rows_R 5)), (am 11, eJ cA 40 (t_rows_R 6)), (am 12, eJ cA 40 (t_rows_R 7)), ((am 21), eI cA 12 t_word)]) (wn := [((am 0), e_X6 am tkv ttv t t_L), ((am 1), eI cA 8 t_shelf), ((am 3), eI cA 8 t_rowSize), ((am 4), eOJ cA am 5), (am 5, eJ cA 40 (t_rows_R 0)), (am 6, eJ cA 40 (t_rows_R 1)), (am 7, eJ cA 40 (t_rows_R 2)), (am 8, eJ cA 40 (t_rows_R 3)), (am 9, eJ cA 40 (t_rows_R 4)), (am 10, eJ cA 40 (t_rows_R 5)), (am 11, eJ cA 40 (t_rows_R 6)), (am 12, eJ cA 40 (t_rows_R 7)), ((am 16), eI cA 8 o7.2), ((am 21), eI cA 12 t_word)]) (va_runV (As := [.int (-2 : Int32)]) (rest := []) ⟨hx, hb, hml, hown, htg⟩ (c_X6_refuse l D cA _ fu am tkv ttv t t_L t_refused (-2 : Int32) o7 ho8) (cwV 1 htg (gV q_5_108 q_5_110 q_p5_7 q_1_8 q_5_111) rfl rfl rfl hd_X6_refuse ⟨Nat.le_of_ble_eq_true rfl, Nat.le_of_ble_eq_true rfl⟩) (xpV hN hK hP hD [0, 12] rfl (by decide) rfl rfl) rfl rfl hl.1 rfl (lv_room (Nat.le_of_ble_eq_true rfl)) dX6_noWords_140 ⟨Nat.zero_le _, Nat.zero_le _⟩) hP hD hS hA [0, 12] [1, 2, 3, 4, 5, 6, 7, 8, 9, 10, 11, 13] [12, 0, 1, 2, 3, 4, 5, 6, 7, 8, 9, 10, 13, 11] rfl rfl (by decide) (by decide) rfl (by decide) (fun H locs hP hD hS => ?_)
    rw [hQ]
    exact W.iret (v := o7.1) hx hb hr (fun t9 ht hW => ⟨⟨o7.1, (t, o7.2, t_word), rfl, (Option.some.inj hm), by rw [ht]; exact hP, va_K.moved hW.alike hK, hD⟩, hS.F ht⟩) hS.2.2 dX6_noWords_143
  unfold m_X6_noWords at hm
  subst hargs
  have hl := lv_entry ([.ref (am 0), .int l1, .int l2, .int l3, .int l4, .int l5, .int l6, .int l7]) (n := 8) (Nat.le_of_ble_eq_true rfl)
  rw [lg_entry_eq]
  generalize (lg_sl ([.ref (am 0), .int l1, .int l2, .int l3, .int l4, .int l5, .int l6, .int l7]) ++ List.replicate (8 - (lg_sl ([.ref (am 0), .int l1, .int l2, .int l3, .int l4, .int l5, .int l6, .int l7])).length) Slot.unset).toArray = ls at hl ⊢
  have hl : lv_has ls 8 [(0, .ref (am 0)), (1, .int l1), (2, .int l2), (3, .int l3), (4, .int l4), (5, .int l5), (6, .int l6), (7, .int l7)] := hl
  refine lv_iload_n hx hb dX6_noWords_0 rfl (lv_at hl 1 rfl) ?_
  refine lv_i2l hx hb dX6_noWords_1 rfl ?_
  refine lv_lconst (v := (0 : Int64)) hx hb dX6_noWords_2 (by decide) ?_
  refine lv_ldc2 (v := (7 : Int64)) hx hb hown (htg _ q_5_102) dX6_noWords_3 ?_
  obtain ⟨o9, ho10, hm⟩ := bd_s hm
  refine xr_i (wr := [((am 0), e_X6 am tkv ttv t t_L), ((am 1), eI cA 8 t_shelf), ((am 3), eI cA 8 t_rowSize), ((am 4), eOJ cA am 5), (am 5, eJ cA 40 (t_rows_R 0)), (am 6, eJ cA 40 (t_rows_R 1)), (am 7, eJ cA 40 (t_rows_R 2)), (am 8, eJ cA 40 (t_rows_R 3)), (am 9, eJ cA 40 (t_rows_R 4)), (am 10, eJ cA 40 (t_rows_R 5)), (am 11, eJ cA 40 (t_rows_R 6)), (am 12, eJ cA 40 (t_rows_R 7)), ((am 16), eI cA 8 t_refused), ((am 21), eI cA 12 t_word)]) (wn := [((am 0), e_X6 am tkv ttv t t_L), ((am 1), eI cA 8 t_shelf), ((am 3), eI cA 8 t_rowSize), ((am 4), eOJ cA am 5), (am 5, eJ cA 40 (t_rows_R 0)), (am 6, eJ cA 40 (t_rows_R 1)), (am 7, eJ cA 40 (t_rows_R 2)), (am 8, eJ cA 40 (t_rows_R 3)), (am 9, eJ cA 40 (t_rows_R 4)), (am 10, eJ cA 40 (t_rows_R 5)), (am 11, eJ cA 40 (t_rows_R 6)), (am 12, eJ cA 40 (t_rows_R 7)), ((am 16), eI cA 8 t_refused), ((am 21), eI cA 12 t_word)]) (va_runS (As := [.long l1.toInt64, .long (0 : Int64), .long (7 : Int64)]) (rest := []) ⟨hx, hb, hml, hown, htg⟩ (c_X6_in l D cA _ fu l1.toInt64 (0 : Int64) (7 : Int64) o9 ho10) (cwS 3 htg (gS q_5_103 q_5_104 q_1_8 q_5_105) rfl rfl rfl hd_X6_in ⟨Nat.le_of_ble_eq_true rfl, Nat.le_of_ble_eq_true rfl⟩) (xpS hN hK hP hD [] rfl (by decide)) rfl rfl hl.1 rfl (lv_room (Nat.le_of_ble_eq_true rfl)) dX6_noWords_6 ⟨Nat.zero_le _, Nat.zero_le _⟩) hP hD hS hA [] [0, 1, 2, 3, 4, 5, 6, 7, 8, 9, 10, 11, 12, 13] [0, 1, 2, 3, 4, 5, 6, 7, 8, 9, 10, 11, 12, 13] rfl rfl (by decide) (by decide) rfl (by decide) (fun H locs hP hD hS => ?_)
  refine lv_if_eq (tgt := 54) hx hb dX6_noWords_9 (by decide) (fun c11 => ?_) (fun c11 => ?_)
  · have hm := it_t c11 hm
    exact B_54 _ _ _ _ _ _ hm hP hD hS (lv_sub hl [0] rfl)
  · have hm := it_f c11 hm
    refine lv_iload_n hx hb dX6_noWords_12 rfl (lv_at hl 2 rfl) ?_
    refine lv_i2l hx hb dX6_noWords_13 rfl ?_
    refine lv_lconst (v := (0 : Int64)) hx hb dX6_noWords_14 (by decide) ?_
    refine lv_ldc2 (v := (12 : Int64)) hx hb hown (htg _ q_6_183) dX6_noWords_15 ?_
    obtain ⟨o12, ho13, hm⟩ := bd_s hm
    refine xr_i (wr := [((am 0), e_X6 am tkv ttv t t_L), ((am 1), eI cA 8 t_shelf), ((am 3), eI cA 8 t_rowSize), ((am 4), eOJ cA am 5), (am 5, eJ cA 40 (t_rows_R 0)), (am 6, eJ cA 40 (t_rows_R 1)), (am 7, eJ cA 40 (t_rows_R 2)), (am 8, eJ cA 40 (t_rows_R 3)), (am 9, eJ cA 40 (t_rows_R 4)), (am 10, eJ cA 40 (t_rows_R 5)), (am 11, eJ cA 40 (t_rows_R 6)), (am 12, eJ cA 40 (t_rows_R 7)), ((am 16), eI cA 8 t_refused), ((am 21), eI cA 12 t_word)]) (wn := [((am 0), e_X6 am tkv ttv t t_L), ((am 1), eI cA 8 t_shelf), ((am 3), eI cA 8 t_rowSize), ((am 4), eOJ cA am 5), (am 5, eJ cA 40 (t_rows_R 0)), (am 6, eJ cA 40 (t_rows_R 1)), (am 7, eJ cA 40 (t_rows_R 2)), (am 8, eJ cA 40 (t_rows_R 3)), (am 9, eJ cA 40 (t_rows_R 4)), (am 10, eJ cA 40 (t_rows_R 5)), (am 11, eJ cA 40 (t_rows_R 6)), (am 12, eJ cA 40 (t_rows_R 7)), ((am 16), eI cA 8 t_refused), ((am 21), eI cA 12 t_word)]) (va_runS (As := [.long l2.toInt64, .long (0 : Int64), .long (12 : Int64)]) (rest := []) ⟨hx, hb, hml, hown, htg⟩ (c_X6_in l D cA _ fu l2.toInt64 (0 : Int64) (12 : Int64) o12 ho13) (cwS 3 htg (gS q_5_103 q_5_104 q_1_8 q_5_105) rfl rfl rfl hd_X6_in ⟨Nat.le_of_ble_eq_true rfl, Nat.le_of_ble_eq_true rfl⟩) (xpS hN hK hP hD [] rfl (by decide)) rfl rfl hl.1 rfl (lv_room (Nat.le_of_ble_eq_true rfl)) dX6_noWords_18 ⟨Nat.zero_le _, Nat.zero_le _⟩) hP hD hS hA [] [0, 1, 2, 3, 4, 5, 6, 7, 8, 9, 10, 11, 12, 13] [0, 1, 2, 3, 4, 5, 6, 7, 8, 9, 10, 11, 12, 13] rfl rfl (by decide) (by decide) rfl (by decide) (fun H locs hP hD hS => ?_)
    refine lv_if_eq (tgt := 54) hx hb dX6_noWords_21 (by decide) (fun c14 => ?_) (fun c14 => ?_)
    · have hm := it_t c14 hm
      exact B_54 _ _ _ _ _ _ hm hP hD hS (lv_sub hl [0] rfl)
    · have hm := it_f c14 hm
      refine lv_iload_n hx hb dX6_noWords_24 rfl (lv_at hl 3 rfl) ?_
      refine lv_i2l hx hb dX6_noWords_25 rfl ?_
      refine lv_lconst (v := (0 : Int64)) hx hb dX6_noWords_26 (by decide) ?_
      refine lv_ldc2 (v := (7 : Int64)) hx hb hown (htg _ q_5_102) dX6_noWords_27 ?_
      obtain ⟨o15, ho16, hm⟩ := bd_s hm
      refine xr_i (wr := [((am 0), e_X6 am tkv ttv t t_L), ((am 1), eI cA 8 t_shelf), ((am 3), eI cA 8 t_rowSize), ((am 4), eOJ cA am 5), (am 5, eJ cA 40 (t_rows_R 0)), (am 6, eJ cA 40 (t_rows_R 1)), (am 7, eJ cA 40 (t_rows_R 2)), (am 8, eJ cA 40 (t_rows_R 3)), (am 9, eJ cA 40 (t_rows_R 4)), (am 10, eJ cA 40 (t_rows_R 5)), (am 11, eJ cA 40 (t_rows_R 6)), (am 12, eJ cA 40 (t_rows_R 7)), ((am 16), eI cA 8 t_refused), ((am 21), eI cA 12 t_word)]) (wn := [((am 0), e_X6 am tkv ttv t t_L), ((am 1), eI cA 8 t_shelf), ((am 3), eI cA 8 t_rowSize), ((am 4), eOJ cA am 5), (am 5, eJ cA 40 (t_rows_R 0)), (am 6, eJ cA 40 (t_rows_R 1)), (am 7, eJ cA 40 (t_rows_R 2)), (am 8, eJ cA 40 (t_rows_R 3)), (am 9, eJ cA 40 (t_rows_R 4)), (am 10, eJ cA 40 (t_rows_R 5)), (am 11, eJ cA 40 (t_rows_R 6)), (am 12, eJ cA 40 (t_rows_R 7)), ((am 16), eI cA 8 t_refused), ((am 21), eI cA 12 t_word)]) (va_runS (As := [.long l3.toInt64, .long (0 : Int64), .long (7 : Int64)]) (rest := []) ⟨hx, hb, hml, hown, htg⟩ (c_X6_in l D cA _ fu l3.toInt64 (0 : Int64) (7 : Int64) o15 ho16) (cwS 3 htg (gS q_5_103 q_5_104 q_1_8 q_5_105) rfl rfl rfl hd_X6_in ⟨Nat.le_of_ble_eq_true rfl, Nat.le_of_ble_eq_true rfl⟩) (xpS hN hK hP hD [] rfl (by decide)) rfl rfl hl.1 rfl (lv_room (Nat.le_of_ble_eq_true rfl)) dX6_noWords_30 ⟨Nat.zero_le _, Nat.zero_le _⟩) hP hD hS hA [] [0, 1, 2, 3, 4, 5, 6, 7, 8, 9, 10, 11, 12, 13] [0, 1, 2, 3, 4, 5, 6, 7, 8, 9, 10, 11, 12, 13] rfl rfl (by decide) (by decide) rfl (by decide) (fun H locs hP hD hS => ?_)
      refine lv_if_eq (tgt := 54) hx hb dX6_noWords_33 (by decide) (fun c17 => ?_) (fun c17 => ?_)
      · have hm := it_t c17 hm
        exact B_54 _ _ _ _ _ _ hm hP hD hS (lv_sub hl [0] rfl)
      · have hm := it_f c17 hm
        refine lv_iload hx hb dX6_noWords_36 (lv_at hl 4 rfl) ?_
        refine lv_i2l hx hb dX6_noWords_38 rfl ?_
        refine lv_lconst (v := (0 : Int64)) hx hb dX6_noWords_39 (by decide) ?_
        refine lv_iload hx hb dX6_noWords_40 (lv_at hl 5 rfl) ?_
        refine lv_i2l hx hb dX6_noWords_42 rfl ?_
        obtain ⟨o18, ho19, hm⟩ := bd_s hm
        refine xr_i (wr := [((am 0), e_X6 am tkv ttv t t_L), ((am 1), eI cA 8 t_shelf), ((am 3), eI cA 8 t_rowSize), ((am 4), eOJ cA am 5), (am 5, eJ cA 40 (t_rows_R 0)), (am 6, eJ cA 40 (t_rows_R 1)), (am 7, eJ cA 40 (t_rows_R 2)), (am 8, eJ cA 40 (t_rows_R 3)), (am 9, eJ cA 40 (t_rows_R 4)), (am 10, eJ cA 40 (t_rows_R 5)), (am 11, eJ cA 40 (t_rows_R 6)), (am 12, eJ cA 40 (t_rows_R 7)), ((am 16), eI cA 8 t_refused), ((am 21), eI cA 12 t_word)]) (wn := [((am 0), e_X6 am tkv ttv t t_L), ((am 1), eI cA 8 t_shelf), ((am 3), eI cA 8 t_rowSize), ((am 4), eOJ cA am 5), (am 5, eJ cA 40 (t_rows_R 0)), (am 6, eJ cA 40 (t_rows_R 1)), (am 7, eJ cA 40 (t_rows_R 2)), (am 8, eJ cA 40 (t_rows_R 3)), (am 9, eJ cA 40 (t_rows_R 4)), (am 10, eJ cA 40 (t_rows_R 5)), (am 11, eJ cA 40 (t_rows_R 6)), (am 12, eJ cA 40 (t_rows_R 7)), ((am 16), eI cA 8 t_refused), ((am 21), eI cA 12 t_word)]) (va_runS (As := [.long l4.toInt64, .long (0 : Int64), .long l5.toInt64]) (rest := []) ⟨hx, hb, hml, hown, htg⟩ (c_X6_in l D cA _ fu l4.toInt64 (0 : Int64) l5.toInt64 o18 ho19) (cwS 3 htg (gS q_5_103 q_5_104 q_1_8 q_5_105) rfl rfl rfl hd_X6_in ⟨Nat.le_of_ble_eq_true rfl, Nat.le_of_ble_eq_true rfl⟩) (xpS hN hK hP hD [] rfl (by decide)) rfl rfl hl.1 rfl (lv_room (Nat.le_of_ble_eq_true rfl)) dX6_noWords_43 ⟨Nat.zero_le _, Nat.zero_le _⟩) hP hD hS hA [] [0, 1, 2, 3, 4, 5, 6, 7, 8, 9, 10, 11, 12, 13] [0, 1, 2, 3, 4, 5, 6, 7, 8, 9, 10, 11, 12, 13] rfl rfl (by decide) (by decide) rfl (by decide) (fun H locs hP hD hS => ?_)
        refine lv_if_eq (tgt := 54) hx hb dX6_noWords_46 (by decide) (fun c20 => ?_) (fun c20 => ?_)
        · have hm := it_t c20 hm
          exact B_54 _ _ _ _ _ _ hm hP hD hS (lv_sub hl [0] rfl)
        · have hm := it_f c20 hm
          refine lv_iload hx hb dX6_noWords_49 (lv_at hl 7 rfl) ?_
          refine lv_if_ne (tgt := 61) hx hb dX6_noWords_51 (by decide) (fun c21 => ?_) (fun c21 => ?_)
          · have hm := it_f c21 hm
            refine lv_aload_n hx hb dX6_noWords_61 rfl (lv_at hl 0 rfl) ?_
            refine va_get (D := D) (ci := 6) (v := .ref (am 1)) (C := RX6) (T := TX6) (N := 49) hx hb htg inX6 hown hK hP 0 rfl rfl 0 (by decide) (htg _ q_4_189) (fun _ h9 => h9) rfl dX6_noWords_62 ?_
            refine lv_iload_n hx hb dX6_noWords_65 rfl (lv_at hl 1 rfl) ?_
            obtain ⟨hi22, hm⟩ := gd_s hm
            refine va_iald hx hb hK hP 1 0 rfl rfl hi22 dX6_noWords_66 ?_
            refine lv_iconst (v := (2 : Int32)) hx hb dX6_noWords_67 (by decide) ?_
            refine lv_icmp_eq (tgt := 81) hx hb dX6_noWords_68 (by decide) (fun c23 => ?_) (fun c23 => ?_)
            · have hm := it_t c23 hm
              exact B_81 _ _ _ _ _ _ hm hP hD hS (lv_sub hl [0] rfl)
            · have hm := it_f c23 hm
              refine lv_aload_n hx hb dX6_noWords_71 rfl (lv_at hl 0 rfl) ?_
              refine va_get (D := D) (ci := 6) (v := .ref (am 1)) (C := RX6) (T := TX6) (N := 49) hx hb htg inX6 hown hK hP 0 rfl rfl 0 (by decide) (htg _ q_4_189) (fun _ h9 => h9) rfl dX6_noWords_72 ?_
              refine lv_iload_n hx hb dX6_noWords_75 rfl (lv_at hl 3 rfl) ?_
              obtain ⟨hi24, hm⟩ := gd_s hm
              refine va_iald hx hb hK hP 1 0 rfl rfl hi24 dX6_noWords_76 ?_
              refine lv_iconst (v := (2 : Int32)) hx hb dX6_noWords_77 (by decide) ?_
              refine lv_icmp_ne (tgt := 88) hx hb dX6_noWords_78 (by decide) (fun c25 => ?_) (fun c25 => ?_)
              · have hm := it_f c25 hm
                refine lv_aload_n hx hb dX6_noWords_88 rfl (lv_at hl 0 rfl) ?_
                refine va_get (D := D) (ci := 6) (v := .ref (am 1)) (C := RX6) (T := TX6) (N := 49) hx hb htg inX6 hown hK hP 0 rfl rfl 0 (by decide) (htg _ q_4_189) (fun _ h9 => h9) rfl dX6_noWords_89 ?_
                refine lv_iload_n hx hb dX6_noWords_92 rfl (lv_at hl 1 rfl) ?_
                obtain ⟨hi26, hm⟩ := gd_s hm
                refine va_iald hx hb hK hP 1 0 rfl rfl hi26 dX6_noWords_93 ?_
                refine lv_if_eq (tgt := 106) hx hb dX6_noWords_94 (by decide) (fun c27 => ?_) (fun c27 => ?_)
                · have hm := it_t c27 hm
                  exact B_106 _ _ _ _ _ _ hm hP hD hS (lv_sub hl [0] rfl)
                · have hm := it_f c27 hm
                  refine lv_aload_n hx hb dX6_noWords_97 rfl (lv_at hl 0 rfl) ?_
                  refine va_get (D := D) (ci := 6) (v := .ref (am 1)) (C := RX6) (T := TX6) (N := 49) hx hb htg inX6 hown hK hP 0 rfl rfl 0 (by decide) (htg _ q_4_189) (fun _ h9 => h9) rfl dX6_noWords_98 ?_
                  refine lv_iload_n hx hb dX6_noWords_101 rfl (lv_at hl 3 rfl) ?_
                  obtain ⟨hi28, hm⟩ := gd_s hm
                  refine va_iald hx hb hK hP 1 0 rfl rfl hi28 dX6_noWords_102 ?_
                  refine lv_if_ne (tgt := 113) hx hb dX6_noWords_103 (by decide) (fun c29 => ?_) (fun c29 => ?_)
                  · have hm := it_f c29 hm
                    refine lv_aload_n hx hb dX6_noWords_113 rfl (lv_at hl 0 rfl) ?_
                    refine va_get (D := D) (ci := 6) (v := .ref (am 3)) (C := RX6) (T := TX6) (N := 49) hx hb htg inX6 hown hK hP 0 rfl rfl 2 (by decide) (htg _ q_4_191) (fun _ h9 => h9) rfl dX6_noWords_114 ?_
                    refine lv_iload_n hx hb dX6_noWords_117 rfl (lv_at hl 1 rfl) ?_
                    obtain ⟨hi30, hm⟩ := gd_s hm
                    refine va_iald hx hb hK hP 2 0 rfl rfl hi30 dX6_noWords_118 ?_
                    refine lv_iload_n hx hb dX6_noWords_119 rfl (lv_at hl 2 rfl) ?_
                    refine lv_icmp_lt (tgt := 137) hx hb dX6_noWords_120 (by decide) (fun c31 => ?_) (fun c31 => ?_)
                    · have hm := it_t c31 hm
                      exact B_137 _ _ _ _ _ _ hm hP hD hS (lv_sub hl [0] rfl)
                    · have hm := it_f c31 hm
                      refine lv_aload_n hx hb dX6_noWords_123 rfl (lv_at hl 0 rfl) ?_
                      refine va_get (D := D) (ci := 6) (v := .ref (am 3)) (C := RX6) (T := TX6) (N := 49) hx hb htg inX6 hown hK hP 0 rfl rfl 2 (by decide) (htg _ q_4_191) (fun _ h9 => h9) rfl dX6_noWords_124 ?_
                      refine lv_iload_n hx hb dX6_noWords_127 rfl (lv_at hl 3 rfl) ?_
                      obtain ⟨hi32, hm⟩ := gd_s hm
                      refine va_iald hx hb hK hP 2 0 rfl rfl hi32 dX6_noWords_128 ?_
                      refine lv_iload hx hb dX6_noWords_129 (lv_at hl 6 rfl) ?_
                      refine lv_iload hx hb dX6_noWords_131 (lv_at hl 4 rfl) ?_
                      refine lv_imul hx hb dX6_noWords_133 ?_
                      refine lv_icmp_ge (tgt := 144) hx hb dX6_noWords_134 (by decide) (fun c33 => ?_) (fun c33 => ?_)
                      · have hm := it_t c33 hm
                        refine lv_aload_n hx hb dX6_noWords_144 rfl (lv_at hl 0 rfl) ?_
                        refine lv_iload_n hx hb dX6_noWords_145 rfl (lv_at hl 1 rfl) ?_
                        refine lv_iload_n hx hb dX6_noWords_146 rfl (lv_at hl 2 rfl) ?_
                        obtain ⟨o34, ho35, hm⟩ := bd_s hm
                        refine xr_i (wr := [((am 1), eI cA 8 t_shelf), ((am 3), eI cA 8 t_rowSize)]) (wn := [((am 0), e_X6 am tkv ttv o34.2.1 t_L), ((am 1), eI cA 8 t_shelf), ((am 3), eI cA 8 t_rowSize), ((am 4), eOJ cA am 5), (am 5, eJ cA 40 (t_rows_R 0)), (am 6, eJ cA 40 (t_rows_R 1)), (am 7, eJ cA 40 (t_rows_R 2)), (am 8, eJ cA 40 (t_rows_R 3)), (am 9, eJ cA 40 (t_rows_R 4)), (am 10, eJ cA 40 (t_rows_R 5)), (am 11, eJ cA 40 (t_rows_R 6)), (am 12, eJ cA 40 (t_rows_R 7)), ((am 16), eI cA 8 o34.2.2.1), ((am 21), eI cA 12 o34.2.2.2)]) (va_runV (As := [.int l1, .int l2]) (rest := []) ⟨hx, hb, hml, hown, htg⟩ (c_X6_takeWord l D cA _ fu am tkv ttv t t_L t_rows_R t_refused t_word l1 l2 o34 ho35) (cwV 2 htg (gV q_6_53 q_6_55 q_p6_9 q_1_8 q_6_56) rfl rfl rfl hd_X6_takeWord ⟨Nat.le_of_ble_eq_true rfl, Nat.le_of_ble_eq_true rfl⟩) (xpV hN hK hP hD [0, 3, 4, 5, 6, 7, 8, 9, 10, 11, 12, 13] rfl (by decide) rfl rfl) rfl rfl hl.1 rfl (lv_room (Nat.le_of_ble_eq_true rfl)) dX6_noWords_147 ⟨Nat.zero_le _, Nat.zero_le _⟩) hP hD hS hA [0, 3, 4, 5, 6, 7, 8, 9, 10, 11, 12, 13] [1, 2] [2, 0, 1, 3, 4, 5, 6, 7, 8, 9, 10, 11, 12, 13] rfl rfl (by decide) (by decide) rfl (by decide) (fun H locs hP hD hS => ?_)
                        rw [hQ]
                        exact W.iret (v := o34.1) hx hb hr (fun t9 ht hW => ⟨⟨o34.1, (o34.2.1, o34.2.2.1, o34.2.2.2), rfl, (Option.some.inj hm), by rw [ht]; exact hP, va_K.moved hW.alike hK, hD⟩, hS.F ht⟩) hS.2.2 dX6_noWords_150
                      · have hm := it_f c33 hm
                        exact B_137 _ _ _ _ _ _ hm hP hD hS (lv_sub hl [0] rfl)
                  · have hm := it_t c29 hm
                    exact B_106 _ _ _ _ _ _ hm hP hD hS (lv_sub hl [0] rfl)
              · have hm := it_t c25 hm
                exact B_81 _ _ _ _ _ _ hm hP hD hS (lv_sub hl [0] rfl)
          · have hm := it_t c21 hm
            exact B_54 _ _ _ _ _ _ hm hP hD hS (lv_sub hl [0] rfl)
def b_X6_echo_80 (fu : Nat) (t_L : Nat → Int64) (t_shelf : Nat → Int32) (t_rowSize : Nat → Int32) (t_rows_R : Nat → Nat → Int64) (t_kind : Nat → Int32) (t_pitch : Nat → Int32) (s0 : Int32) (t : Nat → Int32) (t_refused : Nat → Int32) (t_word : Nat → Int32) (t_heard : Nat → Int32) : Option (Int32 × ((Nat → Int32) × (Nat → Int32) × (Nat → Int32) × (Nat → Int32))) :=
  some (s0, (t, t_refused, t_word, t_heard))
def b_X6_echo_24 (fu : Nat) (t_L : Nat → Int64) (t_shelf : Nat → Int32) (t_rowSize : Nat → Int32) (t_rows_R : Nat → Nat → Int64) (t_kind : Nat → Int32) (t_pitch : Nat → Int32) (l3 : Int32) (l4 : Int32) (s1 : Int32) (s2 : Int32) (s3 : Int32) (s4 : Int32) (t : Nat → Int32) (t_refused : Nat → Int32) (t_word : Nat → Int32) (t_heard : Nat → Int32) : Option (Int32 × ((Nat → Int32) × (Nat → Int32) × (Nat → Int32) × (Nat → Int32))) :=
  (m_X6_noWord fu t t_L t_shelf t_rowSize t_rows_R t_refused t_word s1 s2 s3 s4).bind fun o1 =>
    (if o1.1 = 0 then
      (m_X6_listen fu o1.2.1 t_L t_kind t_pitch o1.2.2.2 t_heard l3).bind fun o4 =>
      (if l4 = (-1 : Int32) then
        b_X6_echo_80 fu t_L t_shelf t_rowSize t_rows_R t_kind t_pitch (o4.1 33) o4.1 o1.2.2.1 o1.2.2.2 o4.2
      else
        (if o4.1 33 ≤ l4 then
          (m_X6_refuse fu o4.1 t_L o1.2.2.1 (-5 : Int32)).bind fun o8 =>
          b_X6_echo_80 fu t_L t_shelf t_rowSize t_rows_R t_kind t_pitch o8.1 o4.1 o8.2 o1.2.2.2 o4.2
        else
          gd (inb l4 13) (
          b_X6_echo_80 fu t_L t_shelf t_rowSize t_rows_R t_kind t_pitch (o4.2 l4.toNatClampNeg) o4.1 o1.2.2.1 o1.2.2.2 o4.2)))
    else
      some (o1.1, (o1.2.1, o1.2.2.1, o1.2.2.2, t_heard)))
def b_X6_echo_23 (fu : Nat) (t_L : Nat → Int64) (t_shelf : Nat → Int32) (t_rowSize : Nat → Int32) (t_rows_R : Nat → Nat → Int64) (t_kind : Nat → Int32) (t_pitch : Nat → Int32) (l3 : Int32) (l4 : Int32) (s1 : Int32) (s2 : Int32) (s3 : Int32) (t : Nat → Int32) (t_refused : Nat → Int32) (t_word : Nat → Int32) (t_heard : Nat → Int32) : Option (Int32 × ((Nat → Int32) × (Nat → Int32) × (Nat → Int32) × (Nat → Int32))) :=
  b_X6_echo_24 fu t_L t_shelf t_rowSize t_rows_R t_kind t_pitch l3 l4 s1 s2 s3 (0 : Int32) t t_refused t_word t_heard
def m_X6_echo (fu : Nat) (t : Nat → Int32) (t_L : Nat → Int64) (t_shelf : Nat → Int32) (t_rowSize : Nat → Int32) (t_rows_R : Nat → Nat → Int64) (t_refused : Nat → Int32) (t_kind : Nat → Int32) (t_pitch : Nat → Int32) (t_word : Nat → Int32) (t_heard : Nat → Int32) (l1 : Int32) (l2 : Int32) (l3 : Int32) (l4 : Int32) : Option (Int32 × ((Nat → Int32) × (Nat → Int32) × (Nat → Int32) × (Nat → Int32))) :=
  (m_X6_isVoice fu t t_L l3).bind fun o11 =>
  (if o11.1 = 0 then
    b_X6_echo_23 fu t_L t_shelf t_rowSize t_rows_R t_kind t_pitch l3 l4 l1 l2 (12 : Int32) t t_refused t_word t_heard
  else
    (if l4 < (-1 : Int32) then
      b_X6_echo_23 fu t_L t_shelf t_rowSize t_rows_R t_kind t_pitch l3 l4 l1 l2 (12 : Int32) t t_refused t_word t_heard
    else
      b_X6_echo_24 fu t_L t_shelf t_rowSize t_rows_R t_kind t_pitch l3 l4 l1 l2 (12 : Int32) (1 : Int32) t t_refused t_word t_heard))
abbrev rm_X6_echo : Room := ({ frames := 3, cells := 0, slots := 0, locals := 73 } : Room)
abbrev w0_X6_echo (cA : Nat → ClassId) (am : Nat → Nat) (tkv : Value) (ttv : Value) (t : Nat → Int32) (t_L : Nat → Int64) (t_shelf : Nat → Int32) (t_rowSize : Nat → Int32) (t_rows_R : Nat → Nat → Int64) (t_refused : Nat → Int32) (t_kind : Nat → Int32) (t_pitch : Nat → Int32) (t_word : Nat → Int32) (t_heard : Nat → Int32) : va_W := [((am 0), e_X6 am tkv ttv t t_L), ((am 1), eI cA 8 t_shelf), ((am 3), eI cA 8 t_rowSize), ((am 4), eOJ cA am 5), (am 5, eJ cA 40 (t_rows_R 0)), (am 6, eJ cA 40 (t_rows_R 1)), (am 7, eJ cA 40 (t_rows_R 2)), (am 8, eJ cA 40 (t_rows_R 3)), (am 9, eJ cA 40 (t_rows_R 4)), (am 10, eJ cA 40 (t_rows_R 5)), (am 11, eJ cA 40 (t_rows_R 6)), (am 12, eJ cA 40 (t_rows_R 7)), ((am 16), eI cA 8 t_refused), ((am 17), eI cA 8 t_kind), ((am 19), eI cA 8 t_pitch), ((am 21), eI cA 12 t_word), ((am 22), eI cA 13 t_heard)]
abbrev w1_X6_echo (cA : Nat → ClassId) (am : Nat → Nat) (tkv : Value) (ttv : Value) (t_L : Nat → Int64) (t_shelf : Nat → Int32) (t_rowSize : Nat → Int32) (t_rows_R : Nat → Nat → Int64) (t_kind : Nat → Int32) (t_pitch : Nat → Int32) (u : (Nat → Int32) × (Nat → Int32) × (Nat → Int32) × (Nat → Int32)) : va_W := [((am 0), e_X6 am tkv ttv u.1 t_L), ((am 1), eI cA 8 t_shelf), ((am 3), eI cA 8 t_rowSize), ((am 4), eOJ cA am 5), (am 5, eJ cA 40 (t_rows_R 0)), (am 6, eJ cA 40 (t_rows_R 1)), (am 7, eJ cA 40 (t_rows_R 2)), (am 8, eJ cA 40 (t_rows_R 3)), (am 9, eJ cA 40 (t_rows_R 4)), (am 10, eJ cA 40 (t_rows_R 5)), (am 11, eJ cA 40 (t_rows_R 6)), (am 12, eJ cA 40 (t_rows_R 7)), ((am 16), eI cA 8 u.2.1), ((am 17), eI cA 8 t_kind), ((am 19), eI cA 8 t_pitch), ((am 21), eI cA 12 u.2.2.1), ((am 22), eI cA 13 u.2.2.2)]
theorem hd_X6_echo : yX6_echo.cls = RX6 ∧ yX6_echo.cls ≠ "java/lang/invoke/MethodHandle" ∧ yX6_echo.cls ≠ "java/lang/invoke/VarHandle" ∧ (parseMethodDescriptor yX6_echo.desc).map (fun d => d.parameters.length) = some 4 := by decide +kernel
set_option maxHeartbeats 40000000 in
set_option maxRecDepth 100000 in
theorem c_X6_echo (l : Launch) (D : va_G) (cA : Nat → ClassId) (sz : Nat) (fu : Nat) (am : Nat → Nat) (tkv : Value) (ttv : Value) (t : Nat → Int32) (t_L : Nat → Int64) (t_shelf : Nat → Int32) (t_rowSize : Nat → Int32) (t_rows_R : Nat → Nat → Int64) (t_refused : Nat → Int32) (t_kind : Nat → Int32) (t_pitch : Nat → Int32) (t_word : Nat → Int32) (t_heard : Nat → Int32) (l1 : Int32) (l2 : Int32) (l3 : Int32) (l4 : Int32) (out : Int32 × ((Nat → Int32) × (Nat → Int32) × (Nat → Int32) × (Nat → Int32))) (hm : m_X6_echo fu t t_L t_shelf t_rowSize t_rows_R t_refused t_kind t_pitch t_word t_heard l1 l2 l3 l4 = some out) : MI l yX6_echo (wU yX6_echo cX6_echo 6 ((Option.some Jvm.ClassFile.FieldType.int))) rm_X6_echo D cA sz [.ref (am 0), .int l1, .int l2, .int l3, .int l4] (w0_X6_echo cA am tkv ttv t t_L t_shelf t_rowSize t_rows_R t_refused t_kind t_pitch t_word t_heard) out (w1_X6_echo cA am tkv ttv t_L t_shelf t_rowSize t_rows_R t_kind t_pitch) := by
  refine Met.ofW (cc := cX6_echo) (maxL := 6) (ret := (Option.some Jvm.ClassFile.FieldType.int)) (by decide) rfl ?_
  intro p e s m args below meth c s₁ B hml hv
  obtain ⟨hargs, hsz, hP, hK, hD0, hN⟩ := hv
  have hx := B.exec
  have hb := B.bytes
  have hr := B.returns
  have htg : ∀ w ∈ gw, w.before args s = true := fun w h => atoms_spec (ws := wU yX6_echo cX6_echo 6 ((Option.some Jvm.ClassFile.FieldType.int))) B.pre w (List.mem_cons_of_mem _ h)
  have hown : s.vm.findClass RX6 = some m.cls := findClass_of_methodNamed B.named
  have hlocks := B.notSynchronized
  subst hsz
  have hD := hD0.self (sz := s.heap.size)
  have hA : ∀ q : Nat, s.heap.size ≤ q → va_A (w0_X6_echo cA am tkv ttv t t_L t_shelf t_rowSize t_rows_R t_refused t_kind t_pitch t_word t_heard) s.heap.size q := fun q h => Or.inr h
  have hS : va_S (va_A (w0_X6_echo cA am tkv ttv t t_L t_shelf t_rowSize t_rows_R t_refused t_kind t_pitch t_word t_heard) s.heap.size) s.heap s.heap [] := va_S.rf
  generalize va_A (w0_X6_echo cA am tkv ttv t t_L t_shelf t_rowSize t_rows_R t_refused t_kind t_pitch t_word t_heard) s.heap.size = A at hA hD hS ⊢
  obtain ⟨Q, hQ⟩ : ∃ Q : State → Prop, Q = MQ below (va_Qi (fun (r : Int32) (u : (Nat → Int32) × (Nat → Int32) × (Nat → Int32) × (Nat → Int32)) => (r, u) = out) (pst0 D cA A (w1_X6_echo cA am tkv ttv t_L t_shelf t_rowSize t_rows_R t_kind t_pitch)) A) args s 0 0 A := ⟨_, rfl⟩
  refine (?_ : W p l e rm_X6_echo s m args below meth c s.heap [] 0 0 (MQ below (va_Qi (fun (r : Int32) (u : (Nat → Int32) × (Nat → Int32) × (Nat → Int32) × (Nat → Int32)) => (r, u) = out) (pst0 D cA A (w1_X6_echo cA am tkv ttv t_L t_shelf t_rowSize t_rows_R t_kind t_pitch)) A) args s 0 0 A) (entryFrame m args 6))
  rw [← hQ]
  have hP : va_P D CL [((am 0), e_X6 am tkv ttv t t_L), ((am 1), eI cA 8 t_shelf), ((am 3), eI cA 8 t_rowSize), ((am 4), eOJ cA am 5), (am 5, eJ cA 40 (t_rows_R 0)), (am 6, eJ cA 40 (t_rows_R 1)), (am 7, eJ cA 40 (t_rows_R 2)), (am 8, eJ cA 40 (t_rows_R 3)), (am 9, eJ cA 40 (t_rows_R 4)), (am 10, eJ cA 40 (t_rows_R 5)), (am 11, eJ cA 40 (t_rows_R 6)), (am 12, eJ cA 40 (t_rows_R 7)), ((am 16), eI cA 8 t_refused), ((am 17), eI cA 8 t_kind), ((am 19), eI cA 8 t_pitch), ((am 21), eI cA 12 t_word), ((am 22), eI cA 13 t_heard)] s.heap := hP
  have hD : va_D A [((am 0), e_X6 am tkv ttv t t_L), ((am 1), eI cA 8 t_shelf), ((am 3), eI cA 8 t_rowSize), ((am 4), eOJ cA am 5), (am 5, eJ cA 40 (t_rows_R 0)), (am 6, eJ cA 40 (t_rows_R 1)), (am 7, eJ cA 40 (t_rows_R 2)), (am 8, eJ cA 40 (t_rows_R 3)), (am 9, eJ cA 40 (t_rows_R 4)), (am 10, eJ cA 40 (t_rows_R 5)), (am 11, eJ cA 40 (t_rows_R 6)), (am 12, eJ cA 40 (t_rows_R 7)), ((am 16), eI cA 8 t_refused), ((am 17), eI cA 8 t_kind), ((am 19), eI cA 8 t_pitch), ((am 21), eI cA 12 t_word), ((am 22), eI cA 13 t_heard)] := hD
  have B_80 : ∀ (s0 : Int32) (t : Nat → Int32) (t_refused : Nat → Int32) (t_word : Nat → Int32) (t_heard : Nat → Int32) (H : Heap) (locs : List Loc) (ls : Array Slot), b_X6_echo_80 fu t_L t_shelf t_rowSize t_rows_R t_kind t_pitch s0 t t_refused t_word t_heard = some out → va_P D CL [((am 0), e_X6 am tkv ttv t t_L), ((am 1), eI cA 8 t_shelf), ((am 3), eI cA 8 t_rowSize), ((am 4), eOJ cA am 5), (am 5, eJ cA 40 (t_rows_R 0)), (am 6, eJ cA 40 (t_rows_R 1)), (am 7, eJ cA 40 (t_rows_R 2)), (am 8, eJ cA 40 (t_rows_R 3)), (am 9, eJ cA 40 (t_rows_R 4)), (am 10, eJ cA 40 (t_rows_R 5)), (am 11, eJ cA 40 (t_rows_R 6)), (am 12, eJ cA 40 (t_rows_R 7)), ((am 16), eI cA 8 t_refused), ((am 17), eI cA 8 t_kind), ((am 19), eI cA 8 t_pitch), ((am 21), eI cA 12 t_word), ((am 22), eI cA 13 t_heard)] H → va_D A [((am 0), e_X6 am tkv ttv t t_L), ((am 1), eI cA 8 t_shelf), ((am 3), eI cA 8 t_rowSize), ((am 4), eOJ cA am 5), (am 5, eJ cA 40 (t_rows_R 0)), (am 6, eJ cA 40 (t_rows_R 1)), (am 7, eJ cA 40 (t_rows_R 2)), (am 8, eJ cA 40 (t_rows_R 3)), (am 9, eJ cA 40 (t_rows_R 4)), (am 10, eJ cA 40 (t_rows_R 5)), (am 11, eJ cA 40 (t_rows_R 6)), (am 12, eJ cA 40 (t_rows_R 7)), ((am 16), eI cA 8 t_refused), ((am 17), eI cA 8 t_kind), ((am 19), eI cA 8 t_pitch), ((am 21), eI cA 12 t_word), ((am 22), eI cA 13 t_heard)] → va_S A s.heap H locs → lv_has ls 6 [(0, .ref (am 0))] → W p l e rm_X6_echo s m args below meth c H locs 0 0 Q (F0 m 80 ls [.int s0]) := by
    intro  s0 t t_refused t_word t_heard H locs ls hm hP hD hS hl
    unfold b_X6_echo_80 at hm
    rw [hQ]
    exact W.iret (v := s0) hx hb hr (fun t9 ht hW => ⟨⟨s0, (t, t_refused, t_word, t_heard), rfl, (Option.some.inj hm), by rw [ht]; exact hP, va_K.moved hW.alike hK, hD⟩, hS.F ht⟩) hS.2.2 dX6_echo_80
  have B_24 : ∀ (l3 : Int32) (l4 : Int32) (s1 : Int32) (s2 : Int32) (s3 : Int32) (s4 : Int32) (t : Nat → Int32) (t_refused : Nat → Int32) (t_word : Nat → Int32) (t_heard : Nat → Int32) (H : Heap) (locs : List Loc) (ls : Array Slot), b_X6_echo_24 fu t_L t_shelf t_rowSize t_rows_R t_kind t_pitch l3 l4 s1 s2 s3 s4 t t_refused t_word t_heard = some out → va_P D CL [((am 0), e_X6 am tkv ttv t t_L), ((am 1), eI cA 8 t_shelf), ((am 3), eI cA 8 t_rowSize), ((am 4), eOJ cA am 5), (am 5, eJ cA 40 (t_rows_R 0)), (am 6, eJ cA 40 (t_rows_R 1)), (am 7, eJ cA 40 (t_rows_R 2)), (am 8, eJ cA 40 (t_rows_R 3)), (am 9, eJ cA 40 (t_rows_R 4)), (am 10, eJ cA 40 (t_rows_R 5)), (am 11, eJ cA 40 (t_rows_R 6)), (am 12, eJ cA 40 (t_rows_R 7)), ((am 16), eI cA 8 t_refused), ((am 17), eI cA 8 t_kind), ((am 19), eI cA 8 t_pitch), ((am 21), eI cA 12 t_word), ((am 22), eI cA 13 t_heard)] H → va_D A [((am 0), e_X6 am tkv ttv t t_L), ((am 1), eI cA 8 t_shelf), ((am 3), eI cA 8 t_rowSize), ((am 4), eOJ cA am 5), (am 5, eJ cA 40 (t_rows_R 0)), (am 6, eJ cA 40 (t_rows_R 1)), (am 7, eJ cA 40 (t_rows_R 2)), (am 8, eJ cA 40 (t_rows_R 3)), (am 9, eJ cA 40 (t_rows_R 4)), (am 10, eJ cA 40 (t_rows_R 5)), (am 11, eJ cA 40 (t_rows_R 6)), (am 12, eJ cA 40 (t_rows_R 7)), ((am 16), eI cA 8 t_refused), ((am 17), eI cA 8 t_kind), ((am 19), eI cA 8 t_pitch), ((am 21), eI cA 12 t_word), ((am 22), eI cA 13 t_heard)] → va_S A s.heap H locs → lv_has ls 6 [(0, .ref (am 0)), (3, .int l3), (4, .int l4)] → W p l e rm_X6_echo s m args below meth c H locs 0 0 Q (F0 m 24 ls [.int s4, .int s3, .int s2, .int s1, .ref (am 0)]) := by
    intro  l3 l4 s1 s2 s3 s4 t t_refused t_word t_heard H locs ls hm hP hD hS hl
    unfold b_X6_echo_24 at hm
    obtain ⟨o1, ho2, hm⟩ := bd_s hm
    refine xr_i (wr := [((am 17), eI cA 8 t_kind), ((am 19), eI cA 8 t_pitch), ((am 22), eI cA 13 t_heard)]) (wn := [((am 0), e_X6 am tkv ttv o1.2.1 t_L), ((am 1), eI cA 8 t_shelf), ((am 3), eI cA 8 t_rowSize), ((am 4), eOJ cA am 5), (am 5, eJ cA 40 (t_rows_R 0)), (am 6, eJ cA 40 (t_rows_R 1)), (am 7, eJ cA 40 (t_rows_R 2)), (am 8, eJ cA 40 (t_rows_R 3)), (am 9, eJ cA 40 (t_rows_R 4)), (am 10, eJ cA 40 (t_rows_R 5)), (am 11, eJ cA 40 (t_rows_R 6)), (am 12, eJ cA 40 (t_rows_R 7)), ((am 16), eI cA 8 o1.2.2.1), ((am 17), eI cA 8 t_kind), ((am 19), eI cA 8 t_pitch), ((am 21), eI cA 12 o1.2.2.2), ((am 22), eI cA 13 t_heard)]) (va_runV (As := [.int s1, .int s2, .int s3, .int s4]) (rest := []) ⟨hx, hb, hml, hown, htg⟩ (c_X6_noWord l D cA _ fu am tkv ttv t t_L t_shelf t_rowSize t_rows_R t_refused t_word s1 s2 s3 s4 o1 ho2) (cwV 4 htg (gV q_6_49 q_6_51 q_p6_8 q_1_8 q_6_52) rfl rfl rfl hd_X6_noWord ⟨Nat.le_of_ble_eq_true rfl, Nat.le_of_ble_eq_true rfl⟩) (xpV hN hK hP hD [0, 1, 2, 3, 4, 5, 6, 7, 8, 9, 10, 11, 12, 15] rfl (by decide) rfl rfl) rfl rfl hl.1 rfl (lv_room (Nat.le_of_ble_eq_true rfl)) dX6_echo_24 ⟨Nat.zero_le _, Nat.zero_le _⟩) hP hD hS hA [0, 1, 2, 3, 4, 5, 6, 7, 8, 9, 10, 11, 12, 15] [13, 14, 16] [3, 4, 5, 6, 7, 8, 9, 10, 11, 12, 13, 14, 15, 0, 1, 16, 2] rfl rfl (by decide) (by decide) rfl (by decide) (fun H locs hP hD hS => ?_)
    refine lv_istore (lv' := [(5, .int o1.1), (0, .ref (am 0)), (3, .int l3), (4, .int l4)]) hx hb dX6_echo_27 hl (by decide) rfl (fun ls hl => ?_)
    refine lv_iload hx hb dX6_echo_29 (lv_at hl 0 rfl) ?_
    refine lv_if_eq (tgt := 37) hx hb dX6_echo_31 (by decide) (fun c3 => ?_) (fun c3 => ?_)
    · have hm := it_t c3 hm
      refine lv_aload_n hx hb dX6_echo_37 rfl (lv_at hl 1 rfl) ?_
      refine lv_iload_n hx hb dX6_echo_38 rfl (lv_at hl 2 rfl) ?_
      obtain ⟨o4, ho5, hm⟩ := bd_s hm
      refine xr_v (wr := [((am 1), eI cA 8 t_shelf), ((am 3), eI cA 8 t_rowSize), ((am 4), eOJ cA am 5), (am 5, eJ cA 40 (t_rows_R 0)), (am 6, eJ cA 40 (t_rows_R 1)), (am 7, eJ cA 40 (t_rows_R 2)), (am 8, eJ cA 40 (t_rows_R 3)), (am 9, eJ cA 40 (t_rows_R 4)), (am 10, eJ cA 40 (t_rows_R 5)), (am 11, eJ cA 40 (t_rows_R 6)), (am 12, eJ cA 40 (t_rows_R 7)), ((am 16), eI cA 8 o1.2.2.1)]) (wn := [((am 0), e_X6 am tkv ttv o4.1 t_L), ((am 1), eI cA 8 t_shelf), ((am 3), eI cA 8 t_rowSize), ((am 4), eOJ cA am 5), (am 5, eJ cA 40 (t_rows_R 0)), (am 6, eJ cA 40 (t_rows_R 1)), (am 7, eJ cA 40 (t_rows_R 2)), (am 8, eJ cA 40 (t_rows_R 3)), (am 9, eJ cA 40 (t_rows_R 4)), (am 10, eJ cA 40 (t_rows_R 5)), (am 11, eJ cA 40 (t_rows_R 6)), (am 12, eJ cA 40 (t_rows_R 7)), ((am 16), eI cA 8 o1.2.2.1), ((am 17), eI cA 8 t_kind), ((am 19), eI cA 8 t_pitch), ((am 21), eI cA 12 o1.2.2.2), ((am 22), eI cA 13 o4.2)]) (va_runV (As := [.int l3]) (rest := []) ⟨hx, hb, hml, hown, htg⟩ (c_X6_listen l D cA _ fu am tkv ttv o1.2.1 t_L t_kind t_pitch o1.2.2.2 t_heard l3 o4 ho5) (cwV 1 htg (gV q_5_155 q_5_157 q_p5_11 q_1_8 q_5_158) rfl rfl rfl hd_X6_listen ⟨Nat.le_of_ble_eq_true rfl, Nat.le_of_ble_eq_true rfl⟩) (xpV hN hK hP hD [0, 13, 14, 15, 16] rfl (by decide) rfl rfl) rfl rfl hl.1 rfl (lv_room (Nat.le_of_ble_eq_true rfl)) dX6_echo_39 ⟨Nat.zero_le _, Nat.zero_le _⟩) hP hD hS hA [0, 13, 14, 15, 16] [1, 2, 3, 4, 5, 6, 7, 8, 9, 10, 11, 12] [12, 0, 1, 2, 3, 4, 5, 6, 7, 8, 9, 10, 11, 13, 14, 15, 16] rfl rfl (by decide) (by decide) rfl (by decide) (fun H locs hP hD hS => ?_)
      refine lv_iload hx hb dX6_echo_42 (lv_at hl 3 rfl) ?_
      refine lv_iconst (v := (-1 : Int32)) hx hb dX6_echo_44 (by decide) ?_
      refine lv_icmp_ne (tgt := 55) hx hb dX6_echo_45 (by decide) (fun c6 => ?_) (fun c6 => ?_)
      · have hm := it_f c6 hm
        refine lv_iload hx hb dX6_echo_55 (lv_at hl 3 rfl) ?_
        refine lv_aload_n hx hb dX6_echo_57 rfl (lv_at hl 1 rfl) ?_
        refine va_get (D := D) (ci := 6) (v := .int (o4.1 33)) (C := RX6) (T := TX6) (N := 49) hx hb htg inX6 hown hK hP 0 rfl rfl 33 (by decide) (htg _ q_4_222) (fun _ h9 => h9) rfl dX6_echo_58 ?_
        refine lv_icmp_ge (tgt := 74) hx hb dX6_echo_61 (by decide) (fun c7 => ?_) (fun c7 => ?_)
        · have hm := it_t c7 hm
          refine lv_aload_n hx hb dX6_echo_74 rfl (lv_at hl 1 rfl) ?_
          refine lv_bipush (v := (-5 : Int32)) hx hb dX6_echo_75 (by decide) ?_
          obtain ⟨o8, ho9, hm⟩ := bd_s hm
          refine xr_i (wr := [((am 1), eI cA 8 t_shelf), ((am 3), eI cA 8 t_rowSize), ((am 4), eOJ cA am 5), (am 5, eJ cA 40 (t_rows_R 0)), (am 6, eJ cA 40 (t_rows_R 1)), (am 7, eJ cA 40 (t_rows_R 2)), (am 8, eJ cA 40 (t_rows_R 3)), (am 9, eJ cA 40 (t_rows_R 4)), (am 10, eJ cA 40 (t_rows_R 5)), (am 11, eJ cA 40 (t_rows_R 6)), (am 12, eJ cA 40 (t_rows_R 7)), ((am 17), eI cA 8 t_kind), ((am 19), eI cA 8 t_pitch), ((am 21), eI cA 12 o1.2.2.2), ((am 22), eI cA 13 o4.2)]) (wn := [((am 0), e_X6 am tkv ttv o4.1 t_L), ((am 1), eI cA 8 t_shelf), ((am 3), eI cA 8 t_rowSize), ((am 4), eOJ cA am 5), (am 5, eJ cA 40 (t_rows_R 0)), (am 6, eJ cA 40 (t_rows_R 1)), (am 7, eJ cA 40 (t_rows_R 2)), (am 8, eJ cA 40 (t_rows_R 3)), (am 9, eJ cA 40 (t_rows_R 4)), (am 10, eJ cA 40 (t_rows_R 5)), (am 11, eJ cA 40 (t_rows_R 6)), (am 12, eJ cA 40 (t_rows_R 7)), ((am 16), eI cA 8 o8.2), ((am 17), eI cA 8 t_kind), ((am 19), eI cA 8 t_pitch), ((am 21), eI cA 12 o1.2.2.2), ((am 22), eI cA 13 o4.2)]) (va_runV (As := [.int (-5 : Int32)]) (rest := []) ⟨hx, hb, hml, hown, htg⟩ (c_X6_refuse l D cA _ fu am tkv ttv o4.1 t_L o1.2.2.1 (-5 : Int32) o8 ho9) (cwV 1 htg (gV q_5_108 q_5_110 q_p5_7 q_1_8 q_5_111) rfl rfl rfl hd_X6_refuse ⟨Nat.le_of_ble_eq_true rfl, Nat.le_of_ble_eq_true rfl⟩) (xpV hN hK hP hD [0, 12] rfl (by decide) rfl rfl) rfl rfl hl.1 rfl (lv_room (Nat.le_of_ble_eq_true rfl)) dX6_echo_77 ⟨Nat.zero_le _, Nat.zero_le _⟩) hP hD hS hA [0, 12] [1, 2, 3, 4, 5, 6, 7, 8, 9, 10, 11, 13, 14, 15, 16] [15, 0, 1, 2, 3, 4, 5, 6, 7, 8, 9, 10, 16, 11, 12, 13, 14] rfl rfl (by decide) (by decide) rfl (by decide) (fun H locs hP hD hS => ?_)
          exact B_80 _ _ _ _ _ _ _ _ hm hP hD hS (lv_sub hl [1] rfl)
        · have hm := it_f c7 hm
          refine lv_aload_n hx hb dX6_echo_64 rfl (lv_at hl 1 rfl) ?_
          refine va_get (D := D) (ci := 6) (v := .ref (am 22)) (C := RX6) (T := TX6) (N := 49) hx hb htg inX6 hown hK hP 0 rfl rfl 32 (by decide) (htg _ q_4_221) (fun _ h9 => h9) rfl dX6_echo_65 ?_
          refine lv_iload hx hb dX6_echo_68 (lv_at hl 3 rfl) ?_
          obtain ⟨hi10, hm⟩ := gd_s hm
          refine va_iald hx hb hK hP 16 0 rfl rfl hi10 dX6_echo_70 ?_
          refine lv_goto (tgt := 80) hx hb dX6_echo_71 (by decide) ?_
          exact B_80 _ _ _ _ _ _ _ _ hm hP hD hS (lv_sub hl [1] rfl)
      · have hm := it_t c6 hm
        refine lv_aload_n hx hb dX6_echo_48 rfl (lv_at hl 1 rfl) ?_
        refine va_get (D := D) (ci := 6) (v := .int (o4.1 33)) (C := RX6) (T := TX6) (N := 49) hx hb htg inX6 hown hK hP 0 rfl rfl 33 (by decide) (htg _ q_4_222) (fun _ h9 => h9) rfl dX6_echo_49 ?_
        refine lv_goto (tgt := 80) hx hb dX6_echo_52 (by decide) ?_
        exact B_80 _ _ _ _ _ _ _ _ hm hP hD hS (lv_sub hl [1] rfl)
    · have hm := it_f c3 hm
      refine lv_iload hx hb dX6_echo_34 (lv_at hl 0 rfl) ?_
      rw [hQ]
      exact W.iret (v := o1.1) hx hb hr (fun t9 ht hW => ⟨⟨o1.1, (o1.2.1, o1.2.2.1, o1.2.2.2, t_heard), rfl, (Option.some.inj hm), by rw [ht]; exact hP, va_K.moved hW.alike hK, hD⟩, hS.F ht⟩) hS.2.2 dX6_echo_36
  have B_23 : ∀ (l3 : Int32) (l4 : Int32) (s1 : Int32) (s2 : Int32) (s3 : Int32) (t : Nat → Int32) (t_refused : Nat → Int32) (t_word : Nat → Int32) (t_heard : Nat → Int32) (H : Heap) (locs : List Loc) (ls : Array Slot), b_X6_echo_23 fu t_L t_shelf t_rowSize t_rows_R t_kind t_pitch l3 l4 s1 s2 s3 t t_refused t_word t_heard = some out → va_P D CL [((am 0), e_X6 am tkv ttv t t_L), ((am 1), eI cA 8 t_shelf), ((am 3), eI cA 8 t_rowSize), ((am 4), eOJ cA am 5), (am 5, eJ cA 40 (t_rows_R 0)), (am 6, eJ cA 40 (t_rows_R 1)), (am 7, eJ cA 40 (t_rows_R 2)), (am 8, eJ cA 40 (t_rows_R 3)), (am 9, eJ cA 40 (t_rows_R 4)), (am 10, eJ cA 40 (t_rows_R 5)), (am 11, eJ cA 40 (t_rows_R 6)), (am 12, eJ cA 40 (t_rows_R 7)), ((am 16), eI cA 8 t_refused), ((am 17), eI cA 8 t_kind), ((am 19), eI cA 8 t_pitch), ((am 21), eI cA 12 t_word), ((am 22), eI cA 13 t_heard)] H → va_D A [((am 0), e_X6 am tkv ttv t t_L), ((am 1), eI cA 8 t_shelf), ((am 3), eI cA 8 t_rowSize), ((am 4), eOJ cA am 5), (am 5, eJ cA 40 (t_rows_R 0)), (am 6, eJ cA 40 (t_rows_R 1)), (am 7, eJ cA 40 (t_rows_R 2)), (am 8, eJ cA 40 (t_rows_R 3)), (am 9, eJ cA 40 (t_rows_R 4)), (am 10, eJ cA 40 (t_rows_R 5)), (am 11, eJ cA 40 (t_rows_R 6)), (am 12, eJ cA 40 (t_rows_R 7)), ((am 16), eI cA 8 t_refused), ((am 17), eI cA 8 t_kind), ((am 19), eI cA 8 t_pitch), ((am 21), eI cA 12 t_word), ((am 22), eI cA 13 t_heard)] → va_S A s.heap H locs → lv_has ls 6 [(0, .ref (am 0)), (3, .int l3), (4, .int l4)] → W p l e rm_X6_echo s m args below meth c H locs 0 0 Q (F0 m 23 ls [.int s3, .int s2, .int s1, .ref (am 0)]) := by
    intro  l3 l4 s1 s2 s3 t t_refused t_word t_heard H locs ls hm hP hD hS hl
    unfold b_X6_echo_23 at hm
    refine lv_iconst (v := (0 : Int32)) hx hb dX6_echo_23 (by decide) ?_
    exact B_24 _ _ _ _ _ _ _ _ _ _ _ _ _ hm hP hD hS (lv_sub hl [0, 1, 2] rfl)
  unfold m_X6_echo at hm
  subst hargs
  have hl := lv_entry ([.ref (am 0), .int l1, .int l2, .int l3, .int l4]) (n := 6) (Nat.le_of_ble_eq_true rfl)
  rw [lg_entry_eq]
  generalize (lg_sl ([.ref (am 0), .int l1, .int l2, .int l3, .int l4]) ++ List.replicate (6 - (lg_sl ([.ref (am 0), .int l1, .int l2, .int l3, .int l4])).length) Slot.unset).toArray = ls at hl ⊢
  have hl : lv_has ls 6 [(0, .ref (am 0)), (1, .int l1), (2, .int l2), (3, .int l3), (4, .int l4)] := hl
  refine lv_aload_n hx hb dX6_echo_0 rfl (lv_at hl 0 rfl) ?_
  refine lv_iload_n hx hb dX6_echo_1 rfl (lv_at hl 1 rfl) ?_
  refine lv_iload_n hx hb dX6_echo_2 rfl (lv_at hl 2 rfl) ?_
  refine lv_bipush (v := (12 : Int32)) hx hb dX6_echo_3 (by decide) ?_
  refine lv_aload_n hx hb dX6_echo_5 rfl (lv_at hl 0 rfl) ?_
  refine lv_iload_n hx hb dX6_echo_6 rfl (lv_at hl 3 rfl) ?_
  obtain ⟨o11, ho12, hm⟩ := bd_s hm
  refine xr_i (wr := [((am 1), eI cA 8 t_shelf), ((am 3), eI cA 8 t_rowSize), ((am 4), eOJ cA am 5), (am 5, eJ cA 40 (t_rows_R 0)), (am 6, eJ cA 40 (t_rows_R 1)), (am 7, eJ cA 40 (t_rows_R 2)), (am 8, eJ cA 40 (t_rows_R 3)), (am 9, eJ cA 40 (t_rows_R 4)), (am 10, eJ cA 40 (t_rows_R 5)), (am 11, eJ cA 40 (t_rows_R 6)), (am 12, eJ cA 40 (t_rows_R 7)), ((am 16), eI cA 8 t_refused), ((am 17), eI cA 8 t_kind), ((am 19), eI cA 8 t_pitch), ((am 21), eI cA 12 t_word), ((am 22), eI cA 13 t_heard)]) (wn := [((am 0), e_X6 am tkv ttv t t_L), ((am 1), eI cA 8 t_shelf), ((am 3), eI cA 8 t_rowSize), ((am 4), eOJ cA am 5), (am 5, eJ cA 40 (t_rows_R 0)), (am 6, eJ cA 40 (t_rows_R 1)), (am 7, eJ cA 40 (t_rows_R 2)), (am 8, eJ cA 40 (t_rows_R 3)), (am 9, eJ cA 40 (t_rows_R 4)), (am 10, eJ cA 40 (t_rows_R 5)), (am 11, eJ cA 40 (t_rows_R 6)), (am 12, eJ cA 40 (t_rows_R 7)), ((am 16), eI cA 8 t_refused), ((am 17), eI cA 8 t_kind), ((am 19), eI cA 8 t_pitch), ((am 21), eI cA 12 t_word), ((am 22), eI cA 13 t_heard)]) (va_runV (As := [.int l3]) (rest := [.int (12 : Int32), .int l2, .int l1, .ref (am 0)]) ⟨hx, hb, hml, hown, htg⟩ (c_X6_isVoice l D cA _ fu am tkv ttv t t_L l3 o11 ho12) (cwV 1 htg (gV q_5_139 q_5_141 q_p5_9 q_1_8 q_5_142) rfl rfl rfl hd_X6_isVoice ⟨Nat.le_of_ble_eq_true rfl, Nat.le_of_ble_eq_true rfl⟩) (xpV hN hK hP hD [0] rfl (by decide) rfl rfl) rfl rfl hl.1 rfl (lv_room (Nat.le_of_ble_eq_true rfl)) dX6_echo_7 ⟨Nat.zero_le _, Nat.zero_le _⟩) hP hD hS hA [0] [1, 2, 3, 4, 5, 6, 7, 8, 9, 10, 11, 12, 13, 14, 15, 16] [16, 0, 1, 2, 3, 4, 5, 6, 7, 8, 9, 10, 11, 12, 13, 14, 15] rfl rfl (by decide) (by decide) rfl (by decide) (fun H locs hP hD hS => ?_)
  refine lv_if_eq (tgt := 23) hx hb dX6_echo_10 (by decide) (fun c13 => ?_) (fun c13 => ?_)
  · have hm := it_t c13 hm
    exact B_23 _ _ _ _ _ _ _ _ _ _ _ _ hm hP hD hS (lv_sub hl [0, 3, 4] rfl)
  · have hm := it_f c13 hm
    refine lv_iload hx hb dX6_echo_13 (lv_at hl 4 rfl) ?_
    refine lv_iconst (v := (-1 : Int32)) hx hb dX6_echo_15 (by decide) ?_
    refine lv_icmp_lt (tgt := 23) hx hb dX6_echo_16 (by decide) (fun c14 => ?_) (fun c14 => ?_)
    · have hm := it_t c14 hm
      exact B_23 _ _ _ _ _ _ _ _ _ _ _ _ hm hP hD hS (lv_sub hl [0, 3, 4] rfl)
    · have hm := it_f c14 hm
      refine lv_iconst (v := (1 : Int32)) hx hb dX6_echo_19 (by decide) ?_
      refine lv_goto (tgt := 24) hx hb dX6_echo_20 (by decide) ?_
      exact B_24 _ _ _ _ _ _ _ _ _ _ _ _ _ hm hP hD hS (lv_sub hl [0, 3, 4] rfl)
