def b_X6_holds_21 (fu : Nat) (t : Nat → Int32) (t_L : Nat → Int64) (t_shelf : Nat → Int32) (t_rowSort : Nat → Int32) (t_shown : Nat → Int32)  : Option (Int32 × Unit) :=
  some ((-1 : Int32), ())
def b_X6_holds_51 (fu : Nat) (t : Nat → Int32) (t_L : Nat → Int64) (t_shelf : Nat → Int32) (t_rowSort : Nat → Int32) (t_shown : Nat → Int32) (s0 : Int32) : Option (Int32 × Unit) :=
  some (s0, ())
def m_X6_holds (fu : Nat) (t : Nat → Int32) (t_L : Nat → Int64) (t_shelf : Nat → Int32) (t_rowSort : Nat → Int32) (t_shown : Nat → Int32) (l1 : Int32) : Option (Int32 × Unit) :=
  (m_X6_in fu l1.toInt64 (0 : Int64) (7 : Int64)).bind fun o1 =>
  (if o1.1 = 0 then
    b_X6_holds_21 fu t t_L t_shelf t_rowSort t_shown 
  else
    gd (inb l1 8) (
    (if (t_shelf l1.toNatClampNeg) = 0 then
      b_X6_holds_21 fu t t_L t_shelf t_rowSort t_shown 
    else
      gd (inb l1 8) (
      (if (t_shelf l1.toNatClampNeg) = (1 : Int32) then
        gd (inb l1 8) (
        b_X6_holds_51 fu t t_L t_shelf t_rowSort t_shown (t_rowSort l1.toNatClampNeg))
      else
        gd (inb l1 8) (
        b_X6_holds_51 fu t t_L t_shelf t_rowSort t_shown ((10 : Int32) + (t_shown l1.toNatClampNeg))))))))
abbrev rm_X6_holds : Room := ({ frames := 1, cells := 0, slots := 0, locals := 25 } : Room)
abbrev w0_X6_holds (cA : Nat → ClassId) (am : Nat → Nat) (tkv : Value) (ttv : Value) (t : Nat → Int32) (t_L : Nat → Int64) (t_shelf : Nat → Int32) (t_rowSort : Nat → Int32) (t_shown : Nat → Int32) : va_W := [((am 0), e_X6 am tkv ttv t t_L), ((am 1), eI cA 8 t_shelf), ((am 2), eI cA 8 t_rowSort), ((am 14), eI cA 8 t_shown)]
abbrev w1_X6_holds (cA : Nat → ClassId) (am : Nat → Nat) (tkv : Value) (ttv : Value) (t : Nat → Int32) (t_L : Nat → Int64) (t_shelf : Nat → Int32) (t_rowSort : Nat → Int32) (t_shown : Nat → Int32) (u : Unit) : va_W := [((am 0), e_X6 am tkv ttv t t_L), ((am 1), eI cA 8 t_shelf), ((am 2), eI cA 8 t_rowSort), ((am 14), eI cA 8 t_shown)]
theorem hd_X6_holds : yX6_holds.cls = RX6 ∧ yX6_holds.cls ≠ "java/lang/invoke/MethodHandle" ∧ yX6_holds.cls ≠ "java/lang/invoke/VarHandle" ∧ (parseMethodDescriptor yX6_holds.desc).map (fun d => d.parameters.length) = some 1 := by decide +kernel
set_option maxHeartbeats 40000000 in
set_option maxRecDepth 100000 in
theorem c_X6_holds (l : Launch) (D : va_G) (cA : Nat → ClassId) (sz : Nat) (fu : Nat) (am : Nat → Nat) (tkv : Value) (ttv : Value) (t : Nat → Int32) (t_L : Nat → Int64) (t_shelf : Nat → Int32) (t_rowSort : Nat → Int32) (t_shown : Nat → Int32) (l1 : Int32) (out : Int32 × Unit) (hm : m_X6_holds fu t t_L t_shelf t_rowSort t_shown l1 = some out) : MI l yX6_holds (wU yX6_holds cX6_holds 2 ((Option.some Jvm.ClassFile.FieldType.int))) rm_X6_holds D cA sz [.ref (am 0), .int l1] (w0_X6_holds cA am tkv ttv t t_L t_shelf t_rowSort t_shown) out (w1_X6_holds cA am tkv ttv t t_L t_shelf t_rowSort t_shown) := by
  refine Met.ofW (cc := cX6_holds) (maxL := 2) (ret := (Option.some Jvm.ClassFile.FieldType.int)) (by decide) rfl ?_
  intro p e s m args below meth c s₁ B hml hv
  obtain ⟨hargs, hsz, hP, hK, hD0, hN⟩ := hv
  have hx := B.exec
  have hb := B.bytes
  have hr := B.returns
  have htg : ∀ w ∈ gw, w.before args s = true := fun w h => atoms_spec (ws := wU yX6_holds cX6_holds 2 ((Option.some Jvm.ClassFile.FieldType.int))) B.pre w (List.mem_cons_of_mem _ h)
  have hown : s.vm.findClass RX6 = some m.cls := findClass_of_methodNamed B.named
  have hlocks := B.notSynchronized
  subst hsz
  have hD := hD0.self (sz := s.heap.size)
  have hA : ∀ q : Nat, s.heap.size ≤ q → va_A (w0_X6_holds cA am tkv ttv t t_L t_shelf t_rowSort t_shown) s.heap.size q := fun q h => Or.inr h
  have hS : va_S (va_A (w0_X6_holds cA am tkv ttv t t_L t_shelf t_rowSort t_shown) s.heap.size) s.heap s.heap [] := va_S.rf
  generalize va_A (w0_X6_holds cA am tkv ttv t t_L t_shelf t_rowSort t_shown) s.heap.size = A at hA hD hS ⊢
  obtain ⟨Q, hQ⟩ : ∃ Q : State → Prop, Q = MQ below (va_Qi (fun (r : Int32) (u : Unit) => (r, u) = out) (pst0 D cA A (w1_X6_holds cA am tkv ttv t t_L t_shelf t_rowSort t_shown)) A) args s 0 0 A := ⟨_, rfl⟩
  refine (?_ : W p l e rm_X6_holds s m args below meth c s.heap [] 0 0 (MQ below (va_Qi (fun (r : Int32) (u : Unit) => (r, u) = out) (pst0 D cA A (w1_X6_holds cA am tkv ttv t t_L t_shelf t_rowSort t_shown)) A) args s 0 0 A) (entryFrame m args 2))
  rw [← hQ]
  have hP : va_P D CL [((am 0), e_X6 am tkv ttv t t_L), ((am 1), eI cA 8 t_shelf), ((am 2), eI cA 8 t_rowSort), ((am 14), eI cA 8 t_shown)] s.heap := hP
  have hD : va_D A [((am 0), e_X6 am tkv ttv t t_L), ((am 1), eI cA 8 t_shelf), ((am 2), eI cA 8 t_rowSort), ((am 14), eI cA 8 t_shown)] := hD
  have B_21 : ∀  (H : Heap) (locs : List Loc) (ls : Array Slot), b_X6_holds_21 fu t t_L t_shelf t_rowSort t_shown  = some out → va_P D CL [((am 0), e_X6 am tkv ttv t t_L), ((am 1), eI cA 8 t_shelf), ((am 2), eI cA 8 t_rowSort), ((am 14), eI cA 8 t_shown)] H → va_D A [((am 0), e_X6 am tkv ttv t t_L), ((am 1), eI cA 8 t_shelf), ((am 2), eI cA 8 t_rowSort), ((am 14), eI cA 8 t_shown)] → va_S A s.heap H locs → lv_has ls 2 [(0, .ref (am 0))] → W p l e rm_X6_holds s m args below meth c H locs 0 0 Q (F0 m 21 ls []) := by
    intro   H locs ls hm hP hD hS hl
    unfold b_X6_holds_21 at hm
    refine lv_iconst (v := (-1 : Int32)) hx hb dX6_holds_21 (by decide) ?_
    rw [hQ]
    exact W.iret (v := (-1 : Int32)) hx hb hr (fun t9 ht hW => ⟨⟨(-1 : Int32), (), rfl, (Option.some.inj hm), by rw [ht]; exact hP, va_K.moved hW.alike hK, hD⟩, hS.F ht⟩) hS.2.2 dX6_holds_22
  have B_51 : ∀ (s0 : Int32) (H : Heap) (locs : List Loc) (ls : Array Slot), b_X6_holds_51 fu t t_L t_shelf t_rowSort t_shown s0 = some out → va_P D CL [((am 0), e_X6 am tkv ttv t t_L), ((am 1), eI cA 8 t_shelf), ((am 2), eI cA 8 t_rowSort), ((am 14), eI cA 8 t_shown)] H → va_D A [((am 0), e_X6 am tkv ttv t t_L), ((am 1), eI cA 8 t_shelf), ((am 2), eI cA 8 t_rowSort), ((am 14), eI cA 8 t_shown)] → va_S A s.heap H locs → lv_has ls 2 [(0, .ref (am 0))] → W p l e rm_X6_holds s m args below meth c H locs 0 0 Q (F0 m 51 ls [.int s0]) := by
    intro  s0 H locs ls hm hP hD hS hl
    unfold b_X6_holds_51 at hm
    rw [hQ]
    exact W.iret (v := s0) hx hb hr (fun t9 ht hW => ⟨⟨s0, (), rfl, (Option.some.inj hm), by rw [ht]; exact hP, va_K.moved hW.alike hK, hD⟩, hS.F ht⟩) hS.2.2 dX6_holds_51
  unfold m_X6_holds at hm
  subst hargs
  have hl := lv_entry ([.ref (am 0), .int l1]) (n := 2) (Nat.le_of_ble_eq_true rfl)
  rw [lg_entry_eq]
  generalize (lg_sl ([.ref (am 0), .int l1]) ++ List.replicate (2 - (lg_sl ([.ref (am 0), .int l1])).length) Slot.unset).toArray = ls at hl ⊢
  have hl : lv_has ls 2 [(0, .ref (am 0)), (1, .int l1)] := hl
  refine lv_iload_n hx hb dX6_holds_0 rfl (lv_at hl 1 rfl) ?_
  refine lv_i2l hx hb dX6_holds_1 rfl ?_
  refine lv_lconst (v := (0 : Int64)) hx hb dX6_holds_2 (by decide) ?_
  refine lv_ldc2 (v := (7 : Int64)) hx hb hown (htg _ q_5_102) dX6_holds_3 ?_
  obtain ⟨o1, ho2, hm⟩ := bd_s hm
  refine xr_i (wr := [((am 0), e_X6 am tkv ttv t t_L), ((am 1), eI cA 8 t_shelf), ((am 2), eI cA 8 t_rowSort), ((am 14), eI cA 8 t_shown)]) (wn := [((am 0), e_X6 am tkv ttv t t_L), ((am 1), eI cA 8 t_shelf), ((am 2), eI cA 8 t_rowSort), ((am 14), eI cA 8 t_shown)]) (va_runS (As := [.long l1.toInt64, .long (0 : Int64), .long (7 : Int64)]) (rest := []) ⟨hx, hb, hml, hown, htg⟩ (c_X6_in l D cA _ fu l1.toInt64 (0 : Int64) (7 : Int64) o1 ho2) (cwS 3 htg (gS q_5_103 q_5_104 q_1_8 q_5_105) rfl rfl rfl hd_X6_in ⟨Nat.le_of_ble_eq_true rfl, Nat.le_of_ble_eq_true rfl⟩) (xpS hN hK hP hD [] rfl (by decide)) rfl rfl hl.1 rfl (lv_room (Nat.le_of_ble_eq_true rfl)) dX6_holds_6 ⟨Nat.zero_le _, Nat.zero_le _⟩) hP hD hS hA [] [0, 1, 2, 3] [0, 1, 2, 3] rfl rfl (by decide) (by decide) rfl (by decide) (fun H locs hP hD hS => ?_)
  refine lv_if_eq (tgt := 21) hx hb dX6_holds_9 (by decide) (fun c3 => ?_) (fun c3 => ?_)
  · have hm := it_t c3 hm
    exact B_21  _ _ _ hm hP hD hS (lv_sub hl [0] rfl)
  · have hm := it_f c3 hm
    refine lv_aload_n hx hb dX6_holds_12 rfl (lv_at hl 0 rfl) ?_
    refine va_get (D := D) (ci := 6) (v := .ref (am 1)) (C := RX6) (T := TX6) (N := 49) hx hb htg inX6 hown hK hP 0 rfl rfl 0 (by decide) (htg _ q_4_189) (fun _ h9 => h9) rfl dX6_holds_13 ?_
    refine lv_iload_n hx hb dX6_holds_16 rfl (lv_at hl 1 rfl) ?_
    obtain ⟨hi4, hm⟩ := gd_s hm
    refine va_iald hx hb hK hP 1 0 rfl rfl hi4 dX6_holds_17 ?_
    refine lv_if_ne (tgt := 23) hx hb dX6_holds_18 (by decide) (fun c5 => ?_) (fun c5 => ?_)
    · have hm := it_f c5 hm
      refine lv_aload_n hx hb dX6_holds_23 rfl (lv_at hl 0 rfl) ?_
      refine va_get (D := D) (ci := 6) (v := .ref (am 1)) (C := RX6) (T := TX6) (N := 49) hx hb htg inX6 hown hK hP 0 rfl rfl 0 (by decide) (htg _ q_4_189) (fun _ h9 => h9) rfl dX6_holds_24 ?_
      refine lv_iload_n hx hb dX6_holds_27 rfl (lv_at hl 1 rfl) ?_
      obtain ⟨hi6, hm⟩ := gd_s hm
      refine va_iald hx hb hK hP 1 0 rfl rfl hi6 dX6_holds_28 ?_
      refine lv_iconst (v := (1 : Int32)) hx hb dX6_holds_29 (by decide) ?_
      refine lv_icmp_ne (tgt := 42) hx hb dX6_holds_30 (by decide) (fun c7 => ?_) (fun c7 => ?_)
      · have hm := it_f c7 hm
        refine lv_bipush (v := (10 : Int32)) hx hb dX6_holds_42 (by decide) ?_
        refine lv_aload_n hx hb dX6_holds_44 rfl (lv_at hl 0 rfl) ?_
        refine va_get (D := D) (ci := 6) (v := .ref (am 14)) (C := RX6) (T := TX6) (N := 49) hx hb htg inX6 hown hK hP 0 rfl rfl 5 (by decide) (htg _ q_4_194) (fun _ h9 => h9) rfl dX6_holds_45 ?_
        refine lv_iload_n hx hb dX6_holds_48 rfl (lv_at hl 1 rfl) ?_
        obtain ⟨hi8, hm⟩ := gd_s hm
        refine va_iald hx hb hK hP 3 0 rfl rfl hi8 dX6_holds_49 ?_
        refine lv_iadd hx hb dX6_holds_50 ?_
        exact B_51 _ _ _ _ hm hP hD hS (lv_sub hl [0] rfl)
      · have hm := it_t c7 hm
        refine lv_aload_n hx hb dX6_holds_33 rfl (lv_at hl 0 rfl) ?_
        refine va_get (D := D) (ci := 6) (v := .ref (am 2)) (C := RX6) (T := TX6) (N := 49) hx hb htg inX6 hown hK hP 0 rfl rfl 1 (by decide) (htg _ q_4_190) (fun _ h9 => h9) rfl dX6_holds_34 ?_
        refine lv_iload_n hx hb dX6_holds_37 rfl (lv_at hl 1 rfl) ?_
        obtain ⟨hi9, hm⟩ := gd_s hm
        refine va_iald hx hb hK hP 2 0 rfl rfl hi9 dX6_holds_38 ?_
        refine lv_goto (tgt := 51) hx hb dX6_holds_39 (by decide) ?_
        exact B_51 _ _ _ _ hm hP hD hS (lv_sub hl [0] rfl)
    · have hm := it_t c5 hm
      exact B_21  _ _ _ hm hP hD hS (lv_sub hl [0] rfl)
def b_X6_show_25 (fu : Nat) (t : Nat → Int32) (t_L : Nat → Int64) (t_shelf : Nat → Int32) (t_shown : Nat → Int32) (t_refused : Nat → Int32) : Option (Int32 × ((Nat → Int32) × (Nat → Int32) × (Nat → Int32))) :=
  (m_X6_refuse fu t t_L t_refused (-2 : Int32)).bind fun o1 =>
    some (o1.1, (t_shelf, t_shown, o1.2))
def b_X6_show_47 (fu : Nat) (t : Nat → Int32) (t_L : Nat → Int64) (l1 : Int32) (l2 : Int32) (s1 : Int32) (s2 : Int32) (t_shelf : Nat → Int32) (t_shown : Nat → Int32) (t_refused : Nat → Int32) : Option (Int32 × ((Nat → Int32) × (Nat → Int32) × (Nat → Int32))) :=
  gd (inb s1 8) (
    gd (inb l1 8) (
    some ((1 : Int32), ((upd t_shelf s1.toNatClampNeg s2), (upd t_shown l1.toNatClampNeg l2), t_refused))))
def b_X6_show_32 (fu : Nat) (t : Nat → Int32) (t_L : Nat → Int64) (l1 : Int32) (l2 : Int32) (t_shelf : Nat → Int32) (t_shown : Nat → Int32) (t_refused : Nat → Int32) : Option (Int32 × ((Nat → Int32) × (Nat → Int32) × (Nat → Int32))) :=
  (if l2 = (-1 : Int32) then
      b_X6_show_47 fu t t_L l1 l2 l1 (0 : Int32) t_shelf t_shown t_refused
    else
      b_X6_show_47 fu t t_L l1 l2 l1 (2 : Int32) t_shelf t_shown t_refused)
def m_X6_show (fu : Nat) (t : Nat → Int32) (t_L : Nat → Int64) (t_shelf : Nat → Int32) (t_shown : Nat → Int32) (t_refused : Nat → Int32) (l1 : Int32) (l2 : Int32) : Option (Int32 × ((Nat → Int32) × (Nat → Int32) × (Nat → Int32))) :=
  (m_X6_in fu l1.toInt64 (0 : Int64) (7 : Int64)).bind fun o6 =>
  (if o6.1 = 0 then
    b_X6_show_25 fu t t_L t_shelf t_shown t_refused
  else
    (if l2 = (-1 : Int32) then
      b_X6_show_32 fu t t_L l1 l2 t_shelf t_shown t_refused
    else
      (m_X6_isVoice fu t t_L l2).bind fun o10 =>
      (if o10.1 = 0 then
        b_X6_show_25 fu t t_L t_shelf t_shown t_refused
      else
        b_X6_show_32 fu t t_L l1 l2 t_shelf t_shown t_refused)))
abbrev rm_X6_show : Room := ({ frames := 2, cells := 0, slots := 0, locals := 46 } : Room)
abbrev w0_X6_show (cA : Nat → ClassId) (am : Nat → Nat) (tkv : Value) (ttv : Value) (t : Nat → Int32) (t_L : Nat → Int64) (t_shelf : Nat → Int32) (t_shown : Nat → Int32) (t_refused : Nat → Int32) : va_W := [((am 0), e_X6 am tkv ttv t t_L), ((am 1), eI cA 8 t_shelf), ((am 14), eI cA 8 t_shown), ((am 16), eI cA 8 t_refused)]
abbrev w1_X6_show (cA : Nat → ClassId) (am : Nat → Nat) (tkv : Value) (ttv : Value) (t : Nat → Int32) (t_L : Nat → Int64) (u : (Nat → Int32) × (Nat → Int32) × (Nat → Int32)) : va_W := [((am 0), e_X6 am tkv ttv t t_L), ((am 1), eI cA 8 u.1), ((am 14), eI cA 8 u.2.1), ((am 16), eI cA 8 u.2.2)]
theorem hd_X6_show : yX6_show.cls = RX6 ∧ yX6_show.cls ≠ "java/lang/invoke/MethodHandle" ∧ yX6_show.cls ≠ "java/lang/invoke/VarHandle" ∧ (parseMethodDescriptor yX6_show.desc).map (fun d => d.parameters.length) = some 2 := by decide +kernel
set_option maxHeartbeats 40000000 in
set_option maxRecDepth 100000 in
theorem c_X6_show (l : Launch) (D : va_G) (cA : Nat → ClassId) (sz : Nat) (fu : Nat) (am : Nat → Nat) (tkv : Value) (ttv : Value) (t : Nat → Int32) (t_L : Nat → Int64) (t_shelf : Nat → Int32) (t_shown : Nat → Int32) (t_refused : Nat → Int32) (l1 : Int32) (l2 : Int32) (out : Int32 × ((Nat → Int32) × (Nat → Int32) × (Nat → Int32))) (hm : m_X6_show fu t t_L t_shelf t_shown t_refused l1 l2 = some out) : MI l yX6_show (wU yX6_show cX6_show 3 ((Option.some Jvm.ClassFile.FieldType.int))) rm_X6_show D cA sz [.ref (am 0), .int l1, .int l2] (w0_X6_show cA am tkv ttv t t_L t_shelf t_shown t_refused) out (w1_X6_show cA am tkv ttv t t_L) := by
  refine Met.ofW (cc := cX6_show) (maxL := 3) (ret := (Option.some Jvm.ClassFile.FieldType.int)) (by decide) rfl ?_
  intro p e s m args below meth c s₁ B hml hv
  obtain ⟨hargs, hsz, hP, hK, hD0, hN⟩ := hv
  have hx := B.exec
  have hb := B.bytes
  have hr := B.returns
  have htg : ∀ w ∈ gw, w.before args s = true := fun w h => atoms_spec (ws := wU yX6_show cX6_show 3 ((Option.some Jvm.ClassFile.FieldType.int))) B.pre w (List.mem_cons_of_mem _ h)
  have hown : s.vm.findClass RX6 = some m.cls := findClass_of_methodNamed B.named
  have hlocks := B.notSynchronized
  subst hsz
  have hD := hD0.self (sz := s.heap.size)
  have hA : ∀ q : Nat, s.heap.size ≤ q → va_A (w0_X6_show cA am tkv ttv t t_L t_shelf t_shown t_refused) s.heap.size q := fun q h => Or.inr h
  have hS : va_S (va_A (w0_X6_show cA am tkv ttv t t_L t_shelf t_shown t_refused) s.heap.size) s.heap s.heap [] := va_S.rf
  generalize va_A (w0_X6_show cA am tkv ttv t t_L t_shelf t_shown t_refused) s.heap.size = A at hA hD hS ⊢
  obtain ⟨Q, hQ⟩ : ∃ Q : State → Prop, Q = MQ below (va_Qi (fun (r : Int32) (u : (Nat → Int32) × (Nat → Int32) × (Nat → Int32)) => (r, u) = out) (pst0 D cA A (w1_X6_show cA am tkv ttv t t_L)) A) args s 0 0 A := ⟨_, rfl⟩
  refine (?_ : W p l e rm_X6_show s m args below meth c s.heap [] 0 0 (MQ below (va_Qi (fun (r : Int32) (u : (Nat → Int32) × (Nat → Int32) × (Nat → Int32)) => (r, u) = out) (pst0 D cA A (w1_X6_show cA am tkv ttv t t_L)) A) args s 0 0 A) (entryFrame m args 3))
  rw [← hQ]
  have hP : va_P D CL [((am 0), e_X6 am tkv ttv t t_L), ((am 1), eI cA 8 t_shelf), ((am 14), eI cA 8 t_shown), ((am 16), eI cA 8 t_refused)] s.heap := hP
  have hD : va_D A [((am 0), e_X6 am tkv ttv t t_L), ((am 1), eI cA 8 t_shelf), ((am 14), eI cA 8 t_shown), ((am 16), eI cA 8 t_refused)] := hD
  have B_25 : ∀ (t_shelf : Nat → Int32) (t_shown : Nat → Int32) (t_refused : Nat → Int32) (H : Heap) (locs : List Loc) (ls : Array Slot), b_X6_show_25 fu t t_L t_shelf t_shown t_refused = some out → va_P D CL [((am 0), e_X6 am tkv ttv t t_L), ((am 1), eI cA 8 t_shelf), ((am 14), eI cA 8 t_shown), ((am 16), eI cA 8 t_refused)] H → va_D A [((am 0), e_X6 am tkv ttv t t_L), ((am 1), eI cA 8 t_shelf), ((am 14), eI cA 8 t_shown), ((am 16), eI cA 8 t_refused)] → va_S A s.heap H locs → lv_has ls 3 [(0, .ref (am 0))] → W p l e rm_X6_show s m args below meth c H locs 0 0 Q (F0 m 25 ls []) := by
    intro  t_shelf t_shown t_refused H locs ls hm hP hD hS hl
    unfold b_X6_show_25 at hm
    refine lv_aload_n hx hb dX6_show_25 rfl (lv_at hl 0 rfl) ?_
    refine lv_bipush (v := (-2 : Int32)) hx hb dX6_show_26 (by decide) ?_
    obtain ⟨o1, ho2, hm⟩ := bd_s hm
    refine xr_i (wr := [((am 1), eI cA 8 t_shelf), ((am 14), eI cA 8 t_shown)]) (wn := [((am 0), e_X6 am tkv ttv t t_L), ((am 1), eI cA 8 t_shelf), ((am 14), eI cA 8 t_shown), ((am 16), eI cA 8 o1.2)]) (va_runV (As := [.int (-2 : Int32)]) (rest := []) ⟨hx, hb, hml, hown, htg⟩ (c_X6_refuse l D cA _ fu am tkv ttv t t_L t_refused (-2 : Int32) o1 ho2) (cwV 1 htg (gV q_5_108 q_5_110 q_p5_7 q_1_8 q_5_111) rfl rfl rfl hd_X6_refuse ⟨Nat.le_of_ble_eq_true rfl, Nat.le_of_ble_eq_true rfl⟩) (xpV hN hK hP hD [0, 3] rfl (by decide) rfl rfl) rfl rfl hl.1 rfl (lv_room (Nat.le_of_ble_eq_true rfl)) dX6_show_28 ⟨Nat.zero_le _, Nat.zero_le _⟩) hP hD hS hA [0, 3] [1, 2] [2, 0, 1, 3] rfl rfl (by decide) (by decide) rfl (by decide) (fun H locs hP hD hS => ?_)
    rw [hQ]
    exact W.iret (v := o1.1) hx hb hr (fun t9 ht hW => ⟨⟨o1.1, (t_shelf, t_shown, o1.2), rfl, (Option.some.inj hm), by rw [ht]; exact hP, va_K.moved hW.alike hK, hD⟩, hS.F ht⟩) hS.2.2 dX6_show_31
  have B_47 : ∀ (l1 : Int32) (l2 : Int32) (s1 : Int32) (s2 : Int32) (t_shelf : Nat → Int32) (t_shown : Nat → Int32) (t_refused : Nat → Int32) (H : Heap) (locs : List Loc) (ls : Array Slot), b_X6_show_47 fu t t_L l1 l2 s1 s2 t_shelf t_shown t_refused = some out → va_P D CL [((am 0), e_X6 am tkv ttv t t_L), ((am 1), eI cA 8 t_shelf), ((am 14), eI cA 8 t_shown), ((am 16), eI cA 8 t_refused)] H → va_D A [((am 0), e_X6 am tkv ttv t t_L), ((am 1), eI cA 8 t_shelf), ((am 14), eI cA 8 t_shown), ((am 16), eI cA 8 t_refused)] → va_S A s.heap H locs → lv_has ls 3 [(0, .ref (am 0)), (1, .int l1), (2, .int l2)] → W p l e rm_X6_show s m args below meth c H locs 0 0 Q (F0 m 47 ls [.int s2, .int s1, .ref (am 1)]) := by
    intro  l1 l2 s1 s2 t_shelf t_shown t_refused H locs ls hm hP hD hS hl
    unfold b_X6_show_47 at hm
    obtain ⟨hi3, hm⟩ := gd_s hm
    refine va_iast hx hb hK hP hD hS 1 0 rfl rfl hi3 dX6_show_47 (fun H locs (hP : va_P D CL [((am 0), e_X6 am tkv ttv t t_L), ((am 1), eI cA 8 (upd t_shelf s1.toNatClampNeg s2)), ((am 14), eI cA 8 t_shown), ((am 16), eI cA 8 t_refused)] H) (hD : va_D A [((am 0), e_X6 am tkv ttv t t_L), ((am 1), eI cA 8 (upd t_shelf s1.toNatClampNeg s2)), ((am 14), eI cA 8 t_shown), ((am 16), eI cA 8 t_refused)]) hS => ?_)
    refine lv_aload_n hx hb dX6_show_48 rfl (lv_at hl 0 rfl) ?_
    refine va_get (D := D) (ci := 6) (v := .ref (am 14)) (C := RX6) (T := TX6) (N := 49) hx hb htg inX6 hown hK hP 0 rfl rfl 5 (by decide) (htg _ q_4_194) (fun _ h9 => h9) rfl dX6_show_49 ?_
    refine lv_iload_n hx hb dX6_show_52 rfl (lv_at hl 1 rfl) ?_
    refine lv_iload_n hx hb dX6_show_53 rfl (lv_at hl 2 rfl) ?_
    obtain ⟨hi4, hm⟩ := gd_s hm
    refine va_iast hx hb hK hP hD hS 2 0 rfl rfl hi4 dX6_show_54 (fun H locs (hP : va_P D CL [((am 0), e_X6 am tkv ttv t t_L), ((am 1), eI cA 8 (upd t_shelf s1.toNatClampNeg s2)), ((am 14), eI cA 8 (upd t_shown l1.toNatClampNeg l2)), ((am 16), eI cA 8 t_refused)] H) (hD : va_D A [((am 0), e_X6 am tkv ttv t t_L), ((am 1), eI cA 8 (upd t_shelf s1.toNatClampNeg s2)), ((am 14), eI cA 8 (upd t_shown l1.toNatClampNeg l2)), ((am 16), eI cA 8 t_refused)]) hS => ?_)
    refine lv_iconst (v := (1 : Int32)) hx hb dX6_show_55 (by decide) ?_
    rw [hQ]
    exact W.iret (v := (1 : Int32)) hx hb hr (fun t9 ht hW => ⟨⟨(1 : Int32), ((upd t_shelf s1.toNatClampNeg s2), (upd t_shown l1.toNatClampNeg l2), t_refused), rfl, (Option.some.inj hm), by rw [ht]; exact hP, va_K.moved hW.alike hK, hD⟩, hS.F ht⟩) hS.2.2 dX6_show_56
  have B_32 : ∀ (l1 : Int32) (l2 : Int32) (t_shelf : Nat → Int32) (t_shown : Nat → Int32) (t_refused : Nat → Int32) (H : Heap) (locs : List Loc) (ls : Array Slot), b_X6_show_32 fu t t_L l1 l2 t_shelf t_shown t_refused = some out → va_P D CL [((am 0), e_X6 am tkv ttv t t_L), ((am 1), eI cA 8 t_shelf), ((am 14), eI cA 8 t_shown), ((am 16), eI cA 8 t_refused)] H → va_D A [((am 0), e_X6 am tkv ttv t t_L), ((am 1), eI cA 8 t_shelf), ((am 14), eI cA 8 t_shown), ((am 16), eI cA 8 t_refused)] → va_S A s.heap H locs → lv_has ls 3 [(0, .ref (am 0)), (1, .int l1), (2, .int l2)] → W p l e rm_X6_show s m args below meth c H locs 0 0 Q (F0 m 32 ls []) := by
    intro  l1 l2 t_shelf t_shown t_refused H locs ls hm hP hD hS hl
    unfold b_X6_show_32 at hm
    refine lv_aload_n hx hb dX6_show_32 rfl (lv_at hl 0 rfl) ?_
    refine va_get (D := D) (ci := 6) (v := .ref (am 1)) (C := RX6) (T := TX6) (N := 49) hx hb htg inX6 hown hK hP 0 rfl rfl 0 (by decide) (htg _ q_4_189) (fun _ h9 => h9) rfl dX6_show_33 ?_
    refine lv_iload_n hx hb dX6_show_36 rfl (lv_at hl 1 rfl) ?_
    refine lv_iload_n hx hb dX6_show_37 rfl (lv_at hl 2 rfl) ?_
    refine lv_iconst (v := (-1 : Int32)) hx hb dX6_show_38 (by decide) ?_
    refine lv_icmp_ne (tgt := 46) hx hb dX6_show_39 (by decide) (fun c5 => ?_) (fun c5 => ?_)
    · have hm := it_f c5 hm
      refine lv_iconst (v := (2 : Int32)) hx hb dX6_show_46 (by decide) ?_
      exact B_47 _ _ _ _ _ _ _ _ _ _ hm hP hD hS (lv_sub hl [0, 1, 2] rfl)
    · have hm := it_t c5 hm
      refine lv_iconst (v := (0 : Int32)) hx hb dX6_show_42 (by decide) ?_
      refine lv_goto (tgt := 47) hx hb dX6_show_43 (by decide) ?_
      exact B_47 _ _ _ _ _ _ _ _ _ _ hm hP hD hS (lv_sub hl [0, 1, 2] rfl)
  unfold m_X6_show at hm
  subst hargs
  have hl := lv_entry ([.ref (am 0), .int l1, .int l2]) (n := 3) (Nat.le_of_ble_eq_true rfl)
  rw [lg_entry_eq]
  generalize (lg_sl ([.ref (am 0), .int l1, .int l2]) ++ List.replicate (3 - (lg_sl ([.ref (am 0), .int l1, .int l2])).length) Slot.unset).toArray = ls at hl ⊢
  have hl : lv_has ls 3 [(0, .ref (am 0)), (1, .int l1), (2, .int l2)] := hl
  refine lv_iload_n hx hb dX6_show_0 rfl (lv_at hl 1 rfl) ?_
  refine lv_i2l hx hb dX6_show_1 rfl ?_
  refine lv_lconst (v := (0 : Int64)) hx hb dX6_show_2 (by decide) ?_
  refine lv_ldc2 (v := (7 : Int64)) hx hb hown (htg _ q_5_102) dX6_show_3 ?_
  obtain ⟨o6, ho7, hm⟩ := bd_s hm
  refine xr_i (wr := [((am 0), e_X6 am tkv ttv t t_L), ((am 1), eI cA 8 t_shelf), ((am 14), eI cA 8 t_shown), ((am 16), eI cA 8 t_refused)]) (wn := [((am 0), e_X6 am tkv ttv t t_L), ((am 1), eI cA 8 t_shelf), ((am 14), eI cA 8 t_shown), ((am 16), eI cA 8 t_refused)]) (va_runS (As := [.long l1.toInt64, .long (0 : Int64), .long (7 : Int64)]) (rest := []) ⟨hx, hb, hml, hown, htg⟩ (c_X6_in l D cA _ fu l1.toInt64 (0 : Int64) (7 : Int64) o6 ho7) (cwS 3 htg (gS q_5_103 q_5_104 q_1_8 q_5_105) rfl rfl rfl hd_X6_in ⟨Nat.le_of_ble_eq_true rfl, Nat.le_of_ble_eq_true rfl⟩) (xpS hN hK hP hD [] rfl (by decide)) rfl rfl hl.1 rfl (lv_room (Nat.le_of_ble_eq_true rfl)) dX6_show_6 ⟨Nat.zero_le _, Nat.zero_le _⟩) hP hD hS hA [] [0, 1, 2, 3] [0, 1, 2, 3] rfl rfl (by decide) (by decide) rfl (by decide) (fun H locs hP hD hS => ?_)
  refine lv_if_eq (tgt := 25) hx hb dX6_show_9 (by decide) (fun c8 => ?_) (fun c8 => ?_)
  · have hm := it_t c8 hm
    exact B_25 _ _ _ _ _ _ hm hP hD hS (lv_sub hl [0] rfl)
  · have hm := it_f c8 hm
    refine lv_iload_n hx hb dX6_show_12 rfl (lv_at hl 2 rfl) ?_
    refine lv_iconst (v := (-1 : Int32)) hx hb dX6_show_13 (by decide) ?_
    refine lv_icmp_eq (tgt := 32) hx hb dX6_show_14 (by decide) (fun c9 => ?_) (fun c9 => ?_)
    · have hm := it_t c9 hm
      exact B_32 _ _ _ _ _ _ _ _ hm hP hD hS (lv_sub hl [0, 1, 2] rfl)
    · have hm := it_f c9 hm
      refine lv_aload_n hx hb dX6_show_17 rfl (lv_at hl 0 rfl) ?_
      refine lv_iload_n hx hb dX6_show_18 rfl (lv_at hl 2 rfl) ?_
      obtain ⟨o10, ho11, hm⟩ := bd_s hm
      refine xr_i (wr := [((am 1), eI cA 8 t_shelf), ((am 14), eI cA 8 t_shown), ((am 16), eI cA 8 t_refused)]) (wn := [((am 0), e_X6 am tkv ttv t t_L), ((am 1), eI cA 8 t_shelf), ((am 14), eI cA 8 t_shown), ((am 16), eI cA 8 t_refused)]) (va_runV (As := [.int l2]) (rest := []) ⟨hx, hb, hml, hown, htg⟩ (c_X6_isVoice l D cA _ fu am tkv ttv t t_L l2 o10 ho11) (cwV 1 htg (gV q_5_139 q_5_141 q_p5_9 q_1_8 q_5_142) rfl rfl rfl hd_X6_isVoice ⟨Nat.le_of_ble_eq_true rfl, Nat.le_of_ble_eq_true rfl⟩) (xpV hN hK hP hD [0] rfl (by decide) rfl rfl) rfl rfl hl.1 rfl (lv_room (Nat.le_of_ble_eq_true rfl)) dX6_show_19 ⟨Nat.zero_le _, Nat.zero_le _⟩) hP hD hS hA [0] [1, 2, 3] [3, 0, 1, 2] rfl rfl (by decide) (by decide) rfl (by decide) (fun H locs hP hD hS => ?_)
      refine lv_if_ne (tgt := 32) hx hb dX6_show_22 (by decide) (fun c12 => ?_) (fun c12 => ?_)
      · have hm := it_f c12 hm
        exact B_32 _ _ _ _ _ _ _ _ hm hP hD hS (lv_sub hl [0, 1, 2] rfl)
      · have hm := it_t c12 hm
        exact B_25 _ _ _ _ _ _ hm hP hD hS (lv_sub hl [0] rfl)
def b_X6_isUnder_34 (fu : Nat) (s0 : Int32) : Option (Int32 × Unit) :=
  gd (bz s0) (some (s0, ()))
def b_X6_isUnder_29 (fu : Nat)  : Option (Int32 × Unit) :=
  b_X6_isUnder_34 fu (1 : Int32)
def b_X6_isUnder_33 (fu : Nat)  : Option (Int32 × Unit) :=
  b_X6_isUnder_34 fu (0 : Int32)
def b_X6_isUnder_19 (fu : Nat) (l0 : Int32) (l1 : Int32) : Option (Int32 × Unit) :=
  (if l1 = (2 : Int32) then
      (if l0 = (4 : Int32) then
        b_X6_isUnder_29 fu 
      else
        b_X6_isUnder_33 fu )
    else
      b_X6_isUnder_33 fu )
def m_X6_isUnder (fu : Nat) (l0 : Int32) (l1 : Int32) : Option (Int32 × Unit) :=
  (if l1 = 0 then
    b_X6_isUnder_29 fu 
  else
    (if l0 = l1 then
      b_X6_isUnder_29 fu 
    else
      (if l1 = (1 : Int32) then
        (if l0 = (3 : Int32) then
          b_X6_isUnder_29 fu 
        else
          b_X6_isUnder_19 fu l0 l1)
      else
        b_X6_isUnder_19 fu l0 l1)))
abbrev rm_X6_isUnder : Room := ({ frames := 0, cells := 0, slots := 0, locals := 0 } : Room)
abbrev w0_X6_isUnder (cA : Nat → ClassId)  : va_W := []
abbrev w1_X6_isUnder (cA : Nat → ClassId)  (u : Unit) : va_W := []
theorem hd_X6_isUnder : yX6_isUnder.cls = RX6 ∧ yX6_isUnder.cls ≠ "java/lang/invoke/MethodHandle" ∧ yX6_isUnder.cls ≠ "java/lang/invoke/VarHandle" ∧ (parseMethodDescriptor yX6_isUnder.desc).map (fun d => d.parameters.length) = some 2 := by decide +kernel
set_option maxHeartbeats 40000000 in
set_option maxRecDepth 100000 in
theorem c_X6_isUnder (l : Launch) (D : va_G) (cA : Nat → ClassId) (sz : Nat) (fu : Nat) (l0 : Int32) (l1 : Int32) (out : Int32 × Unit) (hm : m_X6_isUnder fu l0 l1 = some out) : MI l yX6_isUnder (wU yX6_isUnder cX6_isUnder 2 ((Option.some Jvm.ClassFile.FieldType.boolean))) rm_X6_isUnder D cA sz [.int l0, .int l1] (w0_X6_isUnder cA ) out (w1_X6_isUnder cA ) := by
  refine Met.ofW (cc := cX6_isUnder) (maxL := 2) (ret := (Option.some Jvm.ClassFile.FieldType.boolean)) (by decide) rfl ?_
  intro p e s m args below meth c s₁ B hml hv
  obtain ⟨hargs, hsz, hP, hK, hD0, hN⟩ := hv
  have hx := B.exec
  have hb := B.bytes
  have hr := B.returns
  have htg : ∀ w ∈ gw, w.before args s = true := fun w h => atoms_spec (ws := wU yX6_isUnder cX6_isUnder 2 ((Option.some Jvm.ClassFile.FieldType.boolean))) B.pre w (List.mem_cons_of_mem _ h)
  have hown : s.vm.findClass RX6 = some m.cls := findClass_of_methodNamed B.named
  have hlocks := B.notSynchronized
  subst hsz
  have hD := hD0.self (sz := s.heap.size)
  have hA : ∀ q : Nat, s.heap.size ≤ q → va_A (w0_X6_isUnder cA ) s.heap.size q := fun q h => Or.inr h
  have hS : va_S (va_A (w0_X6_isUnder cA ) s.heap.size) s.heap s.heap [] := va_S.rf
  generalize va_A (w0_X6_isUnder cA ) s.heap.size = A at hA hD hS ⊢
  obtain ⟨Q, hQ⟩ : ∃ Q : State → Prop, Q = MQ below (va_Qi (fun (r : Int32) (u : Unit) => (r, u) = out) (pst0 D cA A (w1_X6_isUnder cA )) A) args s 0 0 A := ⟨_, rfl⟩
  refine (?_ : W p l e rm_X6_isUnder s m args below meth c s.heap [] 0 0 (MQ below (va_Qi (fun (r : Int32) (u : Unit) => (r, u) = out) (pst0 D cA A (w1_X6_isUnder cA )) A) args s 0 0 A) (entryFrame m args 2))
  rw [← hQ]
  have hP : va_P D CL [] s.heap := hP
  have hD : va_D A [] := hD
  have B_34 : ∀ (s0 : Int32) (H : Heap) (locs : List Loc) (ls : Array Slot), b_X6_isUnder_34 fu s0 = some out → va_P D CL [] H → va_D A [] → va_S A s.heap H locs → lv_has ls 2 [] → W p l e rm_X6_isUnder s m args below meth c H locs 0 0 Q (F0 m 34 ls [.int s0]) := by
    intro  s0 H locs ls hm hP hD hS hl
    unfold b_X6_isUnder_34 at hm
    obtain ⟨hz1, hm⟩ := gd_s hm
    rw [hQ]
    exact W.zret (v := s0) hx hb hr (bz_nr hz1) (fun t9 ht hW => ⟨⟨s0, (), rfl, (Option.some.inj hm), by rw [ht]; exact hP, va_K.moved hW.alike hK, hD⟩, hS.F ht⟩) hS.2.2 dX6_isUnder_34
  have B_29 : ∀  (H : Heap) (locs : List Loc) (ls : Array Slot), b_X6_isUnder_29 fu  = some out → va_P D CL [] H → va_D A [] → va_S A s.heap H locs → lv_has ls 2 [] → W p l e rm_X6_isUnder s m args below meth c H locs 0 0 Q (F0 m 29 ls []) := by
    intro   H locs ls hm hP hD hS hl
    unfold b_X6_isUnder_29 at hm
    refine lv_iconst (v := (1 : Int32)) hx hb dX6_isUnder_29 (by decide) ?_
    refine lv_goto (tgt := 34) hx hb dX6_isUnder_30 (by decide) ?_
    exact B_34 _ _ _ _ hm hP hD hS (lv_sub hl [] rfl)
  have B_33 : ∀  (H : Heap) (locs : List Loc) (ls : Array Slot), b_X6_isUnder_33 fu  = some out → va_P D CL [] H → va_D A [] → va_S A s.heap H locs → lv_has ls 2 [] → W p l e rm_X6_isUnder s m args below meth c H locs 0 0 Q (F0 m 33 ls []) := by
    intro   H locs ls hm hP hD hS hl
    unfold b_X6_isUnder_33 at hm
    refine lv_iconst (v := (0 : Int32)) hx hb dX6_isUnder_33 (by decide) ?_
    exact B_34 _ _ _ _ hm hP hD hS (lv_sub hl [] rfl)
  have B_19 : ∀ (l0 : Int32) (l1 : Int32) (H : Heap) (locs : List Loc) (ls : Array Slot), b_X6_isUnder_19 fu l0 l1 = some out → va_P D CL [] H → va_D A [] → va_S A s.heap H locs → lv_has ls 2 [(0, .int l0), (1, .int l1)] → W p l e rm_X6_isUnder s m args below meth c H locs 0 0 Q (F0 m 19 ls []) := by
    intro  l0 l1 H locs ls hm hP hD hS hl
    unfold b_X6_isUnder_19 at hm
    refine lv_iload_n hx hb dX6_isUnder_19 rfl (lv_at hl 1 rfl) ?_
    refine lv_iconst (v := (2 : Int32)) hx hb dX6_isUnder_20 (by decide) ?_
    refine lv_icmp_ne (tgt := 33) hx hb dX6_isUnder_21 (by decide) (fun c2 => ?_) (fun c2 => ?_)
    · have hm := it_f c2 hm
      exact B_33  _ _ _ hm hP hD hS (lv_sub hl [] rfl)
    · have hm := it_t c2 hm
      refine lv_iload_n hx hb dX6_isUnder_24 rfl (lv_at hl 0 rfl) ?_
      refine lv_iconst (v := (4 : Int32)) hx hb dX6_isUnder_25 (by decide) ?_
      refine lv_icmp_ne (tgt := 33) hx hb dX6_isUnder_26 (by decide) (fun c3 => ?_) (fun c3 => ?_)
      · have hm := it_f c3 hm
        exact B_33  _ _ _ hm hP hD hS (lv_sub hl [] rfl)
      · have hm := it_t c3 hm
        exact B_29  _ _ _ hm hP hD hS (lv_sub hl [] rfl)
  unfold m_X6_isUnder at hm
  subst hargs
  have hl := lv_entry ([.int l0, .int l1]) (n := 2) (Nat.le_of_ble_eq_true rfl)
  rw [lg_entry_eq]
  generalize (lg_sl ([.int l0, .int l1]) ++ List.replicate (2 - (lg_sl ([.int l0, .int l1])).length) Slot.unset).toArray = ls at hl ⊢
  have hl : lv_has ls 2 [(0, .int l0), (1, .int l1)] := hl
  refine lv_iload_n hx hb dX6_isUnder_0 rfl (lv_at hl 1 rfl) ?_
  refine lv_if_eq (tgt := 29) hx hb dX6_isUnder_1 (by decide) (fun c4 => ?_) (fun c4 => ?_)
  · have hm := it_t c4 hm
    exact B_29  _ _ _ hm hP hD hS (lv_sub hl [] rfl)
  · have hm := it_f c4 hm
    refine lv_iload_n hx hb dX6_isUnder_4 rfl (lv_at hl 0 rfl) ?_
    refine lv_iload_n hx hb dX6_isUnder_5 rfl (lv_at hl 1 rfl) ?_
    refine lv_icmp_eq (tgt := 29) hx hb dX6_isUnder_6 (by decide) (fun c5 => ?_) (fun c5 => ?_)
    · have hm := it_t c5 hm
      exact B_29  _ _ _ hm hP hD hS (lv_sub hl [] rfl)
    · have hm := it_f c5 hm
      refine lv_iload_n hx hb dX6_isUnder_9 rfl (lv_at hl 1 rfl) ?_
      refine lv_iconst (v := (1 : Int32)) hx hb dX6_isUnder_10 (by decide) ?_
      refine lv_icmp_ne (tgt := 19) hx hb dX6_isUnder_11 (by decide) (fun c6 => ?_) (fun c6 => ?_)
      · have hm := it_f c6 hm
        exact B_19 _ _ _ _ _ hm hP hD hS (lv_sub hl [0, 1] rfl)
      · have hm := it_t c6 hm
        refine lv_iload_n hx hb dX6_isUnder_14 rfl (lv_at hl 0 rfl) ?_
        refine lv_iconst (v := (3 : Int32)) hx hb dX6_isUnder_15 (by decide) ?_
        refine lv_icmp_eq (tgt := 29) hx hb dX6_isUnder_16 (by decide) (fun c7 => ?_) (fun c7 => ?_)
        · have hm := it_t c7 hm
          exact B_29  _ _ _ hm hP hD hS (lv_sub hl [] rfl)
        · have hm := it_f c7 hm
          exact B_19 _ _ _ _ _ hm hP hD hS (lv_sub hl [0, 1] rfl)
def b_X6_pitchOf_33 (fu : Nat) (t : Nat → Int32) (t_L : Nat → Int64) (t_kind : Nat → Int32) (t_pitch : Nat → Int32) (s0 : Int32) : Option (Int32 × Unit) :=
  some (s0, ())
def m_X6_pitchOf (fu : Nat) (t : Nat → Int32) (t_L : Nat → Int64) (t_kind : Nat → Int32) (t_pitch : Nat → Int32) (l1 : Int32) : Option (Int32 × Unit) :=
  gd (inb l1 8) (
  (if (t_kind l1.toNatClampNeg) = (5 : Int32) then
    gd (inb l1 8) (
    b_X6_pitchOf_33 fu t t_L t_kind t_pitch ((t_pitch l1.toNatClampNeg) + (t 11 / (10 : Int32))))
  else
    gd (inb l1 8) (
    b_X6_pitchOf_33 fu t t_L t_kind t_pitch (t_pitch l1.toNatClampNeg))))
abbrev rm_X6_pitchOf : Room := ({ frames := 0, cells := 0, slots := 0, locals := 0 } : Room)
abbrev w0_X6_pitchOf (cA : Nat → ClassId) (am : Nat → Nat) (tkv : Value) (ttv : Value) (t : Nat → Int32) (t_L : Nat → Int64) (t_kind : Nat → Int32) (t_pitch : Nat → Int32) : va_W := [((am 0), e_X6 am tkv ttv t t_L), ((am 17), eI cA 8 t_kind), ((am 19), eI cA 8 t_pitch)]
abbrev w1_X6_pitchOf (cA : Nat → ClassId) (am : Nat → Nat) (tkv : Value) (ttv : Value) (t : Nat → Int32) (t_L : Nat → Int64) (t_kind : Nat → Int32) (t_pitch : Nat → Int32) (u : Unit) : va_W := [((am 0), e_X6 am tkv ttv t t_L), ((am 17), eI cA 8 t_kind), ((am 19), eI cA 8 t_pitch)]
theorem hd_X6_pitchOf : yX6_pitchOf.cls = RX6 ∧ yX6_pitchOf.cls ≠ "java/lang/invoke/MethodHandle" ∧ yX6_pitchOf.cls ≠ "java/lang/invoke/VarHandle" ∧ (parseMethodDescriptor yX6_pitchOf.desc).map (fun d => d.parameters.length) = some 1 := by decide +kernel
set_option maxHeartbeats 40000000 in
set_option maxRecDepth 100000 in
theorem c_X6_pitchOf (l : Launch) (D : va_G) (cA : Nat → ClassId) (sz : Nat) (fu : Nat) (am : Nat → Nat) (tkv : Value) (ttv : Value) (t : Nat → Int32) (t_L : Nat → Int64) (t_kind : Nat → Int32) (t_pitch : Nat → Int32) (l1 : Int32) (out : Int32 × Unit) (hm : m_X6_pitchOf fu t t_L t_kind t_pitch l1 = some out) : MI l yX6_pitchOf (wU yX6_pitchOf cX6_pitchOf 2 ((Option.some Jvm.ClassFile.FieldType.int))) rm_X6_pitchOf D cA sz [.ref (am 0), .int l1] (w0_X6_pitchOf cA am tkv ttv t t_L t_kind t_pitch) out (w1_X6_pitchOf cA am tkv ttv t t_L t_kind t_pitch) := by
  refine Met.ofW (cc := cX6_pitchOf) (maxL := 2) (ret := (Option.some Jvm.ClassFile.FieldType.int)) (by decide) rfl ?_
  intro p e s m args below meth c s₁ B hml hv
  obtain ⟨hargs, hsz, hP, hK, hD0, hN⟩ := hv
  have hx := B.exec
  have hb := B.bytes
  have hr := B.returns
  have htg : ∀ w ∈ gw, w.before args s = true := fun w h => atoms_spec (ws := wU yX6_pitchOf cX6_pitchOf 2 ((Option.some Jvm.ClassFile.FieldType.int))) B.pre w (List.mem_cons_of_mem _ h)
  have hown : s.vm.findClass RX6 = some m.cls := findClass_of_methodNamed B.named
  have hlocks := B.notSynchronized
  subst hsz
  have hD := hD0.self (sz := s.heap.size)
  have hA : ∀ q : Nat, s.heap.size ≤ q → va_A (w0_X6_pitchOf cA am tkv ttv t t_L t_kind t_pitch) s.heap.size q := fun q h => Or.inr h
  have hS : va_S (va_A (w0_X6_pitchOf cA am tkv ttv t t_L t_kind t_pitch) s.heap.size) s.heap s.heap [] := va_S.rf
  generalize va_A (w0_X6_pitchOf cA am tkv ttv t t_L t_kind t_pitch) s.heap.size = A at hA hD hS ⊢
  obtain ⟨Q, hQ⟩ : ∃ Q : State → Prop, Q = MQ below (va_Qi (fun (r : Int32) (u : Unit) => (r, u) = out) (pst0 D cA A (w1_X6_pitchOf cA am tkv ttv t t_L t_kind t_pitch)) A) args s 0 0 A := ⟨_, rfl⟩
  refine (?_ : W p l e rm_X6_pitchOf s m args below meth c s.heap [] 0 0 (MQ below (va_Qi (fun (r : Int32) (u : Unit) => (r, u) = out) (pst0 D cA A (w1_X6_pitchOf cA am tkv ttv t t_L t_kind t_pitch)) A) args s 0 0 A) (entryFrame m args 2))
  rw [← hQ]
  have hP : va_P D CL [((am 0), e_X6 am tkv ttv t t_L), ((am 17), eI cA 8 t_kind), ((am 19), eI cA 8 t_pitch)] s.heap := hP
  have hD : va_D A [((am 0), e_X6 am tkv ttv t t_L), ((am 17), eI cA 8 t_kind), ((am 19), eI cA 8 t_pitch)] := hD
  have B_33 : ∀ (s0 : Int32) (H : Heap) (locs : List Loc) (ls : Array Slot), b_X6_pitchOf_33 fu t t_L t_kind t_pitch s0 = some out → va_P D CL [((am 0), e_X6 am tkv ttv t t_L), ((am 17), eI cA 8 t_kind), ((am 19), eI cA 8 t_pitch)] H → va_D A [((am 0), e_X6 am tkv ttv t t_L), ((am 17), eI cA 8 t_kind), ((am 19), eI cA 8 t_pitch)] → va_S A s.heap H locs → lv_has ls 2 [(0, .ref (am 0))] → W p l e rm_X6_pitchOf s m args below meth c H locs 0 0 Q (F0 m 33 ls [.int s0]) := by
    intro  s0 H locs ls hm hP hD hS hl
    unfold b_X6_pitchOf_33 at hm
    rw [hQ]
    exact W.iret (v := s0) hx hb hr (fun t9 ht hW => ⟨⟨s0, (), rfl, (Option.some.inj hm), by rw [ht]; exact hP, va_K.moved hW.alike hK, hD⟩, hS.F ht⟩) hS.2.2 dX6_pitchOf_33
  unfold m_X6_pitchOf at hm
  subst hargs
  have hl := lv_entry ([.ref (am 0), .int l1]) (n := 2) (Nat.le_of_ble_eq_true rfl)
  rw [lg_entry_eq]
  generalize (lg_sl ([.ref (am 0), .int l1]) ++ List.replicate (2 - (lg_sl ([.ref (am 0), .int l1])).length) Slot.unset).toArray = ls at hl ⊢
  have hl : lv_has ls 2 [(0, .ref (am 0)), (1, .int l1)] := hl
  refine lv_aload_n hx hb dX6_pitchOf_0 rfl (lv_at hl 0 rfl) ?_
  refine va_get (D := D) (ci := 6) (v := .ref (am 17)) (C := RX6) (T := TX6) (N := 49) hx hb htg inX6 hown hK hP 0 rfl rfl 17 (by decide) (htg _ q_4_206) (fun _ h9 => h9) rfl dX6_pitchOf_1 ?_
  refine lv_iload_n hx hb dX6_pitchOf_4 rfl (lv_at hl 1 rfl) ?_
  obtain ⟨hi1, hm⟩ := gd_s hm
  refine va_iald hx hb hK hP 1 0 rfl rfl hi1 dX6_pitchOf_5 ?_
  refine lv_iconst (v := (5 : Int32)) hx hb dX6_pitchOf_6 (by decide) ?_
  refine lv_icmp_ne (tgt := 27) hx hb dX6_pitchOf_7 (by decide) (fun c2 => ?_) (fun c2 => ?_)
  · have hm := it_f c2 hm
    refine lv_aload_n hx hb dX6_pitchOf_27 rfl (lv_at hl 0 rfl) ?_
    refine va_get (D := D) (ci := 6) (v := .ref (am 19)) (C := RX6) (T := TX6) (N := 49) hx hb htg inX6 hown hK hP 0 rfl rfl 19 (by decide) (htg _ q_4_208) (fun _ h9 => h9) rfl dX6_pitchOf_28 ?_
    refine lv_iload_n hx hb dX6_pitchOf_31 rfl (lv_at hl 1 rfl) ?_
    obtain ⟨hi3, hm⟩ := gd_s hm
    refine va_iald hx hb hK hP 2 0 rfl rfl hi3 dX6_pitchOf_32 ?_
    exact B_33 _ _ _ _ hm hP hD hS (lv_sub hl [0] rfl)
  · have hm := it_t c2 hm
    refine lv_aload_n hx hb dX6_pitchOf_10 rfl (lv_at hl 0 rfl) ?_
    refine va_get (D := D) (ci := 6) (v := .ref (am 19)) (C := RX6) (T := TX6) (N := 49) hx hb htg inX6 hown hK hP 0 rfl rfl 19 (by decide) (htg _ q_4_208) (fun _ h9 => h9) rfl dX6_pitchOf_11 ?_
    refine lv_iload_n hx hb dX6_pitchOf_14 rfl (lv_at hl 1 rfl) ?_
    obtain ⟨hi4, hm⟩ := gd_s hm
    refine va_iald hx hb hK hP 2 0 rfl rfl hi4 dX6_pitchOf_15 ?_
    refine lv_aload_n hx hb dX6_pitchOf_16 rfl (lv_at hl 0 rfl) ?_
    refine va_get (D := D) (ci := 6) (v := .int (t 11)) (C := RX6) (T := TX6) (N := 49) hx hb htg inX6 hown hK hP 0 rfl rfl 11 (by decide) (htg _ q_4_200) (fun _ h9 => h9) rfl dX6_pitchOf_17 ?_
    refine lv_bipush (v := (10 : Int32)) hx hb dX6_pitchOf_20 (by decide) ?_
    refine lv_idiv hx hb dX6_pitchOf_22 (by decide) ?_
    refine lv_iadd hx hb dX6_pitchOf_23 ?_
    refine lv_goto (tgt := 33) hx hb dX6_pitchOf_24 (by decide) ?_
    exact B_33 _ _ _ _ hm hP hD hS (lv_sub hl [0] rfl)
def b_X6_comesBack_67 (fu : Nat) (t : Nat → Int32) (t_L : Nat → Int64) (t_kind : Nat → Int32) (t_pitch : Nat → Int32) (l1 : Int32) (l2 : Int32) (s0 : Int32) : Option (Int32 × Unit) :=
  (m_X6_pitchOf fu t t_L t_kind t_pitch l1).bind fun o1 =>
    some (((l2 + (((s0 + o1.1) / (3 : Int32)) * ((1 : Int32) + (l2 - l2 / (3 : Int32) * (3 : Int32))))) - (l2 + (((s0 + o1.1) / (3 : Int32)) * ((1 : Int32) + (l2 - l2 / (3 : Int32) * (3 : Int32))))) / (40 : Int32) * (40 : Int32)), ())
def b_X6_comesBack_44 (fu : Nat) (t : Nat → Int32) (t_L : Nat → Int64) (t_kind : Nat → Int32) (t_pitch : Nat → Int32) (l1 : Int32) (l2 : Int32) : Option (Int32 × Unit) :=
  gd (inb l1 8) (
    (if (t_kind l1.toNatClampNeg) = (3 : Int32) then
      b_X6_comesBack_67 fu t t_L t_kind t_pitch l1 l2 (t 9 / (2 : Int32))
    else
      b_X6_comesBack_67 fu t t_L t_kind t_pitch l1 l2 (t 9)))
def b_X6_comesBack_25 (fu : Nat) (t : Nat → Int32) (t_L : Nat → Int64) (t_kind : Nat → Int32) (t_pitch : Nat → Int32) (l1 : Int32) (l2 : Int32) (s0 : Int32) : Option (Int32 × Unit) :=
  (if s0 = 0 then
      (if ((l2 + t 9) - (l2 + t 9) / (7 : Int32) * (7 : Int32)) = 0 then
        some ((-1 : Int32), ())
      else
        b_X6_comesBack_44 fu t t_L t_kind t_pitch l1 l2)
    else
      b_X6_comesBack_44 fu t t_L t_kind t_pitch l1 l2)
def b_X6_comesBack_20 (fu : Nat) (t : Nat → Int32) (t_L : Nat → Int64) (t_kind : Nat → Int32) (t_pitch : Nat → Int32) (l1 : Int32) (l2 : Int32) : Option (Int32 × Unit) :=
  b_X6_comesBack_25 fu t t_L t_kind t_pitch l1 l2 (1 : Int32)
def m_X6_comesBack (fu : Nat) (t : Nat → Int32) (t_L : Nat → Int64) (t_kind : Nat → Int32) (t_pitch : Nat → Int32) (l1 : Int32) (l2 : Int32) : Option (Int32 × Unit) :=
  gd (inb l1 8) (
  (if (t_kind l1.toNatClampNeg) = (1 : Int32) then
    b_X6_comesBack_20 fu t t_L t_kind t_pitch l1 l2
  else
    gd (inb l1 8) (
    (if (t_kind l1.toNatClampNeg) = (3 : Int32) then
      b_X6_comesBack_20 fu t t_L t_kind t_pitch l1 l2
    else
      b_X6_comesBack_25 fu t t_L t_kind t_pitch l1 l2 (0 : Int32)))))
abbrev rm_X6_comesBack : Room := ({ frames := 1, cells := 0, slots := 0, locals := 21 } : Room)
abbrev w0_X6_comesBack (cA : Nat → ClassId) (am : Nat → Nat) (tkv : Value) (ttv : Value) (t : Nat → Int32) (t_L : Nat → Int64) (t_kind : Nat → Int32) (t_pitch : Nat → Int32) : va_W := [((am 0), e_X6 am tkv ttv t t_L), ((am 17), eI cA 8 t_kind), ((am 19), eI cA 8 t_pitch)]
abbrev w1_X6_comesBack (cA : Nat → ClassId) (am : Nat → Nat) (tkv : Value) (ttv : Value) (t : Nat → Int32) (t_L : Nat → Int64) (t_kind : Nat → Int32) (t_pitch : Nat → Int32) (u : Unit) : va_W := [((am 0), e_X6 am tkv ttv t t_L), ((am 17), eI cA 8 t_kind), ((am 19), eI cA 8 t_pitch)]
theorem hd_X6_comesBack : yX6_comesBack.cls = RX6 ∧ yX6_comesBack.cls ≠ "java/lang/invoke/MethodHandle" ∧ yX6_comesBack.cls ≠ "java/lang/invoke/VarHandle" ∧ (parseMethodDescriptor yX6_comesBack.desc).map (fun d => d.parameters.length) = some 2 := by decide +kernel
set_option maxHeartbeats 40000000 in
set_option maxRecDepth 100000 in
theorem c_X6_comesBack (l : Launch) (D : va_G) (cA : Nat → ClassId) (sz : Nat) (fu : Nat) (am : Nat → Nat) (tkv : Value) (ttv : Value) (t : Nat → Int32) (t_L : Nat → Int64) (t_kind : Nat → Int32) (t_pitch : Nat → Int32) (l1 : Int32) (l2 : Int32) (out : Int32 × Unit) (hm : m_X6_comesBack fu t t_L t_kind t_pitch l1 l2 = some out) : MI l yX6_comesBack (wU yX6_comesBack cX6_comesBack 5 ((Option.some Jvm.ClassFile.FieldType.int))) rm_X6_comesBack D cA sz [.ref (am 0), .int l1, .int l2] (w0_X6_comesBack cA am tkv ttv t t_L t_kind t_pitch) out (w1_X6_comesBack cA am tkv ttv t t_L t_kind t_pitch) := by
  refine Met.ofW (cc := cX6_comesBack) (maxL := 5) (ret := (Option.some Jvm.ClassFile.FieldType.int)) (by decide) rfl ?_
  intro p e s m args below meth c s₁ B hml hv
  obtain ⟨hargs, hsz, hP, hK, hD0, hN⟩ := hv
  have hx := B.exec
  have hb := B.bytes
  have hr := B.returns
  have htg : ∀ w ∈ gw, w.before args s = true := fun w h => atoms_spec (ws := wU yX6_comesBack cX6_comesBack 5 ((Option.some Jvm.ClassFile.FieldType.int))) B.pre w (List.mem_cons_of_mem _ h)
  have hown : s.vm.findClass RX6 = some m.cls := findClass_of_methodNamed B.named
  have hlocks := B.notSynchronized
  subst hsz
  have hD := hD0.self (sz := s.heap.size)
  have hA : ∀ q : Nat, s.heap.size ≤ q → va_A (w0_X6_comesBack cA am tkv ttv t t_L t_kind t_pitch) s.heap.size q := fun q h => Or.inr h
  have hS : va_S (va_A (w0_X6_comesBack cA am tkv ttv t t_L t_kind t_pitch) s.heap.size) s.heap s.heap [] := va_S.rf
  generalize va_A (w0_X6_comesBack cA am tkv ttv t t_L t_kind t_pitch) s.heap.size = A at hA hD hS ⊢
  obtain ⟨Q, hQ⟩ : ∃ Q : State → Prop, Q = MQ below (va_Qi (fun (r : Int32) (u : Unit) => (r, u) = out) (pst0 D cA A (w1_X6_comesBack cA am tkv ttv t t_L t_kind t_pitch)) A) args s 0 0 A := ⟨_, rfl⟩
  refine (?_ : W p l e rm_X6_comesBack s m args below meth c s.heap [] 0 0 (MQ below (va_Qi (fun (r : Int32) (u : Unit) => (r, u) = out) (pst0 D cA A (w1_X6_comesBack cA am tkv ttv t t_L t_kind t_pitch)) A) args s 0 0 A) (entryFrame m args 5))
  rw [← hQ]
  have hP : va_P D CL [((am 0), e_X6 am tkv ttv t t_L), ((am 17), eI cA 8 t_kind), ((am 19), eI cA 8 t_pitch)] s.heap := hP
  have hD : va_D A [((am 0), e_X6 am tkv ttv t t_L), ((am 17), eI cA 8 t_kind), ((am 19), eI cA 8 t_pitch)] := hD
  have B_67 : ∀ (l1 : Int32) (l2 : Int32) (s0 : Int32) (H : Heap) (locs : List Loc) (ls : Array Slot), b_X6_comesBack_67 fu t t_L t_kind t_pitch l1 l2 s0 = some out → va_P D CL [((am 0), e_X6 am tkv ttv t t_L), ((am 17), eI cA 8 t_kind), ((am 19), eI cA 8 t_pitch)] H → va_D A [((am 0), e_X6 am tkv ttv t t_L), ((am 17), eI cA 8 t_kind), ((am 19), eI cA 8 t_pitch)] → va_S A s.heap H locs → lv_has ls 5 [(0, .ref (am 0)), (1, .int l1), (2, .int l2)] → W p l e rm_X6_comesBack s m args below meth c H locs 0 0 Q (F0 m 67 ls [.int s0]) := by
    intro  l1 l2 s0 H locs ls hm hP hD hS hl
    unfold b_X6_comesBack_67 at hm
    refine lv_istore (lv' := [(4, .int s0), (0, .ref (am 0)), (1, .int l1), (2, .int l2)]) hx hb dX6_comesBack_67 hl (by decide) rfl (fun ls hl => ?_)
    refine lv_iload_n hx hb dX6_comesBack_69 rfl (lv_at hl 3 rfl) ?_
    refine lv_iload hx hb dX6_comesBack_70 (lv_at hl 0 rfl) ?_
    refine lv_aload_n hx hb dX6_comesBack_72 rfl (lv_at hl 1 rfl) ?_
    refine lv_iload_n hx hb dX6_comesBack_73 rfl (lv_at hl 2 rfl) ?_
    obtain ⟨o1, ho2, hm⟩ := bd_s hm
    refine xr_i (wr := []) (wn := [((am 0), e_X6 am tkv ttv t t_L), ((am 17), eI cA 8 t_kind), ((am 19), eI cA 8 t_pitch)]) (va_runV (As := [.int l1]) (rest := [.int s0, .int l2]) ⟨hx, hb, hml, hown, htg⟩ (c_X6_pitchOf l D cA _ fu am tkv ttv t t_L t_kind t_pitch l1 o1 ho2) (cwV 1 htg (gV q_5_163 q_5_165 q_p5_13 q_1_8 q_5_166) rfl rfl rfl hd_X6_pitchOf ⟨Nat.le_of_ble_eq_true rfl, Nat.le_of_ble_eq_true rfl⟩) (xpV hN hK hP hD [0, 1, 2] rfl (by decide) rfl rfl) rfl rfl hl.1 rfl (lv_room (Nat.le_of_ble_eq_true rfl)) dX6_comesBack_74 ⟨Nat.zero_le _, Nat.zero_le _⟩) hP hD hS hA [0, 1, 2] [] [0, 1, 2] rfl rfl (by decide) (by decide) rfl (by decide) (fun H locs hP hD hS => ?_)
    refine lv_iadd hx hb dX6_comesBack_77 ?_
    refine lv_iconst (v := (3 : Int32)) hx hb dX6_comesBack_78 (by decide) ?_
    refine lv_idiv hx hb dX6_comesBack_79 (by decide) ?_
    refine lv_iconst (v := (1 : Int32)) hx hb dX6_comesBack_80 (by decide) ?_
    refine lv_iload_n hx hb dX6_comesBack_81 rfl (lv_at hl 3 rfl) ?_
    refine lv_iconst (v := (3 : Int32)) hx hb dX6_comesBack_82 (by decide) ?_
    refine lv_irem hx hb dX6_comesBack_83 (by decide) ?_
    refine lv_iadd hx hb dX6_comesBack_84 ?_
    refine lv_imul hx hb dX6_comesBack_85 ?_
    refine lv_iadd hx hb dX6_comesBack_86 ?_
    refine lv_bipush (v := (40 : Int32)) hx hb dX6_comesBack_87 (by decide) ?_
    refine lv_irem hx hb dX6_comesBack_89 (by decide) ?_
    rw [hQ]
    exact W.iret (v := ((l2 + (((s0 + o1.1) / (3 : Int32)) * ((1 : Int32) + (l2 - l2 / (3 : Int32) * (3 : Int32))))) - (l2 + (((s0 + o1.1) / (3 : Int32)) * ((1 : Int32) + (l2 - l2 / (3 : Int32) * (3 : Int32))))) / (40 : Int32) * (40 : Int32))) hx hb hr (fun t9 ht hW => ⟨⟨((l2 + (((s0 + o1.1) / (3 : Int32)) * ((1 : Int32) + (l2 - l2 / (3 : Int32) * (3 : Int32))))) - (l2 + (((s0 + o1.1) / (3 : Int32)) * ((1 : Int32) + (l2 - l2 / (3 : Int32) * (3 : Int32))))) / (40 : Int32) * (40 : Int32)), (), rfl, (Option.some.inj hm), by rw [ht]; exact hP, va_K.moved hW.alike hK, hD⟩, hS.F ht⟩) hS.2.2 dX6_comesBack_90
  have B_44 : ∀ (l1 : Int32) (l2 : Int32) (H : Heap) (locs : List Loc) (ls : Array Slot), b_X6_comesBack_44 fu t t_L t_kind t_pitch l1 l2 = some out → va_P D CL [((am 0), e_X6 am tkv ttv t t_L), ((am 17), eI cA 8 t_kind), ((am 19), eI cA 8 t_pitch)] H → va_D A [((am 0), e_X6 am tkv ttv t t_L), ((am 17), eI cA 8 t_kind), ((am 19), eI cA 8 t_pitch)] → va_S A s.heap H locs → lv_has ls 5 [(0, .ref (am 0)), (1, .int l1), (2, .int l2)] → W p l e rm_X6_comesBack s m args below meth c H locs 0 0 Q (F0 m 44 ls []) := by
    intro  l1 l2 H locs ls hm hP hD hS hl
    unfold b_X6_comesBack_44 at hm
    refine lv_aload_n hx hb dX6_comesBack_44 rfl (lv_at hl 0 rfl) ?_
    refine va_get (D := D) (ci := 6) (v := .ref (am 17)) (C := RX6) (T := TX6) (N := 49) hx hb htg inX6 hown hK hP 0 rfl rfl 17 (by decide) (htg _ q_4_206) (fun _ h9 => h9) rfl dX6_comesBack_45 ?_
    refine lv_iload_n hx hb dX6_comesBack_48 rfl (lv_at hl 1 rfl) ?_
    obtain ⟨hi6, hm⟩ := gd_s hm
    refine va_iald hx hb hK hP 1 0 rfl rfl hi6 dX6_comesBack_49 ?_
    refine lv_iconst (v := (3 : Int32)) hx hb dX6_comesBack_50 (by decide) ?_
    refine lv_icmp_ne (tgt := 63) hx hb dX6_comesBack_51 (by decide) (fun c7 => ?_) (fun c7 => ?_)
    · have hm := it_f c7 hm
      refine lv_aload_n hx hb dX6_comesBack_63 rfl (lv_at hl 0 rfl) ?_
      refine va_get (D := D) (ci := 6) (v := .int (t 9)) (C := RX6) (T := TX6) (N := 49) hx hb htg inX6 hown hK hP 0 rfl rfl 9 (by decide) (htg _ q_4_198) (fun _ h9 => h9) rfl dX6_comesBack_64 ?_
      exact B_67 _ _ _ _ _ _ hm hP hD hS (lv_sub hl [0, 1, 2] rfl)
    · have hm := it_t c7 hm
      refine lv_aload_n hx hb dX6_comesBack_54 rfl (lv_at hl 0 rfl) ?_
      refine va_get (D := D) (ci := 6) (v := .int (t 9)) (C := RX6) (T := TX6) (N := 49) hx hb htg inX6 hown hK hP 0 rfl rfl 9 (by decide) (htg _ q_4_198) (fun _ h9 => h9) rfl dX6_comesBack_55 ?_
      refine lv_iconst (v := (2 : Int32)) hx hb dX6_comesBack_58 (by decide) ?_
      refine lv_idiv hx hb dX6_comesBack_59 (by decide) ?_
      refine lv_goto (tgt := 67) hx hb dX6_comesBack_60 (by decide) ?_
      exact B_67 _ _ _ _ _ _ hm hP hD hS (lv_sub hl [0, 1, 2] rfl)
  have B_25 : ∀ (l1 : Int32) (l2 : Int32) (s0 : Int32) (H : Heap) (locs : List Loc) (ls : Array Slot), b_X6_comesBack_25 fu t t_L t_kind t_pitch l1 l2 s0 = some out → va_P D CL [((am 0), e_X6 am tkv ttv t t_L), ((am 17), eI cA 8 t_kind), ((am 19), eI cA 8 t_pitch)] H → va_D A [((am 0), e_X6 am tkv ttv t t_L), ((am 17), eI cA 8 t_kind), ((am 19), eI cA 8 t_pitch)] → va_S A s.heap H locs → lv_has ls 5 [(0, .ref (am 0)), (1, .int l1), (2, .int l2)] → W p l e rm_X6_comesBack s m args below meth c H locs 0 0 Q (F0 m 25 ls [.int s0]) := by
    intro  l1 l2 s0 H locs ls hm hP hD hS hl
    unfold b_X6_comesBack_25 at hm
    refine lv_istore_n (lv' := [(3, .int s0), (0, .ref (am 0)), (1, .int l1), (2, .int l2)]) hx hb dX6_comesBack_25 rfl hl (by decide) rfl (fun ls hl => ?_)
    refine lv_iload_n hx hb dX6_comesBack_26 rfl (lv_at hl 0 rfl) ?_
    refine lv_if_ne (tgt := 44) hx hb dX6_comesBack_27 (by decide) (fun c9 => ?_) (fun c9 => ?_)
    · have hm := it_f c9 hm
      exact B_44 _ _ _ _ _ hm hP hD hS (lv_sub hl [1, 2, 3] rfl)
    · have hm := it_t c9 hm
      refine lv_iload_n hx hb dX6_comesBack_30 rfl (lv_at hl 3 rfl) ?_
      refine lv_aload_n hx hb dX6_comesBack_31 rfl (lv_at hl 1 rfl) ?_
      refine va_get (D := D) (ci := 6) (v := .int (t 9)) (C := RX6) (T := TX6) (N := 49) hx hb htg inX6 hown hK hP 0 rfl rfl 9 (by decide) (htg _ q_4_198) (fun _ h9 => h9) rfl dX6_comesBack_32 ?_
      refine lv_iadd hx hb dX6_comesBack_35 ?_
      refine lv_bipush (v := (7 : Int32)) hx hb dX6_comesBack_36 (by decide) ?_
      refine lv_irem hx hb dX6_comesBack_38 (by decide) ?_
      refine lv_if_ne (tgt := 44) hx hb dX6_comesBack_39 (by decide) (fun c11 => ?_) (fun c11 => ?_)
      · have hm := it_f c11 hm
        exact B_44 _ _ _ _ _ hm hP hD hS (lv_sub hl [1, 2, 3] rfl)
      · have hm := it_t c11 hm
        refine lv_iconst (v := (-1 : Int32)) hx hb dX6_comesBack_42 (by decide) ?_
        rw [hQ]
        exact W.iret (v := (-1 : Int32)) hx hb hr (fun t9 ht hW => ⟨⟨(-1 : Int32), (), rfl, (Option.some.inj hm), by rw [ht]; exact hP, va_K.moved hW.alike hK, hD⟩, hS.F ht⟩) hS.2.2 dX6_comesBack_43
  have B_20 : ∀ (l1 : Int32) (l2 : Int32) (H : Heap) (locs : List Loc) (ls : Array Slot), b_X6_comesBack_20 fu t t_L t_kind t_pitch l1 l2 = some out → va_P D CL [((am 0), e_X6 am tkv ttv t t_L), ((am 17), eI cA 8 t_kind), ((am 19), eI cA 8 t_pitch)] H → va_D A [((am 0), e_X6 am tkv ttv t t_L), ((am 17), eI cA 8 t_kind), ((am 19), eI cA 8 t_pitch)] → va_S A s.heap H locs → lv_has ls 5 [(0, .ref (am 0)), (1, .int l1), (2, .int l2)] → W p l e rm_X6_comesBack s m args below meth c H locs 0 0 Q (F0 m 20 ls []) := by
    intro  l1 l2 H locs ls hm hP hD hS hl
    unfold b_X6_comesBack_20 at hm
    refine lv_iconst (v := (1 : Int32)) hx hb dX6_comesBack_20 (by decide) ?_
    refine lv_goto (tgt := 25) hx hb dX6_comesBack_21 (by decide) ?_
    exact B_25 _ _ _ _ _ _ hm hP hD hS (lv_sub hl [0, 1, 2] rfl)
  unfold m_X6_comesBack at hm
  subst hargs
  have hl := lv_entry ([.ref (am 0), .int l1, .int l2]) (n := 5) (Nat.le_of_ble_eq_true rfl)
  rw [lg_entry_eq]
  generalize (lg_sl ([.ref (am 0), .int l1, .int l2]) ++ List.replicate (5 - (lg_sl ([.ref (am 0), .int l1, .int l2])).length) Slot.unset).toArray = ls at hl ⊢
  have hl : lv_has ls 5 [(0, .ref (am 0)), (1, .int l1), (2, .int l2)] := hl
  refine lv_aload_n hx hb dX6_comesBack_0 rfl (lv_at hl 0 rfl) ?_
  refine va_get (D := D) (ci := 6) (v := .ref (am 17)) (C := RX6) (T := TX6) (N := 49) hx hb htg inX6 hown hK hP 0 rfl rfl 17 (by decide) (htg _ q_4_206) (fun _ h9 => h9) rfl dX6_comesBack_1 ?_
  refine lv_iload_n hx hb dX6_comesBack_4 rfl (lv_at hl 1 rfl) ?_
  obtain ⟨hi12, hm⟩ := gd_s hm
  refine va_iald hx hb hK hP 1 0 rfl rfl hi12 dX6_comesBack_5 ?_
  refine lv_iconst (v := (1 : Int32)) hx hb dX6_comesBack_6 (by decide) ?_
  refine lv_icmp_eq (tgt := 20) hx hb dX6_comesBack_7 (by decide) (fun c13 => ?_) (fun c13 => ?_)
  · have hm := it_t c13 hm
    exact B_20 _ _ _ _ _ hm hP hD hS (lv_sub hl [0, 1, 2] rfl)
  · have hm := it_f c13 hm
    refine lv_aload_n hx hb dX6_comesBack_10 rfl (lv_at hl 0 rfl) ?_
    refine va_get (D := D) (ci := 6) (v := .ref (am 17)) (C := RX6) (T := TX6) (N := 49) hx hb htg inX6 hown hK hP 0 rfl rfl 17 (by decide) (htg _ q_4_206) (fun _ h9 => h9) rfl dX6_comesBack_11 ?_
    refine lv_iload_n hx hb dX6_comesBack_14 rfl (lv_at hl 1 rfl) ?_
    obtain ⟨hi14, hm⟩ := gd_s hm
    refine va_iald hx hb hK hP 1 0 rfl rfl hi14 dX6_comesBack_15 ?_
    refine lv_iconst (v := (3 : Int32)) hx hb dX6_comesBack_16 (by decide) ?_
    refine lv_icmp_ne (tgt := 24) hx hb dX6_comesBack_17 (by decide) (fun c15 => ?_) (fun c15 => ?_)
    · have hm := it_f c15 hm
      refine lv_iconst (v := (0 : Int32)) hx hb dX6_comesBack_24 (by decide) ?_
      exact B_25 _ _ _ _ _ _ hm hP hD hS (lv_sub hl [0, 1, 2] rfl)
    · have hm := it_t c15 hm
      exact B_20 _ _ _ _ _ hm hP hD hS (lv_sub hl [0, 1, 2] rfl)
def b_X6_listen_181 (fu : Nat) (t_L : Nat → Int64) (t_kind : Nat → Int32) (t_pitch : Nat → Int32) (t_word : Nat → Int32) (t : Nat → Int32) (t_heard : Nat → Int32) : Option ((Nat → Int32) × (Nat → Int32)) :=
  some (t, t_heard)
def b_X6_listen_113 (fu : Nat) (t_L : Nat → Int64) (t_kind : Nat → Int32) (t_pitch : Nat → Int32) (t_word : Nat → Int32) (k_113 : (Int32 × Int32 × (Nat → Int32) × (Nat → Int32)) → Option ((Nat → Int32) × (Nat → Int32))) (x : Int32 × Int32 × (Nat → Int32) × (Nat → Int32)) : Option ((Nat → Int32) × (Nat → Int32)) :=
  (if (x.2.2.1 33 / (2 : Int32)) ≤ x.2.1 then
        b_X6_listen_181 fu t_L t_kind t_pitch t_word x.2.2.1 x.2.2.2
      else
        gd (inb x.1 8) (
        (if (t_kind x.1.toNatClampNeg) = (4 : Int32) then
          gd (inb x.2.1 13) (
          gd (inb ((x.2.2.1 33 - (1 : Int32)) - x.2.1) 13) (
          gd (inb x.2.1 13) (
          gd (inb ((x.2.2.1 33 - (1 : Int32)) - x.2.1) 13) (
          k_113 (x.1, (x.2.1 + (1 : Int32)), x.2.2.1, (upd (upd x.2.2.2 x.2.1.toNatClampNeg (x.2.2.2 ((x.2.2.1 33 - (1 : Int32)) - x.2.1).toNatClampNeg)) ((x.2.2.1 33 - (1 : Int32)) - x.2.1).toNatClampNeg (x.2.2.2 x.2.1.toNatClampNeg)))))))
        else
          b_X6_listen_181 fu t_L t_kind t_pitch t_word x.2.2.1 x.2.2.2)))
def b_X6_listen_99 (fu : Nat) (t_L : Nat → Int64) (t_kind : Nat → Int32) (t_pitch : Nat → Int32) (t_word : Nat → Int32) (k_33 : (Int32 × Int32 × Int32 × (Nat → Int32) × (Nat → Int32)) → Option ((Nat → Int32) × (Nat → Int32))) (k_44 : (Int32 × Int32 × Int32 × Int32 × (Nat → Int32) × (Nat → Int32)) → Option ((Nat → Int32) × (Nat → Int32))) (l1 : Int32) (l2 : Int32) (l3 : Int32) (l4 : Int32) (t : Nat → Int32) (t_heard : Nat → Int32) : Option ((Nat → Int32) × (Nat → Int32)) :=
  k_44 (l1, l2, l3, (l4 + (1 : Int32)), t, t_heard)
def b_X6_listen_59 (fu : Nat) (t_L : Nat → Int64) (t_kind : Nat → Int32) (t_pitch : Nat → Int32) (t_word : Nat → Int32) (k_33 : (Int32 × Int32 × Int32 × (Nat → Int32) × (Nat → Int32)) → Option ((Nat → Int32) × (Nat → Int32))) (k_44 : (Int32 × Int32 × Int32 × Int32 × (Nat → Int32) × (Nat → Int32)) → Option ((Nat → Int32) × (Nat → Int32))) (l1 : Int32) (l2 : Int32) (l3 : Int32) (l4 : Int32) (s0 : Int32) (s1 : Int32) (t : Nat → Int32) (t_heard : Nat → Int32) : Option ((Nat → Int32) × (Nat → Int32)) :=
  (if s1 ≤ s0 then
      k_33 (l1, l2, (l3 + (1 : Int32)), t, t_heard)
    else
      gd (inb l3 12) (
      (m_X6_comesBack fu t t_L t_kind t_pitch l1 (t_word l3.toNatClampNeg)).bind fun o11 =>
      (if o11.1 = (-1 : Int32) then
        b_X6_listen_99 fu t_L t_kind t_pitch t_word k_33 k_44 l1 l2 l3 l4 t t_heard
      else
        gd (inb (t 33) 13) (
        b_X6_listen_99 fu t_L t_kind t_pitch t_word k_33 k_44 l1 l2 l3 l4 (upd t 33 (t 33 + (1 : Int32))) (upd t_heard (t 33).toNatClampNeg o11.1)))))
def b_X6_listen_58 (fu : Nat) (t_L : Nat → Int64) (t_kind : Nat → Int32) (t_pitch : Nat → Int32) (t_word : Nat → Int32) (k_33 : (Int32 × Int32 × Int32 × (Nat → Int32) × (Nat → Int32)) → Option ((Nat → Int32) × (Nat → Int32))) (k_44 : (Int32 × Int32 × Int32 × Int32 × (Nat → Int32) × (Nat → Int32)) → Option ((Nat → Int32) × (Nat → Int32))) (l1 : Int32) (l2 : Int32) (l3 : Int32) (l4 : Int32) (s0 : Int32) (t : Nat → Int32) (t_heard : Nat → Int32) : Option ((Nat → Int32) × (Nat → Int32)) :=
  b_X6_listen_59 fu t_L t_kind t_pitch t_word k_33 k_44 l1 l2 l3 l4 s0 (1 : Int32) t t_heard
def b_X6_listen_44 (fu : Nat) (t_L : Nat → Int64) (t_kind : Nat → Int32) (t_pitch : Nat → Int32) (t_word : Nat → Int32) (k_33 : (Int32 × Int32 × Int32 × (Nat → Int32) × (Nat → Int32)) → Option ((Nat → Int32) × (Nat → Int32))) (k_44 : (Int32 × Int32 × Int32 × Int32 × (Nat → Int32) × (Nat → Int32)) → Option ((Nat → Int32) × (Nat → Int32))) (x : Int32 × Int32 × Int32 × Int32 × (Nat → Int32) × (Nat → Int32)) : Option ((Nat → Int32) × (Nat → Int32)) :=
  (if x.2.1 = 0 then
        b_X6_listen_58 fu t_L t_kind t_pitch t_word k_33 k_44 x.1 x.2.1 x.2.2.1 x.2.2.2.1 x.2.2.2.1 x.2.2.2.2.1 x.2.2.2.2.2
      else
        (if x.2.2.1 = 0 then
          b_X6_listen_59 fu t_L t_kind t_pitch t_word k_33 k_44 x.1 x.2.1 x.2.2.1 x.2.2.2.1 x.2.2.2.1 (2 : Int32) x.2.2.2.2.1 x.2.2.2.2.2
        else
          b_X6_listen_58 fu t_L t_kind t_pitch t_word k_33 k_44 x.1 x.2.1 x.2.2.1 x.2.2.2.1 x.2.2.2.1 x.2.2.2.2.1 x.2.2.2.2.2))
def b_X6_listen_33 (fu : Nat) (t_L : Nat → Int64) (t_kind : Nat → Int32) (t_pitch : Nat → Int32) (t_word : Nat → Int32) (k_33 : (Int32 × Int32 × Int32 × (Nat → Int32) × (Nat → Int32)) → Option ((Nat → Int32) × (Nat → Int32))) (x : Int32 × Int32 × Int32 × (Nat → Int32) × (Nat → Int32)) : Option ((Nat → Int32) × (Nat → Int32)) :=
  (if x.2.2.2.1 31 ≤ x.2.2.1 then
        lfix (b_X6_listen_113 fu t_L t_kind t_pitch t_word) fu (x.1, (0 : Int32), x.2.2.2.1, x.2.2.2.2)
      else
        lfix (b_X6_listen_44 fu t_L t_kind t_pitch t_word k_33) fu (x.1, x.2.1, x.2.2.1, (0 : Int32), x.2.2.2.1, x.2.2.2.2))
def b_X6_listen_25 (fu : Nat) (t_L : Nat → Int64) (t_kind : Nat → Int32) (t_pitch : Nat → Int32) (t_word : Nat → Int32) (l1 : Int32) (s0 : Int32) (t : Nat → Int32) (t_heard : Nat → Int32) : Option ((Nat → Int32) × (Nat → Int32)) :=
  lfix (b_X6_listen_33 fu t_L t_kind t_pitch t_word) fu (l1, s0, (0 : Int32), (upd t 33 (0 : Int32)), t_heard)
def b_X6_listen_20 (fu : Nat) (t_L : Nat → Int64) (t_kind : Nat → Int32) (t_pitch : Nat → Int32) (t_word : Nat → Int32) (l1 : Int32) (t : Nat → Int32) (t_heard : Nat → Int32) : Option ((Nat → Int32) × (Nat → Int32)) :=
  b_X6_listen_25 fu t_L t_kind t_pitch t_word l1 (1 : Int32) t t_heard
def m_X6_listen (fu : Nat) (t : Nat → Int32) (t_L : Nat → Int64) (t_kind : Nat → Int32) (t_pitch : Nat → Int32) (t_word : Nat → Int32) (t_heard : Nat → Int32) (l1 : Int32) : Option ((Nat → Int32) × (Nat → Int32)) :=
  gd (inb l1 8) (
  (if (t_kind l1.toNatClampNeg) = (2 : Int32) then
    b_X6_listen_20 fu t_L t_kind t_pitch t_word l1 t t_heard
  else
    gd (inb l1 8) (
    (if (t_kind l1.toNatClampNeg) = (4 : Int32) then
      b_X6_listen_20 fu t_L t_kind t_pitch t_word l1 t t_heard
    else
      b_X6_listen_25 fu t_L t_kind t_pitch t_word l1 (0 : Int32) t t_heard))))
abbrev rm_X6_listen : Room := ({ frames := 2, cells := 0, slots := 0, locals := 45 } : Room)
abbrev w0_X6_listen (cA : Nat → ClassId) (am : Nat → Nat) (tkv : Value) (ttv : Value) (t : Nat → Int32) (t_L : Nat → Int64) (t_kind : Nat → Int32) (t_pitch : Nat → Int32) (t_word : Nat → Int32) (t_heard : Nat → Int32) : va_W := [((am 0), e_X6 am tkv ttv t t_L), ((am 17), eI cA 8 t_kind), ((am 19), eI cA 8 t_pitch), ((am 21), eI cA 12 t_word), ((am 22), eI cA 13 t_heard)]
abbrev w1_X6_listen (cA : Nat → ClassId) (am : Nat → Nat) (tkv : Value) (ttv : Value) (t_L : Nat → Int64) (t_kind : Nat → Int32) (t_pitch : Nat → Int32) (t_word : Nat → Int32) (u : (Nat → Int32) × (Nat → Int32)) : va_W := [((am 0), e_X6 am tkv ttv u.1 t_L), ((am 17), eI cA 8 t_kind), ((am 19), eI cA 8 t_pitch), ((am 21), eI cA 12 t_word), ((am 22), eI cA 13 u.2)]
theorem hd_X6_listen : yX6_listen.cls = RX6 ∧ yX6_listen.cls ≠ "java/lang/invoke/MethodHandle" ∧ yX6_listen.cls ≠ "java/lang/invoke/VarHandle" ∧ (parseMethodDescriptor yX6_listen.desc).map (fun d => d.parameters.length) = some 1 := by decide +kernel
set_option maxHeartbeats 40000000 in
set_option maxRecDepth 100000 in
theorem c_X6_listen (l : Launch) (D : va_G) (cA : Nat → ClassId) (sz : Nat) (fu : Nat) (am : Nat → Nat) (tkv : Value) (ttv : Value) (t : Nat → Int32) (t_L : Nat → Int64) (t_kind : Nat → Int32) (t_pitch : Nat → Int32) (t_word : Nat → Int32) (t_heard : Nat → Int32) (l1 : Int32) (out : (Nat → Int32) × (Nat → Int32)) (hm : m_X6_listen fu t t_L t_kind t_pitch t_word t_heard l1 = some out) : MV l yX6_listen (wU yX6_listen cX6_listen 6 ((Option.none : Option Jvm.ClassFile.FieldType))) rm_X6_listen D cA sz [.ref (am 0), .int l1] (w0_X6_listen cA am tkv ttv t t_L t_kind t_pitch t_word t_heard) out (w1_X6_listen cA am tkv ttv t_L t_kind t_pitch t_word) := by
  refine Met.ofW (cc := cX6_listen) (maxL := 6) (ret := (Option.none : Option Jvm.ClassFile.FieldType)) (by decide) rfl ?_
  intro p e s m args below meth c s₁ B hml hv
  obtain ⟨hargs, hsz, hP, hK, hD0, hN⟩ := hv
  have hx := B.exec
  have hb := B.bytes
  have hr := B.returns
  have htg : ∀ w ∈ gw, w.before args s = true := fun w h => atoms_spec (ws := wU yX6_listen cX6_listen 6 ((Option.none : Option Jvm.ClassFile.FieldType))) B.pre w (List.mem_cons_of_mem _ h)
  have hown : s.vm.findClass RX6 = some m.cls := findClass_of_methodNamed B.named
  have hlocks := B.notSynchronized
  subst hsz
  have hD := hD0.self (sz := s.heap.size)
  have hA : ∀ q : Nat, s.heap.size ≤ q → va_A (w0_X6_listen cA am tkv ttv t t_L t_kind t_pitch t_word t_heard) s.heap.size q := fun q h => Or.inr h
  have hS : va_S (va_A (w0_X6_listen cA am tkv ttv t t_L t_kind t_pitch t_word t_heard) s.heap.size) s.heap s.heap [] := va_S.rf
  generalize va_A (w0_X6_listen cA am tkv ttv t t_L t_kind t_pitch t_word t_heard) s.heap.size = A at hA hD hS ⊢
  obtain ⟨Q, hQ⟩ : ∃ Q : State → Prop, Q = MQ below (va_Qv (fun (u : (Nat → Int32) × (Nat → Int32)) => u = out) (pst0 D cA A (w1_X6_listen cA am tkv ttv t_L t_kind t_pitch t_word)) A) args s 0 0 A := ⟨_, rfl⟩
  refine (?_ : W p l e rm_X6_listen s m args below meth c s.heap [] 0 0 (MQ below (va_Qv (fun (u : (Nat → Int32) × (Nat → Int32)) => u = out) (pst0 D cA A (w1_X6_listen cA am tkv ttv t_L t_kind t_pitch t_word)) A) args s 0 0 A) (entryFrame m args 6))
  rw [← hQ]
  have hP : va_P D CL [((am 0), e_X6 am tkv ttv t t_L), ((am 17), eI cA 8 t_kind), ((am 19), eI cA 8 t_pitch), ((am 21), eI cA 12 t_word), ((am 22), eI cA 13 t_heard)] s.heap := hP
  have hD : va_D A [((am 0), e_X6 am tkv ttv t t_L), ((am 17), eI cA 8 t_kind), ((am 19), eI cA 8 t_pitch), ((am 21), eI cA 12 t_word), ((am 22), eI cA 13 t_heard)] := hD
  have B_181 : ∀ (t : Nat → Int32) (t_heard : Nat → Int32) (H : Heap) (locs : List Loc) (ls : Array Slot), b_X6_listen_181 fu t_L t_kind t_pitch t_word t t_heard = some out → va_P D CL [((am 0), e_X6 am tkv ttv t t_L), ((am 17), eI cA 8 t_kind), ((am 19), eI cA 8 t_pitch), ((am 21), eI cA 12 t_word), ((am 22), eI cA 13 t_heard)] H → va_D A [((am 0), e_X6 am tkv ttv t t_L), ((am 17), eI cA 8 t_kind), ((am 19), eI cA 8 t_pitch), ((am 21), eI cA 12 t_word), ((am 22), eI cA 13 t_heard)] → va_S A s.heap H locs → lv_has ls 6 [(0, .ref (am 0))] → W p l e rm_X6_listen s m args below meth c H locs 0 0 Q (F0 m 181 ls []) := by
    intro  t t_heard H locs ls hm hP hD hS hl
    unfold b_X6_listen_181 at hm
    rw [hQ]
    exact W.vret hx hb hr (fun t9 ht hW => ⟨⟨(t, t_heard), rfl, (Option.some.inj hm), by rw [ht]; exact hP, va_K.moved hW.alike hK, hD⟩, hS.F ht⟩) hS.2.2 dX6_listen_181
  have B_113 : ∀ (n : Nat) (x : Int32 × Int32 × (Nat → Int32) × (Nat → Int32)) (H : Heap) (locs : List Loc) (ls : Array Slot), lfix (b_X6_listen_113 fu t_L t_kind t_pitch t_word) n x = some out → va_P D CL [((am 0), e_X6 am tkv ttv x.2.2.1 t_L), ((am 17), eI cA 8 t_kind), ((am 19), eI cA 8 t_pitch), ((am 21), eI cA 12 t_word), ((am 22), eI cA 13 x.2.2.2)] H → va_D A [((am 0), e_X6 am tkv ttv x.2.2.1 t_L), ((am 17), eI cA 8 t_kind), ((am 19), eI cA 8 t_pitch), ((am 21), eI cA 12 t_word), ((am 22), eI cA 13 x.2.2.2)] → va_S A s.heap H locs → lv_has ls 6 [(0, .ref (am 0)), (1, .int x.1), (3, .int x.2.1)] → W p l e rm_X6_listen s m args below meth c H locs 0 0 Q (F0 m 113 ls []) := by
    intro  n
    induction n with
    | zero => intro x H locs ls hm; cases (show none = some out from hm)
    | succ n HK_113 =>
      intro x H locs ls hm hP hD hS hl
      replace hm : b_X6_listen_113 fu t_L t_kind t_pitch t_word (lfix (b_X6_listen_113 fu t_L t_kind t_pitch t_word) n) x = some out := hm
      unfold b_X6_listen_113 at hm
      refine lv_iload_n hx hb dX6_listen_113 rfl (lv_at hl 2 rfl) ?_
      refine lv_aload_n hx hb dX6_listen_114 rfl (lv_at hl 0 rfl) ?_
      refine va_get (D := D) (ci := 6) (v := .int (x.2.2.1 33)) (C := RX6) (T := TX6) (N := 49) hx hb htg inX6 hown hK hP 0 rfl rfl 33 (by decide) (htg _ q_4_222) (fun _ h9 => h9) rfl dX6_listen_115 ?_
      refine lv_iconst (v := (2 : Int32)) hx hb dX6_listen_118 (by decide) ?_
      refine lv_idiv hx hb dX6_listen_119 (by decide) ?_
      refine lv_icmp_ge (tgt := 181) hx hb dX6_listen_120 (by decide) (fun c2 => ?_) (fun c2 => ?_)
      · have hm := it_t c2 hm
        exact B_181 _ _ _ _ _ hm hP hD hS (lv_sub hl [0] rfl)
      · have hm := it_f c2 hm
        refine lv_aload_n hx hb dX6_listen_123 rfl (lv_at hl 0 rfl) ?_
        refine va_get (D := D) (ci := 6) (v := .ref (am 17)) (C := RX6) (T := TX6) (N := 49) hx hb htg inX6 hown hK hP 0 rfl rfl 17 (by decide) (htg _ q_4_206) (fun _ h9 => h9) rfl dX6_listen_124 ?_
        refine lv_iload_n hx hb dX6_listen_127 rfl (lv_at hl 1 rfl) ?_
        obtain ⟨hi3, hm⟩ := gd_s hm
        refine va_iald hx hb hK hP 1 0 rfl rfl hi3 dX6_listen_128 ?_
        refine lv_iconst (v := (4 : Int32)) hx hb dX6_listen_129 (by decide) ?_
        refine lv_icmp_ne (tgt := 181) hx hb dX6_listen_130 (by decide) (fun c4 => ?_) (fun c4 => ?_)
        · have hm := it_f c4 hm
          exact B_181 _ _ _ _ _ hm hP hD hS (lv_sub hl [0] rfl)
        · have hm := it_t c4 hm
          refine lv_aload_n hx hb dX6_listen_133 rfl (lv_at hl 0 rfl) ?_
          refine va_get (D := D) (ci := 6) (v := .ref (am 22)) (C := RX6) (T := TX6) (N := 49) hx hb htg inX6 hown hK hP 0 rfl rfl 32 (by decide) (htg _ q_4_221) (fun _ h9 => h9) rfl dX6_listen_134 ?_
          refine lv_iload_n hx hb dX6_listen_137 rfl (lv_at hl 2 rfl) ?_
          obtain ⟨hi5, hm⟩ := gd_s hm
          refine va_iald hx hb hK hP 4 0 rfl rfl hi5 dX6_listen_138 ?_
          refine lv_istore (lv' := [(4, .int (x.2.2.2 x.2.1.toNatClampNeg)), (0, .ref (am 0)), (1, .int x.1), (3, .int x.2.1)]) hx hb dX6_listen_139 hl (by decide) rfl (fun ls hl => ?_)
          refine lv_aload_n hx hb dX6_listen_141 rfl (lv_at hl 1 rfl) ?_
          refine va_get (D := D) (ci := 6) (v := .ref (am 22)) (C := RX6) (T := TX6) (N := 49) hx hb htg inX6 hown hK hP 0 rfl rfl 32 (by decide) (htg _ q_4_221) (fun _ h9 => h9) rfl dX6_listen_142 ?_
          refine lv_iload_n hx hb dX6_listen_145 rfl (lv_at hl 3 rfl) ?_
          refine lv_aload_n hx hb dX6_listen_146 rfl (lv_at hl 1 rfl) ?_
          refine va_get (D := D) (ci := 6) (v := .ref (am 22)) (C := RX6) (T := TX6) (N := 49) hx hb htg inX6 hown hK hP 0 rfl rfl 32 (by decide) (htg _ q_4_221) (fun _ h9 => h9) rfl dX6_listen_147 ?_
          refine lv_aload_n hx hb dX6_listen_150 rfl (lv_at hl 1 rfl) ?_
          refine va_get (D := D) (ci := 6) (v := .int (x.2.2.1 33)) (C := RX6) (T := TX6) (N := 49) hx hb htg inX6 hown hK hP 0 rfl rfl 33 (by decide) (htg _ q_4_222) (fun _ h9 => h9) rfl dX6_listen_151 ?_
          refine lv_iconst (v := (1 : Int32)) hx hb dX6_listen_154 (by decide) ?_
          refine lv_isub hx hb dX6_listen_155 ?_
          refine lv_iload_n hx hb dX6_listen_156 rfl (lv_at hl 3 rfl) ?_
          refine lv_isub hx hb dX6_listen_157 ?_
          obtain ⟨hi6, hm⟩ := gd_s hm
          refine va_iald hx hb hK hP 4 0 rfl rfl hi6 dX6_listen_158 ?_
          obtain ⟨hi7, hm⟩ := gd_s hm
          refine va_iast hx hb hK hP hD hS 4 0 rfl rfl hi7 dX6_listen_159 (fun H locs (hP : va_P D CL [((am 0), e_X6 am tkv ttv x.2.2.1 t_L), ((am 17), eI cA 8 t_kind), ((am 19), eI cA 8 t_pitch), ((am 21), eI cA 12 t_word), ((am 22), eI cA 13 (upd x.2.2.2 x.2.1.toNatClampNeg (x.2.2.2 ((x.2.2.1 33 - (1 : Int32)) - x.2.1).toNatClampNeg)))] H) (hD : va_D A [((am 0), e_X6 am tkv ttv x.2.2.1 t_L), ((am 17), eI cA 8 t_kind), ((am 19), eI cA 8 t_pitch), ((am 21), eI cA 12 t_word), ((am 22), eI cA 13 (upd x.2.2.2 x.2.1.toNatClampNeg (x.2.2.2 ((x.2.2.1 33 - (1 : Int32)) - x.2.1).toNatClampNeg)))]) hS => ?_)
          refine lv_aload_n hx hb dX6_listen_160 rfl (lv_at hl 1 rfl) ?_
          refine va_get (D := D) (ci := 6) (v := .ref (am 22)) (C := RX6) (T := TX6) (N := 49) hx hb htg inX6 hown hK hP 0 rfl rfl 32 (by decide) (htg _ q_4_221) (fun _ h9 => h9) rfl dX6_listen_161 ?_
          refine lv_aload_n hx hb dX6_listen_164 rfl (lv_at hl 1 rfl) ?_
          refine va_get (D := D) (ci := 6) (v := .int (x.2.2.1 33)) (C := RX6) (T := TX6) (N := 49) hx hb htg inX6 hown hK hP 0 rfl rfl 33 (by decide) (htg _ q_4_222) (fun _ h9 => h9) rfl dX6_listen_165 ?_
          refine lv_iconst (v := (1 : Int32)) hx hb dX6_listen_168 (by decide) ?_
          refine lv_isub hx hb dX6_listen_169 ?_
          refine lv_iload_n hx hb dX6_listen_170 rfl (lv_at hl 3 rfl) ?_
          refine lv_isub hx hb dX6_listen_171 ?_
          refine lv_iload hx hb dX6_listen_172 (lv_at hl 0 rfl) ?_
          obtain ⟨hi8, hm⟩ := gd_s hm
          refine va_iast hx hb hK hP hD hS 4 0 rfl rfl hi8 dX6_listen_174 (fun H locs (hP : va_P D CL [((am 0), e_X6 am tkv ttv x.2.2.1 t_L), ((am 17), eI cA 8 t_kind), ((am 19), eI cA 8 t_pitch), ((am 21), eI cA 12 t_word), ((am 22), eI cA 13 (upd (upd x.2.2.2 x.2.1.toNatClampNeg (x.2.2.2 ((x.2.2.1 33 - (1 : Int32)) - x.2.1).toNatClampNeg)) ((x.2.2.1 33 - (1 : Int32)) - x.2.1).toNatClampNeg (x.2.2.2 x.2.1.toNatClampNeg)))] H) (hD : va_D A [((am 0), e_X6 am tkv ttv x.2.2.1 t_L), ((am 17), eI cA 8 t_kind), ((am 19), eI cA 8 t_pitch), ((am 21), eI cA 12 t_word), ((am 22), eI cA 13 (upd (upd x.2.2.2 x.2.1.toNatClampNeg (x.2.2.2 ((x.2.2.1 33 - (1 : Int32)) - x.2.1).toNatClampNeg)) ((x.2.2.1 33 - (1 : Int32)) - x.2.1).toNatClampNeg (x.2.2.2 x.2.1.toNatClampNeg)))]) hS => ?_)
          refine lv_iinc (v := (x.2.1 + (1 : Int32))) (lv' := [(3, .int (x.2.1 + (1 : Int32))), (4, .int (x.2.2.2 x.2.1.toNatClampNeg)), (0, .ref (am 0)), (1, .int x.1)]) hx hb dX6_listen_175 hl (k := 3) rfl rfl (by decide) rfl (fun ls hl => ?_)
          refine lv_goto (tgt := 113) hx hb dX6_listen_178 (by decide) ?_
          exact HK_113 _ _ _ _ hm hP hD hS (lv_sub hl [2, 3, 0] rfl)
  have B_99 : ∀ (k_33 : (Int32 × Int32 × Int32 × (Nat → Int32) × (Nat → Int32)) → Option ((Nat → Int32) × (Nat → Int32))) (HK_33 : ∀ (x : Int32 × Int32 × Int32 × (Nat → Int32) × (Nat → Int32)) (H : Heap) (locs : List Loc) (ls : Array Slot), k_33 x = some out → va_P D CL [((am 0), e_X6 am tkv ttv x.2.2.2.1 t_L), ((am 17), eI cA 8 t_kind), ((am 19), eI cA 8 t_pitch), ((am 21), eI cA 12 t_word), ((am 22), eI cA 13 x.2.2.2.2)] H → va_D A [((am 0), e_X6 am tkv ttv x.2.2.2.1 t_L), ((am 17), eI cA 8 t_kind), ((am 19), eI cA 8 t_pitch), ((am 21), eI cA 12 t_word), ((am 22), eI cA 13 x.2.2.2.2)] → va_S A s.heap H locs → lv_has ls 6 [(0, .ref (am 0)), (1, .int x.1), (2, .int x.2.1), (3, .int x.2.2.1)] → W p l e rm_X6_listen s m args below meth c H locs 0 0 Q (F0 m 33 ls [])) (k_44 : (Int32 × Int32 × Int32 × Int32 × (Nat → Int32) × (Nat → Int32)) → Option ((Nat → Int32) × (Nat → Int32))) (HK_44 : ∀ (x : Int32 × Int32 × Int32 × Int32 × (Nat → Int32) × (Nat → Int32)) (H : Heap) (locs : List Loc) (ls : Array Slot), k_44 x = some out → va_P D CL [((am 0), e_X6 am tkv ttv x.2.2.2.2.1 t_L), ((am 17), eI cA 8 t_kind), ((am 19), eI cA 8 t_pitch), ((am 21), eI cA 12 t_word), ((am 22), eI cA 13 x.2.2.2.2.2)] H → va_D A [((am 0), e_X6 am tkv ttv x.2.2.2.2.1 t_L), ((am 17), eI cA 8 t_kind), ((am 19), eI cA 8 t_pitch), ((am 21), eI cA 12 t_word), ((am 22), eI cA 13 x.2.2.2.2.2)] → va_S A s.heap H locs → lv_has ls 6 [(0, .ref (am 0)), (1, .int x.1), (2, .int x.2.1), (3, .int x.2.2.1), (4, .int x.2.2.2.1)] → W p l e rm_X6_listen s m args below meth c H locs 0 0 Q (F0 m 44 ls [])) (l1 : Int32) (l2 : Int32) (l3 : Int32) (l4 : Int32) (t : Nat → Int32) (t_heard : Nat → Int32) (H : Heap) (locs : List Loc) (ls : Array Slot), b_X6_listen_99 fu t_L t_kind t_pitch t_word k_33 k_44 l1 l2 l3 l4 t t_heard = some out → va_P D CL [((am 0), e_X6 am tkv ttv t t_L), ((am 17), eI cA 8 t_kind), ((am 19), eI cA 8 t_pitch), ((am 21), eI cA 12 t_word), ((am 22), eI cA 13 t_heard)] H → va_D A [((am 0), e_X6 am tkv ttv t t_L), ((am 17), eI cA 8 t_kind), ((am 19), eI cA 8 t_pitch), ((am 21), eI cA 12 t_word), ((am 22), eI cA 13 t_heard)] → va_S A s.heap H locs → lv_has ls 6 [(0, .ref (am 0)), (1, .int l1), (2, .int l2), (3, .int l3), (4, .int l4)] → W p l e rm_X6_listen s m args below meth c H locs 0 0 Q (F0 m 99 ls []) := by
    intro k_33 HK_33 k_44 HK_44 l1 l2 l3 l4 t t_heard H locs ls hm hP hD hS hl
    unfold b_X6_listen_99 at hm
    refine lv_iinc (v := (l4 + (1 : Int32))) (lv' := [(4, .int (l4 + (1 : Int32))), (0, .ref (am 0)), (1, .int l1), (2, .int l2), (3, .int l3)]) hx hb dX6_listen_99 hl (k := 4) rfl rfl (by decide) rfl (fun ls hl => ?_)
    refine lv_goto (tgt := 44) hx hb dX6_listen_102 (by decide) ?_
    exact HK_44 _ _ _ _ hm hP hD hS (lv_sub hl [1, 2, 3, 4, 0] rfl)
  have B_59 : ∀ (k_33 : (Int32 × Int32 × Int32 × (Nat → Int32) × (Nat → Int32)) → Option ((Nat → Int32) × (Nat → Int32))) (HK_33 : ∀ (x : Int32 × Int32 × Int32 × (Nat → Int32) × (Nat → Int32)) (H : Heap) (locs : List Loc) (ls : Array Slot), k_33 x = some out → va_P D CL [((am 0), e_X6 am tkv ttv x.2.2.2.1 t_L), ((am 17), eI cA 8 t_kind), ((am 19), eI cA 8 t_pitch), ((am 21), eI cA 12 t_word), ((am 22), eI cA 13 x.2.2.2.2)] H → va_D A [((am 0), e_X6 am tkv ttv x.2.2.2.1 t_L), ((am 17), eI cA 8 t_kind), ((am 19), eI cA 8 t_pitch), ((am 21), eI cA 12 t_word), ((am 22), eI cA 13 x.2.2.2.2)] → va_S A s.heap H locs → lv_has ls 6 [(0, .ref (am 0)), (1, .int x.1), (2, .int x.2.1), (3, .int x.2.2.1)] → W p l e rm_X6_listen s m args below meth c H locs 0 0 Q (F0 m 33 ls [])) (k_44 : (Int32 × Int32 × Int32 × Int32 × (Nat → Int32) × (Nat → Int32)) → Option ((Nat → Int32) × (Nat → Int32))) (HK_44 : ∀ (x : Int32 × Int32 × Int32 × Int32 × (Nat → Int32) × (Nat → Int32)) (H : Heap) (locs : List Loc) (ls : Array Slot), k_44 x = some out → va_P D CL [((am 0), e_X6 am tkv ttv x.2.2.2.2.1 t_L), ((am 17), eI cA 8 t_kind), ((am 19), eI cA 8 t_pitch), ((am 21), eI cA 12 t_word), ((am 22), eI cA 13 x.2.2.2.2.2)] H → va_D A [((am 0), e_X6 am tkv ttv x.2.2.2.2.1 t_L), ((am 17), eI cA 8 t_kind), ((am 19), eI cA 8 t_pitch), ((am 21), eI cA 12 t_word), ((am 22), eI cA 13 x.2.2.2.2.2)] → va_S A s.heap H locs → lv_has ls 6 [(0, .ref (am 0)), (1, .int x.1), (2, .int x.2.1), (3, .int x.2.2.1), (4, .int x.2.2.2.1)] → W p l e rm_X6_listen s m args below meth c H locs 0 0 Q (F0 m 44 ls [])) (l1 : Int32) (l2 : Int32) (l3 : Int32) (l4 : Int32) (s0 : Int32) (s1 : Int32) (t : Nat → Int32) (t_heard : Nat → Int32) (H : Heap) (locs : List Loc) (ls : Array Slot), b_X6_listen_59 fu t_L t_kind t_pitch t_word k_33 k_44 l1 l2 l3 l4 s0 s1 t t_heard = some out → va_P D CL [((am 0), e_X6 am tkv ttv t t_L), ((am 17), eI cA 8 t_kind), ((am 19), eI cA 8 t_pitch), ((am 21), eI cA 12 t_word), ((am 22), eI cA 13 t_heard)] H → va_D A [((am 0), e_X6 am tkv ttv t t_L), ((am 17), eI cA 8 t_kind), ((am 19), eI cA 8 t_pitch), ((am 21), eI cA 12 t_word), ((am 22), eI cA 13 t_heard)] → va_S A s.heap H locs → lv_has ls 6 [(0, .ref (am 0)), (1, .int l1), (2, .int l2), (3, .int l3), (4, .int l4)] → W p l e rm_X6_listen s m args below meth c H locs 0 0 Q (F0 m 59 ls [.int s1, .int s0]) := by
    intro k_33 HK_33 k_44 HK_44 l1 l2 l3 l4 s0 s1 t t_heard H locs ls hm hP hD hS hl
    unfold b_X6_listen_59 at hm
    refine lv_icmp_ge (tgt := 105) hx hb dX6_listen_59 (by decide) (fun c9 => ?_) (fun c9 => ?_)
    · have hm := it_t c9 hm
      refine lv_iinc (v := (l3 + (1 : Int32))) (lv' := [(3, .int (l3 + (1 : Int32))), (0, .ref (am 0)), (1, .int l1), (2, .int l2), (4, .int l4)]) hx hb dX6_listen_105 hl (k := 3) rfl rfl (by decide) rfl (fun ls hl => ?_)
      refine lv_goto (tgt := 33) hx hb dX6_listen_108 (by decide) ?_
      exact HK_33 _ _ _ _ hm hP hD hS (lv_sub hl [1, 2, 3, 0] rfl)
    · have hm := it_f c9 hm
      refine lv_aload_n hx hb dX6_listen_62 rfl (lv_at hl 0 rfl) ?_
      refine lv_iload_n hx hb dX6_listen_63 rfl (lv_at hl 1 rfl) ?_
      refine lv_aload_n hx hb dX6_listen_64 rfl (lv_at hl 0 rfl) ?_
      refine va_get (D := D) (ci := 6) (v := .ref (am 21)) (C := RX6) (T := TX6) (N := 49) hx hb htg inX6 hown hK hP 0 rfl rfl 30 (by decide) (htg _ q_4_219) (fun _ h9 => h9) rfl dX6_listen_65 ?_
      refine lv_iload_n hx hb dX6_listen_68 rfl (lv_at hl 3 rfl) ?_
      obtain ⟨hi10, hm⟩ := gd_s hm
      refine va_iald hx hb hK hP 3 0 rfl rfl hi10 dX6_listen_69 ?_
      obtain ⟨o11, ho12, hm⟩ := bd_s hm
      refine xr_i (wr := [((am 21), eI cA 12 t_word), ((am 22), eI cA 13 t_heard)]) (wn := [((am 0), e_X6 am tkv ttv t t_L), ((am 17), eI cA 8 t_kind), ((am 19), eI cA 8 t_pitch), ((am 21), eI cA 12 t_word), ((am 22), eI cA 13 t_heard)]) (va_runV (As := [.int l1, .int (t_word l3.toNatClampNeg)]) (rest := []) ⟨hx, hb, hml, hown, htg⟩ (c_X6_comesBack l D cA _ fu am tkv ttv t t_L t_kind t_pitch l1 (t_word l3.toNatClampNeg) o11 ho12) (cwV 2 htg (gV q_5_159 q_5_161 q_p5_12 q_1_8 q_5_162) rfl rfl rfl hd_X6_comesBack ⟨Nat.le_of_ble_eq_true rfl, Nat.le_of_ble_eq_true rfl⟩) (xpV hN hK hP hD [0, 1, 2] rfl (by decide) rfl rfl) rfl rfl hl.1 rfl (lv_room (Nat.le_of_ble_eq_true rfl)) dX6_listen_70 ⟨Nat.zero_le _, Nat.zero_le _⟩) hP hD hS hA [0, 1, 2] [3, 4] [2, 3, 4, 0, 1] rfl rfl (by decide) (by decide) rfl (by decide) (fun H locs hP hD hS => ?_)
      refine lv_istore (lv' := [(5, .int o11.1), (0, .ref (am 0)), (1, .int l1), (2, .int l2), (3, .int l3), (4, .int l4)]) hx hb dX6_listen_73 hl (by decide) rfl (fun ls hl => ?_)
      refine lv_iload hx hb dX6_listen_75 (lv_at hl 0 rfl) ?_
      refine lv_iconst (v := (-1 : Int32)) hx hb dX6_listen_77 (by decide) ?_
      refine lv_icmp_eq (tgt := 99) hx hb dX6_listen_78 (by decide) (fun c13 => ?_) (fun c13 => ?_)
      · have hm := it_t c13 hm
        exact B_99 _ HK_33 _ HK_44 _ _ _ _ _ _ _ _ _ hm hP hD hS (lv_sub hl [1, 2, 3, 4, 5] rfl)
      · have hm := it_f c13 hm
        refine lv_aload_n hx hb dX6_listen_81 rfl (lv_at hl 1 rfl) ?_
        refine va_get (D := D) (ci := 6) (v := .ref (am 22)) (C := RX6) (T := TX6) (N := 49) hx hb htg inX6 hown hK hP 0 rfl rfl 32 (by decide) (htg _ q_4_221) (fun _ h9 => h9) rfl dX6_listen_82 ?_
        refine lv_aload_n hx hb dX6_listen_85 rfl (lv_at hl 1 rfl) ?_
        refine lv_dup hx hb dX6_listen_86 rfl ?_
        refine va_get (D := D) (ci := 6) (v := .int (t 33)) (C := RX6) (T := TX6) (N := 49) hx hb htg inX6 hown hK hP 0 rfl rfl 33 (by decide) (htg _ q_4_222) (fun _ h9 => h9) rfl dX6_listen_87 ?_
        refine lv_dup_x1 hx hb dX6_listen_90 rfl rfl ?_
        refine lv_iconst (v := (1 : Int32)) hx hb dX6_listen_91 (by decide) ?_
        refine lv_iadd hx hb dX6_listen_92 ?_
        refine va_put (D := D) (ci := 6) (v := .int (t 33 + (1 : Int32))) (ty := .int) (C := RX6) (T := TX6) (N := 49) hx hb htg inX6 tyX6 tyX6_ok nmX6 hown hK hP hD hS 0 rfl rfl 33 (by decide) (htg _ q_4_222) (fun _ h9 => h9) rfl (by decide +kernel) rfl rfl (Nat.le_of_ble_eq_true rfl) dX6_listen_93 (fun H locs (hP : va_P D CL [((am 0), e_X6 am tkv ttv (upd t 33 (t 33 + (1 : Int32))) t_L), ((am 17), eI cA 8 t_kind), ((am 19), eI cA 8 t_pitch), ((am 21), eI cA 12 t_word), ((am 22), eI cA 13 t_heard)] H) (hD : va_D A [((am 0), e_X6 am tkv ttv (upd t 33 (t 33 + (1 : Int32))) t_L), ((am 17), eI cA 8 t_kind), ((am 19), eI cA 8 t_pitch), ((am 21), eI cA 12 t_word), ((am 22), eI cA 13 t_heard)]) hS => ?_)
        refine lv_iload hx hb dX6_listen_96 (lv_at hl 0 rfl) ?_
        obtain ⟨hi14, hm⟩ := gd_s hm
        refine va_iast hx hb hK hP hD hS 4 0 rfl rfl hi14 dX6_listen_98 (fun H locs (hP : va_P D CL [((am 0), e_X6 am tkv ttv (upd t 33 (t 33 + (1 : Int32))) t_L), ((am 17), eI cA 8 t_kind), ((am 19), eI cA 8 t_pitch), ((am 21), eI cA 12 t_word), ((am 22), eI cA 13 (upd t_heard (t 33).toNatClampNeg o11.1))] H) (hD : va_D A [((am 0), e_X6 am tkv ttv (upd t 33 (t 33 + (1 : Int32))) t_L), ((am 17), eI cA 8 t_kind), ((am 19), eI cA 8 t_pitch), ((am 21), eI cA 12 t_word), ((am 22), eI cA 13 (upd t_heard (t 33).toNatClampNeg o11.1))]) hS => ?_)
        exact B_99 _ HK_33 _ HK_44 _ _ _ _ _ _ _ _ _ hm hP hD hS (lv_sub hl [1, 2, 3, 4, 5] rfl)
  have B_58 : ∀ (k_33 : (Int32 × Int32 × Int32 × (Nat → Int32) × (Nat → Int32)) → Option ((Nat → Int32) × (Nat → Int32))) (HK_33 : ∀ (x : Int32 × Int32 × Int32 × (Nat → Int32) × (Nat → Int32)) (H : Heap) (locs : List Loc) (ls : Array Slot), k_33 x = some out → va_P D CL [((am 0), e_X6 am tkv ttv x.2.2.2.1 t_L), ((am 17), eI cA 8 t_kind), ((am 19), eI cA 8 t_pitch), ((am 21), eI cA 12 t_word), ((am 22), eI cA 13 x.2.2.2.2)] H → va_D A [((am 0), e_X6 am tkv ttv x.2.2.2.1 t_L), ((am 17), eI cA 8 t_kind), ((am 19), eI cA 8 t_pitch), ((am 21), eI cA 12 t_word), ((am 22), eI cA 13 x.2.2.2.2)] → va_S A s.heap H locs → lv_has ls 6 [(0, .ref (am 0)), (1, .int x.1), (2, .int x.2.1), (3, .int x.2.2.1)] → W p l e rm_X6_listen s m args below meth c H locs 0 0 Q (F0 m 33 ls [])) (k_44 : (Int32 × Int32 × Int32 × Int32 × (Nat → Int32) × (Nat → Int32)) → Option ((Nat → Int32) × (Nat → Int32))) (HK_44 : ∀ (x : Int32 × Int32 × Int32 × Int32 × (Nat → Int32) × (Nat → Int32)) (H : Heap) (locs : List Loc) (ls : Array Slot), k_44 x = some out → va_P D CL [((am 0), e_X6 am tkv ttv x.2.2.2.2.1 t_L), ((am 17), eI cA 8 t_kind), ((am 19), eI cA 8 t_pitch), ((am 21), eI cA 12 t_word), ((am 22), eI cA 13 x.2.2.2.2.2)] H → va_D A [((am 0), e_X6 am tkv ttv x.2.2.2.2.1 t_L), ((am 17), eI cA 8 t_kind), ((am 19), eI cA 8 t_pitch), ((am 21), eI cA 12 t_word), ((am 22), eI cA 13 x.2.2.2.2.2)] → va_S A s.heap H locs → lv_has ls 6 [(0, .ref (am 0)), (1, .int x.1), (2, .int x.2.1), (3, .int x.2.2.1), (4, .int x.2.2.2.1)] → W p l e rm_X6_listen s m args below meth c H locs 0 0 Q (F0 m 44 ls [])) (l1 : Int32) (l2 : Int32) (l3 : Int32) (l4 : Int32) (s0 : Int32) (t : Nat → Int32) (t_heard : Nat → Int32) (H : Heap) (locs : List Loc) (ls : Array Slot), b_X6_listen_58 fu t_L t_kind t_pitch t_word k_33 k_44 l1 l2 l3 l4 s0 t t_heard = some out → va_P D CL [((am 0), e_X6 am tkv ttv t t_L), ((am 17), eI cA 8 t_kind), ((am 19), eI cA 8 t_pitch), ((am 21), eI cA 12 t_word), ((am 22), eI cA 13 t_heard)] H → va_D A [((am 0), e_X6 am tkv ttv t t_L), ((am 17), eI cA 8 t_kind), ((am 19), eI cA 8 t_pitch), ((am 21), eI cA 12 t_word), ((am 22), eI cA 13 t_heard)] → va_S A s.heap H locs → lv_has ls 6 [(0, .ref (am 0)), (1, .int l1), (2, .int l2), (3, .int l3), (4, .int l4)] → W p l e rm_X6_listen s m args below meth c H locs 0 0 Q (F0 m 58 ls [.int s0]) := by
    intro k_33 HK_33 k_44 HK_44 l1 l2 l3 l4 s0 t t_heard H locs ls hm hP hD hS hl
    unfold b_X6_listen_58 at hm
    refine lv_iconst (v := (1 : Int32)) hx hb dX6_listen_58 (by decide) ?_
    exact B_59 _ HK_33 _ HK_44 _ _ _ _ _ _ _ _ _ _ _ hm hP hD hS (lv_sub hl [0, 1, 2, 3, 4] rfl)
  have B_44 : ∀ (k_33 : (Int32 × Int32 × Int32 × (Nat → Int32) × (Nat → Int32)) → Option ((Nat → Int32) × (Nat → Int32))) (HK_33 : ∀ (x : Int32 × Int32 × Int32 × (Nat → Int32) × (Nat → Int32)) (H : Heap) (locs : List Loc) (ls : Array Slot), k_33 x = some out → va_P D CL [((am 0), e_X6 am tkv ttv x.2.2.2.1 t_L), ((am 17), eI cA 8 t_kind), ((am 19), eI cA 8 t_pitch), ((am 21), eI cA 12 t_word), ((am 22), eI cA 13 x.2.2.2.2)] H → va_D A [((am 0), e_X6 am tkv ttv x.2.2.2.1 t_L), ((am 17), eI cA 8 t_kind), ((am 19), eI cA 8 t_pitch), ((am 21), eI cA 12 t_word), ((am 22), eI cA 13 x.2.2.2.2)] → va_S A s.heap H locs → lv_has ls 6 [(0, .ref (am 0)), (1, .int x.1), (2, .int x.2.1), (3, .int x.2.2.1)] → W p l e rm_X6_listen s m args below meth c H locs 0 0 Q (F0 m 33 ls [])) (n : Nat) (x : Int32 × Int32 × Int32 × Int32 × (Nat → Int32) × (Nat → Int32)) (H : Heap) (locs : List Loc) (ls : Array Slot), lfix (b_X6_listen_44 fu t_L t_kind t_pitch t_word k_33) n x = some out → va_P D CL [((am 0), e_X6 am tkv ttv x.2.2.2.2.1 t_L), ((am 17), eI cA 8 t_kind), ((am 19), eI cA 8 t_pitch), ((am 21), eI cA 12 t_word), ((am 22), eI cA 13 x.2.2.2.2.2)] H → va_D A [((am 0), e_X6 am tkv ttv x.2.2.2.2.1 t_L), ((am 17), eI cA 8 t_kind), ((am 19), eI cA 8 t_pitch), ((am 21), eI cA 12 t_word), ((am 22), eI cA 13 x.2.2.2.2.2)] → va_S A s.heap H locs → lv_has ls 6 [(0, .ref (am 0)), (1, .int x.1), (2, .int x.2.1), (3, .int x.2.2.1), (4, .int x.2.2.2.1)] → W p l e rm_X6_listen s m args below meth c H locs 0 0 Q (F0 m 44 ls []) := by
    intro k_33 HK_33 n
    induction n with
    | zero => intro x H locs ls hm; cases (show none = some out from hm)
    | succ n HK_44 =>
      intro x H locs ls hm hP hD hS hl
      replace hm : b_X6_listen_44 fu t_L t_kind t_pitch t_word k_33 (lfix (b_X6_listen_44 fu t_L t_kind t_pitch t_word k_33) n) x = some out := hm
      unfold b_X6_listen_44 at hm
      refine lv_iload hx hb dX6_listen_44 (lv_at hl 4 rfl) ?_
      refine lv_iload_n hx hb dX6_listen_46 rfl (lv_at hl 2 rfl) ?_
      refine lv_if_eq (tgt := 58) hx hb dX6_listen_47 (by decide) (fun c15 => ?_) (fun c15 => ?_)
      · have hm := it_t c15 hm
        exact B_58 _ HK_33 _ HK_44 _ _ _ _ _ _ _ _ _ _ hm hP hD hS (lv_sub hl [0, 1, 2, 3, 4] rfl)
      · have hm := it_f c15 hm
        refine lv_iload_n hx hb dX6_listen_50 rfl (lv_at hl 3 rfl) ?_
        refine lv_if_ne (tgt := 58) hx hb dX6_listen_51 (by decide) (fun c16 => ?_) (fun c16 => ?_)
        · have hm := it_f c16 hm
          exact B_58 _ HK_33 _ HK_44 _ _ _ _ _ _ _ _ _ _ hm hP hD hS (lv_sub hl [0, 1, 2, 3, 4] rfl)
        · have hm := it_t c16 hm
          refine lv_iconst (v := (2 : Int32)) hx hb dX6_listen_54 (by decide) ?_
          refine lv_goto (tgt := 59) hx hb dX6_listen_55 (by decide) ?_
          exact B_59 _ HK_33 _ HK_44 _ _ _ _ _ _ _ _ _ _ _ hm hP hD hS (lv_sub hl [0, 1, 2, 3, 4] rfl)
  have B_33 : ∀ (n : Nat) (x : Int32 × Int32 × Int32 × (Nat → Int32) × (Nat → Int32)) (H : Heap) (locs : List Loc) (ls : Array Slot), lfix (b_X6_listen_33 fu t_L t_kind t_pitch t_word) n x = some out → va_P D CL [((am 0), e_X6 am tkv ttv x.2.2.2.1 t_L), ((am 17), eI cA 8 t_kind), ((am 19), eI cA 8 t_pitch), ((am 21), eI cA 12 t_word), ((am 22), eI cA 13 x.2.2.2.2)] H → va_D A [((am 0), e_X6 am tkv ttv x.2.2.2.1 t_L), ((am 17), eI cA 8 t_kind), ((am 19), eI cA 8 t_pitch), ((am 21), eI cA 12 t_word), ((am 22), eI cA 13 x.2.2.2.2)] → va_S A s.heap H locs → lv_has ls 6 [(0, .ref (am 0)), (1, .int x.1), (2, .int x.2.1), (3, .int x.2.2.1)] → W p l e rm_X6_listen s m args below meth c H locs 0 0 Q (F0 m 33 ls []) := by
    intro  n
    induction n with
    | zero => intro x H locs ls hm; cases (show none = some out from hm)
    | succ n HK_33 =>
      intro x H locs ls hm hP hD hS hl
      replace hm : b_X6_listen_33 fu t_L t_kind t_pitch t_word (lfix (b_X6_listen_33 fu t_L t_kind t_pitch t_word) n) x = some out := hm
      unfold b_X6_listen_33 at hm
      refine lv_iload_n hx hb dX6_listen_33 rfl (lv_at hl 3 rfl) ?_
      refine lv_aload_n hx hb dX6_listen_34 rfl (lv_at hl 0 rfl) ?_
      refine va_get (D := D) (ci := 6) (v := .int (x.2.2.2.1 31)) (C := RX6) (T := TX6) (N := 49) hx hb htg inX6 hown hK hP 0 rfl rfl 31 (by decide) (htg _ q_4_220) (fun _ h9 => h9) rfl dX6_listen_35 ?_
      refine lv_icmp_ge (tgt := 111) hx hb dX6_listen_38 (by decide) (fun c17 => ?_) (fun c17 => ?_)
      · have hm := it_t c17 hm
        refine lv_iconst (v := (0 : Int32)) hx hb dX6_listen_111 (by decide) ?_
        refine lv_istore_n (lv' := [(3, .int (0 : Int32)), (0, .ref (am 0)), (1, .int x.1), (2, .int x.2.1)]) hx hb dX6_listen_112 rfl hl (by decide) rfl (fun ls hl => ?_)
        exact B_113 fu _ _ _ _ hm hP hD hS (lv_sub hl [1, 2, 0] rfl)
      · have hm := it_f c17 hm
        refine lv_iconst (v := (0 : Int32)) hx hb dX6_listen_41 (by decide) ?_
        refine lv_istore (lv' := [(4, .int (0 : Int32)), (0, .ref (am 0)), (1, .int x.1), (2, .int x.2.1), (3, .int x.2.2.1)]) hx hb dX6_listen_42 hl (by decide) rfl (fun ls hl => ?_)
        exact B_44 _ HK_33 fu _ _ _ _ hm hP hD hS (lv_sub hl [1, 2, 3, 4, 0] rfl)
  have B_25 : ∀ (l1 : Int32) (s0 : Int32) (t : Nat → Int32) (t_heard : Nat → Int32) (H : Heap) (locs : List Loc) (ls : Array Slot), b_X6_listen_25 fu t_L t_kind t_pitch t_word l1 s0 t t_heard = some out → va_P D CL [((am 0), e_X6 am tkv ttv t t_L), ((am 17), eI cA 8 t_kind), ((am 19), eI cA 8 t_pitch), ((am 21), eI cA 12 t_word), ((am 22), eI cA 13 t_heard)] H → va_D A [((am 0), e_X6 am tkv ttv t t_L), ((am 17), eI cA 8 t_kind), ((am 19), eI cA 8 t_pitch), ((am 21), eI cA 12 t_word), ((am 22), eI cA 13 t_heard)] → va_S A s.heap H locs → lv_has ls 6 [(0, .ref (am 0)), (1, .int l1)] → W p l e rm_X6_listen s m args below meth c H locs 0 0 Q (F0 m 25 ls [.int s0]) := by
    intro  l1 s0 t t_heard H locs ls hm hP hD hS hl
    unfold b_X6_listen_25 at hm
    refine lv_istore_n (lv' := [(2, .int s0), (0, .ref (am 0)), (1, .int l1)]) hx hb dX6_listen_25 rfl hl (by decide) rfl (fun ls hl => ?_)
    refine lv_aload_n hx hb dX6_listen_26 rfl (lv_at hl 1 rfl) ?_
    refine lv_iconst (v := (0 : Int32)) hx hb dX6_listen_27 (by decide) ?_
    refine va_put (D := D) (ci := 6) (v := .int (0 : Int32)) (ty := .int) (C := RX6) (T := TX6) (N := 49) hx hb htg inX6 tyX6 tyX6_ok nmX6 hown hK hP hD hS 0 rfl rfl 33 (by decide) (htg _ q_4_222) (fun _ h9 => h9) rfl (by decide +kernel) rfl rfl (Nat.le_of_ble_eq_true rfl) dX6_listen_28 (fun H locs (hP : va_P D CL [((am 0), e_X6 am tkv ttv (upd t 33 (0 : Int32)) t_L), ((am 17), eI cA 8 t_kind), ((am 19), eI cA 8 t_pitch), ((am 21), eI cA 12 t_word), ((am 22), eI cA 13 t_heard)] H) (hD : va_D A [((am 0), e_X6 am tkv ttv (upd t 33 (0 : Int32)) t_L), ((am 17), eI cA 8 t_kind), ((am 19), eI cA 8 t_pitch), ((am 21), eI cA 12 t_word), ((am 22), eI cA 13 t_heard)]) hS => ?_)
    refine lv_iconst (v := (0 : Int32)) hx hb dX6_listen_31 (by decide) ?_
    refine lv_istore_n (lv' := [(3, .int (0 : Int32)), (2, .int s0), (0, .ref (am 0)), (1, .int l1)]) hx hb dX6_listen_32 rfl hl (by decide) rfl (fun ls hl => ?_)
    exact B_33 fu _ _ _ _ hm hP hD hS (lv_sub hl [2, 3, 1, 0] rfl)
  have B_20 : ∀ (l1 : Int32) (t : Nat → Int32) (t_heard : Nat → Int32) (H : Heap) (locs : List Loc) (ls : Array Slot), b_X6_listen_20 fu t_L t_kind t_pitch t_word l1 t t_heard = some out → va_P D CL [((am 0), e_X6 am tkv ttv t t_L), ((am 17), eI cA 8 t_kind), ((am 19), eI cA 8 t_pitch), ((am 21), eI cA 12 t_word), ((am 22), eI cA 13 t_heard)] H → va_D A [((am 0), e_X6 am tkv ttv t t_L), ((am 17), eI cA 8 t_kind), ((am 19), eI cA 8 t_pitch), ((am 21), eI cA 12 t_word), ((am 22), eI cA 13 t_heard)] → va_S A s.heap H locs → lv_has ls 6 [(0, .ref (am 0)), (1, .int l1)] → W p l e rm_X6_listen s m args below meth c H locs 0 0 Q (F0 m 20 ls []) := by
    intro  l1 t t_heard H locs ls hm hP hD hS hl
    unfold b_X6_listen_20 at hm
    refine lv_iconst (v := (1 : Int32)) hx hb dX6_listen_20 (by decide) ?_
    refine lv_goto (tgt := 25) hx hb dX6_listen_21 (by decide) ?_
    exact B_25 _ _ _ _ _ _ _ hm hP hD hS (lv_sub hl [0, 1] rfl)
  unfold m_X6_listen at hm
  subst hargs
  have hl := lv_entry ([.ref (am 0), .int l1]) (n := 6) (Nat.le_of_ble_eq_true rfl)
  rw [lg_entry_eq]
  generalize (lg_sl ([.ref (am 0), .int l1]) ++ List.replicate (6 - (lg_sl ([.ref (am 0), .int l1])).length) Slot.unset).toArray = ls at hl ⊢
  have hl : lv_has ls 6 [(0, .ref (am 0)), (1, .int l1)] := hl
  refine lv_aload_n hx hb dX6_listen_0 rfl (lv_at hl 0 rfl) ?_
  refine va_get (D := D) (ci := 6) (v := .ref (am 17)) (C := RX6) (T := TX6) (N := 49) hx hb htg inX6 hown hK hP 0 rfl rfl 17 (by decide) (htg _ q_4_206) (fun _ h9 => h9) rfl dX6_listen_1 ?_
  refine lv_iload_n hx hb dX6_listen_4 rfl (lv_at hl 1 rfl) ?_
  obtain ⟨hi18, hm⟩ := gd_s hm
  refine va_iald hx hb hK hP 1 0 rfl rfl hi18 dX6_listen_5 ?_
  refine lv_iconst (v := (2 : Int32)) hx hb dX6_listen_6 (by decide) ?_
  refine lv_icmp_eq (tgt := 20) hx hb dX6_listen_7 (by decide) (fun c19 => ?_) (fun c19 => ?_)
  · have hm := it_t c19 hm
    exact B_20 _ _ _ _ _ _ hm hP hD hS (lv_sub hl [0, 1] rfl)
  · have hm := it_f c19 hm
    refine lv_aload_n hx hb dX6_listen_10 rfl (lv_at hl 0 rfl) ?_
    refine va_get (D := D) (ci := 6) (v := .ref (am 17)) (C := RX6) (T := TX6) (N := 49) hx hb htg inX6 hown hK hP 0 rfl rfl 17 (by decide) (htg _ q_4_206) (fun _ h9 => h9) rfl dX6_listen_11 ?_
    refine lv_iload_n hx hb dX6_listen_14 rfl (lv_at hl 1 rfl) ?_
    obtain ⟨hi20, hm⟩ := gd_s hm
    refine va_iald hx hb hK hP 1 0 rfl rfl hi20 dX6_listen_15 ?_
    refine lv_iconst (v := (4 : Int32)) hx hb dX6_listen_16 (by decide) ?_
    refine lv_icmp_ne (tgt := 24) hx hb dX6_listen_17 (by decide) (fun c21 => ?_) (fun c21 => ?_)
    · have hm := it_f c21 hm
      refine lv_iconst (v := (0 : Int32)) hx hb dX6_listen_24 (by decide) ?_
      exact B_25 _ _ _ _ _ _ _ hm hP hD hS (lv_sub hl [0, 1] rfl)
    · have hm := it_t c21 hm
      exact B_20 _ _ _ _ _ _ hm hP hD hS (lv_sub hl [0, 1] rfl)
def b_X6_sumOf_9 (fu : Nat) (t_L : Nat → Int64) (t_kind : Nat → Int32) (t_pitch : Nat → Int32) (t_word : Nat → Int32) (k_9 : (Int32 × Int32 × (Nat → Int32) × (Nat → Int32)) → Option (Int32 × ((Nat → Int32) × (Nat → Int32)))) (x : Int32 × Int32 × (Nat → Int32) × (Nat → Int32)) : Option (Int32 × ((Nat → Int32) × (Nat → Int32))) :=
  (if x.2.2.1 33 ≤ x.2.1 then
        some (x.1, (x.2.2.1, x.2.2.2))
      else
        gd (inb x.2.1 13) (
        k_9 ((x.1 + (x.2.2.2 x.2.1.toNatClampNeg)), (x.2.1 + (1 : Int32)), x.2.2.1, x.2.2.2)))
def m_X6_sumOf (fu : Nat) (t : Nat → Int32) (t_L : Nat → Int64) (t_kind : Nat → Int32) (t_pitch : Nat → Int32) (t_word : Nat → Int32) (t_heard : Nat → Int32) (l1 : Int32) : Option (Int32 × ((Nat → Int32) × (Nat → Int32))) :=
  (m_X6_listen fu t t_L t_kind t_pitch t_word t_heard l1).bind fun o3 =>
  lfix (b_X6_sumOf_9 fu t_L t_kind t_pitch t_word) fu ((0 : Int32), (0 : Int32), o3.1, o3.2)
abbrev rm_X6_sumOf : Room := ({ frames := 3, cells := 0, slots := 0, locals := 70 } : Room)
abbrev w0_X6_sumOf (cA : Nat → ClassId) (am : Nat → Nat) (tkv : Value) (ttv : Value) (t : Nat → Int32) (t_L : Nat → Int64) (t_kind : Nat → Int32) (t_pitch : Nat → Int32) (t_word : Nat → Int32) (t_heard : Nat → Int32) : va_W := [((am 0), e_X6 am tkv ttv t t_L), ((am 17), eI cA 8 t_kind), ((am 19), eI cA 8 t_pitch), ((am 21), eI cA 12 t_word), ((am 22), eI cA 13 t_heard)]
abbrev w1_X6_sumOf (cA : Nat → ClassId) (am : Nat → Nat) (tkv : Value) (ttv : Value) (t_L : Nat → Int64) (t_kind : Nat → Int32) (t_pitch : Nat → Int32) (t_word : Nat → Int32) (u : (Nat → Int32) × (Nat → Int32)) : va_W := [((am 0), e_X6 am tkv ttv u.1 t_L), ((am 17), eI cA 8 t_kind), ((am 19), eI cA 8 t_pitch), ((am 21), eI cA 12 t_word), ((am 22), eI cA 13 u.2)]
theorem hd_X6_sumOf : yX6_sumOf.cls = RX6 ∧ yX6_sumOf.cls ≠ "java/lang/invoke/MethodHandle" ∧ yX6_sumOf.cls ≠ "java/lang/invoke/VarHandle" ∧ (parseMethodDescriptor yX6_sumOf.desc).map (fun d => d.parameters.length) = some 1 := by decide +kernel
set_option maxHeartbeats 40000000 in
set_option maxRecDepth 100000 in
theorem c_X6_sumOf (l : Launch) (D : va_G) (cA : Nat → ClassId) (sz : Nat) (fu : Nat) (am : Nat → Nat) (tkv : Value) (ttv : Value) (t : Nat → Int32) (t_L : Nat → Int64) (t_kind : Nat → Int32) (t_pitch : Nat → Int32) (t_word : Nat → Int32) (t_heard : Nat → Int32) (l1 : Int32) (out : Int32 × ((Nat → Int32) × (Nat → Int32))) (hm : m_X6_sumOf fu t t_L t_kind t_pitch t_word t_heard l1 = some out) : MI l yX6_sumOf (wU yX6_sumOf cX6_sumOf 4 ((Option.some Jvm.ClassFile.FieldType.int))) rm_X6_sumOf D cA sz [.ref (am 0), .int l1] (w0_X6_sumOf cA am tkv ttv t t_L t_kind t_pitch t_word t_heard) out (w1_X6_sumOf cA am tkv ttv t_L t_kind t_pitch t_word) := by
  refine Met.ofW (cc := cX6_sumOf) (maxL := 4) (ret := (Option.some Jvm.ClassFile.FieldType.int)) (by decide) rfl ?_
  intro p e s m args below meth c s₁ B hml hv
  obtain ⟨hargs, hsz, hP, hK, hD0, hN⟩ := hv
  have hx := B.exec
  have hb := B.bytes
  have hr := B.returns
  have htg : ∀ w ∈ gw, w.before args s = true := fun w h => atoms_spec (ws := wU yX6_sumOf cX6_sumOf 4 ((Option.some Jvm.ClassFile.FieldType.int))) B.pre w (List.mem_cons_of_mem _ h)
  have hown : s.vm.findClass RX6 = some m.cls := findClass_of_methodNamed B.named
  have hlocks := B.notSynchronized
  subst hsz
  have hD := hD0.self (sz := s.heap.size)
  have hA : ∀ q : Nat, s.heap.size ≤ q → va_A (w0_X6_sumOf cA am tkv ttv t t_L t_kind t_pitch t_word t_heard) s.heap.size q := fun q h => Or.inr h
  have hS : va_S (va_A (w0_X6_sumOf cA am tkv ttv t t_L t_kind t_pitch t_word t_heard) s.heap.size) s.heap s.heap [] := va_S.rf
  generalize va_A (w0_X6_sumOf cA am tkv ttv t t_L t_kind t_pitch t_word t_heard) s.heap.size = A at hA hD hS ⊢
  obtain ⟨Q, hQ⟩ : ∃ Q : State → Prop, Q = MQ below (va_Qi (fun (r : Int32) (u : (Nat → Int32) × (Nat → Int32)) => (r, u) = out) (pst0 D cA A (w1_X6_sumOf cA am tkv ttv t_L t_kind t_pitch t_word)) A) args s 0 0 A := ⟨_, rfl⟩
  refine (?_ : W p l e rm_X6_sumOf s m args below meth c s.heap [] 0 0 (MQ below (va_Qi (fun (r : Int32) (u : (Nat → Int32) × (Nat → Int32)) => (r, u) = out) (pst0 D cA A (w1_X6_sumOf cA am tkv ttv t_L t_kind t_pitch t_word)) A) args s 0 0 A) (entryFrame m args 4))
  rw [← hQ]
  have hP : va_P D CL [((am 0), e_X6 am tkv ttv t t_L), ((am 17), eI cA 8 t_kind), ((am 19), eI cA 8 t_pitch), ((am 21), eI cA 12 t_word), ((am 22), eI cA 13 t_heard)] s.heap := hP
  have hD : va_D A [((am 0), e_X6 am tkv ttv t t_L), ((am 17), eI cA 8 t_kind), ((am 19), eI cA 8 t_pitch), ((am 21), eI cA 12 t_word), ((am 22), eI cA 13 t_heard)] := hD
  have B_9 : ∀ (n : Nat) (x : Int32 × Int32 × (Nat → Int32) × (Nat → Int32)) (H : Heap) (locs : List Loc) (ls : Array Slot), lfix (b_X6_sumOf_9 fu t_L t_kind t_pitch t_word) n x = some out → va_P D CL [((am 0), e_X6 am tkv ttv x.2.2.1 t_L), ((am 17), eI cA 8 t_kind), ((am 19), eI cA 8 t_pitch), ((am 21), eI cA 12 t_word), ((am 22), eI cA 13 x.2.2.2)] H → va_D A [((am 0), e_X6 am tkv ttv x.2.2.1 t_L), ((am 17), eI cA 8 t_kind), ((am 19), eI cA 8 t_pitch), ((am 21), eI cA 12 t_word), ((am 22), eI cA 13 x.2.2.2)] → va_S A s.heap H locs → lv_has ls 4 [(0, .ref (am 0)), (2, .int x.1), (3, .int x.2.1)] → W p l e rm_X6_sumOf s m args below meth c H locs 0 0 Q (F0 m 9 ls []) := by
    intro  n
    induction n with
    | zero => intro x H locs ls hm; cases (show none = some out from hm)
    | succ n HK_9 =>
      intro x H locs ls hm hP hD hS hl
      replace hm : b_X6_sumOf_9 fu t_L t_kind t_pitch t_word (lfix (b_X6_sumOf_9 fu t_L t_kind t_pitch t_word) n) x = some out := hm
      unfold b_X6_sumOf_9 at hm
      refine lv_iload_n hx hb dX6_sumOf_9 rfl (lv_at hl 2 rfl) ?_
      refine lv_aload_n hx hb dX6_sumOf_10 rfl (lv_at hl 0 rfl) ?_
      refine va_get (D := D) (ci := 6) (v := .int (x.2.2.1 33)) (C := RX6) (T := TX6) (N := 49) hx hb htg inX6 hown hK hP 0 rfl rfl 33 (by decide) (htg _ q_4_222) (fun _ h9 => h9) rfl dX6_sumOf_11 ?_
      refine lv_icmp_ge (tgt := 32) hx hb dX6_sumOf_14 (by decide) (fun c1 => ?_) (fun c1 => ?_)
      · have hm := it_t c1 hm
        refine lv_iload_n hx hb dX6_sumOf_32 rfl (lv_at hl 1 rfl) ?_
        rw [hQ]
        exact W.iret (v := x.1) hx hb hr (fun t9 ht hW => ⟨⟨x.1, (x.2.2.1, x.2.2.2), rfl, (Option.some.inj hm), by rw [ht]; exact hP, va_K.moved hW.alike hK, hD⟩, hS.F ht⟩) hS.2.2 dX6_sumOf_33
      · have hm := it_f c1 hm
        refine lv_iload_n hx hb dX6_sumOf_17 rfl (lv_at hl 1 rfl) ?_
        refine lv_aload_n hx hb dX6_sumOf_18 rfl (lv_at hl 0 rfl) ?_
        refine va_get (D := D) (ci := 6) (v := .ref (am 22)) (C := RX6) (T := TX6) (N := 49) hx hb htg inX6 hown hK hP 0 rfl rfl 32 (by decide) (htg _ q_4_221) (fun _ h9 => h9) rfl dX6_sumOf_19 ?_
        refine lv_iload_n hx hb dX6_sumOf_22 rfl (lv_at hl 2 rfl) ?_
        obtain ⟨hi2, hm⟩ := gd_s hm
        refine va_iald hx hb hK hP 4 0 rfl rfl hi2 dX6_sumOf_23 ?_
        refine lv_iadd hx hb dX6_sumOf_24 ?_
        refine lv_istore_n (lv' := [(2, .int (x.1 + (x.2.2.2 x.2.1.toNatClampNeg))), (0, .ref (am 0)), (3, .int x.2.1)]) hx hb dX6_sumOf_25 rfl hl (by decide) rfl (fun ls hl => ?_)
        refine lv_iinc (v := (x.2.1 + (1 : Int32))) (lv' := [(3, .int (x.2.1 + (1 : Int32))), (2, .int (x.1 + (x.2.2.2 x.2.1.toNatClampNeg))), (0, .ref (am 0))]) hx hb dX6_sumOf_26 hl (k := 2) rfl rfl (by decide) rfl (fun ls hl => ?_)
        refine lv_goto (tgt := 9) hx hb dX6_sumOf_29 (by decide) ?_
        exact HK_9 _ _ _ _ hm hP hD hS (lv_sub hl [2, 1, 0] rfl)
  unfold m_X6_sumOf at hm
  subst hargs
  have hl := lv_entry ([.ref (am 0), .int l1]) (n := 4) (Nat.le_of_ble_eq_true rfl)
  rw [lg_entry_eq]
  generalize (lg_sl ([.ref (am 0), .int l1]) ++ List.replicate (4 - (lg_sl ([.ref (am 0), .int l1])).length) Slot.unset).toArray = ls at hl ⊢
  have hl : lv_has ls 4 [(0, .ref (am 0)), (1, .int l1)] := hl
  refine lv_aload_n hx hb dX6_sumOf_0 rfl (lv_at hl 0 rfl) ?_
  refine lv_iload_n hx hb dX6_sumOf_1 rfl (lv_at hl 1 rfl) ?_
  obtain ⟨o3, ho4, hm⟩ := bd_s hm
  refine xr_v (wr := []) (wn := [((am 0), e_X6 am tkv ttv o3.1 t_L), ((am 17), eI cA 8 t_kind), ((am 19), eI cA 8 t_pitch), ((am 21), eI cA 12 t_word), ((am 22), eI cA 13 o3.2)]) (va_runV (As := [.int l1]) (rest := []) ⟨hx, hb, hml, hown, htg⟩ (c_X6_listen l D cA _ fu am tkv ttv t t_L t_kind t_pitch t_word t_heard l1 o3 ho4) (cwV 1 htg (gV q_5_155 q_5_157 q_p5_11 q_1_8 q_5_158) rfl rfl rfl hd_X6_listen ⟨Nat.le_of_ble_eq_true rfl, Nat.le_of_ble_eq_true rfl⟩) (xpV hN hK hP hD [0, 1, 2, 3, 4] rfl (by decide) rfl rfl) rfl rfl hl.1 rfl (lv_room (Nat.le_of_ble_eq_true rfl)) dX6_sumOf_2 ⟨Nat.zero_le _, Nat.zero_le _⟩) hP hD hS hA [0, 1, 2, 3, 4] [] [0, 1, 2, 3, 4] rfl rfl (by decide) (by decide) rfl (by decide) (fun H locs hP hD hS => ?_)
  refine lv_iconst (v := (0 : Int32)) hx hb dX6_sumOf_5 (by decide) ?_
  refine lv_istore_n (lv' := [(2, .int (0 : Int32)), (0, .ref (am 0)), (1, .int l1)]) hx hb dX6_sumOf_6 rfl hl (by decide) rfl (fun ls hl => ?_)
  refine lv_iconst (v := (0 : Int32)) hx hb dX6_sumOf_7 (by decide) ?_
  refine lv_istore_n (lv' := [(3, .int (0 : Int32)), (2, .int (0 : Int32)), (0, .ref (am 0)), (1, .int l1)]) hx hb dX6_sumOf_8 rfl hl (by decide) rfl (fun ls hl => ?_)
  exact B_9 fu _ _ _ _ hm hP hD hS (lv_sub hl [2, 1, 0] rfl)
def b_X6_says_24 (fu : Nat) (t_L : Nat → Int64) (t_shelf : Nat → Int32) (t_shown : Nat → Int32) (t_kind : Nat → Int32) (t_pitch : Nat → Int32) (t : Nat → Int32) (t_refused : Nat → Int32) (t_word : Nat → Int32) (t_heard : Nat → Int32) : Option (Int32 × ((Nat → Int32) × (Nat → Int32) × (Nat → Int32) × (Nat → Int32))) :=
  (m_X6_refuse fu t t_L t_refused (-2 : Int32)).bind fun o1 =>
    some (o1.1, (t, o1.2, t_word, t_heard))
def b_X6_says_69 (fu : Nat) (t_L : Nat → Int64) (t_shelf : Nat → Int32) (t_shown : Nat → Int32) (t_kind : Nat → Int32) (t_pitch : Nat → Int32) (t : Nat → Int32) (t_refused : Nat → Int32) (t_word : Nat → Int32) (t_heard : Nat → Int32) : Option (Int32 × ((Nat → Int32) × (Nat → Int32) × (Nat → Int32) × (Nat → Int32))) :=
  (m_X6_refuse fu t t_L t_refused (-3 : Int32)).bind fun o3 =>
    some (o3.1, (t, o3.2, t_word, t_heard))
def b_X6_says_110 (fu : Nat) (t_L : Nat → Int64) (t_shelf : Nat → Int32) (t_shown : Nat → Int32) (t_kind : Nat → Int32) (t_pitch : Nat → Int32) (k_110 : (Int32 × Int32 × (Nat → Int32) × (Nat → Int32) × (Nat → Int32) × (Nat → Int32)) → Option (Int32 × ((Nat → Int32) × (Nat → Int32) × (Nat → Int32) × (Nat → Int32)))) (x : Int32 × Int32 × (Nat → Int32) × (Nat → Int32) × (Nat → Int32) × (Nat → Int32)) : Option (Int32 × ((Nat → Int32) × (Nat → Int32) × (Nat → Int32) × (Nat → Int32))) :=
  (if (12 : Int32) ≤ x.2.1 then
        gd (inb x.1 8) (
        (m_X6_sumOf fu (upd x.2.2.1 31 (12 : Int32)) t_L t_kind t_pitch x.2.2.2.2.1 x.2.2.2.2.2 (t_shown x.1.toNatClampNeg)).bind fun o7 =>
        some (o7.1, (o7.2.1, x.2.2.2.1, x.2.2.2.2.1, o7.2.2)))
      else
        gd (inb x.2.1 12) (
        k_110 (x.1, (x.2.1 + (1 : Int32)), x.2.2.1, x.2.2.2.1, (upd x.2.2.2.2.1 x.2.1.toNatClampNeg x.2.1), x.2.2.2.2.2)))
def b_X6_says_76 (fu : Nat) (t_L : Nat → Int64) (t_shelf : Nat → Int32) (t_shown : Nat → Int32) (t_kind : Nat → Int32) (t_pitch : Nat → Int32) (l1 : Int32) (l2 : Int32) (t : Nat → Int32) (t_refused : Nat → Int32) (t_word : Nat → Int32) (t_heard : Nat → Int32) : Option (Int32 × ((Nat → Int32) × (Nat → Int32) × (Nat → Int32) × (Nat → Int32))) :=
  gd (inb l1 8) (
    (if (t_shelf l1.toNatClampNeg) = 0 then
      (m_X6_refuse fu t t_L t_refused (-4 : Int32)).bind fun o15 =>
      some (o15.1, (t, o15.2, t_word, t_heard))
    else
      (if l2 = 0 then
        gd (inb l1 8) (
        gd (inb (t_shown l1.toNatClampNeg) 8) (
        some ((t_pitch (t_shown l1.toNatClampNeg).toNatClampNeg), (t, t_refused, t_word, t_heard))))
      else
        lfix (b_X6_says_110 fu t_L t_shelf t_shown t_kind t_pitch) fu (l1, (0 : Int32), t, t_refused, t_word, t_heard))))
def m_X6_says (fu : Nat) (t : Nat → Int32) (t_L : Nat → Int64) (t_shelf : Nat → Int32) (t_shown : Nat → Int32) (t_refused : Nat → Int32) (t_kind : Nat → Int32) (t_pitch : Nat → Int32) (t_word : Nat → Int32) (t_heard : Nat → Int32) (l1 : Int32) (l2 : Int32) : Option (Int32 × ((Nat → Int32) × (Nat → Int32) × (Nat → Int32) × (Nat → Int32))) :=
  (m_X6_in fu l1.toInt64 (0 : Int64) (7 : Int64)).bind fun o17 =>
  (if o17.1 = 0 then
    b_X6_says_24 fu t_L t_shelf t_shown t_kind t_pitch t t_refused t_word t_heard
  else
    (m_X6_in fu l2.toInt64 (0 : Int64) (5 : Int64)).bind fun o20 =>
    (if o20.1 = 0 then
      b_X6_says_24 fu t_L t_shelf t_shown t_kind t_pitch t t_refused t_word t_heard
    else
      gd (inb l1 8) (
      (if (t_shelf l1.toNatClampNeg) = (1 : Int32) then
        b_X6_says_69 fu t_L t_shelf t_shown t_kind t_pitch t t_refused t_word t_heard
      else
        gd (inb l1 8) (
        (if (t_shelf l1.toNatClampNeg) = (2 : Int32) then
          gd (inb l1 8) (
          gd (inb (t_shown l1.toNatClampNeg) 8) (
          (m_X6_isUnder fu (t_kind (t_shown l1.toNatClampNeg).toNatClampNeg) l2).bind fun o29 =>
          (if o29.1 = 0 then
            b_X6_says_69 fu t_L t_shelf t_shown t_kind t_pitch t t_refused t_word t_heard
          else
            b_X6_says_76 fu t_L t_shelf t_shown t_kind t_pitch l1 l2 t t_refused t_word t_heard)))
        else
          b_X6_says_76 fu t_L t_shelf t_shown t_kind t_pitch l1 l2 t t_refused t_word t_heard))))))
abbrev rm_X6_says : Room := ({ frames := 4, cells := 0, slots := 0, locals := 93 } : Room)
abbrev w0_X6_says (cA : Nat → ClassId) (am : Nat → Nat) (tkv : Value) (ttv : Value) (t : Nat → Int32) (t_L : Nat → Int64) (t_shelf : Nat → Int32) (t_shown : Nat → Int32) (t_refused : Nat → Int32) (t_kind : Nat → Int32) (t_pitch : Nat → Int32) (t_word : Nat → Int32) (t_heard : Nat → Int32) : va_W := [((am 0), e_X6 am tkv ttv t t_L), ((am 1), eI cA 8 t_shelf), ((am 14), eI cA 8 t_shown), ((am 16), eI cA 8 t_refused), ((am 17), eI cA 8 t_kind), ((am 19), eI cA 8 t_pitch), ((am 21), eI cA 12 t_word), ((am 22), eI cA 13 t_heard)]
abbrev w1_X6_says (cA : Nat → ClassId) (am : Nat → Nat) (tkv : Value) (ttv : Value) (t_L : Nat → Int64) (t_shelf : Nat → Int32) (t_shown : Nat → Int32) (t_kind : Nat → Int32) (t_pitch : Nat → Int32) (u : (Nat → Int32) × (Nat → Int32) × (Nat → Int32) × (Nat → Int32)) : va_W := [((am 0), e_X6 am tkv ttv u.1 t_L), ((am 1), eI cA 8 t_shelf), ((am 14), eI cA 8 t_shown), ((am 16), eI cA 8 u.2.1), ((am 17), eI cA 8 t_kind), ((am 19), eI cA 8 t_pitch), ((am 21), eI cA 12 u.2.2.1), ((am 22), eI cA 13 u.2.2.2)]
theorem hd_X6_says : yX6_says.cls = RX6 ∧ yX6_says.cls ≠ "java/lang/invoke/MethodHandle" ∧ yX6_says.cls ≠ "java/lang/invoke/VarHandle" ∧ (parseMethodDescriptor yX6_says.desc).map (fun d => d.parameters.length) = some 2 := by decide +kernel
set_option maxHeartbeats 40000000 in
set_option maxRecDepth 100000 in
theorem c_X6_says (l : Launch) (D : va_G) (cA : Nat → ClassId) (sz : Nat) (fu : Nat) (am : Nat → Nat) (tkv : Value) (ttv : Value) (t : Nat → Int32) (t_L : Nat → Int64) (t_shelf : Nat → Int32) (t_shown : Nat → Int32) (t_refused : Nat → Int32) (t_kind : Nat → Int32) (t_pitch : Nat → Int32) (t_word : Nat → Int32) (t_heard : Nat → Int32) (l1 : Int32) (l2 : Int32) (out : Int32 × ((Nat → Int32) × (Nat → Int32) × (Nat → Int32) × (Nat → Int32))) (hm : m_X6_says fu t t_L t_shelf t_shown t_refused t_kind t_pitch t_word t_heard l1 l2 = some out) : MI l yX6_says (wU yX6_says cX6_says 4 ((Option.some Jvm.ClassFile.FieldType.int))) rm_X6_says D cA sz [.ref (am 0), .int l1, .int l2] (w0_X6_says cA am tkv ttv t t_L t_shelf t_shown t_refused t_kind t_pitch t_word t_heard) out (w1_X6_says cA am tkv ttv t_L t_shelf t_shown t_kind t_pitch) := by
  refine Met.ofW (cc := cX6_says) (maxL := 4) (ret := (Option.some Jvm.ClassFile.FieldType.int)) (by decide) rfl ?_
  intro p e s m args below meth c s₁ B hml hv
  obtain ⟨hargs, hsz, hP, hK, hD0, hN⟩ := hv
  have hx := B.exec
  have hb := B.bytes
  have hr := B.returns
  have htg : ∀ w ∈ gw, w.before args s = true := fun w h => atoms_spec (ws := wU yX6_says cX6_says 4 ((Option.some Jvm.ClassFile.FieldType.int))) B.pre w (List.mem_cons_of_mem _ h)
  have hown : s.vm.findClass RX6 = some m.cls := findClass_of_methodNamed B.named
  have hlocks := B.notSynchronized
  subst hsz
  have hD := hD0.self (sz := s.heap.size)
  have hA : ∀ q : Nat, s.heap.size ≤ q → va_A (w0_X6_says cA am tkv ttv t t_L t_shelf t_shown t_refused t_kind t_pitch t_word t_heard) s.heap.size q := fun q h => Or.inr h
  have hS : va_S (va_A (w0_X6_says cA am tkv ttv t t_L t_shelf t_shown t_refused t_kind t_pitch t_word t_heard) s.heap.size) s.heap s.heap [] := va_S.rf
  generalize va_A (w0_X6_says cA am tkv ttv t t_L t_shelf t_shown t_refused t_kind t_pitch t_word t_heard) s.heap.size = A at hA hD hS ⊢
  obtain ⟨Q, hQ⟩ : ∃ Q : State → Prop, Q = MQ below (va_Qi (fun (r : Int32) (u : (Nat → Int32) × (Nat → Int32) × (Nat → Int32) × (Nat → Int32)) => (r, u) = out) (pst0 D cA A (w1_X6_says cA am tkv ttv t_L t_shelf t_shown t_kind t_pitch)) A) args s 0 0 A := ⟨_, rfl⟩
  refine (?_ : W p l e rm_X6_says s m args below meth c s.heap [] 0 0 (MQ below (va_Qi (fun (r : Int32) (u : (Nat → Int32) × (Nat → Int32) × (Nat → Int32) × (Nat → Int32)) => (r, u) = out) (pst0 D cA A (w1_X6_says cA am tkv ttv t_L t_shelf t_shown t_kind t_pitch)) A) args s 0 0 A) (entryFrame m args 4))
  rw [← hQ]
  have hP : va_P D CL [((am 0), e_X6 am tkv ttv t t_L), ((am 1), eI cA 8 t_shelf), ((am 14), eI cA 8 t_shown), ((am 16), eI cA 8 t_refused), ((am 17), eI cA 8 t_kind), ((am 19), eI cA 8 t_pitch), ((am 21), eI cA 12 t_word), ((am 22), eI cA 13 t_heard)] s.heap := hP
  have hD : va_D A [((am 0), e_X6 am tkv ttv t t_L), ((am 1), eI cA 8 t_shelf), ((am 14), eI cA 8 t_shown), ((am 16), eI cA 8 t_refused), ((am 17), eI cA 8 t_kind), ((am 19), eI cA 8 t_pitch), ((am 21), eI cA 12 t_word), ((am 22), eI cA 13 t_heard)] := hD
  have B_24 : ∀ (t : Nat → Int32) (t_refused : Nat → Int32) (t_word : Nat → Int32) (t_heard : Nat → Int32) (H : Heap) (locs : List Loc) (ls : Array Slot), b_X6_says_24 fu t_L t_shelf t_shown t_kind t_pitch t t_refused t_word t_heard = some out → va_P D CL [((am 0), e_X6 am tkv ttv t t_L), ((am 1), eI cA 8 t_shelf), ((am 14), eI cA 8 t_shown), ((am 16), eI cA 8 t_refused), ((am 17), eI cA 8 t_kind), ((am 19), eI cA 8 t_pitch), ((am 21), eI cA 12 t_word), ((am 22), eI cA 13 t_heard)] H → va_D A [((am 0), e_X6 am tkv ttv t t_L), ((am 1), eI cA 8 t_shelf), ((am 14), eI cA 8 t_shown), ((am 16), eI cA 8 t_refused), ((am 17), eI cA 8 t_kind), ((am 19), eI cA 8 t_pitch), ((am 21), eI cA 12 t_word), ((am 22), eI cA 13 t_heard)] → va_S A s.heap H locs → lv_has ls 4 [(0, .ref (am 0))] → W p l e rm_X6_says s m args below meth c H locs 0 0 Q (F0 m 24 ls []) := by
    intro  t t_refused t_word t_heard H locs ls hm hP hD hS hl
    unfold b_X6_says_24 at hm
    refine lv_aload_n hx hb dX6_says_24 rfl (lv_at hl 0 rfl) ?_
    refine lv_bipush (v := (-2 : Int32)) hx hb dX6_says_25 (by decide) ?_
    obtain ⟨o1, ho2, hm⟩ := bd_s hm
    refine xr_i (wr := [((am 1), eI cA 8 t_shelf), ((am 14), eI cA 8 t_shown), ((am 17), eI cA 8 t_kind), ((am 19), eI cA 8 t_pitch), ((am 21), eI cA 12 t_word), ((am 22), eI cA 13 t_heard)]) (wn := [((am 0), e_X6 am tkv ttv t t_L), ((am 1), eI cA 8 t_shelf), ((am 14), eI cA 8 t_shown), ((am 16), eI cA 8 o1.2), ((am 17), eI cA 8 t_kind), ((am 19), eI cA 8 t_pitch), ((am 21), eI cA 12 t_word), ((am 22), eI cA 13 t_heard)]) (va_runV (As := [.int (-2 : Int32)]) (rest := []) ⟨hx, hb, hml, hown, htg⟩ (c_X6_refuse l D cA _ fu am tkv ttv t t_L t_refused (-2 : Int32) o1 ho2) (cwV 1 htg (gV q_5_108 q_5_110 q_p5_7 q_1_8 q_5_111) rfl rfl rfl hd_X6_refuse ⟨Nat.le_of_ble_eq_true rfl, Nat.le_of_ble_eq_true rfl⟩) (xpV hN hK hP hD [0, 3] rfl (by decide) rfl rfl) rfl rfl hl.1 rfl (lv_room (Nat.le_of_ble_eq_true rfl)) dX6_says_27 ⟨Nat.zero_le _, Nat.zero_le _⟩) hP hD hS hA [0, 3] [1, 2, 4, 5, 6, 7] [6, 0, 1, 7, 2, 3, 4, 5] rfl rfl (by decide) (by decide) rfl (by decide) (fun H locs hP hD hS => ?_)
    rw [hQ]
    exact W.iret (v := o1.1) hx hb hr (fun t9 ht hW => ⟨⟨o1.1, (t, o1.2, t_word, t_heard), rfl, (Option.some.inj hm), by rw [ht]; exact hP, va_K.moved hW.alike hK, hD⟩, hS.F ht⟩) hS.2.2 dX6_says_30
  have B_69 : ∀ (t : Nat → Int32) (t_refused : Nat → Int32) (t_word : Nat → Int32) (t_heard : Nat → Int32) (H : Heap) (locs : List Loc) (ls : Array Slot), b_X6_says_69 fu t_L t_shelf t_shown t_kind t_pitch t t_refused t_word t_heard = some out → va_P D CL [((am 0), e_X6 am tkv ttv t t_L), ((am 1), eI cA 8 t_shelf), ((am 14), eI cA 8 t_shown), ((am 16), eI cA 8 t_refused), ((am 17), eI cA 8 t_kind), ((am 19), eI cA 8 t_pitch), ((am 21), eI cA 12 t_word), ((am 22), eI cA 13 t_heard)] H → va_D A [((am 0), e_X6 am tkv ttv t t_L), ((am 1), eI cA 8 t_shelf), ((am 14), eI cA 8 t_shown), ((am 16), eI cA 8 t_refused), ((am 17), eI cA 8 t_kind), ((am 19), eI cA 8 t_pitch), ((am 21), eI cA 12 t_word), ((am 22), eI cA 13 t_heard)] → va_S A s.heap H locs → lv_has ls 4 [(0, .ref (am 0))] → W p l e rm_X6_says s m args below meth c H locs 0 0 Q (F0 m 69 ls []) := by
    intro  t t_refused t_word t_heard H locs ls hm hP hD hS hl
    unfold b_X6_says_69 at hm
    refine lv_aload_n hx hb dX6_says_69 rfl (lv_at hl 0 rfl) ?_
    refine lv_bipush (v := (-3 : Int32)) hx hb dX6_says_70 (by decide) ?_
    obtain ⟨o3, ho4, hm⟩ := bd_s hm
    refine xr_i (wr := [((am 1), eI cA 8 t_shelf), ((am 14), eI cA 8 t_shown), ((am 17), eI cA 8 t_kind), ((am 19), eI cA 8 t_pitch), ((am 21), eI cA 12 t_word), ((am 22), eI cA 13 t_heard)]) (wn := [((am 0), e_X6 am tkv ttv t t_L), ((am 1), eI cA 8 t_shelf), ((am 14), eI cA 8 t_shown), ((am 16), eI cA 8 o3.2), ((am 17), eI cA 8 t_kind), ((am 19), eI cA 8 t_pitch), ((am 21), eI cA 12 t_word), ((am 22), eI cA 13 t_heard)]) (va_runV (As := [.int (-3 : Int32)]) (rest := []) ⟨hx, hb, hml, hown, htg⟩ (c_X6_refuse l D cA _ fu am tkv ttv t t_L t_refused (-3 : Int32) o3 ho4) (cwV 1 htg (gV q_5_108 q_5_110 q_p5_7 q_1_8 q_5_111) rfl rfl rfl hd_X6_refuse ⟨Nat.le_of_ble_eq_true rfl, Nat.le_of_ble_eq_true rfl⟩) (xpV hN hK hP hD [0, 3] rfl (by decide) rfl rfl) rfl rfl hl.1 rfl (lv_room (Nat.le_of_ble_eq_true rfl)) dX6_says_72 ⟨Nat.zero_le _, Nat.zero_le _⟩) hP hD hS hA [0, 3] [1, 2, 4, 5, 6, 7] [6, 0, 1, 7, 2, 3, 4, 5] rfl rfl (by decide) (by decide) rfl (by decide) (fun H locs hP hD hS => ?_)
    rw [hQ]
    exact W.iret (v := o3.1) hx hb hr (fun t9 ht hW => ⟨⟨o3.1, (t, o3.2, t_word, t_heard), rfl, (Option.some.inj hm), by rw [ht]; exact hP, va_K.moved hW.alike hK, hD⟩, hS.F ht⟩) hS.2.2 dX6_says_75
  have B_110 : ∀ (n : Nat) (x : Int32 × Int32 × (Nat → Int32) × (Nat → Int32) × (Nat → Int32) × (Nat → Int32)) (H : Heap) (locs : List Loc) (ls : Array Slot), lfix (b_X6_says_110 fu t_L t_shelf t_shown t_kind t_pitch) n x = some out → va_P D CL [((am 0), e_X6 am tkv ttv x.2.2.1 t_L), ((am 1), eI cA 8 t_shelf), ((am 14), eI cA 8 t_shown), ((am 16), eI cA 8 x.2.2.2.1), ((am 17), eI cA 8 t_kind), ((am 19), eI cA 8 t_pitch), ((am 21), eI cA 12 x.2.2.2.2.1), ((am 22), eI cA 13 x.2.2.2.2.2)] H → va_D A [((am 0), e_X6 am tkv ttv x.2.2.1 t_L), ((am 1), eI cA 8 t_shelf), ((am 14), eI cA 8 t_shown), ((am 16), eI cA 8 x.2.2.2.1), ((am 17), eI cA 8 t_kind), ((am 19), eI cA 8 t_pitch), ((am 21), eI cA 12 x.2.2.2.2.1), ((am 22), eI cA 13 x.2.2.2.2.2)] → va_S A s.heap H locs → lv_has ls 4 [(0, .ref (am 0)), (1, .int x.1), (3, .int x.2.1)] → W p l e rm_X6_says s m args below meth c H locs 0 0 Q (F0 m 110 ls []) := by
    intro  n
    induction n with
    | zero => intro x H locs ls hm; cases (show none = some out from hm)
    | succ n HK_110 =>
      intro x H locs ls hm hP hD hS hl
      replace hm : b_X6_says_110 fu t_L t_shelf t_shown t_kind t_pitch (lfix (b_X6_says_110 fu t_L t_shelf t_shown t_kind t_pitch) n) x = some out := hm
      unfold b_X6_says_110 at hm
      refine lv_iload_n hx hb dX6_says_110 rfl (lv_at hl 2 rfl) ?_
      refine lv_bipush (v := (12 : Int32)) hx hb dX6_says_111 (by decide) ?_
      refine lv_icmp_ge (tgt := 129) hx hb dX6_says_113 (by decide) (fun c5 => ?_) (fun c5 => ?_)
      · have hm := it_t c5 hm
        refine lv_aload_n hx hb dX6_says_129 rfl (lv_at hl 0 rfl) ?_
        refine lv_bipush (v := (12 : Int32)) hx hb dX6_says_130 (by decide) ?_
        refine va_put (D := D) (ci := 6) (v := .int (12 : Int32)) (ty := .int) (C := RX6) (T := TX6) (N := 49) hx hb htg inX6 tyX6 tyX6_ok nmX6 hown hK hP hD hS 0 rfl rfl 31 (by decide) (htg _ q_4_220) (fun _ h9 => h9) rfl (by decide +kernel) rfl rfl (Nat.le_of_ble_eq_true rfl) dX6_says_132 (fun H locs (hP : va_P D CL [((am 0), e_X6 am tkv ttv (upd x.2.2.1 31 (12 : Int32)) t_L), ((am 1), eI cA 8 t_shelf), ((am 14), eI cA 8 t_shown), ((am 16), eI cA 8 x.2.2.2.1), ((am 17), eI cA 8 t_kind), ((am 19), eI cA 8 t_pitch), ((am 21), eI cA 12 x.2.2.2.2.1), ((am 22), eI cA 13 x.2.2.2.2.2)] H) (hD : va_D A [((am 0), e_X6 am tkv ttv (upd x.2.2.1 31 (12 : Int32)) t_L), ((am 1), eI cA 8 t_shelf), ((am 14), eI cA 8 t_shown), ((am 16), eI cA 8 x.2.2.2.1), ((am 17), eI cA 8 t_kind), ((am 19), eI cA 8 t_pitch), ((am 21), eI cA 12 x.2.2.2.2.1), ((am 22), eI cA 13 x.2.2.2.2.2)]) hS => ?_)
        refine lv_aload_n hx hb dX6_says_135 rfl (lv_at hl 0 rfl) ?_
        refine lv_aload_n hx hb dX6_says_136 rfl (lv_at hl 0 rfl) ?_
        refine va_get (D := D) (ci := 6) (v := .ref (am 14)) (C := RX6) (T := TX6) (N := 49) hx hb htg inX6 hown hK hP 0 rfl rfl 5 (by decide) (htg _ q_4_194) (fun _ h9 => h9) rfl dX6_says_137 ?_
        refine lv_iload_n hx hb dX6_says_140 rfl (lv_at hl 1 rfl) ?_
        obtain ⟨hi6, hm⟩ := gd_s hm
        refine va_iald hx hb hK hP 2 0 rfl rfl hi6 dX6_says_141 ?_
        obtain ⟨o7, ho8, hm⟩ := bd_s hm
        refine xr_i (wr := [((am 1), eI cA 8 t_shelf), ((am 14), eI cA 8 t_shown), ((am 16), eI cA 8 x.2.2.2.1)]) (wn := [((am 0), e_X6 am tkv ttv o7.2.1 t_L), ((am 1), eI cA 8 t_shelf), ((am 14), eI cA 8 t_shown), ((am 16), eI cA 8 x.2.2.2.1), ((am 17), eI cA 8 t_kind), ((am 19), eI cA 8 t_pitch), ((am 21), eI cA 12 x.2.2.2.2.1), ((am 22), eI cA 13 o7.2.2)]) (va_runV (As := [.int (t_shown x.1.toNatClampNeg)]) (rest := []) ⟨hx, hb, hml, hown, htg⟩ (c_X6_sumOf l D cA _ fu am tkv ttv (upd x.2.2.1 31 (12 : Int32)) t_L t_kind t_pitch x.2.2.2.2.1 x.2.2.2.2.2 (t_shown x.1.toNatClampNeg) o7 ho8) (cwV 1 htg (gV q_5_151 q_5_153 q_p5_10 q_1_8 q_5_154) rfl rfl rfl hd_X6_sumOf ⟨Nat.le_of_ble_eq_true rfl, Nat.le_of_ble_eq_true rfl⟩) (xpV hN hK hP hD [0, 4, 5, 6, 7] rfl (by decide) rfl rfl) rfl rfl hl.1 rfl (lv_room (Nat.le_of_ble_eq_true rfl)) dX6_says_142 ⟨Nat.zero_le _, Nat.zero_le _⟩) hP hD hS hA [0, 4, 5, 6, 7] [1, 2, 3] [3, 0, 1, 2, 4, 5, 6, 7] rfl rfl (by decide) (by decide) rfl (by decide) (fun H locs hP hD hS => ?_)
        rw [hQ]
        exact W.iret (v := o7.1) hx hb hr (fun t9 ht hW => ⟨⟨o7.1, (o7.2.1, x.2.2.2.1, x.2.2.2.2.1, o7.2.2), rfl, (Option.some.inj hm), by rw [ht]; exact hP, va_K.moved hW.alike hK, hD⟩, hS.F ht⟩) hS.2.2 dX6_says_145
      · have hm := it_f c5 hm
        refine lv_aload_n hx hb dX6_says_116 rfl (lv_at hl 0 rfl) ?_
        refine va_get (D := D) (ci := 6) (v := .ref (am 21)) (C := RX6) (T := TX6) (N := 49) hx hb htg inX6 hown hK hP 0 rfl rfl 30 (by decide) (htg _ q_4_219) (fun _ h9 => h9) rfl dX6_says_117 ?_
        refine lv_iload_n hx hb dX6_says_120 rfl (lv_at hl 2 rfl) ?_
        refine lv_iload_n hx hb dX6_says_121 rfl (lv_at hl 2 rfl) ?_
        obtain ⟨hi9, hm⟩ := gd_s hm
        refine va_iast hx hb hK hP hD hS 6 0 rfl rfl hi9 dX6_says_122 (fun H locs (hP : va_P D CL [((am 0), e_X6 am tkv ttv x.2.2.1 t_L), ((am 1), eI cA 8 t_shelf), ((am 14), eI cA 8 t_shown), ((am 16), eI cA 8 x.2.2.2.1), ((am 17), eI cA 8 t_kind), ((am 19), eI cA 8 t_pitch), ((am 21), eI cA 12 (upd x.2.2.2.2.1 x.2.1.toNatClampNeg x.2.1)), ((am 22), eI cA 13 x.2.2.2.2.2)] H) (hD : va_D A [((am 0), e_X6 am tkv ttv x.2.2.1 t_L), ((am 1), eI cA 8 t_shelf), ((am 14), eI cA 8 t_shown), ((am 16), eI cA 8 x.2.2.2.1), ((am 17), eI cA 8 t_kind), ((am 19), eI cA 8 t_pitch), ((am 21), eI cA 12 (upd x.2.2.2.2.1 x.2.1.toNatClampNeg x.2.1)), ((am 22), eI cA 13 x.2.2.2.2.2)]) hS => ?_)
        refine lv_iinc (v := (x.2.1 + (1 : Int32))) (lv' := [(3, .int (x.2.1 + (1 : Int32))), (0, .ref (am 0)), (1, .int x.1)]) hx hb dX6_says_123 hl (k := 2) rfl rfl (by decide) rfl (fun ls hl => ?_)
        refine lv_goto (tgt := 110) hx hb dX6_says_126 (by decide) ?_
        exact HK_110 _ _ _ _ hm hP hD hS (lv_sub hl [1, 2, 0] rfl)
  have B_76 : ∀ (l1 : Int32) (l2 : Int32) (t : Nat → Int32) (t_refused : Nat → Int32) (t_word : Nat → Int32) (t_heard : Nat → Int32) (H : Heap) (locs : List Loc) (ls : Array Slot), b_X6_says_76 fu t_L t_shelf t_shown t_kind t_pitch l1 l2 t t_refused t_word t_heard = some out → va_P D CL [((am 0), e_X6 am tkv ttv t t_L), ((am 1), eI cA 8 t_shelf), ((am 14), eI cA 8 t_shown), ((am 16), eI cA 8 t_refused), ((am 17), eI cA 8 t_kind), ((am 19), eI cA 8 t_pitch), ((am 21), eI cA 12 t_word), ((am 22), eI cA 13 t_heard)] H → va_D A [((am 0), e_X6 am tkv ttv t t_L), ((am 1), eI cA 8 t_shelf), ((am 14), eI cA 8 t_shown), ((am 16), eI cA 8 t_refused), ((am 17), eI cA 8 t_kind), ((am 19), eI cA 8 t_pitch), ((am 21), eI cA 12 t_word), ((am 22), eI cA 13 t_heard)] → va_S A s.heap H locs → lv_has ls 4 [(0, .ref (am 0)), (1, .int l1), (2, .int l2)] → W p l e rm_X6_says s m args below meth c H locs 0 0 Q (F0 m 76 ls []) := by
    intro  l1 l2 t t_refused t_word t_heard H locs ls hm hP hD hS hl
    unfold b_X6_says_76 at hm
    refine lv_aload_n hx hb dX6_says_76 rfl (lv_at hl 0 rfl) ?_
    refine va_get (D := D) (ci := 6) (v := .ref (am 1)) (C := RX6) (T := TX6) (N := 49) hx hb htg inX6 hown hK hP 0 rfl rfl 0 (by decide) (htg _ q_4_189) (fun _ h9 => h9) rfl dX6_says_77 ?_
    refine lv_iload_n hx hb dX6_says_80 rfl (lv_at hl 1 rfl) ?_
    obtain ⟨hi10, hm⟩ := gd_s hm
    refine va_iald hx hb hK hP 1 0 rfl rfl hi10 dX6_says_81 ?_
    refine lv_if_ne (tgt := 92) hx hb dX6_says_82 (by decide) (fun c11 => ?_) (fun c11 => ?_)
    · have hm := it_f c11 hm
      refine lv_iload_n hx hb dX6_says_92 rfl (lv_at hl 2 rfl) ?_
      refine lv_if_ne (tgt := 108) hx hb dX6_says_93 (by decide) (fun c12 => ?_) (fun c12 => ?_)
      · have hm := it_f c12 hm
        refine lv_iconst (v := (0 : Int32)) hx hb dX6_says_108 (by decide) ?_
        refine lv_istore_n (lv' := [(3, .int (0 : Int32)), (0, .ref (am 0)), (1, .int l1), (2, .int l2)]) hx hb dX6_says_109 rfl hl (by decide) rfl (fun ls hl => ?_)
        exact B_110 fu _ _ _ _ hm hP hD hS (lv_sub hl [1, 2, 0] rfl)
      · have hm := it_t c12 hm
        refine lv_aload_n hx hb dX6_says_96 rfl (lv_at hl 0 rfl) ?_
        refine va_get (D := D) (ci := 6) (v := .ref (am 19)) (C := RX6) (T := TX6) (N := 49) hx hb htg inX6 hown hK hP 0 rfl rfl 19 (by decide) (htg _ q_4_208) (fun _ h9 => h9) rfl dX6_says_97 ?_
        refine lv_aload_n hx hb dX6_says_100 rfl (lv_at hl 0 rfl) ?_
        refine va_get (D := D) (ci := 6) (v := .ref (am 14)) (C := RX6) (T := TX6) (N := 49) hx hb htg inX6 hown hK hP 0 rfl rfl 5 (by decide) (htg _ q_4_194) (fun _ h9 => h9) rfl dX6_says_101 ?_
        refine lv_iload_n hx hb dX6_says_104 rfl (lv_at hl 1 rfl) ?_
        obtain ⟨hi13, hm⟩ := gd_s hm
        refine va_iald hx hb hK hP 2 0 rfl rfl hi13 dX6_says_105 ?_
        obtain ⟨hi14, hm⟩ := gd_s hm
        refine va_iald hx hb hK hP 5 0 rfl rfl hi14 dX6_says_106 ?_
        rw [hQ]
        exact W.iret (v := (t_pitch (t_shown l1.toNatClampNeg).toNatClampNeg)) hx hb hr (fun t9 ht hW => ⟨⟨(t_pitch (t_shown l1.toNatClampNeg).toNatClampNeg), (t, t_refused, t_word, t_heard), rfl, (Option.some.inj hm), by rw [ht]; exact hP, va_K.moved hW.alike hK, hD⟩, hS.F ht⟩) hS.2.2 dX6_says_107
    · have hm := it_t c11 hm
      refine lv_aload_n hx hb dX6_says_85 rfl (lv_at hl 0 rfl) ?_
      refine lv_bipush (v := (-4 : Int32)) hx hb dX6_says_86 (by decide) ?_
      obtain ⟨o15, ho16, hm⟩ := bd_s hm
      refine xr_i (wr := [((am 1), eI cA 8 t_shelf), ((am 14), eI cA 8 t_shown), ((am 17), eI cA 8 t_kind), ((am 19), eI cA 8 t_pitch), ((am 21), eI cA 12 t_word), ((am 22), eI cA 13 t_heard)]) (wn := [((am 0), e_X6 am tkv ttv t t_L), ((am 1), eI cA 8 t_shelf), ((am 14), eI cA 8 t_shown), ((am 16), eI cA 8 o15.2), ((am 17), eI cA 8 t_kind), ((am 19), eI cA 8 t_pitch), ((am 21), eI cA 12 t_word), ((am 22), eI cA 13 t_heard)]) (va_runV (As := [.int (-4 : Int32)]) (rest := []) ⟨hx, hb, hml, hown, htg⟩ (c_X6_refuse l D cA _ fu am tkv ttv t t_L t_refused (-4 : Int32) o15 ho16) (cwV 1 htg (gV q_5_108 q_5_110 q_p5_7 q_1_8 q_5_111) rfl rfl rfl hd_X6_refuse ⟨Nat.le_of_ble_eq_true rfl, Nat.le_of_ble_eq_true rfl⟩) (xpV hN hK hP hD [0, 3] rfl (by decide) rfl rfl) rfl rfl hl.1 rfl (lv_room (Nat.le_of_ble_eq_true rfl)) dX6_says_88 ⟨Nat.zero_le _, Nat.zero_le _⟩) hP hD hS hA [0, 3] [1, 2, 4, 5, 6, 7] [6, 0, 1, 7, 2, 3, 4, 5] rfl rfl (by decide) (by decide) rfl (by decide) (fun H locs hP hD hS => ?_)
      rw [hQ]
      exact W.iret (v := o15.1) hx hb hr (fun t9 ht hW => ⟨⟨o15.1, (t, o15.2, t_word, t_heard), rfl, (Option.some.inj hm), by rw [ht]; exact hP, va_K.moved hW.alike hK, hD⟩, hS.F ht⟩) hS.2.2 dX6_says_91
  unfold m_X6_says at hm
  subst hargs
  have hl := lv_entry ([.ref (am 0), .int l1, .int l2]) (n := 4) (Nat.le_of_ble_eq_true rfl)
  rw [lg_entry_eq]
  generalize (lg_sl ([.ref (am 0), .int l1, .int l2]) ++ List.replicate (4 - (lg_sl ([.ref (am 0), .int l1, .int l2])).length) Slot.unset).toArray = ls at hl ⊢
  have hl : lv_has ls 4 [(0, .ref (am 0)), (1, .int l1), (2, .int l2)] := hl
  refine lv_iload_n hx hb dX6_says_0 rfl (lv_at hl 1 rfl) ?_
  refine lv_i2l hx hb dX6_says_1 rfl ?_
  refine lv_lconst (v := (0 : Int64)) hx hb dX6_says_2 (by decide) ?_
  refine lv_ldc2 (v := (7 : Int64)) hx hb hown (htg _ q_5_102) dX6_says_3 ?_
  obtain ⟨o17, ho18, hm⟩ := bd_s hm
  refine xr_i (wr := [((am 0), e_X6 am tkv ttv t t_L), ((am 1), eI cA 8 t_shelf), ((am 14), eI cA 8 t_shown), ((am 16), eI cA 8 t_refused), ((am 17), eI cA 8 t_kind), ((am 19), eI cA 8 t_pitch), ((am 21), eI cA 12 t_word), ((am 22), eI cA 13 t_heard)]) (wn := [((am 0), e_X6 am tkv ttv t t_L), ((am 1), eI cA 8 t_shelf), ((am 14), eI cA 8 t_shown), ((am 16), eI cA 8 t_refused), ((am 17), eI cA 8 t_kind), ((am 19), eI cA 8 t_pitch), ((am 21), eI cA 12 t_word), ((am 22), eI cA 13 t_heard)]) (va_runS (As := [.long l1.toInt64, .long (0 : Int64), .long (7 : Int64)]) (rest := []) ⟨hx, hb, hml, hown, htg⟩ (c_X6_in l D cA _ fu l1.toInt64 (0 : Int64) (7 : Int64) o17 ho18) (cwS 3 htg (gS q_5_103 q_5_104 q_1_8 q_5_105) rfl rfl rfl hd_X6_in ⟨Nat.le_of_ble_eq_true rfl, Nat.le_of_ble_eq_true rfl⟩) (xpS hN hK hP hD [] rfl (by decide)) rfl rfl hl.1 rfl (lv_room (Nat.le_of_ble_eq_true rfl)) dX6_says_6 ⟨Nat.zero_le _, Nat.zero_le _⟩) hP hD hS hA [] [0, 1, 2, 3, 4, 5, 6, 7] [0, 1, 2, 3, 4, 5, 6, 7] rfl rfl (by decide) (by decide) rfl (by decide) (fun H locs hP hD hS => ?_)
  refine lv_if_eq (tgt := 24) hx hb dX6_says_9 (by decide) (fun c19 => ?_) (fun c19 => ?_)
  · have hm := it_t c19 hm
    exact B_24 _ _ _ _ _ _ _ hm hP hD hS (lv_sub hl [0] rfl)
  · have hm := it_f c19 hm
    refine lv_iload_n hx hb dX6_says_12 rfl (lv_at hl 2 rfl) ?_
    refine lv_i2l hx hb dX6_says_13 rfl ?_
    refine lv_lconst (v := (0 : Int64)) hx hb dX6_says_14 (by decide) ?_
    refine lv_ldc2 (v := (5 : Int64)) hx hb hown (htg _ q_5_147) dX6_says_15 ?_
    obtain ⟨o20, ho21, hm⟩ := bd_s hm
    refine xr_i (wr := [((am 0), e_X6 am tkv ttv t t_L), ((am 1), eI cA 8 t_shelf), ((am 14), eI cA 8 t_shown), ((am 16), eI cA 8 t_refused), ((am 17), eI cA 8 t_kind), ((am 19), eI cA 8 t_pitch), ((am 21), eI cA 12 t_word), ((am 22), eI cA 13 t_heard)]) (wn := [((am 0), e_X6 am tkv ttv t t_L), ((am 1), eI cA 8 t_shelf), ((am 14), eI cA 8 t_shown), ((am 16), eI cA 8 t_refused), ((am 17), eI cA 8 t_kind), ((am 19), eI cA 8 t_pitch), ((am 21), eI cA 12 t_word), ((am 22), eI cA 13 t_heard)]) (va_runS (As := [.long l2.toInt64, .long (0 : Int64), .long (5 : Int64)]) (rest := []) ⟨hx, hb, hml, hown, htg⟩ (c_X6_in l D cA _ fu l2.toInt64 (0 : Int64) (5 : Int64) o20 ho21) (cwS 3 htg (gS q_5_103 q_5_104 q_1_8 q_5_105) rfl rfl rfl hd_X6_in ⟨Nat.le_of_ble_eq_true rfl, Nat.le_of_ble_eq_true rfl⟩) (xpS hN hK hP hD [] rfl (by decide)) rfl rfl hl.1 rfl (lv_room (Nat.le_of_ble_eq_true rfl)) dX6_says_18 ⟨Nat.zero_le _, Nat.zero_le _⟩) hP hD hS hA [] [0, 1, 2, 3, 4, 5, 6, 7] [0, 1, 2, 3, 4, 5, 6, 7] rfl rfl (by decide) (by decide) rfl (by decide) (fun H locs hP hD hS => ?_)
    refine lv_if_ne (tgt := 31) hx hb dX6_says_21 (by decide) (fun c22 => ?_) (fun c22 => ?_)
    · have hm := it_f c22 hm
      refine lv_aload_n hx hb dX6_says_31 rfl (lv_at hl 0 rfl) ?_
      refine va_get (D := D) (ci := 6) (v := .ref (am 1)) (C := RX6) (T := TX6) (N := 49) hx hb htg inX6 hown hK hP 0 rfl rfl 0 (by decide) (htg _ q_4_189) (fun _ h9 => h9) rfl dX6_says_32 ?_
      refine lv_iload_n hx hb dX6_says_35 rfl (lv_at hl 1 rfl) ?_
      obtain ⟨hi23, hm⟩ := gd_s hm
      refine va_iald hx hb hK hP 1 0 rfl rfl hi23 dX6_says_36 ?_
      refine lv_iconst (v := (1 : Int32)) hx hb dX6_says_37 (by decide) ?_
      refine lv_icmp_eq (tgt := 69) hx hb dX6_says_38 (by decide) (fun c24 => ?_) (fun c24 => ?_)
      · have hm := it_t c24 hm
        exact B_69 _ _ _ _ _ _ _ hm hP hD hS (lv_sub hl [0] rfl)
      · have hm := it_f c24 hm
        refine lv_aload_n hx hb dX6_says_41 rfl (lv_at hl 0 rfl) ?_
        refine va_get (D := D) (ci := 6) (v := .ref (am 1)) (C := RX6) (T := TX6) (N := 49) hx hb htg inX6 hown hK hP 0 rfl rfl 0 (by decide) (htg _ q_4_189) (fun _ h9 => h9) rfl dX6_says_42 ?_
        refine lv_iload_n hx hb dX6_says_45 rfl (lv_at hl 1 rfl) ?_
        obtain ⟨hi25, hm⟩ := gd_s hm
        refine va_iald hx hb hK hP 1 0 rfl rfl hi25 dX6_says_46 ?_
        refine lv_iconst (v := (2 : Int32)) hx hb dX6_says_47 (by decide) ?_
        refine lv_icmp_ne (tgt := 76) hx hb dX6_says_48 (by decide) (fun c26 => ?_) (fun c26 => ?_)
        · have hm := it_f c26 hm
          exact B_76 _ _ _ _ _ _ _ _ _ hm hP hD hS (lv_sub hl [0, 1, 2] rfl)
        · have hm := it_t c26 hm
          refine lv_aload_n hx hb dX6_says_51 rfl (lv_at hl 0 rfl) ?_
          refine va_get (D := D) (ci := 6) (v := .ref (am 17)) (C := RX6) (T := TX6) (N := 49) hx hb htg inX6 hown hK hP 0 rfl rfl 17 (by decide) (htg _ q_4_206) (fun _ h9 => h9) rfl dX6_says_52 ?_
          refine lv_aload_n hx hb dX6_says_55 rfl (lv_at hl 0 rfl) ?_
          refine va_get (D := D) (ci := 6) (v := .ref (am 14)) (C := RX6) (T := TX6) (N := 49) hx hb htg inX6 hown hK hP 0 rfl rfl 5 (by decide) (htg _ q_4_194) (fun _ h9 => h9) rfl dX6_says_56 ?_
          refine lv_iload_n hx hb dX6_says_59 rfl (lv_at hl 1 rfl) ?_
          obtain ⟨hi27, hm⟩ := gd_s hm
          refine va_iald hx hb hK hP 2 0 rfl rfl hi27 dX6_says_60 ?_
          obtain ⟨hi28, hm⟩ := gd_s hm
          refine va_iald hx hb hK hP 4 0 rfl rfl hi28 dX6_says_61 ?_
          refine lv_iload_n hx hb dX6_says_62 rfl (lv_at hl 2 rfl) ?_
          obtain ⟨o29, ho30, hm⟩ := bd_s hm
          refine xr_i (wr := [((am 0), e_X6 am tkv ttv t t_L), ((am 1), eI cA 8 t_shelf), ((am 14), eI cA 8 t_shown), ((am 16), eI cA 8 t_refused), ((am 17), eI cA 8 t_kind), ((am 19), eI cA 8 t_pitch), ((am 21), eI cA 12 t_word), ((am 22), eI cA 13 t_heard)]) (wn := [((am 0), e_X6 am tkv ttv t t_L), ((am 1), eI cA 8 t_shelf), ((am 14), eI cA 8 t_shown), ((am 16), eI cA 8 t_refused), ((am 17), eI cA 8 t_kind), ((am 19), eI cA 8 t_pitch), ((am 21), eI cA 12 t_word), ((am 22), eI cA 13 t_heard)]) (va_runS (As := [.int (t_kind (t_shown l1.toNatClampNeg).toNatClampNeg), .int l2]) (rest := []) ⟨hx, hb, hml, hown, htg⟩ (c_X6_isUnder l D cA _ fu (t_kind (t_shown l1.toNatClampNeg).toNatClampNeg) l2 o29 ho30) (cwS 2 htg (gS q_5_148 q_5_149 q_1_8 q_5_150) rfl rfl rfl hd_X6_isUnder ⟨Nat.le_of_ble_eq_true rfl, Nat.le_of_ble_eq_true rfl⟩) (xpS hN hK hP hD [] rfl (by decide)) rfl rfl hl.1 rfl (lv_room (Nat.le_of_ble_eq_true rfl)) dX6_says_63 ⟨Nat.zero_le _, Nat.zero_le _⟩) hP hD hS hA [] [0, 1, 2, 3, 4, 5, 6, 7] [0, 1, 2, 3, 4, 5, 6, 7] rfl rfl (by decide) (by decide) rfl (by decide) (fun H locs hP hD hS => ?_)
          refine lv_if_ne (tgt := 76) hx hb dX6_says_66 (by decide) (fun c31 => ?_) (fun c31 => ?_)
          · have hm := it_f c31 hm
            exact B_76 _ _ _ _ _ _ _ _ _ hm hP hD hS (lv_sub hl [0, 1, 2] rfl)
          · have hm := it_t c31 hm
            exact B_69 _ _ _ _ _ _ _ hm hP hD hS (lv_sub hl [0] rfl)
    · have hm := it_t c22 hm
      exact B_24 _ _ _ _ _ _ _ hm hP hD hS (lv_sub hl [0] rfl)
def m_X6_addVoice (fu : Nat) (t : Nat → Int32) (t_L : Nat → Int64) (t_kind : Nat → Int32) (t_by : Nat → Int32) (t_pitch : Nat → Int32) (l1 : Int32) (l2 : Int32) (l3 : Int32) : Option ((Nat → Int32) × (Nat → Int32) × (Nat → Int32) × (Nat → Int32)) :=
  gd (inb (t 16) 8) (
  gd (inb (t 16) 8) (
  gd (inb (t 16) 8) (
  some ((upd t 16 (t 16 + (1 : Int32))), (upd t_kind (t 16).toNatClampNeg l1), (upd t_by (t 16).toNatClampNeg l2), (upd t_pitch (t 16).toNatClampNeg l3)))))
abbrev rm_X6_addVoice : Room := ({ frames := 0, cells := 0, slots := 0, locals := 0 } : Room)
abbrev w0_X6_addVoice (cA : Nat → ClassId) (am : Nat → Nat) (tkv : Value) (ttv : Value) (t : Nat → Int32) (t_L : Nat → Int64) (t_kind : Nat → Int32) (t_by : Nat → Int32) (t_pitch : Nat → Int32) : va_W := [((am 0), e_X6 am tkv ttv t t_L), ((am 17), eI cA 8 t_kind), ((am 18), eI cA 8 t_by), ((am 19), eI cA 8 t_pitch)]
abbrev w1_X6_addVoice (cA : Nat → ClassId) (am : Nat → Nat) (tkv : Value) (ttv : Value) (t_L : Nat → Int64) (u : (Nat → Int32) × (Nat → Int32) × (Nat → Int32) × (Nat → Int32)) : va_W := [((am 0), e_X6 am tkv ttv u.1 t_L), ((am 17), eI cA 8 u.2.1), ((am 18), eI cA 8 u.2.2.1), ((am 19), eI cA 8 u.2.2.2)]
theorem hd_X6_addVoice : yX6_addVoice.cls = RX6 ∧ yX6_addVoice.cls ≠ "java/lang/invoke/MethodHandle" ∧ yX6_addVoice.cls ≠ "java/lang/invoke/VarHandle" ∧ (parseMethodDescriptor yX6_addVoice.desc).map (fun d => d.parameters.length) = some 3 := by decide +kernel
set_option maxHeartbeats 40000000 in
set_option maxRecDepth 100000 in
theorem c_X6_addVoice (l : Launch) (D : va_G) (cA : Nat → ClassId) (sz : Nat) (fu : Nat) (am : Nat → Nat) (tkv : Value) (ttv : Value) (t : Nat → Int32) (t_L : Nat → Int64) (t_kind : Nat → Int32) (t_by : Nat → Int32) (t_pitch : Nat → Int32) (l1 : Int32) (l2 : Int32) (l3 : Int32) (out : (Nat → Int32) × (Nat → Int32) × (Nat → Int32) × (Nat → Int32)) (hm : m_X6_addVoice fu t t_L t_kind t_by t_pitch l1 l2 l3 = some out) : MV l yX6_addVoice (wU yX6_addVoice cX6_addVoice 4 ((Option.none : Option Jvm.ClassFile.FieldType))) rm_X6_addVoice D cA sz [.ref (am 0), .int l1, .int l2, .int l3] (w0_X6_addVoice cA am tkv ttv t t_L t_kind t_by t_pitch) out (w1_X6_addVoice cA am tkv ttv t_L) := by
  refine Met.ofW (cc := cX6_addVoice) (maxL := 4) (ret := (Option.none : Option Jvm.ClassFile.FieldType)) (by decide) rfl ?_
  intro p e s m args below meth c s₁ B hml hv
  obtain ⟨hargs, hsz, hP, hK, hD0, hN⟩ := hv
  have hx := B.exec
  have hb := B.bytes
  have hr := B.returns
  have htg : ∀ w ∈ gw, w.before args s = true := fun w h => atoms_spec (ws := wU yX6_addVoice cX6_addVoice 4 ((Option.none : Option Jvm.ClassFile.FieldType))) B.pre w (List.mem_cons_of_mem _ h)
  have hown : s.vm.findClass RX6 = some m.cls := findClass_of_methodNamed B.named
  have hlocks := B.notSynchronized
  subst hsz
  have hD := hD0.self (sz := s.heap.size)
  have hA : ∀ q : Nat, s.heap.size ≤ q → va_A (w0_X6_addVoice cA am tkv ttv t t_L t_kind t_by t_pitch) s.heap.size q := fun q h => Or.inr h
  have hS : va_S (va_A (w0_X6_addVoice cA am tkv ttv t t_L t_kind t_by t_pitch) s.heap.size) s.heap s.heap [] := va_S.rf
  generalize va_A (w0_X6_addVoice cA am tkv ttv t t_L t_kind t_by t_pitch) s.heap.size = A at hA hD hS ⊢
  obtain ⟨Q, hQ⟩ : ∃ Q : State → Prop, Q = MQ below (va_Qv (fun (u : (Nat → Int32) × (Nat → Int32) × (Nat → Int32) × (Nat → Int32)) => u = out) (pst0 D cA A (w1_X6_addVoice cA am tkv ttv t_L)) A) args s 0 0 A := ⟨_, rfl⟩
  refine (?_ : W p l e rm_X6_addVoice s m args below meth c s.heap [] 0 0 (MQ below (va_Qv (fun (u : (Nat → Int32) × (Nat → Int32) × (Nat → Int32) × (Nat → Int32)) => u = out) (pst0 D cA A (w1_X6_addVoice cA am tkv ttv t_L)) A) args s 0 0 A) (entryFrame m args 4))
  rw [← hQ]
  have hP : va_P D CL [((am 0), e_X6 am tkv ttv t t_L), ((am 17), eI cA 8 t_kind), ((am 18), eI cA 8 t_by), ((am 19), eI cA 8 t_pitch)] s.heap := hP
  have hD : va_D A [((am 0), e_X6 am tkv ttv t t_L), ((am 17), eI cA 8 t_kind), ((am 18), eI cA 8 t_by), ((am 19), eI cA 8 t_pitch)] := hD
  unfold m_X6_addVoice at hm
  subst hargs
  have hl := lv_entry ([.ref (am 0), .int l1, .int l2, .int l3]) (n := 4) (Nat.le_of_ble_eq_true rfl)
  rw [lg_entry_eq]
  generalize (lg_sl ([.ref (am 0), .int l1, .int l2, .int l3]) ++ List.replicate (4 - (lg_sl ([.ref (am 0), .int l1, .int l2, .int l3])).length) Slot.unset).toArray = ls at hl ⊢
  have hl : lv_has ls 4 [(0, .ref (am 0)), (1, .int l1), (2, .int l2), (3, .int l3)] := hl
  refine lv_aload_n hx hb dX6_addVoice_0 rfl (lv_at hl 0 rfl) ?_
  refine va_get (D := D) (ci := 6) (v := .ref (am 17)) (C := RX6) (T := TX6) (N := 49) hx hb htg inX6 hown hK hP 0 rfl rfl 17 (by decide) (htg _ q_4_206) (fun _ h9 => h9) rfl dX6_addVoice_1 ?_
  refine lv_aload_n hx hb dX6_addVoice_4 rfl (lv_at hl 0 rfl) ?_
  refine va_get (D := D) (ci := 6) (v := .int (t 16)) (C := RX6) (T := TX6) (N := 49) hx hb htg inX6 hown hK hP 0 rfl rfl 16 (by decide) (htg _ q_4_205) (fun _ h9 => h9) rfl dX6_addVoice_5 ?_
  refine lv_iload_n hx hb dX6_addVoice_8 rfl (lv_at hl 1 rfl) ?_
  obtain ⟨hi1, hm⟩ := gd_s hm
  refine va_iast hx hb hK hP hD hS 1 0 rfl rfl hi1 dX6_addVoice_9 (fun H locs (hP : va_P D CL [((am 0), e_X6 am tkv ttv t t_L), ((am 17), eI cA 8 (upd t_kind (t 16).toNatClampNeg l1)), ((am 18), eI cA 8 t_by), ((am 19), eI cA 8 t_pitch)] H) (hD : va_D A [((am 0), e_X6 am tkv ttv t t_L), ((am 17), eI cA 8 (upd t_kind (t 16).toNatClampNeg l1)), ((am 18), eI cA 8 t_by), ((am 19), eI cA 8 t_pitch)]) hS => ?_)
  refine lv_aload_n hx hb dX6_addVoice_10 rfl (lv_at hl 0 rfl) ?_
  refine va_get (D := D) (ci := 6) (v := .ref (am 18)) (C := RX6) (T := TX6) (N := 49) hx hb htg inX6 hown hK hP 0 rfl rfl 18 (by decide) (htg _ q_4_207) (fun _ h9 => h9) rfl dX6_addVoice_11 ?_
  refine lv_aload_n hx hb dX6_addVoice_14 rfl (lv_at hl 0 rfl) ?_
  refine va_get (D := D) (ci := 6) (v := .int (t 16)) (C := RX6) (T := TX6) (N := 49) hx hb htg inX6 hown hK hP 0 rfl rfl 16 (by decide) (htg _ q_4_205) (fun _ h9 => h9) rfl dX6_addVoice_15 ?_
  refine lv_iload_n hx hb dX6_addVoice_18 rfl (lv_at hl 2 rfl) ?_
  obtain ⟨hi2, hm⟩ := gd_s hm
  refine va_iast hx hb hK hP hD hS 2 0 rfl rfl hi2 dX6_addVoice_19 (fun H locs (hP : va_P D CL [((am 0), e_X6 am tkv ttv t t_L), ((am 17), eI cA 8 (upd t_kind (t 16).toNatClampNeg l1)), ((am 18), eI cA 8 (upd t_by (t 16).toNatClampNeg l2)), ((am 19), eI cA 8 t_pitch)] H) (hD : va_D A [((am 0), e_X6 am tkv ttv t t_L), ((am 17), eI cA 8 (upd t_kind (t 16).toNatClampNeg l1)), ((am 18), eI cA 8 (upd t_by (t 16).toNatClampNeg l2)), ((am 19), eI cA 8 t_pitch)]) hS => ?_)
  refine lv_aload_n hx hb dX6_addVoice_20 rfl (lv_at hl 0 rfl) ?_
  refine va_get (D := D) (ci := 6) (v := .ref (am 19)) (C := RX6) (T := TX6) (N := 49) hx hb htg inX6 hown hK hP 0 rfl rfl 19 (by decide) (htg _ q_4_208) (fun _ h9 => h9) rfl dX6_addVoice_21 ?_
  refine lv_aload_n hx hb dX6_addVoice_24 rfl (lv_at hl 0 rfl) ?_
  refine va_get (D := D) (ci := 6) (v := .int (t 16)) (C := RX6) (T := TX6) (N := 49) hx hb htg inX6 hown hK hP 0 rfl rfl 16 (by decide) (htg _ q_4_205) (fun _ h9 => h9) rfl dX6_addVoice_25 ?_
  refine lv_iload_n hx hb dX6_addVoice_28 rfl (lv_at hl 3 rfl) ?_
  obtain ⟨hi3, hm⟩ := gd_s hm
  refine va_iast hx hb hK hP hD hS 3 0 rfl rfl hi3 dX6_addVoice_29 (fun H locs (hP : va_P D CL [((am 0), e_X6 am tkv ttv t t_L), ((am 17), eI cA 8 (upd t_kind (t 16).toNatClampNeg l1)), ((am 18), eI cA 8 (upd t_by (t 16).toNatClampNeg l2)), ((am 19), eI cA 8 (upd t_pitch (t 16).toNatClampNeg l3))] H) (hD : va_D A [((am 0), e_X6 am tkv ttv t t_L), ((am 17), eI cA 8 (upd t_kind (t 16).toNatClampNeg l1)), ((am 18), eI cA 8 (upd t_by (t 16).toNatClampNeg l2)), ((am 19), eI cA 8 (upd t_pitch (t 16).toNatClampNeg l3))]) hS => ?_)
  refine lv_aload_n hx hb dX6_addVoice_30 rfl (lv_at hl 0 rfl) ?_
  refine lv_dup hx hb dX6_addVoice_31 rfl ?_
  refine va_get (D := D) (ci := 6) (v := .int (t 16)) (C := RX6) (T := TX6) (N := 49) hx hb htg inX6 hown hK hP 0 rfl rfl 16 (by decide) (htg _ q_4_205) (fun _ h9 => h9) rfl dX6_addVoice_32 ?_
  refine lv_iconst (v := (1 : Int32)) hx hb dX6_addVoice_35 (by decide) ?_
  refine lv_iadd hx hb dX6_addVoice_36 ?_
  refine va_put (D := D) (ci := 6) (v := .int (t 16 + (1 : Int32))) (ty := .int) (C := RX6) (T := TX6) (N := 49) hx hb htg inX6 tyX6 tyX6_ok nmX6 hown hK hP hD hS 0 rfl rfl 16 (by decide) (htg _ q_4_205) (fun _ h9 => h9) rfl (by decide +kernel) rfl rfl (Nat.le_of_ble_eq_true rfl) dX6_addVoice_37 (fun H locs (hP : va_P D CL [((am 0), e_X6 am tkv ttv (upd t 16 (t 16 + (1 : Int32))) t_L), ((am 17), eI cA 8 (upd t_kind (t 16).toNatClampNeg l1)), ((am 18), eI cA 8 (upd t_by (t 16).toNatClampNeg l2)), ((am 19), eI cA 8 (upd t_pitch (t 16).toNatClampNeg l3))] H) (hD : va_D A [((am 0), e_X6 am tkv ttv (upd t 16 (t 16 + (1 : Int32))) t_L), ((am 17), eI cA 8 (upd t_kind (t 16).toNatClampNeg l1)), ((am 18), eI cA 8 (upd t_by (t 16).toNatClampNeg l2)), ((am 19), eI cA 8 (upd t_pitch (t 16).toNatClampNeg l3))]) hS => ?_)
  rw [hQ]
  exact W.vret hx hb hr (fun t9 ht hW => ⟨⟨((upd t 16 (t 16 + (1 : Int32))), (upd t_kind (t 16).toNatClampNeg l1), (upd t_by (t 16).toNatClampNeg l2), (upd t_pitch (t 16).toNatClampNeg l3)), rfl, (Option.some.inj hm), by rw [ht]; exact hP, va_K.moved hW.alike hK, hD⟩, hS.F ht⟩) hS.2.2 dX6_addVoice_40
def b_X6_voice_36 (fu : Nat) (t_L : Nat → Int64) (t : Nat → Int32) (t_refused : Nat → Int32) (t_kind : Nat → Int32) (t_by : Nat → Int32) (t_pitch : Nat → Int32) : Option (Int32 × ((Nat → Int32) × (Nat → Int32) × (Nat → Int32) × (Nat → Int32) × (Nat → Int32))) :=
  (m_X6_refuse fu t t_L t_refused (-2 : Int32)).bind fun o1 =>
    some (o1.1, (t, o1.2, t_kind, t_by, t_pitch))
def m_X6_voice (fu : Nat) (t : Nat → Int32) (t_L : Nat → Int64) (t_refused : Nat → Int32) (t_kind : Nat → Int32) (t_by : Nat → Int32) (t_pitch : Nat → Int32) (l1 : Int32) (l2 : Int32) (l3 : Int32) : Option (Int32 × ((Nat → Int32) × (Nat → Int32) × (Nat → Int32) × (Nat → Int32) × (Nat → Int32))) :=
  (m_X6_in fu l1.toInt64 (0 : Int64) (5 : Int64)).bind fun o3 =>
  (if o3.1 = 0 then
    b_X6_voice_36 fu t_L t t_refused t_kind t_by t_pitch
  else
    (m_X6_in fu l2.toInt64 (0 : Int64) (9 : Int64)).bind fun o6 =>
    (if o6.1 = 0 then
      b_X6_voice_36 fu t_L t t_refused t_kind t_by t_pitch
    else
      (m_X6_in fu l3.toInt64 (0 : Int64) (20 : Int64)).bind fun o9 =>
      (if o9.1 = 0 then
        b_X6_voice_36 fu t_L t t_refused t_kind t_by t_pitch
      else
        (if t 16 = (8 : Int32) then
          (m_X6_refuse fu t t_L t_refused (-6 : Int32)).bind fun o15 =>
          some (o15.1, (t, o15.2, t_kind, t_by, t_pitch))
        else
          (m_X6_addVoice fu t t_L t_kind t_by t_pitch l1 l2 l3).bind fun o13 =>
          some ((o13.1 16 - (1 : Int32)), (o13.1, t_refused, o13.2.1, o13.2.2.1, o13.2.2.2))))))
abbrev rm_X6_voice : Room := ({ frames := 1, cells := 0, slots := 0, locals := 25 } : Room)
abbrev w0_X6_voice (cA : Nat → ClassId) (am : Nat → Nat) (tkv : Value) (ttv : Value) (t : Nat → Int32) (t_L : Nat → Int64) (t_refused : Nat → Int32) (t_kind : Nat → Int32) (t_by : Nat → Int32) (t_pitch : Nat → Int32) : va_W := [((am 0), e_X6 am tkv ttv t t_L), ((am 16), eI cA 8 t_refused), ((am 17), eI cA 8 t_kind), ((am 18), eI cA 8 t_by), ((am 19), eI cA 8 t_pitch)]
abbrev w1_X6_voice (cA : Nat → ClassId) (am : Nat → Nat) (tkv : Value) (ttv : Value) (t_L : Nat → Int64) (u : (Nat → Int32) × (Nat → Int32) × (Nat → Int32) × (Nat → Int32) × (Nat → Int32)) : va_W := [((am 0), e_X6 am tkv ttv u.1 t_L), ((am 16), eI cA 8 u.2.1), ((am 17), eI cA 8 u.2.2.1), ((am 18), eI cA 8 u.2.2.2.1), ((am 19), eI cA 8 u.2.2.2.2)]
theorem hd_X6_voice : yX6_voice.cls = RX6 ∧ yX6_voice.cls ≠ "java/lang/invoke/MethodHandle" ∧ yX6_voice.cls ≠ "java/lang/invoke/VarHandle" ∧ (parseMethodDescriptor yX6_voice.desc).map (fun d => d.parameters.length) = some 3 := by decide +kernel
set_option maxHeartbeats 40000000 in
set_option maxRecDepth 100000 in
theorem c_X6_voice (l : Launch) (D : va_G) (cA : Nat → ClassId) (sz : Nat) (fu : Nat) (am : Nat → Nat) (tkv : Value) (ttv : Value) (t : Nat → Int32) (t_L : Nat → Int64) (t_refused : Nat → Int32) (t_kind : Nat → Int32) (t_by : Nat → Int32) (t_pitch : Nat → Int32) (l1 : Int32) (l2 : Int32) (l3 : Int32) (out : Int32 × ((Nat → Int32) × (Nat → Int32) × (Nat → Int32) × (Nat → Int32) × (Nat → Int32))) (hm : m_X6_voice fu t t_L t_refused t_kind t_by t_pitch l1 l2 l3 = some out) : MI l yX6_voice (wU yX6_voice cX6_voice 4 ((Option.some Jvm.ClassFile.FieldType.int))) rm_X6_voice D cA sz [.ref (am 0), .int l1, .int l2, .int l3] (w0_X6_voice cA am tkv ttv t t_L t_refused t_kind t_by t_pitch) out (w1_X6_voice cA am tkv ttv t_L) := by
  refine Met.ofW (cc := cX6_voice) (maxL := 4) (ret := (Option.some Jvm.ClassFile.FieldType.int)) (by decide) rfl ?_
  intro p e s m args below meth c s₁ B hml hv
  obtain ⟨hargs, hsz, hP, hK, hD0, hN⟩ := hv
  have hx := B.exec
  have hb := B.bytes
  have hr := B.returns
  have htg : ∀ w ∈ gw, w.before args s = true := fun w h => atoms_spec (ws := wU yX6_voice cX6_voice 4 ((Option.some Jvm.ClassFile.FieldType.int))) B.pre w (List.mem_cons_of_mem _ h)
  have hown : s.vm.findClass RX6 = some m.cls := findClass_of_methodNamed B.named
  have hlocks := B.notSynchronized
  subst hsz
  have hD := hD0.self (sz := s.heap.size)
  have hA : ∀ q : Nat, s.heap.size ≤ q → va_A (w0_X6_voice cA am tkv ttv t t_L t_refused t_kind t_by t_pitch) s.heap.size q := fun q h => Or.inr h
  have hS : va_S (va_A (w0_X6_voice cA am tkv ttv t t_L t_refused t_kind t_by t_pitch) s.heap.size) s.heap s.heap [] := va_S.rf
  generalize va_A (w0_X6_voice cA am tkv ttv t t_L t_refused t_kind t_by t_pitch) s.heap.size = A at hA hD hS ⊢
  obtain ⟨Q, hQ⟩ : ∃ Q : State → Prop, Q = MQ below (va_Qi (fun (r : Int32) (u : (Nat → Int32) × (Nat → Int32) × (Nat → Int32) × (Nat → Int32) × (Nat → Int32)) => (r, u) = out) (pst0 D cA A (w1_X6_voice cA am tkv ttv t_L)) A) args s 0 0 A := ⟨_, rfl⟩
  refine (?_ : W p l e rm_X6_voice s m args below meth c s.heap [] 0 0 (MQ below (va_Qi (fun (r : Int32) (u : (Nat → Int32) × (Nat → Int32) × (Nat → Int32) × (Nat → Int32) × (Nat → Int32)) => (r, u) = out) (pst0 D cA A (w1_X6_voice cA am tkv ttv t_L)) A) args s 0 0 A) (entryFrame m args 4))
  rw [← hQ]
  have hP : va_P D CL [((am 0), e_X6 am tkv ttv t t_L), ((am 16), eI cA 8 t_refused), ((am 17), eI cA 8 t_kind), ((am 18), eI cA 8 t_by), ((am 19), eI cA 8 t_pitch)] s.heap := hP
  have hD : va_D A [((am 0), e_X6 am tkv ttv t t_L), ((am 16), eI cA 8 t_refused), ((am 17), eI cA 8 t_kind), ((am 18), eI cA 8 t_by), ((am 19), eI cA 8 t_pitch)] := hD
  have B_36 : ∀ (t : Nat → Int32) (t_refused : Nat → Int32) (t_kind : Nat → Int32) (t_by : Nat → Int32) (t_pitch : Nat → Int32) (H : Heap) (locs : List Loc) (ls : Array Slot), b_X6_voice_36 fu t_L t t_refused t_kind t_by t_pitch = some out → va_P D CL [((am 0), e_X6 am tkv ttv t t_L), ((am 16), eI cA 8 t_refused), ((am 17), eI cA 8 t_kind), ((am 18), eI cA 8 t_by), ((am 19), eI cA 8 t_pitch)] H → va_D A [((am 0), e_X6 am tkv ttv t t_L), ((am 16), eI cA 8 t_refused), ((am 17), eI cA 8 t_kind), ((am 18), eI cA 8 t_by), ((am 19), eI cA 8 t_pitch)] → va_S A s.heap H locs → lv_has ls 4 [(0, .ref (am 0))] → W p l e rm_X6_voice s m args below meth c H locs 0 0 Q (F0 m 36 ls []) := by
    intro  t t_refused t_kind t_by t_pitch H locs ls hm hP hD hS hl
    unfold b_X6_voice_36 at hm
    refine lv_aload_n hx hb dX6_voice_36 rfl (lv_at hl 0 rfl) ?_
    refine lv_bipush (v := (-2 : Int32)) hx hb dX6_voice_37 (by decide) ?_
    obtain ⟨o1, ho2, hm⟩ := bd_s hm
    refine xr_i (wr := [((am 17), eI cA 8 t_kind), ((am 18), eI cA 8 t_by), ((am 19), eI cA 8 t_pitch)]) (wn := [((am 0), e_X6 am tkv ttv t t_L), ((am 16), eI cA 8 o1.2), ((am 17), eI cA 8 t_kind), ((am 18), eI cA 8 t_by), ((am 19), eI cA 8 t_pitch)]) (va_runV (As := [.int (-2 : Int32)]) (rest := []) ⟨hx, hb, hml, hown, htg⟩ (c_X6_refuse l D cA _ fu am tkv ttv t t_L t_refused (-2 : Int32) o1 ho2) (cwV 1 htg (gV q_5_108 q_5_110 q_p5_7 q_1_8 q_5_111) rfl rfl rfl hd_X6_refuse ⟨Nat.le_of_ble_eq_true rfl, Nat.le_of_ble_eq_true rfl⟩) (xpV hN hK hP hD [0, 1] rfl (by decide) rfl rfl) rfl rfl hl.1 rfl (lv_room (Nat.le_of_ble_eq_true rfl)) dX6_voice_39 ⟨Nat.zero_le _, Nat.zero_le _⟩) hP hD hS hA [0, 1] [2, 3, 4] [3, 4, 0, 1, 2] rfl rfl (by decide) (by decide) rfl (by decide) (fun H locs hP hD hS => ?_)
    rw [hQ]
    exact W.iret (v := o1.1) hx hb hr (fun t9 ht hW => ⟨⟨o1.1, (t, o1.2, t_kind, t_by, t_pitch), rfl, (Option.some.inj hm), by rw [ht]; exact hP, va_K.moved hW.alike hK, hD⟩, hS.F ht⟩) hS.2.2 dX6_voice_42
  unfold m_X6_voice at hm
  subst hargs
  have hl := lv_entry ([.ref (am 0), .int l1, .int l2, .int l3]) (n := 4) (Nat.le_of_ble_eq_true rfl)
  rw [lg_entry_eq]
  generalize (lg_sl ([.ref (am 0), .int l1, .int l2, .int l3]) ++ List.replicate (4 - (lg_sl ([.ref (am 0), .int l1, .int l2, .int l3])).length) Slot.unset).toArray = ls at hl ⊢
  have hl : lv_has ls 4 [(0, .ref (am 0)), (1, .int l1), (2, .int l2), (3, .int l3)] := hl
  refine lv_iload_n hx hb dX6_voice_0 rfl (lv_at hl 1 rfl) ?_
  refine lv_i2l hx hb dX6_voice_1 rfl ?_
  refine lv_lconst (v := (0 : Int64)) hx hb dX6_voice_2 (by decide) ?_
  refine lv_ldc2 (v := (5 : Int64)) hx hb hown (htg _ q_5_147) dX6_voice_3 ?_
  obtain ⟨o3, ho4, hm⟩ := bd_s hm
  refine xr_i (wr := [((am 0), e_X6 am tkv ttv t t_L), ((am 16), eI cA 8 t_refused), ((am 17), eI cA 8 t_kind), ((am 18), eI cA 8 t_by), ((am 19), eI cA 8 t_pitch)]) (wn := [((am 0), e_X6 am tkv ttv t t_L), ((am 16), eI cA 8 t_refused), ((am 17), eI cA 8 t_kind), ((am 18), eI cA 8 t_by), ((am 19), eI cA 8 t_pitch)]) (va_runS (As := [.long l1.toInt64, .long (0 : Int64), .long (5 : Int64)]) (rest := []) ⟨hx, hb, hml, hown, htg⟩ (c_X6_in l D cA _ fu l1.toInt64 (0 : Int64) (5 : Int64) o3 ho4) (cwS 3 htg (gS q_5_103 q_5_104 q_1_8 q_5_105) rfl rfl rfl hd_X6_in ⟨Nat.le_of_ble_eq_true rfl, Nat.le_of_ble_eq_true rfl⟩) (xpS hN hK hP hD [] rfl (by decide)) rfl rfl hl.1 rfl (lv_room (Nat.le_of_ble_eq_true rfl)) dX6_voice_6 ⟨Nat.zero_le _, Nat.zero_le _⟩) hP hD hS hA [] [0, 1, 2, 3, 4] [0, 1, 2, 3, 4] rfl rfl (by decide) (by decide) rfl (by decide) (fun H locs hP hD hS => ?_)
  refine lv_if_eq (tgt := 36) hx hb dX6_voice_9 (by decide) (fun c5 => ?_) (fun c5 => ?_)
  · have hm := it_t c5 hm
    exact B_36 _ _ _ _ _ _ _ _ hm hP hD hS (lv_sub hl [0] rfl)
  · have hm := it_f c5 hm
    refine lv_iload_n hx hb dX6_voice_12 rfl (lv_at hl 2 rfl) ?_
    refine lv_i2l hx hb dX6_voice_13 rfl ?_
    refine lv_lconst (v := (0 : Int64)) hx hb dX6_voice_14 (by decide) ?_
    refine lv_ldc2 (v := (9 : Int64)) hx hb hown (htg _ q_5_171) dX6_voice_15 ?_
    obtain ⟨o6, ho7, hm⟩ := bd_s hm
    refine xr_i (wr := [((am 0), e_X6 am tkv ttv t t_L), ((am 16), eI cA 8 t_refused), ((am 17), eI cA 8 t_kind), ((am 18), eI cA 8 t_by), ((am 19), eI cA 8 t_pitch)]) (wn := [((am 0), e_X6 am tkv ttv t t_L), ((am 16), eI cA 8 t_refused), ((am 17), eI cA 8 t_kind), ((am 18), eI cA 8 t_by), ((am 19), eI cA 8 t_pitch)]) (va_runS (As := [.long l2.toInt64, .long (0 : Int64), .long (9 : Int64)]) (rest := []) ⟨hx, hb, hml, hown, htg⟩ (c_X6_in l D cA _ fu l2.toInt64 (0 : Int64) (9 : Int64) o6 ho7) (cwS 3 htg (gS q_5_103 q_5_104 q_1_8 q_5_105) rfl rfl rfl hd_X6_in ⟨Nat.le_of_ble_eq_true rfl, Nat.le_of_ble_eq_true rfl⟩) (xpS hN hK hP hD [] rfl (by decide)) rfl rfl hl.1 rfl (lv_room (Nat.le_of_ble_eq_true rfl)) dX6_voice_18 ⟨Nat.zero_le _, Nat.zero_le _⟩) hP hD hS hA [] [0, 1, 2, 3, 4] [0, 1, 2, 3, 4] rfl rfl (by decide) (by decide) rfl (by decide) (fun H locs hP hD hS => ?_)
    refine lv_if_eq (tgt := 36) hx hb dX6_voice_21 (by decide) (fun c8 => ?_) (fun c8 => ?_)
    · have hm := it_t c8 hm
      exact B_36 _ _ _ _ _ _ _ _ hm hP hD hS (lv_sub hl [0] rfl)
    · have hm := it_f c8 hm
      refine lv_iload_n hx hb dX6_voice_24 rfl (lv_at hl 3 rfl) ?_
      refine lv_i2l hx hb dX6_voice_25 rfl ?_
      refine lv_lconst (v := (0 : Int64)) hx hb dX6_voice_26 (by decide) ?_
      refine lv_ldc2 (v := (20 : Int64)) hx hb hown (htg _ q_5_172) dX6_voice_27 ?_
      obtain ⟨o9, ho10, hm⟩ := bd_s hm
      refine xr_i (wr := [((am 0), e_X6 am tkv ttv t t_L), ((am 16), eI cA 8 t_refused), ((am 17), eI cA 8 t_kind), ((am 18), eI cA 8 t_by), ((am 19), eI cA 8 t_pitch)]) (wn := [((am 0), e_X6 am tkv ttv t t_L), ((am 16), eI cA 8 t_refused), ((am 17), eI cA 8 t_kind), ((am 18), eI cA 8 t_by), ((am 19), eI cA 8 t_pitch)]) (va_runS (As := [.long l3.toInt64, .long (0 : Int64), .long (20 : Int64)]) (rest := []) ⟨hx, hb, hml, hown, htg⟩ (c_X6_in l D cA _ fu l3.toInt64 (0 : Int64) (20 : Int64) o9 ho10) (cwS 3 htg (gS q_5_103 q_5_104 q_1_8 q_5_105) rfl rfl rfl hd_X6_in ⟨Nat.le_of_ble_eq_true rfl, Nat.le_of_ble_eq_true rfl⟩) (xpS hN hK hP hD [] rfl (by decide)) rfl rfl hl.1 rfl (lv_room (Nat.le_of_ble_eq_true rfl)) dX6_voice_30 ⟨Nat.zero_le _, Nat.zero_le _⟩) hP hD hS hA [] [0, 1, 2, 3, 4] [0, 1, 2, 3, 4] rfl rfl (by decide) (by decide) rfl (by decide) (fun H locs hP hD hS => ?_)
      refine lv_if_ne (tgt := 43) hx hb dX6_voice_33 (by decide) (fun c11 => ?_) (fun c11 => ?_)
      · have hm := it_f c11 hm
        refine lv_aload_n hx hb dX6_voice_43 rfl (lv_at hl 0 rfl) ?_
        refine va_get (D := D) (ci := 6) (v := .int (t 16)) (C := RX6) (T := TX6) (N := 49) hx hb htg inX6 hown hK hP 0 rfl rfl 16 (by decide) (htg _ q_4_205) (fun _ h9 => h9) rfl dX6_voice_44 ?_
        refine lv_bipush (v := (8 : Int32)) hx hb dX6_voice_47 (by decide) ?_
        refine lv_icmp_ne (tgt := 59) hx hb dX6_voice_49 (by decide) (fun c12 => ?_) (fun c12 => ?_)
        · have hm := it_f c12 hm
          refine lv_aload_n hx hb dX6_voice_59 rfl (lv_at hl 0 rfl) ?_
          refine lv_iload_n hx hb dX6_voice_60 rfl (lv_at hl 1 rfl) ?_
          refine lv_iload_n hx hb dX6_voice_61 rfl (lv_at hl 2 rfl) ?_
          refine lv_iload_n hx hb dX6_voice_62 rfl (lv_at hl 3 rfl) ?_
          obtain ⟨o13, ho14, hm⟩ := bd_s hm
          refine xr_v (wr := [((am 16), eI cA 8 t_refused)]) (wn := [((am 0), e_X6 am tkv ttv o13.1 t_L), ((am 16), eI cA 8 t_refused), ((am 17), eI cA 8 o13.2.1), ((am 18), eI cA 8 o13.2.2.1), ((am 19), eI cA 8 o13.2.2.2)]) (va_runV (As := [.int l1, .int l2, .int l3]) (rest := []) ⟨hx, hb, hml, hown, htg⟩ (c_X6_addVoice l D cA _ fu am tkv ttv t t_L t_kind t_by t_pitch l1 l2 l3 o13 ho14) (cwV 3 htg (gV q_5_173 q_5_175 q_p5_14 q_1_8 q_5_176) rfl rfl rfl hd_X6_addVoice ⟨Nat.le_of_ble_eq_true rfl, Nat.le_of_ble_eq_true rfl⟩) (xpV hN hK hP hD [0, 2, 3, 4] rfl (by decide) rfl rfl) rfl rfl hl.1 rfl (lv_room (Nat.le_of_ble_eq_true rfl)) dX6_voice_63 ⟨Nat.zero_le _, Nat.zero_le _⟩) hP hD hS hA [0, 2, 3, 4] [1] [1, 0, 2, 3, 4] rfl rfl (by decide) (by decide) rfl (by decide) (fun H locs hP hD hS => ?_)
          refine lv_aload_n hx hb dX6_voice_66 rfl (lv_at hl 0 rfl) ?_
          refine va_get (D := D) (ci := 6) (v := .int (o13.1 16)) (C := RX6) (T := TX6) (N := 49) hx hb htg inX6 hown hK hP 0 rfl rfl 16 (by decide) (htg _ q_4_205) (fun _ h9 => h9) rfl dX6_voice_67 ?_
          refine lv_iconst (v := (1 : Int32)) hx hb dX6_voice_70 (by decide) ?_
          refine lv_isub hx hb dX6_voice_71 ?_
          rw [hQ]
          exact W.iret (v := (o13.1 16 - (1 : Int32))) hx hb hr (fun t9 ht hW => ⟨⟨(o13.1 16 - (1 : Int32)), (o13.1, t_refused, o13.2.1, o13.2.2.1, o13.2.2.2), rfl, (Option.some.inj hm), by rw [ht]; exact hP, va_K.moved hW.alike hK, hD⟩, hS.F ht⟩) hS.2.2 dX6_voice_72
        · have hm := it_t c12 hm
          refine lv_aload_n hx hb dX6_voice_52 rfl (lv_at hl 0 rfl) ?_
          refine lv_bipush (v := (-6 : Int32)) hx hb dX6_voice_53 (by decide) ?_
          obtain ⟨o15, ho16, hm⟩ := bd_s hm
          refine xr_i (wr := [((am 17), eI cA 8 t_kind), ((am 18), eI cA 8 t_by), ((am 19), eI cA 8 t_pitch)]) (wn := [((am 0), e_X6 am tkv ttv t t_L), ((am 16), eI cA 8 o15.2), ((am 17), eI cA 8 t_kind), ((am 18), eI cA 8 t_by), ((am 19), eI cA 8 t_pitch)]) (va_runV (As := [.int (-6 : Int32)]) (rest := []) ⟨hx, hb, hml, hown, htg⟩ (c_X6_refuse l D cA _ fu am tkv ttv t t_L t_refused (-6 : Int32) o15 ho16) (cwV 1 htg (gV q_5_108 q_5_110 q_p5_7 q_1_8 q_5_111) rfl rfl rfl hd_X6_refuse ⟨Nat.le_of_ble_eq_true rfl, Nat.le_of_ble_eq_true rfl⟩) (xpV hN hK hP hD [0, 1] rfl (by decide) rfl rfl) rfl rfl hl.1 rfl (lv_room (Nat.le_of_ble_eq_true rfl)) dX6_voice_55 ⟨Nat.zero_le _, Nat.zero_le _⟩) hP hD hS hA [0, 1] [2, 3, 4] [3, 4, 0, 1, 2] rfl rfl (by decide) (by decide) rfl (by decide) (fun H locs hP hD hS => ?_)
          rw [hQ]
          exact W.iret (v := o15.1) hx hb hr (fun t9 ht hW => ⟨⟨o15.1, (t, o15.2, t_kind, t_by, t_pitch), rfl, (Option.some.inj hm), by rw [ht]; exact hP, va_K.moved hW.alike hK, hD⟩, hS.F ht⟩) hS.2.2 dX6_voice_58
      · have hm := it_t c11 hm
        exact B_36 _ _ _ _ _ _ _ _ hm hP hD hS (lv_sub hl [0] rfl)
