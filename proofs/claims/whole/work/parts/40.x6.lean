def m_X6_refuse (fu : Nat) (t : Nat → Int32) (t_L : Nat → Int64) (t_refused : Nat → Int32) (l1 : Int32) : Option (Int32 × (Nat → Int32)) :=
  gd (inb (-l1) 8) (
  gd (inb (-l1) 8) (
  some (l1, (upd t_refused (-l1).toNatClampNeg ((t_refused (-l1).toNatClampNeg) + (1 : Int32))))))
abbrev rm_X6_refuse : Room := ({ frames := 0, cells := 0, slots := 0, locals := 0 } : Room)
abbrev w0_X6_refuse (cA : Nat → ClassId) (am : Nat → Nat) (tkv : Value) (ttv : Value) (t : Nat → Int32) (t_L : Nat → Int64) (t_refused : Nat → Int32) : va_W := [((am 0), e_X6 am tkv ttv t t_L), ((am 16), eI cA 8 t_refused)]
abbrev w1_X6_refuse (cA : Nat → ClassId) (am : Nat → Nat) (tkv : Value) (ttv : Value) (t : Nat → Int32) (t_L : Nat → Int64) (u : (Nat → Int32)) : va_W := [((am 0), e_X6 am tkv ttv t t_L), ((am 16), eI cA 8 u)]
theorem hd_X6_refuse : yX6_refuse.cls = RX6 ∧ yX6_refuse.cls ≠ "java/lang/invoke/MethodHandle" ∧ yX6_refuse.cls ≠ "java/lang/invoke/VarHandle" ∧ (parseMethodDescriptor yX6_refuse.desc).map (fun d => d.parameters.length) = some 1 := by decide +kernel
set_option maxHeartbeats 40000000 in
set_option maxRecDepth 100000 in
theorem c_X6_refuse (l : Launch) (D : va_G) (cA : Nat → ClassId) (sz : Nat) (fu : Nat) (am : Nat → Nat) (tkv : Value) (ttv : Value) (t : Nat → Int32) (t_L : Nat → Int64) (t_refused : Nat → Int32) (l1 : Int32) (out : Int32 × (Nat → Int32)) (hm : m_X6_refuse fu t t_L t_refused l1 = some out) : MI l yX6_refuse (wU yX6_refuse cX6_refuse 2 ((Option.some Jvm.ClassFile.FieldType.int))) rm_X6_refuse D cA sz [.ref (am 0), .int l1] (w0_X6_refuse cA am tkv ttv t t_L t_refused) out (w1_X6_refuse cA am tkv ttv t t_L) := by
  refine Met.ofW (cc := cX6_refuse) (maxL := 2) (ret := (Option.some Jvm.ClassFile.FieldType.int)) (by decide) rfl ?_
  intro p e s m args below meth c s₁ B hml hv
  obtain ⟨hargs, hsz, hP, hK, hD0, hN⟩ := hv
  have hx := B.exec
  have hb := B.bytes
  have hr := B.returns
  have htg : ∀ w ∈ gw, w.before args s = true := fun w h => atoms_spec (ws := wU yX6_refuse cX6_refuse 2 ((Option.some Jvm.ClassFile.FieldType.int))) B.pre w (List.mem_cons_of_mem _ h)
  have hown : s.vm.findClass RX6 = some m.cls := findClass_of_methodNamed B.named
  have hlocks := B.notSynchronized
  subst hsz
  have hD := hD0.self (sz := s.heap.size)
  have hA : ∀ q : Nat, s.heap.size ≤ q → va_A (w0_X6_refuse cA am tkv ttv t t_L t_refused) s.heap.size q := fun q h => Or.inr h
  have hS : va_S (va_A (w0_X6_refuse cA am tkv ttv t t_L t_refused) s.heap.size) s.heap s.heap [] := va_S.rf
  generalize va_A (w0_X6_refuse cA am tkv ttv t t_L t_refused) s.heap.size = A at hA hD hS ⊢
  obtain ⟨Q, hQ⟩ : ∃ Q : State → Prop, Q = MQ below (va_Qi (fun (r : Int32) (u : (Nat → Int32)) => (r, u) = out) (pst0 D cA A (w1_X6_refuse cA am tkv ttv t t_L)) A) args s 0 0 A := ⟨_, rfl⟩
  refine (?_ : W p l e rm_X6_refuse s m args below meth c s.heap [] 0 0 (MQ below (va_Qi (fun (r : Int32) (u : (Nat → Int32)) => (r, u) = out) (pst0 D cA A (w1_X6_refuse cA am tkv ttv t t_L)) A) args s 0 0 A) (entryFrame m args 2))
  rw [← hQ]
  have hP : va_P D CL [((am 0), e_X6 am tkv ttv t t_L), ((am 16), eI cA 8 t_refused)] s.heap := hP
  have hD : va_D A [((am 0), e_X6 am tkv ttv t t_L), ((am 16), eI cA 8 t_refused)] := hD
  unfold m_X6_refuse at hm
  subst hargs
  have hl := lv_entry ([.ref (am 0), .int l1]) (n := 2) (Nat.le_of_ble_eq_true rfl)
  rw [lg_entry_eq]
  generalize (lg_sl ([.ref (am 0), .int l1]) ++ List.replicate (2 - (lg_sl ([.ref (am 0), .int l1])).length) Slot.unset).toArray = ls at hl ⊢
  have hl : lv_has ls 2 [(0, .ref (am 0)), (1, .int l1)] := hl
  refine lv_aload_n hx hb dX6_refuse_0 rfl (lv_at hl 0 rfl) ?_
  refine va_get (D := D) (ci := 6) (v := .ref (am 16)) (C := RX6) (T := TX6) (N := 49) hx hb htg inX6 hown hK hP 0 rfl rfl 8 (by decide) (htg _ q_4_197) (fun _ h9 => h9) rfl dX6_refuse_1 ?_
  refine lv_iload_n hx hb dX6_refuse_4 rfl (lv_at hl 1 rfl) ?_
  refine lv_ineg hx hb dX6_refuse_5 ?_
  refine lv_dup2_11 hx hb dX6_refuse_6 rfl rfl ?_
  obtain ⟨hi1, hm⟩ := gd_s hm
  refine va_iald hx hb hK hP 1 0 rfl rfl hi1 dX6_refuse_7 ?_
  refine lv_iconst (v := (1 : Int32)) hx hb dX6_refuse_8 (by decide) ?_
  refine lv_iadd hx hb dX6_refuse_9 ?_
  obtain ⟨hi2, hm⟩ := gd_s hm
  refine va_iast hx hb hK hP hD hS 1 0 rfl rfl hi2 dX6_refuse_10 (fun H locs (hP : va_P D CL [((am 0), e_X6 am tkv ttv t t_L), ((am 16), eI cA 8 (upd t_refused (-l1).toNatClampNeg ((t_refused (-l1).toNatClampNeg) + (1 : Int32))))] H) (hD : va_D A [((am 0), e_X6 am tkv ttv t t_L), ((am 16), eI cA 8 (upd t_refused (-l1).toNatClampNeg ((t_refused (-l1).toNatClampNeg) + (1 : Int32))))]) hS => ?_)
  refine lv_iload_n hx hb dX6_refuse_11 rfl (lv_at hl 1 rfl) ?_
  rw [hQ]
  exact W.iret (v := l1) hx hb hr (fun t9 ht hW => ⟨⟨l1, (upd t_refused (-l1).toNatClampNeg ((t_refused (-l1).toNatClampNeg) + (1 : Int32))), rfl, (Option.some.inj hm), by rw [ht]; exact hP, va_K.moved hW.alike hK, hD⟩, hS.F ht⟩) hS.2.2 dX6_refuse_12
def b_X6_in_18 (fu : Nat) (s0 : Int32) : Option (Int32 × Unit) :=
  gd (bz s0) (some (s0, ()))
def b_X6_in_17 (fu : Nat)  : Option (Int32 × Unit) :=
  b_X6_in_18 fu (0 : Int32)
def m_X6_in (fu : Nat) (l0 : Int64) (l2 : Int64) (l4 : Int64) : Option (Int32 × Unit) :=
  (if (lg_cmp l0 l2) < 0 then
    b_X6_in_17 fu 
  else
    (if 0 < (lg_cmp l0 l4) then
      b_X6_in_17 fu 
    else
      b_X6_in_18 fu (1 : Int32)))
abbrev rm_X6_in : Room := ({ frames := 0, cells := 0, slots := 0, locals := 0 } : Room)
abbrev w0_X6_in (cA : Nat → ClassId)  : va_W := []
abbrev w1_X6_in (cA : Nat → ClassId)  (u : Unit) : va_W := []
theorem hd_X6_in : yX6_in.cls = RX6 ∧ yX6_in.cls ≠ "java/lang/invoke/MethodHandle" ∧ yX6_in.cls ≠ "java/lang/invoke/VarHandle" ∧ (parseMethodDescriptor yX6_in.desc).map (fun d => d.parameters.length) = some 3 := by decide +kernel
set_option maxHeartbeats 40000000 in
set_option maxRecDepth 100000 in
theorem c_X6_in (l : Launch) (D : va_G) (cA : Nat → ClassId) (sz : Nat) (fu : Nat) (l0 : Int64) (l2 : Int64) (l4 : Int64) (out : Int32 × Unit) (hm : m_X6_in fu l0 l2 l4 = some out) : MI l yX6_in (wU yX6_in cX6_in 6 ((Option.some Jvm.ClassFile.FieldType.boolean))) rm_X6_in D cA sz [.long l0, .long l2, .long l4] (w0_X6_in cA ) out (w1_X6_in cA ) := by
  refine Met.ofW (cc := cX6_in) (maxL := 6) (ret := (Option.some Jvm.ClassFile.FieldType.boolean)) (by decide) rfl ?_
  intro p e s m args below meth c s₁ B hml hv
  obtain ⟨hargs, hsz, hP, hK, hD0, hN⟩ := hv
  have hx := B.exec
  have hb := B.bytes
  have hr := B.returns
  have htg : ∀ w ∈ gw, w.before args s = true := fun w h => atoms_spec (ws := wU yX6_in cX6_in 6 ((Option.some Jvm.ClassFile.FieldType.boolean))) B.pre w (List.mem_cons_of_mem _ h)
  have hown : s.vm.findClass RX6 = some m.cls := findClass_of_methodNamed B.named
  have hlocks := B.notSynchronized
  subst hsz
  have hD := hD0.self (sz := s.heap.size)
  have hA : ∀ q : Nat, s.heap.size ≤ q → va_A (w0_X6_in cA ) s.heap.size q := fun q h => Or.inr h
  have hS : va_S (va_A (w0_X6_in cA ) s.heap.size) s.heap s.heap [] := va_S.rf
  generalize va_A (w0_X6_in cA ) s.heap.size = A at hA hD hS ⊢
  obtain ⟨Q, hQ⟩ : ∃ Q : State → Prop, Q = MQ below (va_Qi (fun (r : Int32) (u : Unit) => (r, u) = out) (pst0 D cA A (w1_X6_in cA )) A) args s 0 0 A := ⟨_, rfl⟩
  refine (?_ : W p l e rm_X6_in s m args below meth c s.heap [] 0 0 (MQ below (va_Qi (fun (r : Int32) (u : Unit) => (r, u) = out) (pst0 D cA A (w1_X6_in cA )) A) args s 0 0 A) (entryFrame m args 6))
  rw [← hQ]
  have hP : va_P D CL [] s.heap := hP
  have hD : va_D A [] := hD
  have B_18 : ∀ (s0 : Int32) (H : Heap) (locs : List Loc) (ls : Array Slot), b_X6_in_18 fu s0 = some out → va_P D CL [] H → va_D A [] → va_S A s.heap H locs → lv_has ls 6 [] → W p l e rm_X6_in s m args below meth c H locs 0 0 Q (F0 m 18 ls [.int s0]) := by
    intro  s0 H locs ls hm hP hD hS hl
    unfold b_X6_in_18 at hm
    obtain ⟨hz1, hm⟩ := gd_s hm
    rw [hQ]
    exact W.zret (v := s0) hx hb hr (bz_nr hz1) (fun t9 ht hW => ⟨⟨s0, (), rfl, (Option.some.inj hm), by rw [ht]; exact hP, va_K.moved hW.alike hK, hD⟩, hS.F ht⟩) hS.2.2 dX6_in_18
  have B_17 : ∀  (H : Heap) (locs : List Loc) (ls : Array Slot), b_X6_in_17 fu  = some out → va_P D CL [] H → va_D A [] → va_S A s.heap H locs → lv_has ls 6 [] → W p l e rm_X6_in s m args below meth c H locs 0 0 Q (F0 m 17 ls []) := by
    intro   H locs ls hm hP hD hS hl
    unfold b_X6_in_17 at hm
    refine lv_iconst (v := (0 : Int32)) hx hb dX6_in_17 (by decide) ?_
    exact B_18 _ _ _ _ hm hP hD hS (lv_sub hl [] rfl)
  unfold m_X6_in at hm
  subst hargs
  have hl := lv_entry ([.long l0, .long l2, .long l4]) (n := 6) (Nat.le_of_ble_eq_true rfl)
  rw [lg_entry_eq]
  generalize (lg_sl ([.long l0, .long l2, .long l4]) ++ List.replicate (6 - (lg_sl ([.long l0, .long l2, .long l4])).length) Slot.unset).toArray = ls at hl ⊢
  have hl : lv_has ls 6 [(0, .long l0), (2, .long l2), (4, .long l4)] := hl
  refine lv_lload_n hx hb dX6_in_0 rfl (lv_at hl 0 rfl) ?_
  refine lv_lload_n hx hb dX6_in_1 rfl (lv_at hl 1 rfl) ?_
  refine W.lcmp hx hb dX6_in_2 ?_
  refine lv_if_lt (tgt := 17) hx hb dX6_in_3 (by decide) (fun c2 => ?_) (fun c2 => ?_)
  · have hm := it_t c2 hm
    exact B_17  _ _ _ hm hP hD hS (lv_sub hl [] rfl)
  · have hm := it_f c2 hm
    refine lv_lload_n hx hb dX6_in_6 rfl (lv_at hl 0 rfl) ?_
    refine lv_lload hx hb dX6_in_7 (lv_at hl 2 rfl) ?_
    refine W.lcmp hx hb dX6_in_9 ?_
    refine lv_if_gt (tgt := 17) hx hb dX6_in_10 (by decide) (fun c3 => ?_) (fun c3 => ?_)
    · have hm := it_t c3 hm
      exact B_17  _ _ _ hm hP hD hS (lv_sub hl [] rfl)
    · have hm := it_f c3 hm
      refine lv_iconst (v := (1 : Int32)) hx hb dX6_in_13 (by decide) ?_
      refine lv_goto (tgt := 18) hx hb dX6_in_14 (by decide) ?_
      exact B_18 _ _ _ _ hm hP hD hS (lv_sub hl [] rfl)
def m_X6_isVoice (fu : Nat) (t : Nat → Int32) (t_L : Nat → Int64) (l1 : Int32) : Option (Int32 × Unit) :=
  (m_X6_in fu l1.toInt64 (0 : Int64) ((t 16 - (1 : Int32)).toInt64)).bind fun o1 =>
  gd (bz o1.1) (some (o1.1, ()))
abbrev rm_X6_isVoice : Room := ({ frames := 1, cells := 0, slots := 0, locals := 25 } : Room)
abbrev w0_X6_isVoice (cA : Nat → ClassId) (am : Nat → Nat) (tkv : Value) (ttv : Value) (t : Nat → Int32) (t_L : Nat → Int64) : va_W := [((am 0), e_X6 am tkv ttv t t_L)]
abbrev w1_X6_isVoice (cA : Nat → ClassId) (am : Nat → Nat) (tkv : Value) (ttv : Value) (t : Nat → Int32) (t_L : Nat → Int64) (u : Unit) : va_W := [((am 0), e_X6 am tkv ttv t t_L)]
theorem hd_X6_isVoice : yX6_isVoice.cls = RX6 ∧ yX6_isVoice.cls ≠ "java/lang/invoke/MethodHandle" ∧ yX6_isVoice.cls ≠ "java/lang/invoke/VarHandle" ∧ (parseMethodDescriptor yX6_isVoice.desc).map (fun d => d.parameters.length) = some 1 := by decide +kernel
set_option maxHeartbeats 40000000 in
set_option maxRecDepth 100000 in
theorem c_X6_isVoice (l : Launch) (D : va_G) (cA : Nat → ClassId) (sz : Nat) (fu : Nat) (am : Nat → Nat) (tkv : Value) (ttv : Value) (t : Nat → Int32) (t_L : Nat → Int64) (l1 : Int32) (out : Int32 × Unit) (hm : m_X6_isVoice fu t t_L l1 = some out) : MI l yX6_isVoice (wU yX6_isVoice cX6_isVoice 2 ((Option.some Jvm.ClassFile.FieldType.boolean))) rm_X6_isVoice D cA sz [.ref (am 0), .int l1] (w0_X6_isVoice cA am tkv ttv t t_L) out (w1_X6_isVoice cA am tkv ttv t t_L) := by
  refine Met.ofW (cc := cX6_isVoice) (maxL := 2) (ret := (Option.some Jvm.ClassFile.FieldType.boolean)) (by decide) rfl ?_
  intro p e s m args below meth c s₁ B hml hv
  obtain ⟨hargs, hsz, hP, hK, hD0, hN⟩ := hv
  have hx := B.exec
  have hb := B.bytes
  have hr := B.returns
  have htg : ∀ w ∈ gw, w.before args s = true := fun w h => atoms_spec (ws := wU yX6_isVoice cX6_isVoice 2 ((Option.some Jvm.ClassFile.FieldType.boolean))) B.pre w (List.mem_cons_of_mem _ h)
  have hown : s.vm.findClass RX6 = some m.cls := findClass_of_methodNamed B.named
  have hlocks := B.notSynchronized
  subst hsz
  have hD := hD0.self (sz := s.heap.size)
  have hA : ∀ q : Nat, s.heap.size ≤ q → va_A (w0_X6_isVoice cA am tkv ttv t t_L) s.heap.size q := fun q h => Or.inr h
  have hS : va_S (va_A (w0_X6_isVoice cA am tkv ttv t t_L) s.heap.size) s.heap s.heap [] := va_S.rf
  generalize va_A (w0_X6_isVoice cA am tkv ttv t t_L) s.heap.size = A at hA hD hS ⊢
  obtain ⟨Q, hQ⟩ : ∃ Q : State → Prop, Q = MQ below (va_Qi (fun (r : Int32) (u : Unit) => (r, u) = out) (pst0 D cA A (w1_X6_isVoice cA am tkv ttv t t_L)) A) args s 0 0 A := ⟨_, rfl⟩
  refine (?_ : W p l e rm_X6_isVoice s m args below meth c s.heap [] 0 0 (MQ below (va_Qi (fun (r : Int32) (u : Unit) => (r, u) = out) (pst0 D cA A (w1_X6_isVoice cA am tkv ttv t t_L)) A) args s 0 0 A) (entryFrame m args 2))
  rw [← hQ]
  have hP : va_P D CL [((am 0), e_X6 am tkv ttv t t_L)] s.heap := hP
  have hD : va_D A [((am 0), e_X6 am tkv ttv t t_L)] := hD
  unfold m_X6_isVoice at hm
  subst hargs
  have hl := lv_entry ([.ref (am 0), .int l1]) (n := 2) (Nat.le_of_ble_eq_true rfl)
  rw [lg_entry_eq]
  generalize (lg_sl ([.ref (am 0), .int l1]) ++ List.replicate (2 - (lg_sl ([.ref (am 0), .int l1])).length) Slot.unset).toArray = ls at hl ⊢
  have hl : lv_has ls 2 [(0, .ref (am 0)), (1, .int l1)] := hl
  refine lv_iload_n hx hb dX6_isVoice_0 rfl (lv_at hl 1 rfl) ?_
  refine lv_i2l hx hb dX6_isVoice_1 rfl ?_
  refine lv_lconst (v := (0 : Int64)) hx hb dX6_isVoice_2 (by decide) ?_
  refine lv_aload_n hx hb dX6_isVoice_3 rfl (lv_at hl 0 rfl) ?_
  refine va_get (D := D) (ci := 6) (v := .int (t 16)) (C := RX6) (T := TX6) (N := 49) hx hb htg inX6 hown hK hP 0 rfl rfl 16 (by decide) (htg _ q_4_205) (fun _ h9 => h9) rfl dX6_isVoice_4 ?_
  refine lv_iconst (v := (1 : Int32)) hx hb dX6_isVoice_7 (by decide) ?_
  refine lv_isub hx hb dX6_isVoice_8 ?_
  refine lv_i2l hx hb dX6_isVoice_9 rfl ?_
  obtain ⟨o1, ho2, hm⟩ := bd_s hm
  refine xr_i (wr := [((am 0), e_X6 am tkv ttv t t_L)]) (wn := [((am 0), e_X6 am tkv ttv t t_L)]) (va_runS (As := [.long l1.toInt64, .long (0 : Int64), .long ((t 16 - (1 : Int32)).toInt64)]) (rest := []) ⟨hx, hb, hml, hown, htg⟩ (c_X6_in l D cA _ fu l1.toInt64 (0 : Int64) ((t 16 - (1 : Int32)).toInt64) o1 ho2) (cwS 3 htg (gS q_5_103 q_5_104 q_1_8 q_5_105) rfl rfl rfl hd_X6_in ⟨Nat.le_of_ble_eq_true rfl, Nat.le_of_ble_eq_true rfl⟩) (xpS hN hK hP hD [] rfl (by decide)) rfl rfl hl.1 rfl (lv_room (Nat.le_of_ble_eq_true rfl)) dX6_isVoice_10 ⟨Nat.zero_le _, Nat.zero_le _⟩) hP hD hS hA [] [0] [0] rfl rfl (by decide) (by decide) rfl (by decide) (fun H locs hP hD hS => ?_)
  obtain ⟨hz3, hm⟩ := gd_s hm
  rw [hQ]
  exact W.zret (v := o1.1) hx hb hr (bz_nr hz3) (fun t9 ht hW => ⟨⟨o1.1, (), rfl, (Option.some.inj hm), by rw [ht]; exact hP, va_K.moved hW.alike hK, hD⟩, hS.F ht⟩) hS.2.2 dX6_isVoice_13
def b_X6_bits_4 (fu : Nat) (k_4 : (Int32 × Int32) → Option (Int32 × Unit)) (x : Int32 × Int32) : Option (Int32 × Unit) :=
  (if x.2 = 0 then
        some (x.1, ())
      else
        k_4 ((x.1 + (1 : Int32)), (x.2 &&& (x.2 - (1 : Int32)))))
def m_X6_bits (fu : Nat) (l0 : Int32) : Option (Int32 × Unit) :=
  lfix (b_X6_bits_4 fu) fu ((0 : Int32), l0)
abbrev rm_X6_bits : Room := ({ frames := 0, cells := 0, slots := 0, locals := 0 } : Room)
abbrev w0_X6_bits (cA : Nat → ClassId)  : va_W := []
abbrev w1_X6_bits (cA : Nat → ClassId)  (u : Unit) : va_W := []
theorem hd_X6_bits : yX6_bits.cls = RX6 ∧ yX6_bits.cls ≠ "java/lang/invoke/MethodHandle" ∧ yX6_bits.cls ≠ "java/lang/invoke/VarHandle" ∧ (parseMethodDescriptor yX6_bits.desc).map (fun d => d.parameters.length) = some 1 := by decide +kernel
set_option maxHeartbeats 40000000 in
set_option maxRecDepth 100000 in
theorem c_X6_bits (l : Launch) (D : va_G) (cA : Nat → ClassId) (sz : Nat) (fu : Nat) (l0 : Int32) (out : Int32 × Unit) (hm : m_X6_bits fu l0 = some out) : MI l yX6_bits (wU yX6_bits cX6_bits 3 ((Option.some Jvm.ClassFile.FieldType.int))) rm_X6_bits D cA sz [.int l0] (w0_X6_bits cA ) out (w1_X6_bits cA ) := by
  refine Met.ofW (cc := cX6_bits) (maxL := 3) (ret := (Option.some Jvm.ClassFile.FieldType.int)) (by decide) rfl ?_
  intro p e s m args below meth c s₁ B hml hv
  obtain ⟨hargs, hsz, hP, hK, hD0, hN⟩ := hv
  have hx := B.exec
  have hb := B.bytes
  have hr := B.returns
  have htg : ∀ w ∈ gw, w.before args s = true := fun w h => atoms_spec (ws := wU yX6_bits cX6_bits 3 ((Option.some Jvm.ClassFile.FieldType.int))) B.pre w (List.mem_cons_of_mem _ h)
  have hown : s.vm.findClass RX6 = some m.cls := findClass_of_methodNamed B.named
  have hlocks := B.notSynchronized
  subst hsz
  have hD := hD0.self (sz := s.heap.size)
  have hA : ∀ q : Nat, s.heap.size ≤ q → va_A (w0_X6_bits cA ) s.heap.size q := fun q h => Or.inr h
  have hS : va_S (va_A (w0_X6_bits cA ) s.heap.size) s.heap s.heap [] := va_S.rf
  generalize va_A (w0_X6_bits cA ) s.heap.size = A at hA hD hS ⊢
  obtain ⟨Q, hQ⟩ : ∃ Q : State → Prop, Q = MQ below (va_Qi (fun (r : Int32) (u : Unit) => (r, u) = out) (pst0 D cA A (w1_X6_bits cA )) A) args s 0 0 A := ⟨_, rfl⟩
  refine (?_ : W p l e rm_X6_bits s m args below meth c s.heap [] 0 0 (MQ below (va_Qi (fun (r : Int32) (u : Unit) => (r, u) = out) (pst0 D cA A (w1_X6_bits cA )) A) args s 0 0 A) (entryFrame m args 3))
  rw [← hQ]
  have hP : va_P D CL [] s.heap := hP
  have hD : va_D A [] := hD
  have B_4 : ∀ (n : Nat) (x : Int32 × Int32) (H : Heap) (locs : List Loc) (ls : Array Slot), lfix (b_X6_bits_4 fu) n x = some out → va_P D CL [] H → va_D A [] → va_S A s.heap H locs → lv_has ls 3 [(1, .int x.1), (2, .int x.2)] → W p l e rm_X6_bits s m args below meth c H locs 0 0 Q (F0 m 4 ls []) := by
    intro  n
    induction n with
    | zero => intro x H locs ls hm; cases (show none = some out from hm)
    | succ n HK_4 =>
      intro x H locs ls hm hP hD hS hl
      replace hm : b_X6_bits_4 fu (lfix (b_X6_bits_4 fu) n) x = some out := hm
      unfold b_X6_bits_4 at hm
      refine lv_iload_n hx hb dX6_bits_4 rfl (lv_at hl 1 rfl) ?_
      refine lv_if_eq (tgt := 20) hx hb dX6_bits_5 (by decide) (fun c1 => ?_) (fun c1 => ?_)
      · have hm := it_t c1 hm
        refine lv_iload_n hx hb dX6_bits_20 rfl (lv_at hl 0 rfl) ?_
        rw [hQ]
        exact W.iret (v := x.1) hx hb hr (fun t9 ht hW => ⟨⟨x.1, (), rfl, (Option.some.inj hm), by rw [ht]; exact hP, va_K.moved hW.alike hK, hD⟩, hS.F ht⟩) hS.2.2 dX6_bits_21
      · have hm := it_f c1 hm
        refine lv_iinc (v := (x.1 + (1 : Int32))) (lv' := [(1, .int (x.1 + (1 : Int32))), (2, .int x.2)]) hx hb dX6_bits_8 hl (k := 0) rfl rfl (by decide) rfl (fun ls hl => ?_)
        refine lv_iload_n hx hb dX6_bits_11 rfl (lv_at hl 1 rfl) ?_
        refine lv_iload_n hx hb dX6_bits_12 rfl (lv_at hl 1 rfl) ?_
        refine lv_iconst (v := (1 : Int32)) hx hb dX6_bits_13 (by decide) ?_
        refine lv_isub hx hb dX6_bits_14 ?_
        refine lv_iand hx hb dX6_bits_15 ?_
        refine lv_istore_n (lv' := [(2, .int (x.2 &&& (x.2 - (1 : Int32)))), (1, .int (x.1 + (1 : Int32)))]) hx hb dX6_bits_16 rfl hl (by decide) rfl (fun ls hl => ?_)
        refine lv_goto (tgt := 4) hx hb dX6_bits_17 (by decide) ?_
        exact HK_4 _ _ _ _ hm hP hD hS (lv_sub hl [1, 0] rfl)
  unfold m_X6_bits at hm
  subst hargs
  have hl := lv_entry ([.int l0]) (n := 3) (Nat.le_of_ble_eq_true rfl)
  rw [lg_entry_eq]
  generalize (lg_sl ([.int l0]) ++ List.replicate (3 - (lg_sl ([.int l0])).length) Slot.unset).toArray = ls at hl ⊢
  have hl : lv_has ls 3 [(0, .int l0)] := hl
  refine lv_iconst (v := (0 : Int32)) hx hb dX6_bits_0 (by decide) ?_
  refine lv_istore_n (lv' := [(1, .int (0 : Int32)), (0, .int l0)]) hx hb dX6_bits_1 rfl hl (by decide) rfl (fun ls hl => ?_)
  refine lv_iload_n hx hb dX6_bits_2 rfl (lv_at hl 1 rfl) ?_
  refine lv_istore_n (lv' := [(2, .int l0), (1, .int (0 : Int32)), (0, .int l0)]) hx hb dX6_bits_3 rfl hl (by decide) rfl (fun ls hl => ?_)
  exact B_4 fu _ _ _ _ hm hP hD hS (lv_sub hl [1, 0] rfl)
def b_X6_row_36 (fu : Nat) (t : Nat → Int32) (t_L : Nat → Int64) (t_shelf : Nat → Int32) (t_rowSort : Nat → Int32) (t_rowSize : Nat → Int32) (t_rows_R : Nat → Nat → Int64) (t_refused : Nat → Int32) : Option (Int32 × ((Nat → Int32) × (Nat → Int32) × (Nat → Int32) × (Nat → Nat → Int64) × (Nat → Int32))) :=
  (m_X6_refuse fu t t_L t_refused (-2 : Int32)).bind fun o1 =>
    some (o1.1, (t_shelf, t_rowSort, t_rowSize, t_rows_R, o1.2))
def b_X6_row_67 (fu : Nat) (t : Nat → Int32) (t_L : Nat → Int64) (k_67 : (Int32 × Int32 × (Nat → Int32) × (Nat → Int32) × (Nat → Int32) × (Nat → Nat → Int64) × (Nat → Int32)) → Option (Int32 × ((Nat → Int32) × (Nat → Int32) × (Nat → Int32) × (Nat → Nat → Int64) × (Nat → Int32)))) (x : Int32 × Int32 × (Nat → Int32) × (Nat → Int32) × (Nat → Int32) × (Nat → Nat → Int64) × (Nat → Int32)) : Option (Int32 × ((Nat → Int32) × (Nat → Int32) × (Nat → Int32) × (Nat → Nat → Int64) × (Nat → Int32))) :=
  (if (40 : Int32) ≤ x.2.1 then
        some ((1 : Int32), (x.2.2.1, x.2.2.2.1, x.2.2.2.2.1, x.2.2.2.2.2.1, x.2.2.2.2.2.2))
      else
        gd (inb x.1 8) (
        gd (inb x.1 8) (gd (inb x.2.1 40) (
        k_67 (x.1, (x.2.1 + (1 : Int32)), x.2.2.1, x.2.2.2.1, x.2.2.2.2.1, (va_up x.2.2.2.2.2.1 x.1.toNatClampNeg (vp_updL (x.2.2.2.2.2.1 x.1.toNatClampNeg) x.2.1.toNatClampNeg (0 : Int64))), x.2.2.2.2.2.2)))))
def m_X6_row (fu : Nat) (t : Nat → Int32) (t_L : Nat → Int64) (t_shelf : Nat → Int32) (t_rowSort : Nat → Int32) (t_rowSize : Nat → Int32) (t_rows_R : Nat → Nat → Int64) (t_refused : Nat → Int32) (l1 : Int32) (l2 : Int32) (l3 : Int32) : Option (Int32 × ((Nat → Int32) × (Nat → Int32) × (Nat → Int32) × (Nat → Nat → Int64) × (Nat → Int32))) :=
  (m_X6_in fu l1.toInt64 (0 : Int64) (7 : Int64)).bind fun o9 =>
  (if o9.1 = 0 then
    b_X6_row_36 fu t t_L t_shelf t_rowSort t_rowSize t_rows_R t_refused
  else
    (m_X6_in fu l2.toInt64 (0 : Int64) (4 : Int64)).bind fun o12 =>
    (if o12.1 = 0 then
      b_X6_row_36 fu t t_L t_shelf t_rowSort t_rowSize t_rows_R t_refused
    else
      (m_X6_in fu l3.toInt64 (0 : Int64) (40 : Int64)).bind fun o15 =>
      (if o15.1 = 0 then
        b_X6_row_36 fu t t_L t_shelf t_rowSort t_rowSize t_rows_R t_refused
      else
        gd (inb l1 8) (
        gd (inb l1 8) (
        gd (inb l1 8) (
        lfix (b_X6_row_67 fu t t_L) fu (l1, (0 : Int32), (upd t_shelf l1.toNatClampNeg (1 : Int32)), (upd t_rowSort l1.toNatClampNeg l2), (upd t_rowSize l1.toNatClampNeg l3), t_rows_R, t_refused)))))))
abbrev rm_X6_row : Room := ({ frames := 1, cells := 0, slots := 0, locals := 25 } : Room)
abbrev w0_X6_row (cA : Nat → ClassId) (am : Nat → Nat) (tkv : Value) (ttv : Value) (t : Nat → Int32) (t_L : Nat → Int64) (t_shelf : Nat → Int32) (t_rowSort : Nat → Int32) (t_rowSize : Nat → Int32) (t_rows_R : Nat → Nat → Int64) (t_refused : Nat → Int32) : va_W := [((am 0), e_X6 am tkv ttv t t_L), ((am 1), eI cA 8 t_shelf), ((am 2), eI cA 8 t_rowSort), ((am 3), eI cA 8 t_rowSize), ((am 4), eOJ cA am 5), (am 5, eJ cA 40 (t_rows_R 0)), (am 6, eJ cA 40 (t_rows_R 1)), (am 7, eJ cA 40 (t_rows_R 2)), (am 8, eJ cA 40 (t_rows_R 3)), (am 9, eJ cA 40 (t_rows_R 4)), (am 10, eJ cA 40 (t_rows_R 5)), (am 11, eJ cA 40 (t_rows_R 6)), (am 12, eJ cA 40 (t_rows_R 7)), ((am 16), eI cA 8 t_refused)]
abbrev w1_X6_row (cA : Nat → ClassId) (am : Nat → Nat) (tkv : Value) (ttv : Value) (t : Nat → Int32) (t_L : Nat → Int64) (u : (Nat → Int32) × (Nat → Int32) × (Nat → Int32) × (Nat → Nat → Int64) × (Nat → Int32)) : va_W := [((am 0), e_X6 am tkv ttv t t_L), ((am 1), eI cA 8 u.1), ((am 2), eI cA 8 u.2.1), ((am 3), eI cA 8 u.2.2.1), ((am 4), eOJ cA am 5), (am 5, eJ cA 40 (u.2.2.2.1 0)), (am 6, eJ cA 40 (u.2.2.2.1 1)), (am 7, eJ cA 40 (u.2.2.2.1 2)), (am 8, eJ cA 40 (u.2.2.2.1 3)), (am 9, eJ cA 40 (u.2.2.2.1 4)), (am 10, eJ cA 40 (u.2.2.2.1 5)), (am 11, eJ cA 40 (u.2.2.2.1 6)), (am 12, eJ cA 40 (u.2.2.2.1 7)), ((am 16), eI cA 8 u.2.2.2.2)]
theorem hd_X6_row : yX6_row.cls = RX6 ∧ yX6_row.cls ≠ "java/lang/invoke/MethodHandle" ∧ yX6_row.cls ≠ "java/lang/invoke/VarHandle" ∧ (parseMethodDescriptor yX6_row.desc).map (fun d => d.parameters.length) = some 3 := by decide +kernel
set_option maxHeartbeats 40000000 in
set_option maxRecDepth 100000 in
theorem c_X6_row (l : Launch) (D : va_G) (cA : Nat → ClassId) (sz : Nat) (fu : Nat) (am : Nat → Nat) (tkv : Value) (ttv : Value) (t : Nat → Int32) (t_L : Nat → Int64) (t_shelf : Nat → Int32) (t_rowSort : Nat → Int32) (t_rowSize : Nat → Int32) (t_rows_R : Nat → Nat → Int64) (t_refused : Nat → Int32) (l1 : Int32) (l2 : Int32) (l3 : Int32) (out : Int32 × ((Nat → Int32) × (Nat → Int32) × (Nat → Int32) × (Nat → Nat → Int64) × (Nat → Int32))) (hm : m_X6_row fu t t_L t_shelf t_rowSort t_rowSize t_rows_R t_refused l1 l2 l3 = some out) : MI l yX6_row (wU yX6_row cX6_row 5 ((Option.some Jvm.ClassFile.FieldType.int))) rm_X6_row D cA sz [.ref (am 0), .int l1, .int l2, .int l3] (w0_X6_row cA am tkv ttv t t_L t_shelf t_rowSort t_rowSize t_rows_R t_refused) out (w1_X6_row cA am tkv ttv t t_L) := by
  refine Met.ofW (cc := cX6_row) (maxL := 5) (ret := (Option.some Jvm.ClassFile.FieldType.int)) (by decide) rfl ?_
  intro p e s m args below meth c s₁ B hml hv
  obtain ⟨hargs, hsz, hP, hK, hD0, hN⟩ := hv
  have hx := B.exec
  have hb := B.bytes
  have hr := B.returns
  have htg : ∀ w ∈ gw, w.before args s = true := fun w h => atoms_spec (ws := wU yX6_row cX6_row 5 ((Option.some Jvm.ClassFile.FieldType.int))) B.pre w (List.mem_cons_of_mem _ h)
  have hown : s.vm.findClass RX6 = some m.cls := findClass_of_methodNamed B.named
  have hlocks := B.notSynchronized
  subst hsz
  have hD := hD0.self (sz := s.heap.size)
  have hA : ∀ q : Nat, s.heap.size ≤ q → va_A (w0_X6_row cA am tkv ttv t t_L t_shelf t_rowSort t_rowSize t_rows_R t_refused) s.heap.size q := fun q h => Or.inr h
  have hS : va_S (va_A (w0_X6_row cA am tkv ttv t t_L t_shelf t_rowSort t_rowSize t_rows_R t_refused) s.heap.size) s.heap s.heap [] := va_S.rf
  generalize va_A (w0_X6_row cA am tkv ttv t t_L t_shelf t_rowSort t_rowSize t_rows_R t_refused) s.heap.size = A at hA hD hS ⊢
  obtain ⟨Q, hQ⟩ : ∃ Q : State → Prop, Q = MQ below (va_Qi (fun (r : Int32) (u : (Nat → Int32) × (Nat → Int32) × (Nat → Int32) × (Nat → Nat → Int64) × (Nat → Int32)) => (r, u) = out) (pst0 D cA A (w1_X6_row cA am tkv ttv t t_L)) A) args s 0 0 A := ⟨_, rfl⟩
  refine (?_ : W p l e rm_X6_row s m args below meth c s.heap [] 0 0 (MQ below (va_Qi (fun (r : Int32) (u : (Nat → Int32) × (Nat → Int32) × (Nat → Int32) × (Nat → Nat → Int64) × (Nat → Int32)) => (r, u) = out) (pst0 D cA A (w1_X6_row cA am tkv ttv t t_L)) A) args s 0 0 A) (entryFrame m args 5))
  rw [← hQ]
  have hP : va_P D CL [((am 0), e_X6 am tkv ttv t t_L), ((am 1), eI cA 8 t_shelf), ((am 2), eI cA 8 t_rowSort), ((am 3), eI cA 8 t_rowSize), ((am 4), eOJ cA am 5), (am 5, eJ cA 40 (t_rows_R 0)), (am 6, eJ cA 40 (t_rows_R 1)), (am 7, eJ cA 40 (t_rows_R 2)), (am 8, eJ cA 40 (t_rows_R 3)), (am 9, eJ cA 40 (t_rows_R 4)), (am 10, eJ cA 40 (t_rows_R 5)), (am 11, eJ cA 40 (t_rows_R 6)), (am 12, eJ cA 40 (t_rows_R 7)), ((am 16), eI cA 8 t_refused)] s.heap := hP
  have hD : va_D A [((am 0), e_X6 am tkv ttv t t_L), ((am 1), eI cA 8 t_shelf), ((am 2), eI cA 8 t_rowSort), ((am 3), eI cA 8 t_rowSize), ((am 4), eOJ cA am 5), (am 5, eJ cA 40 (t_rows_R 0)), (am 6, eJ cA 40 (t_rows_R 1)), (am 7, eJ cA 40 (t_rows_R 2)), (am 8, eJ cA 40 (t_rows_R 3)), (am 9, eJ cA 40 (t_rows_R 4)), (am 10, eJ cA 40 (t_rows_R 5)), (am 11, eJ cA 40 (t_rows_R 6)), (am 12, eJ cA 40 (t_rows_R 7)), ((am 16), eI cA 8 t_refused)] := hD
  have B_36 : ∀ (t_shelf : Nat → Int32) (t_rowSort : Nat → Int32) (t_rowSize : Nat → Int32) (t_rows_R : Nat → Nat → Int64) (t_refused : Nat → Int32) (H : Heap) (locs : List Loc) (ls : Array Slot), b_X6_row_36 fu t t_L t_shelf t_rowSort t_rowSize t_rows_R t_refused = some out → va_P D CL [((am 0), e_X6 am tkv ttv t t_L), ((am 1), eI cA 8 t_shelf), ((am 2), eI cA 8 t_rowSort), ((am 3), eI cA 8 t_rowSize), ((am 4), eOJ cA am 5), (am 5, eJ cA 40 (t_rows_R 0)), (am 6, eJ cA 40 (t_rows_R 1)), (am 7, eJ cA 40 (t_rows_R 2)), (am 8, eJ cA 40 (t_rows_R 3)), (am 9, eJ cA 40 (t_rows_R 4)), (am 10, eJ cA 40 (t_rows_R 5)), (am 11, eJ cA 40 (t_rows_R 6)), (am 12, eJ cA 40 (t_rows_R 7)), ((am 16), eI cA 8 t_refused)] H → va_D A [((am 0), e_X6 am tkv ttv t t_L), ((am 1), eI cA 8 t_shelf), ((am 2), eI cA 8 t_rowSort), ((am 3), eI cA 8 t_rowSize), ((am 4), eOJ cA am 5), (am 5, eJ cA 40 (t_rows_R 0)), (am 6, eJ cA 40 (t_rows_R 1)), (am 7, eJ cA 40 (t_rows_R 2)), (am 8, eJ cA 40 (t_rows_R 3)), (am 9, eJ cA 40 (t_rows_R 4)), (am 10, eJ cA 40 (t_rows_R 5)), (am 11, eJ cA 40 (t_rows_R 6)), (am 12, eJ cA 40 (t_rows_R 7)), ((am 16), eI cA 8 t_refused)] → va_S A s.heap H locs → lv_has ls 5 [(0, .ref (am 0))] → W p l e rm_X6_row s m args below meth c H locs 0 0 Q (F0 m 36 ls []) := by
    intro  t_shelf t_rowSort t_rowSize t_rows_R t_refused H locs ls hm hP hD hS hl
    unfold b_X6_row_36 at hm
    refine lv_aload_n hx hb dX6_row_36 rfl (lv_at hl 0 rfl) ?_
    refine lv_bipush (v := (-2 : Int32)) hx hb dX6_row_37 (by decide) ?_
    obtain ⟨o1, ho2, hm⟩ := bd_s hm
    refine xr_i (wr := [((am 1), eI cA 8 t_shelf), ((am 2), eI cA 8 t_rowSort), ((am 3), eI cA 8 t_rowSize), ((am 4), eOJ cA am 5), (am 5, eJ cA 40 (t_rows_R 0)), (am 6, eJ cA 40 (t_rows_R 1)), (am 7, eJ cA 40 (t_rows_R 2)), (am 8, eJ cA 40 (t_rows_R 3)), (am 9, eJ cA 40 (t_rows_R 4)), (am 10, eJ cA 40 (t_rows_R 5)), (am 11, eJ cA 40 (t_rows_R 6)), (am 12, eJ cA 40 (t_rows_R 7))]) (wn := [((am 0), e_X6 am tkv ttv t t_L), ((am 1), eI cA 8 t_shelf), ((am 2), eI cA 8 t_rowSort), ((am 3), eI cA 8 t_rowSize), ((am 4), eOJ cA am 5), (am 5, eJ cA 40 (t_rows_R 0)), (am 6, eJ cA 40 (t_rows_R 1)), (am 7, eJ cA 40 (t_rows_R 2)), (am 8, eJ cA 40 (t_rows_R 3)), (am 9, eJ cA 40 (t_rows_R 4)), (am 10, eJ cA 40 (t_rows_R 5)), (am 11, eJ cA 40 (t_rows_R 6)), (am 12, eJ cA 40 (t_rows_R 7)), ((am 16), eI cA 8 o1.2)]) (va_runV (As := [.int (-2 : Int32)]) (rest := []) ⟨hx, hb, hml, hown, htg⟩ (c_X6_refuse l D cA _ fu am tkv ttv t t_L t_refused (-2 : Int32) o1 ho2) (cwV 1 htg (gV q_5_108 q_5_110 q_p5_7 q_1_8 q_5_111) rfl rfl rfl hd_X6_refuse ⟨Nat.le_of_ble_eq_true rfl, Nat.le_of_ble_eq_true rfl⟩) (xpV hN hK hP hD [0, 13] rfl (by decide) rfl rfl) rfl rfl hl.1 rfl (lv_room (Nat.le_of_ble_eq_true rfl)) dX6_row_39 ⟨Nat.zero_le _, Nat.zero_le _⟩) hP hD hS hA [0, 13] [1, 2, 3, 4, 5, 6, 7, 8, 9, 10, 11, 12] [12, 0, 1, 2, 3, 4, 5, 6, 7, 8, 9, 10, 11, 13] rfl rfl (by decide) (by decide) rfl (by decide) (fun H locs hP hD hS => ?_)
    rw [hQ]
    exact W.iret (v := o1.1) hx hb hr (fun t9 ht hW => ⟨⟨o1.1, (t_shelf, t_rowSort, t_rowSize, t_rows_R, o1.2), rfl, (Option.some.inj hm), by rw [ht]; exact hP, va_K.moved hW.alike hK, hD⟩, hS.F ht⟩) hS.2.2 dX6_row_42
  have B_67 : ∀ (n : Nat) (x : Int32 × Int32 × (Nat → Int32) × (Nat → Int32) × (Nat → Int32) × (Nat → Nat → Int64) × (Nat → Int32)) (H : Heap) (locs : List Loc) (ls : Array Slot), lfix (b_X6_row_67 fu t t_L) n x = some out → va_P D CL [((am 0), e_X6 am tkv ttv t t_L), ((am 1), eI cA 8 x.2.2.1), ((am 2), eI cA 8 x.2.2.2.1), ((am 3), eI cA 8 x.2.2.2.2.1), ((am 4), eOJ cA am 5), (am 5, eJ cA 40 (x.2.2.2.2.2.1 0)), (am 6, eJ cA 40 (x.2.2.2.2.2.1 1)), (am 7, eJ cA 40 (x.2.2.2.2.2.1 2)), (am 8, eJ cA 40 (x.2.2.2.2.2.1 3)), (am 9, eJ cA 40 (x.2.2.2.2.2.1 4)), (am 10, eJ cA 40 (x.2.2.2.2.2.1 5)), (am 11, eJ cA 40 (x.2.2.2.2.2.1 6)), (am 12, eJ cA 40 (x.2.2.2.2.2.1 7)), ((am 16), eI cA 8 x.2.2.2.2.2.2)] H → va_D A [((am 0), e_X6 am tkv ttv t t_L), ((am 1), eI cA 8 x.2.2.1), ((am 2), eI cA 8 x.2.2.2.1), ((am 3), eI cA 8 x.2.2.2.2.1), ((am 4), eOJ cA am 5), (am 5, eJ cA 40 (x.2.2.2.2.2.1 0)), (am 6, eJ cA 40 (x.2.2.2.2.2.1 1)), (am 7, eJ cA 40 (x.2.2.2.2.2.1 2)), (am 8, eJ cA 40 (x.2.2.2.2.2.1 3)), (am 9, eJ cA 40 (x.2.2.2.2.2.1 4)), (am 10, eJ cA 40 (x.2.2.2.2.2.1 5)), (am 11, eJ cA 40 (x.2.2.2.2.2.1 6)), (am 12, eJ cA 40 (x.2.2.2.2.2.1 7)), ((am 16), eI cA 8 x.2.2.2.2.2.2)] → va_S A s.heap H locs → lv_has ls 5 [(0, .ref (am 0)), (1, .int x.1), (4, .int x.2.1)] → W p l e rm_X6_row s m args below meth c H locs 0 0 Q (F0 m 67 ls []) := by
    intro  n
    induction n with
    | zero => intro x H locs ls hm; cases (show none = some out from hm)
    | succ n HK_67 =>
      intro x H locs ls hm hP hD hS hl
      replace hm : b_X6_row_67 fu t t_L (lfix (b_X6_row_67 fu t t_L) n) x = some out := hm
      unfold b_X6_row_67 at hm
      refine lv_iload hx hb dX6_row_67 (lv_at hl 2 rfl) ?_
      refine lv_bipush (v := (40 : Int32)) hx hb dX6_row_69 (by decide) ?_
      refine lv_icmp_ge (tgt := 90) hx hb dX6_row_71 (by decide) (fun c3 => ?_) (fun c3 => ?_)
      · have hm := it_t c3 hm
        refine lv_iconst (v := (1 : Int32)) hx hb dX6_row_90 (by decide) ?_
        rw [hQ]
        exact W.iret (v := (1 : Int32)) hx hb hr (fun t9 ht hW => ⟨⟨(1 : Int32), (x.2.2.1, x.2.2.2.1, x.2.2.2.2.1, x.2.2.2.2.2.1, x.2.2.2.2.2.2), rfl, (Option.some.inj hm), by rw [ht]; exact hP, va_K.moved hW.alike hK, hD⟩, hS.F ht⟩) hS.2.2 dX6_row_91
      · have hm := it_f c3 hm
        refine lv_aload_n hx hb dX6_row_74 rfl (lv_at hl 0 rfl) ?_
        refine va_get (D := D) (ci := 6) (v := .ref (am 4)) (C := RX6) (T := TX6) (N := 49) hx hb htg inX6 hown hK hP 0 rfl rfl 3 (by decide) (htg _ q_4_192) (fun _ h9 => h9) rfl dX6_row_75 ?_
        refine lv_iload_n hx hb dX6_row_78 rfl (lv_at hl 1 rfl) ?_
        obtain ⟨hi4, hm⟩ := gd_s hm
        refine va_ald2 hx hb hK hP 4 3 rfl rfl hi4 dX6_row_79 ?_
        rw [show (va_rf ((fun i => if i < 8 then some (am (5 + i)) else none) x.1.toNatClampNeg)) = Value.ref (am (5 + x.1.toNatClampNeg)) from rf_lt (inb_lt hi4)]
        refine lv_iload hx hb dX6_row_80 (lv_at hl 2 rfl) ?_
        refine lv_lconst (v := (0 : Int64)) hx hb dX6_row_82 (by decide) ?_
        obtain ⟨hj6, hm⟩ := gd_s hm
        obtain ⟨hi5, hm⟩ := gd_s hm
        have hq7 : ([((am 0), e_X6 am tkv ttv t t_L), ((am 1), eI cA 8 x.2.2.1), ((am 2), eI cA 8 x.2.2.2.1), ((am 3), eI cA 8 x.2.2.2.2.1), ((am 4), eOJ cA am 5), (am 5, eJ cA 40 (x.2.2.2.2.2.1 0)), (am 6, eJ cA 40 (x.2.2.2.2.2.1 1)), (am 7, eJ cA 40 (x.2.2.2.2.2.1 2)), (am 8, eJ cA 40 (x.2.2.2.2.2.1 3)), (am 9, eJ cA 40 (x.2.2.2.2.2.1 4)), (am 10, eJ cA 40 (x.2.2.2.2.2.1 5)), (am 11, eJ cA 40 (x.2.2.2.2.2.1 6)), (am 12, eJ cA 40 (x.2.2.2.2.2.1 7)), ((am 16), eI cA 8 x.2.2.2.2.2.2)] : va_W)[5 + x.1.toNatClampNeg]? = some (am (5 + x.1.toNatClampNeg), eJ cA 40 (x.2.2.2.2.2.1 x.1.toNatClampNeg)) := by
          have hj8 := inb_lt hj6
          generalize x.1.toNatClampNeg = j at hj8 ⊢
          rcases (show j = 0 ∨ j = 1 ∨ j = 2 ∨ j = 3 ∨ j = 4 ∨ j = 5 ∨ j = 6 ∨ j = 7 by omega) with rfl | rfl | rfl | rfl | rfl | rfl | rfl | rfl <;> rfl
        have hs8 : ([((am 0), e_X6 am tkv ttv t t_L), ((am 1), eI cA 8 x.2.2.1), ((am 2), eI cA 8 x.2.2.2.1), ((am 3), eI cA 8 x.2.2.2.2.1), ((am 4), eOJ cA am 5), (am 5, eJ cA 40 (x.2.2.2.2.2.1 0)), (am 6, eJ cA 40 (x.2.2.2.2.2.1 1)), (am 7, eJ cA 40 (x.2.2.2.2.2.1 2)), (am 8, eJ cA 40 (x.2.2.2.2.2.1 3)), (am 9, eJ cA 40 (x.2.2.2.2.2.1 4)), (am 10, eJ cA 40 (x.2.2.2.2.2.1 5)), (am 11, eJ cA 40 (x.2.2.2.2.2.1 6)), (am 12, eJ cA 40 (x.2.2.2.2.2.1 7)), ((am 16), eI cA 8 x.2.2.2.2.2.2)] : va_W).set (5 + x.1.toNatClampNeg) (am (5 + x.1.toNatClampNeg), eJ cA 40 (vp_updL (x.2.2.2.2.2.1 x.1.toNatClampNeg) x.2.1.toNatClampNeg (0 : Int64))) = [((am 0), e_X6 am tkv ttv t t_L), ((am 1), eI cA 8 x.2.2.1), ((am 2), eI cA 8 x.2.2.2.1), ((am 3), eI cA 8 x.2.2.2.2.1), ((am 4), eOJ cA am 5), (am 5, eJ cA 40 ((va_up x.2.2.2.2.2.1 x.1.toNatClampNeg (vp_updL (x.2.2.2.2.2.1 x.1.toNatClampNeg) x.2.1.toNatClampNeg (0 : Int64))) 0)), (am 6, eJ cA 40 ((va_up x.2.2.2.2.2.1 x.1.toNatClampNeg (vp_updL (x.2.2.2.2.2.1 x.1.toNatClampNeg) x.2.1.toNatClampNeg (0 : Int64))) 1)), (am 7, eJ cA 40 ((va_up x.2.2.2.2.2.1 x.1.toNatClampNeg (vp_updL (x.2.2.2.2.2.1 x.1.toNatClampNeg) x.2.1.toNatClampNeg (0 : Int64))) 2)), (am 8, eJ cA 40 ((va_up x.2.2.2.2.2.1 x.1.toNatClampNeg (vp_updL (x.2.2.2.2.2.1 x.1.toNatClampNeg) x.2.1.toNatClampNeg (0 : Int64))) 3)), (am 9, eJ cA 40 ((va_up x.2.2.2.2.2.1 x.1.toNatClampNeg (vp_updL (x.2.2.2.2.2.1 x.1.toNatClampNeg) x.2.1.toNatClampNeg (0 : Int64))) 4)), (am 10, eJ cA 40 ((va_up x.2.2.2.2.2.1 x.1.toNatClampNeg (vp_updL (x.2.2.2.2.2.1 x.1.toNatClampNeg) x.2.1.toNatClampNeg (0 : Int64))) 5)), (am 11, eJ cA 40 ((va_up x.2.2.2.2.2.1 x.1.toNatClampNeg (vp_updL (x.2.2.2.2.2.1 x.1.toNatClampNeg) x.2.1.toNatClampNeg (0 : Int64))) 6)), (am 12, eJ cA 40 ((va_up x.2.2.2.2.2.1 x.1.toNatClampNeg (vp_updL (x.2.2.2.2.2.1 x.1.toNatClampNeg) x.2.1.toNatClampNeg (0 : Int64))) 7)), ((am 16), eI cA 8 x.2.2.2.2.2.2)] := by
          have hj8 := inb_lt hj6
          generalize (vp_updL (x.2.2.2.2.2.1 x.1.toNatClampNeg) x.2.1.toNatClampNeg (0 : Int64)) = hg
          generalize x.1.toNatClampNeg = j at hj8 ⊢
          rcases (show j = 0 ∨ j = 1 ∨ j = 2 ∨ j = 3 ∨ j = 4 ∨ j = 5 ∨ j = 6 ∨ j = 7 by omega) with rfl | rfl | rfl | rfl | rfl | rfl | rfl | rfl <;> rfl
        refine va_last hx hb hK hP hD hS (5 + x.1.toNatClampNeg) 1 hq7 rfl hi5 dX6_row_83 (fun H locs hP hD hS => ?_)
        rw [hs8] at hP hD
        refine lv_iinc (v := (x.2.1 + (1 : Int32))) (lv' := [(4, .int (x.2.1 + (1 : Int32))), (0, .ref (am 0)), (1, .int x.1)]) hx hb dX6_row_84 hl (k := 2) rfl rfl (by decide) rfl (fun ls hl => ?_)
        refine lv_goto (tgt := 67) hx hb dX6_row_87 (by decide) ?_
        exact HK_67 _ _ _ _ hm hP hD hS (lv_sub hl [1, 2, 0] rfl)
  unfold m_X6_row at hm
  subst hargs
  have hl := lv_entry ([.ref (am 0), .int l1, .int l2, .int l3]) (n := 5) (Nat.le_of_ble_eq_true rfl)
  rw [lg_entry_eq]
  generalize (lg_sl ([.ref (am 0), .int l1, .int l2, .int l3]) ++ List.replicate (5 - (lg_sl ([.ref (am 0), .int l1, .int l2, .int l3])).length) Slot.unset).toArray = ls at hl ⊢
  have hl : lv_has ls 5 [(0, .ref (am 0)), (1, .int l1), (2, .int l2), (3, .int l3)] := hl
  refine lv_iload_n hx hb dX6_row_0 rfl (lv_at hl 1 rfl) ?_
  refine lv_i2l hx hb dX6_row_1 rfl ?_
  refine lv_lconst (v := (0 : Int64)) hx hb dX6_row_2 (by decide) ?_
  refine lv_ldc2 (v := (7 : Int64)) hx hb hown (htg _ q_5_102) dX6_row_3 ?_
  obtain ⟨o9, ho10, hm⟩ := bd_s hm
  refine xr_i (wr := [((am 0), e_X6 am tkv ttv t t_L), ((am 1), eI cA 8 t_shelf), ((am 2), eI cA 8 t_rowSort), ((am 3), eI cA 8 t_rowSize), ((am 4), eOJ cA am 5), (am 5, eJ cA 40 (t_rows_R 0)), (am 6, eJ cA 40 (t_rows_R 1)), (am 7, eJ cA 40 (t_rows_R 2)), (am 8, eJ cA 40 (t_rows_R 3)), (am 9, eJ cA 40 (t_rows_R 4)), (am 10, eJ cA 40 (t_rows_R 5)), (am 11, eJ cA 40 (t_rows_R 6)), (am 12, eJ cA 40 (t_rows_R 7)), ((am 16), eI cA 8 t_refused)]) (wn := [((am 0), e_X6 am tkv ttv t t_L), ((am 1), eI cA 8 t_shelf), ((am 2), eI cA 8 t_rowSort), ((am 3), eI cA 8 t_rowSize), ((am 4), eOJ cA am 5), (am 5, eJ cA 40 (t_rows_R 0)), (am 6, eJ cA 40 (t_rows_R 1)), (am 7, eJ cA 40 (t_rows_R 2)), (am 8, eJ cA 40 (t_rows_R 3)), (am 9, eJ cA 40 (t_rows_R 4)), (am 10, eJ cA 40 (t_rows_R 5)), (am 11, eJ cA 40 (t_rows_R 6)), (am 12, eJ cA 40 (t_rows_R 7)), ((am 16), eI cA 8 t_refused)]) (va_runS (As := [.long l1.toInt64, .long (0 : Int64), .long (7 : Int64)]) (rest := []) ⟨hx, hb, hml, hown, htg⟩ (c_X6_in l D cA _ fu l1.toInt64 (0 : Int64) (7 : Int64) o9 ho10) (cwS 3 htg (gS q_5_103 q_5_104 q_1_8 q_5_105) rfl rfl rfl hd_X6_in ⟨Nat.le_of_ble_eq_true rfl, Nat.le_of_ble_eq_true rfl⟩) (xpS hN hK hP hD [] rfl (by decide)) rfl rfl hl.1 rfl (lv_room (Nat.le_of_ble_eq_true rfl)) dX6_row_6 ⟨Nat.zero_le _, Nat.zero_le _⟩) hP hD hS hA [] [0, 1, 2, 3, 4, 5, 6, 7, 8, 9, 10, 11, 12, 13] [0, 1, 2, 3, 4, 5, 6, 7, 8, 9, 10, 11, 12, 13] rfl rfl (by decide) (by decide) rfl (by decide) (fun H locs hP hD hS => ?_)
  refine lv_if_eq (tgt := 36) hx hb dX6_row_9 (by decide) (fun c11 => ?_) (fun c11 => ?_)
  · have hm := it_t c11 hm
    exact B_36 _ _ _ _ _ _ _ _ hm hP hD hS (lv_sub hl [0] rfl)
  · have hm := it_f c11 hm
    refine lv_iload_n hx hb dX6_row_12 rfl (lv_at hl 2 rfl) ?_
    refine lv_i2l hx hb dX6_row_13 rfl ?_
    refine lv_lconst (v := (0 : Int64)) hx hb dX6_row_14 (by decide) ?_
    refine lv_ldc2 (v := (4 : Int64)) hx hb hown (htg _ q_5_106) dX6_row_15 ?_
    obtain ⟨o12, ho13, hm⟩ := bd_s hm
    refine xr_i (wr := [((am 0), e_X6 am tkv ttv t t_L), ((am 1), eI cA 8 t_shelf), ((am 2), eI cA 8 t_rowSort), ((am 3), eI cA 8 t_rowSize), ((am 4), eOJ cA am 5), (am 5, eJ cA 40 (t_rows_R 0)), (am 6, eJ cA 40 (t_rows_R 1)), (am 7, eJ cA 40 (t_rows_R 2)), (am 8, eJ cA 40 (t_rows_R 3)), (am 9, eJ cA 40 (t_rows_R 4)), (am 10, eJ cA 40 (t_rows_R 5)), (am 11, eJ cA 40 (t_rows_R 6)), (am 12, eJ cA 40 (t_rows_R 7)), ((am 16), eI cA 8 t_refused)]) (wn := [((am 0), e_X6 am tkv ttv t t_L), ((am 1), eI cA 8 t_shelf), ((am 2), eI cA 8 t_rowSort), ((am 3), eI cA 8 t_rowSize), ((am 4), eOJ cA am 5), (am 5, eJ cA 40 (t_rows_R 0)), (am 6, eJ cA 40 (t_rows_R 1)), (am 7, eJ cA 40 (t_rows_R 2)), (am 8, eJ cA 40 (t_rows_R 3)), (am 9, eJ cA 40 (t_rows_R 4)), (am 10, eJ cA 40 (t_rows_R 5)), (am 11, eJ cA 40 (t_rows_R 6)), (am 12, eJ cA 40 (t_rows_R 7)), ((am 16), eI cA 8 t_refused)]) (va_runS (As := [.long l2.toInt64, .long (0 : Int64), .long (4 : Int64)]) (rest := []) ⟨hx, hb, hml, hown, htg⟩ (c_X6_in l D cA _ fu l2.toInt64 (0 : Int64) (4 : Int64) o12 ho13) (cwS 3 htg (gS q_5_103 q_5_104 q_1_8 q_5_105) rfl rfl rfl hd_X6_in ⟨Nat.le_of_ble_eq_true rfl, Nat.le_of_ble_eq_true rfl⟩) (xpS hN hK hP hD [] rfl (by decide)) rfl rfl hl.1 rfl (lv_room (Nat.le_of_ble_eq_true rfl)) dX6_row_18 ⟨Nat.zero_le _, Nat.zero_le _⟩) hP hD hS hA [] [0, 1, 2, 3, 4, 5, 6, 7, 8, 9, 10, 11, 12, 13] [0, 1, 2, 3, 4, 5, 6, 7, 8, 9, 10, 11, 12, 13] rfl rfl (by decide) (by decide) rfl (by decide) (fun H locs hP hD hS => ?_)
    refine lv_if_eq (tgt := 36) hx hb dX6_row_21 (by decide) (fun c14 => ?_) (fun c14 => ?_)
    · have hm := it_t c14 hm
      exact B_36 _ _ _ _ _ _ _ _ hm hP hD hS (lv_sub hl [0] rfl)
    · have hm := it_f c14 hm
      refine lv_iload_n hx hb dX6_row_24 rfl (lv_at hl 3 rfl) ?_
      refine lv_i2l hx hb dX6_row_25 rfl ?_
      refine lv_lconst (v := (0 : Int64)) hx hb dX6_row_26 (by decide) ?_
      refine lv_ldc2 (v := (40 : Int64)) hx hb hown (htg _ q_5_107) dX6_row_27 ?_
      obtain ⟨o15, ho16, hm⟩ := bd_s hm
      refine xr_i (wr := [((am 0), e_X6 am tkv ttv t t_L), ((am 1), eI cA 8 t_shelf), ((am 2), eI cA 8 t_rowSort), ((am 3), eI cA 8 t_rowSize), ((am 4), eOJ cA am 5), (am 5, eJ cA 40 (t_rows_R 0)), (am 6, eJ cA 40 (t_rows_R 1)), (am 7, eJ cA 40 (t_rows_R 2)), (am 8, eJ cA 40 (t_rows_R 3)), (am 9, eJ cA 40 (t_rows_R 4)), (am 10, eJ cA 40 (t_rows_R 5)), (am 11, eJ cA 40 (t_rows_R 6)), (am 12, eJ cA 40 (t_rows_R 7)), ((am 16), eI cA 8 t_refused)]) (wn := [((am 0), e_X6 am tkv ttv t t_L), ((am 1), eI cA 8 t_shelf), ((am 2), eI cA 8 t_rowSort), ((am 3), eI cA 8 t_rowSize), ((am 4), eOJ cA am 5), (am 5, eJ cA 40 (t_rows_R 0)), (am 6, eJ cA 40 (t_rows_R 1)), (am 7, eJ cA 40 (t_rows_R 2)), (am 8, eJ cA 40 (t_rows_R 3)), (am 9, eJ cA 40 (t_rows_R 4)), (am 10, eJ cA 40 (t_rows_R 5)), (am 11, eJ cA 40 (t_rows_R 6)), (am 12, eJ cA 40 (t_rows_R 7)), ((am 16), eI cA 8 t_refused)]) (va_runS (As := [.long l3.toInt64, .long (0 : Int64), .long (40 : Int64)]) (rest := []) ⟨hx, hb, hml, hown, htg⟩ (c_X6_in l D cA _ fu l3.toInt64 (0 : Int64) (40 : Int64) o15 ho16) (cwS 3 htg (gS q_5_103 q_5_104 q_1_8 q_5_105) rfl rfl rfl hd_X6_in ⟨Nat.le_of_ble_eq_true rfl, Nat.le_of_ble_eq_true rfl⟩) (xpS hN hK hP hD [] rfl (by decide)) rfl rfl hl.1 rfl (lv_room (Nat.le_of_ble_eq_true rfl)) dX6_row_30 ⟨Nat.zero_le _, Nat.zero_le _⟩) hP hD hS hA [] [0, 1, 2, 3, 4, 5, 6, 7, 8, 9, 10, 11, 12, 13] [0, 1, 2, 3, 4, 5, 6, 7, 8, 9, 10, 11, 12, 13] rfl rfl (by decide) (by decide) rfl (by decide) (fun H locs hP hD hS => ?_)
      refine lv_if_ne (tgt := 43) hx hb dX6_row_33 (by decide) (fun c17 => ?_) (fun c17 => ?_)
      · have hm := it_f c17 hm
        refine lv_aload_n hx hb dX6_row_43 rfl (lv_at hl 0 rfl) ?_
        refine va_get (D := D) (ci := 6) (v := .ref (am 1)) (C := RX6) (T := TX6) (N := 49) hx hb htg inX6 hown hK hP 0 rfl rfl 0 (by decide) (htg _ q_4_189) (fun _ h9 => h9) rfl dX6_row_44 ?_
        refine lv_iload_n hx hb dX6_row_47 rfl (lv_at hl 1 rfl) ?_
        refine lv_iconst (v := (1 : Int32)) hx hb dX6_row_48 (by decide) ?_
        obtain ⟨hi18, hm⟩ := gd_s hm
        refine va_iast hx hb hK hP hD hS 1 0 rfl rfl hi18 dX6_row_49 (fun H locs (hP : va_P D CL [((am 0), e_X6 am tkv ttv t t_L), ((am 1), eI cA 8 (upd t_shelf l1.toNatClampNeg (1 : Int32))), ((am 2), eI cA 8 t_rowSort), ((am 3), eI cA 8 t_rowSize), ((am 4), eOJ cA am 5), (am 5, eJ cA 40 (t_rows_R 0)), (am 6, eJ cA 40 (t_rows_R 1)), (am 7, eJ cA 40 (t_rows_R 2)), (am 8, eJ cA 40 (t_rows_R 3)), (am 9, eJ cA 40 (t_rows_R 4)), (am 10, eJ cA 40 (t_rows_R 5)), (am 11, eJ cA 40 (t_rows_R 6)), (am 12, eJ cA 40 (t_rows_R 7)), ((am 16), eI cA 8 t_refused)] H) (hD : va_D A [((am 0), e_X6 am tkv ttv t t_L), ((am 1), eI cA 8 (upd t_shelf l1.toNatClampNeg (1 : Int32))), ((am 2), eI cA 8 t_rowSort), ((am 3), eI cA 8 t_rowSize), ((am 4), eOJ cA am 5), (am 5, eJ cA 40 (t_rows_R 0)), (am 6, eJ cA 40 (t_rows_R 1)), (am 7, eJ cA 40 (t_rows_R 2)), (am 8, eJ cA 40 (t_rows_R 3)), (am 9, eJ cA 40 (t_rows_R 4)), (am 10, eJ cA 40 (t_rows_R 5)), (am 11, eJ cA 40 (t_rows_R 6)), (am 12, eJ cA 40 (t_rows_R 7)), ((am 16), eI cA 8 t_refused)]) hS => ?_)
        refine lv_aload_n hx hb dX6_row_50 rfl (lv_at hl 0 rfl) ?_
        refine va_get (D := D) (ci := 6) (v := .ref (am 2)) (C := RX6) (T := TX6) (N := 49) hx hb htg inX6 hown hK hP 0 rfl rfl 1 (by decide) (htg _ q_4_190) (fun _ h9 => h9) rfl dX6_row_51 ?_
        refine lv_iload_n hx hb dX6_row_54 rfl (lv_at hl 1 rfl) ?_
        refine lv_iload_n hx hb dX6_row_55 rfl (lv_at hl 2 rfl) ?_
        obtain ⟨hi19, hm⟩ := gd_s hm
        refine va_iast hx hb hK hP hD hS 2 0 rfl rfl hi19 dX6_row_56 (fun H locs (hP : va_P D CL [((am 0), e_X6 am tkv ttv t t_L), ((am 1), eI cA 8 (upd t_shelf l1.toNatClampNeg (1 : Int32))), ((am 2), eI cA 8 (upd t_rowSort l1.toNatClampNeg l2)), ((am 3), eI cA 8 t_rowSize), ((am 4), eOJ cA am 5), (am 5, eJ cA 40 (t_rows_R 0)), (am 6, eJ cA 40 (t_rows_R 1)), (am 7, eJ cA 40 (t_rows_R 2)), (am 8, eJ cA 40 (t_rows_R 3)), (am 9, eJ cA 40 (t_rows_R 4)), (am 10, eJ cA 40 (t_rows_R 5)), (am 11, eJ cA 40 (t_rows_R 6)), (am 12, eJ cA 40 (t_rows_R 7)), ((am 16), eI cA 8 t_refused)] H) (hD : va_D A [((am 0), e_X6 am tkv ttv t t_L), ((am 1), eI cA 8 (upd t_shelf l1.toNatClampNeg (1 : Int32))), ((am 2), eI cA 8 (upd t_rowSort l1.toNatClampNeg l2)), ((am 3), eI cA 8 t_rowSize), ((am 4), eOJ cA am 5), (am 5, eJ cA 40 (t_rows_R 0)), (am 6, eJ cA 40 (t_rows_R 1)), (am 7, eJ cA 40 (t_rows_R 2)), (am 8, eJ cA 40 (t_rows_R 3)), (am 9, eJ cA 40 (t_rows_R 4)), (am 10, eJ cA 40 (t_rows_R 5)), (am 11, eJ cA 40 (t_rows_R 6)), (am 12, eJ cA 40 (t_rows_R 7)), ((am 16), eI cA 8 t_refused)]) hS => ?_)
        refine lv_aload_n hx hb dX6_row_57 rfl (lv_at hl 0 rfl) ?_
        refine va_get (D := D) (ci := 6) (v := .ref (am 3)) (C := RX6) (T := TX6) (N := 49) hx hb htg inX6 hown hK hP 0 rfl rfl 2 (by decide) (htg _ q_4_191) (fun _ h9 => h9) rfl dX6_row_58 ?_
        refine lv_iload_n hx hb dX6_row_61 rfl (lv_at hl 1 rfl) ?_
        refine lv_iload_n hx hb dX6_row_62 rfl (lv_at hl 3 rfl) ?_
        obtain ⟨hi20, hm⟩ := gd_s hm
        refine va_iast hx hb hK hP hD hS 3 0 rfl rfl hi20 dX6_row_63 (fun H locs (hP : va_P D CL [((am 0), e_X6 am tkv ttv t t_L), ((am 1), eI cA 8 (upd t_shelf l1.toNatClampNeg (1 : Int32))), ((am 2), eI cA 8 (upd t_rowSort l1.toNatClampNeg l2)), ((am 3), eI cA 8 (upd t_rowSize l1.toNatClampNeg l3)), ((am 4), eOJ cA am 5), (am 5, eJ cA 40 (t_rows_R 0)), (am 6, eJ cA 40 (t_rows_R 1)), (am 7, eJ cA 40 (t_rows_R 2)), (am 8, eJ cA 40 (t_rows_R 3)), (am 9, eJ cA 40 (t_rows_R 4)), (am 10, eJ cA 40 (t_rows_R 5)), (am 11, eJ cA 40 (t_rows_R 6)), (am 12, eJ cA 40 (t_rows_R 7)), ((am 16), eI cA 8 t_refused)] H) (hD : va_D A [((am 0), e_X6 am tkv ttv t t_L), ((am 1), eI cA 8 (upd t_shelf l1.toNatClampNeg (1 : Int32))), ((am 2), eI cA 8 (upd t_rowSort l1.toNatClampNeg l2)), ((am 3), eI cA 8 (upd t_rowSize l1.toNatClampNeg l3)), ((am 4), eOJ cA am 5), (am 5, eJ cA 40 (t_rows_R 0)), (am 6, eJ cA 40 (t_rows_R 1)), (am 7, eJ cA 40 (t_rows_R 2)), (am 8, eJ cA 40 (t_rows_R 3)), (am 9, eJ cA 40 (t_rows_R 4)), (am 10, eJ cA 40 (t_rows_R 5)), (am 11, eJ cA 40 (t_rows_R 6)), (am 12, eJ cA 40 (t_rows_R 7)), ((am 16), eI cA 8 t_refused)]) hS => ?_)
        refine lv_iconst (v := (0 : Int32)) hx hb dX6_row_64 (by decide) ?_
        refine lv_istore (lv' := [(4, .int (0 : Int32)), (0, .ref (am 0)), (1, .int l1), (2, .int l2), (3, .int l3)]) hx hb dX6_row_65 hl (by decide) rfl (fun ls hl => ?_)
        exact B_67 fu _ _ _ _ hm hP hD hS (lv_sub hl [1, 2, 0] rfl)
      · have hm := it_t c17 hm
        exact B_36 _ _ _ _ _ _ _ _ hm hP hD hS (lv_sub hl [0] rfl)
def b_X6_fit_59 (fu : Nat) (s0 : Int64) : Option (Int64 × Unit) :=
  some (s0, ())
def m_X6_fit (fu : Nat) (l0 : Int32) (l1 : Int64) : Option (Int64 × Unit) :=
  (if l0 = (0 : Int32) then
    some (l1.toInt32.toInt8.toInt32.toInt64, ())
  else (if l0 = (1 : Int32) then
    some (l1.toInt32.toInt16.toInt32.toInt64, ())
  else (if l0 = (2 : Int32) then
    some (l1.toInt32.toInt64, ())
  else (if l0 = (3 : Int32) then
    some (l1, ())
  else (if (lg_cmp l1 (0 : Int64)) = 0 then
    b_X6_fit_59 fu (0 : Int64)
  else
    b_X6_fit_59 fu (1 : Int64))))))
abbrev rm_X6_fit : Room := ({ frames := 0, cells := 0, slots := 0, locals := 0 } : Room)
abbrev w0_X6_fit (cA : Nat → ClassId)  : va_W := []
abbrev w1_X6_fit (cA : Nat → ClassId)  (u : Unit) : va_W := []
theorem hd_X6_fit : yX6_fit.cls = RX6 ∧ yX6_fit.cls ≠ "java/lang/invoke/MethodHandle" ∧ yX6_fit.cls ≠ "java/lang/invoke/VarHandle" ∧ (parseMethodDescriptor yX6_fit.desc).map (fun d => d.parameters.length) = some 2 := by decide +kernel
set_option maxHeartbeats 40000000 in
set_option maxRecDepth 100000 in
theorem c_X6_fit (l : Launch) (D : va_G) (cA : Nat → ClassId) (sz : Nat) (fu : Nat) (l0 : Int32) (l1 : Int64) (out : Int64 × Unit) (hm : m_X6_fit fu l0 l1 = some out) : ML l yX6_fit (wU yX6_fit cX6_fit 3 ((Option.some Jvm.ClassFile.FieldType.long))) rm_X6_fit D cA sz [.int l0, .long l1] (w0_X6_fit cA ) out (w1_X6_fit cA ) := by
  refine Met.ofW (cc := cX6_fit) (maxL := 3) (ret := (Option.some Jvm.ClassFile.FieldType.long)) (by decide) rfl ?_
  intro p e s m args below meth c s₁ B hml hv
  obtain ⟨hargs, hsz, hP, hK, hD0, hN⟩ := hv
  have hx := B.exec
  have hb := B.bytes
  have hr := B.returns
  have htg : ∀ w ∈ gw, w.before args s = true := fun w h => atoms_spec (ws := wU yX6_fit cX6_fit 3 ((Option.some Jvm.ClassFile.FieldType.long))) B.pre w (List.mem_cons_of_mem _ h)
  have hown : s.vm.findClass RX6 = some m.cls := findClass_of_methodNamed B.named
  have hlocks := B.notSynchronized
  subst hsz
  have hD := hD0.self (sz := s.heap.size)
  have hA : ∀ q : Nat, s.heap.size ≤ q → va_A (w0_X6_fit cA ) s.heap.size q := fun q h => Or.inr h
  have hS : va_S (va_A (w0_X6_fit cA ) s.heap.size) s.heap s.heap [] := va_S.rf
  generalize va_A (w0_X6_fit cA ) s.heap.size = A at hA hD hS ⊢
  obtain ⟨Q, hQ⟩ : ∃ Q : State → Prop, Q = MQ below (va_Ql (fun (r : Int64) (u : Unit) => (r, u) = out) (pst0 D cA A (w1_X6_fit cA )) A) args s 0 0 A := ⟨_, rfl⟩
  refine (?_ : W p l e rm_X6_fit s m args below meth c s.heap [] 0 0 (MQ below (va_Ql (fun (r : Int64) (u : Unit) => (r, u) = out) (pst0 D cA A (w1_X6_fit cA )) A) args s 0 0 A) (entryFrame m args 3))
  rw [← hQ]
  have hP : va_P D CL [] s.heap := hP
  have hD : va_D A [] := hD
  have B_59 : ∀ (s0 : Int64) (H : Heap) (locs : List Loc) (ls : Array Slot), b_X6_fit_59 fu s0 = some out → va_P D CL [] H → va_D A [] → va_S A s.heap H locs → lv_has ls 3 [] → W p l e rm_X6_fit s m args below meth c H locs 0 0 Q (F0 m 59 ls [.long s0]) := by
    intro  s0 H locs ls hm hP hD hS hl
    unfold b_X6_fit_59 at hm
    rw [hQ]
    exact W.lret (v := s0) hx hb hr (fun t9 ht hW => ⟨⟨s0, (), rfl, (Option.some.inj hm), by rw [ht]; exact hP, va_K.moved hW.alike hK, hD⟩, hS.F ht⟩) hS.2.2 dX6_fit_59
  unfold m_X6_fit at hm
  subst hargs
  have hl := lv_entry ([.int l0, .long l1]) (n := 3) (Nat.le_of_ble_eq_true rfl)
  rw [lg_entry_eq]
  generalize (lg_sl ([.int l0, .long l1]) ++ List.replicate (3 - (lg_sl ([.int l0, .long l1])).length) Slot.unset).toArray = ls at hl ⊢
  have hl : lv_has ls 3 [(0, .int l0), (1, .long l1)] := hl
  refine lv_iload_n hx hb dX6_fit_0 rfl (lv_at hl 0 rfl) ?_
  by_cases c1 : l0 = (0 : Int32)
  · have hm := it_t c1 hm
    have he : (l0).toInt = 0 := by rw [c1]; decide
    refine lv_tableIn (tgt := 32) (off := 31) hx hb dX6_fit_1 (by rw [he]; decide) (by rw [he]; decide) (by rw [he]; rfl) (by decide) ?_
    refine lv_lload_n hx hb dX6_fit_32 rfl (lv_at hl 1 rfl) ?_
    refine lv_l2i hx hb dX6_fit_33 rfl ?_
    refine lv_i2b hx hb dX6_fit_34 rfl ?_
    refine lv_i2l hx hb dX6_fit_35 rfl ?_
    rw [hQ]
    exact W.lret (v := l1.toInt32.toInt8.toInt32.toInt64) hx hb hr (fun t9 ht hW => ⟨⟨l1.toInt32.toInt8.toInt32.toInt64, (), rfl, (Option.some.inj hm), by rw [ht]; exact hP, va_K.moved hW.alike hK, hD⟩, hS.F ht⟩) hS.2.2 dX6_fit_36
  have hm := it_f c1 hm
  by_cases c2 : l0 = (1 : Int32)
  · have hm := it_t c2 hm
    have he : (l0).toInt = 1 := by rw [c2]; decide
    refine lv_tableIn (tgt := 37) (off := 36) hx hb dX6_fit_1 (by rw [he]; decide) (by rw [he]; decide) (by rw [he]; rfl) (by decide) ?_
    refine lv_lload_n hx hb dX6_fit_37 rfl (lv_at hl 1 rfl) ?_
    refine lv_l2i hx hb dX6_fit_38 rfl ?_
    refine lv_i2s hx hb dX6_fit_39 rfl ?_
    refine lv_i2l hx hb dX6_fit_40 rfl ?_
    rw [hQ]
    exact W.lret (v := l1.toInt32.toInt16.toInt32.toInt64) hx hb hr (fun t9 ht hW => ⟨⟨l1.toInt32.toInt16.toInt32.toInt64, (), rfl, (Option.some.inj hm), by rw [ht]; exact hP, va_K.moved hW.alike hK, hD⟩, hS.F ht⟩) hS.2.2 dX6_fit_41
  have hm := it_f c2 hm
  by_cases c3 : l0 = (2 : Int32)
  · have hm := it_t c3 hm
    have he : (l0).toInt = 2 := by rw [c3]; decide
    refine lv_tableIn (tgt := 42) (off := 41) hx hb dX6_fit_1 (by rw [he]; decide) (by rw [he]; decide) (by rw [he]; rfl) (by decide) ?_
    refine lv_lload_n hx hb dX6_fit_42 rfl (lv_at hl 1 rfl) ?_
    refine lv_l2i hx hb dX6_fit_43 rfl ?_
    refine lv_i2l hx hb dX6_fit_44 rfl ?_
    rw [hQ]
    exact W.lret (v := l1.toInt32.toInt64) hx hb hr (fun t9 ht hW => ⟨⟨l1.toInt32.toInt64, (), rfl, (Option.some.inj hm), by rw [ht]; exact hP, va_K.moved hW.alike hK, hD⟩, hS.F ht⟩) hS.2.2 dX6_fit_45
  have hm := it_f c3 hm
  by_cases c4 : l0 = (3 : Int32)
  · have hm := it_t c4 hm
    have he : (l0).toInt = 3 := by rw [c4]; decide
    refine lv_tableIn (tgt := 46) (off := 45) hx hb dX6_fit_1 (by rw [he]; decide) (by rw [he]; decide) (by rw [he]; rfl) (by decide) ?_
    refine lv_lload_n hx hb dX6_fit_46 rfl (lv_at hl 1 rfl) ?_
    rw [hQ]
    exact W.lret (v := l1) hx hb hr (fun t9 ht hW => ⟨⟨l1, (), rfl, (Option.some.inj hm), by rw [ht]; exact hP, va_K.moved hW.alike hK, hD⟩, hS.F ht⟩) hS.2.2 dX6_fit_47
  have hm := it_f c4 hm
  have ho : (l0).toInt < 0 ∨ 3 < (l0).toInt := by
    refine Classical.byContradiction fun hh => ?_
    have h1 : 0 ≤ (l0).toInt ∧ (l0).toInt ≤ 3 := by omega
    have h2 : (l0).toInt = 0 ∨ (l0).toInt = 1 ∨ (l0).toInt = 2 ∨ (l0).toInt = 3 := by omega
    rcases h2 with h2 | h2 | h2 | h2
    · exact c1 (Int32.toInt_inj.mp (h2.trans (by decide)))
    · exact c2 (Int32.toInt_inj.mp (h2.trans (by decide)))
    · exact c3 (Int32.toInt_inj.mp (h2.trans (by decide)))
    · exact c4 (Int32.toInt_inj.mp (h2.trans (by decide)))
  refine lv_tableOut (tgt := 48) hx hb dX6_fit_1 ho (by decide) ?_
  refine lv_lload_n hx hb dX6_fit_48 rfl (lv_at hl 1 rfl) ?_
  refine lv_lconst (v := (0 : Int64)) hx hb dX6_fit_49 (by decide) ?_
  refine W.lcmp hx hb dX6_fit_50 ?_
  refine lv_if_eq (tgt := 58) hx hb dX6_fit_51 (by decide) (fun c5 => ?_) (fun c5 => ?_)
  · have hm := it_t c5 hm
    refine lv_lconst (v := (0 : Int64)) hx hb dX6_fit_58 (by decide) ?_
    exact B_59 _ _ _ _ hm hP hD hS (lv_sub hl [] rfl)
  · have hm := it_f c5 hm
    refine lv_lconst (v := (1 : Int64)) hx hb dX6_fit_54 (by decide) ?_
    refine lv_goto (tgt := 59) hx hb dX6_fit_55 (by decide) ?_
    exact B_59 _ _ _ _ hm hP hD hS (lv_sub hl [] rfl)
def b_X6_noRow_55 (fu : Nat) (t : Nat → Int32) (t_L : Nat → Int64) (t_shelf : Nat → Int32) (s0 : Int32) (t_refused : Nat → Int32) : Option (Int32 × (Nat → Int32)) :=
  some (s0, t_refused)
def m_X6_noRow (fu : Nat) (t : Nat → Int32) (t_L : Nat → Int64) (t_shelf : Nat → Int32) (t_refused : Nat → Int32) (l1 : Int32) : Option (Int32 × (Nat → Int32)) :=
  (m_X6_in fu l1.toInt64 (0 : Int64) (7 : Int64)).bind fun o1 =>
  (if o1.1 = 0 then
    (m_X6_refuse fu t t_L t_refused (-2 : Int32)).bind fun o12 =>
    some (o12.1, o12.2)
  else
    gd (inb l1 8) (
    (if (t_shelf l1.toNatClampNeg) = (2 : Int32) then
      (m_X6_refuse fu t t_L t_refused (-3 : Int32)).bind fun o10 =>
      some (o10.1, o10.2)
    else
      gd (inb l1 8) (
      (if (t_shelf l1.toNatClampNeg) = 0 then
        (m_X6_refuse fu t t_L t_refused (-4 : Int32)).bind fun o8 =>
        b_X6_noRow_55 fu t t_L t_shelf o8.1 o8.2
      else
        b_X6_noRow_55 fu t t_L t_shelf (0 : Int32) t_refused)))))
abbrev rm_X6_noRow : Room := ({ frames := 1, cells := 0, slots := 0, locals := 25 } : Room)
abbrev w0_X6_noRow (cA : Nat → ClassId) (am : Nat → Nat) (tkv : Value) (ttv : Value) (t : Nat → Int32) (t_L : Nat → Int64) (t_shelf : Nat → Int32) (t_refused : Nat → Int32) : va_W := [((am 0), e_X6 am tkv ttv t t_L), ((am 1), eI cA 8 t_shelf), ((am 16), eI cA 8 t_refused)]
abbrev w1_X6_noRow (cA : Nat → ClassId) (am : Nat → Nat) (tkv : Value) (ttv : Value) (t : Nat → Int32) (t_L : Nat → Int64) (t_shelf : Nat → Int32) (u : (Nat → Int32)) : va_W := [((am 0), e_X6 am tkv ttv t t_L), ((am 1), eI cA 8 t_shelf), ((am 16), eI cA 8 u)]
theorem hd_X6_noRow : yX6_noRow.cls = RX6 ∧ yX6_noRow.cls ≠ "java/lang/invoke/MethodHandle" ∧ yX6_noRow.cls ≠ "java/lang/invoke/VarHandle" ∧ (parseMethodDescriptor yX6_noRow.desc).map (fun d => d.parameters.length) = some 1 := by decide +kernel
set_option maxHeartbeats 40000000 in
set_option maxRecDepth 100000 in
theorem c_X6_noRow (l : Launch) (D : va_G) (cA : Nat → ClassId) (sz : Nat) (fu : Nat) (am : Nat → Nat) (tkv : Value) (ttv : Value) (t : Nat → Int32) (t_L : Nat → Int64) (t_shelf : Nat → Int32) (t_refused : Nat → Int32) (l1 : Int32) (out : Int32 × (Nat → Int32)) (hm : m_X6_noRow fu t t_L t_shelf t_refused l1 = some out) : MI l yX6_noRow (wU yX6_noRow cX6_noRow 2 ((Option.some Jvm.ClassFile.FieldType.int))) rm_X6_noRow D cA sz [.ref (am 0), .int l1] (w0_X6_noRow cA am tkv ttv t t_L t_shelf t_refused) out (w1_X6_noRow cA am tkv ttv t t_L t_shelf) := by
  refine Met.ofW (cc := cX6_noRow) (maxL := 2) (ret := (Option.some Jvm.ClassFile.FieldType.int)) (by decide) rfl ?_
  intro p e s m args below meth c s₁ B hml hv
  obtain ⟨hargs, hsz, hP, hK, hD0, hN⟩ := hv
  have hx := B.exec
  have hb := B.bytes
  have hr := B.returns
  have htg : ∀ w ∈ gw, w.before args s = true := fun w h => atoms_spec (ws := wU yX6_noRow cX6_noRow 2 ((Option.some Jvm.ClassFile.FieldType.int))) B.pre w (List.mem_cons_of_mem _ h)
  have hown : s.vm.findClass RX6 = some m.cls := findClass_of_methodNamed B.named
  have hlocks := B.notSynchronized
  subst hsz
  have hD := hD0.self (sz := s.heap.size)
  have hA : ∀ q : Nat, s.heap.size ≤ q → va_A (w0_X6_noRow cA am tkv ttv t t_L t_shelf t_refused) s.heap.size q := fun q h => Or.inr h
  have hS : va_S (va_A (w0_X6_noRow cA am tkv ttv t t_L t_shelf t_refused) s.heap.size) s.heap s.heap [] := va_S.rf
  generalize va_A (w0_X6_noRow cA am tkv ttv t t_L t_shelf t_refused) s.heap.size = A at hA hD hS ⊢
  obtain ⟨Q, hQ⟩ : ∃ Q : State → Prop, Q = MQ below (va_Qi (fun (r : Int32) (u : (Nat → Int32)) => (r, u) = out) (pst0 D cA A (w1_X6_noRow cA am tkv ttv t t_L t_shelf)) A) args s 0 0 A := ⟨_, rfl⟩
  refine (?_ : W p l e rm_X6_noRow s m args below meth c s.heap [] 0 0 (MQ below (va_Qi (fun (r : Int32) (u : (Nat → Int32)) => (r, u) = out) (pst0 D cA A (w1_X6_noRow cA am tkv ttv t t_L t_shelf)) A) args s 0 0 A) (entryFrame m args 2))
  rw [← hQ]
  have hP : va_P D CL [((am 0), e_X6 am tkv ttv t t_L), ((am 1), eI cA 8 t_shelf), ((am 16), eI cA 8 t_refused)] s.heap := hP
  have hD : va_D A [((am 0), e_X6 am tkv ttv t t_L), ((am 1), eI cA 8 t_shelf), ((am 16), eI cA 8 t_refused)] := hD
  have B_55 : ∀ (s0 : Int32) (t_refused : Nat → Int32) (H : Heap) (locs : List Loc) (ls : Array Slot), b_X6_noRow_55 fu t t_L t_shelf s0 t_refused = some out → va_P D CL [((am 0), e_X6 am tkv ttv t t_L), ((am 1), eI cA 8 t_shelf), ((am 16), eI cA 8 t_refused)] H → va_D A [((am 0), e_X6 am tkv ttv t t_L), ((am 1), eI cA 8 t_shelf), ((am 16), eI cA 8 t_refused)] → va_S A s.heap H locs → lv_has ls 2 [(0, .ref (am 0))] → W p l e rm_X6_noRow s m args below meth c H locs 0 0 Q (F0 m 55 ls [.int s0]) := by
    intro  s0 t_refused H locs ls hm hP hD hS hl
    unfold b_X6_noRow_55 at hm
    rw [hQ]
    exact W.iret (v := s0) hx hb hr (fun t9 ht hW => ⟨⟨s0, t_refused, rfl, (Option.some.inj hm), by rw [ht]; exact hP, va_K.moved hW.alike hK, hD⟩, hS.F ht⟩) hS.2.2 dX6_noRow_55
  unfold m_X6_noRow at hm
  subst hargs
  have hl := lv_entry ([.ref (am 0), .int l1]) (n := 2) (Nat.le_of_ble_eq_true rfl)
  rw [lg_entry_eq]
  generalize (lg_sl ([.ref (am 0), .int l1]) ++ List.replicate (2 - (lg_sl ([.ref (am 0), .int l1])).length) Slot.unset).toArray = ls at hl ⊢
  have hl : lv_has ls 2 [(0, .ref (am 0)), (1, .int l1)] := hl
  refine lv_iload_n hx hb dX6_noRow_0 rfl (lv_at hl 1 rfl) ?_
  refine lv_i2l hx hb dX6_noRow_1 rfl ?_
  refine lv_lconst (v := (0 : Int64)) hx hb dX6_noRow_2 (by decide) ?_
  refine lv_ldc2 (v := (7 : Int64)) hx hb hown (htg _ q_5_102) dX6_noRow_3 ?_
  obtain ⟨o1, ho2, hm⟩ := bd_s hm
  refine xr_i (wr := [((am 0), e_X6 am tkv ttv t t_L), ((am 1), eI cA 8 t_shelf), ((am 16), eI cA 8 t_refused)]) (wn := [((am 0), e_X6 am tkv ttv t t_L), ((am 1), eI cA 8 t_shelf), ((am 16), eI cA 8 t_refused)]) (va_runS (As := [.long l1.toInt64, .long (0 : Int64), .long (7 : Int64)]) (rest := []) ⟨hx, hb, hml, hown, htg⟩ (c_X6_in l D cA _ fu l1.toInt64 (0 : Int64) (7 : Int64) o1 ho2) (cwS 3 htg (gS q_5_103 q_5_104 q_1_8 q_5_105) rfl rfl rfl hd_X6_in ⟨Nat.le_of_ble_eq_true rfl, Nat.le_of_ble_eq_true rfl⟩) (xpS hN hK hP hD [] rfl (by decide)) rfl rfl hl.1 rfl (lv_room (Nat.le_of_ble_eq_true rfl)) dX6_noRow_6 ⟨Nat.zero_le _, Nat.zero_le _⟩) hP hD hS hA [] [0, 1, 2] [0, 1, 2] rfl rfl (by decide) (by decide) rfl (by decide) (fun H locs hP hD hS => ?_)
  refine lv_if_ne (tgt := 19) hx hb dX6_noRow_9 (by decide) (fun c3 => ?_) (fun c3 => ?_)
  · have hm := it_f c3 hm
    refine lv_aload_n hx hb dX6_noRow_19 rfl (lv_at hl 0 rfl) ?_
    refine va_get (D := D) (ci := 6) (v := .ref (am 1)) (C := RX6) (T := TX6) (N := 49) hx hb htg inX6 hown hK hP 0 rfl rfl 0 (by decide) (htg _ q_4_189) (fun _ h9 => h9) rfl dX6_noRow_20 ?_
    refine lv_iload_n hx hb dX6_noRow_23 rfl (lv_at hl 1 rfl) ?_
    obtain ⟨hi4, hm⟩ := gd_s hm
    refine va_iald hx hb hK hP 1 0 rfl rfl hi4 dX6_noRow_24 ?_
    refine lv_iconst (v := (2 : Int32)) hx hb dX6_noRow_25 (by decide) ?_
    refine lv_icmp_ne (tgt := 36) hx hb dX6_noRow_26 (by decide) (fun c5 => ?_) (fun c5 => ?_)
    · have hm := it_f c5 hm
      refine lv_aload_n hx hb dX6_noRow_36 rfl (lv_at hl 0 rfl) ?_
      refine va_get (D := D) (ci := 6) (v := .ref (am 1)) (C := RX6) (T := TX6) (N := 49) hx hb htg inX6 hown hK hP 0 rfl rfl 0 (by decide) (htg _ q_4_189) (fun _ h9 => h9) rfl dX6_noRow_37 ?_
      refine lv_iload_n hx hb dX6_noRow_40 rfl (lv_at hl 1 rfl) ?_
      obtain ⟨hi6, hm⟩ := gd_s hm
      refine va_iald hx hb hK hP 1 0 rfl rfl hi6 dX6_noRow_41 ?_
      refine lv_if_ne (tgt := 54) hx hb dX6_noRow_42 (by decide) (fun c7 => ?_) (fun c7 => ?_)
      · have hm := it_f c7 hm
        refine lv_iconst (v := (0 : Int32)) hx hb dX6_noRow_54 (by decide) ?_
        exact B_55 _ _ _ _ _ hm hP hD hS (lv_sub hl [0] rfl)
      · have hm := it_t c7 hm
        refine lv_aload_n hx hb dX6_noRow_45 rfl (lv_at hl 0 rfl) ?_
        refine lv_bipush (v := (-4 : Int32)) hx hb dX6_noRow_46 (by decide) ?_
        obtain ⟨o8, ho9, hm⟩ := bd_s hm
        refine xr_i (wr := [((am 1), eI cA 8 t_shelf)]) (wn := [((am 0), e_X6 am tkv ttv t t_L), ((am 1), eI cA 8 t_shelf), ((am 16), eI cA 8 o8.2)]) (va_runV (As := [.int (-4 : Int32)]) (rest := []) ⟨hx, hb, hml, hown, htg⟩ (c_X6_refuse l D cA _ fu am tkv ttv t t_L t_refused (-4 : Int32) o8 ho9) (cwV 1 htg (gV q_5_108 q_5_110 q_p5_7 q_1_8 q_5_111) rfl rfl rfl hd_X6_refuse ⟨Nat.le_of_ble_eq_true rfl, Nat.le_of_ble_eq_true rfl⟩) (xpV hN hK hP hD [0, 2] rfl (by decide) rfl rfl) rfl rfl hl.1 rfl (lv_room (Nat.le_of_ble_eq_true rfl)) dX6_noRow_48 ⟨Nat.zero_le _, Nat.zero_le _⟩) hP hD hS hA [0, 2] [1] [1, 0, 2] rfl rfl (by decide) (by decide) rfl (by decide) (fun H locs hP hD hS => ?_)
        refine lv_goto (tgt := 55) hx hb dX6_noRow_51 (by decide) ?_
        exact B_55 _ _ _ _ _ hm hP hD hS (lv_sub hl [0] rfl)
    · have hm := it_t c5 hm
      refine lv_aload_n hx hb dX6_noRow_29 rfl (lv_at hl 0 rfl) ?_
      refine lv_bipush (v := (-3 : Int32)) hx hb dX6_noRow_30 (by decide) ?_
      obtain ⟨o10, ho11, hm⟩ := bd_s hm
      refine xr_i (wr := [((am 1), eI cA 8 t_shelf)]) (wn := [((am 0), e_X6 am tkv ttv t t_L), ((am 1), eI cA 8 t_shelf), ((am 16), eI cA 8 o10.2)]) (va_runV (As := [.int (-3 : Int32)]) (rest := []) ⟨hx, hb, hml, hown, htg⟩ (c_X6_refuse l D cA _ fu am tkv ttv t t_L t_refused (-3 : Int32) o10 ho11) (cwV 1 htg (gV q_5_108 q_5_110 q_p5_7 q_1_8 q_5_111) rfl rfl rfl hd_X6_refuse ⟨Nat.le_of_ble_eq_true rfl, Nat.le_of_ble_eq_true rfl⟩) (xpV hN hK hP hD [0, 2] rfl (by decide) rfl rfl) rfl rfl hl.1 rfl (lv_room (Nat.le_of_ble_eq_true rfl)) dX6_noRow_32 ⟨Nat.zero_le _, Nat.zero_le _⟩) hP hD hS hA [0, 2] [1] [1, 0, 2] rfl rfl (by decide) (by decide) rfl (by decide) (fun H locs hP hD hS => ?_)
      rw [hQ]
      exact W.iret (v := o10.1) hx hb hr (fun t9 ht hW => ⟨⟨o10.1, o10.2, rfl, (Option.some.inj hm), by rw [ht]; exact hP, va_K.moved hW.alike hK, hD⟩, hS.F ht⟩) hS.2.2 dX6_noRow_35
  · have hm := it_t c3 hm
    refine lv_aload_n hx hb dX6_noRow_12 rfl (lv_at hl 0 rfl) ?_
    refine lv_bipush (v := (-2 : Int32)) hx hb dX6_noRow_13 (by decide) ?_
    obtain ⟨o12, ho13, hm⟩ := bd_s hm
    refine xr_i (wr := [((am 1), eI cA 8 t_shelf)]) (wn := [((am 0), e_X6 am tkv ttv t t_L), ((am 1), eI cA 8 t_shelf), ((am 16), eI cA 8 o12.2)]) (va_runV (As := [.int (-2 : Int32)]) (rest := []) ⟨hx, hb, hml, hown, htg⟩ (c_X6_refuse l D cA _ fu am tkv ttv t t_L t_refused (-2 : Int32) o12 ho13) (cwV 1 htg (gV q_5_108 q_5_110 q_p5_7 q_1_8 q_5_111) rfl rfl rfl hd_X6_refuse ⟨Nat.le_of_ble_eq_true rfl, Nat.le_of_ble_eq_true rfl⟩) (xpV hN hK hP hD [0, 2] rfl (by decide) rfl rfl) rfl rfl hl.1 rfl (lv_room (Nat.le_of_ble_eq_true rfl)) dX6_noRow_15 ⟨Nat.zero_le _, Nat.zero_le _⟩) hP hD hS hA [0, 2] [1] [1, 0, 2] rfl rfl (by decide) (by decide) rfl (by decide) (fun H locs hP hD hS => ?_)
    rw [hQ]
    exact W.iret (v := o12.1) hx hb hr (fun t9 ht hW => ⟨⟨o12.1, o12.2, rfl, (Option.some.inj hm), by rw [ht]; exact hP, va_K.moved hW.alike hK, hD⟩, hS.F ht⟩) hS.2.2 dX6_noRow_18
def m_X6_set (fu : Nat) (t : Nat → Int32) (t_L : Nat → Int64) (t_shelf : Nat → Int32) (t_rowSort : Nat → Int32) (t_rowSize : Nat → Int32) (t_rows_R : Nat → Nat → Int64) (t_refused : Nat → Int32) (l1 : Int32) (l2 : Int32) (l3 : Int64) : Option (Int32 × ((Nat → Nat → Int64) × (Nat → Int32))) :=
  (m_X6_noRow fu t t_L t_shelf t_refused l1).bind fun o1 =>
  (if o1.1 = 0 then
    gd (inb l1 8) (
    (m_X6_in fu l2.toInt64 (0 : Int64) (((t_rowSize l1.toNatClampNeg) - (1 : Int32)).toInt64)).bind fun o5 =>
    (if o5.1 = 0 then
      (m_X6_refuse fu t t_L o1.2 (-2 : Int32)).bind fun o16 =>
      some (o16.1, (t_rows_R, o16.2))
    else
      gd (inb l1 8) (
      gd (inb l1 8) (
      (m_X6_fit fu (t_rowSort l1.toNatClampNeg) l3).bind fun o10 =>
      gd (inb l1 8) (gd (inb l2 40) (
      some ((1 : Int32), ((va_up t_rows_R l1.toNatClampNeg (vp_updL (t_rows_R l1.toNatClampNeg) l2.toNatClampNeg o10.1)), o1.2))))))))
  else
    some (o1.1, (t_rows_R, o1.2)))
abbrev rm_X6_set : Room := ({ frames := 2, cells := 0, slots := 0, locals := 46 } : Room)
abbrev w0_X6_set (cA : Nat → ClassId) (am : Nat → Nat) (tkv : Value) (ttv : Value) (t : Nat → Int32) (t_L : Nat → Int64) (t_shelf : Nat → Int32) (t_rowSort : Nat → Int32) (t_rowSize : Nat → Int32) (t_rows_R : Nat → Nat → Int64) (t_refused : Nat → Int32) : va_W := [((am 0), e_X6 am tkv ttv t t_L), ((am 1), eI cA 8 t_shelf), ((am 2), eI cA 8 t_rowSort), ((am 3), eI cA 8 t_rowSize), ((am 4), eOJ cA am 5), (am 5, eJ cA 40 (t_rows_R 0)), (am 6, eJ cA 40 (t_rows_R 1)), (am 7, eJ cA 40 (t_rows_R 2)), (am 8, eJ cA 40 (t_rows_R 3)), (am 9, eJ cA 40 (t_rows_R 4)), (am 10, eJ cA 40 (t_rows_R 5)), (am 11, eJ cA 40 (t_rows_R 6)), (am 12, eJ cA 40 (t_rows_R 7)), ((am 16), eI cA 8 t_refused)]
abbrev w1_X6_set (cA : Nat → ClassId) (am : Nat → Nat) (tkv : Value) (ttv : Value) (t : Nat → Int32) (t_L : Nat → Int64) (t_shelf : Nat → Int32) (t_rowSort : Nat → Int32) (t_rowSize : Nat → Int32) (u : (Nat → Nat → Int64) × (Nat → Int32)) : va_W := [((am 0), e_X6 am tkv ttv t t_L), ((am 1), eI cA 8 t_shelf), ((am 2), eI cA 8 t_rowSort), ((am 3), eI cA 8 t_rowSize), ((am 4), eOJ cA am 5), (am 5, eJ cA 40 (u.1 0)), (am 6, eJ cA 40 (u.1 1)), (am 7, eJ cA 40 (u.1 2)), (am 8, eJ cA 40 (u.1 3)), (am 9, eJ cA 40 (u.1 4)), (am 10, eJ cA 40 (u.1 5)), (am 11, eJ cA 40 (u.1 6)), (am 12, eJ cA 40 (u.1 7)), ((am 16), eI cA 8 u.2)]
theorem hd_X6_set : yX6_set.cls = RX6 ∧ yX6_set.cls ≠ "java/lang/invoke/MethodHandle" ∧ yX6_set.cls ≠ "java/lang/invoke/VarHandle" ∧ (parseMethodDescriptor yX6_set.desc).map (fun d => d.parameters.length) = some 3 := by decide +kernel
set_option maxHeartbeats 40000000 in
set_option maxRecDepth 100000 in
theorem c_X6_set (l : Launch) (D : va_G) (cA : Nat → ClassId) (sz : Nat) (fu : Nat) (am : Nat → Nat) (tkv : Value) (ttv : Value) (t : Nat → Int32) (t_L : Nat → Int64) (t_shelf : Nat → Int32) (t_rowSort : Nat → Int32) (t_rowSize : Nat → Int32) (t_rows_R : Nat → Nat → Int64) (t_refused : Nat → Int32) (l1 : Int32) (l2 : Int32) (l3 : Int64) (out : Int32 × ((Nat → Nat → Int64) × (Nat → Int32))) (hm : m_X6_set fu t t_L t_shelf t_rowSort t_rowSize t_rows_R t_refused l1 l2 l3 = some out) : MI l yX6_set (wU yX6_set cX6_set 6 ((Option.some Jvm.ClassFile.FieldType.int))) rm_X6_set D cA sz [.ref (am 0), .int l1, .int l2, .long l3] (w0_X6_set cA am tkv ttv t t_L t_shelf t_rowSort t_rowSize t_rows_R t_refused) out (w1_X6_set cA am tkv ttv t t_L t_shelf t_rowSort t_rowSize) := by
  refine Met.ofW (cc := cX6_set) (maxL := 6) (ret := (Option.some Jvm.ClassFile.FieldType.int)) (by decide) rfl ?_
  intro p e s m args below meth c s₁ B hml hv
  obtain ⟨hargs, hsz, hP, hK, hD0, hN⟩ := hv
  have hx := B.exec
  have hb := B.bytes
  have hr := B.returns
  have htg : ∀ w ∈ gw, w.before args s = true := fun w h => atoms_spec (ws := wU yX6_set cX6_set 6 ((Option.some Jvm.ClassFile.FieldType.int))) B.pre w (List.mem_cons_of_mem _ h)
  have hown : s.vm.findClass RX6 = some m.cls := findClass_of_methodNamed B.named
  have hlocks := B.notSynchronized
  subst hsz
  have hD := hD0.self (sz := s.heap.size)
  have hA : ∀ q : Nat, s.heap.size ≤ q → va_A (w0_X6_set cA am tkv ttv t t_L t_shelf t_rowSort t_rowSize t_rows_R t_refused) s.heap.size q := fun q h => Or.inr h
  have hS : va_S (va_A (w0_X6_set cA am tkv ttv t t_L t_shelf t_rowSort t_rowSize t_rows_R t_refused) s.heap.size) s.heap s.heap [] := va_S.rf
  generalize va_A (w0_X6_set cA am tkv ttv t t_L t_shelf t_rowSort t_rowSize t_rows_R t_refused) s.heap.size = A at hA hD hS ⊢
  obtain ⟨Q, hQ⟩ : ∃ Q : State → Prop, Q = MQ below (va_Qi (fun (r : Int32) (u : (Nat → Nat → Int64) × (Nat → Int32)) => (r, u) = out) (pst0 D cA A (w1_X6_set cA am tkv ttv t t_L t_shelf t_rowSort t_rowSize)) A) args s 0 0 A := ⟨_, rfl⟩
  refine (?_ : W p l e rm_X6_set s m args below meth c s.heap [] 0 0 (MQ below (va_Qi (fun (r : Int32) (u : (Nat → Nat → Int64) × (Nat → Int32)) => (r, u) = out) (pst0 D cA A (w1_X6_set cA am tkv ttv t t_L t_shelf t_rowSort t_rowSize)) A) args s 0 0 A) (entryFrame m args 6))
  rw [← hQ]
  have hP : va_P D CL [((am 0), e_X6 am tkv ttv t t_L), ((am 1), eI cA 8 t_shelf), ((am 2), eI cA 8 t_rowSort), ((am 3), eI cA 8 t_rowSize), ((am 4), eOJ cA am 5), (am 5, eJ cA 40 (t_rows_R 0)), (am 6, eJ cA 40 (t_rows_R 1)), (am 7, eJ cA 40 (t_rows_R 2)), (am 8, eJ cA 40 (t_rows_R 3)), (am 9, eJ cA 40 (t_rows_R 4)), (am 10, eJ cA 40 (t_rows_R 5)), (am 11, eJ cA 40 (t_rows_R 6)), (am 12, eJ cA 40 (t_rows_R 7)), ((am 16), eI cA 8 t_refused)] s.heap := hP
  have hD : va_D A [((am 0), e_X6 am tkv ttv t t_L), ((am 1), eI cA 8 t_shelf), ((am 2), eI cA 8 t_rowSort), ((am 3), eI cA 8 t_rowSize), ((am 4), eOJ cA am 5), (am 5, eJ cA 40 (t_rows_R 0)), (am 6, eJ cA 40 (t_rows_R 1)), (am 7, eJ cA 40 (t_rows_R 2)), (am 8, eJ cA 40 (t_rows_R 3)), (am 9, eJ cA 40 (t_rows_R 4)), (am 10, eJ cA 40 (t_rows_R 5)), (am 11, eJ cA 40 (t_rows_R 6)), (am 12, eJ cA 40 (t_rows_R 7)), ((am 16), eI cA 8 t_refused)] := hD
  unfold m_X6_set at hm
  subst hargs
  have hl := lv_entry ([.ref (am 0), .int l1, .int l2, .long l3]) (n := 6) (Nat.le_of_ble_eq_true rfl)
  rw [lg_entry_eq]
  generalize (lg_sl ([.ref (am 0), .int l1, .int l2, .long l3]) ++ List.replicate (6 - (lg_sl ([.ref (am 0), .int l1, .int l2, .long l3])).length) Slot.unset).toArray = ls at hl ⊢
  have hl : lv_has ls 6 [(0, .ref (am 0)), (1, .int l1), (2, .int l2), (3, .long l3)] := hl
  refine lv_aload_n hx hb dX6_set_0 rfl (lv_at hl 0 rfl) ?_
  refine lv_iload_n hx hb dX6_set_1 rfl (lv_at hl 1 rfl) ?_
  obtain ⟨o1, ho2, hm⟩ := bd_s hm
  refine xr_i (wr := [((am 2), eI cA 8 t_rowSort), ((am 3), eI cA 8 t_rowSize), ((am 4), eOJ cA am 5), (am 5, eJ cA 40 (t_rows_R 0)), (am 6, eJ cA 40 (t_rows_R 1)), (am 7, eJ cA 40 (t_rows_R 2)), (am 8, eJ cA 40 (t_rows_R 3)), (am 9, eJ cA 40 (t_rows_R 4)), (am 10, eJ cA 40 (t_rows_R 5)), (am 11, eJ cA 40 (t_rows_R 6)), (am 12, eJ cA 40 (t_rows_R 7))]) (wn := [((am 0), e_X6 am tkv ttv t t_L), ((am 1), eI cA 8 t_shelf), ((am 2), eI cA 8 t_rowSort), ((am 3), eI cA 8 t_rowSize), ((am 4), eOJ cA am 5), (am 5, eJ cA 40 (t_rows_R 0)), (am 6, eJ cA 40 (t_rows_R 1)), (am 7, eJ cA 40 (t_rows_R 2)), (am 8, eJ cA 40 (t_rows_R 3)), (am 9, eJ cA 40 (t_rows_R 4)), (am 10, eJ cA 40 (t_rows_R 5)), (am 11, eJ cA 40 (t_rows_R 6)), (am 12, eJ cA 40 (t_rows_R 7)), ((am 16), eI cA 8 o1.2)]) (va_runV (As := [.int l1]) (rest := []) ⟨hx, hb, hml, hown, htg⟩ (c_X6_noRow l D cA _ fu am tkv ttv t t_L t_shelf t_refused l1 o1 ho2) (cwV 1 htg (gV q_5_116 q_5_118 q_p5_8 q_1_8 q_5_119) rfl rfl rfl hd_X6_noRow ⟨Nat.le_of_ble_eq_true rfl, Nat.le_of_ble_eq_true rfl⟩) (xpV hN hK hP hD [0, 1, 13] rfl (by decide) rfl rfl) rfl rfl hl.1 rfl (lv_room (Nat.le_of_ble_eq_true rfl)) dX6_set_2 ⟨Nat.zero_le _, Nat.zero_le _⟩) hP hD hS hA [0, 1, 13] [2, 3, 4, 5, 6, 7, 8, 9, 10, 11, 12] [11, 12, 0, 1, 2, 3, 4, 5, 6, 7, 8, 9, 10, 13] rfl rfl (by decide) (by decide) rfl (by decide) (fun H locs hP hD hS => ?_)
  refine lv_istore (lv' := [(5, .int o1.1), (0, .ref (am 0)), (1, .int l1), (2, .int l2), (3, .long l3)]) hx hb dX6_set_5 hl (by decide) rfl (fun ls hl => ?_)
  refine lv_iload hx hb dX6_set_7 (lv_at hl 0 rfl) ?_
  refine lv_if_eq (tgt := 15) hx hb dX6_set_9 (by decide) (fun c3 => ?_) (fun c3 => ?_)
  · have hm := it_t c3 hm
    refine lv_iload_n hx hb dX6_set_15 rfl (lv_at hl 3 rfl) ?_
    refine lv_i2l hx hb dX6_set_16 rfl ?_
    refine lv_lconst (v := (0 : Int64)) hx hb dX6_set_17 (by decide) ?_
    refine lv_aload_n hx hb dX6_set_18 rfl (lv_at hl 1 rfl) ?_
    refine va_get (D := D) (ci := 6) (v := .ref (am 3)) (C := RX6) (T := TX6) (N := 49) hx hb htg inX6 hown hK hP 0 rfl rfl 2 (by decide) (htg _ q_4_191) (fun _ h9 => h9) rfl dX6_set_19 ?_
    refine lv_iload_n hx hb dX6_set_22 rfl (lv_at hl 2 rfl) ?_
    obtain ⟨hi4, hm⟩ := gd_s hm
    refine va_iald hx hb hK hP 3 0 rfl rfl hi4 dX6_set_23 ?_
    refine lv_iconst (v := (1 : Int32)) hx hb dX6_set_24 (by decide) ?_
    refine lv_isub hx hb dX6_set_25 ?_
    refine lv_i2l hx hb dX6_set_26 rfl ?_
    obtain ⟨o5, ho6, hm⟩ := bd_s hm
    refine xr_i (wr := [((am 0), e_X6 am tkv ttv t t_L), ((am 1), eI cA 8 t_shelf), ((am 2), eI cA 8 t_rowSort), ((am 3), eI cA 8 t_rowSize), ((am 4), eOJ cA am 5), (am 5, eJ cA 40 (t_rows_R 0)), (am 6, eJ cA 40 (t_rows_R 1)), (am 7, eJ cA 40 (t_rows_R 2)), (am 8, eJ cA 40 (t_rows_R 3)), (am 9, eJ cA 40 (t_rows_R 4)), (am 10, eJ cA 40 (t_rows_R 5)), (am 11, eJ cA 40 (t_rows_R 6)), (am 12, eJ cA 40 (t_rows_R 7)), ((am 16), eI cA 8 o1.2)]) (wn := [((am 0), e_X6 am tkv ttv t t_L), ((am 1), eI cA 8 t_shelf), ((am 2), eI cA 8 t_rowSort), ((am 3), eI cA 8 t_rowSize), ((am 4), eOJ cA am 5), (am 5, eJ cA 40 (t_rows_R 0)), (am 6, eJ cA 40 (t_rows_R 1)), (am 7, eJ cA 40 (t_rows_R 2)), (am 8, eJ cA 40 (t_rows_R 3)), (am 9, eJ cA 40 (t_rows_R 4)), (am 10, eJ cA 40 (t_rows_R 5)), (am 11, eJ cA 40 (t_rows_R 6)), (am 12, eJ cA 40 (t_rows_R 7)), ((am 16), eI cA 8 o1.2)]) (va_runS (As := [.long l2.toInt64, .long (0 : Int64), .long (((t_rowSize l1.toNatClampNeg) - (1 : Int32)).toInt64)]) (rest := []) ⟨hx, hb, hml, hown, htg⟩ (c_X6_in l D cA _ fu l2.toInt64 (0 : Int64) (((t_rowSize l1.toNatClampNeg) - (1 : Int32)).toInt64) o5 ho6) (cwS 3 htg (gS q_5_103 q_5_104 q_1_8 q_5_105) rfl rfl rfl hd_X6_in ⟨Nat.le_of_ble_eq_true rfl, Nat.le_of_ble_eq_true rfl⟩) (xpS hN hK hP hD [] rfl (by decide)) rfl rfl hl.1 rfl (lv_room (Nat.le_of_ble_eq_true rfl)) dX6_set_27 ⟨Nat.zero_le _, Nat.zero_le _⟩) hP hD hS hA [] [0, 1, 2, 3, 4, 5, 6, 7, 8, 9, 10, 11, 12, 13] [0, 1, 2, 3, 4, 5, 6, 7, 8, 9, 10, 11, 12, 13] rfl rfl (by decide) (by decide) rfl (by decide) (fun H locs hP hD hS => ?_)
    refine lv_if_ne (tgt := 40) hx hb dX6_set_30 (by decide) (fun c7 => ?_) (fun c7 => ?_)
    · have hm := it_f c7 hm
      refine lv_aload_n hx hb dX6_set_40 rfl (lv_at hl 1 rfl) ?_
      refine va_get (D := D) (ci := 6) (v := .ref (am 4)) (C := RX6) (T := TX6) (N := 49) hx hb htg inX6 hown hK hP 0 rfl rfl 3 (by decide) (htg _ q_4_192) (fun _ h9 => h9) rfl dX6_set_41 ?_
      refine lv_iload_n hx hb dX6_set_44 rfl (lv_at hl 2 rfl) ?_
      obtain ⟨hi8, hm⟩ := gd_s hm
      refine va_ald2 hx hb hK hP 4 3 rfl rfl hi8 dX6_set_45 ?_
      rw [show (va_rf ((fun i => if i < 8 then some (am (5 + i)) else none) l1.toNatClampNeg)) = Value.ref (am (5 + l1.toNatClampNeg)) from rf_lt (inb_lt hi8)]
      refine lv_iload_n hx hb dX6_set_46 rfl (lv_at hl 3 rfl) ?_
      refine lv_aload_n hx hb dX6_set_47 rfl (lv_at hl 1 rfl) ?_
      refine va_get (D := D) (ci := 6) (v := .ref (am 2)) (C := RX6) (T := TX6) (N := 49) hx hb htg inX6 hown hK hP 0 rfl rfl 1 (by decide) (htg _ q_4_190) (fun _ h9 => h9) rfl dX6_set_48 ?_
      refine lv_iload_n hx hb dX6_set_51 rfl (lv_at hl 2 rfl) ?_
      obtain ⟨hi9, hm⟩ := gd_s hm
      refine va_iald hx hb hK hP 2 0 rfl rfl hi9 dX6_set_52 ?_
      refine lv_lload_n hx hb dX6_set_53 rfl (lv_at hl 4 rfl) ?_
      obtain ⟨o10, ho11, hm⟩ := bd_s hm
      refine xr_l (wr := [((am 0), e_X6 am tkv ttv t t_L), ((am 1), eI cA 8 t_shelf), ((am 2), eI cA 8 t_rowSort), ((am 3), eI cA 8 t_rowSize), ((am 4), eOJ cA am 5), (am 5, eJ cA 40 (t_rows_R 0)), (am 6, eJ cA 40 (t_rows_R 1)), (am 7, eJ cA 40 (t_rows_R 2)), (am 8, eJ cA 40 (t_rows_R 3)), (am 9, eJ cA 40 (t_rows_R 4)), (am 10, eJ cA 40 (t_rows_R 5)), (am 11, eJ cA 40 (t_rows_R 6)), (am 12, eJ cA 40 (t_rows_R 7)), ((am 16), eI cA 8 o1.2)]) (wn := [((am 0), e_X6 am tkv ttv t t_L), ((am 1), eI cA 8 t_shelf), ((am 2), eI cA 8 t_rowSort), ((am 3), eI cA 8 t_rowSize), ((am 4), eOJ cA am 5), (am 5, eJ cA 40 (t_rows_R 0)), (am 6, eJ cA 40 (t_rows_R 1)), (am 7, eJ cA 40 (t_rows_R 2)), (am 8, eJ cA 40 (t_rows_R 3)), (am 9, eJ cA 40 (t_rows_R 4)), (am 10, eJ cA 40 (t_rows_R 5)), (am 11, eJ cA 40 (t_rows_R 6)), (am 12, eJ cA 40 (t_rows_R 7)), ((am 16), eI cA 8 o1.2)]) (va_runS (As := [.int (t_rowSort l1.toNatClampNeg), .long l3]) (rest := [.int l2, .ref (am (5 + l1.toNatClampNeg))]) ⟨hx, hb, hml, hown, htg⟩ (c_X6_fit l D cA _ fu (t_rowSort l1.toNatClampNeg) l3 o10 ho11) (cwS 2 htg (gS q_5_120 q_5_121 q_1_8 q_5_122) rfl rfl rfl hd_X6_fit ⟨Nat.le_of_ble_eq_true rfl, Nat.le_of_ble_eq_true rfl⟩) (xpS hN hK hP hD [] rfl (by decide)) rfl rfl hl.1 rfl (lv_room (Nat.le_of_ble_eq_true rfl)) dX6_set_54 ⟨Nat.zero_le _, Nat.zero_le _⟩) hP hD hS hA [] [0, 1, 2, 3, 4, 5, 6, 7, 8, 9, 10, 11, 12, 13] [0, 1, 2, 3, 4, 5, 6, 7, 8, 9, 10, 11, 12, 13] rfl rfl (by decide) (by decide) rfl (by decide) (fun H locs hP hD hS => ?_)
      obtain ⟨hj13, hm⟩ := gd_s hm
      obtain ⟨hi12, hm⟩ := gd_s hm
      have hq14 : ([((am 0), e_X6 am tkv ttv t t_L), ((am 1), eI cA 8 t_shelf), ((am 2), eI cA 8 t_rowSort), ((am 3), eI cA 8 t_rowSize), ((am 4), eOJ cA am 5), (am 5, eJ cA 40 (t_rows_R 0)), (am 6, eJ cA 40 (t_rows_R 1)), (am 7, eJ cA 40 (t_rows_R 2)), (am 8, eJ cA 40 (t_rows_R 3)), (am 9, eJ cA 40 (t_rows_R 4)), (am 10, eJ cA 40 (t_rows_R 5)), (am 11, eJ cA 40 (t_rows_R 6)), (am 12, eJ cA 40 (t_rows_R 7)), ((am 16), eI cA 8 o1.2)] : va_W)[5 + l1.toNatClampNeg]? = some (am (5 + l1.toNatClampNeg), eJ cA 40 (t_rows_R l1.toNatClampNeg)) := by
        have hj8 := inb_lt hj13
        generalize l1.toNatClampNeg = j at hj8 ⊢
        rcases (show j = 0 ∨ j = 1 ∨ j = 2 ∨ j = 3 ∨ j = 4 ∨ j = 5 ∨ j = 6 ∨ j = 7 by omega) with rfl | rfl | rfl | rfl | rfl | rfl | rfl | rfl <;> rfl
      have hs15 : ([((am 0), e_X6 am tkv ttv t t_L), ((am 1), eI cA 8 t_shelf), ((am 2), eI cA 8 t_rowSort), ((am 3), eI cA 8 t_rowSize), ((am 4), eOJ cA am 5), (am 5, eJ cA 40 (t_rows_R 0)), (am 6, eJ cA 40 (t_rows_R 1)), (am 7, eJ cA 40 (t_rows_R 2)), (am 8, eJ cA 40 (t_rows_R 3)), (am 9, eJ cA 40 (t_rows_R 4)), (am 10, eJ cA 40 (t_rows_R 5)), (am 11, eJ cA 40 (t_rows_R 6)), (am 12, eJ cA 40 (t_rows_R 7)), ((am 16), eI cA 8 o1.2)] : va_W).set (5 + l1.toNatClampNeg) (am (5 + l1.toNatClampNeg), eJ cA 40 (vp_updL (t_rows_R l1.toNatClampNeg) l2.toNatClampNeg o10.1)) = [((am 0), e_X6 am tkv ttv t t_L), ((am 1), eI cA 8 t_shelf), ((am 2), eI cA 8 t_rowSort), ((am 3), eI cA 8 t_rowSize), ((am 4), eOJ cA am 5), (am 5, eJ cA 40 ((va_up t_rows_R l1.toNatClampNeg (vp_updL (t_rows_R l1.toNatClampNeg) l2.toNatClampNeg o10.1)) 0)), (am 6, eJ cA 40 ((va_up t_rows_R l1.toNatClampNeg (vp_updL (t_rows_R l1.toNatClampNeg) l2.toNatClampNeg o10.1)) 1)), (am 7, eJ cA 40 ((va_up t_rows_R l1.toNatClampNeg (vp_updL (t_rows_R l1.toNatClampNeg) l2.toNatClampNeg o10.1)) 2)), (am 8, eJ cA 40 ((va_up t_rows_R l1.toNatClampNeg (vp_updL (t_rows_R l1.toNatClampNeg) l2.toNatClampNeg o10.1)) 3)), (am 9, eJ cA 40 ((va_up t_rows_R l1.toNatClampNeg (vp_updL (t_rows_R l1.toNatClampNeg) l2.toNatClampNeg o10.1)) 4)), (am 10, eJ cA 40 ((va_up t_rows_R l1.toNatClampNeg (vp_updL (t_rows_R l1.toNatClampNeg) l2.toNatClampNeg o10.1)) 5)), (am 11, eJ cA 40 ((va_up t_rows_R l1.toNatClampNeg (vp_updL (t_rows_R l1.toNatClampNeg) l2.toNatClampNeg o10.1)) 6)), (am 12, eJ cA 40 ((va_up t_rows_R l1.toNatClampNeg (vp_updL (t_rows_R l1.toNatClampNeg) l2.toNatClampNeg o10.1)) 7)), ((am 16), eI cA 8 o1.2)] := by
        have hj8 := inb_lt hj13
        generalize (vp_updL (t_rows_R l1.toNatClampNeg) l2.toNatClampNeg o10.1) = hg
        generalize l1.toNatClampNeg = j at hj8 ⊢
        rcases (show j = 0 ∨ j = 1 ∨ j = 2 ∨ j = 3 ∨ j = 4 ∨ j = 5 ∨ j = 6 ∨ j = 7 by omega) with rfl | rfl | rfl | rfl | rfl | rfl | rfl | rfl <;> rfl
      refine va_last hx hb hK hP hD hS (5 + l1.toNatClampNeg) 1 hq14 rfl hi12 dX6_set_57 (fun H locs hP hD hS => ?_)
      rw [hs15] at hP hD
      refine lv_iconst (v := (1 : Int32)) hx hb dX6_set_58 (by decide) ?_
      rw [hQ]
      exact W.iret (v := (1 : Int32)) hx hb hr (fun t9 ht hW => ⟨⟨(1 : Int32), ((va_up t_rows_R l1.toNatClampNeg (vp_updL (t_rows_R l1.toNatClampNeg) l2.toNatClampNeg o10.1)), o1.2), rfl, (Option.some.inj hm), by rw [ht]; exact hP, va_K.moved hW.alike hK, hD⟩, hS.F ht⟩) hS.2.2 dX6_set_59
    · have hm := it_t c7 hm
      refine lv_aload_n hx hb dX6_set_33 rfl (lv_at hl 1 rfl) ?_
      refine lv_bipush (v := (-2 : Int32)) hx hb dX6_set_34 (by decide) ?_
      obtain ⟨o16, ho17, hm⟩ := bd_s hm
      refine xr_i (wr := [((am 1), eI cA 8 t_shelf), ((am 2), eI cA 8 t_rowSort), ((am 3), eI cA 8 t_rowSize), ((am 4), eOJ cA am 5), (am 5, eJ cA 40 (t_rows_R 0)), (am 6, eJ cA 40 (t_rows_R 1)), (am 7, eJ cA 40 (t_rows_R 2)), (am 8, eJ cA 40 (t_rows_R 3)), (am 9, eJ cA 40 (t_rows_R 4)), (am 10, eJ cA 40 (t_rows_R 5)), (am 11, eJ cA 40 (t_rows_R 6)), (am 12, eJ cA 40 (t_rows_R 7))]) (wn := [((am 0), e_X6 am tkv ttv t t_L), ((am 1), eI cA 8 t_shelf), ((am 2), eI cA 8 t_rowSort), ((am 3), eI cA 8 t_rowSize), ((am 4), eOJ cA am 5), (am 5, eJ cA 40 (t_rows_R 0)), (am 6, eJ cA 40 (t_rows_R 1)), (am 7, eJ cA 40 (t_rows_R 2)), (am 8, eJ cA 40 (t_rows_R 3)), (am 9, eJ cA 40 (t_rows_R 4)), (am 10, eJ cA 40 (t_rows_R 5)), (am 11, eJ cA 40 (t_rows_R 6)), (am 12, eJ cA 40 (t_rows_R 7)), ((am 16), eI cA 8 o16.2)]) (va_runV (As := [.int (-2 : Int32)]) (rest := []) ⟨hx, hb, hml, hown, htg⟩ (c_X6_refuse l D cA _ fu am tkv ttv t t_L o1.2 (-2 : Int32) o16 ho17) (cwV 1 htg (gV q_5_108 q_5_110 q_p5_7 q_1_8 q_5_111) rfl rfl rfl hd_X6_refuse ⟨Nat.le_of_ble_eq_true rfl, Nat.le_of_ble_eq_true rfl⟩) (xpV hN hK hP hD [0, 13] rfl (by decide) rfl rfl) rfl rfl hl.1 rfl (lv_room (Nat.le_of_ble_eq_true rfl)) dX6_set_36 ⟨Nat.zero_le _, Nat.zero_le _⟩) hP hD hS hA [0, 13] [1, 2, 3, 4, 5, 6, 7, 8, 9, 10, 11, 12] [12, 0, 1, 2, 3, 4, 5, 6, 7, 8, 9, 10, 11, 13] rfl rfl (by decide) (by decide) rfl (by decide) (fun H locs hP hD hS => ?_)
      rw [hQ]
      exact W.iret (v := o16.1) hx hb hr (fun t9 ht hW => ⟨⟨o16.1, (t_rows_R, o16.2), rfl, (Option.some.inj hm), by rw [ht]; exact hP, va_K.moved hW.alike hK, hD⟩, hS.F ht⟩) hS.2.2 dX6_set_39
  · have hm := it_f c3 hm
    refine lv_iload hx hb dX6_set_12 (lv_at hl 0 rfl) ?_
    rw [hQ]
    exact W.iret (v := o1.1) hx hb hr (fun t9 ht hW => ⟨⟨o1.1, (t_rows_R, o1.2), rfl, (Option.some.inj hm), by rw [ht]; exact hP, va_K.moved hW.alike hK, hD⟩, hS.F ht⟩) hS.2.2 dX6_set_14
def b_X6_copy_24 (fu : Nat) (t : Nat → Int32) (t_L : Nat → Int64) (t_shelf : Nat → Int32) (t_rowSort : Nat → Int32) (t_rowSize : Nat → Int32) (t_rows_R : Nat → Nat → Int64) (t_moved : Nat → Int64) (t_refused : Nat → Int32) : Option (Int32 × ((Nat → Nat → Int64) × (Nat → Int64) × (Nat → Int32))) :=
  (m_X6_refuse fu t t_L t_refused (-2 : Int32)).bind fun o1 =>
    some (o1.1, (t_rows_R, t_moved, o1.2))
def b_X6_copy_86 (fu : Nat) (t : Nat → Int32) (t_L : Nat → Int64) (t_shelf : Nat → Int32) (t_rowSort : Nat → Int32) (t_rowSize : Nat → Int32) (t_rows_R : Nat → Nat → Int64) (t_moved : Nat → Int64) (t_refused : Nat → Int32) : Option (Int32 × ((Nat → Nat → Int64) × (Nat → Int64) × (Nat → Int32))) :=
  (m_X6_refuse fu t t_L t_refused (-3 : Int32)).bind fun o3 =>
    some (o3.1, (t_rows_R, t_moved, o3.2))
def b_X6_copy_111 (fu : Nat) (t : Nat → Int32) (t_L : Nat → Int64) (t_shelf : Nat → Int32) (t_rowSort : Nat → Int32) (t_rowSize : Nat → Int32) (t_rows_R : Nat → Nat → Int64) (t_moved : Nat → Int64) (t_refused : Nat → Int32) : Option (Int32 × ((Nat → Nat → Int64) × (Nat → Int64) × (Nat → Int32))) :=
  (m_X6_refuse fu t t_L t_refused (-4 : Int32)).bind fun o5 =>
    some (o5.1, (t_rows_R, t_moved, o5.2))
def b_X6_copy_181 (fu : Nat) (t : Nat → Int32) (t_L : Nat → Int64) (t_shelf : Nat → Int32) (t_rowSort : Nat → Int32) (t_rowSize : Nat → Int32) (t_rows_R : Nat → Nat → Int64) (t_moved : Nat → Int64) (t_refused : Nat → Int32) : Option (Int32 × ((Nat → Nat → Int64) × (Nat → Int64) × (Nat → Int32))) :=
  (m_X6_refuse fu t t_L t_refused (-2 : Int32)).bind fun o7 =>
    some (o7.1, (t_rows_R, t_moved, o7.2))
def b_X6_copy_225 (fu : Nat) (t : Nat → Int32) (t_L : Nat → Int64) (t_shelf : Nat → Int32) (t_rowSort : Nat → Int32) (t_rowSize : Nat → Int32) (k_225 : (Int32 × Int32 × Int32 × Int32 × (Nat → Nat → Int64) × (Nat → Int64) × (Nat → Int32)) → Option (Int32 × ((Nat → Nat → Int64) × (Nat → Int64) × (Nat → Int32)))) (x : Int32 × Int32 × Int32 × Int32 × (Nat → Nat → Int64) × (Nat → Int64) × (Nat → Int32)) : Option (Int32 × ((Nat → Nat → Int64) × (Nat → Int64) × (Nat → Int32))) :=
  (if x.2.2.1 ≤ x.2.2.2.1 then
        some (x.2.2.1, (x.2.2.2.2.1, x.2.2.2.2.2.1, x.2.2.2.2.2.2))
      else
        gd (inb x.1 8) (
        gd (inb x.2.2.2.1 40) (
        gd (inb x.1 8) (gd (inb (x.2.1 + x.2.2.2.1) 40) (
        k_225 (x.1, x.2.1, x.2.2.1, (x.2.2.2.1 + (1 : Int32)), (va_up x.2.2.2.2.1 x.1.toNatClampNeg (vp_updL (x.2.2.2.2.1 x.1.toNatClampNeg) (x.2.1 + x.2.2.2.1).toNatClampNeg (x.2.2.2.2.2.1 x.2.2.2.1.toNatClampNeg))), x.2.2.2.2.2.1, x.2.2.2.2.2.2))))))
def b_X6_copy_191 (fu : Nat) (t : Nat → Int32) (t_L : Nat → Int64) (t_shelf : Nat → Int32) (t_rowSort : Nat → Int32) (t_rowSize : Nat → Int32) (k_191 : (Int32 × Int32 × Int32 × Int32 × Int32 × Int32 × (Nat → Nat → Int64) × (Nat → Int64) × (Nat → Int32)) → Option (Int32 × ((Nat → Nat → Int64) × (Nat → Int64) × (Nat → Int32)))) (x : Int32 × Int32 × Int32 × Int32 × Int32 × Int32 × (Nat → Nat → Int64) × (Nat → Int64) × (Nat → Int32)) : Option (Int32 × ((Nat → Nat → Int64) × (Nat → Int64) × (Nat → Int32))) :=
  (if x.2.2.2.2.1 ≤ x.2.2.2.2.2.1 then
        lfix (b_X6_copy_225 fu t t_L t_shelf t_rowSort t_rowSize) fu (x.2.1, x.2.2.2.1, x.2.2.2.2.1, (0 : Int32), x.2.2.2.2.2.2.1, x.2.2.2.2.2.2.2.1, x.2.2.2.2.2.2.2.2)
      else
        gd (inb x.1 8) (
        gd (inb x.1 8) (gd (inb (x.2.2.1 + x.2.2.2.2.2.1) 40) (
        gd (inb x.2.2.2.2.2.1 40) (
        k_191 (x.1, x.2.1, x.2.2.1, x.2.2.2.1, x.2.2.2.2.1, (x.2.2.2.2.2.1 + (1 : Int32)), x.2.2.2.2.2.2.1, (vp_updL x.2.2.2.2.2.2.2.1 x.2.2.2.2.2.1.toNatClampNeg (x.2.2.2.2.2.2.1 x.1.toNatClampNeg (x.2.2.1 + x.2.2.2.2.2.1).toNatClampNeg)), x.2.2.2.2.2.2.2.2))))))
def b_X6_copy_93 (fu : Nat) (t : Nat → Int32) (t_L : Nat → Int64) (t_shelf : Nat → Int32) (t_rowSort : Nat → Int32) (t_rowSize : Nat → Int32) (l1 : Int32) (l2 : Int32) (l3 : Int32) (l4 : Int32) (l5 : Int32) (t_rows_R : Nat → Nat → Int64) (t_moved : Nat → Int64) (t_refused : Nat → Int32) : Option (Int32 × ((Nat → Nat → Int64) × (Nat → Int64) × (Nat → Int32))) :=
  gd (inb l1 8) (
    (if (t_shelf l1.toNatClampNeg) = 0 then
      b_X6_copy_111 fu t t_L t_shelf t_rowSort t_rowSize t_rows_R t_moved t_refused
    else
      gd (inb l2 8) (
      (if (t_shelf l2.toNatClampNeg) = 0 then
        b_X6_copy_111 fu t t_L t_shelf t_rowSort t_rowSize t_rows_R t_moved t_refused
      else
        (if l5 < 0 then
          b_X6_copy_181 fu t t_L t_shelf t_rowSort t_rowSize t_rows_R t_moved t_refused
        else
          (if l3 < 0 then
            b_X6_copy_181 fu t t_L t_shelf t_rowSort t_rowSize t_rows_R t_moved t_refused
          else
            (if l4 < 0 then
              b_X6_copy_181 fu t t_L t_shelf t_rowSort t_rowSize t_rows_R t_moved t_refused
            else
              gd (inb l1 8) (
              (if (t_rowSize l1.toNatClampNeg) < l5 then
                b_X6_copy_181 fu t t_L t_shelf t_rowSort t_rowSize t_rows_R t_moved t_refused
              else
                gd (inb l2 8) (
                (if (t_rowSize l2.toNatClampNeg) < l5 then
                  b_X6_copy_181 fu t t_L t_shelf t_rowSort t_rowSize t_rows_R t_moved t_refused
                else
                  gd (inb l1 8) (
                  (if ((t_rowSize l1.toNatClampNeg) - l5) < l3 then
                    b_X6_copy_181 fu t t_L t_shelf t_rowSort t_rowSize t_rows_R t_moved t_refused
                  else
                    gd (inb l2 8) (
                    (if l4 ≤ ((t_rowSize l2.toNatClampNeg) - l5) then
                      lfix (b_X6_copy_191 fu t t_L t_shelf t_rowSort t_rowSize) fu (l1, l2, l3, l4, l5, (0 : Int32), t_rows_R, t_moved, t_refused)
                    else
                      b_X6_copy_181 fu t t_L t_shelf t_rowSort t_rowSize t_rows_R t_moved t_refused)))))))))))))))
def m_X6_copy (fu : Nat) (t : Nat → Int32) (t_L : Nat → Int64) (t_shelf : Nat → Int32) (t_rowSort : Nat → Int32) (t_rowSize : Nat → Int32) (t_rows_R : Nat → Nat → Int64) (t_moved : Nat → Int64) (t_refused : Nat → Int32) (l1 : Int32) (l2 : Int32) (l3 : Int32) (l4 : Int32) (l5 : Int32) : Option (Int32 × ((Nat → Nat → Int64) × (Nat → Int64) × (Nat → Int32))) :=
  (m_X6_in fu l1.toInt64 (0 : Int64) (7 : Int64)).bind fun o37 =>
  (if o37.1 = 0 then
    b_X6_copy_24 fu t t_L t_shelf t_rowSort t_rowSize t_rows_R t_moved t_refused
  else
    (m_X6_in fu l2.toInt64 (0 : Int64) (7 : Int64)).bind fun o40 =>
    (if o40.1 = 0 then
      b_X6_copy_24 fu t t_L t_shelf t_rowSort t_rowSize t_rows_R t_moved t_refused
    else
      gd (inb l1 8) (
      (if (t_shelf l1.toNatClampNeg) = (2 : Int32) then
        b_X6_copy_86 fu t t_L t_shelf t_rowSort t_rowSize t_rows_R t_moved t_refused
      else
        gd (inb l2 8) (
        (if (t_shelf l2.toNatClampNeg) = (2 : Int32) then
          b_X6_copy_86 fu t t_L t_shelf t_rowSort t_rowSize t_rows_R t_moved t_refused
        else
          gd (inb l1 8) (
          (if (t_shelf l1.toNatClampNeg) = (1 : Int32) then
            gd (inb l2 8) (
            (if (t_shelf l2.toNatClampNeg) = (1 : Int32) then
              gd (inb l1 8) (
              gd (inb l2 8) (
              (if (t_rowSort l1.toNatClampNeg) = (t_rowSort l2.toNatClampNeg) then
                b_X6_copy_93 fu t t_L t_shelf t_rowSort t_rowSize l1 l2 l3 l4 l5 t_rows_R t_moved t_refused
              else
                b_X6_copy_86 fu t t_L t_shelf t_rowSort t_rowSize t_rows_R t_moved t_refused)))
            else
              b_X6_copy_93 fu t t_L t_shelf t_rowSort t_rowSize l1 l2 l3 l4 l5 t_rows_R t_moved t_refused))
          else
            b_X6_copy_93 fu t t_L t_shelf t_rowSort t_rowSize l1 l2 l3 l4 l5 t_rows_R t_moved t_refused))))))))
abbrev rm_X6_copy : Room := ({ frames := 1, cells := 0, slots := 0, locals := 25 } : Room)
abbrev w0_X6_copy (cA : Nat → ClassId) (am : Nat → Nat) (tkv : Value) (ttv : Value) (t : Nat → Int32) (t_L : Nat → Int64) (t_shelf : Nat → Int32) (t_rowSort : Nat → Int32) (t_rowSize : Nat → Int32) (t_rows_R : Nat → Nat → Int64) (t_moved : Nat → Int64) (t_refused : Nat → Int32) : va_W := [((am 0), e_X6 am tkv ttv t t_L), ((am 1), eI cA 8 t_shelf), ((am 2), eI cA 8 t_rowSort), ((am 3), eI cA 8 t_rowSize), ((am 4), eOJ cA am 5), (am 5, eJ cA 40 (t_rows_R 0)), (am 6, eJ cA 40 (t_rows_R 1)), (am 7, eJ cA 40 (t_rows_R 2)), (am 8, eJ cA 40 (t_rows_R 3)), (am 9, eJ cA 40 (t_rows_R 4)), (am 10, eJ cA 40 (t_rows_R 5)), (am 11, eJ cA 40 (t_rows_R 6)), (am 12, eJ cA 40 (t_rows_R 7)), ((am 13), eJ cA 40 t_moved), ((am 16), eI cA 8 t_refused)]
abbrev w1_X6_copy (cA : Nat → ClassId) (am : Nat → Nat) (tkv : Value) (ttv : Value) (t : Nat → Int32) (t_L : Nat → Int64) (t_shelf : Nat → Int32) (t_rowSort : Nat → Int32) (t_rowSize : Nat → Int32) (u : (Nat → Nat → Int64) × (Nat → Int64) × (Nat → Int32)) : va_W := [((am 0), e_X6 am tkv ttv t t_L), ((am 1), eI cA 8 t_shelf), ((am 2), eI cA 8 t_rowSort), ((am 3), eI cA 8 t_rowSize), ((am 4), eOJ cA am 5), (am 5, eJ cA 40 (u.1 0)), (am 6, eJ cA 40 (u.1 1)), (am 7, eJ cA 40 (u.1 2)), (am 8, eJ cA 40 (u.1 3)), (am 9, eJ cA 40 (u.1 4)), (am 10, eJ cA 40 (u.1 5)), (am 11, eJ cA 40 (u.1 6)), (am 12, eJ cA 40 (u.1 7)), ((am 13), eJ cA 40 u.2.1), ((am 16), eI cA 8 u.2.2)]
theorem hd_X6_copy : yX6_copy.cls = RX6 ∧ yX6_copy.cls ≠ "java/lang/invoke/MethodHandle" ∧ yX6_copy.cls ≠ "java/lang/invoke/VarHandle" ∧ (parseMethodDescriptor yX6_copy.desc).map (fun d => d.parameters.length) = some 5 := by decide +kernel
set_option maxHeartbeats 40000000 in
set_option maxRecDepth 100000 in
theorem c_X6_copy (l : Launch) (D : va_G) (cA : Nat → ClassId) (sz : Nat) (fu : Nat) (am : Nat → Nat) (tkv : Value) (ttv : Value) (t : Nat → Int32) (t_L : Nat → Int64) (t_shelf : Nat → Int32) (t_rowSort : Nat → Int32) (t_rowSize : Nat → Int32) (t_rows_R : Nat → Nat → Int64) (t_moved : Nat → Int64) (t_refused : Nat → Int32) (l1 : Int32) (l2 : Int32) (l3 : Int32) (l4 : Int32) (l5 : Int32) (out : Int32 × ((Nat → Nat → Int64) × (Nat → Int64) × (Nat → Int32))) (hm : m_X6_copy fu t t_L t_shelf t_rowSort t_rowSize t_rows_R t_moved t_refused l1 l2 l3 l4 l5 = some out) : MI l yX6_copy (wU yX6_copy cX6_copy 7 ((Option.some Jvm.ClassFile.FieldType.int))) rm_X6_copy D cA sz [.ref (am 0), .int l1, .int l2, .int l3, .int l4, .int l5] (w0_X6_copy cA am tkv ttv t t_L t_shelf t_rowSort t_rowSize t_rows_R t_moved t_refused) out (w1_X6_copy cA am tkv ttv t t_L t_shelf t_rowSort t_rowSize) := by
  refine Met.ofW (cc := cX6_copy) (maxL := 7) (ret := (Option.some Jvm.ClassFile.FieldType.int)) (by decide) rfl ?_
  intro p e s m args below meth c s₁ B hml hv
  obtain ⟨hargs, hsz, hP, hK, hD0, hN⟩ := hv
  have hx := B.exec
  have hb := B.bytes
  have hr := B.returns
  have htg : ∀ w ∈ gw, w.before args s = true := fun w h => atoms_spec (ws := wU yX6_copy cX6_copy 7 ((Option.some Jvm.ClassFile.FieldType.int))) B.pre w (List.mem_cons_of_mem _ h)
  have hown : s.vm.findClass RX6 = some m.cls := findClass_of_methodNamed B.named
  have hlocks := B.notSynchronized
  subst hsz
  have hD := hD0.self (sz := s.heap.size)
  have hA : ∀ q : Nat, s.heap.size ≤ q → va_A (w0_X6_copy cA am tkv ttv t t_L t_shelf t_rowSort t_rowSize t_rows_R t_moved t_refused) s.heap.size q := fun q h => Or.inr h
  have hS : va_S (va_A (w0_X6_copy cA am tkv ttv t t_L t_shelf t_rowSort t_rowSize t_rows_R t_moved t_refused) s.heap.size) s.heap s.heap [] := va_S.rf
  generalize va_A (w0_X6_copy cA am tkv ttv t t_L t_shelf t_rowSort t_rowSize t_rows_R t_moved t_refused) s.heap.size = A at hA hD hS ⊢
  obtain ⟨Q, hQ⟩ : ∃ Q : State → Prop, Q = MQ below (va_Qi (fun (r : Int32) (u : (Nat → Nat → Int64) × (Nat → Int64) × (Nat → Int32)) => (r, u) = out) (pst0 D cA A (w1_X6_copy cA am tkv ttv t t_L t_shelf t_rowSort t_rowSize)) A) args s 0 0 A := ⟨_, rfl⟩
  refine (?_ : W p l e rm_X6_copy s m args below meth c s.heap [] 0 0 (MQ below (va_Qi (fun (r : Int32) (u : (Nat → Nat → Int64) × (Nat → Int64) × (Nat → Int32)) => (r, u) = out) (pst0 D cA A (w1_X6_copy cA am tkv ttv t t_L t_shelf t_rowSort t_rowSize)) A) args s 0 0 A) (entryFrame m args 7))
  rw [← hQ]
  have hP : va_P D CL [((am 0), e_X6 am tkv ttv t t_L), ((am 1), eI cA 8 t_shelf), ((am 2), eI cA 8 t_rowSort), ((am 3), eI cA 8 t_rowSize), ((am 4), eOJ cA am 5), (am 5, eJ cA 40 (t_rows_R 0)), (am 6, eJ cA 40 (t_rows_R 1)), (am 7, eJ cA 40 (t_rows_R 2)), (am 8, eJ cA 40 (t_rows_R 3)), (am 9, eJ cA 40 (t_rows_R 4)), (am 10, eJ cA 40 (t_rows_R 5)), (am 11, eJ cA 40 (t_rows_R 6)), (am 12, eJ cA 40 (t_rows_R 7)), ((am 13), eJ cA 40 t_moved), ((am 16), eI cA 8 t_refused)] s.heap := hP
  have hD : va_D A [((am 0), e_X6 am tkv ttv t t_L), ((am 1), eI cA 8 t_shelf), ((am 2), eI cA 8 t_rowSort), ((am 3), eI cA 8 t_rowSize), ((am 4), eOJ cA am 5), (am 5, eJ cA 40 (t_rows_R 0)), (am 6, eJ cA 40 (t_rows_R 1)), (am 7, eJ cA 40 (t_rows_R 2)), (am 8, eJ cA 40 (t_rows_R 3)), (am 9, eJ cA 40 (t_rows_R 4)), (am 10, eJ cA 40 (t_rows_R 5)), (am 11, eJ cA 40 (t_rows_R 6)), (am 12, eJ cA 40 (t_rows_R 7)), ((am 13), eJ cA 40 t_moved), ((am 16), eI cA 8 t_refused)] := hD
  have B_24 : ∀ (t_rows_R : Nat → Nat → Int64) (t_moved : Nat → Int64) (t_refused : Nat → Int32) (H : Heap) (locs : List Loc) (ls : Array Slot), b_X6_copy_24 fu t t_L t_shelf t_rowSort t_rowSize t_rows_R t_moved t_refused = some out → va_P D CL [((am 0), e_X6 am tkv ttv t t_L), ((am 1), eI cA 8 t_shelf), ((am 2), eI cA 8 t_rowSort), ((am 3), eI cA 8 t_rowSize), ((am 4), eOJ cA am 5), (am 5, eJ cA 40 (t_rows_R 0)), (am 6, eJ cA 40 (t_rows_R 1)), (am 7, eJ cA 40 (t_rows_R 2)), (am 8, eJ cA 40 (t_rows_R 3)), (am 9, eJ cA 40 (t_rows_R 4)), (am 10, eJ cA 40 (t_rows_R 5)), (am 11, eJ cA 40 (t_rows_R 6)), (am 12, eJ cA 40 (t_rows_R 7)), ((am 13), eJ cA 40 t_moved), ((am 16), eI cA 8 t_refused)] H → va_D A [((am 0), e_X6 am tkv ttv t t_L), ((am 1), eI cA 8 t_shelf), ((am 2), eI cA 8 t_rowSort), ((am 3), eI cA 8 t_rowSize), ((am 4), eOJ cA am 5), (am 5, eJ cA 40 (t_rows_R 0)), (am 6, eJ cA 40 (t_rows_R 1)), (am 7, eJ cA 40 (t_rows_R 2)), (am 8, eJ cA 40 (t_rows_R 3)), (am 9, eJ cA 40 (t_rows_R 4)), (am 10, eJ cA 40 (t_rows_R 5)), (am 11, eJ cA 40 (t_rows_R 6)), (am 12, eJ cA 40 (t_rows_R 7)), ((am 13), eJ cA 40 t_moved), ((am 16), eI cA 8 t_refused)] → va_S A s.heap H locs → lv_has ls 7 [(0, .ref (am 0))] → W p l e rm_X6_copy s m args below meth c H locs 0 0 Q (F0 m 24 ls []) := by
    intro  t_rows_R t_moved t_refused H locs ls hm hP hD hS hl
    unfold b_X6_copy_24 at hm
    refine lv_aload_n hx hb dX6_copy_24 rfl (lv_at hl 0 rfl) ?_
    refine lv_bipush (v := (-2 : Int32)) hx hb dX6_copy_25 (by decide) ?_
    obtain ⟨o1, ho2, hm⟩ := bd_s hm
    refine xr_i (wr := [((am 1), eI cA 8 t_shelf), ((am 2), eI cA 8 t_rowSort), ((am 3), eI cA 8 t_rowSize), ((am 4), eOJ cA am 5), (am 5, eJ cA 40 (t_rows_R 0)), (am 6, eJ cA 40 (t_rows_R 1)), (am 7, eJ cA 40 (t_rows_R 2)), (am 8, eJ cA 40 (t_rows_R 3)), (am 9, eJ cA 40 (t_rows_R 4)), (am 10, eJ cA 40 (t_rows_R 5)), (am 11, eJ cA 40 (t_rows_R 6)), (am 12, eJ cA 40 (t_rows_R 7)), ((am 13), eJ cA 40 t_moved)]) (wn := [((am 0), e_X6 am tkv ttv t t_L), ((am 1), eI cA 8 t_shelf), ((am 2), eI cA 8 t_rowSort), ((am 3), eI cA 8 t_rowSize), ((am 4), eOJ cA am 5), (am 5, eJ cA 40 (t_rows_R 0)), (am 6, eJ cA 40 (t_rows_R 1)), (am 7, eJ cA 40 (t_rows_R 2)), (am 8, eJ cA 40 (t_rows_R 3)), (am 9, eJ cA 40 (t_rows_R 4)), (am 10, eJ cA 40 (t_rows_R 5)), (am 11, eJ cA 40 (t_rows_R 6)), (am 12, eJ cA 40 (t_rows_R 7)), ((am 13), eJ cA 40 t_moved), ((am 16), eI cA 8 o1.2)]) (va_runV (As := [.int (-2 : Int32)]) (rest := []) ⟨hx, hb, hml, hown, htg⟩ (c_X6_refuse l D cA _ fu am tkv ttv t t_L t_refused (-2 : Int32) o1 ho2) (cwV 1 htg (gV q_5_108 q_5_110 q_p5_7 q_1_8 q_5_111) rfl rfl rfl hd_X6_refuse ⟨Nat.le_of_ble_eq_true rfl, Nat.le_of_ble_eq_true rfl⟩) (xpV hN hK hP hD [0, 14] rfl (by decide) rfl rfl) rfl rfl hl.1 rfl (lv_room (Nat.le_of_ble_eq_true rfl)) dX6_copy_27 ⟨Nat.zero_le _, Nat.zero_le _⟩) hP hD hS hA [0, 14] [1, 2, 3, 4, 5, 6, 7, 8, 9, 10, 11, 12, 13] [13, 0, 1, 2, 3, 4, 5, 6, 7, 8, 9, 10, 11, 12, 14] rfl rfl (by decide) (by decide) rfl (by decide) (fun H locs hP hD hS => ?_)
    rw [hQ]
    exact W.iret (v := o1.1) hx hb hr (fun t9 ht hW => ⟨⟨o1.1, (t_rows_R, t_moved, o1.2), rfl, (Option.some.inj hm), by rw [ht]; exact hP, va_K.moved hW.alike hK, hD⟩, hS.F ht⟩) hS.2.2 dX6_copy_30
  have B_86 : ∀ (t_rows_R : Nat → Nat → Int64) (t_moved : Nat → Int64) (t_refused : Nat → Int32) (H : Heap) (locs : List Loc) (ls : Array Slot), b_X6_copy_86 fu t t_L t_shelf t_rowSort t_rowSize t_rows_R t_moved t_refused = some out → va_P D CL [((am 0), e_X6 am tkv ttv t t_L), ((am 1), eI cA 8 t_shelf), ((am 2), eI cA 8 t_rowSort), ((am 3), eI cA 8 t_rowSize), ((am 4), eOJ cA am 5), (am 5, eJ cA 40 (t_rows_R 0)), (am 6, eJ cA 40 (t_rows_R 1)), (am 7, eJ cA 40 (t_rows_R 2)), (am 8, eJ cA 40 (t_rows_R 3)), (am 9, eJ cA 40 (t_rows_R 4)), (am 10, eJ cA 40 (t_rows_R 5)), (am 11, eJ cA 40 (t_rows_R 6)), (am 12, eJ cA 40 (t_rows_R 7)), ((am 13), eJ cA 40 t_moved), ((am 16), eI cA 8 t_refused)] H → va_D A [((am 0), e_X6 am tkv ttv t t_L), ((am 1), eI cA 8 t_shelf), ((am 2), eI cA 8 t_rowSort), ((am 3), eI cA 8 t_rowSize), ((am 4), eOJ cA am 5), (am 5, eJ cA 40 (t_rows_R 0)), (am 6, eJ cA 40 (t_rows_R 1)), (am 7, eJ cA 40 (t_rows_R 2)), (am 8, eJ cA 40 (t_rows_R 3)), (am 9, eJ cA 40 (t_rows_R 4)), (am 10, eJ cA 40 (t_rows_R 5)), (am 11, eJ cA 40 (t_rows_R 6)), (am 12, eJ cA 40 (t_rows_R 7)), ((am 13), eJ cA 40 t_moved), ((am 16), eI cA 8 t_refused)] → va_S A s.heap H locs → lv_has ls 7 [(0, .ref (am 0))] → W p l e rm_X6_copy s m args below meth c H locs 0 0 Q (F0 m 86 ls []) := by
    intro  t_rows_R t_moved t_refused H locs ls hm hP hD hS hl
    unfold b_X6_copy_86 at hm
    refine lv_aload_n hx hb dX6_copy_86 rfl (lv_at hl 0 rfl) ?_
    refine lv_bipush (v := (-3 : Int32)) hx hb dX6_copy_87 (by decide) ?_
    obtain ⟨o3, ho4, hm⟩ := bd_s hm
    refine xr_i (wr := [((am 1), eI cA 8 t_shelf), ((am 2), eI cA 8 t_rowSort), ((am 3), eI cA 8 t_rowSize), ((am 4), eOJ cA am 5), (am 5, eJ cA 40 (t_rows_R 0)), (am 6, eJ cA 40 (t_rows_R 1)), (am 7, eJ cA 40 (t_rows_R 2)), (am 8, eJ cA 40 (t_rows_R 3)), (am 9, eJ cA 40 (t_rows_R 4)), (am 10, eJ cA 40 (t_rows_R 5)), (am 11, eJ cA 40 (t_rows_R 6)), (am 12, eJ cA 40 (t_rows_R 7)), ((am 13), eJ cA 40 t_moved)]) (wn := [((am 0), e_X6 am tkv ttv t t_L), ((am 1), eI cA 8 t_shelf), ((am 2), eI cA 8 t_rowSort), ((am 3), eI cA 8 t_rowSize), ((am 4), eOJ cA am 5), (am 5, eJ cA 40 (t_rows_R 0)), (am 6, eJ cA 40 (t_rows_R 1)), (am 7, eJ cA 40 (t_rows_R 2)), (am 8, eJ cA 40 (t_rows_R 3)), (am 9, eJ cA 40 (t_rows_R 4)), (am 10, eJ cA 40 (t_rows_R 5)), (am 11, eJ cA 40 (t_rows_R 6)), (am 12, eJ cA 40 (t_rows_R 7)), ((am 13), eJ cA 40 t_moved), ((am 16), eI cA 8 o3.2)]) (va_runV (As := [.int (-3 : Int32)]) (rest := []) ⟨hx, hb, hml, hown, htg⟩ (c_X6_refuse l D cA _ fu am tkv ttv t t_L t_refused (-3 : Int32) o3 ho4) (cwV 1 htg (gV q_5_108 q_5_110 q_p5_7 q_1_8 q_5_111) rfl rfl rfl hd_X6_refuse ⟨Nat.le_of_ble_eq_true rfl, Nat.le_of_ble_eq_true rfl⟩) (xpV hN hK hP hD [0, 14] rfl (by decide) rfl rfl) rfl rfl hl.1 rfl (lv_room (Nat.le_of_ble_eq_true rfl)) dX6_copy_89 ⟨Nat.zero_le _, Nat.zero_le _⟩) hP hD hS hA [0, 14] [1, 2, 3, 4, 5, 6, 7, 8, 9, 10, 11, 12, 13] [13, 0, 1, 2, 3, 4, 5, 6, 7, 8, 9, 10, 11, 12, 14] rfl rfl (by decide) (by decide) rfl (by decide) (fun H locs hP hD hS => ?_)
    rw [hQ]
    exact W.iret (v := o3.1) hx hb hr (fun t9 ht hW => ⟨⟨o3.1, (t_rows_R, t_moved, o3.2), rfl, (Option.some.inj hm), by rw [ht]; exact hP, va_K.moved hW.alike hK, hD⟩, hS.F ht⟩) hS.2.2 dX6_copy_92
  have B_111 : ∀ (t_rows_R : Nat → Nat → Int64) (t_moved : Nat → Int64) (t_refused : Nat → Int32) (H : Heap) (locs : List Loc) (ls : Array Slot), b_X6_copy_111 fu t t_L t_shelf t_rowSort t_rowSize t_rows_R t_moved t_refused = some out → va_P D CL [((am 0), e_X6 am tkv ttv t t_L), ((am 1), eI cA 8 t_shelf), ((am 2), eI cA 8 t_rowSort), ((am 3), eI cA 8 t_rowSize), ((am 4), eOJ cA am 5), (am 5, eJ cA 40 (t_rows_R 0)), (am 6, eJ cA 40 (t_rows_R 1)), (am 7, eJ cA 40 (t_rows_R 2)), (am 8, eJ cA 40 (t_rows_R 3)), (am 9, eJ cA 40 (t_rows_R 4)), (am 10, eJ cA 40 (t_rows_R 5)), (am 11, eJ cA 40 (t_rows_R 6)), (am 12, eJ cA 40 (t_rows_R 7)), ((am 13), eJ cA 40 t_moved), ((am 16), eI cA 8 t_refused)] H → va_D A [((am 0), e_X6 am tkv ttv t t_L), ((am 1), eI cA 8 t_shelf), ((am 2), eI cA 8 t_rowSort), ((am 3), eI cA 8 t_rowSize), ((am 4), eOJ cA am 5), (am 5, eJ cA 40 (t_rows_R 0)), (am 6, eJ cA 40 (t_rows_R 1)), (am 7, eJ cA 40 (t_rows_R 2)), (am 8, eJ cA 40 (t_rows_R 3)), (am 9, eJ cA 40 (t_rows_R 4)), (am 10, eJ cA 40 (t_rows_R 5)), (am 11, eJ cA 40 (t_rows_R 6)), (am 12, eJ cA 40 (t_rows_R 7)), ((am 13), eJ cA 40 t_moved), ((am 16), eI cA 8 t_refused)] → va_S A s.heap H locs → lv_has ls 7 [(0, .ref (am 0))] → W p l e rm_X6_copy s m args below meth c H locs 0 0 Q (F0 m 111 ls []) := by
    intro  t_rows_R t_moved t_refused H locs ls hm hP hD hS hl
    unfold b_X6_copy_111 at hm
    refine lv_aload_n hx hb dX6_copy_111 rfl (lv_at hl 0 rfl) ?_
    refine lv_bipush (v := (-4 : Int32)) hx hb dX6_copy_112 (by decide) ?_
    obtain ⟨o5, ho6, hm⟩ := bd_s hm
    refine xr_i (wr := [((am 1), eI cA 8 t_shelf), ((am 2), eI cA 8 t_rowSort), ((am 3), eI cA 8 t_rowSize), ((am 4), eOJ cA am 5), (am 5, eJ cA 40 (t_rows_R 0)), (am 6, eJ cA 40 (t_rows_R 1)), (am 7, eJ cA 40 (t_rows_R 2)), (am 8, eJ cA 40 (t_rows_R 3)), (am 9, eJ cA 40 (t_rows_R 4)), (am 10, eJ cA 40 (t_rows_R 5)), (am 11, eJ cA 40 (t_rows_R 6)), (am 12, eJ cA 40 (t_rows_R 7)), ((am 13), eJ cA 40 t_moved)]) (wn := [((am 0), e_X6 am tkv ttv t t_L), ((am 1), eI cA 8 t_shelf), ((am 2), eI cA 8 t_rowSort), ((am 3), eI cA 8 t_rowSize), ((am 4), eOJ cA am 5), (am 5, eJ cA 40 (t_rows_R 0)), (am 6, eJ cA 40 (t_rows_R 1)), (am 7, eJ cA 40 (t_rows_R 2)), (am 8, eJ cA 40 (t_rows_R 3)), (am 9, eJ cA 40 (t_rows_R 4)), (am 10, eJ cA 40 (t_rows_R 5)), (am 11, eJ cA 40 (t_rows_R 6)), (am 12, eJ cA 40 (t_rows_R 7)), ((am 13), eJ cA 40 t_moved), ((am 16), eI cA 8 o5.2)]) (va_runV (As := [.int (-4 : Int32)]) (rest := []) ⟨hx, hb, hml, hown, htg⟩ (c_X6_refuse l D cA _ fu am tkv ttv t t_L t_refused (-4 : Int32) o5 ho6) (cwV 1 htg (gV q_5_108 q_5_110 q_p5_7 q_1_8 q_5_111) rfl rfl rfl hd_X6_refuse ⟨Nat.le_of_ble_eq_true rfl, Nat.le_of_ble_eq_true rfl⟩) (xpV hN hK hP hD [0, 14] rfl (by decide) rfl rfl) rfl rfl hl.1 rfl (lv_room (Nat.le_of_ble_eq_true rfl)) dX6_copy_114 ⟨Nat.zero_le _, Nat.zero_le _⟩) hP hD hS hA [0, 14] [1, 2, 3, 4, 5, 6, 7, 8, 9, 10, 11, 12, 13] [13, 0, 1, 2, 3, 4, 5, 6, 7, 8, 9, 10, 11, 12, 14] rfl rfl (by decide) (by decide) rfl (by decide) (fun H locs hP hD hS => ?_)
    rw [hQ]
    exact W.iret (v := o5.1) hx hb hr (fun t9 ht hW => ⟨⟨o5.1, (t_rows_R, t_moved, o5.2), rfl, (Option.some.inj hm), by rw [ht]; exact hP, va_K.moved hW.alike hK, hD⟩, hS.F ht⟩) hS.2.2 dX6_copy_117
  have B_181 : ∀ (t_rows_R : Nat → Nat → Int64) (t_moved : Nat → Int64) (t_refused : Nat → Int32) (H : Heap) (locs : List Loc) (ls : Array Slot), b_X6_copy_181 fu t t_L t_shelf t_rowSort t_rowSize t_rows_R t_moved t_refused = some out → va_P D CL [((am 0), e_X6 am tkv ttv t t_L), ((am 1), eI cA 8 t_shelf), ((am 2), eI cA 8 t_rowSort), ((am 3), eI cA 8 t_rowSize), ((am 4), eOJ cA am 5), (am 5, eJ cA 40 (t_rows_R 0)), (am 6, eJ cA 40 (t_rows_R 1)), (am 7, eJ cA 40 (t_rows_R 2)), (am 8, eJ cA 40 (t_rows_R 3)), (am 9, eJ cA 40 (t_rows_R 4)), (am 10, eJ cA 40 (t_rows_R 5)), (am 11, eJ cA 40 (t_rows_R 6)), (am 12, eJ cA 40 (t_rows_R 7)), ((am 13), eJ cA 40 t_moved), ((am 16), eI cA 8 t_refused)] H → va_D A [((am 0), e_X6 am tkv ttv t t_L), ((am 1), eI cA 8 t_shelf), ((am 2), eI cA 8 t_rowSort), ((am 3), eI cA 8 t_rowSize), ((am 4), eOJ cA am 5), (am 5, eJ cA 40 (t_rows_R 0)), (am 6, eJ cA 40 (t_rows_R 1)), (am 7, eJ cA 40 (t_rows_R 2)), (am 8, eJ cA 40 (t_rows_R 3)), (am 9, eJ cA 40 (t_rows_R 4)), (am 10, eJ cA 40 (t_rows_R 5)), (am 11, eJ cA 40 (t_rows_R 6)), (am 12, eJ cA 40 (t_rows_R 7)), ((am 13), eJ cA 40 t_moved), ((am 16), eI cA 8 t_refused)] → va_S A s.heap H locs → lv_has ls 7 [(0, .ref (am 0))] → W p l e rm_X6_copy s m args below meth c H locs 0 0 Q (F0 m 181 ls []) := by
    intro  t_rows_R t_moved t_refused H locs ls hm hP hD hS hl
    unfold b_X6_copy_181 at hm
    refine lv_aload_n hx hb dX6_copy_181 rfl (lv_at hl 0 rfl) ?_
    refine lv_bipush (v := (-2 : Int32)) hx hb dX6_copy_182 (by decide) ?_
    obtain ⟨o7, ho8, hm⟩ := bd_s hm
    refine xr_i (wr := [((am 1), eI cA 8 t_shelf), ((am 2), eI cA 8 t_rowSort), ((am 3), eI cA 8 t_rowSize), ((am 4), eOJ cA am 5), (am 5, eJ cA 40 (t_rows_R 0)), (am 6, eJ cA 40 (t_rows_R 1)), (am 7, eJ cA 40 (t_rows_R 2)), (am 8, eJ cA 40 (t_rows_R 3)), (am 9, eJ cA 40 (t_rows_R 4)), (am 10, eJ cA 40 (t_rows_R 5)), (am 11, eJ cA 40 (t_rows_R 6)), (am 12, eJ cA 40 (t_rows_R 7)), ((am 13), eJ cA 40 t_moved)]) (wn := [((am 0), e_X6 am tkv ttv t t_L), ((am 1), eI cA 8 t_shelf), ((am 2), eI cA 8 t_rowSort), ((am 3), eI cA 8 t_rowSize), ((am 4), eOJ cA am 5), (am 5, eJ cA 40 (t_rows_R 0)), (am 6, eJ cA 40 (t_rows_R 1)), (am 7, eJ cA 40 (t_rows_R 2)), (am 8, eJ cA 40 (t_rows_R 3)), (am 9, eJ cA 40 (t_rows_R 4)), (am 10, eJ cA 40 (t_rows_R 5)), (am 11, eJ cA 40 (t_rows_R 6)), (am 12, eJ cA 40 (t_rows_R 7)), ((am 13), eJ cA 40 t_moved), ((am 16), eI cA 8 o7.2)]) (va_runV (As := [.int (-2 : Int32)]) (rest := []) ⟨hx, hb, hml, hown, htg⟩ (c_X6_refuse l D cA _ fu am tkv ttv t t_L t_refused (-2 : Int32) o7 ho8) (cwV 1 htg (gV q_5_108 q_5_110 q_p5_7 q_1_8 q_5_111) rfl rfl rfl hd_X6_refuse ⟨Nat.le_of_ble_eq_true rfl, Nat.le_of_ble_eq_true rfl⟩) (xpV hN hK hP hD [0, 14] rfl (by decide) rfl rfl) rfl rfl hl.1 rfl (lv_room (Nat.le_of_ble_eq_true rfl)) dX6_copy_184 ⟨Nat.zero_le _, Nat.zero_le _⟩) hP hD hS hA [0, 14] [1, 2, 3, 4, 5, 6, 7, 8, 9, 10, 11, 12, 13] [13, 0, 1, 2, 3, 4, 5, 6, 7, 8, 9, 10, 11, 12, 14] rfl rfl (by decide) (by decide) rfl (by decide) (fun H locs hP hD hS => ?_)
    rw [hQ]
    exact W.iret (v := o7.1) hx hb hr (fun t9 ht hW => ⟨⟨o7.1, (t_rows_R, t_moved, o7.2), rfl, (Option.some.inj hm), by rw [ht]; exact hP, va_K.moved hW.alike hK, hD⟩, hS.F ht⟩) hS.2.2 dX6_copy_187
  have B_225 : ∀ (n : Nat) (x : Int32 × Int32 × Int32 × Int32 × (Nat → Nat → Int64) × (Nat → Int64) × (Nat → Int32)) (H : Heap) (locs : List Loc) (ls : Array Slot), lfix (b_X6_copy_225 fu t t_L t_shelf t_rowSort t_rowSize) n x = some out → va_P D CL [((am 0), e_X6 am tkv ttv t t_L), ((am 1), eI cA 8 t_shelf), ((am 2), eI cA 8 t_rowSort), ((am 3), eI cA 8 t_rowSize), ((am 4), eOJ cA am 5), (am 5, eJ cA 40 (x.2.2.2.2.1 0)), (am 6, eJ cA 40 (x.2.2.2.2.1 1)), (am 7, eJ cA 40 (x.2.2.2.2.1 2)), (am 8, eJ cA 40 (x.2.2.2.2.1 3)), (am 9, eJ cA 40 (x.2.2.2.2.1 4)), (am 10, eJ cA 40 (x.2.2.2.2.1 5)), (am 11, eJ cA 40 (x.2.2.2.2.1 6)), (am 12, eJ cA 40 (x.2.2.2.2.1 7)), ((am 13), eJ cA 40 x.2.2.2.2.2.1), ((am 16), eI cA 8 x.2.2.2.2.2.2)] H → va_D A [((am 0), e_X6 am tkv ttv t t_L), ((am 1), eI cA 8 t_shelf), ((am 2), eI cA 8 t_rowSort), ((am 3), eI cA 8 t_rowSize), ((am 4), eOJ cA am 5), (am 5, eJ cA 40 (x.2.2.2.2.1 0)), (am 6, eJ cA 40 (x.2.2.2.2.1 1)), (am 7, eJ cA 40 (x.2.2.2.2.1 2)), (am 8, eJ cA 40 (x.2.2.2.2.1 3)), (am 9, eJ cA 40 (x.2.2.2.2.1 4)), (am 10, eJ cA 40 (x.2.2.2.2.1 5)), (am 11, eJ cA 40 (x.2.2.2.2.1 6)), (am 12, eJ cA 40 (x.2.2.2.2.1 7)), ((am 13), eJ cA 40 x.2.2.2.2.2.1), ((am 16), eI cA 8 x.2.2.2.2.2.2)] → va_S A s.heap H locs → lv_has ls 7 [(0, .ref (am 0)), (2, .int x.1), (4, .int x.2.1), (5, .int x.2.2.1), (6, .int x.2.2.2.1)] → W p l e rm_X6_copy s m args below meth c H locs 0 0 Q (F0 m 225 ls []) := by
    intro  n
    induction n with
    | zero => intro x H locs ls hm; cases (show none = some out from hm)
    | succ n HK_225 =>
      intro x H locs ls hm hP hD hS hl
      replace hm : b_X6_copy_225 fu t t_L t_shelf t_rowSort t_rowSize (lfix (b_X6_copy_225 fu t t_L t_shelf t_rowSort t_rowSize) n) x = some out := hm
      unfold b_X6_copy_225 at hm
      refine lv_iload hx hb dX6_copy_225 (lv_at hl 4 rfl) ?_
      refine lv_iload hx hb dX6_copy_227 (lv_at hl 3 rfl) ?_
      refine lv_icmp_ge (tgt := 257) hx hb dX6_copy_229 (by decide) (fun c9 => ?_) (fun c9 => ?_)
      · have hm := it_t c9 hm
        refine lv_iload hx hb dX6_copy_257 (lv_at hl 3 rfl) ?_
        rw [hQ]
        exact W.iret (v := x.2.2.1) hx hb hr (fun t9 ht hW => ⟨⟨x.2.2.1, (x.2.2.2.2.1, x.2.2.2.2.2.1, x.2.2.2.2.2.2), rfl, (Option.some.inj hm), by rw [ht]; exact hP, va_K.moved hW.alike hK, hD⟩, hS.F ht⟩) hS.2.2 dX6_copy_259
      · have hm := it_f c9 hm
        refine lv_aload_n hx hb dX6_copy_232 rfl (lv_at hl 0 rfl) ?_
        refine va_get (D := D) (ci := 6) (v := .ref (am 4)) (C := RX6) (T := TX6) (N := 49) hx hb htg inX6 hown hK hP 0 rfl rfl 3 (by decide) (htg _ q_4_192) (fun _ h9 => h9) rfl dX6_copy_233 ?_
        refine lv_iload_n hx hb dX6_copy_236 rfl (lv_at hl 1 rfl) ?_
        obtain ⟨hi10, hm⟩ := gd_s hm
        refine va_ald2 hx hb hK hP 4 3 rfl rfl hi10 dX6_copy_237 ?_
        rw [show (va_rf ((fun i => if i < 8 then some (am (5 + i)) else none) x.1.toNatClampNeg)) = Value.ref (am (5 + x.1.toNatClampNeg)) from rf_lt (inb_lt hi10)]
        refine lv_iload hx hb dX6_copy_238 (lv_at hl 2 rfl) ?_
        refine lv_iload hx hb dX6_copy_240 (lv_at hl 4 rfl) ?_
        refine lv_iadd hx hb dX6_copy_242 ?_
        refine lv_aload_n hx hb dX6_copy_243 rfl (lv_at hl 0 rfl) ?_
        refine va_get (D := D) (ci := 6) (v := .ref (am 13)) (C := RX6) (T := TX6) (N := 49) hx hb htg inX6 hown hK hP 0 rfl rfl 4 (by decide) (htg _ q_4_193) (fun _ h9 => h9) rfl dX6_copy_244 ?_
        refine lv_iload hx hb dX6_copy_247 (lv_at hl 4 rfl) ?_
        obtain ⟨hi11, hm⟩ := gd_s hm
        refine va_lald hx hb hK hP 13 1 rfl rfl hi11 dX6_copy_249 ?_
        obtain ⟨hj13, hm⟩ := gd_s hm
        obtain ⟨hi12, hm⟩ := gd_s hm
        have hq14 : ([((am 0), e_X6 am tkv ttv t t_L), ((am 1), eI cA 8 t_shelf), ((am 2), eI cA 8 t_rowSort), ((am 3), eI cA 8 t_rowSize), ((am 4), eOJ cA am 5), (am 5, eJ cA 40 (x.2.2.2.2.1 0)), (am 6, eJ cA 40 (x.2.2.2.2.1 1)), (am 7, eJ cA 40 (x.2.2.2.2.1 2)), (am 8, eJ cA 40 (x.2.2.2.2.1 3)), (am 9, eJ cA 40 (x.2.2.2.2.1 4)), (am 10, eJ cA 40 (x.2.2.2.2.1 5)), (am 11, eJ cA 40 (x.2.2.2.2.1 6)), (am 12, eJ cA 40 (x.2.2.2.2.1 7)), ((am 13), eJ cA 40 x.2.2.2.2.2.1), ((am 16), eI cA 8 x.2.2.2.2.2.2)] : va_W)[5 + x.1.toNatClampNeg]? = some (am (5 + x.1.toNatClampNeg), eJ cA 40 (x.2.2.2.2.1 x.1.toNatClampNeg)) := by
          have hj8 := inb_lt hj13
          generalize x.1.toNatClampNeg = j at hj8 ⊢
          rcases (show j = 0 ∨ j = 1 ∨ j = 2 ∨ j = 3 ∨ j = 4 ∨ j = 5 ∨ j = 6 ∨ j = 7 by omega) with rfl | rfl | rfl | rfl | rfl | rfl | rfl | rfl <;> rfl
        have hs15 : ([((am 0), e_X6 am tkv ttv t t_L), ((am 1), eI cA 8 t_shelf), ((am 2), eI cA 8 t_rowSort), ((am 3), eI cA 8 t_rowSize), ((am 4), eOJ cA am 5), (am 5, eJ cA 40 (x.2.2.2.2.1 0)), (am 6, eJ cA 40 (x.2.2.2.2.1 1)), (am 7, eJ cA 40 (x.2.2.2.2.1 2)), (am 8, eJ cA 40 (x.2.2.2.2.1 3)), (am 9, eJ cA 40 (x.2.2.2.2.1 4)), (am 10, eJ cA 40 (x.2.2.2.2.1 5)), (am 11, eJ cA 40 (x.2.2.2.2.1 6)), (am 12, eJ cA 40 (x.2.2.2.2.1 7)), ((am 13), eJ cA 40 x.2.2.2.2.2.1), ((am 16), eI cA 8 x.2.2.2.2.2.2)] : va_W).set (5 + x.1.toNatClampNeg) (am (5 + x.1.toNatClampNeg), eJ cA 40 (vp_updL (x.2.2.2.2.1 x.1.toNatClampNeg) (x.2.1 + x.2.2.2.1).toNatClampNeg (x.2.2.2.2.2.1 x.2.2.2.1.toNatClampNeg))) = [((am 0), e_X6 am tkv ttv t t_L), ((am 1), eI cA 8 t_shelf), ((am 2), eI cA 8 t_rowSort), ((am 3), eI cA 8 t_rowSize), ((am 4), eOJ cA am 5), (am 5, eJ cA 40 ((va_up x.2.2.2.2.1 x.1.toNatClampNeg (vp_updL (x.2.2.2.2.1 x.1.toNatClampNeg) (x.2.1 + x.2.2.2.1).toNatClampNeg (x.2.2.2.2.2.1 x.2.2.2.1.toNatClampNeg))) 0)), (am 6, eJ cA 40 ((va_up x.2.2.2.2.1 x.1.toNatClampNeg (vp_updL (x.2.2.2.2.1 x.1.toNatClampNeg) (x.2.1 + x.2.2.2.1).toNatClampNeg (x.2.2.2.2.2.1 x.2.2.2.1.toNatClampNeg))) 1)), (am 7, eJ cA 40 ((va_up x.2.2.2.2.1 x.1.toNatClampNeg (vp_updL (x.2.2.2.2.1 x.1.toNatClampNeg) (x.2.1 + x.2.2.2.1).toNatClampNeg (x.2.2.2.2.2.1 x.2.2.2.1.toNatClampNeg))) 2)), (am 8, eJ cA 40 ((va_up x.2.2.2.2.1 x.1.toNatClampNeg (vp_updL (x.2.2.2.2.1 x.1.toNatClampNeg) (x.2.1 + x.2.2.2.1).toNatClampNeg (x.2.2.2.2.2.1 x.2.2.2.1.toNatClampNeg))) 3)), (am 9, eJ cA 40 ((va_up x.2.2.2.2.1 x.1.toNatClampNeg (vp_updL (x.2.2.2.2.1 x.1.toNatClampNeg) (x.2.1 + x.2.2.2.1).toNatClampNeg (x.2.2.2.2.2.1 x.2.2.2.1.toNatClampNeg))) 4)), (am 10, eJ cA 40 ((va_up x.2.2.2.2.1 x.1.toNatClampNeg (vp_updL (x.2.2.2.2.1 x.1.toNatClampNeg) (x.2.1 + x.2.2.2.1).toNatClampNeg (x.2.2.2.2.2.1 x.2.2.2.1.toNatClampNeg))) 5)), (am 11, eJ cA 40 ((va_up x.2.2.2.2.1 x.1.toNatClampNeg (vp_updL (x.2.2.2.2.1 x.1.toNatClampNeg) (x.2.1 + x.2.2.2.1).toNatClampNeg (x.2.2.2.2.2.1 x.2.2.2.1.toNatClampNeg))) 6)), (am 12, eJ cA 40 ((va_up x.2.2.2.2.1 x.1.toNatClampNeg (vp_updL (x.2.2.2.2.1 x.1.toNatClampNeg) (x.2.1 + x.2.2.2.1).toNatClampNeg (x.2.2.2.2.2.1 x.2.2.2.1.toNatClampNeg))) 7)), ((am 13), eJ cA 40 x.2.2.2.2.2.1), ((am 16), eI cA 8 x.2.2.2.2.2.2)] := by
          have hj8 := inb_lt hj13
          generalize (vp_updL (x.2.2.2.2.1 x.1.toNatClampNeg) (x.2.1 + x.2.2.2.1).toNatClampNeg (x.2.2.2.2.2.1 x.2.2.2.1.toNatClampNeg)) = hg
          generalize x.1.toNatClampNeg = j at hj8 ⊢
          rcases (show j = 0 ∨ j = 1 ∨ j = 2 ∨ j = 3 ∨ j = 4 ∨ j = 5 ∨ j = 6 ∨ j = 7 by omega) with rfl | rfl | rfl | rfl | rfl | rfl | rfl | rfl <;> rfl
        refine va_last hx hb hK hP hD hS (5 + x.1.toNatClampNeg) 1 hq14 rfl hi12 dX6_copy_250 (fun H locs hP hD hS => ?_)
        rw [hs15] at hP hD
        refine lv_iinc (v := (x.2.2.2.1 + (1 : Int32))) (lv' := [(6, .int (x.2.2.2.1 + (1 : Int32))), (0, .ref (am 0)), (2, .int x.1), (4, .int x.2.1), (5, .int x.2.2.1)]) hx hb dX6_copy_251 hl (k := 4) rfl rfl (by decide) rfl (fun ls hl => ?_)
        refine lv_goto (tgt := 225) hx hb dX6_copy_254 (by decide) ?_
        exact HK_225 _ _ _ _ hm hP hD hS (lv_sub hl [1, 2, 3, 4, 0] rfl)
  have B_191 : ∀ (n : Nat) (x : Int32 × Int32 × Int32 × Int32 × Int32 × Int32 × (Nat → Nat → Int64) × (Nat → Int64) × (Nat → Int32)) (H : Heap) (locs : List Loc) (ls : Array Slot), lfix (b_X6_copy_191 fu t t_L t_shelf t_rowSort t_rowSize) n x = some out → va_P D CL [((am 0), e_X6 am tkv ttv t t_L), ((am 1), eI cA 8 t_shelf), ((am 2), eI cA 8 t_rowSort), ((am 3), eI cA 8 t_rowSize), ((am 4), eOJ cA am 5), (am 5, eJ cA 40 (x.2.2.2.2.2.2.1 0)), (am 6, eJ cA 40 (x.2.2.2.2.2.2.1 1)), (am 7, eJ cA 40 (x.2.2.2.2.2.2.1 2)), (am 8, eJ cA 40 (x.2.2.2.2.2.2.1 3)), (am 9, eJ cA 40 (x.2.2.2.2.2.2.1 4)), (am 10, eJ cA 40 (x.2.2.2.2.2.2.1 5)), (am 11, eJ cA 40 (x.2.2.2.2.2.2.1 6)), (am 12, eJ cA 40 (x.2.2.2.2.2.2.1 7)), ((am 13), eJ cA 40 x.2.2.2.2.2.2.2.1), ((am 16), eI cA 8 x.2.2.2.2.2.2.2.2)] H → va_D A [((am 0), e_X6 am tkv ttv t t_L), ((am 1), eI cA 8 t_shelf), ((am 2), eI cA 8 t_rowSort), ((am 3), eI cA 8 t_rowSize), ((am 4), eOJ cA am 5), (am 5, eJ cA 40 (x.2.2.2.2.2.2.1 0)), (am 6, eJ cA 40 (x.2.2.2.2.2.2.1 1)), (am 7, eJ cA 40 (x.2.2.2.2.2.2.1 2)), (am 8, eJ cA 40 (x.2.2.2.2.2.2.1 3)), (am 9, eJ cA 40 (x.2.2.2.2.2.2.1 4)), (am 10, eJ cA 40 (x.2.2.2.2.2.2.1 5)), (am 11, eJ cA 40 (x.2.2.2.2.2.2.1 6)), (am 12, eJ cA 40 (x.2.2.2.2.2.2.1 7)), ((am 13), eJ cA 40 x.2.2.2.2.2.2.2.1), ((am 16), eI cA 8 x.2.2.2.2.2.2.2.2)] → va_S A s.heap H locs → lv_has ls 7 [(0, .ref (am 0)), (1, .int x.1), (2, .int x.2.1), (3, .int x.2.2.1), (4, .int x.2.2.2.1), (5, .int x.2.2.2.2.1), (6, .int x.2.2.2.2.2.1)] → W p l e rm_X6_copy s m args below meth c H locs 0 0 Q (F0 m 191 ls []) := by
    intro  n
    induction n with
    | zero => intro x H locs ls hm; cases (show none = some out from hm)
    | succ n HK_191 =>
      intro x H locs ls hm hP hD hS hl
      replace hm : b_X6_copy_191 fu t t_L t_shelf t_rowSort t_rowSize (lfix (b_X6_copy_191 fu t t_L t_shelf t_rowSort t_rowSize) n) x = some out := hm
      unfold b_X6_copy_191 at hm
      refine lv_iload hx hb dX6_copy_191 (lv_at hl 6 rfl) ?_
      refine lv_iload hx hb dX6_copy_193 (lv_at hl 5 rfl) ?_
      refine lv_icmp_ge (tgt := 222) hx hb dX6_copy_195 (by decide) (fun c16 => ?_) (fun c16 => ?_)
      · have hm := it_t c16 hm
        refine lv_iconst (v := (0 : Int32)) hx hb dX6_copy_222 (by decide) ?_
        refine lv_istore (lv' := [(6, .int (0 : Int32)), (0, .ref (am 0)), (1, .int x.1), (2, .int x.2.1), (3, .int x.2.2.1), (4, .int x.2.2.2.1), (5, .int x.2.2.2.2.1)]) hx hb dX6_copy_223 hl (by decide) rfl (fun ls hl => ?_)
        exact B_225 fu _ _ _ _ hm hP hD hS (lv_sub hl [1, 3, 5, 6, 0] rfl)
      · have hm := it_f c16 hm
        refine lv_aload_n hx hb dX6_copy_198 rfl (lv_at hl 0 rfl) ?_
        refine va_get (D := D) (ci := 6) (v := .ref (am 13)) (C := RX6) (T := TX6) (N := 49) hx hb htg inX6 hown hK hP 0 rfl rfl 4 (by decide) (htg _ q_4_193) (fun _ h9 => h9) rfl dX6_copy_199 ?_
        refine lv_iload hx hb dX6_copy_202 (lv_at hl 6 rfl) ?_
        refine lv_aload_n hx hb dX6_copy_204 rfl (lv_at hl 0 rfl) ?_
        refine va_get (D := D) (ci := 6) (v := .ref (am 4)) (C := RX6) (T := TX6) (N := 49) hx hb htg inX6 hown hK hP 0 rfl rfl 3 (by decide) (htg _ q_4_192) (fun _ h9 => h9) rfl dX6_copy_205 ?_
        refine lv_iload_n hx hb dX6_copy_208 rfl (lv_at hl 1 rfl) ?_
        obtain ⟨hi17, hm⟩ := gd_s hm
        refine va_ald2 hx hb hK hP 4 3 rfl rfl hi17 dX6_copy_209 ?_
        rw [show (va_rf ((fun i => if i < 8 then some (am (5 + i)) else none) x.1.toNatClampNeg)) = Value.ref (am (5 + x.1.toNatClampNeg)) from rf_lt (inb_lt hi17)]
        refine lv_iload_n hx hb dX6_copy_210 rfl (lv_at hl 3 rfl) ?_
        refine lv_iload hx hb dX6_copy_211 (lv_at hl 6 rfl) ?_
        refine lv_iadd hx hb dX6_copy_213 ?_
        obtain ⟨hj19, hm⟩ := gd_s hm
        obtain ⟨hi18, hm⟩ := gd_s hm
        have hq20 : ([((am 0), e_X6 am tkv ttv t t_L), ((am 1), eI cA 8 t_shelf), ((am 2), eI cA 8 t_rowSort), ((am 3), eI cA 8 t_rowSize), ((am 4), eOJ cA am 5), (am 5, eJ cA 40 (x.2.2.2.2.2.2.1 0)), (am 6, eJ cA 40 (x.2.2.2.2.2.2.1 1)), (am 7, eJ cA 40 (x.2.2.2.2.2.2.1 2)), (am 8, eJ cA 40 (x.2.2.2.2.2.2.1 3)), (am 9, eJ cA 40 (x.2.2.2.2.2.2.1 4)), (am 10, eJ cA 40 (x.2.2.2.2.2.2.1 5)), (am 11, eJ cA 40 (x.2.2.2.2.2.2.1 6)), (am 12, eJ cA 40 (x.2.2.2.2.2.2.1 7)), ((am 13), eJ cA 40 x.2.2.2.2.2.2.2.1), ((am 16), eI cA 8 x.2.2.2.2.2.2.2.2)] : va_W)[5 + x.1.toNatClampNeg]? = some (am (5 + x.1.toNatClampNeg), eJ cA 40 (x.2.2.2.2.2.2.1 x.1.toNatClampNeg)) := by
          have hj8 := inb_lt hj19
          generalize x.1.toNatClampNeg = j at hj8 ⊢
          rcases (show j = 0 ∨ j = 1 ∨ j = 2 ∨ j = 3 ∨ j = 4 ∨ j = 5 ∨ j = 6 ∨ j = 7 by omega) with rfl | rfl | rfl | rfl | rfl | rfl | rfl | rfl <;> rfl
        refine va_lald hx hb hK hP (5 + x.1.toNatClampNeg) 1 hq20 rfl hi18 dX6_copy_214 ?_
        obtain ⟨hi21, hm⟩ := gd_s hm
        refine va_last hx hb hK hP hD hS 13 1 rfl rfl hi21 dX6_copy_215 (fun H locs (hP : va_P D CL [((am 0), e_X6 am tkv ttv t t_L), ((am 1), eI cA 8 t_shelf), ((am 2), eI cA 8 t_rowSort), ((am 3), eI cA 8 t_rowSize), ((am 4), eOJ cA am 5), (am 5, eJ cA 40 (x.2.2.2.2.2.2.1 0)), (am 6, eJ cA 40 (x.2.2.2.2.2.2.1 1)), (am 7, eJ cA 40 (x.2.2.2.2.2.2.1 2)), (am 8, eJ cA 40 (x.2.2.2.2.2.2.1 3)), (am 9, eJ cA 40 (x.2.2.2.2.2.2.1 4)), (am 10, eJ cA 40 (x.2.2.2.2.2.2.1 5)), (am 11, eJ cA 40 (x.2.2.2.2.2.2.1 6)), (am 12, eJ cA 40 (x.2.2.2.2.2.2.1 7)), ((am 13), eJ cA 40 (vp_updL x.2.2.2.2.2.2.2.1 x.2.2.2.2.2.1.toNatClampNeg (x.2.2.2.2.2.2.1 x.1.toNatClampNeg (x.2.2.1 + x.2.2.2.2.2.1).toNatClampNeg))), ((am 16), eI cA 8 x.2.2.2.2.2.2.2.2)] H) (hD : va_D A [((am 0), e_X6 am tkv ttv t t_L), ((am 1), eI cA 8 t_shelf), ((am 2), eI cA 8 t_rowSort), ((am 3), eI cA 8 t_rowSize), ((am 4), eOJ cA am 5), (am 5, eJ cA 40 (x.2.2.2.2.2.2.1 0)), (am 6, eJ cA 40 (x.2.2.2.2.2.2.1 1)), (am 7, eJ cA 40 (x.2.2.2.2.2.2.1 2)), (am 8, eJ cA 40 (x.2.2.2.2.2.2.1 3)), (am 9, eJ cA 40 (x.2.2.2.2.2.2.1 4)), (am 10, eJ cA 40 (x.2.2.2.2.2.2.1 5)), (am 11, eJ cA 40 (x.2.2.2.2.2.2.1 6)), (am 12, eJ cA 40 (x.2.2.2.2.2.2.1 7)), ((am 13), eJ cA 40 (vp_updL x.2.2.2.2.2.2.2.1 x.2.2.2.2.2.1.toNatClampNeg (x.2.2.2.2.2.2.1 x.1.toNatClampNeg (x.2.2.1 + x.2.2.2.2.2.1).toNatClampNeg))), ((am 16), eI cA 8 x.2.2.2.2.2.2.2.2)]) hS => ?_)
        refine lv_iinc (v := (x.2.2.2.2.2.1 + (1 : Int32))) (lv' := [(6, .int (x.2.2.2.2.2.1 + (1 : Int32))), (0, .ref (am 0)), (1, .int x.1), (2, .int x.2.1), (3, .int x.2.2.1), (4, .int x.2.2.2.1), (5, .int x.2.2.2.2.1)]) hx hb dX6_copy_216 hl (k := 6) rfl rfl (by decide) rfl (fun ls hl => ?_)
        refine lv_goto (tgt := 191) hx hb dX6_copy_219 (by decide) ?_
        exact HK_191 _ _ _ _ hm hP hD hS (lv_sub hl [1, 2, 3, 4, 5, 6, 0] rfl)
  have B_93 : ∀ (l1 : Int32) (l2 : Int32) (l3 : Int32) (l4 : Int32) (l5 : Int32) (t_rows_R : Nat → Nat → Int64) (t_moved : Nat → Int64) (t_refused : Nat → Int32) (H : Heap) (locs : List Loc) (ls : Array Slot), b_X6_copy_93 fu t t_L t_shelf t_rowSort t_rowSize l1 l2 l3 l4 l5 t_rows_R t_moved t_refused = some out → va_P D CL [((am 0), e_X6 am tkv ttv t t_L), ((am 1), eI cA 8 t_shelf), ((am 2), eI cA 8 t_rowSort), ((am 3), eI cA 8 t_rowSize), ((am 4), eOJ cA am 5), (am 5, eJ cA 40 (t_rows_R 0)), (am 6, eJ cA 40 (t_rows_R 1)), (am 7, eJ cA 40 (t_rows_R 2)), (am 8, eJ cA 40 (t_rows_R 3)), (am 9, eJ cA 40 (t_rows_R 4)), (am 10, eJ cA 40 (t_rows_R 5)), (am 11, eJ cA 40 (t_rows_R 6)), (am 12, eJ cA 40 (t_rows_R 7)), ((am 13), eJ cA 40 t_moved), ((am 16), eI cA 8 t_refused)] H → va_D A [((am 0), e_X6 am tkv ttv t t_L), ((am 1), eI cA 8 t_shelf), ((am 2), eI cA 8 t_rowSort), ((am 3), eI cA 8 t_rowSize), ((am 4), eOJ cA am 5), (am 5, eJ cA 40 (t_rows_R 0)), (am 6, eJ cA 40 (t_rows_R 1)), (am 7, eJ cA 40 (t_rows_R 2)), (am 8, eJ cA 40 (t_rows_R 3)), (am 9, eJ cA 40 (t_rows_R 4)), (am 10, eJ cA 40 (t_rows_R 5)), (am 11, eJ cA 40 (t_rows_R 6)), (am 12, eJ cA 40 (t_rows_R 7)), ((am 13), eJ cA 40 t_moved), ((am 16), eI cA 8 t_refused)] → va_S A s.heap H locs → lv_has ls 7 [(0, .ref (am 0)), (1, .int l1), (2, .int l2), (3, .int l3), (4, .int l4), (5, .int l5)] → W p l e rm_X6_copy s m args below meth c H locs 0 0 Q (F0 m 93 ls []) := by
    intro  l1 l2 l3 l4 l5 t_rows_R t_moved t_refused H locs ls hm hP hD hS hl
    unfold b_X6_copy_93 at hm
    refine lv_aload_n hx hb dX6_copy_93 rfl (lv_at hl 0 rfl) ?_
    refine va_get (D := D) (ci := 6) (v := .ref (am 1)) (C := RX6) (T := TX6) (N := 49) hx hb htg inX6 hown hK hP 0 rfl rfl 0 (by decide) (htg _ q_4_189) (fun _ h9 => h9) rfl dX6_copy_94 ?_
    refine lv_iload_n hx hb dX6_copy_97 rfl (lv_at hl 1 rfl) ?_
    obtain ⟨hi22, hm⟩ := gd_s hm
    refine va_iald hx hb hK hP 1 0 rfl rfl hi22 dX6_copy_98 ?_
    refine lv_if_eq (tgt := 111) hx hb dX6_copy_99 (by decide) (fun c23 => ?_) (fun c23 => ?_)
    · have hm := it_t c23 hm
      exact B_111 _ _ _ _ _ _ hm hP hD hS (lv_sub hl [0] rfl)
    · have hm := it_f c23 hm
      refine lv_aload_n hx hb dX6_copy_102 rfl (lv_at hl 0 rfl) ?_
      refine va_get (D := D) (ci := 6) (v := .ref (am 1)) (C := RX6) (T := TX6) (N := 49) hx hb htg inX6 hown hK hP 0 rfl rfl 0 (by decide) (htg _ q_4_189) (fun _ h9 => h9) rfl dX6_copy_103 ?_
      refine lv_iload_n hx hb dX6_copy_106 rfl (lv_at hl 2 rfl) ?_
      obtain ⟨hi24, hm⟩ := gd_s hm
      refine va_iald hx hb hK hP 1 0 rfl rfl hi24 dX6_copy_107 ?_
      refine lv_if_ne (tgt := 118) hx hb dX6_copy_108 (by decide) (fun c25 => ?_) (fun c25 => ?_)
      · have hm := it_f c25 hm
        refine lv_iload hx hb dX6_copy_118 (lv_at hl 5 rfl) ?_
        refine lv_if_lt (tgt := 181) hx hb dX6_copy_120 (by decide) (fun c26 => ?_) (fun c26 => ?_)
        · have hm := it_t c26 hm
          exact B_181 _ _ _ _ _ _ hm hP hD hS (lv_sub hl [0] rfl)
        · have hm := it_f c26 hm
          refine lv_iload_n hx hb dX6_copy_123 rfl (lv_at hl 3 rfl) ?_
          refine lv_if_lt (tgt := 181) hx hb dX6_copy_124 (by decide) (fun c27 => ?_) (fun c27 => ?_)
          · have hm := it_t c27 hm
            exact B_181 _ _ _ _ _ _ hm hP hD hS (lv_sub hl [0] rfl)
          · have hm := it_f c27 hm
            refine lv_iload hx hb dX6_copy_127 (lv_at hl 4 rfl) ?_
            refine lv_if_lt (tgt := 181) hx hb dX6_copy_129 (by decide) (fun c28 => ?_) (fun c28 => ?_)
            · have hm := it_t c28 hm
              exact B_181 _ _ _ _ _ _ hm hP hD hS (lv_sub hl [0] rfl)
            · have hm := it_f c28 hm
              refine lv_iload hx hb dX6_copy_132 (lv_at hl 5 rfl) ?_
              refine lv_aload_n hx hb dX6_copy_134 rfl (lv_at hl 0 rfl) ?_
              refine va_get (D := D) (ci := 6) (v := .ref (am 3)) (C := RX6) (T := TX6) (N := 49) hx hb htg inX6 hown hK hP 0 rfl rfl 2 (by decide) (htg _ q_4_191) (fun _ h9 => h9) rfl dX6_copy_135 ?_
              refine lv_iload_n hx hb dX6_copy_138 rfl (lv_at hl 1 rfl) ?_
              obtain ⟨hi29, hm⟩ := gd_s hm
              refine va_iald hx hb hK hP 3 0 rfl rfl hi29 dX6_copy_139 ?_
              refine lv_icmp_gt (tgt := 181) hx hb dX6_copy_140 (by decide) (fun c30 => ?_) (fun c30 => ?_)
              · have hm := it_t c30 hm
                exact B_181 _ _ _ _ _ _ hm hP hD hS (lv_sub hl [0] rfl)
              · have hm := it_f c30 hm
                refine lv_iload hx hb dX6_copy_143 (lv_at hl 5 rfl) ?_
                refine lv_aload_n hx hb dX6_copy_145 rfl (lv_at hl 0 rfl) ?_
                refine va_get (D := D) (ci := 6) (v := .ref (am 3)) (C := RX6) (T := TX6) (N := 49) hx hb htg inX6 hown hK hP 0 rfl rfl 2 (by decide) (htg _ q_4_191) (fun _ h9 => h9) rfl dX6_copy_146 ?_
                refine lv_iload_n hx hb dX6_copy_149 rfl (lv_at hl 2 rfl) ?_
                obtain ⟨hi31, hm⟩ := gd_s hm
                refine va_iald hx hb hK hP 3 0 rfl rfl hi31 dX6_copy_150 ?_
                refine lv_icmp_gt (tgt := 181) hx hb dX6_copy_151 (by decide) (fun c32 => ?_) (fun c32 => ?_)
                · have hm := it_t c32 hm
                  exact B_181 _ _ _ _ _ _ hm hP hD hS (lv_sub hl [0] rfl)
                · have hm := it_f c32 hm
                  refine lv_iload_n hx hb dX6_copy_154 rfl (lv_at hl 3 rfl) ?_
                  refine lv_aload_n hx hb dX6_copy_155 rfl (lv_at hl 0 rfl) ?_
                  refine va_get (D := D) (ci := 6) (v := .ref (am 3)) (C := RX6) (T := TX6) (N := 49) hx hb htg inX6 hown hK hP 0 rfl rfl 2 (by decide) (htg _ q_4_191) (fun _ h9 => h9) rfl dX6_copy_156 ?_
                  refine lv_iload_n hx hb dX6_copy_159 rfl (lv_at hl 1 rfl) ?_
                  obtain ⟨hi33, hm⟩ := gd_s hm
                  refine va_iald hx hb hK hP 3 0 rfl rfl hi33 dX6_copy_160 ?_
                  refine lv_iload hx hb dX6_copy_161 (lv_at hl 5 rfl) ?_
                  refine lv_isub hx hb dX6_copy_163 ?_
                  refine lv_icmp_gt (tgt := 181) hx hb dX6_copy_164 (by decide) (fun c34 => ?_) (fun c34 => ?_)
                  · have hm := it_t c34 hm
                    exact B_181 _ _ _ _ _ _ hm hP hD hS (lv_sub hl [0] rfl)
                  · have hm := it_f c34 hm
                    refine lv_iload hx hb dX6_copy_167 (lv_at hl 4 rfl) ?_
                    refine lv_aload_n hx hb dX6_copy_169 rfl (lv_at hl 0 rfl) ?_
                    refine va_get (D := D) (ci := 6) (v := .ref (am 3)) (C := RX6) (T := TX6) (N := 49) hx hb htg inX6 hown hK hP 0 rfl rfl 2 (by decide) (htg _ q_4_191) (fun _ h9 => h9) rfl dX6_copy_170 ?_
                    refine lv_iload_n hx hb dX6_copy_173 rfl (lv_at hl 2 rfl) ?_
                    obtain ⟨hi35, hm⟩ := gd_s hm
                    refine va_iald hx hb hK hP 3 0 rfl rfl hi35 dX6_copy_174 ?_
                    refine lv_iload hx hb dX6_copy_175 (lv_at hl 5 rfl) ?_
                    refine lv_isub hx hb dX6_copy_177 ?_
                    refine lv_icmp_le (tgt := 188) hx hb dX6_copy_178 (by decide) (fun c36 => ?_) (fun c36 => ?_)
                    · have hm := it_t c36 hm
                      refine lv_iconst (v := (0 : Int32)) hx hb dX6_copy_188 (by decide) ?_
                      refine lv_istore (lv' := [(6, .int (0 : Int32)), (0, .ref (am 0)), (1, .int l1), (2, .int l2), (3, .int l3), (4, .int l4), (5, .int l5)]) hx hb dX6_copy_189 hl (by decide) rfl (fun ls hl => ?_)
                      exact B_191 fu _ _ _ _ hm hP hD hS (lv_sub hl [1, 2, 3, 4, 5, 6, 0] rfl)
                    · have hm := it_f c36 hm
                      exact B_181 _ _ _ _ _ _ hm hP hD hS (lv_sub hl [0] rfl)
      · have hm := it_t c25 hm
        exact B_111 _ _ _ _ _ _ hm hP hD hS (lv_sub hl [0] rfl)
  unfold m_X6_copy at hm
  subst hargs
  have hl := lv_entry ([.ref (am 0), .int l1, .int l2, .int l3, .int l4, .int l5]) (n := 7) (Nat.le_of_ble_eq_true rfl)
  rw [lg_entry_eq]
  generalize (lg_sl ([.ref (am 0), .int l1, .int l2, .int l3, .int l4, .int l5]) ++ List.replicate (7 - (lg_sl ([.ref (am 0), .int l1, .int l2, .int l3, .int l4, .int l5])).length) Slot.unset).toArray = ls at hl ⊢
  have hl : lv_has ls 7 [(0, .ref (am 0)), (1, .int l1), (2, .int l2), (3, .int l3), (4, .int l4), (5, .int l5)] := hl
  refine lv_iload_n hx hb dX6_copy_0 rfl (lv_at hl 1 rfl) ?_
  refine lv_i2l hx hb dX6_copy_1 rfl ?_
  refine lv_lconst (v := (0 : Int64)) hx hb dX6_copy_2 (by decide) ?_
  refine lv_ldc2 (v := (7 : Int64)) hx hb hown (htg _ q_5_102) dX6_copy_3 ?_
  obtain ⟨o37, ho38, hm⟩ := bd_s hm
  refine xr_i (wr := [((am 0), e_X6 am tkv ttv t t_L), ((am 1), eI cA 8 t_shelf), ((am 2), eI cA 8 t_rowSort), ((am 3), eI cA 8 t_rowSize), ((am 4), eOJ cA am 5), (am 5, eJ cA 40 (t_rows_R 0)), (am 6, eJ cA 40 (t_rows_R 1)), (am 7, eJ cA 40 (t_rows_R 2)), (am 8, eJ cA 40 (t_rows_R 3)), (am 9, eJ cA 40 (t_rows_R 4)), (am 10, eJ cA 40 (t_rows_R 5)), (am 11, eJ cA 40 (t_rows_R 6)), (am 12, eJ cA 40 (t_rows_R 7)), ((am 13), eJ cA 40 t_moved), ((am 16), eI cA 8 t_refused)]) (wn := [((am 0), e_X6 am tkv ttv t t_L), ((am 1), eI cA 8 t_shelf), ((am 2), eI cA 8 t_rowSort), ((am 3), eI cA 8 t_rowSize), ((am 4), eOJ cA am 5), (am 5, eJ cA 40 (t_rows_R 0)), (am 6, eJ cA 40 (t_rows_R 1)), (am 7, eJ cA 40 (t_rows_R 2)), (am 8, eJ cA 40 (t_rows_R 3)), (am 9, eJ cA 40 (t_rows_R 4)), (am 10, eJ cA 40 (t_rows_R 5)), (am 11, eJ cA 40 (t_rows_R 6)), (am 12, eJ cA 40 (t_rows_R 7)), ((am 13), eJ cA 40 t_moved), ((am 16), eI cA 8 t_refused)]) (va_runS (As := [.long l1.toInt64, .long (0 : Int64), .long (7 : Int64)]) (rest := []) ⟨hx, hb, hml, hown, htg⟩ (c_X6_in l D cA _ fu l1.toInt64 (0 : Int64) (7 : Int64) o37 ho38) (cwS 3 htg (gS q_5_103 q_5_104 q_1_8 q_5_105) rfl rfl rfl hd_X6_in ⟨Nat.le_of_ble_eq_true rfl, Nat.le_of_ble_eq_true rfl⟩) (xpS hN hK hP hD [] rfl (by decide)) rfl rfl hl.1 rfl (lv_room (Nat.le_of_ble_eq_true rfl)) dX6_copy_6 ⟨Nat.zero_le _, Nat.zero_le _⟩) hP hD hS hA [] [0, 1, 2, 3, 4, 5, 6, 7, 8, 9, 10, 11, 12, 13, 14] [0, 1, 2, 3, 4, 5, 6, 7, 8, 9, 10, 11, 12, 13, 14] rfl rfl (by decide) (by decide) rfl (by decide) (fun H locs hP hD hS => ?_)
  refine lv_if_eq (tgt := 24) hx hb dX6_copy_9 (by decide) (fun c39 => ?_) (fun c39 => ?_)
  · have hm := it_t c39 hm
    exact B_24 _ _ _ _ _ _ hm hP hD hS (lv_sub hl [0] rfl)
  · have hm := it_f c39 hm
    refine lv_iload_n hx hb dX6_copy_12 rfl (lv_at hl 2 rfl) ?_
    refine lv_i2l hx hb dX6_copy_13 rfl ?_
    refine lv_lconst (v := (0 : Int64)) hx hb dX6_copy_14 (by decide) ?_
    refine lv_ldc2 (v := (7 : Int64)) hx hb hown (htg _ q_5_102) dX6_copy_15 ?_
    obtain ⟨o40, ho41, hm⟩ := bd_s hm
    refine xr_i (wr := [((am 0), e_X6 am tkv ttv t t_L), ((am 1), eI cA 8 t_shelf), ((am 2), eI cA 8 t_rowSort), ((am 3), eI cA 8 t_rowSize), ((am 4), eOJ cA am 5), (am 5, eJ cA 40 (t_rows_R 0)), (am 6, eJ cA 40 (t_rows_R 1)), (am 7, eJ cA 40 (t_rows_R 2)), (am 8, eJ cA 40 (t_rows_R 3)), (am 9, eJ cA 40 (t_rows_R 4)), (am 10, eJ cA 40 (t_rows_R 5)), (am 11, eJ cA 40 (t_rows_R 6)), (am 12, eJ cA 40 (t_rows_R 7)), ((am 13), eJ cA 40 t_moved), ((am 16), eI cA 8 t_refused)]) (wn := [((am 0), e_X6 am tkv ttv t t_L), ((am 1), eI cA 8 t_shelf), ((am 2), eI cA 8 t_rowSort), ((am 3), eI cA 8 t_rowSize), ((am 4), eOJ cA am 5), (am 5, eJ cA 40 (t_rows_R 0)), (am 6, eJ cA 40 (t_rows_R 1)), (am 7, eJ cA 40 (t_rows_R 2)), (am 8, eJ cA 40 (t_rows_R 3)), (am 9, eJ cA 40 (t_rows_R 4)), (am 10, eJ cA 40 (t_rows_R 5)), (am 11, eJ cA 40 (t_rows_R 6)), (am 12, eJ cA 40 (t_rows_R 7)), ((am 13), eJ cA 40 t_moved), ((am 16), eI cA 8 t_refused)]) (va_runS (As := [.long l2.toInt64, .long (0 : Int64), .long (7 : Int64)]) (rest := []) ⟨hx, hb, hml, hown, htg⟩ (c_X6_in l D cA _ fu l2.toInt64 (0 : Int64) (7 : Int64) o40 ho41) (cwS 3 htg (gS q_5_103 q_5_104 q_1_8 q_5_105) rfl rfl rfl hd_X6_in ⟨Nat.le_of_ble_eq_true rfl, Nat.le_of_ble_eq_true rfl⟩) (xpS hN hK hP hD [] rfl (by decide)) rfl rfl hl.1 rfl (lv_room (Nat.le_of_ble_eq_true rfl)) dX6_copy_18 ⟨Nat.zero_le _, Nat.zero_le _⟩) hP hD hS hA [] [0, 1, 2, 3, 4, 5, 6, 7, 8, 9, 10, 11, 12, 13, 14] [0, 1, 2, 3, 4, 5, 6, 7, 8, 9, 10, 11, 12, 13, 14] rfl rfl (by decide) (by decide) rfl (by decide) (fun H locs hP hD hS => ?_)
    refine lv_if_ne (tgt := 31) hx hb dX6_copy_21 (by decide) (fun c42 => ?_) (fun c42 => ?_)
    · have hm := it_f c42 hm
      refine lv_aload_n hx hb dX6_copy_31 rfl (lv_at hl 0 rfl) ?_
      refine va_get (D := D) (ci := 6) (v := .ref (am 1)) (C := RX6) (T := TX6) (N := 49) hx hb htg inX6 hown hK hP 0 rfl rfl 0 (by decide) (htg _ q_4_189) (fun _ h9 => h9) rfl dX6_copy_32 ?_
      refine lv_iload_n hx hb dX6_copy_35 rfl (lv_at hl 1 rfl) ?_
      obtain ⟨hi43, hm⟩ := gd_s hm
      refine va_iald hx hb hK hP 1 0 rfl rfl hi43 dX6_copy_36 ?_
      refine lv_iconst (v := (2 : Int32)) hx hb dX6_copy_37 (by decide) ?_
      refine lv_icmp_eq (tgt := 86) hx hb dX6_copy_38 (by decide) (fun c44 => ?_) (fun c44 => ?_)
      · have hm := it_t c44 hm
        exact B_86 _ _ _ _ _ _ hm hP hD hS (lv_sub hl [0] rfl)
      · have hm := it_f c44 hm
        refine lv_aload_n hx hb dX6_copy_41 rfl (lv_at hl 0 rfl) ?_
        refine va_get (D := D) (ci := 6) (v := .ref (am 1)) (C := RX6) (T := TX6) (N := 49) hx hb htg inX6 hown hK hP 0 rfl rfl 0 (by decide) (htg _ q_4_189) (fun _ h9 => h9) rfl dX6_copy_42 ?_
        refine lv_iload_n hx hb dX6_copy_45 rfl (lv_at hl 2 rfl) ?_
        obtain ⟨hi45, hm⟩ := gd_s hm
        refine va_iald hx hb hK hP 1 0 rfl rfl hi45 dX6_copy_46 ?_
        refine lv_iconst (v := (2 : Int32)) hx hb dX6_copy_47 (by decide) ?_
        refine lv_icmp_eq (tgt := 86) hx hb dX6_copy_48 (by decide) (fun c46 => ?_) (fun c46 => ?_)
        · have hm := it_t c46 hm
          exact B_86 _ _ _ _ _ _ hm hP hD hS (lv_sub hl [0] rfl)
        · have hm := it_f c46 hm
          refine lv_aload_n hx hb dX6_copy_51 rfl (lv_at hl 0 rfl) ?_
          refine va_get (D := D) (ci := 6) (v := .ref (am 1)) (C := RX6) (T := TX6) (N := 49) hx hb htg inX6 hown hK hP 0 rfl rfl 0 (by decide) (htg _ q_4_189) (fun _ h9 => h9) rfl dX6_copy_52 ?_
          refine lv_iload_n hx hb dX6_copy_55 rfl (lv_at hl 1 rfl) ?_
          obtain ⟨hi47, hm⟩ := gd_s hm
          refine va_iald hx hb hK hP 1 0 rfl rfl hi47 dX6_copy_56 ?_
          refine lv_iconst (v := (1 : Int32)) hx hb dX6_copy_57 (by decide) ?_
          refine lv_icmp_ne (tgt := 93) hx hb dX6_copy_58 (by decide) (fun c48 => ?_) (fun c48 => ?_)
          · have hm := it_f c48 hm
            exact B_93 _ _ _ _ _ _ _ _ _ _ _ hm hP hD hS (lv_sub hl [0, 1, 2, 3, 4, 5] rfl)
          · have hm := it_t c48 hm
            refine lv_aload_n hx hb dX6_copy_61 rfl (lv_at hl 0 rfl) ?_
            refine va_get (D := D) (ci := 6) (v := .ref (am 1)) (C := RX6) (T := TX6) (N := 49) hx hb htg inX6 hown hK hP 0 rfl rfl 0 (by decide) (htg _ q_4_189) (fun _ h9 => h9) rfl dX6_copy_62 ?_
            refine lv_iload_n hx hb dX6_copy_65 rfl (lv_at hl 2 rfl) ?_
            obtain ⟨hi49, hm⟩ := gd_s hm
            refine va_iald hx hb hK hP 1 0 rfl rfl hi49 dX6_copy_66 ?_
            refine lv_iconst (v := (1 : Int32)) hx hb dX6_copy_67 (by decide) ?_
            refine lv_icmp_ne (tgt := 93) hx hb dX6_copy_68 (by decide) (fun c50 => ?_) (fun c50 => ?_)
            · have hm := it_f c50 hm
              exact B_93 _ _ _ _ _ _ _ _ _ _ _ hm hP hD hS (lv_sub hl [0, 1, 2, 3, 4, 5] rfl)
            · have hm := it_t c50 hm
              refine lv_aload_n hx hb dX6_copy_71 rfl (lv_at hl 0 rfl) ?_
              refine va_get (D := D) (ci := 6) (v := .ref (am 2)) (C := RX6) (T := TX6) (N := 49) hx hb htg inX6 hown hK hP 0 rfl rfl 1 (by decide) (htg _ q_4_190) (fun _ h9 => h9) rfl dX6_copy_72 ?_
              refine lv_iload_n hx hb dX6_copy_75 rfl (lv_at hl 1 rfl) ?_
              obtain ⟨hi51, hm⟩ := gd_s hm
              refine va_iald hx hb hK hP 2 0 rfl rfl hi51 dX6_copy_76 ?_
              refine lv_aload_n hx hb dX6_copy_77 rfl (lv_at hl 0 rfl) ?_
              refine va_get (D := D) (ci := 6) (v := .ref (am 2)) (C := RX6) (T := TX6) (N := 49) hx hb htg inX6 hown hK hP 0 rfl rfl 1 (by decide) (htg _ q_4_190) (fun _ h9 => h9) rfl dX6_copy_78 ?_
              refine lv_iload_n hx hb dX6_copy_81 rfl (lv_at hl 2 rfl) ?_
              obtain ⟨hi52, hm⟩ := gd_s hm
              refine va_iald hx hb hK hP 2 0 rfl rfl hi52 dX6_copy_82 ?_
              refine lv_icmp_eq (tgt := 93) hx hb dX6_copy_83 (by decide) (fun c53 => ?_) (fun c53 => ?_)
              · have hm := it_t c53 hm
                exact B_93 _ _ _ _ _ _ _ _ _ _ _ hm hP hD hS (lv_sub hl [0, 1, 2, 3, 4, 5] rfl)
              · have hm := it_f c53 hm
                exact B_86 _ _ _ _ _ _ hm hP hD hS (lv_sub hl [0] rfl)
    · have hm := it_t c42 hm
      exact B_24 _ _ _ _ _ _ hm hP hD hS (lv_sub hl [0] rfl)
def b_X6_element_52 (fu : Nat) (t : Nat → Int32) (t_L : Nat → Int64) (t_shelf : Nat → Int32) (t_rowSize : Nat → Int32) (t_rows_R : Nat → Nat → Int64) (s0 : Int64) : Option (Int64 × Unit) :=
  some (s0, ())
def b_X6_element_51 (fu : Nat) (t : Nat → Int32) (t_L : Nat → Int64) (t_shelf : Nat → Int32) (t_rowSize : Nat → Int32) (t_rows_R : Nat → Nat → Int64)  : Option (Int64 × Unit) :=
  b_X6_element_52 fu t t_L t_shelf t_rowSize t_rows_R (0 : Int64)
def m_X6_element (fu : Nat) (t : Nat → Int32) (t_L : Nat → Int64) (t_shelf : Nat → Int32) (t_rowSize : Nat → Int32) (t_rows_R : Nat → Nat → Int64) (l1 : Int32) (l2 : Int32) : Option (Int64 × Unit) :=
  (m_X6_in fu l1.toInt64 (0 : Int64) (7 : Int64)).bind fun o1 =>
  (if o1.1 = 0 then
    b_X6_element_51 fu t t_L t_shelf t_rowSize t_rows_R 
  else
    gd (inb l1 8) (
    (if (t_shelf l1.toNatClampNeg) = (1 : Int32) then
      gd (inb l1 8) (
      (m_X6_in fu l2.toInt64 (0 : Int64) (((t_rowSize l1.toNatClampNeg) - (1 : Int32)).toInt64)).bind fun o7 =>
      (if o7.1 = 0 then
        b_X6_element_51 fu t t_L t_shelf t_rowSize t_rows_R 
      else
        gd (inb l1 8) (
        gd (inb l1 8) (gd (inb l2 40) (
        b_X6_element_52 fu t t_L t_shelf t_rowSize t_rows_R (t_rows_R l1.toNatClampNeg l2.toNatClampNeg))))))
    else
      b_X6_element_51 fu t t_L t_shelf t_rowSize t_rows_R )))
abbrev rm_X6_element : Room := ({ frames := 1, cells := 0, slots := 0, locals := 25 } : Room)
abbrev w0_X6_element (cA : Nat → ClassId) (am : Nat → Nat) (tkv : Value) (ttv : Value) (t : Nat → Int32) (t_L : Nat → Int64) (t_shelf : Nat → Int32) (t_rowSize : Nat → Int32) (t_rows_R : Nat → Nat → Int64) : va_W := [((am 0), e_X6 am tkv ttv t t_L), ((am 1), eI cA 8 t_shelf), ((am 3), eI cA 8 t_rowSize), ((am 4), eOJ cA am 5), (am 5, eJ cA 40 (t_rows_R 0)), (am 6, eJ cA 40 (t_rows_R 1)), (am 7, eJ cA 40 (t_rows_R 2)), (am 8, eJ cA 40 (t_rows_R 3)), (am 9, eJ cA 40 (t_rows_R 4)), (am 10, eJ cA 40 (t_rows_R 5)), (am 11, eJ cA 40 (t_rows_R 6)), (am 12, eJ cA 40 (t_rows_R 7))]
abbrev w1_X6_element (cA : Nat → ClassId) (am : Nat → Nat) (tkv : Value) (ttv : Value) (t : Nat → Int32) (t_L : Nat → Int64) (t_shelf : Nat → Int32) (t_rowSize : Nat → Int32) (t_rows_R : Nat → Nat → Int64) (u : Unit) : va_W := [((am 0), e_X6 am tkv ttv t t_L), ((am 1), eI cA 8 t_shelf), ((am 3), eI cA 8 t_rowSize), ((am 4), eOJ cA am 5), (am 5, eJ cA 40 (t_rows_R 0)), (am 6, eJ cA 40 (t_rows_R 1)), (am 7, eJ cA 40 (t_rows_R 2)), (am 8, eJ cA 40 (t_rows_R 3)), (am 9, eJ cA 40 (t_rows_R 4)), (am 10, eJ cA 40 (t_rows_R 5)), (am 11, eJ cA 40 (t_rows_R 6)), (am 12, eJ cA 40 (t_rows_R 7))]
theorem hd_X6_element : yX6_element.cls = RX6 ∧ yX6_element.cls ≠ "java/lang/invoke/MethodHandle" ∧ yX6_element.cls ≠ "java/lang/invoke/VarHandle" ∧ (parseMethodDescriptor yX6_element.desc).map (fun d => d.parameters.length) = some 2 := by decide +kernel
set_option maxHeartbeats 40000000 in
set_option maxRecDepth 100000 in
theorem c_X6_element (l : Launch) (D : va_G) (cA : Nat → ClassId) (sz : Nat) (fu : Nat) (am : Nat → Nat) (tkv : Value) (ttv : Value) (t : Nat → Int32) (t_L : Nat → Int64) (t_shelf : Nat → Int32) (t_rowSize : Nat → Int32) (t_rows_R : Nat → Nat → Int64) (l1 : Int32) (l2 : Int32) (out : Int64 × Unit) (hm : m_X6_element fu t t_L t_shelf t_rowSize t_rows_R l1 l2 = some out) : ML l yX6_element (wU yX6_element cX6_element 3 ((Option.some Jvm.ClassFile.FieldType.long))) rm_X6_element D cA sz [.ref (am 0), .int l1, .int l2] (w0_X6_element cA am tkv ttv t t_L t_shelf t_rowSize t_rows_R) out (w1_X6_element cA am tkv ttv t t_L t_shelf t_rowSize t_rows_R) := by
  refine Met.ofW (cc := cX6_element) (maxL := 3) (ret := (Option.some Jvm.ClassFile.FieldType.long)) (by decide) rfl ?_
  intro p e s m args below meth c s₁ B hml hv
  obtain ⟨hargs, hsz, hP, hK, hD0, hN⟩ := hv
  have hx := B.exec
  have hb := B.bytes
  have hr := B.returns
  have htg : ∀ w ∈ gw, w.before args s = true := fun w h => atoms_spec (ws := wU yX6_element cX6_element 3 ((Option.some Jvm.ClassFile.FieldType.long))) B.pre w (List.mem_cons_of_mem _ h)
  have hown : s.vm.findClass RX6 = some m.cls := findClass_of_methodNamed B.named
  have hlocks := B.notSynchronized
  subst hsz
  have hD := hD0.self (sz := s.heap.size)
  have hA : ∀ q : Nat, s.heap.size ≤ q → va_A (w0_X6_element cA am tkv ttv t t_L t_shelf t_rowSize t_rows_R) s.heap.size q := fun q h => Or.inr h
  have hS : va_S (va_A (w0_X6_element cA am tkv ttv t t_L t_shelf t_rowSize t_rows_R) s.heap.size) s.heap s.heap [] := va_S.rf
  generalize va_A (w0_X6_element cA am tkv ttv t t_L t_shelf t_rowSize t_rows_R) s.heap.size = A at hA hD hS ⊢
  obtain ⟨Q, hQ⟩ : ∃ Q : State → Prop, Q = MQ below (va_Ql (fun (r : Int64) (u : Unit) => (r, u) = out) (pst0 D cA A (w1_X6_element cA am tkv ttv t t_L t_shelf t_rowSize t_rows_R)) A) args s 0 0 A := ⟨_, rfl⟩
  refine (?_ : W p l e rm_X6_element s m args below meth c s.heap [] 0 0 (MQ below (va_Ql (fun (r : Int64) (u : Unit) => (r, u) = out) (pst0 D cA A (w1_X6_element cA am tkv ttv t t_L t_shelf t_rowSize t_rows_R)) A) args s 0 0 A) (entryFrame m args 3))
  rw [← hQ]
  have hP : va_P D CL [((am 0), e_X6 am tkv ttv t t_L), ((am 1), eI cA 8 t_shelf), ((am 3), eI cA 8 t_rowSize), ((am 4), eOJ cA am 5), (am 5, eJ cA 40 (t_rows_R 0)), (am 6, eJ cA 40 (t_rows_R 1)), (am 7, eJ cA 40 (t_rows_R 2)), (am 8, eJ cA 40 (t_rows_R 3)), (am 9, eJ cA 40 (t_rows_R 4)), (am 10, eJ cA 40 (t_rows_R 5)), (am 11, eJ cA 40 (t_rows_R 6)), (am 12, eJ cA 40 (t_rows_R 7))] s.heap := hP
  have hD : va_D A [((am 0), e_X6 am tkv ttv t t_L), ((am 1), eI cA 8 t_shelf), ((am 3), eI cA 8 t_rowSize), ((am 4), eOJ cA am 5), (am 5, eJ cA 40 (t_rows_R 0)), (am 6, eJ cA 40 (t_rows_R 1)), (am 7, eJ cA 40 (t_rows_R 2)), (am 8, eJ cA 40 (t_rows_R 3)), (am 9, eJ cA 40 (t_rows_R 4)), (am 10, eJ cA 40 (t_rows_R 5)), (am 11, eJ cA 40 (t_rows_R 6)), (am 12, eJ cA 40 (t_rows_R 7))] := hD
  have B_52 : ∀ (s0 : Int64) (H : Heap) (locs : List Loc) (ls : Array Slot), b_X6_element_52 fu t t_L t_shelf t_rowSize t_rows_R s0 = some out → va_P D CL [((am 0), e_X6 am tkv ttv t t_L), ((am 1), eI cA 8 t_shelf), ((am 3), eI cA 8 t_rowSize), ((am 4), eOJ cA am 5), (am 5, eJ cA 40 (t_rows_R 0)), (am 6, eJ cA 40 (t_rows_R 1)), (am 7, eJ cA 40 (t_rows_R 2)), (am 8, eJ cA 40 (t_rows_R 3)), (am 9, eJ cA 40 (t_rows_R 4)), (am 10, eJ cA 40 (t_rows_R 5)), (am 11, eJ cA 40 (t_rows_R 6)), (am 12, eJ cA 40 (t_rows_R 7))] H → va_D A [((am 0), e_X6 am tkv ttv t t_L), ((am 1), eI cA 8 t_shelf), ((am 3), eI cA 8 t_rowSize), ((am 4), eOJ cA am 5), (am 5, eJ cA 40 (t_rows_R 0)), (am 6, eJ cA 40 (t_rows_R 1)), (am 7, eJ cA 40 (t_rows_R 2)), (am 8, eJ cA 40 (t_rows_R 3)), (am 9, eJ cA 40 (t_rows_R 4)), (am 10, eJ cA 40 (t_rows_R 5)), (am 11, eJ cA 40 (t_rows_R 6)), (am 12, eJ cA 40 (t_rows_R 7))] → va_S A s.heap H locs → lv_has ls 3 [(0, .ref (am 0))] → W p l e rm_X6_element s m args below meth c H locs 0 0 Q (F0 m 52 ls [.long s0]) := by
    intro  s0 H locs ls hm hP hD hS hl
    unfold b_X6_element_52 at hm
    rw [hQ]
    exact W.lret (v := s0) hx hb hr (fun t9 ht hW => ⟨⟨s0, (), rfl, (Option.some.inj hm), by rw [ht]; exact hP, va_K.moved hW.alike hK, hD⟩, hS.F ht⟩) hS.2.2 dX6_element_52
  have B_51 : ∀  (H : Heap) (locs : List Loc) (ls : Array Slot), b_X6_element_51 fu t t_L t_shelf t_rowSize t_rows_R  = some out → va_P D CL [((am 0), e_X6 am tkv ttv t t_L), ((am 1), eI cA 8 t_shelf), ((am 3), eI cA 8 t_rowSize), ((am 4), eOJ cA am 5), (am 5, eJ cA 40 (t_rows_R 0)), (am 6, eJ cA 40 (t_rows_R 1)), (am 7, eJ cA 40 (t_rows_R 2)), (am 8, eJ cA 40 (t_rows_R 3)), (am 9, eJ cA 40 (t_rows_R 4)), (am 10, eJ cA 40 (t_rows_R 5)), (am 11, eJ cA 40 (t_rows_R 6)), (am 12, eJ cA 40 (t_rows_R 7))] H → va_D A [((am 0), e_X6 am tkv ttv t t_L), ((am 1), eI cA 8 t_shelf), ((am 3), eI cA 8 t_rowSize), ((am 4), eOJ cA am 5), (am 5, eJ cA 40 (t_rows_R 0)), (am 6, eJ cA 40 (t_rows_R 1)), (am 7, eJ cA 40 (t_rows_R 2)), (am 8, eJ cA 40 (t_rows_R 3)), (am 9, eJ cA 40 (t_rows_R 4)), (am 10, eJ cA 40 (t_rows_R 5)), (am 11, eJ cA 40 (t_rows_R 6)), (am 12, eJ cA 40 (t_rows_R 7))] → va_S A s.heap H locs → lv_has ls 3 [(0, .ref (am 0))] → W p l e rm_X6_element s m args below meth c H locs 0 0 Q (F0 m 51 ls []) := by
    intro   H locs ls hm hP hD hS hl
    unfold b_X6_element_51 at hm
    refine lv_lconst (v := (0 : Int64)) hx hb dX6_element_51 (by decide) ?_
    exact B_52 _ _ _ _ hm hP hD hS (lv_sub hl [0] rfl)
  unfold m_X6_element at hm
  subst hargs
  have hl := lv_entry ([.ref (am 0), .int l1, .int l2]) (n := 3) (Nat.le_of_ble_eq_true rfl)
  rw [lg_entry_eq]
  generalize (lg_sl ([.ref (am 0), .int l1, .int l2]) ++ List.replicate (3 - (lg_sl ([.ref (am 0), .int l1, .int l2])).length) Slot.unset).toArray = ls at hl ⊢
  have hl : lv_has ls 3 [(0, .ref (am 0)), (1, .int l1), (2, .int l2)] := hl
  refine lv_iload_n hx hb dX6_element_0 rfl (lv_at hl 1 rfl) ?_
  refine lv_i2l hx hb dX6_element_1 rfl ?_
  refine lv_lconst (v := (0 : Int64)) hx hb dX6_element_2 (by decide) ?_
  refine lv_ldc2 (v := (7 : Int64)) hx hb hown (htg _ q_5_102) dX6_element_3 ?_
  obtain ⟨o1, ho2, hm⟩ := bd_s hm
  refine xr_i (wr := [((am 0), e_X6 am tkv ttv t t_L), ((am 1), eI cA 8 t_shelf), ((am 3), eI cA 8 t_rowSize), ((am 4), eOJ cA am 5), (am 5, eJ cA 40 (t_rows_R 0)), (am 6, eJ cA 40 (t_rows_R 1)), (am 7, eJ cA 40 (t_rows_R 2)), (am 8, eJ cA 40 (t_rows_R 3)), (am 9, eJ cA 40 (t_rows_R 4)), (am 10, eJ cA 40 (t_rows_R 5)), (am 11, eJ cA 40 (t_rows_R 6)), (am 12, eJ cA 40 (t_rows_R 7))]) (wn := [((am 0), e_X6 am tkv ttv t t_L), ((am 1), eI cA 8 t_shelf), ((am 3), eI cA 8 t_rowSize), ((am 4), eOJ cA am 5), (am 5, eJ cA 40 (t_rows_R 0)), (am 6, eJ cA 40 (t_rows_R 1)), (am 7, eJ cA 40 (t_rows_R 2)), (am 8, eJ cA 40 (t_rows_R 3)), (am 9, eJ cA 40 (t_rows_R 4)), (am 10, eJ cA 40 (t_rows_R 5)), (am 11, eJ cA 40 (t_rows_R 6)), (am 12, eJ cA 40 (t_rows_R 7))]) (va_runS (As := [.long l1.toInt64, .long (0 : Int64), .long (7 : Int64)]) (rest := []) ⟨hx, hb, hml, hown, htg⟩ (c_X6_in l D cA _ fu l1.toInt64 (0 : Int64) (7 : Int64) o1 ho2) (cwS 3 htg (gS q_5_103 q_5_104 q_1_8 q_5_105) rfl rfl rfl hd_X6_in ⟨Nat.le_of_ble_eq_true rfl, Nat.le_of_ble_eq_true rfl⟩) (xpS hN hK hP hD [] rfl (by decide)) rfl rfl hl.1 rfl (lv_room (Nat.le_of_ble_eq_true rfl)) dX6_element_6 ⟨Nat.zero_le _, Nat.zero_le _⟩) hP hD hS hA [] [0, 1, 2, 3, 4, 5, 6, 7, 8, 9, 10, 11] [0, 1, 2, 3, 4, 5, 6, 7, 8, 9, 10, 11] rfl rfl (by decide) (by decide) rfl (by decide) (fun H locs hP hD hS => ?_)
  refine lv_if_eq (tgt := 51) hx hb dX6_element_9 (by decide) (fun c3 => ?_) (fun c3 => ?_)
  · have hm := it_t c3 hm
    exact B_51  _ _ _ hm hP hD hS (lv_sub hl [0] rfl)
  · have hm := it_f c3 hm
    refine lv_aload_n hx hb dX6_element_12 rfl (lv_at hl 0 rfl) ?_
    refine va_get (D := D) (ci := 6) (v := .ref (am 1)) (C := RX6) (T := TX6) (N := 49) hx hb htg inX6 hown hK hP 0 rfl rfl 0 (by decide) (htg _ q_4_189) (fun _ h9 => h9) rfl dX6_element_13 ?_
    refine lv_iload_n hx hb dX6_element_16 rfl (lv_at hl 1 rfl) ?_
    obtain ⟨hi4, hm⟩ := gd_s hm
    refine va_iald hx hb hK hP 1 0 rfl rfl hi4 dX6_element_17 ?_
    refine lv_iconst (v := (1 : Int32)) hx hb dX6_element_18 (by decide) ?_
    refine lv_icmp_ne (tgt := 51) hx hb dX6_element_19 (by decide) (fun c5 => ?_) (fun c5 => ?_)
    · have hm := it_f c5 hm
      exact B_51  _ _ _ hm hP hD hS (lv_sub hl [0] rfl)
    · have hm := it_t c5 hm
      refine lv_iload_n hx hb dX6_element_22 rfl (lv_at hl 2 rfl) ?_
      refine lv_i2l hx hb dX6_element_23 rfl ?_
      refine lv_lconst (v := (0 : Int64)) hx hb dX6_element_24 (by decide) ?_
      refine lv_aload_n hx hb dX6_element_25 rfl (lv_at hl 0 rfl) ?_
      refine va_get (D := D) (ci := 6) (v := .ref (am 3)) (C := RX6) (T := TX6) (N := 49) hx hb htg inX6 hown hK hP 0 rfl rfl 2 (by decide) (htg _ q_4_191) (fun _ h9 => h9) rfl dX6_element_26 ?_
      refine lv_iload_n hx hb dX6_element_29 rfl (lv_at hl 1 rfl) ?_
      obtain ⟨hi6, hm⟩ := gd_s hm
      refine va_iald hx hb hK hP 2 0 rfl rfl hi6 dX6_element_30 ?_
      refine lv_iconst (v := (1 : Int32)) hx hb dX6_element_31 (by decide) ?_
      refine lv_isub hx hb dX6_element_32 ?_
      refine lv_i2l hx hb dX6_element_33 rfl ?_
      obtain ⟨o7, ho8, hm⟩ := bd_s hm
      refine xr_i (wr := [((am 0), e_X6 am tkv ttv t t_L), ((am 1), eI cA 8 t_shelf), ((am 3), eI cA 8 t_rowSize), ((am 4), eOJ cA am 5), (am 5, eJ cA 40 (t_rows_R 0)), (am 6, eJ cA 40 (t_rows_R 1)), (am 7, eJ cA 40 (t_rows_R 2)), (am 8, eJ cA 40 (t_rows_R 3)), (am 9, eJ cA 40 (t_rows_R 4)), (am 10, eJ cA 40 (t_rows_R 5)), (am 11, eJ cA 40 (t_rows_R 6)), (am 12, eJ cA 40 (t_rows_R 7))]) (wn := [((am 0), e_X6 am tkv ttv t t_L), ((am 1), eI cA 8 t_shelf), ((am 3), eI cA 8 t_rowSize), ((am 4), eOJ cA am 5), (am 5, eJ cA 40 (t_rows_R 0)), (am 6, eJ cA 40 (t_rows_R 1)), (am 7, eJ cA 40 (t_rows_R 2)), (am 8, eJ cA 40 (t_rows_R 3)), (am 9, eJ cA 40 (t_rows_R 4)), (am 10, eJ cA 40 (t_rows_R 5)), (am 11, eJ cA 40 (t_rows_R 6)), (am 12, eJ cA 40 (t_rows_R 7))]) (va_runS (As := [.long l2.toInt64, .long (0 : Int64), .long (((t_rowSize l1.toNatClampNeg) - (1 : Int32)).toInt64)]) (rest := []) ⟨hx, hb, hml, hown, htg⟩ (c_X6_in l D cA _ fu l2.toInt64 (0 : Int64) (((t_rowSize l1.toNatClampNeg) - (1 : Int32)).toInt64) o7 ho8) (cwS 3 htg (gS q_5_103 q_5_104 q_1_8 q_5_105) rfl rfl rfl hd_X6_in ⟨Nat.le_of_ble_eq_true rfl, Nat.le_of_ble_eq_true rfl⟩) (xpS hN hK hP hD [] rfl (by decide)) rfl rfl hl.1 rfl (lv_room (Nat.le_of_ble_eq_true rfl)) dX6_element_34 ⟨Nat.zero_le _, Nat.zero_le _⟩) hP hD hS hA [] [0, 1, 2, 3, 4, 5, 6, 7, 8, 9, 10, 11] [0, 1, 2, 3, 4, 5, 6, 7, 8, 9, 10, 11] rfl rfl (by decide) (by decide) rfl (by decide) (fun H locs hP hD hS => ?_)
      refine lv_if_eq (tgt := 51) hx hb dX6_element_37 (by decide) (fun c9 => ?_) (fun c9 => ?_)
      · have hm := it_t c9 hm
        exact B_51  _ _ _ hm hP hD hS (lv_sub hl [0] rfl)
      · have hm := it_f c9 hm
        refine lv_aload_n hx hb dX6_element_40 rfl (lv_at hl 0 rfl) ?_
        refine va_get (D := D) (ci := 6) (v := .ref (am 4)) (C := RX6) (T := TX6) (N := 49) hx hb htg inX6 hown hK hP 0 rfl rfl 3 (by decide) (htg _ q_4_192) (fun _ h9 => h9) rfl dX6_element_41 ?_
        refine lv_iload_n hx hb dX6_element_44 rfl (lv_at hl 1 rfl) ?_
        obtain ⟨hi10, hm⟩ := gd_s hm
        refine va_ald2 hx hb hK hP 3 3 rfl rfl hi10 dX6_element_45 ?_
        rw [show (va_rf ((fun i => if i < 8 then some (am (5 + i)) else none) l1.toNatClampNeg)) = Value.ref (am (5 + l1.toNatClampNeg)) from rf_lt (inb_lt hi10)]
        refine lv_iload_n hx hb dX6_element_46 rfl (lv_at hl 2 rfl) ?_
        obtain ⟨hj12, hm⟩ := gd_s hm
        obtain ⟨hi11, hm⟩ := gd_s hm
        have hq13 : ([((am 0), e_X6 am tkv ttv t t_L), ((am 1), eI cA 8 t_shelf), ((am 3), eI cA 8 t_rowSize), ((am 4), eOJ cA am 5), (am 5, eJ cA 40 (t_rows_R 0)), (am 6, eJ cA 40 (t_rows_R 1)), (am 7, eJ cA 40 (t_rows_R 2)), (am 8, eJ cA 40 (t_rows_R 3)), (am 9, eJ cA 40 (t_rows_R 4)), (am 10, eJ cA 40 (t_rows_R 5)), (am 11, eJ cA 40 (t_rows_R 6)), (am 12, eJ cA 40 (t_rows_R 7))] : va_W)[4 + l1.toNatClampNeg]? = some (am (5 + l1.toNatClampNeg), eJ cA 40 (t_rows_R l1.toNatClampNeg)) := by
          have hj8 := inb_lt hj12
          generalize l1.toNatClampNeg = j at hj8 ⊢
          rcases (show j = 0 ∨ j = 1 ∨ j = 2 ∨ j = 3 ∨ j = 4 ∨ j = 5 ∨ j = 6 ∨ j = 7 by omega) with rfl | rfl | rfl | rfl | rfl | rfl | rfl | rfl <;> rfl
        refine va_lald hx hb hK hP (4 + l1.toNatClampNeg) 1 hq13 rfl hi11 dX6_element_47 ?_
        refine lv_goto (tgt := 52) hx hb dX6_element_48 (by decide) ?_
        exact B_52 _ _ _ _ hm hP hD hS (lv_sub hl [0] rfl)
