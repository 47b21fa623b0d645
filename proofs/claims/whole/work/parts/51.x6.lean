def b_X6_status_133 (fu : Nat) (t : Nat → Int32) (t_L : Nat → Int64) (t_shelf : Nat → Int32) (t_refused : Nat → Int32) (k_112 : (Int32 × Int32) → Option (Int32 × Unit)) (l3 : Int32) (s0 : Int32) (s1 : Int32) : Option (Int32 × Unit) :=
  k_112 ((s0 + s1), (l3 + (1 : Int32)))
def b_X6_status_112 (fu : Nat) (t : Nat → Int32) (t_L : Nat → Int64) (t_shelf : Nat → Int32) (t_refused : Nat → Int32) (k_112 : (Int32 × Int32) → Option (Int32 × Unit)) (x : Int32 × Int32) : Option (Int32 × Unit) :=
  (if (8 : Int32) ≤ x.2 then
        some (x.1, ())
      else
        gd (inb x.2 8) (
        (if (t_shelf x.2.toNatClampNeg) = 0 then
          b_X6_status_133 fu t t_L t_shelf t_refused k_112 x.2 x.1 (0 : Int32)
        else
          b_X6_status_133 fu t t_L t_shelf t_refused k_112 x.2 x.1 (1 : Int32))))
def b_X6_status_170 (fu : Nat) (t : Nat → Int32) (t_L : Nat → Int64) (t_shelf : Nat → Int32) (t_refused : Nat → Int32) (s0 : Int32) : Option (Int32 × Unit) :=
  some (s0, ())
def m_X6_status (fu : Nat) (t : Nat → Int32) (t_L : Nat → Int64) (t_shelf : Nat → Int32) (t_refused : Nat → Int32) (l1 : Int32) : Option (Int32 × Unit) :=
  (if l1 = (0 : Int32) then
    some (t 16, ())
  else (if l1 = (1 : Int32) then
    some (t 9, ())
  else (if l1 = (2 : Int32) then
    some (t 10, ())
  else (if l1 = (3 : Int32) then
    some (t 11, ())
  else (if l1 = (4 : Int32) then
    some (t 12, ())
  else (if l1 = (5 : Int32) then
    some (t 13, ())
  else (if l1 = (6 : Int32) then
    some (t 14, ())
  else (if l1 = (7 : Int32) then
    some (t 15, ())
  else (if l1 = (8 : Int32) then
    some (t 7, ())
  else (if l1 = (9 : Int32) then
    some (t 20, ())
  else (if l1 = (10 : Int32) then
    lfix (b_X6_status_112 fu t t_L t_shelf t_refused) fu ((0 : Int32), (0 : Int32))
  else (m_X6_in fu l1.toInt64 (12 : Int64) (16 : Int64)).bind fun o15 =>
  (if o15.1 = 0 then
    b_X6_status_170 fu t t_L t_shelf t_refused (-1 : Int32)
  else
    gd (inb (l1 - (10 : Int32)) 8) (
    b_X6_status_170 fu t t_L t_shelf t_refused (t_refused (l1 - (10 : Int32)).toNatClampNeg))))))))))))))
abbrev rm_X6_status : Room := ({ frames := 1, cells := 0, slots := 0, locals := 25 } : Room)
abbrev w0_X6_status (cA : Nat → ClassId) (am : Nat → Nat) (tkv : Value) (ttv : Value) (t : Nat → Int32) (t_L : Nat → Int64) (t_shelf : Nat → Int32) (t_refused : Nat → Int32) : va_W := [((am 0), e_X6 am tkv ttv t t_L), ((am 1), eI cA 8 t_shelf), ((am 16), eI cA 8 t_refused)]
abbrev w1_X6_status (cA : Nat → ClassId) (am : Nat → Nat) (tkv : Value) (ttv : Value) (t : Nat → Int32) (t_L : Nat → Int64) (t_shelf : Nat → Int32) (t_refused : Nat → Int32) (u : Unit) : va_W := [((am 0), e_X6 am tkv ttv t t_L), ((am 1), eI cA 8 t_shelf), ((am 16), eI cA 8 t_refused)]
theorem hd_X6_status : yX6_status.cls = RX6 ∧ yX6_status.cls ≠ "java/lang/invoke/MethodHandle" ∧ yX6_status.cls ≠ "java/lang/invoke/VarHandle" ∧ (parseMethodDescriptor yX6_status.desc).map (fun d => d.parameters.length) = some 1 := by decide +kernel
set_option maxHeartbeats 40000000 in
set_option maxRecDepth 100000 in
theorem c_X6_status (l : Launch) (D : va_G) (cA : Nat → ClassId) (sz : Nat) (fu : Nat) (am : Nat → Nat) (tkv : Value) (ttv : Value) (t : Nat → Int32) (t_L : Nat → Int64) (t_shelf : Nat → Int32) (t_refused : Nat → Int32) (l1 : Int32) (out : Int32 × Unit) (hm : m_X6_status fu t t_L t_shelf t_refused l1 = some out) : MI l yX6_status (wU yX6_status cX6_status 4 ((Option.some Jvm.ClassFile.FieldType.int))) rm_X6_status D cA sz [.ref (am 0), .int l1] (w0_X6_status cA am tkv ttv t t_L t_shelf t_refused) out (w1_X6_status cA am tkv ttv t t_L t_shelf t_refused) := by
  refine Met.ofW (cc := cX6_status) (maxL := 4) (ret := (Option.some Jvm.ClassFile.FieldType.int)) (by decide) rfl ?_
  intro p e s m args below meth c s₁ B hml hv
  obtain ⟨hargs, hsz, hP, hK, hD0, hN⟩ := hv
  have hx := B.exec
  have hb := B.bytes
  have hr := B.returns
  have htg : ∀ w ∈ gw, w.before args s = true := fun w h => atoms_spec (ws := wU yX6_status cX6_status 4 ((Option.some Jvm.ClassFile.FieldType.int))) B.pre w (List.mem_cons_of_mem _ h)
  have hown : s.vm.findClass RX6 = some m.cls := findClass_of_methodNamed B.named
  have hlocks := B.notSynchronized
  subst hsz
  have hD := hD0.self (sz := s.heap.size)
  have hA : ∀ q : Nat, s.heap.size ≤ q → va_A (w0_X6_status cA am tkv ttv t t_L t_shelf t_refused) s.heap.size q := fun q h => Or.inr h
  have hS : va_S (va_A (w0_X6_status cA am tkv ttv t t_L t_shelf t_refused) s.heap.size) s.heap s.heap [] := va_S.rf
  generalize va_A (w0_X6_status cA am tkv ttv t t_L t_shelf t_refused) s.heap.size = A at hA hD hS ⊢
  obtain ⟨Q, hQ⟩ : ∃ Q : State → Prop, Q = MQ below (va_Qi (fun (r : Int32) (u : Unit) => (r, u) = out) (pst0 D cA A (w1_X6_status cA am tkv ttv t t_L t_shelf t_refused)) A) args s 0 0 A := ⟨_, rfl⟩
  refine (?_ : W p l e rm_X6_status s m args below meth c s.heap [] 0 0 (MQ below (va_Qi (fun (r : Int32) (u : Unit) => (r, u) = out) (pst0 D cA A (w1_X6_status cA am tkv ttv t t_L t_shelf t_refused)) A) args s 0 0 A) (entryFrame m args 4))
  rw [← hQ]
  have hP : va_P D CL [((am 0), e_X6 am tkv ttv t t_L), ((am 1), eI cA 8 t_shelf), ((am 16), eI cA 8 t_refused)] s.heap := hP
  have hD : va_D A [((am 0), e_X6 am tkv ttv t t_L), ((am 1), eI cA 8 t_shelf), ((am 16), eI cA 8 t_refused)] := hD
  have B_133 : ∀ (k_112 : (Int32 × Int32) → Option (Int32 × Unit)) (HK_112 : ∀ (x : Int32 × Int32) (H : Heap) (locs : List Loc) (ls : Array Slot), k_112 x = some out → va_P D CL [((am 0), e_X6 am tkv ttv t t_L), ((am 1), eI cA 8 t_shelf), ((am 16), eI cA 8 t_refused)] H → va_D A [((am 0), e_X6 am tkv ttv t t_L), ((am 1), eI cA 8 t_shelf), ((am 16), eI cA 8 t_refused)] → va_S A s.heap H locs → lv_has ls 4 [(0, .ref (am 0)), (2, .int x.1), (3, .int x.2)] → W p l e rm_X6_status s m args below meth c H locs 0 0 Q (F0 m 112 ls [])) (l3 : Int32) (s0 : Int32) (s1 : Int32) (H : Heap) (locs : List Loc) (ls : Array Slot), b_X6_status_133 fu t t_L t_shelf t_refused k_112 l3 s0 s1 = some out → va_P D CL [((am 0), e_X6 am tkv ttv t t_L), ((am 1), eI cA 8 t_shelf), ((am 16), eI cA 8 t_refused)] H → va_D A [((am 0), e_X6 am tkv ttv t t_L), ((am 1), eI cA 8 t_shelf), ((am 16), eI cA 8 t_refused)] → va_S A s.heap H locs → lv_has ls 4 [(0, .ref (am 0)), (3, .int l3)] → W p l e rm_X6_status s m args below meth c H locs 0 0 Q (F0 m 133 ls [.int s1, .int s0]) := by
    intro k_112 HK_112 l3 s0 s1 H locs ls hm hP hD hS hl
    unfold b_X6_status_133 at hm
    refine lv_iadd hx hb dX6_status_133 ?_
    refine lv_istore_n (lv' := [(2, .int (s0 + s1)), (0, .ref (am 0)), (3, .int l3)]) hx hb dX6_status_134 rfl hl (by decide) rfl (fun ls hl => ?_)
    refine lv_iinc (v := (l3 + (1 : Int32))) (lv' := [(3, .int (l3 + (1 : Int32))), (2, .int (s0 + s1)), (0, .ref (am 0))]) hx hb dX6_status_135 hl (k := 2) rfl rfl (by decide) rfl (fun ls hl => ?_)
    refine lv_goto (tgt := 112) hx hb dX6_status_138 (by decide) ?_
    exact HK_112 _ _ _ _ hm hP hD hS (lv_sub hl [2, 1, 0] rfl)
  have B_112 : ∀ (n : Nat) (x : Int32 × Int32) (H : Heap) (locs : List Loc) (ls : Array Slot), lfix (b_X6_status_112 fu t t_L t_shelf t_refused) n x = some out → va_P D CL [((am 0), e_X6 am tkv ttv t t_L), ((am 1), eI cA 8 t_shelf), ((am 16), eI cA 8 t_refused)] H → va_D A [((am 0), e_X6 am tkv ttv t t_L), ((am 1), eI cA 8 t_shelf), ((am 16), eI cA 8 t_refused)] → va_S A s.heap H locs → lv_has ls 4 [(0, .ref (am 0)), (2, .int x.1), (3, .int x.2)] → W p l e rm_X6_status s m args below meth c H locs 0 0 Q (F0 m 112 ls []) := by
    intro  n
    induction n with
    | zero => intro x H locs ls hm; cases (show none = some out from hm)
    | succ n HK_112 =>
      intro x H locs ls hm hP hD hS hl
      replace hm : b_X6_status_112 fu t t_L t_shelf t_refused (lfix (b_X6_status_112 fu t t_L t_shelf t_refused) n) x = some out := hm
      unfold b_X6_status_112 at hm
      refine lv_iload_n hx hb dX6_status_112 rfl (lv_at hl 2 rfl) ?_
      refine lv_bipush (v := (8 : Int32)) hx hb dX6_status_113 (by decide) ?_
      refine lv_icmp_ge (tgt := 141) hx hb dX6_status_115 (by decide) (fun c1 => ?_) (fun c1 => ?_)
      · have hm := it_t c1 hm
        refine lv_iload_n hx hb dX6_status_141 rfl (lv_at hl 1 rfl) ?_
        rw [hQ]
        exact W.iret (v := x.1) hx hb hr (fun t9 ht hW => ⟨⟨x.1, (), rfl, (Option.some.inj hm), by rw [ht]; exact hP, va_K.moved hW.alike hK, hD⟩, hS.F ht⟩) hS.2.2 dX6_status_142
      · have hm := it_f c1 hm
        refine lv_iload_n hx hb dX6_status_118 rfl (lv_at hl 1 rfl) ?_
        refine lv_aload_n hx hb dX6_status_119 rfl (lv_at hl 0 rfl) ?_
        refine va_get (D := D) (ci := 6) (v := .ref (am 1)) (C := RX6) (T := TX6) (N := 49) hx hb htg inX6 hown hK hP 0 rfl rfl 0 (by decide) (htg _ q_4_189) (fun _ h9 => h9) rfl dX6_status_120 ?_
        refine lv_iload_n hx hb dX6_status_123 rfl (lv_at hl 2 rfl) ?_
        obtain ⟨hi2, hm⟩ := gd_s hm
        refine va_iald hx hb hK hP 1 0 rfl rfl hi2 dX6_status_124 ?_
        refine lv_if_eq (tgt := 132) hx hb dX6_status_125 (by decide) (fun c3 => ?_) (fun c3 => ?_)
        · have hm := it_t c3 hm
          refine lv_iconst (v := (0 : Int32)) hx hb dX6_status_132 (by decide) ?_
          exact B_133 _ HK_112 _ _ _ _ _ _ hm hP hD hS (lv_sub hl [0, 2] rfl)
        · have hm := it_f c3 hm
          refine lv_iconst (v := (1 : Int32)) hx hb dX6_status_128 (by decide) ?_
          refine lv_goto (tgt := 133) hx hb dX6_status_129 (by decide) ?_
          exact B_133 _ HK_112 _ _ _ _ _ _ hm hP hD hS (lv_sub hl [0, 2] rfl)
  have B_170 : ∀ (s0 : Int32) (H : Heap) (locs : List Loc) (ls : Array Slot), b_X6_status_170 fu t t_L t_shelf t_refused s0 = some out → va_P D CL [((am 0), e_X6 am tkv ttv t t_L), ((am 1), eI cA 8 t_shelf), ((am 16), eI cA 8 t_refused)] H → va_D A [((am 0), e_X6 am tkv ttv t t_L), ((am 1), eI cA 8 t_shelf), ((am 16), eI cA 8 t_refused)] → va_S A s.heap H locs → lv_has ls 4 [(0, .ref (am 0))] → W p l e rm_X6_status s m args below meth c H locs 0 0 Q (F0 m 170 ls [.int s0]) := by
    intro  s0 H locs ls hm hP hD hS hl
    unfold b_X6_status_170 at hm
    rw [hQ]
    exact W.iret (v := s0) hx hb hr (fun t9 ht hW => ⟨⟨s0, (), rfl, (Option.some.inj hm), by rw [ht]; exact hP, va_K.moved hW.alike hK, hD⟩, hS.F ht⟩) hS.2.2 dX6_status_170
  unfold m_X6_status at hm
  subst hargs
  have hl := lv_entry ([.ref (am 0), .int l1]) (n := 4) (Nat.le_of_ble_eq_true rfl)
  rw [lg_entry_eq]
  generalize (lg_sl ([.ref (am 0), .int l1]) ++ List.replicate (4 - (lg_sl ([.ref (am 0), .int l1])).length) Slot.unset).toArray = ls at hl ⊢
  have hl : lv_has ls 4 [(0, .ref (am 0)), (1, .int l1)] := hl
  refine lv_iconst (v := (0 : Int32)) hx hb dX6_status_0 (by decide) ?_
  refine lv_istore_n (lv' := [(2, .int (0 : Int32)), (0, .ref (am 0)), (1, .int l1)]) hx hb dX6_status_1 rfl hl (by decide) rfl (fun ls hl => ?_)
  refine lv_iload_n hx hb dX6_status_2 rfl (lv_at hl 2 rfl) ?_
  by_cases c4 : l1 = (0 : Int32)
  · have hm := it_t c4 hm
    have he : (l1).toInt = 0 := by rw [c4]; decide
    refine lv_tableIn (tgt := 60) (off := 57) hx hb dX6_status_3 (by rw [he]; decide) (by rw [he]; decide) (by rw [he]; rfl) (by decide) ?_
    refine lv_aload_n hx hb dX6_status_60 rfl (lv_at hl 1 rfl) ?_
    refine va_get (D := D) (ci := 6) (v := .int (t 16)) (C := RX6) (T := TX6) (N := 49) hx hb htg inX6 hown hK hP 0 rfl rfl 16 (by decide) (htg _ q_4_205) (fun _ h9 => h9) rfl dX6_status_61 ?_
    rw [hQ]
    exact W.iret (v := t 16) hx hb hr (fun t9 ht hW => ⟨⟨t 16, (), rfl, (Option.some.inj hm), by rw [ht]; exact hP, va_K.moved hW.alike hK, hD⟩, hS.F ht⟩) hS.2.2 dX6_status_64
  have hm := it_f c4 hm
  by_cases c5 : l1 = (1 : Int32)
  · have hm := it_t c5 hm
    have he : (l1).toInt = 1 := by rw [c5]; decide
    refine lv_tableIn (tgt := 65) (off := 62) hx hb dX6_status_3 (by rw [he]; decide) (by rw [he]; decide) (by rw [he]; rfl) (by decide) ?_
    refine lv_aload_n hx hb dX6_status_65 rfl (lv_at hl 1 rfl) ?_
    refine va_get (D := D) (ci := 6) (v := .int (t 9)) (C := RX6) (T := TX6) (N := 49) hx hb htg inX6 hown hK hP 0 rfl rfl 9 (by decide) (htg _ q_4_198) (fun _ h9 => h9) rfl dX6_status_66 ?_
    rw [hQ]
    exact W.iret (v := t 9) hx hb hr (fun t9 ht hW => ⟨⟨t 9, (), rfl, (Option.some.inj hm), by rw [ht]; exact hP, va_K.moved hW.alike hK, hD⟩, hS.F ht⟩) hS.2.2 dX6_status_69
  have hm := it_f c5 hm
  by_cases c6 : l1 = (2 : Int32)
  · have hm := it_t c6 hm
    have he : (l1).toInt = 2 := by rw [c6]; decide
    refine lv_tableIn (tgt := 70) (off := 67) hx hb dX6_status_3 (by rw [he]; decide) (by rw [he]; decide) (by rw [he]; rfl) (by decide) ?_
    refine lv_aload_n hx hb dX6_status_70 rfl (lv_at hl 1 rfl) ?_
    refine va_get (D := D) (ci := 6) (v := .int (t 10)) (C := RX6) (T := TX6) (N := 49) hx hb htg inX6 hown hK hP 0 rfl rfl 10 (by decide) (htg _ q_4_199) (fun _ h9 => h9) rfl dX6_status_71 ?_
    rw [hQ]
    exact W.iret (v := t 10) hx hb hr (fun t9 ht hW => ⟨⟨t 10, (), rfl, (Option.some.inj hm), by rw [ht]; exact hP, va_K.moved hW.alike hK, hD⟩, hS.F ht⟩) hS.2.2 dX6_status_74
  have hm := it_f c6 hm
  by_cases c7 : l1 = (3 : Int32)
  · have hm := it_t c7 hm
    have he : (l1).toInt = 3 := by rw [c7]; decide
    refine lv_tableIn (tgt := 75) (off := 72) hx hb dX6_status_3 (by rw [he]; decide) (by rw [he]; decide) (by rw [he]; rfl) (by decide) ?_
    refine lv_aload_n hx hb dX6_status_75 rfl (lv_at hl 1 rfl) ?_
    refine va_get (D := D) (ci := 6) (v := .int (t 11)) (C := RX6) (T := TX6) (N := 49) hx hb htg inX6 hown hK hP 0 rfl rfl 11 (by decide) (htg _ q_4_200) (fun _ h9 => h9) rfl dX6_status_76 ?_
    rw [hQ]
    exact W.iret (v := t 11) hx hb hr (fun t9 ht hW => ⟨⟨t 11, (), rfl, (Option.some.inj hm), by rw [ht]; exact hP, va_K.moved hW.alike hK, hD⟩, hS.F ht⟩) hS.2.2 dX6_status_79
  have hm := it_f c7 hm
  by_cases c8 : l1 = (4 : Int32)
  · have hm := it_t c8 hm
    have he : (l1).toInt = 4 := by rw [c8]; decide
    refine lv_tableIn (tgt := 80) (off := 77) hx hb dX6_status_3 (by rw [he]; decide) (by rw [he]; decide) (by rw [he]; rfl) (by decide) ?_
    refine lv_aload_n hx hb dX6_status_80 rfl (lv_at hl 1 rfl) ?_
    refine va_get (D := D) (ci := 6) (v := .int (t 12)) (C := RX6) (T := TX6) (N := 49) hx hb htg inX6 hown hK hP 0 rfl rfl 12 (by decide) (htg _ q_4_201) (fun _ h9 => h9) rfl dX6_status_81 ?_
    rw [hQ]
    exact W.iret (v := t 12) hx hb hr (fun t9 ht hW => ⟨⟨t 12, (), rfl, (Option.some.inj hm), by rw [ht]; exact hP, va_K.moved hW.alike hK, hD⟩, hS.F ht⟩) hS.2.2 dX6_status_84
  have hm := it_f c8 hm
  by_cases c9 : l1 = (5 : Int32)
  · have hm := it_t c9 hm
    have he : (l1).toInt = 5 := by rw [c9]; decide
    refine lv_tableIn (tgt := 85) (off := 82) hx hb dX6_status_3 (by rw [he]; decide) (by rw [he]; decide) (by rw [he]; rfl) (by decide) ?_
    refine lv_aload_n hx hb dX6_status_85 rfl (lv_at hl 1 rfl) ?_
    refine va_get (D := D) (ci := 6) (v := .int (t 13)) (C := RX6) (T := TX6) (N := 49) hx hb htg inX6 hown hK hP 0 rfl rfl 13 (by decide) (htg _ q_4_202) (fun _ h9 => h9) rfl dX6_status_86 ?_
    rw [hQ]
    exact W.iret (v := t 13) hx hb hr (fun t9 ht hW => ⟨⟨t 13, (), rfl, (Option.some.inj hm), by rw [ht]; exact hP, va_K.moved hW.alike hK, hD⟩, hS.F ht⟩) hS.2.2 dX6_status_89
  have hm := it_f c9 hm
  by_cases c10 : l1 = (6 : Int32)
  · have hm := it_t c10 hm
    have he : (l1).toInt = 6 := by rw [c10]; decide
    refine lv_tableIn (tgt := 90) (off := 87) hx hb dX6_status_3 (by rw [he]; decide) (by rw [he]; decide) (by rw [he]; rfl) (by decide) ?_
    refine lv_aload_n hx hb dX6_status_90 rfl (lv_at hl 1 rfl) ?_
    refine va_get (D := D) (ci := 6) (v := .int (t 14)) (C := RX6) (T := TX6) (N := 49) hx hb htg inX6 hown hK hP 0 rfl rfl 14 (by decide) (htg _ q_4_203) (fun _ h9 => h9) rfl dX6_status_91 ?_
    rw [hQ]
    exact W.iret (v := t 14) hx hb hr (fun t9 ht hW => ⟨⟨t 14, (), rfl, (Option.some.inj hm), by rw [ht]; exact hP, va_K.moved hW.alike hK, hD⟩, hS.F ht⟩) hS.2.2 dX6_status_94
  have hm := it_f c10 hm
  by_cases c11 : l1 = (7 : Int32)
  · have hm := it_t c11 hm
    have he : (l1).toInt = 7 := by rw [c11]; decide
    refine lv_tableIn (tgt := 95) (off := 92) hx hb dX6_status_3 (by rw [he]; decide) (by rw [he]; decide) (by rw [he]; rfl) (by decide) ?_
    refine lv_aload_n hx hb dX6_status_95 rfl (lv_at hl 1 rfl) ?_
    refine va_get (D := D) (ci := 6) (v := .int (t 15)) (C := RX6) (T := TX6) (N := 49) hx hb htg inX6 hown hK hP 0 rfl rfl 15 (by decide) (htg _ q_4_204) (fun _ h9 => h9) rfl dX6_status_96 ?_
    rw [hQ]
    exact W.iret (v := t 15) hx hb hr (fun t9 ht hW => ⟨⟨t 15, (), rfl, (Option.some.inj hm), by rw [ht]; exact hP, va_K.moved hW.alike hK, hD⟩, hS.F ht⟩) hS.2.2 dX6_status_99
  have hm := it_f c11 hm
  by_cases c12 : l1 = (8 : Int32)
  · have hm := it_t c12 hm
    have he : (l1).toInt = 8 := by rw [c12]; decide
    refine lv_tableIn (tgt := 100) (off := 97) hx hb dX6_status_3 (by rw [he]; decide) (by rw [he]; decide) (by rw [he]; rfl) (by decide) ?_
    refine lv_aload_n hx hb dX6_status_100 rfl (lv_at hl 1 rfl) ?_
    refine va_get (D := D) (ci := 6) (v := .int (t 7)) (C := RX6) (T := TX6) (N := 49) hx hb htg inX6 hown hK hP 0 rfl rfl 7 (by decide) (htg _ q_4_196) (fun _ h9 => h9) rfl dX6_status_101 ?_
    rw [hQ]
    exact W.iret (v := t 7) hx hb hr (fun t9 ht hW => ⟨⟨t 7, (), rfl, (Option.some.inj hm), by rw [ht]; exact hP, va_K.moved hW.alike hK, hD⟩, hS.F ht⟩) hS.2.2 dX6_status_104
  have hm := it_f c12 hm
  by_cases c13 : l1 = (9 : Int32)
  · have hm := it_t c13 hm
    have he : (l1).toInt = 9 := by rw [c13]; decide
    refine lv_tableIn (tgt := 105) (off := 102) hx hb dX6_status_3 (by rw [he]; decide) (by rw [he]; decide) (by rw [he]; rfl) (by decide) ?_
    refine lv_aload_n hx hb dX6_status_105 rfl (lv_at hl 1 rfl) ?_
    refine va_get (D := D) (ci := 6) (v := .int (t 20)) (C := RX6) (T := TX6) (N := 49) hx hb htg inX6 hown hK hP 0 rfl rfl 20 (by decide) (htg _ q_4_209) (fun _ h9 => h9) rfl dX6_status_106 ?_
    rw [hQ]
    exact W.iret (v := t 20) hx hb hr (fun t9 ht hW => ⟨⟨t 20, (), rfl, (Option.some.inj hm), by rw [ht]; exact hP, va_K.moved hW.alike hK, hD⟩, hS.F ht⟩) hS.2.2 dX6_status_109
  have hm := it_f c13 hm
  by_cases c14 : l1 = (10 : Int32)
  · have hm := it_t c14 hm
    have he : (l1).toInt = 10 := by rw [c14]; decide
    refine lv_tableIn (tgt := 110) (off := 107) hx hb dX6_status_3 (by rw [he]; decide) (by rw [he]; decide) (by rw [he]; rfl) (by decide) ?_
    refine lv_iconst (v := (0 : Int32)) hx hb dX6_status_110 (by decide) ?_
    refine lv_istore_n (lv' := [(3, .int (0 : Int32)), (2, .int (0 : Int32)), (0, .ref (am 0)), (1, .int l1)]) hx hb dX6_status_111 rfl hl (by decide) rfl (fun ls hl => ?_)
    exact B_112 fu _ _ _ _ hm hP hD hS (lv_sub hl [2, 1, 0] rfl)
  have hm := it_f c14 hm
  have ho : (l1).toInt < 0 ∨ 10 < (l1).toInt := by
    refine Classical.byContradiction fun hh => ?_
    have h1 : 0 ≤ (l1).toInt ∧ (l1).toInt ≤ 10 := by omega
    have h2 : (l1).toInt = 0 ∨ (l1).toInt = 1 ∨ (l1).toInt = 2 ∨ (l1).toInt = 3 ∨ (l1).toInt = 4 ∨ (l1).toInt = 5 ∨ (l1).toInt = 6 ∨ (l1).toInt = 7 ∨ (l1).toInt = 8 ∨ (l1).toInt = 9 ∨ (l1).toInt = 10 := by omega
    rcases h2 with h2 | h2 | h2 | h2 | h2 | h2 | h2 | h2 | h2 | h2 | h2
    · exact c4 (Int32.toInt_inj.mp (h2.trans (by decide)))
    · exact c5 (Int32.toInt_inj.mp (h2.trans (by decide)))
    · exact c6 (Int32.toInt_inj.mp (h2.trans (by decide)))
    · exact c7 (Int32.toInt_inj.mp (h2.trans (by decide)))
    · exact c8 (Int32.toInt_inj.mp (h2.trans (by decide)))
    · exact c9 (Int32.toInt_inj.mp (h2.trans (by decide)))
    · exact c10 (Int32.toInt_inj.mp (h2.trans (by decide)))
    · exact c11 (Int32.toInt_inj.mp (h2.trans (by decide)))
    · exact c12 (Int32.toInt_inj.mp (h2.trans (by decide)))
    · exact c13 (Int32.toInt_inj.mp (h2.trans (by decide)))
    · exact c14 (Int32.toInt_inj.mp (h2.trans (by decide)))
  refine lv_tableOut (tgt := 143) hx hb dX6_status_3 ho (by decide) ?_
  refine lv_iload_n hx hb dX6_status_143 rfl (lv_at hl 2 rfl) ?_
  refine lv_i2l hx hb dX6_status_144 rfl ?_
  refine lv_ldc2 (v := (12 : Int64)) hx hb hown (htg _ q_6_183) dX6_status_145 ?_
  refine lv_ldc2 (v := (16 : Int64)) hx hb hown (htg _ q_7_26) dX6_status_148 ?_
  obtain ⟨o15, ho16, hm⟩ := bd_s hm
  refine xr_i (wr := [((am 0), e_X6 am tkv ttv t t_L), ((am 1), eI cA 8 t_shelf), ((am 16), eI cA 8 t_refused)]) (wn := [((am 0), e_X6 am tkv ttv t t_L), ((am 1), eI cA 8 t_shelf), ((am 16), eI cA 8 t_refused)]) (va_runS (As := [.long l1.toInt64, .long (12 : Int64), .long (16 : Int64)]) (rest := []) ⟨hx, hb, hml, hown, htg⟩ (c_X6_in l D cA _ fu l1.toInt64 (12 : Int64) (16 : Int64) o15 ho16) (cwS 3 htg (gS q_5_103 q_5_104 q_1_8 q_5_105) rfl rfl rfl hd_X6_in ⟨Nat.le_of_ble_eq_true rfl, Nat.le_of_ble_eq_true rfl⟩) (xpS hN hK hP hD [] rfl (by decide)) rfl rfl hl.1 rfl (lv_room (Nat.le_of_ble_eq_true rfl)) dX6_status_151 ⟨Nat.zero_le _, Nat.zero_le _⟩) hP hD hS hA [] [0, 1, 2] [0, 1, 2] rfl rfl (by decide) (by decide) rfl (by decide) (fun H locs hP hD hS => ?_)
  refine lv_if_eq (tgt := 169) hx hb dX6_status_154 (by decide) (fun c17 => ?_) (fun c17 => ?_)
  · have hm := it_t c17 hm
    refine lv_iconst (v := (-1 : Int32)) hx hb dX6_status_169 (by decide) ?_
    exact B_170 _ _ _ _ hm hP hD hS (lv_sub hl [1] rfl)
  · have hm := it_f c17 hm
    refine lv_aload_n hx hb dX6_status_157 rfl (lv_at hl 1 rfl) ?_
    refine va_get (D := D) (ci := 6) (v := .ref (am 16)) (C := RX6) (T := TX6) (N := 49) hx hb htg inX6 hown hK hP 0 rfl rfl 8 (by decide) (htg _ q_4_197) (fun _ h9 => h9) rfl dX6_status_158 ?_
    refine lv_iload_n hx hb dX6_status_161 rfl (lv_at hl 2 rfl) ?_
    refine lv_bipush (v := (10 : Int32)) hx hb dX6_status_162 (by decide) ?_
    refine lv_isub hx hb dX6_status_164 ?_
    obtain ⟨hi18, hm⟩ := gd_s hm
    refine va_iald hx hb hK hP 2 0 rfl rfl hi18 dX6_status_165 ?_
    refine lv_goto (tgt := 170) hx hb dX6_status_166 (by decide) ?_
    exact B_170 _ _ _ _ hm hP hD hS (lv_sub hl [1] rfl)
