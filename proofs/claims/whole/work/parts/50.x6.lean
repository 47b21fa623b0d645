def b_X6_judge_130 (fu : Nat) (t_L : Nat → Int64) (t_shelf : Nat → Int32) (t_rowSize : Nat → Int32) (t_rows_R : Nat → Nat → Int64) (t_kind : Nat → Int32) (t_pitch : Nat → Int32) (l6 : Int32) (t : Nat → Int32) (t_refused : Nat → Int32) (t_word : Nat → Int32) (t_heard : Nat → Int32) : Option (Int32 × ((Nat → Int32) × (Nat → Int32) × (Nat → Int32) × (Nat → Int32))) :=
  (m_X6_goesBack fu t t_L).bind fun o1 =>
    some (l6, (o1, t_refused, t_word, t_heard))
def b_X6_judge_118 (fu : Nat) (t_L : Nat → Int64) (t_shelf : Nat → Int32) (t_rowSize : Nat → Int32) (t_rows_R : Nat → Nat → Int64) (t_kind : Nat → Int32) (t_pitch : Nat → Int32) (k_33 : (Int32 × Int32 × Int32 × Int32 × (Nat → Int32) × (Nat → Int32) × (Nat → Int32) × (Nat → Int32)) → Option (Int32 × ((Nat → Int32) × (Nat → Int32) × (Nat → Int32) × (Nat → Int32)))) (l3 : Int32) (l4 : Int32) (l7 : Int32) (s0 : Int32) (t : Nat → Int32) (t_refused : Nat → Int32) (t_word : Nat → Int32) (t_heard : Nat → Int32) : Option (Int32 × ((Nat → Int32) × (Nat → Int32) × (Nat → Int32) × (Nat → Int32))) :=
  (m_X6_passes fu t t_L).bind fun o3 =>
    k_33 (l3, l4, s0, (l7 + (1 : Int32)), o3, t_refused, t_word, t_heard)
def b_X6_judge_105 (fu : Nat) (t_L : Nat → Int64) (t_shelf : Nat → Int32) (t_rowSize : Nat → Int32) (t_rows_R : Nat → Nat → Int64) (t_kind : Nat → Int32) (t_pitch : Nat → Int32) (k_33 : (Int32 × Int32 × Int32 × Int32 × (Nat → Int32) × (Nat → Int32) × (Nat → Int32) × (Nat → Int32)) → Option (Int32 × ((Nat → Int32) × (Nat → Int32) × (Nat → Int32) × (Nat → Int32)))) (l3 : Int32) (l4 : Int32) (l7 : Int32) (s0 : Int32) (t : Nat → Int32) (t_refused : Nat → Int32) (t_word : Nat → Int32) (t_heard : Nat → Int32) : Option (Int32 × ((Nat → Int32) × (Nat → Int32) × (Nat → Int32) × (Nat → Int32))) :=
  (if s0 = 0 then
      b_X6_judge_118 fu t_L t_shelf t_rowSize t_rows_R t_kind t_pitch k_33 l3 l4 l7 l7 t t_refused t_word t_heard
    else
      b_X6_judge_118 fu t_L t_shelf t_rowSize t_rows_R t_kind t_pitch k_33 l3 l4 l7 (-1 : Int32) t t_refused t_word t_heard)
def b_X6_judge_104 (fu : Nat) (t_L : Nat → Int64) (t_shelf : Nat → Int32) (t_rowSize : Nat → Int32) (t_rows_R : Nat → Nat → Int64) (t_kind : Nat → Int32) (t_pitch : Nat → Int32) (k_33 : (Int32 × Int32 × Int32 × Int32 × (Nat → Int32) × (Nat → Int32) × (Nat → Int32) × (Nat → Int32)) → Option (Int32 × ((Nat → Int32) × (Nat → Int32) × (Nat → Int32) × (Nat → Int32)))) (l3 : Int32) (l4 : Int32) (l7 : Int32) (t : Nat → Int32) (t_refused : Nat → Int32) (t_word : Nat → Int32) (t_heard : Nat → Int32) : Option (Int32 × ((Nat → Int32) × (Nat → Int32) × (Nat → Int32) × (Nat → Int32))) :=
  b_X6_judge_105 fu t_L t_shelf t_rowSize t_rows_R t_kind t_pitch k_33 l3 l4 l7 (0 : Int32) t t_refused t_word t_heard
def b_X6_judge_33 (fu : Nat) (t_L : Nat → Int64) (t_shelf : Nat → Int32) (t_rowSize : Nat → Int32) (t_rows_R : Nat → Nat → Int64) (t_kind : Nat → Int32) (t_pitch : Nat → Int32) (k_33 : (Int32 × Int32 × Int32 × Int32 × (Nat → Int32) × (Nat → Int32) × (Nat → Int32) × (Nat → Int32)) → Option (Int32 × ((Nat → Int32) × (Nat → Int32) × (Nat → Int32) × (Nat → Int32)))) (x : Int32 × Int32 × Int32 × Int32 × (Nat → Int32) × (Nat → Int32) × (Nat → Int32) × (Nat → Int32)) : Option (Int32 × ((Nat → Int32) × (Nat → Int32) × (Nat → Int32) × (Nat → Int32))) :=
  (if x.2.1 ≤ x.2.2.2.1 then
        b_X6_judge_130 fu t_L t_shelf t_rowSize t_rows_R t_kind t_pitch x.2.2.1 x.2.2.2.2.1 x.2.2.2.2.2.1 x.2.2.2.2.2.2.1 x.2.2.2.2.2.2.2
      else
        (if x.2.2.1 = (-1 : Int32) then
          gd (inb x.1 8) (
          gd (inb x.1 8) (gd (inb ((2 : Int32) * x.2.2.2.1) 40) (
          (m_X6_in fu (t_rows_R x.1.toNatClampNeg ((2 : Int32) * x.2.2.2.1).toNatClampNeg) (0 : Int64) ((x.2.2.2.2.1 16 - (1 : Int32)).toInt64)).bind fun o12 =>
          (if o12.1 = 0 then
            b_X6_judge_104 fu t_L t_shelf t_rowSize t_rows_R t_kind t_pitch k_33 x.1 x.2.1 x.2.2.2.1 x.2.2.2.2.1 x.2.2.2.2.2.1 x.2.2.2.2.2.2.1 x.2.2.2.2.2.2.2
          else
            (m_X6_weighedOf fu x.2.2.2.2.1 t_L t_kind t_pitch x.2.2.2.2.2.2.1 x.2.2.2.2.2.2.2 ((t_rows_R x.1.toNatClampNeg ((2 : Int32) * x.2.2.2.1).toNatClampNeg).toInt32)).bind fun o15 =>
            gd (inb x.1 8) (
            gd (inb x.1 8) (gd (inb (((2 : Int32) * x.2.2.2.1) + (1 : Int32)) 40) (
            (if (lg_cmp o15.1.toInt64 (t_rows_R x.1.toNatClampNeg (((2 : Int32) * x.2.2.2.1) + (1 : Int32)).toNatClampNeg)) = 0 then
              b_X6_judge_105 fu t_L t_shelf t_rowSize t_rows_R t_kind t_pitch k_33 x.1 x.2.1 x.2.2.2.1 (1 : Int32) o15.2.1 x.2.2.2.2.2.1 x.2.2.2.2.2.2.1 o15.2.2
            else
              b_X6_judge_104 fu t_L t_shelf t_rowSize t_rows_R t_kind t_pitch k_33 x.1 x.2.1 x.2.2.2.1 o15.2.1 x.2.2.2.2.2.1 x.2.2.2.2.2.2.1 o15.2.2))))))))
        else
          b_X6_judge_130 fu t_L t_shelf t_rowSize t_rows_R t_kind t_pitch x.2.2.1 x.2.2.2.2.1 x.2.2.2.2.2.1 x.2.2.2.2.2.2.1 x.2.2.2.2.2.2.2))
def m_X6_judge (fu : Nat) (t : Nat → Int32) (t_L : Nat → Int64) (t_shelf : Nat → Int32) (t_rowSize : Nat → Int32) (t_rows_R : Nat → Nat → Int64) (t_refused : Nat → Int32) (t_kind : Nat → Int32) (t_pitch : Nat → Int32) (t_word : Nat → Int32) (t_heard : Nat → Int32) (l1 : Int32) (l2 : Int32) (l3 : Int32) (l4 : Int32) : Option (Int32 × ((Nat → Int32) × (Nat → Int32) × (Nat → Int32) × (Nat → Int32))) :=
  (m_X6_noWords fu t t_L t_shelf t_rowSize t_rows_R t_refused t_word l1 l2 l3 l4 (20 : Int32) (2 : Int32) (1 : Int32)).bind fun o22 =>
  (if o22.1 = 0 then
    (m_X6_keeps fu o22.2.1 t_L).bind fun o25 =>
    lfix (b_X6_judge_33 fu t_L t_shelf t_rowSize t_rows_R t_kind t_pitch) fu (l3, l4, (-1 : Int32), (0 : Int32), o25, o22.2.2.1, o22.2.2.2, t_heard)
  else
    some (o22.1, (o22.2.1, o22.2.2.1, o22.2.2.2, t_heard)))
abbrev rm_X6_judge : Room := ({ frames := 5, cells := 0, slots := 0, locals := 115 } : Room)
abbrev w0_X6_judge (cA : Nat → ClassId) (am : Nat → Nat) (tkv : Value) (ttv : Value) (t : Nat → Int32) (t_L : Nat → Int64) (t_shelf : Nat → Int32) (t_rowSize : Nat → Int32) (t_rows_R : Nat → Nat → Int64) (t_refused : Nat → Int32) (t_kind : Nat → Int32) (t_pitch : Nat → Int32) (t_word : Nat → Int32) (t_heard : Nat → Int32) : va_W := [((am 0), e_X6 am tkv ttv t t_L), ((am 1), eI cA 8 t_shelf), ((am 3), eI cA 8 t_rowSize), ((am 4), eOJ cA am 5), (am 5, eJ cA 40 (t_rows_R 0)), (am 6, eJ cA 40 (t_rows_R 1)), (am 7, eJ cA 40 (t_rows_R 2)), (am 8, eJ cA 40 (t_rows_R 3)), (am 9, eJ cA 40 (t_rows_R 4)), (am 10, eJ cA 40 (t_rows_R 5)), (am 11, eJ cA 40 (t_rows_R 6)), (am 12, eJ cA 40 (t_rows_R 7)), ((am 16), eI cA 8 t_refused), ((am 17), eI cA 8 t_kind), ((am 19), eI cA 8 t_pitch), ((am 21), eI cA 12 t_word), ((am 22), eI cA 13 t_heard)]
abbrev w1_X6_judge (cA : Nat → ClassId) (am : Nat → Nat) (tkv : Value) (ttv : Value) (t_L : Nat → Int64) (t_shelf : Nat → Int32) (t_rowSize : Nat → Int32) (t_rows_R : Nat → Nat → Int64) (t_kind : Nat → Int32) (t_pitch : Nat → Int32) (u : (Nat → Int32) × (Nat → Int32) × (Nat → Int32) × (Nat → Int32)) : va_W := [((am 0), e_X6 am tkv ttv u.1 t_L), ((am 1), eI cA 8 t_shelf), ((am 3), eI cA 8 t_rowSize), ((am 4), eOJ cA am 5), (am 5, eJ cA 40 (t_rows_R 0)), (am 6, eJ cA 40 (t_rows_R 1)), (am 7, eJ cA 40 (t_rows_R 2)), (am 8, eJ cA 40 (t_rows_R 3)), (am 9, eJ cA 40 (t_rows_R 4)), (am 10, eJ cA 40 (t_rows_R 5)), (am 11, eJ cA 40 (t_rows_R 6)), (am 12, eJ cA 40 (t_rows_R 7)), ((am 16), eI cA 8 u.2.1), ((am 17), eI cA 8 t_kind), ((am 19), eI cA 8 t_pitch), ((am 21), eI cA 12 u.2.2.1), ((am 22), eI cA 13 u.2.2.2)]
theorem hd_X6_judge : yX6_judge.cls = RX6 ∧ yX6_judge.cls ≠ "java/lang/invoke/MethodHandle" ∧ yX6_judge.cls ≠ "java/lang/invoke/VarHandle" ∧ (parseMethodDescriptor yX6_judge.desc).map (fun d => d.parameters.length) = some 4 := by decide +kernel
set_option maxHeartbeats 40000000 in
set_option maxRecDepth 100000 in
theorem c_X6_judge (l : Launch) (D : va_G) (cA : Nat → ClassId) (sz : Nat) (fu : Nat) (am : Nat → Nat) (tkv : Value) (ttv : Value) (t : Nat → Int32) (t_L : Nat → Int64) (t_shelf : Nat → Int32) (t_rowSize : Nat → Int32) (t_rows_R : Nat → Nat → Int64) (t_refused : Nat → Int32) (t_kind : Nat → Int32) (t_pitch : Nat → Int32) (t_word : Nat → Int32) (t_heard : Nat → Int32) (l1 : Int32) (l2 : Int32) (l3 : Int32) (l4 : Int32) (out : Int32 × ((Nat → Int32) × (Nat → Int32) × (Nat → Int32) × (Nat → Int32))) (hm : m_X6_judge fu t t_L t_shelf t_rowSize t_rows_R t_refused t_kind t_pitch t_word t_heard l1 l2 l3 l4 = some out) : MI l yX6_judge (wU yX6_judge cX6_judge 11 ((Option.some Jvm.ClassFile.FieldType.int))) rm_X6_judge D cA sz [.ref (am 0), .int l1, .int l2, .int l3, .int l4] (w0_X6_judge cA am tkv ttv t t_L t_shelf t_rowSize t_rows_R t_refused t_kind t_pitch t_word t_heard) out (w1_X6_judge cA am tkv ttv t_L t_shelf t_rowSize t_rows_R t_kind t_pitch) := by
  refine Met.ofW (cc := cX6_judge) (maxL := 11) (ret := (Option.some Jvm.ClassFile.FieldType.int)) (by decide) rfl ?_
  intro p e s m args below meth c s₁ B hml hv
  obtain ⟨hargs, hsz, hP, hK, hD0, hN⟩ := hv
  have hx := B.exec
  have hb := B.bytes
  have hr := B.returns
  have htg : ∀ w ∈ gw, w.before args s = true := fun w h => atoms_spec (ws := wU yX6_judge cX6_judge 11 ((Option.some Jvm.ClassFile.FieldType.int))) B.pre w (List.mem_cons_of_mem _ h)
  have hown : s.vm.findClass RX6 = some m.cls := findClass_of_methodNamed B.named
  have hlocks := B.notSynchronized
  subst hsz
  have hD := hD0.self (sz := s.heap.size)
  have hA : ∀ q : Nat, s.heap.size ≤ q → va_A (w0_X6_judge cA am tkv ttv t t_L t_shelf t_rowSize t_rows_R t_refused t_kind t_pitch t_word t_heard) s.heap.size q := fun q h => Or.inr h
  have hS : va_S (va_A (w0_X6_judge cA am tkv ttv t t_L t_shelf t_rowSize t_rows_R t_refused t_kind t_pitch t_word t_heard) s.heap.size) s.heap s.heap [] := va_S.rf
  generalize va_A (w0_X6_judge cA am tkv ttv t t_L t_shelf t_rowSize t_rows_R t_refused t_kind t_pitch t_word t_heard) s.heap.size = A at hA hD hS ⊢
  obtain ⟨Q, hQ⟩ : ∃ Q : State → Prop, Q = MQ below (va_Qi (fun (r : Int32) (u : (Nat → Int32) × (Nat → Int32) × (Nat → Int32) × (Nat → Int32)) => (r, u) = out) (pst0 D cA A (w1_X6_judge cA am tkv ttv t_L t_shelf t_rowSize t_rows_R t_kind t_pitch)) A) args s 0 0 A := ⟨_, rfl⟩
  refine (?_ : W p l e rm_X6_judge s m args below meth c s.heap [] 0 0 (MQ below (va_Qi (fun (r : Int32) (u : (Nat → Int32) × (Nat → Int32) × (Nat → Int32) × (Nat → Int32)) => (r, u) = out) (pst0 D cA A (w1_X6_judge cA am tkv ttv t_L t_shelf t_rowSize t_rows_R t_kind t_pitch)) A) args s 0 0 A) (entryFrame m args 11))
  rw [← hQ]
  have hP : va_P D CL [((am 0), e_X6 am tkv ttv t t_L), ((am 1), eI cA 8 t_shelf), ((am 3), eI cA 8 t_rowSize), ((am 4), eOJ cA am 5), (am 5, eJ cA 40 (t_rows_R 0)), (am 6, eJ cA 40 (t_rows_R 1)), (am 7, eJ cA 40 (t_rows_R 2)), (am 8, eJ cA 40 (t_rows_R 3)), (am 9, eJ cA 40 (t_rows_R 4)), (am 10, eJ cA 40 (t_rows_R 5)), (am 11, eJ cA 40 (t_rows_R 6)), (am 12, eJ cA 40 (t_rows_R 7)), ((am 16), eI cA 8 t_refused), ((am 17), eI cA 8 t_kind), ((am 19), eI cA 8 t_pitch), ((am 21), eI cA 12 t_word), ((am 22), eI cA 13 t_heard)] s.heap := hP
  have hD : va_D A [((am 0), e_X6 am tkv ttv t t_L), ((am 1), eI cA 8 t_shelf), ((am 3), eI cA 8 t_rowSize), ((am 4), eOJ cA am 5), (am 5, eJ cA 40 (t_rows_R 0)), (am 6, eJ cA 40 (t_rows_R 1)), (am 7, eJ cA 40 (t_rows_R 2)), (am 8, eJ cA 40 (t_rows_R 3)), (am 9, eJ cA 40 (t_rows_R 4)), (am 10, eJ cA 40 (t_rows_R 5)), (am 11, eJ cA 40 (t_rows_R 6)), (am 12, eJ cA 40 (t_rows_R 7)), ((am 16), eI cA 8 t_refused), ((am 17), eI cA 8 t_kind), ((am 19), eI cA 8 t_pitch), ((am 21), eI cA 12 t_word), ((am 22), eI cA 13 t_heard)] := hD
  have B_130 : ∀ (l6 : Int32) (t : Nat → Int32) (t_refused : Nat → Int32) (t_word : Nat → Int32) (t_heard : Nat → Int32) (H : Heap) (locs : List Loc) (ls : Array Slot), b_X6_judge_130 fu t_L t_shelf t_rowSize t_rows_R t_kind t_pitch l6 t t_refused t_word t_heard = some out → va_P D CL [((am 0), e_X6 am tkv ttv t t_L), ((am 1), eI cA 8 t_shelf), ((am 3), eI cA 8 t_rowSize), ((am 4), eOJ cA am 5), (am 5, eJ cA 40 (t_rows_R 0)), (am 6, eJ cA 40 (t_rows_R 1)), (am 7, eJ cA 40 (t_rows_R 2)), (am 8, eJ cA 40 (t_rows_R 3)), (am 9, eJ cA 40 (t_rows_R 4)), (am 10, eJ cA 40 (t_rows_R 5)), (am 11, eJ cA 40 (t_rows_R 6)), (am 12, eJ cA 40 (t_rows_R 7)), ((am 16), eI cA 8 t_refused), ((am 17), eI cA 8 t_kind), ((am 19), eI cA 8 t_pitch), ((am 21), eI cA 12 t_word), ((am 22), eI cA 13 t_heard)] H → va_D A [((am 0), e_X6 am tkv ttv t t_L), ((am 1), eI cA 8 t_shelf), ((am 3), eI cA 8 t_rowSize), ((am 4), eOJ cA am 5), (am 5, eJ cA 40 (t_rows_R 0)), (am 6, eJ cA 40 (t_rows_R 1)), (am 7, eJ cA 40 (t_rows_R 2)), (am 8, eJ cA 40 (t_rows_R 3)), (am 9, eJ cA 40 (t_rows_R 4)), (am 10, eJ cA 40 (t_rows_R 5)), (am 11, eJ cA 40 (t_rows_R 6)), (am 12, eJ cA 40 (t_rows_R 7)), ((am 16), eI cA 8 t_refused), ((am 17), eI cA 8 t_kind), ((am 19), eI cA 8 t_pitch), ((am 21), eI cA 12 t_word), ((am 22), eI cA 13 t_heard)] → va_S A s.heap H locs → lv_has ls 11 [(0, .ref (am 0)), (6, .int l6)] → W p l e rm_X6_judge s m args below meth c H locs 0 0 Q (F0 m 130 ls []) := by
    intro  l6 t t_refused t_word t_heard H locs ls hm hP hD hS hl
    unfold b_X6_judge_130 at hm
    refine lv_aload_n hx hb dX6_judge_130 rfl (lv_at hl 0 rfl) ?_
    obtain ⟨o1, ho2, hm⟩ := bd_s hm
    refine xr_v (wr := [((am 1), eI cA 8 t_shelf), ((am 3), eI cA 8 t_rowSize), ((am 4), eOJ cA am 5), (am 5, eJ cA 40 (t_rows_R 0)), (am 6, eJ cA 40 (t_rows_R 1)), (am 7, eJ cA 40 (t_rows_R 2)), (am 8, eJ cA 40 (t_rows_R 3)), (am 9, eJ cA 40 (t_rows_R 4)), (am 10, eJ cA 40 (t_rows_R 5)), (am 11, eJ cA 40 (t_rows_R 6)), (am 12, eJ cA 40 (t_rows_R 7)), ((am 16), eI cA 8 t_refused), ((am 17), eI cA 8 t_kind), ((am 19), eI cA 8 t_pitch), ((am 21), eI cA 12 t_word), ((am 22), eI cA 13 t_heard)]) (wn := [((am 0), e_X6 am tkv ttv o1 t_L), ((am 1), eI cA 8 t_shelf), ((am 3), eI cA 8 t_rowSize), ((am 4), eOJ cA am 5), (am 5, eJ cA 40 (t_rows_R 0)), (am 6, eJ cA 40 (t_rows_R 1)), (am 7, eJ cA 40 (t_rows_R 2)), (am 8, eJ cA 40 (t_rows_R 3)), (am 9, eJ cA 40 (t_rows_R 4)), (am 10, eJ cA 40 (t_rows_R 5)), (am 11, eJ cA 40 (t_rows_R 6)), (am 12, eJ cA 40 (t_rows_R 7)), ((am 16), eI cA 8 t_refused), ((am 17), eI cA 8 t_kind), ((am 19), eI cA 8 t_pitch), ((am 21), eI cA 12 t_word), ((am 22), eI cA 13 t_heard)]) (va_runV (As := []) (rest := []) ⟨hx, hb, hml, hown, htg⟩ (c_X6_goesBack l D cA _ fu am tkv ttv t t_L o1 ho2) (cwV 0 htg (gV q_6_117 q_6_119 q_p6_15 q_1_8 q_6_120) rfl rfl rfl hd_X6_goesBack ⟨Nat.le_of_ble_eq_true rfl, Nat.le_of_ble_eq_true rfl⟩) (xpV hN hK hP hD [0] rfl (by decide) rfl rfl) rfl rfl hl.1 rfl (lv_room (Nat.le_of_ble_eq_true rfl)) dX6_judge_131 ⟨Nat.zero_le _, Nat.zero_le _⟩) hP hD hS hA [0] [1, 2, 3, 4, 5, 6, 7, 8, 9, 10, 11, 12, 13, 14, 15, 16] [16, 0, 1, 2, 3, 4, 5, 6, 7, 8, 9, 10, 11, 12, 13, 14, 15] rfl rfl (by decide) (by decide) rfl (by decide) (fun H locs hP hD hS => ?_)
    refine lv_iload hx hb dX6_judge_134 (lv_at hl 1 rfl) ?_
    rw [hQ]
    exact W.iret (v := l6) hx hb hr (fun t9 ht hW => ⟨⟨l6, (o1, t_refused, t_word, t_heard), rfl, (Option.some.inj hm), by rw [ht]; exact hP, va_K.moved hW.alike hK, hD⟩, hS.F ht⟩) hS.2.2 dX6_judge_136
  have B_118 : ∀ (k_33 : (Int32 × Int32 × Int32 × Int32 × (Nat → Int32) × (Nat → Int32) × (Nat → Int32) × (Nat → Int32)) → Option (Int32 × ((Nat → Int32) × (Nat → Int32) × (Nat → Int32) × (Nat → Int32)))) (HK_33 : ∀ (x : Int32 × Int32 × Int32 × Int32 × (Nat → Int32) × (Nat → Int32) × (Nat → Int32) × (Nat → Int32)) (H : Heap) (locs : List Loc) (ls : Array Slot), k_33 x = some out → va_P D CL [((am 0), e_X6 am tkv ttv x.2.2.2.2.1 t_L), ((am 1), eI cA 8 t_shelf), ((am 3), eI cA 8 t_rowSize), ((am 4), eOJ cA am 5), (am 5, eJ cA 40 (t_rows_R 0)), (am 6, eJ cA 40 (t_rows_R 1)), (am 7, eJ cA 40 (t_rows_R 2)), (am 8, eJ cA 40 (t_rows_R 3)), (am 9, eJ cA 40 (t_rows_R 4)), (am 10, eJ cA 40 (t_rows_R 5)), (am 11, eJ cA 40 (t_rows_R 6)), (am 12, eJ cA 40 (t_rows_R 7)), ((am 16), eI cA 8 x.2.2.2.2.2.1), ((am 17), eI cA 8 t_kind), ((am 19), eI cA 8 t_pitch), ((am 21), eI cA 12 x.2.2.2.2.2.2.1), ((am 22), eI cA 13 x.2.2.2.2.2.2.2)] H → va_D A [((am 0), e_X6 am tkv ttv x.2.2.2.2.1 t_L), ((am 1), eI cA 8 t_shelf), ((am 3), eI cA 8 t_rowSize), ((am 4), eOJ cA am 5), (am 5, eJ cA 40 (t_rows_R 0)), (am 6, eJ cA 40 (t_rows_R 1)), (am 7, eJ cA 40 (t_rows_R 2)), (am 8, eJ cA 40 (t_rows_R 3)), (am 9, eJ cA 40 (t_rows_R 4)), (am 10, eJ cA 40 (t_rows_R 5)), (am 11, eJ cA 40 (t_rows_R 6)), (am 12, eJ cA 40 (t_rows_R 7)), ((am 16), eI cA 8 x.2.2.2.2.2.1), ((am 17), eI cA 8 t_kind), ((am 19), eI cA 8 t_pitch), ((am 21), eI cA 12 x.2.2.2.2.2.2.1), ((am 22), eI cA 13 x.2.2.2.2.2.2.2)] → va_S A s.heap H locs → lv_has ls 11 [(0, .ref (am 0)), (3, .int x.1), (4, .int x.2.1), (6, .int x.2.2.1), (7, .int x.2.2.2.1)] → W p l e rm_X6_judge s m args below meth c H locs 0 0 Q (F0 m 33 ls [])) (l3 : Int32) (l4 : Int32) (l7 : Int32) (s0 : Int32) (t : Nat → Int32) (t_refused : Nat → Int32) (t_word : Nat → Int32) (t_heard : Nat → Int32) (H : Heap) (locs : List Loc) (ls : Array Slot), b_X6_judge_118 fu t_L t_shelf t_rowSize t_rows_R t_kind t_pitch k_33 l3 l4 l7 s0 t t_refused t_word t_heard = some out → va_P D CL [((am 0), e_X6 am tkv ttv t t_L), ((am 1), eI cA 8 t_shelf), ((am 3), eI cA 8 t_rowSize), ((am 4), eOJ cA am 5), (am 5, eJ cA 40 (t_rows_R 0)), (am 6, eJ cA 40 (t_rows_R 1)), (am 7, eJ cA 40 (t_rows_R 2)), (am 8, eJ cA 40 (t_rows_R 3)), (am 9, eJ cA 40 (t_rows_R 4)), (am 10, eJ cA 40 (t_rows_R 5)), (am 11, eJ cA 40 (t_rows_R 6)), (am 12, eJ cA 40 (t_rows_R 7)), ((am 16), eI cA 8 t_refused), ((am 17), eI cA 8 t_kind), ((am 19), eI cA 8 t_pitch), ((am 21), eI cA 12 t_word), ((am 22), eI cA 13 t_heard)] H → va_D A [((am 0), e_X6 am tkv ttv t t_L), ((am 1), eI cA 8 t_shelf), ((am 3), eI cA 8 t_rowSize), ((am 4), eOJ cA am 5), (am 5, eJ cA 40 (t_rows_R 0)), (am 6, eJ cA 40 (t_rows_R 1)), (am 7, eJ cA 40 (t_rows_R 2)), (am 8, eJ cA 40 (t_rows_R 3)), (am 9, eJ cA 40 (t_rows_R 4)), (am 10, eJ cA 40 (t_rows_R 5)), (am 11, eJ cA 40 (t_rows_R 6)), (am 12, eJ cA 40 (t_rows_R 7)), ((am 16), eI cA 8 t_refused), ((am 17), eI cA 8 t_kind), ((am 19), eI cA 8 t_pitch), ((am 21), eI cA 12 t_word), ((am 22), eI cA 13 t_heard)] → va_S A s.heap H locs → lv_has ls 11 [(0, .ref (am 0)), (3, .int l3), (4, .int l4), (7, .int l7)] → W p l e rm_X6_judge s m args below meth c H locs 0 0 Q (F0 m 118 ls [.int s0]) := by
    intro k_33 HK_33 l3 l4 l7 s0 t t_refused t_word t_heard H locs ls hm hP hD hS hl
    unfold b_X6_judge_118 at hm
    refine lv_istore (lv' := [(6, .int s0), (0, .ref (am 0)), (3, .int l3), (4, .int l4), (7, .int l7)]) hx hb dX6_judge_118 hl (by decide) rfl (fun ls hl => ?_)
    refine lv_aload_n hx hb dX6_judge_120 rfl (lv_at hl 1 rfl) ?_
    obtain ⟨o3, ho4, hm⟩ := bd_s hm
    refine xr_v (wr := [((am 1), eI cA 8 t_shelf), ((am 3), eI cA 8 t_rowSize), ((am 4), eOJ cA am 5), (am 5, eJ cA 40 (t_rows_R 0)), (am 6, eJ cA 40 (t_rows_R 1)), (am 7, eJ cA 40 (t_rows_R 2)), (am 8, eJ cA 40 (t_rows_R 3)), (am 9, eJ cA 40 (t_rows_R 4)), (am 10, eJ cA 40 (t_rows_R 5)), (am 11, eJ cA 40 (t_rows_R 6)), (am 12, eJ cA 40 (t_rows_R 7)), ((am 16), eI cA 8 t_refused), ((am 17), eI cA 8 t_kind), ((am 19), eI cA 8 t_pitch), ((am 21), eI cA 12 t_word), ((am 22), eI cA 13 t_heard)]) (wn := [((am 0), e_X6 am tkv ttv o3 t_L), ((am 1), eI cA 8 t_shelf), ((am 3), eI cA 8 t_rowSize), ((am 4), eOJ cA am 5), (am 5, eJ cA 40 (t_rows_R 0)), (am 6, eJ cA 40 (t_rows_R 1)), (am 7, eJ cA 40 (t_rows_R 2)), (am 8, eJ cA 40 (t_rows_R 3)), (am 9, eJ cA 40 (t_rows_R 4)), (am 10, eJ cA 40 (t_rows_R 5)), (am 11, eJ cA 40 (t_rows_R 6)), (am 12, eJ cA 40 (t_rows_R 7)), ((am 16), eI cA 8 t_refused), ((am 17), eI cA 8 t_kind), ((am 19), eI cA 8 t_pitch), ((am 21), eI cA 12 t_word), ((am 22), eI cA 13 t_heard)]) (va_runV (As := []) (rest := []) ⟨hx, hb, hml, hown, htg⟩ (c_X6_passes l D cA _ fu am tkv ttv t t_L o3 ho4) (cwV 0 htg (gV q_6_113 q_6_115 q_p6_14 q_1_8 q_6_116) rfl rfl rfl hd_X6_passes ⟨Nat.le_of_ble_eq_true rfl, Nat.le_of_ble_eq_true rfl⟩) (xpV hN hK hP hD [0] rfl (by decide) rfl rfl) rfl rfl hl.1 rfl (lv_room (Nat.le_of_ble_eq_true rfl)) dX6_judge_121 ⟨Nat.zero_le _, Nat.zero_le _⟩) hP hD hS hA [0] [1, 2, 3, 4, 5, 6, 7, 8, 9, 10, 11, 12, 13, 14, 15, 16] [16, 0, 1, 2, 3, 4, 5, 6, 7, 8, 9, 10, 11, 12, 13, 14, 15] rfl rfl (by decide) (by decide) rfl (by decide) (fun H locs hP hD hS => ?_)
    refine lv_iinc (v := (l7 + (1 : Int32))) (lv' := [(7, .int (l7 + (1 : Int32))), (6, .int s0), (0, .ref (am 0)), (3, .int l3), (4, .int l4)]) hx hb dX6_judge_124 hl (k := 4) rfl rfl (by decide) rfl (fun ls hl => ?_)
    refine lv_goto (tgt := 33) hx hb dX6_judge_127 (by decide) ?_
    exact HK_33 _ _ _ _ hm hP hD hS (lv_sub hl [2, 3, 4, 1, 0] rfl)
  have B_105 : ∀ (k_33 : (Int32 × Int32 × Int32 × Int32 × (Nat → Int32) × (Nat → Int32) × (Nat → Int32) × (Nat → Int32)) → Option (Int32 × ((Nat → Int32) × (Nat → Int32) × (Nat → Int32) × (Nat → Int32)))) (HK_33 : ∀ (x : Int32 × Int32 × Int32 × Int32 × (Nat → Int32) × (Nat → Int32) × (Nat → Int32) × (Nat → Int32)) (H : Heap) (locs : List Loc) (ls : Array Slot), k_33 x = some out → va_P D CL [((am 0), e_X6 am tkv ttv x.2.2.2.2.1 t_L), ((am 1), eI cA 8 t_shelf), ((am 3), eI cA 8 t_rowSize), ((am 4), eOJ cA am 5), (am 5, eJ cA 40 (t_rows_R 0)), (am 6, eJ cA 40 (t_rows_R 1)), (am 7, eJ cA 40 (t_rows_R 2)), (am 8, eJ cA 40 (t_rows_R 3)), (am 9, eJ cA 40 (t_rows_R 4)), (am 10, eJ cA 40 (t_rows_R 5)), (am 11, eJ cA 40 (t_rows_R 6)), (am 12, eJ cA 40 (t_rows_R 7)), ((am 16), eI cA 8 x.2.2.2.2.2.1), ((am 17), eI cA 8 t_kind), ((am 19), eI cA 8 t_pitch), ((am 21), eI cA 12 x.2.2.2.2.2.2.1), ((am 22), eI cA 13 x.2.2.2.2.2.2.2)] H → va_D A [((am 0), e_X6 am tkv ttv x.2.2.2.2.1 t_L), ((am 1), eI cA 8 t_shelf), ((am 3), eI cA 8 t_rowSize), ((am 4), eOJ cA am 5), (am 5, eJ cA 40 (t_rows_R 0)), (am 6, eJ cA 40 (t_rows_R 1)), (am 7, eJ cA 40 (t_rows_R 2)), (am 8, eJ cA 40 (t_rows_R 3)), (am 9, eJ cA 40 (t_rows_R 4)), (am 10, eJ cA 40 (t_rows_R 5)), (am 11, eJ cA 40 (t_rows_R 6)), (am 12, eJ cA 40 (t_rows_R 7)), ((am 16), eI cA 8 x.2.2.2.2.2.1), ((am 17), eI cA 8 t_kind), ((am 19), eI cA 8 t_pitch), ((am 21), eI cA 12 x.2.2.2.2.2.2.1), ((am 22), eI cA 13 x.2.2.2.2.2.2.2)] → va_S A s.heap H locs → lv_has ls 11 [(0, .ref (am 0)), (3, .int x.1), (4, .int x.2.1), (6, .int x.2.2.1), (7, .int x.2.2.2.1)] → W p l e rm_X6_judge s m args below meth c H locs 0 0 Q (F0 m 33 ls [])) (l3 : Int32) (l4 : Int32) (l7 : Int32) (s0 : Int32) (t : Nat → Int32) (t_refused : Nat → Int32) (t_word : Nat → Int32) (t_heard : Nat → Int32) (H : Heap) (locs : List Loc) (ls : Array Slot), b_X6_judge_105 fu t_L t_shelf t_rowSize t_rows_R t_kind t_pitch k_33 l3 l4 l7 s0 t t_refused t_word t_heard = some out → va_P D CL [((am 0), e_X6 am tkv ttv t t_L), ((am 1), eI cA 8 t_shelf), ((am 3), eI cA 8 t_rowSize), ((am 4), eOJ cA am 5), (am 5, eJ cA 40 (t_rows_R 0)), (am 6, eJ cA 40 (t_rows_R 1)), (am 7, eJ cA 40 (t_rows_R 2)), (am 8, eJ cA 40 (t_rows_R 3)), (am 9, eJ cA 40 (t_rows_R 4)), (am 10, eJ cA 40 (t_rows_R 5)), (am 11, eJ cA 40 (t_rows_R 6)), (am 12, eJ cA 40 (t_rows_R 7)), ((am 16), eI cA 8 t_refused), ((am 17), eI cA 8 t_kind), ((am 19), eI cA 8 t_pitch), ((am 21), eI cA 12 t_word), ((am 22), eI cA 13 t_heard)] H → va_D A [((am 0), e_X6 am tkv ttv t t_L), ((am 1), eI cA 8 t_shelf), ((am 3), eI cA 8 t_rowSize), ((am 4), eOJ cA am 5), (am 5, eJ cA 40 (t_rows_R 0)), (am 6, eJ cA 40 (t_rows_R 1)), (am 7, eJ cA 40 (t_rows_R 2)), (am 8, eJ cA 40 (t_rows_R 3)), (am 9, eJ cA 40 (t_rows_R 4)), (am 10, eJ cA 40 (t_rows_R 5)), (am 11, eJ cA 40 (t_rows_R 6)), (am 12, eJ cA 40 (t_rows_R 7)), ((am 16), eI cA 8 t_refused), ((am 17), eI cA 8 t_kind), ((am 19), eI cA 8 t_pitch), ((am 21), eI cA 12 t_word), ((am 22), eI cA 13 t_heard)] → va_S A s.heap H locs → lv_has ls 11 [(0, .ref (am 0)), (3, .int l3), (4, .int l4), (7, .int l7)] → W p l e rm_X6_judge s m args below meth c H locs 0 0 Q (F0 m 105 ls [.int s0]) := by
    intro k_33 HK_33 l3 l4 l7 s0 t t_refused t_word t_heard H locs ls hm hP hD hS hl
    unfold b_X6_judge_105 at hm
    refine lv_istore (lv' := [(10, .int s0), (0, .ref (am 0)), (3, .int l3), (4, .int l4), (7, .int l7)]) hx hb dX6_judge_105 hl (by decide) rfl (fun ls hl => ?_)
    refine lv_iload hx hb dX6_judge_107 (lv_at hl 0 rfl) ?_
    refine lv_if_eq (tgt := 116) hx hb dX6_judge_109 (by decide) (fun c5 => ?_) (fun c5 => ?_)
    · have hm := it_t c5 hm
      refine lv_iload hx hb dX6_judge_116 (lv_at hl 4 rfl) ?_
      exact B_118 _ HK_33 _ _ _ _ _ _ _ _ _ _ _ hm hP hD hS (lv_sub hl [1, 2, 3, 4] rfl)
    · have hm := it_f c5 hm
      refine lv_iconst (v := (-1 : Int32)) hx hb dX6_judge_112 (by decide) ?_
      refine lv_goto (tgt := 118) hx hb dX6_judge_113 (by decide) ?_
      exact B_118 _ HK_33 _ _ _ _ _ _ _ _ _ _ _ hm hP hD hS (lv_sub hl [1, 2, 3, 4] rfl)
  have B_104 : ∀ (k_33 : (Int32 × Int32 × Int32 × Int32 × (Nat → Int32) × (Nat → Int32) × (Nat → Int32) × (Nat → Int32)) → Option (Int32 × ((Nat → Int32) × (Nat → Int32) × (Nat → Int32) × (Nat → Int32)))) (HK_33 : ∀ (x : Int32 × Int32 × Int32 × Int32 × (Nat → Int32) × (Nat → Int32) × (Nat → Int32) × (Nat → Int32)) (H : Heap) (locs : List Loc) (ls : Array Slot), k_33 x = some out → va_P D CL [((am 0), e_X6 am tkv ttv x.2.2.2.2.1 t_L), ((am 1), eI cA 8 t_shelf), ((am 3), eI cA 8 t_rowSize), ((am 4), eOJ cA am 5), (am 5, eJ cA 40 (t_rows_R 0)), (am 6, eJ cA 40 (t_rows_R 1)), (am 7, eJ cA 40 (t_rows_R 2)), (am 8, eJ cA 40 (t_rows_R 3)), (am 9, eJ cA 40 (t_rows_R 4)), (am 10, eJ cA 40 (t_rows_R 5)), (am 11, eJ cA 40 (t_rows_R 6)), (am 12, eJ cA 40 (t_rows_R 7)), ((am 16), eI cA 8 x.2.2.2.2.2.1), ((am 17), eI cA 8 t_kind), ((am 19), eI cA 8 t_pitch), ((am 21), eI cA 12 x.2.2.2.2.2.2.1), ((am 22), eI cA 13 x.2.2.2.2.2.2.2)] H → va_D A [((am 0), e_X6 am tkv ttv x.2.2.2.2.1 t_L), ((am 1), eI cA 8 t_shelf), ((am 3), eI cA 8 t_rowSize), ((am 4), eOJ cA am 5), (am 5, eJ cA 40 (t_rows_R 0)), (am 6, eJ cA 40 (t_rows_R 1)), (am 7, eJ cA 40 (t_rows_R 2)), (am 8, eJ cA 40 (t_rows_R 3)), (am 9, eJ cA 40 (t_rows_R 4)), (am 10, eJ cA 40 (t_rows_R 5)), (am 11, eJ cA 40 (t_rows_R 6)), (am 12, eJ cA 40 (t_rows_R 7)), ((am 16), eI cA 8 x.2.2.2.2.2.1), ((am 17), eI cA 8 t_kind), ((am 19), eI cA 8 t_pitch), ((am 21), eI cA 12 x.2.2.2.2.2.2.1), ((am 22), eI cA 13 x.2.2.2.2.2.2.2)] → va_S A s.heap H locs → lv_has ls 11 [(0, .ref (am 0)), (3, .int x.1), (4, .int x.2.1), (6, .int x.2.2.1), (7, .int x.2.2.2.1)] → W p l e rm_X6_judge s m args below meth c H locs 0 0 Q (F0 m 33 ls [])) (l3 : Int32) (l4 : Int32) (l7 : Int32) (t : Nat → Int32) (t_refused : Nat → Int32) (t_word : Nat → Int32) (t_heard : Nat → Int32) (H : Heap) (locs : List Loc) (ls : Array Slot), b_X6_judge_104 fu t_L t_shelf t_rowSize t_rows_R t_kind t_pitch k_33 l3 l4 l7 t t_refused t_word t_heard = some out → va_P D CL [((am 0), e_X6 am tkv ttv t t_L), ((am 1), eI cA 8 t_shelf), ((am 3), eI cA 8 t_rowSize), ((am 4), eOJ cA am 5), (am 5, eJ cA 40 (t_rows_R 0)), (am 6, eJ cA 40 (t_rows_R 1)), (am 7, eJ cA 40 (t_rows_R 2)), (am 8, eJ cA 40 (t_rows_R 3)), (am 9, eJ cA 40 (t_rows_R 4)), (am 10, eJ cA 40 (t_rows_R 5)), (am 11, eJ cA 40 (t_rows_R 6)), (am 12, eJ cA 40 (t_rows_R 7)), ((am 16), eI cA 8 t_refused), ((am 17), eI cA 8 t_kind), ((am 19), eI cA 8 t_pitch), ((am 21), eI cA 12 t_word), ((am 22), eI cA 13 t_heard)] H → va_D A [((am 0), e_X6 am tkv ttv t t_L), ((am 1), eI cA 8 t_shelf), ((am 3), eI cA 8 t_rowSize), ((am 4), eOJ cA am 5), (am 5, eJ cA 40 (t_rows_R 0)), (am 6, eJ cA 40 (t_rows_R 1)), (am 7, eJ cA 40 (t_rows_R 2)), (am 8, eJ cA 40 (t_rows_R 3)), (am 9, eJ cA 40 (t_rows_R 4)), (am 10, eJ cA 40 (t_rows_R 5)), (am 11, eJ cA 40 (t_rows_R 6)), (am 12, eJ cA 40 (t_rows_R 7)), ((am 16), eI cA 8 t_refused), ((am 17), eI cA 8 t_kind), ((am 19), eI cA 8 t_pitch), ((am 21), eI cA 12 t_word), ((am 22), eI cA 13 t_heard)] → va_S A s.heap H locs → lv_has ls 11 [(0, .ref (am 0)), (3, .int l3), (4, .int l4), (7, .int l7)] → W p l e rm_X6_judge s m args below meth c H locs 0 0 Q (F0 m 104 ls []) := by
    intro k_33 HK_33 l3 l4 l7 t t_refused t_word t_heard H locs ls hm hP hD hS hl
    unfold b_X6_judge_104 at hm
    refine lv_iconst (v := (0 : Int32)) hx hb dX6_judge_104 (by decide) ?_
    exact B_105 _ HK_33 _ _ _ _ _ _ _ _ _ _ _ hm hP hD hS (lv_sub hl [0, 1, 2, 3] rfl)
  have B_33 : ∀ (n : Nat) (x : Int32 × Int32 × Int32 × Int32 × (Nat → Int32) × (Nat → Int32) × (Nat → Int32) × (Nat → Int32)) (H : Heap) (locs : List Loc) (ls : Array Slot), lfix (b_X6_judge_33 fu t_L t_shelf t_rowSize t_rows_R t_kind t_pitch) n x = some out → va_P D CL [((am 0), e_X6 am tkv ttv x.2.2.2.2.1 t_L), ((am 1), eI cA 8 t_shelf), ((am 3), eI cA 8 t_rowSize), ((am 4), eOJ cA am 5), (am 5, eJ cA 40 (t_rows_R 0)), (am 6, eJ cA 40 (t_rows_R 1)), (am 7, eJ cA 40 (t_rows_R 2)), (am 8, eJ cA 40 (t_rows_R 3)), (am 9, eJ cA 40 (t_rows_R 4)), (am 10, eJ cA 40 (t_rows_R 5)), (am 11, eJ cA 40 (t_rows_R 6)), (am 12, eJ cA 40 (t_rows_R 7)), ((am 16), eI cA 8 x.2.2.2.2.2.1), ((am 17), eI cA 8 t_kind), ((am 19), eI cA 8 t_pitch), ((am 21), eI cA 12 x.2.2.2.2.2.2.1), ((am 22), eI cA 13 x.2.2.2.2.2.2.2)] H → va_D A [((am 0), e_X6 am tkv ttv x.2.2.2.2.1 t_L), ((am 1), eI cA 8 t_shelf), ((am 3), eI cA 8 t_rowSize), ((am 4), eOJ cA am 5), (am 5, eJ cA 40 (t_rows_R 0)), (am 6, eJ cA 40 (t_rows_R 1)), (am 7, eJ cA 40 (t_rows_R 2)), (am 8, eJ cA 40 (t_rows_R 3)), (am 9, eJ cA 40 (t_rows_R 4)), (am 10, eJ cA 40 (t_rows_R 5)), (am 11, eJ cA 40 (t_rows_R 6)), (am 12, eJ cA 40 (t_rows_R 7)), ((am 16), eI cA 8 x.2.2.2.2.2.1), ((am 17), eI cA 8 t_kind), ((am 19), eI cA 8 t_pitch), ((am 21), eI cA 12 x.2.2.2.2.2.2.1), ((am 22), eI cA 13 x.2.2.2.2.2.2.2)] → va_S A s.heap H locs → lv_has ls 11 [(0, .ref (am 0)), (3, .int x.1), (4, .int x.2.1), (6, .int x.2.2.1), (7, .int x.2.2.2.1)] → W p l e rm_X6_judge s m args below meth c H locs 0 0 Q (F0 m 33 ls []) := by
    intro  n
    induction n with
    | zero => intro x H locs ls hm; cases (show none = some out from hm)
    | succ n HK_33 =>
      intro x H locs ls hm hP hD hS hl
      replace hm : b_X6_judge_33 fu t_L t_shelf t_rowSize t_rows_R t_kind t_pitch (lfix (b_X6_judge_33 fu t_L t_shelf t_rowSize t_rows_R t_kind t_pitch) n) x = some out := hm
      unfold b_X6_judge_33 at hm
      refine lv_iload hx hb dX6_judge_33 (lv_at hl 4 rfl) ?_
      refine lv_iload hx hb dX6_judge_35 (lv_at hl 2 rfl) ?_
      refine lv_icmp_ge (tgt := 130) hx hb dX6_judge_37 (by decide) (fun c6 => ?_) (fun c6 => ?_)
      · have hm := it_t c6 hm
        exact B_130 _ _ _ _ _ _ _ _ hm hP hD hS (lv_sub hl [0, 3] rfl)
      · have hm := it_f c6 hm
        refine lv_iload hx hb dX6_judge_40 (lv_at hl 3 rfl) ?_
        refine lv_iconst (v := (-1 : Int32)) hx hb dX6_judge_42 (by decide) ?_
        refine lv_icmp_ne (tgt := 130) hx hb dX6_judge_43 (by decide) (fun c7 => ?_) (fun c7 => ?_)
        · have hm := it_f c7 hm
          exact B_130 _ _ _ _ _ _ _ _ hm hP hD hS (lv_sub hl [0, 3] rfl)
        · have hm := it_t c7 hm
          refine lv_aload_n hx hb dX6_judge_46 rfl (lv_at hl 0 rfl) ?_
          refine va_get (D := D) (ci := 6) (v := .ref (am 4)) (C := RX6) (T := TX6) (N := 49) hx hb htg inX6 hown hK hP 0 rfl rfl 3 (by decide) (htg _ q_4_192) (fun _ h9 => h9) rfl dX6_judge_47 ?_
          refine lv_iload_n hx hb dX6_judge_50 rfl (lv_at hl 1 rfl) ?_
          obtain ⟨hi8, hm⟩ := gd_s hm
          refine va_ald2 hx hb hK hP 3 3 rfl rfl hi8 dX6_judge_51 ?_
          rw [show (va_rf ((fun i => if i < 8 then some (am (5 + i)) else none) x.1.toNatClampNeg)) = Value.ref (am (5 + x.1.toNatClampNeg)) from rf_lt (inb_lt hi8)]
          refine lv_iconst (v := (2 : Int32)) hx hb dX6_judge_52 (by decide) ?_
          refine lv_iload hx hb dX6_judge_53 (lv_at hl 4 rfl) ?_
          refine lv_imul hx hb dX6_judge_55 ?_
          obtain ⟨hj10, hm⟩ := gd_s hm
          obtain ⟨hi9, hm⟩ := gd_s hm
          have hq11 : ([((am 0), e_X6 am tkv ttv x.2.2.2.2.1 t_L), ((am 1), eI cA 8 t_shelf), ((am 3), eI cA 8 t_rowSize), ((am 4), eOJ cA am 5), (am 5, eJ cA 40 (t_rows_R 0)), (am 6, eJ cA 40 (t_rows_R 1)), (am 7, eJ cA 40 (t_rows_R 2)), (am 8, eJ cA 40 (t_rows_R 3)), (am 9, eJ cA 40 (t_rows_R 4)), (am 10, eJ cA 40 (t_rows_R 5)), (am 11, eJ cA 40 (t_rows_R 6)), (am 12, eJ cA 40 (t_rows_R 7)), ((am 16), eI cA 8 x.2.2.2.2.2.1), ((am 17), eI cA 8 t_kind), ((am 19), eI cA 8 t_pitch), ((am 21), eI cA 12 x.2.2.2.2.2.2.1), ((am 22), eI cA 13 x.2.2.2.2.2.2.2)] : va_W)[4 + x.1.toNatClampNeg]? = some (am (5 + x.1.toNatClampNeg), eJ cA 40 (t_rows_R x.1.toNatClampNeg)) := by
            have hj8 := inb_lt hj10
            generalize x.1.toNatClampNeg = j at hj8 ⊢
            rcases (show j = 0 ∨ j = 1 ∨ j = 2 ∨ j = 3 ∨ j = 4 ∨ j = 5 ∨ j = 6 ∨ j = 7 by omega) with rfl | rfl | rfl | rfl | rfl | rfl | rfl | rfl <;> rfl
          refine va_lald hx hb hK hP (4 + x.1.toNatClampNeg) 1 hq11 rfl hi9 dX6_judge_56 ?_
          refine lv_lstore (lv' := [(8, .long (t_rows_R x.1.toNatClampNeg ((2 : Int32) * x.2.2.2.1).toNatClampNeg)), (0, .ref (am 0)), (3, .int x.1), (4, .int x.2.1), (6, .int x.2.2.1), (7, .int x.2.2.2.1)]) hx hb dX6_judge_57 hl (by decide) rfl (fun ls hl => ?_)
          refine lv_lload hx hb dX6_judge_59 (lv_at hl 0 rfl) ?_
          refine lv_lconst (v := (0 : Int64)) hx hb dX6_judge_61 (by decide) ?_
          refine lv_aload_n hx hb dX6_judge_62 rfl (lv_at hl 1 rfl) ?_
          refine va_get (D := D) (ci := 6) (v := .int (x.2.2.2.2.1 16)) (C := RX6) (T := TX6) (N := 49) hx hb htg inX6 hown hK hP 0 rfl rfl 16 (by decide) (htg _ q_4_205) (fun _ h9 => h9) rfl dX6_judge_63 ?_
          refine lv_iconst (v := (1 : Int32)) hx hb dX6_judge_66 (by decide) ?_
          refine lv_isub hx hb dX6_judge_67 ?_
          refine lv_i2l hx hb dX6_judge_68 rfl ?_
          obtain ⟨o12, ho13, hm⟩ := bd_s hm
          refine xr_i (wr := [((am 0), e_X6 am tkv ttv x.2.2.2.2.1 t_L), ((am 1), eI cA 8 t_shelf), ((am 3), eI cA 8 t_rowSize), ((am 4), eOJ cA am 5), (am 5, eJ cA 40 (t_rows_R 0)), (am 6, eJ cA 40 (t_rows_R 1)), (am 7, eJ cA 40 (t_rows_R 2)), (am 8, eJ cA 40 (t_rows_R 3)), (am 9, eJ cA 40 (t_rows_R 4)), (am 10, eJ cA 40 (t_rows_R 5)), (am 11, eJ cA 40 (t_rows_R 6)), (am 12, eJ cA 40 (t_rows_R 7)), ((am 16), eI cA 8 x.2.2.2.2.2.1), ((am 17), eI cA 8 t_kind), ((am 19), eI cA 8 t_pitch), ((am 21), eI cA 12 x.2.2.2.2.2.2.1), ((am 22), eI cA 13 x.2.2.2.2.2.2.2)]) (wn := [((am 0), e_X6 am tkv ttv x.2.2.2.2.1 t_L), ((am 1), eI cA 8 t_shelf), ((am 3), eI cA 8 t_rowSize), ((am 4), eOJ cA am 5), (am 5, eJ cA 40 (t_rows_R 0)), (am 6, eJ cA 40 (t_rows_R 1)), (am 7, eJ cA 40 (t_rows_R 2)), (am 8, eJ cA 40 (t_rows_R 3)), (am 9, eJ cA 40 (t_rows_R 4)), (am 10, eJ cA 40 (t_rows_R 5)), (am 11, eJ cA 40 (t_rows_R 6)), (am 12, eJ cA 40 (t_rows_R 7)), ((am 16), eI cA 8 x.2.2.2.2.2.1), ((am 17), eI cA 8 t_kind), ((am 19), eI cA 8 t_pitch), ((am 21), eI cA 12 x.2.2.2.2.2.2.1), ((am 22), eI cA 13 x.2.2.2.2.2.2.2)]) (va_runS (As := [.long (t_rows_R x.1.toNatClampNeg ((2 : Int32) * x.2.2.2.1).toNatClampNeg), .long (0 : Int64), .long ((x.2.2.2.2.1 16 - (1 : Int32)).toInt64)]) (rest := []) ⟨hx, hb, hml, hown, htg⟩ (c_X6_in l D cA _ fu (t_rows_R x.1.toNatClampNeg ((2 : Int32) * x.2.2.2.1).toNatClampNeg) (0 : Int64) ((x.2.2.2.2.1 16 - (1 : Int32)).toInt64) o12 ho13) (cwS 3 htg (gS q_5_103 q_5_104 q_1_8 q_5_105) rfl rfl rfl hd_X6_in ⟨Nat.le_of_ble_eq_true rfl, Nat.le_of_ble_eq_true rfl⟩) (xpS hN hK hP hD [] rfl (by decide)) rfl rfl hl.1 rfl (lv_room (Nat.le_of_ble_eq_true rfl)) dX6_judge_69 ⟨Nat.zero_le _, Nat.zero_le _⟩) hP hD hS hA [] [0, 1, 2, 3, 4, 5, 6, 7, 8, 9, 10, 11, 12, 13, 14, 15, 16] [0, 1, 2, 3, 4, 5, 6, 7, 8, 9, 10, 11, 12, 13, 14, 15, 16] rfl rfl (by decide) (by decide) rfl (by decide) (fun H locs hP hD hS => ?_)
          refine lv_if_eq (tgt := 104) hx hb dX6_judge_72 (by decide) (fun c14 => ?_) (fun c14 => ?_)
          · have hm := it_t c14 hm
            exact B_104 _ HK_33 _ _ _ _ _ _ _ _ _ _ hm hP hD hS (lv_sub hl [1, 2, 3, 5] rfl)
          · have hm := it_f c14 hm
            refine lv_aload_n hx hb dX6_judge_75 rfl (lv_at hl 1 rfl) ?_
            refine lv_lload hx hb dX6_judge_76 (lv_at hl 0 rfl) ?_
            refine lv_l2i hx hb dX6_judge_78 rfl ?_
            obtain ⟨o15, ho16, hm⟩ := bd_s hm
            refine xr_i (wr := [((am 1), eI cA 8 t_shelf), ((am 3), eI cA 8 t_rowSize), ((am 4), eOJ cA am 5), (am 5, eJ cA 40 (t_rows_R 0)), (am 6, eJ cA 40 (t_rows_R 1)), (am 7, eJ cA 40 (t_rows_R 2)), (am 8, eJ cA 40 (t_rows_R 3)), (am 9, eJ cA 40 (t_rows_R 4)), (am 10, eJ cA 40 (t_rows_R 5)), (am 11, eJ cA 40 (t_rows_R 6)), (am 12, eJ cA 40 (t_rows_R 7)), ((am 16), eI cA 8 x.2.2.2.2.2.1)]) (wn := [((am 0), e_X6 am tkv ttv o15.2.1 t_L), ((am 1), eI cA 8 t_shelf), ((am 3), eI cA 8 t_rowSize), ((am 4), eOJ cA am 5), (am 5, eJ cA 40 (t_rows_R 0)), (am 6, eJ cA 40 (t_rows_R 1)), (am 7, eJ cA 40 (t_rows_R 2)), (am 8, eJ cA 40 (t_rows_R 3)), (am 9, eJ cA 40 (t_rows_R 4)), (am 10, eJ cA 40 (t_rows_R 5)), (am 11, eJ cA 40 (t_rows_R 6)), (am 12, eJ cA 40 (t_rows_R 7)), ((am 16), eI cA 8 x.2.2.2.2.2.1), ((am 17), eI cA 8 t_kind), ((am 19), eI cA 8 t_pitch), ((am 21), eI cA 12 x.2.2.2.2.2.2.1), ((am 22), eI cA 13 o15.2.2)]) (va_runV (As := [.int ((t_rows_R x.1.toNatClampNeg ((2 : Int32) * x.2.2.2.1).toNatClampNeg).toInt32)]) (rest := []) ⟨hx, hb, hml, hown, htg⟩ (c_X6_weighedOf l D cA _ fu am tkv ttv x.2.2.2.2.1 t_L t_kind t_pitch x.2.2.2.2.2.2.1 x.2.2.2.2.2.2.2 ((t_rows_R x.1.toNatClampNeg ((2 : Int32) * x.2.2.2.1).toNatClampNeg).toInt32) o15 ho16) (cwV 1 htg (gV q_6_65 q_6_67 q_p6_10 q_1_8 q_6_68) rfl rfl rfl hd_X6_weighedOf ⟨Nat.le_of_ble_eq_true rfl, Nat.le_of_ble_eq_true rfl⟩) (xpV hN hK hP hD [0, 13, 14, 15, 16] rfl (by decide) rfl rfl) rfl rfl hl.1 rfl (lv_room (Nat.le_of_ble_eq_true rfl)) dX6_judge_79 ⟨Nat.zero_le _, Nat.zero_le _⟩) hP hD hS hA [0, 13, 14, 15, 16] [1, 2, 3, 4, 5, 6, 7, 8, 9, 10, 11, 12] [12, 0, 1, 2, 3, 4, 5, 6, 7, 8, 9, 10, 11, 13, 14, 15, 16] rfl rfl (by decide) (by decide) rfl (by decide) (fun H locs hP hD hS => ?_)
            refine lv_i2l hx hb dX6_judge_82 rfl ?_
            refine lv_aload_n hx hb dX6_judge_83 rfl (lv_at hl 1 rfl) ?_
            refine va_get (D := D) (ci := 6) (v := .ref (am 4)) (C := RX6) (T := TX6) (N := 49) hx hb htg inX6 hown hK hP 0 rfl rfl 3 (by decide) (htg _ q_4_192) (fun _ h9 => h9) rfl dX6_judge_84 ?_
            refine lv_iload_n hx hb dX6_judge_87 rfl (lv_at hl 2 rfl) ?_
            obtain ⟨hi17, hm⟩ := gd_s hm
            refine va_ald2 hx hb hK hP 3 3 rfl rfl hi17 dX6_judge_88 ?_
            rw [show (va_rf ((fun i => if i < 8 then some (am (5 + i)) else none) x.1.toNatClampNeg)) = Value.ref (am (5 + x.1.toNatClampNeg)) from rf_lt (inb_lt hi17)]
            refine lv_iconst (v := (2 : Int32)) hx hb dX6_judge_89 (by decide) ?_
            refine lv_iload hx hb dX6_judge_90 (lv_at hl 5 rfl) ?_
            refine lv_imul hx hb dX6_judge_92 ?_
            refine lv_iconst (v := (1 : Int32)) hx hb dX6_judge_93 (by decide) ?_
            refine lv_iadd hx hb dX6_judge_94 ?_
            obtain ⟨hj19, hm⟩ := gd_s hm
            obtain ⟨hi18, hm⟩ := gd_s hm
            have hq20 : ([((am 0), e_X6 am tkv ttv o15.2.1 t_L), ((am 1), eI cA 8 t_shelf), ((am 3), eI cA 8 t_rowSize), ((am 4), eOJ cA am 5), (am 5, eJ cA 40 (t_rows_R 0)), (am 6, eJ cA 40 (t_rows_R 1)), (am 7, eJ cA 40 (t_rows_R 2)), (am 8, eJ cA 40 (t_rows_R 3)), (am 9, eJ cA 40 (t_rows_R 4)), (am 10, eJ cA 40 (t_rows_R 5)), (am 11, eJ cA 40 (t_rows_R 6)), (am 12, eJ cA 40 (t_rows_R 7)), ((am 16), eI cA 8 x.2.2.2.2.2.1), ((am 17), eI cA 8 t_kind), ((am 19), eI cA 8 t_pitch), ((am 21), eI cA 12 x.2.2.2.2.2.2.1), ((am 22), eI cA 13 o15.2.2)] : va_W)[4 + x.1.toNatClampNeg]? = some (am (5 + x.1.toNatClampNeg), eJ cA 40 (t_rows_R x.1.toNatClampNeg)) := by
              have hj8 := inb_lt hj19
              generalize x.1.toNatClampNeg = j at hj8 ⊢
              rcases (show j = 0 ∨ j = 1 ∨ j = 2 ∨ j = 3 ∨ j = 4 ∨ j = 5 ∨ j = 6 ∨ j = 7 by omega) with rfl | rfl | rfl | rfl | rfl | rfl | rfl | rfl <;> rfl
            refine va_lald hx hb hK hP (4 + x.1.toNatClampNeg) 1 hq20 rfl hi18 dX6_judge_95 ?_
            refine W.lcmp hx hb dX6_judge_96 ?_
            refine lv_if_ne (tgt := 104) hx hb dX6_judge_97 (by decide) (fun c21 => ?_) (fun c21 => ?_)
            · have hm := it_f c21 hm
              exact B_104 _ HK_33 _ _ _ _ _ _ _ _ _ _ hm hP hD hS (lv_sub hl [1, 2, 3, 5] rfl)
            · have hm := it_t c21 hm
              refine lv_iconst (v := (1 : Int32)) hx hb dX6_judge_100 (by decide) ?_
              refine lv_goto (tgt := 105) hx hb dX6_judge_101 (by decide) ?_
              exact B_105 _ HK_33 _ _ _ _ _ _ _ _ _ _ _ hm hP hD hS (lv_sub hl [1, 2, 3, 5] rfl)
  unfold m_X6_judge at hm
  subst hargs
  have hl := lv_entry ([.ref (am 0), .int l1, .int l2, .int l3, .int l4]) (n := 11) (Nat.le_of_ble_eq_true rfl)
  rw [lg_entry_eq]
  generalize (lg_sl ([.ref (am 0), .int l1, .int l2, .int l3, .int l4]) ++ List.replicate (11 - (lg_sl ([.ref (am 0), .int l1, .int l2, .int l3, .int l4])).length) Slot.unset).toArray = ls at hl ⊢
  have hl : lv_has ls 11 [(0, .ref (am 0)), (1, .int l1), (2, .int l2), (3, .int l3), (4, .int l4)] := hl
  refine lv_aload_n hx hb dX6_judge_0 rfl (lv_at hl 0 rfl) ?_
  refine lv_iload_n hx hb dX6_judge_1 rfl (lv_at hl 1 rfl) ?_
  refine lv_iload_n hx hb dX6_judge_2 rfl (lv_at hl 2 rfl) ?_
  refine lv_iload_n hx hb dX6_judge_3 rfl (lv_at hl 3 rfl) ?_
  refine lv_iload hx hb dX6_judge_4 (lv_at hl 4 rfl) ?_
  refine lv_bipush (v := (20 : Int32)) hx hb dX6_judge_6 (by decide) ?_
  refine lv_iconst (v := (2 : Int32)) hx hb dX6_judge_8 (by decide) ?_
  refine lv_iconst (v := (1 : Int32)) hx hb dX6_judge_9 (by decide) ?_
  obtain ⟨o22, ho23, hm⟩ := bd_s hm
  refine xr_i (wr := [((am 17), eI cA 8 t_kind), ((am 19), eI cA 8 t_pitch), ((am 22), eI cA 13 t_heard)]) (wn := [((am 0), e_X6 am tkv ttv o22.2.1 t_L), ((am 1), eI cA 8 t_shelf), ((am 3), eI cA 8 t_rowSize), ((am 4), eOJ cA am 5), (am 5, eJ cA 40 (t_rows_R 0)), (am 6, eJ cA 40 (t_rows_R 1)), (am 7, eJ cA 40 (t_rows_R 2)), (am 8, eJ cA 40 (t_rows_R 3)), (am 9, eJ cA 40 (t_rows_R 4)), (am 10, eJ cA 40 (t_rows_R 5)), (am 11, eJ cA 40 (t_rows_R 6)), (am 12, eJ cA 40 (t_rows_R 7)), ((am 16), eI cA 8 o22.2.2.1), ((am 17), eI cA 8 t_kind), ((am 19), eI cA 8 t_pitch), ((am 21), eI cA 12 o22.2.2.2), ((am 22), eI cA 13 t_heard)]) (va_runV (As := [.int l1, .int l2, .int l3, .int l4, .int (20 : Int32), .int (2 : Int32), .int (1 : Int32)]) (rest := []) ⟨hx, hb, hml, hown, htg⟩ (c_X6_noWords l D cA _ fu am tkv ttv t t_L t_shelf t_rowSize t_rows_R t_refused t_word l1 l2 l3 l4 (20 : Int32) (2 : Int32) (1 : Int32) o22 ho23) (cwV 7 htg (gV q_6_179 q_6_181 q_p7_2 q_1_8 q_6_182) rfl rfl rfl hd_X6_noWords ⟨Nat.le_of_ble_eq_true rfl, Nat.le_of_ble_eq_true rfl⟩) (xpV hN hK hP hD [0, 1, 2, 3, 4, 5, 6, 7, 8, 9, 10, 11, 12, 15] rfl (by decide) rfl rfl) rfl rfl hl.1 rfl (lv_room (Nat.le_of_ble_eq_true rfl)) dX6_judge_10 ⟨Nat.zero_le _, Nat.zero_le _⟩) hP hD hS hA [0, 1, 2, 3, 4, 5, 6, 7, 8, 9, 10, 11, 12, 15] [13, 14, 16] [3, 4, 5, 6, 7, 8, 9, 10, 11, 12, 13, 14, 15, 0, 1, 16, 2] rfl rfl (by decide) (by decide) rfl (by decide) (fun H locs hP hD hS => ?_)
  refine lv_istore (lv' := [(5, .int o22.1), (0, .ref (am 0)), (1, .int l1), (2, .int l2), (3, .int l3), (4, .int l4)]) hx hb dX6_judge_13 hl (by decide) rfl (fun ls hl => ?_)
  refine lv_iload hx hb dX6_judge_15 (lv_at hl 0 rfl) ?_
  refine lv_if_eq (tgt := 23) hx hb dX6_judge_17 (by decide) (fun c24 => ?_) (fun c24 => ?_)
  · have hm := it_t c24 hm
    refine lv_aload_n hx hb dX6_judge_23 rfl (lv_at hl 1 rfl) ?_
    obtain ⟨o25, ho26, hm⟩ := bd_s hm
    refine xr_v (wr := [((am 1), eI cA 8 t_shelf), ((am 3), eI cA 8 t_rowSize), ((am 4), eOJ cA am 5), (am 5, eJ cA 40 (t_rows_R 0)), (am 6, eJ cA 40 (t_rows_R 1)), (am 7, eJ cA 40 (t_rows_R 2)), (am 8, eJ cA 40 (t_rows_R 3)), (am 9, eJ cA 40 (t_rows_R 4)), (am 10, eJ cA 40 (t_rows_R 5)), (am 11, eJ cA 40 (t_rows_R 6)), (am 12, eJ cA 40 (t_rows_R 7)), ((am 16), eI cA 8 o22.2.2.1), ((am 17), eI cA 8 t_kind), ((am 19), eI cA 8 t_pitch), ((am 21), eI cA 12 o22.2.2.2), ((am 22), eI cA 13 t_heard)]) (wn := [((am 0), e_X6 am tkv ttv o25 t_L), ((am 1), eI cA 8 t_shelf), ((am 3), eI cA 8 t_rowSize), ((am 4), eOJ cA am 5), (am 5, eJ cA 40 (t_rows_R 0)), (am 6, eJ cA 40 (t_rows_R 1)), (am 7, eJ cA 40 (t_rows_R 2)), (am 8, eJ cA 40 (t_rows_R 3)), (am 9, eJ cA 40 (t_rows_R 4)), (am 10, eJ cA 40 (t_rows_R 5)), (am 11, eJ cA 40 (t_rows_R 6)), (am 12, eJ cA 40 (t_rows_R 7)), ((am 16), eI cA 8 o22.2.2.1), ((am 17), eI cA 8 t_kind), ((am 19), eI cA 8 t_pitch), ((am 21), eI cA 12 o22.2.2.2), ((am 22), eI cA 13 t_heard)]) (va_runV (As := []) (rest := []) ⟨hx, hb, hml, hown, htg⟩ (c_X6_keeps l D cA _ fu am tkv ttv o22.2.1 t_L o25 ho26) (cwV 0 htg (gV q_6_109 q_6_111 q_p6_13 q_1_8 q_6_112) rfl rfl rfl hd_X6_keeps ⟨Nat.le_of_ble_eq_true rfl, Nat.le_of_ble_eq_true rfl⟩) (xpV hN hK hP hD [0] rfl (by decide) rfl rfl) rfl rfl hl.1 rfl (lv_room (Nat.le_of_ble_eq_true rfl)) dX6_judge_24 ⟨Nat.zero_le _, Nat.zero_le _⟩) hP hD hS hA [0] [1, 2, 3, 4, 5, 6, 7, 8, 9, 10, 11, 12, 13, 14, 15, 16] [16, 0, 1, 2, 3, 4, 5, 6, 7, 8, 9, 10, 11, 12, 13, 14, 15] rfl rfl (by decide) (by decide) rfl (by decide) (fun H locs hP hD hS => ?_)
    refine lv_iconst (v := (-1 : Int32)) hx hb dX6_judge_27 (by decide) ?_
    refine lv_istore (lv' := [(6, .int (-1 : Int32)), (5, .int o22.1), (0, .ref (am 0)), (1, .int l1), (2, .int l2), (3, .int l3), (4, .int l4)]) hx hb dX6_judge_28 hl (by decide) rfl (fun ls hl => ?_)
    refine lv_iconst (v := (0 : Int32)) hx hb dX6_judge_30 (by decide) ?_
    refine lv_istore (lv' := [(7, .int (0 : Int32)), (6, .int (-1 : Int32)), (5, .int o22.1), (0, .ref (am 0)), (1, .int l1), (2, .int l2), (3, .int l3), (4, .int l4)]) hx hb dX6_judge_31 hl (by decide) rfl (fun ls hl => ?_)
    exact B_33 fu _ _ _ _ hm hP hD hS (lv_sub hl [3, 6, 7, 1, 0] rfl)
  · have hm := it_f c24 hm
    refine lv_iload hx hb dX6_judge_20 (lv_at hl 0 rfl) ?_
    rw [hQ]
    exact W.iret (v := o22.1) hx hb hr (fun t9 ht hW => ⟨⟨o22.1, (o22.2.1, o22.2.2.1, o22.2.2.2, t_heard), rfl, (Option.some.inj hm), by rw [ht]; exact hP, va_K.moved hW.alike hK, hD⟩, hS.F ht⟩) hS.2.2 dX6_judge_22
def b_X6_shouts_40 (fu : Nat) (t_L : Nat → Int64) (t_kind : Nat → Int32) (t_pitch : Nat → Int32) (t_word : Nat → Int32) (l2 : Int32) (s1 : Int32) (s2 : Int32) (t : Nat → Int32) (t_heard : Nat → Int32) : Option (Int32 × ((Nat → Int32) × (Nat → Int32))) :=
  some (l2, ((upd t 15 (s1 + s2)), t_heard))
def b_X6_shouts_21 (fu : Nat) (t_L : Nat → Int64) (t_kind : Nat → Int32) (t_pitch : Nat → Int32) (t_word : Nat → Int32) (l2 : Int32) (s1 : Int32) (s2 : Int32) (t : Nat → Int32) (t_heard : Nat → Int32) : Option (Int32 × ((Nat → Int32) × (Nat → Int32))) :=
  (if l2 = (1 : Int32) then
      b_X6_shouts_40 fu t_L t_kind t_pitch t_word l2 (t 15) (0 : Int32) (upd t 14 (s1 + s2)) t_heard
    else
      b_X6_shouts_40 fu t_L t_kind t_pitch t_word l2 (t 15) (1 : Int32) (upd t 14 (s1 + s2)) t_heard)
def m_X6_shouts (fu : Nat) (t : Nat → Int32) (t_L : Nat → Int64) (t_kind : Nat → Int32) (t_pitch : Nat → Int32) (t_word : Nat → Int32) (t_heard : Nat → Int32) (l1 : Int32) : Option (Int32 × ((Nat → Int32) × (Nat → Int32))) :=
  (m_X6_weighedOf fu t t_L t_kind t_pitch t_word t_heard l1).bind fun o2 =>
  (if o2.1 = (1 : Int32) then
    b_X6_shouts_21 fu t_L t_kind t_pitch t_word o2.1 (o2.2.1 14) (1 : Int32) o2.2.1 o2.2.2
  else
    b_X6_shouts_21 fu t_L t_kind t_pitch t_word o2.1 (o2.2.1 14) (0 : Int32) o2.2.1 o2.2.2)
abbrev rm_X6_shouts : Room := ({ frames := 5, cells := 0, slots := 0, locals := 115 } : Room)
abbrev w0_X6_shouts (cA : Nat → ClassId) (am : Nat → Nat) (tkv : Value) (ttv : Value) (t : Nat → Int32) (t_L : Nat → Int64) (t_kind : Nat → Int32) (t_pitch : Nat → Int32) (t_word : Nat → Int32) (t_heard : Nat → Int32) : va_W := [((am 0), e_X6 am tkv ttv t t_L), ((am 17), eI cA 8 t_kind), ((am 19), eI cA 8 t_pitch), ((am 21), eI cA 12 t_word), ((am 22), eI cA 13 t_heard)]
abbrev w1_X6_shouts (cA : Nat → ClassId) (am : Nat → Nat) (tkv : Value) (ttv : Value) (t_L : Nat → Int64) (t_kind : Nat → Int32) (t_pitch : Nat → Int32) (t_word : Nat → Int32) (u : (Nat → Int32) × (Nat → Int32)) : va_W := [((am 0), e_X6 am tkv ttv u.1 t_L), ((am 17), eI cA 8 t_kind), ((am 19), eI cA 8 t_pitch), ((am 21), eI cA 12 t_word), ((am 22), eI cA 13 u.2)]
theorem hd_X6_shouts : yX6_shouts.cls = RX6 ∧ yX6_shouts.cls ≠ "java/lang/invoke/MethodHandle" ∧ yX6_shouts.cls ≠ "java/lang/invoke/VarHandle" ∧ (parseMethodDescriptor yX6_shouts.desc).map (fun d => d.parameters.length) = some 1 := by decide +kernel
set_option maxHeartbeats 40000000 in
set_option maxRecDepth 100000 in
theorem c_X6_shouts (l : Launch) (D : va_G) (cA : Nat → ClassId) (sz : Nat) (fu : Nat) (am : Nat → Nat) (tkv : Value) (ttv : Value) (t : Nat → Int32) (t_L : Nat → Int64) (t_kind : Nat → Int32) (t_pitch : Nat → Int32) (t_word : Nat → Int32) (t_heard : Nat → Int32) (l1 : Int32) (out : Int32 × ((Nat → Int32) × (Nat → Int32))) (hm : m_X6_shouts fu t t_L t_kind t_pitch t_word t_heard l1 = some out) : MI l yX6_shouts (wU yX6_shouts cX6_shouts 3 ((Option.some Jvm.ClassFile.FieldType.int))) rm_X6_shouts D cA sz [.ref (am 0), .int l1] (w0_X6_shouts cA am tkv ttv t t_L t_kind t_pitch t_word t_heard) out (w1_X6_shouts cA am tkv ttv t_L t_kind t_pitch t_word) := by
  refine Met.ofW (cc := cX6_shouts) (maxL := 3) (ret := (Option.some Jvm.ClassFile.FieldType.int)) (by decide) rfl ?_
  intro p e s m args below meth c s₁ B hml hv
  obtain ⟨hargs, hsz, hP, hK, hD0, hN⟩ := hv
  have hx := B.exec
  have hb := B.bytes
  have hr := B.returns
  have htg : ∀ w ∈ gw, w.before args s = true := fun w h => atoms_spec (ws := wU yX6_shouts cX6_shouts 3 ((Option.some Jvm.ClassFile.FieldType.int))) B.pre w (List.mem_cons_of_mem _ h)
  have hown : s.vm.findClass RX6 = some m.cls := findClass_of_methodNamed B.named
  have hlocks := B.notSynchronized
  subst hsz
  have hD := hD0.self (sz := s.heap.size)
  have hA : ∀ q : Nat, s.heap.size ≤ q → va_A (w0_X6_shouts cA am tkv ttv t t_L t_kind t_pitch t_word t_heard) s.heap.size q := fun q h => Or.inr h
  have hS : va_S (va_A (w0_X6_shouts cA am tkv ttv t t_L t_kind t_pitch t_word t_heard) s.heap.size) s.heap s.heap [] := va_S.rf
  generalize va_A (w0_X6_shouts cA am tkv ttv t t_L t_kind t_pitch t_word t_heard) s.heap.size = A at hA hD hS ⊢
  obtain ⟨Q, hQ⟩ : ∃ Q : State → Prop, Q = MQ below (va_Qi (fun (r : Int32) (u : (Nat → Int32) × (Nat → Int32)) => (r, u) = out) (pst0 D cA A (w1_X6_shouts cA am tkv ttv t_L t_kind t_pitch t_word)) A) args s 0 0 A := ⟨_, rfl⟩
  refine (?_ : W p l e rm_X6_shouts s m args below meth c s.heap [] 0 0 (MQ below (va_Qi (fun (r : Int32) (u : (Nat → Int32) × (Nat → Int32)) => (r, u) = out) (pst0 D cA A (w1_X6_shouts cA am tkv ttv t_L t_kind t_pitch t_word)) A) args s 0 0 A) (entryFrame m args 3))
  rw [← hQ]
  have hP : va_P D CL [((am 0), e_X6 am tkv ttv t t_L), ((am 17), eI cA 8 t_kind), ((am 19), eI cA 8 t_pitch), ((am 21), eI cA 12 t_word), ((am 22), eI cA 13 t_heard)] s.heap := hP
  have hD : va_D A [((am 0), e_X6 am tkv ttv t t_L), ((am 17), eI cA 8 t_kind), ((am 19), eI cA 8 t_pitch), ((am 21), eI cA 12 t_word), ((am 22), eI cA 13 t_heard)] := hD
  have B_40 : ∀ (l2 : Int32) (s1 : Int32) (s2 : Int32) (t : Nat → Int32) (t_heard : Nat → Int32) (H : Heap) (locs : List Loc) (ls : Array Slot), b_X6_shouts_40 fu t_L t_kind t_pitch t_word l2 s1 s2 t t_heard = some out → va_P D CL [((am 0), e_X6 am tkv ttv t t_L), ((am 17), eI cA 8 t_kind), ((am 19), eI cA 8 t_pitch), ((am 21), eI cA 12 t_word), ((am 22), eI cA 13 t_heard)] H → va_D A [((am 0), e_X6 am tkv ttv t t_L), ((am 17), eI cA 8 t_kind), ((am 19), eI cA 8 t_pitch), ((am 21), eI cA 12 t_word), ((am 22), eI cA 13 t_heard)] → va_S A s.heap H locs → lv_has ls 3 [(0, .ref (am 0)), (2, .int l2)] → W p l e rm_X6_shouts s m args below meth c H locs 0 0 Q (F0 m 40 ls [.int s2, .int s1, .ref (am 0)]) := by
    intro  l2 s1 s2 t t_heard H locs ls hm hP hD hS hl
    unfold b_X6_shouts_40 at hm
    refine lv_iadd hx hb dX6_shouts_40 ?_
    refine va_put (D := D) (ci := 6) (v := .int (s1 + s2)) (ty := .int) (C := RX6) (T := TX6) (N := 49) hx hb htg inX6 tyX6 tyX6_ok nmX6 hown hK hP hD hS 0 rfl rfl 15 (by decide) (htg _ q_4_204) (fun _ h9 => h9) rfl (by decide +kernel) rfl rfl (Nat.le_of_ble_eq_true rfl) dX6_shouts_41 (fun H locs (hP : va_P D CL [((am 0), e_X6 am tkv ttv (upd t 15 (s1 + s2)) t_L), ((am 17), eI cA 8 t_kind), ((am 19), eI cA 8 t_pitch), ((am 21), eI cA 12 t_word), ((am 22), eI cA 13 t_heard)] H) (hD : va_D A [((am 0), e_X6 am tkv ttv (upd t 15 (s1 + s2)) t_L), ((am 17), eI cA 8 t_kind), ((am 19), eI cA 8 t_pitch), ((am 21), eI cA 12 t_word), ((am 22), eI cA 13 t_heard)]) hS => ?_)
    refine lv_iload_n hx hb dX6_shouts_44 rfl (lv_at hl 1 rfl) ?_
    rw [hQ]
    exact W.iret (v := l2) hx hb hr (fun t9 ht hW => ⟨⟨l2, ((upd t 15 (s1 + s2)), t_heard), rfl, (Option.some.inj hm), by rw [ht]; exact hP, va_K.moved hW.alike hK, hD⟩, hS.F ht⟩) hS.2.2 dX6_shouts_45
  have B_21 : ∀ (l2 : Int32) (s1 : Int32) (s2 : Int32) (t : Nat → Int32) (t_heard : Nat → Int32) (H : Heap) (locs : List Loc) (ls : Array Slot), b_X6_shouts_21 fu t_L t_kind t_pitch t_word l2 s1 s2 t t_heard = some out → va_P D CL [((am 0), e_X6 am tkv ttv t t_L), ((am 17), eI cA 8 t_kind), ((am 19), eI cA 8 t_pitch), ((am 21), eI cA 12 t_word), ((am 22), eI cA 13 t_heard)] H → va_D A [((am 0), e_X6 am tkv ttv t t_L), ((am 17), eI cA 8 t_kind), ((am 19), eI cA 8 t_pitch), ((am 21), eI cA 12 t_word), ((am 22), eI cA 13 t_heard)] → va_S A s.heap H locs → lv_has ls 3 [(0, .ref (am 0)), (2, .int l2)] → W p l e rm_X6_shouts s m args below meth c H locs 0 0 Q (F0 m 21 ls [.int s2, .int s1, .ref (am 0)]) := by
    intro  l2 s1 s2 t t_heard H locs ls hm hP hD hS hl
    unfold b_X6_shouts_21 at hm
    refine lv_iadd hx hb dX6_shouts_21 ?_
    refine va_put (D := D) (ci := 6) (v := .int (s1 + s2)) (ty := .int) (C := RX6) (T := TX6) (N := 49) hx hb htg inX6 tyX6 tyX6_ok nmX6 hown hK hP hD hS 0 rfl rfl 14 (by decide) (htg _ q_4_203) (fun _ h9 => h9) rfl (by decide +kernel) rfl rfl (Nat.le_of_ble_eq_true rfl) dX6_shouts_22 (fun H locs (hP : va_P D CL [((am 0), e_X6 am tkv ttv (upd t 14 (s1 + s2)) t_L), ((am 17), eI cA 8 t_kind), ((am 19), eI cA 8 t_pitch), ((am 21), eI cA 12 t_word), ((am 22), eI cA 13 t_heard)] H) (hD : va_D A [((am 0), e_X6 am tkv ttv (upd t 14 (s1 + s2)) t_L), ((am 17), eI cA 8 t_kind), ((am 19), eI cA 8 t_pitch), ((am 21), eI cA 12 t_word), ((am 22), eI cA 13 t_heard)]) hS => ?_)
    refine lv_aload_n hx hb dX6_shouts_25 rfl (lv_at hl 0 rfl) ?_
    refine lv_dup hx hb dX6_shouts_26 rfl ?_
    refine va_get (D := D) (ci := 6) (v := .int (t 15)) (C := RX6) (T := TX6) (N := 49) hx hb htg inX6 hown hK hP 0 rfl rfl 15 (by decide) (htg _ q_4_204) (fun _ h9 => h9) rfl dX6_shouts_27 ?_
    refine lv_iload_n hx hb dX6_shouts_30 rfl (lv_at hl 1 rfl) ?_
    refine lv_iconst (v := (1 : Int32)) hx hb dX6_shouts_31 (by decide) ?_
    refine lv_icmp_ne (tgt := 39) hx hb dX6_shouts_32 (by decide) (fun c1 => ?_) (fun c1 => ?_)
    · have hm := it_f c1 hm
      refine lv_iconst (v := (1 : Int32)) hx hb dX6_shouts_39 (by decide) ?_
      exact B_40 _ _ _ _ _ _ _ _ hm hP hD hS (lv_sub hl [0, 1] rfl)
    · have hm := it_t c1 hm
      refine lv_iconst (v := (0 : Int32)) hx hb dX6_shouts_35 (by decide) ?_
      refine lv_goto (tgt := 40) hx hb dX6_shouts_36 (by decide) ?_
      exact B_40 _ _ _ _ _ _ _ _ hm hP hD hS (lv_sub hl [0, 1] rfl)
  unfold m_X6_shouts at hm
  subst hargs
  have hl := lv_entry ([.ref (am 0), .int l1]) (n := 3) (Nat.le_of_ble_eq_true rfl)
  rw [lg_entry_eq]
  generalize (lg_sl ([.ref (am 0), .int l1]) ++ List.replicate (3 - (lg_sl ([.ref (am 0), .int l1])).length) Slot.unset).toArray = ls at hl ⊢
  have hl : lv_has ls 3 [(0, .ref (am 0)), (1, .int l1)] := hl
  refine lv_aload_n hx hb dX6_shouts_0 rfl (lv_at hl 0 rfl) ?_
  refine lv_iload_n hx hb dX6_shouts_1 rfl (lv_at hl 1 rfl) ?_
  obtain ⟨o2, ho3, hm⟩ := bd_s hm
  refine xr_i (wr := []) (wn := [((am 0), e_X6 am tkv ttv o2.2.1 t_L), ((am 17), eI cA 8 t_kind), ((am 19), eI cA 8 t_pitch), ((am 21), eI cA 12 t_word), ((am 22), eI cA 13 o2.2.2)]) (va_runV (As := [.int l1]) (rest := []) ⟨hx, hb, hml, hown, htg⟩ (c_X6_weighedOf l D cA _ fu am tkv ttv t t_L t_kind t_pitch t_word t_heard l1 o2 ho3) (cwV 1 htg (gV q_6_65 q_6_67 q_p6_10 q_1_8 q_6_68) rfl rfl rfl hd_X6_weighedOf ⟨Nat.le_of_ble_eq_true rfl, Nat.le_of_ble_eq_true rfl⟩) (xpV hN hK hP hD [0, 1, 2, 3, 4] rfl (by decide) rfl rfl) rfl rfl hl.1 rfl (lv_room (Nat.le_of_ble_eq_true rfl)) dX6_shouts_2 ⟨Nat.zero_le _, Nat.zero_le _⟩) hP hD hS hA [0, 1, 2, 3, 4] [] [0, 1, 2, 3, 4] rfl rfl (by decide) (by decide) rfl (by decide) (fun H locs hP hD hS => ?_)
  refine lv_istore_n (lv' := [(2, .int o2.1), (0, .ref (am 0)), (1, .int l1)]) hx hb dX6_shouts_5 rfl hl (by decide) rfl (fun ls hl => ?_)
  refine lv_aload_n hx hb dX6_shouts_6 rfl (lv_at hl 1 rfl) ?_
  refine lv_dup hx hb dX6_shouts_7 rfl ?_
  refine va_get (D := D) (ci := 6) (v := .int (o2.2.1 14)) (C := RX6) (T := TX6) (N := 49) hx hb htg inX6 hown hK hP 0 rfl rfl 14 (by decide) (htg _ q_4_203) (fun _ h9 => h9) rfl dX6_shouts_8 ?_
  refine lv_iload_n hx hb dX6_shouts_11 rfl (lv_at hl 0 rfl) ?_
  refine lv_iconst (v := (1 : Int32)) hx hb dX6_shouts_12 (by decide) ?_
  refine lv_icmp_ne (tgt := 20) hx hb dX6_shouts_13 (by decide) (fun c4 => ?_) (fun c4 => ?_)
  · have hm := it_f c4 hm
    refine lv_iconst (v := (0 : Int32)) hx hb dX6_shouts_20 (by decide) ?_
    exact B_21 _ _ _ _ _ _ _ _ hm hP hD hS (lv_sub hl [1, 0] rfl)
  · have hm := it_t c4 hm
    refine lv_iconst (v := (1 : Int32)) hx hb dX6_shouts_16 (by decide) ?_
    refine lv_goto (tgt := 21) hx hb dX6_shouts_17 (by decide) ?_
    exact B_21 _ _ _ _ _ _ _ _ hm hP hD hS (lv_sub hl [1, 0] rfl)
def b_X6_shout_30 (fu : Nat) (t_L : Nat → Int64) (t_shelf : Nat → Int32) (t_rowSize : Nat → Int32) (t_rows_R : Nat → Nat → Int64) (t_kind : Nat → Int32) (t_pitch : Nat → Int32) (s0 : Int32) (t : Nat → Int32) (t_refused : Nat → Int32) (t_word : Nat → Int32) (t_heard : Nat → Int32) : Option (Int32 × ((Nat → Int32) × (Nat → Int32) × (Nat → Int32) × (Nat → Int32))) :=
  some (s0, (t, t_refused, t_word, t_heard))
def m_X6_shout (fu : Nat) (t : Nat → Int32) (t_L : Nat → Int64) (t_shelf : Nat → Int32) (t_rowSize : Nat → Int32) (t_rows_R : Nat → Nat → Int64) (t_refused : Nat → Int32) (t_kind : Nat → Int32) (t_pitch : Nat → Int32) (t_word : Nat → Int32) (t_heard : Nat → Int32) (l1 : Int32) (l2 : Int32) (l3 : Int32) : Option (Int32 × ((Nat → Int32) × (Nat → Int32) × (Nat → Int32) × (Nat → Int32))) :=
  (m_X6_isVoice fu t t_L l3).bind fun o1 =>
  (m_X6_noWord fu t t_L t_shelf t_rowSize t_rows_R t_refused t_word l1 l2 (12 : Int32) o1.1).bind fun o3 =>
  (if o3.1 = 0 then
    (m_X6_shouts fu o3.2.1 t_L t_kind t_pitch o3.2.2.2 t_heard l3).bind fun o6 =>
    b_X6_shout_30 fu t_L t_shelf t_rowSize t_rows_R t_kind t_pitch o6.1 o6.2.1 o3.2.2.1 o3.2.2.2 o6.2.2
  else
    b_X6_shout_30 fu t_L t_shelf t_rowSize t_rows_R t_kind t_pitch o3.1 o3.2.1 o3.2.2.1 o3.2.2.2 t_heard)
abbrev rm_X6_shout : Room := ({ frames := 6, cells := 0, slots := 0, locals := 137 } : Room)
abbrev w0_X6_shout (cA : Nat → ClassId) (am : Nat → Nat) (tkv : Value) (ttv : Value) (t : Nat → Int32) (t_L : Nat → Int64) (t_shelf : Nat → Int32) (t_rowSize : Nat → Int32) (t_rows_R : Nat → Nat → Int64) (t_refused : Nat → Int32) (t_kind : Nat → Int32) (t_pitch : Nat → Int32) (t_word : Nat → Int32) (t_heard : Nat → Int32) : va_W := [((am 0), e_X6 am tkv ttv t t_L), ((am 1), eI cA 8 t_shelf), ((am 3), eI cA 8 t_rowSize), ((am 4), eOJ cA am 5), (am 5, eJ cA 40 (t_rows_R 0)), (am 6, eJ cA 40 (t_rows_R 1)), (am 7, eJ cA 40 (t_rows_R 2)), (am 8, eJ cA 40 (t_rows_R 3)), (am 9, eJ cA 40 (t_rows_R 4)), (am 10, eJ cA 40 (t_rows_R 5)), (am 11, eJ cA 40 (t_rows_R 6)), (am 12, eJ cA 40 (t_rows_R 7)), ((am 16), eI cA 8 t_refused), ((am 17), eI cA 8 t_kind), ((am 19), eI cA 8 t_pitch), ((am 21), eI cA 12 t_word), ((am 22), eI cA 13 t_heard)]
abbrev w1_X6_shout (cA : Nat → ClassId) (am : Nat → Nat) (tkv : Value) (ttv : Value) (t_L : Nat → Int64) (t_shelf : Nat → Int32) (t_rowSize : Nat → Int32) (t_rows_R : Nat → Nat → Int64) (t_kind : Nat → Int32) (t_pitch : Nat → Int32) (u : (Nat → Int32) × (Nat → Int32) × (Nat → Int32) × (Nat → Int32)) : va_W := [((am 0), e_X6 am tkv ttv u.1 t_L), ((am 1), eI cA 8 t_shelf), ((am 3), eI cA 8 t_rowSize), ((am 4), eOJ cA am 5), (am 5, eJ cA 40 (t_rows_R 0)), (am 6, eJ cA 40 (t_rows_R 1)), (am 7, eJ cA 40 (t_rows_R 2)), (am 8, eJ cA 40 (t_rows_R 3)), (am 9, eJ cA 40 (t_rows_R 4)), (am 10, eJ cA 40 (t_rows_R 5)), (am 11, eJ cA 40 (t_rows_R 6)), (am 12, eJ cA 40 (t_rows_R 7)), ((am 16), eI cA 8 u.2.1), ((am 17), eI cA 8 t_kind), ((am 19), eI cA 8 t_pitch), ((am 21), eI cA 12 u.2.2.1), ((am 22), eI cA 13 u.2.2.2)]
theorem hd_X6_shout : yX6_shout.cls = RX6 ∧ yX6_shout.cls ≠ "java/lang/invoke/MethodHandle" ∧ yX6_shout.cls ≠ "java/lang/invoke/VarHandle" ∧ (parseMethodDescriptor yX6_shout.desc).map (fun d => d.parameters.length) = some 3 := by decide +kernel
set_option maxHeartbeats 40000000 in
set_option maxRecDepth 100000 in
theorem c_X6_shout (l : Launch) (D : va_G) (cA : Nat → ClassId) (sz : Nat) (fu : Nat) (am : Nat → Nat) (tkv : Value) (ttv : Value) (t : Nat → Int32) (t_L : Nat → Int64) (t_shelf : Nat → Int32) (t_rowSize : Nat → Int32) (t_rows_R : Nat → Nat → Int64) (t_refused : Nat → Int32) (t_kind : Nat → Int32) (t_pitch : Nat → Int32) (t_word : Nat → Int32) (t_heard : Nat → Int32) (l1 : Int32) (l2 : Int32) (l3 : Int32) (out : Int32 × ((Nat → Int32) × (Nat → Int32) × (Nat → Int32) × (Nat → Int32))) (hm : m_X6_shout fu t t_L t_shelf t_rowSize t_rows_R t_refused t_kind t_pitch t_word t_heard l1 l2 l3 = some out) : MI l yX6_shout (wU yX6_shout cX6_shout 5 ((Option.some Jvm.ClassFile.FieldType.int))) rm_X6_shout D cA sz [.ref (am 0), .int l1, .int l2, .int l3] (w0_X6_shout cA am tkv ttv t t_L t_shelf t_rowSize t_rows_R t_refused t_kind t_pitch t_word t_heard) out (w1_X6_shout cA am tkv ttv t_L t_shelf t_rowSize t_rows_R t_kind t_pitch) := by
  refine Met.ofW (cc := cX6_shout) (maxL := 5) (ret := (Option.some Jvm.ClassFile.FieldType.int)) (by decide) rfl ?_
  intro p e s m args below meth c s₁ B hml hv
  obtain ⟨hargs, hsz, hP, hK, hD0, hN⟩ := hv
  have hx := B.exec
  have hb := B.bytes
  have hr := B.returns
  have htg : ∀ w ∈ gw, w.before args s = true := fun w h => atoms_spec (ws := wU yX6_shout cX6_shout 5 ((Option.some Jvm.ClassFile.FieldType.int))) B.pre w (List.mem_cons_of_mem _ h)
  have hown : s.vm.findClass RX6 = some m.cls := findClass_of_methodNamed B.named
  have hlocks := B.notSynchronized
  subst hsz
  have hD := hD0.self (sz := s.heap.size)
  have hA : ∀ q : Nat, s.heap.size ≤ q → va_A (w0_X6_shout cA am tkv ttv t t_L t_shelf t_rowSize t_rows_R t_refused t_kind t_pitch t_word t_heard) s.heap.size q := fun q h => Or.inr h
  have hS : va_S (va_A (w0_X6_shout cA am tkv ttv t t_L t_shelf t_rowSize t_rows_R t_refused t_kind t_pitch t_word t_heard) s.heap.size) s.heap s.heap [] := va_S.rf
  generalize va_A (w0_X6_shout cA am tkv ttv t t_L t_shelf t_rowSize t_rows_R t_refused t_kind t_pitch t_word t_heard) s.heap.size = A at hA hD hS ⊢
  obtain ⟨Q, hQ⟩ : ∃ Q : State → Prop, Q = MQ below (va_Qi (fun (r : Int32) (u : (Nat → Int32) × (Nat → Int32) × (Nat → Int32) × (Nat → Int32)) => (r, u) = out) (pst0 D cA A (w1_X6_shout cA am tkv ttv t_L t_shelf t_rowSize t_rows_R t_kind t_pitch)) A) args s 0 0 A := ⟨_, rfl⟩
  refine (?_ : W p l e rm_X6_shout s m args below meth c s.heap [] 0 0 (MQ below (va_Qi (fun (r : Int32) (u : (Nat → Int32) × (Nat → Int32) × (Nat → Int32) × (Nat → Int32)) => (r, u) = out) (pst0 D cA A (w1_X6_shout cA am tkv ttv t_L t_shelf t_rowSize t_rows_R t_kind t_pitch)) A) args s 0 0 A) (entryFrame m args 5))
  rw [← hQ]
  have hP : va_P D CL [((am 0), e_X6 am tkv ttv t t_L), ((am 1), eI cA 8 t_shelf), ((am 3), eI cA 8 t_rowSize), ((am 4), eOJ cA am 5), (am 5, eJ cA 40 (t_rows_R 0)), (am 6, eJ cA 40 (t_rows_R 1)), (am 7, eJ cA 40 (t_rows_R 2)), (am 8, eJ cA 40 (t_rows_R 3)), (am 9, eJ cA 40 (t_rows_R 4)), (am 10, eJ cA 40 (t_rows_R 5)), (am 11, eJ cA 40 (t_rows_R 6)), (am 12, eJ cA 40 (t_rows_R 7)), ((am 16), eI cA 8 t_refused), ((am 17), eI cA 8 t_kind), ((am 19), eI cA 8 t_pitch), ((am 21), eI cA 12 t_word), ((am 22), eI cA 13 t_heard)] s.heap := hP
  have hD : va_D A [((am 0), e_X6 am tkv ttv t t_L), ((am 1), eI cA 8 t_shelf), ((am 3), eI cA 8 t_rowSize), ((am 4), eOJ cA am 5), (am 5, eJ cA 40 (t_rows_R 0)), (am 6, eJ cA 40 (t_rows_R 1)), (am 7, eJ cA 40 (t_rows_R 2)), (am 8, eJ cA 40 (t_rows_R 3)), (am 9, eJ cA 40 (t_rows_R 4)), (am 10, eJ cA 40 (t_rows_R 5)), (am 11, eJ cA 40 (t_rows_R 6)), (am 12, eJ cA 40 (t_rows_R 7)), ((am 16), eI cA 8 t_refused), ((am 17), eI cA 8 t_kind), ((am 19), eI cA 8 t_pitch), ((am 21), eI cA 12 t_word), ((am 22), eI cA 13 t_heard)] := hD
  have B_30 : ∀ (s0 : Int32) (t : Nat → Int32) (t_refused : Nat → Int32) (t_word : Nat → Int32) (t_heard : Nat → Int32) (H : Heap) (locs : List Loc) (ls : Array Slot), b_X6_shout_30 fu t_L t_shelf t_rowSize t_rows_R t_kind t_pitch s0 t t_refused t_word t_heard = some out → va_P D CL [((am 0), e_X6 am tkv ttv t t_L), ((am 1), eI cA 8 t_shelf), ((am 3), eI cA 8 t_rowSize), ((am 4), eOJ cA am 5), (am 5, eJ cA 40 (t_rows_R 0)), (am 6, eJ cA 40 (t_rows_R 1)), (am 7, eJ cA 40 (t_rows_R 2)), (am 8, eJ cA 40 (t_rows_R 3)), (am 9, eJ cA 40 (t_rows_R 4)), (am 10, eJ cA 40 (t_rows_R 5)), (am 11, eJ cA 40 (t_rows_R 6)), (am 12, eJ cA 40 (t_rows_R 7)), ((am 16), eI cA 8 t_refused), ((am 17), eI cA 8 t_kind), ((am 19), eI cA 8 t_pitch), ((am 21), eI cA 12 t_word), ((am 22), eI cA 13 t_heard)] H → va_D A [((am 0), e_X6 am tkv ttv t t_L), ((am 1), eI cA 8 t_shelf), ((am 3), eI cA 8 t_rowSize), ((am 4), eOJ cA am 5), (am 5, eJ cA 40 (t_rows_R 0)), (am 6, eJ cA 40 (t_rows_R 1)), (am 7, eJ cA 40 (t_rows_R 2)), (am 8, eJ cA 40 (t_rows_R 3)), (am 9, eJ cA 40 (t_rows_R 4)), (am 10, eJ cA 40 (t_rows_R 5)), (am 11, eJ cA 40 (t_rows_R 6)), (am 12, eJ cA 40 (t_rows_R 7)), ((am 16), eI cA 8 t_refused), ((am 17), eI cA 8 t_kind), ((am 19), eI cA 8 t_pitch), ((am 21), eI cA 12 t_word), ((am 22), eI cA 13 t_heard)] → va_S A s.heap H locs → lv_has ls 5 [(0, .ref (am 0))] → W p l e rm_X6_shout s m args below meth c H locs 0 0 Q (F0 m 30 ls [.int s0]) := by
    intro  s0 t t_refused t_word t_heard H locs ls hm hP hD hS hl
    unfold b_X6_shout_30 at hm
    rw [hQ]
    exact W.iret (v := s0) hx hb hr (fun t9 ht hW => ⟨⟨s0, (t, t_refused, t_word, t_heard), rfl, (Option.some.inj hm), by rw [ht]; exact hP, va_K.moved hW.alike hK, hD⟩, hS.F ht⟩) hS.2.2 dX6_shout_30
  unfold m_X6_shout at hm
  subst hargs
  have hl := lv_entry ([.ref (am 0), .int l1, .int l2, .int l3]) (n := 5) (Nat.le_of_ble_eq_true rfl)
  rw [lg_entry_eq]
  generalize (lg_sl ([.ref (am 0), .int l1, .int l2, .int l3]) ++ List.replicate (5 - (lg_sl ([.ref (am 0), .int l1, .int l2, .int l3])).length) Slot.unset).toArray = ls at hl ⊢
  have hl : lv_has ls 5 [(0, .ref (am 0)), (1, .int l1), (2, .int l2), (3, .int l3)] := hl
  refine lv_aload_n hx hb dX6_shout_0 rfl (lv_at hl 0 rfl) ?_
  refine lv_iload_n hx hb dX6_shout_1 rfl (lv_at hl 1 rfl) ?_
  refine lv_iload_n hx hb dX6_shout_2 rfl (lv_at hl 2 rfl) ?_
  refine lv_bipush (v := (12 : Int32)) hx hb dX6_shout_3 (by decide) ?_
  refine lv_aload_n hx hb dX6_shout_5 rfl (lv_at hl 0 rfl) ?_
  refine lv_iload_n hx hb dX6_shout_6 rfl (lv_at hl 3 rfl) ?_
  obtain ⟨o1, ho2, hm⟩ := bd_s hm
  refine xr_i (wr := [((am 1), eI cA 8 t_shelf), ((am 3), eI cA 8 t_rowSize), ((am 4), eOJ cA am 5), (am 5, eJ cA 40 (t_rows_R 0)), (am 6, eJ cA 40 (t_rows_R 1)), (am 7, eJ cA 40 (t_rows_R 2)), (am 8, eJ cA 40 (t_rows_R 3)), (am 9, eJ cA 40 (t_rows_R 4)), (am 10, eJ cA 40 (t_rows_R 5)), (am 11, eJ cA 40 (t_rows_R 6)), (am 12, eJ cA 40 (t_rows_R 7)), ((am 16), eI cA 8 t_refused), ((am 17), eI cA 8 t_kind), ((am 19), eI cA 8 t_pitch), ((am 21), eI cA 12 t_word), ((am 22), eI cA 13 t_heard)]) (wn := [((am 0), e_X6 am tkv ttv t t_L), ((am 1), eI cA 8 t_shelf), ((am 3), eI cA 8 t_rowSize), ((am 4), eOJ cA am 5), (am 5, eJ cA 40 (t_rows_R 0)), (am 6, eJ cA 40 (t_rows_R 1)), (am 7, eJ cA 40 (t_rows_R 2)), (am 8, eJ cA 40 (t_rows_R 3)), (am 9, eJ cA 40 (t_rows_R 4)), (am 10, eJ cA 40 (t_rows_R 5)), (am 11, eJ cA 40 (t_rows_R 6)), (am 12, eJ cA 40 (t_rows_R 7)), ((am 16), eI cA 8 t_refused), ((am 17), eI cA 8 t_kind), ((am 19), eI cA 8 t_pitch), ((am 21), eI cA 12 t_word), ((am 22), eI cA 13 t_heard)]) (va_runV (As := [.int l3]) (rest := [.int (12 : Int32), .int l2, .int l1, .ref (am 0)]) ⟨hx, hb, hml, hown, htg⟩ (c_X6_isVoice l D cA _ fu am tkv ttv t t_L l3 o1 ho2) (cwV 1 htg (gV q_5_139 q_5_141 q_p5_9 q_1_8 q_5_142) rfl rfl rfl hd_X6_isVoice ⟨Nat.le_of_ble_eq_true rfl, Nat.le_of_ble_eq_true rfl⟩) (xpV hN hK hP hD [0] rfl (by decide) rfl rfl) rfl rfl hl.1 rfl (lv_room (Nat.le_of_ble_eq_true rfl)) dX6_shout_7 ⟨Nat.zero_le _, Nat.zero_le _⟩) hP hD hS hA [0] [1, 2, 3, 4, 5, 6, 7, 8, 9, 10, 11, 12, 13, 14, 15, 16] [16, 0, 1, 2, 3, 4, 5, 6, 7, 8, 9, 10, 11, 12, 13, 14, 15] rfl rfl (by decide) (by decide) rfl (by decide) (fun H locs hP hD hS => ?_)
  obtain ⟨o3, ho4, hm⟩ := bd_s hm
  refine xr_i (wr := [((am 17), eI cA 8 t_kind), ((am 19), eI cA 8 t_pitch), ((am 22), eI cA 13 t_heard)]) (wn := [((am 0), e_X6 am tkv ttv o3.2.1 t_L), ((am 1), eI cA 8 t_shelf), ((am 3), eI cA 8 t_rowSize), ((am 4), eOJ cA am 5), (am 5, eJ cA 40 (t_rows_R 0)), (am 6, eJ cA 40 (t_rows_R 1)), (am 7, eJ cA 40 (t_rows_R 2)), (am 8, eJ cA 40 (t_rows_R 3)), (am 9, eJ cA 40 (t_rows_R 4)), (am 10, eJ cA 40 (t_rows_R 5)), (am 11, eJ cA 40 (t_rows_R 6)), (am 12, eJ cA 40 (t_rows_R 7)), ((am 16), eI cA 8 o3.2.2.1), ((am 17), eI cA 8 t_kind), ((am 19), eI cA 8 t_pitch), ((am 21), eI cA 12 o3.2.2.2), ((am 22), eI cA 13 t_heard)]) (va_runV (As := [.int l1, .int l2, .int (12 : Int32), .int o1.1]) (rest := []) ⟨hx, hb, hml, hown, htg⟩ (c_X6_noWord l D cA _ fu am tkv ttv t t_L t_shelf t_rowSize t_rows_R t_refused t_word l1 l2 (12 : Int32) o1.1 o3 ho4) (cwV 4 htg (gV q_6_49 q_6_51 q_p6_8 q_1_8 q_6_52) rfl rfl rfl hd_X6_noWord ⟨Nat.le_of_ble_eq_true rfl, Nat.le_of_ble_eq_true rfl⟩) (xpV hN hK hP hD [0, 1, 2, 3, 4, 5, 6, 7, 8, 9, 10, 11, 12, 15] rfl (by decide) rfl rfl) rfl rfl hl.1 rfl (lv_room (Nat.le_of_ble_eq_true rfl)) dX6_shout_10 ⟨Nat.zero_le _, Nat.zero_le _⟩) hP hD hS hA [0, 1, 2, 3, 4, 5, 6, 7, 8, 9, 10, 11, 12, 15] [13, 14, 16] [3, 4, 5, 6, 7, 8, 9, 10, 11, 12, 13, 14, 15, 0, 1, 16, 2] rfl rfl (by decide) (by decide) rfl (by decide) (fun H locs hP hD hS => ?_)
  refine lv_istore (lv' := [(4, .int o3.1), (0, .ref (am 0)), (1, .int l1), (2, .int l2), (3, .int l3)]) hx hb dX6_shout_13 hl (by decide) rfl (fun ls hl => ?_)
  refine lv_iload hx hb dX6_shout_15 (lv_at hl 0 rfl) ?_
  refine lv_if_eq (tgt := 25) hx hb dX6_shout_17 (by decide) (fun c5 => ?_) (fun c5 => ?_)
  · have hm := it_t c5 hm
    refine lv_aload_n hx hb dX6_shout_25 rfl (lv_at hl 1 rfl) ?_
    refine lv_iload_n hx hb dX6_shout_26 rfl (lv_at hl 4 rfl) ?_
    obtain ⟨o6, ho7, hm⟩ := bd_s hm
    refine xr_i (wr := [((am 1), eI cA 8 t_shelf), ((am 3), eI cA 8 t_rowSize), ((am 4), eOJ cA am 5), (am 5, eJ cA 40 (t_rows_R 0)), (am 6, eJ cA 40 (t_rows_R 1)), (am 7, eJ cA 40 (t_rows_R 2)), (am 8, eJ cA 40 (t_rows_R 3)), (am 9, eJ cA 40 (t_rows_R 4)), (am 10, eJ cA 40 (t_rows_R 5)), (am 11, eJ cA 40 (t_rows_R 6)), (am 12, eJ cA 40 (t_rows_R 7)), ((am 16), eI cA 8 o3.2.2.1)]) (wn := [((am 0), e_X6 am tkv ttv o6.2.1 t_L), ((am 1), eI cA 8 t_shelf), ((am 3), eI cA 8 t_rowSize), ((am 4), eOJ cA am 5), (am 5, eJ cA 40 (t_rows_R 0)), (am 6, eJ cA 40 (t_rows_R 1)), (am 7, eJ cA 40 (t_rows_R 2)), (am 8, eJ cA 40 (t_rows_R 3)), (am 9, eJ cA 40 (t_rows_R 4)), (am 10, eJ cA 40 (t_rows_R 5)), (am 11, eJ cA 40 (t_rows_R 6)), (am 12, eJ cA 40 (t_rows_R 7)), ((am 16), eI cA 8 o3.2.2.1), ((am 17), eI cA 8 t_kind), ((am 19), eI cA 8 t_pitch), ((am 21), eI cA 12 o3.2.2.2), ((am 22), eI cA 13 o6.2.2)]) (va_runV (As := [.int l3]) (rest := []) ⟨hx, hb, hml, hown, htg⟩ (c_X6_shouts l D cA _ fu am tkv ttv o3.2.1 t_L t_kind t_pitch o3.2.2.2 t_heard l3 o6 ho7) (cwV 1 htg (gV q_6_233 q_6_235 q_p7_8 q_1_8 q_6_236) rfl rfl rfl hd_X6_shouts ⟨Nat.le_of_ble_eq_true rfl, Nat.le_of_ble_eq_true rfl⟩) (xpV hN hK hP hD [0, 13, 14, 15, 16] rfl (by decide) rfl rfl) rfl rfl hl.1 rfl (lv_room (Nat.le_of_ble_eq_true rfl)) dX6_shout_27 ⟨Nat.zero_le _, Nat.zero_le _⟩) hP hD hS hA [0, 13, 14, 15, 16] [1, 2, 3, 4, 5, 6, 7, 8, 9, 10, 11, 12] [12, 0, 1, 2, 3, 4, 5, 6, 7, 8, 9, 10, 11, 13, 14, 15, 16] rfl rfl (by decide) (by decide) rfl (by decide) (fun H locs hP hD hS => ?_)
    exact B_30 _ _ _ _ _ _ _ _ hm hP hD hS (lv_sub hl [1] rfl)
  · have hm := it_f c5 hm
    refine lv_iload hx hb dX6_shout_20 (lv_at hl 0 rfl) ?_
    refine lv_goto (tgt := 30) hx hb dX6_shout_22 (by decide) ?_
    exact B_30 _ _ _ _ _ _ _ _ hm hP hD hS (lv_sub hl [1] rfl)
def b_X6_days_21 (fu : Nat) (t_L : Nat → Int64) (k_21 : (Int32 × Int32 × (Nat → Int32) × (Nat → Int32)) → Option (Int32 × ((Nat → Int32) × (Nat → Int32)))) (x : Int32 × Int32 × (Nat → Int32) × (Nat → Int32)) : Option (Int32 × ((Nat → Int32) × (Nat → Int32))) :=
  (if x.1 ≤ x.2.1 then
        some (x.2.2.1 9, (x.2.2.1, x.2.2.2))
      else
        (m_X6_passes fu x.2.2.1 t_L).bind fun o2 =>
        k_21 (x.1, (x.2.1 + (1 : Int32)), o2, x.2.2.2))
def m_X6_days (fu : Nat) (t : Nat → Int32) (t_L : Nat → Int64) (t_refused : Nat → Int32) (l1 : Int32) : Option (Int32 × ((Nat → Int32) × (Nat → Int32))) :=
  (m_X6_in fu l1.toInt64 (1 : Int64) (60 : Int64)).bind fun o4 =>
  (if o4.1 = 0 then
    (m_X6_refuse fu t t_L t_refused (-2 : Int32)).bind fun o7 =>
    some (o7.1, (t, o7.2))
  else
    lfix (b_X6_days_21 fu t_L) fu (l1, (0 : Int32), t, t_refused))
abbrev rm_X6_days : Room := ({ frames := 2, cells := 0, slots := 0, locals := 40 } : Room)
abbrev w0_X6_days (cA : Nat → ClassId) (am : Nat → Nat) (tkv : Value) (ttv : Value) (t : Nat → Int32) (t_L : Nat → Int64) (t_refused : Nat → Int32) : va_W := [((am 0), e_X6 am tkv ttv t t_L), ((am 16), eI cA 8 t_refused)]
abbrev w1_X6_days (cA : Nat → ClassId) (am : Nat → Nat) (tkv : Value) (ttv : Value) (t_L : Nat → Int64) (u : (Nat → Int32) × (Nat → Int32)) : va_W := [((am 0), e_X6 am tkv ttv u.1 t_L), ((am 16), eI cA 8 u.2)]
theorem hd_X6_days : yX6_days.cls = RX6 ∧ yX6_days.cls ≠ "java/lang/invoke/MethodHandle" ∧ yX6_days.cls ≠ "java/lang/invoke/VarHandle" ∧ (parseMethodDescriptor yX6_days.desc).map (fun d => d.parameters.length) = some 1 := by decide +kernel
set_option maxHeartbeats 40000000 in
set_option maxRecDepth 100000 in
theorem c_X6_days (l : Launch) (D : va_G) (cA : Nat → ClassId) (sz : Nat) (fu : Nat) (am : Nat → Nat) (tkv : Value) (ttv : Value) (t : Nat → Int32) (t_L : Nat → Int64) (t_refused : Nat → Int32) (l1 : Int32) (out : Int32 × ((Nat → Int32) × (Nat → Int32))) (hm : m_X6_days fu t t_L t_refused l1 = some out) : MI l yX6_days (wU yX6_days cX6_days 3 ((Option.some Jvm.ClassFile.FieldType.int))) rm_X6_days D cA sz [.ref (am 0), .int l1] (w0_X6_days cA am tkv ttv t t_L t_refused) out (w1_X6_days cA am tkv ttv t_L) := by
  refine Met.ofW (cc := cX6_days) (maxL := 3) (ret := (Option.some Jvm.ClassFile.FieldType.int)) (by decide) rfl ?_
  intro p e s m args below meth c s₁ B hml hv
  obtain ⟨hargs, hsz, hP, hK, hD0, hN⟩ := hv
  have hx := B.exec
  have hb := B.bytes
  have hr := B.returns
  have htg : ∀ w ∈ gw, w.before args s = true := fun w h => atoms_spec (ws := wU yX6_days cX6_days 3 ((Option.some Jvm.ClassFile.FieldType.int))) B.pre w (List.mem_cons_of_mem _ h)
  have hown : s.vm.findClass RX6 = some m.cls := findClass_of_methodNamed B.named
  have hlocks := B.notSynchronized
  subst hsz
  have hD := hD0.self (sz := s.heap.size)
  have hA : ∀ q : Nat, s.heap.size ≤ q → va_A (w0_X6_days cA am tkv ttv t t_L t_refused) s.heap.size q := fun q h => Or.inr h
  have hS : va_S (va_A (w0_X6_days cA am tkv ttv t t_L t_refused) s.heap.size) s.heap s.heap [] := va_S.rf
  generalize va_A (w0_X6_days cA am tkv ttv t t_L t_refused) s.heap.size = A at hA hD hS ⊢
  obtain ⟨Q, hQ⟩ : ∃ Q : State → Prop, Q = MQ below (va_Qi (fun (r : Int32) (u : (Nat → Int32) × (Nat → Int32)) => (r, u) = out) (pst0 D cA A (w1_X6_days cA am tkv ttv t_L)) A) args s 0 0 A := ⟨_, rfl⟩
  refine (?_ : W p l e rm_X6_days s m args below meth c s.heap [] 0 0 (MQ below (va_Qi (fun (r : Int32) (u : (Nat → Int32) × (Nat → Int32)) => (r, u) = out) (pst0 D cA A (w1_X6_days cA am tkv ttv t_L)) A) args s 0 0 A) (entryFrame m args 3))
  rw [← hQ]
  have hP : va_P D CL [((am 0), e_X6 am tkv ttv t t_L), ((am 16), eI cA 8 t_refused)] s.heap := hP
  have hD : va_D A [((am 0), e_X6 am tkv ttv t t_L), ((am 16), eI cA 8 t_refused)] := hD
  have B_21 : ∀ (n : Nat) (x : Int32 × Int32 × (Nat → Int32) × (Nat → Int32)) (H : Heap) (locs : List Loc) (ls : Array Slot), lfix (b_X6_days_21 fu t_L) n x = some out → va_P D CL [((am 0), e_X6 am tkv ttv x.2.2.1 t_L), ((am 16), eI cA 8 x.2.2.2)] H → va_D A [((am 0), e_X6 am tkv ttv x.2.2.1 t_L), ((am 16), eI cA 8 x.2.2.2)] → va_S A s.heap H locs → lv_has ls 3 [(0, .ref (am 0)), (1, .int x.1), (2, .int x.2.1)] → W p l e rm_X6_days s m args below meth c H locs 0 0 Q (F0 m 21 ls []) := by
    intro  n
    induction n with
    | zero => intro x H locs ls hm; cases (show none = some out from hm)
    | succ n HK_21 =>
      intro x H locs ls hm hP hD hS hl
      replace hm : b_X6_days_21 fu t_L (lfix (b_X6_days_21 fu t_L) n) x = some out := hm
      unfold b_X6_days_21 at hm
      refine lv_iload_n hx hb dX6_days_21 rfl (lv_at hl 2 rfl) ?_
      refine lv_iload_n hx hb dX6_days_22 rfl (lv_at hl 1 rfl) ?_
      refine lv_icmp_ge (tgt := 36) hx hb dX6_days_23 (by decide) (fun c1 => ?_) (fun c1 => ?_)
      · have hm := it_t c1 hm
        refine lv_aload_n hx hb dX6_days_36 rfl (lv_at hl 0 rfl) ?_
        refine va_get (D := D) (ci := 6) (v := .int (x.2.2.1 9)) (C := RX6) (T := TX6) (N := 49) hx hb htg inX6 hown hK hP 0 rfl rfl 9 (by decide) (htg _ q_4_198) (fun _ h9 => h9) rfl dX6_days_37 ?_
        rw [hQ]
        exact W.iret (v := x.2.2.1 9) hx hb hr (fun t9 ht hW => ⟨⟨x.2.2.1 9, (x.2.2.1, x.2.2.2), rfl, (Option.some.inj hm), by rw [ht]; exact hP, va_K.moved hW.alike hK, hD⟩, hS.F ht⟩) hS.2.2 dX6_days_40
      · have hm := it_f c1 hm
        refine lv_aload_n hx hb dX6_days_26 rfl (lv_at hl 0 rfl) ?_
        obtain ⟨o2, ho3, hm⟩ := bd_s hm
        refine xr_v (wr := [((am 16), eI cA 8 x.2.2.2)]) (wn := [((am 0), e_X6 am tkv ttv o2 t_L), ((am 16), eI cA 8 x.2.2.2)]) (va_runV (As := []) (rest := []) ⟨hx, hb, hml, hown, htg⟩ (c_X6_passes l D cA _ fu am tkv ttv x.2.2.1 t_L o2 ho3) (cwV 0 htg (gV q_6_113 q_6_115 q_p6_14 q_1_8 q_6_116) rfl rfl rfl hd_X6_passes ⟨Nat.le_of_ble_eq_true rfl, Nat.le_of_ble_eq_true rfl⟩) (xpV hN hK hP hD [0] rfl (by decide) rfl rfl) rfl rfl hl.1 rfl (lv_room (Nat.le_of_ble_eq_true rfl)) dX6_days_27 ⟨Nat.zero_le _, Nat.zero_le _⟩) hP hD hS hA [0] [1] [1, 0] rfl rfl (by decide) (by decide) rfl (by decide) (fun H locs hP hD hS => ?_)
        refine lv_iinc (v := (x.2.1 + (1 : Int32))) (lv' := [(2, .int (x.2.1 + (1 : Int32))), (0, .ref (am 0)), (1, .int x.1)]) hx hb dX6_days_30 hl (k := 2) rfl rfl (by decide) rfl (fun ls hl => ?_)
        refine lv_goto (tgt := 21) hx hb dX6_days_33 (by decide) ?_
        exact HK_21 _ _ _ _ hm hP hD hS (lv_sub hl [1, 2, 0] rfl)
  unfold m_X6_days at hm
  subst hargs
  have hl := lv_entry ([.ref (am 0), .int l1]) (n := 3) (Nat.le_of_ble_eq_true rfl)
  rw [lg_entry_eq]
  generalize (lg_sl ([.ref (am 0), .int l1]) ++ List.replicate (3 - (lg_sl ([.ref (am 0), .int l1])).length) Slot.unset).toArray = ls at hl ⊢
  have hl : lv_has ls 3 [(0, .ref (am 0)), (1, .int l1)] := hl
  refine lv_iload_n hx hb dX6_days_0 rfl (lv_at hl 1 rfl) ?_
  refine lv_i2l hx hb dX6_days_1 rfl ?_
  refine lv_lconst (v := (1 : Int64)) hx hb dX6_days_2 (by decide) ?_
  refine lv_ldc2 (v := (60 : Int64)) hx hb hown (htg _ q_6_129) dX6_days_3 ?_
  obtain ⟨o4, ho5, hm⟩ := bd_s hm
  refine xr_i (wr := [((am 0), e_X6 am tkv ttv t t_L), ((am 16), eI cA 8 t_refused)]) (wn := [((am 0), e_X6 am tkv ttv t t_L), ((am 16), eI cA 8 t_refused)]) (va_runS (As := [.long l1.toInt64, .long (1 : Int64), .long (60 : Int64)]) (rest := []) ⟨hx, hb, hml, hown, htg⟩ (c_X6_in l D cA _ fu l1.toInt64 (1 : Int64) (60 : Int64) o4 ho5) (cwS 3 htg (gS q_5_103 q_5_104 q_1_8 q_5_105) rfl rfl rfl hd_X6_in ⟨Nat.le_of_ble_eq_true rfl, Nat.le_of_ble_eq_true rfl⟩) (xpS hN hK hP hD [] rfl (by decide)) rfl rfl hl.1 rfl (lv_room (Nat.le_of_ble_eq_true rfl)) dX6_days_6 ⟨Nat.zero_le _, Nat.zero_le _⟩) hP hD hS hA [] [0, 1] [0, 1] rfl rfl (by decide) (by decide) rfl (by decide) (fun H locs hP hD hS => ?_)
  refine lv_if_ne (tgt := 19) hx hb dX6_days_9 (by decide) (fun c6 => ?_) (fun c6 => ?_)
  · have hm := it_f c6 hm
    refine lv_iconst (v := (0 : Int32)) hx hb dX6_days_19 (by decide) ?_
    refine lv_istore_n (lv' := [(2, .int (0 : Int32)), (0, .ref (am 0)), (1, .int l1)]) hx hb dX6_days_20 rfl hl (by decide) rfl (fun ls hl => ?_)
    exact B_21 fu _ _ _ _ hm hP hD hS (lv_sub hl [1, 2, 0] rfl)
  · have hm := it_t c6 hm
    refine lv_aload_n hx hb dX6_days_12 rfl (lv_at hl 0 rfl) ?_
    refine lv_bipush (v := (-2 : Int32)) hx hb dX6_days_13 (by decide) ?_
    obtain ⟨o7, ho8, hm⟩ := bd_s hm
    refine xr_i (wr := []) (wn := [((am 0), e_X6 am tkv ttv t t_L), ((am 16), eI cA 8 o7.2)]) (va_runV (As := [.int (-2 : Int32)]) (rest := []) ⟨hx, hb, hml, hown, htg⟩ (c_X6_refuse l D cA _ fu am tkv ttv t t_L t_refused (-2 : Int32) o7 ho8) (cwV 1 htg (gV q_5_108 q_5_110 q_p5_7 q_1_8 q_5_111) rfl rfl rfl hd_X6_refuse ⟨Nat.le_of_ble_eq_true rfl, Nat.le_of_ble_eq_true rfl⟩) (xpV hN hK hP hD [0, 1] rfl (by decide) rfl rfl) rfl rfl hl.1 rfl (lv_room (Nat.le_of_ble_eq_true rfl)) dX6_days_15 ⟨Nat.zero_le _, Nat.zero_le _⟩) hP hD hS hA [0, 1] [] [0, 1] rfl rfl (by decide) (by decide) rfl (by decide) (fun H locs hP hD hS => ?_)
    rw [hQ]
    exact W.iret (v := o7.1) hx hb hr (fun t9 ht hW => ⟨⟨o7.1, (t, o7.2), rfl, (Option.some.inj hm), by rw [ht]; exact hP, va_K.moved hW.alike hK, hD⟩, hS.F ht⟩) hS.2.2 dX6_days_18
def m_X6_draw (fu : Nat) (t : Nat → Int32) (t_L : Nat → Int64) (l1 : Int32) : Option (Int32 × (Nat → Int32)) :=
  gd (¬ l1 = 0) (
  some ((((((t 20 * (1103515245 : Int32)) + (12345 : Int32)).toUInt32 >>> ((16 : Int32).toUInt32 &&& Int32.toUInt32 31)).toInt32) - ((((t 20 * (1103515245 : Int32)) + (12345 : Int32)).toUInt32 >>> ((16 : Int32).toUInt32 &&& Int32.toUInt32 31)).toInt32) / l1 * l1), (upd t 20 ((t 20 * (1103515245 : Int32)) + (12345 : Int32)))))
abbrev rm_X6_draw : Room := ({ frames := 0, cells := 0, slots := 0, locals := 0 } : Room)
abbrev w0_X6_draw (cA : Nat → ClassId) (am : Nat → Nat) (tkv : Value) (ttv : Value) (t : Nat → Int32) (t_L : Nat → Int64) : va_W := [((am 0), e_X6 am tkv ttv t t_L)]
abbrev w1_X6_draw (cA : Nat → ClassId) (am : Nat → Nat) (tkv : Value) (ttv : Value) (t_L : Nat → Int64) (u : (Nat → Int32)) : va_W := [((am 0), e_X6 am tkv ttv u t_L)]
theorem hd_X6_draw : yX6_draw.cls = RX6 ∧ yX6_draw.cls ≠ "java/lang/invoke/MethodHandle" ∧ yX6_draw.cls ≠ "java/lang/invoke/VarHandle" ∧ (parseMethodDescriptor yX6_draw.desc).map (fun d => d.parameters.length) = some 1 := by decide +kernel
set_option maxHeartbeats 40000000 in
set_option maxRecDepth 100000 in
theorem c_X6_draw (l : Launch) (D : va_G) (cA : Nat → ClassId) (sz : Nat) (fu : Nat) (am : Nat → Nat) (tkv : Value) (ttv : Value) (t : Nat → Int32) (t_L : Nat → Int64) (l1 : Int32) (out : Int32 × (Nat → Int32)) (hm : m_X6_draw fu t t_L l1 = some out) : MI l yX6_draw (wU yX6_draw cX6_draw 2 ((Option.some Jvm.ClassFile.FieldType.int))) rm_X6_draw D cA sz [.ref (am 0), .int l1] (w0_X6_draw cA am tkv ttv t t_L) out (w1_X6_draw cA am tkv ttv t_L) := by
  refine Met.ofW (cc := cX6_draw) (maxL := 2) (ret := (Option.some Jvm.ClassFile.FieldType.int)) (by decide) rfl ?_
  intro p e s m args below meth c s₁ B hml hv
  obtain ⟨hargs, hsz, hP, hK, hD0, hN⟩ := hv
  have hx := B.exec
  have hb := B.bytes
  have hr := B.returns
  have htg : ∀ w ∈ gw, w.before args s = true := fun w h => atoms_spec (ws := wU yX6_draw cX6_draw 2 ((Option.some Jvm.ClassFile.FieldType.int))) B.pre w (List.mem_cons_of_mem _ h)
  have hown : s.vm.findClass RX6 = some m.cls := findClass_of_methodNamed B.named
  have hlocks := B.notSynchronized
  subst hsz
  have hD := hD0.self (sz := s.heap.size)
  have hA : ∀ q : Nat, s.heap.size ≤ q → va_A (w0_X6_draw cA am tkv ttv t t_L) s.heap.size q := fun q h => Or.inr h
  have hS : va_S (va_A (w0_X6_draw cA am tkv ttv t t_L) s.heap.size) s.heap s.heap [] := va_S.rf
  generalize va_A (w0_X6_draw cA am tkv ttv t t_L) s.heap.size = A at hA hD hS ⊢
  obtain ⟨Q, hQ⟩ : ∃ Q : State → Prop, Q = MQ below (va_Qi (fun (r : Int32) (u : (Nat → Int32)) => (r, u) = out) (pst0 D cA A (w1_X6_draw cA am tkv ttv t_L)) A) args s 0 0 A := ⟨_, rfl⟩
  refine (?_ : W p l e rm_X6_draw s m args below meth c s.heap [] 0 0 (MQ below (va_Qi (fun (r : Int32) (u : (Nat → Int32)) => (r, u) = out) (pst0 D cA A (w1_X6_draw cA am tkv ttv t_L)) A) args s 0 0 A) (entryFrame m args 2))
  rw [← hQ]
  have hP : va_P D CL [((am 0), e_X6 am tkv ttv t t_L)] s.heap := hP
  have hD : va_D A [((am 0), e_X6 am tkv ttv t t_L)] := hD
  unfold m_X6_draw at hm
  subst hargs
  have hl := lv_entry ([.ref (am 0), .int l1]) (n := 2) (Nat.le_of_ble_eq_true rfl)
  rw [lg_entry_eq]
  generalize (lg_sl ([.ref (am 0), .int l1]) ++ List.replicate (2 - (lg_sl ([.ref (am 0), .int l1])).length) Slot.unset).toArray = ls at hl ⊢
  have hl : lv_has ls 2 [(0, .ref (am 0)), (1, .int l1)] := hl
  refine lv_aload_n hx hb dX6_draw_0 rfl (lv_at hl 0 rfl) ?_
  refine lv_aload_n hx hb dX6_draw_1 rfl (lv_at hl 0 rfl) ?_
  refine va_get (D := D) (ci := 6) (v := .int (t 20)) (C := RX6) (T := TX6) (N := 49) hx hb htg inX6 hown hK hP 0 rfl rfl 20 (by decide) (htg _ q_4_209) (fun _ h9 => h9) rfl dX6_draw_2 ?_
  refine lv_ldcw (v := (1103515245 : Int32)) hx hb hown (htg _ q_7_9) dX6_draw_5 ?_
  refine lv_imul hx hb dX6_draw_8 ?_
  refine lv_sipush (v := (12345 : Int32)) hx hb dX6_draw_9 (by decide) ?_
  refine lv_iadd hx hb dX6_draw_12 ?_
  refine va_put (D := D) (ci := 6) (v := .int ((t 20 * (1103515245 : Int32)) + (12345 : Int32))) (ty := .int) (C := RX6) (T := TX6) (N := 49) hx hb htg inX6 tyX6 tyX6_ok nmX6 hown hK hP hD hS 0 rfl rfl 20 (by decide) (htg _ q_4_209) (fun _ h9 => h9) rfl (by decide +kernel) rfl rfl (Nat.le_of_ble_eq_true rfl) dX6_draw_13 (fun H locs (hP : va_P D CL [((am 0), e_X6 am tkv ttv (upd t 20 ((t 20 * (1103515245 : Int32)) + (12345 : Int32))) t_L)] H) (hD : va_D A [((am 0), e_X6 am tkv ttv (upd t 20 ((t 20 * (1103515245 : Int32)) + (12345 : Int32))) t_L)]) hS => ?_)
  refine lv_aload_n hx hb dX6_draw_16 rfl (lv_at hl 0 rfl) ?_
  refine va_get (D := D) (ci := 6) (v := .int ((t 20 * (1103515245 : Int32)) + (12345 : Int32))) (C := RX6) (T := TX6) (N := 49) hx hb htg inX6 hown hK hP 0 rfl rfl 20 (by decide) (htg _ q_4_209) (fun _ h9 => h9) rfl dX6_draw_17 ?_
  refine lv_bipush (v := (16 : Int32)) hx hb dX6_draw_20 (by decide) ?_
  refine lv_iushr hx hb dX6_draw_22 rfl ?_
  refine lv_iload_n hx hb dX6_draw_23 rfl (lv_at hl 1 rfl) ?_
  obtain ⟨hz1, hm⟩ := gd_s hm
  refine lv_irem hx hb dX6_draw_24 hz1 ?_
  rw [hQ]
  exact W.iret (v := (((((t 20 * (1103515245 : Int32)) + (12345 : Int32)).toUInt32 >>> ((16 : Int32).toUInt32 &&& Int32.toUInt32 31)).toInt32) - ((((t 20 * (1103515245 : Int32)) + (12345 : Int32)).toUInt32 >>> ((16 : Int32).toUInt32 &&& Int32.toUInt32 31)).toInt32) / l1 * l1)) hx hb hr (fun t9 ht hW => ⟨⟨(((((t 20 * (1103515245 : Int32)) + (12345 : Int32)).toUInt32 >>> ((16 : Int32).toUInt32 &&& Int32.toUInt32 31)).toInt32) - ((((t 20 * (1103515245 : Int32)) + (12345 : Int32)).toUInt32 >>> ((16 : Int32).toUInt32 &&& Int32.toUInt32 31)).toInt32) / l1 * l1), (upd t 20 ((t 20 * (1103515245 : Int32)) + (12345 : Int32))), rfl, (Option.some.inj hm), by rw [ht]; exact hP, va_K.moved hW.alike hK, hD⟩, hS.F ht⟩) hS.2.2 dX6_draw_25
def b_X6_drawn_86 (fu : Nat) (t_L : Nat → Int64) (t_shelf : Nat → Int32) (t_rowSize : Nat → Int32) (t_rows_R : Nat → Nat → Int64) (t_kind : Nat → Int32) (t_pitch : Nat → Int32) (k_47 : (Int32 × Int32 × Int32 × (Nat → Int32) × (Nat → Int32) × (Nat → Int32) × (Nat → Int32)) → Option (Int32 × ((Nat → Int32) × (Nat → Int32) × (Nat → Int32) × (Nat → Int32)))) (l3 : Int32) (l6 : Int32) (s0 : Int32) (s1 : Int32) (t : Nat → Int32) (t_refused : Nat → Int32) (t_word : Nat → Int32) (t_heard : Nat → Int32) : Option (Int32 × ((Nat → Int32) × (Nat → Int32) × (Nat → Int32) × (Nat → Int32))) :=
  (m_X6_passes fu t t_L).bind fun o1 =>
    k_47 (l3, (s0 + s1), (l6 + (1 : Int32)), o1, t_refused, t_word, t_heard)
def b_X6_drawn_47 (fu : Nat) (t_L : Nat → Int64) (t_shelf : Nat → Int32) (t_rowSize : Nat → Int32) (t_rows_R : Nat → Nat → Int64) (t_kind : Nat → Int32) (t_pitch : Nat → Int32) (k_47 : (Int32 × Int32 × Int32 × (Nat → Int32) × (Nat → Int32) × (Nat → Int32) × (Nat → Int32)) → Option (Int32 × ((Nat → Int32) × (Nat → Int32) × (Nat → Int32) × (Nat → Int32)))) (x : Int32 × Int32 × Int32 × (Nat → Int32) × (Nat → Int32) × (Nat → Int32) × (Nat → Int32)) : Option (Int32 × ((Nat → Int32) × (Nat → Int32) × (Nat → Int32) × (Nat → Int32))) :=
  (if x.1 ≤ x.2.2.1 then
        some (x.2.1, (x.2.2.2.1, x.2.2.2.2.1, x.2.2.2.2.2.1, x.2.2.2.2.2.2))
      else
        (m_X6_draw fu x.2.2.2.1 t_L (10 : Int32)).bind fun o4 =>
        (m_X6_draw fu (upd o4.2 10 o4.1) t_L (o4.2 16)).bind fun o6 =>
        (m_X6_shouts fu o6.2 t_L t_kind t_pitch x.2.2.2.2.2.1 x.2.2.2.2.2.2 o6.1).bind fun o8 =>
        (if o8.1 = (1 : Int32) then
          b_X6_drawn_86 fu t_L t_shelf t_rowSize t_rows_R t_kind t_pitch k_47 x.1 x.2.2.1 x.2.1 (1 : Int32) o8.2.1 x.2.2.2.2.1 x.2.2.2.2.2.1 o8.2.2
        else
          b_X6_drawn_86 fu t_L t_shelf t_rowSize t_rows_R t_kind t_pitch k_47 x.1 x.2.2.1 x.2.1 (0 : Int32) o8.2.1 x.2.2.2.2.1 x.2.2.2.2.2.1 o8.2.2))
def m_X6_drawn (fu : Nat) (t : Nat → Int32) (t_L : Nat → Int64) (t_shelf : Nat → Int32) (t_rowSize : Nat → Int32) (t_rows_R : Nat → Nat → Int64) (t_refused : Nat → Int32) (t_kind : Nat → Int32) (t_pitch : Nat → Int32) (t_word : Nat → Int32) (t_heard : Nat → Int32) (l1 : Int32) (l2 : Int32) (l3 : Int32) : Option (Int32 × ((Nat → Int32) × (Nat → Int32) × (Nat → Int32) × (Nat → Int32))) :=
  (m_X6_in fu l3.toInt64 (1 : Int64) (40 : Int64)).bind fun o11 =>
  (m_X6_noWord fu t t_L t_shelf t_rowSize t_rows_R t_refused t_word l1 l2 (12 : Int32) o11.1).bind fun o13 =>
  (if o13.1 = 0 then
    (if o13.2.1 16 = 0 then
      (m_X6_refuse fu o13.2.1 t_L o13.2.2.1 (-5 : Int32)).bind fun o17 =>
      some (o17.1, (o13.2.1, o17.2, o13.2.2.2, t_heard))
    else
      lfix (b_X6_drawn_47 fu t_L t_shelf t_rowSize t_rows_R t_kind t_pitch) fu (l3, (0 : Int32), (0 : Int32), o13.2.1, o13.2.2.1, o13.2.2.2, t_heard))
  else
    some (o13.1, (o13.2.1, o13.2.2.1, o13.2.2.2, t_heard)))
abbrev rm_X6_drawn : Room := ({ frames := 6, cells := 0, slots := 0, locals := 137 } : Room)
abbrev w0_X6_drawn (cA : Nat → ClassId) (am : Nat → Nat) (tkv : Value) (ttv : Value) (t : Nat → Int32) (t_L : Nat → Int64) (t_shelf : Nat → Int32) (t_rowSize : Nat → Int32) (t_rows_R : Nat → Nat → Int64) (t_refused : Nat → Int32) (t_kind : Nat → Int32) (t_pitch : Nat → Int32) (t_word : Nat → Int32) (t_heard : Nat → Int32) : va_W := [((am 0), e_X6 am tkv ttv t t_L), ((am 1), eI cA 8 t_shelf), ((am 3), eI cA 8 t_rowSize), ((am 4), eOJ cA am 5), (am 5, eJ cA 40 (t_rows_R 0)), (am 6, eJ cA 40 (t_rows_R 1)), (am 7, eJ cA 40 (t_rows_R 2)), (am 8, eJ cA 40 (t_rows_R 3)), (am 9, eJ cA 40 (t_rows_R 4)), (am 10, eJ cA 40 (t_rows_R 5)), (am 11, eJ cA 40 (t_rows_R 6)), (am 12, eJ cA 40 (t_rows_R 7)), ((am 16), eI cA 8 t_refused), ((am 17), eI cA 8 t_kind), ((am 19), eI cA 8 t_pitch), ((am 21), eI cA 12 t_word), ((am 22), eI cA 13 t_heard)]
abbrev w1_X6_drawn (cA : Nat → ClassId) (am : Nat → Nat) (tkv : Value) (ttv : Value) (t_L : Nat → Int64) (t_shelf : Nat → Int32) (t_rowSize : Nat → Int32) (t_rows_R : Nat → Nat → Int64) (t_kind : Nat → Int32) (t_pitch : Nat → Int32) (u : (Nat → Int32) × (Nat → Int32) × (Nat → Int32) × (Nat → Int32)) : va_W := [((am 0), e_X6 am tkv ttv u.1 t_L), ((am 1), eI cA 8 t_shelf), ((am 3), eI cA 8 t_rowSize), ((am 4), eOJ cA am 5), (am 5, eJ cA 40 (t_rows_R 0)), (am 6, eJ cA 40 (t_rows_R 1)), (am 7, eJ cA 40 (t_rows_R 2)), (am 8, eJ cA 40 (t_rows_R 3)), (am 9, eJ cA 40 (t_rows_R 4)), (am 10, eJ cA 40 (t_rows_R 5)), (am 11, eJ cA 40 (t_rows_R 6)), (am 12, eJ cA 40 (t_rows_R 7)), ((am 16), eI cA 8 u.2.1), ((am 17), eI cA 8 t_kind), ((am 19), eI cA 8 t_pitch), ((am 21), eI cA 12 u.2.2.1), ((am 22), eI cA 13 u.2.2.2)]
theorem hd_X6_drawn : yX6_drawn.cls = RX6 ∧ yX6_drawn.cls ≠ "java/lang/invoke/MethodHandle" ∧ yX6_drawn.cls ≠ "java/lang/invoke/VarHandle" ∧ (parseMethodDescriptor yX6_drawn.desc).map (fun d => d.parameters.length) = some 3 := by decide +kernel
set_option maxHeartbeats 40000000 in
set_option maxRecDepth 100000 in
theorem c_X6_drawn (l : Launch) (D : va_G) (cA : Nat → ClassId) (sz : Nat) (fu : Nat) (am : Nat → Nat) (tkv : Value) (ttv : Value) (t : Nat → Int32) (t_L : Nat → Int64) (t_shelf : Nat → Int32) (t_rowSize : Nat → Int32) (t_rows_R : Nat → Nat → Int64) (t_refused : Nat → Int32) (t_kind : Nat → Int32) (t_pitch : Nat → Int32) (t_word : Nat → Int32) (t_heard : Nat → Int32) (l1 : Int32) (l2 : Int32) (l3 : Int32) (out : Int32 × ((Nat → Int32) × (Nat → Int32) × (Nat → Int32) × (Nat → Int32))) (hm : m_X6_drawn fu t t_L t_shelf t_rowSize t_rows_R t_refused t_kind t_pitch t_word t_heard l1 l2 l3 = some out) : MI l yX6_drawn (wU yX6_drawn cX6_drawn 7 ((Option.some Jvm.ClassFile.FieldType.int))) rm_X6_drawn D cA sz [.ref (am 0), .int l1, .int l2, .int l3] (w0_X6_drawn cA am tkv ttv t t_L t_shelf t_rowSize t_rows_R t_refused t_kind t_pitch t_word t_heard) out (w1_X6_drawn cA am tkv ttv t_L t_shelf t_rowSize t_rows_R t_kind t_pitch) := by
  refine Met.ofW (cc := cX6_drawn) (maxL := 7) (ret := (Option.some Jvm.ClassFile.FieldType.int)) (by decide) rfl ?_
  intro p e s m args below meth c s₁ B hml hv
  obtain ⟨hargs, hsz, hP, hK, hD0, hN⟩ := hv
  have hx := B.exec
  have hb := B.bytes
  have hr := B.returns
  have htg : ∀ w ∈ gw, w.before args s = true := fun w h => atoms_spec (ws := wU yX6_drawn cX6_drawn 7 ((Option.some Jvm.ClassFile.FieldType.int))) B.pre w (List.mem_cons_of_mem _ h)
  have hown : s.vm.findClass RX6 = some m.cls := findClass_of_methodNamed B.named
  have hlocks := B.notSynchronized
  subst hsz
  have hD := hD0.self (sz := s.heap.size)
  have hA : ∀ q : Nat, s.heap.size ≤ q → va_A (w0_X6_drawn cA am tkv ttv t t_L t_shelf t_rowSize t_rows_R t_refused t_kind t_pitch t_word t_heard) s.heap.size q := fun q h => Or.inr h
  have hS : va_S (va_A (w0_X6_drawn cA am tkv ttv t t_L t_shelf t_rowSize t_rows_R t_refused t_kind t_pitch t_word t_heard) s.heap.size) s.heap s.heap [] := va_S.rf
  generalize va_A (w0_X6_drawn cA am tkv ttv t t_L t_shelf t_rowSize t_rows_R t_refused t_kind t_pitch t_word t_heard) s.heap.size = A at hA hD hS ⊢
  obtain ⟨Q, hQ⟩ : ∃ Q : State → Prop, Q = MQ below (va_Qi (fun (r : Int32) (u : (Nat → Int32) × (Nat → Int32) × (Nat → Int32) × (Nat → Int32)) => (r, u) = out) (pst0 D cA A (w1_X6_drawn cA am tkv ttv t_L t_shelf t_rowSize t_rows_R t_kind t_pitch)) A) args s 0 0 A := ⟨_, rfl⟩
  refine (?_ : W p l e rm_X6_drawn s m args below meth c s.heap [] 0 0 (MQ below (va_Qi (fun (r : Int32) (u : (Nat → Int32) × (Nat → Int32) × (Nat → Int32) × (Nat → Int32)) => (r, u) = out) (pst0 D cA A (w1_X6_drawn cA am tkv ttv t_L t_shelf t_rowSize t_rows_R t_kind t_pitch)) A) args s 0 0 A) (entryFrame m args 7))
  rw [← hQ]
  have hP : va_P D CL [((am 0), e_X6 am tkv ttv t t_L), ((am 1), eI cA 8 t_shelf), ((am 3), eI cA 8 t_rowSize), ((am 4), eOJ cA am 5), (am 5, eJ cA 40 (t_rows_R 0)), (am 6, eJ cA 40 (t_rows_R 1)), (am 7, eJ cA 40 (t_rows_R 2)), (am 8, eJ cA 40 (t_rows_R 3)), (am 9, eJ cA 40 (t_rows_R 4)), (am 10, eJ cA 40 (t_rows_R 5)), (am 11, eJ cA 40 (t_rows_R 6)), (am 12, eJ cA 40 (t_rows_R 7)), ((am 16), eI cA 8 t_refused), ((am 17), eI cA 8 t_kind), ((am 19), eI cA 8 t_pitch), ((am 21), eI cA 12 t_word), ((am 22), eI cA 13 t_heard)] s.heap := hP
  have hD : va_D A [((am 0), e_X6 am tkv ttv t t_L), ((am 1), eI cA 8 t_shelf), ((am 3), eI cA 8 t_rowSize), ((am 4), eOJ cA am 5), (am 5, eJ cA 40 (t_rows_R 0)), (am 6, eJ cA 40 (t_rows_R 1)), (am 7, eJ cA 40 (t_rows_R 2)), (am 8, eJ cA 40 (t_rows_R 3)), (am 9, eJ cA 40 (t_rows_R 4)), (am 10, eJ cA 40 (t_rows_R 5)), (am 11, eJ cA 40 (t_rows_R 6)), (am 12, eJ cA 40 (t_rows_R 7)), ((am 16), eI cA 8 t_refused), ((am 17), eI cA 8 t_kind), ((am 19), eI cA 8 t_pitch), ((am 21), eI cA 12 t_word), ((am 22), eI cA 13 t_heard)] := hD
  have B_86 : ∀ (k_47 : (Int32 × Int32 × Int32 × (Nat → Int32) × (Nat → Int32) × (Nat → Int32) × (Nat → Int32)) → Option (Int32 × ((Nat → Int32) × (Nat → Int32) × (Nat → Int32) × (Nat → Int32)))) (HK_47 : ∀ (x : Int32 × Int32 × Int32 × (Nat → Int32) × (Nat → Int32) × (Nat → Int32) × (Nat → Int32)) (H : Heap) (locs : List Loc) (ls : Array Slot), k_47 x = some out → va_P D CL [((am 0), e_X6 am tkv ttv x.2.2.2.1 t_L), ((am 1), eI cA 8 t_shelf), ((am 3), eI cA 8 t_rowSize), ((am 4), eOJ cA am 5), (am 5, eJ cA 40 (t_rows_R 0)), (am 6, eJ cA 40 (t_rows_R 1)), (am 7, eJ cA 40 (t_rows_R 2)), (am 8, eJ cA 40 (t_rows_R 3)), (am 9, eJ cA 40 (t_rows_R 4)), (am 10, eJ cA 40 (t_rows_R 5)), (am 11, eJ cA 40 (t_rows_R 6)), (am 12, eJ cA 40 (t_rows_R 7)), ((am 16), eI cA 8 x.2.2.2.2.1), ((am 17), eI cA 8 t_kind), ((am 19), eI cA 8 t_pitch), ((am 21), eI cA 12 x.2.2.2.2.2.1), ((am 22), eI cA 13 x.2.2.2.2.2.2)] H → va_D A [((am 0), e_X6 am tkv ttv x.2.2.2.1 t_L), ((am 1), eI cA 8 t_shelf), ((am 3), eI cA 8 t_rowSize), ((am 4), eOJ cA am 5), (am 5, eJ cA 40 (t_rows_R 0)), (am 6, eJ cA 40 (t_rows_R 1)), (am 7, eJ cA 40 (t_rows_R 2)), (am 8, eJ cA 40 (t_rows_R 3)), (am 9, eJ cA 40 (t_rows_R 4)), (am 10, eJ cA 40 (t_rows_R 5)), (am 11, eJ cA 40 (t_rows_R 6)), (am 12, eJ cA 40 (t_rows_R 7)), ((am 16), eI cA 8 x.2.2.2.2.1), ((am 17), eI cA 8 t_kind), ((am 19), eI cA 8 t_pitch), ((am 21), eI cA 12 x.2.2.2.2.2.1), ((am 22), eI cA 13 x.2.2.2.2.2.2)] → va_S A s.heap H locs → lv_has ls 7 [(0, .ref (am 0)), (3, .int x.1), (5, .int x.2.1), (6, .int x.2.2.1)] → W p l e rm_X6_drawn s m args below meth c H locs 0 0 Q (F0 m 47 ls [])) (l3 : Int32) (l6 : Int32) (s0 : Int32) (s1 : Int32) (t : Nat → Int32) (t_refused : Nat → Int32) (t_word : Nat → Int32) (t_heard : Nat → Int32) (H : Heap) (locs : List Loc) (ls : Array Slot), b_X6_drawn_86 fu t_L t_shelf t_rowSize t_rows_R t_kind t_pitch k_47 l3 l6 s0 s1 t t_refused t_word t_heard = some out → va_P D CL [((am 0), e_X6 am tkv ttv t t_L), ((am 1), eI cA 8 t_shelf), ((am 3), eI cA 8 t_rowSize), ((am 4), eOJ cA am 5), (am 5, eJ cA 40 (t_rows_R 0)), (am 6, eJ cA 40 (t_rows_R 1)), (am 7, eJ cA 40 (t_rows_R 2)), (am 8, eJ cA 40 (t_rows_R 3)), (am 9, eJ cA 40 (t_rows_R 4)), (am 10, eJ cA 40 (t_rows_R 5)), (am 11, eJ cA 40 (t_rows_R 6)), (am 12, eJ cA 40 (t_rows_R 7)), ((am 16), eI cA 8 t_refused), ((am 17), eI cA 8 t_kind), ((am 19), eI cA 8 t_pitch), ((am 21), eI cA 12 t_word), ((am 22), eI cA 13 t_heard)] H → va_D A [((am 0), e_X6 am tkv ttv t t_L), ((am 1), eI cA 8 t_shelf), ((am 3), eI cA 8 t_rowSize), ((am 4), eOJ cA am 5), (am 5, eJ cA 40 (t_rows_R 0)), (am 6, eJ cA 40 (t_rows_R 1)), (am 7, eJ cA 40 (t_rows_R 2)), (am 8, eJ cA 40 (t_rows_R 3)), (am 9, eJ cA 40 (t_rows_R 4)), (am 10, eJ cA 40 (t_rows_R 5)), (am 11, eJ cA 40 (t_rows_R 6)), (am 12, eJ cA 40 (t_rows_R 7)), ((am 16), eI cA 8 t_refused), ((am 17), eI cA 8 t_kind), ((am 19), eI cA 8 t_pitch), ((am 21), eI cA 12 t_word), ((am 22), eI cA 13 t_heard)] → va_S A s.heap H locs → lv_has ls 7 [(0, .ref (am 0)), (3, .int l3), (6, .int l6)] → W p l e rm_X6_drawn s m args below meth c H locs 0 0 Q (F0 m 86 ls [.int s1, .int s0]) := by
    intro k_47 HK_47 l3 l6 s0 s1 t t_refused t_word t_heard H locs ls hm hP hD hS hl
    unfold b_X6_drawn_86 at hm
    refine lv_iadd hx hb dX6_drawn_86 ?_
    refine lv_istore (lv' := [(5, .int (s0 + s1)), (0, .ref (am 0)), (3, .int l3), (6, .int l6)]) hx hb dX6_drawn_87 hl (by decide) rfl (fun ls hl => ?_)
    refine lv_aload_n hx hb dX6_drawn_89 rfl (lv_at hl 1 rfl) ?_
    obtain ⟨o1, ho2, hm⟩ := bd_s hm
    refine xr_v (wr := [((am 1), eI cA 8 t_shelf), ((am 3), eI cA 8 t_rowSize), ((am 4), eOJ cA am 5), (am 5, eJ cA 40 (t_rows_R 0)), (am 6, eJ cA 40 (t_rows_R 1)), (am 7, eJ cA 40 (t_rows_R 2)), (am 8, eJ cA 40 (t_rows_R 3)), (am 9, eJ cA 40 (t_rows_R 4)), (am 10, eJ cA 40 (t_rows_R 5)), (am 11, eJ cA 40 (t_rows_R 6)), (am 12, eJ cA 40 (t_rows_R 7)), ((am 16), eI cA 8 t_refused), ((am 17), eI cA 8 t_kind), ((am 19), eI cA 8 t_pitch), ((am 21), eI cA 12 t_word), ((am 22), eI cA 13 t_heard)]) (wn := [((am 0), e_X6 am tkv ttv o1 t_L), ((am 1), eI cA 8 t_shelf), ((am 3), eI cA 8 t_rowSize), ((am 4), eOJ cA am 5), (am 5, eJ cA 40 (t_rows_R 0)), (am 6, eJ cA 40 (t_rows_R 1)), (am 7, eJ cA 40 (t_rows_R 2)), (am 8, eJ cA 40 (t_rows_R 3)), (am 9, eJ cA 40 (t_rows_R 4)), (am 10, eJ cA 40 (t_rows_R 5)), (am 11, eJ cA 40 (t_rows_R 6)), (am 12, eJ cA 40 (t_rows_R 7)), ((am 16), eI cA 8 t_refused), ((am 17), eI cA 8 t_kind), ((am 19), eI cA 8 t_pitch), ((am 21), eI cA 12 t_word), ((am 22), eI cA 13 t_heard)]) (va_runV (As := []) (rest := []) ⟨hx, hb, hml, hown, htg⟩ (c_X6_passes l D cA _ fu am tkv ttv t t_L o1 ho2) (cwV 0 htg (gV q_6_113 q_6_115 q_p6_14 q_1_8 q_6_116) rfl rfl rfl hd_X6_passes ⟨Nat.le_of_ble_eq_true rfl, Nat.le_of_ble_eq_true rfl⟩) (xpV hN hK hP hD [0] rfl (by decide) rfl rfl) rfl rfl hl.1 rfl (lv_room (Nat.le_of_ble_eq_true rfl)) dX6_drawn_90 ⟨Nat.zero_le _, Nat.zero_le _⟩) hP hD hS hA [0] [1, 2, 3, 4, 5, 6, 7, 8, 9, 10, 11, 12, 13, 14, 15, 16] [16, 0, 1, 2, 3, 4, 5, 6, 7, 8, 9, 10, 11, 12, 13, 14, 15] rfl rfl (by decide) (by decide) rfl (by decide) (fun H locs hP hD hS => ?_)
    refine lv_iinc (v := (l6 + (1 : Int32))) (lv' := [(6, .int (l6 + (1 : Int32))), (5, .int (s0 + s1)), (0, .ref (am 0)), (3, .int l3)]) hx hb dX6_drawn_93 hl (k := 3) rfl rfl (by decide) rfl (fun ls hl => ?_)
    refine lv_goto (tgt := 47) hx hb dX6_drawn_96 (by decide) ?_
    exact HK_47 _ _ _ _ hm hP hD hS (lv_sub hl [2, 3, 1, 0] rfl)
  have B_47 : ∀ (n : Nat) (x : Int32 × Int32 × Int32 × (Nat → Int32) × (Nat → Int32) × (Nat → Int32) × (Nat → Int32)) (H : Heap) (locs : List Loc) (ls : Array Slot), lfix (b_X6_drawn_47 fu t_L t_shelf t_rowSize t_rows_R t_kind t_pitch) n x = some out → va_P D CL [((am 0), e_X6 am tkv ttv x.2.2.2.1 t_L), ((am 1), eI cA 8 t_shelf), ((am 3), eI cA 8 t_rowSize), ((am 4), eOJ cA am 5), (am 5, eJ cA 40 (t_rows_R 0)), (am 6, eJ cA 40 (t_rows_R 1)), (am 7, eJ cA 40 (t_rows_R 2)), (am 8, eJ cA 40 (t_rows_R 3)), (am 9, eJ cA 40 (t_rows_R 4)), (am 10, eJ cA 40 (t_rows_R 5)), (am 11, eJ cA 40 (t_rows_R 6)), (am 12, eJ cA 40 (t_rows_R 7)), ((am 16), eI cA 8 x.2.2.2.2.1), ((am 17), eI cA 8 t_kind), ((am 19), eI cA 8 t_pitch), ((am 21), eI cA 12 x.2.2.2.2.2.1), ((am 22), eI cA 13 x.2.2.2.2.2.2)] H → va_D A [((am 0), e_X6 am tkv ttv x.2.2.2.1 t_L), ((am 1), eI cA 8 t_shelf), ((am 3), eI cA 8 t_rowSize), ((am 4), eOJ cA am 5), (am 5, eJ cA 40 (t_rows_R 0)), (am 6, eJ cA 40 (t_rows_R 1)), (am 7, eJ cA 40 (t_rows_R 2)), (am 8, eJ cA 40 (t_rows_R 3)), (am 9, eJ cA 40 (t_rows_R 4)), (am 10, eJ cA 40 (t_rows_R 5)), (am 11, eJ cA 40 (t_rows_R 6)), (am 12, eJ cA 40 (t_rows_R 7)), ((am 16), eI cA 8 x.2.2.2.2.1), ((am 17), eI cA 8 t_kind), ((am 19), eI cA 8 t_pitch), ((am 21), eI cA 12 x.2.2.2.2.2.1), ((am 22), eI cA 13 x.2.2.2.2.2.2)] → va_S A s.heap H locs → lv_has ls 7 [(0, .ref (am 0)), (3, .int x.1), (5, .int x.2.1), (6, .int x.2.2.1)] → W p l e rm_X6_drawn s m args below meth c H locs 0 0 Q (F0 m 47 ls []) := by
    intro  n
    induction n with
    | zero => intro x H locs ls hm; cases (show none = some out from hm)
    | succ n HK_47 =>
      intro x H locs ls hm hP hD hS hl
      replace hm : b_X6_drawn_47 fu t_L t_shelf t_rowSize t_rows_R t_kind t_pitch (lfix (b_X6_drawn_47 fu t_L t_shelf t_rowSize t_rows_R t_kind t_pitch) n) x = some out := hm
      unfold b_X6_drawn_47 at hm
      refine lv_iload hx hb dX6_drawn_47 (lv_at hl 3 rfl) ?_
      refine lv_iload_n hx hb dX6_drawn_49 rfl (lv_at hl 1 rfl) ?_
      refine lv_icmp_ge (tgt := 99) hx hb dX6_drawn_50 (by decide) (fun c3 => ?_) (fun c3 => ?_)
      · have hm := it_t c3 hm
        refine lv_iload hx hb dX6_drawn_99 (lv_at hl 2 rfl) ?_
        rw [hQ]
        exact W.iret (v := x.2.1) hx hb hr (fun t9 ht hW => ⟨⟨x.2.1, (x.2.2.2.1, x.2.2.2.2.1, x.2.2.2.2.2.1, x.2.2.2.2.2.2), rfl, (Option.some.inj hm), by rw [ht]; exact hP, va_K.moved hW.alike hK, hD⟩, hS.F ht⟩) hS.2.2 dX6_drawn_101
      · have hm := it_f c3 hm
        refine lv_aload_n hx hb dX6_drawn_53 rfl (lv_at hl 0 rfl) ?_
        refine lv_aload_n hx hb dX6_drawn_54 rfl (lv_at hl 0 rfl) ?_
        refine lv_bipush (v := (10 : Int32)) hx hb dX6_drawn_55 (by decide) ?_
        obtain ⟨o4, ho5, hm⟩ := bd_s hm
        refine xr_i (wr := [((am 1), eI cA 8 t_shelf), ((am 3), eI cA 8 t_rowSize), ((am 4), eOJ cA am 5), (am 5, eJ cA 40 (t_rows_R 0)), (am 6, eJ cA 40 (t_rows_R 1)), (am 7, eJ cA 40 (t_rows_R 2)), (am 8, eJ cA 40 (t_rows_R 3)), (am 9, eJ cA 40 (t_rows_R 4)), (am 10, eJ cA 40 (t_rows_R 5)), (am 11, eJ cA 40 (t_rows_R 6)), (am 12, eJ cA 40 (t_rows_R 7)), ((am 16), eI cA 8 x.2.2.2.2.1), ((am 17), eI cA 8 t_kind), ((am 19), eI cA 8 t_pitch), ((am 21), eI cA 12 x.2.2.2.2.2.1), ((am 22), eI cA 13 x.2.2.2.2.2.2)]) (wn := [((am 0), e_X6 am tkv ttv o4.2 t_L), ((am 1), eI cA 8 t_shelf), ((am 3), eI cA 8 t_rowSize), ((am 4), eOJ cA am 5), (am 5, eJ cA 40 (t_rows_R 0)), (am 6, eJ cA 40 (t_rows_R 1)), (am 7, eJ cA 40 (t_rows_R 2)), (am 8, eJ cA 40 (t_rows_R 3)), (am 9, eJ cA 40 (t_rows_R 4)), (am 10, eJ cA 40 (t_rows_R 5)), (am 11, eJ cA 40 (t_rows_R 6)), (am 12, eJ cA 40 (t_rows_R 7)), ((am 16), eI cA 8 x.2.2.2.2.1), ((am 17), eI cA 8 t_kind), ((am 19), eI cA 8 t_pitch), ((am 21), eI cA 12 x.2.2.2.2.2.1), ((am 22), eI cA 13 x.2.2.2.2.2.2)]) (va_runV (As := [.int (10 : Int32)]) (rest := [.ref (am 0)]) ⟨hx, hb, hml, hown, htg⟩ (c_X6_draw l D cA _ fu am tkv ttv x.2.2.2.1 t_L (10 : Int32) o4 ho5) (cwV 1 htg (gV q_7_5 q_7_7 q_p7_9 q_1_8 q_7_8) rfl rfl rfl hd_X6_draw ⟨Nat.le_of_ble_eq_true rfl, Nat.le_of_ble_eq_true rfl⟩) (xpV hN hK hP hD [0] rfl (by decide) rfl rfl) rfl rfl hl.1 rfl (lv_room (Nat.le_of_ble_eq_true rfl)) dX6_drawn_57 ⟨Nat.zero_le _, Nat.zero_le _⟩) hP hD hS hA [0] [1, 2, 3, 4, 5, 6, 7, 8, 9, 10, 11, 12, 13, 14, 15, 16] [16, 0, 1, 2, 3, 4, 5, 6, 7, 8, 9, 10, 11, 12, 13, 14, 15] rfl rfl (by decide) (by decide) rfl (by decide) (fun H locs hP hD hS => ?_)
        refine va_put (D := D) (ci := 6) (v := .int o4.1) (ty := .int) (C := RX6) (T := TX6) (N := 49) hx hb htg inX6 tyX6 tyX6_ok nmX6 hown hK hP hD hS 0 rfl rfl 10 (by decide) (htg _ q_4_199) (fun _ h9 => h9) rfl (by decide +kernel) rfl rfl (Nat.le_of_ble_eq_true rfl) dX6_drawn_60 (fun H locs (hP : va_P D CL [((am 0), e_X6 am tkv ttv (upd o4.2 10 o4.1) t_L), ((am 1), eI cA 8 t_shelf), ((am 3), eI cA 8 t_rowSize), ((am 4), eOJ cA am 5), (am 5, eJ cA 40 (t_rows_R 0)), (am 6, eJ cA 40 (t_rows_R 1)), (am 7, eJ cA 40 (t_rows_R 2)), (am 8, eJ cA 40 (t_rows_R 3)), (am 9, eJ cA 40 (t_rows_R 4)), (am 10, eJ cA 40 (t_rows_R 5)), (am 11, eJ cA 40 (t_rows_R 6)), (am 12, eJ cA 40 (t_rows_R 7)), ((am 16), eI cA 8 x.2.2.2.2.1), ((am 17), eI cA 8 t_kind), ((am 19), eI cA 8 t_pitch), ((am 21), eI cA 12 x.2.2.2.2.2.1), ((am 22), eI cA 13 x.2.2.2.2.2.2)] H) (hD : va_D A [((am 0), e_X6 am tkv ttv (upd o4.2 10 o4.1) t_L), ((am 1), eI cA 8 t_shelf), ((am 3), eI cA 8 t_rowSize), ((am 4), eOJ cA am 5), (am 5, eJ cA 40 (t_rows_R 0)), (am 6, eJ cA 40 (t_rows_R 1)), (am 7, eJ cA 40 (t_rows_R 2)), (am 8, eJ cA 40 (t_rows_R 3)), (am 9, eJ cA 40 (t_rows_R 4)), (am 10, eJ cA 40 (t_rows_R 5)), (am 11, eJ cA 40 (t_rows_R 6)), (am 12, eJ cA 40 (t_rows_R 7)), ((am 16), eI cA 8 x.2.2.2.2.1), ((am 17), eI cA 8 t_kind), ((am 19), eI cA 8 t_pitch), ((am 21), eI cA 12 x.2.2.2.2.2.1), ((am 22), eI cA 13 x.2.2.2.2.2.2)]) hS => ?_)
        refine lv_iload hx hb dX6_drawn_63 (lv_at hl 2 rfl) ?_
        refine lv_aload_n hx hb dX6_drawn_65 rfl (lv_at hl 0 rfl) ?_
        refine lv_aload_n hx hb dX6_drawn_66 rfl (lv_at hl 0 rfl) ?_
        refine lv_aload_n hx hb dX6_drawn_67 rfl (lv_at hl 0 rfl) ?_
        refine va_get (D := D) (ci := 6) (v := .int (o4.2 16)) (C := RX6) (T := TX6) (N := 49) hx hb htg inX6 hown hK hP 0 rfl rfl 16 (by decide) (htg _ q_4_205) (fun _ h9 => h9) rfl dX6_drawn_68 ?_
        obtain ⟨o6, ho7, hm⟩ := bd_s hm
        refine xr_i (wr := [((am 1), eI cA 8 t_shelf), ((am 3), eI cA 8 t_rowSize), ((am 4), eOJ cA am 5), (am 5, eJ cA 40 (t_rows_R 0)), (am 6, eJ cA 40 (t_rows_R 1)), (am 7, eJ cA 40 (t_rows_R 2)), (am 8, eJ cA 40 (t_rows_R 3)), (am 9, eJ cA 40 (t_rows_R 4)), (am 10, eJ cA 40 (t_rows_R 5)), (am 11, eJ cA 40 (t_rows_R 6)), (am 12, eJ cA 40 (t_rows_R 7)), ((am 16), eI cA 8 x.2.2.2.2.1), ((am 17), eI cA 8 t_kind), ((am 19), eI cA 8 t_pitch), ((am 21), eI cA 12 x.2.2.2.2.2.1), ((am 22), eI cA 13 x.2.2.2.2.2.2)]) (wn := [((am 0), e_X6 am tkv ttv o6.2 t_L), ((am 1), eI cA 8 t_shelf), ((am 3), eI cA 8 t_rowSize), ((am 4), eOJ cA am 5), (am 5, eJ cA 40 (t_rows_R 0)), (am 6, eJ cA 40 (t_rows_R 1)), (am 7, eJ cA 40 (t_rows_R 2)), (am 8, eJ cA 40 (t_rows_R 3)), (am 9, eJ cA 40 (t_rows_R 4)), (am 10, eJ cA 40 (t_rows_R 5)), (am 11, eJ cA 40 (t_rows_R 6)), (am 12, eJ cA 40 (t_rows_R 7)), ((am 16), eI cA 8 x.2.2.2.2.1), ((am 17), eI cA 8 t_kind), ((am 19), eI cA 8 t_pitch), ((am 21), eI cA 12 x.2.2.2.2.2.1), ((am 22), eI cA 13 x.2.2.2.2.2.2)]) (va_runV (As := [.int (o4.2 16)]) (rest := [.ref (am 0), .int x.2.1]) ⟨hx, hb, hml, hown, htg⟩ (c_X6_draw l D cA _ fu am tkv ttv (upd o4.2 10 o4.1) t_L (o4.2 16) o6 ho7) (cwV 1 htg (gV q_7_5 q_7_7 q_p7_9 q_1_8 q_7_8) rfl rfl rfl hd_X6_draw ⟨Nat.le_of_ble_eq_true rfl, Nat.le_of_ble_eq_true rfl⟩) (xpV hN hK hP hD [0] rfl (by decide) rfl rfl) rfl rfl hl.1 rfl (lv_room (Nat.le_of_ble_eq_true rfl)) dX6_drawn_71 ⟨Nat.zero_le _, Nat.zero_le _⟩) hP hD hS hA [0] [1, 2, 3, 4, 5, 6, 7, 8, 9, 10, 11, 12, 13, 14, 15, 16] [16, 0, 1, 2, 3, 4, 5, 6, 7, 8, 9, 10, 11, 12, 13, 14, 15] rfl rfl (by decide) (by decide) rfl (by decide) (fun H locs hP hD hS => ?_)
        obtain ⟨o8, ho9, hm⟩ := bd_s hm
        refine xr_i (wr := [((am 1), eI cA 8 t_shelf), ((am 3), eI cA 8 t_rowSize), ((am 4), eOJ cA am 5), (am 5, eJ cA 40 (t_rows_R 0)), (am 6, eJ cA 40 (t_rows_R 1)), (am 7, eJ cA 40 (t_rows_R 2)), (am 8, eJ cA 40 (t_rows_R 3)), (am 9, eJ cA 40 (t_rows_R 4)), (am 10, eJ cA 40 (t_rows_R 5)), (am 11, eJ cA 40 (t_rows_R 6)), (am 12, eJ cA 40 (t_rows_R 7)), ((am 16), eI cA 8 x.2.2.2.2.1)]) (wn := [((am 0), e_X6 am tkv ttv o8.2.1 t_L), ((am 1), eI cA 8 t_shelf), ((am 3), eI cA 8 t_rowSize), ((am 4), eOJ cA am 5), (am 5, eJ cA 40 (t_rows_R 0)), (am 6, eJ cA 40 (t_rows_R 1)), (am 7, eJ cA 40 (t_rows_R 2)), (am 8, eJ cA 40 (t_rows_R 3)), (am 9, eJ cA 40 (t_rows_R 4)), (am 10, eJ cA 40 (t_rows_R 5)), (am 11, eJ cA 40 (t_rows_R 6)), (am 12, eJ cA 40 (t_rows_R 7)), ((am 16), eI cA 8 x.2.2.2.2.1), ((am 17), eI cA 8 t_kind), ((am 19), eI cA 8 t_pitch), ((am 21), eI cA 12 x.2.2.2.2.2.1), ((am 22), eI cA 13 o8.2.2)]) (va_runV (As := [.int o6.1]) (rest := [.int x.2.1]) ⟨hx, hb, hml, hown, htg⟩ (c_X6_shouts l D cA _ fu am tkv ttv o6.2 t_L t_kind t_pitch x.2.2.2.2.2.1 x.2.2.2.2.2.2 o6.1 o8 ho9) (cwV 1 htg (gV q_6_233 q_6_235 q_p7_8 q_1_8 q_6_236) rfl rfl rfl hd_X6_shouts ⟨Nat.le_of_ble_eq_true rfl, Nat.le_of_ble_eq_true rfl⟩) (xpV hN hK hP hD [0, 13, 14, 15, 16] rfl (by decide) rfl rfl) rfl rfl hl.1 rfl (lv_room (Nat.le_of_ble_eq_true rfl)) dX6_drawn_74 ⟨Nat.zero_le _, Nat.zero_le _⟩) hP hD hS hA [0, 13, 14, 15, 16] [1, 2, 3, 4, 5, 6, 7, 8, 9, 10, 11, 12] [12, 0, 1, 2, 3, 4, 5, 6, 7, 8, 9, 10, 11, 13, 14, 15, 16] rfl rfl (by decide) (by decide) rfl (by decide) (fun H locs hP hD hS => ?_)
        refine lv_iconst (v := (1 : Int32)) hx hb dX6_drawn_77 (by decide) ?_
        refine lv_icmp_ne (tgt := 85) hx hb dX6_drawn_78 (by decide) (fun c10 => ?_) (fun c10 => ?_)
        · have hm := it_f c10 hm
          refine lv_iconst (v := (0 : Int32)) hx hb dX6_drawn_85 (by decide) ?_
          exact B_86 _ HK_47 _ _ _ _ _ _ _ _ _ _ _ hm hP hD hS (lv_sub hl [0, 1, 3] rfl)
        · have hm := it_t c10 hm
          refine lv_iconst (v := (1 : Int32)) hx hb dX6_drawn_81 (by decide) ?_
          refine lv_goto (tgt := 86) hx hb dX6_drawn_82 (by decide) ?_
          exact B_86 _ HK_47 _ _ _ _ _ _ _ _ _ _ _ hm hP hD hS (lv_sub hl [0, 1, 3] rfl)
  unfold m_X6_drawn at hm
  subst hargs
  have hl := lv_entry ([.ref (am 0), .int l1, .int l2, .int l3]) (n := 7) (Nat.le_of_ble_eq_true rfl)
  rw [lg_entry_eq]
  generalize (lg_sl ([.ref (am 0), .int l1, .int l2, .int l3]) ++ List.replicate (7 - (lg_sl ([.ref (am 0), .int l1, .int l2, .int l3])).length) Slot.unset).toArray = ls at hl ⊢
  have hl : lv_has ls 7 [(0, .ref (am 0)), (1, .int l1), (2, .int l2), (3, .int l3)] := hl
  refine lv_aload_n hx hb dX6_drawn_0 rfl (lv_at hl 0 rfl) ?_
  refine lv_iload_n hx hb dX6_drawn_1 rfl (lv_at hl 1 rfl) ?_
  refine lv_iload_n hx hb dX6_drawn_2 rfl (lv_at hl 2 rfl) ?_
  refine lv_bipush (v := (12 : Int32)) hx hb dX6_drawn_3 (by decide) ?_
  refine lv_iload_n hx hb dX6_drawn_5 rfl (lv_at hl 3 rfl) ?_
  refine lv_i2l hx hb dX6_drawn_6 rfl ?_
  refine lv_lconst (v := (1 : Int64)) hx hb dX6_drawn_7 (by decide) ?_
  refine lv_ldc2 (v := (40 : Int64)) hx hb hown (htg _ q_5_107) dX6_drawn_8 ?_
  obtain ⟨o11, ho12, hm⟩ := bd_s hm
  refine xr_i (wr := [((am 0), e_X6 am tkv ttv t t_L), ((am 1), eI cA 8 t_shelf), ((am 3), eI cA 8 t_rowSize), ((am 4), eOJ cA am 5), (am 5, eJ cA 40 (t_rows_R 0)), (am 6, eJ cA 40 (t_rows_R 1)), (am 7, eJ cA 40 (t_rows_R 2)), (am 8, eJ cA 40 (t_rows_R 3)), (am 9, eJ cA 40 (t_rows_R 4)), (am 10, eJ cA 40 (t_rows_R 5)), (am 11, eJ cA 40 (t_rows_R 6)), (am 12, eJ cA 40 (t_rows_R 7)), ((am 16), eI cA 8 t_refused), ((am 17), eI cA 8 t_kind), ((am 19), eI cA 8 t_pitch), ((am 21), eI cA 12 t_word), ((am 22), eI cA 13 t_heard)]) (wn := [((am 0), e_X6 am tkv ttv t t_L), ((am 1), eI cA 8 t_shelf), ((am 3), eI cA 8 t_rowSize), ((am 4), eOJ cA am 5), (am 5, eJ cA 40 (t_rows_R 0)), (am 6, eJ cA 40 (t_rows_R 1)), (am 7, eJ cA 40 (t_rows_R 2)), (am 8, eJ cA 40 (t_rows_R 3)), (am 9, eJ cA 40 (t_rows_R 4)), (am 10, eJ cA 40 (t_rows_R 5)), (am 11, eJ cA 40 (t_rows_R 6)), (am 12, eJ cA 40 (t_rows_R 7)), ((am 16), eI cA 8 t_refused), ((am 17), eI cA 8 t_kind), ((am 19), eI cA 8 t_pitch), ((am 21), eI cA 12 t_word), ((am 22), eI cA 13 t_heard)]) (va_runS (As := [.long l3.toInt64, .long (1 : Int64), .long (40 : Int64)]) (rest := [.int (12 : Int32), .int l2, .int l1, .ref (am 0)]) ⟨hx, hb, hml, hown, htg⟩ (c_X6_in l D cA _ fu l3.toInt64 (1 : Int64) (40 : Int64) o11 ho12) (cwS 3 htg (gS q_5_103 q_5_104 q_1_8 q_5_105) rfl rfl rfl hd_X6_in ⟨Nat.le_of_ble_eq_true rfl, Nat.le_of_ble_eq_true rfl⟩) (xpS hN hK hP hD [] rfl (by decide)) rfl rfl hl.1 rfl (lv_room (Nat.le_of_ble_eq_true rfl)) dX6_drawn_11 ⟨Nat.zero_le _, Nat.zero_le _⟩) hP hD hS hA [] [0, 1, 2, 3, 4, 5, 6, 7, 8, 9, 10, 11, 12, 13, 14, 15, 16] [0, 1, 2, 3, 4, 5, 6, 7, 8, 9, 10, 11, 12, 13, 14, 15, 16] rfl rfl (by decide) (by decide) rfl (by decide) (fun H locs hP hD hS => ?_)
  obtain ⟨o13, ho14, hm⟩ := bd_s hm
  refine xr_i (wr := [((am 17), eI cA 8 t_kind), ((am 19), eI cA 8 t_pitch), ((am 22), eI cA 13 t_heard)]) (wn := [((am 0), e_X6 am tkv ttv o13.2.1 t_L), ((am 1), eI cA 8 t_shelf), ((am 3), eI cA 8 t_rowSize), ((am 4), eOJ cA am 5), (am 5, eJ cA 40 (t_rows_R 0)), (am 6, eJ cA 40 (t_rows_R 1)), (am 7, eJ cA 40 (t_rows_R 2)), (am 8, eJ cA 40 (t_rows_R 3)), (am 9, eJ cA 40 (t_rows_R 4)), (am 10, eJ cA 40 (t_rows_R 5)), (am 11, eJ cA 40 (t_rows_R 6)), (am 12, eJ cA 40 (t_rows_R 7)), ((am 16), eI cA 8 o13.2.2.1), ((am 17), eI cA 8 t_kind), ((am 19), eI cA 8 t_pitch), ((am 21), eI cA 12 o13.2.2.2), ((am 22), eI cA 13 t_heard)]) (va_runV (As := [.int l1, .int l2, .int (12 : Int32), .int o11.1]) (rest := []) ⟨hx, hb, hml, hown, htg⟩ (c_X6_noWord l D cA _ fu am tkv ttv t t_L t_shelf t_rowSize t_rows_R t_refused t_word l1 l2 (12 : Int32) o11.1 o13 ho14) (cwV 4 htg (gV q_6_49 q_6_51 q_p6_8 q_1_8 q_6_52) rfl rfl rfl hd_X6_noWord ⟨Nat.le_of_ble_eq_true rfl, Nat.le_of_ble_eq_true rfl⟩) (xpV hN hK hP hD [0, 1, 2, 3, 4, 5, 6, 7, 8, 9, 10, 11, 12, 15] rfl (by decide) rfl rfl) rfl rfl hl.1 rfl (lv_room (Nat.le_of_ble_eq_true rfl)) dX6_drawn_14 ⟨Nat.zero_le _, Nat.zero_le _⟩) hP hD hS hA [0, 1, 2, 3, 4, 5, 6, 7, 8, 9, 10, 11, 12, 15] [13, 14, 16] [3, 4, 5, 6, 7, 8, 9, 10, 11, 12, 13, 14, 15, 0, 1, 16, 2] rfl rfl (by decide) (by decide) rfl (by decide) (fun H locs hP hD hS => ?_)
  refine lv_istore (lv' := [(4, .int o13.1), (0, .ref (am 0)), (1, .int l1), (2, .int l2), (3, .int l3)]) hx hb dX6_drawn_17 hl (by decide) rfl (fun ls hl => ?_)
  refine lv_iload hx hb dX6_drawn_19 (lv_at hl 0 rfl) ?_
  refine lv_if_eq (tgt := 27) hx hb dX6_drawn_21 (by decide) (fun c15 => ?_) (fun c15 => ?_)
  · have hm := it_t c15 hm
    refine lv_aload_n hx hb dX6_drawn_27 rfl (lv_at hl 1 rfl) ?_
    refine va_get (D := D) (ci := 6) (v := .int (o13.2.1 16)) (C := RX6) (T := TX6) (N := 49) hx hb htg inX6 hown hK hP 0 rfl rfl 16 (by decide) (htg _ q_4_205) (fun _ h9 => h9) rfl dX6_drawn_28 ?_
    refine lv_if_ne (tgt := 41) hx hb dX6_drawn_31 (by decide) (fun c16 => ?_) (fun c16 => ?_)
    · have hm := it_f c16 hm
      refine lv_iconst (v := (0 : Int32)) hx hb dX6_drawn_41 (by decide) ?_
      refine lv_istore (lv' := [(5, .int (0 : Int32)), (4, .int o13.1), (0, .ref (am 0)), (1, .int l1), (2, .int l2), (3, .int l3)]) hx hb dX6_drawn_42 hl (by decide) rfl (fun ls hl => ?_)
      refine lv_iconst (v := (0 : Int32)) hx hb dX6_drawn_44 (by decide) ?_
      refine lv_istore (lv' := [(6, .int (0 : Int32)), (5, .int (0 : Int32)), (4, .int o13.1), (0, .ref (am 0)), (1, .int l1), (2, .int l2), (3, .int l3)]) hx hb dX6_drawn_45 hl (by decide) rfl (fun ls hl => ?_)
      exact B_47 fu _ _ _ _ hm hP hD hS (lv_sub hl [3, 6, 1, 0] rfl)
    · have hm := it_t c16 hm
      refine lv_aload_n hx hb dX6_drawn_34 rfl (lv_at hl 1 rfl) ?_
      refine lv_bipush (v := (-5 : Int32)) hx hb dX6_drawn_35 (by decide) ?_
      obtain ⟨o17, ho18, hm⟩ := bd_s hm
      refine xr_i (wr := [((am 1), eI cA 8 t_shelf), ((am 3), eI cA 8 t_rowSize), ((am 4), eOJ cA am 5), (am 5, eJ cA 40 (t_rows_R 0)), (am 6, eJ cA 40 (t_rows_R 1)), (am 7, eJ cA 40 (t_rows_R 2)), (am 8, eJ cA 40 (t_rows_R 3)), (am 9, eJ cA 40 (t_rows_R 4)), (am 10, eJ cA 40 (t_rows_R 5)), (am 11, eJ cA 40 (t_rows_R 6)), (am 12, eJ cA 40 (t_rows_R 7)), ((am 17), eI cA 8 t_kind), ((am 19), eI cA 8 t_pitch), ((am 21), eI cA 12 o13.2.2.2), ((am 22), eI cA 13 t_heard)]) (wn := [((am 0), e_X6 am tkv ttv o13.2.1 t_L), ((am 1), eI cA 8 t_shelf), ((am 3), eI cA 8 t_rowSize), ((am 4), eOJ cA am 5), (am 5, eJ cA 40 (t_rows_R 0)), (am 6, eJ cA 40 (t_rows_R 1)), (am 7, eJ cA 40 (t_rows_R 2)), (am 8, eJ cA 40 (t_rows_R 3)), (am 9, eJ cA 40 (t_rows_R 4)), (am 10, eJ cA 40 (t_rows_R 5)), (am 11, eJ cA 40 (t_rows_R 6)), (am 12, eJ cA 40 (t_rows_R 7)), ((am 16), eI cA 8 o17.2), ((am 17), eI cA 8 t_kind), ((am 19), eI cA 8 t_pitch), ((am 21), eI cA 12 o13.2.2.2), ((am 22), eI cA 13 t_heard)]) (va_runV (As := [.int (-5 : Int32)]) (rest := []) ⟨hx, hb, hml, hown, htg⟩ (c_X6_refuse l D cA _ fu am tkv ttv o13.2.1 t_L o13.2.2.1 (-5 : Int32) o17 ho18) (cwV 1 htg (gV q_5_108 q_5_110 q_p5_7 q_1_8 q_5_111) rfl rfl rfl hd_X6_refuse ⟨Nat.le_of_ble_eq_true rfl, Nat.le_of_ble_eq_true rfl⟩) (xpV hN hK hP hD [0, 12] rfl (by decide) rfl rfl) rfl rfl hl.1 rfl (lv_room (Nat.le_of_ble_eq_true rfl)) dX6_drawn_37 ⟨Nat.zero_le _, Nat.zero_le _⟩) hP hD hS hA [0, 12] [1, 2, 3, 4, 5, 6, 7, 8, 9, 10, 11, 13, 14, 15, 16] [15, 0, 1, 2, 3, 4, 5, 6, 7, 8, 9, 10, 16, 11, 12, 13, 14] rfl rfl (by decide) (by decide) rfl (by decide) (fun H locs hP hD hS => ?_)
      rw [hQ]
      exact W.iret (v := o17.1) hx hb hr (fun t9 ht hW => ⟨⟨o17.1, (o13.2.1, o17.2, o13.2.2.2, t_heard), rfl, (Option.some.inj hm), by rw [ht]; exact hP, va_K.moved hW.alike hK, hD⟩, hS.F ht⟩) hS.2.2 dX6_drawn_40
  · have hm := it_f c15 hm
    refine lv_iload hx hb dX6_drawn_24 (lv_at hl 0 rfl) ?_
    rw [hQ]
    exact W.iret (v := o13.1) hx hb hr (fun t9 ht hW => ⟨⟨o13.1, (o13.2.1, o13.2.2.1, o13.2.2.2, t_heard), rfl, (Option.some.inj hm), by rw [ht]; exact hP, va_K.moved hW.alike hK, hD⟩, hS.F ht⟩) hS.2.2 dX6_drawn_26
def m_X6_seed (fu : Nat) (t : Nat → Int32) (t_L : Nat → Int64) (l1 : Int32) : Option (Int32 × (Nat → Int32)) :=
  some (t 20, (upd t 20 l1))
abbrev rm_X6_seed : Room := ({ frames := 0, cells := 0, slots := 0, locals := 0 } : Room)
abbrev w0_X6_seed (cA : Nat → ClassId) (am : Nat → Nat) (tkv : Value) (ttv : Value) (t : Nat → Int32) (t_L : Nat → Int64) : va_W := [((am 0), e_X6 am tkv ttv t t_L)]
abbrev w1_X6_seed (cA : Nat → ClassId) (am : Nat → Nat) (tkv : Value) (ttv : Value) (t_L : Nat → Int64) (u : (Nat → Int32)) : va_W := [((am 0), e_X6 am tkv ttv u t_L)]
theorem hd_X6_seed : yX6_seed.cls = RX6 ∧ yX6_seed.cls ≠ "java/lang/invoke/MethodHandle" ∧ yX6_seed.cls ≠ "java/lang/invoke/VarHandle" ∧ (parseMethodDescriptor yX6_seed.desc).map (fun d => d.parameters.length) = some 1 := by decide +kernel
set_option maxHeartbeats 40000000 in
set_option maxRecDepth 100000 in
theorem c_X6_seed (l : Launch) (D : va_G) (cA : Nat → ClassId) (sz : Nat) (fu : Nat) (am : Nat → Nat) (tkv : Value) (ttv : Value) (t : Nat → Int32) (t_L : Nat → Int64) (l1 : Int32) (out : Int32 × (Nat → Int32)) (hm : m_X6_seed fu t t_L l1 = some out) : MI l yX6_seed (wU yX6_seed cX6_seed 3 ((Option.some Jvm.ClassFile.FieldType.int))) rm_X6_seed D cA sz [.ref (am 0), .int l1] (w0_X6_seed cA am tkv ttv t t_L) out (w1_X6_seed cA am tkv ttv t_L) := by
  refine Met.ofW (cc := cX6_seed) (maxL := 3) (ret := (Option.some Jvm.ClassFile.FieldType.int)) (by decide) rfl ?_
  intro p e s m args below meth c s₁ B hml hv
  obtain ⟨hargs, hsz, hP, hK, hD0, hN⟩ := hv
  have hx := B.exec
  have hb := B.bytes
  have hr := B.returns
  have htg : ∀ w ∈ gw, w.before args s = true := fun w h => atoms_spec (ws := wU yX6_seed cX6_seed 3 ((Option.some Jvm.ClassFile.FieldType.int))) B.pre w (List.mem_cons_of_mem _ h)
  have hown : s.vm.findClass RX6 = some m.cls := findClass_of_methodNamed B.named
  have hlocks := B.notSynchronized
  subst hsz
  have hD := hD0.self (sz := s.heap.size)
  have hA : ∀ q : Nat, s.heap.size ≤ q → va_A (w0_X6_seed cA am tkv ttv t t_L) s.heap.size q := fun q h => Or.inr h
  have hS : va_S (va_A (w0_X6_seed cA am tkv ttv t t_L) s.heap.size) s.heap s.heap [] := va_S.rf
  generalize va_A (w0_X6_seed cA am tkv ttv t t_L) s.heap.size = A at hA hD hS ⊢
  obtain ⟨Q, hQ⟩ : ∃ Q : State → Prop, Q = MQ below (va_Qi (fun (r : Int32) (u : (Nat → Int32)) => (r, u) = out) (pst0 D cA A (w1_X6_seed cA am tkv ttv t_L)) A) args s 0 0 A := ⟨_, rfl⟩
  refine (?_ : W p l e rm_X6_seed s m args below meth c s.heap [] 0 0 (MQ below (va_Qi (fun (r : Int32) (u : (Nat → Int32)) => (r, u) = out) (pst0 D cA A (w1_X6_seed cA am tkv ttv t_L)) A) args s 0 0 A) (entryFrame m args 3))
  rw [← hQ]
  have hP : va_P D CL [((am 0), e_X6 am tkv ttv t t_L)] s.heap := hP
  have hD : va_D A [((am 0), e_X6 am tkv ttv t t_L)] := hD
  unfold m_X6_seed at hm
  subst hargs
  have hl := lv_entry ([.ref (am 0), .int l1]) (n := 3) (Nat.le_of_ble_eq_true rfl)
  rw [lg_entry_eq]
  generalize (lg_sl ([.ref (am 0), .int l1]) ++ List.replicate (3 - (lg_sl ([.ref (am 0), .int l1])).length) Slot.unset).toArray = ls at hl ⊢
  have hl : lv_has ls 3 [(0, .ref (am 0)), (1, .int l1)] := hl
  refine lv_aload_n hx hb dX6_seed_0 rfl (lv_at hl 0 rfl) ?_
  refine va_get (D := D) (ci := 6) (v := .int (t 20)) (C := RX6) (T := TX6) (N := 49) hx hb htg inX6 hown hK hP 0 rfl rfl 20 (by decide) (htg _ q_4_209) (fun _ h9 => h9) rfl dX6_seed_1 ?_
  refine lv_istore_n (lv' := [(2, .int (t 20)), (0, .ref (am 0)), (1, .int l1)]) hx hb dX6_seed_4 rfl hl (by decide) rfl (fun ls hl => ?_)
  refine lv_aload_n hx hb dX6_seed_5 rfl (lv_at hl 1 rfl) ?_
  refine lv_iload_n hx hb dX6_seed_6 rfl (lv_at hl 2 rfl) ?_
  refine va_put (D := D) (ci := 6) (v := .int l1) (ty := .int) (C := RX6) (T := TX6) (N := 49) hx hb htg inX6 tyX6 tyX6_ok nmX6 hown hK hP hD hS 0 rfl rfl 20 (by decide) (htg _ q_4_209) (fun _ h9 => h9) rfl (by decide +kernel) rfl rfl (Nat.le_of_ble_eq_true rfl) dX6_seed_7 (fun H locs (hP : va_P D CL [((am 0), e_X6 am tkv ttv (upd t 20 l1) t_L)] H) (hD : va_D A [((am 0), e_X6 am tkv ttv (upd t 20 l1) t_L)]) hS => ?_)
  refine lv_iload_n hx hb dX6_seed_10 rfl (lv_at hl 0 rfl) ?_
  rw [hQ]
  exact W.iret (v := t 20) hx hb hr (fun t9 ht hW => ⟨⟨t 20, (upd t 20 l1), rfl, (Option.some.inj hm), by rw [ht]; exact hP, va_K.moved hW.alike hK, hD⟩, hS.F ht⟩) hS.2.2 dX6_seed_11
def b_X6_copied_2 (fu : Nat) (n_p0 : Nat) (n_p1 : Nat) (p0 : Nat → Int32) (k_2 : (Int32 × (Nat → Int32)) → Option ((Nat → Int32))) (x : Int32 × (Nat → Int32)) : Option ((Nat → Int32)) :=
  (if (Int32.ofNat n_p0) ≤ x.1 then
        some x.2
      else
        gd (inb x.1 n_p0) (
        gd (inb x.1 n_p1) (
        k_2 ((x.1 + (1 : Int32)), (upd x.2 x.1.toNatClampNeg (p0 x.1.toNatClampNeg))))))
def m_X6_copied (fu : Nat) (n_p0 : Nat) (n_p1 : Nat) (p0 : Nat → Int32) (p1 : Nat → Int32) : Option ((Nat → Int32)) :=
  lfix (b_X6_copied_2 fu n_p0 n_p1 p0) fu ((0 : Int32), p1)
abbrev rm_X6_copied : Room := ({ frames := 0, cells := 0, slots := 0, locals := 0 } : Room)
abbrev w0_X6_copied (cA : Nat → ClassId) (p0a0 : Nat) (p1a0 : Nat) (n_p0 : Nat) (n_p1 : Nat) (p0 : Nat → Int32) (p1 : Nat → Int32) : va_W := [(p0a0, eI cA n_p0 p0), (p1a0, eI cA n_p1 p1)]
abbrev w1_X6_copied (cA : Nat → ClassId) (p0a0 : Nat) (p1a0 : Nat) (n_p0 : Nat) (n_p1 : Nat) (p0 : Nat → Int32) (u : (Nat → Int32)) : va_W := [(p0a0, eI cA n_p0 p0), (p1a0, eI cA n_p1 u)]
theorem hd_X6_copied : yX6_copied.cls = RX6 ∧ yX6_copied.cls ≠ "java/lang/invoke/MethodHandle" ∧ yX6_copied.cls ≠ "java/lang/invoke/VarHandle" ∧ (parseMethodDescriptor yX6_copied.desc).map (fun d => d.parameters.length) = some 2 := by decide +kernel
set_option maxHeartbeats 40000000 in
set_option maxRecDepth 100000 in
theorem c_X6_copied (l : Launch) (D : va_G) (cA : Nat → ClassId) (sz : Nat) (fu : Nat) (p0a0 : Nat) (p1a0 : Nat) (n_p0 : Nat) (n_p1 : Nat) (p0 : Nat → Int32) (p1 : Nat → Int32) (out : (Nat → Int32)) (hm : m_X6_copied fu n_p0 n_p1 p0 p1 = some out) : MV l yX6_copied (wU yX6_copied cX6_copied 3 ((Option.none : Option Jvm.ClassFile.FieldType))) rm_X6_copied D cA sz [.ref p0a0, .ref p1a0] (w0_X6_copied cA p0a0 p1a0 n_p0 n_p1 p0 p1) out (w1_X6_copied cA p0a0 p1a0 n_p0 n_p1 p0) := by
  refine Met.ofW (cc := cX6_copied) (maxL := 3) (ret := (Option.none : Option Jvm.ClassFile.FieldType)) (by decide) rfl ?_
  intro p e s m args below meth c s₁ B hml hv
  obtain ⟨hargs, hsz, hP, hK, hD0, hN⟩ := hv
  have hx := B.exec
  have hb := B.bytes
  have hr := B.returns
  have htg : ∀ w ∈ gw, w.before args s = true := fun w h => atoms_spec (ws := wU yX6_copied cX6_copied 3 ((Option.none : Option Jvm.ClassFile.FieldType))) B.pre w (List.mem_cons_of_mem _ h)
  have hown : s.vm.findClass RX6 = some m.cls := findClass_of_methodNamed B.named
  have hlocks := B.notSynchronized
  subst hsz
  have hD := hD0.self (sz := s.heap.size)
  have hA : ∀ q : Nat, s.heap.size ≤ q → va_A (w0_X6_copied cA p0a0 p1a0 n_p0 n_p1 p0 p1) s.heap.size q := fun q h => Or.inr h
  have hS : va_S (va_A (w0_X6_copied cA p0a0 p1a0 n_p0 n_p1 p0 p1) s.heap.size) s.heap s.heap [] := va_S.rf
  generalize va_A (w0_X6_copied cA p0a0 p1a0 n_p0 n_p1 p0 p1) s.heap.size = A at hA hD hS ⊢
  obtain ⟨Q, hQ⟩ : ∃ Q : State → Prop, Q = MQ below (va_Qv (fun (u : (Nat → Int32)) => u = out) (pst0 D cA A (w1_X6_copied cA p0a0 p1a0 n_p0 n_p1 p0)) A) args s 0 0 A := ⟨_, rfl⟩
  refine (?_ : W p l e rm_X6_copied s m args below meth c s.heap [] 0 0 (MQ below (va_Qv (fun (u : (Nat → Int32)) => u = out) (pst0 D cA A (w1_X6_copied cA p0a0 p1a0 n_p0 n_p1 p0)) A) args s 0 0 A) (entryFrame m args 3))
  rw [← hQ]
  have hP : va_P D CL [(p0a0, eI cA n_p0 p0), (p1a0, eI cA n_p1 p1)] s.heap := hP
  have hD : va_D A [(p0a0, eI cA n_p0 p0), (p1a0, eI cA n_p1 p1)] := hD
  have B_2 : ∀ (n : Nat) (x : Int32 × (Nat → Int32)) (H : Heap) (locs : List Loc) (ls : Array Slot), lfix (b_X6_copied_2 fu n_p0 n_p1 p0) n x = some out → va_P D CL [(p0a0, eI cA n_p0 p0), (p1a0, eI cA n_p1 x.2)] H → va_D A [(p0a0, eI cA n_p0 p0), (p1a0, eI cA n_p1 x.2)] → va_S A s.heap H locs → lv_has ls 3 [(0, .ref p0a0), (1, .ref p1a0), (2, .int x.1)] → W p l e rm_X6_copied s m args below meth c H locs 0 0 Q (F0 m 2 ls []) := by
    intro  n
    induction n with
    | zero => intro x H locs ls hm; cases (show none = some out from hm)
    | succ n HK_2 =>
      intro x H locs ls hm hP hD hS hl
      replace hm : b_X6_copied_2 fu n_p0 n_p1 p0 (lfix (b_X6_copied_2 fu n_p0 n_p1 p0) n) x = some out := hm
      unfold b_X6_copied_2 at hm
      refine lv_iload_n hx hb dX6_copied_2 rfl (lv_at hl 2 rfl) ?_
      refine lv_aload_n hx hb dX6_copied_3 rfl (lv_at hl 0 rfl) ?_
      refine va_alen (v := (Int32.ofNat n_p0)) hx hb hK hP 0 0 rfl rfl rfl dX6_copied_4 ?_
      refine lv_icmp_ge (tgt := 20) hx hb dX6_copied_5 (by decide) (fun c1 => ?_) (fun c1 => ?_)
      · have hm := it_t c1 hm
        rw [hQ]
        exact W.vret hx hb hr (fun t9 ht hW => ⟨⟨x.2, rfl, (Option.some.inj hm), by rw [ht]; exact hP, va_K.moved hW.alike hK, hD⟩, hS.F ht⟩) hS.2.2 dX6_copied_20
      · have hm := it_f c1 hm
        refine lv_aload_n hx hb dX6_copied_8 rfl (lv_at hl 1 rfl) ?_
        refine lv_iload_n hx hb dX6_copied_9 rfl (lv_at hl 2 rfl) ?_
        refine lv_aload_n hx hb dX6_copied_10 rfl (lv_at hl 0 rfl) ?_
        refine lv_iload_n hx hb dX6_copied_11 rfl (lv_at hl 2 rfl) ?_
        obtain ⟨hi2, hm⟩ := gd_s hm
        refine va_iald hx hb hK hP 0 0 rfl rfl hi2 dX6_copied_12 ?_
        obtain ⟨hi3, hm⟩ := gd_s hm
        refine va_iast hx hb hK hP hD hS 1 0 rfl rfl hi3 dX6_copied_13 (fun H locs (hP : va_P D CL [(p0a0, eI cA n_p0 p0), (p1a0, eI cA n_p1 (upd x.2 x.1.toNatClampNeg (p0 x.1.toNatClampNeg)))] H) (hD : va_D A [(p0a0, eI cA n_p0 p0), (p1a0, eI cA n_p1 (upd x.2 x.1.toNatClampNeg (p0 x.1.toNatClampNeg)))]) hS => ?_)
        refine lv_iinc (v := (x.1 + (1 : Int32))) (lv' := [(2, .int (x.1 + (1 : Int32))), (0, .ref p0a0), (1, .ref p1a0)]) hx hb dX6_copied_14 hl (k := 2) rfl rfl (by decide) rfl (fun ls hl => ?_)
        refine lv_goto (tgt := 2) hx hb dX6_copied_17 (by decide) ?_
        exact HK_2 _ _ _ _ hm hP hD hS (lv_sub hl [1, 2, 0] rfl)
  unfold m_X6_copied at hm
  subst hargs
  have hl := lv_entry ([.ref p0a0, .ref p1a0]) (n := 3) (Nat.le_of_ble_eq_true rfl)
  rw [lg_entry_eq]
  generalize (lg_sl ([.ref p0a0, .ref p1a0]) ++ List.replicate (3 - (lg_sl ([.ref p0a0, .ref p1a0])).length) Slot.unset).toArray = ls at hl ⊢
  have hl : lv_has ls 3 [(0, .ref p0a0), (1, .ref p1a0)] := hl
  refine lv_iconst (v := (0 : Int32)) hx hb dX6_copied_0 (by decide) ?_
  refine lv_istore_n (lv' := [(2, .int (0 : Int32)), (0, .ref p0a0), (1, .ref p1a0)]) hx hb dX6_copied_1 rfl hl (by decide) rfl (fun ls hl => ?_)
  exact B_2 fu _ _ _ _ hm hP hD hS (lv_sub hl [1, 2, 0] rfl)
def m_X6_takeFrom (fu : Nat) (t : Nat → Int32) (t_L : Nat → Int64) (t_kind : Nat → Int32) (t_by : Nat → Int32) (t_pitch : Nat → Int32) (p1 : Nat → Int32) (p1_L : Nat → Int64) (p1_kind : Nat → Int32) (p1_by : Nat → Int32) (p1_pitch : Nat → Int32) : Option ((Nat → Int32) × (Nat → Int32) × (Nat → Int32) × (Nat → Int32)) :=
  (m_X6_copied fu 8 8 p1_kind t_kind).bind fun o1 =>
  (m_X6_copied fu 8 8 p1_by t_by).bind fun o3 =>
  (m_X6_copied fu 8 8 p1_pitch t_pitch).bind fun o5 =>
  some ((upd (upd (upd (upd (upd (upd (upd (upd (upd t 9 (p1 9)) 10 (p1 10)) 11 (p1 11)) 12 (p1 12)) 13 (p1 13)) 14 (p1 14)) 15 (p1 15)) 16 (p1 16)) 20 (p1 20)), o1, o3, o5)
abbrev rm_X6_takeFrom : Room := ({ frames := 1, cells := 0, slots := 0, locals := 22 } : Room)
abbrev w0_X6_takeFrom (cA : Nat → ClassId) (am : Nat → Nat) (tkv : Value) (ttv : Value) (p1m : Nat → Nat) (p1kv : Value) (p1tv : Value) (t : Nat → Int32) (t_L : Nat → Int64) (t_kind : Nat → Int32) (t_by : Nat → Int32) (t_pitch : Nat → Int32) (p1 : Nat → Int32) (p1_L : Nat → Int64) (p1_kind : Nat → Int32) (p1_by : Nat → Int32) (p1_pitch : Nat → Int32) : va_W := [((am 0), e_X6 am tkv ttv t t_L), ((am 17), eI cA 8 t_kind), ((am 18), eI cA 8 t_by), ((am 19), eI cA 8 t_pitch), ((p1m 0), e_X6 p1m p1kv p1tv p1 p1_L), ((p1m 17), eI cA 8 p1_kind), ((p1m 18), eI cA 8 p1_by), ((p1m 19), eI cA 8 p1_pitch)]
abbrev w1_X6_takeFrom (cA : Nat → ClassId) (am : Nat → Nat) (tkv : Value) (ttv : Value) (p1m : Nat → Nat) (p1kv : Value) (p1tv : Value) (t_L : Nat → Int64) (p1 : Nat → Int32) (p1_L : Nat → Int64) (p1_kind : Nat → Int32) (p1_by : Nat → Int32) (p1_pitch : Nat → Int32) (u : (Nat → Int32) × (Nat → Int32) × (Nat → Int32) × (Nat → Int32)) : va_W := [((am 0), e_X6 am tkv ttv u.1 t_L), ((am 17), eI cA 8 u.2.1), ((am 18), eI cA 8 u.2.2.1), ((am 19), eI cA 8 u.2.2.2), ((p1m 0), e_X6 p1m p1kv p1tv p1 p1_L), ((p1m 17), eI cA 8 p1_kind), ((p1m 18), eI cA 8 p1_by), ((p1m 19), eI cA 8 p1_pitch)]
theorem hd_X6_takeFrom : yX6_takeFrom.cls = RX6 ∧ yX6_takeFrom.cls ≠ "java/lang/invoke/MethodHandle" ∧ yX6_takeFrom.cls ≠ "java/lang/invoke/VarHandle" ∧ (parseMethodDescriptor yX6_takeFrom.desc).map (fun d => d.parameters.length) = some 1 := by decide +kernel
set_option maxHeartbeats 40000000 in
set_option maxRecDepth 100000 in
theorem c_X6_takeFrom (l : Launch) (D : va_G) (cA : Nat → ClassId) (sz : Nat) (fu : Nat) (am : Nat → Nat) (tkv : Value) (ttv : Value) (p1m : Nat → Nat) (p1kv : Value) (p1tv : Value) (t : Nat → Int32) (t_L : Nat → Int64) (t_kind : Nat → Int32) (t_by : Nat → Int32) (t_pitch : Nat → Int32) (p1 : Nat → Int32) (p1_L : Nat → Int64) (p1_kind : Nat → Int32) (p1_by : Nat → Int32) (p1_pitch : Nat → Int32) (out : (Nat → Int32) × (Nat → Int32) × (Nat → Int32) × (Nat → Int32)) (hm : m_X6_takeFrom fu t t_L t_kind t_by t_pitch p1 p1_L p1_kind p1_by p1_pitch = some out) : MV l yX6_takeFrom (wU yX6_takeFrom cX6_takeFrom 2 ((Option.none : Option Jvm.ClassFile.FieldType))) rm_X6_takeFrom D cA sz [.ref (am 0), .ref (p1m 0)] (w0_X6_takeFrom cA am tkv ttv p1m p1kv p1tv t t_L t_kind t_by t_pitch p1 p1_L p1_kind p1_by p1_pitch) out (w1_X6_takeFrom cA am tkv ttv p1m p1kv p1tv t_L p1 p1_L p1_kind p1_by p1_pitch) := by
  refine Met.ofW (cc := cX6_takeFrom) (maxL := 2) (ret := (Option.none : Option Jvm.ClassFile.FieldType)) (by decide) rfl ?_
  intro p e s m args below meth c s₁ B hml hv
  obtain ⟨hargs, hsz, hP, hK, hD0, hN⟩ := hv
  have hx := B.exec
  have hb := B.bytes
  have hr := B.returns
  have htg : ∀ w ∈ gw, w.before args s = true := fun w h => atoms_spec (ws := wU yX6_takeFrom cX6_takeFrom 2 ((Option.none : Option Jvm.ClassFile.FieldType))) B.pre w (List.mem_cons_of_mem _ h)
  have hown : s.vm.findClass RX6 = some m.cls := findClass_of_methodNamed B.named
  have hlocks := B.notSynchronized
  subst hsz
  have hD := hD0.self (sz := s.heap.size)
  have hA : ∀ q : Nat, s.heap.size ≤ q → va_A (w0_X6_takeFrom cA am tkv ttv p1m p1kv p1tv t t_L t_kind t_by t_pitch p1 p1_L p1_kind p1_by p1_pitch) s.heap.size q := fun q h => Or.inr h
  have hS : va_S (va_A (w0_X6_takeFrom cA am tkv ttv p1m p1kv p1tv t t_L t_kind t_by t_pitch p1 p1_L p1_kind p1_by p1_pitch) s.heap.size) s.heap s.heap [] := va_S.rf
  generalize va_A (w0_X6_takeFrom cA am tkv ttv p1m p1kv p1tv t t_L t_kind t_by t_pitch p1 p1_L p1_kind p1_by p1_pitch) s.heap.size = A at hA hD hS ⊢
  obtain ⟨Q, hQ⟩ : ∃ Q : State → Prop, Q = MQ below (va_Qv (fun (u : (Nat → Int32) × (Nat → Int32) × (Nat → Int32) × (Nat → Int32)) => u = out) (pst0 D cA A (w1_X6_takeFrom cA am tkv ttv p1m p1kv p1tv t_L p1 p1_L p1_kind p1_by p1_pitch)) A) args s 0 0 A := ⟨_, rfl⟩
  refine (?_ : W p l e rm_X6_takeFrom s m args below meth c s.heap [] 0 0 (MQ below (va_Qv (fun (u : (Nat → Int32) × (Nat → Int32) × (Nat → Int32) × (Nat → Int32)) => u = out) (pst0 D cA A (w1_X6_takeFrom cA am tkv ttv p1m p1kv p1tv t_L p1 p1_L p1_kind p1_by p1_pitch)) A) args s 0 0 A) (entryFrame m args 2))
  rw [← hQ]
  have hP : va_P D CL [((am 0), e_X6 am tkv ttv t t_L), ((am 17), eI cA 8 t_kind), ((am 18), eI cA 8 t_by), ((am 19), eI cA 8 t_pitch), ((p1m 0), e_X6 p1m p1kv p1tv p1 p1_L), ((p1m 17), eI cA 8 p1_kind), ((p1m 18), eI cA 8 p1_by), ((p1m 19), eI cA 8 p1_pitch)] s.heap := hP
  have hD : va_D A [((am 0), e_X6 am tkv ttv t t_L), ((am 17), eI cA 8 t_kind), ((am 18), eI cA 8 t_by), ((am 19), eI cA 8 t_pitch), ((p1m 0), e_X6 p1m p1kv p1tv p1 p1_L), ((p1m 17), eI cA 8 p1_kind), ((p1m 18), eI cA 8 p1_by), ((p1m 19), eI cA 8 p1_pitch)] := hD
  unfold m_X6_takeFrom at hm
  subst hargs
  have hl := lv_entry ([.ref (am 0), .ref (p1m 0)]) (n := 2) (Nat.le_of_ble_eq_true rfl)
  rw [lg_entry_eq]
  generalize (lg_sl ([.ref (am 0), .ref (p1m 0)]) ++ List.replicate (2 - (lg_sl ([.ref (am 0), .ref (p1m 0)])).length) Slot.unset).toArray = ls at hl ⊢
  have hl : lv_has ls 2 [(0, .ref (am 0)), (1, .ref (p1m 0))] := hl
  refine lv_aload_n hx hb dX6_takeFrom_0 rfl (lv_at hl 0 rfl) ?_
  refine lv_aload_n hx hb dX6_takeFrom_1 rfl (lv_at hl 1 rfl) ?_
  refine va_get (D := D) (ci := 6) (v := .int (p1 9)) (C := RX6) (T := TX6) (N := 49) hx hb htg inX6 hown hK hP 4 rfl rfl 9 (by decide) (htg _ q_4_198) (fun _ h9 => h9) rfl dX6_takeFrom_2 ?_
  refine va_put (D := D) (ci := 6) (v := .int (p1 9)) (ty := .int) (C := RX6) (T := TX6) (N := 49) hx hb htg inX6 tyX6 tyX6_ok nmX6 hown hK hP hD hS 0 rfl rfl 9 (by decide) (htg _ q_4_198) (fun _ h9 => h9) rfl (by decide +kernel) rfl rfl (Nat.le_of_ble_eq_true rfl) dX6_takeFrom_5 (fun H locs (hP : va_P D CL [((am 0), e_X6 am tkv ttv (upd t 9 (p1 9)) t_L), ((am 17), eI cA 8 t_kind), ((am 18), eI cA 8 t_by), ((am 19), eI cA 8 t_pitch), ((p1m 0), e_X6 p1m p1kv p1tv p1 p1_L), ((p1m 17), eI cA 8 p1_kind), ((p1m 18), eI cA 8 p1_by), ((p1m 19), eI cA 8 p1_pitch)] H) (hD : va_D A [((am 0), e_X6 am tkv ttv (upd t 9 (p1 9)) t_L), ((am 17), eI cA 8 t_kind), ((am 18), eI cA 8 t_by), ((am 19), eI cA 8 t_pitch), ((p1m 0), e_X6 p1m p1kv p1tv p1 p1_L), ((p1m 17), eI cA 8 p1_kind), ((p1m 18), eI cA 8 p1_by), ((p1m 19), eI cA 8 p1_pitch)]) hS => ?_)
  refine lv_aload_n hx hb dX6_takeFrom_8 rfl (lv_at hl 0 rfl) ?_
  refine lv_aload_n hx hb dX6_takeFrom_9 rfl (lv_at hl 1 rfl) ?_
  refine va_get (D := D) (ci := 6) (v := .int (p1 10)) (C := RX6) (T := TX6) (N := 49) hx hb htg inX6 hown hK hP 4 rfl rfl 10 (by decide) (htg _ q_4_199) (fun _ h9 => h9) rfl dX6_takeFrom_10 ?_
  refine va_put (D := D) (ci := 6) (v := .int (p1 10)) (ty := .int) (C := RX6) (T := TX6) (N := 49) hx hb htg inX6 tyX6 tyX6_ok nmX6 hown hK hP hD hS 0 rfl rfl 10 (by decide) (htg _ q_4_199) (fun _ h9 => h9) rfl (by decide +kernel) rfl rfl (Nat.le_of_ble_eq_true rfl) dX6_takeFrom_13 (fun H locs (hP : va_P D CL [((am 0), e_X6 am tkv ttv (upd (upd t 9 (p1 9)) 10 (p1 10)) t_L), ((am 17), eI cA 8 t_kind), ((am 18), eI cA 8 t_by), ((am 19), eI cA 8 t_pitch), ((p1m 0), e_X6 p1m p1kv p1tv p1 p1_L), ((p1m 17), eI cA 8 p1_kind), ((p1m 18), eI cA 8 p1_by), ((p1m 19), eI cA 8 p1_pitch)] H) (hD : va_D A [((am 0), e_X6 am tkv ttv (upd (upd t 9 (p1 9)) 10 (p1 10)) t_L), ((am 17), eI cA 8 t_kind), ((am 18), eI cA 8 t_by), ((am 19), eI cA 8 t_pitch), ((p1m 0), e_X6 p1m p1kv p1tv p1 p1_L), ((p1m 17), eI cA 8 p1_kind), ((p1m 18), eI cA 8 p1_by), ((p1m 19), eI cA 8 p1_pitch)]) hS => ?_)
  refine lv_aload_n hx hb dX6_takeFrom_16 rfl (lv_at hl 0 rfl) ?_
  refine lv_aload_n hx hb dX6_takeFrom_17 rfl (lv_at hl 1 rfl) ?_
  refine va_get (D := D) (ci := 6) (v := .int (p1 11)) (C := RX6) (T := TX6) (N := 49) hx hb htg inX6 hown hK hP 4 rfl rfl 11 (by decide) (htg _ q_4_200) (fun _ h9 => h9) rfl dX6_takeFrom_18 ?_
  refine va_put (D := D) (ci := 6) (v := .int (p1 11)) (ty := .int) (C := RX6) (T := TX6) (N := 49) hx hb htg inX6 tyX6 tyX6_ok nmX6 hown hK hP hD hS 0 rfl rfl 11 (by decide) (htg _ q_4_200) (fun _ h9 => h9) rfl (by decide +kernel) rfl rfl (Nat.le_of_ble_eq_true rfl) dX6_takeFrom_21 (fun H locs (hP : va_P D CL [((am 0), e_X6 am tkv ttv (upd (upd (upd t 9 (p1 9)) 10 (p1 10)) 11 (p1 11)) t_L), ((am 17), eI cA 8 t_kind), ((am 18), eI cA 8 t_by), ((am 19), eI cA 8 t_pitch), ((p1m 0), e_X6 p1m p1kv p1tv p1 p1_L), ((p1m 17), eI cA 8 p1_kind), ((p1m 18), eI cA 8 p1_by), ((p1m 19), eI cA 8 p1_pitch)] H) (hD : va_D A [((am 0), e_X6 am tkv ttv (upd (upd (upd t 9 (p1 9)) 10 (p1 10)) 11 (p1 11)) t_L), ((am 17), eI cA 8 t_kind), ((am 18), eI cA 8 t_by), ((am 19), eI cA 8 t_pitch), ((p1m 0), e_X6 p1m p1kv p1tv p1 p1_L), ((p1m 17), eI cA 8 p1_kind), ((p1m 18), eI cA 8 p1_by), ((p1m 19), eI cA 8 p1_pitch)]) hS => ?_)
  refine lv_aload_n hx hb dX6_takeFrom_24 rfl (lv_at hl 0 rfl) ?_
  refine lv_aload_n hx hb dX6_takeFrom_25 rfl (lv_at hl 1 rfl) ?_
  refine va_get (D := D) (ci := 6) (v := .int (p1 12)) (C := RX6) (T := TX6) (N := 49) hx hb htg inX6 hown hK hP 4 rfl rfl 12 (by decide) (htg _ q_4_201) (fun _ h9 => h9) rfl dX6_takeFrom_26 ?_
  refine va_put (D := D) (ci := 6) (v := .int (p1 12)) (ty := .int) (C := RX6) (T := TX6) (N := 49) hx hb htg inX6 tyX6 tyX6_ok nmX6 hown hK hP hD hS 0 rfl rfl 12 (by decide) (htg _ q_4_201) (fun _ h9 => h9) rfl (by decide +kernel) rfl rfl (Nat.le_of_ble_eq_true rfl) dX6_takeFrom_29 (fun H locs (hP : va_P D CL [((am 0), e_X6 am tkv ttv (upd (upd (upd (upd t 9 (p1 9)) 10 (p1 10)) 11 (p1 11)) 12 (p1 12)) t_L), ((am 17), eI cA 8 t_kind), ((am 18), eI cA 8 t_by), ((am 19), eI cA 8 t_pitch), ((p1m 0), e_X6 p1m p1kv p1tv p1 p1_L), ((p1m 17), eI cA 8 p1_kind), ((p1m 18), eI cA 8 p1_by), ((p1m 19), eI cA 8 p1_pitch)] H) (hD : va_D A [((am 0), e_X6 am tkv ttv (upd (upd (upd (upd t 9 (p1 9)) 10 (p1 10)) 11 (p1 11)) 12 (p1 12)) t_L), ((am 17), eI cA 8 t_kind), ((am 18), eI cA 8 t_by), ((am 19), eI cA 8 t_pitch), ((p1m 0), e_X6 p1m p1kv p1tv p1 p1_L), ((p1m 17), eI cA 8 p1_kind), ((p1m 18), eI cA 8 p1_by), ((p1m 19), eI cA 8 p1_pitch)]) hS => ?_)
  refine lv_aload_n hx hb dX6_takeFrom_32 rfl (lv_at hl 0 rfl) ?_
  refine lv_aload_n hx hb dX6_takeFrom_33 rfl (lv_at hl 1 rfl) ?_
  refine va_get (D := D) (ci := 6) (v := .int (p1 13)) (C := RX6) (T := TX6) (N := 49) hx hb htg inX6 hown hK hP 4 rfl rfl 13 (by decide) (htg _ q_4_202) (fun _ h9 => h9) rfl dX6_takeFrom_34 ?_
  refine va_put (D := D) (ci := 6) (v := .int (p1 13)) (ty := .int) (C := RX6) (T := TX6) (N := 49) hx hb htg inX6 tyX6 tyX6_ok nmX6 hown hK hP hD hS 0 rfl rfl 13 (by decide) (htg _ q_4_202) (fun _ h9 => h9) rfl (by decide +kernel) rfl rfl (Nat.le_of_ble_eq_true rfl) dX6_takeFrom_37 (fun H locs (hP : va_P D CL [((am 0), e_X6 am tkv ttv (upd (upd (upd (upd (upd t 9 (p1 9)) 10 (p1 10)) 11 (p1 11)) 12 (p1 12)) 13 (p1 13)) t_L), ((am 17), eI cA 8 t_kind), ((am 18), eI cA 8 t_by), ((am 19), eI cA 8 t_pitch), ((p1m 0), e_X6 p1m p1kv p1tv p1 p1_L), ((p1m 17), eI cA 8 p1_kind), ((p1m 18), eI cA 8 p1_by), ((p1m 19), eI cA 8 p1_pitch)] H) (hD : va_D A [((am 0), e_X6 am tkv ttv (upd (upd (upd (upd (upd t 9 (p1 9)) 10 (p1 10)) 11 (p1 11)) 12 (p1 12)) 13 (p1 13)) t_L), ((am 17), eI cA 8 t_kind), ((am 18), eI cA 8 t_by), ((am 19), eI cA 8 t_pitch), ((p1m 0), e_X6 p1m p1kv p1tv p1 p1_L), ((p1m 17), eI cA 8 p1_kind), ((p1m 18), eI cA 8 p1_by), ((p1m 19), eI cA 8 p1_pitch)]) hS => ?_)
  refine lv_aload_n hx hb dX6_takeFrom_40 rfl (lv_at hl 0 rfl) ?_
  refine lv_aload_n hx hb dX6_takeFrom_41 rfl (lv_at hl 1 rfl) ?_
  refine va_get (D := D) (ci := 6) (v := .int (p1 14)) (C := RX6) (T := TX6) (N := 49) hx hb htg inX6 hown hK hP 4 rfl rfl 14 (by decide) (htg _ q_4_203) (fun _ h9 => h9) rfl dX6_takeFrom_42 ?_
  refine va_put (D := D) (ci := 6) (v := .int (p1 14)) (ty := .int) (C := RX6) (T := TX6) (N := 49) hx hb htg inX6 tyX6 tyX6_ok nmX6 hown hK hP hD hS 0 rfl rfl 14 (by decide) (htg _ q_4_203) (fun _ h9 => h9) rfl (by decide +kernel) rfl rfl (Nat.le_of_ble_eq_true rfl) dX6_takeFrom_45 (fun H locs (hP : va_P D CL [((am 0), e_X6 am tkv ttv (upd (upd (upd (upd (upd (upd t 9 (p1 9)) 10 (p1 10)) 11 (p1 11)) 12 (p1 12)) 13 (p1 13)) 14 (p1 14)) t_L), ((am 17), eI cA 8 t_kind), ((am 18), eI cA 8 t_by), ((am 19), eI cA 8 t_pitch), ((p1m 0), e_X6 p1m p1kv p1tv p1 p1_L), ((p1m 17), eI cA 8 p1_kind), ((p1m 18), eI cA 8 p1_by), ((p1m 19), eI cA 8 p1_pitch)] H) (hD : va_D A [((am 0), e_X6 am tkv ttv (upd (upd (upd (upd (upd (upd t 9 (p1 9)) 10 (p1 10)) 11 (p1 11)) 12 (p1 12)) 13 (p1 13)) 14 (p1 14)) t_L), ((am 17), eI cA 8 t_kind), ((am 18), eI cA 8 t_by), ((am 19), eI cA 8 t_pitch), ((p1m 0), e_X6 p1m p1kv p1tv p1 p1_L), ((p1m 17), eI cA 8 p1_kind), ((p1m 18), eI cA 8 p1_by), ((p1m 19), eI cA 8 p1_pitch)]) hS => ?_)
  refine lv_aload_n hx hb dX6_takeFrom_48 rfl (lv_at hl 0 rfl) ?_
  refine lv_aload_n hx hb dX6_takeFrom_49 rfl (lv_at hl 1 rfl) ?_
  refine va_get (D := D) (ci := 6) (v := .int (p1 15)) (C := RX6) (T := TX6) (N := 49) hx hb htg inX6 hown hK hP 4 rfl rfl 15 (by decide) (htg _ q_4_204) (fun _ h9 => h9) rfl dX6_takeFrom_50 ?_
  refine va_put (D := D) (ci := 6) (v := .int (p1 15)) (ty := .int) (C := RX6) (T := TX6) (N := 49) hx hb htg inX6 tyX6 tyX6_ok nmX6 hown hK hP hD hS 0 rfl rfl 15 (by decide) (htg _ q_4_204) (fun _ h9 => h9) rfl (by decide +kernel) rfl rfl (Nat.le_of_ble_eq_true rfl) dX6_takeFrom_53 (fun H locs (hP : va_P D CL [((am 0), e_X6 am tkv ttv (upd (upd (upd (upd (upd (upd (upd t 9 (p1 9)) 10 (p1 10)) 11 (p1 11)) 12 (p1 12)) 13 (p1 13)) 14 (p1 14)) 15 (p1 15)) t_L), ((am 17), eI cA 8 t_kind), ((am 18), eI cA 8 t_by), ((am 19), eI cA 8 t_pitch), ((p1m 0), e_X6 p1m p1kv p1tv p1 p1_L), ((p1m 17), eI cA 8 p1_kind), ((p1m 18), eI cA 8 p1_by), ((p1m 19), eI cA 8 p1_pitch)] H) (hD : va_D A [((am 0), e_X6 am tkv ttv (upd (upd (upd (upd (upd (upd (upd t 9 (p1 9)) 10 (p1 10)) 11 (p1 11)) 12 (p1 12)) 13 (p1 13)) 14 (p1 14)) 15 (p1 15)) t_L), ((am 17), eI cA 8 t_kind), ((am 18), eI cA 8 t_by), ((am 19), eI cA 8 t_pitch), ((p1m 0), e_X6 p1m p1kv p1tv p1 p1_L), ((p1m 17), eI cA 8 p1_kind), ((p1m 18), eI cA 8 p1_by), ((p1m 19), eI cA 8 p1_pitch)]) hS => ?_)
  refine lv_aload_n hx hb dX6_takeFrom_56 rfl (lv_at hl 0 rfl) ?_
  refine lv_aload_n hx hb dX6_takeFrom_57 rfl (lv_at hl 1 rfl) ?_
  refine va_get (D := D) (ci := 6) (v := .int (p1 16)) (C := RX6) (T := TX6) (N := 49) hx hb htg inX6 hown hK hP 4 rfl rfl 16 (by decide) (htg _ q_4_205) (fun _ h9 => h9) rfl dX6_takeFrom_58 ?_
  refine va_put (D := D) (ci := 6) (v := .int (p1 16)) (ty := .int) (C := RX6) (T := TX6) (N := 49) hx hb htg inX6 tyX6 tyX6_ok nmX6 hown hK hP hD hS 0 rfl rfl 16 (by decide) (htg _ q_4_205) (fun _ h9 => h9) rfl (by decide +kernel) rfl rfl (Nat.le_of_ble_eq_true rfl) dX6_takeFrom_61 (fun H locs (hP : va_P D CL [((am 0), e_X6 am tkv ttv (upd (upd (upd (upd (upd (upd (upd (upd t 9 (p1 9)) 10 (p1 10)) 11 (p1 11)) 12 (p1 12)) 13 (p1 13)) 14 (p1 14)) 15 (p1 15)) 16 (p1 16)) t_L), ((am 17), eI cA 8 t_kind), ((am 18), eI cA 8 t_by), ((am 19), eI cA 8 t_pitch), ((p1m 0), e_X6 p1m p1kv p1tv p1 p1_L), ((p1m 17), eI cA 8 p1_kind), ((p1m 18), eI cA 8 p1_by), ((p1m 19), eI cA 8 p1_pitch)] H) (hD : va_D A [((am 0), e_X6 am tkv ttv (upd (upd (upd (upd (upd (upd (upd (upd t 9 (p1 9)) 10 (p1 10)) 11 (p1 11)) 12 (p1 12)) 13 (p1 13)) 14 (p1 14)) 15 (p1 15)) 16 (p1 16)) t_L), ((am 17), eI cA 8 t_kind), ((am 18), eI cA 8 t_by), ((am 19), eI cA 8 t_pitch), ((p1m 0), e_X6 p1m p1kv p1tv p1 p1_L), ((p1m 17), eI cA 8 p1_kind), ((p1m 18), eI cA 8 p1_by), ((p1m 19), eI cA 8 p1_pitch)]) hS => ?_)
  refine lv_aload_n hx hb dX6_takeFrom_64 rfl (lv_at hl 1 rfl) ?_
  refine va_get (D := D) (ci := 6) (v := .ref (p1m 17)) (C := RX6) (T := TX6) (N := 49) hx hb htg inX6 hown hK hP 4 rfl rfl 17 (by decide) (htg _ q_4_206) (fun _ h9 => h9) rfl dX6_takeFrom_65 ?_
  refine lv_aload_n hx hb dX6_takeFrom_68 rfl (lv_at hl 0 rfl) ?_
  refine va_get (D := D) (ci := 6) (v := .ref (am 17)) (C := RX6) (T := TX6) (N := 49) hx hb htg inX6 hown hK hP 0 rfl rfl 17 (by decide) (htg _ q_4_206) (fun _ h9 => h9) rfl dX6_takeFrom_69 ?_
  obtain ⟨o1, ho2, hm⟩ := bd_s hm
  refine xr_v (wr := [((am 0), e_X6 am tkv ttv (upd (upd (upd (upd (upd (upd (upd (upd t 9 (p1 9)) 10 (p1 10)) 11 (p1 11)) 12 (p1 12)) 13 (p1 13)) 14 (p1 14)) 15 (p1 15)) 16 (p1 16)) t_L), ((am 18), eI cA 8 t_by), ((am 19), eI cA 8 t_pitch), ((p1m 0), e_X6 p1m p1kv p1tv p1 p1_L), ((p1m 18), eI cA 8 p1_by), ((p1m 19), eI cA 8 p1_pitch)]) (wn := [((am 0), e_X6 am tkv ttv (upd (upd (upd (upd (upd (upd (upd (upd t 9 (p1 9)) 10 (p1 10)) 11 (p1 11)) 12 (p1 12)) 13 (p1 13)) 14 (p1 14)) 15 (p1 15)) 16 (p1 16)) t_L), ((am 17), eI cA 8 o1), ((am 18), eI cA 8 t_by), ((am 19), eI cA 8 t_pitch), ((p1m 0), e_X6 p1m p1kv p1tv p1 p1_L), ((p1m 17), eI cA 8 p1_kind), ((p1m 18), eI cA 8 p1_by), ((p1m 19), eI cA 8 p1_pitch)]) (va_runS (As := [.ref (p1m 17), .ref (am 17)]) (rest := []) ⟨hx, hb, hml, hown, htg⟩ (c_X6_copied l D cA _ fu (p1m 17) (am 17) 8 8 p1_kind t_kind o1 ho2) (cwS 2 htg (gS q_5_210 q_5_211 q_1_8 q_5_212) rfl rfl rfl hd_X6_copied ⟨Nat.le_of_ble_eq_true rfl, Nat.le_of_ble_eq_true rfl⟩) (xpS hN hK hP hD [5, 1] rfl (by decide)) rfl rfl hl.1 rfl (lv_room (Nat.le_of_ble_eq_true rfl)) dX6_takeFrom_72 ⟨Nat.zero_le _, Nat.zero_le _⟩) hP hD hS hA [5, 1] [0, 2, 3, 4, 6, 7] [0, 7, 1, 2, 3, 6, 4, 5] rfl rfl (by decide) (by decide) rfl (by decide) (fun H locs hP hD hS => ?_)
  refine lv_aload_n hx hb dX6_takeFrom_75 rfl (lv_at hl 1 rfl) ?_
  refine va_get (D := D) (ci := 6) (v := .ref (p1m 18)) (C := RX6) (T := TX6) (N := 49) hx hb htg inX6 hown hK hP 4 rfl rfl 18 (by decide) (htg _ q_4_207) (fun _ h9 => h9) rfl dX6_takeFrom_76 ?_
  refine lv_aload_n hx hb dX6_takeFrom_79 rfl (lv_at hl 0 rfl) ?_
  refine va_get (D := D) (ci := 6) (v := .ref (am 18)) (C := RX6) (T := TX6) (N := 49) hx hb htg inX6 hown hK hP 0 rfl rfl 18 (by decide) (htg _ q_4_207) (fun _ h9 => h9) rfl dX6_takeFrom_80 ?_
  obtain ⟨o3, ho4, hm⟩ := bd_s hm
  refine xr_v (wr := [((am 0), e_X6 am tkv ttv (upd (upd (upd (upd (upd (upd (upd (upd t 9 (p1 9)) 10 (p1 10)) 11 (p1 11)) 12 (p1 12)) 13 (p1 13)) 14 (p1 14)) 15 (p1 15)) 16 (p1 16)) t_L), ((am 17), eI cA 8 o1), ((am 19), eI cA 8 t_pitch), ((p1m 0), e_X6 p1m p1kv p1tv p1 p1_L), ((p1m 17), eI cA 8 p1_kind), ((p1m 19), eI cA 8 p1_pitch)]) (wn := [((am 0), e_X6 am tkv ttv (upd (upd (upd (upd (upd (upd (upd (upd t 9 (p1 9)) 10 (p1 10)) 11 (p1 11)) 12 (p1 12)) 13 (p1 13)) 14 (p1 14)) 15 (p1 15)) 16 (p1 16)) t_L), ((am 17), eI cA 8 o1), ((am 18), eI cA 8 o3), ((am 19), eI cA 8 t_pitch), ((p1m 0), e_X6 p1m p1kv p1tv p1 p1_L), ((p1m 17), eI cA 8 p1_kind), ((p1m 18), eI cA 8 p1_by), ((p1m 19), eI cA 8 p1_pitch)]) (va_runS (As := [.ref (p1m 18), .ref (am 18)]) (rest := []) ⟨hx, hb, hml, hown, htg⟩ (c_X6_copied l D cA _ fu (p1m 18) (am 18) 8 8 p1_by t_by o3 ho4) (cwS 2 htg (gS q_5_210 q_5_211 q_1_8 q_5_212) rfl rfl rfl hd_X6_copied ⟨Nat.le_of_ble_eq_true rfl, Nat.le_of_ble_eq_true rfl⟩) (xpS hN hK hP hD [6, 2] rfl (by decide)) rfl rfl hl.1 rfl (lv_room (Nat.le_of_ble_eq_true rfl)) dX6_takeFrom_83 ⟨Nat.zero_le _, Nat.zero_le _⟩) hP hD hS hA [6, 2] [0, 1, 3, 4, 5, 7] [0, 1, 7, 2, 3, 4, 6, 5] rfl rfl (by decide) (by decide) rfl (by decide) (fun H locs hP hD hS => ?_)
  refine lv_aload_n hx hb dX6_takeFrom_86 rfl (lv_at hl 1 rfl) ?_
  refine va_get (D := D) (ci := 6) (v := .ref (p1m 19)) (C := RX6) (T := TX6) (N := 49) hx hb htg inX6 hown hK hP 4 rfl rfl 19 (by decide) (htg _ q_4_208) (fun _ h9 => h9) rfl dX6_takeFrom_87 ?_
  refine lv_aload_n hx hb dX6_takeFrom_90 rfl (lv_at hl 0 rfl) ?_
  refine va_get (D := D) (ci := 6) (v := .ref (am 19)) (C := RX6) (T := TX6) (N := 49) hx hb htg inX6 hown hK hP 0 rfl rfl 19 (by decide) (htg _ q_4_208) (fun _ h9 => h9) rfl dX6_takeFrom_91 ?_
  obtain ⟨o5, ho6, hm⟩ := bd_s hm
  refine xr_v (wr := [((am 0), e_X6 am tkv ttv (upd (upd (upd (upd (upd (upd (upd (upd t 9 (p1 9)) 10 (p1 10)) 11 (p1 11)) 12 (p1 12)) 13 (p1 13)) 14 (p1 14)) 15 (p1 15)) 16 (p1 16)) t_L), ((am 17), eI cA 8 o1), ((am 18), eI cA 8 o3), ((p1m 0), e_X6 p1m p1kv p1tv p1 p1_L), ((p1m 17), eI cA 8 p1_kind), ((p1m 18), eI cA 8 p1_by)]) (wn := [((am 0), e_X6 am tkv ttv (upd (upd (upd (upd (upd (upd (upd (upd t 9 (p1 9)) 10 (p1 10)) 11 (p1 11)) 12 (p1 12)) 13 (p1 13)) 14 (p1 14)) 15 (p1 15)) 16 (p1 16)) t_L), ((am 17), eI cA 8 o1), ((am 18), eI cA 8 o3), ((am 19), eI cA 8 o5), ((p1m 0), e_X6 p1m p1kv p1tv p1 p1_L), ((p1m 17), eI cA 8 p1_kind), ((p1m 18), eI cA 8 p1_by), ((p1m 19), eI cA 8 p1_pitch)]) (va_runS (As := [.ref (p1m 19), .ref (am 19)]) (rest := []) ⟨hx, hb, hml, hown, htg⟩ (c_X6_copied l D cA _ fu (p1m 19) (am 19) 8 8 p1_pitch t_pitch o5 ho6) (cwS 2 htg (gS q_5_210 q_5_211 q_1_8 q_5_212) rfl rfl rfl hd_X6_copied ⟨Nat.le_of_ble_eq_true rfl, Nat.le_of_ble_eq_true rfl⟩) (xpS hN hK hP hD [7, 3] rfl (by decide)) rfl rfl hl.1 rfl (lv_room (Nat.le_of_ble_eq_true rfl)) dX6_takeFrom_94 ⟨Nat.zero_le _, Nat.zero_le _⟩) hP hD hS hA [7, 3] [0, 1, 2, 4, 5, 6] [0, 1, 2, 7, 3, 4, 5, 6] rfl rfl (by decide) (by decide) rfl (by decide) (fun H locs hP hD hS => ?_)
  refine lv_aload_n hx hb dX6_takeFrom_97 rfl (lv_at hl 0 rfl) ?_
  refine lv_aload_n hx hb dX6_takeFrom_98 rfl (lv_at hl 1 rfl) ?_
  refine va_get (D := D) (ci := 6) (v := .int (p1 20)) (C := RX6) (T := TX6) (N := 49) hx hb htg inX6 hown hK hP 4 rfl rfl 20 (by decide) (htg _ q_4_209) (fun _ h9 => h9) rfl dX6_takeFrom_99 ?_
  refine va_put (D := D) (ci := 6) (v := .int (p1 20)) (ty := .int) (C := RX6) (T := TX6) (N := 49) hx hb htg inX6 tyX6 tyX6_ok nmX6 hown hK hP hD hS 0 rfl rfl 20 (by decide) (htg _ q_4_209) (fun _ h9 => h9) rfl (by decide +kernel) rfl rfl (Nat.le_of_ble_eq_true rfl) dX6_takeFrom_102 (fun H locs (hP : va_P D CL [((am 0), e_X6 am tkv ttv (upd (upd (upd (upd (upd (upd (upd (upd (upd t 9 (p1 9)) 10 (p1 10)) 11 (p1 11)) 12 (p1 12)) 13 (p1 13)) 14 (p1 14)) 15 (p1 15)) 16 (p1 16)) 20 (p1 20)) t_L), ((am 17), eI cA 8 o1), ((am 18), eI cA 8 o3), ((am 19), eI cA 8 o5), ((p1m 0), e_X6 p1m p1kv p1tv p1 p1_L), ((p1m 17), eI cA 8 p1_kind), ((p1m 18), eI cA 8 p1_by), ((p1m 19), eI cA 8 p1_pitch)] H) (hD : va_D A [((am 0), e_X6 am tkv ttv (upd (upd (upd (upd (upd (upd (upd (upd (upd t 9 (p1 9)) 10 (p1 10)) 11 (p1 11)) 12 (p1 12)) 13 (p1 13)) 14 (p1 14)) 15 (p1 15)) 16 (p1 16)) 20 (p1 20)) t_L), ((am 17), eI cA 8 o1), ((am 18), eI cA 8 o3), ((am 19), eI cA 8 o5), ((p1m 0), e_X6 p1m p1kv p1tv p1 p1_L), ((p1m 17), eI cA 8 p1_kind), ((p1m 18), eI cA 8 p1_by), ((p1m 19), eI cA 8 p1_pitch)]) hS => ?_)
  rw [hQ]
  exact W.vret hx hb hr (fun t9 ht hW => ⟨⟨((upd (upd (upd (upd (upd (upd (upd (upd (upd t 9 (p1 9)) 10 (p1 10)) 11 (p1 11)) 12 (p1 12)) 13 (p1 13)) 14 (p1 14)) 15 (p1 15)) 16 (p1 16)) 20 (p1 20)), o1, o3, o5), rfl, (Option.some.inj hm), by rw [ht]; exact hP, va_K.moved hW.alike hK, hD⟩, hS.F ht⟩) hS.2.2 dX6_takeFrom_105
