def b_X6_ends_33 (fu : Nat) (t_L : Nat → Int64) (t_shelf : Nat → Int32) (t_rowSize : Nat → Int32) (t_rows_R : Nat → Nat → Int64) (t_kind : Nat → Int32) (t_pitch : Nat → Int32) (k_33 : (Int32 × Int32 × Int32 × (Nat → Int32) × (Nat → Int32) × (Nat → Int32) × (Nat → Int32)) → Option (Int32 × ((Nat → Int32) × (Nat → Int32) × (Nat → Int32) × (Nat → Int32)))) (x : Int32 × Int32 × Int32 × (Nat → Int32) × (Nat → Int32) × (Nat → Int32) × (Nat → Int32)) : Option (Int32 × ((Nat → Int32) × (Nat → Int32) × (Nat → Int32) × (Nat → Int32))) :=
  (if (40 : Int32) ≤ x.2.2.1 then
        some ((-1 : Int32), (x.2.2.2.1, x.2.2.2.2.1, x.2.2.2.2.2.1, x.2.2.2.2.2.2))
      else
        gd (inb x.1 12) (
        (m_X6_gets fu x.2.2.2.1 t_L t_kind t_pitch (upd x.2.2.2.2.2.1 x.1.toNatClampNeg x.2.2.1) x.2.2.2.2.2.2 x.2.1).bind fun o3 =>
        (if o3.1 = 0 then
          k_33 (x.1, x.2.1, (x.2.2.1 + (1 : Int32)), o3.2.1, x.2.2.2.2.1, (upd x.2.2.2.2.2.1 x.1.toNatClampNeg x.2.2.1), o3.2.2)
        else
          some (x.2.2.1, (o3.2.1, x.2.2.2.2.1, (upd x.2.2.2.2.2.1 x.1.toNatClampNeg x.2.2.1), o3.2.2)))))
def m_X6_ends (fu : Nat) (t : Nat → Int32) (t_L : Nat → Int64) (t_shelf : Nat → Int32) (t_rowSize : Nat → Int32) (t_rows_R : Nat → Nat → Int64) (t_refused : Nat → Int32) (t_kind : Nat → Int32) (t_pitch : Nat → Int32) (t_word : Nat → Int32) (t_heard : Nat → Int32) (l1 : Int32) (l2 : Int32) (l3 : Int32) : Option (Int32 × ((Nat → Int32) × (Nat → Int32) × (Nat → Int32) × (Nat → Int32))) :=
  (m_X6_isVoice fu t t_L l3).bind fun o6 =>
  (m_X6_noWord fu t t_L t_shelf t_rowSize t_rows_R t_refused t_word l1 l2 (11 : Int32) o6.1).bind fun o8 =>
  (if o8.1 = 0 then
    lfix (b_X6_ends_33 fu t_L t_shelf t_rowSize t_rows_R t_kind t_pitch) fu (l2, l3, (0 : Int32), (upd o8.2.1 31 (l2 + (1 : Int32))), o8.2.2.1, o8.2.2.2, t_heard)
  else
    some (o8.1, (o8.2.1, o8.2.2.1, o8.2.2.2, t_heard)))
abbrev rm_X6_ends : Room := ({ frames := 6, cells := 0, slots := 0, locals := 136 } : Room)
abbrev w0_X6_ends (cA : Nat → ClassId) (am : Nat → Nat) (tkv : Value) (ttv : Value) (t : Nat → Int32) (t_L : Nat → Int64) (t_shelf : Nat → Int32) (t_rowSize : Nat → Int32) (t_rows_R : Nat → Nat → Int64) (t_refused : Nat → Int32) (t_kind : Nat → Int32) (t_pitch : Nat → Int32) (t_word : Nat → Int32) (t_heard : Nat → Int32) : va_W := [((am 0), e_X6 am tkv ttv t t_L), ((am 1), eI cA 8 t_shelf), ((am 3), eI cA 8 t_rowSize), ((am 4), eOJ cA am 5), (am 5, eJ cA 40 (t_rows_R 0)), (am 6, eJ cA 40 (t_rows_R 1)), (am 7, eJ cA 40 (t_rows_R 2)), (am 8, eJ cA 40 (t_rows_R 3)), (am 9, eJ cA 40 (t_rows_R 4)), (am 10, eJ cA 40 (t_rows_R 5)), (am 11, eJ cA 40 (t_rows_R 6)), (am 12, eJ cA 40 (t_rows_R 7)), ((am 16), eI cA 8 t_refused), ((am 17), eI cA 8 t_kind), ((am 19), eI cA 8 t_pitch), ((am 21), eI cA 12 t_word), ((am 22), eI cA 13 t_heard)]
abbrev w1_X6_ends (cA : Nat → ClassId) (am : Nat → Nat) (tkv : Value) (ttv : Value) (t_L : Nat → Int64) (t_shelf : Nat → Int32) (t_rowSize : Nat → Int32) (t_rows_R : Nat → Nat → Int64) (t_kind : Nat → Int32) (t_pitch : Nat → Int32) (u : (Nat → Int32) × (Nat → Int32) × (Nat → Int32) × (Nat → Int32)) : va_W := [((am 0), e_X6 am tkv ttv u.1 t_L), ((am 1), eI cA 8 t_shelf), ((am 3), eI cA 8 t_rowSize), ((am 4), eOJ cA am 5), (am 5, eJ cA 40 (t_rows_R 0)), (am 6, eJ cA 40 (t_rows_R 1)), (am 7, eJ cA 40 (t_rows_R 2)), (am 8, eJ cA 40 (t_rows_R 3)), (am 9, eJ cA 40 (t_rows_R 4)), (am 10, eJ cA 40 (t_rows_R 5)), (am 11, eJ cA 40 (t_rows_R 6)), (am 12, eJ cA 40 (t_rows_R 7)), ((am 16), eI cA 8 u.2.1), ((am 17), eI cA 8 t_kind), ((am 19), eI cA 8 t_pitch), ((am 21), eI cA 12 u.2.2.1), ((am 22), eI cA 13 u.2.2.2)]
theorem hd_X6_ends : yX6_ends.cls = RX6 ∧ yX6_ends.cls ≠ "java/lang/invoke/MethodHandle" ∧ yX6_ends.cls ≠ "java/lang/invoke/VarHandle" ∧ (parseMethodDescriptor yX6_ends.desc).map (fun d => d.parameters.length) = some 3 := by decide +kernel
set_option maxHeartbeats 40000000 in
set_option maxRecDepth 100000 in
theorem c_X6_ends (l : Launch) (D : va_G) (cA : Nat → ClassId) (sz : Nat) (fu : Nat) (am : Nat → Nat) (tkv : Value) (ttv : Value) (t : Nat → Int32) (t_L : Nat → Int64) (t_shelf : Nat → Int32) (t_rowSize : Nat → Int32) (t_rows_R : Nat → Nat → Int64) (t_refused : Nat → Int32) (t_kind : Nat → Int32) (t_pitch : Nat → Int32) (t_word : Nat → Int32) (t_heard : Nat → Int32) (l1 : Int32) (l2 : Int32) (l3 : Int32) (out : Int32 × ((Nat → Int32) × (Nat → Int32) × (Nat → Int32) × (Nat → Int32))) (hm : m_X6_ends fu t t_L t_shelf t_rowSize t_rows_R t_refused t_kind t_pitch t_word t_heard l1 l2 l3 = some out) : MI l yX6_ends (wU yX6_ends cX6_ends 6 ((Option.some Jvm.ClassFile.FieldType.int))) rm_X6_ends D cA sz [.ref (am 0), .int l1, .int l2, .int l3] (w0_X6_ends cA am tkv ttv t t_L t_shelf t_rowSize t_rows_R t_refused t_kind t_pitch t_word t_heard) out (w1_X6_ends cA am tkv ttv t_L t_shelf t_rowSize t_rows_R t_kind t_pitch) := by
  refine Met.ofW (cc := cX6_ends) (maxL := 6) (ret := (Option.some Jvm.ClassFile.FieldType.int)) (by decide) rfl ?_
  intro p e s m args below meth c s₁ B hml hv
  obtain ⟨hargs, hsz, hP, hK, hD0, hN⟩ := hv
  have hx := B.exec
  have hb := B.bytes
  have hr := B.returns
  have htg : ∀ w ∈ gw, w.before args s = true := fun w h => atoms_spec (ws := wU yX6_ends cX6_ends 6 ((Option.some Jvm.ClassFile.FieldType.int))) B.pre w (List.mem_cons_of_mem _ h)
  have hown : s.vm.findClass RX6 = some m.cls := findClass_of_methodNamed B.named
  have hlocks := B.notSynchronized
  subst hsz
  have hD := hD0.self (sz := s.heap.size)
  have hA : ∀ q : Nat, s.heap.size ≤ q → va_A (w0_X6_ends cA am tkv ttv t t_L t_shelf t_rowSize t_rows_R t_refused t_kind t_pitch t_word t_heard) s.heap.size q := fun q h => Or.inr h
  have hS : va_S (va_A (w0_X6_ends cA am tkv ttv t t_L t_shelf t_rowSize t_rows_R t_refused t_kind t_pitch t_word t_heard) s.heap.size) s.heap s.heap [] := va_S.rf
  generalize va_A (w0_X6_ends cA am tkv ttv t t_L t_shelf t_rowSize t_rows_R t_refused t_kind t_pitch t_word t_heard) s.heap.size = A at hA hD hS ⊢
  obtain ⟨Q, hQ⟩ : ∃ Q : State → Prop, Q = MQ below (va_Qi (fun (r : Int32) (u : (Nat → Int32) × (Nat → Int32) × (Nat → Int32) × (Nat → Int32)) => (r, u) = out) (pst0 D cA A (w1_X6_ends cA am tkv ttv t_L t_shelf t_rowSize t_rows_R t_kind t_pitch)) A) args s 0 0 A := ⟨_, rfl⟩
  refine (?_ : W p l e rm_X6_ends s m args below meth c s.heap [] 0 0 (MQ below (va_Qi (fun (r : Int32) (u : (Nat → Int32) × (Nat → Int32) × (Nat → Int32) × (Nat → Int32)) => (r, u) = out) (pst0 D cA A (w1_X6_ends cA am tkv ttv t_L t_shelf t_rowSize t_rows_R t_kind t_pitch)) A) args s 0 0 A) (entryFrame m args 6))
  rw [← hQ]
  have hP : va_P D CL [((am 0), e_X6 am tkv ttv t t_L), ((am 1), eI cA 8 t_shelf), ((am 3), eI cA 8 t_rowSize), ((am 4), eOJ cA am 5), (am 5, eJ cA 40 (t_rows_R 0)), (am 6, eJ cA 40 (t_rows_R 1)), (am 7, eJ cA 40 (t_rows_R 2)), (am 8, eJ cA 40 (t_rows_R 3)), (am 9, eJ cA 40 (t_rows_R 4)), (am 10, eJ cA 40 (t_rows_R 5)), (am 11, eJ cA 40 (t_rows_R 6)), (am 12, eJ cA 40 (t_rows_R 7)), ((am 16), eI cA 8 t_refused), ((am 17), eI cA 8 t_kind), ((am 19), eI cA 8 t_pitch), ((am 21), eI cA 12 t_word), ((am 22), eI cA 13 t_heard)] s.heap := hP
  have hD : va_D A [((am 0), e_X6 am tkv ttv t t_L), ((am 1), eI cA 8 t_shelf), ((am 3), eI cA 8 t_rowSize), ((am 4), eOJ cA am 5), (am 5, eJ cA 40 (t_rows_R 0)), (am 6, eJ cA 40 (t_rows_R 1)), (am 7, eJ cA 40 (t_rows_R 2)), (am 8, eJ cA 40 (t_rows_R 3)), (am 9, eJ cA 40 (t_rows_R 4)), (am 10, eJ cA 40 (t_rows_R 5)), (am 11, eJ cA 40 (t_rows_R 6)), (am 12, eJ cA 40 (t_rows_R 7)), ((am 16), eI cA 8 t_refused), ((am 17), eI cA 8 t_kind), ((am 19), eI cA 8 t_pitch), ((am 21), eI cA 12 t_word), ((am 22), eI cA 13 t_heard)] := hD
  have B_33 : ∀ (n : Nat) (x : Int32 × Int32 × Int32 × (Nat → Int32) × (Nat → Int32) × (Nat → Int32) × (Nat → Int32)) (H : Heap) (locs : List Loc) (ls : Array Slot), lfix (b_X6_ends_33 fu t_L t_shelf t_rowSize t_rows_R t_kind t_pitch) n x = some out → va_P D CL [((am 0), e_X6 am tkv ttv x.2.2.2.1 t_L), ((am 1), eI cA 8 t_shelf), ((am 3), eI cA 8 t_rowSize), ((am 4), eOJ cA am 5), (am 5, eJ cA 40 (t_rows_R 0)), (am 6, eJ cA 40 (t_rows_R 1)), (am 7, eJ cA 40 (t_rows_R 2)), (am 8, eJ cA 40 (t_rows_R 3)), (am 9, eJ cA 40 (t_rows_R 4)), (am 10, eJ cA 40 (t_rows_R 5)), (am 11, eJ cA 40 (t_rows_R 6)), (am 12, eJ cA 40 (t_rows_R 7)), ((am 16), eI cA 8 x.2.2.2.2.1), ((am 17), eI cA 8 t_kind), ((am 19), eI cA 8 t_pitch), ((am 21), eI cA 12 x.2.2.2.2.2.1), ((am 22), eI cA 13 x.2.2.2.2.2.2)] H → va_D A [((am 0), e_X6 am tkv ttv x.2.2.2.1 t_L), ((am 1), eI cA 8 t_shelf), ((am 3), eI cA 8 t_rowSize), ((am 4), eOJ cA am 5), (am 5, eJ cA 40 (t_rows_R 0)), (am 6, eJ cA 40 (t_rows_R 1)), (am 7, eJ cA 40 (t_rows_R 2)), (am 8, eJ cA 40 (t_rows_R 3)), (am 9, eJ cA 40 (t_rows_R 4)), (am 10, eJ cA 40 (t_rows_R 5)), (am 11, eJ cA 40 (t_rows_R 6)), (am 12, eJ cA 40 (t_rows_R 7)), ((am 16), eI cA 8 x.2.2.2.2.1), ((am 17), eI cA 8 t_kind), ((am 19), eI cA 8 t_pitch), ((am 21), eI cA 12 x.2.2.2.2.2.1), ((am 22), eI cA 13 x.2.2.2.2.2.2)] → va_S A s.heap H locs → lv_has ls 6 [(0, .ref (am 0)), (2, .int x.1), (3, .int x.2.1), (5, .int x.2.2.1)] → W p l e rm_X6_ends s m args below meth c H locs 0 0 Q (F0 m 33 ls []) := by
    intro  n
    induction n with
    | zero => intro x H locs ls hm; cases (show none = some out from hm)
    | succ n HK_33 =>
      intro x H locs ls hm hP hD hS hl
      replace hm : b_X6_ends_33 fu t_L t_shelf t_rowSize t_rows_R t_kind t_pitch (lfix (b_X6_ends_33 fu t_L t_shelf t_rowSize t_rows_R t_kind t_pitch) n) x = some out := hm
      unfold b_X6_ends_33 at hm
      refine lv_iload hx hb dX6_ends_33 (lv_at hl 3 rfl) ?_
      refine lv_bipush (v := (40 : Int32)) hx hb dX6_ends_35 (by decide) ?_
      refine lv_icmp_ge (tgt := 65) hx hb dX6_ends_37 (by decide) (fun c1 => ?_) (fun c1 => ?_)
      · have hm := it_t c1 hm
        refine lv_iconst (v := (-1 : Int32)) hx hb dX6_ends_65 (by decide) ?_
        rw [hQ]
        exact W.iret (v := (-1 : Int32)) hx hb hr (fun t9 ht hW => ⟨⟨(-1 : Int32), (x.2.2.2.1, x.2.2.2.2.1, x.2.2.2.2.2.1, x.2.2.2.2.2.2), rfl, (Option.some.inj hm), by rw [ht]; exact hP, va_K.moved hW.alike hK, hD⟩, hS.F ht⟩) hS.2.2 dX6_ends_66
      · have hm := it_f c1 hm
        refine lv_aload_n hx hb dX6_ends_40 rfl (lv_at hl 0 rfl) ?_
        refine va_get (D := D) (ci := 6) (v := .ref (am 21)) (C := RX6) (T := TX6) (N := 49) hx hb htg inX6 hown hK hP 0 rfl rfl 30 (by decide) (htg _ q_4_219) (fun _ h9 => h9) rfl dX6_ends_41 ?_
        refine lv_iload_n hx hb dX6_ends_44 rfl (lv_at hl 1 rfl) ?_
        refine lv_iload hx hb dX6_ends_45 (lv_at hl 3 rfl) ?_
        obtain ⟨hi2, hm⟩ := gd_s hm
        refine va_iast hx hb hK hP hD hS 15 0 rfl rfl hi2 dX6_ends_47 (fun H locs (hP : va_P D CL [((am 0), e_X6 am tkv ttv x.2.2.2.1 t_L), ((am 1), eI cA 8 t_shelf), ((am 3), eI cA 8 t_rowSize), ((am 4), eOJ cA am 5), (am 5, eJ cA 40 (t_rows_R 0)), (am 6, eJ cA 40 (t_rows_R 1)), (am 7, eJ cA 40 (t_rows_R 2)), (am 8, eJ cA 40 (t_rows_R 3)), (am 9, eJ cA 40 (t_rows_R 4)), (am 10, eJ cA 40 (t_rows_R 5)), (am 11, eJ cA 40 (t_rows_R 6)), (am 12, eJ cA 40 (t_rows_R 7)), ((am 16), eI cA 8 x.2.2.2.2.1), ((am 17), eI cA 8 t_kind), ((am 19), eI cA 8 t_pitch), ((am 21), eI cA 12 (upd x.2.2.2.2.2.1 x.1.toNatClampNeg x.2.2.1)), ((am 22), eI cA 13 x.2.2.2.2.2.2)] H) (hD : va_D A [((am 0), e_X6 am tkv ttv x.2.2.2.1 t_L), ((am 1), eI cA 8 t_shelf), ((am 3), eI cA 8 t_rowSize), ((am 4), eOJ cA am 5), (am 5, eJ cA 40 (t_rows_R 0)), (am 6, eJ cA 40 (t_rows_R 1)), (am 7, eJ cA 40 (t_rows_R 2)), (am 8, eJ cA 40 (t_rows_R 3)), (am 9, eJ cA 40 (t_rows_R 4)), (am 10, eJ cA 40 (t_rows_R 5)), (am 11, eJ cA 40 (t_rows_R 6)), (am 12, eJ cA 40 (t_rows_R 7)), ((am 16), eI cA 8 x.2.2.2.2.1), ((am 17), eI cA 8 t_kind), ((am 19), eI cA 8 t_pitch), ((am 21), eI cA 12 (upd x.2.2.2.2.2.1 x.1.toNatClampNeg x.2.2.1)), ((am 22), eI cA 13 x.2.2.2.2.2.2)]) hS => ?_)
        refine lv_aload_n hx hb dX6_ends_48 rfl (lv_at hl 0 rfl) ?_
        refine lv_iload_n hx hb dX6_ends_49 rfl (lv_at hl 2 rfl) ?_
        obtain ⟨o3, ho4, hm⟩ := bd_s hm
        refine xr_i (wr := [((am 1), eI cA 8 t_shelf), ((am 3), eI cA 8 t_rowSize), ((am 4), eOJ cA am 5), (am 5, eJ cA 40 (t_rows_R 0)), (am 6, eJ cA 40 (t_rows_R 1)), (am 7, eJ cA 40 (t_rows_R 2)), (am 8, eJ cA 40 (t_rows_R 3)), (am 9, eJ cA 40 (t_rows_R 4)), (am 10, eJ cA 40 (t_rows_R 5)), (am 11, eJ cA 40 (t_rows_R 6)), (am 12, eJ cA 40 (t_rows_R 7)), ((am 16), eI cA 8 x.2.2.2.2.1)]) (wn := [((am 0), e_X6 am tkv ttv o3.2.1 t_L), ((am 1), eI cA 8 t_shelf), ((am 3), eI cA 8 t_rowSize), ((am 4), eOJ cA am 5), (am 5, eJ cA 40 (t_rows_R 0)), (am 6, eJ cA 40 (t_rows_R 1)), (am 7, eJ cA 40 (t_rows_R 2)), (am 8, eJ cA 40 (t_rows_R 3)), (am 9, eJ cA 40 (t_rows_R 4)), (am 10, eJ cA 40 (t_rows_R 5)), (am 11, eJ cA 40 (t_rows_R 6)), (am 12, eJ cA 40 (t_rows_R 7)), ((am 16), eI cA 8 x.2.2.2.2.1), ((am 17), eI cA 8 t_kind), ((am 19), eI cA 8 t_pitch), ((am 21), eI cA 12 (upd x.2.2.2.2.2.1 x.1.toNatClampNeg x.2.2.1)), ((am 22), eI cA 13 o3.2.2)]) (va_runV (As := [.int x.2.1]) (rest := []) ⟨hx, hb, hml, hown, htg⟩ (c_X6_gets l D cA _ fu am tkv ttv x.2.2.2.1 t_L t_kind t_pitch (upd x.2.2.2.2.2.1 x.1.toNatClampNeg x.2.2.1) x.2.2.2.2.2.2 x.2.1 o3 ho4) (cwV 1 htg (gV q_6_77 q_6_79 q_p6_12 q_1_8 q_6_80) rfl rfl rfl hd_X6_gets ⟨Nat.le_of_ble_eq_true rfl, Nat.le_of_ble_eq_true rfl⟩) (xpV hN hK hP hD [0, 13, 14, 15, 16] rfl (by decide) rfl rfl) rfl rfl hl.1 rfl (lv_room (Nat.le_of_ble_eq_true rfl)) dX6_ends_50 ⟨Nat.zero_le _, Nat.zero_le _⟩) hP hD hS hA [0, 13, 14, 15, 16] [1, 2, 3, 4, 5, 6, 7, 8, 9, 10, 11, 12] [12, 0, 1, 2, 3, 4, 5, 6, 7, 8, 9, 10, 11, 13, 14, 15, 16] rfl rfl (by decide) (by decide) rfl (by decide) (fun H locs hP hD hS => ?_)
        refine lv_if_eq (tgt := 59) hx hb dX6_ends_53 (by decide) (fun c5 => ?_) (fun c5 => ?_)
        · have hm := it_t c5 hm
          refine lv_iinc (v := (x.2.2.1 + (1 : Int32))) (lv' := [(5, .int (x.2.2.1 + (1 : Int32))), (0, .ref (am 0)), (2, .int x.1), (3, .int x.2.1)]) hx hb dX6_ends_59 hl (k := 3) rfl rfl (by decide) rfl (fun ls hl => ?_)
          refine lv_goto (tgt := 33) hx hb dX6_ends_62 (by decide) ?_
          exact HK_33 _ _ _ _ hm hP hD hS (lv_sub hl [1, 2, 3, 0] rfl)
        · have hm := it_f c5 hm
          refine lv_iload hx hb dX6_ends_56 (lv_at hl 3 rfl) ?_
          rw [hQ]
          exact W.iret (v := x.2.2.1) hx hb hr (fun t9 ht hW => ⟨⟨x.2.2.1, (o3.2.1, x.2.2.2.2.1, (upd x.2.2.2.2.2.1 x.1.toNatClampNeg x.2.2.1), o3.2.2), rfl, (Option.some.inj hm), by rw [ht]; exact hP, va_K.moved hW.alike hK, hD⟩, hS.F ht⟩) hS.2.2 dX6_ends_58
  unfold m_X6_ends at hm
  subst hargs
  have hl := lv_entry ([.ref (am 0), .int l1, .int l2, .int l3]) (n := 6) (Nat.le_of_ble_eq_true rfl)
  rw [lg_entry_eq]
  generalize (lg_sl ([.ref (am 0), .int l1, .int l2, .int l3]) ++ List.replicate (6 - (lg_sl ([.ref (am 0), .int l1, .int l2, .int l3])).length) Slot.unset).toArray = ls at hl ⊢
  have hl : lv_has ls 6 [(0, .ref (am 0)), (1, .int l1), (2, .int l2), (3, .int l3)] := hl
  refine lv_aload_n hx hb dX6_ends_0 rfl (lv_at hl 0 rfl) ?_
  refine lv_iload_n hx hb dX6_ends_1 rfl (lv_at hl 1 rfl) ?_
  refine lv_iload_n hx hb dX6_ends_2 rfl (lv_at hl 2 rfl) ?_
  refine lv_bipush (v := (11 : Int32)) hx hb dX6_ends_3 (by decide) ?_
  refine lv_aload_n hx hb dX6_ends_5 rfl (lv_at hl 0 rfl) ?_
  refine lv_iload_n hx hb dX6_ends_6 rfl (lv_at hl 3 rfl) ?_
  obtain ⟨o6, ho7, hm⟩ := bd_s hm
  refine xr_i (wr := [((am 1), eI cA 8 t_shelf), ((am 3), eI cA 8 t_rowSize), ((am 4), eOJ cA am 5), (am 5, eJ cA 40 (t_rows_R 0)), (am 6, eJ cA 40 (t_rows_R 1)), (am 7, eJ cA 40 (t_rows_R 2)), (am 8, eJ cA 40 (t_rows_R 3)), (am 9, eJ cA 40 (t_rows_R 4)), (am 10, eJ cA 40 (t_rows_R 5)), (am 11, eJ cA 40 (t_rows_R 6)), (am 12, eJ cA 40 (t_rows_R 7)), ((am 16), eI cA 8 t_refused), ((am 17), eI cA 8 t_kind), ((am 19), eI cA 8 t_pitch), ((am 21), eI cA 12 t_word), ((am 22), eI cA 13 t_heard)]) (wn := [((am 0), e_X6 am tkv ttv t t_L), ((am 1), eI cA 8 t_shelf), ((am 3), eI cA 8 t_rowSize), ((am 4), eOJ cA am 5), (am 5, eJ cA 40 (t_rows_R 0)), (am 6, eJ cA 40 (t_rows_R 1)), (am 7, eJ cA 40 (t_rows_R 2)), (am 8, eJ cA 40 (t_rows_R 3)), (am 9, eJ cA 40 (t_rows_R 4)), (am 10, eJ cA 40 (t_rows_R 5)), (am 11, eJ cA 40 (t_rows_R 6)), (am 12, eJ cA 40 (t_rows_R 7)), ((am 16), eI cA 8 t_refused), ((am 17), eI cA 8 t_kind), ((am 19), eI cA 8 t_pitch), ((am 21), eI cA 12 t_word), ((am 22), eI cA 13 t_heard)]) (va_runV (As := [.int l3]) (rest := [.int (11 : Int32), .int l2, .int l1, .ref (am 0)]) ⟨hx, hb, hml, hown, htg⟩ (c_X6_isVoice l D cA _ fu am tkv ttv t t_L l3 o6 ho7) (cwV 1 htg (gV q_5_139 q_5_141 q_p5_9 q_1_8 q_5_142) rfl rfl rfl hd_X6_isVoice ⟨Nat.le_of_ble_eq_true rfl, Nat.le_of_ble_eq_true rfl⟩) (xpV hN hK hP hD [0] rfl (by decide) rfl rfl) rfl rfl hl.1 rfl (lv_room (Nat.le_of_ble_eq_true rfl)) dX6_ends_7 ⟨Nat.zero_le _, Nat.zero_le _⟩) hP hD hS hA [0] [1, 2, 3, 4, 5, 6, 7, 8, 9, 10, 11, 12, 13, 14, 15, 16] [16, 0, 1, 2, 3, 4, 5, 6, 7, 8, 9, 10, 11, 12, 13, 14, 15] rfl rfl (by decide) (by decide) rfl (by decide) (fun H locs hP hD hS => ?_)
  obtain ⟨o8, ho9, hm⟩ := bd_s hm
  refine xr_i (wr := [((am 17), eI cA 8 t_kind), ((am 19), eI cA 8 t_pitch), ((am 22), eI cA 13 t_heard)]) (wn := [((am 0), e_X6 am tkv ttv o8.2.1 t_L), ((am 1), eI cA 8 t_shelf), ((am 3), eI cA 8 t_rowSize), ((am 4), eOJ cA am 5), (am 5, eJ cA 40 (t_rows_R 0)), (am 6, eJ cA 40 (t_rows_R 1)), (am 7, eJ cA 40 (t_rows_R 2)), (am 8, eJ cA 40 (t_rows_R 3)), (am 9, eJ cA 40 (t_rows_R 4)), (am 10, eJ cA 40 (t_rows_R 5)), (am 11, eJ cA 40 (t_rows_R 6)), (am 12, eJ cA 40 (t_rows_R 7)), ((am 16), eI cA 8 o8.2.2.1), ((am 17), eI cA 8 t_kind), ((am 19), eI cA 8 t_pitch), ((am 21), eI cA 12 o8.2.2.2), ((am 22), eI cA 13 t_heard)]) (va_runV (As := [.int l1, .int l2, .int (11 : Int32), .int o6.1]) (rest := []) ⟨hx, hb, hml, hown, htg⟩ (c_X6_noWord l D cA _ fu am tkv ttv t t_L t_shelf t_rowSize t_rows_R t_refused t_word l1 l2 (11 : Int32) o6.1 o8 ho9) (cwV 4 htg (gV q_6_49 q_6_51 q_p6_8 q_1_8 q_6_52) rfl rfl rfl hd_X6_noWord ⟨Nat.le_of_ble_eq_true rfl, Nat.le_of_ble_eq_true rfl⟩) (xpV hN hK hP hD [0, 1, 2, 3, 4, 5, 6, 7, 8, 9, 10, 11, 12, 15] rfl (by decide) rfl rfl) rfl rfl hl.1 rfl (lv_room (Nat.le_of_ble_eq_true rfl)) dX6_ends_10 ⟨Nat.zero_le _, Nat.zero_le _⟩) hP hD hS hA [0, 1, 2, 3, 4, 5, 6, 7, 8, 9, 10, 11, 12, 15] [13, 14, 16] [3, 4, 5, 6, 7, 8, 9, 10, 11, 12, 13, 14, 15, 0, 1, 16, 2] rfl rfl (by decide) (by decide) rfl (by decide) (fun H locs hP hD hS => ?_)
  refine lv_istore (lv' := [(4, .int o8.1), (0, .ref (am 0)), (1, .int l1), (2, .int l2), (3, .int l3)]) hx hb dX6_ends_13 hl (by decide) rfl (fun ls hl => ?_)
  refine lv_iload hx hb dX6_ends_15 (lv_at hl 0 rfl) ?_
  refine lv_if_eq (tgt := 23) hx hb dX6_ends_17 (by decide) (fun c10 => ?_) (fun c10 => ?_)
  · have hm := it_t c10 hm
    refine lv_aload_n hx hb dX6_ends_23 rfl (lv_at hl 1 rfl) ?_
    refine lv_iload_n hx hb dX6_ends_24 rfl (lv_at hl 3 rfl) ?_
    refine lv_iconst (v := (1 : Int32)) hx hb dX6_ends_25 (by decide) ?_
    refine lv_iadd hx hb dX6_ends_26 ?_
    refine va_put (D := D) (ci := 6) (v := .int (l2 + (1 : Int32))) (ty := .int) (C := RX6) (T := TX6) (N := 49) hx hb htg inX6 tyX6 tyX6_ok nmX6 hown hK hP hD hS 0 rfl rfl 31 (by decide) (htg _ q_4_220) (fun _ h9 => h9) rfl (by decide +kernel) rfl rfl (Nat.le_of_ble_eq_true rfl) dX6_ends_27 (fun H locs (hP : va_P D CL [((am 0), e_X6 am tkv ttv (upd o8.2.1 31 (l2 + (1 : Int32))) t_L), ((am 1), eI cA 8 t_shelf), ((am 3), eI cA 8 t_rowSize), ((am 4), eOJ cA am 5), (am 5, eJ cA 40 (t_rows_R 0)), (am 6, eJ cA 40 (t_rows_R 1)), (am 7, eJ cA 40 (t_rows_R 2)), (am 8, eJ cA 40 (t_rows_R 3)), (am 9, eJ cA 40 (t_rows_R 4)), (am 10, eJ cA 40 (t_rows_R 5)), (am 11, eJ cA 40 (t_rows_R 6)), (am 12, eJ cA 40 (t_rows_R 7)), ((am 16), eI cA 8 o8.2.2.1), ((am 17), eI cA 8 t_kind), ((am 19), eI cA 8 t_pitch), ((am 21), eI cA 12 o8.2.2.2), ((am 22), eI cA 13 t_heard)] H) (hD : va_D A [((am 0), e_X6 am tkv ttv (upd o8.2.1 31 (l2 + (1 : Int32))) t_L), ((am 1), eI cA 8 t_shelf), ((am 3), eI cA 8 t_rowSize), ((am 4), eOJ cA am 5), (am 5, eJ cA 40 (t_rows_R 0)), (am 6, eJ cA 40 (t_rows_R 1)), (am 7, eJ cA 40 (t_rows_R 2)), (am 8, eJ cA 40 (t_rows_R 3)), (am 9, eJ cA 40 (t_rows_R 4)), (am 10, eJ cA 40 (t_rows_R 5)), (am 11, eJ cA 40 (t_rows_R 6)), (am 12, eJ cA 40 (t_rows_R 7)), ((am 16), eI cA 8 o8.2.2.1), ((am 17), eI cA 8 t_kind), ((am 19), eI cA 8 t_pitch), ((am 21), eI cA 12 o8.2.2.2), ((am 22), eI cA 13 t_heard)]) hS => ?_)
    refine lv_iconst (v := (0 : Int32)) hx hb dX6_ends_30 (by decide) ?_
    refine lv_istore (lv' := [(5, .int (0 : Int32)), (4, .int o8.1), (0, .ref (am 0)), (1, .int l1), (2, .int l2), (3, .int l3)]) hx hb dX6_ends_31 hl (by decide) rfl (fun ls hl => ?_)
    exact B_33 fu _ _ _ _ hm hP hD hS (lv_sub hl [2, 4, 5, 0] rfl)
  · have hm := it_f c10 hm
    refine lv_iload hx hb dX6_ends_20 (lv_at hl 0 rfl) ?_
    rw [hQ]
    exact W.iret (v := o8.1) hx hb hr (fun t9 ht hW => ⟨⟨o8.1, (o8.2.1, o8.2.2.1, o8.2.2.2, t_heard), rfl, (Option.some.inj hm), by rw [ht]; exact hP, va_K.moved hW.alike hK, hD⟩, hS.F ht⟩) hS.2.2 dX6_ends_22
def b_X6_less_78 (fu : Nat) (t_L : Nat → Int64) (t_shelf : Nat → Int32) (t_rowSize : Nat → Int32) (t_rows_R : Nat → Nat → Int64) (t_kind : Nat → Int32) (t_pitch : Nat → Int32) (k_33 : (Int32 × Int32 × Int32 × Int32 × (Nat → Int32) × (Nat → Int32) × (Nat → Int32) × (Nat → Int32)) → Option (Int32 × ((Nat → Int32) × (Nat → Int32) × (Nat → Int32) × (Nat → Int32)))) (k_42 : (Int32 × Int32 × Int32 × Int32 × Int32 × (Nat → Int32) × (Nat → Int32) × (Nat → Int32) × (Nat → Int32)) → Option (Int32 × ((Nat → Int32) × (Nat → Int32) × (Nat → Int32) × (Nat → Int32)))) (l1 : Int32) (l2 : Int32) (l3 : Int32) (l5 : Int32) (l6 : Int32) (s1 : Int32) (s2 : Int32) (s3 : Int32) (t : Nat → Int32) (t_refused : Nat → Int32) (t_word : Nat → Int32) (t_heard : Nat → Int32) : Option (Int32 × ((Nat → Int32) × (Nat → Int32) × (Nat → Int32) × (Nat → Int32))) :=
  gd (inb s2 8) (gd (inb s3 40) (
    gd (inb s1 12) (
    k_42 (l1, l2, l3, l5, (l6 + (1 : Int32)), t, t_refused, (upd t_word s1.toNatClampNeg ((t_rows_R s2.toNatClampNeg s3.toNatClampNeg).toInt32)), t_heard))))
def b_X6_less_42 (fu : Nat) (t_L : Nat → Int64) (t_shelf : Nat → Int32) (t_rowSize : Nat → Int32) (t_rows_R : Nat → Nat → Int64) (t_kind : Nat → Int32) (t_pitch : Nat → Int32) (k_33 : (Int32 × Int32 × Int32 × Int32 × (Nat → Int32) × (Nat → Int32) × (Nat → Int32) × (Nat → Int32)) → Option (Int32 × ((Nat → Int32) × (Nat → Int32) × (Nat → Int32) × (Nat → Int32)))) (k_42 : (Int32 × Int32 × Int32 × Int32 × Int32 × (Nat → Int32) × (Nat → Int32) × (Nat → Int32) × (Nat → Int32)) → Option (Int32 × ((Nat → Int32) × (Nat → Int32) × (Nat → Int32) × (Nat → Int32)))) (x : Int32 × Int32 × Int32 × Int32 × Int32 × (Nat → Int32) × (Nat → Int32) × (Nat → Int32) × (Nat → Int32)) : Option (Int32 × ((Nat → Int32) × (Nat → Int32) × (Nat → Int32) × (Nat → Int32))) :=
  (if (x.2.1 - (1 : Int32)) ≤ x.2.2.2.2.1 then
        (m_X6_gets fu x.2.2.2.2.2.1 t_L t_kind t_pitch x.2.2.2.2.2.2.2.1 x.2.2.2.2.2.2.2.2 x.2.2.1).bind fun o6 =>
        (if o6.1 = 0 then
          k_33 (x.1, x.2.1, x.2.2.1, (x.2.2.2.1 + (1 : Int32)), o6.2.1, x.2.2.2.2.2.2.1, x.2.2.2.2.2.2.2.1, o6.2.2)
        else
          some (x.2.2.2.1, (o6.2.1, x.2.2.2.2.2.2.1, x.2.2.2.2.2.2.2.1, o6.2.2)))
      else
        gd (inb x.1 8) (
        (if x.2.2.2.1 ≤ x.2.2.2.2.1 then
          b_X6_less_78 fu t_L t_shelf t_rowSize t_rows_R t_kind t_pitch k_33 k_42 x.1 x.2.1 x.2.2.1 x.2.2.2.1 x.2.2.2.2.1 x.2.2.2.2.1 x.1 (x.2.2.2.2.1 + (1 : Int32)) x.2.2.2.2.2.1 x.2.2.2.2.2.2.1 x.2.2.2.2.2.2.2.1 x.2.2.2.2.2.2.2.2
        else
          b_X6_less_78 fu t_L t_shelf t_rowSize t_rows_R t_kind t_pitch k_33 k_42 x.1 x.2.1 x.2.2.1 x.2.2.2.1 x.2.2.2.2.1 x.2.2.2.2.1 x.1 x.2.2.2.2.1 x.2.2.2.2.2.1 x.2.2.2.2.2.2.1 x.2.2.2.2.2.2.2.1 x.2.2.2.2.2.2.2.2)))
def b_X6_less_33 (fu : Nat) (t_L : Nat → Int64) (t_shelf : Nat → Int32) (t_rowSize : Nat → Int32) (t_rows_R : Nat → Nat → Int64) (t_kind : Nat → Int32) (t_pitch : Nat → Int32) (k_33 : (Int32 × Int32 × Int32 × Int32 × (Nat → Int32) × (Nat → Int32) × (Nat → Int32) × (Nat → Int32)) → Option (Int32 × ((Nat → Int32) × (Nat → Int32) × (Nat → Int32) × (Nat → Int32)))) (x : Int32 × Int32 × Int32 × Int32 × (Nat → Int32) × (Nat → Int32) × (Nat → Int32) × (Nat → Int32)) : Option (Int32 × ((Nat → Int32) × (Nat → Int32) × (Nat → Int32) × (Nat → Int32))) :=
  (if x.2.1 ≤ x.2.2.2.1 then
        some ((-1 : Int32), (x.2.2.2.2.1, x.2.2.2.2.2.1, x.2.2.2.2.2.2.1, x.2.2.2.2.2.2.2))
      else
        lfix (b_X6_less_42 fu t_L t_shelf t_rowSize t_rows_R t_kind t_pitch k_33) fu (x.1, x.2.1, x.2.2.1, x.2.2.2.1, (0 : Int32), x.2.2.2.2.1, x.2.2.2.2.2.1, x.2.2.2.2.2.2.1, x.2.2.2.2.2.2.2))
def m_X6_less (fu : Nat) (t : Nat → Int32) (t_L : Nat → Int64) (t_shelf : Nat → Int32) (t_rowSize : Nat → Int32) (t_rows_R : Nat → Nat → Int64) (t_refused : Nat → Int32) (t_kind : Nat → Int32) (t_pitch : Nat → Int32) (t_word : Nat → Int32) (t_heard : Nat → Int32) (l1 : Int32) (l2 : Int32) (l3 : Int32) : Option (Int32 × ((Nat → Int32) × (Nat → Int32) × (Nat → Int32) × (Nat → Int32))) :=
  (m_X6_isVoice fu t t_L l3).bind fun o12 =>
  (m_X6_noWord fu t t_L t_shelf t_rowSize t_rows_R t_refused t_word l1 l2 (12 : Int32) o12.1).bind fun o14 =>
  (if o14.1 = 0 then
    lfix (b_X6_less_33 fu t_L t_shelf t_rowSize t_rows_R t_kind t_pitch) fu (l1, l2, l3, (0 : Int32), (upd o14.2.1 31 (l2 - (1 : Int32))), o14.2.2.1, o14.2.2.2, t_heard)
  else
    some (o14.1, (o14.2.1, o14.2.2.1, o14.2.2.2, t_heard)))
abbrev rm_X6_less : Room := ({ frames := 6, cells := 0, slots := 0, locals := 136 } : Room)
abbrev w0_X6_less (cA : Nat → ClassId) (am : Nat → Nat) (tkv : Value) (ttv : Value) (t : Nat → Int32) (t_L : Nat → Int64) (t_shelf : Nat → Int32) (t_rowSize : Nat → Int32) (t_rows_R : Nat → Nat → Int64) (t_refused : Nat → Int32) (t_kind : Nat → Int32) (t_pitch : Nat → Int32) (t_word : Nat → Int32) (t_heard : Nat → Int32) : va_W := [((am 0), e_X6 am tkv ttv t t_L), ((am 1), eI cA 8 t_shelf), ((am 3), eI cA 8 t_rowSize), ((am 4), eOJ cA am 5), (am 5, eJ cA 40 (t_rows_R 0)), (am 6, eJ cA 40 (t_rows_R 1)), (am 7, eJ cA 40 (t_rows_R 2)), (am 8, eJ cA 40 (t_rows_R 3)), (am 9, eJ cA 40 (t_rows_R 4)), (am 10, eJ cA 40 (t_rows_R 5)), (am 11, eJ cA 40 (t_rows_R 6)), (am 12, eJ cA 40 (t_rows_R 7)), ((am 16), eI cA 8 t_refused), ((am 17), eI cA 8 t_kind), ((am 19), eI cA 8 t_pitch), ((am 21), eI cA 12 t_word), ((am 22), eI cA 13 t_heard)]
abbrev w1_X6_less (cA : Nat → ClassId) (am : Nat → Nat) (tkv : Value) (ttv : Value) (t_L : Nat → Int64) (t_shelf : Nat → Int32) (t_rowSize : Nat → Int32) (t_rows_R : Nat → Nat → Int64) (t_kind : Nat → Int32) (t_pitch : Nat → Int32) (u : (Nat → Int32) × (Nat → Int32) × (Nat → Int32) × (Nat → Int32)) : va_W := [((am 0), e_X6 am tkv ttv u.1 t_L), ((am 1), eI cA 8 t_shelf), ((am 3), eI cA 8 t_rowSize), ((am 4), eOJ cA am 5), (am 5, eJ cA 40 (t_rows_R 0)), (am 6, eJ cA 40 (t_rows_R 1)), (am 7, eJ cA 40 (t_rows_R 2)), (am 8, eJ cA 40 (t_rows_R 3)), (am 9, eJ cA 40 (t_rows_R 4)), (am 10, eJ cA 40 (t_rows_R 5)), (am 11, eJ cA 40 (t_rows_R 6)), (am 12, eJ cA 40 (t_rows_R 7)), ((am 16), eI cA 8 u.2.1), ((am 17), eI cA 8 t_kind), ((am 19), eI cA 8 t_pitch), ((am 21), eI cA 12 u.2.2.1), ((am 22), eI cA 13 u.2.2.2)]
theorem hd_X6_less : yX6_less.cls = RX6 ∧ yX6_less.cls ≠ "java/lang/invoke/MethodHandle" ∧ yX6_less.cls ≠ "java/lang/invoke/VarHandle" ∧ (parseMethodDescriptor yX6_less.desc).map (fun d => d.parameters.length) = some 3 := by decide +kernel
set_option maxHeartbeats 40000000 in
set_option maxRecDepth 100000 in
theorem c_X6_less (l : Launch) (D : va_G) (cA : Nat → ClassId) (sz : Nat) (fu : Nat) (am : Nat → Nat) (tkv : Value) (ttv : Value) (t : Nat → Int32) (t_L : Nat → Int64) (t_shelf : Nat → Int32) (t_rowSize : Nat → Int32) (t_rows_R : Nat → Nat → Int64) (t_refused : Nat → Int32) (t_kind : Nat → Int32) (t_pitch : Nat → Int32) (t_word : Nat → Int32) (t_heard : Nat → Int32) (l1 : Int32) (l2 : Int32) (l3 : Int32) (out : Int32 × ((Nat → Int32) × (Nat → Int32) × (Nat → Int32) × (Nat → Int32))) (hm : m_X6_less fu t t_L t_shelf t_rowSize t_rows_R t_refused t_kind t_pitch t_word t_heard l1 l2 l3 = some out) : MI l yX6_less (wU yX6_less cX6_less 7 ((Option.some Jvm.ClassFile.FieldType.int))) rm_X6_less D cA sz [.ref (am 0), .int l1, .int l2, .int l3] (w0_X6_less cA am tkv ttv t t_L t_shelf t_rowSize t_rows_R t_refused t_kind t_pitch t_word t_heard) out (w1_X6_less cA am tkv ttv t_L t_shelf t_rowSize t_rows_R t_kind t_pitch) := by
  refine Met.ofW (cc := cX6_less) (maxL := 7) (ret := (Option.some Jvm.ClassFile.FieldType.int)) (by decide) rfl ?_
  intro p e s m args below meth c s₁ B hml hv
  obtain ⟨hargs, hsz, hP, hK, hD0, hN⟩ := hv
  have hx := B.exec
  have hb := B.bytes
  have hr := B.returns
  have htg : ∀ w ∈ gw, w.before args s = true := fun w h => atoms_spec (ws := wU yX6_less cX6_less 7 ((Option.some Jvm.ClassFile.FieldType.int))) B.pre w (List.mem_cons_of_mem _ h)
  have hown : s.vm.findClass RX6 = some m.cls := findClass_of_methodNamed B.named
  have hlocks := B.notSynchronized
  subst hsz
  have hD := hD0.self (sz := s.heap.size)
  have hA : ∀ q : Nat, s.heap.size ≤ q → va_A (w0_X6_less cA am tkv ttv t t_L t_shelf t_rowSize t_rows_R t_refused t_kind t_pitch t_word t_heard) s.heap.size q := fun q h => Or.inr h
  have hS : va_S (va_A (w0_X6_less cA am tkv ttv t t_L t_shelf t_rowSize t_rows_R t_refused t_kind t_pitch t_word t_heard) s.heap.size) s.heap s.heap [] := va_S.rf
  generalize va_A (w0_X6_less cA am tkv ttv t t_L t_shelf t_rowSize t_rows_R t_refused t_kind t_pitch t_word t_heard) s.heap.size = A at hA hD hS ⊢
  obtain ⟨Q, hQ⟩ : ∃ Q : State → Prop, Q = MQ below (va_Qi (fun (r : Int32) (u : (Nat → Int32) × (Nat → Int32) × (Nat → Int32) × (Nat → Int32)) => (r, u) = out) (pst0 D cA A (w1_X6_less cA am tkv ttv t_L t_shelf t_rowSize t_rows_R t_kind t_pitch)) A) args s 0 0 A := ⟨_, rfl⟩
  refine (?_ : W p l e rm_X6_less s m args below meth c s.heap [] 0 0 (MQ below (va_Qi (fun (r : Int32) (u : (Nat → Int32) × (Nat → Int32) × (Nat → Int32) × (Nat → Int32)) => (r, u) = out) (pst0 D cA A (w1_X6_less cA am tkv ttv t_L t_shelf t_rowSize t_rows_R t_kind t_pitch)) A) args s 0 0 A) (entryFrame m args 7))
  rw [← hQ]
  have hP : va_P D CL [((am 0), e_X6 am tkv ttv t t_L), ((am 1), eI cA 8 t_shelf), ((am 3), eI cA 8 t_rowSize), ((am 4), eOJ cA am 5), (am 5, eJ cA 40 (t_rows_R 0)), (am 6, eJ cA 40 (t_rows_R 1)), (am 7, eJ cA 40 (t_rows_R 2)), (am 8, eJ cA 40 (t_rows_R 3)), (am 9, eJ cA 40 (t_rows_R 4)), (am 10, eJ cA 40 (t_rows_R 5)), (am 11, eJ cA 40 (t_rows_R 6)), (am 12, eJ cA 40 (t_rows_R 7)), ((am 16), eI cA 8 t_refused), ((am 17), eI cA 8 t_kind), ((am 19), eI cA 8 t_pitch), ((am 21), eI cA 12 t_word), ((am 22), eI cA 13 t_heard)] s.heap := hP
  have hD : va_D A [((am 0), e_X6 am tkv ttv t t_L), ((am 1), eI cA 8 t_shelf), ((am 3), eI cA 8 t_rowSize), ((am 4), eOJ cA am 5), (am 5, eJ cA 40 (t_rows_R 0)), (am 6, eJ cA 40 (t_rows_R 1)), (am 7, eJ cA 40 (t_rows_R 2)), (am 8, eJ cA 40 (t_rows_R 3)), (am 9, eJ cA 40 (t_rows_R 4)), (am 10, eJ cA 40 (t_rows_R 5)), (am 11, eJ cA 40 (t_rows_R 6)), (am 12, eJ cA 40 (t_rows_R 7)), ((am 16), eI cA 8 t_refused), ((am 17), eI cA 8 t_kind), ((am 19), eI cA 8 t_pitch), ((am 21), eI cA 12 t_word), ((am 22), eI cA 13 t_heard)] := hD
  have B_78 : ∀ (k_33 : (Int32 × Int32 × Int32 × Int32 × (Nat → Int32) × (Nat → Int32) × (Nat → Int32) × (Nat → Int32)) → Option (Int32 × ((Nat → Int32) × (Nat → Int32) × (Nat → Int32) × (Nat → Int32)))) (HK_33 : ∀ (x : Int32 × Int32 × Int32 × Int32 × (Nat → Int32) × (Nat → Int32) × (Nat → Int32) × (Nat → Int32)) (H : Heap) (locs : List Loc) (ls : Array Slot), k_33 x = some out → va_P D CL [((am 0), e_X6 am tkv ttv x.2.2.2.2.1 t_L), ((am 1), eI cA 8 t_shelf), ((am 3), eI cA 8 t_rowSize), ((am 4), eOJ cA am 5), (am 5, eJ cA 40 (t_rows_R 0)), (am 6, eJ cA 40 (t_rows_R 1)), (am 7, eJ cA 40 (t_rows_R 2)), (am 8, eJ cA 40 (t_rows_R 3)), (am 9, eJ cA 40 (t_rows_R 4)), (am 10, eJ cA 40 (t_rows_R 5)), (am 11, eJ cA 40 (t_rows_R 6)), (am 12, eJ cA 40 (t_rows_R 7)), ((am 16), eI cA 8 x.2.2.2.2.2.1), ((am 17), eI cA 8 t_kind), ((am 19), eI cA 8 t_pitch), ((am 21), eI cA 12 x.2.2.2.2.2.2.1), ((am 22), eI cA 13 x.2.2.2.2.2.2.2)] H → va_D A [((am 0), e_X6 am tkv ttv x.2.2.2.2.1 t_L), ((am 1), eI cA 8 t_shelf), ((am 3), eI cA 8 t_rowSize), ((am 4), eOJ cA am 5), (am 5, eJ cA 40 (t_rows_R 0)), (am 6, eJ cA 40 (t_rows_R 1)), (am 7, eJ cA 40 (t_rows_R 2)), (am 8, eJ cA 40 (t_rows_R 3)), (am 9, eJ cA 40 (t_rows_R 4)), (am 10, eJ cA 40 (t_rows_R 5)), (am 11, eJ cA 40 (t_rows_R 6)), (am 12, eJ cA 40 (t_rows_R 7)), ((am 16), eI cA 8 x.2.2.2.2.2.1), ((am 17), eI cA 8 t_kind), ((am 19), eI cA 8 t_pitch), ((am 21), eI cA 12 x.2.2.2.2.2.2.1), ((am 22), eI cA 13 x.2.2.2.2.2.2.2)] → va_S A s.heap H locs → lv_has ls 7 [(0, .ref (am 0)), (1, .int x.1), (2, .int x.2.1), (3, .int x.2.2.1), (5, .int x.2.2.2.1)] → W p l e rm_X6_less s m args below meth c H locs 0 0 Q (F0 m 33 ls [])) (k_42 : (Int32 × Int32 × Int32 × Int32 × Int32 × (Nat → Int32) × (Nat → Int32) × (Nat → Int32) × (Nat → Int32)) → Option (Int32 × ((Nat → Int32) × (Nat → Int32) × (Nat → Int32) × (Nat → Int32)))) (HK_42 : ∀ (x : Int32 × Int32 × Int32 × Int32 × Int32 × (Nat → Int32) × (Nat → Int32) × (Nat → Int32) × (Nat → Int32)) (H : Heap) (locs : List Loc) (ls : Array Slot), k_42 x = some out → va_P D CL [((am 0), e_X6 am tkv ttv x.2.2.2.2.2.1 t_L), ((am 1), eI cA 8 t_shelf), ((am 3), eI cA 8 t_rowSize), ((am 4), eOJ cA am 5), (am 5, eJ cA 40 (t_rows_R 0)), (am 6, eJ cA 40 (t_rows_R 1)), (am 7, eJ cA 40 (t_rows_R 2)), (am 8, eJ cA 40 (t_rows_R 3)), (am 9, eJ cA 40 (t_rows_R 4)), (am 10, eJ cA 40 (t_rows_R 5)), (am 11, eJ cA 40 (t_rows_R 6)), (am 12, eJ cA 40 (t_rows_R 7)), ((am 16), eI cA 8 x.2.2.2.2.2.2.1), ((am 17), eI cA 8 t_kind), ((am 19), eI cA 8 t_pitch), ((am 21), eI cA 12 x.2.2.2.2.2.2.2.1), ((am 22), eI cA 13 x.2.2.2.2.2.2.2.2)] H → va_D A [((am 0), e_X6 am tkv ttv x.2.2.2.2.2.1 t_L), ((am 1), eI cA 8 t_shelf), ((am 3), eI cA 8 t_rowSize), ((am 4), eOJ cA am 5), (am 5, eJ cA 40 (t_rows_R 0)), (am 6, eJ cA 40 (t_rows_R 1)), (am 7, eJ cA 40 (t_rows_R 2)), (am 8, eJ cA 40 (t_rows_R 3)), (am 9, eJ cA 40 (t_rows_R 4)), (am 10, eJ cA 40 (t_rows_R 5)), (am 11, eJ cA 40 (t_rows_R 6)), (am 12, eJ cA 40 (t_rows_R 7)), ((am 16), eI cA 8 x.2.2.2.2.2.2.1), ((am 17), eI cA 8 t_kind), ((am 19), eI cA 8 t_pitch), ((am 21), eI cA 12 x.2.2.2.2.2.2.2.1), ((am 22), eI cA 13 x.2.2.2.2.2.2.2.2)] → va_S A s.heap H locs → lv_has ls 7 [(0, .ref (am 0)), (1, .int x.1), (2, .int x.2.1), (3, .int x.2.2.1), (5, .int x.2.2.2.1), (6, .int x.2.2.2.2.1)] → W p l e rm_X6_less s m args below meth c H locs 0 0 Q (F0 m 42 ls [])) (l1 : Int32) (l2 : Int32) (l3 : Int32) (l5 : Int32) (l6 : Int32) (s1 : Int32) (s2 : Int32) (s3 : Int32) (t : Nat → Int32) (t_refused : Nat → Int32) (t_word : Nat → Int32) (t_heard : Nat → Int32) (H : Heap) (locs : List Loc) (ls : Array Slot), b_X6_less_78 fu t_L t_shelf t_rowSize t_rows_R t_kind t_pitch k_33 k_42 l1 l2 l3 l5 l6 s1 s2 s3 t t_refused t_word t_heard = some out → va_P D CL [((am 0), e_X6 am tkv ttv t t_L), ((am 1), eI cA 8 t_shelf), ((am 3), eI cA 8 t_rowSize), ((am 4), eOJ cA am 5), (am 5, eJ cA 40 (t_rows_R 0)), (am 6, eJ cA 40 (t_rows_R 1)), (am 7, eJ cA 40 (t_rows_R 2)), (am 8, eJ cA 40 (t_rows_R 3)), (am 9, eJ cA 40 (t_rows_R 4)), (am 10, eJ cA 40 (t_rows_R 5)), (am 11, eJ cA 40 (t_rows_R 6)), (am 12, eJ cA 40 (t_rows_R 7)), ((am 16), eI cA 8 t_refused), ((am 17), eI cA 8 t_kind), ((am 19), eI cA 8 t_pitch), ((am 21), eI cA 12 t_word), ((am 22), eI cA 13 t_heard)] H → va_D A [((am 0), e_X6 am tkv ttv t t_L), ((am 1), eI cA 8 t_shelf), ((am 3), eI cA 8 t_rowSize), ((am 4), eOJ cA am 5), (am 5, eJ cA 40 (t_rows_R 0)), (am 6, eJ cA 40 (t_rows_R 1)), (am 7, eJ cA 40 (t_rows_R 2)), (am 8, eJ cA 40 (t_rows_R 3)), (am 9, eJ cA 40 (t_rows_R 4)), (am 10, eJ cA 40 (t_rows_R 5)), (am 11, eJ cA 40 (t_rows_R 6)), (am 12, eJ cA 40 (t_rows_R 7)), ((am 16), eI cA 8 t_refused), ((am 17), eI cA 8 t_kind), ((am 19), eI cA 8 t_pitch), ((am 21), eI cA 12 t_word), ((am 22), eI cA 13 t_heard)] → va_S A s.heap H locs → lv_has ls 7 [(0, .ref (am 0)), (1, .int l1), (2, .int l2), (3, .int l3), (5, .int l5), (6, .int l6)] → W p l e rm_X6_less s m args below meth c H locs 0 0 Q (F0 m 78 ls [.int s3, .ref (am (5 + s2.toNatClampNeg)), .int s1, .ref (am 21)]) := by
    intro k_33 HK_33 k_42 HK_42 l1 l2 l3 l5 l6 s1 s2 s3 t t_refused t_word t_heard H locs ls hm hP hD hS hl
    unfold b_X6_less_78 at hm
    obtain ⟨hj2, hm⟩ := gd_s hm
    obtain ⟨hi1, hm⟩ := gd_s hm
    have hq3 : ([((am 0), e_X6 am tkv ttv t t_L), ((am 1), eI cA 8 t_shelf), ((am 3), eI cA 8 t_rowSize), ((am 4), eOJ cA am 5), (am 5, eJ cA 40 (t_rows_R 0)), (am 6, eJ cA 40 (t_rows_R 1)), (am 7, eJ cA 40 (t_rows_R 2)), (am 8, eJ cA 40 (t_rows_R 3)), (am 9, eJ cA 40 (t_rows_R 4)), (am 10, eJ cA 40 (t_rows_R 5)), (am 11, eJ cA 40 (t_rows_R 6)), (am 12, eJ cA 40 (t_rows_R 7)), ((am 16), eI cA 8 t_refused), ((am 17), eI cA 8 t_kind), ((am 19), eI cA 8 t_pitch), ((am 21), eI cA 12 t_word), ((am 22), eI cA 13 t_heard)] : va_W)[4 + s2.toNatClampNeg]? = some (am (5 + s2.toNatClampNeg), eJ cA 40 (t_rows_R s2.toNatClampNeg)) := by
      have hj8 := inb_lt hj2
      generalize s2.toNatClampNeg = j at hj8 ⊢
      rcases (show j = 0 ∨ j = 1 ∨ j = 2 ∨ j = 3 ∨ j = 4 ∨ j = 5 ∨ j = 6 ∨ j = 7 by omega) with rfl | rfl | rfl | rfl | rfl | rfl | rfl | rfl <;> rfl
    refine va_lald hx hb hK hP (4 + s2.toNatClampNeg) 1 hq3 rfl hi1 dX6_less_78 ?_
    refine lv_l2i hx hb dX6_less_79 rfl ?_
    obtain ⟨hi4, hm⟩ := gd_s hm
    refine va_iast hx hb hK hP hD hS 15 0 rfl rfl hi4 dX6_less_80 (fun H locs (hP : va_P D CL [((am 0), e_X6 am tkv ttv t t_L), ((am 1), eI cA 8 t_shelf), ((am 3), eI cA 8 t_rowSize), ((am 4), eOJ cA am 5), (am 5, eJ cA 40 (t_rows_R 0)), (am 6, eJ cA 40 (t_rows_R 1)), (am 7, eJ cA 40 (t_rows_R 2)), (am 8, eJ cA 40 (t_rows_R 3)), (am 9, eJ cA 40 (t_rows_R 4)), (am 10, eJ cA 40 (t_rows_R 5)), (am 11, eJ cA 40 (t_rows_R 6)), (am 12, eJ cA 40 (t_rows_R 7)), ((am 16), eI cA 8 t_refused), ((am 17), eI cA 8 t_kind), ((am 19), eI cA 8 t_pitch), ((am 21), eI cA 12 (upd t_word s1.toNatClampNeg ((t_rows_R s2.toNatClampNeg s3.toNatClampNeg).toInt32))), ((am 22), eI cA 13 t_heard)] H) (hD : va_D A [((am 0), e_X6 am tkv ttv t t_L), ((am 1), eI cA 8 t_shelf), ((am 3), eI cA 8 t_rowSize), ((am 4), eOJ cA am 5), (am 5, eJ cA 40 (t_rows_R 0)), (am 6, eJ cA 40 (t_rows_R 1)), (am 7, eJ cA 40 (t_rows_R 2)), (am 8, eJ cA 40 (t_rows_R 3)), (am 9, eJ cA 40 (t_rows_R 4)), (am 10, eJ cA 40 (t_rows_R 5)), (am 11, eJ cA 40 (t_rows_R 6)), (am 12, eJ cA 40 (t_rows_R 7)), ((am 16), eI cA 8 t_refused), ((am 17), eI cA 8 t_kind), ((am 19), eI cA 8 t_pitch), ((am 21), eI cA 12 (upd t_word s1.toNatClampNeg ((t_rows_R s2.toNatClampNeg s3.toNatClampNeg).toInt32))), ((am 22), eI cA 13 t_heard)]) hS => ?_)
    refine lv_iinc (v := (l6 + (1 : Int32))) (lv' := [(6, .int (l6 + (1 : Int32))), (0, .ref (am 0)), (1, .int l1), (2, .int l2), (3, .int l3), (5, .int l5)]) hx hb dX6_less_81 hl (k := 5) rfl rfl (by decide) rfl (fun ls hl => ?_)
    refine lv_goto (tgt := 42) hx hb dX6_less_84 (by decide) ?_
    exact HK_42 _ _ _ _ hm hP hD hS (lv_sub hl [1, 2, 3, 4, 5, 0] rfl)
  have B_42 : ∀ (k_33 : (Int32 × Int32 × Int32 × Int32 × (Nat → Int32) × (Nat → Int32) × (Nat → Int32) × (Nat → Int32)) → Option (Int32 × ((Nat → Int32) × (Nat → Int32) × (Nat → Int32) × (Nat → Int32)))) (HK_33 : ∀ (x : Int32 × Int32 × Int32 × Int32 × (Nat → Int32) × (Nat → Int32) × (Nat → Int32) × (Nat → Int32)) (H : Heap) (locs : List Loc) (ls : Array Slot), k_33 x = some out → va_P D CL [((am 0), e_X6 am tkv ttv x.2.2.2.2.1 t_L), ((am 1), eI cA 8 t_shelf), ((am 3), eI cA 8 t_rowSize), ((am 4), eOJ cA am 5), (am 5, eJ cA 40 (t_rows_R 0)), (am 6, eJ cA 40 (t_rows_R 1)), (am 7, eJ cA 40 (t_rows_R 2)), (am 8, eJ cA 40 (t_rows_R 3)), (am 9, eJ cA 40 (t_rows_R 4)), (am 10, eJ cA 40 (t_rows_R 5)), (am 11, eJ cA 40 (t_rows_R 6)), (am 12, eJ cA 40 (t_rows_R 7)), ((am 16), eI cA 8 x.2.2.2.2.2.1), ((am 17), eI cA 8 t_kind), ((am 19), eI cA 8 t_pitch), ((am 21), eI cA 12 x.2.2.2.2.2.2.1), ((am 22), eI cA 13 x.2.2.2.2.2.2.2)] H → va_D A [((am 0), e_X6 am tkv ttv x.2.2.2.2.1 t_L), ((am 1), eI cA 8 t_shelf), ((am 3), eI cA 8 t_rowSize), ((am 4), eOJ cA am 5), (am 5, eJ cA 40 (t_rows_R 0)), (am 6, eJ cA 40 (t_rows_R 1)), (am 7, eJ cA 40 (t_rows_R 2)), (am 8, eJ cA 40 (t_rows_R 3)), (am 9, eJ cA 40 (t_rows_R 4)), (am 10, eJ cA 40 (t_rows_R 5)), (am 11, eJ cA 40 (t_rows_R 6)), (am 12, eJ cA 40 (t_rows_R 7)), ((am 16), eI cA 8 x.2.2.2.2.2.1), ((am 17), eI cA 8 t_kind), ((am 19), eI cA 8 t_pitch), ((am 21), eI cA 12 x.2.2.2.2.2.2.1), ((am 22), eI cA 13 x.2.2.2.2.2.2.2)] → va_S A s.heap H locs → lv_has ls 7 [(0, .ref (am 0)), (1, .int x.1), (2, .int x.2.1), (3, .int x.2.2.1), (5, .int x.2.2.2.1)] → W p l e rm_X6_less s m args below meth c H locs 0 0 Q (F0 m 33 ls [])) (n : Nat) (x : Int32 × Int32 × Int32 × Int32 × Int32 × (Nat → Int32) × (Nat → Int32) × (Nat → Int32) × (Nat → Int32)) (H : Heap) (locs : List Loc) (ls : Array Slot), lfix (b_X6_less_42 fu t_L t_shelf t_rowSize t_rows_R t_kind t_pitch k_33) n x = some out → va_P D CL [((am 0), e_X6 am tkv ttv x.2.2.2.2.2.1 t_L), ((am 1), eI cA 8 t_shelf), ((am 3), eI cA 8 t_rowSize), ((am 4), eOJ cA am 5), (am 5, eJ cA 40 (t_rows_R 0)), (am 6, eJ cA 40 (t_rows_R 1)), (am 7, eJ cA 40 (t_rows_R 2)), (am 8, eJ cA 40 (t_rows_R 3)), (am 9, eJ cA 40 (t_rows_R 4)), (am 10, eJ cA 40 (t_rows_R 5)), (am 11, eJ cA 40 (t_rows_R 6)), (am 12, eJ cA 40 (t_rows_R 7)), ((am 16), eI cA 8 x.2.2.2.2.2.2.1), ((am 17), eI cA 8 t_kind), ((am 19), eI cA 8 t_pitch), ((am 21), eI cA 12 x.2.2.2.2.2.2.2.1), ((am 22), eI cA 13 x.2.2.2.2.2.2.2.2)] H → va_D A [((am 0), e_X6 am tkv ttv x.2.2.2.2.2.1 t_L), ((am 1), eI cA 8 t_shelf), ((am 3), eI cA 8 t_rowSize), ((am 4), eOJ cA am 5), (am 5, eJ cA 40 (t_rows_R 0)), (am 6, eJ cA 40 (t_rows_R 1)), (am 7, eJ cA 40 (t_rows_R 2)), (am 8, eJ cA 40 (t_rows_R 3)), (am 9, eJ cA 40 (t_rows_R 4)), (am 10, eJ cA 40 (t_rows_R 5)), (am 11, eJ cA 40 (t_rows_R 6)), (am 12, eJ cA 40 (t_rows_R 7)), ((am 16), eI cA 8 x.2.2.2.2.2.2.1), ((am 17), eI cA 8 t_kind), ((am 19), eI cA 8 t_pitch), ((am 21), eI cA 12 x.2.2.2.2.2.2.2.1), ((am 22), eI cA 13 x.2.2.2.2.2.2.2.2)] → va_S A s.heap H locs → lv_has ls 7 [(0, .ref (am 0)), (1, .int x.1), (2, .int x.2.1), (3, .int x.2.2.1), (5, .int x.2.2.2.1), (6, .int x.2.2.2.2.1)] → W p l e rm_X6_less s m args below meth c H locs 0 0 Q (F0 m 42 ls []) := by
    intro k_33 HK_33 n
    induction n with
    | zero => intro x H locs ls hm; cases (show none = some out from hm)
    | succ n HK_42 =>
      intro x H locs ls hm hP hD hS hl
      replace hm : b_X6_less_42 fu t_L t_shelf t_rowSize t_rows_R t_kind t_pitch k_33 (lfix (b_X6_less_42 fu t_L t_shelf t_rowSize t_rows_R t_kind t_pitch k_33) n) x = some out := hm
      unfold b_X6_less_42 at hm
      refine lv_iload hx hb dX6_less_42 (lv_at hl 5 rfl) ?_
      refine lv_iload_n hx hb dX6_less_44 rfl (lv_at hl 2 rfl) ?_
      refine lv_iconst (v := (1 : Int32)) hx hb dX6_less_45 (by decide) ?_
      refine lv_isub hx hb dX6_less_46 ?_
      refine lv_icmp_ge (tgt := 87) hx hb dX6_less_47 (by decide) (fun c5 => ?_) (fun c5 => ?_)
      · have hm := it_t c5 hm
        refine lv_aload_n hx hb dX6_less_87 rfl (lv_at hl 0 rfl) ?_
        refine lv_iload_n hx hb dX6_less_88 rfl (lv_at hl 3 rfl) ?_
        obtain ⟨o6, ho7, hm⟩ := bd_s hm
        refine xr_i (wr := [((am 1), eI cA 8 t_shelf), ((am 3), eI cA 8 t_rowSize), ((am 4), eOJ cA am 5), (am 5, eJ cA 40 (t_rows_R 0)), (am 6, eJ cA 40 (t_rows_R 1)), (am 7, eJ cA 40 (t_rows_R 2)), (am 8, eJ cA 40 (t_rows_R 3)), (am 9, eJ cA 40 (t_rows_R 4)), (am 10, eJ cA 40 (t_rows_R 5)), (am 11, eJ cA 40 (t_rows_R 6)), (am 12, eJ cA 40 (t_rows_R 7)), ((am 16), eI cA 8 x.2.2.2.2.2.2.1)]) (wn := [((am 0), e_X6 am tkv ttv o6.2.1 t_L), ((am 1), eI cA 8 t_shelf), ((am 3), eI cA 8 t_rowSize), ((am 4), eOJ cA am 5), (am 5, eJ cA 40 (t_rows_R 0)), (am 6, eJ cA 40 (t_rows_R 1)), (am 7, eJ cA 40 (t_rows_R 2)), (am 8, eJ cA 40 (t_rows_R 3)), (am 9, eJ cA 40 (t_rows_R 4)), (am 10, eJ cA 40 (t_rows_R 5)), (am 11, eJ cA 40 (t_rows_R 6)), (am 12, eJ cA 40 (t_rows_R 7)), ((am 16), eI cA 8 x.2.2.2.2.2.2.1), ((am 17), eI cA 8 t_kind), ((am 19), eI cA 8 t_pitch), ((am 21), eI cA 12 x.2.2.2.2.2.2.2.1), ((am 22), eI cA 13 o6.2.2)]) (va_runV (As := [.int x.2.2.1]) (rest := []) ⟨hx, hb, hml, hown, htg⟩ (c_X6_gets l D cA _ fu am tkv ttv x.2.2.2.2.2.1 t_L t_kind t_pitch x.2.2.2.2.2.2.2.1 x.2.2.2.2.2.2.2.2 x.2.2.1 o6 ho7) (cwV 1 htg (gV q_6_77 q_6_79 q_p6_12 q_1_8 q_6_80) rfl rfl rfl hd_X6_gets ⟨Nat.le_of_ble_eq_true rfl, Nat.le_of_ble_eq_true rfl⟩) (xpV hN hK hP hD [0, 13, 14, 15, 16] rfl (by decide) rfl rfl) rfl rfl hl.1 rfl (lv_room (Nat.le_of_ble_eq_true rfl)) dX6_less_89 ⟨Nat.zero_le _, Nat.zero_le _⟩) hP hD hS hA [0, 13, 14, 15, 16] [1, 2, 3, 4, 5, 6, 7, 8, 9, 10, 11, 12] [12, 0, 1, 2, 3, 4, 5, 6, 7, 8, 9, 10, 11, 13, 14, 15, 16] rfl rfl (by decide) (by decide) rfl (by decide) (fun H locs hP hD hS => ?_)
        refine lv_if_eq (tgt := 98) hx hb dX6_less_92 (by decide) (fun c8 => ?_) (fun c8 => ?_)
        · have hm := it_t c8 hm
          refine lv_iinc (v := (x.2.2.2.1 + (1 : Int32))) (lv' := [(5, .int (x.2.2.2.1 + (1 : Int32))), (0, .ref (am 0)), (1, .int x.1), (2, .int x.2.1), (3, .int x.2.2.1), (6, .int x.2.2.2.2.1)]) hx hb dX6_less_98 hl (k := 4) rfl rfl (by decide) rfl (fun ls hl => ?_)
          refine lv_goto (tgt := 33) hx hb dX6_less_101 (by decide) ?_
          exact HK_33 _ _ _ _ hm hP hD hS (lv_sub hl [1, 2, 3, 4, 0] rfl)
        · have hm := it_f c8 hm
          refine lv_iload hx hb dX6_less_95 (lv_at hl 4 rfl) ?_
          rw [hQ]
          exact W.iret (v := x.2.2.2.1) hx hb hr (fun t9 ht hW => ⟨⟨x.2.2.2.1, (o6.2.1, x.2.2.2.2.2.2.1, x.2.2.2.2.2.2.2.1, o6.2.2), rfl, (Option.some.inj hm), by rw [ht]; exact hP, va_K.moved hW.alike hK, hD⟩, hS.F ht⟩) hS.2.2 dX6_less_97
      · have hm := it_f c5 hm
        refine lv_aload_n hx hb dX6_less_50 rfl (lv_at hl 0 rfl) ?_
        refine va_get (D := D) (ci := 6) (v := .ref (am 21)) (C := RX6) (T := TX6) (N := 49) hx hb htg inX6 hown hK hP 0 rfl rfl 30 (by decide) (htg _ q_4_219) (fun _ h9 => h9) rfl dX6_less_51 ?_
        refine lv_iload hx hb dX6_less_54 (lv_at hl 5 rfl) ?_
        refine lv_aload_n hx hb dX6_less_56 rfl (lv_at hl 0 rfl) ?_
        refine va_get (D := D) (ci := 6) (v := .ref (am 4)) (C := RX6) (T := TX6) (N := 49) hx hb htg inX6 hown hK hP 0 rfl rfl 3 (by decide) (htg _ q_4_192) (fun _ h9 => h9) rfl dX6_less_57 ?_
        refine lv_iload_n hx hb dX6_less_60 rfl (lv_at hl 1 rfl) ?_
        obtain ⟨hi9, hm⟩ := gd_s hm
        refine va_ald2 hx hb hK hP 3 3 rfl rfl hi9 dX6_less_61 ?_
        rw [show (va_rf ((fun i => if i < 8 then some (am (5 + i)) else none) x.1.toNatClampNeg)) = Value.ref (am (5 + x.1.toNatClampNeg)) from rf_lt (inb_lt hi9)]
        refine lv_iload hx hb dX6_less_62 (lv_at hl 5 rfl) ?_
        refine lv_iload hx hb dX6_less_64 (lv_at hl 4 rfl) ?_
        refine lv_icmp_ge (tgt := 74) hx hb dX6_less_66 (by decide) (fun c10 => ?_) (fun c10 => ?_)
        · have hm := it_t c10 hm
          refine lv_iload hx hb dX6_less_74 (lv_at hl 5 rfl) ?_
          refine lv_iconst (v := (1 : Int32)) hx hb dX6_less_76 (by decide) ?_
          refine lv_iadd hx hb dX6_less_77 ?_
          exact B_78 _ HK_33 _ HK_42 _ _ _ _ _ _ _ _ _ _ _ _ _ _ _ hm hP hD hS (lv_sub hl [0, 1, 2, 3, 4, 5] rfl)
        · have hm := it_f c10 hm
          refine lv_iload hx hb dX6_less_69 (lv_at hl 5 rfl) ?_
          refine lv_goto (tgt := 78) hx hb dX6_less_71 (by decide) ?_
          exact B_78 _ HK_33 _ HK_42 _ _ _ _ _ _ _ _ _ _ _ _ _ _ _ hm hP hD hS (lv_sub hl [0, 1, 2, 3, 4, 5] rfl)
  have B_33 : ∀ (n : Nat) (x : Int32 × Int32 × Int32 × Int32 × (Nat → Int32) × (Nat → Int32) × (Nat → Int32) × (Nat → Int32)) (H : Heap) (locs : List Loc) (ls : Array Slot), lfix (b_X6_less_33 fu t_L t_shelf t_rowSize t_rows_R t_kind t_pitch) n x = some out → va_P D CL [((am 0), e_X6 am tkv ttv x.2.2.2.2.1 t_L), ((am 1), eI cA 8 t_shelf), ((am 3), eI cA 8 t_rowSize), ((am 4), eOJ cA am 5), (am 5, eJ cA 40 (t_rows_R 0)), (am 6, eJ cA 40 (t_rows_R 1)), (am 7, eJ cA 40 (t_rows_R 2)), (am 8, eJ cA 40 (t_rows_R 3)), (am 9, eJ cA 40 (t_rows_R 4)), (am 10, eJ cA 40 (t_rows_R 5)), (am 11, eJ cA 40 (t_rows_R 6)), (am 12, eJ cA 40 (t_rows_R 7)), ((am 16), eI cA 8 x.2.2.2.2.2.1), ((am 17), eI cA 8 t_kind), ((am 19), eI cA 8 t_pitch), ((am 21), eI cA 12 x.2.2.2.2.2.2.1), ((am 22), eI cA 13 x.2.2.2.2.2.2.2)] H → va_D A [((am 0), e_X6 am tkv ttv x.2.2.2.2.1 t_L), ((am 1), eI cA 8 t_shelf), ((am 3), eI cA 8 t_rowSize), ((am 4), eOJ cA am 5), (am 5, eJ cA 40 (t_rows_R 0)), (am 6, eJ cA 40 (t_rows_R 1)), (am 7, eJ cA 40 (t_rows_R 2)), (am 8, eJ cA 40 (t_rows_R 3)), (am 9, eJ cA 40 (t_rows_R 4)), (am 10, eJ cA 40 (t_rows_R 5)), (am 11, eJ cA 40 (t_rows_R 6)), (am 12, eJ cA 40 (t_rows_R 7)), ((am 16), eI cA 8 x.2.2.2.2.2.1), ((am 17), eI cA 8 t_kind), ((am 19), eI cA 8 t_pitch), ((am 21), eI cA 12 x.2.2.2.2.2.2.1), ((am 22), eI cA 13 x.2.2.2.2.2.2.2)] → va_S A s.heap H locs → lv_has ls 7 [(0, .ref (am 0)), (1, .int x.1), (2, .int x.2.1), (3, .int x.2.2.1), (5, .int x.2.2.2.1)] → W p l e rm_X6_less s m args below meth c H locs 0 0 Q (F0 m 33 ls []) := by
    intro  n
    induction n with
    | zero => intro x H locs ls hm; cases (show none = some out from hm)
    | succ n HK_33 =>
      intro x H locs ls hm hP hD hS hl
      replace hm : b_X6_less_33 fu t_L t_shelf t_rowSize t_rows_R t_kind t_pitch (lfix (b_X6_less_33 fu t_L t_shelf t_rowSize t_rows_R t_kind t_pitch) n) x = some out := hm
      unfold b_X6_less_33 at hm
      refine lv_iload hx hb dX6_less_33 (lv_at hl 4 rfl) ?_
      refine lv_iload_n hx hb dX6_less_35 rfl (lv_at hl 2 rfl) ?_
      refine lv_icmp_ge (tgt := 104) hx hb dX6_less_36 (by decide) (fun c11 => ?_) (fun c11 => ?_)
      · have hm := it_t c11 hm
        refine lv_iconst (v := (-1 : Int32)) hx hb dX6_less_104 (by decide) ?_
        rw [hQ]
        exact W.iret (v := (-1 : Int32)) hx hb hr (fun t9 ht hW => ⟨⟨(-1 : Int32), (x.2.2.2.2.1, x.2.2.2.2.2.1, x.2.2.2.2.2.2.1, x.2.2.2.2.2.2.2), rfl, (Option.some.inj hm), by rw [ht]; exact hP, va_K.moved hW.alike hK, hD⟩, hS.F ht⟩) hS.2.2 dX6_less_105
      · have hm := it_f c11 hm
        refine lv_iconst (v := (0 : Int32)) hx hb dX6_less_39 (by decide) ?_
        refine lv_istore (lv' := [(6, .int (0 : Int32)), (0, .ref (am 0)), (1, .int x.1), (2, .int x.2.1), (3, .int x.2.2.1), (5, .int x.2.2.2.1)]) hx hb dX6_less_40 hl (by decide) rfl (fun ls hl => ?_)
        exact B_42 _ HK_33 fu _ _ _ _ hm hP hD hS (lv_sub hl [1, 2, 3, 4, 5, 0] rfl)
  unfold m_X6_less at hm
  subst hargs
  have hl := lv_entry ([.ref (am 0), .int l1, .int l2, .int l3]) (n := 7) (Nat.le_of_ble_eq_true rfl)
  rw [lg_entry_eq]
  generalize (lg_sl ([.ref (am 0), .int l1, .int l2, .int l3]) ++ List.replicate (7 - (lg_sl ([.ref (am 0), .int l1, .int l2, .int l3])).length) Slot.unset).toArray = ls at hl ⊢
  have hl : lv_has ls 7 [(0, .ref (am 0)), (1, .int l1), (2, .int l2), (3, .int l3)] := hl
  refine lv_aload_n hx hb dX6_less_0 rfl (lv_at hl 0 rfl) ?_
  refine lv_iload_n hx hb dX6_less_1 rfl (lv_at hl 1 rfl) ?_
  refine lv_iload_n hx hb dX6_less_2 rfl (lv_at hl 2 rfl) ?_
  refine lv_bipush (v := (12 : Int32)) hx hb dX6_less_3 (by decide) ?_
  refine lv_aload_n hx hb dX6_less_5 rfl (lv_at hl 0 rfl) ?_
  refine lv_iload_n hx hb dX6_less_6 rfl (lv_at hl 3 rfl) ?_
  obtain ⟨o12, ho13, hm⟩ := bd_s hm
  refine xr_i (wr := [((am 1), eI cA 8 t_shelf), ((am 3), eI cA 8 t_rowSize), ((am 4), eOJ cA am 5), (am 5, eJ cA 40 (t_rows_R 0)), (am 6, eJ cA 40 (t_rows_R 1)), (am 7, eJ cA 40 (t_rows_R 2)), (am 8, eJ cA 40 (t_rows_R 3)), (am 9, eJ cA 40 (t_rows_R 4)), (am 10, eJ cA 40 (t_rows_R 5)), (am 11, eJ cA 40 (t_rows_R 6)), (am 12, eJ cA 40 (t_rows_R 7)), ((am 16), eI cA 8 t_refused), ((am 17), eI cA 8 t_kind), ((am 19), eI cA 8 t_pitch), ((am 21), eI cA 12 t_word), ((am 22), eI cA 13 t_heard)]) (wn := [((am 0), e_X6 am tkv ttv t t_L), ((am 1), eI cA 8 t_shelf), ((am 3), eI cA 8 t_rowSize), ((am 4), eOJ cA am 5), (am 5, eJ cA 40 (t_rows_R 0)), (am 6, eJ cA 40 (t_rows_R 1)), (am 7, eJ cA 40 (t_rows_R 2)), (am 8, eJ cA 40 (t_rows_R 3)), (am 9, eJ cA 40 (t_rows_R 4)), (am 10, eJ cA 40 (t_rows_R 5)), (am 11, eJ cA 40 (t_rows_R 6)), (am 12, eJ cA 40 (t_rows_R 7)), ((am 16), eI cA 8 t_refused), ((am 17), eI cA 8 t_kind), ((am 19), eI cA 8 t_pitch), ((am 21), eI cA 12 t_word), ((am 22), eI cA 13 t_heard)]) (va_runV (As := [.int l3]) (rest := [.int (12 : Int32), .int l2, .int l1, .ref (am 0)]) ⟨hx, hb, hml, hown, htg⟩ (c_X6_isVoice l D cA _ fu am tkv ttv t t_L l3 o12 ho13) (cwV 1 htg (gV q_5_139 q_5_141 q_p5_9 q_1_8 q_5_142) rfl rfl rfl hd_X6_isVoice ⟨Nat.le_of_ble_eq_true rfl, Nat.le_of_ble_eq_true rfl⟩) (xpV hN hK hP hD [0] rfl (by decide) rfl rfl) rfl rfl hl.1 rfl (lv_room (Nat.le_of_ble_eq_true rfl)) dX6_less_7 ⟨Nat.zero_le _, Nat.zero_le _⟩) hP hD hS hA [0] [1, 2, 3, 4, 5, 6, 7, 8, 9, 10, 11, 12, 13, 14, 15, 16] [16, 0, 1, 2, 3, 4, 5, 6, 7, 8, 9, 10, 11, 12, 13, 14, 15] rfl rfl (by decide) (by decide) rfl (by decide) (fun H locs hP hD hS => ?_)
  obtain ⟨o14, ho15, hm⟩ := bd_s hm
  refine xr_i (wr := [((am 17), eI cA 8 t_kind), ((am 19), eI cA 8 t_pitch), ((am 22), eI cA 13 t_heard)]) (wn := [((am 0), e_X6 am tkv ttv o14.2.1 t_L), ((am 1), eI cA 8 t_shelf), ((am 3), eI cA 8 t_rowSize), ((am 4), eOJ cA am 5), (am 5, eJ cA 40 (t_rows_R 0)), (am 6, eJ cA 40 (t_rows_R 1)), (am 7, eJ cA 40 (t_rows_R 2)), (am 8, eJ cA 40 (t_rows_R 3)), (am 9, eJ cA 40 (t_rows_R 4)), (am 10, eJ cA 40 (t_rows_R 5)), (am 11, eJ cA 40 (t_rows_R 6)), (am 12, eJ cA 40 (t_rows_R 7)), ((am 16), eI cA 8 o14.2.2.1), ((am 17), eI cA 8 t_kind), ((am 19), eI cA 8 t_pitch), ((am 21), eI cA 12 o14.2.2.2), ((am 22), eI cA 13 t_heard)]) (va_runV (As := [.int l1, .int l2, .int (12 : Int32), .int o12.1]) (rest := []) ⟨hx, hb, hml, hown, htg⟩ (c_X6_noWord l D cA _ fu am tkv ttv t t_L t_shelf t_rowSize t_rows_R t_refused t_word l1 l2 (12 : Int32) o12.1 o14 ho15) (cwV 4 htg (gV q_6_49 q_6_51 q_p6_8 q_1_8 q_6_52) rfl rfl rfl hd_X6_noWord ⟨Nat.le_of_ble_eq_true rfl, Nat.le_of_ble_eq_true rfl⟩) (xpV hN hK hP hD [0, 1, 2, 3, 4, 5, 6, 7, 8, 9, 10, 11, 12, 15] rfl (by decide) rfl rfl) rfl rfl hl.1 rfl (lv_room (Nat.le_of_ble_eq_true rfl)) dX6_less_10 ⟨Nat.zero_le _, Nat.zero_le _⟩) hP hD hS hA [0, 1, 2, 3, 4, 5, 6, 7, 8, 9, 10, 11, 12, 15] [13, 14, 16] [3, 4, 5, 6, 7, 8, 9, 10, 11, 12, 13, 14, 15, 0, 1, 16, 2] rfl rfl (by decide) (by decide) rfl (by decide) (fun H locs hP hD hS => ?_)
  refine lv_istore (lv' := [(4, .int o14.1), (0, .ref (am 0)), (1, .int l1), (2, .int l2), (3, .int l3)]) hx hb dX6_less_13 hl (by decide) rfl (fun ls hl => ?_)
  refine lv_iload hx hb dX6_less_15 (lv_at hl 0 rfl) ?_
  refine lv_if_eq (tgt := 23) hx hb dX6_less_17 (by decide) (fun c16 => ?_) (fun c16 => ?_)
  · have hm := it_t c16 hm
    refine lv_aload_n hx hb dX6_less_23 rfl (lv_at hl 1 rfl) ?_
    refine lv_iload_n hx hb dX6_less_24 rfl (lv_at hl 3 rfl) ?_
    refine lv_iconst (v := (1 : Int32)) hx hb dX6_less_25 (by decide) ?_
    refine lv_isub hx hb dX6_less_26 ?_
    refine va_put (D := D) (ci := 6) (v := .int (l2 - (1 : Int32))) (ty := .int) (C := RX6) (T := TX6) (N := 49) hx hb htg inX6 tyX6 tyX6_ok nmX6 hown hK hP hD hS 0 rfl rfl 31 (by decide) (htg _ q_4_220) (fun _ h9 => h9) rfl (by decide +kernel) rfl rfl (Nat.le_of_ble_eq_true rfl) dX6_less_27 (fun H locs (hP : va_P D CL [((am 0), e_X6 am tkv ttv (upd o14.2.1 31 (l2 - (1 : Int32))) t_L), ((am 1), eI cA 8 t_shelf), ((am 3), eI cA 8 t_rowSize), ((am 4), eOJ cA am 5), (am 5, eJ cA 40 (t_rows_R 0)), (am 6, eJ cA 40 (t_rows_R 1)), (am 7, eJ cA 40 (t_rows_R 2)), (am 8, eJ cA 40 (t_rows_R 3)), (am 9, eJ cA 40 (t_rows_R 4)), (am 10, eJ cA 40 (t_rows_R 5)), (am 11, eJ cA 40 (t_rows_R 6)), (am 12, eJ cA 40 (t_rows_R 7)), ((am 16), eI cA 8 o14.2.2.1), ((am 17), eI cA 8 t_kind), ((am 19), eI cA 8 t_pitch), ((am 21), eI cA 12 o14.2.2.2), ((am 22), eI cA 13 t_heard)] H) (hD : va_D A [((am 0), e_X6 am tkv ttv (upd o14.2.1 31 (l2 - (1 : Int32))) t_L), ((am 1), eI cA 8 t_shelf), ((am 3), eI cA 8 t_rowSize), ((am 4), eOJ cA am 5), (am 5, eJ cA 40 (t_rows_R 0)), (am 6, eJ cA 40 (t_rows_R 1)), (am 7, eJ cA 40 (t_rows_R 2)), (am 8, eJ cA 40 (t_rows_R 3)), (am 9, eJ cA 40 (t_rows_R 4)), (am 10, eJ cA 40 (t_rows_R 5)), (am 11, eJ cA 40 (t_rows_R 6)), (am 12, eJ cA 40 (t_rows_R 7)), ((am 16), eI cA 8 o14.2.2.1), ((am 17), eI cA 8 t_kind), ((am 19), eI cA 8 t_pitch), ((am 21), eI cA 12 o14.2.2.2), ((am 22), eI cA 13 t_heard)]) hS => ?_)
    refine lv_iconst (v := (0 : Int32)) hx hb dX6_less_30 (by decide) ?_
    refine lv_istore (lv' := [(5, .int (0 : Int32)), (4, .int o14.1), (0, .ref (am 0)), (1, .int l1), (2, .int l2), (3, .int l3)]) hx hb dX6_less_31 hl (by decide) rfl (fun ls hl => ?_)
    exact B_33 fu _ _ _ _ hm hP hD hS (lv_sub hl [2, 3, 4, 5, 0] rfl)
  · have hm := it_f c16 hm
    refine lv_iload hx hb dX6_less_20 (lv_at hl 0 rfl) ?_
    rw [hQ]
    exact W.iret (v := o14.1) hx hb hr (fun t9 ht hW => ⟨⟨o14.1, (o14.2.1, o14.2.2.1, o14.2.2.2, t_heard), rfl, (Option.some.inj hm), by rw [ht]; exact hP, va_K.moved hW.alike hK, hD⟩, hS.F ht⟩) hS.2.2 dX6_less_22
def b_X6_fairest_100 (fu : Nat) (t_L : Nat → Int64) (t_shelf : Nat → Int32) (t_rowSize : Nat → Int32) (t_rows_R : Nat → Nat → Int64) (t_kind : Nat → Int32) (t_pitch : Nat → Int32) (k_48 : (Int32 × Int32 × Int32 × Int32 × (Nat → Int32) × (Nat → Int32) × (Nat → Int32) × (Nat → Int32)) → Option (Int32 × ((Nat → Int32) × (Nat → Int32) × (Nat → Int32) × (Nat → Int32)))) (l4 : Int32) (l5 : Int32) (l7 : Int32) (s0 : Int32) (t : Nat → Int32) (t_refused : Nat → Int32) (t_word : Nat → Int32) (t_heard : Nat → Int32) : Option (Int32 × ((Nat → Int32) × (Nat → Int32) × (Nat → Int32) × (Nat → Int32))) :=
  k_48 (l4, l5, s0, (l7 + (1 : Int32)), t, t_refused, t_word, t_heard)
def b_X6_fairest_84 (fu : Nat) (t_L : Nat → Int64) (t_shelf : Nat → Int32) (t_rowSize : Nat → Int32) (t_rows_R : Nat → Nat → Int64) (t_kind : Nat → Int32) (t_pitch : Nat → Int32) (k_48 : (Int32 × Int32 × Int32 × Int32 × (Nat → Int32) × (Nat → Int32) × (Nat → Int32) × (Nat → Int32)) → Option (Int32 × ((Nat → Int32) × (Nat → Int32) × (Nat → Int32) × (Nat → Int32)))) (l4 : Int32) (l6 : Int32) (l7 : Int32) (l8 : Int32) (s0 : Int32) (t : Nat → Int32) (t_refused : Nat → Int32) (t_word : Nat → Int32) (t_heard : Nat → Int32) : Option (Int32 × ((Nat → Int32) × (Nat → Int32) × (Nat → Int32) × (Nat → Int32))) :=
  (if l8 ≤ l6 then
      b_X6_fairest_100 fu t_L t_shelf t_rowSize t_rows_R t_kind t_pitch k_48 l4 s0 l7 l6 t t_refused t_word t_heard
    else
      b_X6_fairest_100 fu t_L t_shelf t_rowSize t_rows_R t_kind t_pitch k_48 l4 s0 l7 l8 t t_refused t_word t_heard)
def b_X6_fairest_48 (fu : Nat) (t_L : Nat → Int64) (t_shelf : Nat → Int32) (t_rowSize : Nat → Int32) (t_rows_R : Nat → Nat → Int64) (t_kind : Nat → Int32) (t_pitch : Nat → Int32) (k_48 : (Int32 × Int32 × Int32 × Int32 × (Nat → Int32) × (Nat → Int32) × (Nat → Int32) × (Nat → Int32)) → Option (Int32 × ((Nat → Int32) × (Nat → Int32) × (Nat → Int32) × (Nat → Int32)))) (x : Int32 × Int32 × Int32 × Int32 × (Nat → Int32) × (Nat → Int32) × (Nat → Int32) × (Nat → Int32)) : Option (Int32 × ((Nat → Int32) × (Nat → Int32) × (Nat → Int32) × (Nat → Int32))) :=
  (if (9 : Int32) < x.2.2.2.1 then
        some (x.2.1, ((upd x.2.2.2.2.1 12 x.1), x.2.2.2.2.2.1, x.2.2.2.2.2.2.1, x.2.2.2.2.2.2.2))
      else
        (m_X6_yesBits fu (upd x.2.2.2.2.1 12 x.2.2.2.1) t_L t_kind t_pitch x.2.2.2.2.2.2.1 x.2.2.2.2.2.2.2).bind fun o3 =>
        (m_X6_bits fu o3.1).bind fun o5 =>
        (if o5.1 ≤ x.2.2.1 then
          b_X6_fairest_84 fu t_L t_shelf t_rowSize t_rows_R t_kind t_pitch k_48 x.1 x.2.2.1 x.2.2.2.1 o5.1 x.2.1 o3.2.1 x.2.2.2.2.2.1 x.2.2.2.2.2.2.1 o3.2.2
        else
          b_X6_fairest_84 fu t_L t_shelf t_rowSize t_rows_R t_kind t_pitch k_48 x.1 x.2.2.1 x.2.2.2.1 o5.1 x.2.2.2.1 o3.2.1 x.2.2.2.2.2.1 x.2.2.2.2.2.2.1 o3.2.2))
def b_X6_fairest_46 (fu : Nat) (t_L : Nat → Int64) (t_shelf : Nat → Int32) (t_rowSize : Nat → Int32) (t_rows_R : Nat → Nat → Int64) (t_kind : Nat → Int32) (t_pitch : Nat → Int32) (l4 : Int32) (l5 : Int32) (l6 : Int32) (s0 : Int32) (t : Nat → Int32) (t_refused : Nat → Int32) (t_word : Nat → Int32) (t_heard : Nat → Int32) : Option (Int32 × ((Nat → Int32) × (Nat → Int32) × (Nat → Int32) × (Nat → Int32))) :=
  lfix (b_X6_fairest_48 fu t_L t_shelf t_rowSize t_rows_R t_kind t_pitch) fu (l4, l5, l6, s0, t, t_refused, t_word, t_heard)
def m_X6_fairest (fu : Nat) (t : Nat → Int32) (t_L : Nat → Int64) (t_shelf : Nat → Int32) (t_rowSize : Nat → Int32) (t_rows_R : Nat → Nat → Int64) (t_refused : Nat → Int32) (t_kind : Nat → Int32) (t_pitch : Nat → Int32) (t_word : Nat → Int32) (t_heard : Nat → Int32) (l1 : Int32) (l2 : Int32) : Option (Int32 × ((Nat → Int32) × (Nat → Int32) × (Nat → Int32) × (Nat → Int32))) :=
  (m_X6_noWord fu t t_L t_shelf t_rowSize t_rows_R t_refused t_word l1 l2 (12 : Int32) (1 : Int32)).bind fun o8 =>
  (if o8.1 = 0 then
    (if (2 : Int32) ≤ o8.2.1 13 then
      b_X6_fairest_46 fu t_L t_shelf t_rowSize t_rows_R t_kind t_pitch (o8.2.1 12) (-1 : Int32) (-1 : Int32) (o8.2.1 13 + (1 : Int32)) o8.2.1 o8.2.2.1 o8.2.2.2 t_heard
    else
      b_X6_fairest_46 fu t_L t_shelf t_rowSize t_rows_R t_kind t_pitch (o8.2.1 12) (-1 : Int32) (-1 : Int32) (2 : Int32) o8.2.1 o8.2.2.1 o8.2.2.2 t_heard)
  else
    some (o8.1, (o8.2.1, o8.2.2.1, o8.2.2.2, t_heard)))
abbrev rm_X6_fairest : Room := ({ frames := 7, cells := 0, slots := 0, locals := 158 } : Room)
abbrev w0_X6_fairest (cA : Nat → ClassId) (am : Nat → Nat) (tkv : Value) (ttv : Value) (t : Nat → Int32) (t_L : Nat → Int64) (t_shelf : Nat → Int32) (t_rowSize : Nat → Int32) (t_rows_R : Nat → Nat → Int64) (t_refused : Nat → Int32) (t_kind : Nat → Int32) (t_pitch : Nat → Int32) (t_word : Nat → Int32) (t_heard : Nat → Int32) : va_W := [((am 0), e_X6 am tkv ttv t t_L), ((am 1), eI cA 8 t_shelf), ((am 3), eI cA 8 t_rowSize), ((am 4), eOJ cA am 5), (am 5, eJ cA 40 (t_rows_R 0)), (am 6, eJ cA 40 (t_rows_R 1)), (am 7, eJ cA 40 (t_rows_R 2)), (am 8, eJ cA 40 (t_rows_R 3)), (am 9, eJ cA 40 (t_rows_R 4)), (am 10, eJ cA 40 (t_rows_R 5)), (am 11, eJ cA 40 (t_rows_R 6)), (am 12, eJ cA 40 (t_rows_R 7)), ((am 16), eI cA 8 t_refused), ((am 17), eI cA 8 t_kind), ((am 19), eI cA 8 t_pitch), ((am 21), eI cA 12 t_word), ((am 22), eI cA 13 t_heard)]
abbrev w1_X6_fairest (cA : Nat → ClassId) (am : Nat → Nat) (tkv : Value) (ttv : Value) (t_L : Nat → Int64) (t_shelf : Nat → Int32) (t_rowSize : Nat → Int32) (t_rows_R : Nat → Nat → Int64) (t_kind : Nat → Int32) (t_pitch : Nat → Int32) (u : (Nat → Int32) × (Nat → Int32) × (Nat → Int32) × (Nat → Int32)) : va_W := [((am 0), e_X6 am tkv ttv u.1 t_L), ((am 1), eI cA 8 t_shelf), ((am 3), eI cA 8 t_rowSize), ((am 4), eOJ cA am 5), (am 5, eJ cA 40 (t_rows_R 0)), (am 6, eJ cA 40 (t_rows_R 1)), (am 7, eJ cA 40 (t_rows_R 2)), (am 8, eJ cA 40 (t_rows_R 3)), (am 9, eJ cA 40 (t_rows_R 4)), (am 10, eJ cA 40 (t_rows_R 5)), (am 11, eJ cA 40 (t_rows_R 6)), (am 12, eJ cA 40 (t_rows_R 7)), ((am 16), eI cA 8 u.2.1), ((am 17), eI cA 8 t_kind), ((am 19), eI cA 8 t_pitch), ((am 21), eI cA 12 u.2.2.1), ((am 22), eI cA 13 u.2.2.2)]
theorem hd_X6_fairest : yX6_fairest.cls = RX6 ∧ yX6_fairest.cls ≠ "java/lang/invoke/MethodHandle" ∧ yX6_fairest.cls ≠ "java/lang/invoke/VarHandle" ∧ (parseMethodDescriptor yX6_fairest.desc).map (fun d => d.parameters.length) = some 2 := by decide +kernel
set_option maxHeartbeats 40000000 in
set_option maxRecDepth 100000 in
theorem c_X6_fairest (l : Launch) (D : va_G) (cA : Nat → ClassId) (sz : Nat) (fu : Nat) (am : Nat → Nat) (tkv : Value) (ttv : Value) (t : Nat → Int32) (t_L : Nat → Int64) (t_shelf : Nat → Int32) (t_rowSize : Nat → Int32) (t_rows_R : Nat → Nat → Int64) (t_refused : Nat → Int32) (t_kind : Nat → Int32) (t_pitch : Nat → Int32) (t_word : Nat → Int32) (t_heard : Nat → Int32) (l1 : Int32) (l2 : Int32) (out : Int32 × ((Nat → Int32) × (Nat → Int32) × (Nat → Int32) × (Nat → Int32))) (hm : m_X6_fairest fu t t_L t_shelf t_rowSize t_rows_R t_refused t_kind t_pitch t_word t_heard l1 l2 = some out) : MI l yX6_fairest (wU yX6_fairest cX6_fairest 9 ((Option.some Jvm.ClassFile.FieldType.int))) rm_X6_fairest D cA sz [.ref (am 0), .int l1, .int l2] (w0_X6_fairest cA am tkv ttv t t_L t_shelf t_rowSize t_rows_R t_refused t_kind t_pitch t_word t_heard) out (w1_X6_fairest cA am tkv ttv t_L t_shelf t_rowSize t_rows_R t_kind t_pitch) := by
  refine Met.ofW (cc := cX6_fairest) (maxL := 9) (ret := (Option.some Jvm.ClassFile.FieldType.int)) (by decide) rfl ?_
  intro p e s m args below meth c s₁ B hml hv
  obtain ⟨hargs, hsz, hP, hK, hD0, hN⟩ := hv
  have hx := B.exec
  have hb := B.bytes
  have hr := B.returns
  have htg : ∀ w ∈ gw, w.before args s = true := fun w h => atoms_spec (ws := wU yX6_fairest cX6_fairest 9 ((Option.some Jvm.ClassFile.FieldType.int))) B.pre w (List.mem_cons_of_mem _ h)
  have hown : s.vm.findClass RX6 = some m.cls := findClass_of_methodNamed B.named
  have hlocks := B.notSynchronized
  subst hsz
  have hD := hD0.self (sz := s.heap.size)
  have hA : ∀ q : Nat, s.heap.size ≤ q → va_A (w0_X6_fairest cA am tkv ttv t t_L t_shelf t_rowSize t_rows_R t_refused t_kind t_pitch t_word t_heard) s.heap.size q := fun q h => Or.inr h
  have hS : va_S (va_A (w0_X6_fairest cA am tkv ttv t t_L t_shelf t_rowSize t_rows_R t_refused t_kind t_pitch t_word t_heard) s.heap.size) s.heap s.heap [] := va_S.rf
  generalize va_A (w0_X6_fairest cA am tkv ttv t t_L t_shelf t_rowSize t_rows_R t_refused t_kind t_pitch t_word t_heard) s.heap.size = A at hA hD hS ⊢
  obtain ⟨Q, hQ⟩ : ∃ Q : State → Prop, Q = MQ below (va_Qi (fun (r : Int32) (u : (Nat → Int32) × (Nat → Int32) × (Nat → Int32) × (Nat → Int32)) => (r, u) = out) (pst0 D cA A (w1_X6_fairest cA am tkv ttv t_L t_shelf t_rowSize t_rows_R t_kind t_pitch)) A) args s 0 0 A := ⟨_, rfl⟩
  refine (?_ : W p l e rm_X6_fairest s m args below meth c s.heap [] 0 0 (MQ below (va_Qi (fun (r : Int32) (u : (Nat → Int32) × (Nat → Int32) × (Nat → Int32) × (Nat → Int32)) => (r, u) = out) (pst0 D cA A (w1_X6_fairest cA am tkv ttv t_L t_shelf t_rowSize t_rows_R t_kind t_pitch)) A) args s 0 0 A) (entryFrame m args 9))
  rw [← hQ]
  have hP : va_P D CL [((am 0), e_X6 am tkv ttv t t_L), ((am 1), eI cA 8 t_shelf), ((am 3), eI cA 8 t_rowSize), ((am 4), eOJ cA am 5), (am 5, eJ cA 40 (t_rows_R 0)), (am 6, eJ cA 40 (t_rows_R 1)), (am 7, eJ cA 40 (t_rows_R 2)), (am 8, eJ cA 40 (t_rows_R 3)), (am 9, eJ cA 40 (t_rows_R 4)), (am 10, eJ cA 40 (t_rows_R 5)), (am 11, eJ cA 40 (t_rows_R 6)), (am 12, eJ cA 40 (t_rows_R 7)), ((am 16), eI cA 8 t_refused), ((am 17), eI cA 8 t_kind), ((am 19), eI cA 8 t_pitch), ((am 21), eI cA 12 t_word), ((am 22), eI cA 13 t_heard)] s.heap := hP
  have hD : va_D A [((am 0), e_X6 am tkv ttv t t_L), ((am 1), eI cA 8 t_shelf), ((am 3), eI cA 8 t_rowSize), ((am 4), eOJ cA am 5), (am 5, eJ cA 40 (t_rows_R 0)), (am 6, eJ cA 40 (t_rows_R 1)), (am 7, eJ cA 40 (t_rows_R 2)), (am 8, eJ cA 40 (t_rows_R 3)), (am 9, eJ cA 40 (t_rows_R 4)), (am 10, eJ cA 40 (t_rows_R 5)), (am 11, eJ cA 40 (t_rows_R 6)), (am 12, eJ cA 40 (t_rows_R 7)), ((am 16), eI cA 8 t_refused), ((am 17), eI cA 8 t_kind), ((am 19), eI cA 8 t_pitch), ((am 21), eI cA 12 t_word), ((am 22), eI cA 13 t_heard)] := hD
  have B_100 : ∀ (k_48 : (Int32 × Int32 × Int32 × Int32 × (Nat → Int32) × (Nat → Int32) × (Nat → Int32) × (Nat → Int32)) → Option (Int32 × ((Nat → Int32) × (Nat → Int32) × (Nat → Int32) × (Nat → Int32)))) (HK_48 : ∀ (x : Int32 × Int32 × Int32 × Int32 × (Nat → Int32) × (Nat → Int32) × (Nat → Int32) × (Nat → Int32)) (H : Heap) (locs : List Loc) (ls : Array Slot), k_48 x = some out → va_P D CL [((am 0), e_X6 am tkv ttv x.2.2.2.2.1 t_L), ((am 1), eI cA 8 t_shelf), ((am 3), eI cA 8 t_rowSize), ((am 4), eOJ cA am 5), (am 5, eJ cA 40 (t_rows_R 0)), (am 6, eJ cA 40 (t_rows_R 1)), (am 7, eJ cA 40 (t_rows_R 2)), (am 8, eJ cA 40 (t_rows_R 3)), (am 9, eJ cA 40 (t_rows_R 4)), (am 10, eJ cA 40 (t_rows_R 5)), (am 11, eJ cA 40 (t_rows_R 6)), (am 12, eJ cA 40 (t_rows_R 7)), ((am 16), eI cA 8 x.2.2.2.2.2.1), ((am 17), eI cA 8 t_kind), ((am 19), eI cA 8 t_pitch), ((am 21), eI cA 12 x.2.2.2.2.2.2.1), ((am 22), eI cA 13 x.2.2.2.2.2.2.2)] H → va_D A [((am 0), e_X6 am tkv ttv x.2.2.2.2.1 t_L), ((am 1), eI cA 8 t_shelf), ((am 3), eI cA 8 t_rowSize), ((am 4), eOJ cA am 5), (am 5, eJ cA 40 (t_rows_R 0)), (am 6, eJ cA 40 (t_rows_R 1)), (am 7, eJ cA 40 (t_rows_R 2)), (am 8, eJ cA 40 (t_rows_R 3)), (am 9, eJ cA 40 (t_rows_R 4)), (am 10, eJ cA 40 (t_rows_R 5)), (am 11, eJ cA 40 (t_rows_R 6)), (am 12, eJ cA 40 (t_rows_R 7)), ((am 16), eI cA 8 x.2.2.2.2.2.1), ((am 17), eI cA 8 t_kind), ((am 19), eI cA 8 t_pitch), ((am 21), eI cA 12 x.2.2.2.2.2.2.1), ((am 22), eI cA 13 x.2.2.2.2.2.2.2)] → va_S A s.heap H locs → lv_has ls 9 [(0, .ref (am 0)), (4, .int x.1), (5, .int x.2.1), (6, .int x.2.2.1), (7, .int x.2.2.2.1)] → W p l e rm_X6_fairest s m args below meth c H locs 0 0 Q (F0 m 48 ls [])) (l4 : Int32) (l5 : Int32) (l7 : Int32) (s0 : Int32) (t : Nat → Int32) (t_refused : Nat → Int32) (t_word : Nat → Int32) (t_heard : Nat → Int32) (H : Heap) (locs : List Loc) (ls : Array Slot), b_X6_fairest_100 fu t_L t_shelf t_rowSize t_rows_R t_kind t_pitch k_48 l4 l5 l7 s0 t t_refused t_word t_heard = some out → va_P D CL [((am 0), e_X6 am tkv ttv t t_L), ((am 1), eI cA 8 t_shelf), ((am 3), eI cA 8 t_rowSize), ((am 4), eOJ cA am 5), (am 5, eJ cA 40 (t_rows_R 0)), (am 6, eJ cA 40 (t_rows_R 1)), (am 7, eJ cA 40 (t_rows_R 2)), (am 8, eJ cA 40 (t_rows_R 3)), (am 9, eJ cA 40 (t_rows_R 4)), (am 10, eJ cA 40 (t_rows_R 5)), (am 11, eJ cA 40 (t_rows_R 6)), (am 12, eJ cA 40 (t_rows_R 7)), ((am 16), eI cA 8 t_refused), ((am 17), eI cA 8 t_kind), ((am 19), eI cA 8 t_pitch), ((am 21), eI cA 12 t_word), ((am 22), eI cA 13 t_heard)] H → va_D A [((am 0), e_X6 am tkv ttv t t_L), ((am 1), eI cA 8 t_shelf), ((am 3), eI cA 8 t_rowSize), ((am 4), eOJ cA am 5), (am 5, eJ cA 40 (t_rows_R 0)), (am 6, eJ cA 40 (t_rows_R 1)), (am 7, eJ cA 40 (t_rows_R 2)), (am 8, eJ cA 40 (t_rows_R 3)), (am 9, eJ cA 40 (t_rows_R 4)), (am 10, eJ cA 40 (t_rows_R 5)), (am 11, eJ cA 40 (t_rows_R 6)), (am 12, eJ cA 40 (t_rows_R 7)), ((am 16), eI cA 8 t_refused), ((am 17), eI cA 8 t_kind), ((am 19), eI cA 8 t_pitch), ((am 21), eI cA 12 t_word), ((am 22), eI cA 13 t_heard)] → va_S A s.heap H locs → lv_has ls 9 [(0, .ref (am 0)), (4, .int l4), (5, .int l5), (7, .int l7)] → W p l e rm_X6_fairest s m args below meth c H locs 0 0 Q (F0 m 100 ls [.int s0]) := by
    intro k_48 HK_48 l4 l5 l7 s0 t t_refused t_word t_heard H locs ls hm hP hD hS hl
    unfold b_X6_fairest_100 at hm
    refine lv_istore (lv' := [(6, .int s0), (0, .ref (am 0)), (4, .int l4), (5, .int l5), (7, .int l7)]) hx hb dX6_fairest_100 hl (by decide) rfl (fun ls hl => ?_)
    refine lv_iinc (v := (l7 + (1 : Int32))) (lv' := [(7, .int (l7 + (1 : Int32))), (6, .int s0), (0, .ref (am 0)), (4, .int l4), (5, .int l5)]) hx hb dX6_fairest_102 hl (k := 4) rfl rfl (by decide) rfl (fun ls hl => ?_)
    refine lv_goto (tgt := 48) hx hb dX6_fairest_105 (by decide) ?_
    exact HK_48 _ _ _ _ hm hP hD hS (lv_sub hl [2, 3, 4, 1, 0] rfl)
  have B_84 : ∀ (k_48 : (Int32 × Int32 × Int32 × Int32 × (Nat → Int32) × (Nat → Int32) × (Nat → Int32) × (Nat → Int32)) → Option (Int32 × ((Nat → Int32) × (Nat → Int32) × (Nat → Int32) × (Nat → Int32)))) (HK_48 : ∀ (x : Int32 × Int32 × Int32 × Int32 × (Nat → Int32) × (Nat → Int32) × (Nat → Int32) × (Nat → Int32)) (H : Heap) (locs : List Loc) (ls : Array Slot), k_48 x = some out → va_P D CL [((am 0), e_X6 am tkv ttv x.2.2.2.2.1 t_L), ((am 1), eI cA 8 t_shelf), ((am 3), eI cA 8 t_rowSize), ((am 4), eOJ cA am 5), (am 5, eJ cA 40 (t_rows_R 0)), (am 6, eJ cA 40 (t_rows_R 1)), (am 7, eJ cA 40 (t_rows_R 2)), (am 8, eJ cA 40 (t_rows_R 3)), (am 9, eJ cA 40 (t_rows_R 4)), (am 10, eJ cA 40 (t_rows_R 5)), (am 11, eJ cA 40 (t_rows_R 6)), (am 12, eJ cA 40 (t_rows_R 7)), ((am 16), eI cA 8 x.2.2.2.2.2.1), ((am 17), eI cA 8 t_kind), ((am 19), eI cA 8 t_pitch), ((am 21), eI cA 12 x.2.2.2.2.2.2.1), ((am 22), eI cA 13 x.2.2.2.2.2.2.2)] H → va_D A [((am 0), e_X6 am tkv ttv x.2.2.2.2.1 t_L), ((am 1), eI cA 8 t_shelf), ((am 3), eI cA 8 t_rowSize), ((am 4), eOJ cA am 5), (am 5, eJ cA 40 (t_rows_R 0)), (am 6, eJ cA 40 (t_rows_R 1)), (am 7, eJ cA 40 (t_rows_R 2)), (am 8, eJ cA 40 (t_rows_R 3)), (am 9, eJ cA 40 (t_rows_R 4)), (am 10, eJ cA 40 (t_rows_R 5)), (am 11, eJ cA 40 (t_rows_R 6)), (am 12, eJ cA 40 (t_rows_R 7)), ((am 16), eI cA 8 x.2.2.2.2.2.1), ((am 17), eI cA 8 t_kind), ((am 19), eI cA 8 t_pitch), ((am 21), eI cA 12 x.2.2.2.2.2.2.1), ((am 22), eI cA 13 x.2.2.2.2.2.2.2)] → va_S A s.heap H locs → lv_has ls 9 [(0, .ref (am 0)), (4, .int x.1), (5, .int x.2.1), (6, .int x.2.2.1), (7, .int x.2.2.2.1)] → W p l e rm_X6_fairest s m args below meth c H locs 0 0 Q (F0 m 48 ls [])) (l4 : Int32) (l6 : Int32) (l7 : Int32) (l8 : Int32) (s0 : Int32) (t : Nat → Int32) (t_refused : Nat → Int32) (t_word : Nat → Int32) (t_heard : Nat → Int32) (H : Heap) (locs : List Loc) (ls : Array Slot), b_X6_fairest_84 fu t_L t_shelf t_rowSize t_rows_R t_kind t_pitch k_48 l4 l6 l7 l8 s0 t t_refused t_word t_heard = some out → va_P D CL [((am 0), e_X6 am tkv ttv t t_L), ((am 1), eI cA 8 t_shelf), ((am 3), eI cA 8 t_rowSize), ((am 4), eOJ cA am 5), (am 5, eJ cA 40 (t_rows_R 0)), (am 6, eJ cA 40 (t_rows_R 1)), (am 7, eJ cA 40 (t_rows_R 2)), (am 8, eJ cA 40 (t_rows_R 3)), (am 9, eJ cA 40 (t_rows_R 4)), (am 10, eJ cA 40 (t_rows_R 5)), (am 11, eJ cA 40 (t_rows_R 6)), (am 12, eJ cA 40 (t_rows_R 7)), ((am 16), eI cA 8 t_refused), ((am 17), eI cA 8 t_kind), ((am 19), eI cA 8 t_pitch), ((am 21), eI cA 12 t_word), ((am 22), eI cA 13 t_heard)] H → va_D A [((am 0), e_X6 am tkv ttv t t_L), ((am 1), eI cA 8 t_shelf), ((am 3), eI cA 8 t_rowSize), ((am 4), eOJ cA am 5), (am 5, eJ cA 40 (t_rows_R 0)), (am 6, eJ cA 40 (t_rows_R 1)), (am 7, eJ cA 40 (t_rows_R 2)), (am 8, eJ cA 40 (t_rows_R 3)), (am 9, eJ cA 40 (t_rows_R 4)), (am 10, eJ cA 40 (t_rows_R 5)), (am 11, eJ cA 40 (t_rows_R 6)), (am 12, eJ cA 40 (t_rows_R 7)), ((am 16), eI cA 8 t_refused), ((am 17), eI cA 8 t_kind), ((am 19), eI cA 8 t_pitch), ((am 21), eI cA 12 t_word), ((am 22), eI cA 13 t_heard)] → va_S A s.heap H locs → lv_has ls 9 [(0, .ref (am 0)), (4, .int l4), (6, .int l6), (7, .int l7), (8, .int l8)] → W p l e rm_X6_fairest s m args below meth c H locs 0 0 Q (F0 m 84 ls [.int s0]) := by
    intro k_48 HK_48 l4 l6 l7 l8 s0 t t_refused t_word t_heard H locs ls hm hP hD hS hl
    unfold b_X6_fairest_84 at hm
    refine lv_istore (lv' := [(5, .int s0), (0, .ref (am 0)), (4, .int l4), (6, .int l6), (7, .int l7), (8, .int l8)]) hx hb dX6_fairest_84 hl (by decide) rfl (fun ls hl => ?_)
    refine lv_iload hx hb dX6_fairest_86 (lv_at hl 5 rfl) ?_
    refine lv_iload hx hb dX6_fairest_88 (lv_at hl 3 rfl) ?_
    refine lv_icmp_le (tgt := 98) hx hb dX6_fairest_90 (by decide) (fun c1 => ?_) (fun c1 => ?_)
    · have hm := it_t c1 hm
      refine lv_iload hx hb dX6_fairest_98 (lv_at hl 3 rfl) ?_
      exact B_100 _ HK_48 _ _ _ _ _ _ _ _ _ _ _ hm hP hD hS (lv_sub hl [1, 2, 0, 4] rfl)
    · have hm := it_f c1 hm
      refine lv_iload hx hb dX6_fairest_93 (lv_at hl 5 rfl) ?_
      refine lv_goto (tgt := 100) hx hb dX6_fairest_95 (by decide) ?_
      exact B_100 _ HK_48 _ _ _ _ _ _ _ _ _ _ _ hm hP hD hS (lv_sub hl [1, 2, 0, 4] rfl)
  have B_48 : ∀ (n : Nat) (x : Int32 × Int32 × Int32 × Int32 × (Nat → Int32) × (Nat → Int32) × (Nat → Int32) × (Nat → Int32)) (H : Heap) (locs : List Loc) (ls : Array Slot), lfix (b_X6_fairest_48 fu t_L t_shelf t_rowSize t_rows_R t_kind t_pitch) n x = some out → va_P D CL [((am 0), e_X6 am tkv ttv x.2.2.2.2.1 t_L), ((am 1), eI cA 8 t_shelf), ((am 3), eI cA 8 t_rowSize), ((am 4), eOJ cA am 5), (am 5, eJ cA 40 (t_rows_R 0)), (am 6, eJ cA 40 (t_rows_R 1)), (am 7, eJ cA 40 (t_rows_R 2)), (am 8, eJ cA 40 (t_rows_R 3)), (am 9, eJ cA 40 (t_rows_R 4)), (am 10, eJ cA 40 (t_rows_R 5)), (am 11, eJ cA 40 (t_rows_R 6)), (am 12, eJ cA 40 (t_rows_R 7)), ((am 16), eI cA 8 x.2.2.2.2.2.1), ((am 17), eI cA 8 t_kind), ((am 19), eI cA 8 t_pitch), ((am 21), eI cA 12 x.2.2.2.2.2.2.1), ((am 22), eI cA 13 x.2.2.2.2.2.2.2)] H → va_D A [((am 0), e_X6 am tkv ttv x.2.2.2.2.1 t_L), ((am 1), eI cA 8 t_shelf), ((am 3), eI cA 8 t_rowSize), ((am 4), eOJ cA am 5), (am 5, eJ cA 40 (t_rows_R 0)), (am 6, eJ cA 40 (t_rows_R 1)), (am 7, eJ cA 40 (t_rows_R 2)), (am 8, eJ cA 40 (t_rows_R 3)), (am 9, eJ cA 40 (t_rows_R 4)), (am 10, eJ cA 40 (t_rows_R 5)), (am 11, eJ cA 40 (t_rows_R 6)), (am 12, eJ cA 40 (t_rows_R 7)), ((am 16), eI cA 8 x.2.2.2.2.2.1), ((am 17), eI cA 8 t_kind), ((am 19), eI cA 8 t_pitch), ((am 21), eI cA 12 x.2.2.2.2.2.2.1), ((am 22), eI cA 13 x.2.2.2.2.2.2.2)] → va_S A s.heap H locs → lv_has ls 9 [(0, .ref (am 0)), (4, .int x.1), (5, .int x.2.1), (6, .int x.2.2.1), (7, .int x.2.2.2.1)] → W p l e rm_X6_fairest s m args below meth c H locs 0 0 Q (F0 m 48 ls []) := by
    intro  n
    induction n with
    | zero => intro x H locs ls hm; cases (show none = some out from hm)
    | succ n HK_48 =>
      intro x H locs ls hm hP hD hS hl
      replace hm : b_X6_fairest_48 fu t_L t_shelf t_rowSize t_rows_R t_kind t_pitch (lfix (b_X6_fairest_48 fu t_L t_shelf t_rowSize t_rows_R t_kind t_pitch) n) x = some out := hm
      unfold b_X6_fairest_48 at hm
      refine lv_iload hx hb dX6_fairest_48 (lv_at hl 4 rfl) ?_
      refine lv_bipush (v := (9 : Int32)) hx hb dX6_fairest_50 (by decide) ?_
      refine lv_icmp_gt (tgt := 108) hx hb dX6_fairest_52 (by decide) (fun c2 => ?_) (fun c2 => ?_)
      · have hm := it_t c2 hm
        refine lv_aload_n hx hb dX6_fairest_108 rfl (lv_at hl 0 rfl) ?_
        refine lv_iload hx hb dX6_fairest_109 (lv_at hl 1 rfl) ?_
        refine va_put (D := D) (ci := 6) (v := .int x.1) (ty := .int) (C := RX6) (T := TX6) (N := 49) hx hb htg inX6 tyX6 tyX6_ok nmX6 hown hK hP hD hS 0 rfl rfl 12 (by decide) (htg _ q_4_201) (fun _ h9 => h9) rfl (by decide +kernel) rfl rfl (Nat.le_of_ble_eq_true rfl) dX6_fairest_111 (fun H locs (hP : va_P D CL [((am 0), e_X6 am tkv ttv (upd x.2.2.2.2.1 12 x.1) t_L), ((am 1), eI cA 8 t_shelf), ((am 3), eI cA 8 t_rowSize), ((am 4), eOJ cA am 5), (am 5, eJ cA 40 (t_rows_R 0)), (am 6, eJ cA 40 (t_rows_R 1)), (am 7, eJ cA 40 (t_rows_R 2)), (am 8, eJ cA 40 (t_rows_R 3)), (am 9, eJ cA 40 (t_rows_R 4)), (am 10, eJ cA 40 (t_rows_R 5)), (am 11, eJ cA 40 (t_rows_R 6)), (am 12, eJ cA 40 (t_rows_R 7)), ((am 16), eI cA 8 x.2.2.2.2.2.1), ((am 17), eI cA 8 t_kind), ((am 19), eI cA 8 t_pitch), ((am 21), eI cA 12 x.2.2.2.2.2.2.1), ((am 22), eI cA 13 x.2.2.2.2.2.2.2)] H) (hD : va_D A [((am 0), e_X6 am tkv ttv (upd x.2.2.2.2.1 12 x.1) t_L), ((am 1), eI cA 8 t_shelf), ((am 3), eI cA 8 t_rowSize), ((am 4), eOJ cA am 5), (am 5, eJ cA 40 (t_rows_R 0)), (am 6, eJ cA 40 (t_rows_R 1)), (am 7, eJ cA 40 (t_rows_R 2)), (am 8, eJ cA 40 (t_rows_R 3)), (am 9, eJ cA 40 (t_rows_R 4)), (am 10, eJ cA 40 (t_rows_R 5)), (am 11, eJ cA 40 (t_rows_R 6)), (am 12, eJ cA 40 (t_rows_R 7)), ((am 16), eI cA 8 x.2.2.2.2.2.1), ((am 17), eI cA 8 t_kind), ((am 19), eI cA 8 t_pitch), ((am 21), eI cA 12 x.2.2.2.2.2.2.1), ((am 22), eI cA 13 x.2.2.2.2.2.2.2)]) hS => ?_)
        refine lv_iload hx hb dX6_fairest_114 (lv_at hl 2 rfl) ?_
        rw [hQ]
        exact W.iret (v := x.2.1) hx hb hr (fun t9 ht hW => ⟨⟨x.2.1, ((upd x.2.2.2.2.1 12 x.1), x.2.2.2.2.2.1, x.2.2.2.2.2.2.1, x.2.2.2.2.2.2.2), rfl, (Option.some.inj hm), by rw [ht]; exact hP, va_K.moved hW.alike hK, hD⟩, hS.F ht⟩) hS.2.2 dX6_fairest_116
      · have hm := it_f c2 hm
        refine lv_aload_n hx hb dX6_fairest_55 rfl (lv_at hl 0 rfl) ?_
        refine lv_iload hx hb dX6_fairest_56 (lv_at hl 4 rfl) ?_
        refine va_put (D := D) (ci := 6) (v := .int x.2.2.2.1) (ty := .int) (C := RX6) (T := TX6) (N := 49) hx hb htg inX6 tyX6 tyX6_ok nmX6 hown hK hP hD hS 0 rfl rfl 12 (by decide) (htg _ q_4_201) (fun _ h9 => h9) rfl (by decide +kernel) rfl rfl (Nat.le_of_ble_eq_true rfl) dX6_fairest_58 (fun H locs (hP : va_P D CL [((am 0), e_X6 am tkv ttv (upd x.2.2.2.2.1 12 x.2.2.2.1) t_L), ((am 1), eI cA 8 t_shelf), ((am 3), eI cA 8 t_rowSize), ((am 4), eOJ cA am 5), (am 5, eJ cA 40 (t_rows_R 0)), (am 6, eJ cA 40 (t_rows_R 1)), (am 7, eJ cA 40 (t_rows_R 2)), (am 8, eJ cA 40 (t_rows_R 3)), (am 9, eJ cA 40 (t_rows_R 4)), (am 10, eJ cA 40 (t_rows_R 5)), (am 11, eJ cA 40 (t_rows_R 6)), (am 12, eJ cA 40 (t_rows_R 7)), ((am 16), eI cA 8 x.2.2.2.2.2.1), ((am 17), eI cA 8 t_kind), ((am 19), eI cA 8 t_pitch), ((am 21), eI cA 12 x.2.2.2.2.2.2.1), ((am 22), eI cA 13 x.2.2.2.2.2.2.2)] H) (hD : va_D A [((am 0), e_X6 am tkv ttv (upd x.2.2.2.2.1 12 x.2.2.2.1) t_L), ((am 1), eI cA 8 t_shelf), ((am 3), eI cA 8 t_rowSize), ((am 4), eOJ cA am 5), (am 5, eJ cA 40 (t_rows_R 0)), (am 6, eJ cA 40 (t_rows_R 1)), (am 7, eJ cA 40 (t_rows_R 2)), (am 8, eJ cA 40 (t_rows_R 3)), (am 9, eJ cA 40 (t_rows_R 4)), (am 10, eJ cA 40 (t_rows_R 5)), (am 11, eJ cA 40 (t_rows_R 6)), (am 12, eJ cA 40 (t_rows_R 7)), ((am 16), eI cA 8 x.2.2.2.2.2.1), ((am 17), eI cA 8 t_kind), ((am 19), eI cA 8 t_pitch), ((am 21), eI cA 12 x.2.2.2.2.2.2.1), ((am 22), eI cA 13 x.2.2.2.2.2.2.2)]) hS => ?_)
        refine lv_aload_n hx hb dX6_fairest_61 rfl (lv_at hl 0 rfl) ?_
        obtain ⟨o3, ho4, hm⟩ := bd_s hm
        refine xr_i (wr := [((am 1), eI cA 8 t_shelf), ((am 3), eI cA 8 t_rowSize), ((am 4), eOJ cA am 5), (am 5, eJ cA 40 (t_rows_R 0)), (am 6, eJ cA 40 (t_rows_R 1)), (am 7, eJ cA 40 (t_rows_R 2)), (am 8, eJ cA 40 (t_rows_R 3)), (am 9, eJ cA 40 (t_rows_R 4)), (am 10, eJ cA 40 (t_rows_R 5)), (am 11, eJ cA 40 (t_rows_R 6)), (am 12, eJ cA 40 (t_rows_R 7)), ((am 16), eI cA 8 x.2.2.2.2.2.1)]) (wn := [((am 0), e_X6 am tkv ttv o3.2.1 t_L), ((am 1), eI cA 8 t_shelf), ((am 3), eI cA 8 t_rowSize), ((am 4), eOJ cA am 5), (am 5, eJ cA 40 (t_rows_R 0)), (am 6, eJ cA 40 (t_rows_R 1)), (am 7, eJ cA 40 (t_rows_R 2)), (am 8, eJ cA 40 (t_rows_R 3)), (am 9, eJ cA 40 (t_rows_R 4)), (am 10, eJ cA 40 (t_rows_R 5)), (am 11, eJ cA 40 (t_rows_R 6)), (am 12, eJ cA 40 (t_rows_R 7)), ((am 16), eI cA 8 x.2.2.2.2.2.1), ((am 17), eI cA 8 t_kind), ((am 19), eI cA 8 t_pitch), ((am 21), eI cA 12 x.2.2.2.2.2.2.1), ((am 22), eI cA 13 o3.2.2)]) (va_runV (As := []) (rest := []) ⟨hx, hb, hml, hown, htg⟩ (c_X6_yesBits l D cA _ fu am tkv ttv (upd x.2.2.2.2.1 12 x.2.2.2.1) t_L t_kind t_pitch x.2.2.2.2.2.2.1 x.2.2.2.2.2.2.2 o3 ho4) (cwV 0 htg (gV q_6_73 q_6_75 q_p6_11 q_1_8 q_6_76) rfl rfl rfl hd_X6_yesBits ⟨Nat.le_of_ble_eq_true rfl, Nat.le_of_ble_eq_true rfl⟩) (xpV hN hK hP hD [0, 13, 14, 15, 16] rfl (by decide) rfl rfl) rfl rfl hl.1 rfl (lv_room (Nat.le_of_ble_eq_true rfl)) dX6_fairest_62 ⟨Nat.zero_le _, Nat.zero_le _⟩) hP hD hS hA [0, 13, 14, 15, 16] [1, 2, 3, 4, 5, 6, 7, 8, 9, 10, 11, 12] [12, 0, 1, 2, 3, 4, 5, 6, 7, 8, 9, 10, 11, 13, 14, 15, 16] rfl rfl (by decide) (by decide) rfl (by decide) (fun H locs hP hD hS => ?_)
        obtain ⟨o5, ho6, hm⟩ := bd_s hm
        refine xr_i (wr := [((am 0), e_X6 am tkv ttv o3.2.1 t_L), ((am 1), eI cA 8 t_shelf), ((am 3), eI cA 8 t_rowSize), ((am 4), eOJ cA am 5), (am 5, eJ cA 40 (t_rows_R 0)), (am 6, eJ cA 40 (t_rows_R 1)), (am 7, eJ cA 40 (t_rows_R 2)), (am 8, eJ cA 40 (t_rows_R 3)), (am 9, eJ cA 40 (t_rows_R 4)), (am 10, eJ cA 40 (t_rows_R 5)), (am 11, eJ cA 40 (t_rows_R 6)), (am 12, eJ cA 40 (t_rows_R 7)), ((am 16), eI cA 8 x.2.2.2.2.2.1), ((am 17), eI cA 8 t_kind), ((am 19), eI cA 8 t_pitch), ((am 21), eI cA 12 x.2.2.2.2.2.2.1), ((am 22), eI cA 13 o3.2.2)]) (wn := [((am 0), e_X6 am tkv ttv o3.2.1 t_L), ((am 1), eI cA 8 t_shelf), ((am 3), eI cA 8 t_rowSize), ((am 4), eOJ cA am 5), (am 5, eJ cA 40 (t_rows_R 0)), (am 6, eJ cA 40 (t_rows_R 1)), (am 7, eJ cA 40 (t_rows_R 2)), (am 8, eJ cA 40 (t_rows_R 3)), (am 9, eJ cA 40 (t_rows_R 4)), (am 10, eJ cA 40 (t_rows_R 5)), (am 11, eJ cA 40 (t_rows_R 6)), (am 12, eJ cA 40 (t_rows_R 7)), ((am 16), eI cA 8 x.2.2.2.2.2.1), ((am 17), eI cA 8 t_kind), ((am 19), eI cA 8 t_pitch), ((am 21), eI cA 12 x.2.2.2.2.2.2.1), ((am 22), eI cA 13 o3.2.2)]) (va_runS (As := [.int o3.1]) (rest := []) ⟨hx, hb, hml, hown, htg⟩ (c_X6_bits l D cA _ fu o3.1 o5 ho6) (cwS 1 htg (gS q_6_148 q_6_149 q_1_8 q_6_150) rfl rfl rfl hd_X6_bits ⟨Nat.le_of_ble_eq_true rfl, Nat.le_of_ble_eq_true rfl⟩) (xpS hN hK hP hD [] rfl (by decide)) rfl rfl hl.1 rfl (lv_room (Nat.le_of_ble_eq_true rfl)) dX6_fairest_65 ⟨Nat.zero_le _, Nat.zero_le _⟩) hP hD hS hA [] [0, 1, 2, 3, 4, 5, 6, 7, 8, 9, 10, 11, 12, 13, 14, 15, 16] [0, 1, 2, 3, 4, 5, 6, 7, 8, 9, 10, 11, 12, 13, 14, 15, 16] rfl rfl (by decide) (by decide) rfl (by decide) (fun H locs hP hD hS => ?_)
        refine lv_istore (lv' := [(8, .int o5.1), (0, .ref (am 0)), (4, .int x.1), (5, .int x.2.1), (6, .int x.2.2.1), (7, .int x.2.2.2.1)]) hx hb dX6_fairest_68 hl (by decide) rfl (fun ls hl => ?_)
        refine lv_iload hx hb dX6_fairest_70 (lv_at hl 0 rfl) ?_
        refine lv_iload hx hb dX6_fairest_72 (lv_at hl 4 rfl) ?_
        refine lv_icmp_le (tgt := 82) hx hb dX6_fairest_74 (by decide) (fun c7 => ?_) (fun c7 => ?_)
        · have hm := it_t c7 hm
          refine lv_iload hx hb dX6_fairest_82 (lv_at hl 3 rfl) ?_
          exact B_84 _ HK_48 _ _ _ _ _ _ _ _ _ _ _ _ hm hP hD hS (lv_sub hl [1, 2, 4, 5, 0] rfl)
        · have hm := it_f c7 hm
          refine lv_iload hx hb dX6_fairest_77 (lv_at hl 5 rfl) ?_
          refine lv_goto (tgt := 84) hx hb dX6_fairest_79 (by decide) ?_
          exact B_84 _ HK_48 _ _ _ _ _ _ _ _ _ _ _ _ hm hP hD hS (lv_sub hl [1, 2, 4, 5, 0] rfl)
  have B_46 : ∀ (l4 : Int32) (l5 : Int32) (l6 : Int32) (s0 : Int32) (t : Nat → Int32) (t_refused : Nat → Int32) (t_word : Nat → Int32) (t_heard : Nat → Int32) (H : Heap) (locs : List Loc) (ls : Array Slot), b_X6_fairest_46 fu t_L t_shelf t_rowSize t_rows_R t_kind t_pitch l4 l5 l6 s0 t t_refused t_word t_heard = some out → va_P D CL [((am 0), e_X6 am tkv ttv t t_L), ((am 1), eI cA 8 t_shelf), ((am 3), eI cA 8 t_rowSize), ((am 4), eOJ cA am 5), (am 5, eJ cA 40 (t_rows_R 0)), (am 6, eJ cA 40 (t_rows_R 1)), (am 7, eJ cA 40 (t_rows_R 2)), (am 8, eJ cA 40 (t_rows_R 3)), (am 9, eJ cA 40 (t_rows_R 4)), (am 10, eJ cA 40 (t_rows_R 5)), (am 11, eJ cA 40 (t_rows_R 6)), (am 12, eJ cA 40 (t_rows_R 7)), ((am 16), eI cA 8 t_refused), ((am 17), eI cA 8 t_kind), ((am 19), eI cA 8 t_pitch), ((am 21), eI cA 12 t_word), ((am 22), eI cA 13 t_heard)] H → va_D A [((am 0), e_X6 am tkv ttv t t_L), ((am 1), eI cA 8 t_shelf), ((am 3), eI cA 8 t_rowSize), ((am 4), eOJ cA am 5), (am 5, eJ cA 40 (t_rows_R 0)), (am 6, eJ cA 40 (t_rows_R 1)), (am 7, eJ cA 40 (t_rows_R 2)), (am 8, eJ cA 40 (t_rows_R 3)), (am 9, eJ cA 40 (t_rows_R 4)), (am 10, eJ cA 40 (t_rows_R 5)), (am 11, eJ cA 40 (t_rows_R 6)), (am 12, eJ cA 40 (t_rows_R 7)), ((am 16), eI cA 8 t_refused), ((am 17), eI cA 8 t_kind), ((am 19), eI cA 8 t_pitch), ((am 21), eI cA 12 t_word), ((am 22), eI cA 13 t_heard)] → va_S A s.heap H locs → lv_has ls 9 [(0, .ref (am 0)), (4, .int l4), (5, .int l5), (6, .int l6)] → W p l e rm_X6_fairest s m args below meth c H locs 0 0 Q (F0 m 46 ls [.int s0]) := by
    intro  l4 l5 l6 s0 t t_refused t_word t_heard H locs ls hm hP hD hS hl
    unfold b_X6_fairest_46 at hm
    refine lv_istore (lv' := [(7, .int s0), (0, .ref (am 0)), (4, .int l4), (5, .int l5), (6, .int l6)]) hx hb dX6_fairest_46 hl (by decide) rfl (fun ls hl => ?_)
    exact B_48 fu _ _ _ _ hm hP hD hS (lv_sub hl [1, 2, 3, 4, 0] rfl)
  unfold m_X6_fairest at hm
  subst hargs
  have hl := lv_entry ([.ref (am 0), .int l1, .int l2]) (n := 9) (Nat.le_of_ble_eq_true rfl)
  rw [lg_entry_eq]
  generalize (lg_sl ([.ref (am 0), .int l1, .int l2]) ++ List.replicate (9 - (lg_sl ([.ref (am 0), .int l1, .int l2])).length) Slot.unset).toArray = ls at hl ⊢
  have hl : lv_has ls 9 [(0, .ref (am 0)), (1, .int l1), (2, .int l2)] := hl
  refine lv_aload_n hx hb dX6_fairest_0 rfl (lv_at hl 0 rfl) ?_
  refine lv_iload_n hx hb dX6_fairest_1 rfl (lv_at hl 1 rfl) ?_
  refine lv_iload_n hx hb dX6_fairest_2 rfl (lv_at hl 2 rfl) ?_
  refine lv_bipush (v := (12 : Int32)) hx hb dX6_fairest_3 (by decide) ?_
  refine lv_iconst (v := (1 : Int32)) hx hb dX6_fairest_5 (by decide) ?_
  obtain ⟨o8, ho9, hm⟩ := bd_s hm
  refine xr_i (wr := [((am 17), eI cA 8 t_kind), ((am 19), eI cA 8 t_pitch), ((am 22), eI cA 13 t_heard)]) (wn := [((am 0), e_X6 am tkv ttv o8.2.1 t_L), ((am 1), eI cA 8 t_shelf), ((am 3), eI cA 8 t_rowSize), ((am 4), eOJ cA am 5), (am 5, eJ cA 40 (t_rows_R 0)), (am 6, eJ cA 40 (t_rows_R 1)), (am 7, eJ cA 40 (t_rows_R 2)), (am 8, eJ cA 40 (t_rows_R 3)), (am 9, eJ cA 40 (t_rows_R 4)), (am 10, eJ cA 40 (t_rows_R 5)), (am 11, eJ cA 40 (t_rows_R 6)), (am 12, eJ cA 40 (t_rows_R 7)), ((am 16), eI cA 8 o8.2.2.1), ((am 17), eI cA 8 t_kind), ((am 19), eI cA 8 t_pitch), ((am 21), eI cA 12 o8.2.2.2), ((am 22), eI cA 13 t_heard)]) (va_runV (As := [.int l1, .int l2, .int (12 : Int32), .int (1 : Int32)]) (rest := []) ⟨hx, hb, hml, hown, htg⟩ (c_X6_noWord l D cA _ fu am tkv ttv t t_L t_shelf t_rowSize t_rows_R t_refused t_word l1 l2 (12 : Int32) (1 : Int32) o8 ho9) (cwV 4 htg (gV q_6_49 q_6_51 q_p6_8 q_1_8 q_6_52) rfl rfl rfl hd_X6_noWord ⟨Nat.le_of_ble_eq_true rfl, Nat.le_of_ble_eq_true rfl⟩) (xpV hN hK hP hD [0, 1, 2, 3, 4, 5, 6, 7, 8, 9, 10, 11, 12, 15] rfl (by decide) rfl rfl) rfl rfl hl.1 rfl (lv_room (Nat.le_of_ble_eq_true rfl)) dX6_fairest_6 ⟨Nat.zero_le _, Nat.zero_le _⟩) hP hD hS hA [0, 1, 2, 3, 4, 5, 6, 7, 8, 9, 10, 11, 12, 15] [13, 14, 16] [3, 4, 5, 6, 7, 8, 9, 10, 11, 12, 13, 14, 15, 0, 1, 16, 2] rfl rfl (by decide) (by decide) rfl (by decide) (fun H locs hP hD hS => ?_)
  refine lv_istore_n (lv' := [(3, .int o8.1), (0, .ref (am 0)), (1, .int l1), (2, .int l2)]) hx hb dX6_fairest_9 rfl hl (by decide) rfl (fun ls hl => ?_)
  refine lv_iload_n hx hb dX6_fairest_10 rfl (lv_at hl 0 rfl) ?_
  refine lv_if_eq (tgt := 16) hx hb dX6_fairest_11 (by decide) (fun c10 => ?_) (fun c10 => ?_)
  · have hm := it_t c10 hm
    refine lv_aload_n hx hb dX6_fairest_16 rfl (lv_at hl 1 rfl) ?_
    refine va_get (D := D) (ci := 6) (v := .int (o8.2.1 12)) (C := RX6) (T := TX6) (N := 49) hx hb htg inX6 hown hK hP 0 rfl rfl 12 (by decide) (htg _ q_4_201) (fun _ h9 => h9) rfl dX6_fairest_17 ?_
    refine lv_istore (lv' := [(4, .int (o8.2.1 12)), (3, .int o8.1), (0, .ref (am 0)), (1, .int l1), (2, .int l2)]) hx hb dX6_fairest_20 hl (by decide) rfl (fun ls hl => ?_)
    refine lv_iconst (v := (-1 : Int32)) hx hb dX6_fairest_22 (by decide) ?_
    refine lv_istore (lv' := [(5, .int (-1 : Int32)), (4, .int (o8.2.1 12)), (3, .int o8.1), (0, .ref (am 0)), (1, .int l1), (2, .int l2)]) hx hb dX6_fairest_23 hl (by decide) rfl (fun ls hl => ?_)
    refine lv_iconst (v := (-1 : Int32)) hx hb dX6_fairest_25 (by decide) ?_
    refine lv_istore (lv' := [(6, .int (-1 : Int32)), (5, .int (-1 : Int32)), (4, .int (o8.2.1 12)), (3, .int o8.1), (0, .ref (am 0)), (1, .int l1), (2, .int l2)]) hx hb dX6_fairest_26 hl (by decide) rfl (fun ls hl => ?_)
    refine lv_aload_n hx hb dX6_fairest_28 rfl (lv_at hl 4 rfl) ?_
    refine va_get (D := D) (ci := 6) (v := .int (o8.2.1 13)) (C := RX6) (T := TX6) (N := 49) hx hb htg inX6 hown hK hP 0 rfl rfl 13 (by decide) (htg _ q_4_202) (fun _ h9 => h9) rfl dX6_fairest_29 ?_
    refine lv_iconst (v := (2 : Int32)) hx hb dX6_fairest_32 (by decide) ?_
    refine lv_icmp_ge (tgt := 40) hx hb dX6_fairest_33 (by decide) (fun c11 => ?_) (fun c11 => ?_)
    · have hm := it_t c11 hm
      refine lv_aload_n hx hb dX6_fairest_40 rfl (lv_at hl 4 rfl) ?_
      refine va_get (D := D) (ci := 6) (v := .int (o8.2.1 13)) (C := RX6) (T := TX6) (N := 49) hx hb htg inX6 hown hK hP 0 rfl rfl 13 (by decide) (htg _ q_4_202) (fun _ h9 => h9) rfl dX6_fairest_41 ?_
      refine lv_iconst (v := (1 : Int32)) hx hb dX6_fairest_44 (by decide) ?_
      refine lv_iadd hx hb dX6_fairest_45 ?_
      exact B_46 _ _ _ _ _ _ _ _ _ _ _ hm hP hD hS (lv_sub hl [4, 2, 1, 0] rfl)
    · have hm := it_f c11 hm
      refine lv_iconst (v := (2 : Int32)) hx hb dX6_fairest_36 (by decide) ?_
      refine lv_goto (tgt := 46) hx hb dX6_fairest_37 (by decide) ?_
      exact B_46 _ _ _ _ _ _ _ _ _ _ _ hm hP hD hS (lv_sub hl [4, 2, 1, 0] rfl)
  · have hm := it_f c10 hm
    refine lv_iload_n hx hb dX6_fairest_14 rfl (lv_at hl 0 rfl) ?_
    rw [hQ]
    exact W.iret (v := o8.1) hx hb hr (fun t9 ht hW => ⟨⟨o8.1, (o8.2.1, o8.2.2.1, o8.2.2.2, t_heard), rfl, (Option.some.inj hm), by rw [ht]; exact hP, va_K.moved hW.alike hK, hD⟩, hS.F ht⟩) hS.2.2 dX6_fairest_15
def b_X6_finds_42 (fu : Nat) (t_L : Nat → Int64) (t_kind : Nat → Int32) (t_pitch : Nat → Int32) (k_7 : (Int32 × Int32 × Int32 × (Nat → Int32) × (Nat → Int32) × (Nat → Int32)) → Option (Int32 × ((Nat → Int32) × (Nat → Int32) × (Nat → Int32)))) (l1 : Int32) (l2 : Int32) (l3 : Int32) (s1 : Int32) (s2 : Int32) (t : Nat → Int32) (t_word : Nat → Int32) (t_heard : Nat → Int32) : Option (Int32 × ((Nat → Int32) × (Nat → Int32) × (Nat → Int32))) :=
  gd (inb s1 12) (
    gd (inb (1 : Int32) 12) (
    (m_X6_gets fu t t_L t_kind t_pitch (upd (upd t_word s1.toNatClampNeg s2) (1 : Int32).toNatClampNeg (l3 - l3 / (40 : Int32) * (40 : Int32))) t_heard l1).bind fun o4 =>
    (if o4.1 = 0 then
      k_7 (l1, l2, (l3 + (1 : Int32)), o4.2.1, (upd (upd t_word s1.toNatClampNeg s2) (1 : Int32).toNatClampNeg (l3 - l3 / (40 : Int32) * (40 : Int32))), o4.2.2)
    else
      some ((1 : Int32), ((upd o4.2.1 40 l2), (upd (upd t_word s1.toNatClampNeg s2) (1 : Int32).toNatClampNeg (l3 - l3 / (40 : Int32) * (40 : Int32))), o4.2.2)))))
def b_X6_finds_21 (fu : Nat) (t_L : Nat → Int64) (t_kind : Nat → Int32) (t_pitch : Nat → Int32) (k_7 : (Int32 × Int32 × Int32 × (Nat → Int32) × (Nat → Int32) × (Nat → Int32)) → Option (Int32 × ((Nat → Int32) × (Nat → Int32) × (Nat → Int32)))) (l1 : Int32) (l2 : Int32) (l3 : Int32) (s0 : Int32) (s1 : Int32) (t : Nat → Int32) (t_word : Nat → Int32) (t_heard : Nat → Int32) : Option (Int32 × ((Nat → Int32) × (Nat → Int32) × (Nat → Int32))) :=
  (if s1 ≤ s0 then
      some ((0 : Int32), (t, t_word, t_heard))
    else
      (if l2 = (1 : Int32) then
        b_X6_finds_42 fu t_L t_kind t_pitch k_7 l1 l2 l3 (0 : Int32) l3 t t_word t_heard
      else
        b_X6_finds_42 fu t_L t_kind t_pitch k_7 l1 l2 l3 (0 : Int32) (l3 / (40 : Int32)) t t_word t_heard))
def b_X6_finds_7 (fu : Nat) (t_L : Nat → Int64) (t_kind : Nat → Int32) (t_pitch : Nat → Int32) (k_7 : (Int32 × Int32 × Int32 × (Nat → Int32) × (Nat → Int32) × (Nat → Int32)) → Option (Int32 × ((Nat → Int32) × (Nat → Int32) × (Nat → Int32)))) (x : Int32 × Int32 × Int32 × (Nat → Int32) × (Nat → Int32) × (Nat → Int32)) : Option (Int32 × ((Nat → Int32) × (Nat → Int32) × (Nat → Int32))) :=
  (if x.2.1 = (1 : Int32) then
        b_X6_finds_21 fu t_L t_kind t_pitch k_7 x.1 x.2.1 x.2.2.1 x.2.2.1 (40 : Int32) x.2.2.2.1 x.2.2.2.2.1 x.2.2.2.2.2
      else
        b_X6_finds_21 fu t_L t_kind t_pitch k_7 x.1 x.2.1 x.2.2.1 x.2.2.1 (1600 : Int32) x.2.2.2.1 x.2.2.2.2.1 x.2.2.2.2.2)
def m_X6_finds (fu : Nat) (t : Nat → Int32) (t_L : Nat → Int64) (t_kind : Nat → Int32) (t_pitch : Nat → Int32) (t_word : Nat → Int32) (t_heard : Nat → Int32) (l1 : Int32) (l2 : Int32) : Option (Int32 × ((Nat → Int32) × (Nat → Int32) × (Nat → Int32))) :=
  lfix (b_X6_finds_7 fu t_L t_kind t_pitch) fu (l1, l2, (0 : Int32), (upd t 31 l2), t_word, t_heard)
abbrev rm_X6_finds : Room := ({ frames := 6, cells := 0, slots := 0, locals := 136 } : Room)
abbrev w0_X6_finds (cA : Nat → ClassId) (am : Nat → Nat) (tkv : Value) (ttv : Value) (t : Nat → Int32) (t_L : Nat → Int64) (t_kind : Nat → Int32) (t_pitch : Nat → Int32) (t_word : Nat → Int32) (t_heard : Nat → Int32) : va_W := [((am 0), e_X6 am tkv ttv t t_L), ((am 17), eI cA 8 t_kind), ((am 19), eI cA 8 t_pitch), ((am 21), eI cA 12 t_word), ((am 22), eI cA 13 t_heard)]
abbrev w1_X6_finds (cA : Nat → ClassId) (am : Nat → Nat) (tkv : Value) (ttv : Value) (t_L : Nat → Int64) (t_kind : Nat → Int32) (t_pitch : Nat → Int32) (u : (Nat → Int32) × (Nat → Int32) × (Nat → Int32)) : va_W := [((am 0), e_X6 am tkv ttv u.1 t_L), ((am 17), eI cA 8 t_kind), ((am 19), eI cA 8 t_pitch), ((am 21), eI cA 12 u.2.1), ((am 22), eI cA 13 u.2.2)]
theorem hd_X6_finds : yX6_finds.cls = RX6 ∧ yX6_finds.cls ≠ "java/lang/invoke/MethodHandle" ∧ yX6_finds.cls ≠ "java/lang/invoke/VarHandle" ∧ (parseMethodDescriptor yX6_finds.desc).map (fun d => d.parameters.length) = some 2 := by decide +kernel
set_option maxHeartbeats 40000000 in
set_option maxRecDepth 100000 in
theorem c_X6_finds (l : Launch) (D : va_G) (cA : Nat → ClassId) (sz : Nat) (fu : Nat) (am : Nat → Nat) (tkv : Value) (ttv : Value) (t : Nat → Int32) (t_L : Nat → Int64) (t_kind : Nat → Int32) (t_pitch : Nat → Int32) (t_word : Nat → Int32) (t_heard : Nat → Int32) (l1 : Int32) (l2 : Int32) (out : Int32 × ((Nat → Int32) × (Nat → Int32) × (Nat → Int32))) (hm : m_X6_finds fu t t_L t_kind t_pitch t_word t_heard l1 l2 = some out) : MI l yX6_finds (wU yX6_finds cX6_finds 4 ((Option.some Jvm.ClassFile.FieldType.boolean))) rm_X6_finds D cA sz [.ref (am 0), .int l1, .int l2] (w0_X6_finds cA am tkv ttv t t_L t_kind t_pitch t_word t_heard) out (w1_X6_finds cA am tkv ttv t_L t_kind t_pitch) := by
  refine Met.ofW (cc := cX6_finds) (maxL := 4) (ret := (Option.some Jvm.ClassFile.FieldType.boolean)) (by decide) rfl ?_
  intro p e s m args below meth c s₁ B hml hv
  obtain ⟨hargs, hsz, hP, hK, hD0, hN⟩ := hv
  have hx := B.exec
  have hb := B.bytes
  have hr := B.returns
  have htg : ∀ w ∈ gw, w.before args s = true := fun w h => atoms_spec (ws := wU yX6_finds cX6_finds 4 ((Option.some Jvm.ClassFile.FieldType.boolean))) B.pre w (List.mem_cons_of_mem _ h)
  have hown : s.vm.findClass RX6 = some m.cls := findClass_of_methodNamed B.named
  have hlocks := B.notSynchronized
  subst hsz
  have hD := hD0.self (sz := s.heap.size)
  have hA : ∀ q : Nat, s.heap.size ≤ q → va_A (w0_X6_finds cA am tkv ttv t t_L t_kind t_pitch t_word t_heard) s.heap.size q := fun q h => Or.inr h
  have hS : va_S (va_A (w0_X6_finds cA am tkv ttv t t_L t_kind t_pitch t_word t_heard) s.heap.size) s.heap s.heap [] := va_S.rf
  generalize va_A (w0_X6_finds cA am tkv ttv t t_L t_kind t_pitch t_word t_heard) s.heap.size = A at hA hD hS ⊢
  obtain ⟨Q, hQ⟩ : ∃ Q : State → Prop, Q = MQ below (va_Qi (fun (r : Int32) (u : (Nat → Int32) × (Nat → Int32) × (Nat → Int32)) => (r, u) = out) (pst0 D cA A (w1_X6_finds cA am tkv ttv t_L t_kind t_pitch)) A) args s 0 0 A := ⟨_, rfl⟩
  refine (?_ : W p l e rm_X6_finds s m args below meth c s.heap [] 0 0 (MQ below (va_Qi (fun (r : Int32) (u : (Nat → Int32) × (Nat → Int32) × (Nat → Int32)) => (r, u) = out) (pst0 D cA A (w1_X6_finds cA am tkv ttv t_L t_kind t_pitch)) A) args s 0 0 A) (entryFrame m args 4))
  rw [← hQ]
  have hP : va_P D CL [((am 0), e_X6 am tkv ttv t t_L), ((am 17), eI cA 8 t_kind), ((am 19), eI cA 8 t_pitch), ((am 21), eI cA 12 t_word), ((am 22), eI cA 13 t_heard)] s.heap := hP
  have hD : va_D A [((am 0), e_X6 am tkv ttv t t_L), ((am 17), eI cA 8 t_kind), ((am 19), eI cA 8 t_pitch), ((am 21), eI cA 12 t_word), ((am 22), eI cA 13 t_heard)] := hD
  have B_42 : ∀ (k_7 : (Int32 × Int32 × Int32 × (Nat → Int32) × (Nat → Int32) × (Nat → Int32)) → Option (Int32 × ((Nat → Int32) × (Nat → Int32) × (Nat → Int32)))) (HK_7 : ∀ (x : Int32 × Int32 × Int32 × (Nat → Int32) × (Nat → Int32) × (Nat → Int32)) (H : Heap) (locs : List Loc) (ls : Array Slot), k_7 x = some out → va_P D CL [((am 0), e_X6 am tkv ttv x.2.2.2.1 t_L), ((am 17), eI cA 8 t_kind), ((am 19), eI cA 8 t_pitch), ((am 21), eI cA 12 x.2.2.2.2.1), ((am 22), eI cA 13 x.2.2.2.2.2)] H → va_D A [((am 0), e_X6 am tkv ttv x.2.2.2.1 t_L), ((am 17), eI cA 8 t_kind), ((am 19), eI cA 8 t_pitch), ((am 21), eI cA 12 x.2.2.2.2.1), ((am 22), eI cA 13 x.2.2.2.2.2)] → va_S A s.heap H locs → lv_has ls 4 [(0, .ref (am 0)), (1, .int x.1), (2, .int x.2.1), (3, .int x.2.2.1)] → W p l e rm_X6_finds s m args below meth c H locs 0 0 Q (F0 m 7 ls [])) (l1 : Int32) (l2 : Int32) (l3 : Int32) (s1 : Int32) (s2 : Int32) (t : Nat → Int32) (t_word : Nat → Int32) (t_heard : Nat → Int32) (H : Heap) (locs : List Loc) (ls : Array Slot), b_X6_finds_42 fu t_L t_kind t_pitch k_7 l1 l2 l3 s1 s2 t t_word t_heard = some out → va_P D CL [((am 0), e_X6 am tkv ttv t t_L), ((am 17), eI cA 8 t_kind), ((am 19), eI cA 8 t_pitch), ((am 21), eI cA 12 t_word), ((am 22), eI cA 13 t_heard)] H → va_D A [((am 0), e_X6 am tkv ttv t t_L), ((am 17), eI cA 8 t_kind), ((am 19), eI cA 8 t_pitch), ((am 21), eI cA 12 t_word), ((am 22), eI cA 13 t_heard)] → va_S A s.heap H locs → lv_has ls 4 [(0, .ref (am 0)), (1, .int l1), (2, .int l2), (3, .int l3)] → W p l e rm_X6_finds s m args below meth c H locs 0 0 Q (F0 m 42 ls [.int s2, .int s1, .ref (am 21)]) := by
    intro k_7 HK_7 l1 l2 l3 s1 s2 t t_word t_heard H locs ls hm hP hD hS hl
    unfold b_X6_finds_42 at hm
    obtain ⟨hi1, hm⟩ := gd_s hm
    refine va_iast hx hb hK hP hD hS 3 0 rfl rfl hi1 dX6_finds_42 (fun H locs (hP : va_P D CL [((am 0), e_X6 am tkv ttv t t_L), ((am 17), eI cA 8 t_kind), ((am 19), eI cA 8 t_pitch), ((am 21), eI cA 12 (upd t_word s1.toNatClampNeg s2)), ((am 22), eI cA 13 t_heard)] H) (hD : va_D A [((am 0), e_X6 am tkv ttv t t_L), ((am 17), eI cA 8 t_kind), ((am 19), eI cA 8 t_pitch), ((am 21), eI cA 12 (upd t_word s1.toNatClampNeg s2)), ((am 22), eI cA 13 t_heard)]) hS => ?_)
    refine lv_aload_n hx hb dX6_finds_43 rfl (lv_at hl 0 rfl) ?_
    refine va_get (D := D) (ci := 6) (v := .ref (am 21)) (C := RX6) (T := TX6) (N := 49) hx hb htg inX6 hown hK hP 0 rfl rfl 30 (by decide) (htg _ q_4_219) (fun _ h9 => h9) rfl dX6_finds_44 ?_
    refine lv_iconst (v := (1 : Int32)) hx hb dX6_finds_47 (by decide) ?_
    refine lv_iload_n hx hb dX6_finds_48 rfl (lv_at hl 3 rfl) ?_
    refine lv_bipush (v := (40 : Int32)) hx hb dX6_finds_49 (by decide) ?_
    refine lv_irem hx hb dX6_finds_51 (by decide) ?_
    obtain ⟨hi3, hm⟩ := gd_s hm
    refine va_iast hx hb hK hP hD hS 3 0 rfl rfl hi3 dX6_finds_52 (fun H locs (hP : va_P D CL [((am 0), e_X6 am tkv ttv t t_L), ((am 17), eI cA 8 t_kind), ((am 19), eI cA 8 t_pitch), ((am 21), eI cA 12 (upd (upd t_word s1.toNatClampNeg s2) (1 : Int32).toNatClampNeg (l3 - l3 / (40 : Int32) * (40 : Int32)))), ((am 22), eI cA 13 t_heard)] H) (hD : va_D A [((am 0), e_X6 am tkv ttv t t_L), ((am 17), eI cA 8 t_kind), ((am 19), eI cA 8 t_pitch), ((am 21), eI cA 12 (upd (upd t_word s1.toNatClampNeg s2) (1 : Int32).toNatClampNeg (l3 - l3 / (40 : Int32) * (40 : Int32)))), ((am 22), eI cA 13 t_heard)]) hS => ?_)
    refine lv_aload_n hx hb dX6_finds_53 rfl (lv_at hl 0 rfl) ?_
    refine lv_iload_n hx hb dX6_finds_54 rfl (lv_at hl 1 rfl) ?_
    obtain ⟨o4, ho5, hm⟩ := bd_s hm
    refine xr_i (wr := []) (wn := [((am 0), e_X6 am tkv ttv o4.2.1 t_L), ((am 17), eI cA 8 t_kind), ((am 19), eI cA 8 t_pitch), ((am 21), eI cA 12 (upd (upd t_word s1.toNatClampNeg s2) (1 : Int32).toNatClampNeg (l3 - l3 / (40 : Int32) * (40 : Int32)))), ((am 22), eI cA 13 o4.2.2)]) (va_runV (As := [.int l1]) (rest := []) ⟨hx, hb, hml, hown, htg⟩ (c_X6_gets l D cA _ fu am tkv ttv t t_L t_kind t_pitch (upd (upd t_word s1.toNatClampNeg s2) (1 : Int32).toNatClampNeg (l3 - l3 / (40 : Int32) * (40 : Int32))) t_heard l1 o4 ho5) (cwV 1 htg (gV q_6_77 q_6_79 q_p6_12 q_1_8 q_6_80) rfl rfl rfl hd_X6_gets ⟨Nat.le_of_ble_eq_true rfl, Nat.le_of_ble_eq_true rfl⟩) (xpV hN hK hP hD [0, 1, 2, 3, 4] rfl (by decide) rfl rfl) rfl rfl hl.1 rfl (lv_room (Nat.le_of_ble_eq_true rfl)) dX6_finds_55 ⟨Nat.zero_le _, Nat.zero_le _⟩) hP hD hS hA [0, 1, 2, 3, 4] [] [0, 1, 2, 3, 4] rfl rfl (by decide) (by decide) rfl (by decide) (fun H locs hP hD hS => ?_)
    refine lv_if_eq (tgt := 68) hx hb dX6_finds_58 (by decide) (fun c6 => ?_) (fun c6 => ?_)
    · have hm := it_t c6 hm
      refine lv_iinc (v := (l3 + (1 : Int32))) (lv' := [(3, .int (l3 + (1 : Int32))), (0, .ref (am 0)), (1, .int l1), (2, .int l2)]) hx hb dX6_finds_68 hl (k := 3) rfl rfl (by decide) rfl (fun ls hl => ?_)
      refine lv_goto (tgt := 7) hx hb dX6_finds_71 (by decide) ?_
      exact HK_7 _ _ _ _ hm hP hD hS (lv_sub hl [1, 2, 3, 0] rfl)
    · have hm := it_f c6 hm
      refine lv_aload_n hx hb dX6_finds_61 rfl (lv_at hl 0 rfl) ?_
      refine lv_iload_n hx hb dX6_finds_62 rfl (lv_at hl 2 rfl) ?_
      refine va_put (D := D) (ci := 6) (v := .int l2) (ty := .int) (C := RX6) (T := TX6) (N := 49) hx hb htg inX6 tyX6 tyX6_ok nmX6 hown hK hP hD hS 0 rfl rfl 40 (by decide) (htg _ q_4_229) (fun _ h9 => h9) rfl (by decide +kernel) rfl rfl (Nat.le_of_ble_eq_true rfl) dX6_finds_63 (fun H locs (hP : va_P D CL [((am 0), e_X6 am tkv ttv (upd o4.2.1 40 l2) t_L), ((am 17), eI cA 8 t_kind), ((am 19), eI cA 8 t_pitch), ((am 21), eI cA 12 (upd (upd t_word s1.toNatClampNeg s2) (1 : Int32).toNatClampNeg (l3 - l3 / (40 : Int32) * (40 : Int32)))), ((am 22), eI cA 13 o4.2.2)] H) (hD : va_D A [((am 0), e_X6 am tkv ttv (upd o4.2.1 40 l2) t_L), ((am 17), eI cA 8 t_kind), ((am 19), eI cA 8 t_pitch), ((am 21), eI cA 12 (upd (upd t_word s1.toNatClampNeg s2) (1 : Int32).toNatClampNeg (l3 - l3 / (40 : Int32) * (40 : Int32)))), ((am 22), eI cA 13 o4.2.2)]) hS => ?_)
      refine lv_iconst (v := (1 : Int32)) hx hb dX6_finds_66 (by decide) ?_
      rw [hQ]
      exact W.zret (v := (1 : Int32)) hx hb hr rfl (fun t9 ht hW => ⟨⟨(1 : Int32), ((upd o4.2.1 40 l2), (upd (upd t_word s1.toNatClampNeg s2) (1 : Int32).toNatClampNeg (l3 - l3 / (40 : Int32) * (40 : Int32))), o4.2.2), rfl, (Option.some.inj hm), by rw [ht]; exact hP, va_K.moved hW.alike hK, hD⟩, hS.F ht⟩) hS.2.2 dX6_finds_67
  have B_21 : ∀ (k_7 : (Int32 × Int32 × Int32 × (Nat → Int32) × (Nat → Int32) × (Nat → Int32)) → Option (Int32 × ((Nat → Int32) × (Nat → Int32) × (Nat → Int32)))) (HK_7 : ∀ (x : Int32 × Int32 × Int32 × (Nat → Int32) × (Nat → Int32) × (Nat → Int32)) (H : Heap) (locs : List Loc) (ls : Array Slot), k_7 x = some out → va_P D CL [((am 0), e_X6 am tkv ttv x.2.2.2.1 t_L), ((am 17), eI cA 8 t_kind), ((am 19), eI cA 8 t_pitch), ((am 21), eI cA 12 x.2.2.2.2.1), ((am 22), eI cA 13 x.2.2.2.2.2)] H → va_D A [((am 0), e_X6 am tkv ttv x.2.2.2.1 t_L), ((am 17), eI cA 8 t_kind), ((am 19), eI cA 8 t_pitch), ((am 21), eI cA 12 x.2.2.2.2.1), ((am 22), eI cA 13 x.2.2.2.2.2)] → va_S A s.heap H locs → lv_has ls 4 [(0, .ref (am 0)), (1, .int x.1), (2, .int x.2.1), (3, .int x.2.2.1)] → W p l e rm_X6_finds s m args below meth c H locs 0 0 Q (F0 m 7 ls [])) (l1 : Int32) (l2 : Int32) (l3 : Int32) (s0 : Int32) (s1 : Int32) (t : Nat → Int32) (t_word : Nat → Int32) (t_heard : Nat → Int32) (H : Heap) (locs : List Loc) (ls : Array Slot), b_X6_finds_21 fu t_L t_kind t_pitch k_7 l1 l2 l3 s0 s1 t t_word t_heard = some out → va_P D CL [((am 0), e_X6 am tkv ttv t t_L), ((am 17), eI cA 8 t_kind), ((am 19), eI cA 8 t_pitch), ((am 21), eI cA 12 t_word), ((am 22), eI cA 13 t_heard)] H → va_D A [((am 0), e_X6 am tkv ttv t t_L), ((am 17), eI cA 8 t_kind), ((am 19), eI cA 8 t_pitch), ((am 21), eI cA 12 t_word), ((am 22), eI cA 13 t_heard)] → va_S A s.heap H locs → lv_has ls 4 [(0, .ref (am 0)), (1, .int l1), (2, .int l2), (3, .int l3)] → W p l e rm_X6_finds s m args below meth c H locs 0 0 Q (F0 m 21 ls [.int s1, .int s0]) := by
    intro k_7 HK_7 l1 l2 l3 s0 s1 t t_word t_heard H locs ls hm hP hD hS hl
    unfold b_X6_finds_21 at hm
    refine lv_icmp_ge (tgt := 74) hx hb dX6_finds_21 (by decide) (fun c7 => ?_) (fun c7 => ?_)
    · have hm := it_t c7 hm
      refine lv_iconst (v := (0 : Int32)) hx hb dX6_finds_74 (by decide) ?_
      rw [hQ]
      exact W.zret (v := (0 : Int32)) hx hb hr rfl (fun t9 ht hW => ⟨⟨(0 : Int32), (t, t_word, t_heard), rfl, (Option.some.inj hm), by rw [ht]; exact hP, va_K.moved hW.alike hK, hD⟩, hS.F ht⟩) hS.2.2 dX6_finds_75
    · have hm := it_f c7 hm
      refine lv_aload_n hx hb dX6_finds_24 rfl (lv_at hl 0 rfl) ?_
      refine va_get (D := D) (ci := 6) (v := .ref (am 21)) (C := RX6) (T := TX6) (N := 49) hx hb htg inX6 hown hK hP 0 rfl rfl 30 (by decide) (htg _ q_4_219) (fun _ h9 => h9) rfl dX6_finds_25 ?_
      refine lv_iconst (v := (0 : Int32)) hx hb dX6_finds_28 (by decide) ?_
      refine lv_iload_n hx hb dX6_finds_29 rfl (lv_at hl 2 rfl) ?_
      refine lv_iconst (v := (1 : Int32)) hx hb dX6_finds_30 (by decide) ?_
      refine lv_icmp_ne (tgt := 38) hx hb dX6_finds_31 (by decide) (fun c8 => ?_) (fun c8 => ?_)
      · have hm := it_f c8 hm
        refine lv_iload_n hx hb dX6_finds_38 rfl (lv_at hl 3 rfl) ?_
        refine lv_bipush (v := (40 : Int32)) hx hb dX6_finds_39 (by decide) ?_
        refine lv_idiv hx hb dX6_finds_41 (by decide) ?_
        exact B_42 _ HK_7 _ _ _ _ _ _ _ _ _ _ _ hm hP hD hS (lv_sub hl [0, 1, 2, 3] rfl)
      · have hm := it_t c8 hm
        refine lv_iload_n hx hb dX6_finds_34 rfl (lv_at hl 3 rfl) ?_
        refine lv_goto (tgt := 42) hx hb dX6_finds_35 (by decide) ?_
        exact B_42 _ HK_7 _ _ _ _ _ _ _ _ _ _ _ hm hP hD hS (lv_sub hl [0, 1, 2, 3] rfl)
  have B_7 : ∀ (n : Nat) (x : Int32 × Int32 × Int32 × (Nat → Int32) × (Nat → Int32) × (Nat → Int32)) (H : Heap) (locs : List Loc) (ls : Array Slot), lfix (b_X6_finds_7 fu t_L t_kind t_pitch) n x = some out → va_P D CL [((am 0), e_X6 am tkv ttv x.2.2.2.1 t_L), ((am 17), eI cA 8 t_kind), ((am 19), eI cA 8 t_pitch), ((am 21), eI cA 12 x.2.2.2.2.1), ((am 22), eI cA 13 x.2.2.2.2.2)] H → va_D A [((am 0), e_X6 am tkv ttv x.2.2.2.1 t_L), ((am 17), eI cA 8 t_kind), ((am 19), eI cA 8 t_pitch), ((am 21), eI cA 12 x.2.2.2.2.1), ((am 22), eI cA 13 x.2.2.2.2.2)] → va_S A s.heap H locs → lv_has ls 4 [(0, .ref (am 0)), (1, .int x.1), (2, .int x.2.1), (3, .int x.2.2.1)] → W p l e rm_X6_finds s m args below meth c H locs 0 0 Q (F0 m 7 ls []) := by
    intro  n
    induction n with
    | zero => intro x H locs ls hm; cases (show none = some out from hm)
    | succ n HK_7 =>
      intro x H locs ls hm hP hD hS hl
      replace hm : b_X6_finds_7 fu t_L t_kind t_pitch (lfix (b_X6_finds_7 fu t_L t_kind t_pitch) n) x = some out := hm
      unfold b_X6_finds_7 at hm
      refine lv_iload_n hx hb dX6_finds_7 rfl (lv_at hl 3 rfl) ?_
      refine lv_iload_n hx hb dX6_finds_8 rfl (lv_at hl 2 rfl) ?_
      refine lv_iconst (v := (1 : Int32)) hx hb dX6_finds_9 (by decide) ?_
      refine lv_icmp_ne (tgt := 18) hx hb dX6_finds_10 (by decide) (fun c10 => ?_) (fun c10 => ?_)
      · have hm := it_f c10 hm
        refine lv_sipush (v := (1600 : Int32)) hx hb dX6_finds_18 (by decide) ?_
        exact B_21 _ HK_7 _ _ _ _ _ _ _ _ _ _ _ hm hP hD hS (lv_sub hl [0, 1, 2, 3] rfl)
      · have hm := it_t c10 hm
        refine lv_bipush (v := (40 : Int32)) hx hb dX6_finds_13 (by decide) ?_
        refine lv_goto (tgt := 21) hx hb dX6_finds_15 (by decide) ?_
        exact B_21 _ HK_7 _ _ _ _ _ _ _ _ _ _ _ hm hP hD hS (lv_sub hl [0, 1, 2, 3] rfl)
  unfold m_X6_finds at hm
  subst hargs
  have hl := lv_entry ([.ref (am 0), .int l1, .int l2]) (n := 4) (Nat.le_of_ble_eq_true rfl)
  rw [lg_entry_eq]
  generalize (lg_sl ([.ref (am 0), .int l1, .int l2]) ++ List.replicate (4 - (lg_sl ([.ref (am 0), .int l1, .int l2])).length) Slot.unset).toArray = ls at hl ⊢
  have hl : lv_has ls 4 [(0, .ref (am 0)), (1, .int l1), (2, .int l2)] := hl
  refine lv_aload_n hx hb dX6_finds_0 rfl (lv_at hl 0 rfl) ?_
  refine lv_iload_n hx hb dX6_finds_1 rfl (lv_at hl 2 rfl) ?_
  refine va_put (D := D) (ci := 6) (v := .int l2) (ty := .int) (C := RX6) (T := TX6) (N := 49) hx hb htg inX6 tyX6 tyX6_ok nmX6 hown hK hP hD hS 0 rfl rfl 31 (by decide) (htg _ q_4_220) (fun _ h9 => h9) rfl (by decide +kernel) rfl rfl (Nat.le_of_ble_eq_true rfl) dX6_finds_2 (fun H locs (hP : va_P D CL [((am 0), e_X6 am tkv ttv (upd t 31 l2) t_L), ((am 17), eI cA 8 t_kind), ((am 19), eI cA 8 t_pitch), ((am 21), eI cA 12 t_word), ((am 22), eI cA 13 t_heard)] H) (hD : va_D A [((am 0), e_X6 am tkv ttv (upd t 31 l2) t_L), ((am 17), eI cA 8 t_kind), ((am 19), eI cA 8 t_pitch), ((am 21), eI cA 12 t_word), ((am 22), eI cA 13 t_heard)]) hS => ?_)
  refine lv_iconst (v := (0 : Int32)) hx hb dX6_finds_5 (by decide) ?_
  refine lv_istore_n (lv' := [(3, .int (0 : Int32)), (0, .ref (am 0)), (1, .int l1), (2, .int l2)]) hx hb dX6_finds_6 rfl hl (by decide) rfl (fun ls hl => ?_)
  exact B_7 fu _ _ _ _ hm hP hD hS (lv_sub hl [1, 2, 3, 0] rfl)
def b_X6_ask_13 (fu : Nat) (t_L : Nat → Int64) (t_kind : Nat → Int32) (t_pitch : Nat → Int32) (t : Nat → Int32) (t_refused : Nat → Int32) (t_word : Nat → Int32) (t_heard : Nat → Int32) : Option (Int32 × ((Nat → Int32) × (Nat → Int32) × (Nat → Int32) × (Nat → Int32))) :=
  (m_X6_refuse fu t t_L t_refused (-2 : Int32)).bind fun o1 =>
    some (o1.1, (t, o1.2, t_word, t_heard))
def b_X6_ask_90 (fu : Nat) (t_L : Nat → Int64) (t_kind : Nat → Int32) (t_pitch : Nat → Int32) (s0 : Int32) (t : Nat → Int32) (t_refused : Nat → Int32) (t_word : Nat → Int32) (t_heard : Nat → Int32) : Option (Int32 × ((Nat → Int32) × (Nat → Int32) × (Nat → Int32) × (Nat → Int32))) :=
  some (s0, (t, t_refused, t_word, t_heard))
def b_X6_ask_66 (fu : Nat) (t_L : Nat → Int64) (t_kind : Nat → Int32) (t_pitch : Nat → Int32) (s0 : Int32) (t : Nat → Int32) (t_refused : Nat → Int32) (t_word : Nat → Int32) (t_heard : Nat → Int32) : Option (Int32 × ((Nat → Int32) × (Nat → Int32) × (Nat → Int32) × (Nat → Int32))) :=
  some (s0, (t, t_refused, t_word, t_heard))
def b_X6_ask_48 (fu : Nat) (t_L : Nat → Int64) (t_kind : Nat → Int32) (t_pitch : Nat → Int32) (l2 : Int32) (s0 : Int32) (t : Nat → Int32) (t_refused : Nat → Int32) (t_word : Nat → Int32) (t_heard : Nat → Int32) : Option (Int32 × ((Nat → Int32) × (Nat → Int32) × (Nat → Int32) × (Nat → Int32))) :=
  (if l2 = (-1 : Int32) then
      (if s0 = 0 then
        b_X6_ask_66 fu t_L t_kind t_pitch (-1 : Int32) t t_refused t_word t_heard
      else
        b_X6_ask_66 fu t_L t_kind t_pitch (t 40) t t_refused t_word t_heard)
    else
      (if t 40 ≤ l2 then
        (m_X6_refuse fu t t_L t_refused (-5 : Int32)).bind fun o5 =>
        b_X6_ask_90 fu t_L t_kind t_pitch o5.1 t o5.2 t_word t_heard
      else
        gd (inb l2 12) (
        b_X6_ask_90 fu t_L t_kind t_pitch (t_word l2.toNatClampNeg) t t_refused t_word t_heard)))
def b_X6_ask_43 (fu : Nat) (t_L : Nat → Int64) (t_kind : Nat → Int32) (t_pitch : Nat → Int32) (l2 : Int32) (t : Nat → Int32) (t_refused : Nat → Int32) (t_word : Nat → Int32) (t_heard : Nat → Int32) : Option (Int32 × ((Nat → Int32) × (Nat → Int32) × (Nat → Int32) × (Nat → Int32))) :=
  b_X6_ask_48 fu t_L t_kind t_pitch l2 (1 : Int32) t t_refused t_word t_heard
def m_X6_ask (fu : Nat) (t : Nat → Int32) (t_L : Nat → Int64) (t_refused : Nat → Int32) (t_kind : Nat → Int32) (t_pitch : Nat → Int32) (t_word : Nat → Int32) (t_heard : Nat → Int32) (l1 : Int32) (l2 : Int32) : Option (Int32 × ((Nat → Int32) × (Nat → Int32) × (Nat → Int32) × (Nat → Int32))) :=
  (m_X6_isVoice fu t t_L l1).bind fun o9 =>
  (if o9.1 = 0 then
    b_X6_ask_13 fu t_L t_kind t_pitch t t_refused t_word t_heard
  else
    (if (-1 : Int32) ≤ l2 then
      (m_X6_finds fu (upd t 40 (-1 : Int32)) t_L t_kind t_pitch t_word t_heard l1 (1 : Int32)).bind fun o13 =>
      (if o13.1 = 0 then
        (m_X6_finds fu o13.2.1 t_L t_kind t_pitch o13.2.2.1 o13.2.2.2 l1 (2 : Int32)).bind fun o16 =>
        (if o16.1 = 0 then
          b_X6_ask_48 fu t_L t_kind t_pitch l2 (0 : Int32) o16.2.1 t_refused o16.2.2.1 o16.2.2.2
        else
          b_X6_ask_43 fu t_L t_kind t_pitch l2 o16.2.1 t_refused o16.2.2.1 o16.2.2.2)
      else
        b_X6_ask_43 fu t_L t_kind t_pitch l2 o13.2.1 t_refused o13.2.2.1 o13.2.2.2)
    else
      b_X6_ask_13 fu t_L t_kind t_pitch t t_refused t_word t_heard))
abbrev rm_X6_ask : Room := ({ frames := 7, cells := 0, slots := 0, locals := 159 } : Room)
abbrev w0_X6_ask (cA : Nat → ClassId) (am : Nat → Nat) (tkv : Value) (ttv : Value) (t : Nat → Int32) (t_L : Nat → Int64) (t_refused : Nat → Int32) (t_kind : Nat → Int32) (t_pitch : Nat → Int32) (t_word : Nat → Int32) (t_heard : Nat → Int32) : va_W := [((am 0), e_X6 am tkv ttv t t_L), ((am 16), eI cA 8 t_refused), ((am 17), eI cA 8 t_kind), ((am 19), eI cA 8 t_pitch), ((am 21), eI cA 12 t_word), ((am 22), eI cA 13 t_heard)]
abbrev w1_X6_ask (cA : Nat → ClassId) (am : Nat → Nat) (tkv : Value) (ttv : Value) (t_L : Nat → Int64) (t_kind : Nat → Int32) (t_pitch : Nat → Int32) (u : (Nat → Int32) × (Nat → Int32) × (Nat → Int32) × (Nat → Int32)) : va_W := [((am 0), e_X6 am tkv ttv u.1 t_L), ((am 16), eI cA 8 u.2.1), ((am 17), eI cA 8 t_kind), ((am 19), eI cA 8 t_pitch), ((am 21), eI cA 12 u.2.2.1), ((am 22), eI cA 13 u.2.2.2)]
theorem hd_X6_ask : yX6_ask.cls = RX6 ∧ yX6_ask.cls ≠ "java/lang/invoke/MethodHandle" ∧ yX6_ask.cls ≠ "java/lang/invoke/VarHandle" ∧ (parseMethodDescriptor yX6_ask.desc).map (fun d => d.parameters.length) = some 2 := by decide +kernel
set_option maxHeartbeats 40000000 in
set_option maxRecDepth 100000 in
theorem c_X6_ask (l : Launch) (D : va_G) (cA : Nat → ClassId) (sz : Nat) (fu : Nat) (am : Nat → Nat) (tkv : Value) (ttv : Value) (t : Nat → Int32) (t_L : Nat → Int64) (t_refused : Nat → Int32) (t_kind : Nat → Int32) (t_pitch : Nat → Int32) (t_word : Nat → Int32) (t_heard : Nat → Int32) (l1 : Int32) (l2 : Int32) (out : Int32 × ((Nat → Int32) × (Nat → Int32) × (Nat → Int32) × (Nat → Int32))) (hm : m_X6_ask fu t t_L t_refused t_kind t_pitch t_word t_heard l1 l2 = some out) : MI l yX6_ask (wU yX6_ask cX6_ask 4 ((Option.some Jvm.ClassFile.FieldType.int))) rm_X6_ask D cA sz [.ref (am 0), .int l1, .int l2] (w0_X6_ask cA am tkv ttv t t_L t_refused t_kind t_pitch t_word t_heard) out (w1_X6_ask cA am tkv ttv t_L t_kind t_pitch) := by
  refine Met.ofW (cc := cX6_ask) (maxL := 4) (ret := (Option.some Jvm.ClassFile.FieldType.int)) (by decide) rfl ?_
  intro p e s m args below meth c s₁ B hml hv
  obtain ⟨hargs, hsz, hP, hK, hD0, hN⟩ := hv
  have hx := B.exec
  have hb := B.bytes
  have hr := B.returns
  have htg : ∀ w ∈ gw, w.before args s = true := fun w h => atoms_spec (ws := wU yX6_ask cX6_ask 4 ((Option.some Jvm.ClassFile.FieldType.int))) B.pre w (List.mem_cons_of_mem _ h)
  have hown : s.vm.findClass RX6 = some m.cls := findClass_of_methodNamed B.named
  have hlocks := B.notSynchronized
  subst hsz
  have hD := hD0.self (sz := s.heap.size)
  have hA : ∀ q : Nat, s.heap.size ≤ q → va_A (w0_X6_ask cA am tkv ttv t t_L t_refused t_kind t_pitch t_word t_heard) s.heap.size q := fun q h => Or.inr h
  have hS : va_S (va_A (w0_X6_ask cA am tkv ttv t t_L t_refused t_kind t_pitch t_word t_heard) s.heap.size) s.heap s.heap [] := va_S.rf
  generalize va_A (w0_X6_ask cA am tkv ttv t t_L t_refused t_kind t_pitch t_word t_heard) s.heap.size = A at hA hD hS ⊢
  obtain ⟨Q, hQ⟩ : ∃ Q : State → Prop, Q = MQ below (va_Qi (fun (r : Int32) (u : (Nat → Int32) × (Nat → Int32) × (Nat → Int32) × (Nat → Int32)) => (r, u) = out) (pst0 D cA A (w1_X6_ask cA am tkv ttv t_L t_kind t_pitch)) A) args s 0 0 A := ⟨_, rfl⟩
  refine (?_ : W p l e rm_X6_ask s m args below meth c s.heap [] 0 0 (MQ below (va_Qi (fun (r : Int32) (u : (Nat → Int32) × (Nat → Int32) × (Nat → Int32) × (Nat → Int32)) => (r, u) = out) (pst0 D cA A (w1_X6_ask cA am tkv ttv t_L t_kind t_pitch)) A) args s 0 0 A) (entryFrame m args 4))
  rw [← hQ]
  have hP : va_P D CL [((am 0), e_X6 am tkv ttv t t_L), ((am 16), eI cA 8 t_refused), ((am 17), eI cA 8 t_kind), ((am 19), eI cA 8 t_pitch), ((am 21), eI cA 12 t_word), ((am 22), eI cA 13 t_heard)] s.heap := hP
  have hD : va_D A [((am 0), e_X6 am tkv ttv t t_L), ((am 16), eI cA 8 t_refused), ((am 17), eI cA 8 t_kind), ((am 19), eI cA 8 t_pitch), ((am 21), eI cA 12 t_word), ((am 22), eI cA 13 t_heard)] := hD
  have B_13 : ∀ (t : Nat → Int32) (t_refused : Nat → Int32) (t_word : Nat → Int32) (t_heard : Nat → Int32) (H : Heap) (locs : List Loc) (ls : Array Slot), b_X6_ask_13 fu t_L t_kind t_pitch t t_refused t_word t_heard = some out → va_P D CL [((am 0), e_X6 am tkv ttv t t_L), ((am 16), eI cA 8 t_refused), ((am 17), eI cA 8 t_kind), ((am 19), eI cA 8 t_pitch), ((am 21), eI cA 12 t_word), ((am 22), eI cA 13 t_heard)] H → va_D A [((am 0), e_X6 am tkv ttv t t_L), ((am 16), eI cA 8 t_refused), ((am 17), eI cA 8 t_kind), ((am 19), eI cA 8 t_pitch), ((am 21), eI cA 12 t_word), ((am 22), eI cA 13 t_heard)] → va_S A s.heap H locs → lv_has ls 4 [(0, .ref (am 0))] → W p l e rm_X6_ask s m args below meth c H locs 0 0 Q (F0 m 13 ls []) := by
    intro  t t_refused t_word t_heard H locs ls hm hP hD hS hl
    unfold b_X6_ask_13 at hm
    refine lv_aload_n hx hb dX6_ask_13 rfl (lv_at hl 0 rfl) ?_
    refine lv_bipush (v := (-2 : Int32)) hx hb dX6_ask_14 (by decide) ?_
    obtain ⟨o1, ho2, hm⟩ := bd_s hm
    refine xr_i (wr := [((am 17), eI cA 8 t_kind), ((am 19), eI cA 8 t_pitch), ((am 21), eI cA 12 t_word), ((am 22), eI cA 13 t_heard)]) (wn := [((am 0), e_X6 am tkv ttv t t_L), ((am 16), eI cA 8 o1.2), ((am 17), eI cA 8 t_kind), ((am 19), eI cA 8 t_pitch), ((am 21), eI cA 12 t_word), ((am 22), eI cA 13 t_heard)]) (va_runV (As := [.int (-2 : Int32)]) (rest := []) ⟨hx, hb, hml, hown, htg⟩ (c_X6_refuse l D cA _ fu am tkv ttv t t_L t_refused (-2 : Int32) o1 ho2) (cwV 1 htg (gV q_5_108 q_5_110 q_p5_7 q_1_8 q_5_111) rfl rfl rfl hd_X6_refuse ⟨Nat.le_of_ble_eq_true rfl, Nat.le_of_ble_eq_true rfl⟩) (xpV hN hK hP hD [0, 1] rfl (by decide) rfl rfl) rfl rfl hl.1 rfl (lv_room (Nat.le_of_ble_eq_true rfl)) dX6_ask_16 ⟨Nat.zero_le _, Nat.zero_le _⟩) hP hD hS hA [0, 1] [2, 3, 4, 5] [4, 5, 0, 1, 2, 3] rfl rfl (by decide) (by decide) rfl (by decide) (fun H locs hP hD hS => ?_)
    rw [hQ]
    exact W.iret (v := o1.1) hx hb hr (fun t9 ht hW => ⟨⟨o1.1, (t, o1.2, t_word, t_heard), rfl, (Option.some.inj hm), by rw [ht]; exact hP, va_K.moved hW.alike hK, hD⟩, hS.F ht⟩) hS.2.2 dX6_ask_19
  have B_90 : ∀ (s0 : Int32) (t : Nat → Int32) (t_refused : Nat → Int32) (t_word : Nat → Int32) (t_heard : Nat → Int32) (H : Heap) (locs : List Loc) (ls : Array Slot), b_X6_ask_90 fu t_L t_kind t_pitch s0 t t_refused t_word t_heard = some out → va_P D CL [((am 0), e_X6 am tkv ttv t t_L), ((am 16), eI cA 8 t_refused), ((am 17), eI cA 8 t_kind), ((am 19), eI cA 8 t_pitch), ((am 21), eI cA 12 t_word), ((am 22), eI cA 13 t_heard)] H → va_D A [((am 0), e_X6 am tkv ttv t t_L), ((am 16), eI cA 8 t_refused), ((am 17), eI cA 8 t_kind), ((am 19), eI cA 8 t_pitch), ((am 21), eI cA 12 t_word), ((am 22), eI cA 13 t_heard)] → va_S A s.heap H locs → lv_has ls 4 [(0, .ref (am 0))] → W p l e rm_X6_ask s m args below meth c H locs 0 0 Q (F0 m 90 ls [.int s0]) := by
    intro  s0 t t_refused t_word t_heard H locs ls hm hP hD hS hl
    unfold b_X6_ask_90 at hm
    rw [hQ]
    exact W.iret (v := s0) hx hb hr (fun t9 ht hW => ⟨⟨s0, (t, t_refused, t_word, t_heard), rfl, (Option.some.inj hm), by rw [ht]; exact hP, va_K.moved hW.alike hK, hD⟩, hS.F ht⟩) hS.2.2 dX6_ask_90
  have B_66 : ∀ (s0 : Int32) (t : Nat → Int32) (t_refused : Nat → Int32) (t_word : Nat → Int32) (t_heard : Nat → Int32) (H : Heap) (locs : List Loc) (ls : Array Slot), b_X6_ask_66 fu t_L t_kind t_pitch s0 t t_refused t_word t_heard = some out → va_P D CL [((am 0), e_X6 am tkv ttv t t_L), ((am 16), eI cA 8 t_refused), ((am 17), eI cA 8 t_kind), ((am 19), eI cA 8 t_pitch), ((am 21), eI cA 12 t_word), ((am 22), eI cA 13 t_heard)] H → va_D A [((am 0), e_X6 am tkv ttv t t_L), ((am 16), eI cA 8 t_refused), ((am 17), eI cA 8 t_kind), ((am 19), eI cA 8 t_pitch), ((am 21), eI cA 12 t_word), ((am 22), eI cA 13 t_heard)] → va_S A s.heap H locs → lv_has ls 4 [(0, .ref (am 0))] → W p l e rm_X6_ask s m args below meth c H locs 0 0 Q (F0 m 66 ls [.int s0]) := by
    intro  s0 t t_refused t_word t_heard H locs ls hm hP hD hS hl
    unfold b_X6_ask_66 at hm
    rw [hQ]
    exact W.iret (v := s0) hx hb hr (fun t9 ht hW => ⟨⟨s0, (t, t_refused, t_word, t_heard), rfl, (Option.some.inj hm), by rw [ht]; exact hP, va_K.moved hW.alike hK, hD⟩, hS.F ht⟩) hS.2.2 dX6_ask_66
  have B_48 : ∀ (l2 : Int32) (s0 : Int32) (t : Nat → Int32) (t_refused : Nat → Int32) (t_word : Nat → Int32) (t_heard : Nat → Int32) (H : Heap) (locs : List Loc) (ls : Array Slot), b_X6_ask_48 fu t_L t_kind t_pitch l2 s0 t t_refused t_word t_heard = some out → va_P D CL [((am 0), e_X6 am tkv ttv t t_L), ((am 16), eI cA 8 t_refused), ((am 17), eI cA 8 t_kind), ((am 19), eI cA 8 t_pitch), ((am 21), eI cA 12 t_word), ((am 22), eI cA 13 t_heard)] H → va_D A [((am 0), e_X6 am tkv ttv t t_L), ((am 16), eI cA 8 t_refused), ((am 17), eI cA 8 t_kind), ((am 19), eI cA 8 t_pitch), ((am 21), eI cA 12 t_word), ((am 22), eI cA 13 t_heard)] → va_S A s.heap H locs → lv_has ls 4 [(0, .ref (am 0)), (2, .int l2)] → W p l e rm_X6_ask s m args below meth c H locs 0 0 Q (F0 m 48 ls [.int s0]) := by
    intro  l2 s0 t t_refused t_word t_heard H locs ls hm hP hD hS hl
    unfold b_X6_ask_48 at hm
    refine lv_istore_n (lv' := [(3, .int s0), (0, .ref (am 0)), (2, .int l2)]) hx hb dX6_ask_48 rfl hl (by decide) rfl (fun ls hl => ?_)
    refine lv_iload_n hx hb dX6_ask_49 rfl (lv_at hl 2 rfl) ?_
    refine lv_iconst (v := (-1 : Int32)) hx hb dX6_ask_50 (by decide) ?_
    refine lv_icmp_ne (tgt := 67) hx hb dX6_ask_51 (by decide) (fun c3 => ?_) (fun c3 => ?_)
    · have hm := it_f c3 hm
      refine lv_iload_n hx hb dX6_ask_67 rfl (lv_at hl 2 rfl) ?_
      refine lv_aload_n hx hb dX6_ask_68 rfl (lv_at hl 1 rfl) ?_
      refine va_get (D := D) (ci := 6) (v := .int (t 40)) (C := RX6) (T := TX6) (N := 49) hx hb htg inX6 hown hK hP 0 rfl rfl 40 (by decide) (htg _ q_4_229) (fun _ h9 => h9) rfl dX6_ask_69 ?_
      refine lv_icmp_ge (tgt := 84) hx hb dX6_ask_72 (by decide) (fun c4 => ?_) (fun c4 => ?_)
      · have hm := it_t c4 hm
        refine lv_aload_n hx hb dX6_ask_84 rfl (lv_at hl 1 rfl) ?_
        refine lv_bipush (v := (-5 : Int32)) hx hb dX6_ask_85 (by decide) ?_
        obtain ⟨o5, ho6, hm⟩ := bd_s hm
        refine xr_i (wr := [((am 17), eI cA 8 t_kind), ((am 19), eI cA 8 t_pitch), ((am 21), eI cA 12 t_word), ((am 22), eI cA 13 t_heard)]) (wn := [((am 0), e_X6 am tkv ttv t t_L), ((am 16), eI cA 8 o5.2), ((am 17), eI cA 8 t_kind), ((am 19), eI cA 8 t_pitch), ((am 21), eI cA 12 t_word), ((am 22), eI cA 13 t_heard)]) (va_runV (As := [.int (-5 : Int32)]) (rest := []) ⟨hx, hb, hml, hown, htg⟩ (c_X6_refuse l D cA _ fu am tkv ttv t t_L t_refused (-5 : Int32) o5 ho6) (cwV 1 htg (gV q_5_108 q_5_110 q_p5_7 q_1_8 q_5_111) rfl rfl rfl hd_X6_refuse ⟨Nat.le_of_ble_eq_true rfl, Nat.le_of_ble_eq_true rfl⟩) (xpV hN hK hP hD [0, 1] rfl (by decide) rfl rfl) rfl rfl hl.1 rfl (lv_room (Nat.le_of_ble_eq_true rfl)) dX6_ask_87 ⟨Nat.zero_le _, Nat.zero_le _⟩) hP hD hS hA [0, 1] [2, 3, 4, 5] [4, 5, 0, 1, 2, 3] rfl rfl (by decide) (by decide) rfl (by decide) (fun H locs hP hD hS => ?_)
        exact B_90 _ _ _ _ _ _ _ _ hm hP hD hS (lv_sub hl [1] rfl)
      · have hm := it_f c4 hm
        refine lv_aload_n hx hb dX6_ask_75 rfl (lv_at hl 1 rfl) ?_
        refine va_get (D := D) (ci := 6) (v := .ref (am 21)) (C := RX6) (T := TX6) (N := 49) hx hb htg inX6 hown hK hP 0 rfl rfl 30 (by decide) (htg _ q_4_219) (fun _ h9 => h9) rfl dX6_ask_76 ?_
        refine lv_iload_n hx hb dX6_ask_79 rfl (lv_at hl 2 rfl) ?_
        obtain ⟨hi7, hm⟩ := gd_s hm
        refine va_iald hx hb hK hP 4 0 rfl rfl hi7 dX6_ask_80 ?_
        refine lv_goto (tgt := 90) hx hb dX6_ask_81 (by decide) ?_
        exact B_90 _ _ _ _ _ _ _ _ hm hP hD hS (lv_sub hl [1] rfl)
    · have hm := it_t c3 hm
      refine lv_iload_n hx hb dX6_ask_54 rfl (lv_at hl 0 rfl) ?_
      refine lv_if_eq (tgt := 65) hx hb dX6_ask_55 (by decide) (fun c8 => ?_) (fun c8 => ?_)
      · have hm := it_t c8 hm
        refine lv_iconst (v := (-1 : Int32)) hx hb dX6_ask_65 (by decide) ?_
        exact B_66 _ _ _ _ _ _ _ _ hm hP hD hS (lv_sub hl [1] rfl)
      · have hm := it_f c8 hm
        refine lv_aload_n hx hb dX6_ask_58 rfl (lv_at hl 1 rfl) ?_
        refine va_get (D := D) (ci := 6) (v := .int (t 40)) (C := RX6) (T := TX6) (N := 49) hx hb htg inX6 hown hK hP 0 rfl rfl 40 (by decide) (htg _ q_4_229) (fun _ h9 => h9) rfl dX6_ask_59 ?_
        refine lv_goto (tgt := 66) hx hb dX6_ask_62 (by decide) ?_
        exact B_66 _ _ _ _ _ _ _ _ hm hP hD hS (lv_sub hl [1] rfl)
  have B_43 : ∀ (l2 : Int32) (t : Nat → Int32) (t_refused : Nat → Int32) (t_word : Nat → Int32) (t_heard : Nat → Int32) (H : Heap) (locs : List Loc) (ls : Array Slot), b_X6_ask_43 fu t_L t_kind t_pitch l2 t t_refused t_word t_heard = some out → va_P D CL [((am 0), e_X6 am tkv ttv t t_L), ((am 16), eI cA 8 t_refused), ((am 17), eI cA 8 t_kind), ((am 19), eI cA 8 t_pitch), ((am 21), eI cA 12 t_word), ((am 22), eI cA 13 t_heard)] H → va_D A [((am 0), e_X6 am tkv ttv t t_L), ((am 16), eI cA 8 t_refused), ((am 17), eI cA 8 t_kind), ((am 19), eI cA 8 t_pitch), ((am 21), eI cA 12 t_word), ((am 22), eI cA 13 t_heard)] → va_S A s.heap H locs → lv_has ls 4 [(0, .ref (am 0)), (2, .int l2)] → W p l e rm_X6_ask s m args below meth c H locs 0 0 Q (F0 m 43 ls []) := by
    intro  l2 t t_refused t_word t_heard H locs ls hm hP hD hS hl
    unfold b_X6_ask_43 at hm
    refine lv_iconst (v := (1 : Int32)) hx hb dX6_ask_43 (by decide) ?_
    refine lv_goto (tgt := 48) hx hb dX6_ask_44 (by decide) ?_
    exact B_48 _ _ _ _ _ _ _ _ _ hm hP hD hS (lv_sub hl [0, 1] rfl)
  unfold m_X6_ask at hm
  subst hargs
  have hl := lv_entry ([.ref (am 0), .int l1, .int l2]) (n := 4) (Nat.le_of_ble_eq_true rfl)
  rw [lg_entry_eq]
  generalize (lg_sl ([.ref (am 0), .int l1, .int l2]) ++ List.replicate (4 - (lg_sl ([.ref (am 0), .int l1, .int l2])).length) Slot.unset).toArray = ls at hl ⊢
  have hl : lv_has ls 4 [(0, .ref (am 0)), (1, .int l1), (2, .int l2)] := hl
  refine lv_aload_n hx hb dX6_ask_0 rfl (lv_at hl 0 rfl) ?_
  refine lv_iload_n hx hb dX6_ask_1 rfl (lv_at hl 1 rfl) ?_
  obtain ⟨o9, ho10, hm⟩ := bd_s hm
  refine xr_i (wr := [((am 16), eI cA 8 t_refused), ((am 17), eI cA 8 t_kind), ((am 19), eI cA 8 t_pitch), ((am 21), eI cA 12 t_word), ((am 22), eI cA 13 t_heard)]) (wn := [((am 0), e_X6 am tkv ttv t t_L), ((am 16), eI cA 8 t_refused), ((am 17), eI cA 8 t_kind), ((am 19), eI cA 8 t_pitch), ((am 21), eI cA 12 t_word), ((am 22), eI cA 13 t_heard)]) (va_runV (As := [.int l1]) (rest := []) ⟨hx, hb, hml, hown, htg⟩ (c_X6_isVoice l D cA _ fu am tkv ttv t t_L l1 o9 ho10) (cwV 1 htg (gV q_5_139 q_5_141 q_p5_9 q_1_8 q_5_142) rfl rfl rfl hd_X6_isVoice ⟨Nat.le_of_ble_eq_true rfl, Nat.le_of_ble_eq_true rfl⟩) (xpV hN hK hP hD [0] rfl (by decide) rfl rfl) rfl rfl hl.1 rfl (lv_room (Nat.le_of_ble_eq_true rfl)) dX6_ask_2 ⟨Nat.zero_le _, Nat.zero_le _⟩) hP hD hS hA [0] [1, 2, 3, 4, 5] [5, 0, 1, 2, 3, 4] rfl rfl (by decide) (by decide) rfl (by decide) (fun H locs hP hD hS => ?_)
  refine lv_if_eq (tgt := 13) hx hb dX6_ask_5 (by decide) (fun c11 => ?_) (fun c11 => ?_)
  · have hm := it_t c11 hm
    exact B_13 _ _ _ _ _ _ _ hm hP hD hS (lv_sub hl [0] rfl)
  · have hm := it_f c11 hm
    refine lv_iload_n hx hb dX6_ask_8 rfl (lv_at hl 2 rfl) ?_
    refine lv_iconst (v := (-1 : Int32)) hx hb dX6_ask_9 (by decide) ?_
    refine lv_icmp_ge (tgt := 20) hx hb dX6_ask_10 (by decide) (fun c12 => ?_) (fun c12 => ?_)
    · have hm := it_t c12 hm
      refine lv_aload_n hx hb dX6_ask_20 rfl (lv_at hl 0 rfl) ?_
      refine lv_iconst (v := (-1 : Int32)) hx hb dX6_ask_21 (by decide) ?_
      refine va_put (D := D) (ci := 6) (v := .int (-1 : Int32)) (ty := .int) (C := RX6) (T := TX6) (N := 49) hx hb htg inX6 tyX6 tyX6_ok nmX6 hown hK hP hD hS 0 rfl rfl 40 (by decide) (htg _ q_4_229) (fun _ h9 => h9) rfl (by decide +kernel) rfl rfl (Nat.le_of_ble_eq_true rfl) dX6_ask_22 (fun H locs (hP : va_P D CL [((am 0), e_X6 am tkv ttv (upd t 40 (-1 : Int32)) t_L), ((am 16), eI cA 8 t_refused), ((am 17), eI cA 8 t_kind), ((am 19), eI cA 8 t_pitch), ((am 21), eI cA 12 t_word), ((am 22), eI cA 13 t_heard)] H) (hD : va_D A [((am 0), e_X6 am tkv ttv (upd t 40 (-1 : Int32)) t_L), ((am 16), eI cA 8 t_refused), ((am 17), eI cA 8 t_kind), ((am 19), eI cA 8 t_pitch), ((am 21), eI cA 12 t_word), ((am 22), eI cA 13 t_heard)]) hS => ?_)
      refine lv_aload_n hx hb dX6_ask_25 rfl (lv_at hl 0 rfl) ?_
      refine lv_iload_n hx hb dX6_ask_26 rfl (lv_at hl 1 rfl) ?_
      refine lv_iconst (v := (1 : Int32)) hx hb dX6_ask_27 (by decide) ?_
      obtain ⟨o13, ho14, hm⟩ := bd_s hm
      refine xr_i (wr := [((am 16), eI cA 8 t_refused)]) (wn := [((am 0), e_X6 am tkv ttv o13.2.1 t_L), ((am 16), eI cA 8 t_refused), ((am 17), eI cA 8 t_kind), ((am 19), eI cA 8 t_pitch), ((am 21), eI cA 12 o13.2.2.1), ((am 22), eI cA 13 o13.2.2.2)]) (va_runV (As := [.int l1, .int (1 : Int32)]) (rest := []) ⟨hx, hb, hml, hown, htg⟩ (c_X6_finds l D cA _ fu am tkv ttv (upd t 40 (-1 : Int32)) t_L t_kind t_pitch t_word t_heard l1 (1 : Int32) o13 ho14) (cwV 2 htg (gV q_6_171 q_6_173 q_p7_1 q_1_8 q_6_174) rfl rfl rfl hd_X6_finds ⟨Nat.le_of_ble_eq_true rfl, Nat.le_of_ble_eq_true rfl⟩) (xpV hN hK hP hD [0, 2, 3, 4, 5] rfl (by decide) rfl rfl) rfl rfl hl.1 rfl (lv_room (Nat.le_of_ble_eq_true rfl)) dX6_ask_28 ⟨Nat.zero_le _, Nat.zero_le _⟩) hP hD hS hA [0, 2, 3, 4, 5] [1] [1, 0, 2, 3, 4, 5] rfl rfl (by decide) (by decide) rfl (by decide) (fun H locs hP hD hS => ?_)
      refine lv_if_ne (tgt := 43) hx hb dX6_ask_31 (by decide) (fun c15 => ?_) (fun c15 => ?_)
      · have hm := it_f c15 hm
        exact B_43 _ _ _ _ _ _ _ _ hm hP hD hS (lv_sub hl [0, 2] rfl)
      · have hm := it_t c15 hm
        refine lv_aload_n hx hb dX6_ask_34 rfl (lv_at hl 0 rfl) ?_
        refine lv_iload_n hx hb dX6_ask_35 rfl (lv_at hl 1 rfl) ?_
        refine lv_iconst (v := (2 : Int32)) hx hb dX6_ask_36 (by decide) ?_
        obtain ⟨o16, ho17, hm⟩ := bd_s hm
        refine xr_i (wr := [((am 16), eI cA 8 t_refused)]) (wn := [((am 0), e_X6 am tkv ttv o16.2.1 t_L), ((am 16), eI cA 8 t_refused), ((am 17), eI cA 8 t_kind), ((am 19), eI cA 8 t_pitch), ((am 21), eI cA 12 o16.2.2.1), ((am 22), eI cA 13 o16.2.2.2)]) (va_runV (As := [.int l1, .int (2 : Int32)]) (rest := []) ⟨hx, hb, hml, hown, htg⟩ (c_X6_finds l D cA _ fu am tkv ttv o13.2.1 t_L t_kind t_pitch o13.2.2.1 o13.2.2.2 l1 (2 : Int32) o16 ho17) (cwV 2 htg (gV q_6_171 q_6_173 q_p7_1 q_1_8 q_6_174) rfl rfl rfl hd_X6_finds ⟨Nat.le_of_ble_eq_true rfl, Nat.le_of_ble_eq_true rfl⟩) (xpV hN hK hP hD [0, 2, 3, 4, 5] rfl (by decide) rfl rfl) rfl rfl hl.1 rfl (lv_room (Nat.le_of_ble_eq_true rfl)) dX6_ask_37 ⟨Nat.zero_le _, Nat.zero_le _⟩) hP hD hS hA [0, 2, 3, 4, 5] [1] [1, 0, 2, 3, 4, 5] rfl rfl (by decide) (by decide) rfl (by decide) (fun H locs hP hD hS => ?_)
        refine lv_if_eq (tgt := 47) hx hb dX6_ask_40 (by decide) (fun c18 => ?_) (fun c18 => ?_)
        · have hm := it_t c18 hm
          refine lv_iconst (v := (0 : Int32)) hx hb dX6_ask_47 (by decide) ?_
          exact B_48 _ _ _ _ _ _ _ _ _ hm hP hD hS (lv_sub hl [0, 2] rfl)
        · have hm := it_f c18 hm
          exact B_43 _ _ _ _ _ _ _ _ hm hP hD hS (lv_sub hl [0, 2] rfl)
    · have hm := it_f c12 hm
      exact B_13 _ _ _ _ _ _ _ hm hP hD hS (lv_sub hl [0] rfl)
def b_X6_isEcho_18 (fu : Nat) (t_L : Nat → Int64) (t_rows_R : Nat → Nat → Int64) (t_kind : Nat → Int32) (t_pitch : Nat → Int32) (t_word : Nat → Int32) (k_18 : (Int32 × Int32 × Int32 × (Nat → Int32) × (Nat → Int32)) → Option (Int32 × ((Nat → Int32) × (Nat → Int32)))) (x : Int32 × Int32 × Int32 × (Nat → Int32) × (Nat → Int32)) : Option (Int32 × ((Nat → Int32) × (Nat → Int32))) :=
  (if x.2.1 ≤ x.2.2.1 then
        some ((1 : Int32), (x.2.2.2.1, x.2.2.2.2))
      else
        gd (inb x.2.2.1 13) (
        gd (inb x.1 8) (
        gd (inb x.1 8) (gd (inb x.2.2.1 40) (
        (if (lg_cmp (x.2.2.2.2 x.2.2.1.toNatClampNeg).toInt64 (t_rows_R x.1.toNatClampNeg x.2.2.1.toNatClampNeg)) = 0 then
          k_18 (x.1, x.2.1, (x.2.2.1 + (1 : Int32)), x.2.2.2.1, x.2.2.2.2)
        else
          some ((0 : Int32), (x.2.2.2.1, x.2.2.2.2))))))))
def m_X6_isEcho (fu : Nat) (t : Nat → Int32) (t_L : Nat → Int64) (t_rows_R : Nat → Nat → Int64) (t_kind : Nat → Int32) (t_pitch : Nat → Int32) (t_word : Nat → Int32) (t_heard : Nat → Int32) (l1 : Int32) (l2 : Int32) (l3 : Int32) : Option (Int32 × ((Nat → Int32) × (Nat → Int32))) :=
  (m_X6_listen fu t t_L t_kind t_pitch t_word t_heard l1).bind fun o8 =>
  (if o8.1 33 = l3 then
    lfix (b_X6_isEcho_18 fu t_L t_rows_R t_kind t_pitch t_word) fu (l2, l3, (0 : Int32), o8.1, o8.2)
  else
    some ((0 : Int32), (o8.1, o8.2)))
abbrev rm_X6_isEcho : Room := ({ frames := 3, cells := 0, slots := 0, locals := 70 } : Room)
abbrev w0_X6_isEcho (cA : Nat → ClassId) (am : Nat → Nat) (tkv : Value) (ttv : Value) (t : Nat → Int32) (t_L : Nat → Int64) (t_rows_R : Nat → Nat → Int64) (t_kind : Nat → Int32) (t_pitch : Nat → Int32) (t_word : Nat → Int32) (t_heard : Nat → Int32) : va_W := [((am 0), e_X6 am tkv ttv t t_L), ((am 4), eOJ cA am 5), (am 5, eJ cA 40 (t_rows_R 0)), (am 6, eJ cA 40 (t_rows_R 1)), (am 7, eJ cA 40 (t_rows_R 2)), (am 8, eJ cA 40 (t_rows_R 3)), (am 9, eJ cA 40 (t_rows_R 4)), (am 10, eJ cA 40 (t_rows_R 5)), (am 11, eJ cA 40 (t_rows_R 6)), (am 12, eJ cA 40 (t_rows_R 7)), ((am 17), eI cA 8 t_kind), ((am 19), eI cA 8 t_pitch), ((am 21), eI cA 12 t_word), ((am 22), eI cA 13 t_heard)]
abbrev w1_X6_isEcho (cA : Nat → ClassId) (am : Nat → Nat) (tkv : Value) (ttv : Value) (t_L : Nat → Int64) (t_rows_R : Nat → Nat → Int64) (t_kind : Nat → Int32) (t_pitch : Nat → Int32) (t_word : Nat → Int32) (u : (Nat → Int32) × (Nat → Int32)) : va_W := [((am 0), e_X6 am tkv ttv u.1 t_L), ((am 4), eOJ cA am 5), (am 5, eJ cA 40 (t_rows_R 0)), (am 6, eJ cA 40 (t_rows_R 1)), (am 7, eJ cA 40 (t_rows_R 2)), (am 8, eJ cA 40 (t_rows_R 3)), (am 9, eJ cA 40 (t_rows_R 4)), (am 10, eJ cA 40 (t_rows_R 5)), (am 11, eJ cA 40 (t_rows_R 6)), (am 12, eJ cA 40 (t_rows_R 7)), ((am 17), eI cA 8 t_kind), ((am 19), eI cA 8 t_pitch), ((am 21), eI cA 12 t_word), ((am 22), eI cA 13 u.2)]
theorem hd_X6_isEcho : yX6_isEcho.cls = RX6 ∧ yX6_isEcho.cls ≠ "java/lang/invoke/MethodHandle" ∧ yX6_isEcho.cls ≠ "java/lang/invoke/VarHandle" ∧ (parseMethodDescriptor yX6_isEcho.desc).map (fun d => d.parameters.length) = some 3 := by decide +kernel
set_option maxHeartbeats 40000000 in
set_option maxRecDepth 100000 in
theorem c_X6_isEcho (l : Launch) (D : va_G) (cA : Nat → ClassId) (sz : Nat) (fu : Nat) (am : Nat → Nat) (tkv : Value) (ttv : Value) (t : Nat → Int32) (t_L : Nat → Int64) (t_rows_R : Nat → Nat → Int64) (t_kind : Nat → Int32) (t_pitch : Nat → Int32) (t_word : Nat → Int32) (t_heard : Nat → Int32) (l1 : Int32) (l2 : Int32) (l3 : Int32) (out : Int32 × ((Nat → Int32) × (Nat → Int32))) (hm : m_X6_isEcho fu t t_L t_rows_R t_kind t_pitch t_word t_heard l1 l2 l3 = some out) : MI l yX6_isEcho (wU yX6_isEcho cX6_isEcho 5 ((Option.some Jvm.ClassFile.FieldType.boolean))) rm_X6_isEcho D cA sz [.ref (am 0), .int l1, .int l2, .int l3] (w0_X6_isEcho cA am tkv ttv t t_L t_rows_R t_kind t_pitch t_word t_heard) out (w1_X6_isEcho cA am tkv ttv t_L t_rows_R t_kind t_pitch t_word) := by
  refine Met.ofW (cc := cX6_isEcho) (maxL := 5) (ret := (Option.some Jvm.ClassFile.FieldType.boolean)) (by decide) rfl ?_
  intro p e s m args below meth c s₁ B hml hv
  obtain ⟨hargs, hsz, hP, hK, hD0, hN⟩ := hv
  have hx := B.exec
  have hb := B.bytes
  have hr := B.returns
  have htg : ∀ w ∈ gw, w.before args s = true := fun w h => atoms_spec (ws := wU yX6_isEcho cX6_isEcho 5 ((Option.some Jvm.ClassFile.FieldType.boolean))) B.pre w (List.mem_cons_of_mem _ h)
  have hown : s.vm.findClass RX6 = some m.cls := findClass_of_methodNamed B.named
  have hlocks := B.notSynchronized
  subst hsz
  have hD := hD0.self (sz := s.heap.size)
  have hA : ∀ q : Nat, s.heap.size ≤ q → va_A (w0_X6_isEcho cA am tkv ttv t t_L t_rows_R t_kind t_pitch t_word t_heard) s.heap.size q := fun q h => Or.inr h
  have hS : va_S (va_A (w0_X6_isEcho cA am tkv ttv t t_L t_rows_R t_kind t_pitch t_word t_heard) s.heap.size) s.heap s.heap [] := va_S.rf
  generalize va_A (w0_X6_isEcho cA am tkv ttv t t_L t_rows_R t_kind t_pitch t_word t_heard) s.heap.size = A at hA hD hS ⊢
  obtain ⟨Q, hQ⟩ : ∃ Q : State → Prop, Q = MQ below (va_Qi (fun (r : Int32) (u : (Nat → Int32) × (Nat → Int32)) => (r, u) = out) (pst0 D cA A (w1_X6_isEcho cA am tkv ttv t_L t_rows_R t_kind t_pitch t_word)) A) args s 0 0 A := ⟨_, rfl⟩
  refine (?_ : W p l e rm_X6_isEcho s m args below meth c s.heap [] 0 0 (MQ below (va_Qi (fun (r : Int32) (u : (Nat → Int32) × (Nat → Int32)) => (r, u) = out) (pst0 D cA A (w1_X6_isEcho cA am tkv ttv t_L t_rows_R t_kind t_pitch t_word)) A) args s 0 0 A) (entryFrame m args 5))
  rw [← hQ]
  have hP : va_P D CL [((am 0), e_X6 am tkv ttv t t_L), ((am 4), eOJ cA am 5), (am 5, eJ cA 40 (t_rows_R 0)), (am 6, eJ cA 40 (t_rows_R 1)), (am 7, eJ cA 40 (t_rows_R 2)), (am 8, eJ cA 40 (t_rows_R 3)), (am 9, eJ cA 40 (t_rows_R 4)), (am 10, eJ cA 40 (t_rows_R 5)), (am 11, eJ cA 40 (t_rows_R 6)), (am 12, eJ cA 40 (t_rows_R 7)), ((am 17), eI cA 8 t_kind), ((am 19), eI cA 8 t_pitch), ((am 21), eI cA 12 t_word), ((am 22), eI cA 13 t_heard)] s.heap := hP
  have hD : va_D A [((am 0), e_X6 am tkv ttv t t_L), ((am 4), eOJ cA am 5), (am 5, eJ cA 40 (t_rows_R 0)), (am 6, eJ cA 40 (t_rows_R 1)), (am 7, eJ cA 40 (t_rows_R 2)), (am 8, eJ cA 40 (t_rows_R 3)), (am 9, eJ cA 40 (t_rows_R 4)), (am 10, eJ cA 40 (t_rows_R 5)), (am 11, eJ cA 40 (t_rows_R 6)), (am 12, eJ cA 40 (t_rows_R 7)), ((am 17), eI cA 8 t_kind), ((am 19), eI cA 8 t_pitch), ((am 21), eI cA 12 t_word), ((am 22), eI cA 13 t_heard)] := hD
  have B_18 : ∀ (n : Nat) (x : Int32 × Int32 × Int32 × (Nat → Int32) × (Nat → Int32)) (H : Heap) (locs : List Loc) (ls : Array Slot), lfix (b_X6_isEcho_18 fu t_L t_rows_R t_kind t_pitch t_word) n x = some out → va_P D CL [((am 0), e_X6 am tkv ttv x.2.2.2.1 t_L), ((am 4), eOJ cA am 5), (am 5, eJ cA 40 (t_rows_R 0)), (am 6, eJ cA 40 (t_rows_R 1)), (am 7, eJ cA 40 (t_rows_R 2)), (am 8, eJ cA 40 (t_rows_R 3)), (am 9, eJ cA 40 (t_rows_R 4)), (am 10, eJ cA 40 (t_rows_R 5)), (am 11, eJ cA 40 (t_rows_R 6)), (am 12, eJ cA 40 (t_rows_R 7)), ((am 17), eI cA 8 t_kind), ((am 19), eI cA 8 t_pitch), ((am 21), eI cA 12 t_word), ((am 22), eI cA 13 x.2.2.2.2)] H → va_D A [((am 0), e_X6 am tkv ttv x.2.2.2.1 t_L), ((am 4), eOJ cA am 5), (am 5, eJ cA 40 (t_rows_R 0)), (am 6, eJ cA 40 (t_rows_R 1)), (am 7, eJ cA 40 (t_rows_R 2)), (am 8, eJ cA 40 (t_rows_R 3)), (am 9, eJ cA 40 (t_rows_R 4)), (am 10, eJ cA 40 (t_rows_R 5)), (am 11, eJ cA 40 (t_rows_R 6)), (am 12, eJ cA 40 (t_rows_R 7)), ((am 17), eI cA 8 t_kind), ((am 19), eI cA 8 t_pitch), ((am 21), eI cA 12 t_word), ((am 22), eI cA 13 x.2.2.2.2)] → va_S A s.heap H locs → lv_has ls 5 [(0, .ref (am 0)), (2, .int x.1), (3, .int x.2.1), (4, .int x.2.2.1)] → W p l e rm_X6_isEcho s m args below meth c H locs 0 0 Q (F0 m 18 ls []) := by
    intro  n
    induction n with
    | zero => intro x H locs ls hm; cases (show none = some out from hm)
    | succ n HK_18 =>
      intro x H locs ls hm hP hD hS hl
      replace hm : b_X6_isEcho_18 fu t_L t_rows_R t_kind t_pitch t_word (lfix (b_X6_isEcho_18 fu t_L t_rows_R t_kind t_pitch t_word) n) x = some out := hm
      unfold b_X6_isEcho_18 at hm
      refine lv_iload hx hb dX6_isEcho_18 (lv_at hl 3 rfl) ?_
      refine lv_iload_n hx hb dX6_isEcho_20 rfl (lv_at hl 2 rfl) ?_
      refine lv_icmp_ge (tgt := 53) hx hb dX6_isEcho_21 (by decide) (fun c1 => ?_) (fun c1 => ?_)
      · have hm := it_t c1 hm
        refine lv_iconst (v := (1 : Int32)) hx hb dX6_isEcho_53 (by decide) ?_
        rw [hQ]
        exact W.zret (v := (1 : Int32)) hx hb hr rfl (fun t9 ht hW => ⟨⟨(1 : Int32), (x.2.2.2.1, x.2.2.2.2), rfl, (Option.some.inj hm), by rw [ht]; exact hP, va_K.moved hW.alike hK, hD⟩, hS.F ht⟩) hS.2.2 dX6_isEcho_54
      · have hm := it_f c1 hm
        refine lv_aload_n hx hb dX6_isEcho_24 rfl (lv_at hl 0 rfl) ?_
        refine va_get (D := D) (ci := 6) (v := .ref (am 22)) (C := RX6) (T := TX6) (N := 49) hx hb htg inX6 hown hK hP 0 rfl rfl 32 (by decide) (htg _ q_4_221) (fun _ h9 => h9) rfl dX6_isEcho_25 ?_
        refine lv_iload hx hb dX6_isEcho_28 (lv_at hl 3 rfl) ?_
        obtain ⟨hi2, hm⟩ := gd_s hm
        refine va_iald hx hb hK hP 13 0 rfl rfl hi2 dX6_isEcho_30 ?_
        refine lv_i2l hx hb dX6_isEcho_31 rfl ?_
        refine lv_aload_n hx hb dX6_isEcho_32 rfl (lv_at hl 0 rfl) ?_
        refine va_get (D := D) (ci := 6) (v := .ref (am 4)) (C := RX6) (T := TX6) (N := 49) hx hb htg inX6 hown hK hP 0 rfl rfl 3 (by decide) (htg _ q_4_192) (fun _ h9 => h9) rfl dX6_isEcho_33 ?_
        refine lv_iload_n hx hb dX6_isEcho_36 rfl (lv_at hl 1 rfl) ?_
        obtain ⟨hi3, hm⟩ := gd_s hm
        refine va_ald2 hx hb hK hP 1 3 rfl rfl hi3 dX6_isEcho_37 ?_
        rw [show (va_rf ((fun i => if i < 8 then some (am (5 + i)) else none) x.1.toNatClampNeg)) = Value.ref (am (5 + x.1.toNatClampNeg)) from rf_lt (inb_lt hi3)]
        refine lv_iload hx hb dX6_isEcho_38 (lv_at hl 3 rfl) ?_
        obtain ⟨hj5, hm⟩ := gd_s hm
        obtain ⟨hi4, hm⟩ := gd_s hm
        have hq6 : ([((am 0), e_X6 am tkv ttv x.2.2.2.1 t_L), ((am 4), eOJ cA am 5), (am 5, eJ cA 40 (t_rows_R 0)), (am 6, eJ cA 40 (t_rows_R 1)), (am 7, eJ cA 40 (t_rows_R 2)), (am 8, eJ cA 40 (t_rows_R 3)), (am 9, eJ cA 40 (t_rows_R 4)), (am 10, eJ cA 40 (t_rows_R 5)), (am 11, eJ cA 40 (t_rows_R 6)), (am 12, eJ cA 40 (t_rows_R 7)), ((am 17), eI cA 8 t_kind), ((am 19), eI cA 8 t_pitch), ((am 21), eI cA 12 t_word), ((am 22), eI cA 13 x.2.2.2.2)] : va_W)[2 + x.1.toNatClampNeg]? = some (am (5 + x.1.toNatClampNeg), eJ cA 40 (t_rows_R x.1.toNatClampNeg)) := by
          have hj8 := inb_lt hj5
          generalize x.1.toNatClampNeg = j at hj8 ⊢
          rcases (show j = 0 ∨ j = 1 ∨ j = 2 ∨ j = 3 ∨ j = 4 ∨ j = 5 ∨ j = 6 ∨ j = 7 by omega) with rfl | rfl | rfl | rfl | rfl | rfl | rfl | rfl <;> rfl
        refine va_lald hx hb hK hP (2 + x.1.toNatClampNeg) 1 hq6 rfl hi4 dX6_isEcho_40 ?_
        refine W.lcmp hx hb dX6_isEcho_41 ?_
        refine lv_if_eq (tgt := 47) hx hb dX6_isEcho_42 (by decide) (fun c7 => ?_) (fun c7 => ?_)
        · have hm := it_t c7 hm
          refine lv_iinc (v := (x.2.2.1 + (1 : Int32))) (lv' := [(4, .int (x.2.2.1 + (1 : Int32))), (0, .ref (am 0)), (2, .int x.1), (3, .int x.2.1)]) hx hb dX6_isEcho_47 hl (k := 3) rfl rfl (by decide) rfl (fun ls hl => ?_)
          refine lv_goto (tgt := 18) hx hb dX6_isEcho_50 (by decide) ?_
          exact HK_18 _ _ _ _ hm hP hD hS (lv_sub hl [1, 2, 3, 0] rfl)
        · have hm := it_f c7 hm
          refine lv_iconst (v := (0 : Int32)) hx hb dX6_isEcho_45 (by decide) ?_
          rw [hQ]
          exact W.zret (v := (0 : Int32)) hx hb hr rfl (fun t9 ht hW => ⟨⟨(0 : Int32), (x.2.2.2.1, x.2.2.2.2), rfl, (Option.some.inj hm), by rw [ht]; exact hP, va_K.moved hW.alike hK, hD⟩, hS.F ht⟩) hS.2.2 dX6_isEcho_46
  unfold m_X6_isEcho at hm
  subst hargs
  have hl := lv_entry ([.ref (am 0), .int l1, .int l2, .int l3]) (n := 5) (Nat.le_of_ble_eq_true rfl)
  rw [lg_entry_eq]
  generalize (lg_sl ([.ref (am 0), .int l1, .int l2, .int l3]) ++ List.replicate (5 - (lg_sl ([.ref (am 0), .int l1, .int l2, .int l3])).length) Slot.unset).toArray = ls at hl ⊢
  have hl : lv_has ls 5 [(0, .ref (am 0)), (1, .int l1), (2, .int l2), (3, .int l3)] := hl
  refine lv_aload_n hx hb dX6_isEcho_0 rfl (lv_at hl 0 rfl) ?_
  refine lv_iload_n hx hb dX6_isEcho_1 rfl (lv_at hl 1 rfl) ?_
  obtain ⟨o8, ho9, hm⟩ := bd_s hm
  refine xr_v (wr := [((am 4), eOJ cA am 5), (am 5, eJ cA 40 (t_rows_R 0)), (am 6, eJ cA 40 (t_rows_R 1)), (am 7, eJ cA 40 (t_rows_R 2)), (am 8, eJ cA 40 (t_rows_R 3)), (am 9, eJ cA 40 (t_rows_R 4)), (am 10, eJ cA 40 (t_rows_R 5)), (am 11, eJ cA 40 (t_rows_R 6)), (am 12, eJ cA 40 (t_rows_R 7))]) (wn := [((am 0), e_X6 am tkv ttv o8.1 t_L), ((am 4), eOJ cA am 5), (am 5, eJ cA 40 (t_rows_R 0)), (am 6, eJ cA 40 (t_rows_R 1)), (am 7, eJ cA 40 (t_rows_R 2)), (am 8, eJ cA 40 (t_rows_R 3)), (am 9, eJ cA 40 (t_rows_R 4)), (am 10, eJ cA 40 (t_rows_R 5)), (am 11, eJ cA 40 (t_rows_R 6)), (am 12, eJ cA 40 (t_rows_R 7)), ((am 17), eI cA 8 t_kind), ((am 19), eI cA 8 t_pitch), ((am 21), eI cA 12 t_word), ((am 22), eI cA 13 o8.2)]) (va_runV (As := [.int l1]) (rest := []) ⟨hx, hb, hml, hown, htg⟩ (c_X6_listen l D cA _ fu am tkv ttv t t_L t_kind t_pitch t_word t_heard l1 o8 ho9) (cwV 1 htg (gV q_5_155 q_5_157 q_p5_11 q_1_8 q_5_158) rfl rfl rfl hd_X6_listen ⟨Nat.le_of_ble_eq_true rfl, Nat.le_of_ble_eq_true rfl⟩) (xpV hN hK hP hD [0, 10, 11, 12, 13] rfl (by decide) rfl rfl) rfl rfl hl.1 rfl (lv_room (Nat.le_of_ble_eq_true rfl)) dX6_isEcho_2 ⟨Nat.zero_le _, Nat.zero_le _⟩) hP hD hS hA [0, 10, 11, 12, 13] [1, 2, 3, 4, 5, 6, 7, 8, 9] [9, 0, 1, 2, 3, 4, 5, 6, 7, 8, 10, 11, 12, 13] rfl rfl (by decide) (by decide) rfl (by decide) (fun H locs hP hD hS => ?_)
  refine lv_aload_n hx hb dX6_isEcho_5 rfl (lv_at hl 0 rfl) ?_
  refine va_get (D := D) (ci := 6) (v := .int (o8.1 33)) (C := RX6) (T := TX6) (N := 49) hx hb htg inX6 hown hK hP 0 rfl rfl 33 (by decide) (htg _ q_4_222) (fun _ h9 => h9) rfl dX6_isEcho_6 ?_
  refine lv_iload_n hx hb dX6_isEcho_9 rfl (lv_at hl 3 rfl) ?_
  refine lv_icmp_eq (tgt := 15) hx hb dX6_isEcho_10 (by decide) (fun c10 => ?_) (fun c10 => ?_)
  · have hm := it_t c10 hm
    refine lv_iconst (v := (0 : Int32)) hx hb dX6_isEcho_15 (by decide) ?_
    refine lv_istore (lv' := [(4, .int (0 : Int32)), (0, .ref (am 0)), (1, .int l1), (2, .int l2), (3, .int l3)]) hx hb dX6_isEcho_16 hl (by decide) rfl (fun ls hl => ?_)
    exact B_18 fu _ _ _ _ hm hP hD hS (lv_sub hl [1, 3, 4, 0] rfl)
  · have hm := it_f c10 hm
    refine lv_iconst (v := (0 : Int32)) hx hb dX6_isEcho_13 (by decide) ?_
    rw [hQ]
    exact W.zret (v := (0 : Int32)) hx hb hr rfl (fun t9 ht hW => ⟨⟨(0 : Int32), (o8.1, o8.2), rfl, (Option.some.inj hm), by rw [ht]; exact hP, va_K.moved hW.alike hK, hD⟩, hS.F ht⟩) hS.2.2 dX6_isEcho_14
def b_X6_findDepths_134 (fu : Nat) (t_L : Nat → Int64) (t_rows_R : Nat → Nat → Int64) (t_kind : Nat → Int32) (t_pitch : Nat → Int32) (t_word : Nat → Int32) (k_24 : (Int32 × Int32 × Int32 × (Nat → Int32) × (Nat → Int32) × (Nat → Int32)) → Option ((Nat → Int32) × (Nat → Int32) × (Nat → Int32))) (l1 : Int32) (l2 : Int32) (l3 : Int32) (s1 : Int32) (t : Nat → Int32) (t_heard : Nat → Int32) (t_may : Nat → Int32) : Option ((Nat → Int32) × (Nat → Int32) × (Nat → Int32)) :=
  k_24 (l1, l2, l3, (upd (upd t 44 s1) 9 (t 9 + (1 : Int32))), t_heard, t_may)
def b_X6_findDepths_107 (fu : Nat) (t_L : Nat → Int64) (t_rows_R : Nat → Nat → Int64) (t_kind : Nat → Int32) (t_pitch : Nat → Int32) (t_word : Nat → Int32) (k_24 : (Int32 × Int32 × Int32 × (Nat → Int32) × (Nat → Int32) × (Nat → Int32)) → Option ((Nat → Int32) × (Nat → Int32) × (Nat → Int32))) (l1 : Int32) (l2 : Int32) (l3 : Int32) (s1 : Int32) (t : Nat → Int32) (t_heard : Nat → Int32) (t_may : Nat → Int32) : Option ((Nat → Int32) × (Nat → Int32) × (Nat → Int32)) :=
  gd (inb (t 9) 41) (
    (if (t_may (t 9).toNatClampNeg) = 0 then
      b_X6_findDepths_134 fu t_L t_rows_R t_kind t_pitch t_word k_24 l1 l2 l3 (t 44) (upd t 43 s1) t_heard t_may
    else
      b_X6_findDepths_134 fu t_L t_rows_R t_kind t_pitch t_word k_24 l1 l2 l3 (t 9) (upd t 43 s1) t_heard t_may))
def b_X6_findDepths_103 (fu : Nat) (t_L : Nat → Int64) (t_rows_R : Nat → Nat → Int64) (t_kind : Nat → Int32) (t_pitch : Nat → Int32) (t_word : Nat → Int32) (k_24 : (Int32 × Int32 × Int32 × (Nat → Int32) × (Nat → Int32) × (Nat → Int32)) → Option ((Nat → Int32) × (Nat → Int32) × (Nat → Int32))) (l1 : Int32) (l2 : Int32) (l3 : Int32) (t : Nat → Int32) (t_heard : Nat → Int32) (t_may : Nat → Int32) : Option ((Nat → Int32) × (Nat → Int32) × (Nat → Int32)) :=
  b_X6_findDepths_107 fu t_L t_rows_R t_kind t_pitch t_word k_24 l1 l2 l3 (t 43) t t_heard t_may
def b_X6_findDepths_71 (fu : Nat) (t_L : Nat → Int64) (t_rows_R : Nat → Nat → Int64) (t_kind : Nat → Int32) (t_pitch : Nat → Int32) (t_word : Nat → Int32) (k_24 : (Int32 × Int32 × Int32 × (Nat → Int32) × (Nat → Int32) × (Nat → Int32)) → Option ((Nat → Int32) × (Nat → Int32) × (Nat → Int32))) (l1 : Int32) (l2 : Int32) (l3 : Int32) (s1 : Int32) (s2 : Int32) (t : Nat → Int32) (t_heard : Nat → Int32) (t_may : Nat → Int32) : Option ((Nat → Int32) × (Nat → Int32) × (Nat → Int32)) :=
  gd (inb (t 9) 41) (
    (if (t_may (t 9).toNatClampNeg) = 0 then
      b_X6_findDepths_103 fu t_L t_rows_R t_kind t_pitch t_word k_24 l1 l2 l3 (upd t 42 (s1 + s2)) t_heard t_may
    else
      (if t 43 = (-1 : Int32) then
        b_X6_findDepths_107 fu t_L t_rows_R t_kind t_pitch t_word k_24 l1 l2 l3 (t 9) (upd t 42 (s1 + s2)) t_heard t_may
      else
        b_X6_findDepths_103 fu t_L t_rows_R t_kind t_pitch t_word k_24 l1 l2 l3 (upd t 42 (s1 + s2)) t_heard t_may)))
def b_X6_findDepths_24 (fu : Nat) (t_L : Nat → Int64) (t_rows_R : Nat → Nat → Int64) (t_kind : Nat → Int32) (t_pitch : Nat → Int32) (t_word : Nat → Int32) (k_24 : (Int32 × Int32 × Int32 × (Nat → Int32) × (Nat → Int32) × (Nat → Int32)) → Option ((Nat → Int32) × (Nat → Int32) × (Nat → Int32))) (x : Int32 × Int32 × Int32 × (Nat → Int32) × (Nat → Int32) × (Nat → Int32)) : Option ((Nat → Int32) × (Nat → Int32) × (Nat → Int32)) :=
  (if (40 : Int32) < x.2.2.2.1 9 then
        (m_X6_goesBack fu x.2.2.2.1 t_L).bind fun o7 =>
        some (o7, x.2.2.2.2.1, x.2.2.2.2.2)
      else
        (m_X6_isEcho fu x.2.2.2.1 t_L t_rows_R t_kind t_pitch t_word x.2.2.2.2.1 x.1 x.2.1 x.2.2.1).bind fun o9 =>
        gd (inb (x.2.2.2.1 9) 41) (gd (bz o9.1) (
        gd (inb (o9.2.1 9) 41) (
        (if ((upd x.2.2.2.2.2 (x.2.2.2.1 9).toNatClampNeg o9.1) (o9.2.1 9).toNatClampNeg) = 0 then
          b_X6_findDepths_71 fu t_L t_rows_R t_kind t_pitch t_word k_24 x.1 x.2.1 x.2.2.1 (o9.2.1 42) (0 : Int32) o9.2.1 o9.2.2 (upd x.2.2.2.2.2 (x.2.2.2.1 9).toNatClampNeg o9.1)
        else
          b_X6_findDepths_71 fu t_L t_rows_R t_kind t_pitch t_word k_24 x.1 x.2.1 x.2.2.1 (o9.2.1 42) (1 : Int32) o9.2.1 o9.2.2 (upd x.2.2.2.2.2 (x.2.2.2.1 9).toNatClampNeg o9.1))))))
def m_X6_findDepths (fu : Nat) (t : Nat → Int32) (t_L : Nat → Int64) (t_rows_R : Nat → Nat → Int64) (t_kind : Nat → Int32) (t_pitch : Nat → Int32) (t_word : Nat → Int32) (t_heard : Nat → Int32) (t_may : Nat → Int32) (l1 : Int32) (l2 : Int32) (l3 : Int32) : Option ((Nat → Int32) × (Nat → Int32) × (Nat → Int32)) :=
  (m_X6_keeps fu t t_L).bind fun o15 =>
  lfix (b_X6_findDepths_24 fu t_L t_rows_R t_kind t_pitch t_word) fu (l1, l2, l3, (upd (upd (upd (upd o15 42 (0 : Int32)) 43 (-1 : Int32)) 44 (-1 : Int32)) 9 (0 : Int32)), t_heard, t_may)
abbrev rm_X6_findDepths : Room := ({ frames := 4, cells := 0, slots := 0, locals := 94 } : Room)
abbrev w0_X6_findDepths (cA : Nat → ClassId) (am : Nat → Nat) (tkv : Value) (ttv : Value) (t : Nat → Int32) (t_L : Nat → Int64) (t_rows_R : Nat → Nat → Int64) (t_kind : Nat → Int32) (t_pitch : Nat → Int32) (t_word : Nat → Int32) (t_heard : Nat → Int32) (t_may : Nat → Int32) : va_W := [((am 0), e_X6 am tkv ttv t t_L), ((am 4), eOJ cA am 5), (am 5, eJ cA 40 (t_rows_R 0)), (am 6, eJ cA 40 (t_rows_R 1)), (am 7, eJ cA 40 (t_rows_R 2)), (am 8, eJ cA 40 (t_rows_R 3)), (am 9, eJ cA 40 (t_rows_R 4)), (am 10, eJ cA 40 (t_rows_R 5)), (am 11, eJ cA 40 (t_rows_R 6)), (am 12, eJ cA 40 (t_rows_R 7)), ((am 17), eI cA 8 t_kind), ((am 19), eI cA 8 t_pitch), ((am 21), eI cA 12 t_word), ((am 22), eI cA 13 t_heard), ((am 24), eZ cA 41 t_may)]
abbrev w1_X6_findDepths (cA : Nat → ClassId) (am : Nat → Nat) (tkv : Value) (ttv : Value) (t_L : Nat → Int64) (t_rows_R : Nat → Nat → Int64) (t_kind : Nat → Int32) (t_pitch : Nat → Int32) (t_word : Nat → Int32) (u : (Nat → Int32) × (Nat → Int32) × (Nat → Int32)) : va_W := [((am 0), e_X6 am tkv ttv u.1 t_L), ((am 4), eOJ cA am 5), (am 5, eJ cA 40 (t_rows_R 0)), (am 6, eJ cA 40 (t_rows_R 1)), (am 7, eJ cA 40 (t_rows_R 2)), (am 8, eJ cA 40 (t_rows_R 3)), (am 9, eJ cA 40 (t_rows_R 4)), (am 10, eJ cA 40 (t_rows_R 5)), (am 11, eJ cA 40 (t_rows_R 6)), (am 12, eJ cA 40 (t_rows_R 7)), ((am 17), eI cA 8 t_kind), ((am 19), eI cA 8 t_pitch), ((am 21), eI cA 12 t_word), ((am 22), eI cA 13 u.2.1), ((am 24), eZ cA 41 u.2.2)]
theorem hd_X6_findDepths : yX6_findDepths.cls = RX6 ∧ yX6_findDepths.cls ≠ "java/lang/invoke/MethodHandle" ∧ yX6_findDepths.cls ≠ "java/lang/invoke/VarHandle" ∧ (parseMethodDescriptor yX6_findDepths.desc).map (fun d => d.parameters.length) = some 3 := by decide +kernel
set_option maxHeartbeats 40000000 in
set_option maxRecDepth 100000 in
theorem c_X6_findDepths (l : Launch) (D : va_G) (cA : Nat → ClassId) (sz : Nat) (fu : Nat) (am : Nat → Nat) (tkv : Value) (ttv : Value) (t : Nat → Int32) (t_L : Nat → Int64) (t_rows_R : Nat → Nat → Int64) (t_kind : Nat → Int32) (t_pitch : Nat → Int32) (t_word : Nat → Int32) (t_heard : Nat → Int32) (t_may : Nat → Int32) (l1 : Int32) (l2 : Int32) (l3 : Int32) (out : (Nat → Int32) × (Nat → Int32) × (Nat → Int32)) (hm : m_X6_findDepths fu t t_L t_rows_R t_kind t_pitch t_word t_heard t_may l1 l2 l3 = some out) : MV l yX6_findDepths (wU yX6_findDepths cX6_findDepths 4 ((Option.none : Option Jvm.ClassFile.FieldType))) rm_X6_findDepths D cA sz [.ref (am 0), .int l1, .int l2, .int l3] (w0_X6_findDepths cA am tkv ttv t t_L t_rows_R t_kind t_pitch t_word t_heard t_may) out (w1_X6_findDepths cA am tkv ttv t_L t_rows_R t_kind t_pitch t_word) := by
  refine Met.ofW (cc := cX6_findDepths) (maxL := 4) (ret := (Option.none : Option Jvm.ClassFile.FieldType)) (by decide) rfl ?_
  intro p e s m args below meth c s₁ B hml hv
  obtain ⟨hargs, hsz, hP, hK, hD0, hN⟩ := hv
  have hx := B.exec
  have hb := B.bytes
  have hr := B.returns
  have htg : ∀ w ∈ gw, w.before args s = true := fun w h => atoms_spec (ws := wU yX6_findDepths cX6_findDepths 4 ((Option.none : Option Jvm.ClassFile.FieldType))) B.pre w (List.mem_cons_of_mem _ h)
  have hown : s.vm.findClass RX6 = some m.cls := findClass_of_methodNamed B.named
  have hlocks := B.notSynchronized
  subst hsz
  have hD := hD0.self (sz := s.heap.size)
  have hA : ∀ q : Nat, s.heap.size ≤ q → va_A (w0_X6_findDepths cA am tkv ttv t t_L t_rows_R t_kind t_pitch t_word t_heard t_may) s.heap.size q := fun q h => Or.inr h
  have hS : va_S (va_A (w0_X6_findDepths cA am tkv ttv t t_L t_rows_R t_kind t_pitch t_word t_heard t_may) s.heap.size) s.heap s.heap [] := va_S.rf
  generalize va_A (w0_X6_findDepths cA am tkv ttv t t_L t_rows_R t_kind t_pitch t_word t_heard t_may) s.heap.size = A at hA hD hS ⊢
  obtain ⟨Q, hQ⟩ : ∃ Q : State → Prop, Q = MQ below (va_Qv (fun (u : (Nat → Int32) × (Nat → Int32) × (Nat → Int32)) => u = out) (pst0 D cA A (w1_X6_findDepths cA am tkv ttv t_L t_rows_R t_kind t_pitch t_word)) A) args s 0 0 A := ⟨_, rfl⟩
  refine (?_ : W p l e rm_X6_findDepths s m args below meth c s.heap [] 0 0 (MQ below (va_Qv (fun (u : (Nat → Int32) × (Nat → Int32) × (Nat → Int32)) => u = out) (pst0 D cA A (w1_X6_findDepths cA am tkv ttv t_L t_rows_R t_kind t_pitch t_word)) A) args s 0 0 A) (entryFrame m args 4))
  rw [← hQ]
  have hP : va_P D CL [((am 0), e_X6 am tkv ttv t t_L), ((am 4), eOJ cA am 5), (am 5, eJ cA 40 (t_rows_R 0)), (am 6, eJ cA 40 (t_rows_R 1)), (am 7, eJ cA 40 (t_rows_R 2)), (am 8, eJ cA 40 (t_rows_R 3)), (am 9, eJ cA 40 (t_rows_R 4)), (am 10, eJ cA 40 (t_rows_R 5)), (am 11, eJ cA 40 (t_rows_R 6)), (am 12, eJ cA 40 (t_rows_R 7)), ((am 17), eI cA 8 t_kind), ((am 19), eI cA 8 t_pitch), ((am 21), eI cA 12 t_word), ((am 22), eI cA 13 t_heard), ((am 24), eZ cA 41 t_may)] s.heap := hP
  have hD : va_D A [((am 0), e_X6 am tkv ttv t t_L), ((am 4), eOJ cA am 5), (am 5, eJ cA 40 (t_rows_R 0)), (am 6, eJ cA 40 (t_rows_R 1)), (am 7, eJ cA 40 (t_rows_R 2)), (am 8, eJ cA 40 (t_rows_R 3)), (am 9, eJ cA 40 (t_rows_R 4)), (am 10, eJ cA 40 (t_rows_R 5)), (am 11, eJ cA 40 (t_rows_R 6)), (am 12, eJ cA 40 (t_rows_R 7)), ((am 17), eI cA 8 t_kind), ((am 19), eI cA 8 t_pitch), ((am 21), eI cA 12 t_word), ((am 22), eI cA 13 t_heard), ((am 24), eZ cA 41 t_may)] := hD
  have B_134 : ∀ (k_24 : (Int32 × Int32 × Int32 × (Nat → Int32) × (Nat → Int32) × (Nat → Int32)) → Option ((Nat → Int32) × (Nat → Int32) × (Nat → Int32))) (HK_24 : ∀ (x : Int32 × Int32 × Int32 × (Nat → Int32) × (Nat → Int32) × (Nat → Int32)) (H : Heap) (locs : List Loc) (ls : Array Slot), k_24 x = some out → va_P D CL [((am 0), e_X6 am tkv ttv x.2.2.2.1 t_L), ((am 4), eOJ cA am 5), (am 5, eJ cA 40 (t_rows_R 0)), (am 6, eJ cA 40 (t_rows_R 1)), (am 7, eJ cA 40 (t_rows_R 2)), (am 8, eJ cA 40 (t_rows_R 3)), (am 9, eJ cA 40 (t_rows_R 4)), (am 10, eJ cA 40 (t_rows_R 5)), (am 11, eJ cA 40 (t_rows_R 6)), (am 12, eJ cA 40 (t_rows_R 7)), ((am 17), eI cA 8 t_kind), ((am 19), eI cA 8 t_pitch), ((am 21), eI cA 12 t_word), ((am 22), eI cA 13 x.2.2.2.2.1), ((am 24), eZ cA 41 x.2.2.2.2.2)] H → va_D A [((am 0), e_X6 am tkv ttv x.2.2.2.1 t_L), ((am 4), eOJ cA am 5), (am 5, eJ cA 40 (t_rows_R 0)), (am 6, eJ cA 40 (t_rows_R 1)), (am 7, eJ cA 40 (t_rows_R 2)), (am 8, eJ cA 40 (t_rows_R 3)), (am 9, eJ cA 40 (t_rows_R 4)), (am 10, eJ cA 40 (t_rows_R 5)), (am 11, eJ cA 40 (t_rows_R 6)), (am 12, eJ cA 40 (t_rows_R 7)), ((am 17), eI cA 8 t_kind), ((am 19), eI cA 8 t_pitch), ((am 21), eI cA 12 t_word), ((am 22), eI cA 13 x.2.2.2.2.1), ((am 24), eZ cA 41 x.2.2.2.2.2)] → va_S A s.heap H locs → lv_has ls 4 [(0, .ref (am 0)), (1, .int x.1), (2, .int x.2.1), (3, .int x.2.2.1)] → W p l e rm_X6_findDepths s m args below meth c H locs 0 0 Q (F0 m 24 ls [])) (l1 : Int32) (l2 : Int32) (l3 : Int32) (s1 : Int32) (t : Nat → Int32) (t_heard : Nat → Int32) (t_may : Nat → Int32) (H : Heap) (locs : List Loc) (ls : Array Slot), b_X6_findDepths_134 fu t_L t_rows_R t_kind t_pitch t_word k_24 l1 l2 l3 s1 t t_heard t_may = some out → va_P D CL [((am 0), e_X6 am tkv ttv t t_L), ((am 4), eOJ cA am 5), (am 5, eJ cA 40 (t_rows_R 0)), (am 6, eJ cA 40 (t_rows_R 1)), (am 7, eJ cA 40 (t_rows_R 2)), (am 8, eJ cA 40 (t_rows_R 3)), (am 9, eJ cA 40 (t_rows_R 4)), (am 10, eJ cA 40 (t_rows_R 5)), (am 11, eJ cA 40 (t_rows_R 6)), (am 12, eJ cA 40 (t_rows_R 7)), ((am 17), eI cA 8 t_kind), ((am 19), eI cA 8 t_pitch), ((am 21), eI cA 12 t_word), ((am 22), eI cA 13 t_heard), ((am 24), eZ cA 41 t_may)] H → va_D A [((am 0), e_X6 am tkv ttv t t_L), ((am 4), eOJ cA am 5), (am 5, eJ cA 40 (t_rows_R 0)), (am 6, eJ cA 40 (t_rows_R 1)), (am 7, eJ cA 40 (t_rows_R 2)), (am 8, eJ cA 40 (t_rows_R 3)), (am 9, eJ cA 40 (t_rows_R 4)), (am 10, eJ cA 40 (t_rows_R 5)), (am 11, eJ cA 40 (t_rows_R 6)), (am 12, eJ cA 40 (t_rows_R 7)), ((am 17), eI cA 8 t_kind), ((am 19), eI cA 8 t_pitch), ((am 21), eI cA 12 t_word), ((am 22), eI cA 13 t_heard), ((am 24), eZ cA 41 t_may)] → va_S A s.heap H locs → lv_has ls 4 [(0, .ref (am 0)), (1, .int l1), (2, .int l2), (3, .int l3)] → W p l e rm_X6_findDepths s m args below meth c H locs 0 0 Q (F0 m 134 ls [.int s1, .ref (am 0)]) := by
    intro k_24 HK_24 l1 l2 l3 s1 t t_heard t_may H locs ls hm hP hD hS hl
    unfold b_X6_findDepths_134 at hm
    refine va_put (D := D) (ci := 6) (v := .int s1) (ty := .int) (C := RX6) (T := TX6) (N := 49) hx hb htg inX6 tyX6 tyX6_ok nmX6 hown hK hP hD hS 0 rfl rfl 44 (by decide) (htg _ q_4_233) (fun _ h9 => h9) rfl (by decide +kernel) rfl rfl (Nat.le_of_ble_eq_true rfl) dX6_findDepths_134 (fun H locs (hP : va_P D CL [((am 0), e_X6 am tkv ttv (upd t 44 s1) t_L), ((am 4), eOJ cA am 5), (am 5, eJ cA 40 (t_rows_R 0)), (am 6, eJ cA 40 (t_rows_R 1)), (am 7, eJ cA 40 (t_rows_R 2)), (am 8, eJ cA 40 (t_rows_R 3)), (am 9, eJ cA 40 (t_rows_R 4)), (am 10, eJ cA 40 (t_rows_R 5)), (am 11, eJ cA 40 (t_rows_R 6)), (am 12, eJ cA 40 (t_rows_R 7)), ((am 17), eI cA 8 t_kind), ((am 19), eI cA 8 t_pitch), ((am 21), eI cA 12 t_word), ((am 22), eI cA 13 t_heard), ((am 24), eZ cA 41 t_may)] H) (hD : va_D A [((am 0), e_X6 am tkv ttv (upd t 44 s1) t_L), ((am 4), eOJ cA am 5), (am 5, eJ cA 40 (t_rows_R 0)), (am 6, eJ cA 40 (t_rows_R 1)), (am 7, eJ cA 40 (t_rows_R 2)), (am 8, eJ cA 40 (t_rows_R 3)), (am 9, eJ cA 40 (t_rows_R 4)), (am 10, eJ cA 40 (t_rows_R 5)), (am 11, eJ cA 40 (t_rows_R 6)), (am 12, eJ cA 40 (t_rows_R 7)), ((am 17), eI cA 8 t_kind), ((am 19), eI cA 8 t_pitch), ((am 21), eI cA 12 t_word), ((am 22), eI cA 13 t_heard), ((am 24), eZ cA 41 t_may)]) hS => ?_)
    refine lv_aload_n hx hb dX6_findDepths_137 rfl (lv_at hl 0 rfl) ?_
    refine lv_dup hx hb dX6_findDepths_138 rfl ?_
    refine va_get (D := D) (ci := 6) (v := .int (t 9)) (C := RX6) (T := TX6) (N := 49) hx hb htg inX6 hown hK hP 0 rfl rfl 9 (by decide) (htg _ q_4_198) (fun _ h9 => h9) rfl dX6_findDepths_139 ?_
    refine lv_iconst (v := (1 : Int32)) hx hb dX6_findDepths_142 (by decide) ?_
    refine lv_iadd hx hb dX6_findDepths_143 ?_
    refine va_put (D := D) (ci := 6) (v := .int (t 9 + (1 : Int32))) (ty := .int) (C := RX6) (T := TX6) (N := 49) hx hb htg inX6 tyX6 tyX6_ok nmX6 hown hK hP hD hS 0 rfl rfl 9 (by decide) (htg _ q_4_198) (fun _ h9 => h9) rfl (by decide +kernel) rfl rfl (Nat.le_of_ble_eq_true rfl) dX6_findDepths_144 (fun H locs (hP : va_P D CL [((am 0), e_X6 am tkv ttv (upd (upd t 44 s1) 9 (t 9 + (1 : Int32))) t_L), ((am 4), eOJ cA am 5), (am 5, eJ cA 40 (t_rows_R 0)), (am 6, eJ cA 40 (t_rows_R 1)), (am 7, eJ cA 40 (t_rows_R 2)), (am 8, eJ cA 40 (t_rows_R 3)), (am 9, eJ cA 40 (t_rows_R 4)), (am 10, eJ cA 40 (t_rows_R 5)), (am 11, eJ cA 40 (t_rows_R 6)), (am 12, eJ cA 40 (t_rows_R 7)), ((am 17), eI cA 8 t_kind), ((am 19), eI cA 8 t_pitch), ((am 21), eI cA 12 t_word), ((am 22), eI cA 13 t_heard), ((am 24), eZ cA 41 t_may)] H) (hD : va_D A [((am 0), e_X6 am tkv ttv (upd (upd t 44 s1) 9 (t 9 + (1 : Int32))) t_L), ((am 4), eOJ cA am 5), (am 5, eJ cA 40 (t_rows_R 0)), (am 6, eJ cA 40 (t_rows_R 1)), (am 7, eJ cA 40 (t_rows_R 2)), (am 8, eJ cA 40 (t_rows_R 3)), (am 9, eJ cA 40 (t_rows_R 4)), (am 10, eJ cA 40 (t_rows_R 5)), (am 11, eJ cA 40 (t_rows_R 6)), (am 12, eJ cA 40 (t_rows_R 7)), ((am 17), eI cA 8 t_kind), ((am 19), eI cA 8 t_pitch), ((am 21), eI cA 12 t_word), ((am 22), eI cA 13 t_heard), ((am 24), eZ cA 41 t_may)]) hS => ?_)
    refine lv_goto (tgt := 24) hx hb dX6_findDepths_147 (by decide) ?_
    exact HK_24 _ _ _ _ hm hP hD hS (lv_sub hl [0, 1, 2, 3] rfl)
  have B_107 : ∀ (k_24 : (Int32 × Int32 × Int32 × (Nat → Int32) × (Nat → Int32) × (Nat → Int32)) → Option ((Nat → Int32) × (Nat → Int32) × (Nat → Int32))) (HK_24 : ∀ (x : Int32 × Int32 × Int32 × (Nat → Int32) × (Nat → Int32) × (Nat → Int32)) (H : Heap) (locs : List Loc) (ls : Array Slot), k_24 x = some out → va_P D CL [((am 0), e_X6 am tkv ttv x.2.2.2.1 t_L), ((am 4), eOJ cA am 5), (am 5, eJ cA 40 (t_rows_R 0)), (am 6, eJ cA 40 (t_rows_R 1)), (am 7, eJ cA 40 (t_rows_R 2)), (am 8, eJ cA 40 (t_rows_R 3)), (am 9, eJ cA 40 (t_rows_R 4)), (am 10, eJ cA 40 (t_rows_R 5)), (am 11, eJ cA 40 (t_rows_R 6)), (am 12, eJ cA 40 (t_rows_R 7)), ((am 17), eI cA 8 t_kind), ((am 19), eI cA 8 t_pitch), ((am 21), eI cA 12 t_word), ((am 22), eI cA 13 x.2.2.2.2.1), ((am 24), eZ cA 41 x.2.2.2.2.2)] H → va_D A [((am 0), e_X6 am tkv ttv x.2.2.2.1 t_L), ((am 4), eOJ cA am 5), (am 5, eJ cA 40 (t_rows_R 0)), (am 6, eJ cA 40 (t_rows_R 1)), (am 7, eJ cA 40 (t_rows_R 2)), (am 8, eJ cA 40 (t_rows_R 3)), (am 9, eJ cA 40 (t_rows_R 4)), (am 10, eJ cA 40 (t_rows_R 5)), (am 11, eJ cA 40 (t_rows_R 6)), (am 12, eJ cA 40 (t_rows_R 7)), ((am 17), eI cA 8 t_kind), ((am 19), eI cA 8 t_pitch), ((am 21), eI cA 12 t_word), ((am 22), eI cA 13 x.2.2.2.2.1), ((am 24), eZ cA 41 x.2.2.2.2.2)] → va_S A s.heap H locs → lv_has ls 4 [(0, .ref (am 0)), (1, .int x.1), (2, .int x.2.1), (3, .int x.2.2.1)] → W p l e rm_X6_findDepths s m args below meth c H locs 0 0 Q (F0 m 24 ls [])) (l1 : Int32) (l2 : Int32) (l3 : Int32) (s1 : Int32) (t : Nat → Int32) (t_heard : Nat → Int32) (t_may : Nat → Int32) (H : Heap) (locs : List Loc) (ls : Array Slot), b_X6_findDepths_107 fu t_L t_rows_R t_kind t_pitch t_word k_24 l1 l2 l3 s1 t t_heard t_may = some out → va_P D CL [((am 0), e_X6 am tkv ttv t t_L), ((am 4), eOJ cA am 5), (am 5, eJ cA 40 (t_rows_R 0)), (am 6, eJ cA 40 (t_rows_R 1)), (am 7, eJ cA 40 (t_rows_R 2)), (am 8, eJ cA 40 (t_rows_R 3)), (am 9, eJ cA 40 (t_rows_R 4)), (am 10, eJ cA 40 (t_rows_R 5)), (am 11, eJ cA 40 (t_rows_R 6)), (am 12, eJ cA 40 (t_rows_R 7)), ((am 17), eI cA 8 t_kind), ((am 19), eI cA 8 t_pitch), ((am 21), eI cA 12 t_word), ((am 22), eI cA 13 t_heard), ((am 24), eZ cA 41 t_may)] H → va_D A [((am 0), e_X6 am tkv ttv t t_L), ((am 4), eOJ cA am 5), (am 5, eJ cA 40 (t_rows_R 0)), (am 6, eJ cA 40 (t_rows_R 1)), (am 7, eJ cA 40 (t_rows_R 2)), (am 8, eJ cA 40 (t_rows_R 3)), (am 9, eJ cA 40 (t_rows_R 4)), (am 10, eJ cA 40 (t_rows_R 5)), (am 11, eJ cA 40 (t_rows_R 6)), (am 12, eJ cA 40 (t_rows_R 7)), ((am 17), eI cA 8 t_kind), ((am 19), eI cA 8 t_pitch), ((am 21), eI cA 12 t_word), ((am 22), eI cA 13 t_heard), ((am 24), eZ cA 41 t_may)] → va_S A s.heap H locs → lv_has ls 4 [(0, .ref (am 0)), (1, .int l1), (2, .int l2), (3, .int l3)] → W p l e rm_X6_findDepths s m args below meth c H locs 0 0 Q (F0 m 107 ls [.int s1, .ref (am 0)]) := by
    intro k_24 HK_24 l1 l2 l3 s1 t t_heard t_may H locs ls hm hP hD hS hl
    unfold b_X6_findDepths_107 at hm
    refine va_put (D := D) (ci := 6) (v := .int s1) (ty := .int) (C := RX6) (T := TX6) (N := 49) hx hb htg inX6 tyX6 tyX6_ok nmX6 hown hK hP hD hS 0 rfl rfl 43 (by decide) (htg _ q_4_232) (fun _ h9 => h9) rfl (by decide +kernel) rfl rfl (Nat.le_of_ble_eq_true rfl) dX6_findDepths_107 (fun H locs (hP : va_P D CL [((am 0), e_X6 am tkv ttv (upd t 43 s1) t_L), ((am 4), eOJ cA am 5), (am 5, eJ cA 40 (t_rows_R 0)), (am 6, eJ cA 40 (t_rows_R 1)), (am 7, eJ cA 40 (t_rows_R 2)), (am 8, eJ cA 40 (t_rows_R 3)), (am 9, eJ cA 40 (t_rows_R 4)), (am 10, eJ cA 40 (t_rows_R 5)), (am 11, eJ cA 40 (t_rows_R 6)), (am 12, eJ cA 40 (t_rows_R 7)), ((am 17), eI cA 8 t_kind), ((am 19), eI cA 8 t_pitch), ((am 21), eI cA 12 t_word), ((am 22), eI cA 13 t_heard), ((am 24), eZ cA 41 t_may)] H) (hD : va_D A [((am 0), e_X6 am tkv ttv (upd t 43 s1) t_L), ((am 4), eOJ cA am 5), (am 5, eJ cA 40 (t_rows_R 0)), (am 6, eJ cA 40 (t_rows_R 1)), (am 7, eJ cA 40 (t_rows_R 2)), (am 8, eJ cA 40 (t_rows_R 3)), (am 9, eJ cA 40 (t_rows_R 4)), (am 10, eJ cA 40 (t_rows_R 5)), (am 11, eJ cA 40 (t_rows_R 6)), (am 12, eJ cA 40 (t_rows_R 7)), ((am 17), eI cA 8 t_kind), ((am 19), eI cA 8 t_pitch), ((am 21), eI cA 12 t_word), ((am 22), eI cA 13 t_heard), ((am 24), eZ cA 41 t_may)]) hS => ?_)
    refine lv_aload_n hx hb dX6_findDepths_110 rfl (lv_at hl 0 rfl) ?_
    refine lv_aload_n hx hb dX6_findDepths_111 rfl (lv_at hl 0 rfl) ?_
    refine va_get (D := D) (ci := 6) (v := .ref (am 24)) (C := RX6) (T := TX6) (N := 49) hx hb htg inX6 hown hK hP 0 rfl rfl 41 (by decide) (htg _ q_4_230) (fun _ h9 => h9) rfl dX6_findDepths_112 ?_
    refine lv_aload_n hx hb dX6_findDepths_115 rfl (lv_at hl 0 rfl) ?_
    refine va_get (D := D) (ci := 6) (v := .int (t 9)) (C := RX6) (T := TX6) (N := 49) hx hb htg inX6 hown hK hP 0 rfl rfl 9 (by decide) (htg _ q_4_198) (fun _ h9 => h9) rfl dX6_findDepths_116 ?_
    obtain ⟨hi1, hm⟩ := gd_s hm
    refine va_zald hx hb hK hP 14 2 rfl rfl hi1 dX6_findDepths_119 ?_
    refine lv_if_eq (tgt := 130) hx hb dX6_findDepths_120 (by decide) (fun c2 => ?_) (fun c2 => ?_)
    · have hm := it_t c2 hm
      refine lv_aload_n hx hb dX6_findDepths_130 rfl (lv_at hl 0 rfl) ?_
      refine va_get (D := D) (ci := 6) (v := .int (t 44)) (C := RX6) (T := TX6) (N := 49) hx hb htg inX6 hown hK hP 0 rfl rfl 44 (by decide) (htg _ q_4_233) (fun _ h9 => h9) rfl dX6_findDepths_131 ?_
      exact B_134 _ HK_24 _ _ _ _ _ _ _ _ _ _ hm hP hD hS (lv_sub hl [0, 1, 2, 3] rfl)
    · have hm := it_f c2 hm
      refine lv_aload_n hx hb dX6_findDepths_123 rfl (lv_at hl 0 rfl) ?_
      refine va_get (D := D) (ci := 6) (v := .int (t 9)) (C := RX6) (T := TX6) (N := 49) hx hb htg inX6 hown hK hP 0 rfl rfl 9 (by decide) (htg _ q_4_198) (fun _ h9 => h9) rfl dX6_findDepths_124 ?_
      refine lv_goto (tgt := 134) hx hb dX6_findDepths_127 (by decide) ?_
      exact B_134 _ HK_24 _ _ _ _ _ _ _ _ _ _ hm hP hD hS (lv_sub hl [0, 1, 2, 3] rfl)
  have B_103 : ∀ (k_24 : (Int32 × Int32 × Int32 × (Nat → Int32) × (Nat → Int32) × (Nat → Int32)) → Option ((Nat → Int32) × (Nat → Int32) × (Nat → Int32))) (HK_24 : ∀ (x : Int32 × Int32 × Int32 × (Nat → Int32) × (Nat → Int32) × (Nat → Int32)) (H : Heap) (locs : List Loc) (ls : Array Slot), k_24 x = some out → va_P D CL [((am 0), e_X6 am tkv ttv x.2.2.2.1 t_L), ((am 4), eOJ cA am 5), (am 5, eJ cA 40 (t_rows_R 0)), (am 6, eJ cA 40 (t_rows_R 1)), (am 7, eJ cA 40 (t_rows_R 2)), (am 8, eJ cA 40 (t_rows_R 3)), (am 9, eJ cA 40 (t_rows_R 4)), (am 10, eJ cA 40 (t_rows_R 5)), (am 11, eJ cA 40 (t_rows_R 6)), (am 12, eJ cA 40 (t_rows_R 7)), ((am 17), eI cA 8 t_kind), ((am 19), eI cA 8 t_pitch), ((am 21), eI cA 12 t_word), ((am 22), eI cA 13 x.2.2.2.2.1), ((am 24), eZ cA 41 x.2.2.2.2.2)] H → va_D A [((am 0), e_X6 am tkv ttv x.2.2.2.1 t_L), ((am 4), eOJ cA am 5), (am 5, eJ cA 40 (t_rows_R 0)), (am 6, eJ cA 40 (t_rows_R 1)), (am 7, eJ cA 40 (t_rows_R 2)), (am 8, eJ cA 40 (t_rows_R 3)), (am 9, eJ cA 40 (t_rows_R 4)), (am 10, eJ cA 40 (t_rows_R 5)), (am 11, eJ cA 40 (t_rows_R 6)), (am 12, eJ cA 40 (t_rows_R 7)), ((am 17), eI cA 8 t_kind), ((am 19), eI cA 8 t_pitch), ((am 21), eI cA 12 t_word), ((am 22), eI cA 13 x.2.2.2.2.1), ((am 24), eZ cA 41 x.2.2.2.2.2)] → va_S A s.heap H locs → lv_has ls 4 [(0, .ref (am 0)), (1, .int x.1), (2, .int x.2.1), (3, .int x.2.2.1)] → W p l e rm_X6_findDepths s m args below meth c H locs 0 0 Q (F0 m 24 ls [])) (l1 : Int32) (l2 : Int32) (l3 : Int32) (t : Nat → Int32) (t_heard : Nat → Int32) (t_may : Nat → Int32) (H : Heap) (locs : List Loc) (ls : Array Slot), b_X6_findDepths_103 fu t_L t_rows_R t_kind t_pitch t_word k_24 l1 l2 l3 t t_heard t_may = some out → va_P D CL [((am 0), e_X6 am tkv ttv t t_L), ((am 4), eOJ cA am 5), (am 5, eJ cA 40 (t_rows_R 0)), (am 6, eJ cA 40 (t_rows_R 1)), (am 7, eJ cA 40 (t_rows_R 2)), (am 8, eJ cA 40 (t_rows_R 3)), (am 9, eJ cA 40 (t_rows_R 4)), (am 10, eJ cA 40 (t_rows_R 5)), (am 11, eJ cA 40 (t_rows_R 6)), (am 12, eJ cA 40 (t_rows_R 7)), ((am 17), eI cA 8 t_kind), ((am 19), eI cA 8 t_pitch), ((am 21), eI cA 12 t_word), ((am 22), eI cA 13 t_heard), ((am 24), eZ cA 41 t_may)] H → va_D A [((am 0), e_X6 am tkv ttv t t_L), ((am 4), eOJ cA am 5), (am 5, eJ cA 40 (t_rows_R 0)), (am 6, eJ cA 40 (t_rows_R 1)), (am 7, eJ cA 40 (t_rows_R 2)), (am 8, eJ cA 40 (t_rows_R 3)), (am 9, eJ cA 40 (t_rows_R 4)), (am 10, eJ cA 40 (t_rows_R 5)), (am 11, eJ cA 40 (t_rows_R 6)), (am 12, eJ cA 40 (t_rows_R 7)), ((am 17), eI cA 8 t_kind), ((am 19), eI cA 8 t_pitch), ((am 21), eI cA 12 t_word), ((am 22), eI cA 13 t_heard), ((am 24), eZ cA 41 t_may)] → va_S A s.heap H locs → lv_has ls 4 [(0, .ref (am 0)), (1, .int l1), (2, .int l2), (3, .int l3)] → W p l e rm_X6_findDepths s m args below meth c H locs 0 0 Q (F0 m 103 ls [.ref (am 0)]) := by
    intro k_24 HK_24 l1 l2 l3 t t_heard t_may H locs ls hm hP hD hS hl
    unfold b_X6_findDepths_103 at hm
    refine lv_aload_n hx hb dX6_findDepths_103 rfl (lv_at hl 0 rfl) ?_
    refine va_get (D := D) (ci := 6) (v := .int (t 43)) (C := RX6) (T := TX6) (N := 49) hx hb htg inX6 hown hK hP 0 rfl rfl 43 (by decide) (htg _ q_4_232) (fun _ h9 => h9) rfl dX6_findDepths_104 ?_
    exact B_107 _ HK_24 _ _ _ _ _ _ _ _ _ _ hm hP hD hS (lv_sub hl [0, 1, 2, 3] rfl)
  have B_71 : ∀ (k_24 : (Int32 × Int32 × Int32 × (Nat → Int32) × (Nat → Int32) × (Nat → Int32)) → Option ((Nat → Int32) × (Nat → Int32) × (Nat → Int32))) (HK_24 : ∀ (x : Int32 × Int32 × Int32 × (Nat → Int32) × (Nat → Int32) × (Nat → Int32)) (H : Heap) (locs : List Loc) (ls : Array Slot), k_24 x = some out → va_P D CL [((am 0), e_X6 am tkv ttv x.2.2.2.1 t_L), ((am 4), eOJ cA am 5), (am 5, eJ cA 40 (t_rows_R 0)), (am 6, eJ cA 40 (t_rows_R 1)), (am 7, eJ cA 40 (t_rows_R 2)), (am 8, eJ cA 40 (t_rows_R 3)), (am 9, eJ cA 40 (t_rows_R 4)), (am 10, eJ cA 40 (t_rows_R 5)), (am 11, eJ cA 40 (t_rows_R 6)), (am 12, eJ cA 40 (t_rows_R 7)), ((am 17), eI cA 8 t_kind), ((am 19), eI cA 8 t_pitch), ((am 21), eI cA 12 t_word), ((am 22), eI cA 13 x.2.2.2.2.1), ((am 24), eZ cA 41 x.2.2.2.2.2)] H → va_D A [((am 0), e_X6 am tkv ttv x.2.2.2.1 t_L), ((am 4), eOJ cA am 5), (am 5, eJ cA 40 (t_rows_R 0)), (am 6, eJ cA 40 (t_rows_R 1)), (am 7, eJ cA 40 (t_rows_R 2)), (am 8, eJ cA 40 (t_rows_R 3)), (am 9, eJ cA 40 (t_rows_R 4)), (am 10, eJ cA 40 (t_rows_R 5)), (am 11, eJ cA 40 (t_rows_R 6)), (am 12, eJ cA 40 (t_rows_R 7)), ((am 17), eI cA 8 t_kind), ((am 19), eI cA 8 t_pitch), ((am 21), eI cA 12 t_word), ((am 22), eI cA 13 x.2.2.2.2.1), ((am 24), eZ cA 41 x.2.2.2.2.2)] → va_S A s.heap H locs → lv_has ls 4 [(0, .ref (am 0)), (1, .int x.1), (2, .int x.2.1), (3, .int x.2.2.1)] → W p l e rm_X6_findDepths s m args below meth c H locs 0 0 Q (F0 m 24 ls [])) (l1 : Int32) (l2 : Int32) (l3 : Int32) (s1 : Int32) (s2 : Int32) (t : Nat → Int32) (t_heard : Nat → Int32) (t_may : Nat → Int32) (H : Heap) (locs : List Loc) (ls : Array Slot), b_X6_findDepths_71 fu t_L t_rows_R t_kind t_pitch t_word k_24 l1 l2 l3 s1 s2 t t_heard t_may = some out → va_P D CL [((am 0), e_X6 am tkv ttv t t_L), ((am 4), eOJ cA am 5), (am 5, eJ cA 40 (t_rows_R 0)), (am 6, eJ cA 40 (t_rows_R 1)), (am 7, eJ cA 40 (t_rows_R 2)), (am 8, eJ cA 40 (t_rows_R 3)), (am 9, eJ cA 40 (t_rows_R 4)), (am 10, eJ cA 40 (t_rows_R 5)), (am 11, eJ cA 40 (t_rows_R 6)), (am 12, eJ cA 40 (t_rows_R 7)), ((am 17), eI cA 8 t_kind), ((am 19), eI cA 8 t_pitch), ((am 21), eI cA 12 t_word), ((am 22), eI cA 13 t_heard), ((am 24), eZ cA 41 t_may)] H → va_D A [((am 0), e_X6 am tkv ttv t t_L), ((am 4), eOJ cA am 5), (am 5, eJ cA 40 (t_rows_R 0)), (am 6, eJ cA 40 (t_rows_R 1)), (am 7, eJ cA 40 (t_rows_R 2)), (am 8, eJ cA 40 (t_rows_R 3)), (am 9, eJ cA 40 (t_rows_R 4)), (am 10, eJ cA 40 (t_rows_R 5)), (am 11, eJ cA 40 (t_rows_R 6)), (am 12, eJ cA 40 (t_rows_R 7)), ((am 17), eI cA 8 t_kind), ((am 19), eI cA 8 t_pitch), ((am 21), eI cA 12 t_word), ((am 22), eI cA 13 t_heard), ((am 24), eZ cA 41 t_may)] → va_S A s.heap H locs → lv_has ls 4 [(0, .ref (am 0)), (1, .int l1), (2, .int l2), (3, .int l3)] → W p l e rm_X6_findDepths s m args below meth c H locs 0 0 Q (F0 m 71 ls [.int s2, .int s1, .ref (am 0)]) := by
    intro k_24 HK_24 l1 l2 l3 s1 s2 t t_heard t_may H locs ls hm hP hD hS hl
    unfold b_X6_findDepths_71 at hm
    refine lv_iadd hx hb dX6_findDepths_71 ?_
    refine va_put (D := D) (ci := 6) (v := .int (s1 + s2)) (ty := .int) (C := RX6) (T := TX6) (N := 49) hx hb htg inX6 tyX6 tyX6_ok nmX6 hown hK hP hD hS 0 rfl rfl 42 (by decide) (htg _ q_4_231) (fun _ h9 => h9) rfl (by decide +kernel) rfl rfl (Nat.le_of_ble_eq_true rfl) dX6_findDepths_72 (fun H locs (hP : va_P D CL [((am 0), e_X6 am tkv ttv (upd t 42 (s1 + s2)) t_L), ((am 4), eOJ cA am 5), (am 5, eJ cA 40 (t_rows_R 0)), (am 6, eJ cA 40 (t_rows_R 1)), (am 7, eJ cA 40 (t_rows_R 2)), (am 8, eJ cA 40 (t_rows_R 3)), (am 9, eJ cA 40 (t_rows_R 4)), (am 10, eJ cA 40 (t_rows_R 5)), (am 11, eJ cA 40 (t_rows_R 6)), (am 12, eJ cA 40 (t_rows_R 7)), ((am 17), eI cA 8 t_kind), ((am 19), eI cA 8 t_pitch), ((am 21), eI cA 12 t_word), ((am 22), eI cA 13 t_heard), ((am 24), eZ cA 41 t_may)] H) (hD : va_D A [((am 0), e_X6 am tkv ttv (upd t 42 (s1 + s2)) t_L), ((am 4), eOJ cA am 5), (am 5, eJ cA 40 (t_rows_R 0)), (am 6, eJ cA 40 (t_rows_R 1)), (am 7, eJ cA 40 (t_rows_R 2)), (am 8, eJ cA 40 (t_rows_R 3)), (am 9, eJ cA 40 (t_rows_R 4)), (am 10, eJ cA 40 (t_rows_R 5)), (am 11, eJ cA 40 (t_rows_R 6)), (am 12, eJ cA 40 (t_rows_R 7)), ((am 17), eI cA 8 t_kind), ((am 19), eI cA 8 t_pitch), ((am 21), eI cA 12 t_word), ((am 22), eI cA 13 t_heard), ((am 24), eZ cA 41 t_may)]) hS => ?_)
    refine lv_aload_n hx hb dX6_findDepths_75 rfl (lv_at hl 0 rfl) ?_
    refine lv_aload_n hx hb dX6_findDepths_76 rfl (lv_at hl 0 rfl) ?_
    refine va_get (D := D) (ci := 6) (v := .ref (am 24)) (C := RX6) (T := TX6) (N := 49) hx hb htg inX6 hown hK hP 0 rfl rfl 41 (by decide) (htg _ q_4_230) (fun _ h9 => h9) rfl dX6_findDepths_77 ?_
    refine lv_aload_n hx hb dX6_findDepths_80 rfl (lv_at hl 0 rfl) ?_
    refine va_get (D := D) (ci := 6) (v := .int (t 9)) (C := RX6) (T := TX6) (N := 49) hx hb htg inX6 hown hK hP 0 rfl rfl 9 (by decide) (htg _ q_4_198) (fun _ h9 => h9) rfl dX6_findDepths_81 ?_
    obtain ⟨hi3, hm⟩ := gd_s hm
    refine va_zald hx hb hK hP 14 2 rfl rfl hi3 dX6_findDepths_84 ?_
    refine lv_if_eq (tgt := 103) hx hb dX6_findDepths_85 (by decide) (fun c4 => ?_) (fun c4 => ?_)
    · have hm := it_t c4 hm
      exact B_103 _ HK_24 _ _ _ _ _ _ _ _ _ hm hP hD hS (lv_sub hl [0, 1, 2, 3] rfl)
    · have hm := it_f c4 hm
      refine lv_aload_n hx hb dX6_findDepths_88 rfl (lv_at hl 0 rfl) ?_
      refine va_get (D := D) (ci := 6) (v := .int (t 43)) (C := RX6) (T := TX6) (N := 49) hx hb htg inX6 hown hK hP 0 rfl rfl 43 (by decide) (htg _ q_4_232) (fun _ h9 => h9) rfl dX6_findDepths_89 ?_
      refine lv_iconst (v := (-1 : Int32)) hx hb dX6_findDepths_92 (by decide) ?_
      refine lv_icmp_ne (tgt := 103) hx hb dX6_findDepths_93 (by decide) (fun c5 => ?_) (fun c5 => ?_)
      · have hm := it_f c5 hm
        exact B_103 _ HK_24 _ _ _ _ _ _ _ _ _ hm hP hD hS (lv_sub hl [0, 1, 2, 3] rfl)
      · have hm := it_t c5 hm
        refine lv_aload_n hx hb dX6_findDepths_96 rfl (lv_at hl 0 rfl) ?_
        refine va_get (D := D) (ci := 6) (v := .int (t 9)) (C := RX6) (T := TX6) (N := 49) hx hb htg inX6 hown hK hP 0 rfl rfl 9 (by decide) (htg _ q_4_198) (fun _ h9 => h9) rfl dX6_findDepths_97 ?_
        refine lv_goto (tgt := 107) hx hb dX6_findDepths_100 (by decide) ?_
        exact B_107 _ HK_24 _ _ _ _ _ _ _ _ _ _ hm hP hD hS (lv_sub hl [0, 1, 2, 3] rfl)
  have B_24 : ∀ (n : Nat) (x : Int32 × Int32 × Int32 × (Nat → Int32) × (Nat → Int32) × (Nat → Int32)) (H : Heap) (locs : List Loc) (ls : Array Slot), lfix (b_X6_findDepths_24 fu t_L t_rows_R t_kind t_pitch t_word) n x = some out → va_P D CL [((am 0), e_X6 am tkv ttv x.2.2.2.1 t_L), ((am 4), eOJ cA am 5), (am 5, eJ cA 40 (t_rows_R 0)), (am 6, eJ cA 40 (t_rows_R 1)), (am 7, eJ cA 40 (t_rows_R 2)), (am 8, eJ cA 40 (t_rows_R 3)), (am 9, eJ cA 40 (t_rows_R 4)), (am 10, eJ cA 40 (t_rows_R 5)), (am 11, eJ cA 40 (t_rows_R 6)), (am 12, eJ cA 40 (t_rows_R 7)), ((am 17), eI cA 8 t_kind), ((am 19), eI cA 8 t_pitch), ((am 21), eI cA 12 t_word), ((am 22), eI cA 13 x.2.2.2.2.1), ((am 24), eZ cA 41 x.2.2.2.2.2)] H → va_D A [((am 0), e_X6 am tkv ttv x.2.2.2.1 t_L), ((am 4), eOJ cA am 5), (am 5, eJ cA 40 (t_rows_R 0)), (am 6, eJ cA 40 (t_rows_R 1)), (am 7, eJ cA 40 (t_rows_R 2)), (am 8, eJ cA 40 (t_rows_R 3)), (am 9, eJ cA 40 (t_rows_R 4)), (am 10, eJ cA 40 (t_rows_R 5)), (am 11, eJ cA 40 (t_rows_R 6)), (am 12, eJ cA 40 (t_rows_R 7)), ((am 17), eI cA 8 t_kind), ((am 19), eI cA 8 t_pitch), ((am 21), eI cA 12 t_word), ((am 22), eI cA 13 x.2.2.2.2.1), ((am 24), eZ cA 41 x.2.2.2.2.2)] → va_S A s.heap H locs → lv_has ls 4 [(0, .ref (am 0)), (1, .int x.1), (2, .int x.2.1), (3, .int x.2.2.1)] → W p l e rm_X6_findDepths s m args below meth c H locs 0 0 Q (F0 m 24 ls []) := by
    intro  n
    induction n with
    | zero => intro x H locs ls hm; cases (show none = some out from hm)
    | succ n HK_24 =>
      intro x H locs ls hm hP hD hS hl
      replace hm : b_X6_findDepths_24 fu t_L t_rows_R t_kind t_pitch t_word (lfix (b_X6_findDepths_24 fu t_L t_rows_R t_kind t_pitch t_word) n) x = some out := hm
      unfold b_X6_findDepths_24 at hm
      refine lv_aload_n hx hb dX6_findDepths_24 rfl (lv_at hl 0 rfl) ?_
      refine va_get (D := D) (ci := 6) (v := .int (x.2.2.2.1 9)) (C := RX6) (T := TX6) (N := 49) hx hb htg inX6 hown hK hP 0 rfl rfl 9 (by decide) (htg _ q_4_198) (fun _ h9 => h9) rfl dX6_findDepths_25 ?_
      refine lv_bipush (v := (40 : Int32)) hx hb dX6_findDepths_28 (by decide) ?_
      refine lv_icmp_gt (tgt := 150) hx hb dX6_findDepths_30 (by decide) (fun c6 => ?_) (fun c6 => ?_)
      · have hm := it_t c6 hm
        refine lv_aload_n hx hb dX6_findDepths_150 rfl (lv_at hl 0 rfl) ?_
        obtain ⟨o7, ho8, hm⟩ := bd_s hm
        refine xr_v (wr := [((am 4), eOJ cA am 5), (am 5, eJ cA 40 (t_rows_R 0)), (am 6, eJ cA 40 (t_rows_R 1)), (am 7, eJ cA 40 (t_rows_R 2)), (am 8, eJ cA 40 (t_rows_R 3)), (am 9, eJ cA 40 (t_rows_R 4)), (am 10, eJ cA 40 (t_rows_R 5)), (am 11, eJ cA 40 (t_rows_R 6)), (am 12, eJ cA 40 (t_rows_R 7)), ((am 17), eI cA 8 t_kind), ((am 19), eI cA 8 t_pitch), ((am 21), eI cA 12 t_word), ((am 22), eI cA 13 x.2.2.2.2.1), ((am 24), eZ cA 41 x.2.2.2.2.2)]) (wn := [((am 0), e_X6 am tkv ttv o7 t_L), ((am 4), eOJ cA am 5), (am 5, eJ cA 40 (t_rows_R 0)), (am 6, eJ cA 40 (t_rows_R 1)), (am 7, eJ cA 40 (t_rows_R 2)), (am 8, eJ cA 40 (t_rows_R 3)), (am 9, eJ cA 40 (t_rows_R 4)), (am 10, eJ cA 40 (t_rows_R 5)), (am 11, eJ cA 40 (t_rows_R 6)), (am 12, eJ cA 40 (t_rows_R 7)), ((am 17), eI cA 8 t_kind), ((am 19), eI cA 8 t_pitch), ((am 21), eI cA 12 t_word), ((am 22), eI cA 13 x.2.2.2.2.1), ((am 24), eZ cA 41 x.2.2.2.2.2)]) (va_runV (As := []) (rest := []) ⟨hx, hb, hml, hown, htg⟩ (c_X6_goesBack l D cA _ fu am tkv ttv x.2.2.2.1 t_L o7 ho8) (cwV 0 htg (gV q_6_117 q_6_119 q_p6_15 q_1_8 q_6_120) rfl rfl rfl hd_X6_goesBack ⟨Nat.le_of_ble_eq_true rfl, Nat.le_of_ble_eq_true rfl⟩) (xpV hN hK hP hD [0] rfl (by decide) rfl rfl) rfl rfl hl.1 rfl (lv_room (Nat.le_of_ble_eq_true rfl)) dX6_findDepths_151 ⟨Nat.zero_le _, Nat.zero_le _⟩) hP hD hS hA [0] [1, 2, 3, 4, 5, 6, 7, 8, 9, 10, 11, 12, 13, 14] [14, 0, 1, 2, 3, 4, 5, 6, 7, 8, 9, 10, 11, 12, 13] rfl rfl (by decide) (by decide) rfl (by decide) (fun H locs hP hD hS => ?_)
        rw [hQ]
        exact W.vret hx hb hr (fun t9 ht hW => ⟨⟨(o7, x.2.2.2.2.1, x.2.2.2.2.2), rfl, (Option.some.inj hm), by rw [ht]; exact hP, va_K.moved hW.alike hK, hD⟩, hS.F ht⟩) hS.2.2 dX6_findDepths_154
      · have hm := it_f c6 hm
        refine lv_aload_n hx hb dX6_findDepths_33 rfl (lv_at hl 0 rfl) ?_
        refine va_get (D := D) (ci := 6) (v := .ref (am 24)) (C := RX6) (T := TX6) (N := 49) hx hb htg inX6 hown hK hP 0 rfl rfl 41 (by decide) (htg _ q_4_230) (fun _ h9 => h9) rfl dX6_findDepths_34 ?_
        refine lv_aload_n hx hb dX6_findDepths_37 rfl (lv_at hl 0 rfl) ?_
        refine va_get (D := D) (ci := 6) (v := .int (x.2.2.2.1 9)) (C := RX6) (T := TX6) (N := 49) hx hb htg inX6 hown hK hP 0 rfl rfl 9 (by decide) (htg _ q_4_198) (fun _ h9 => h9) rfl dX6_findDepths_38 ?_
        refine lv_aload_n hx hb dX6_findDepths_41 rfl (lv_at hl 0 rfl) ?_
        refine lv_iload_n hx hb dX6_findDepths_42 rfl (lv_at hl 1 rfl) ?_
        refine lv_iload_n hx hb dX6_findDepths_43 rfl (lv_at hl 2 rfl) ?_
        refine lv_iload_n hx hb dX6_findDepths_44 rfl (lv_at hl 3 rfl) ?_
        obtain ⟨o9, ho10, hm⟩ := bd_s hm
        refine xr_i (wr := [((am 24), eZ cA 41 x.2.2.2.2.2)]) (wn := [((am 0), e_X6 am tkv ttv o9.2.1 t_L), ((am 4), eOJ cA am 5), (am 5, eJ cA 40 (t_rows_R 0)), (am 6, eJ cA 40 (t_rows_R 1)), (am 7, eJ cA 40 (t_rows_R 2)), (am 8, eJ cA 40 (t_rows_R 3)), (am 9, eJ cA 40 (t_rows_R 4)), (am 10, eJ cA 40 (t_rows_R 5)), (am 11, eJ cA 40 (t_rows_R 6)), (am 12, eJ cA 40 (t_rows_R 7)), ((am 17), eI cA 8 t_kind), ((am 19), eI cA 8 t_pitch), ((am 21), eI cA 12 t_word), ((am 22), eI cA 13 o9.2.2), ((am 24), eZ cA 41 x.2.2.2.2.2)]) (va_runV (As := [.int x.1, .int x.2.1, .int x.2.2.1]) (rest := [.int (x.2.2.2.1 9), .ref (am 24)]) ⟨hx, hb, hml, hown, htg⟩ (c_X6_isEcho l D cA _ fu am tkv ttv x.2.2.2.1 t_L t_rows_R t_kind t_pitch t_word x.2.2.2.2.1 x.1 x.2.1 x.2.2.1 o9 ho10) (cwV 3 htg (gV q_6_188 q_6_190 q_p7_4 q_1_8 q_6_191) rfl rfl rfl hd_X6_isEcho ⟨Nat.le_of_ble_eq_true rfl, Nat.le_of_ble_eq_true rfl⟩) (xpV hN hK hP hD [0, 1, 2, 3, 4, 5, 6, 7, 8, 9, 10, 11, 12, 13] rfl (by decide) rfl rfl) rfl rfl hl.1 rfl (lv_room (Nat.le_of_ble_eq_true rfl)) dX6_findDepths_45 ⟨Nat.zero_le _, Nat.zero_le _⟩) hP hD hS hA [0, 1, 2, 3, 4, 5, 6, 7, 8, 9, 10, 11, 12, 13] [14] [1, 2, 3, 4, 5, 6, 7, 8, 9, 10, 11, 12, 13, 14, 0] rfl rfl (by decide) (by decide) rfl (by decide) (fun H locs hP hD hS => ?_)
        obtain ⟨hi11, hm⟩ := gd_s hm
        obtain ⟨hz12, hm⟩ := gd_s hm
        refine va_zast hx hb hK hP hD hS 14 2 rfl rfl hi11 dX6_findDepths_48 (fun H locs hP hD hS => ?_)
        rw [bz_vp hz12] at hP hD
        have hP : va_P D CL [((am 0), e_X6 am tkv ttv o9.2.1 t_L), ((am 4), eOJ cA am 5), (am 5, eJ cA 40 (t_rows_R 0)), (am 6, eJ cA 40 (t_rows_R 1)), (am 7, eJ cA 40 (t_rows_R 2)), (am 8, eJ cA 40 (t_rows_R 3)), (am 9, eJ cA 40 (t_rows_R 4)), (am 10, eJ cA 40 (t_rows_R 5)), (am 11, eJ cA 40 (t_rows_R 6)), (am 12, eJ cA 40 (t_rows_R 7)), ((am 17), eI cA 8 t_kind), ((am 19), eI cA 8 t_pitch), ((am 21), eI cA 12 t_word), ((am 22), eI cA 13 o9.2.2), ((am 24), eZ cA 41 (upd x.2.2.2.2.2 (x.2.2.2.1 9).toNatClampNeg o9.1))] H := hP
        have hD : va_D A [((am 0), e_X6 am tkv ttv o9.2.1 t_L), ((am 4), eOJ cA am 5), (am 5, eJ cA 40 (t_rows_R 0)), (am 6, eJ cA 40 (t_rows_R 1)), (am 7, eJ cA 40 (t_rows_R 2)), (am 8, eJ cA 40 (t_rows_R 3)), (am 9, eJ cA 40 (t_rows_R 4)), (am 10, eJ cA 40 (t_rows_R 5)), (am 11, eJ cA 40 (t_rows_R 6)), (am 12, eJ cA 40 (t_rows_R 7)), ((am 17), eI cA 8 t_kind), ((am 19), eI cA 8 t_pitch), ((am 21), eI cA 12 t_word), ((am 22), eI cA 13 o9.2.2), ((am 24), eZ cA 41 (upd x.2.2.2.2.2 (x.2.2.2.1 9).toNatClampNeg o9.1))] := hD
        refine lv_aload_n hx hb dX6_findDepths_49 rfl (lv_at hl 0 rfl) ?_
        refine lv_dup hx hb dX6_findDepths_50 rfl ?_
        refine va_get (D := D) (ci := 6) (v := .int (o9.2.1 42)) (C := RX6) (T := TX6) (N := 49) hx hb htg inX6 hown hK hP 0 rfl rfl 42 (by decide) (htg _ q_4_231) (fun _ h9 => h9) rfl dX6_findDepths_51 ?_
        refine lv_aload_n hx hb dX6_findDepths_54 rfl (lv_at hl 0 rfl) ?_
        refine va_get (D := D) (ci := 6) (v := .ref (am 24)) (C := RX6) (T := TX6) (N := 49) hx hb htg inX6 hown hK hP 0 rfl rfl 41 (by decide) (htg _ q_4_230) (fun _ h9 => h9) rfl dX6_findDepths_55 ?_
        refine lv_aload_n hx hb dX6_findDepths_58 rfl (lv_at hl 0 rfl) ?_
        refine va_get (D := D) (ci := 6) (v := .int (o9.2.1 9)) (C := RX6) (T := TX6) (N := 49) hx hb htg inX6 hown hK hP 0 rfl rfl 9 (by decide) (htg _ q_4_198) (fun _ h9 => h9) rfl dX6_findDepths_59 ?_
        obtain ⟨hi13, hm⟩ := gd_s hm
        refine va_zald hx hb hK hP 14 2 rfl rfl hi13 dX6_findDepths_62 ?_
        refine lv_if_eq (tgt := 70) hx hb dX6_findDepths_63 (by decide) (fun c14 => ?_) (fun c14 => ?_)
        · have hm := it_t c14 hm
          refine lv_iconst (v := (0 : Int32)) hx hb dX6_findDepths_70 (by decide) ?_
          exact B_71 _ HK_24 _ _ _ _ _ _ _ _ _ _ _ hm hP hD hS (lv_sub hl [0, 1, 2, 3] rfl)
        · have hm := it_f c14 hm
          refine lv_iconst (v := (1 : Int32)) hx hb dX6_findDepths_66 (by decide) ?_
          refine lv_goto (tgt := 71) hx hb dX6_findDepths_67 (by decide) ?_
          exact B_71 _ HK_24 _ _ _ _ _ _ _ _ _ _ _ hm hP hD hS (lv_sub hl [0, 1, 2, 3] rfl)
  unfold m_X6_findDepths at hm
  subst hargs
  have hl := lv_entry ([.ref (am 0), .int l1, .int l2, .int l3]) (n := 4) (Nat.le_of_ble_eq_true rfl)
  rw [lg_entry_eq]
  generalize (lg_sl ([.ref (am 0), .int l1, .int l2, .int l3]) ++ List.replicate (4 - (lg_sl ([.ref (am 0), .int l1, .int l2, .int l3])).length) Slot.unset).toArray = ls at hl ⊢
  have hl : lv_has ls 4 [(0, .ref (am 0)), (1, .int l1), (2, .int l2), (3, .int l3)] := hl
  refine lv_aload_n hx hb dX6_findDepths_0 rfl (lv_at hl 0 rfl) ?_
  obtain ⟨o15, ho16, hm⟩ := bd_s hm
  refine xr_v (wr := [((am 4), eOJ cA am 5), (am 5, eJ cA 40 (t_rows_R 0)), (am 6, eJ cA 40 (t_rows_R 1)), (am 7, eJ cA 40 (t_rows_R 2)), (am 8, eJ cA 40 (t_rows_R 3)), (am 9, eJ cA 40 (t_rows_R 4)), (am 10, eJ cA 40 (t_rows_R 5)), (am 11, eJ cA 40 (t_rows_R 6)), (am 12, eJ cA 40 (t_rows_R 7)), ((am 17), eI cA 8 t_kind), ((am 19), eI cA 8 t_pitch), ((am 21), eI cA 12 t_word), ((am 22), eI cA 13 t_heard), ((am 24), eZ cA 41 t_may)]) (wn := [((am 0), e_X6 am tkv ttv o15 t_L), ((am 4), eOJ cA am 5), (am 5, eJ cA 40 (t_rows_R 0)), (am 6, eJ cA 40 (t_rows_R 1)), (am 7, eJ cA 40 (t_rows_R 2)), (am 8, eJ cA 40 (t_rows_R 3)), (am 9, eJ cA 40 (t_rows_R 4)), (am 10, eJ cA 40 (t_rows_R 5)), (am 11, eJ cA 40 (t_rows_R 6)), (am 12, eJ cA 40 (t_rows_R 7)), ((am 17), eI cA 8 t_kind), ((am 19), eI cA 8 t_pitch), ((am 21), eI cA 12 t_word), ((am 22), eI cA 13 t_heard), ((am 24), eZ cA 41 t_may)]) (va_runV (As := []) (rest := []) ⟨hx, hb, hml, hown, htg⟩ (c_X6_keeps l D cA _ fu am tkv ttv t t_L o15 ho16) (cwV 0 htg (gV q_6_109 q_6_111 q_p6_13 q_1_8 q_6_112) rfl rfl rfl hd_X6_keeps ⟨Nat.le_of_ble_eq_true rfl, Nat.le_of_ble_eq_true rfl⟩) (xpV hN hK hP hD [0] rfl (by decide) rfl rfl) rfl rfl hl.1 rfl (lv_room (Nat.le_of_ble_eq_true rfl)) dX6_findDepths_1 ⟨Nat.zero_le _, Nat.zero_le _⟩) hP hD hS hA [0] [1, 2, 3, 4, 5, 6, 7, 8, 9, 10, 11, 12, 13, 14] [14, 0, 1, 2, 3, 4, 5, 6, 7, 8, 9, 10, 11, 12, 13] rfl rfl (by decide) (by decide) rfl (by decide) (fun H locs hP hD hS => ?_)
  refine lv_aload_n hx hb dX6_findDepths_4 rfl (lv_at hl 0 rfl) ?_
  refine lv_iconst (v := (0 : Int32)) hx hb dX6_findDepths_5 (by decide) ?_
  refine va_put (D := D) (ci := 6) (v := .int (0 : Int32)) (ty := .int) (C := RX6) (T := TX6) (N := 49) hx hb htg inX6 tyX6 tyX6_ok nmX6 hown hK hP hD hS 0 rfl rfl 42 (by decide) (htg _ q_4_231) (fun _ h9 => h9) rfl (by decide +kernel) rfl rfl (Nat.le_of_ble_eq_true rfl) dX6_findDepths_6 (fun H locs (hP : va_P D CL [((am 0), e_X6 am tkv ttv (upd o15 42 (0 : Int32)) t_L), ((am 4), eOJ cA am 5), (am 5, eJ cA 40 (t_rows_R 0)), (am 6, eJ cA 40 (t_rows_R 1)), (am 7, eJ cA 40 (t_rows_R 2)), (am 8, eJ cA 40 (t_rows_R 3)), (am 9, eJ cA 40 (t_rows_R 4)), (am 10, eJ cA 40 (t_rows_R 5)), (am 11, eJ cA 40 (t_rows_R 6)), (am 12, eJ cA 40 (t_rows_R 7)), ((am 17), eI cA 8 t_kind), ((am 19), eI cA 8 t_pitch), ((am 21), eI cA 12 t_word), ((am 22), eI cA 13 t_heard), ((am 24), eZ cA 41 t_may)] H) (hD : va_D A [((am 0), e_X6 am tkv ttv (upd o15 42 (0 : Int32)) t_L), ((am 4), eOJ cA am 5), (am 5, eJ cA 40 (t_rows_R 0)), (am 6, eJ cA 40 (t_rows_R 1)), (am 7, eJ cA 40 (t_rows_R 2)), (am 8, eJ cA 40 (t_rows_R 3)), (am 9, eJ cA 40 (t_rows_R 4)), (am 10, eJ cA 40 (t_rows_R 5)), (am 11, eJ cA 40 (t_rows_R 6)), (am 12, eJ cA 40 (t_rows_R 7)), ((am 17), eI cA 8 t_kind), ((am 19), eI cA 8 t_pitch), ((am 21), eI cA 12 t_word), ((am 22), eI cA 13 t_heard), ((am 24), eZ cA 41 t_may)]) hS => ?_)
  refine lv_aload_n hx hb dX6_findDepths_9 rfl (lv_at hl 0 rfl) ?_
  refine lv_iconst (v := (-1 : Int32)) hx hb dX6_findDepths_10 (by decide) ?_
  refine va_put (D := D) (ci := 6) (v := .int (-1 : Int32)) (ty := .int) (C := RX6) (T := TX6) (N := 49) hx hb htg inX6 tyX6 tyX6_ok nmX6 hown hK hP hD hS 0 rfl rfl 43 (by decide) (htg _ q_4_232) (fun _ h9 => h9) rfl (by decide +kernel) rfl rfl (Nat.le_of_ble_eq_true rfl) dX6_findDepths_11 (fun H locs (hP : va_P D CL [((am 0), e_X6 am tkv ttv (upd (upd o15 42 (0 : Int32)) 43 (-1 : Int32)) t_L), ((am 4), eOJ cA am 5), (am 5, eJ cA 40 (t_rows_R 0)), (am 6, eJ cA 40 (t_rows_R 1)), (am 7, eJ cA 40 (t_rows_R 2)), (am 8, eJ cA 40 (t_rows_R 3)), (am 9, eJ cA 40 (t_rows_R 4)), (am 10, eJ cA 40 (t_rows_R 5)), (am 11, eJ cA 40 (t_rows_R 6)), (am 12, eJ cA 40 (t_rows_R 7)), ((am 17), eI cA 8 t_kind), ((am 19), eI cA 8 t_pitch), ((am 21), eI cA 12 t_word), ((am 22), eI cA 13 t_heard), ((am 24), eZ cA 41 t_may)] H) (hD : va_D A [((am 0), e_X6 am tkv ttv (upd (upd o15 42 (0 : Int32)) 43 (-1 : Int32)) t_L), ((am 4), eOJ cA am 5), (am 5, eJ cA 40 (t_rows_R 0)), (am 6, eJ cA 40 (t_rows_R 1)), (am 7, eJ cA 40 (t_rows_R 2)), (am 8, eJ cA 40 (t_rows_R 3)), (am 9, eJ cA 40 (t_rows_R 4)), (am 10, eJ cA 40 (t_rows_R 5)), (am 11, eJ cA 40 (t_rows_R 6)), (am 12, eJ cA 40 (t_rows_R 7)), ((am 17), eI cA 8 t_kind), ((am 19), eI cA 8 t_pitch), ((am 21), eI cA 12 t_word), ((am 22), eI cA 13 t_heard), ((am 24), eZ cA 41 t_may)]) hS => ?_)
  refine lv_aload_n hx hb dX6_findDepths_14 rfl (lv_at hl 0 rfl) ?_
  refine lv_iconst (v := (-1 : Int32)) hx hb dX6_findDepths_15 (by decide) ?_
  refine va_put (D := D) (ci := 6) (v := .int (-1 : Int32)) (ty := .int) (C := RX6) (T := TX6) (N := 49) hx hb htg inX6 tyX6 tyX6_ok nmX6 hown hK hP hD hS 0 rfl rfl 44 (by decide) (htg _ q_4_233) (fun _ h9 => h9) rfl (by decide +kernel) rfl rfl (Nat.le_of_ble_eq_true rfl) dX6_findDepths_16 (fun H locs (hP : va_P D CL [((am 0), e_X6 am tkv ttv (upd (upd (upd o15 42 (0 : Int32)) 43 (-1 : Int32)) 44 (-1 : Int32)) t_L), ((am 4), eOJ cA am 5), (am 5, eJ cA 40 (t_rows_R 0)), (am 6, eJ cA 40 (t_rows_R 1)), (am 7, eJ cA 40 (t_rows_R 2)), (am 8, eJ cA 40 (t_rows_R 3)), (am 9, eJ cA 40 (t_rows_R 4)), (am 10, eJ cA 40 (t_rows_R 5)), (am 11, eJ cA 40 (t_rows_R 6)), (am 12, eJ cA 40 (t_rows_R 7)), ((am 17), eI cA 8 t_kind), ((am 19), eI cA 8 t_pitch), ((am 21), eI cA 12 t_word), ((am 22), eI cA 13 t_heard), ((am 24), eZ cA 41 t_may)] H) (hD : va_D A [((am 0), e_X6 am tkv ttv (upd (upd (upd o15 42 (0 : Int32)) 43 (-1 : Int32)) 44 (-1 : Int32)) t_L), ((am 4), eOJ cA am 5), (am 5, eJ cA 40 (t_rows_R 0)), (am 6, eJ cA 40 (t_rows_R 1)), (am 7, eJ cA 40 (t_rows_R 2)), (am 8, eJ cA 40 (t_rows_R 3)), (am 9, eJ cA 40 (t_rows_R 4)), (am 10, eJ cA 40 (t_rows_R 5)), (am 11, eJ cA 40 (t_rows_R 6)), (am 12, eJ cA 40 (t_rows_R 7)), ((am 17), eI cA 8 t_kind), ((am 19), eI cA 8 t_pitch), ((am 21), eI cA 12 t_word), ((am 22), eI cA 13 t_heard), ((am 24), eZ cA 41 t_may)]) hS => ?_)
  refine lv_aload_n hx hb dX6_findDepths_19 rfl (lv_at hl 0 rfl) ?_
  refine lv_iconst (v := (0 : Int32)) hx hb dX6_findDepths_20 (by decide) ?_
  refine va_put (D := D) (ci := 6) (v := .int (0 : Int32)) (ty := .int) (C := RX6) (T := TX6) (N := 49) hx hb htg inX6 tyX6 tyX6_ok nmX6 hown hK hP hD hS 0 rfl rfl 9 (by decide) (htg _ q_4_198) (fun _ h9 => h9) rfl (by decide +kernel) rfl rfl (Nat.le_of_ble_eq_true rfl) dX6_findDepths_21 (fun H locs (hP : va_P D CL [((am 0), e_X6 am tkv ttv (upd (upd (upd (upd o15 42 (0 : Int32)) 43 (-1 : Int32)) 44 (-1 : Int32)) 9 (0 : Int32)) t_L), ((am 4), eOJ cA am 5), (am 5, eJ cA 40 (t_rows_R 0)), (am 6, eJ cA 40 (t_rows_R 1)), (am 7, eJ cA 40 (t_rows_R 2)), (am 8, eJ cA 40 (t_rows_R 3)), (am 9, eJ cA 40 (t_rows_R 4)), (am 10, eJ cA 40 (t_rows_R 5)), (am 11, eJ cA 40 (t_rows_R 6)), (am 12, eJ cA 40 (t_rows_R 7)), ((am 17), eI cA 8 t_kind), ((am 19), eI cA 8 t_pitch), ((am 21), eI cA 12 t_word), ((am 22), eI cA 13 t_heard), ((am 24), eZ cA 41 t_may)] H) (hD : va_D A [((am 0), e_X6 am tkv ttv (upd (upd (upd (upd o15 42 (0 : Int32)) 43 (-1 : Int32)) 44 (-1 : Int32)) 9 (0 : Int32)) t_L), ((am 4), eOJ cA am 5), (am 5, eJ cA 40 (t_rows_R 0)), (am 6, eJ cA 40 (t_rows_R 1)), (am 7, eJ cA 40 (t_rows_R 2)), (am 8, eJ cA 40 (t_rows_R 3)), (am 9, eJ cA 40 (t_rows_R 4)), (am 10, eJ cA 40 (t_rows_R 5)), (am 11, eJ cA 40 (t_rows_R 6)), (am 12, eJ cA 40 (t_rows_R 7)), ((am 17), eI cA 8 t_kind), ((am 19), eI cA 8 t_pitch), ((am 21), eI cA 12 t_word), ((am 22), eI cA 13 t_heard), ((am 24), eZ cA 41 t_may)]) hS => ?_)
  exact B_24 fu _ _ _ _ hm hP hD hS (lv_sub hl [0, 1, 2, 3] rfl)
