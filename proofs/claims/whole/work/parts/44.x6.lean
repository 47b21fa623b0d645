def b_X6_sum_30 (fu : Nat) (t_L : Nat → Int64) (t_shelf : Nat → Int32) (t_rowSize : Nat → Int32) (t_rows_R : Nat → Nat → Int64) (t_kind : Nat → Int32) (t_pitch : Nat → Int32) (s0 : Int32) (t : Nat → Int32) (t_refused : Nat → Int32) (t_word : Nat → Int32) (t_heard : Nat → Int32) : Option (Int32 × ((Nat → Int32) × (Nat → Int32) × (Nat → Int32) × (Nat → Int32))) :=
  some (s0, (t, t_refused, t_word, t_heard))
def m_X6_sum (fu : Nat) (t : Nat → Int32) (t_L : Nat → Int64) (t_shelf : Nat → Int32) (t_rowSize : Nat → Int32) (t_rows_R : Nat → Nat → Int64) (t_refused : Nat → Int32) (t_kind : Nat → Int32) (t_pitch : Nat → Int32) (t_word : Nat → Int32) (t_heard : Nat → Int32) (l1 : Int32) (l2 : Int32) (l3 : Int32) : Option (Int32 × ((Nat → Int32) × (Nat → Int32) × (Nat → Int32) × (Nat → Int32))) :=
  (m_X6_isVoice fu t t_L l3).bind fun o1 =>
  (m_X6_noWord fu t t_L t_shelf t_rowSize t_rows_R t_refused t_word l1 l2 (12 : Int32) o1.1).bind fun o3 =>
  (if o3.1 = 0 then
    (m_X6_sumOf fu o3.2.1 t_L t_kind t_pitch o3.2.2.2 t_heard l3).bind fun o6 =>
    b_X6_sum_30 fu t_L t_shelf t_rowSize t_rows_R t_kind t_pitch o6.1 o6.2.1 o3.2.2.1 o3.2.2.2 o6.2.2
  else
    b_X6_sum_30 fu t_L t_shelf t_rowSize t_rows_R t_kind t_pitch o3.1 o3.2.1 o3.2.2.1 o3.2.2.2 t_heard)
abbrev rm_X6_sum : Room := ({ frames := 4, cells := 0, slots := 0, locals := 93 } : Room)
abbrev w0_X6_sum (cA : Nat → ClassId) (am : Nat → Nat) (tkv : Value) (ttv : Value) (t : Nat → Int32) (t_L : Nat → Int64) (t_shelf : Nat → Int32) (t_rowSize : Nat → Int32) (t_rows_R : Nat → Nat → Int64) (t_refused : Nat → Int32) (t_kind : Nat → Int32) (t_pitch : Nat → Int32) (t_word : Nat → Int32) (t_heard : Nat → Int32) : va_W := [((am 0), e_X6 am tkv ttv t t_L), ((am 1), eI cA 8 t_shelf), ((am 3), eI cA 8 t_rowSize), ((am 4), eOJ cA am 5), (am 5, eJ cA 40 (t_rows_R 0)), (am 6, eJ cA 40 (t_rows_R 1)), (am 7, eJ cA 40 (t_rows_R 2)), (am 8, eJ cA 40 (t_rows_R 3)), (am 9, eJ cA 40 (t_rows_R 4)), (am 10, eJ cA 40 (t_rows_R 5)), (am 11, eJ cA 40 (t_rows_R 6)), (am 12, eJ cA 40 (t_rows_R 7)), ((am 16), eI cA 8 t_refused), ((am 17), eI cA 8 t_kind), ((am 19), eI cA 8 t_pitch), ((am 21), eI cA 12 t_word), ((am 22), eI cA 13 t_heard)]
abbrev w1_X6_sum (cA : Nat → ClassId) (am : Nat → Nat) (tkv : Value) (ttv : Value) (t_L : Nat → Int64) (t_shelf : Nat → Int32) (t_rowSize : Nat → Int32) (t_rows_R : Nat → Nat → Int64) (t_kind : Nat → Int32) (t_pitch : Nat → Int32) (u : (Nat → Int32) × (Nat → Int32) × (Nat → Int32) × (Nat → Int32)) : va_W := [((am 0), e_X6 am tkv ttv u.1 t_L), ((am 1), eI cA 8 t_shelf), ((am 3), eI cA 8 t_rowSize), ((am 4), eOJ cA am 5), (am 5, eJ cA 40 (t_rows_R 0)), (am 6, eJ cA 40 (t_rows_R 1)), (am 7, eJ cA 40 (t_rows_R 2)), (am 8, eJ cA 40 (t_rows_R 3)), (am 9, eJ cA 40 (t_rows_R 4)), (am 10, eJ cA 40 (t_rows_R 5)), (am 11, eJ cA 40 (t_rows_R 6)), (am 12, eJ cA 40 (t_rows_R 7)), ((am 16), eI cA 8 u.2.1), ((am 17), eI cA 8 t_kind), ((am 19), eI cA 8 t_pitch), ((am 21), eI cA 12 u.2.2.1), ((am 22), eI cA 13 u.2.2.2)]
theorem hd_X6_sum : yX6_sum.cls = RX6 ∧ yX6_sum.cls ≠ "java/lang/invoke/MethodHandle" ∧ yX6_sum.cls ≠ "java/lang/invoke/VarHandle" ∧ (parseMethodDescriptor yX6_sum.desc).map (fun d => d.parameters.length) = some 3 := by decide +kernel
set_option maxHeartbeats 40000000 in
set_option maxRecDepth 100000 in
theorem c_X6_sum (l : Launch) (D : va_G) (cA : Nat → ClassId) (sz : Nat) (fu : Nat) (am : Nat → Nat) (tkv : Value) (ttv : Value) (t : Nat → Int32) (t_L : Nat → Int64) (t_shelf : Nat → Int32) (t_rowSize : Nat → Int32) (t_rows_R : Nat → Nat → Int64) (t_refused : Nat → Int32) (t_kind : Nat → Int32) (t_pitch : Nat → Int32) (t_word : Nat → Int32) (t_heard : Nat → Int32) (l1 : Int32) (l2 : Int32) (l3 : Int32) (out : Int32 × ((Nat → Int32) × (Nat → Int32) × (Nat → Int32) × (Nat → Int32))) (hm : m_X6_sum fu t t_L t_shelf t_rowSize t_rows_R t_refused t_kind t_pitch t_word t_heard l1 l2 l3 = some out) : MI l yX6_sum (wU yX6_sum cX6_sum 5 ((Option.some Jvm.ClassFile.FieldType.int))) rm_X6_sum D cA sz [.ref (am 0), .int l1, .int l2, .int l3] (w0_X6_sum cA am tkv ttv t t_L t_shelf t_rowSize t_rows_R t_refused t_kind t_pitch t_word t_heard) out (w1_X6_sum cA am tkv ttv t_L t_shelf t_rowSize t_rows_R t_kind t_pitch) := by
  refine Met.ofW (cc := cX6_sum) (maxL := 5) (ret := (Option.some Jvm.ClassFile.FieldType.int)) (by decide) rfl ?_
  intro p e s m args below meth c s₁ B hml hv
  obtain ⟨hargs, hsz, hP, hK, hD0, hN⟩ := hv
  have hx := B.exec
  have hb := B.bytes
  have hr := B.returns
  have htg : ∀ w ∈ gw, w.before args s = true := fun w h => atoms_spec (ws := wU yX6_sum cX6_sum 5 ((Option.some Jvm.ClassFile.FieldType.int))) B.pre w (List.mem_cons_of_mem _ h)
  have hown : s.vm.findClass RX6 = some m.cls := findClass_of_methodNamed B.named
  have hlocks := B.notSynchronized
  subst hsz
  have hD := hD0.self (sz := s.heap.size)
  have hA : ∀ q : Nat, s.heap.size ≤ q → va_A (w0_X6_sum cA am tkv ttv t t_L t_shelf t_rowSize t_rows_R t_refused t_kind t_pitch t_word t_heard) s.heap.size q := fun q h => Or.inr h
  have hS : va_S (va_A (w0_X6_sum cA am tkv ttv t t_L t_shelf t_rowSize t_rows_R t_refused t_kind t_pitch t_word t_heard) s.heap.size) s.heap s.heap [] := va_S.rf
  generalize va_A (w0_X6_sum cA am tkv ttv t t_L t_shelf t_rowSize t_rows_R t_refused t_kind t_pitch t_word t_heard) s.heap.size = A at hA hD hS ⊢
  obtain ⟨Q, hQ⟩ : ∃ Q : State → Prop, Q = MQ below (va_Qi (fun (r : Int32) (u : (Nat → Int32) × (Nat → Int32) × (Nat → Int32) × (Nat → Int32)) => (r, u) = out) (pst0 D cA A (w1_X6_sum cA am tkv ttv t_L t_shelf t_rowSize t_rows_R t_kind t_pitch)) A) args s 0 0 A := ⟨_, rfl⟩
  refine (?_ : W p l e rm_X6_sum s m args below meth c s.heap [] 0 0 (MQ below (va_Qi (fun (r : Int32) (u : (Nat → Int32) × (Nat → Int32) × (Nat → Int32) × (Nat → Int32)) => (r, u) = out) (pst0 D cA A (w1_X6_sum cA am tkv ttv t_L t_shelf t_rowSize t_rows_R t_kind t_pitch)) A) args s 0 0 A) (entryFrame m args 5))
  rw [← hQ]
  have hP : va_P D CL [((am 0), e_X6 am tkv ttv t t_L), ((am 1), eI cA 8 t_shelf), ((am 3), eI cA 8 t_rowSize), ((am 4), eOJ cA am 5), (am 5, eJ cA 40 (t_rows_R 0)), (am 6, eJ cA 40 (t_rows_R 1)), (am 7, eJ cA 40 (t_rows_R 2)), (am 8, eJ cA 40 (t_rows_R 3)), (am 9, eJ cA 40 (t_rows_R 4)), (am 10, eJ cA 40 (t_rows_R 5)), (am 11, eJ cA 40 (t_rows_R 6)), (am 12, eJ cA 40 (t_rows_R 7)), ((am 16), eI cA 8 t_refused), ((am 17), eI cA 8 t_kind), ((am 19), eI cA 8 t_pitch), ((am 21), eI cA 12 t_word), ((am 22), eI cA 13 t_heard)] s.heap := hP
  have hD : va_D A [((am 0), e_X6 am tkv ttv t t_L), ((am 1), eI cA 8 t_shelf), ((am 3), eI cA 8 t_rowSize), ((am 4), eOJ cA am 5), (am 5, eJ cA 40 (t_rows_R 0)), (am 6, eJ cA 40 (t_rows_R 1)), (am 7, eJ cA 40 (t_rows_R 2)), (am 8, eJ cA 40 (t_rows_R 3)), (am 9, eJ cA 40 (t_rows_R 4)), (am 10, eJ cA 40 (t_rows_R 5)), (am 11, eJ cA 40 (t_rows_R 6)), (am 12, eJ cA 40 (t_rows_R 7)), ((am 16), eI cA 8 t_refused), ((am 17), eI cA 8 t_kind), ((am 19), eI cA 8 t_pitch), ((am 21), eI cA 12 t_word), ((am 22), eI cA 13 t_heard)] := hD
  have B_30 : ∀ (s0 : Int32) (t : Nat → Int32) (t_refused : Nat → Int32) (t_word : Nat → Int32) (t_heard : Nat → Int32) (H : Heap) (locs : List Loc) (ls : Array Slot), b_X6_sum_30 fu t_L t_shelf t_rowSize t_rows_R t_kind t_pitch s0 t t_refused t_word t_heard = some out → va_P D CL [((am 0), e_X6 am tkv ttv t t_L), ((am 1), eI cA 8 t_shelf), ((am 3), eI cA 8 t_rowSize), ((am 4), eOJ cA am 5), (am 5, eJ cA 40 (t_rows_R 0)), (am 6, eJ cA 40 (t_rows_R 1)), (am 7, eJ cA 40 (t_rows_R 2)), (am 8, eJ cA 40 (t_rows_R 3)), (am 9, eJ cA 40 (t_rows_R 4)), (am 10, eJ cA 40 (t_rows_R 5)), (am 11, eJ cA 40 (t_rows_R 6)), (am 12, eJ cA 40 (t_rows_R 7)), ((am 16), eI cA 8 t_refused), ((am 17), eI cA 8 t_kind), ((am 19), eI cA 8 t_pitch), ((am 21), eI cA 12 t_word), ((am 22), eI cA 13 t_heard)] H → va_D A [((am 0), e_X6 am tkv ttv t t_L), ((am 1), eI cA 8 t_shelf), ((am 3), eI cA 8 t_rowSize), ((am 4), eOJ cA am 5), (am 5, eJ cA 40 (t_rows_R 0)), (am 6, eJ cA 40 (t_rows_R 1)), (am 7, eJ cA 40 (t_rows_R 2)), (am 8, eJ cA 40 (t_rows_R 3)), (am 9, eJ cA 40 (t_rows_R 4)), (am 10, eJ cA 40 (t_rows_R 5)), (am 11, eJ cA 40 (t_rows_R 6)), (am 12, eJ cA 40 (t_rows_R 7)), ((am 16), eI cA 8 t_refused), ((am 17), eI cA 8 t_kind), ((am 19), eI cA 8 t_pitch), ((am 21), eI cA 12 t_word), ((am 22), eI cA 13 t_heard)] → va_S A s.heap H locs → lv_has ls 5 [(0, .ref (am 0))] → W p l e rm_X6_sum s m args below meth c H locs 0 0 Q (F0 m 30 ls [.int s0]) := by
    intro  s0 t t_refused t_word t_heard H locs ls hm hP hD hS hl
    unfold b_X6_sum_30 at hm
    rw [hQ]
    exact W.iret (v := s0) hx hb hr (fun t9 ht hW => ⟨⟨s0, (t, t_refused, t_word, t_heard), rfl, (Option.some.inj hm), by rw [ht]; exact hP, va_K.moved hW.alike hK, hD⟩, hS.F ht⟩) hS.2.2 dX6_sum_30
  unfold m_X6_sum at hm
  subst hargs
  have hl := lv_entry ([.ref (am 0), .int l1, .int l2, .int l3]) (n := 5) (Nat.le_of_ble_eq_true rfl)
  rw [lg_entry_eq]
  generalize (lg_sl ([.ref (am 0), .int l1, .int l2, .int l3]) ++ List.replicate (5 - (lg_sl ([.ref (am 0), .int l1, .int l2, .int l3])).length) Slot.unset).toArray = ls at hl ⊢
  have hl : lv_has ls 5 [(0, .ref (am 0)), (1, .int l1), (2, .int l2), (3, .int l3)] := hl
  refine lv_aload_n hx hb dX6_sum_0 rfl (lv_at hl 0 rfl) ?_
  refine lv_iload_n hx hb dX6_sum_1 rfl (lv_at hl 1 rfl) ?_
  refine lv_iload_n hx hb dX6_sum_2 rfl (lv_at hl 2 rfl) ?_
  refine lv_bipush (v := (12 : Int32)) hx hb dX6_sum_3 (by decide) ?_
  refine lv_aload_n hx hb dX6_sum_5 rfl (lv_at hl 0 rfl) ?_
  refine lv_iload_n hx hb dX6_sum_6 rfl (lv_at hl 3 rfl) ?_
  obtain ⟨o1, ho2, hm⟩ := bd_s hm
  refine xr_i (wr := [((am 1), eI cA 8 t_shelf), ((am 3), eI cA 8 t_rowSize), ((am 4), eOJ cA am 5), (am 5, eJ cA 40 (t_rows_R 0)), (am 6, eJ cA 40 (t_rows_R 1)), (am 7, eJ cA 40 (t_rows_R 2)), (am 8, eJ cA 40 (t_rows_R 3)), (am 9, eJ cA 40 (t_rows_R 4)), (am 10, eJ cA 40 (t_rows_R 5)), (am 11, eJ cA 40 (t_rows_R 6)), (am 12, eJ cA 40 (t_rows_R 7)), ((am 16), eI cA 8 t_refused), ((am 17), eI cA 8 t_kind), ((am 19), eI cA 8 t_pitch), ((am 21), eI cA 12 t_word), ((am 22), eI cA 13 t_heard)]) (wn := [((am 0), e_X6 am tkv ttv t t_L), ((am 1), eI cA 8 t_shelf), ((am 3), eI cA 8 t_rowSize), ((am 4), eOJ cA am 5), (am 5, eJ cA 40 (t_rows_R 0)), (am 6, eJ cA 40 (t_rows_R 1)), (am 7, eJ cA 40 (t_rows_R 2)), (am 8, eJ cA 40 (t_rows_R 3)), (am 9, eJ cA 40 (t_rows_R 4)), (am 10, eJ cA 40 (t_rows_R 5)), (am 11, eJ cA 40 (t_rows_R 6)), (am 12, eJ cA 40 (t_rows_R 7)), ((am 16), eI cA 8 t_refused), ((am 17), eI cA 8 t_kind), ((am 19), eI cA 8 t_pitch), ((am 21), eI cA 12 t_word), ((am 22), eI cA 13 t_heard)]) (va_runV (As := [.int l3]) (rest := [.int (12 : Int32), .int l2, .int l1, .ref (am 0)]) ⟨hx, hb, hml, hown, htg⟩ (c_X6_isVoice l D cA _ fu am tkv ttv t t_L l3 o1 ho2) (cwV 1 htg (gV q_5_139 q_5_141 q_p5_9 q_1_8 q_5_142) rfl rfl rfl hd_X6_isVoice ⟨Nat.le_of_ble_eq_true rfl, Nat.le_of_ble_eq_true rfl⟩) (xpV hN hK hP hD [0] rfl (by decide) rfl rfl) rfl rfl hl.1 rfl (lv_room (Nat.le_of_ble_eq_true rfl)) dX6_sum_7 ⟨Nat.zero_le _, Nat.zero_le _⟩) hP hD hS hA [0] [1, 2, 3, 4, 5, 6, 7, 8, 9, 10, 11, 12, 13, 14, 15, 16] [16, 0, 1, 2, 3, 4, 5, 6, 7, 8, 9, 10, 11, 12, 13, 14, 15] rfl rfl (by decide) (by decide) rfl (by decide) (fun H locs hP hD hS => ?_)
  obtain ⟨o3, ho4, hm⟩ := bd_s hm
  refine xr_i (wr := [((am 17), eI cA 8 t_kind), ((am 19), eI cA 8 t_pitch), ((am 22), eI cA 13 t_heard)]) (wn := [((am 0), e_X6 am tkv ttv o3.2.1 t_L), ((am 1), eI cA 8 t_shelf), ((am 3), eI cA 8 t_rowSize), ((am 4), eOJ cA am 5), (am 5, eJ cA 40 (t_rows_R 0)), (am 6, eJ cA 40 (t_rows_R 1)), (am 7, eJ cA 40 (t_rows_R 2)), (am 8, eJ cA 40 (t_rows_R 3)), (am 9, eJ cA 40 (t_rows_R 4)), (am 10, eJ cA 40 (t_rows_R 5)), (am 11, eJ cA 40 (t_rows_R 6)), (am 12, eJ cA 40 (t_rows_R 7)), ((am 16), eI cA 8 o3.2.2.1), ((am 17), eI cA 8 t_kind), ((am 19), eI cA 8 t_pitch), ((am 21), eI cA 12 o3.2.2.2), ((am 22), eI cA 13 t_heard)]) (va_runV (As := [.int l1, .int l2, .int (12 : Int32), .int o1.1]) (rest := []) ⟨hx, hb, hml, hown, htg⟩ (c_X6_noWord l D cA _ fu am tkv ttv t t_L t_shelf t_rowSize t_rows_R t_refused t_word l1 l2 (12 : Int32) o1.1 o3 ho4) (cwV 4 htg (gV q_6_49 q_6_51 q_p6_8 q_1_8 q_6_52) rfl rfl rfl hd_X6_noWord ⟨Nat.le_of_ble_eq_true rfl, Nat.le_of_ble_eq_true rfl⟩) (xpV hN hK hP hD [0, 1, 2, 3, 4, 5, 6, 7, 8, 9, 10, 11, 12, 15] rfl (by decide) rfl rfl) rfl rfl hl.1 rfl (lv_room (Nat.le_of_ble_eq_true rfl)) dX6_sum_10 ⟨Nat.zero_le _, Nat.zero_le _⟩) hP hD hS hA [0, 1, 2, 3, 4, 5, 6, 7, 8, 9, 10, 11, 12, 15] [13, 14, 16] [3, 4, 5, 6, 7, 8, 9, 10, 11, 12, 13, 14, 15, 0, 1, 16, 2] rfl rfl (by decide) (by decide) rfl (by decide) (fun H locs hP hD hS => ?_)
  refine lv_istore (lv' := [(4, .int o3.1), (0, .ref (am 0)), (1, .int l1), (2, .int l2), (3, .int l3)]) hx hb dX6_sum_13 hl (by decide) rfl (fun ls hl => ?_)
  refine lv_iload hx hb dX6_sum_15 (lv_at hl 0 rfl) ?_
  refine lv_if_eq (tgt := 25) hx hb dX6_sum_17 (by decide) (fun c5 => ?_) (fun c5 => ?_)
  · have hm := it_t c5 hm
    refine lv_aload_n hx hb dX6_sum_25 rfl (lv_at hl 1 rfl) ?_
    refine lv_iload_n hx hb dX6_sum_26 rfl (lv_at hl 4 rfl) ?_
    obtain ⟨o6, ho7, hm⟩ := bd_s hm
    refine xr_i (wr := [((am 1), eI cA 8 t_shelf), ((am 3), eI cA 8 t_rowSize), ((am 4), eOJ cA am 5), (am 5, eJ cA 40 (t_rows_R 0)), (am 6, eJ cA 40 (t_rows_R 1)), (am 7, eJ cA 40 (t_rows_R 2)), (am 8, eJ cA 40 (t_rows_R 3)), (am 9, eJ cA 40 (t_rows_R 4)), (am 10, eJ cA 40 (t_rows_R 5)), (am 11, eJ cA 40 (t_rows_R 6)), (am 12, eJ cA 40 (t_rows_R 7)), ((am 16), eI cA 8 o3.2.2.1)]) (wn := [((am 0), e_X6 am tkv ttv o6.2.1 t_L), ((am 1), eI cA 8 t_shelf), ((am 3), eI cA 8 t_rowSize), ((am 4), eOJ cA am 5), (am 5, eJ cA 40 (t_rows_R 0)), (am 6, eJ cA 40 (t_rows_R 1)), (am 7, eJ cA 40 (t_rows_R 2)), (am 8, eJ cA 40 (t_rows_R 3)), (am 9, eJ cA 40 (t_rows_R 4)), (am 10, eJ cA 40 (t_rows_R 5)), (am 11, eJ cA 40 (t_rows_R 6)), (am 12, eJ cA 40 (t_rows_R 7)), ((am 16), eI cA 8 o3.2.2.1), ((am 17), eI cA 8 t_kind), ((am 19), eI cA 8 t_pitch), ((am 21), eI cA 12 o3.2.2.2), ((am 22), eI cA 13 o6.2.2)]) (va_runV (As := [.int l3]) (rest := []) ⟨hx, hb, hml, hown, htg⟩ (c_X6_sumOf l D cA _ fu am tkv ttv o3.2.1 t_L t_kind t_pitch o3.2.2.2 t_heard l3 o6 ho7) (cwV 1 htg (gV q_5_151 q_5_153 q_p5_10 q_1_8 q_5_154) rfl rfl rfl hd_X6_sumOf ⟨Nat.le_of_ble_eq_true rfl, Nat.le_of_ble_eq_true rfl⟩) (xpV hN hK hP hD [0, 13, 14, 15, 16] rfl (by decide) rfl rfl) rfl rfl hl.1 rfl (lv_room (Nat.le_of_ble_eq_true rfl)) dX6_sum_27 ⟨Nat.zero_le _, Nat.zero_le _⟩) hP hD hS hA [0, 13, 14, 15, 16] [1, 2, 3, 4, 5, 6, 7, 8, 9, 10, 11, 12] [12, 0, 1, 2, 3, 4, 5, 6, 7, 8, 9, 10, 11, 13, 14, 15, 16] rfl rfl (by decide) (by decide) rfl (by decide) (fun H locs hP hD hS => ?_)
    exact B_30 _ _ _ _ _ _ _ _ hm hP hD hS (lv_sub hl [1] rfl)
  · have hm := it_f c5 hm
    refine lv_iload hx hb dX6_sum_20 (lv_at hl 0 rfl) ?_
    refine lv_goto (tgt := 30) hx hb dX6_sum_22 (by decide) ?_
    exact B_30 _ _ _ _ _ _ _ _ hm hP hD hS (lv_sub hl [1] rfl)
def b_X6_weighed_30 (fu : Nat) (t_L : Nat → Int64) (t_shelf : Nat → Int32) (t_rowSize : Nat → Int32) (t_rows_R : Nat → Nat → Int64) (t_kind : Nat → Int32) (t_pitch : Nat → Int32) (s0 : Int32) (t : Nat → Int32) (t_refused : Nat → Int32) (t_word : Nat → Int32) (t_heard : Nat → Int32) : Option (Int32 × ((Nat → Int32) × (Nat → Int32) × (Nat → Int32) × (Nat → Int32))) :=
  some (s0, (t, t_refused, t_word, t_heard))
def m_X6_weighed (fu : Nat) (t : Nat → Int32) (t_L : Nat → Int64) (t_shelf : Nat → Int32) (t_rowSize : Nat → Int32) (t_rows_R : Nat → Nat → Int64) (t_refused : Nat → Int32) (t_kind : Nat → Int32) (t_pitch : Nat → Int32) (t_word : Nat → Int32) (t_heard : Nat → Int32) (l1 : Int32) (l2 : Int32) (l3 : Int32) : Option (Int32 × ((Nat → Int32) × (Nat → Int32) × (Nat → Int32) × (Nat → Int32))) :=
  (m_X6_isVoice fu t t_L l3).bind fun o1 =>
  (m_X6_noWord fu t t_L t_shelf t_rowSize t_rows_R t_refused t_word l1 l2 (12 : Int32) o1.1).bind fun o3 =>
  (if o3.1 = 0 then
    (m_X6_weighedOf fu o3.2.1 t_L t_kind t_pitch o3.2.2.2 t_heard l3).bind fun o6 =>
    b_X6_weighed_30 fu t_L t_shelf t_rowSize t_rows_R t_kind t_pitch o6.1 o6.2.1 o3.2.2.1 o3.2.2.2 o6.2.2
  else
    b_X6_weighed_30 fu t_L t_shelf t_rowSize t_rows_R t_kind t_pitch o3.1 o3.2.1 o3.2.2.1 o3.2.2.2 t_heard)
abbrev rm_X6_weighed : Room := ({ frames := 5, cells := 0, slots := 0, locals := 115 } : Room)
abbrev w0_X6_weighed (cA : Nat → ClassId) (am : Nat → Nat) (tkv : Value) (ttv : Value) (t : Nat → Int32) (t_L : Nat → Int64) (t_shelf : Nat → Int32) (t_rowSize : Nat → Int32) (t_rows_R : Nat → Nat → Int64) (t_refused : Nat → Int32) (t_kind : Nat → Int32) (t_pitch : Nat → Int32) (t_word : Nat → Int32) (t_heard : Nat → Int32) : va_W := [((am 0), e_X6 am tkv ttv t t_L), ((am 1), eI cA 8 t_shelf), ((am 3), eI cA 8 t_rowSize), ((am 4), eOJ cA am 5), (am 5, eJ cA 40 (t_rows_R 0)), (am 6, eJ cA 40 (t_rows_R 1)), (am 7, eJ cA 40 (t_rows_R 2)), (am 8, eJ cA 40 (t_rows_R 3)), (am 9, eJ cA 40 (t_rows_R 4)), (am 10, eJ cA 40 (t_rows_R 5)), (am 11, eJ cA 40 (t_rows_R 6)), (am 12, eJ cA 40 (t_rows_R 7)), ((am 16), eI cA 8 t_refused), ((am 17), eI cA 8 t_kind), ((am 19), eI cA 8 t_pitch), ((am 21), eI cA 12 t_word), ((am 22), eI cA 13 t_heard)]
abbrev w1_X6_weighed (cA : Nat → ClassId) (am : Nat → Nat) (tkv : Value) (ttv : Value) (t_L : Nat → Int64) (t_shelf : Nat → Int32) (t_rowSize : Nat → Int32) (t_rows_R : Nat → Nat → Int64) (t_kind : Nat → Int32) (t_pitch : Nat → Int32) (u : (Nat → Int32) × (Nat → Int32) × (Nat → Int32) × (Nat → Int32)) : va_W := [((am 0), e_X6 am tkv ttv u.1 t_L), ((am 1), eI cA 8 t_shelf), ((am 3), eI cA 8 t_rowSize), ((am 4), eOJ cA am 5), (am 5, eJ cA 40 (t_rows_R 0)), (am 6, eJ cA 40 (t_rows_R 1)), (am 7, eJ cA 40 (t_rows_R 2)), (am 8, eJ cA 40 (t_rows_R 3)), (am 9, eJ cA 40 (t_rows_R 4)), (am 10, eJ cA 40 (t_rows_R 5)), (am 11, eJ cA 40 (t_rows_R 6)), (am 12, eJ cA 40 (t_rows_R 7)), ((am 16), eI cA 8 u.2.1), ((am 17), eI cA 8 t_kind), ((am 19), eI cA 8 t_pitch), ((am 21), eI cA 12 u.2.2.1), ((am 22), eI cA 13 u.2.2.2)]
theorem hd_X6_weighed : yX6_weighed.cls = RX6 ∧ yX6_weighed.cls ≠ "java/lang/invoke/MethodHandle" ∧ yX6_weighed.cls ≠ "java/lang/invoke/VarHandle" ∧ (parseMethodDescriptor yX6_weighed.desc).map (fun d => d.parameters.length) = some 3 := by decide +kernel
set_option maxHeartbeats 40000000 in
set_option maxRecDepth 100000 in
theorem c_X6_weighed (l : Launch) (D : va_G) (cA : Nat → ClassId) (sz : Nat) (fu : Nat) (am : Nat → Nat) (tkv : Value) (ttv : Value) (t : Nat → Int32) (t_L : Nat → Int64) (t_shelf : Nat → Int32) (t_rowSize : Nat → Int32) (t_rows_R : Nat → Nat → Int64) (t_refused : Nat → Int32) (t_kind : Nat → Int32) (t_pitch : Nat → Int32) (t_word : Nat → Int32) (t_heard : Nat → Int32) (l1 : Int32) (l2 : Int32) (l3 : Int32) (out : Int32 × ((Nat → Int32) × (Nat → Int32) × (Nat → Int32) × (Nat → Int32))) (hm : m_X6_weighed fu t t_L t_shelf t_rowSize t_rows_R t_refused t_kind t_pitch t_word t_heard l1 l2 l3 = some out) : MI l yX6_weighed (wU yX6_weighed cX6_weighed 5 ((Option.some Jvm.ClassFile.FieldType.int))) rm_X6_weighed D cA sz [.ref (am 0), .int l1, .int l2, .int l3] (w0_X6_weighed cA am tkv ttv t t_L t_shelf t_rowSize t_rows_R t_refused t_kind t_pitch t_word t_heard) out (w1_X6_weighed cA am tkv ttv t_L t_shelf t_rowSize t_rows_R t_kind t_pitch) := by
  refine Met.ofW (cc := cX6_weighed) (maxL := 5) (ret := (Option.some Jvm.ClassFile.FieldType.int)) (by decide) rfl ?_
  intro p e s m args below meth c s₁ B hml hv
  obtain ⟨hargs, hsz, hP, hK, hD0, hN⟩ := hv
  have hx := B.exec
  have hb := B.bytes
  have hr := B.returns
  have htg : ∀ w ∈ gw, w.before args s = true := fun w h => atoms_spec (ws := wU yX6_weighed cX6_weighed 5 ((Option.some Jvm.ClassFile.FieldType.int))) B.pre w (List.mem_cons_of_mem _ h)
  have hown : s.vm.findClass RX6 = some m.cls := findClass_of_methodNamed B.named
  have hlocks := B.notSynchronized
  subst hsz
  have hD := hD0.self (sz := s.heap.size)
  have hA : ∀ q : Nat, s.heap.size ≤ q → va_A (w0_X6_weighed cA am tkv ttv t t_L t_shelf t_rowSize t_rows_R t_refused t_kind t_pitch t_word t_heard) s.heap.size q := fun q h => Or.inr h
  have hS : va_S (va_A (w0_X6_weighed cA am tkv ttv t t_L t_shelf t_rowSize t_rows_R t_refused t_kind t_pitch t_word t_heard) s.heap.size) s.heap s.heap [] := va_S.rf
  generalize va_A (w0_X6_weighed cA am tkv ttv t t_L t_shelf t_rowSize t_rows_R t_refused t_kind t_pitch t_word t_heard) s.heap.size = A at hA hD hS ⊢
  obtain ⟨Q, hQ⟩ : ∃ Q : State → Prop, Q = MQ below (va_Qi (fun (r : Int32) (u : (Nat → Int32) × (Nat → Int32) × (Nat → Int32) × (Nat → Int32)) => (r, u) = out) (pst0 D cA A (w1_X6_weighed cA am tkv ttv t_L t_shelf t_rowSize t_rows_R t_kind t_pitch)) A) args s 0 0 A := ⟨_, rfl⟩
  refine (?_ : W p l e rm_X6_weighed s m args below meth c s.heap [] 0 0 (MQ below (va_Qi (fun (r : Int32) (u : (Nat → Int32) × (Nat → Int32) × (Nat → Int32) × (Nat → Int32)) => (r, u) = out) (pst0 D cA A (w1_X6_weighed cA am tkv ttv t_L t_shelf t_rowSize t_rows_R t_kind t_pitch)) A) args s 0 0 A) (entryFrame m args 5))
  rw [← hQ]
  have hP : va_P D CL [((am 0), e_X6 am tkv ttv t t_L), ((am 1), eI cA 8 t_shelf), ((am 3), eI cA 8 t_rowSize), ((am 4), eOJ cA am 5), (am 5, eJ cA 40 (t_rows_R 0)), (am 6, eJ cA 40 (t_rows_R 1)), (am 7, eJ cA 40 (t_rows_R 2)), (am 8, eJ cA 40 (t_rows_R 3)), (am 9, eJ cA 40 (t_rows_R 4)), (am 10, eJ cA 40 (t_rows_R 5)), (am 11, eJ cA 40 (t_rows_R 6)), (am 12, eJ cA 40 (t_rows_R 7)), ((am 16), eI cA 8 t_refused), ((am 17), eI cA 8 t_kind), ((am 19), eI cA 8 t_pitch), ((am 21), eI cA 12 t_word), ((am 22), eI cA 13 t_heard)] s.heap := hP
  have hD : va_D A [((am 0), e_X6 am tkv ttv t t_L), ((am 1), eI cA 8 t_shelf), ((am 3), eI cA 8 t_rowSize), ((am 4), eOJ cA am 5), (am 5, eJ cA 40 (t_rows_R 0)), (am 6, eJ cA 40 (t_rows_R 1)), (am 7, eJ cA 40 (t_rows_R 2)), (am 8, eJ cA 40 (t_rows_R 3)), (am 9, eJ cA 40 (t_rows_R 4)), (am 10, eJ cA 40 (t_rows_R 5)), (am 11, eJ cA 40 (t_rows_R 6)), (am 12, eJ cA 40 (t_rows_R 7)), ((am 16), eI cA 8 t_refused), ((am 17), eI cA 8 t_kind), ((am 19), eI cA 8 t_pitch), ((am 21), eI cA 12 t_word), ((am 22), eI cA 13 t_heard)] := hD
  have B_30 : ∀ (s0 : Int32) (t : Nat → Int32) (t_refused : Nat → Int32) (t_word : Nat → Int32) (t_heard : Nat → Int32) (H : Heap) (locs : List Loc) (ls : Array Slot), b_X6_weighed_30 fu t_L t_shelf t_rowSize t_rows_R t_kind t_pitch s0 t t_refused t_word t_heard = some out → va_P D CL [((am 0), e_X6 am tkv ttv t t_L), ((am 1), eI cA 8 t_shelf), ((am 3), eI cA 8 t_rowSize), ((am 4), eOJ cA am 5), (am 5, eJ cA 40 (t_rows_R 0)), (am 6, eJ cA 40 (t_rows_R 1)), (am 7, eJ cA 40 (t_rows_R 2)), (am 8, eJ cA 40 (t_rows_R 3)), (am 9, eJ cA 40 (t_rows_R 4)), (am 10, eJ cA 40 (t_rows_R 5)), (am 11, eJ cA 40 (t_rows_R 6)), (am 12, eJ cA 40 (t_rows_R 7)), ((am 16), eI cA 8 t_refused), ((am 17), eI cA 8 t_kind), ((am 19), eI cA 8 t_pitch), ((am 21), eI cA 12 t_word), ((am 22), eI cA 13 t_heard)] H → va_D A [((am 0), e_X6 am tkv ttv t t_L), ((am 1), eI cA 8 t_shelf), ((am 3), eI cA 8 t_rowSize), ((am 4), eOJ cA am 5), (am 5, eJ cA 40 (t_rows_R 0)), (am 6, eJ cA 40 (t_rows_R 1)), (am 7, eJ cA 40 (t_rows_R 2)), (am 8, eJ cA 40 (t_rows_R 3)), (am 9, eJ cA 40 (t_rows_R 4)), (am 10, eJ cA 40 (t_rows_R 5)), (am 11, eJ cA 40 (t_rows_R 6)), (am 12, eJ cA 40 (t_rows_R 7)), ((am 16), eI cA 8 t_refused), ((am 17), eI cA 8 t_kind), ((am 19), eI cA 8 t_pitch), ((am 21), eI cA 12 t_word), ((am 22), eI cA 13 t_heard)] → va_S A s.heap H locs → lv_has ls 5 [(0, .ref (am 0))] → W p l e rm_X6_weighed s m args below meth c H locs 0 0 Q (F0 m 30 ls [.int s0]) := by
    intro  s0 t t_refused t_word t_heard H locs ls hm hP hD hS hl
    unfold b_X6_weighed_30 at hm
    rw [hQ]
    exact W.iret (v := s0) hx hb hr (fun t9 ht hW => ⟨⟨s0, (t, t_refused, t_word, t_heard), rfl, (Option.some.inj hm), by rw [ht]; exact hP, va_K.moved hW.alike hK, hD⟩, hS.F ht⟩) hS.2.2 dX6_weighed_30
  unfold m_X6_weighed at hm
  subst hargs
  have hl := lv_entry ([.ref (am 0), .int l1, .int l2, .int l3]) (n := 5) (Nat.le_of_ble_eq_true rfl)
  rw [lg_entry_eq]
  generalize (lg_sl ([.ref (am 0), .int l1, .int l2, .int l3]) ++ List.replicate (5 - (lg_sl ([.ref (am 0), .int l1, .int l2, .int l3])).length) Slot.unset).toArray = ls at hl ⊢
  have hl : lv_has ls 5 [(0, .ref (am 0)), (1, .int l1), (2, .int l2), (3, .int l3)] := hl
  refine lv_aload_n hx hb dX6_weighed_0 rfl (lv_at hl 0 rfl) ?_
  refine lv_iload_n hx hb dX6_weighed_1 rfl (lv_at hl 1 rfl) ?_
  refine lv_iload_n hx hb dX6_weighed_2 rfl (lv_at hl 2 rfl) ?_
  refine lv_bipush (v := (12 : Int32)) hx hb dX6_weighed_3 (by decide) ?_
  refine lv_aload_n hx hb dX6_weighed_5 rfl (lv_at hl 0 rfl) ?_
  refine lv_iload_n hx hb dX6_weighed_6 rfl (lv_at hl 3 rfl) ?_
  obtain ⟨o1, ho2, hm⟩ := bd_s hm
  refine xr_i (wr := [((am 1), eI cA 8 t_shelf), ((am 3), eI cA 8 t_rowSize), ((am 4), eOJ cA am 5), (am 5, eJ cA 40 (t_rows_R 0)), (am 6, eJ cA 40 (t_rows_R 1)), (am 7, eJ cA 40 (t_rows_R 2)), (am 8, eJ cA 40 (t_rows_R 3)), (am 9, eJ cA 40 (t_rows_R 4)), (am 10, eJ cA 40 (t_rows_R 5)), (am 11, eJ cA 40 (t_rows_R 6)), (am 12, eJ cA 40 (t_rows_R 7)), ((am 16), eI cA 8 t_refused), ((am 17), eI cA 8 t_kind), ((am 19), eI cA 8 t_pitch), ((am 21), eI cA 12 t_word), ((am 22), eI cA 13 t_heard)]) (wn := [((am 0), e_X6 am tkv ttv t t_L), ((am 1), eI cA 8 t_shelf), ((am 3), eI cA 8 t_rowSize), ((am 4), eOJ cA am 5), (am 5, eJ cA 40 (t_rows_R 0)), (am 6, eJ cA 40 (t_rows_R 1)), (am 7, eJ cA 40 (t_rows_R 2)), (am 8, eJ cA 40 (t_rows_R 3)), (am 9, eJ cA 40 (t_rows_R 4)), (am 10, eJ cA 40 (t_rows_R 5)), (am 11, eJ cA 40 (t_rows_R 6)), (am 12, eJ cA 40 (t_rows_R 7)), ((am 16), eI cA 8 t_refused), ((am 17), eI cA 8 t_kind), ((am 19), eI cA 8 t_pitch), ((am 21), eI cA 12 t_word), ((am 22), eI cA 13 t_heard)]) (va_runV (As := [.int l3]) (rest := [.int (12 : Int32), .int l2, .int l1, .ref (am 0)]) ⟨hx, hb, hml, hown, htg⟩ (c_X6_isVoice l D cA _ fu am tkv ttv t t_L l3 o1 ho2) (cwV 1 htg (gV q_5_139 q_5_141 q_p5_9 q_1_8 q_5_142) rfl rfl rfl hd_X6_isVoice ⟨Nat.le_of_ble_eq_true rfl, Nat.le_of_ble_eq_true rfl⟩) (xpV hN hK hP hD [0] rfl (by decide) rfl rfl) rfl rfl hl.1 rfl (lv_room (Nat.le_of_ble_eq_true rfl)) dX6_weighed_7 ⟨Nat.zero_le _, Nat.zero_le _⟩) hP hD hS hA [0] [1, 2, 3, 4, 5, 6, 7, 8, 9, 10, 11, 12, 13, 14, 15, 16] [16, 0, 1, 2, 3, 4, 5, 6, 7, 8, 9, 10, 11, 12, 13, 14, 15] rfl rfl (by decide) (by decide) rfl (by decide) (fun H locs hP hD hS => ?_)
  obtain ⟨o3, ho4, hm⟩ := bd_s hm
  refine xr_i (wr := [((am 17), eI cA 8 t_kind), ((am 19), eI cA 8 t_pitch), ((am 22), eI cA 13 t_heard)]) (wn := [((am 0), e_X6 am tkv ttv o3.2.1 t_L), ((am 1), eI cA 8 t_shelf), ((am 3), eI cA 8 t_rowSize), ((am 4), eOJ cA am 5), (am 5, eJ cA 40 (t_rows_R 0)), (am 6, eJ cA 40 (t_rows_R 1)), (am 7, eJ cA 40 (t_rows_R 2)), (am 8, eJ cA 40 (t_rows_R 3)), (am 9, eJ cA 40 (t_rows_R 4)), (am 10, eJ cA 40 (t_rows_R 5)), (am 11, eJ cA 40 (t_rows_R 6)), (am 12, eJ cA 40 (t_rows_R 7)), ((am 16), eI cA 8 o3.2.2.1), ((am 17), eI cA 8 t_kind), ((am 19), eI cA 8 t_pitch), ((am 21), eI cA 12 o3.2.2.2), ((am 22), eI cA 13 t_heard)]) (va_runV (As := [.int l1, .int l2, .int (12 : Int32), .int o1.1]) (rest := []) ⟨hx, hb, hml, hown, htg⟩ (c_X6_noWord l D cA _ fu am tkv ttv t t_L t_shelf t_rowSize t_rows_R t_refused t_word l1 l2 (12 : Int32) o1.1 o3 ho4) (cwV 4 htg (gV q_6_49 q_6_51 q_p6_8 q_1_8 q_6_52) rfl rfl rfl hd_X6_noWord ⟨Nat.le_of_ble_eq_true rfl, Nat.le_of_ble_eq_true rfl⟩) (xpV hN hK hP hD [0, 1, 2, 3, 4, 5, 6, 7, 8, 9, 10, 11, 12, 15] rfl (by decide) rfl rfl) rfl rfl hl.1 rfl (lv_room (Nat.le_of_ble_eq_true rfl)) dX6_weighed_10 ⟨Nat.zero_le _, Nat.zero_le _⟩) hP hD hS hA [0, 1, 2, 3, 4, 5, 6, 7, 8, 9, 10, 11, 12, 15] [13, 14, 16] [3, 4, 5, 6, 7, 8, 9, 10, 11, 12, 13, 14, 15, 0, 1, 16, 2] rfl rfl (by decide) (by decide) rfl (by decide) (fun H locs hP hD hS => ?_)
  refine lv_istore (lv' := [(4, .int o3.1), (0, .ref (am 0)), (1, .int l1), (2, .int l2), (3, .int l3)]) hx hb dX6_weighed_13 hl (by decide) rfl (fun ls hl => ?_)
  refine lv_iload hx hb dX6_weighed_15 (lv_at hl 0 rfl) ?_
  refine lv_if_eq (tgt := 25) hx hb dX6_weighed_17 (by decide) (fun c5 => ?_) (fun c5 => ?_)
  · have hm := it_t c5 hm
    refine lv_aload_n hx hb dX6_weighed_25 rfl (lv_at hl 1 rfl) ?_
    refine lv_iload_n hx hb dX6_weighed_26 rfl (lv_at hl 4 rfl) ?_
    obtain ⟨o6, ho7, hm⟩ := bd_s hm
    refine xr_i (wr := [((am 1), eI cA 8 t_shelf), ((am 3), eI cA 8 t_rowSize), ((am 4), eOJ cA am 5), (am 5, eJ cA 40 (t_rows_R 0)), (am 6, eJ cA 40 (t_rows_R 1)), (am 7, eJ cA 40 (t_rows_R 2)), (am 8, eJ cA 40 (t_rows_R 3)), (am 9, eJ cA 40 (t_rows_R 4)), (am 10, eJ cA 40 (t_rows_R 5)), (am 11, eJ cA 40 (t_rows_R 6)), (am 12, eJ cA 40 (t_rows_R 7)), ((am 16), eI cA 8 o3.2.2.1)]) (wn := [((am 0), e_X6 am tkv ttv o6.2.1 t_L), ((am 1), eI cA 8 t_shelf), ((am 3), eI cA 8 t_rowSize), ((am 4), eOJ cA am 5), (am 5, eJ cA 40 (t_rows_R 0)), (am 6, eJ cA 40 (t_rows_R 1)), (am 7, eJ cA 40 (t_rows_R 2)), (am 8, eJ cA 40 (t_rows_R 3)), (am 9, eJ cA 40 (t_rows_R 4)), (am 10, eJ cA 40 (t_rows_R 5)), (am 11, eJ cA 40 (t_rows_R 6)), (am 12, eJ cA 40 (t_rows_R 7)), ((am 16), eI cA 8 o3.2.2.1), ((am 17), eI cA 8 t_kind), ((am 19), eI cA 8 t_pitch), ((am 21), eI cA 12 o3.2.2.2), ((am 22), eI cA 13 o6.2.2)]) (va_runV (As := [.int l3]) (rest := []) ⟨hx, hb, hml, hown, htg⟩ (c_X6_weighedOf l D cA _ fu am tkv ttv o3.2.1 t_L t_kind t_pitch o3.2.2.2 t_heard l3 o6 ho7) (cwV 1 htg (gV q_6_65 q_6_67 q_p6_10 q_1_8 q_6_68) rfl rfl rfl hd_X6_weighedOf ⟨Nat.le_of_ble_eq_true rfl, Nat.le_of_ble_eq_true rfl⟩) (xpV hN hK hP hD [0, 13, 14, 15, 16] rfl (by decide) rfl rfl) rfl rfl hl.1 rfl (lv_room (Nat.le_of_ble_eq_true rfl)) dX6_weighed_27 ⟨Nat.zero_le _, Nat.zero_le _⟩) hP hD hS hA [0, 13, 14, 15, 16] [1, 2, 3, 4, 5, 6, 7, 8, 9, 10, 11, 12] [12, 0, 1, 2, 3, 4, 5, 6, 7, 8, 9, 10, 11, 13, 14, 15, 16] rfl rfl (by decide) (by decide) rfl (by decide) (fun H locs hP hD hS => ?_)
    exact B_30 _ _ _ _ _ _ _ _ hm hP hD hS (lv_sub hl [1] rfl)
  · have hm := it_f c5 hm
    refine lv_iload hx hb dX6_weighed_20 (lv_at hl 0 rfl) ?_
    refine lv_goto (tgt := 30) hx hb dX6_weighed_22 (by decide) ?_
    exact B_30 _ _ _ _ _ _ _ _ hm hP hD hS (lv_sub hl [1] rfl)
def b_X6_yesBits_28 (fu : Nat) (t_L : Nat → Int64) (t_kind : Nat → Int32) (t_pitch : Nat → Int32) (t_word : Nat → Int32) (k_4 : (Int32 × Int32 × (Nat → Int32) × (Nat → Int32)) → Option (Int32 × ((Nat → Int32) × (Nat → Int32)))) (l2 : Int32) (s0 : Int32) (s1 : Int32) (t : Nat → Int32) (t_heard : Nat → Int32) : Option (Int32 × ((Nat → Int32) × (Nat → Int32))) :=
  k_4 ((s0 ||| s1), (l2 + (1 : Int32)), t, t_heard)
def b_X6_yesBits_4 (fu : Nat) (t_L : Nat → Int64) (t_kind : Nat → Int32) (t_pitch : Nat → Int32) (t_word : Nat → Int32) (k_4 : (Int32 × Int32 × (Nat → Int32) × (Nat → Int32)) → Option (Int32 × ((Nat → Int32) × (Nat → Int32)))) (x : Int32 × Int32 × (Nat → Int32) × (Nat → Int32)) : Option (Int32 × ((Nat → Int32) × (Nat → Int32))) :=
  (if x.2.2.1 16 ≤ x.2.1 then
        some (x.1, (x.2.2.1, x.2.2.2))
      else
        (m_X6_gets fu x.2.2.1 t_L t_kind t_pitch t_word x.2.2.2 x.2.1).bind fun o2 =>
        (if o2.1 = 0 then
          b_X6_yesBits_28 fu t_L t_kind t_pitch t_word k_4 x.2.1 x.1 (0 : Int32) o2.2.1 o2.2.2
        else
          b_X6_yesBits_28 fu t_L t_kind t_pitch t_word k_4 x.2.1 x.1 ((1 : Int32) <<< (x.2.1 &&& 31)) o2.2.1 o2.2.2))
def m_X6_yesBits (fu : Nat) (t : Nat → Int32) (t_L : Nat → Int64) (t_kind : Nat → Int32) (t_pitch : Nat → Int32) (t_word : Nat → Int32) (t_heard : Nat → Int32) : Option (Int32 × ((Nat → Int32) × (Nat → Int32))) :=
  lfix (b_X6_yesBits_4 fu t_L t_kind t_pitch t_word) fu ((0 : Int32), (0 : Int32), t, t_heard)
abbrev rm_X6_yesBits : Room := ({ frames := 6, cells := 0, slots := 0, locals := 136 } : Room)
abbrev w0_X6_yesBits (cA : Nat → ClassId) (am : Nat → Nat) (tkv : Value) (ttv : Value) (t : Nat → Int32) (t_L : Nat → Int64) (t_kind : Nat → Int32) (t_pitch : Nat → Int32) (t_word : Nat → Int32) (t_heard : Nat → Int32) : va_W := [((am 0), e_X6 am tkv ttv t t_L), ((am 17), eI cA 8 t_kind), ((am 19), eI cA 8 t_pitch), ((am 21), eI cA 12 t_word), ((am 22), eI cA 13 t_heard)]
abbrev w1_X6_yesBits (cA : Nat → ClassId) (am : Nat → Nat) (tkv : Value) (ttv : Value) (t_L : Nat → Int64) (t_kind : Nat → Int32) (t_pitch : Nat → Int32) (t_word : Nat → Int32) (u : (Nat → Int32) × (Nat → Int32)) : va_W := [((am 0), e_X6 am tkv ttv u.1 t_L), ((am 17), eI cA 8 t_kind), ((am 19), eI cA 8 t_pitch), ((am 21), eI cA 12 t_word), ((am 22), eI cA 13 u.2)]
theorem hd_X6_yesBits : yX6_yesBits.cls = RX6 ∧ yX6_yesBits.cls ≠ "java/lang/invoke/MethodHandle" ∧ yX6_yesBits.cls ≠ "java/lang/invoke/VarHandle" ∧ (parseMethodDescriptor yX6_yesBits.desc).map (fun d => d.parameters.length) = some 0 := by decide +kernel
set_option maxHeartbeats 40000000 in
set_option maxRecDepth 100000 in
theorem c_X6_yesBits (l : Launch) (D : va_G) (cA : Nat → ClassId) (sz : Nat) (fu : Nat) (am : Nat → Nat) (tkv : Value) (ttv : Value) (t : Nat → Int32) (t_L : Nat → Int64) (t_kind : Nat → Int32) (t_pitch : Nat → Int32) (t_word : Nat → Int32) (t_heard : Nat → Int32) (out : Int32 × ((Nat → Int32) × (Nat → Int32))) (hm : m_X6_yesBits fu t t_L t_kind t_pitch t_word t_heard = some out) : MI l yX6_yesBits (wU yX6_yesBits cX6_yesBits 3 ((Option.some Jvm.ClassFile.FieldType.int))) rm_X6_yesBits D cA sz [.ref (am 0)] (w0_X6_yesBits cA am tkv ttv t t_L t_kind t_pitch t_word t_heard) out (w1_X6_yesBits cA am tkv ttv t_L t_kind t_pitch t_word) := by
  refine Met.ofW (cc := cX6_yesBits) (maxL := 3) (ret := (Option.some Jvm.ClassFile.FieldType.int)) (by decide) rfl ?_
  intro p e s m args below meth c s₁ B hml hv
  obtain ⟨hargs, hsz, hP, hK, hD0, hN⟩ := hv
  have hx := B.exec
  have hb := B.bytes
  have hr := B.returns
  have htg : ∀ w ∈ gw, w.before args s = true := fun w h => atoms_spec (ws := wU yX6_yesBits cX6_yesBits 3 ((Option.some Jvm.ClassFile.FieldType.int))) B.pre w (List.mem_cons_of_mem _ h)
  have hown : s.vm.findClass RX6 = some m.cls := findClass_of_methodNamed B.named
  have hlocks := B.notSynchronized
  subst hsz
  have hD := hD0.self (sz := s.heap.size)
  have hA : ∀ q : Nat, s.heap.size ≤ q → va_A (w0_X6_yesBits cA am tkv ttv t t_L t_kind t_pitch t_word t_heard) s.heap.size q := fun q h => Or.inr h
  have hS : va_S (va_A (w0_X6_yesBits cA am tkv ttv t t_L t_kind t_pitch t_word t_heard) s.heap.size) s.heap s.heap [] := va_S.rf
  generalize va_A (w0_X6_yesBits cA am tkv ttv t t_L t_kind t_pitch t_word t_heard) s.heap.size = A at hA hD hS ⊢
  obtain ⟨Q, hQ⟩ : ∃ Q : State → Prop, Q = MQ below (va_Qi (fun (r : Int32) (u : (Nat → Int32) × (Nat → Int32)) => (r, u) = out) (pst0 D cA A (w1_X6_yesBits cA am tkv ttv t_L t_kind t_pitch t_word)) A) args s 0 0 A := ⟨_, rfl⟩
  refine (?_ : W p l e rm_X6_yesBits s m args below meth c s.heap [] 0 0 (MQ below (va_Qi (fun (r : Int32) (u : (Nat → Int32) × (Nat → Int32)) => (r, u) = out) (pst0 D cA A (w1_X6_yesBits cA am tkv ttv t_L t_kind t_pitch t_word)) A) args s 0 0 A) (entryFrame m args 3))
  rw [← hQ]
  have hP : va_P D CL [((am 0), e_X6 am tkv ttv t t_L), ((am 17), eI cA 8 t_kind), ((am 19), eI cA 8 t_pitch), ((am 21), eI cA 12 t_word), ((am 22), eI cA 13 t_heard)] s.heap := hP
  have hD : va_D A [((am 0), e_X6 am tkv ttv t t_L), ((am 17), eI cA 8 t_kind), ((am 19), eI cA 8 t_pitch), ((am 21), eI cA 12 t_word), ((am 22), eI cA 13 t_heard)] := hD
  have B_28 : ∀ (k_4 : (Int32 × Int32 × (Nat → Int32) × (Nat → Int32)) → Option (Int32 × ((Nat → Int32) × (Nat → Int32)))) (HK_4 : ∀ (x : Int32 × Int32 × (Nat → Int32) × (Nat → Int32)) (H : Heap) (locs : List Loc) (ls : Array Slot), k_4 x = some out → va_P D CL [((am 0), e_X6 am tkv ttv x.2.2.1 t_L), ((am 17), eI cA 8 t_kind), ((am 19), eI cA 8 t_pitch), ((am 21), eI cA 12 t_word), ((am 22), eI cA 13 x.2.2.2)] H → va_D A [((am 0), e_X6 am tkv ttv x.2.2.1 t_L), ((am 17), eI cA 8 t_kind), ((am 19), eI cA 8 t_pitch), ((am 21), eI cA 12 t_word), ((am 22), eI cA 13 x.2.2.2)] → va_S A s.heap H locs → lv_has ls 3 [(0, .ref (am 0)), (1, .int x.1), (2, .int x.2.1)] → W p l e rm_X6_yesBits s m args below meth c H locs 0 0 Q (F0 m 4 ls [])) (l2 : Int32) (s0 : Int32) (s1 : Int32) (t : Nat → Int32) (t_heard : Nat → Int32) (H : Heap) (locs : List Loc) (ls : Array Slot), b_X6_yesBits_28 fu t_L t_kind t_pitch t_word k_4 l2 s0 s1 t t_heard = some out → va_P D CL [((am 0), e_X6 am tkv ttv t t_L), ((am 17), eI cA 8 t_kind), ((am 19), eI cA 8 t_pitch), ((am 21), eI cA 12 t_word), ((am 22), eI cA 13 t_heard)] H → va_D A [((am 0), e_X6 am tkv ttv t t_L), ((am 17), eI cA 8 t_kind), ((am 19), eI cA 8 t_pitch), ((am 21), eI cA 12 t_word), ((am 22), eI cA 13 t_heard)] → va_S A s.heap H locs → lv_has ls 3 [(0, .ref (am 0)), (2, .int l2)] → W p l e rm_X6_yesBits s m args below meth c H locs 0 0 Q (F0 m 28 ls [.int s1, .int s0]) := by
    intro k_4 HK_4 l2 s0 s1 t t_heard H locs ls hm hP hD hS hl
    unfold b_X6_yesBits_28 at hm
    refine lv_ior hx hb dX6_yesBits_28 ?_
    refine lv_istore_n (lv' := [(1, .int (s0 ||| s1)), (0, .ref (am 0)), (2, .int l2)]) hx hb dX6_yesBits_29 rfl hl (by decide) rfl (fun ls hl => ?_)
    refine lv_iinc (v := (l2 + (1 : Int32))) (lv' := [(2, .int (l2 + (1 : Int32))), (1, .int (s0 ||| s1)), (0, .ref (am 0))]) hx hb dX6_yesBits_30 hl (k := 2) rfl rfl (by decide) rfl (fun ls hl => ?_)
    refine lv_goto (tgt := 4) hx hb dX6_yesBits_33 (by decide) ?_
    exact HK_4 _ _ _ _ hm hP hD hS (lv_sub hl [2, 1, 0] rfl)
  have B_4 : ∀ (n : Nat) (x : Int32 × Int32 × (Nat → Int32) × (Nat → Int32)) (H : Heap) (locs : List Loc) (ls : Array Slot), lfix (b_X6_yesBits_4 fu t_L t_kind t_pitch t_word) n x = some out → va_P D CL [((am 0), e_X6 am tkv ttv x.2.2.1 t_L), ((am 17), eI cA 8 t_kind), ((am 19), eI cA 8 t_pitch), ((am 21), eI cA 12 t_word), ((am 22), eI cA 13 x.2.2.2)] H → va_D A [((am 0), e_X6 am tkv ttv x.2.2.1 t_L), ((am 17), eI cA 8 t_kind), ((am 19), eI cA 8 t_pitch), ((am 21), eI cA 12 t_word), ((am 22), eI cA 13 x.2.2.2)] → va_S A s.heap H locs → lv_has ls 3 [(0, .ref (am 0)), (1, .int x.1), (2, .int x.2.1)] → W p l e rm_X6_yesBits s m args below meth c H locs 0 0 Q (F0 m 4 ls []) := by
    intro  n
    induction n with
    | zero => intro x H locs ls hm; cases (show none = some out from hm)
    | succ n HK_4 =>
      intro x H locs ls hm hP hD hS hl
      replace hm : b_X6_yesBits_4 fu t_L t_kind t_pitch t_word (lfix (b_X6_yesBits_4 fu t_L t_kind t_pitch t_word) n) x = some out := hm
      unfold b_X6_yesBits_4 at hm
      refine lv_iload_n hx hb dX6_yesBits_4 rfl (lv_at hl 2 rfl) ?_
      refine lv_aload_n hx hb dX6_yesBits_5 rfl (lv_at hl 0 rfl) ?_
      refine va_get (D := D) (ci := 6) (v := .int (x.2.2.1 16)) (C := RX6) (T := TX6) (N := 49) hx hb htg inX6 hown hK hP 0 rfl rfl 16 (by decide) (htg _ q_4_205) (fun _ h9 => h9) rfl dX6_yesBits_6 ?_
      refine lv_icmp_ge (tgt := 36) hx hb dX6_yesBits_9 (by decide) (fun c1 => ?_) (fun c1 => ?_)
      · have hm := it_t c1 hm
        refine lv_iload_n hx hb dX6_yesBits_36 rfl (lv_at hl 1 rfl) ?_
        rw [hQ]
        exact W.iret (v := x.1) hx hb hr (fun t9 ht hW => ⟨⟨x.1, (x.2.2.1, x.2.2.2), rfl, (Option.some.inj hm), by rw [ht]; exact hP, va_K.moved hW.alike hK, hD⟩, hS.F ht⟩) hS.2.2 dX6_yesBits_37
      · have hm := it_f c1 hm
        refine lv_iload_n hx hb dX6_yesBits_12 rfl (lv_at hl 1 rfl) ?_
        refine lv_aload_n hx hb dX6_yesBits_13 rfl (lv_at hl 0 rfl) ?_
        refine lv_iload_n hx hb dX6_yesBits_14 rfl (lv_at hl 2 rfl) ?_
        obtain ⟨o2, ho3, hm⟩ := bd_s hm
        refine xr_i (wr := []) (wn := [((am 0), e_X6 am tkv ttv o2.2.1 t_L), ((am 17), eI cA 8 t_kind), ((am 19), eI cA 8 t_pitch), ((am 21), eI cA 12 t_word), ((am 22), eI cA 13 o2.2.2)]) (va_runV (As := [.int x.2.1]) (rest := [.int x.1]) ⟨hx, hb, hml, hown, htg⟩ (c_X6_gets l D cA _ fu am tkv ttv x.2.2.1 t_L t_kind t_pitch t_word x.2.2.2 x.2.1 o2 ho3) (cwV 1 htg (gV q_6_77 q_6_79 q_p6_12 q_1_8 q_6_80) rfl rfl rfl hd_X6_gets ⟨Nat.le_of_ble_eq_true rfl, Nat.le_of_ble_eq_true rfl⟩) (xpV hN hK hP hD [0, 1, 2, 3, 4] rfl (by decide) rfl rfl) rfl rfl hl.1 rfl (lv_room (Nat.le_of_ble_eq_true rfl)) dX6_yesBits_15 ⟨Nat.zero_le _, Nat.zero_le _⟩) hP hD hS hA [0, 1, 2, 3, 4] [] [0, 1, 2, 3, 4] rfl rfl (by decide) (by decide) rfl (by decide) (fun H locs hP hD hS => ?_)
        refine lv_if_eq (tgt := 27) hx hb dX6_yesBits_18 (by decide) (fun c4 => ?_) (fun c4 => ?_)
        · have hm := it_t c4 hm
          refine lv_iconst (v := (0 : Int32)) hx hb dX6_yesBits_27 (by decide) ?_
          exact B_28 _ HK_4 _ _ _ _ _ _ _ _ hm hP hD hS (lv_sub hl [0, 2] rfl)
        · have hm := it_f c4 hm
          refine lv_iconst (v := (1 : Int32)) hx hb dX6_yesBits_21 (by decide) ?_
          refine lv_iload_n hx hb dX6_yesBits_22 rfl (lv_at hl 2 rfl) ?_
          refine lv_ishl hx hb dX6_yesBits_23 ?_
          refine lv_goto (tgt := 28) hx hb dX6_yesBits_24 (by decide) ?_
          exact B_28 _ HK_4 _ _ _ _ _ _ _ _ hm hP hD hS (lv_sub hl [0, 2] rfl)
  unfold m_X6_yesBits at hm
  subst hargs
  have hl := lv_entry ([.ref (am 0)]) (n := 3) (Nat.le_of_ble_eq_true rfl)
  rw [lg_entry_eq]
  generalize (lg_sl ([.ref (am 0)]) ++ List.replicate (3 - (lg_sl ([.ref (am 0)])).length) Slot.unset).toArray = ls at hl ⊢
  have hl : lv_has ls 3 [(0, .ref (am 0))] := hl
  refine lv_iconst (v := (0 : Int32)) hx hb dX6_yesBits_0 (by decide) ?_
  refine lv_istore_n (lv' := [(1, .int (0 : Int32)), (0, .ref (am 0))]) hx hb dX6_yesBits_1 rfl hl (by decide) rfl (fun ls hl => ?_)
  refine lv_iconst (v := (0 : Int32)) hx hb dX6_yesBits_2 (by decide) ?_
  refine lv_istore_n (lv' := [(2, .int (0 : Int32)), (1, .int (0 : Int32)), (0, .ref (am 0))]) hx hb dX6_yesBits_3 rfl hl (by decide) rfl (fun ls hl => ?_)
  exact B_4 fu _ _ _ _ hm hP hD hS (lv_sub hl [2, 1, 0] rfl)
def b_X6_heard_22 (fu : Nat) (t_L : Nat → Int64) (t_shelf : Nat → Int32) (t_rowSize : Nat → Int32) (t_rows_R : Nat → Nat → Int64) (t_kind : Nat → Int32) (t_pitch : Nat → Int32) (s0 : Int32) (t : Nat → Int32) (t_refused : Nat → Int32) (t_word : Nat → Int32) (t_heard : Nat → Int32) : Option (Int32 × ((Nat → Int32) × (Nat → Int32) × (Nat → Int32) × (Nat → Int32))) :=
  some (s0, (t, t_refused, t_word, t_heard))
def m_X6_heard (fu : Nat) (t : Nat → Int32) (t_L : Nat → Int64) (t_shelf : Nat → Int32) (t_rowSize : Nat → Int32) (t_rows_R : Nat → Nat → Int64) (t_refused : Nat → Int32) (t_kind : Nat → Int32) (t_pitch : Nat → Int32) (t_word : Nat → Int32) (t_heard : Nat → Int32) (l1 : Int32) (l2 : Int32) : Option (Int32 × ((Nat → Int32) × (Nat → Int32) × (Nat → Int32) × (Nat → Int32))) :=
  (m_X6_noWord fu t t_L t_shelf t_rowSize t_rows_R t_refused t_word l1 l2 (12 : Int32) (1 : Int32)).bind fun o1 =>
  (if o1.1 = 0 then
    (m_X6_yesBits fu o1.2.1 t_L t_kind t_pitch o1.2.2.2 t_heard).bind fun o4 =>
    b_X6_heard_22 fu t_L t_shelf t_rowSize t_rows_R t_kind t_pitch o4.1 o4.2.1 o1.2.2.1 o1.2.2.2 o4.2.2
  else
    b_X6_heard_22 fu t_L t_shelf t_rowSize t_rows_R t_kind t_pitch o1.1 o1.2.1 o1.2.2.1 o1.2.2.2 t_heard)
abbrev rm_X6_heard : Room := ({ frames := 7, cells := 0, slots := 0, locals := 158 } : Room)
abbrev w0_X6_heard (cA : Nat → ClassId) (am : Nat → Nat) (tkv : Value) (ttv : Value) (t : Nat → Int32) (t_L : Nat → Int64) (t_shelf : Nat → Int32) (t_rowSize : Nat → Int32) (t_rows_R : Nat → Nat → Int64) (t_refused : Nat → Int32) (t_kind : Nat → Int32) (t_pitch : Nat → Int32) (t_word : Nat → Int32) (t_heard : Nat → Int32) : va_W := [((am 0), e_X6 am tkv ttv t t_L), ((am 1), eI cA 8 t_shelf), ((am 3), eI cA 8 t_rowSize), ((am 4), eOJ cA am 5), (am 5, eJ cA 40 (t_rows_R 0)), (am 6, eJ cA 40 (t_rows_R 1)), (am 7, eJ cA 40 (t_rows_R 2)), (am 8, eJ cA 40 (t_rows_R 3)), (am 9, eJ cA 40 (t_rows_R 4)), (am 10, eJ cA 40 (t_rows_R 5)), (am 11, eJ cA 40 (t_rows_R 6)), (am 12, eJ cA 40 (t_rows_R 7)), ((am 16), eI cA 8 t_refused), ((am 17), eI cA 8 t_kind), ((am 19), eI cA 8 t_pitch), ((am 21), eI cA 12 t_word), ((am 22), eI cA 13 t_heard)]
abbrev w1_X6_heard (cA : Nat → ClassId) (am : Nat → Nat) (tkv : Value) (ttv : Value) (t_L : Nat → Int64) (t_shelf : Nat → Int32) (t_rowSize : Nat → Int32) (t_rows_R : Nat → Nat → Int64) (t_kind : Nat → Int32) (t_pitch : Nat → Int32) (u : (Nat → Int32) × (Nat → Int32) × (Nat → Int32) × (Nat → Int32)) : va_W := [((am 0), e_X6 am tkv ttv u.1 t_L), ((am 1), eI cA 8 t_shelf), ((am 3), eI cA 8 t_rowSize), ((am 4), eOJ cA am 5), (am 5, eJ cA 40 (t_rows_R 0)), (am 6, eJ cA 40 (t_rows_R 1)), (am 7, eJ cA 40 (t_rows_R 2)), (am 8, eJ cA 40 (t_rows_R 3)), (am 9, eJ cA 40 (t_rows_R 4)), (am 10, eJ cA 40 (t_rows_R 5)), (am 11, eJ cA 40 (t_rows_R 6)), (am 12, eJ cA 40 (t_rows_R 7)), ((am 16), eI cA 8 u.2.1), ((am 17), eI cA 8 t_kind), ((am 19), eI cA 8 t_pitch), ((am 21), eI cA 12 u.2.2.1), ((am 22), eI cA 13 u.2.2.2)]
theorem hd_X6_heard : yX6_heard.cls = RX6 ∧ yX6_heard.cls ≠ "java/lang/invoke/MethodHandle" ∧ yX6_heard.cls ≠ "java/lang/invoke/VarHandle" ∧ (parseMethodDescriptor yX6_heard.desc).map (fun d => d.parameters.length) = some 2 := by decide +kernel
set_option maxHeartbeats 40000000 in
set_option maxRecDepth 100000 in
theorem c_X6_heard (l : Launch) (D : va_G) (cA : Nat → ClassId) (sz : Nat) (fu : Nat) (am : Nat → Nat) (tkv : Value) (ttv : Value) (t : Nat → Int32) (t_L : Nat → Int64) (t_shelf : Nat → Int32) (t_rowSize : Nat → Int32) (t_rows_R : Nat → Nat → Int64) (t_refused : Nat → Int32) (t_kind : Nat → Int32) (t_pitch : Nat → Int32) (t_word : Nat → Int32) (t_heard : Nat → Int32) (l1 : Int32) (l2 : Int32) (out : Int32 × ((Nat → Int32) × (Nat → Int32) × (Nat → Int32) × (Nat → Int32))) (hm : m_X6_heard fu t t_L t_shelf t_rowSize t_rows_R t_refused t_kind t_pitch t_word t_heard l1 l2 = some out) : MI l yX6_heard (wU yX6_heard cX6_heard 4 ((Option.some Jvm.ClassFile.FieldType.int))) rm_X6_heard D cA sz [.ref (am 0), .int l1, .int l2] (w0_X6_heard cA am tkv ttv t t_L t_shelf t_rowSize t_rows_R t_refused t_kind t_pitch t_word t_heard) out (w1_X6_heard cA am tkv ttv t_L t_shelf t_rowSize t_rows_R t_kind t_pitch) := by
  refine Met.ofW (cc := cX6_heard) (maxL := 4) (ret := (Option.some Jvm.ClassFile.FieldType.int)) (by decide) rfl ?_
  intro p e s m args below meth c s₁ B hml hv
  obtain ⟨hargs, hsz, hP, hK, hD0, hN⟩ := hv
  have hx := B.exec
  have hb := B.bytes
  have hr := B.returns
  have htg : ∀ w ∈ gw, w.before args s = true := fun w h => atoms_spec (ws := wU yX6_heard cX6_heard 4 ((Option.some Jvm.ClassFile.FieldType.int))) B.pre w (List.mem_cons_of_mem _ h)
  have hown : s.vm.findClass RX6 = some m.cls := findClass_of_methodNamed B.named
  have hlocks := B.notSynchronized
  subst hsz
  have hD := hD0.self (sz := s.heap.size)
  have hA : ∀ q : Nat, s.heap.size ≤ q → va_A (w0_X6_heard cA am tkv ttv t t_L t_shelf t_rowSize t_rows_R t_refused t_kind t_pitch t_word t_heard) s.heap.size q := fun q h => Or.inr h
  have hS : va_S (va_A (w0_X6_heard cA am tkv ttv t t_L t_shelf t_rowSize t_rows_R t_refused t_kind t_pitch t_word t_heard) s.heap.size) s.heap s.heap [] := va_S.rf
  generalize va_A (w0_X6_heard cA am tkv ttv t t_L t_shelf t_rowSize t_rows_R t_refused t_kind t_pitch t_word t_heard) s.heap.size = A at hA hD hS ⊢
  obtain ⟨Q, hQ⟩ : ∃ Q : State → Prop, Q = MQ below (va_Qi (fun (r : Int32) (u : (Nat → Int32) × (Nat → Int32) × (Nat → Int32) × (Nat → Int32)) => (r, u) = out) (pst0 D cA A (w1_X6_heard cA am tkv ttv t_L t_shelf t_rowSize t_rows_R t_kind t_pitch)) A) args s 0 0 A := ⟨_, rfl⟩
  refine (?_ : W p l e rm_X6_heard s m args below meth c s.heap [] 0 0 (MQ below (va_Qi (fun (r : Int32) (u : (Nat → Int32) × (Nat → Int32) × (Nat → Int32) × (Nat → Int32)) => (r, u) = out) (pst0 D cA A (w1_X6_heard cA am tkv ttv t_L t_shelf t_rowSize t_rows_R t_kind t_pitch)) A) args s 0 0 A) (entryFrame m args 4))
  rw [← hQ]
  have hP : va_P D CL [((am 0), e_X6 am tkv ttv t t_L), ((am 1), eI cA 8 t_shelf), ((am 3), eI cA 8 t_rowSize), ((am 4), eOJ cA am 5), (am 5, eJ cA 40 (t_rows_R 0)), (am 6, eJ cA 40 (t_rows_R 1)), (am 7, eJ cA 40 (t_rows_R 2)), (am 8, eJ cA 40 (t_rows_R 3)), (am 9, eJ cA 40 (t_rows_R 4)), (am 10, eJ cA 40 (t_rows_R 5)), (am 11, eJ cA 40 (t_rows_R 6)), (am 12, eJ cA 40 (t_rows_R 7)), ((am 16), eI cA 8 t_refused), ((am 17), eI cA 8 t_kind), ((am 19), eI cA 8 t_pitch), ((am 21), eI cA 12 t_word), ((am 22), eI cA 13 t_heard)] s.heap := hP
  have hD : va_D A [((am 0), e_X6 am tkv ttv t t_L), ((am 1), eI cA 8 t_shelf), ((am 3), eI cA 8 t_rowSize), ((am 4), eOJ cA am 5), (am 5, eJ cA 40 (t_rows_R 0)), (am 6, eJ cA 40 (t_rows_R 1)), (am 7, eJ cA 40 (t_rows_R 2)), (am 8, eJ cA 40 (t_rows_R 3)), (am 9, eJ cA 40 (t_rows_R 4)), (am 10, eJ cA 40 (t_rows_R 5)), (am 11, eJ cA 40 (t_rows_R 6)), (am 12, eJ cA 40 (t_rows_R 7)), ((am 16), eI cA 8 t_refused), ((am 17), eI cA 8 t_kind), ((am 19), eI cA 8 t_pitch), ((am 21), eI cA 12 t_word), ((am 22), eI cA 13 t_heard)] := hD
  have B_22 : ∀ (s0 : Int32) (t : Nat → Int32) (t_refused : Nat → Int32) (t_word : Nat → Int32) (t_heard : Nat → Int32) (H : Heap) (locs : List Loc) (ls : Array Slot), b_X6_heard_22 fu t_L t_shelf t_rowSize t_rows_R t_kind t_pitch s0 t t_refused t_word t_heard = some out → va_P D CL [((am 0), e_X6 am tkv ttv t t_L), ((am 1), eI cA 8 t_shelf), ((am 3), eI cA 8 t_rowSize), ((am 4), eOJ cA am 5), (am 5, eJ cA 40 (t_rows_R 0)), (am 6, eJ cA 40 (t_rows_R 1)), (am 7, eJ cA 40 (t_rows_R 2)), (am 8, eJ cA 40 (t_rows_R 3)), (am 9, eJ cA 40 (t_rows_R 4)), (am 10, eJ cA 40 (t_rows_R 5)), (am 11, eJ cA 40 (t_rows_R 6)), (am 12, eJ cA 40 (t_rows_R 7)), ((am 16), eI cA 8 t_refused), ((am 17), eI cA 8 t_kind), ((am 19), eI cA 8 t_pitch), ((am 21), eI cA 12 t_word), ((am 22), eI cA 13 t_heard)] H → va_D A [((am 0), e_X6 am tkv ttv t t_L), ((am 1), eI cA 8 t_shelf), ((am 3), eI cA 8 t_rowSize), ((am 4), eOJ cA am 5), (am 5, eJ cA 40 (t_rows_R 0)), (am 6, eJ cA 40 (t_rows_R 1)), (am 7, eJ cA 40 (t_rows_R 2)), (am 8, eJ cA 40 (t_rows_R 3)), (am 9, eJ cA 40 (t_rows_R 4)), (am 10, eJ cA 40 (t_rows_R 5)), (am 11, eJ cA 40 (t_rows_R 6)), (am 12, eJ cA 40 (t_rows_R 7)), ((am 16), eI cA 8 t_refused), ((am 17), eI cA 8 t_kind), ((am 19), eI cA 8 t_pitch), ((am 21), eI cA 12 t_word), ((am 22), eI cA 13 t_heard)] → va_S A s.heap H locs → lv_has ls 4 [(0, .ref (am 0))] → W p l e rm_X6_heard s m args below meth c H locs 0 0 Q (F0 m 22 ls [.int s0]) := by
    intro  s0 t t_refused t_word t_heard H locs ls hm hP hD hS hl
    unfold b_X6_heard_22 at hm
    rw [hQ]
    exact W.iret (v := s0) hx hb hr (fun t9 ht hW => ⟨⟨s0, (t, t_refused, t_word, t_heard), rfl, (Option.some.inj hm), by rw [ht]; exact hP, va_K.moved hW.alike hK, hD⟩, hS.F ht⟩) hS.2.2 dX6_heard_22
  unfold m_X6_heard at hm
  subst hargs
  have hl := lv_entry ([.ref (am 0), .int l1, .int l2]) (n := 4) (Nat.le_of_ble_eq_true rfl)
  rw [lg_entry_eq]
  generalize (lg_sl ([.ref (am 0), .int l1, .int l2]) ++ List.replicate (4 - (lg_sl ([.ref (am 0), .int l1, .int l2])).length) Slot.unset).toArray = ls at hl ⊢
  have hl : lv_has ls 4 [(0, .ref (am 0)), (1, .int l1), (2, .int l2)] := hl
  refine lv_aload_n hx hb dX6_heard_0 rfl (lv_at hl 0 rfl) ?_
  refine lv_iload_n hx hb dX6_heard_1 rfl (lv_at hl 1 rfl) ?_
  refine lv_iload_n hx hb dX6_heard_2 rfl (lv_at hl 2 rfl) ?_
  refine lv_bipush (v := (12 : Int32)) hx hb dX6_heard_3 (by decide) ?_
  refine lv_iconst (v := (1 : Int32)) hx hb dX6_heard_5 (by decide) ?_
  obtain ⟨o1, ho2, hm⟩ := bd_s hm
  refine xr_i (wr := [((am 17), eI cA 8 t_kind), ((am 19), eI cA 8 t_pitch), ((am 22), eI cA 13 t_heard)]) (wn := [((am 0), e_X6 am tkv ttv o1.2.1 t_L), ((am 1), eI cA 8 t_shelf), ((am 3), eI cA 8 t_rowSize), ((am 4), eOJ cA am 5), (am 5, eJ cA 40 (t_rows_R 0)), (am 6, eJ cA 40 (t_rows_R 1)), (am 7, eJ cA 40 (t_rows_R 2)), (am 8, eJ cA 40 (t_rows_R 3)), (am 9, eJ cA 40 (t_rows_R 4)), (am 10, eJ cA 40 (t_rows_R 5)), (am 11, eJ cA 40 (t_rows_R 6)), (am 12, eJ cA 40 (t_rows_R 7)), ((am 16), eI cA 8 o1.2.2.1), ((am 17), eI cA 8 t_kind), ((am 19), eI cA 8 t_pitch), ((am 21), eI cA 12 o1.2.2.2), ((am 22), eI cA 13 t_heard)]) (va_runV (As := [.int l1, .int l2, .int (12 : Int32), .int (1 : Int32)]) (rest := []) ⟨hx, hb, hml, hown, htg⟩ (c_X6_noWord l D cA _ fu am tkv ttv t t_L t_shelf t_rowSize t_rows_R t_refused t_word l1 l2 (12 : Int32) (1 : Int32) o1 ho2) (cwV 4 htg (gV q_6_49 q_6_51 q_p6_8 q_1_8 q_6_52) rfl rfl rfl hd_X6_noWord ⟨Nat.le_of_ble_eq_true rfl, Nat.le_of_ble_eq_true rfl⟩) (xpV hN hK hP hD [0, 1, 2, 3, 4, 5, 6, 7, 8, 9, 10, 11, 12, 15] rfl (by decide) rfl rfl) rfl rfl hl.1 rfl (lv_room (Nat.le_of_ble_eq_true rfl)) dX6_heard_6 ⟨Nat.zero_le _, Nat.zero_le _⟩) hP hD hS hA [0, 1, 2, 3, 4, 5, 6, 7, 8, 9, 10, 11, 12, 15] [13, 14, 16] [3, 4, 5, 6, 7, 8, 9, 10, 11, 12, 13, 14, 15, 0, 1, 16, 2] rfl rfl (by decide) (by decide) rfl (by decide) (fun H locs hP hD hS => ?_)
  refine lv_istore_n (lv' := [(3, .int o1.1), (0, .ref (am 0)), (1, .int l1), (2, .int l2)]) hx hb dX6_heard_9 rfl hl (by decide) rfl (fun ls hl => ?_)
  refine lv_iload_n hx hb dX6_heard_10 rfl (lv_at hl 0 rfl) ?_
  refine lv_if_eq (tgt := 18) hx hb dX6_heard_11 (by decide) (fun c3 => ?_) (fun c3 => ?_)
  · have hm := it_t c3 hm
    refine lv_aload_n hx hb dX6_heard_18 rfl (lv_at hl 1 rfl) ?_
    obtain ⟨o4, ho5, hm⟩ := bd_s hm
    refine xr_i (wr := [((am 1), eI cA 8 t_shelf), ((am 3), eI cA 8 t_rowSize), ((am 4), eOJ cA am 5), (am 5, eJ cA 40 (t_rows_R 0)), (am 6, eJ cA 40 (t_rows_R 1)), (am 7, eJ cA 40 (t_rows_R 2)), (am 8, eJ cA 40 (t_rows_R 3)), (am 9, eJ cA 40 (t_rows_R 4)), (am 10, eJ cA 40 (t_rows_R 5)), (am 11, eJ cA 40 (t_rows_R 6)), (am 12, eJ cA 40 (t_rows_R 7)), ((am 16), eI cA 8 o1.2.2.1)]) (wn := [((am 0), e_X6 am tkv ttv o4.2.1 t_L), ((am 1), eI cA 8 t_shelf), ((am 3), eI cA 8 t_rowSize), ((am 4), eOJ cA am 5), (am 5, eJ cA 40 (t_rows_R 0)), (am 6, eJ cA 40 (t_rows_R 1)), (am 7, eJ cA 40 (t_rows_R 2)), (am 8, eJ cA 40 (t_rows_R 3)), (am 9, eJ cA 40 (t_rows_R 4)), (am 10, eJ cA 40 (t_rows_R 5)), (am 11, eJ cA 40 (t_rows_R 6)), (am 12, eJ cA 40 (t_rows_R 7)), ((am 16), eI cA 8 o1.2.2.1), ((am 17), eI cA 8 t_kind), ((am 19), eI cA 8 t_pitch), ((am 21), eI cA 12 o1.2.2.2), ((am 22), eI cA 13 o4.2.2)]) (va_runV (As := []) (rest := []) ⟨hx, hb, hml, hown, htg⟩ (c_X6_yesBits l D cA _ fu am tkv ttv o1.2.1 t_L t_kind t_pitch o1.2.2.2 t_heard o4 ho5) (cwV 0 htg (gV q_6_73 q_6_75 q_p6_11 q_1_8 q_6_76) rfl rfl rfl hd_X6_yesBits ⟨Nat.le_of_ble_eq_true rfl, Nat.le_of_ble_eq_true rfl⟩) (xpV hN hK hP hD [0, 13, 14, 15, 16] rfl (by decide) rfl rfl) rfl rfl hl.1 rfl (lv_room (Nat.le_of_ble_eq_true rfl)) dX6_heard_19 ⟨Nat.zero_le _, Nat.zero_le _⟩) hP hD hS hA [0, 13, 14, 15, 16] [1, 2, 3, 4, 5, 6, 7, 8, 9, 10, 11, 12] [12, 0, 1, 2, 3, 4, 5, 6, 7, 8, 9, 10, 11, 13, 14, 15, 16] rfl rfl (by decide) (by decide) rfl (by decide) (fun H locs hP hD hS => ?_)
    exact B_22 _ _ _ _ _ _ _ _ hm hP hD hS (lv_sub hl [1] rfl)
  · have hm := it_f c3 hm
    refine lv_iload_n hx hb dX6_heard_14 rfl (lv_at hl 0 rfl) ?_
    refine lv_goto (tgt := 22) hx hb dX6_heard_15 (by decide) ?_
    exact B_22 _ _ _ _ _ _ _ _ hm hP hD hS (lv_sub hl [1] rfl)
def b_X6_mute_68 (fu : Nat) (t_L : Nat → Int64) (t_shelf : Nat → Int32) (t_rowSize : Nat → Int32) (t_rows_R : Nat → Nat → Int64) (t_kind : Nat → Int32) (t_pitch : Nat → Int32) (s0 : Int32) (t : Nat → Int32) (t_refused : Nat → Int32) (t_word : Nat → Int32) (t_heard : Nat → Int32) : Option (Int32 × ((Nat → Int32) × (Nat → Int32) × (Nat → Int32) × (Nat → Int32))) :=
  some (s0, (t, t_refused, t_word, t_heard))
def b_X6_mute_58 (fu : Nat) (t_L : Nat → Int64) (t_shelf : Nat → Int32) (t_rowSize : Nat → Int32) (t_rows_R : Nat → Nat → Int64) (t_kind : Nat → Int32) (t_pitch : Nat → Int32) (l3 : Int32) (l4 : Int32) (t : Nat → Int32) (t_refused : Nat → Int32) (t_word : Nat → Int32) (t_heard : Nat → Int32) : Option (Int32 × ((Nat → Int32) × (Nat → Int32) × (Nat → Int32) × (Nat → Int32))) :=
  (if l3 = 0 then
      b_X6_mute_68 fu t_L t_shelf t_rowSize t_rows_R t_kind t_pitch l4 t t_refused t_word t_heard
    else
      b_X6_mute_68 fu t_L t_shelf t_rowSize t_rows_R t_kind t_pitch l3 t t_refused t_word t_heard)
def b_X6_mute_49 (fu : Nat) (t_L : Nat → Int64) (t_shelf : Nat → Int32) (t_rowSize : Nat → Int32) (t_rows_R : Nat → Nat → Int64) (t_kind : Nat → Int32) (t_pitch : Nat → Int32) (k_16 : (Int32 × Int32 × Int32 × (Nat → Int32) × (Nat → Int32) × (Nat → Int32) × (Nat → Int32)) → Option (Int32 × ((Nat → Int32) × (Nat → Int32) × (Nat → Int32) × (Nat → Int32)))) (l3 : Int32) (l5 : Int32) (s0 : Int32) (s1 : Int32) (t : Nat → Int32) (t_refused : Nat → Int32) (t_word : Nat → Int32) (t_heard : Nat → Int32) : Option (Int32 × ((Nat → Int32) × (Nat → Int32) × (Nat → Int32) × (Nat → Int32))) :=
  k_16 (l3, (s0 ||| s1), (l5 + (1 : Int32)), t, t_refused, t_word, t_heard)
def b_X6_mute_16 (fu : Nat) (t_L : Nat → Int64) (t_shelf : Nat → Int32) (t_rowSize : Nat → Int32) (t_rows_R : Nat → Nat → Int64) (t_kind : Nat → Int32) (t_pitch : Nat → Int32) (k_16 : (Int32 × Int32 × Int32 × (Nat → Int32) × (Nat → Int32) × (Nat → Int32) × (Nat → Int32)) → Option (Int32 × ((Nat → Int32) × (Nat → Int32) × (Nat → Int32) × (Nat → Int32)))) (x : Int32 × Int32 × Int32 × (Nat → Int32) × (Nat → Int32) × (Nat → Int32) × (Nat → Int32)) : Option (Int32 × ((Nat → Int32) × (Nat → Int32) × (Nat → Int32) × (Nat → Int32))) :=
  (if x.2.2.2.1 16 ≤ x.2.2.1 then
        b_X6_mute_58 fu t_L t_shelf t_rowSize t_rows_R t_kind t_pitch x.1 x.2.1 x.2.2.2.1 x.2.2.2.2.1 x.2.2.2.2.2.1 x.2.2.2.2.2.2
      else
        (if x.1 = 0 then
          (m_X6_weighedOf fu x.2.2.2.1 t_L t_kind t_pitch x.2.2.2.2.2.1 x.2.2.2.2.2.2 x.2.2.1).bind fun o4 =>
          (if o4.1 = (-1 : Int32) then
            b_X6_mute_49 fu t_L t_shelf t_rowSize t_rows_R t_kind t_pitch k_16 x.1 x.2.2.1 x.2.1 ((1 : Int32) <<< (x.2.2.1 &&& 31)) o4.2.1 x.2.2.2.2.1 x.2.2.2.2.2.1 o4.2.2
          else
            b_X6_mute_49 fu t_L t_shelf t_rowSize t_rows_R t_kind t_pitch k_16 x.1 x.2.2.1 x.2.1 (0 : Int32) o4.2.1 x.2.2.2.2.1 x.2.2.2.2.2.1 o4.2.2)
        else
          b_X6_mute_58 fu t_L t_shelf t_rowSize t_rows_R t_kind t_pitch x.1 x.2.1 x.2.2.2.1 x.2.2.2.2.1 x.2.2.2.2.2.1 x.2.2.2.2.2.2))
def m_X6_mute (fu : Nat) (t : Nat → Int32) (t_L : Nat → Int64) (t_shelf : Nat → Int32) (t_rowSize : Nat → Int32) (t_rows_R : Nat → Nat → Int64) (t_refused : Nat → Int32) (t_kind : Nat → Int32) (t_pitch : Nat → Int32) (t_word : Nat → Int32) (t_heard : Nat → Int32) (l1 : Int32) (l2 : Int32) : Option (Int32 × ((Nat → Int32) × (Nat → Int32) × (Nat → Int32) × (Nat → Int32))) :=
  (m_X6_noWord fu t t_L t_shelf t_rowSize t_rows_R t_refused t_word l1 l2 (12 : Int32) (1 : Int32)).bind fun o7 =>
  lfix (b_X6_mute_16 fu t_L t_shelf t_rowSize t_rows_R t_kind t_pitch) fu (o7.1, (0 : Int32), (0 : Int32), o7.2.1, o7.2.2.1, o7.2.2.2, t_heard)
abbrev rm_X6_mute : Room := ({ frames := 5, cells := 0, slots := 0, locals := 115 } : Room)
abbrev w0_X6_mute (cA : Nat → ClassId) (am : Nat → Nat) (tkv : Value) (ttv : Value) (t : Nat → Int32) (t_L : Nat → Int64) (t_shelf : Nat → Int32) (t_rowSize : Nat → Int32) (t_rows_R : Nat → Nat → Int64) (t_refused : Nat → Int32) (t_kind : Nat → Int32) (t_pitch : Nat → Int32) (t_word : Nat → Int32) (t_heard : Nat → Int32) : va_W := [((am 0), e_X6 am tkv ttv t t_L), ((am 1), eI cA 8 t_shelf), ((am 3), eI cA 8 t_rowSize), ((am 4), eOJ cA am 5), (am 5, eJ cA 40 (t_rows_R 0)), (am 6, eJ cA 40 (t_rows_R 1)), (am 7, eJ cA 40 (t_rows_R 2)), (am 8, eJ cA 40 (t_rows_R 3)), (am 9, eJ cA 40 (t_rows_R 4)), (am 10, eJ cA 40 (t_rows_R 5)), (am 11, eJ cA 40 (t_rows_R 6)), (am 12, eJ cA 40 (t_rows_R 7)), ((am 16), eI cA 8 t_refused), ((am 17), eI cA 8 t_kind), ((am 19), eI cA 8 t_pitch), ((am 21), eI cA 12 t_word), ((am 22), eI cA 13 t_heard)]
abbrev w1_X6_mute (cA : Nat → ClassId) (am : Nat → Nat) (tkv : Value) (ttv : Value) (t_L : Nat → Int64) (t_shelf : Nat → Int32) (t_rowSize : Nat → Int32) (t_rows_R : Nat → Nat → Int64) (t_kind : Nat → Int32) (t_pitch : Nat → Int32) (u : (Nat → Int32) × (Nat → Int32) × (Nat → Int32) × (Nat → Int32)) : va_W := [((am 0), e_X6 am tkv ttv u.1 t_L), ((am 1), eI cA 8 t_shelf), ((am 3), eI cA 8 t_rowSize), ((am 4), eOJ cA am 5), (am 5, eJ cA 40 (t_rows_R 0)), (am 6, eJ cA 40 (t_rows_R 1)), (am 7, eJ cA 40 (t_rows_R 2)), (am 8, eJ cA 40 (t_rows_R 3)), (am 9, eJ cA 40 (t_rows_R 4)), (am 10, eJ cA 40 (t_rows_R 5)), (am 11, eJ cA 40 (t_rows_R 6)), (am 12, eJ cA 40 (t_rows_R 7)), ((am 16), eI cA 8 u.2.1), ((am 17), eI cA 8 t_kind), ((am 19), eI cA 8 t_pitch), ((am 21), eI cA 12 u.2.2.1), ((am 22), eI cA 13 u.2.2.2)]
theorem hd_X6_mute : yX6_mute.cls = RX6 ∧ yX6_mute.cls ≠ "java/lang/invoke/MethodHandle" ∧ yX6_mute.cls ≠ "java/lang/invoke/VarHandle" ∧ (parseMethodDescriptor yX6_mute.desc).map (fun d => d.parameters.length) = some 2 := by decide +kernel
set_option maxHeartbeats 40000000 in
set_option maxRecDepth 100000 in
theorem c_X6_mute (l : Launch) (D : va_G) (cA : Nat → ClassId) (sz : Nat) (fu : Nat) (am : Nat → Nat) (tkv : Value) (ttv : Value) (t : Nat → Int32) (t_L : Nat → Int64) (t_shelf : Nat → Int32) (t_rowSize : Nat → Int32) (t_rows_R : Nat → Nat → Int64) (t_refused : Nat → Int32) (t_kind : Nat → Int32) (t_pitch : Nat → Int32) (t_word : Nat → Int32) (t_heard : Nat → Int32) (l1 : Int32) (l2 : Int32) (out : Int32 × ((Nat → Int32) × (Nat → Int32) × (Nat → Int32) × (Nat → Int32))) (hm : m_X6_mute fu t t_L t_shelf t_rowSize t_rows_R t_refused t_kind t_pitch t_word t_heard l1 l2 = some out) : MI l yX6_mute (wU yX6_mute cX6_mute 6 ((Option.some Jvm.ClassFile.FieldType.int))) rm_X6_mute D cA sz [.ref (am 0), .int l1, .int l2] (w0_X6_mute cA am tkv ttv t t_L t_shelf t_rowSize t_rows_R t_refused t_kind t_pitch t_word t_heard) out (w1_X6_mute cA am tkv ttv t_L t_shelf t_rowSize t_rows_R t_kind t_pitch) := by
  refine Met.ofW (cc := cX6_mute) (maxL := 6) (ret := (Option.some Jvm.ClassFile.FieldType.int)) (by decide) rfl ?_
  intro p e s m args below meth c s₁ B hml hv
  obtain ⟨hargs, hsz, hP, hK, hD0, hN⟩ := hv
  have hx := B.exec
  have hb := B.bytes
  have hr := B.returns
  have htg : ∀ w ∈ gw, w.before args s = true := fun w h => atoms_spec (ws := wU yX6_mute cX6_mute 6 ((Option.some Jvm.ClassFile.FieldType.int))) B.pre w (List.mem_cons_of_mem _ h)
  have hown : s.vm.findClass RX6 = some m.cls := findClass_of_methodNamed B.named
  have hlocks := B.notSynchronized
  subst hsz
  have hD := hD0.self (sz := s.heap.size)
  have hA : ∀ q : Nat, s.heap.size ≤ q → va_A (w0_X6_mute cA am tkv ttv t t_L t_shelf t_rowSize t_rows_R t_refused t_kind t_pitch t_word t_heard) s.heap.size q := fun q h => Or.inr h
  have hS : va_S (va_A (w0_X6_mute cA am tkv ttv t t_L t_shelf t_rowSize t_rows_R t_refused t_kind t_pitch t_word t_heard) s.heap.size) s.heap s.heap [] := va_S.rf
  generalize va_A (w0_X6_mute cA am tkv ttv t t_L t_shelf t_rowSize t_rows_R t_refused t_kind t_pitch t_word t_heard) s.heap.size = A at hA hD hS ⊢
  obtain ⟨Q, hQ⟩ : ∃ Q : State → Prop, Q = MQ below (va_Qi (fun (r : Int32) (u : (Nat → Int32) × (Nat → Int32) × (Nat → Int32) × (Nat → Int32)) => (r, u) = out) (pst0 D cA A (w1_X6_mute cA am tkv ttv t_L t_shelf t_rowSize t_rows_R t_kind t_pitch)) A) args s 0 0 A := ⟨_, rfl⟩
  refine (?_ : W p l e rm_X6_mute s m args below meth c s.heap [] 0 0 (MQ below (va_Qi (fun (r : Int32) (u : (Nat → Int32) × (Nat → Int32) × (Nat → Int32) × (Nat → Int32)) => (r, u) = out) (pst0 D cA A (w1_X6_mute cA am tkv ttv t_L t_shelf t_rowSize t_rows_R t_kind t_pitch)) A) args s 0 0 A) (entryFrame m args 6))
  rw [← hQ]
  have hP : va_P D CL [((am 0), e_X6 am tkv ttv t t_L), ((am 1), eI cA 8 t_shelf), ((am 3), eI cA 8 t_rowSize), ((am 4), eOJ cA am 5), (am 5, eJ cA 40 (t_rows_R 0)), (am 6, eJ cA 40 (t_rows_R 1)), (am 7, eJ cA 40 (t_rows_R 2)), (am 8, eJ cA 40 (t_rows_R 3)), (am 9, eJ cA 40 (t_rows_R 4)), (am 10, eJ cA 40 (t_rows_R 5)), (am 11, eJ cA 40 (t_rows_R 6)), (am 12, eJ cA 40 (t_rows_R 7)), ((am 16), eI cA 8 t_refused), ((am 17), eI cA 8 t_kind), ((am 19), eI cA 8 t_pitch), ((am 21), eI cA 12 t_word), ((am 22), eI cA 13 t_heard)] s.heap := hP
  have hD : va_D A [((am 0), e_X6 am tkv ttv t t_L), ((am 1), eI cA 8 t_shelf), ((am 3), eI cA 8 t_rowSize), ((am 4), eOJ cA am 5), (am 5, eJ cA 40 (t_rows_R 0)), (am 6, eJ cA 40 (t_rows_R 1)), (am 7, eJ cA 40 (t_rows_R 2)), (am 8, eJ cA 40 (t_rows_R 3)), (am 9, eJ cA 40 (t_rows_R 4)), (am 10, eJ cA 40 (t_rows_R 5)), (am 11, eJ cA 40 (t_rows_R 6)), (am 12, eJ cA 40 (t_rows_R 7)), ((am 16), eI cA 8 t_refused), ((am 17), eI cA 8 t_kind), ((am 19), eI cA 8 t_pitch), ((am 21), eI cA 12 t_word), ((am 22), eI cA 13 t_heard)] := hD
  have B_68 : ∀ (s0 : Int32) (t : Nat → Int32) (t_refused : Nat → Int32) (t_word : Nat → Int32) (t_heard : Nat → Int32) (H : Heap) (locs : List Loc) (ls : Array Slot), b_X6_mute_68 fu t_L t_shelf t_rowSize t_rows_R t_kind t_pitch s0 t t_refused t_word t_heard = some out → va_P D CL [((am 0), e_X6 am tkv ttv t t_L), ((am 1), eI cA 8 t_shelf), ((am 3), eI cA 8 t_rowSize), ((am 4), eOJ cA am 5), (am 5, eJ cA 40 (t_rows_R 0)), (am 6, eJ cA 40 (t_rows_R 1)), (am 7, eJ cA 40 (t_rows_R 2)), (am 8, eJ cA 40 (t_rows_R 3)), (am 9, eJ cA 40 (t_rows_R 4)), (am 10, eJ cA 40 (t_rows_R 5)), (am 11, eJ cA 40 (t_rows_R 6)), (am 12, eJ cA 40 (t_rows_R 7)), ((am 16), eI cA 8 t_refused), ((am 17), eI cA 8 t_kind), ((am 19), eI cA 8 t_pitch), ((am 21), eI cA 12 t_word), ((am 22), eI cA 13 t_heard)] H → va_D A [((am 0), e_X6 am tkv ttv t t_L), ((am 1), eI cA 8 t_shelf), ((am 3), eI cA 8 t_rowSize), ((am 4), eOJ cA am 5), (am 5, eJ cA 40 (t_rows_R 0)), (am 6, eJ cA 40 (t_rows_R 1)), (am 7, eJ cA 40 (t_rows_R 2)), (am 8, eJ cA 40 (t_rows_R 3)), (am 9, eJ cA 40 (t_rows_R 4)), (am 10, eJ cA 40 (t_rows_R 5)), (am 11, eJ cA 40 (t_rows_R 6)), (am 12, eJ cA 40 (t_rows_R 7)), ((am 16), eI cA 8 t_refused), ((am 17), eI cA 8 t_kind), ((am 19), eI cA 8 t_pitch), ((am 21), eI cA 12 t_word), ((am 22), eI cA 13 t_heard)] → va_S A s.heap H locs → lv_has ls 6 [(0, .ref (am 0))] → W p l e rm_X6_mute s m args below meth c H locs 0 0 Q (F0 m 68 ls [.int s0]) := by
    intro  s0 t t_refused t_word t_heard H locs ls hm hP hD hS hl
    unfold b_X6_mute_68 at hm
    rw [hQ]
    exact W.iret (v := s0) hx hb hr (fun t9 ht hW => ⟨⟨s0, (t, t_refused, t_word, t_heard), rfl, (Option.some.inj hm), by rw [ht]; exact hP, va_K.moved hW.alike hK, hD⟩, hS.F ht⟩) hS.2.2 dX6_mute_68
  have B_58 : ∀ (l3 : Int32) (l4 : Int32) (t : Nat → Int32) (t_refused : Nat → Int32) (t_word : Nat → Int32) (t_heard : Nat → Int32) (H : Heap) (locs : List Loc) (ls : Array Slot), b_X6_mute_58 fu t_L t_shelf t_rowSize t_rows_R t_kind t_pitch l3 l4 t t_refused t_word t_heard = some out → va_P D CL [((am 0), e_X6 am tkv ttv t t_L), ((am 1), eI cA 8 t_shelf), ((am 3), eI cA 8 t_rowSize), ((am 4), eOJ cA am 5), (am 5, eJ cA 40 (t_rows_R 0)), (am 6, eJ cA 40 (t_rows_R 1)), (am 7, eJ cA 40 (t_rows_R 2)), (am 8, eJ cA 40 (t_rows_R 3)), (am 9, eJ cA 40 (t_rows_R 4)), (am 10, eJ cA 40 (t_rows_R 5)), (am 11, eJ cA 40 (t_rows_R 6)), (am 12, eJ cA 40 (t_rows_R 7)), ((am 16), eI cA 8 t_refused), ((am 17), eI cA 8 t_kind), ((am 19), eI cA 8 t_pitch), ((am 21), eI cA 12 t_word), ((am 22), eI cA 13 t_heard)] H → va_D A [((am 0), e_X6 am tkv ttv t t_L), ((am 1), eI cA 8 t_shelf), ((am 3), eI cA 8 t_rowSize), ((am 4), eOJ cA am 5), (am 5, eJ cA 40 (t_rows_R 0)), (am 6, eJ cA 40 (t_rows_R 1)), (am 7, eJ cA 40 (t_rows_R 2)), (am 8, eJ cA 40 (t_rows_R 3)), (am 9, eJ cA 40 (t_rows_R 4)), (am 10, eJ cA 40 (t_rows_R 5)), (am 11, eJ cA 40 (t_rows_R 6)), (am 12, eJ cA 40 (t_rows_R 7)), ((am 16), eI cA 8 t_refused), ((am 17), eI cA 8 t_kind), ((am 19), eI cA 8 t_pitch), ((am 21), eI cA 12 t_word), ((am 22), eI cA 13 t_heard)] → va_S A s.heap H locs → lv_has ls 6 [(0, .ref (am 0)), (3, .int l3), (4, .int l4)] → W p l e rm_X6_mute s m args below meth c H locs 0 0 Q (F0 m 58 ls []) := by
    intro  l3 l4 t t_refused t_word t_heard H locs ls hm hP hD hS hl
    unfold b_X6_mute_58 at hm
    refine lv_iload_n hx hb dX6_mute_58 rfl (lv_at hl 1 rfl) ?_
    refine lv_if_eq (tgt := 66) hx hb dX6_mute_59 (by decide) (fun c1 => ?_) (fun c1 => ?_)
    · have hm := it_t c1 hm
      refine lv_iload hx hb dX6_mute_66 (lv_at hl 2 rfl) ?_
      exact B_68 _ _ _ _ _ _ _ _ hm hP hD hS (lv_sub hl [0] rfl)
    · have hm := it_f c1 hm
      refine lv_iload_n hx hb dX6_mute_62 rfl (lv_at hl 1 rfl) ?_
      refine lv_goto (tgt := 68) hx hb dX6_mute_63 (by decide) ?_
      exact B_68 _ _ _ _ _ _ _ _ hm hP hD hS (lv_sub hl [0] rfl)
  have B_49 : ∀ (k_16 : (Int32 × Int32 × Int32 × (Nat → Int32) × (Nat → Int32) × (Nat → Int32) × (Nat → Int32)) → Option (Int32 × ((Nat → Int32) × (Nat → Int32) × (Nat → Int32) × (Nat → Int32)))) (HK_16 : ∀ (x : Int32 × Int32 × Int32 × (Nat → Int32) × (Nat → Int32) × (Nat → Int32) × (Nat → Int32)) (H : Heap) (locs : List Loc) (ls : Array Slot), k_16 x = some out → va_P D CL [((am 0), e_X6 am tkv ttv x.2.2.2.1 t_L), ((am 1), eI cA 8 t_shelf), ((am 3), eI cA 8 t_rowSize), ((am 4), eOJ cA am 5), (am 5, eJ cA 40 (t_rows_R 0)), (am 6, eJ cA 40 (t_rows_R 1)), (am 7, eJ cA 40 (t_rows_R 2)), (am 8, eJ cA 40 (t_rows_R 3)), (am 9, eJ cA 40 (t_rows_R 4)), (am 10, eJ cA 40 (t_rows_R 5)), (am 11, eJ cA 40 (t_rows_R 6)), (am 12, eJ cA 40 (t_rows_R 7)), ((am 16), eI cA 8 x.2.2.2.2.1), ((am 17), eI cA 8 t_kind), ((am 19), eI cA 8 t_pitch), ((am 21), eI cA 12 x.2.2.2.2.2.1), ((am 22), eI cA 13 x.2.2.2.2.2.2)] H → va_D A [((am 0), e_X6 am tkv ttv x.2.2.2.1 t_L), ((am 1), eI cA 8 t_shelf), ((am 3), eI cA 8 t_rowSize), ((am 4), eOJ cA am 5), (am 5, eJ cA 40 (t_rows_R 0)), (am 6, eJ cA 40 (t_rows_R 1)), (am 7, eJ cA 40 (t_rows_R 2)), (am 8, eJ cA 40 (t_rows_R 3)), (am 9, eJ cA 40 (t_rows_R 4)), (am 10, eJ cA 40 (t_rows_R 5)), (am 11, eJ cA 40 (t_rows_R 6)), (am 12, eJ cA 40 (t_rows_R 7)), ((am 16), eI cA 8 x.2.2.2.2.1), ((am 17), eI cA 8 t_kind), ((am 19), eI cA 8 t_pitch), ((am 21), eI cA 12 x.2.2.2.2.2.1), ((am 22), eI cA 13 x.2.2.2.2.2.2)] → va_S A s.heap H locs → lv_has ls 6 [(0, .ref (am 0)), (3, .int x.1), (4, .int x.2.1), (5, .int x.2.2.1)] → W p l e rm_X6_mute s m args below meth c H locs 0 0 Q (F0 m 16 ls [])) (l3 : Int32) (l5 : Int32) (s0 : Int32) (s1 : Int32) (t : Nat → Int32) (t_refused : Nat → Int32) (t_word : Nat → Int32) (t_heard : Nat → Int32) (H : Heap) (locs : List Loc) (ls : Array Slot), b_X6_mute_49 fu t_L t_shelf t_rowSize t_rows_R t_kind t_pitch k_16 l3 l5 s0 s1 t t_refused t_word t_heard = some out → va_P D CL [((am 0), e_X6 am tkv ttv t t_L), ((am 1), eI cA 8 t_shelf), ((am 3), eI cA 8 t_rowSize), ((am 4), eOJ cA am 5), (am 5, eJ cA 40 (t_rows_R 0)), (am 6, eJ cA 40 (t_rows_R 1)), (am 7, eJ cA 40 (t_rows_R 2)), (am 8, eJ cA 40 (t_rows_R 3)), (am 9, eJ cA 40 (t_rows_R 4)), (am 10, eJ cA 40 (t_rows_R 5)), (am 11, eJ cA 40 (t_rows_R 6)), (am 12, eJ cA 40 (t_rows_R 7)), ((am 16), eI cA 8 t_refused), ((am 17), eI cA 8 t_kind), ((am 19), eI cA 8 t_pitch), ((am 21), eI cA 12 t_word), ((am 22), eI cA 13 t_heard)] H → va_D A [((am 0), e_X6 am tkv ttv t t_L), ((am 1), eI cA 8 t_shelf), ((am 3), eI cA 8 t_rowSize), ((am 4), eOJ cA am 5), (am 5, eJ cA 40 (t_rows_R 0)), (am 6, eJ cA 40 (t_rows_R 1)), (am 7, eJ cA 40 (t_rows_R 2)), (am 8, eJ cA 40 (t_rows_R 3)), (am 9, eJ cA 40 (t_rows_R 4)), (am 10, eJ cA 40 (t_rows_R 5)), (am 11, eJ cA 40 (t_rows_R 6)), (am 12, eJ cA 40 (t_rows_R 7)), ((am 16), eI cA 8 t_refused), ((am 17), eI cA 8 t_kind), ((am 19), eI cA 8 t_pitch), ((am 21), eI cA 12 t_word), ((am 22), eI cA 13 t_heard)] → va_S A s.heap H locs → lv_has ls 6 [(0, .ref (am 0)), (3, .int l3), (5, .int l5)] → W p l e rm_X6_mute s m args below meth c H locs 0 0 Q (F0 m 49 ls [.int s1, .int s0]) := by
    intro k_16 HK_16 l3 l5 s0 s1 t t_refused t_word t_heard H locs ls hm hP hD hS hl
    unfold b_X6_mute_49 at hm
    refine lv_ior hx hb dX6_mute_49 ?_
    refine lv_istore (lv' := [(4, .int (s0 ||| s1)), (0, .ref (am 0)), (3, .int l3), (5, .int l5)]) hx hb dX6_mute_50 hl (by decide) rfl (fun ls hl => ?_)
    refine lv_iinc (v := (l5 + (1 : Int32))) (lv' := [(5, .int (l5 + (1 : Int32))), (4, .int (s0 ||| s1)), (0, .ref (am 0)), (3, .int l3)]) hx hb dX6_mute_52 hl (k := 3) rfl rfl (by decide) rfl (fun ls hl => ?_)
    refine lv_goto (tgt := 16) hx hb dX6_mute_55 (by decide) ?_
    exact HK_16 _ _ _ _ hm hP hD hS (lv_sub hl [2, 3, 1, 0] rfl)
  have B_16 : ∀ (n : Nat) (x : Int32 × Int32 × Int32 × (Nat → Int32) × (Nat → Int32) × (Nat → Int32) × (Nat → Int32)) (H : Heap) (locs : List Loc) (ls : Array Slot), lfix (b_X6_mute_16 fu t_L t_shelf t_rowSize t_rows_R t_kind t_pitch) n x = some out → va_P D CL [((am 0), e_X6 am tkv ttv x.2.2.2.1 t_L), ((am 1), eI cA 8 t_shelf), ((am 3), eI cA 8 t_rowSize), ((am 4), eOJ cA am 5), (am 5, eJ cA 40 (t_rows_R 0)), (am 6, eJ cA 40 (t_rows_R 1)), (am 7, eJ cA 40 (t_rows_R 2)), (am 8, eJ cA 40 (t_rows_R 3)), (am 9, eJ cA 40 (t_rows_R 4)), (am 10, eJ cA 40 (t_rows_R 5)), (am 11, eJ cA 40 (t_rows_R 6)), (am 12, eJ cA 40 (t_rows_R 7)), ((am 16), eI cA 8 x.2.2.2.2.1), ((am 17), eI cA 8 t_kind), ((am 19), eI cA 8 t_pitch), ((am 21), eI cA 12 x.2.2.2.2.2.1), ((am 22), eI cA 13 x.2.2.2.2.2.2)] H → va_D A [((am 0), e_X6 am tkv ttv x.2.2.2.1 t_L), ((am 1), eI cA 8 t_shelf), ((am 3), eI cA 8 t_rowSize), ((am 4), eOJ cA am 5), (am 5, eJ cA 40 (t_rows_R 0)), (am 6, eJ cA 40 (t_rows_R 1)), (am 7, eJ cA 40 (t_rows_R 2)), (am 8, eJ cA 40 (t_rows_R 3)), (am 9, eJ cA 40 (t_rows_R 4)), (am 10, eJ cA 40 (t_rows_R 5)), (am 11, eJ cA 40 (t_rows_R 6)), (am 12, eJ cA 40 (t_rows_R 7)), ((am 16), eI cA 8 x.2.2.2.2.1), ((am 17), eI cA 8 t_kind), ((am 19), eI cA 8 t_pitch), ((am 21), eI cA 12 x.2.2.2.2.2.1), ((am 22), eI cA 13 x.2.2.2.2.2.2)] → va_S A s.heap H locs → lv_has ls 6 [(0, .ref (am 0)), (3, .int x.1), (4, .int x.2.1), (5, .int x.2.2.1)] → W p l e rm_X6_mute s m args below meth c H locs 0 0 Q (F0 m 16 ls []) := by
    intro  n
    induction n with
    | zero => intro x H locs ls hm; cases (show none = some out from hm)
    | succ n HK_16 =>
      intro x H locs ls hm hP hD hS hl
      replace hm : b_X6_mute_16 fu t_L t_shelf t_rowSize t_rows_R t_kind t_pitch (lfix (b_X6_mute_16 fu t_L t_shelf t_rowSize t_rows_R t_kind t_pitch) n) x = some out := hm
      unfold b_X6_mute_16 at hm
      refine lv_iload hx hb dX6_mute_16 (lv_at hl 3 rfl) ?_
      refine lv_aload_n hx hb dX6_mute_18 rfl (lv_at hl 0 rfl) ?_
      refine va_get (D := D) (ci := 6) (v := .int (x.2.2.2.1 16)) (C := RX6) (T := TX6) (N := 49) hx hb htg inX6 hown hK hP 0 rfl rfl 16 (by decide) (htg _ q_4_205) (fun _ h9 => h9) rfl dX6_mute_19 ?_
      refine lv_icmp_ge (tgt := 58) hx hb dX6_mute_22 (by decide) (fun c2 => ?_) (fun c2 => ?_)
      · have hm := it_t c2 hm
        exact B_58 _ _ _ _ _ _ _ _ _ hm hP hD hS (lv_sub hl [0, 1, 2] rfl)
      · have hm := it_f c2 hm
        refine lv_iload_n hx hb dX6_mute_25 rfl (lv_at hl 1 rfl) ?_
        refine lv_if_ne (tgt := 58) hx hb dX6_mute_26 (by decide) (fun c3 => ?_) (fun c3 => ?_)
        · have hm := it_f c3 hm
          exact B_58 _ _ _ _ _ _ _ _ _ hm hP hD hS (lv_sub hl [0, 1, 2] rfl)
        · have hm := it_t c3 hm
          refine lv_iload hx hb dX6_mute_29 (lv_at hl 2 rfl) ?_
          refine lv_aload_n hx hb dX6_mute_31 rfl (lv_at hl 0 rfl) ?_
          refine lv_iload hx hb dX6_mute_32 (lv_at hl 3 rfl) ?_
          obtain ⟨o4, ho5, hm⟩ := bd_s hm
          refine xr_i (wr := [((am 1), eI cA 8 t_shelf), ((am 3), eI cA 8 t_rowSize), ((am 4), eOJ cA am 5), (am 5, eJ cA 40 (t_rows_R 0)), (am 6, eJ cA 40 (t_rows_R 1)), (am 7, eJ cA 40 (t_rows_R 2)), (am 8, eJ cA 40 (t_rows_R 3)), (am 9, eJ cA 40 (t_rows_R 4)), (am 10, eJ cA 40 (t_rows_R 5)), (am 11, eJ cA 40 (t_rows_R 6)), (am 12, eJ cA 40 (t_rows_R 7)), ((am 16), eI cA 8 x.2.2.2.2.1)]) (wn := [((am 0), e_X6 am tkv ttv o4.2.1 t_L), ((am 1), eI cA 8 t_shelf), ((am 3), eI cA 8 t_rowSize), ((am 4), eOJ cA am 5), (am 5, eJ cA 40 (t_rows_R 0)), (am 6, eJ cA 40 (t_rows_R 1)), (am 7, eJ cA 40 (t_rows_R 2)), (am 8, eJ cA 40 (t_rows_R 3)), (am 9, eJ cA 40 (t_rows_R 4)), (am 10, eJ cA 40 (t_rows_R 5)), (am 11, eJ cA 40 (t_rows_R 6)), (am 12, eJ cA 40 (t_rows_R 7)), ((am 16), eI cA 8 x.2.2.2.2.1), ((am 17), eI cA 8 t_kind), ((am 19), eI cA 8 t_pitch), ((am 21), eI cA 12 x.2.2.2.2.2.1), ((am 22), eI cA 13 o4.2.2)]) (va_runV (As := [.int x.2.2.1]) (rest := [.int x.2.1]) ⟨hx, hb, hml, hown, htg⟩ (c_X6_weighedOf l D cA _ fu am tkv ttv x.2.2.2.1 t_L t_kind t_pitch x.2.2.2.2.2.1 x.2.2.2.2.2.2 x.2.2.1 o4 ho5) (cwV 1 htg (gV q_6_65 q_6_67 q_p6_10 q_1_8 q_6_68) rfl rfl rfl hd_X6_weighedOf ⟨Nat.le_of_ble_eq_true rfl, Nat.le_of_ble_eq_true rfl⟩) (xpV hN hK hP hD [0, 13, 14, 15, 16] rfl (by decide) rfl rfl) rfl rfl hl.1 rfl (lv_room (Nat.le_of_ble_eq_true rfl)) dX6_mute_34 ⟨Nat.zero_le _, Nat.zero_le _⟩) hP hD hS hA [0, 13, 14, 15, 16] [1, 2, 3, 4, 5, 6, 7, 8, 9, 10, 11, 12] [12, 0, 1, 2, 3, 4, 5, 6, 7, 8, 9, 10, 11, 13, 14, 15, 16] rfl rfl (by decide) (by decide) rfl (by decide) (fun H locs hP hD hS => ?_)
          refine lv_iconst (v := (-1 : Int32)) hx hb dX6_mute_37 (by decide) ?_
          refine lv_icmp_ne (tgt := 48) hx hb dX6_mute_38 (by decide) (fun c6 => ?_) (fun c6 => ?_)
          · have hm := it_f c6 hm
            refine lv_iconst (v := (0 : Int32)) hx hb dX6_mute_48 (by decide) ?_
            exact B_49 _ HK_16 _ _ _ _ _ _ _ _ _ _ _ hm hP hD hS (lv_sub hl [0, 1, 3] rfl)
          · have hm := it_t c6 hm
            refine lv_iconst (v := (1 : Int32)) hx hb dX6_mute_41 (by decide) ?_
            refine lv_iload hx hb dX6_mute_42 (lv_at hl 3 rfl) ?_
            refine lv_ishl hx hb dX6_mute_44 ?_
            refine lv_goto (tgt := 49) hx hb dX6_mute_45 (by decide) ?_
            exact B_49 _ HK_16 _ _ _ _ _ _ _ _ _ _ _ hm hP hD hS (lv_sub hl [0, 1, 3] rfl)
  unfold m_X6_mute at hm
  subst hargs
  have hl := lv_entry ([.ref (am 0), .int l1, .int l2]) (n := 6) (Nat.le_of_ble_eq_true rfl)
  rw [lg_entry_eq]
  generalize (lg_sl ([.ref (am 0), .int l1, .int l2]) ++ List.replicate (6 - (lg_sl ([.ref (am 0), .int l1, .int l2])).length) Slot.unset).toArray = ls at hl ⊢
  have hl : lv_has ls 6 [(0, .ref (am 0)), (1, .int l1), (2, .int l2)] := hl
  refine lv_aload_n hx hb dX6_mute_0 rfl (lv_at hl 0 rfl) ?_
  refine lv_iload_n hx hb dX6_mute_1 rfl (lv_at hl 1 rfl) ?_
  refine lv_iload_n hx hb dX6_mute_2 rfl (lv_at hl 2 rfl) ?_
  refine lv_bipush (v := (12 : Int32)) hx hb dX6_mute_3 (by decide) ?_
  refine lv_iconst (v := (1 : Int32)) hx hb dX6_mute_5 (by decide) ?_
  obtain ⟨o7, ho8, hm⟩ := bd_s hm
  refine xr_i (wr := [((am 17), eI cA 8 t_kind), ((am 19), eI cA 8 t_pitch), ((am 22), eI cA 13 t_heard)]) (wn := [((am 0), e_X6 am tkv ttv o7.2.1 t_L), ((am 1), eI cA 8 t_shelf), ((am 3), eI cA 8 t_rowSize), ((am 4), eOJ cA am 5), (am 5, eJ cA 40 (t_rows_R 0)), (am 6, eJ cA 40 (t_rows_R 1)), (am 7, eJ cA 40 (t_rows_R 2)), (am 8, eJ cA 40 (t_rows_R 3)), (am 9, eJ cA 40 (t_rows_R 4)), (am 10, eJ cA 40 (t_rows_R 5)), (am 11, eJ cA 40 (t_rows_R 6)), (am 12, eJ cA 40 (t_rows_R 7)), ((am 16), eI cA 8 o7.2.2.1), ((am 17), eI cA 8 t_kind), ((am 19), eI cA 8 t_pitch), ((am 21), eI cA 12 o7.2.2.2), ((am 22), eI cA 13 t_heard)]) (va_runV (As := [.int l1, .int l2, .int (12 : Int32), .int (1 : Int32)]) (rest := []) ⟨hx, hb, hml, hown, htg⟩ (c_X6_noWord l D cA _ fu am tkv ttv t t_L t_shelf t_rowSize t_rows_R t_refused t_word l1 l2 (12 : Int32) (1 : Int32) o7 ho8) (cwV 4 htg (gV q_6_49 q_6_51 q_p6_8 q_1_8 q_6_52) rfl rfl rfl hd_X6_noWord ⟨Nat.le_of_ble_eq_true rfl, Nat.le_of_ble_eq_true rfl⟩) (xpV hN hK hP hD [0, 1, 2, 3, 4, 5, 6, 7, 8, 9, 10, 11, 12, 15] rfl (by decide) rfl rfl) rfl rfl hl.1 rfl (lv_room (Nat.le_of_ble_eq_true rfl)) dX6_mute_6 ⟨Nat.zero_le _, Nat.zero_le _⟩) hP hD hS hA [0, 1, 2, 3, 4, 5, 6, 7, 8, 9, 10, 11, 12, 15] [13, 14, 16] [3, 4, 5, 6, 7, 8, 9, 10, 11, 12, 13, 14, 15, 0, 1, 16, 2] rfl rfl (by decide) (by decide) rfl (by decide) (fun H locs hP hD hS => ?_)
  refine lv_istore_n (lv' := [(3, .int o7.1), (0, .ref (am 0)), (1, .int l1), (2, .int l2)]) hx hb dX6_mute_9 rfl hl (by decide) rfl (fun ls hl => ?_)
  refine lv_iconst (v := (0 : Int32)) hx hb dX6_mute_10 (by decide) ?_
  refine lv_istore (lv' := [(4, .int (0 : Int32)), (3, .int o7.1), (0, .ref (am 0)), (1, .int l1), (2, .int l2)]) hx hb dX6_mute_11 hl (by decide) rfl (fun ls hl => ?_)
  refine lv_iconst (v := (0 : Int32)) hx hb dX6_mute_13 (by decide) ?_
  refine lv_istore (lv' := [(5, .int (0 : Int32)), (4, .int (0 : Int32)), (3, .int o7.1), (0, .ref (am 0)), (1, .int l1), (2, .int l2)]) hx hb dX6_mute_14 hl (by decide) rfl (fun ls hl => ?_)
  exact B_16 fu _ _ _ _ hm hP hD hS (lv_sub hl [3, 2, 1, 0] rfl)
def b_X6_like_66 (fu : Nat) (t_L : Nat → Int64) (t_shelf : Nat → Int32) (t_rowSize : Nat → Int32) (t_rows_R : Nat → Nat → Int64) (t_kind : Nat → Int32) (t_pitch : Nat → Int32) (k_36 : (Int32 × Int32 × Int32 × (Nat → Int32) × (Nat → Int32) × (Nat → Int32) × (Nat → Int32)) → Option (Int32 × ((Nat → Int32) × (Nat → Int32) × (Nat → Int32) × (Nat → Int32)))) (l5 : Int32) (l7 : Int32) (s0 : Int32) (s1 : Int32) (t : Nat → Int32) (t_refused : Nat → Int32) (t_word : Nat → Int32) (t_heard : Nat → Int32) : Option (Int32 × ((Nat → Int32) × (Nat → Int32) × (Nat → Int32) × (Nat → Int32))) :=
  k_36 (l5, (s0 ||| s1), (l7 + (1 : Int32)), t, t_refused, t_word, t_heard)
def b_X6_like_36 (fu : Nat) (t_L : Nat → Int64) (t_shelf : Nat → Int32) (t_rowSize : Nat → Int32) (t_rows_R : Nat → Nat → Int64) (t_kind : Nat → Int32) (t_pitch : Nat → Int32) (k_36 : (Int32 × Int32 × Int32 × (Nat → Int32) × (Nat → Int32) × (Nat → Int32) × (Nat → Int32)) → Option (Int32 × ((Nat → Int32) × (Nat → Int32) × (Nat → Int32) × (Nat → Int32)))) (x : Int32 × Int32 × Int32 × (Nat → Int32) × (Nat → Int32) × (Nat → Int32) × (Nat → Int32)) : Option (Int32 × ((Nat → Int32) × (Nat → Int32) × (Nat → Int32) × (Nat → Int32))) :=
  (if x.2.2.2.1 16 ≤ x.2.2.1 then
        some (x.2.1, (x.2.2.2.1, x.2.2.2.2.1, x.2.2.2.2.2.1, x.2.2.2.2.2.2))
      else
        (m_X6_weighedOf fu x.2.2.2.1 t_L t_kind t_pitch x.2.2.2.2.2.1 x.2.2.2.2.2.2 x.2.2.1).bind fun o2 =>
        (if o2.1 = x.1 then
          b_X6_like_66 fu t_L t_shelf t_rowSize t_rows_R t_kind t_pitch k_36 x.1 x.2.2.1 x.2.1 ((1 : Int32) <<< (x.2.2.1 &&& 31)) o2.2.1 x.2.2.2.2.1 x.2.2.2.2.2.1 o2.2.2
        else
          b_X6_like_66 fu t_L t_shelf t_rowSize t_rows_R t_kind t_pitch k_36 x.1 x.2.2.1 x.2.1 (0 : Int32) o2.2.1 x.2.2.2.2.1 x.2.2.2.2.2.1 o2.2.2))
def m_X6_like (fu : Nat) (t : Nat → Int32) (t_L : Nat → Int64) (t_shelf : Nat → Int32) (t_rowSize : Nat → Int32) (t_rows_R : Nat → Nat → Int64) (t_refused : Nat → Int32) (t_kind : Nat → Int32) (t_pitch : Nat → Int32) (t_word : Nat → Int32) (t_heard : Nat → Int32) (l1 : Int32) (l2 : Int32) (l3 : Int32) : Option (Int32 × ((Nat → Int32) × (Nat → Int32) × (Nat → Int32) × (Nat → Int32))) :=
  (m_X6_isVoice fu t t_L l3).bind fun o5 =>
  (m_X6_noWord fu t t_L t_shelf t_rowSize t_rows_R t_refused t_word l1 l2 (12 : Int32) o5.1).bind fun o7 =>
  (if o7.1 = 0 then
    (m_X6_weighedOf fu o7.2.1 t_L t_kind t_pitch o7.2.2.2 t_heard l3).bind fun o10 =>
    lfix (b_X6_like_36 fu t_L t_shelf t_rowSize t_rows_R t_kind t_pitch) fu (o10.1, (0 : Int32), (0 : Int32), o10.2.1, o7.2.2.1, o7.2.2.2, o10.2.2)
  else
    some (o7.1, (o7.2.1, o7.2.2.1, o7.2.2.2, t_heard)))
abbrev rm_X6_like : Room := ({ frames := 5, cells := 0, slots := 0, locals := 115 } : Room)
abbrev w0_X6_like (cA : Nat → ClassId) (am : Nat → Nat) (tkv : Value) (ttv : Value) (t : Nat → Int32) (t_L : Nat → Int64) (t_shelf : Nat → Int32) (t_rowSize : Nat → Int32) (t_rows_R : Nat → Nat → Int64) (t_refused : Nat → Int32) (t_kind : Nat → Int32) (t_pitch : Nat → Int32) (t_word : Nat → Int32) (t_heard : Nat → Int32) : va_W := [((am 0), e_X6 am tkv ttv t t_L), ((am 1), eI cA 8 t_shelf), ((am 3), eI cA 8 t_rowSize), ((am 4), eOJ cA am 5), (am 5, eJ cA 40 (t_rows_R 0)), (am 6, eJ cA 40 (t_rows_R 1)), (am 7, eJ cA 40 (t_rows_R 2)), (am 8, eJ cA 40 (t_rows_R 3)), (am 9, eJ cA 40 (t_rows_R 4)), (am 10, eJ cA 40 (t_rows_R 5)), (am 11, eJ cA 40 (t_rows_R 6)), (am 12, eJ cA 40 (t_rows_R 7)), ((am 16), eI cA 8 t_refused), ((am 17), eI cA 8 t_kind), ((am 19), eI cA 8 t_pitch), ((am 21), eI cA 12 t_word), ((am 22), eI cA 13 t_heard)]
abbrev w1_X6_like (cA : Nat → ClassId) (am : Nat → Nat) (tkv : Value) (ttv : Value) (t_L : Nat → Int64) (t_shelf : Nat → Int32) (t_rowSize : Nat → Int32) (t_rows_R : Nat → Nat → Int64) (t_kind : Nat → Int32) (t_pitch : Nat → Int32) (u : (Nat → Int32) × (Nat → Int32) × (Nat → Int32) × (Nat → Int32)) : va_W := [((am 0), e_X6 am tkv ttv u.1 t_L), ((am 1), eI cA 8 t_shelf), ((am 3), eI cA 8 t_rowSize), ((am 4), eOJ cA am 5), (am 5, eJ cA 40 (t_rows_R 0)), (am 6, eJ cA 40 (t_rows_R 1)), (am 7, eJ cA 40 (t_rows_R 2)), (am 8, eJ cA 40 (t_rows_R 3)), (am 9, eJ cA 40 (t_rows_R 4)), (am 10, eJ cA 40 (t_rows_R 5)), (am 11, eJ cA 40 (t_rows_R 6)), (am 12, eJ cA 40 (t_rows_R 7)), ((am 16), eI cA 8 u.2.1), ((am 17), eI cA 8 t_kind), ((am 19), eI cA 8 t_pitch), ((am 21), eI cA 12 u.2.2.1), ((am 22), eI cA 13 u.2.2.2)]
theorem hd_X6_like : yX6_like.cls = RX6 ∧ yX6_like.cls ≠ "java/lang/invoke/MethodHandle" ∧ yX6_like.cls ≠ "java/lang/invoke/VarHandle" ∧ (parseMethodDescriptor yX6_like.desc).map (fun d => d.parameters.length) = some 3 := by decide +kernel
set_option maxHeartbeats 40000000 in
set_option maxRecDepth 100000 in
theorem c_X6_like (l : Launch) (D : va_G) (cA : Nat → ClassId) (sz : Nat) (fu : Nat) (am : Nat → Nat) (tkv : Value) (ttv : Value) (t : Nat → Int32) (t_L : Nat → Int64) (t_shelf : Nat → Int32) (t_rowSize : Nat → Int32) (t_rows_R : Nat → Nat → Int64) (t_refused : Nat → Int32) (t_kind : Nat → Int32) (t_pitch : Nat → Int32) (t_word : Nat → Int32) (t_heard : Nat → Int32) (l1 : Int32) (l2 : Int32) (l3 : Int32) (out : Int32 × ((Nat → Int32) × (Nat → Int32) × (Nat → Int32) × (Nat → Int32))) (hm : m_X6_like fu t t_L t_shelf t_rowSize t_rows_R t_refused t_kind t_pitch t_word t_heard l1 l2 l3 = some out) : MI l yX6_like (wU yX6_like cX6_like 8 ((Option.some Jvm.ClassFile.FieldType.int))) rm_X6_like D cA sz [.ref (am 0), .int l1, .int l2, .int l3] (w0_X6_like cA am tkv ttv t t_L t_shelf t_rowSize t_rows_R t_refused t_kind t_pitch t_word t_heard) out (w1_X6_like cA am tkv ttv t_L t_shelf t_rowSize t_rows_R t_kind t_pitch) := by
  refine Met.ofW (cc := cX6_like) (maxL := 8) (ret := (Option.some Jvm.ClassFile.FieldType.int)) (by decide) rfl ?_
  intro p e s m args below meth c s₁ B hml hv
  obtain ⟨hargs, hsz, hP, hK, hD0, hN⟩ := hv
  have hx := B.exec
  have hb := B.bytes
  have hr := B.returns
  have htg : ∀ w ∈ gw, w.before args s = true := fun w h => atoms_spec (ws := wU yX6_like cX6_like 8 ((Option.some Jvm.ClassFile.FieldType.int))) B.pre w (List.mem_cons_of_mem _ h)
  have hown : s.vm.findClass RX6 = some m.cls := findClass_of_methodNamed B.named
  have hlocks := B.notSynchronized
  subst hsz
  have hD := hD0.self (sz := s.heap.size)
  have hA : ∀ q : Nat, s.heap.size ≤ q → va_A (w0_X6_like cA am tkv ttv t t_L t_shelf t_rowSize t_rows_R t_refused t_kind t_pitch t_word t_heard) s.heap.size q := fun q h => Or.inr h
  have hS : va_S (va_A (w0_X6_like cA am tkv ttv t t_L t_shelf t_rowSize t_rows_R t_refused t_kind t_pitch t_word t_heard) s.heap.size) s.heap s.heap [] := va_S.rf
  generalize va_A (w0_X6_like cA am tkv ttv t t_L t_shelf t_rowSize t_rows_R t_refused t_kind t_pitch t_word t_heard) s.heap.size = A at hA hD hS ⊢
  obtain ⟨Q, hQ⟩ : ∃ Q : State → Prop, Q = MQ below (va_Qi (fun (r : Int32) (u : (Nat → Int32) × (Nat → Int32) × (Nat → Int32) × (Nat → Int32)) => (r, u) = out) (pst0 D cA A (w1_X6_like cA am tkv ttv t_L t_shelf t_rowSize t_rows_R t_kind t_pitch)) A) args s 0 0 A := ⟨_, rfl⟩
  refine (?_ : W p l e rm_X6_like s m args below meth c s.heap [] 0 0 (MQ below (va_Qi (fun (r : Int32) (u : (Nat → Int32) × (Nat → Int32) × (Nat → Int32) × (Nat → Int32)) => (r, u) = out) (pst0 D cA A (w1_X6_like cA am tkv ttv t_L t_shelf t_rowSize t_rows_R t_kind t_pitch)) A) args s 0 0 A) (entryFrame m args 8))
  rw [← hQ]
  have hP : va_P D CL [((am 0), e_X6 am tkv ttv t t_L), ((am 1), eI cA 8 t_shelf), ((am 3), eI cA 8 t_rowSize), ((am 4), eOJ cA am 5), (am 5, eJ cA 40 (t_rows_R 0)), (am 6, eJ cA 40 (t_rows_R 1)), (am 7, eJ cA 40 (t_rows_R 2)), (am 8, eJ cA 40 (t_rows_R 3)), (am 9, eJ cA 40 (t_rows_R 4)), (am 10, eJ cA 40 (t_rows_R 5)), (am 11, eJ cA 40 (t_rows_R 6)), (am 12, eJ cA 40 (t_rows_R 7)), ((am 16), eI cA 8 t_refused), ((am 17), eI cA 8 t_kind), ((am 19), eI cA 8 t_pitch), ((am 21), eI cA 12 t_word), ((am 22), eI cA 13 t_heard)] s.heap := hP
  have hD : va_D A [((am 0), e_X6 am tkv ttv t t_L), ((am 1), eI cA 8 t_shelf), ((am 3), eI cA 8 t_rowSize), ((am 4), eOJ cA am 5), (am 5, eJ cA 40 (t_rows_R 0)), (am 6, eJ cA 40 (t_rows_R 1)), (am 7, eJ cA 40 (t_rows_R 2)), (am 8, eJ cA 40 (t_rows_R 3)), (am 9, eJ cA 40 (t_rows_R 4)), (am 10, eJ cA 40 (t_rows_R 5)), (am 11, eJ cA 40 (t_rows_R 6)), (am 12, eJ cA 40 (t_rows_R 7)), ((am 16), eI cA 8 t_refused), ((am 17), eI cA 8 t_kind), ((am 19), eI cA 8 t_pitch), ((am 21), eI cA 12 t_word), ((am 22), eI cA 13 t_heard)] := hD
  have B_66 : ∀ (k_36 : (Int32 × Int32 × Int32 × (Nat → Int32) × (Nat → Int32) × (Nat → Int32) × (Nat → Int32)) → Option (Int32 × ((Nat → Int32) × (Nat → Int32) × (Nat → Int32) × (Nat → Int32)))) (HK_36 : ∀ (x : Int32 × Int32 × Int32 × (Nat → Int32) × (Nat → Int32) × (Nat → Int32) × (Nat → Int32)) (H : Heap) (locs : List Loc) (ls : Array Slot), k_36 x = some out → va_P D CL [((am 0), e_X6 am tkv ttv x.2.2.2.1 t_L), ((am 1), eI cA 8 t_shelf), ((am 3), eI cA 8 t_rowSize), ((am 4), eOJ cA am 5), (am 5, eJ cA 40 (t_rows_R 0)), (am 6, eJ cA 40 (t_rows_R 1)), (am 7, eJ cA 40 (t_rows_R 2)), (am 8, eJ cA 40 (t_rows_R 3)), (am 9, eJ cA 40 (t_rows_R 4)), (am 10, eJ cA 40 (t_rows_R 5)), (am 11, eJ cA 40 (t_rows_R 6)), (am 12, eJ cA 40 (t_rows_R 7)), ((am 16), eI cA 8 x.2.2.2.2.1), ((am 17), eI cA 8 t_kind), ((am 19), eI cA 8 t_pitch), ((am 21), eI cA 12 x.2.2.2.2.2.1), ((am 22), eI cA 13 x.2.2.2.2.2.2)] H → va_D A [((am 0), e_X6 am tkv ttv x.2.2.2.1 t_L), ((am 1), eI cA 8 t_shelf), ((am 3), eI cA 8 t_rowSize), ((am 4), eOJ cA am 5), (am 5, eJ cA 40 (t_rows_R 0)), (am 6, eJ cA 40 (t_rows_R 1)), (am 7, eJ cA 40 (t_rows_R 2)), (am 8, eJ cA 40 (t_rows_R 3)), (am 9, eJ cA 40 (t_rows_R 4)), (am 10, eJ cA 40 (t_rows_R 5)), (am 11, eJ cA 40 (t_rows_R 6)), (am 12, eJ cA 40 (t_rows_R 7)), ((am 16), eI cA 8 x.2.2.2.2.1), ((am 17), eI cA 8 t_kind), ((am 19), eI cA 8 t_pitch), ((am 21), eI cA 12 x.2.2.2.2.2.1), ((am 22), eI cA 13 x.2.2.2.2.2.2)] → va_S A s.heap H locs → lv_has ls 8 [(0, .ref (am 0)), (5, .int x.1), (6, .int x.2.1), (7, .int x.2.2.1)] → W p l e rm_X6_like s m args below meth c H locs 0 0 Q (F0 m 36 ls [])) (l5 : Int32) (l7 : Int32) (s0 : Int32) (s1 : Int32) (t : Nat → Int32) (t_refused : Nat → Int32) (t_word : Nat → Int32) (t_heard : Nat → Int32) (H : Heap) (locs : List Loc) (ls : Array Slot), b_X6_like_66 fu t_L t_shelf t_rowSize t_rows_R t_kind t_pitch k_36 l5 l7 s0 s1 t t_refused t_word t_heard = some out → va_P D CL [((am 0), e_X6 am tkv ttv t t_L), ((am 1), eI cA 8 t_shelf), ((am 3), eI cA 8 t_rowSize), ((am 4), eOJ cA am 5), (am 5, eJ cA 40 (t_rows_R 0)), (am 6, eJ cA 40 (t_rows_R 1)), (am 7, eJ cA 40 (t_rows_R 2)), (am 8, eJ cA 40 (t_rows_R 3)), (am 9, eJ cA 40 (t_rows_R 4)), (am 10, eJ cA 40 (t_rows_R 5)), (am 11, eJ cA 40 (t_rows_R 6)), (am 12, eJ cA 40 (t_rows_R 7)), ((am 16), eI cA 8 t_refused), ((am 17), eI cA 8 t_kind), ((am 19), eI cA 8 t_pitch), ((am 21), eI cA 12 t_word), ((am 22), eI cA 13 t_heard)] H → va_D A [((am 0), e_X6 am tkv ttv t t_L), ((am 1), eI cA 8 t_shelf), ((am 3), eI cA 8 t_rowSize), ((am 4), eOJ cA am 5), (am 5, eJ cA 40 (t_rows_R 0)), (am 6, eJ cA 40 (t_rows_R 1)), (am 7, eJ cA 40 (t_rows_R 2)), (am 8, eJ cA 40 (t_rows_R 3)), (am 9, eJ cA 40 (t_rows_R 4)), (am 10, eJ cA 40 (t_rows_R 5)), (am 11, eJ cA 40 (t_rows_R 6)), (am 12, eJ cA 40 (t_rows_R 7)), ((am 16), eI cA 8 t_refused), ((am 17), eI cA 8 t_kind), ((am 19), eI cA 8 t_pitch), ((am 21), eI cA 12 t_word), ((am 22), eI cA 13 t_heard)] → va_S A s.heap H locs → lv_has ls 8 [(0, .ref (am 0)), (5, .int l5), (7, .int l7)] → W p l e rm_X6_like s m args below meth c H locs 0 0 Q (F0 m 66 ls [.int s1, .int s0]) := by
    intro k_36 HK_36 l5 l7 s0 s1 t t_refused t_word t_heard H locs ls hm hP hD hS hl
    unfold b_X6_like_66 at hm
    refine lv_ior hx hb dX6_like_66 ?_
    refine lv_istore (lv' := [(6, .int (s0 ||| s1)), (0, .ref (am 0)), (5, .int l5), (7, .int l7)]) hx hb dX6_like_67 hl (by decide) rfl (fun ls hl => ?_)
    refine lv_iinc (v := (l7 + (1 : Int32))) (lv' := [(7, .int (l7 + (1 : Int32))), (6, .int (s0 ||| s1)), (0, .ref (am 0)), (5, .int l5)]) hx hb dX6_like_69 hl (k := 3) rfl rfl (by decide) rfl (fun ls hl => ?_)
    refine lv_goto (tgt := 36) hx hb dX6_like_72 (by decide) ?_
    exact HK_36 _ _ _ _ hm hP hD hS (lv_sub hl [2, 3, 1, 0] rfl)
  have B_36 : ∀ (n : Nat) (x : Int32 × Int32 × Int32 × (Nat → Int32) × (Nat → Int32) × (Nat → Int32) × (Nat → Int32)) (H : Heap) (locs : List Loc) (ls : Array Slot), lfix (b_X6_like_36 fu t_L t_shelf t_rowSize t_rows_R t_kind t_pitch) n x = some out → va_P D CL [((am 0), e_X6 am tkv ttv x.2.2.2.1 t_L), ((am 1), eI cA 8 t_shelf), ((am 3), eI cA 8 t_rowSize), ((am 4), eOJ cA am 5), (am 5, eJ cA 40 (t_rows_R 0)), (am 6, eJ cA 40 (t_rows_R 1)), (am 7, eJ cA 40 (t_rows_R 2)), (am 8, eJ cA 40 (t_rows_R 3)), (am 9, eJ cA 40 (t_rows_R 4)), (am 10, eJ cA 40 (t_rows_R 5)), (am 11, eJ cA 40 (t_rows_R 6)), (am 12, eJ cA 40 (t_rows_R 7)), ((am 16), eI cA 8 x.2.2.2.2.1), ((am 17), eI cA 8 t_kind), ((am 19), eI cA 8 t_pitch), ((am 21), eI cA 12 x.2.2.2.2.2.1), ((am 22), eI cA 13 x.2.2.2.2.2.2)] H → va_D A [((am 0), e_X6 am tkv ttv x.2.2.2.1 t_L), ((am 1), eI cA 8 t_shelf), ((am 3), eI cA 8 t_rowSize), ((am 4), eOJ cA am 5), (am 5, eJ cA 40 (t_rows_R 0)), (am 6, eJ cA 40 (t_rows_R 1)), (am 7, eJ cA 40 (t_rows_R 2)), (am 8, eJ cA 40 (t_rows_R 3)), (am 9, eJ cA 40 (t_rows_R 4)), (am 10, eJ cA 40 (t_rows_R 5)), (am 11, eJ cA 40 (t_rows_R 6)), (am 12, eJ cA 40 (t_rows_R 7)), ((am 16), eI cA 8 x.2.2.2.2.1), ((am 17), eI cA 8 t_kind), ((am 19), eI cA 8 t_pitch), ((am 21), eI cA 12 x.2.2.2.2.2.1), ((am 22), eI cA 13 x.2.2.2.2.2.2)] → va_S A s.heap H locs → lv_has ls 8 [(0, .ref (am 0)), (5, .int x.1), (6, .int x.2.1), (7, .int x.2.2.1)] → W p l e rm_X6_like s m args below meth c H locs 0 0 Q (F0 m 36 ls []) := by
    intro  n
    induction n with
    | zero => intro x H locs ls hm; cases (show none = some out from hm)
    | succ n HK_36 =>
      intro x H locs ls hm hP hD hS hl
      replace hm : b_X6_like_36 fu t_L t_shelf t_rowSize t_rows_R t_kind t_pitch (lfix (b_X6_like_36 fu t_L t_shelf t_rowSize t_rows_R t_kind t_pitch) n) x = some out := hm
      unfold b_X6_like_36 at hm
      refine lv_iload hx hb dX6_like_36 (lv_at hl 3 rfl) ?_
      refine lv_aload_n hx hb dX6_like_38 rfl (lv_at hl 0 rfl) ?_
      refine va_get (D := D) (ci := 6) (v := .int (x.2.2.2.1 16)) (C := RX6) (T := TX6) (N := 49) hx hb htg inX6 hown hK hP 0 rfl rfl 16 (by decide) (htg _ q_4_205) (fun _ h9 => h9) rfl dX6_like_39 ?_
      refine lv_icmp_ge (tgt := 75) hx hb dX6_like_42 (by decide) (fun c1 => ?_) (fun c1 => ?_)
      · have hm := it_t c1 hm
        refine lv_iload hx hb dX6_like_75 (lv_at hl 2 rfl) ?_
        rw [hQ]
        exact W.iret (v := x.2.1) hx hb hr (fun t9 ht hW => ⟨⟨x.2.1, (x.2.2.2.1, x.2.2.2.2.1, x.2.2.2.2.2.1, x.2.2.2.2.2.2), rfl, (Option.some.inj hm), by rw [ht]; exact hP, va_K.moved hW.alike hK, hD⟩, hS.F ht⟩) hS.2.2 dX6_like_77
      · have hm := it_f c1 hm
        refine lv_iload hx hb dX6_like_45 (lv_at hl 2 rfl) ?_
        refine lv_aload_n hx hb dX6_like_47 rfl (lv_at hl 0 rfl) ?_
        refine lv_iload hx hb dX6_like_48 (lv_at hl 3 rfl) ?_
        obtain ⟨o2, ho3, hm⟩ := bd_s hm
        refine xr_i (wr := [((am 1), eI cA 8 t_shelf), ((am 3), eI cA 8 t_rowSize), ((am 4), eOJ cA am 5), (am 5, eJ cA 40 (t_rows_R 0)), (am 6, eJ cA 40 (t_rows_R 1)), (am 7, eJ cA 40 (t_rows_R 2)), (am 8, eJ cA 40 (t_rows_R 3)), (am 9, eJ cA 40 (t_rows_R 4)), (am 10, eJ cA 40 (t_rows_R 5)), (am 11, eJ cA 40 (t_rows_R 6)), (am 12, eJ cA 40 (t_rows_R 7)), ((am 16), eI cA 8 x.2.2.2.2.1)]) (wn := [((am 0), e_X6 am tkv ttv o2.2.1 t_L), ((am 1), eI cA 8 t_shelf), ((am 3), eI cA 8 t_rowSize), ((am 4), eOJ cA am 5), (am 5, eJ cA 40 (t_rows_R 0)), (am 6, eJ cA 40 (t_rows_R 1)), (am 7, eJ cA 40 (t_rows_R 2)), (am 8, eJ cA 40 (t_rows_R 3)), (am 9, eJ cA 40 (t_rows_R 4)), (am 10, eJ cA 40 (t_rows_R 5)), (am 11, eJ cA 40 (t_rows_R 6)), (am 12, eJ cA 40 (t_rows_R 7)), ((am 16), eI cA 8 x.2.2.2.2.1), ((am 17), eI cA 8 t_kind), ((am 19), eI cA 8 t_pitch), ((am 21), eI cA 12 x.2.2.2.2.2.1), ((am 22), eI cA 13 o2.2.2)]) (va_runV (As := [.int x.2.2.1]) (rest := [.int x.2.1]) ⟨hx, hb, hml, hown, htg⟩ (c_X6_weighedOf l D cA _ fu am tkv ttv x.2.2.2.1 t_L t_kind t_pitch x.2.2.2.2.2.1 x.2.2.2.2.2.2 x.2.2.1 o2 ho3) (cwV 1 htg (gV q_6_65 q_6_67 q_p6_10 q_1_8 q_6_68) rfl rfl rfl hd_X6_weighedOf ⟨Nat.le_of_ble_eq_true rfl, Nat.le_of_ble_eq_true rfl⟩) (xpV hN hK hP hD [0, 13, 14, 15, 16] rfl (by decide) rfl rfl) rfl rfl hl.1 rfl (lv_room (Nat.le_of_ble_eq_true rfl)) dX6_like_50 ⟨Nat.zero_le _, Nat.zero_le _⟩) hP hD hS hA [0, 13, 14, 15, 16] [1, 2, 3, 4, 5, 6, 7, 8, 9, 10, 11, 12] [12, 0, 1, 2, 3, 4, 5, 6, 7, 8, 9, 10, 11, 13, 14, 15, 16] rfl rfl (by decide) (by decide) rfl (by decide) (fun H locs hP hD hS => ?_)
        refine lv_iload hx hb dX6_like_53 (lv_at hl 1 rfl) ?_
        refine lv_icmp_ne (tgt := 65) hx hb dX6_like_55 (by decide) (fun c4 => ?_) (fun c4 => ?_)
        · have hm := it_f c4 hm
          refine lv_iconst (v := (0 : Int32)) hx hb dX6_like_65 (by decide) ?_
          exact B_66 _ HK_36 _ _ _ _ _ _ _ _ _ _ _ hm hP hD hS (lv_sub hl [0, 1, 3] rfl)
        · have hm := it_t c4 hm
          refine lv_iconst (v := (1 : Int32)) hx hb dX6_like_58 (by decide) ?_
          refine lv_iload hx hb dX6_like_59 (lv_at hl 3 rfl) ?_
          refine lv_ishl hx hb dX6_like_61 ?_
          refine lv_goto (tgt := 66) hx hb dX6_like_62 (by decide) ?_
          exact B_66 _ HK_36 _ _ _ _ _ _ _ _ _ _ _ hm hP hD hS (lv_sub hl [0, 1, 3] rfl)
  unfold m_X6_like at hm
  subst hargs
  have hl := lv_entry ([.ref (am 0), .int l1, .int l2, .int l3]) (n := 8) (Nat.le_of_ble_eq_true rfl)
  rw [lg_entry_eq]
  generalize (lg_sl ([.ref (am 0), .int l1, .int l2, .int l3]) ++ List.replicate (8 - (lg_sl ([.ref (am 0), .int l1, .int l2, .int l3])).length) Slot.unset).toArray = ls at hl ⊢
  have hl : lv_has ls 8 [(0, .ref (am 0)), (1, .int l1), (2, .int l2), (3, .int l3)] := hl
  refine lv_aload_n hx hb dX6_like_0 rfl (lv_at hl 0 rfl) ?_
  refine lv_iload_n hx hb dX6_like_1 rfl (lv_at hl 1 rfl) ?_
  refine lv_iload_n hx hb dX6_like_2 rfl (lv_at hl 2 rfl) ?_
  refine lv_bipush (v := (12 : Int32)) hx hb dX6_like_3 (by decide) ?_
  refine lv_aload_n hx hb dX6_like_5 rfl (lv_at hl 0 rfl) ?_
  refine lv_iload_n hx hb dX6_like_6 rfl (lv_at hl 3 rfl) ?_
  obtain ⟨o5, ho6, hm⟩ := bd_s hm
  refine xr_i (wr := [((am 1), eI cA 8 t_shelf), ((am 3), eI cA 8 t_rowSize), ((am 4), eOJ cA am 5), (am 5, eJ cA 40 (t_rows_R 0)), (am 6, eJ cA 40 (t_rows_R 1)), (am 7, eJ cA 40 (t_rows_R 2)), (am 8, eJ cA 40 (t_rows_R 3)), (am 9, eJ cA 40 (t_rows_R 4)), (am 10, eJ cA 40 (t_rows_R 5)), (am 11, eJ cA 40 (t_rows_R 6)), (am 12, eJ cA 40 (t_rows_R 7)), ((am 16), eI cA 8 t_refused), ((am 17), eI cA 8 t_kind), ((am 19), eI cA 8 t_pitch), ((am 21), eI cA 12 t_word), ((am 22), eI cA 13 t_heard)]) (wn := [((am 0), e_X6 am tkv ttv t t_L), ((am 1), eI cA 8 t_shelf), ((am 3), eI cA 8 t_rowSize), ((am 4), eOJ cA am 5), (am 5, eJ cA 40 (t_rows_R 0)), (am 6, eJ cA 40 (t_rows_R 1)), (am 7, eJ cA 40 (t_rows_R 2)), (am 8, eJ cA 40 (t_rows_R 3)), (am 9, eJ cA 40 (t_rows_R 4)), (am 10, eJ cA 40 (t_rows_R 5)), (am 11, eJ cA 40 (t_rows_R 6)), (am 12, eJ cA 40 (t_rows_R 7)), ((am 16), eI cA 8 t_refused), ((am 17), eI cA 8 t_kind), ((am 19), eI cA 8 t_pitch), ((am 21), eI cA 12 t_word), ((am 22), eI cA 13 t_heard)]) (va_runV (As := [.int l3]) (rest := [.int (12 : Int32), .int l2, .int l1, .ref (am 0)]) ⟨hx, hb, hml, hown, htg⟩ (c_X6_isVoice l D cA _ fu am tkv ttv t t_L l3 o5 ho6) (cwV 1 htg (gV q_5_139 q_5_141 q_p5_9 q_1_8 q_5_142) rfl rfl rfl hd_X6_isVoice ⟨Nat.le_of_ble_eq_true rfl, Nat.le_of_ble_eq_true rfl⟩) (xpV hN hK hP hD [0] rfl (by decide) rfl rfl) rfl rfl hl.1 rfl (lv_room (Nat.le_of_ble_eq_true rfl)) dX6_like_7 ⟨Nat.zero_le _, Nat.zero_le _⟩) hP hD hS hA [0] [1, 2, 3, 4, 5, 6, 7, 8, 9, 10, 11, 12, 13, 14, 15, 16] [16, 0, 1, 2, 3, 4, 5, 6, 7, 8, 9, 10, 11, 12, 13, 14, 15] rfl rfl (by decide) (by decide) rfl (by decide) (fun H locs hP hD hS => ?_)
  obtain ⟨o7, ho8, hm⟩ := bd_s hm
  refine xr_i (wr := [((am 17), eI cA 8 t_kind), ((am 19), eI cA 8 t_pitch), ((am 22), eI cA 13 t_heard)]) (wn := [((am 0), e_X6 am tkv ttv o7.2.1 t_L), ((am 1), eI cA 8 t_shelf), ((am 3), eI cA 8 t_rowSize), ((am 4), eOJ cA am 5), (am 5, eJ cA 40 (t_rows_R 0)), (am 6, eJ cA 40 (t_rows_R 1)), (am 7, eJ cA 40 (t_rows_R 2)), (am 8, eJ cA 40 (t_rows_R 3)), (am 9, eJ cA 40 (t_rows_R 4)), (am 10, eJ cA 40 (t_rows_R 5)), (am 11, eJ cA 40 (t_rows_R 6)), (am 12, eJ cA 40 (t_rows_R 7)), ((am 16), eI cA 8 o7.2.2.1), ((am 17), eI cA 8 t_kind), ((am 19), eI cA 8 t_pitch), ((am 21), eI cA 12 o7.2.2.2), ((am 22), eI cA 13 t_heard)]) (va_runV (As := [.int l1, .int l2, .int (12 : Int32), .int o5.1]) (rest := []) ⟨hx, hb, hml, hown, htg⟩ (c_X6_noWord l D cA _ fu am tkv ttv t t_L t_shelf t_rowSize t_rows_R t_refused t_word l1 l2 (12 : Int32) o5.1 o7 ho8) (cwV 4 htg (gV q_6_49 q_6_51 q_p6_8 q_1_8 q_6_52) rfl rfl rfl hd_X6_noWord ⟨Nat.le_of_ble_eq_true rfl, Nat.le_of_ble_eq_true rfl⟩) (xpV hN hK hP hD [0, 1, 2, 3, 4, 5, 6, 7, 8, 9, 10, 11, 12, 15] rfl (by decide) rfl rfl) rfl rfl hl.1 rfl (lv_room (Nat.le_of_ble_eq_true rfl)) dX6_like_10 ⟨Nat.zero_le _, Nat.zero_le _⟩) hP hD hS hA [0, 1, 2, 3, 4, 5, 6, 7, 8, 9, 10, 11, 12, 15] [13, 14, 16] [3, 4, 5, 6, 7, 8, 9, 10, 11, 12, 13, 14, 15, 0, 1, 16, 2] rfl rfl (by decide) (by decide) rfl (by decide) (fun H locs hP hD hS => ?_)
  refine lv_istore (lv' := [(4, .int o7.1), (0, .ref (am 0)), (1, .int l1), (2, .int l2), (3, .int l3)]) hx hb dX6_like_13 hl (by decide) rfl (fun ls hl => ?_)
  refine lv_iload hx hb dX6_like_15 (lv_at hl 0 rfl) ?_
  refine lv_if_eq (tgt := 23) hx hb dX6_like_17 (by decide) (fun c9 => ?_) (fun c9 => ?_)
  · have hm := it_t c9 hm
    refine lv_aload_n hx hb dX6_like_23 rfl (lv_at hl 1 rfl) ?_
    refine lv_iload_n hx hb dX6_like_24 rfl (lv_at hl 4 rfl) ?_
    obtain ⟨o10, ho11, hm⟩ := bd_s hm
    refine xr_i (wr := [((am 1), eI cA 8 t_shelf), ((am 3), eI cA 8 t_rowSize), ((am 4), eOJ cA am 5), (am 5, eJ cA 40 (t_rows_R 0)), (am 6, eJ cA 40 (t_rows_R 1)), (am 7, eJ cA 40 (t_rows_R 2)), (am 8, eJ cA 40 (t_rows_R 3)), (am 9, eJ cA 40 (t_rows_R 4)), (am 10, eJ cA 40 (t_rows_R 5)), (am 11, eJ cA 40 (t_rows_R 6)), (am 12, eJ cA 40 (t_rows_R 7)), ((am 16), eI cA 8 o7.2.2.1)]) (wn := [((am 0), e_X6 am tkv ttv o10.2.1 t_L), ((am 1), eI cA 8 t_shelf), ((am 3), eI cA 8 t_rowSize), ((am 4), eOJ cA am 5), (am 5, eJ cA 40 (t_rows_R 0)), (am 6, eJ cA 40 (t_rows_R 1)), (am 7, eJ cA 40 (t_rows_R 2)), (am 8, eJ cA 40 (t_rows_R 3)), (am 9, eJ cA 40 (t_rows_R 4)), (am 10, eJ cA 40 (t_rows_R 5)), (am 11, eJ cA 40 (t_rows_R 6)), (am 12, eJ cA 40 (t_rows_R 7)), ((am 16), eI cA 8 o7.2.2.1), ((am 17), eI cA 8 t_kind), ((am 19), eI cA 8 t_pitch), ((am 21), eI cA 12 o7.2.2.2), ((am 22), eI cA 13 o10.2.2)]) (va_runV (As := [.int l3]) (rest := []) ⟨hx, hb, hml, hown, htg⟩ (c_X6_weighedOf l D cA _ fu am tkv ttv o7.2.1 t_L t_kind t_pitch o7.2.2.2 t_heard l3 o10 ho11) (cwV 1 htg (gV q_6_65 q_6_67 q_p6_10 q_1_8 q_6_68) rfl rfl rfl hd_X6_weighedOf ⟨Nat.le_of_ble_eq_true rfl, Nat.le_of_ble_eq_true rfl⟩) (xpV hN hK hP hD [0, 13, 14, 15, 16] rfl (by decide) rfl rfl) rfl rfl hl.1 rfl (lv_room (Nat.le_of_ble_eq_true rfl)) dX6_like_25 ⟨Nat.zero_le _, Nat.zero_le _⟩) hP hD hS hA [0, 13, 14, 15, 16] [1, 2, 3, 4, 5, 6, 7, 8, 9, 10, 11, 12] [12, 0, 1, 2, 3, 4, 5, 6, 7, 8, 9, 10, 11, 13, 14, 15, 16] rfl rfl (by decide) (by decide) rfl (by decide) (fun H locs hP hD hS => ?_)
    refine lv_istore (lv' := [(5, .int o10.1), (4, .int o7.1), (0, .ref (am 0)), (1, .int l1), (2, .int l2), (3, .int l3)]) hx hb dX6_like_28 hl (by decide) rfl (fun ls hl => ?_)
    refine lv_iconst (v := (0 : Int32)) hx hb dX6_like_30 (by decide) ?_
    refine lv_istore (lv' := [(6, .int (0 : Int32)), (5, .int o10.1), (4, .int o7.1), (0, .ref (am 0)), (1, .int l1), (2, .int l2), (3, .int l3)]) hx hb dX6_like_31 hl (by decide) rfl (fun ls hl => ?_)
    refine lv_iconst (v := (0 : Int32)) hx hb dX6_like_33 (by decide) ?_
    refine lv_istore (lv' := [(7, .int (0 : Int32)), (6, .int (0 : Int32)), (5, .int o10.1), (4, .int o7.1), (0, .ref (am 0)), (1, .int l1), (2, .int l2), (3, .int l3)]) hx hb dX6_like_34 hl (by decide) rfl (fun ls hl => ?_)
    exact B_36 fu _ _ _ _ hm hP hD hS (lv_sub hl [4, 2, 1, 0] rfl)
  · have hm := it_f c9 hm
    refine lv_iload hx hb dX6_like_20 (lv_at hl 0 rfl) ?_
    rw [hQ]
    exact W.iret (v := o7.1) hx hb hr (fun t9 ht hW => ⟨⟨o7.1, (o7.2.1, o7.2.2.1, o7.2.2.2, t_heard), rfl, (Option.some.inj hm), by rw [ht]; exact hP, va_K.moved hW.alike hK, hD⟩, hS.F ht⟩) hS.2.2 dX6_like_22
def b_X6_alike_162 (fu : Nat) (t_L : Nat → Int64) (t_shelf : Nat → Int32) (t_rowSize : Nat → Int32) (t_rows_R : Nat → Nat → Int64) (t_kind : Nat → Int32) (t_pitch : Nat → Int32) (s0 : Int32) (t : Nat → Int32) (t_refused : Nat → Int32) (t_word : Nat → Int32) (t_heard : Nat → Int32) (t_other : Nat → Int32) : Option (Int32 × ((Nat → Int32) × (Nat → Int32) × (Nat → Int32) × (Nat → Int32) × (Nat → Int32))) :=
  some (s0, (t, t_refused, t_word, t_heard, t_other))
def b_X6_alike_152 (fu : Nat) (t_L : Nat → Int64) (t_shelf : Nat → Int32) (t_rowSize : Nat → Int32) (t_rows_R : Nat → Nat → Int64) (t_kind : Nat → Int32) (t_pitch : Nat → Int32) (l7 : Int32) (t : Nat → Int32) (t_refused : Nat → Int32) (t_word : Nat → Int32) (t_heard : Nat → Int32) (t_other : Nat → Int32) : Option (Int32 × ((Nat → Int32) × (Nat → Int32) × (Nat → Int32) × (Nat → Int32) × (Nat → Int32))) :=
  (if l7 = 0 then
      b_X6_alike_162 fu t_L t_shelf t_rowSize t_rows_R t_kind t_pitch (0 : Int32) t t_refused t_word t_heard t_other
    else
      b_X6_alike_162 fu t_L t_shelf t_rowSize t_rows_R t_kind t_pitch (1 : Int32) t t_refused t_word t_heard t_other)
def b_X6_alike_144 (fu : Nat) (t_L : Nat → Int64) (t_shelf : Nat → Int32) (t_rowSize : Nat → Int32) (t_rows_R : Nat → Nat → Int64) (t_kind : Nat → Int32) (t_pitch : Nat → Int32) (k_108 : (Int32 × Int32 × (Nat → Int32) × (Nat → Int32) × (Nat → Int32) × (Nat → Int32) × (Nat → Int32)) → Option (Int32 × ((Nat → Int32) × (Nat → Int32) × (Nat → Int32) × (Nat → Int32) × (Nat → Int32)))) (l8 : Int32) (s0 : Int32) (t : Nat → Int32) (t_refused : Nat → Int32) (t_word : Nat → Int32) (t_heard : Nat → Int32) (t_other : Nat → Int32) : Option (Int32 × ((Nat → Int32) × (Nat → Int32) × (Nat → Int32) × (Nat → Int32) × (Nat → Int32))) :=
  k_108 (s0, (l8 + (1 : Int32)), t, t_refused, t_word, t_heard, t_other)
def b_X6_alike_108 (fu : Nat) (t_L : Nat → Int64) (t_shelf : Nat → Int32) (t_rowSize : Nat → Int32) (t_rows_R : Nat → Nat → Int64) (t_kind : Nat → Int32) (t_pitch : Nat → Int32) (k_108 : (Int32 × Int32 × (Nat → Int32) × (Nat → Int32) × (Nat → Int32) × (Nat → Int32) × (Nat → Int32)) → Option (Int32 × ((Nat → Int32) × (Nat → Int32) × (Nat → Int32) × (Nat → Int32) × (Nat → Int32)))) (x : Int32 × Int32 × (Nat → Int32) × (Nat → Int32) × (Nat → Int32) × (Nat → Int32) × (Nat → Int32)) : Option (Int32 × ((Nat → Int32) × (Nat → Int32) × (Nat → Int32) × (Nat → Int32) × (Nat → Int32))) :=
  (if x.2.2.1 33 ≤ x.2.1 then
        b_X6_alike_152 fu t_L t_shelf t_rowSize t_rows_R t_kind t_pitch x.1 x.2.2.1 x.2.2.2.1 x.2.2.2.2.1 x.2.2.2.2.2.1 x.2.2.2.2.2.2
      else
        (if x.1 = 0 then
          b_X6_alike_152 fu t_L t_shelf t_rowSize t_rows_R t_kind t_pitch x.1 x.2.2.1 x.2.2.2.1 x.2.2.2.2.1 x.2.2.2.2.2.1 x.2.2.2.2.2.2
        else
          gd (inb x.2.1 13) (
          gd (inb x.2.1 13) (
          (if (x.2.2.2.2.2.1 x.2.1.toNatClampNeg) = (x.2.2.2.2.2.2 x.2.1.toNatClampNeg) then
            b_X6_alike_144 fu t_L t_shelf t_rowSize t_rows_R t_kind t_pitch k_108 x.2.1 (1 : Int32) x.2.2.1 x.2.2.2.1 x.2.2.2.2.1 x.2.2.2.2.2.1 x.2.2.2.2.2.2
          else
            b_X6_alike_144 fu t_L t_shelf t_rowSize t_rows_R t_kind t_pitch k_108 x.2.1 (0 : Int32) x.2.2.1 x.2.2.2.1 x.2.2.2.2.1 x.2.2.2.2.2.1 x.2.2.2.2.2.2)))))
def b_X6_alike_103 (fu : Nat) (t_L : Nat → Int64) (t_shelf : Nat → Int32) (t_rowSize : Nat → Int32) (t_rows_R : Nat → Nat → Int64) (t_kind : Nat → Int32) (t_pitch : Nat → Int32) (s0 : Int32) (t : Nat → Int32) (t_refused : Nat → Int32) (t_word : Nat → Int32) (t_heard : Nat → Int32) (t_other : Nat → Int32) : Option (Int32 × ((Nat → Int32) × (Nat → Int32) × (Nat → Int32) × (Nat → Int32) × (Nat → Int32))) :=
  lfix (b_X6_alike_108 fu t_L t_shelf t_rowSize t_rows_R t_kind t_pitch) fu (s0, (0 : Int32), t, t_refused, t_word, t_heard, t_other)
def b_X6_alike_54 (fu : Nat) (t_L : Nat → Int64) (t_shelf : Nat → Int32) (t_rowSize : Nat → Int32) (t_rows_R : Nat → Nat → Int64) (t_kind : Nat → Int32) (t_pitch : Nat → Int32) (k_54 : (Int32 × Int32 × Int32 × (Nat → Int32) × (Nat → Int32) × (Nat → Int32) × (Nat → Int32) × (Nat → Int32)) → Option (Int32 × ((Nat → Int32) × (Nat → Int32) × (Nat → Int32) × (Nat → Int32) × (Nat → Int32)))) (x : Int32 × Int32 × Int32 × (Nat → Int32) × (Nat → Int32) × (Nat → Int32) × (Nat → Int32) × (Nat → Int32)) : Option (Int32 × ((Nat → Int32) × (Nat → Int32) × (Nat → Int32) × (Nat → Int32) × (Nat → Int32))) :=
  (if x.2.2.2.1 33 ≤ x.2.2.1 then
        (m_X6_listen fu x.2.2.2.1 t_L t_kind t_pitch x.2.2.2.2.2.1 x.2.2.2.2.2.2.1 x.1).bind fun o8 =>
        (if o8.1 33 = x.2.1 then
          b_X6_alike_103 fu t_L t_shelf t_rowSize t_rows_R t_kind t_pitch (1 : Int32) o8.1 x.2.2.2.2.1 x.2.2.2.2.2.1 o8.2 x.2.2.2.2.2.2.2
        else
          b_X6_alike_103 fu t_L t_shelf t_rowSize t_rows_R t_kind t_pitch (0 : Int32) o8.1 x.2.2.2.2.1 x.2.2.2.2.2.1 o8.2 x.2.2.2.2.2.2.2)
      else
        gd (inb x.2.2.1 13) (
        gd (inb x.2.2.1 13) (
        k_54 (x.1, x.2.1, (x.2.2.1 + (1 : Int32)), x.2.2.2.1, x.2.2.2.2.1, x.2.2.2.2.2.1, x.2.2.2.2.2.2.1, (upd x.2.2.2.2.2.2.2 x.2.2.1.toNatClampNeg (x.2.2.2.2.2.2.1 x.2.2.1.toNatClampNeg))))))
def b_X6_alike_27 (fu : Nat) (t_L : Nat → Int64) (t_shelf : Nat → Int32) (t_rowSize : Nat → Int32) (t_rows_R : Nat → Nat → Int64) (t_kind : Nat → Int32) (t_pitch : Nat → Int32) (l3 : Int32) (l4 : Int32) (s1 : Int32) (s2 : Int32) (s3 : Int32) (s4 : Int32) (t : Nat → Int32) (t_refused : Nat → Int32) (t_word : Nat → Int32) (t_heard : Nat → Int32) (t_other : Nat → Int32) : Option (Int32 × ((Nat → Int32) × (Nat → Int32) × (Nat → Int32) × (Nat → Int32) × (Nat → Int32))) :=
  (m_X6_noWord fu t t_L t_shelf t_rowSize t_rows_R t_refused t_word s1 s2 s3 s4).bind fun o13 =>
    (if o13.1 = 0 then
      (m_X6_listen fu o13.2.1 t_L t_kind t_pitch o13.2.2.2 t_heard l3).bind fun o16 =>
      lfix (b_X6_alike_54 fu t_L t_shelf t_rowSize t_rows_R t_kind t_pitch) fu (l4, (o16.1 33), (0 : Int32), o16.1, o13.2.2.1, o13.2.2.2, o16.2, t_other)
    else
      some (o13.1, (o13.2.1, o13.2.2.1, o13.2.2.2, t_heard, t_other)))
def b_X6_alike_26 (fu : Nat) (t_L : Nat → Int64) (t_shelf : Nat → Int32) (t_rowSize : Nat → Int32) (t_rows_R : Nat → Nat → Int64) (t_kind : Nat → Int32) (t_pitch : Nat → Int32) (l3 : Int32) (l4 : Int32) (s1 : Int32) (s2 : Int32) (s3 : Int32) (t : Nat → Int32) (t_refused : Nat → Int32) (t_word : Nat → Int32) (t_heard : Nat → Int32) (t_other : Nat → Int32) : Option (Int32 × ((Nat → Int32) × (Nat → Int32) × (Nat → Int32) × (Nat → Int32) × (Nat → Int32))) :=
  b_X6_alike_27 fu t_L t_shelf t_rowSize t_rows_R t_kind t_pitch l3 l4 s1 s2 s3 (0 : Int32) t t_refused t_word t_heard t_other
def m_X6_alike (fu : Nat) (t : Nat → Int32) (t_L : Nat → Int64) (t_shelf : Nat → Int32) (t_rowSize : Nat → Int32) (t_rows_R : Nat → Nat → Int64) (t_refused : Nat → Int32) (t_kind : Nat → Int32) (t_pitch : Nat → Int32) (t_word : Nat → Int32) (t_heard : Nat → Int32) (t_other : Nat → Int32) (l1 : Int32) (l2 : Int32) (l3 : Int32) (l4 : Int32) : Option (Int32 × ((Nat → Int32) × (Nat → Int32) × (Nat → Int32) × (Nat → Int32) × (Nat → Int32))) :=
  (m_X6_isVoice fu t t_L l3).bind fun o18 =>
  (if o18.1 = 0 then
    b_X6_alike_26 fu t_L t_shelf t_rowSize t_rows_R t_kind t_pitch l3 l4 l1 l2 (12 : Int32) t t_refused t_word t_heard t_other
  else
    (m_X6_isVoice fu t t_L l4).bind fun o21 =>
    (if o21.1 = 0 then
      b_X6_alike_26 fu t_L t_shelf t_rowSize t_rows_R t_kind t_pitch l3 l4 l1 l2 (12 : Int32) t t_refused t_word t_heard t_other
    else
      b_X6_alike_27 fu t_L t_shelf t_rowSize t_rows_R t_kind t_pitch l3 l4 l1 l2 (12 : Int32) (1 : Int32) t t_refused t_word t_heard t_other))
abbrev rm_X6_alike : Room := ({ frames := 3, cells := 0, slots := 0, locals := 73 } : Room)
abbrev w0_X6_alike (cA : Nat → ClassId) (am : Nat → Nat) (tkv : Value) (ttv : Value) (t : Nat → Int32) (t_L : Nat → Int64) (t_shelf : Nat → Int32) (t_rowSize : Nat → Int32) (t_rows_R : Nat → Nat → Int64) (t_refused : Nat → Int32) (t_kind : Nat → Int32) (t_pitch : Nat → Int32) (t_word : Nat → Int32) (t_heard : Nat → Int32) (t_other : Nat → Int32) : va_W := [((am 0), e_X6 am tkv ttv t t_L), ((am 1), eI cA 8 t_shelf), ((am 3), eI cA 8 t_rowSize), ((am 4), eOJ cA am 5), (am 5, eJ cA 40 (t_rows_R 0)), (am 6, eJ cA 40 (t_rows_R 1)), (am 7, eJ cA 40 (t_rows_R 2)), (am 8, eJ cA 40 (t_rows_R 3)), (am 9, eJ cA 40 (t_rows_R 4)), (am 10, eJ cA 40 (t_rows_R 5)), (am 11, eJ cA 40 (t_rows_R 6)), (am 12, eJ cA 40 (t_rows_R 7)), ((am 16), eI cA 8 t_refused), ((am 17), eI cA 8 t_kind), ((am 19), eI cA 8 t_pitch), ((am 21), eI cA 12 t_word), ((am 22), eI cA 13 t_heard), ((am 23), eI cA 13 t_other)]
abbrev w1_X6_alike (cA : Nat → ClassId) (am : Nat → Nat) (tkv : Value) (ttv : Value) (t_L : Nat → Int64) (t_shelf : Nat → Int32) (t_rowSize : Nat → Int32) (t_rows_R : Nat → Nat → Int64) (t_kind : Nat → Int32) (t_pitch : Nat → Int32) (u : (Nat → Int32) × (Nat → Int32) × (Nat → Int32) × (Nat → Int32) × (Nat → Int32)) : va_W := [((am 0), e_X6 am tkv ttv u.1 t_L), ((am 1), eI cA 8 t_shelf), ((am 3), eI cA 8 t_rowSize), ((am 4), eOJ cA am 5), (am 5, eJ cA 40 (t_rows_R 0)), (am 6, eJ cA 40 (t_rows_R 1)), (am 7, eJ cA 40 (t_rows_R 2)), (am 8, eJ cA 40 (t_rows_R 3)), (am 9, eJ cA 40 (t_rows_R 4)), (am 10, eJ cA 40 (t_rows_R 5)), (am 11, eJ cA 40 (t_rows_R 6)), (am 12, eJ cA 40 (t_rows_R 7)), ((am 16), eI cA 8 u.2.1), ((am 17), eI cA 8 t_kind), ((am 19), eI cA 8 t_pitch), ((am 21), eI cA 12 u.2.2.1), ((am 22), eI cA 13 u.2.2.2.1), ((am 23), eI cA 13 u.2.2.2.2)]
theorem hd_X6_alike : yX6_alike.cls = RX6 ∧ yX6_alike.cls ≠ "java/lang/invoke/MethodHandle" ∧ yX6_alike.cls ≠ "java/lang/invoke/VarHandle" ∧ (parseMethodDescriptor yX6_alike.desc).map (fun d => d.parameters.length) = some 4 := by decide +kernel
set_option maxHeartbeats 40000000 in
set_option maxRecDepth 100000 in
theorem c_X6_alike (l : Launch) (D : va_G) (cA : Nat → ClassId) (sz : Nat) (fu : Nat) (am : Nat → Nat) (tkv : Value) (ttv : Value) (t : Nat → Int32) (t_L : Nat → Int64) (t_shelf : Nat → Int32) (t_rowSize : Nat → Int32) (t_rows_R : Nat → Nat → Int64) (t_refused : Nat → Int32) (t_kind : Nat → Int32) (t_pitch : Nat → Int32) (t_word : Nat → Int32) (t_heard : Nat → Int32) (t_other : Nat → Int32) (l1 : Int32) (l2 : Int32) (l3 : Int32) (l4 : Int32) (out : Int32 × ((Nat → Int32) × (Nat → Int32) × (Nat → Int32) × (Nat → Int32) × (Nat → Int32))) (hm : m_X6_alike fu t t_L t_shelf t_rowSize t_rows_R t_refused t_kind t_pitch t_word t_heard t_other l1 l2 l3 l4 = some out) : MI l yX6_alike (wU yX6_alike cX6_alike 9 ((Option.some Jvm.ClassFile.FieldType.int))) rm_X6_alike D cA sz [.ref (am 0), .int l1, .int l2, .int l3, .int l4] (w0_X6_alike cA am tkv ttv t t_L t_shelf t_rowSize t_rows_R t_refused t_kind t_pitch t_word t_heard t_other) out (w1_X6_alike cA am tkv ttv t_L t_shelf t_rowSize t_rows_R t_kind t_pitch) := by
  refine Met.ofW (cc := cX6_alike) (maxL := 9) (ret := (Option.some Jvm.ClassFile.FieldType.int)) (by decide) rfl ?_
  intro p e s m args below meth c s₁ B hml hv
  obtain ⟨hargs, hsz, hP, hK, hD0, hN⟩ := hv
  have hx := B.exec
  have hb := B.bytes
  have hr := B.returns
  have htg : ∀ w ∈ gw, w.before args s = true := fun w h => atoms_spec (ws := wU yX6_alike cX6_alike 9 ((Option.some Jvm.ClassFile.FieldType.int))) B.pre w (List.mem_cons_of_mem _ h)
  have hown : s.vm.findClass RX6 = some m.cls := findClass_of_methodNamed B.named
  have hlocks := B.notSynchronized
  subst hsz
  have hD := hD0.self (sz := s.heap.size)
  have hA : ∀ q : Nat, s.heap.size ≤ q → va_A (w0_X6_alike cA am tkv ttv t t_L t_shelf t_rowSize t_rows_R t_refused t_kind t_pitch t_word t_heard t_other) s.heap.size q := fun q h => Or.inr h
  have hS : va_S (va_A (w0_X6_alike cA am tkv ttv t t_L t_shelf t_rowSize t_rows_R t_refused t_kind t_pitch t_word t_heard t_other) s.heap.size) s.heap s.heap [] := va_S.rf
  generalize va_A (w0_X6_alike cA am tkv ttv t t_L t_shelf t_rowSize t_rows_R t_refused t_kind t_pitch t_word t_heard t_other) s.heap.size = A at hA hD hS ⊢
  obtain ⟨Q, hQ⟩ : ∃ Q : State → Prop, Q = MQ below (va_Qi (fun (r : Int32) (u : (Nat → Int32) × (Nat → Int32) × (Nat → Int32) × (Nat → Int32) × (Nat → Int32)) => (r, u) = out) (pst0 D cA A (w1_X6_alike cA am tkv ttv t_L t_shelf t_rowSize t_rows_R t_kind t_pitch)) A) args s 0 0 A := ⟨_, rfl⟩
  refine (?_ : W p l e rm_X6_alike s m args below meth c s.heap [] 0 0 (MQ below (va_Qi (fun (r : Int32) (u : (Nat → Int32) × (Nat → Int32) × (Nat → Int32) × (Nat → Int32) × (Nat → Int32)) => (r, u) = out) (pst0 D cA A (w1_X6_alike cA am tkv ttv t_L t_shelf t_rowSize t_rows_R t_kind t_pitch)) A) args s 0 0 A) (entryFrame m args 9))
  rw [← hQ]
  have hP : va_P D CL [((am 0), e_X6 am tkv ttv t t_L), ((am 1), eI cA 8 t_shelf), ((am 3), eI cA 8 t_rowSize), ((am 4), eOJ cA am 5), (am 5, eJ cA 40 (t_rows_R 0)), (am 6, eJ cA 40 (t_rows_R 1)), (am 7, eJ cA 40 (t_rows_R 2)), (am 8, eJ cA 40 (t_rows_R 3)), (am 9, eJ cA 40 (t_rows_R 4)), (am 10, eJ cA 40 (t_rows_R 5)), (am 11, eJ cA 40 (t_rows_R 6)), (am 12, eJ cA 40 (t_rows_R 7)), ((am 16), eI cA 8 t_refused), ((am 17), eI cA 8 t_kind), ((am 19), eI cA 8 t_pitch), ((am 21), eI cA 12 t_word), ((am 22), eI cA 13 t_heard), ((am 23), eI cA 13 t_other)] s.heap := hP
  have hD : va_D A [((am 0), e_X6 am tkv ttv t t_L), ((am 1), eI cA 8 t_shelf), ((am 3), eI cA 8 t_rowSize), ((am 4), eOJ cA am 5), (am 5, eJ cA 40 (t_rows_R 0)), (am 6, eJ cA 40 (t_rows_R 1)), (am 7, eJ cA 40 (t_rows_R 2)), (am 8, eJ cA 40 (t_rows_R 3)), (am 9, eJ cA 40 (t_rows_R 4)), (am 10, eJ cA 40 (t_rows_R 5)), (am 11, eJ cA 40 (t_rows_R 6)), (am 12, eJ cA 40 (t_rows_R 7)), ((am 16), eI cA 8 t_refused), ((am 17), eI cA 8 t_kind), ((am 19), eI cA 8 t_pitch), ((am 21), eI cA 12 t_word), ((am 22), eI cA 13 t_heard), ((am 23), eI cA 13 t_other)] := hD
  have B_162 : ∀ (s0 : Int32) (t : Nat → Int32) (t_refused : Nat → Int32) (t_word : Nat → Int32) (t_heard : Nat → Int32) (t_other : Nat → Int32) (H : Heap) (locs : List Loc) (ls : Array Slot), b_X6_alike_162 fu t_L t_shelf t_rowSize t_rows_R t_kind t_pitch s0 t t_refused t_word t_heard t_other = some out → va_P D CL [((am 0), e_X6 am tkv ttv t t_L), ((am 1), eI cA 8 t_shelf), ((am 3), eI cA 8 t_rowSize), ((am 4), eOJ cA am 5), (am 5, eJ cA 40 (t_rows_R 0)), (am 6, eJ cA 40 (t_rows_R 1)), (am 7, eJ cA 40 (t_rows_R 2)), (am 8, eJ cA 40 (t_rows_R 3)), (am 9, eJ cA 40 (t_rows_R 4)), (am 10, eJ cA 40 (t_rows_R 5)), (am 11, eJ cA 40 (t_rows_R 6)), (am 12, eJ cA 40 (t_rows_R 7)), ((am 16), eI cA 8 t_refused), ((am 17), eI cA 8 t_kind), ((am 19), eI cA 8 t_pitch), ((am 21), eI cA 12 t_word), ((am 22), eI cA 13 t_heard), ((am 23), eI cA 13 t_other)] H → va_D A [((am 0), e_X6 am tkv ttv t t_L), ((am 1), eI cA 8 t_shelf), ((am 3), eI cA 8 t_rowSize), ((am 4), eOJ cA am 5), (am 5, eJ cA 40 (t_rows_R 0)), (am 6, eJ cA 40 (t_rows_R 1)), (am 7, eJ cA 40 (t_rows_R 2)), (am 8, eJ cA 40 (t_rows_R 3)), (am 9, eJ cA 40 (t_rows_R 4)), (am 10, eJ cA 40 (t_rows_R 5)), (am 11, eJ cA 40 (t_rows_R 6)), (am 12, eJ cA 40 (t_rows_R 7)), ((am 16), eI cA 8 t_refused), ((am 17), eI cA 8 t_kind), ((am 19), eI cA 8 t_pitch), ((am 21), eI cA 12 t_word), ((am 22), eI cA 13 t_heard), ((am 23), eI cA 13 t_other)] → va_S A s.heap H locs → lv_has ls 9 [(0, .ref (am 0))] → W p l e rm_X6_alike s m args below meth c H locs 0 0 Q (F0 m 162 ls [.int s0]) := by
    intro  s0 t t_refused t_word t_heard t_other H locs ls hm hP hD hS hl
    unfold b_X6_alike_162 at hm
    rw [hQ]
    exact W.iret (v := s0) hx hb hr (fun t9 ht hW => ⟨⟨s0, (t, t_refused, t_word, t_heard, t_other), rfl, (Option.some.inj hm), by rw [ht]; exact hP, va_K.moved hW.alike hK, hD⟩, hS.F ht⟩) hS.2.2 dX6_alike_162
  have B_152 : ∀ (l7 : Int32) (t : Nat → Int32) (t_refused : Nat → Int32) (t_word : Nat → Int32) (t_heard : Nat → Int32) (t_other : Nat → Int32) (H : Heap) (locs : List Loc) (ls : Array Slot), b_X6_alike_152 fu t_L t_shelf t_rowSize t_rows_R t_kind t_pitch l7 t t_refused t_word t_heard t_other = some out → va_P D CL [((am 0), e_X6 am tkv ttv t t_L), ((am 1), eI cA 8 t_shelf), ((am 3), eI cA 8 t_rowSize), ((am 4), eOJ cA am 5), (am 5, eJ cA 40 (t_rows_R 0)), (am 6, eJ cA 40 (t_rows_R 1)), (am 7, eJ cA 40 (t_rows_R 2)), (am 8, eJ cA 40 (t_rows_R 3)), (am 9, eJ cA 40 (t_rows_R 4)), (am 10, eJ cA 40 (t_rows_R 5)), (am 11, eJ cA 40 (t_rows_R 6)), (am 12, eJ cA 40 (t_rows_R 7)), ((am 16), eI cA 8 t_refused), ((am 17), eI cA 8 t_kind), ((am 19), eI cA 8 t_pitch), ((am 21), eI cA 12 t_word), ((am 22), eI cA 13 t_heard), ((am 23), eI cA 13 t_other)] H → va_D A [((am 0), e_X6 am tkv ttv t t_L), ((am 1), eI cA 8 t_shelf), ((am 3), eI cA 8 t_rowSize), ((am 4), eOJ cA am 5), (am 5, eJ cA 40 (t_rows_R 0)), (am 6, eJ cA 40 (t_rows_R 1)), (am 7, eJ cA 40 (t_rows_R 2)), (am 8, eJ cA 40 (t_rows_R 3)), (am 9, eJ cA 40 (t_rows_R 4)), (am 10, eJ cA 40 (t_rows_R 5)), (am 11, eJ cA 40 (t_rows_R 6)), (am 12, eJ cA 40 (t_rows_R 7)), ((am 16), eI cA 8 t_refused), ((am 17), eI cA 8 t_kind), ((am 19), eI cA 8 t_pitch), ((am 21), eI cA 12 t_word), ((am 22), eI cA 13 t_heard), ((am 23), eI cA 13 t_other)] → va_S A s.heap H locs → lv_has ls 9 [(0, .ref (am 0)), (7, .int l7)] → W p l e rm_X6_alike s m args below meth c H locs 0 0 Q (F0 m 152 ls []) := by
    intro  l7 t t_refused t_word t_heard t_other H locs ls hm hP hD hS hl
    unfold b_X6_alike_152 at hm
    refine lv_iload hx hb dX6_alike_152 (lv_at hl 1 rfl) ?_
    refine lv_if_eq (tgt := 161) hx hb dX6_alike_154 (by decide) (fun c1 => ?_) (fun c1 => ?_)
    · have hm := it_t c1 hm
      refine lv_iconst (v := (0 : Int32)) hx hb dX6_alike_161 (by decide) ?_
      exact B_162 _ _ _ _ _ _ _ _ _ hm hP hD hS (lv_sub hl [0] rfl)
    · have hm := it_f c1 hm
      refine lv_iconst (v := (1 : Int32)) hx hb dX6_alike_157 (by decide) ?_
      refine lv_goto (tgt := 162) hx hb dX6_alike_158 (by decide) ?_
      exact B_162 _ _ _ _ _ _ _ _ _ hm hP hD hS (lv_sub hl [0] rfl)
  have B_144 : ∀ (k_108 : (Int32 × Int32 × (Nat → Int32) × (Nat → Int32) × (Nat → Int32) × (Nat → Int32) × (Nat → Int32)) → Option (Int32 × ((Nat → Int32) × (Nat → Int32) × (Nat → Int32) × (Nat → Int32) × (Nat → Int32)))) (HK_108 : ∀ (x : Int32 × Int32 × (Nat → Int32) × (Nat → Int32) × (Nat → Int32) × (Nat → Int32) × (Nat → Int32)) (H : Heap) (locs : List Loc) (ls : Array Slot), k_108 x = some out → va_P D CL [((am 0), e_X6 am tkv ttv x.2.2.1 t_L), ((am 1), eI cA 8 t_shelf), ((am 3), eI cA 8 t_rowSize), ((am 4), eOJ cA am 5), (am 5, eJ cA 40 (t_rows_R 0)), (am 6, eJ cA 40 (t_rows_R 1)), (am 7, eJ cA 40 (t_rows_R 2)), (am 8, eJ cA 40 (t_rows_R 3)), (am 9, eJ cA 40 (t_rows_R 4)), (am 10, eJ cA 40 (t_rows_R 5)), (am 11, eJ cA 40 (t_rows_R 6)), (am 12, eJ cA 40 (t_rows_R 7)), ((am 16), eI cA 8 x.2.2.2.1), ((am 17), eI cA 8 t_kind), ((am 19), eI cA 8 t_pitch), ((am 21), eI cA 12 x.2.2.2.2.1), ((am 22), eI cA 13 x.2.2.2.2.2.1), ((am 23), eI cA 13 x.2.2.2.2.2.2)] H → va_D A [((am 0), e_X6 am tkv ttv x.2.2.1 t_L), ((am 1), eI cA 8 t_shelf), ((am 3), eI cA 8 t_rowSize), ((am 4), eOJ cA am 5), (am 5, eJ cA 40 (t_rows_R 0)), (am 6, eJ cA 40 (t_rows_R 1)), (am 7, eJ cA 40 (t_rows_R 2)), (am 8, eJ cA 40 (t_rows_R 3)), (am 9, eJ cA 40 (t_rows_R 4)), (am 10, eJ cA 40 (t_rows_R 5)), (am 11, eJ cA 40 (t_rows_R 6)), (am 12, eJ cA 40 (t_rows_R 7)), ((am 16), eI cA 8 x.2.2.2.1), ((am 17), eI cA 8 t_kind), ((am 19), eI cA 8 t_pitch), ((am 21), eI cA 12 x.2.2.2.2.1), ((am 22), eI cA 13 x.2.2.2.2.2.1), ((am 23), eI cA 13 x.2.2.2.2.2.2)] → va_S A s.heap H locs → lv_has ls 9 [(0, .ref (am 0)), (7, .int x.1), (8, .int x.2.1)] → W p l e rm_X6_alike s m args below meth c H locs 0 0 Q (F0 m 108 ls [])) (l8 : Int32) (s0 : Int32) (t : Nat → Int32) (t_refused : Nat → Int32) (t_word : Nat → Int32) (t_heard : Nat → Int32) (t_other : Nat → Int32) (H : Heap) (locs : List Loc) (ls : Array Slot), b_X6_alike_144 fu t_L t_shelf t_rowSize t_rows_R t_kind t_pitch k_108 l8 s0 t t_refused t_word t_heard t_other = some out → va_P D CL [((am 0), e_X6 am tkv ttv t t_L), ((am 1), eI cA 8 t_shelf), ((am 3), eI cA 8 t_rowSize), ((am 4), eOJ cA am 5), (am 5, eJ cA 40 (t_rows_R 0)), (am 6, eJ cA 40 (t_rows_R 1)), (am 7, eJ cA 40 (t_rows_R 2)), (am 8, eJ cA 40 (t_rows_R 3)), (am 9, eJ cA 40 (t_rows_R 4)), (am 10, eJ cA 40 (t_rows_R 5)), (am 11, eJ cA 40 (t_rows_R 6)), (am 12, eJ cA 40 (t_rows_R 7)), ((am 16), eI cA 8 t_refused), ((am 17), eI cA 8 t_kind), ((am 19), eI cA 8 t_pitch), ((am 21), eI cA 12 t_word), ((am 22), eI cA 13 t_heard), ((am 23), eI cA 13 t_other)] H → va_D A [((am 0), e_X6 am tkv ttv t t_L), ((am 1), eI cA 8 t_shelf), ((am 3), eI cA 8 t_rowSize), ((am 4), eOJ cA am 5), (am 5, eJ cA 40 (t_rows_R 0)), (am 6, eJ cA 40 (t_rows_R 1)), (am 7, eJ cA 40 (t_rows_R 2)), (am 8, eJ cA 40 (t_rows_R 3)), (am 9, eJ cA 40 (t_rows_R 4)), (am 10, eJ cA 40 (t_rows_R 5)), (am 11, eJ cA 40 (t_rows_R 6)), (am 12, eJ cA 40 (t_rows_R 7)), ((am 16), eI cA 8 t_refused), ((am 17), eI cA 8 t_kind), ((am 19), eI cA 8 t_pitch), ((am 21), eI cA 12 t_word), ((am 22), eI cA 13 t_heard), ((am 23), eI cA 13 t_other)] → va_S A s.heap H locs → lv_has ls 9 [(0, .ref (am 0)), (8, .int l8)] → W p l e rm_X6_alike s m args below meth c H locs 0 0 Q (F0 m 144 ls [.int s0]) := by
    intro k_108 HK_108 l8 s0 t t_refused t_word t_heard t_other H locs ls hm hP hD hS hl
    unfold b_X6_alike_144 at hm
    refine lv_istore (lv' := [(7, .int s0), (0, .ref (am 0)), (8, .int l8)]) hx hb dX6_alike_144 hl (by decide) rfl (fun ls hl => ?_)
    refine lv_iinc (v := (l8 + (1 : Int32))) (lv' := [(8, .int (l8 + (1 : Int32))), (7, .int s0), (0, .ref (am 0))]) hx hb dX6_alike_146 hl (k := 2) rfl rfl (by decide) rfl (fun ls hl => ?_)
    refine lv_goto (tgt := 108) hx hb dX6_alike_149 (by decide) ?_
    exact HK_108 _ _ _ _ hm hP hD hS (lv_sub hl [2, 1, 0] rfl)
  have B_108 : ∀ (n : Nat) (x : Int32 × Int32 × (Nat → Int32) × (Nat → Int32) × (Nat → Int32) × (Nat → Int32) × (Nat → Int32)) (H : Heap) (locs : List Loc) (ls : Array Slot), lfix (b_X6_alike_108 fu t_L t_shelf t_rowSize t_rows_R t_kind t_pitch) n x = some out → va_P D CL [((am 0), e_X6 am tkv ttv x.2.2.1 t_L), ((am 1), eI cA 8 t_shelf), ((am 3), eI cA 8 t_rowSize), ((am 4), eOJ cA am 5), (am 5, eJ cA 40 (t_rows_R 0)), (am 6, eJ cA 40 (t_rows_R 1)), (am 7, eJ cA 40 (t_rows_R 2)), (am 8, eJ cA 40 (t_rows_R 3)), (am 9, eJ cA 40 (t_rows_R 4)), (am 10, eJ cA 40 (t_rows_R 5)), (am 11, eJ cA 40 (t_rows_R 6)), (am 12, eJ cA 40 (t_rows_R 7)), ((am 16), eI cA 8 x.2.2.2.1), ((am 17), eI cA 8 t_kind), ((am 19), eI cA 8 t_pitch), ((am 21), eI cA 12 x.2.2.2.2.1), ((am 22), eI cA 13 x.2.2.2.2.2.1), ((am 23), eI cA 13 x.2.2.2.2.2.2)] H → va_D A [((am 0), e_X6 am tkv ttv x.2.2.1 t_L), ((am 1), eI cA 8 t_shelf), ((am 3), eI cA 8 t_rowSize), ((am 4), eOJ cA am 5), (am 5, eJ cA 40 (t_rows_R 0)), (am 6, eJ cA 40 (t_rows_R 1)), (am 7, eJ cA 40 (t_rows_R 2)), (am 8, eJ cA 40 (t_rows_R 3)), (am 9, eJ cA 40 (t_rows_R 4)), (am 10, eJ cA 40 (t_rows_R 5)), (am 11, eJ cA 40 (t_rows_R 6)), (am 12, eJ cA 40 (t_rows_R 7)), ((am 16), eI cA 8 x.2.2.2.1), ((am 17), eI cA 8 t_kind), ((am 19), eI cA 8 t_pitch), ((am 21), eI cA 12 x.2.2.2.2.1), ((am 22), eI cA 13 x.2.2.2.2.2.1), ((am 23), eI cA 13 x.2.2.2.2.2.2)] → va_S A s.heap H locs → lv_has ls 9 [(0, .ref (am 0)), (7, .int x.1), (8, .int x.2.1)] → W p l e rm_X6_alike s m args below meth c H locs 0 0 Q (F0 m 108 ls []) := by
    intro  n
    induction n with
    | zero => intro x H locs ls hm; cases (show none = some out from hm)
    | succ n HK_108 =>
      intro x H locs ls hm hP hD hS hl
      replace hm : b_X6_alike_108 fu t_L t_shelf t_rowSize t_rows_R t_kind t_pitch (lfix (b_X6_alike_108 fu t_L t_shelf t_rowSize t_rows_R t_kind t_pitch) n) x = some out := hm
      unfold b_X6_alike_108 at hm
      refine lv_iload hx hb dX6_alike_108 (lv_at hl 2 rfl) ?_
      refine lv_aload_n hx hb dX6_alike_110 rfl (lv_at hl 0 rfl) ?_
      refine va_get (D := D) (ci := 6) (v := .int (x.2.2.1 33)) (C := RX6) (T := TX6) (N := 49) hx hb htg inX6 hown hK hP 0 rfl rfl 33 (by decide) (htg _ q_4_222) (fun _ h9 => h9) rfl dX6_alike_111 ?_
      refine lv_icmp_ge (tgt := 152) hx hb dX6_alike_114 (by decide) (fun c2 => ?_) (fun c2 => ?_)
      · have hm := it_t c2 hm
        exact B_152 _ _ _ _ _ _ _ _ _ hm hP hD hS (lv_sub hl [0, 1] rfl)
      · have hm := it_f c2 hm
        refine lv_iload hx hb dX6_alike_117 (lv_at hl 1 rfl) ?_
        refine lv_if_eq (tgt := 152) hx hb dX6_alike_119 (by decide) (fun c3 => ?_) (fun c3 => ?_)
        · have hm := it_t c3 hm
          exact B_152 _ _ _ _ _ _ _ _ _ hm hP hD hS (lv_sub hl [0, 1] rfl)
        · have hm := it_f c3 hm
          refine lv_aload_n hx hb dX6_alike_122 rfl (lv_at hl 0 rfl) ?_
          refine va_get (D := D) (ci := 6) (v := .ref (am 22)) (C := RX6) (T := TX6) (N := 49) hx hb htg inX6 hown hK hP 0 rfl rfl 32 (by decide) (htg _ q_4_221) (fun _ h9 => h9) rfl dX6_alike_123 ?_
          refine lv_iload hx hb dX6_alike_126 (lv_at hl 2 rfl) ?_
          obtain ⟨hi4, hm⟩ := gd_s hm
          refine va_iald hx hb hK hP 16 0 rfl rfl hi4 dX6_alike_128 ?_
          refine lv_aload_n hx hb dX6_alike_129 rfl (lv_at hl 0 rfl) ?_
          refine va_get (D := D) (ci := 6) (v := .ref (am 23)) (C := RX6) (T := TX6) (N := 49) hx hb htg inX6 hown hK hP 0 rfl rfl 34 (by decide) (htg _ q_4_223) (fun _ h9 => h9) rfl dX6_alike_130 ?_
          refine lv_iload hx hb dX6_alike_133 (lv_at hl 2 rfl) ?_
          obtain ⟨hi5, hm⟩ := gd_s hm
          refine va_iald hx hb hK hP 17 0 rfl rfl hi5 dX6_alike_135 ?_
          refine lv_icmp_ne (tgt := 143) hx hb dX6_alike_136 (by decide) (fun c6 => ?_) (fun c6 => ?_)
          · have hm := it_f c6 hm
            refine lv_iconst (v := (0 : Int32)) hx hb dX6_alike_143 (by decide) ?_
            exact B_144 _ HK_108 _ _ _ _ _ _ _ _ _ _ hm hP hD hS (lv_sub hl [0, 2] rfl)
          · have hm := it_t c6 hm
            refine lv_iconst (v := (1 : Int32)) hx hb dX6_alike_139 (by decide) ?_
            refine lv_goto (tgt := 144) hx hb dX6_alike_140 (by decide) ?_
            exact B_144 _ HK_108 _ _ _ _ _ _ _ _ _ _ hm hP hD hS (lv_sub hl [0, 2] rfl)
  have B_103 : ∀ (s0 : Int32) (t : Nat → Int32) (t_refused : Nat → Int32) (t_word : Nat → Int32) (t_heard : Nat → Int32) (t_other : Nat → Int32) (H : Heap) (locs : List Loc) (ls : Array Slot), b_X6_alike_103 fu t_L t_shelf t_rowSize t_rows_R t_kind t_pitch s0 t t_refused t_word t_heard t_other = some out → va_P D CL [((am 0), e_X6 am tkv ttv t t_L), ((am 1), eI cA 8 t_shelf), ((am 3), eI cA 8 t_rowSize), ((am 4), eOJ cA am 5), (am 5, eJ cA 40 (t_rows_R 0)), (am 6, eJ cA 40 (t_rows_R 1)), (am 7, eJ cA 40 (t_rows_R 2)), (am 8, eJ cA 40 (t_rows_R 3)), (am 9, eJ cA 40 (t_rows_R 4)), (am 10, eJ cA 40 (t_rows_R 5)), (am 11, eJ cA 40 (t_rows_R 6)), (am 12, eJ cA 40 (t_rows_R 7)), ((am 16), eI cA 8 t_refused), ((am 17), eI cA 8 t_kind), ((am 19), eI cA 8 t_pitch), ((am 21), eI cA 12 t_word), ((am 22), eI cA 13 t_heard), ((am 23), eI cA 13 t_other)] H → va_D A [((am 0), e_X6 am tkv ttv t t_L), ((am 1), eI cA 8 t_shelf), ((am 3), eI cA 8 t_rowSize), ((am 4), eOJ cA am 5), (am 5, eJ cA 40 (t_rows_R 0)), (am 6, eJ cA 40 (t_rows_R 1)), (am 7, eJ cA 40 (t_rows_R 2)), (am 8, eJ cA 40 (t_rows_R 3)), (am 9, eJ cA 40 (t_rows_R 4)), (am 10, eJ cA 40 (t_rows_R 5)), (am 11, eJ cA 40 (t_rows_R 6)), (am 12, eJ cA 40 (t_rows_R 7)), ((am 16), eI cA 8 t_refused), ((am 17), eI cA 8 t_kind), ((am 19), eI cA 8 t_pitch), ((am 21), eI cA 12 t_word), ((am 22), eI cA 13 t_heard), ((am 23), eI cA 13 t_other)] → va_S A s.heap H locs → lv_has ls 9 [(0, .ref (am 0))] → W p l e rm_X6_alike s m args below meth c H locs 0 0 Q (F0 m 103 ls [.int s0]) := by
    intro  s0 t t_refused t_word t_heard t_other H locs ls hm hP hD hS hl
    unfold b_X6_alike_103 at hm
    refine lv_istore (lv' := [(7, .int s0), (0, .ref (am 0))]) hx hb dX6_alike_103 hl (by decide) rfl (fun ls hl => ?_)
    refine lv_iconst (v := (0 : Int32)) hx hb dX6_alike_105 (by decide) ?_
    refine lv_istore (lv' := [(8, .int (0 : Int32)), (7, .int s0), (0, .ref (am 0))]) hx hb dX6_alike_106 hl (by decide) rfl (fun ls hl => ?_)
    exact B_108 fu _ _ _ _ hm hP hD hS (lv_sub hl [2, 1, 0] rfl)
  have B_54 : ∀ (n : Nat) (x : Int32 × Int32 × Int32 × (Nat → Int32) × (Nat → Int32) × (Nat → Int32) × (Nat → Int32) × (Nat → Int32)) (H : Heap) (locs : List Loc) (ls : Array Slot), lfix (b_X6_alike_54 fu t_L t_shelf t_rowSize t_rows_R t_kind t_pitch) n x = some out → va_P D CL [((am 0), e_X6 am tkv ttv x.2.2.2.1 t_L), ((am 1), eI cA 8 t_shelf), ((am 3), eI cA 8 t_rowSize), ((am 4), eOJ cA am 5), (am 5, eJ cA 40 (t_rows_R 0)), (am 6, eJ cA 40 (t_rows_R 1)), (am 7, eJ cA 40 (t_rows_R 2)), (am 8, eJ cA 40 (t_rows_R 3)), (am 9, eJ cA 40 (t_rows_R 4)), (am 10, eJ cA 40 (t_rows_R 5)), (am 11, eJ cA 40 (t_rows_R 6)), (am 12, eJ cA 40 (t_rows_R 7)), ((am 16), eI cA 8 x.2.2.2.2.1), ((am 17), eI cA 8 t_kind), ((am 19), eI cA 8 t_pitch), ((am 21), eI cA 12 x.2.2.2.2.2.1), ((am 22), eI cA 13 x.2.2.2.2.2.2.1), ((am 23), eI cA 13 x.2.2.2.2.2.2.2)] H → va_D A [((am 0), e_X6 am tkv ttv x.2.2.2.1 t_L), ((am 1), eI cA 8 t_shelf), ((am 3), eI cA 8 t_rowSize), ((am 4), eOJ cA am 5), (am 5, eJ cA 40 (t_rows_R 0)), (am 6, eJ cA 40 (t_rows_R 1)), (am 7, eJ cA 40 (t_rows_R 2)), (am 8, eJ cA 40 (t_rows_R 3)), (am 9, eJ cA 40 (t_rows_R 4)), (am 10, eJ cA 40 (t_rows_R 5)), (am 11, eJ cA 40 (t_rows_R 6)), (am 12, eJ cA 40 (t_rows_R 7)), ((am 16), eI cA 8 x.2.2.2.2.1), ((am 17), eI cA 8 t_kind), ((am 19), eI cA 8 t_pitch), ((am 21), eI cA 12 x.2.2.2.2.2.1), ((am 22), eI cA 13 x.2.2.2.2.2.2.1), ((am 23), eI cA 13 x.2.2.2.2.2.2.2)] → va_S A s.heap H locs → lv_has ls 9 [(0, .ref (am 0)), (4, .int x.1), (6, .int x.2.1), (7, .int x.2.2.1)] → W p l e rm_X6_alike s m args below meth c H locs 0 0 Q (F0 m 54 ls []) := by
    intro  n
    induction n with
    | zero => intro x H locs ls hm; cases (show none = some out from hm)
    | succ n HK_54 =>
      intro x H locs ls hm hP hD hS hl
      replace hm : b_X6_alike_54 fu t_L t_shelf t_rowSize t_rows_R t_kind t_pitch (lfix (b_X6_alike_54 fu t_L t_shelf t_rowSize t_rows_R t_kind t_pitch) n) x = some out := hm
      unfold b_X6_alike_54 at hm
      refine lv_iload hx hb dX6_alike_54 (lv_at hl 3 rfl) ?_
      refine lv_aload_n hx hb dX6_alike_56 rfl (lv_at hl 0 rfl) ?_
      refine va_get (D := D) (ci := 6) (v := .int (x.2.2.2.1 33)) (C := RX6) (T := TX6) (N := 49) hx hb htg inX6 hown hK hP 0 rfl rfl 33 (by decide) (htg _ q_4_222) (fun _ h9 => h9) rfl dX6_alike_57 ?_
      refine lv_icmp_ge (tgt := 83) hx hb dX6_alike_60 (by decide) (fun c7 => ?_) (fun c7 => ?_)
      · have hm := it_t c7 hm
        refine lv_aload_n hx hb dX6_alike_83 rfl (lv_at hl 0 rfl) ?_
        refine lv_iload hx hb dX6_alike_84 (lv_at hl 1 rfl) ?_
        obtain ⟨o8, ho9, hm⟩ := bd_s hm
        refine xr_v (wr := [((am 1), eI cA 8 t_shelf), ((am 3), eI cA 8 t_rowSize), ((am 4), eOJ cA am 5), (am 5, eJ cA 40 (t_rows_R 0)), (am 6, eJ cA 40 (t_rows_R 1)), (am 7, eJ cA 40 (t_rows_R 2)), (am 8, eJ cA 40 (t_rows_R 3)), (am 9, eJ cA 40 (t_rows_R 4)), (am 10, eJ cA 40 (t_rows_R 5)), (am 11, eJ cA 40 (t_rows_R 6)), (am 12, eJ cA 40 (t_rows_R 7)), ((am 16), eI cA 8 x.2.2.2.2.1), ((am 23), eI cA 13 x.2.2.2.2.2.2.2)]) (wn := [((am 0), e_X6 am tkv ttv o8.1 t_L), ((am 1), eI cA 8 t_shelf), ((am 3), eI cA 8 t_rowSize), ((am 4), eOJ cA am 5), (am 5, eJ cA 40 (t_rows_R 0)), (am 6, eJ cA 40 (t_rows_R 1)), (am 7, eJ cA 40 (t_rows_R 2)), (am 8, eJ cA 40 (t_rows_R 3)), (am 9, eJ cA 40 (t_rows_R 4)), (am 10, eJ cA 40 (t_rows_R 5)), (am 11, eJ cA 40 (t_rows_R 6)), (am 12, eJ cA 40 (t_rows_R 7)), ((am 16), eI cA 8 x.2.2.2.2.1), ((am 17), eI cA 8 t_kind), ((am 19), eI cA 8 t_pitch), ((am 21), eI cA 12 x.2.2.2.2.2.1), ((am 22), eI cA 13 o8.2), ((am 23), eI cA 13 x.2.2.2.2.2.2.2)]) (va_runV (As := [.int x.1]) (rest := []) ⟨hx, hb, hml, hown, htg⟩ (c_X6_listen l D cA _ fu am tkv ttv x.2.2.2.1 t_L t_kind t_pitch x.2.2.2.2.2.1 x.2.2.2.2.2.2.1 x.1 o8 ho9) (cwV 1 htg (gV q_5_155 q_5_157 q_p5_11 q_1_8 q_5_158) rfl rfl rfl hd_X6_listen ⟨Nat.le_of_ble_eq_true rfl, Nat.le_of_ble_eq_true rfl⟩) (xpV hN hK hP hD [0, 13, 14, 15, 16] rfl (by decide) rfl rfl) rfl rfl hl.1 rfl (lv_room (Nat.le_of_ble_eq_true rfl)) dX6_alike_86 ⟨Nat.zero_le _, Nat.zero_le _⟩) hP hD hS hA [0, 13, 14, 15, 16] [1, 2, 3, 4, 5, 6, 7, 8, 9, 10, 11, 12, 17] [13, 0, 1, 2, 3, 4, 5, 6, 7, 8, 9, 10, 11, 14, 15, 16, 17, 12] rfl rfl (by decide) (by decide) rfl (by decide) (fun H locs hP hD hS => ?_)
        refine lv_aload_n hx hb dX6_alike_89 rfl (lv_at hl 0 rfl) ?_
        refine va_get (D := D) (ci := 6) (v := .int (o8.1 33)) (C := RX6) (T := TX6) (N := 49) hx hb htg inX6 hown hK hP 0 rfl rfl 33 (by decide) (htg _ q_4_222) (fun _ h9 => h9) rfl dX6_alike_90 ?_
        refine lv_iload hx hb dX6_alike_93 (lv_at hl 2 rfl) ?_
        refine lv_icmp_ne (tgt := 102) hx hb dX6_alike_95 (by decide) (fun c10 => ?_) (fun c10 => ?_)
        · have hm := it_f c10 hm
          refine lv_iconst (v := (0 : Int32)) hx hb dX6_alike_102 (by decide) ?_
          exact B_103 _ _ _ _ _ _ _ _ _ hm hP hD hS (lv_sub hl [0] rfl)
        · have hm := it_t c10 hm
          refine lv_iconst (v := (1 : Int32)) hx hb dX6_alike_98 (by decide) ?_
          refine lv_goto (tgt := 103) hx hb dX6_alike_99 (by decide) ?_
          exact B_103 _ _ _ _ _ _ _ _ _ hm hP hD hS (lv_sub hl [0] rfl)
      · have hm := it_f c7 hm
        refine lv_aload_n hx hb dX6_alike_63 rfl (lv_at hl 0 rfl) ?_
        refine va_get (D := D) (ci := 6) (v := .ref (am 23)) (C := RX6) (T := TX6) (N := 49) hx hb htg inX6 hown hK hP 0 rfl rfl 34 (by decide) (htg _ q_4_223) (fun _ h9 => h9) rfl dX6_alike_64 ?_
        refine lv_iload hx hb dX6_alike_67 (lv_at hl 3 rfl) ?_
        refine lv_aload_n hx hb dX6_alike_69 rfl (lv_at hl 0 rfl) ?_
        refine va_get (D := D) (ci := 6) (v := .ref (am 22)) (C := RX6) (T := TX6) (N := 49) hx hb htg inX6 hown hK hP 0 rfl rfl 32 (by decide) (htg _ q_4_221) (fun _ h9 => h9) rfl dX6_alike_70 ?_
        refine lv_iload hx hb dX6_alike_73 (lv_at hl 3 rfl) ?_
        obtain ⟨hi11, hm⟩ := gd_s hm
        refine va_iald hx hb hK hP 16 0 rfl rfl hi11 dX6_alike_75 ?_
        obtain ⟨hi12, hm⟩ := gd_s hm
        refine va_iast hx hb hK hP hD hS 17 0 rfl rfl hi12 dX6_alike_76 (fun H locs (hP : va_P D CL [((am 0), e_X6 am tkv ttv x.2.2.2.1 t_L), ((am 1), eI cA 8 t_shelf), ((am 3), eI cA 8 t_rowSize), ((am 4), eOJ cA am 5), (am 5, eJ cA 40 (t_rows_R 0)), (am 6, eJ cA 40 (t_rows_R 1)), (am 7, eJ cA 40 (t_rows_R 2)), (am 8, eJ cA 40 (t_rows_R 3)), (am 9, eJ cA 40 (t_rows_R 4)), (am 10, eJ cA 40 (t_rows_R 5)), (am 11, eJ cA 40 (t_rows_R 6)), (am 12, eJ cA 40 (t_rows_R 7)), ((am 16), eI cA 8 x.2.2.2.2.1), ((am 17), eI cA 8 t_kind), ((am 19), eI cA 8 t_pitch), ((am 21), eI cA 12 x.2.2.2.2.2.1), ((am 22), eI cA 13 x.2.2.2.2.2.2.1), ((am 23), eI cA 13 (upd x.2.2.2.2.2.2.2 x.2.2.1.toNatClampNeg (x.2.2.2.2.2.2.1 x.2.2.1.toNatClampNeg)))] H) (hD : va_D A [((am 0), e_X6 am tkv ttv x.2.2.2.1 t_L), ((am 1), eI cA 8 t_shelf), ((am 3), eI cA 8 t_rowSize), ((am 4), eOJ cA am 5), (am 5, eJ cA 40 (t_rows_R 0)), (am 6, eJ cA 40 (t_rows_R 1)), (am 7, eJ cA 40 (t_rows_R 2)), (am 8, eJ cA 40 (t_rows_R 3)), (am 9, eJ cA 40 (t_rows_R 4)), (am 10, eJ cA 40 (t_rows_R 5)), (am 11, eJ cA 40 (t_rows_R 6)), (am 12, eJ cA 40 (t_rows_R 7)), ((am 16), eI cA 8 x.2.2.2.2.1), ((am 17), eI cA 8 t_kind), ((am 19), eI cA 8 t_pitch), ((am 21), eI cA 12 x.2.2.2.2.2.1), ((am 22), eI cA 13 x.2.2.2.2.2.2.1), ((am 23), eI cA 13 (upd x.2.2.2.2.2.2.2 x.2.2.1.toNatClampNeg (x.2.2.2.2.2.2.1 x.2.2.1.toNatClampNeg)))]) hS => ?_)
        refine lv_iinc (v := (x.2.2.1 + (1 : Int32))) (lv' := [(7, .int (x.2.2.1 + (1 : Int32))), (0, .ref (am 0)), (4, .int x.1), (6, .int x.2.1)]) hx hb dX6_alike_77 hl (k := 3) rfl rfl (by decide) rfl (fun ls hl => ?_)
        refine lv_goto (tgt := 54) hx hb dX6_alike_80 (by decide) ?_
        exact HK_54 _ _ _ _ hm hP hD hS (lv_sub hl [1, 2, 3, 0] rfl)
  have B_27 : ∀ (l3 : Int32) (l4 : Int32) (s1 : Int32) (s2 : Int32) (s3 : Int32) (s4 : Int32) (t : Nat → Int32) (t_refused : Nat → Int32) (t_word : Nat → Int32) (t_heard : Nat → Int32) (t_other : Nat → Int32) (H : Heap) (locs : List Loc) (ls : Array Slot), b_X6_alike_27 fu t_L t_shelf t_rowSize t_rows_R t_kind t_pitch l3 l4 s1 s2 s3 s4 t t_refused t_word t_heard t_other = some out → va_P D CL [((am 0), e_X6 am tkv ttv t t_L), ((am 1), eI cA 8 t_shelf), ((am 3), eI cA 8 t_rowSize), ((am 4), eOJ cA am 5), (am 5, eJ cA 40 (t_rows_R 0)), (am 6, eJ cA 40 (t_rows_R 1)), (am 7, eJ cA 40 (t_rows_R 2)), (am 8, eJ cA 40 (t_rows_R 3)), (am 9, eJ cA 40 (t_rows_R 4)), (am 10, eJ cA 40 (t_rows_R 5)), (am 11, eJ cA 40 (t_rows_R 6)), (am 12, eJ cA 40 (t_rows_R 7)), ((am 16), eI cA 8 t_refused), ((am 17), eI cA 8 t_kind), ((am 19), eI cA 8 t_pitch), ((am 21), eI cA 12 t_word), ((am 22), eI cA 13 t_heard), ((am 23), eI cA 13 t_other)] H → va_D A [((am 0), e_X6 am tkv ttv t t_L), ((am 1), eI cA 8 t_shelf), ((am 3), eI cA 8 t_rowSize), ((am 4), eOJ cA am 5), (am 5, eJ cA 40 (t_rows_R 0)), (am 6, eJ cA 40 (t_rows_R 1)), (am 7, eJ cA 40 (t_rows_R 2)), (am 8, eJ cA 40 (t_rows_R 3)), (am 9, eJ cA 40 (t_rows_R 4)), (am 10, eJ cA 40 (t_rows_R 5)), (am 11, eJ cA 40 (t_rows_R 6)), (am 12, eJ cA 40 (t_rows_R 7)), ((am 16), eI cA 8 t_refused), ((am 17), eI cA 8 t_kind), ((am 19), eI cA 8 t_pitch), ((am 21), eI cA 12 t_word), ((am 22), eI cA 13 t_heard), ((am 23), eI cA 13 t_other)] → va_S A s.heap H locs → lv_has ls 9 [(0, .ref (am 0)), (3, .int l3), (4, .int l4)] → W p l e rm_X6_alike s m args below meth c H locs 0 0 Q (F0 m 27 ls [.int s4, .int s3, .int s2, .int s1, .ref (am 0)]) := by
    intro  l3 l4 s1 s2 s3 s4 t t_refused t_word t_heard t_other H locs ls hm hP hD hS hl
    unfold b_X6_alike_27 at hm
    obtain ⟨o13, ho14, hm⟩ := bd_s hm
    refine xr_i (wr := [((am 17), eI cA 8 t_kind), ((am 19), eI cA 8 t_pitch), ((am 22), eI cA 13 t_heard), ((am 23), eI cA 13 t_other)]) (wn := [((am 0), e_X6 am tkv ttv o13.2.1 t_L), ((am 1), eI cA 8 t_shelf), ((am 3), eI cA 8 t_rowSize), ((am 4), eOJ cA am 5), (am 5, eJ cA 40 (t_rows_R 0)), (am 6, eJ cA 40 (t_rows_R 1)), (am 7, eJ cA 40 (t_rows_R 2)), (am 8, eJ cA 40 (t_rows_R 3)), (am 9, eJ cA 40 (t_rows_R 4)), (am 10, eJ cA 40 (t_rows_R 5)), (am 11, eJ cA 40 (t_rows_R 6)), (am 12, eJ cA 40 (t_rows_R 7)), ((am 16), eI cA 8 o13.2.2.1), ((am 17), eI cA 8 t_kind), ((am 19), eI cA 8 t_pitch), ((am 21), eI cA 12 o13.2.2.2), ((am 22), eI cA 13 t_heard), ((am 23), eI cA 13 t_other)]) (va_runV (As := [.int s1, .int s2, .int s3, .int s4]) (rest := []) ⟨hx, hb, hml, hown, htg⟩ (c_X6_noWord l D cA _ fu am tkv ttv t t_L t_shelf t_rowSize t_rows_R t_refused t_word s1 s2 s3 s4 o13 ho14) (cwV 4 htg (gV q_6_49 q_6_51 q_p6_8 q_1_8 q_6_52) rfl rfl rfl hd_X6_noWord ⟨Nat.le_of_ble_eq_true rfl, Nat.le_of_ble_eq_true rfl⟩) (xpV hN hK hP hD [0, 1, 2, 3, 4, 5, 6, 7, 8, 9, 10, 11, 12, 15] rfl (by decide) rfl rfl) rfl rfl hl.1 rfl (lv_room (Nat.le_of_ble_eq_true rfl)) dX6_alike_27 ⟨Nat.zero_le _, Nat.zero_le _⟩) hP hD hS hA [0, 1, 2, 3, 4, 5, 6, 7, 8, 9, 10, 11, 12, 15] [13, 14, 16, 17] [4, 5, 6, 7, 8, 9, 10, 11, 12, 13, 14, 15, 16, 0, 1, 17, 2, 3] rfl rfl (by decide) (by decide) rfl (by decide) (fun H locs hP hD hS => ?_)
    refine lv_istore (lv' := [(5, .int o13.1), (0, .ref (am 0)), (3, .int l3), (4, .int l4)]) hx hb dX6_alike_30 hl (by decide) rfl (fun ls hl => ?_)
    refine lv_iload hx hb dX6_alike_32 (lv_at hl 0 rfl) ?_
    refine lv_if_eq (tgt := 40) hx hb dX6_alike_34 (by decide) (fun c15 => ?_) (fun c15 => ?_)
    · have hm := it_t c15 hm
      refine lv_aload_n hx hb dX6_alike_40 rfl (lv_at hl 1 rfl) ?_
      refine lv_iload_n hx hb dX6_alike_41 rfl (lv_at hl 2 rfl) ?_
      obtain ⟨o16, ho17, hm⟩ := bd_s hm
      refine xr_v (wr := [((am 1), eI cA 8 t_shelf), ((am 3), eI cA 8 t_rowSize), ((am 4), eOJ cA am 5), (am 5, eJ cA 40 (t_rows_R 0)), (am 6, eJ cA 40 (t_rows_R 1)), (am 7, eJ cA 40 (t_rows_R 2)), (am 8, eJ cA 40 (t_rows_R 3)), (am 9, eJ cA 40 (t_rows_R 4)), (am 10, eJ cA 40 (t_rows_R 5)), (am 11, eJ cA 40 (t_rows_R 6)), (am 12, eJ cA 40 (t_rows_R 7)), ((am 16), eI cA 8 o13.2.2.1), ((am 23), eI cA 13 t_other)]) (wn := [((am 0), e_X6 am tkv ttv o16.1 t_L), ((am 1), eI cA 8 t_shelf), ((am 3), eI cA 8 t_rowSize), ((am 4), eOJ cA am 5), (am 5, eJ cA 40 (t_rows_R 0)), (am 6, eJ cA 40 (t_rows_R 1)), (am 7, eJ cA 40 (t_rows_R 2)), (am 8, eJ cA 40 (t_rows_R 3)), (am 9, eJ cA 40 (t_rows_R 4)), (am 10, eJ cA 40 (t_rows_R 5)), (am 11, eJ cA 40 (t_rows_R 6)), (am 12, eJ cA 40 (t_rows_R 7)), ((am 16), eI cA 8 o13.2.2.1), ((am 17), eI cA 8 t_kind), ((am 19), eI cA 8 t_pitch), ((am 21), eI cA 12 o13.2.2.2), ((am 22), eI cA 13 o16.2), ((am 23), eI cA 13 t_other)]) (va_runV (As := [.int l3]) (rest := []) ⟨hx, hb, hml, hown, htg⟩ (c_X6_listen l D cA _ fu am tkv ttv o13.2.1 t_L t_kind t_pitch o13.2.2.2 t_heard l3 o16 ho17) (cwV 1 htg (gV q_5_155 q_5_157 q_p5_11 q_1_8 q_5_158) rfl rfl rfl hd_X6_listen ⟨Nat.le_of_ble_eq_true rfl, Nat.le_of_ble_eq_true rfl⟩) (xpV hN hK hP hD [0, 13, 14, 15, 16] rfl (by decide) rfl rfl) rfl rfl hl.1 rfl (lv_room (Nat.le_of_ble_eq_true rfl)) dX6_alike_42 ⟨Nat.zero_le _, Nat.zero_le _⟩) hP hD hS hA [0, 13, 14, 15, 16] [1, 2, 3, 4, 5, 6, 7, 8, 9, 10, 11, 12, 17] [13, 0, 1, 2, 3, 4, 5, 6, 7, 8, 9, 10, 11, 14, 15, 16, 17, 12] rfl rfl (by decide) (by decide) rfl (by decide) (fun H locs hP hD hS => ?_)
      refine lv_aload_n hx hb dX6_alike_45 rfl (lv_at hl 1 rfl) ?_
      refine va_get (D := D) (ci := 6) (v := .int (o16.1 33)) (C := RX6) (T := TX6) (N := 49) hx hb htg inX6 hown hK hP 0 rfl rfl 33 (by decide) (htg _ q_4_222) (fun _ h9 => h9) rfl dX6_alike_46 ?_
      refine lv_istore (lv' := [(6, .int (o16.1 33)), (5, .int o13.1), (0, .ref (am 0)), (3, .int l3), (4, .int l4)]) hx hb dX6_alike_49 hl (by decide) rfl (fun ls hl => ?_)
      refine lv_iconst (v := (0 : Int32)) hx hb dX6_alike_51 (by decide) ?_
      refine lv_istore (lv' := [(7, .int (0 : Int32)), (6, .int (o16.1 33)), (5, .int o13.1), (0, .ref (am 0)), (3, .int l3), (4, .int l4)]) hx hb dX6_alike_52 hl (by decide) rfl (fun ls hl => ?_)
      exact B_54 fu _ _ _ _ hm hP hD hS (lv_sub hl [3, 5, 1, 0] rfl)
    · have hm := it_f c15 hm
      refine lv_iload hx hb dX6_alike_37 (lv_at hl 0 rfl) ?_
      rw [hQ]
      exact W.iret (v := o13.1) hx hb hr (fun t9 ht hW => ⟨⟨o13.1, (o13.2.1, o13.2.2.1, o13.2.2.2, t_heard, t_other), rfl, (Option.some.inj hm), by rw [ht]; exact hP, va_K.moved hW.alike hK, hD⟩, hS.F ht⟩) hS.2.2 dX6_alike_39
  have B_26 : ∀ (l3 : Int32) (l4 : Int32) (s1 : Int32) (s2 : Int32) (s3 : Int32) (t : Nat → Int32) (t_refused : Nat → Int32) (t_word : Nat → Int32) (t_heard : Nat → Int32) (t_other : Nat → Int32) (H : Heap) (locs : List Loc) (ls : Array Slot), b_X6_alike_26 fu t_L t_shelf t_rowSize t_rows_R t_kind t_pitch l3 l4 s1 s2 s3 t t_refused t_word t_heard t_other = some out → va_P D CL [((am 0), e_X6 am tkv ttv t t_L), ((am 1), eI cA 8 t_shelf), ((am 3), eI cA 8 t_rowSize), ((am 4), eOJ cA am 5), (am 5, eJ cA 40 (t_rows_R 0)), (am 6, eJ cA 40 (t_rows_R 1)), (am 7, eJ cA 40 (t_rows_R 2)), (am 8, eJ cA 40 (t_rows_R 3)), (am 9, eJ cA 40 (t_rows_R 4)), (am 10, eJ cA 40 (t_rows_R 5)), (am 11, eJ cA 40 (t_rows_R 6)), (am 12, eJ cA 40 (t_rows_R 7)), ((am 16), eI cA 8 t_refused), ((am 17), eI cA 8 t_kind), ((am 19), eI cA 8 t_pitch), ((am 21), eI cA 12 t_word), ((am 22), eI cA 13 t_heard), ((am 23), eI cA 13 t_other)] H → va_D A [((am 0), e_X6 am tkv ttv t t_L), ((am 1), eI cA 8 t_shelf), ((am 3), eI cA 8 t_rowSize), ((am 4), eOJ cA am 5), (am 5, eJ cA 40 (t_rows_R 0)), (am 6, eJ cA 40 (t_rows_R 1)), (am 7, eJ cA 40 (t_rows_R 2)), (am 8, eJ cA 40 (t_rows_R 3)), (am 9, eJ cA 40 (t_rows_R 4)), (am 10, eJ cA 40 (t_rows_R 5)), (am 11, eJ cA 40 (t_rows_R 6)), (am 12, eJ cA 40 (t_rows_R 7)), ((am 16), eI cA 8 t_refused), ((am 17), eI cA 8 t_kind), ((am 19), eI cA 8 t_pitch), ((am 21), eI cA 12 t_word), ((am 22), eI cA 13 t_heard), ((am 23), eI cA 13 t_other)] → va_S A s.heap H locs → lv_has ls 9 [(0, .ref (am 0)), (3, .int l3), (4, .int l4)] → W p l e rm_X6_alike s m args below meth c H locs 0 0 Q (F0 m 26 ls [.int s3, .int s2, .int s1, .ref (am 0)]) := by
    intro  l3 l4 s1 s2 s3 t t_refused t_word t_heard t_other H locs ls hm hP hD hS hl
    unfold b_X6_alike_26 at hm
    refine lv_iconst (v := (0 : Int32)) hx hb dX6_alike_26 (by decide) ?_
    exact B_27 _ _ _ _ _ _ _ _ _ _ _ _ _ _ hm hP hD hS (lv_sub hl [0, 1, 2] rfl)
  unfold m_X6_alike at hm
  subst hargs
  have hl := lv_entry ([.ref (am 0), .int l1, .int l2, .int l3, .int l4]) (n := 9) (Nat.le_of_ble_eq_true rfl)
  rw [lg_entry_eq]
  generalize (lg_sl ([.ref (am 0), .int l1, .int l2, .int l3, .int l4]) ++ List.replicate (9 - (lg_sl ([.ref (am 0), .int l1, .int l2, .int l3, .int l4])).length) Slot.unset).toArray = ls at hl ⊢
  have hl : lv_has ls 9 [(0, .ref (am 0)), (1, .int l1), (2, .int l2), (3, .int l3), (4, .int l4)] := hl
  refine lv_aload_n hx hb dX6_alike_0 rfl (lv_at hl 0 rfl) ?_
  refine lv_iload_n hx hb dX6_alike_1 rfl (lv_at hl 1 rfl) ?_
  refine lv_iload_n hx hb dX6_alike_2 rfl (lv_at hl 2 rfl) ?_
  refine lv_bipush (v := (12 : Int32)) hx hb dX6_alike_3 (by decide) ?_
  refine lv_aload_n hx hb dX6_alike_5 rfl (lv_at hl 0 rfl) ?_
  refine lv_iload_n hx hb dX6_alike_6 rfl (lv_at hl 3 rfl) ?_
  obtain ⟨o18, ho19, hm⟩ := bd_s hm
  refine xr_i (wr := [((am 1), eI cA 8 t_shelf), ((am 3), eI cA 8 t_rowSize), ((am 4), eOJ cA am 5), (am 5, eJ cA 40 (t_rows_R 0)), (am 6, eJ cA 40 (t_rows_R 1)), (am 7, eJ cA 40 (t_rows_R 2)), (am 8, eJ cA 40 (t_rows_R 3)), (am 9, eJ cA 40 (t_rows_R 4)), (am 10, eJ cA 40 (t_rows_R 5)), (am 11, eJ cA 40 (t_rows_R 6)), (am 12, eJ cA 40 (t_rows_R 7)), ((am 16), eI cA 8 t_refused), ((am 17), eI cA 8 t_kind), ((am 19), eI cA 8 t_pitch), ((am 21), eI cA 12 t_word), ((am 22), eI cA 13 t_heard), ((am 23), eI cA 13 t_other)]) (wn := [((am 0), e_X6 am tkv ttv t t_L), ((am 1), eI cA 8 t_shelf), ((am 3), eI cA 8 t_rowSize), ((am 4), eOJ cA am 5), (am 5, eJ cA 40 (t_rows_R 0)), (am 6, eJ cA 40 (t_rows_R 1)), (am 7, eJ cA 40 (t_rows_R 2)), (am 8, eJ cA 40 (t_rows_R 3)), (am 9, eJ cA 40 (t_rows_R 4)), (am 10, eJ cA 40 (t_rows_R 5)), (am 11, eJ cA 40 (t_rows_R 6)), (am 12, eJ cA 40 (t_rows_R 7)), ((am 16), eI cA 8 t_refused), ((am 17), eI cA 8 t_kind), ((am 19), eI cA 8 t_pitch), ((am 21), eI cA 12 t_word), ((am 22), eI cA 13 t_heard), ((am 23), eI cA 13 t_other)]) (va_runV (As := [.int l3]) (rest := [.int (12 : Int32), .int l2, .int l1, .ref (am 0)]) ⟨hx, hb, hml, hown, htg⟩ (c_X6_isVoice l D cA _ fu am tkv ttv t t_L l3 o18 ho19) (cwV 1 htg (gV q_5_139 q_5_141 q_p5_9 q_1_8 q_5_142) rfl rfl rfl hd_X6_isVoice ⟨Nat.le_of_ble_eq_true rfl, Nat.le_of_ble_eq_true rfl⟩) (xpV hN hK hP hD [0] rfl (by decide) rfl rfl) rfl rfl hl.1 rfl (lv_room (Nat.le_of_ble_eq_true rfl)) dX6_alike_7 ⟨Nat.zero_le _, Nat.zero_le _⟩) hP hD hS hA [0] [1, 2, 3, 4, 5, 6, 7, 8, 9, 10, 11, 12, 13, 14, 15, 16, 17] [17, 0, 1, 2, 3, 4, 5, 6, 7, 8, 9, 10, 11, 12, 13, 14, 15, 16] rfl rfl (by decide) (by decide) rfl (by decide) (fun H locs hP hD hS => ?_)
  refine lv_if_eq (tgt := 26) hx hb dX6_alike_10 (by decide) (fun c20 => ?_) (fun c20 => ?_)
  · have hm := it_t c20 hm
    exact B_26 _ _ _ _ _ _ _ _ _ _ _ _ _ hm hP hD hS (lv_sub hl [0, 3, 4] rfl)
  · have hm := it_f c20 hm
    refine lv_aload_n hx hb dX6_alike_13 rfl (lv_at hl 0 rfl) ?_
    refine lv_iload hx hb dX6_alike_14 (lv_at hl 4 rfl) ?_
    obtain ⟨o21, ho22, hm⟩ := bd_s hm
    refine xr_i (wr := [((am 1), eI cA 8 t_shelf), ((am 3), eI cA 8 t_rowSize), ((am 4), eOJ cA am 5), (am 5, eJ cA 40 (t_rows_R 0)), (am 6, eJ cA 40 (t_rows_R 1)), (am 7, eJ cA 40 (t_rows_R 2)), (am 8, eJ cA 40 (t_rows_R 3)), (am 9, eJ cA 40 (t_rows_R 4)), (am 10, eJ cA 40 (t_rows_R 5)), (am 11, eJ cA 40 (t_rows_R 6)), (am 12, eJ cA 40 (t_rows_R 7)), ((am 16), eI cA 8 t_refused), ((am 17), eI cA 8 t_kind), ((am 19), eI cA 8 t_pitch), ((am 21), eI cA 12 t_word), ((am 22), eI cA 13 t_heard), ((am 23), eI cA 13 t_other)]) (wn := [((am 0), e_X6 am tkv ttv t t_L), ((am 1), eI cA 8 t_shelf), ((am 3), eI cA 8 t_rowSize), ((am 4), eOJ cA am 5), (am 5, eJ cA 40 (t_rows_R 0)), (am 6, eJ cA 40 (t_rows_R 1)), (am 7, eJ cA 40 (t_rows_R 2)), (am 8, eJ cA 40 (t_rows_R 3)), (am 9, eJ cA 40 (t_rows_R 4)), (am 10, eJ cA 40 (t_rows_R 5)), (am 11, eJ cA 40 (t_rows_R 6)), (am 12, eJ cA 40 (t_rows_R 7)), ((am 16), eI cA 8 t_refused), ((am 17), eI cA 8 t_kind), ((am 19), eI cA 8 t_pitch), ((am 21), eI cA 12 t_word), ((am 22), eI cA 13 t_heard), ((am 23), eI cA 13 t_other)]) (va_runV (As := [.int l4]) (rest := [.int (12 : Int32), .int l2, .int l1, .ref (am 0)]) ⟨hx, hb, hml, hown, htg⟩ (c_X6_isVoice l D cA _ fu am tkv ttv t t_L l4 o21 ho22) (cwV 1 htg (gV q_5_139 q_5_141 q_p5_9 q_1_8 q_5_142) rfl rfl rfl hd_X6_isVoice ⟨Nat.le_of_ble_eq_true rfl, Nat.le_of_ble_eq_true rfl⟩) (xpV hN hK hP hD [0] rfl (by decide) rfl rfl) rfl rfl hl.1 rfl (lv_room (Nat.le_of_ble_eq_true rfl)) dX6_alike_16 ⟨Nat.zero_le _, Nat.zero_le _⟩) hP hD hS hA [0] [1, 2, 3, 4, 5, 6, 7, 8, 9, 10, 11, 12, 13, 14, 15, 16, 17] [17, 0, 1, 2, 3, 4, 5, 6, 7, 8, 9, 10, 11, 12, 13, 14, 15, 16] rfl rfl (by decide) (by decide) rfl (by decide) (fun H locs hP hD hS => ?_)
    refine lv_if_eq (tgt := 26) hx hb dX6_alike_19 (by decide) (fun c23 => ?_) (fun c23 => ?_)
    · have hm := it_t c23 hm
      exact B_26 _ _ _ _ _ _ _ _ _ _ _ _ _ hm hP hD hS (lv_sub hl [0, 3, 4] rfl)
    · have hm := it_f c23 hm
      refine lv_iconst (v := (1 : Int32)) hx hb dX6_alike_22 (by decide) ?_
      refine lv_goto (tgt := 27) hx hb dX6_alike_23 (by decide) ?_
      exact B_27 _ _ _ _ _ _ _ _ _ _ _ _ _ _ hm hP hD hS (lv_sub hl [0, 3, 4] rfl)
