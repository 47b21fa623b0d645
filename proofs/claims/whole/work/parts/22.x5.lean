def b_X5_ofKind_44 (fu : Nat) (t : Nat → Int32) (t_now : Nat → Int32) (t_now_kinds : Nat → Int32) (k_18 : (Int32 × Int32 × Int32 × (Nat → Int32)) → Option (Int32 × (Nat → Int32))) (l1 : Int32) (l2 : Int32) (l3 : Int32) (t_refusals : Nat → Int32) : Option (Int32 × (Nat → Int32)) :=
  k_18 (l1, l2, (l3 + (1 : Int32)), t_refusals)
def b_X5_ofKind_18 (fu : Nat) (t : Nat → Int32) (t_now : Nat → Int32) (t_now_kinds : Nat → Int32) (k_18 : (Int32 × Int32 × Int32 × (Nat → Int32)) → Option (Int32 × (Nat → Int32))) (x : Int32 × Int32 × Int32 × (Nat → Int32)) : Option (Int32 × (Nat → Int32)) :=
  (if t_now 8 ≤ x.2.2.1 then
        some (x.2.1, x.2.2.2)
      else
        (m_X1_kindOf fu t_now t_now_kinds x.2.2.1).bind fun o2 =>
        (if o2.1 = x.1 then
          b_X5_ofKind_44 fu t t_now t_now_kinds k_18 x.1 (x.2.1 + (1 : Int32)) x.2.2.1 x.2.2.2
        else
          b_X5_ofKind_44 fu t t_now t_now_kinds k_18 x.1 x.2.1 x.2.2.1 x.2.2.2))
def m_X5_ofKind (fu : Nat) (t : Nat → Int32) (t_now : Nat → Int32) (t_now_kinds : Nat → Int32) (t_refusals : Nat → Int32) (l1 : Int32) : Option (Int32 × (Nat → Int32)) :=
  (m_X5_isKind fu l1).bind fun o5 =>
  (if o5.1 = 0 then
    (m_X5_refuse fu t t_refusals (-2 : Int32)).bind fun o8 =>
    some (o8.1, o8.2)
  else
    lfix (b_X5_ofKind_18 fu t t_now t_now_kinds) fu (l1, (0 : Int32), (0 : Int32), t_refusals))
abbrev rm_X5_ofKind : Room := ({ frames := 2, cells := 0, slots := 0, locals := 44 } : Room)
abbrev w0_X5_ofKind (cA : Nat → ClassId) (ad : Nat → Nat) (t : Nat → Int32) (t_now : Nat → Int32) (t_now_kinds : Nat → Int32) (t_refusals : Nat → Int32) : va_W := [((ad 0), e_X5 ad t), ((ad 1), e_X1 (ad 2) (ad 3) (ad 4) t_now), ((ad 2), eI cA 8 t_now_kinds), ((ad 19), eI cA 5 t_refusals)]
abbrev w1_X5_ofKind (cA : Nat → ClassId) (ad : Nat → Nat) (t : Nat → Int32) (t_now : Nat → Int32) (t_now_kinds : Nat → Int32) (u : (Nat → Int32)) : va_W := [((ad 0), e_X5 ad t), ((ad 1), e_X1 (ad 2) (ad 3) (ad 4) t_now), ((ad 2), eI cA 8 t_now_kinds), ((ad 19), eI cA 5 u)]
theorem hd_X5_ofKind : yX5_ofKind.cls = RX5 ∧ yX5_ofKind.cls ≠ "java/lang/invoke/MethodHandle" ∧ yX5_ofKind.cls ≠ "java/lang/invoke/VarHandle" ∧ (parseMethodDescriptor yX5_ofKind.desc).map (fun d => d.parameters.length) = some 1 := by decide +kernel
set_option maxHeartbeats 40000000 in
set_option maxRecDepth 100000 in
theorem c_X5_ofKind (l : Launch) (D : va_G) (cA : Nat → ClassId) (sz : Nat) (fu : Nat) (ad : Nat → Nat) (t : Nat → Int32) (t_now : Nat → Int32) (t_now_kinds : Nat → Int32) (t_refusals : Nat → Int32) (l1 : Int32) (out : Int32 × (Nat → Int32)) (hm : m_X5_ofKind fu t t_now t_now_kinds t_refusals l1 = some out) : MI l yX5_ofKind (wU yX5_ofKind cX5_ofKind 4 ((Option.some Jvm.ClassFile.FieldType.int))) rm_X5_ofKind D cA sz [.ref (ad 0), .int l1] (w0_X5_ofKind cA ad t t_now t_now_kinds t_refusals) out (w1_X5_ofKind cA ad t t_now t_now_kinds) := by
  refine Met.ofW (cc := cX5_ofKind) (maxL := 4) (ret := (Option.some Jvm.ClassFile.FieldType.int)) (by decide) rfl ?_
  intro p e s m args below meth c s₁ B hml hv
  obtain ⟨hargs, hsz, hP, hK, hD0, hN⟩ := hv
  have hx := B.exec
  have hb := B.bytes
  have hr := B.returns
  have htg : ∀ w ∈ gw, w.before args s = true := fun w h => atoms_spec (ws := wU yX5_ofKind cX5_ofKind 4 ((Option.some Jvm.ClassFile.FieldType.int))) B.pre w (List.mem_cons_of_mem _ h)
  have hown : s.vm.findClass RX5 = some m.cls := findClass_of_methodNamed B.named
  have hlocks := B.notSynchronized
  subst hsz
  have hD := hD0.self (sz := s.heap.size)
  have hA : ∀ q : Nat, s.heap.size ≤ q → va_A (w0_X5_ofKind cA ad t t_now t_now_kinds t_refusals) s.heap.size q := fun q h => Or.inr h
  have hS : va_S (va_A (w0_X5_ofKind cA ad t t_now t_now_kinds t_refusals) s.heap.size) s.heap s.heap [] := va_S.rf
  generalize va_A (w0_X5_ofKind cA ad t t_now t_now_kinds t_refusals) s.heap.size = A at hA hD hS ⊢
  obtain ⟨Q, hQ⟩ : ∃ Q : State → Prop, Q = MQ below (va_Qi (fun (r : Int32) (u : (Nat → Int32)) => (r, u) = out) (pst0 D cA A (w1_X5_ofKind cA ad t t_now t_now_kinds)) A) args s 0 0 A := ⟨_, rfl⟩
  refine (?_ : W p l e rm_X5_ofKind s m args below meth c s.heap [] 0 0 (MQ below (va_Qi (fun (r : Int32) (u : (Nat → Int32)) => (r, u) = out) (pst0 D cA A (w1_X5_ofKind cA ad t t_now t_now_kinds)) A) args s 0 0 A) (entryFrame m args 4))
  rw [← hQ]
  have hP : va_P D CL [((ad 0), e_X5 ad t), ((ad 1), e_X1 (ad 2) (ad 3) (ad 4) t_now), ((ad 2), eI cA 8 t_now_kinds), ((ad 19), eI cA 5 t_refusals)] s.heap := hP
  have hD : va_D A [((ad 0), e_X5 ad t), ((ad 1), e_X1 (ad 2) (ad 3) (ad 4) t_now), ((ad 2), eI cA 8 t_now_kinds), ((ad 19), eI cA 5 t_refusals)] := hD
  have B_44 : ∀ (k_18 : (Int32 × Int32 × Int32 × (Nat → Int32)) → Option (Int32 × (Nat → Int32))) (HK_18 : ∀ (x : Int32 × Int32 × Int32 × (Nat → Int32)) (H : Heap) (locs : List Loc) (ls : Array Slot), k_18 x = some out → va_P D CL [((ad 0), e_X5 ad t), ((ad 1), e_X1 (ad 2) (ad 3) (ad 4) t_now), ((ad 2), eI cA 8 t_now_kinds), ((ad 19), eI cA 5 x.2.2.2)] H → va_D A [((ad 0), e_X5 ad t), ((ad 1), e_X1 (ad 2) (ad 3) (ad 4) t_now), ((ad 2), eI cA 8 t_now_kinds), ((ad 19), eI cA 5 x.2.2.2)] → va_S A s.heap H locs → lv_has ls 4 [(0, .ref (ad 0)), (1, .int x.1), (2, .int x.2.1), (3, .int x.2.2.1)] → W p l e rm_X5_ofKind s m args below meth c H locs 0 0 Q (F0 m 18 ls [])) (l1 : Int32) (l2 : Int32) (l3 : Int32) (t_refusals : Nat → Int32) (H : Heap) (locs : List Loc) (ls : Array Slot), b_X5_ofKind_44 fu t t_now t_now_kinds k_18 l1 l2 l3 t_refusals = some out → va_P D CL [((ad 0), e_X5 ad t), ((ad 1), e_X1 (ad 2) (ad 3) (ad 4) t_now), ((ad 2), eI cA 8 t_now_kinds), ((ad 19), eI cA 5 t_refusals)] H → va_D A [((ad 0), e_X5 ad t), ((ad 1), e_X1 (ad 2) (ad 3) (ad 4) t_now), ((ad 2), eI cA 8 t_now_kinds), ((ad 19), eI cA 5 t_refusals)] → va_S A s.heap H locs → lv_has ls 4 [(0, .ref (ad 0)), (1, .int l1), (2, .int l2), (3, .int l3)] → W p l e rm_X5_ofKind s m args below meth c H locs 0 0 Q (F0 m 44 ls []) := by
    intro k_18 HK_18 l1 l2 l3 t_refusals H locs ls hm hP hD hS hl
    unfold b_X5_ofKind_44 at hm
    refine lv_iinc (v := (l3 + (1 : Int32))) (lv' := [(3, .int (l3 + (1 : Int32))), (0, .ref (ad 0)), (1, .int l1), (2, .int l2)]) hx hb dX5_ofKind_44 hl (k := 3) rfl rfl (by decide) rfl (fun ls hl => ?_)
    refine lv_goto (tgt := 18) hx hb dX5_ofKind_47 (by decide) ?_
    exact HK_18 _ _ _ _ hm hP hD hS (lv_sub hl [1, 2, 3, 0] rfl)
  have B_18 : ∀ (n : Nat) (x : Int32 × Int32 × Int32 × (Nat → Int32)) (H : Heap) (locs : List Loc) (ls : Array Slot), lfix (b_X5_ofKind_18 fu t t_now t_now_kinds) n x = some out → va_P D CL [((ad 0), e_X5 ad t), ((ad 1), e_X1 (ad 2) (ad 3) (ad 4) t_now), ((ad 2), eI cA 8 t_now_kinds), ((ad 19), eI cA 5 x.2.2.2)] H → va_D A [((ad 0), e_X5 ad t), ((ad 1), e_X1 (ad 2) (ad 3) (ad 4) t_now), ((ad 2), eI cA 8 t_now_kinds), ((ad 19), eI cA 5 x.2.2.2)] → va_S A s.heap H locs → lv_has ls 4 [(0, .ref (ad 0)), (1, .int x.1), (2, .int x.2.1), (3, .int x.2.2.1)] → W p l e rm_X5_ofKind s m args below meth c H locs 0 0 Q (F0 m 18 ls []) := by
    intro  n
    induction n with
    | zero => intro x H locs ls hm; cases (show none = some out from hm)
    | succ n HK_18 =>
      intro x H locs ls hm hP hD hS hl
      replace hm : b_X5_ofKind_18 fu t t_now t_now_kinds (lfix (b_X5_ofKind_18 fu t t_now t_now_kinds) n) x = some out := hm
      unfold b_X5_ofKind_18 at hm
      refine lv_iload_n hx hb dX5_ofKind_18 rfl (lv_at hl 3 rfl) ?_
      refine lv_aload_n hx hb dX5_ofKind_19 rfl (lv_at hl 0 rfl) ?_
      refine va_get (D := D) (ci := 5) (v := .ref (ad 1)) (C := RX5) (T := TX5) (N := 17) hx hb htg inX5 hown hK hP 0 rfl rfl 0 (by decide) (htg _ q_1_188) (fun _ h9 => h9) rfl dX5_ofKind_20 ?_
      refine va_getN (D := D) (ci := 1) (v := .int (t_now 8)) (C := RX1) (T := TX1) (N := 12) hx hb htg inX1 hown hK hP 1 rfl rfl 8 (by decide) (va_Nw.use rfl (hN _ q_1_58)) (fun _ h9 => h9) rfl dX5_ofKind_23 ?_
      refine lv_icmp_ge (tgt := 50) hx hb dX5_ofKind_26 (by decide) (fun c1 => ?_) (fun c1 => ?_)
      · have hm := it_t c1 hm
        refine lv_iload_n hx hb dX5_ofKind_50 rfl (lv_at hl 2 rfl) ?_
        rw [hQ]
        exact W.iret (v := x.2.1) hx hb hr (fun t9 ht hW => ⟨⟨x.2.1, x.2.2.2, rfl, (Option.some.inj hm), by rw [ht]; exact hP, va_K.moved hW.alike hK, hD⟩, hS.F ht⟩) hS.2.2 dX5_ofKind_51
      · have hm := it_f c1 hm
        refine lv_aload_n hx hb dX5_ofKind_29 rfl (lv_at hl 0 rfl) ?_
        refine va_get (D := D) (ci := 5) (v := .ref (ad 1)) (C := RX5) (T := TX5) (N := 17) hx hb htg inX5 hown hK hP 0 rfl rfl 0 (by decide) (htg _ q_1_188) (fun _ h9 => h9) rfl dX5_ofKind_30 ?_
        refine lv_iload_n hx hb dX5_ofKind_33 rfl (lv_at hl 3 rfl) ?_
        obtain ⟨o2, ho3, hm⟩ := bd_s hm
        refine xr_i (wr := [((ad 0), e_X5 ad t), ((ad 19), eI cA 5 x.2.2.2)]) (wn := [((ad 0), e_X5 ad t), ((ad 1), e_X1 (ad 2) (ad 3) (ad 4) t_now), ((ad 2), eI cA 8 t_now_kinds), ((ad 19), eI cA 5 x.2.2.2)]) (va_runVN (As := [.int x.2.2.1]) (rest := []) ⟨hx, hb, hml, hown, htg⟩ (c_X1_kindOf l D cA _ fu (ad 1) (ad 2) (ad 3) (ad 4) t_now t_now_kinds x.2.2.1 o2 ho3) ⟨va_cnB 1 htg (gU q_2_105) rfl rfl rfl (hN _ q_2_102) (htg _ q_1_2) hd_X1_kindOf.2 ⟨Nat.le_of_ble_eq_true rfl, Nat.le_of_ble_eq_true rfl⟩, htg _ q_2_104, htg _ q_p1_12⟩ (xpV hN hK hP hD [1, 2] rfl (by decide) rfl rfl) rfl rfl hl.1 rfl (lv_room (Nat.le_of_ble_eq_true rfl)) dX5_ofKind_34 ⟨Nat.zero_le _, Nat.zero_le _⟩) hP hD hS hA [1, 2] [0, 3] [0, 2, 3, 1] rfl rfl (by decide) (by decide) rfl (by decide) (fun H locs hP hD hS => ?_)
        refine lv_iload_n hx hb dX5_ofKind_37 rfl (lv_at hl 1 rfl) ?_
        refine lv_icmp_ne (tgt := 44) hx hb dX5_ofKind_38 (by decide) (fun c4 => ?_) (fun c4 => ?_)
        · have hm := it_f c4 hm
          exact B_44 _ HK_18 _ _ _ _ _ _ _ hm hP hD hS (lv_sub hl [0, 1, 2, 3] rfl)
        · have hm := it_t c4 hm
          refine lv_iinc (v := (x.2.1 + (1 : Int32))) (lv' := [(2, .int (x.2.1 + (1 : Int32))), (0, .ref (ad 0)), (1, .int x.1), (3, .int x.2.2.1)]) hx hb dX5_ofKind_41 hl (k := 2) rfl rfl (by decide) rfl (fun ls hl => ?_)
          exact B_44 _ HK_18 _ _ _ _ _ _ _ hm hP hD hS (lv_sub hl [1, 2, 0, 3] rfl)
  unfold m_X5_ofKind at hm
  subst hargs
  have hl := lv_entry ([.ref (ad 0), .int l1]) (n := 4) (Nat.le_of_ble_eq_true rfl)
  rw [lg_entry_eq]
  generalize (lg_sl ([.ref (ad 0), .int l1]) ++ List.replicate (4 - (lg_sl ([.ref (ad 0), .int l1])).length) Slot.unset).toArray = ls at hl ⊢
  have hl : lv_has ls 4 [(0, .ref (ad 0)), (1, .int l1)] := hl
  refine lv_iload_n hx hb dX5_ofKind_0 rfl (lv_at hl 1 rfl) ?_
  obtain ⟨o5, ho6, hm⟩ := bd_s hm
  refine xr_i (wr := [((ad 0), e_X5 ad t), ((ad 1), e_X1 (ad 2) (ad 3) (ad 4) t_now), ((ad 2), eI cA 8 t_now_kinds), ((ad 19), eI cA 5 t_refusals)]) (wn := [((ad 0), e_X5 ad t), ((ad 1), e_X1 (ad 2) (ad 3) (ad 4) t_now), ((ad 2), eI cA 8 t_now_kinds), ((ad 19), eI cA 5 t_refusals)]) (va_runS (As := [.int l1]) (rest := []) ⟨hx, hb, hml, hown, htg⟩ (c_X5_isKind l D cA _ fu l1 o5 ho6) (cwS 1 htg (gS q_2_99 q_2_100 q_1_1 q_2_101) rfl rfl rfl hd_X5_isKind ⟨Nat.le_of_ble_eq_true rfl, Nat.le_of_ble_eq_true rfl⟩) (xpS hN hK hP hD [] rfl (by decide)) rfl rfl hl.1 rfl (lv_room (Nat.le_of_ble_eq_true rfl)) dX5_ofKind_1 ⟨Nat.zero_le _, Nat.zero_le _⟩) hP hD hS hA [] [0, 1, 2, 3] [0, 1, 2, 3] rfl rfl (by decide) (by decide) rfl (by decide) (fun H locs hP hD hS => ?_)
  refine lv_if_ne (tgt := 14) hx hb dX5_ofKind_4 (by decide) (fun c7 => ?_) (fun c7 => ?_)
  · have hm := it_f c7 hm
    refine lv_iconst (v := (0 : Int32)) hx hb dX5_ofKind_14 (by decide) ?_
    refine lv_istore_n (lv' := [(2, .int (0 : Int32)), (0, .ref (ad 0)), (1, .int l1)]) hx hb dX5_ofKind_15 rfl hl (by decide) rfl (fun ls hl => ?_)
    refine lv_iconst (v := (0 : Int32)) hx hb dX5_ofKind_16 (by decide) ?_
    refine lv_istore_n (lv' := [(3, .int (0 : Int32)), (2, .int (0 : Int32)), (0, .ref (ad 0)), (1, .int l1)]) hx hb dX5_ofKind_17 rfl hl (by decide) rfl (fun ls hl => ?_)
    exact B_18 fu _ _ _ _ hm hP hD hS (lv_sub hl [2, 3, 1, 0] rfl)
  · have hm := it_t c7 hm
    refine lv_aload_n hx hb dX5_ofKind_7 rfl (lv_at hl 0 rfl) ?_
    refine lv_bipush (v := (-2 : Int32)) hx hb dX5_ofKind_8 (by decide) ?_
    obtain ⟨o8, ho9, hm⟩ := bd_s hm
    refine xr_i (wr := [((ad 1), e_X1 (ad 2) (ad 3) (ad 4) t_now), ((ad 2), eI cA 8 t_now_kinds)]) (wn := [((ad 0), e_X5 ad t), ((ad 1), e_X1 (ad 2) (ad 3) (ad 4) t_now), ((ad 2), eI cA 8 t_now_kinds), ((ad 19), eI cA 5 o8.2)]) (va_runV (As := [.int (-2 : Int32)]) (rest := []) ⟨hx, hb, hml, hown, htg⟩ (c_X5_refuse l D cA _ fu ad t t_refusals (-2 : Int32) o8 ho9) (cwV 1 htg (gV q_2_10 q_2_12 q_p1_0 q_1_1 q_2_13) rfl rfl rfl hd_X5_refuse ⟨Nat.le_of_ble_eq_true rfl, Nat.le_of_ble_eq_true rfl⟩) (xpV hN hK hP hD [0, 3] rfl (by decide) rfl rfl) rfl rfl hl.1 rfl (lv_room (Nat.le_of_ble_eq_true rfl)) dX5_ofKind_10 ⟨Nat.zero_le _, Nat.zero_le _⟩) hP hD hS hA [0, 3] [1, 2] [2, 0, 1, 3] rfl rfl (by decide) (by decide) rfl (by decide) (fun H locs hP hD hS => ?_)
    rw [hQ]
    exact W.iret (v := o8.1) hx hb hr (fun t9 ht hW => ⟨⟨o8.1, o8.2, rfl, (Option.some.inj hm), by rw [ht]; exact hP, va_K.moved hW.alike hK, hD⟩, hS.F ht⟩) hS.2.2 dX5_ofKind_13
def b_X5_findShortestYes_67 (fu : Nat) (t : Nat → Int32) (t_now : Nat → Int32) (t_now_kinds : Nat → Int32) (t_now_pitches : Nat → Int32) (k_59 : (Int32 × (Nat → Int32) × (Nat → Int32) × (Nat → Int32) × (Nat → Int32)) → Option ((Nat → Int32) × (Nat → Int32) × (Nat → Int32) × (Nat → Int32))) (k_67 : (Int32 × Int32 × (Nat → Int32) × (Nat → Int32) × (Nat → Int32) × (Nat → Int32)) → Option ((Nat → Int32) × (Nat → Int32) × (Nat → Int32) × (Nat → Int32))) (x : Int32 × Int32 × (Nat → Int32) × (Nat → Int32) × (Nat → Int32) × (Nat → Int32)) : Option ((Nat → Int32) × (Nat → Int32) × (Nat → Int32) × (Nat → Int32)) :=
  (if (40 : Int32) ≤ x.2.1 then
        k_59 ((x.1 + (1 : Int32)), x.2.2.1, x.2.2.2.1, x.2.2.2.2.1, x.2.2.2.2.2)
      else
        (m_X4_clear fu x.2.2.2.2.1).bind fun o2 =>
        (m_X4_add fu o2 x.2.2.2.2.2 x.1).bind fun o4 =>
        (m_X4_add fu o4.1 o4.2 x.2.1).bind fun o6 =>
        (m_X3_weighs fu x.2.2.1 x.2.2.2.1 o6.1 o6.2).bind fun o8 =>
        (if o8.1 = (1 : Int32) then
          some (o8.2.1, o8.2.2, o6.1, o6.2)
        else
          k_67 (x.1, (x.2.1 + (1 : Int32)), o8.2.1, o8.2.2, o6.1, o6.2)))
def b_X5_findShortestYes_59 (fu : Nat) (t : Nat → Int32) (t_now : Nat → Int32) (t_now_kinds : Nat → Int32) (t_now_pitches : Nat → Int32) (k_59 : (Int32 × (Nat → Int32) × (Nat → Int32) × (Nat → Int32) × (Nat → Int32)) → Option ((Nat → Int32) × (Nat → Int32) × (Nat → Int32) × (Nat → Int32))) (x : Int32 × (Nat → Int32) × (Nat → Int32) × (Nat → Int32) × (Nat → Int32)) : Option ((Nat → Int32) × (Nat → Int32) × (Nat → Int32) × (Nat → Int32)) :=
  (if (40 : Int32) ≤ x.1 then
        (m_X4_clear fu x.2.2.2.1).bind fun o12 =>
        some (x.2.1, x.2.2.1, o12, x.2.2.2.2)
      else
        lfix (b_X5_findShortestYes_67 fu t t_now t_now_kinds t_now_pitches k_59) fu (x.1, (0 : Int32), x.2.1, x.2.2.1, x.2.2.2.1, x.2.2.2.2))
def b_X5_findShortestYes_14 (fu : Nat) (t : Nat → Int32) (t_now : Nat → Int32) (t_now_kinds : Nat → Int32) (t_now_pitches : Nat → Int32) (k_14 : (Int32 × (Nat → Int32) × (Nat → Int32) × (Nat → Int32) × (Nat → Int32)) → Option ((Nat → Int32) × (Nat → Int32) × (Nat → Int32) × (Nat → Int32))) (x : Int32 × (Nat → Int32) × (Nat → Int32) × (Nat → Int32) × (Nat → Int32)) : Option ((Nat → Int32) × (Nat → Int32) × (Nat → Int32) × (Nat → Int32)) :=
  (if (40 : Int32) ≤ x.1 then
        lfix (b_X5_findShortestYes_59 fu t t_now t_now_kinds t_now_pitches) fu ((0 : Int32), x.2.1, x.2.2.1, x.2.2.2.1, x.2.2.2.2)
      else
        (m_X4_clear fu x.2.2.2.1).bind fun o15 =>
        (m_X4_add fu o15 x.2.2.2.2 x.1).bind fun o17 =>
        (m_X3_weighs fu x.2.1 x.2.2.1 o17.1 o17.2).bind fun o19 =>
        (if o19.1 = (1 : Int32) then
          some (o19.2.1, o19.2.2, o17.1, o17.2)
        else
          k_14 ((x.1 + (1 : Int32)), o19.2.1, o19.2.2, o17.1, o17.2)))
def m_X5_findShortestYes (fu : Nat) (t : Nat → Int32) (t_now : Nat → Int32) (t_now_kinds : Nat → Int32) (t_now_pitches : Nat → Int32) (t_trial : Nat → Int32) (t_trial_heard : Nat → Int32) (t_tried : Nat → Int32) (t_tried_sounds : Nat → Int32) (l1 : Int32) : Option ((Nat → Int32) × (Nat → Int32) × (Nat → Int32) × (Nat → Int32)) :=
  (m_X3_standsFor fu t_trial t_now t_now_kinds t_now_pitches l1).bind fun o22 =>
  lfix (b_X5_findShortestYes_14 fu t t_now t_now_kinds t_now_pitches) fu ((0 : Int32), o22, t_trial_heard, t_tried, t_tried_sounds)
abbrev rm_X5_findShortestYes : Room := ({ frames := 5, cells := 0, slots := 0, locals := 109 } : Room)
abbrev w0_X5_findShortestYes (cA : Nat → ClassId) (ad : Nat → Nat) (t : Nat → Int32) (t_now : Nat → Int32) (t_now_kinds : Nat → Int32) (t_now_pitches : Nat → Int32) (t_trial : Nat → Int32) (t_trial_heard : Nat → Int32) (t_tried : Nat → Int32) (t_tried_sounds : Nat → Int32) : va_W := [((ad 0), e_X5 ad t), ((ad 1), e_X1 (ad 2) (ad 3) (ad 4) t_now), ((ad 2), eI cA 8 t_now_kinds), ((ad 4), eI cA 8 t_now_pitches), ((ad 20), e_X3 (ad 21) t_trial), ((ad 21), eI cA 13 t_trial_heard), ((ad 26), e_X4 (ad 27) t_tried), ((ad 27), eI cA 12 t_tried_sounds)]
abbrev w1_X5_findShortestYes (cA : Nat → ClassId) (ad : Nat → Nat) (t : Nat → Int32) (t_now : Nat → Int32) (t_now_kinds : Nat → Int32) (t_now_pitches : Nat → Int32) (u : (Nat → Int32) × (Nat → Int32) × (Nat → Int32) × (Nat → Int32)) : va_W := [((ad 0), e_X5 ad t), ((ad 1), e_X1 (ad 2) (ad 3) (ad 4) t_now), ((ad 2), eI cA 8 t_now_kinds), ((ad 4), eI cA 8 t_now_pitches), ((ad 20), e_X3 (ad 21) u.1), ((ad 21), eI cA 13 u.2.1), ((ad 26), e_X4 (ad 27) u.2.2.1), ((ad 27), eI cA 12 u.2.2.2)]
theorem hd_X5_findShortestYes : yX5_findShortestYes.cls = RX5 ∧ yX5_findShortestYes.cls ≠ "java/lang/invoke/MethodHandle" ∧ yX5_findShortestYes.cls ≠ "java/lang/invoke/VarHandle" ∧ (parseMethodDescriptor yX5_findShortestYes.desc).map (fun d => d.parameters.length) = some 1 := by decide +kernel
set_option maxHeartbeats 40000000 in
set_option maxRecDepth 100000 in
theorem c_X5_findShortestYes (l : Launch) (D : va_G) (cA : Nat → ClassId) (sz : Nat) (fu : Nat) (ad : Nat → Nat) (t : Nat → Int32) (t_now : Nat → Int32) (t_now_kinds : Nat → Int32) (t_now_pitches : Nat → Int32) (t_trial : Nat → Int32) (t_trial_heard : Nat → Int32) (t_tried : Nat → Int32) (t_tried_sounds : Nat → Int32) (l1 : Int32) (out : (Nat → Int32) × (Nat → Int32) × (Nat → Int32) × (Nat → Int32)) (hm : m_X5_findShortestYes fu t t_now t_now_kinds t_now_pitches t_trial t_trial_heard t_tried t_tried_sounds l1 = some out) : MV l yX5_findShortestYes (wU yX5_findShortestYes cX5_findShortestYes 4 ((Option.none : Option Jvm.ClassFile.FieldType))) rm_X5_findShortestYes D cA sz [.ref (ad 0), .int l1] (w0_X5_findShortestYes cA ad t t_now t_now_kinds t_now_pitches t_trial t_trial_heard t_tried t_tried_sounds) out (w1_X5_findShortestYes cA ad t t_now t_now_kinds t_now_pitches) := by
  refine Met.ofW (cc := cX5_findShortestYes) (maxL := 4) (ret := (Option.none : Option Jvm.ClassFile.FieldType)) (by decide) rfl ?_
  intro p e s m args below meth c s₁ B hml hv
  obtain ⟨hargs, hsz, hP, hK, hD0, hN⟩ := hv
  have hx := B.exec
  have hb := B.bytes
  have hr := B.returns
  have htg : ∀ w ∈ gw, w.before args s = true := fun w h => atoms_spec (ws := wU yX5_findShortestYes cX5_findShortestYes 4 ((Option.none : Option Jvm.ClassFile.FieldType))) B.pre w (List.mem_cons_of_mem _ h)
  have hown : s.vm.findClass RX5 = some m.cls := findClass_of_methodNamed B.named
  have hlocks := B.notSynchronized
  subst hsz
  have hD := hD0.self (sz := s.heap.size)
  have hA : ∀ q : Nat, s.heap.size ≤ q → va_A (w0_X5_findShortestYes cA ad t t_now t_now_kinds t_now_pitches t_trial t_trial_heard t_tried t_tried_sounds) s.heap.size q := fun q h => Or.inr h
  have hS : va_S (va_A (w0_X5_findShortestYes cA ad t t_now t_now_kinds t_now_pitches t_trial t_trial_heard t_tried t_tried_sounds) s.heap.size) s.heap s.heap [] := va_S.rf
  generalize va_A (w0_X5_findShortestYes cA ad t t_now t_now_kinds t_now_pitches t_trial t_trial_heard t_tried t_tried_sounds) s.heap.size = A at hA hD hS ⊢
  obtain ⟨Q, hQ⟩ : ∃ Q : State → Prop, Q = MQ below (va_Qv (fun (u : (Nat → Int32) × (Nat → Int32) × (Nat → Int32) × (Nat → Int32)) => u = out) (pst0 D cA A (w1_X5_findShortestYes cA ad t t_now t_now_kinds t_now_pitches)) A) args s 0 0 A := ⟨_, rfl⟩
  refine (?_ : W p l e rm_X5_findShortestYes s m args below meth c s.heap [] 0 0 (MQ below (va_Qv (fun (u : (Nat → Int32) × (Nat → Int32) × (Nat → Int32) × (Nat → Int32)) => u = out) (pst0 D cA A (w1_X5_findShortestYes cA ad t t_now t_now_kinds t_now_pitches)) A) args s 0 0 A) (entryFrame m args 4))
  rw [← hQ]
  have hP : va_P D CL [((ad 0), e_X5 ad t), ((ad 1), e_X1 (ad 2) (ad 3) (ad 4) t_now), ((ad 2), eI cA 8 t_now_kinds), ((ad 4), eI cA 8 t_now_pitches), ((ad 20), e_X3 (ad 21) t_trial), ((ad 21), eI cA 13 t_trial_heard), ((ad 26), e_X4 (ad 27) t_tried), ((ad 27), eI cA 12 t_tried_sounds)] s.heap := hP
  have hD : va_D A [((ad 0), e_X5 ad t), ((ad 1), e_X1 (ad 2) (ad 3) (ad 4) t_now), ((ad 2), eI cA 8 t_now_kinds), ((ad 4), eI cA 8 t_now_pitches), ((ad 20), e_X3 (ad 21) t_trial), ((ad 21), eI cA 13 t_trial_heard), ((ad 26), e_X4 (ad 27) t_tried), ((ad 27), eI cA 12 t_tried_sounds)] := hD
  have B_67 : ∀ (k_59 : (Int32 × (Nat → Int32) × (Nat → Int32) × (Nat → Int32) × (Nat → Int32)) → Option ((Nat → Int32) × (Nat → Int32) × (Nat → Int32) × (Nat → Int32))) (HK_59 : ∀ (x : Int32 × (Nat → Int32) × (Nat → Int32) × (Nat → Int32) × (Nat → Int32)) (H : Heap) (locs : List Loc) (ls : Array Slot), k_59 x = some out → va_P D CL [((ad 0), e_X5 ad t), ((ad 1), e_X1 (ad 2) (ad 3) (ad 4) t_now), ((ad 2), eI cA 8 t_now_kinds), ((ad 4), eI cA 8 t_now_pitches), ((ad 20), e_X3 (ad 21) x.2.1), ((ad 21), eI cA 13 x.2.2.1), ((ad 26), e_X4 (ad 27) x.2.2.2.1), ((ad 27), eI cA 12 x.2.2.2.2)] H → va_D A [((ad 0), e_X5 ad t), ((ad 1), e_X1 (ad 2) (ad 3) (ad 4) t_now), ((ad 2), eI cA 8 t_now_kinds), ((ad 4), eI cA 8 t_now_pitches), ((ad 20), e_X3 (ad 21) x.2.1), ((ad 21), eI cA 13 x.2.2.1), ((ad 26), e_X4 (ad 27) x.2.2.2.1), ((ad 27), eI cA 12 x.2.2.2.2)] → va_S A s.heap H locs → lv_has ls 4 [(0, .ref (ad 0)), (2, .int x.1)] → W p l e rm_X5_findShortestYes s m args below meth c H locs 0 0 Q (F0 m 59 ls [])) (n : Nat) (x : Int32 × Int32 × (Nat → Int32) × (Nat → Int32) × (Nat → Int32) × (Nat → Int32)) (H : Heap) (locs : List Loc) (ls : Array Slot), lfix (b_X5_findShortestYes_67 fu t t_now t_now_kinds t_now_pitches k_59) n x = some out → va_P D CL [((ad 0), e_X5 ad t), ((ad 1), e_X1 (ad 2) (ad 3) (ad 4) t_now), ((ad 2), eI cA 8 t_now_kinds), ((ad 4), eI cA 8 t_now_pitches), ((ad 20), e_X3 (ad 21) x.2.2.1), ((ad 21), eI cA 13 x.2.2.2.1), ((ad 26), e_X4 (ad 27) x.2.2.2.2.1), ((ad 27), eI cA 12 x.2.2.2.2.2)] H → va_D A [((ad 0), e_X5 ad t), ((ad 1), e_X1 (ad 2) (ad 3) (ad 4) t_now), ((ad 2), eI cA 8 t_now_kinds), ((ad 4), eI cA 8 t_now_pitches), ((ad 20), e_X3 (ad 21) x.2.2.1), ((ad 21), eI cA 13 x.2.2.2.1), ((ad 26), e_X4 (ad 27) x.2.2.2.2.1), ((ad 27), eI cA 12 x.2.2.2.2.2)] → va_S A s.heap H locs → lv_has ls 4 [(0, .ref (ad 0)), (2, .int x.1), (3, .int x.2.1)] → W p l e rm_X5_findShortestYes s m args below meth c H locs 0 0 Q (F0 m 67 ls []) := by
    intro k_59 HK_59 n
    induction n with
    | zero => intro x H locs ls hm; cases (show none = some out from hm)
    | succ n HK_67 =>
      intro x H locs ls hm hP hD hS hl
      replace hm : b_X5_findShortestYes_67 fu t t_now t_now_kinds t_now_pitches k_59 (lfix (b_X5_findShortestYes_67 fu t t_now t_now_kinds t_now_pitches k_59) n) x = some out := hm
      unfold b_X5_findShortestYes_67 at hm
      refine lv_iload_n hx hb dX5_findShortestYes_67 rfl (lv_at hl 2 rfl) ?_
      refine lv_bipush (v := (40 : Int32)) hx hb dX5_findShortestYes_68 (by decide) ?_
      refine lv_icmp_ge (tgt := 118) hx hb dX5_findShortestYes_70 (by decide) (fun c1 => ?_) (fun c1 => ?_)
      · have hm := it_t c1 hm
        refine lv_iinc (v := (x.1 + (1 : Int32))) (lv' := [(2, .int (x.1 + (1 : Int32))), (0, .ref (ad 0)), (3, .int x.2.1)]) hx hb dX5_findShortestYes_118 hl (k := 1) rfl rfl (by decide) rfl (fun ls hl => ?_)
        refine lv_goto (tgt := 59) hx hb dX5_findShortestYes_121 (by decide) ?_
        exact HK_59 _ _ _ _ hm hP hD hS (lv_sub hl [1, 0] rfl)
      · have hm := it_f c1 hm
        refine lv_aload_n hx hb dX5_findShortestYes_73 rfl (lv_at hl 0 rfl) ?_
        refine va_get (D := D) (ci := 5) (v := .ref (ad 26)) (C := RX5) (T := TX5) (N := 17) hx hb htg inX5 hown hK hP 0 rfl rfl 10 (by decide) (htg _ q_1_198) (fun _ h9 => h9) rfl dX5_findShortestYes_74 ?_
        obtain ⟨o2, ho3, hm⟩ := bd_s hm
        refine xr_v (wr := [((ad 0), e_X5 ad t), ((ad 1), e_X1 (ad 2) (ad 3) (ad 4) t_now), ((ad 2), eI cA 8 t_now_kinds), ((ad 4), eI cA 8 t_now_pitches), ((ad 20), e_X3 (ad 21) x.2.2.1), ((ad 21), eI cA 13 x.2.2.2.1), ((ad 27), eI cA 12 x.2.2.2.2.2)]) (wn := [((ad 0), e_X5 ad t), ((ad 1), e_X1 (ad 2) (ad 3) (ad 4) t_now), ((ad 2), eI cA 8 t_now_kinds), ((ad 4), eI cA 8 t_now_pitches), ((ad 20), e_X3 (ad 21) x.2.2.1), ((ad 21), eI cA 13 x.2.2.2.1), ((ad 26), e_X4 (ad 27) o2), ((ad 27), eI cA 12 x.2.2.2.2.2)]) (va_runVN (As := []) (rest := []) ⟨hx, hb, hml, hown, htg⟩ (c_X4_clear l D cA _ fu (ad 26) (ad 27) x.2.2.2.2.1 o2 ho3) ⟨va_cnB 0 htg (gU q_2_117) rfl rfl rfl (hN _ q_2_114) (htg _ q_1_7) hd_X4_clear.2 ⟨Nat.le_of_ble_eq_true rfl, Nat.le_of_ble_eq_true rfl⟩, htg _ q_2_116, htg _ q_p1_14⟩ (xpV hN hK hP hD [6] rfl (by decide) rfl rfl) rfl rfl hl.1 rfl (lv_room (Nat.le_of_ble_eq_true rfl)) dX5_findShortestYes_77 ⟨Nat.zero_le _, Nat.zero_le _⟩) hP hD hS hA [6] [0, 1, 2, 3, 4, 5, 7] [0, 1, 2, 3, 4, 5, 7, 6] rfl rfl (by decide) (by decide) rfl (by decide) (fun H locs hP hD hS => ?_)
        refine lv_aload_n hx hb dX5_findShortestYes_80 rfl (lv_at hl 0 rfl) ?_
        refine va_get (D := D) (ci := 5) (v := .ref (ad 26)) (C := RX5) (T := TX5) (N := 17) hx hb htg inX5 hown hK hP 0 rfl rfl 10 (by decide) (htg _ q_1_198) (fun _ h9 => h9) rfl dX5_findShortestYes_81 ?_
        refine lv_iload_n hx hb dX5_findShortestYes_84 rfl (lv_at hl 1 rfl) ?_
        obtain ⟨o4, ho5, hm⟩ := bd_s hm
        refine xr_v (wr := [((ad 0), e_X5 ad t), ((ad 1), e_X1 (ad 2) (ad 3) (ad 4) t_now), ((ad 2), eI cA 8 t_now_kinds), ((ad 4), eI cA 8 t_now_pitches), ((ad 20), e_X3 (ad 21) x.2.2.1), ((ad 21), eI cA 13 x.2.2.2.1)]) (wn := [((ad 0), e_X5 ad t), ((ad 1), e_X1 (ad 2) (ad 3) (ad 4) t_now), ((ad 2), eI cA 8 t_now_kinds), ((ad 4), eI cA 8 t_now_pitches), ((ad 20), e_X3 (ad 21) x.2.2.1), ((ad 21), eI cA 13 x.2.2.2.1), ((ad 26), e_X4 (ad 27) o4.1), ((ad 27), eI cA 12 o4.2)]) (va_runVN (As := [.int x.1]) (rest := []) ⟨hx, hb, hml, hown, htg⟩ (c_X4_add l D cA _ fu (ad 26) (ad 27) o2 x.2.2.2.2.2 x.1 o4 ho5) ⟨va_cnB 1 htg (gU q_2_121) rfl rfl rfl (hN _ q_2_118) (htg _ q_1_7) hd_X4_add.2 ⟨Nat.le_of_ble_eq_true rfl, Nat.le_of_ble_eq_true rfl⟩, htg _ q_2_120, htg _ q_p1_15⟩ (xpV hN hK hP hD [6, 7] rfl (by decide) rfl rfl) rfl rfl hl.1 rfl (lv_room (Nat.le_of_ble_eq_true rfl)) dX5_findShortestYes_85 ⟨Nat.zero_le _, Nat.zero_le _⟩) hP hD hS hA [6, 7] [0, 1, 2, 3, 4, 5] [0, 1, 2, 3, 4, 5, 6, 7] rfl rfl (by decide) (by decide) rfl (by decide) (fun H locs hP hD hS => ?_)
        refine lv_aload_n hx hb dX5_findShortestYes_88 rfl (lv_at hl 0 rfl) ?_
        refine va_get (D := D) (ci := 5) (v := .ref (ad 26)) (C := RX5) (T := TX5) (N := 17) hx hb htg inX5 hown hK hP 0 rfl rfl 10 (by decide) (htg _ q_1_198) (fun _ h9 => h9) rfl dX5_findShortestYes_89 ?_
        refine lv_iload_n hx hb dX5_findShortestYes_92 rfl (lv_at hl 2 rfl) ?_
        obtain ⟨o6, ho7, hm⟩ := bd_s hm
        refine xr_v (wr := [((ad 0), e_X5 ad t), ((ad 1), e_X1 (ad 2) (ad 3) (ad 4) t_now), ((ad 2), eI cA 8 t_now_kinds), ((ad 4), eI cA 8 t_now_pitches), ((ad 20), e_X3 (ad 21) x.2.2.1), ((ad 21), eI cA 13 x.2.2.2.1)]) (wn := [((ad 0), e_X5 ad t), ((ad 1), e_X1 (ad 2) (ad 3) (ad 4) t_now), ((ad 2), eI cA 8 t_now_kinds), ((ad 4), eI cA 8 t_now_pitches), ((ad 20), e_X3 (ad 21) x.2.2.1), ((ad 21), eI cA 13 x.2.2.2.1), ((ad 26), e_X4 (ad 27) o6.1), ((ad 27), eI cA 12 o6.2)]) (va_runVN (As := [.int x.2.1]) (rest := []) ⟨hx, hb, hml, hown, htg⟩ (c_X4_add l D cA _ fu (ad 26) (ad 27) o4.1 o4.2 x.2.1 o6 ho7) ⟨va_cnB 1 htg (gU q_2_121) rfl rfl rfl (hN _ q_2_118) (htg _ q_1_7) hd_X4_add.2 ⟨Nat.le_of_ble_eq_true rfl, Nat.le_of_ble_eq_true rfl⟩, htg _ q_2_120, htg _ q_p1_15⟩ (xpV hN hK hP hD [6, 7] rfl (by decide) rfl rfl) rfl rfl hl.1 rfl (lv_room (Nat.le_of_ble_eq_true rfl)) dX5_findShortestYes_93 ⟨Nat.zero_le _, Nat.zero_le _⟩) hP hD hS hA [6, 7] [0, 1, 2, 3, 4, 5] [0, 1, 2, 3, 4, 5, 6, 7] rfl rfl (by decide) (by decide) rfl (by decide) (fun H locs hP hD hS => ?_)
        refine lv_aload_n hx hb dX5_findShortestYes_96 rfl (lv_at hl 0 rfl) ?_
        refine va_get (D := D) (ci := 5) (v := .ref (ad 20)) (C := RX5) (T := TX5) (N := 17) hx hb htg inX5 hown hK hP 0 rfl rfl 7 (by decide) (htg _ q_1_195) (fun _ h9 => h9) rfl dX5_findShortestYes_97 ?_
        refine lv_aload_n hx hb dX5_findShortestYes_100 rfl (lv_at hl 0 rfl) ?_
        refine va_get (D := D) (ci := 5) (v := .ref (ad 26)) (C := RX5) (T := TX5) (N := 17) hx hb htg inX5 hown hK hP 0 rfl rfl 10 (by decide) (htg _ q_1_198) (fun _ h9 => h9) rfl dX5_findShortestYes_101 ?_
        obtain ⟨o8, ho9, hm⟩ := bd_s hm
        refine xr_i (wr := [((ad 0), e_X5 ad t), ((ad 1), e_X1 (ad 2) (ad 3) (ad 4) t_now), ((ad 2), eI cA 8 t_now_kinds), ((ad 4), eI cA 8 t_now_pitches)]) (wn := [((ad 0), e_X5 ad t), ((ad 1), e_X1 (ad 2) (ad 3) (ad 4) t_now), ((ad 2), eI cA 8 t_now_kinds), ((ad 4), eI cA 8 t_now_pitches), ((ad 20), e_X3 (ad 21) o8.2.1), ((ad 21), eI cA 13 o8.2.2), ((ad 26), e_X4 (ad 27) o6.1), ((ad 27), eI cA 12 o6.2)]) (va_runVN (As := [.ref (ad 26)]) (rest := []) ⟨hx, hb, hml, hown, htg⟩ (c_X3_weighs l D cA _ fu (ad 20) (ad 21) (ad 26) (ad 27) x.2.2.1 x.2.2.2.1 o6.1 o6.2 o8 ho9) ⟨va_cnB 1 htg (gU q_3_118) rfl rfl rfl (hN _ q_3_115) (htg _ q_1_6) hd_X3_weighs.2 ⟨Nat.le_of_ble_eq_true rfl, Nat.le_of_ble_eq_true rfl⟩, htg _ q_3_117, htg _ q_p3_11⟩ (xpV hN hK hP hD [4, 5, 6, 7] rfl (by decide) rfl rfl) rfl rfl hl.1 rfl (lv_room (Nat.le_of_ble_eq_true rfl)) dX5_findShortestYes_104 ⟨Nat.zero_le _, Nat.zero_le _⟩) hP hD hS hA [4, 5, 6, 7] [0, 1, 2, 3] [0, 1, 2, 3, 4, 5, 6, 7] rfl rfl (by decide) (by decide) rfl (by decide) (fun H locs hP hD hS => ?_)
        refine lv_iconst (v := (1 : Int32)) hx hb dX5_findShortestYes_107 (by decide) ?_
        refine lv_icmp_ne (tgt := 112) hx hb dX5_findShortestYes_108 (by decide) (fun c10 => ?_) (fun c10 => ?_)
        · have hm := it_f c10 hm
          refine lv_iinc (v := (x.2.1 + (1 : Int32))) (lv' := [(3, .int (x.2.1 + (1 : Int32))), (0, .ref (ad 0)), (2, .int x.1)]) hx hb dX5_findShortestYes_112 hl (k := 2) rfl rfl (by decide) rfl (fun ls hl => ?_)
          refine lv_goto (tgt := 67) hx hb dX5_findShortestYes_115 (by decide) ?_
          exact HK_67 _ _ _ _ hm hP hD hS (lv_sub hl [1, 2, 0] rfl)
        · have hm := it_t c10 hm
          rw [hQ]
          exact W.vret hx hb hr (fun t9 ht hW => ⟨⟨(o8.2.1, o8.2.2, o6.1, o6.2), rfl, (Option.some.inj hm), by rw [ht]; exact hP, va_K.moved hW.alike hK, hD⟩, hS.F ht⟩) hS.2.2 dX5_findShortestYes_111
  have B_59 : ∀ (n : Nat) (x : Int32 × (Nat → Int32) × (Nat → Int32) × (Nat → Int32) × (Nat → Int32)) (H : Heap) (locs : List Loc) (ls : Array Slot), lfix (b_X5_findShortestYes_59 fu t t_now t_now_kinds t_now_pitches) n x = some out → va_P D CL [((ad 0), e_X5 ad t), ((ad 1), e_X1 (ad 2) (ad 3) (ad 4) t_now), ((ad 2), eI cA 8 t_now_kinds), ((ad 4), eI cA 8 t_now_pitches), ((ad 20), e_X3 (ad 21) x.2.1), ((ad 21), eI cA 13 x.2.2.1), ((ad 26), e_X4 (ad 27) x.2.2.2.1), ((ad 27), eI cA 12 x.2.2.2.2)] H → va_D A [((ad 0), e_X5 ad t), ((ad 1), e_X1 (ad 2) (ad 3) (ad 4) t_now), ((ad 2), eI cA 8 t_now_kinds), ((ad 4), eI cA 8 t_now_pitches), ((ad 20), e_X3 (ad 21) x.2.1), ((ad 21), eI cA 13 x.2.2.1), ((ad 26), e_X4 (ad 27) x.2.2.2.1), ((ad 27), eI cA 12 x.2.2.2.2)] → va_S A s.heap H locs → lv_has ls 4 [(0, .ref (ad 0)), (2, .int x.1)] → W p l e rm_X5_findShortestYes s m args below meth c H locs 0 0 Q (F0 m 59 ls []) := by
    intro  n
    induction n with
    | zero => intro x H locs ls hm; cases (show none = some out from hm)
    | succ n HK_59 =>
      intro x H locs ls hm hP hD hS hl
      replace hm : b_X5_findShortestYes_59 fu t t_now t_now_kinds t_now_pitches (lfix (b_X5_findShortestYes_59 fu t t_now t_now_kinds t_now_pitches) n) x = some out := hm
      unfold b_X5_findShortestYes_59 at hm
      refine lv_iload_n hx hb dX5_findShortestYes_59 rfl (lv_at hl 1 rfl) ?_
      refine lv_bipush (v := (40 : Int32)) hx hb dX5_findShortestYes_60 (by decide) ?_
      refine lv_icmp_ge (tgt := 124) hx hb dX5_findShortestYes_62 (by decide) (fun c11 => ?_) (fun c11 => ?_)
      · have hm := it_t c11 hm
        refine lv_aload_n hx hb dX5_findShortestYes_124 rfl (lv_at hl 0 rfl) ?_
        refine va_get (D := D) (ci := 5) (v := .ref (ad 26)) (C := RX5) (T := TX5) (N := 17) hx hb htg inX5 hown hK hP 0 rfl rfl 10 (by decide) (htg _ q_1_198) (fun _ h9 => h9) rfl dX5_findShortestYes_125 ?_
        obtain ⟨o12, ho13, hm⟩ := bd_s hm
        refine xr_v (wr := [((ad 0), e_X5 ad t), ((ad 1), e_X1 (ad 2) (ad 3) (ad 4) t_now), ((ad 2), eI cA 8 t_now_kinds), ((ad 4), eI cA 8 t_now_pitches), ((ad 20), e_X3 (ad 21) x.2.1), ((ad 21), eI cA 13 x.2.2.1), ((ad 27), eI cA 12 x.2.2.2.2)]) (wn := [((ad 0), e_X5 ad t), ((ad 1), e_X1 (ad 2) (ad 3) (ad 4) t_now), ((ad 2), eI cA 8 t_now_kinds), ((ad 4), eI cA 8 t_now_pitches), ((ad 20), e_X3 (ad 21) x.2.1), ((ad 21), eI cA 13 x.2.2.1), ((ad 26), e_X4 (ad 27) o12), ((ad 27), eI cA 12 x.2.2.2.2)]) (va_runVN (As := []) (rest := []) ⟨hx, hb, hml, hown, htg⟩ (c_X4_clear l D cA _ fu (ad 26) (ad 27) x.2.2.2.1 o12 ho13) ⟨va_cnB 0 htg (gU q_2_117) rfl rfl rfl (hN _ q_2_114) (htg _ q_1_7) hd_X4_clear.2 ⟨Nat.le_of_ble_eq_true rfl, Nat.le_of_ble_eq_true rfl⟩, htg _ q_2_116, htg _ q_p1_14⟩ (xpV hN hK hP hD [6] rfl (by decide) rfl rfl) rfl rfl hl.1 rfl (lv_room (Nat.le_of_ble_eq_true rfl)) dX5_findShortestYes_128 ⟨Nat.zero_le _, Nat.zero_le _⟩) hP hD hS hA [6] [0, 1, 2, 3, 4, 5, 7] [0, 1, 2, 3, 4, 5, 7, 6] rfl rfl (by decide) (by decide) rfl (by decide) (fun H locs hP hD hS => ?_)
        rw [hQ]
        exact W.vret hx hb hr (fun t9 ht hW => ⟨⟨(x.2.1, x.2.2.1, o12, x.2.2.2.2), rfl, (Option.some.inj hm), by rw [ht]; exact hP, va_K.moved hW.alike hK, hD⟩, hS.F ht⟩) hS.2.2 dX5_findShortestYes_131
      · have hm := it_f c11 hm
        refine lv_iconst (v := (0 : Int32)) hx hb dX5_findShortestYes_65 (by decide) ?_
        refine lv_istore_n (lv' := [(3, .int (0 : Int32)), (0, .ref (ad 0)), (2, .int x.1)]) hx hb dX5_findShortestYes_66 rfl hl (by decide) rfl (fun ls hl => ?_)
        exact B_67 _ HK_59 fu _ _ _ _ hm hP hD hS (lv_sub hl [1, 2, 0] rfl)
  have B_14 : ∀ (n : Nat) (x : Int32 × (Nat → Int32) × (Nat → Int32) × (Nat → Int32) × (Nat → Int32)) (H : Heap) (locs : List Loc) (ls : Array Slot), lfix (b_X5_findShortestYes_14 fu t t_now t_now_kinds t_now_pitches) n x = some out → va_P D CL [((ad 0), e_X5 ad t), ((ad 1), e_X1 (ad 2) (ad 3) (ad 4) t_now), ((ad 2), eI cA 8 t_now_kinds), ((ad 4), eI cA 8 t_now_pitches), ((ad 20), e_X3 (ad 21) x.2.1), ((ad 21), eI cA 13 x.2.2.1), ((ad 26), e_X4 (ad 27) x.2.2.2.1), ((ad 27), eI cA 12 x.2.2.2.2)] H → va_D A [((ad 0), e_X5 ad t), ((ad 1), e_X1 (ad 2) (ad 3) (ad 4) t_now), ((ad 2), eI cA 8 t_now_kinds), ((ad 4), eI cA 8 t_now_pitches), ((ad 20), e_X3 (ad 21) x.2.1), ((ad 21), eI cA 13 x.2.2.1), ((ad 26), e_X4 (ad 27) x.2.2.2.1), ((ad 27), eI cA 12 x.2.2.2.2)] → va_S A s.heap H locs → lv_has ls 4 [(0, .ref (ad 0)), (2, .int x.1)] → W p l e rm_X5_findShortestYes s m args below meth c H locs 0 0 Q (F0 m 14 ls []) := by
    intro  n
    induction n with
    | zero => intro x H locs ls hm; cases (show none = some out from hm)
    | succ n HK_14 =>
      intro x H locs ls hm hP hD hS hl
      replace hm : b_X5_findShortestYes_14 fu t t_now t_now_kinds t_now_pitches (lfix (b_X5_findShortestYes_14 fu t t_now t_now_kinds t_now_pitches) n) x = some out := hm
      unfold b_X5_findShortestYes_14 at hm
      refine lv_iload_n hx hb dX5_findShortestYes_14 rfl (lv_at hl 1 rfl) ?_
      refine lv_bipush (v := (40 : Int32)) hx hb dX5_findShortestYes_15 (by decide) ?_
      refine lv_icmp_ge (tgt := 57) hx hb dX5_findShortestYes_17 (by decide) (fun c14 => ?_) (fun c14 => ?_)
      · have hm := it_t c14 hm
        refine lv_iconst (v := (0 : Int32)) hx hb dX5_findShortestYes_57 (by decide) ?_
        refine lv_istore_n (lv' := [(2, .int (0 : Int32)), (0, .ref (ad 0))]) hx hb dX5_findShortestYes_58 rfl hl (by decide) rfl (fun ls hl => ?_)
        exact B_59 fu _ _ _ _ hm hP hD hS (lv_sub hl [1, 0] rfl)
      · have hm := it_f c14 hm
        refine lv_aload_n hx hb dX5_findShortestYes_20 rfl (lv_at hl 0 rfl) ?_
        refine va_get (D := D) (ci := 5) (v := .ref (ad 26)) (C := RX5) (T := TX5) (N := 17) hx hb htg inX5 hown hK hP 0 rfl rfl 10 (by decide) (htg _ q_1_198) (fun _ h9 => h9) rfl dX5_findShortestYes_21 ?_
        obtain ⟨o15, ho16, hm⟩ := bd_s hm
        refine xr_v (wr := [((ad 0), e_X5 ad t), ((ad 1), e_X1 (ad 2) (ad 3) (ad 4) t_now), ((ad 2), eI cA 8 t_now_kinds), ((ad 4), eI cA 8 t_now_pitches), ((ad 20), e_X3 (ad 21) x.2.1), ((ad 21), eI cA 13 x.2.2.1), ((ad 27), eI cA 12 x.2.2.2.2)]) (wn := [((ad 0), e_X5 ad t), ((ad 1), e_X1 (ad 2) (ad 3) (ad 4) t_now), ((ad 2), eI cA 8 t_now_kinds), ((ad 4), eI cA 8 t_now_pitches), ((ad 20), e_X3 (ad 21) x.2.1), ((ad 21), eI cA 13 x.2.2.1), ((ad 26), e_X4 (ad 27) o15), ((ad 27), eI cA 12 x.2.2.2.2)]) (va_runVN (As := []) (rest := []) ⟨hx, hb, hml, hown, htg⟩ (c_X4_clear l D cA _ fu (ad 26) (ad 27) x.2.2.2.1 o15 ho16) ⟨va_cnB 0 htg (gU q_2_117) rfl rfl rfl (hN _ q_2_114) (htg _ q_1_7) hd_X4_clear.2 ⟨Nat.le_of_ble_eq_true rfl, Nat.le_of_ble_eq_true rfl⟩, htg _ q_2_116, htg _ q_p1_14⟩ (xpV hN hK hP hD [6] rfl (by decide) rfl rfl) rfl rfl hl.1 rfl (lv_room (Nat.le_of_ble_eq_true rfl)) dX5_findShortestYes_24 ⟨Nat.zero_le _, Nat.zero_le _⟩) hP hD hS hA [6] [0, 1, 2, 3, 4, 5, 7] [0, 1, 2, 3, 4, 5, 7, 6] rfl rfl (by decide) (by decide) rfl (by decide) (fun H locs hP hD hS => ?_)
        refine lv_aload_n hx hb dX5_findShortestYes_27 rfl (lv_at hl 0 rfl) ?_
        refine va_get (D := D) (ci := 5) (v := .ref (ad 26)) (C := RX5) (T := TX5) (N := 17) hx hb htg inX5 hown hK hP 0 rfl rfl 10 (by decide) (htg _ q_1_198) (fun _ h9 => h9) rfl dX5_findShortestYes_28 ?_
        refine lv_iload_n hx hb dX5_findShortestYes_31 rfl (lv_at hl 1 rfl) ?_
        obtain ⟨o17, ho18, hm⟩ := bd_s hm
        refine xr_v (wr := [((ad 0), e_X5 ad t), ((ad 1), e_X1 (ad 2) (ad 3) (ad 4) t_now), ((ad 2), eI cA 8 t_now_kinds), ((ad 4), eI cA 8 t_now_pitches), ((ad 20), e_X3 (ad 21) x.2.1), ((ad 21), eI cA 13 x.2.2.1)]) (wn := [((ad 0), e_X5 ad t), ((ad 1), e_X1 (ad 2) (ad 3) (ad 4) t_now), ((ad 2), eI cA 8 t_now_kinds), ((ad 4), eI cA 8 t_now_pitches), ((ad 20), e_X3 (ad 21) x.2.1), ((ad 21), eI cA 13 x.2.2.1), ((ad 26), e_X4 (ad 27) o17.1), ((ad 27), eI cA 12 o17.2)]) (va_runVN (As := [.int x.1]) (rest := []) ⟨hx, hb, hml, hown, htg⟩ (c_X4_add l D cA _ fu (ad 26) (ad 27) o15 x.2.2.2.2 x.1 o17 ho18) ⟨va_cnB 1 htg (gU q_2_121) rfl rfl rfl (hN _ q_2_118) (htg _ q_1_7) hd_X4_add.2 ⟨Nat.le_of_ble_eq_true rfl, Nat.le_of_ble_eq_true rfl⟩, htg _ q_2_120, htg _ q_p1_15⟩ (xpV hN hK hP hD [6, 7] rfl (by decide) rfl rfl) rfl rfl hl.1 rfl (lv_room (Nat.le_of_ble_eq_true rfl)) dX5_findShortestYes_32 ⟨Nat.zero_le _, Nat.zero_le _⟩) hP hD hS hA [6, 7] [0, 1, 2, 3, 4, 5] [0, 1, 2, 3, 4, 5, 6, 7] rfl rfl (by decide) (by decide) rfl (by decide) (fun H locs hP hD hS => ?_)
        refine lv_aload_n hx hb dX5_findShortestYes_35 rfl (lv_at hl 0 rfl) ?_
        refine va_get (D := D) (ci := 5) (v := .ref (ad 20)) (C := RX5) (T := TX5) (N := 17) hx hb htg inX5 hown hK hP 0 rfl rfl 7 (by decide) (htg _ q_1_195) (fun _ h9 => h9) rfl dX5_findShortestYes_36 ?_
        refine lv_aload_n hx hb dX5_findShortestYes_39 rfl (lv_at hl 0 rfl) ?_
        refine va_get (D := D) (ci := 5) (v := .ref (ad 26)) (C := RX5) (T := TX5) (N := 17) hx hb htg inX5 hown hK hP 0 rfl rfl 10 (by decide) (htg _ q_1_198) (fun _ h9 => h9) rfl dX5_findShortestYes_40 ?_
        obtain ⟨o19, ho20, hm⟩ := bd_s hm
        refine xr_i (wr := [((ad 0), e_X5 ad t), ((ad 1), e_X1 (ad 2) (ad 3) (ad 4) t_now), ((ad 2), eI cA 8 t_now_kinds), ((ad 4), eI cA 8 t_now_pitches)]) (wn := [((ad 0), e_X5 ad t), ((ad 1), e_X1 (ad 2) (ad 3) (ad 4) t_now), ((ad 2), eI cA 8 t_now_kinds), ((ad 4), eI cA 8 t_now_pitches), ((ad 20), e_X3 (ad 21) o19.2.1), ((ad 21), eI cA 13 o19.2.2), ((ad 26), e_X4 (ad 27) o17.1), ((ad 27), eI cA 12 o17.2)]) (va_runVN (As := [.ref (ad 26)]) (rest := []) ⟨hx, hb, hml, hown, htg⟩ (c_X3_weighs l D cA _ fu (ad 20) (ad 21) (ad 26) (ad 27) x.2.1 x.2.2.1 o17.1 o17.2 o19 ho20) ⟨va_cnB 1 htg (gU q_3_118) rfl rfl rfl (hN _ q_3_115) (htg _ q_1_6) hd_X3_weighs.2 ⟨Nat.le_of_ble_eq_true rfl, Nat.le_of_ble_eq_true rfl⟩, htg _ q_3_117, htg _ q_p3_11⟩ (xpV hN hK hP hD [4, 5, 6, 7] rfl (by decide) rfl rfl) rfl rfl hl.1 rfl (lv_room (Nat.le_of_ble_eq_true rfl)) dX5_findShortestYes_43 ⟨Nat.zero_le _, Nat.zero_le _⟩) hP hD hS hA [4, 5, 6, 7] [0, 1, 2, 3] [0, 1, 2, 3, 4, 5, 6, 7] rfl rfl (by decide) (by decide) rfl (by decide) (fun H locs hP hD hS => ?_)
        refine lv_iconst (v := (1 : Int32)) hx hb dX5_findShortestYes_46 (by decide) ?_
        refine lv_icmp_ne (tgt := 51) hx hb dX5_findShortestYes_47 (by decide) (fun c21 => ?_) (fun c21 => ?_)
        · have hm := it_f c21 hm
          refine lv_iinc (v := (x.1 + (1 : Int32))) (lv' := [(2, .int (x.1 + (1 : Int32))), (0, .ref (ad 0))]) hx hb dX5_findShortestYes_51 hl (k := 1) rfl rfl (by decide) rfl (fun ls hl => ?_)
          refine lv_goto (tgt := 14) hx hb dX5_findShortestYes_54 (by decide) ?_
          exact HK_14 _ _ _ _ hm hP hD hS (lv_sub hl [1, 0] rfl)
        · have hm := it_t c21 hm
          rw [hQ]
          exact W.vret hx hb hr (fun t9 ht hW => ⟨⟨(o19.2.1, o19.2.2, o17.1, o17.2), rfl, (Option.some.inj hm), by rw [ht]; exact hP, va_K.moved hW.alike hK, hD⟩, hS.F ht⟩) hS.2.2 dX5_findShortestYes_50
  unfold m_X5_findShortestYes at hm
  subst hargs
  have hl := lv_entry ([.ref (ad 0), .int l1]) (n := 4) (Nat.le_of_ble_eq_true rfl)
  rw [lg_entry_eq]
  generalize (lg_sl ([.ref (ad 0), .int l1]) ++ List.replicate (4 - (lg_sl ([.ref (ad 0), .int l1])).length) Slot.unset).toArray = ls at hl ⊢
  have hl : lv_has ls 4 [(0, .ref (ad 0)), (1, .int l1)] := hl
  refine lv_aload_n hx hb dX5_findShortestYes_0 rfl (lv_at hl 0 rfl) ?_
  refine va_get (D := D) (ci := 5) (v := .ref (ad 20)) (C := RX5) (T := TX5) (N := 17) hx hb htg inX5 hown hK hP 0 rfl rfl 7 (by decide) (htg _ q_1_195) (fun _ h9 => h9) rfl dX5_findShortestYes_1 ?_
  refine lv_aload_n hx hb dX5_findShortestYes_4 rfl (lv_at hl 0 rfl) ?_
  refine va_get (D := D) (ci := 5) (v := .ref (ad 1)) (C := RX5) (T := TX5) (N := 17) hx hb htg inX5 hown hK hP 0 rfl rfl 0 (by decide) (htg _ q_1_188) (fun _ h9 => h9) rfl dX5_findShortestYes_5 ?_
  refine lv_iload_n hx hb dX5_findShortestYes_8 rfl (lv_at hl 1 rfl) ?_
  obtain ⟨o22, ho23, hm⟩ := bd_s hm
  refine xr_v (wr := [((ad 0), e_X5 ad t), ((ad 21), eI cA 13 t_trial_heard), ((ad 26), e_X4 (ad 27) t_tried), ((ad 27), eI cA 12 t_tried_sounds)]) (wn := [((ad 0), e_X5 ad t), ((ad 1), e_X1 (ad 2) (ad 3) (ad 4) t_now), ((ad 2), eI cA 8 t_now_kinds), ((ad 4), eI cA 8 t_now_pitches), ((ad 20), e_X3 (ad 21) o22), ((ad 21), eI cA 13 t_trial_heard), ((ad 26), e_X4 (ad 27) t_tried), ((ad 27), eI cA 12 t_tried_sounds)]) (va_runVN (As := [.ref (ad 1), .int l1]) (rest := []) ⟨hx, hb, hml, hown, htg⟩ (c_X3_standsFor l D cA _ fu (ad 20) (ad 21) (ad 1) (ad 2) (ad 3) (ad 4) t_trial t_now t_now_kinds t_now_pitches l1 o22 ho23) ⟨va_cnB 2 htg (gU q_2_126) rfl rfl rfl (hN _ q_2_123) (htg _ q_1_6) hd_X3_standsFor.2 ⟨Nat.le_of_ble_eq_true rfl, Nat.le_of_ble_eq_true rfl⟩, htg _ q_2_125, htg _ q_p2_0⟩ (xpV hN hK hP hD [4, 1, 2, 3] rfl (by decide) rfl rfl) rfl rfl hl.1 rfl (lv_room (Nat.le_of_ble_eq_true rfl)) dX5_findShortestYes_9 ⟨Nat.zero_le _, Nat.zero_le _⟩) hP hD hS hA [4, 1, 2, 3] [0, 5, 6, 7] [0, 5, 6, 7, 4, 1, 2, 3] rfl rfl (by decide) (by decide) rfl (by decide) (fun H locs hP hD hS => ?_)
  refine lv_iconst (v := (0 : Int32)) hx hb dX5_findShortestYes_12 (by decide) ?_
  refine lv_istore_n (lv' := [(2, .int (0 : Int32)), (0, .ref (ad 0)), (1, .int l1)]) hx hb dX5_findShortestYes_13 rfl hl (by decide) rfl (fun ls hl => ?_)
  exact B_14 fu _ _ _ _ hm hP hD hS (lv_sub hl [1, 0] rfl)
def b_X5_ask_13 (fu : Nat) (t : Nat → Int32) (t_now : Nat → Int32) (t_now_kinds : Nat → Int32) (t_now_pitches : Nat → Int32) (t_refusals : Nat → Int32) (t_trial : Nat → Int32) (t_trial_heard : Nat → Int32) (t_tried : Nat → Int32) (t_tried_sounds : Nat → Int32) : Option (Int32 × ((Nat → Int32) × (Nat → Int32) × (Nat → Int32) × (Nat → Int32) × (Nat → Int32))) :=
  (m_X5_refuse fu t t_refusals (-2 : Int32)).bind fun o1 =>
    some (o1.1, (o1.2, t_trial, t_trial_heard, t_tried, t_tried_sounds))
def b_X5_ask_80 (fu : Nat) (t : Nat → Int32) (t_now : Nat → Int32) (t_now_kinds : Nat → Int32) (t_now_pitches : Nat → Int32) (s0 : Int32) (t_refusals : Nat → Int32) (t_trial : Nat → Int32) (t_trial_heard : Nat → Int32) (t_tried : Nat → Int32) (t_tried_sounds : Nat → Int32) : Option (Int32 × ((Nat → Int32) × (Nat → Int32) × (Nat → Int32) × (Nat → Int32) × (Nat → Int32))) :=
  some (s0, (t_refusals, t_trial, t_trial_heard, t_tried, t_tried_sounds))
def b_X5_ask_51 (fu : Nat) (t : Nat → Int32) (t_now : Nat → Int32) (t_now_kinds : Nat → Int32) (t_now_pitches : Nat → Int32) (s0 : Int32) (t_refusals : Nat → Int32) (t_trial : Nat → Int32) (t_trial_heard : Nat → Int32) (t_tried : Nat → Int32) (t_tried_sounds : Nat → Int32) : Option (Int32 × ((Nat → Int32) × (Nat → Int32) × (Nat → Int32) × (Nat → Int32) × (Nat → Int32))) :=
  some (s0, (t_refusals, t_trial, t_trial_heard, t_tried, t_tried_sounds))
def m_X5_ask (fu : Nat) (t : Nat → Int32) (t_now : Nat → Int32) (t_now_kinds : Nat → Int32) (t_now_pitches : Nat → Int32) (t_refusals : Nat → Int32) (t_trial : Nat → Int32) (t_trial_heard : Nat → Int32) (t_tried : Nat → Int32) (t_tried_sounds : Nat → Int32) (l1 : Int32) (l2 : Int32) : Option (Int32 × ((Nat → Int32) × (Nat → Int32) × (Nat → Int32) × (Nat → Int32) × (Nat → Int32))) :=
  (m_X5_isVoice fu t t_now l1).bind fun o3 =>
  (if o3.1 = 0 then
    b_X5_ask_13 fu t t_now t_now_kinds t_now_pitches t_refusals t_trial t_trial_heard t_tried t_tried_sounds
  else
    (if (-1 : Int32) ≤ l2 then
      (m_X5_findShortestYes fu t t_now t_now_kinds t_now_pitches t_trial t_trial_heard t_tried t_tried_sounds l1).bind fun o7 =>
      (if l2 = (-1 : Int32) then
        (if o7.2.2.1 1 = 0 then
          b_X5_ask_51 fu t t_now t_now_kinds t_now_pitches (-1 : Int32) t_refusals o7.1 o7.2.1 o7.2.2.1 o7.2.2.2
        else
          b_X5_ask_51 fu t t_now t_now_kinds t_now_pitches (o7.2.2.1 1) t_refusals o7.1 o7.2.1 o7.2.2.1 o7.2.2.2)
      else
        (if o7.2.2.1 1 ≤ l2 then
          (m_X5_refuse fu t t_refusals (-5 : Int32)).bind fun o11 =>
          b_X5_ask_80 fu t t_now t_now_kinds t_now_pitches o11.1 o11.2 o7.1 o7.2.1 o7.2.2.1 o7.2.2.2
        else
          (m_X4_soundAt fu o7.2.2.1 o7.2.2.2 l2).bind fun o13 =>
          b_X5_ask_80 fu t t_now t_now_kinds t_now_pitches o13.1 t_refusals o7.1 o7.2.1 o7.2.2.1 o7.2.2.2))
    else
      b_X5_ask_13 fu t t_now t_now_kinds t_now_pitches t_refusals t_trial t_trial_heard t_tried t_tried_sounds))
abbrev rm_X5_ask : Room := ({ frames := 6, cells := 0, slots := 0, locals := 132 } : Room)
abbrev w0_X5_ask (cA : Nat → ClassId) (ad : Nat → Nat) (t : Nat → Int32) (t_now : Nat → Int32) (t_now_kinds : Nat → Int32) (t_now_pitches : Nat → Int32) (t_refusals : Nat → Int32) (t_trial : Nat → Int32) (t_trial_heard : Nat → Int32) (t_tried : Nat → Int32) (t_tried_sounds : Nat → Int32) : va_W := [((ad 0), e_X5 ad t), ((ad 1), e_X1 (ad 2) (ad 3) (ad 4) t_now), ((ad 2), eI cA 8 t_now_kinds), ((ad 4), eI cA 8 t_now_pitches), ((ad 19), eI cA 5 t_refusals), ((ad 20), e_X3 (ad 21) t_trial), ((ad 21), eI cA 13 t_trial_heard), ((ad 26), e_X4 (ad 27) t_tried), ((ad 27), eI cA 12 t_tried_sounds)]
abbrev w1_X5_ask (cA : Nat → ClassId) (ad : Nat → Nat) (t : Nat → Int32) (t_now : Nat → Int32) (t_now_kinds : Nat → Int32) (t_now_pitches : Nat → Int32) (u : (Nat → Int32) × (Nat → Int32) × (Nat → Int32) × (Nat → Int32) × (Nat → Int32)) : va_W := [((ad 0), e_X5 ad t), ((ad 1), e_X1 (ad 2) (ad 3) (ad 4) t_now), ((ad 2), eI cA 8 t_now_kinds), ((ad 4), eI cA 8 t_now_pitches), ((ad 19), eI cA 5 u.1), ((ad 20), e_X3 (ad 21) u.2.1), ((ad 21), eI cA 13 u.2.2.1), ((ad 26), e_X4 (ad 27) u.2.2.2.1), ((ad 27), eI cA 12 u.2.2.2.2)]
theorem hd_X5_ask : yX5_ask.cls = RX5 ∧ yX5_ask.cls ≠ "java/lang/invoke/MethodHandle" ∧ yX5_ask.cls ≠ "java/lang/invoke/VarHandle" ∧ (parseMethodDescriptor yX5_ask.desc).map (fun d => d.parameters.length) = some 2 := by decide +kernel
set_option maxHeartbeats 40000000 in
set_option maxRecDepth 100000 in
theorem c_X5_ask (l : Launch) (D : va_G) (cA : Nat → ClassId) (sz : Nat) (fu : Nat) (ad : Nat → Nat) (t : Nat → Int32) (t_now : Nat → Int32) (t_now_kinds : Nat → Int32) (t_now_pitches : Nat → Int32) (t_refusals : Nat → Int32) (t_trial : Nat → Int32) (t_trial_heard : Nat → Int32) (t_tried : Nat → Int32) (t_tried_sounds : Nat → Int32) (l1 : Int32) (l2 : Int32) (out : Int32 × ((Nat → Int32) × (Nat → Int32) × (Nat → Int32) × (Nat → Int32) × (Nat → Int32))) (hm : m_X5_ask fu t t_now t_now_kinds t_now_pitches t_refusals t_trial t_trial_heard t_tried t_tried_sounds l1 l2 = some out) : MI l yX5_ask (wU yX5_ask cX5_ask 3 ((Option.some Jvm.ClassFile.FieldType.int))) rm_X5_ask D cA sz [.ref (ad 0), .int l1, .int l2] (w0_X5_ask cA ad t t_now t_now_kinds t_now_pitches t_refusals t_trial t_trial_heard t_tried t_tried_sounds) out (w1_X5_ask cA ad t t_now t_now_kinds t_now_pitches) := by
  refine Met.ofW (cc := cX5_ask) (maxL := 3) (ret := (Option.some Jvm.ClassFile.FieldType.int)) (by decide) rfl ?_
  intro p e s m args below meth c s₁ B hml hv
  obtain ⟨hargs, hsz, hP, hK, hD0, hN⟩ := hv
  have hx := B.exec
  have hb := B.bytes
  have hr := B.returns
  have htg : ∀ w ∈ gw, w.before args s = true := fun w h => atoms_spec (ws := wU yX5_ask cX5_ask 3 ((Option.some Jvm.ClassFile.FieldType.int))) B.pre w (List.mem_cons_of_mem _ h)
  have hown : s.vm.findClass RX5 = some m.cls := findClass_of_methodNamed B.named
  have hlocks := B.notSynchronized
  subst hsz
  have hD := hD0.self (sz := s.heap.size)
  have hA : ∀ q : Nat, s.heap.size ≤ q → va_A (w0_X5_ask cA ad t t_now t_now_kinds t_now_pitches t_refusals t_trial t_trial_heard t_tried t_tried_sounds) s.heap.size q := fun q h => Or.inr h
  have hS : va_S (va_A (w0_X5_ask cA ad t t_now t_now_kinds t_now_pitches t_refusals t_trial t_trial_heard t_tried t_tried_sounds) s.heap.size) s.heap s.heap [] := va_S.rf
  generalize va_A (w0_X5_ask cA ad t t_now t_now_kinds t_now_pitches t_refusals t_trial t_trial_heard t_tried t_tried_sounds) s.heap.size = A at hA hD hS ⊢
  obtain ⟨Q, hQ⟩ : ∃ Q : State → Prop, Q = MQ below (va_Qi (fun (r : Int32) (u : (Nat → Int32) × (Nat → Int32) × (Nat → Int32) × (Nat → Int32) × (Nat → Int32)) => (r, u) = out) (pst0 D cA A (w1_X5_ask cA ad t t_now t_now_kinds t_now_pitches)) A) args s 0 0 A := ⟨_, rfl⟩
  refine (?_ : W p l e rm_X5_ask s m args below meth c s.heap [] 0 0 (MQ below (va_Qi (fun (r : Int32) (u : (Nat → Int32) × (Nat → Int32) × (Nat → Int32) × (Nat → Int32) × (Nat → Int32)) => (r, u) = out) (pst0 D cA A (w1_X5_ask cA ad t t_now t_now_kinds t_now_pitches)) A) args s 0 0 A) (entryFrame m args 3))
  rw [← hQ]
  have hP : va_P D CL [((ad 0), e_X5 ad t), ((ad 1), e_X1 (ad 2) (ad 3) (ad 4) t_now), ((ad 2), eI cA 8 t_now_kinds), ((ad 4), eI cA 8 t_now_pitches), ((ad 19), eI cA 5 t_refusals), ((ad 20), e_X3 (ad 21) t_trial), ((ad 21), eI cA 13 t_trial_heard), ((ad 26), e_X4 (ad 27) t_tried), ((ad 27), eI cA 12 t_tried_sounds)] s.heap := hP
  have hD : va_D A [((ad 0), e_X5 ad t), ((ad 1), e_X1 (ad 2) (ad 3) (ad 4) t_now), ((ad 2), eI cA 8 t_now_kinds), ((ad 4), eI cA 8 t_now_pitches), ((ad 19), eI cA 5 t_refusals), ((ad 20), e_X3 (ad 21) t_trial), ((ad 21), eI cA 13 t_trial_heard), ((ad 26), e_X4 (ad 27) t_tried), ((ad 27), eI cA 12 t_tried_sounds)] := hD
  have B_13 : ∀ (t_refusals : Nat → Int32) (t_trial : Nat → Int32) (t_trial_heard : Nat → Int32) (t_tried : Nat → Int32) (t_tried_sounds : Nat → Int32) (H : Heap) (locs : List Loc) (ls : Array Slot), b_X5_ask_13 fu t t_now t_now_kinds t_now_pitches t_refusals t_trial t_trial_heard t_tried t_tried_sounds = some out → va_P D CL [((ad 0), e_X5 ad t), ((ad 1), e_X1 (ad 2) (ad 3) (ad 4) t_now), ((ad 2), eI cA 8 t_now_kinds), ((ad 4), eI cA 8 t_now_pitches), ((ad 19), eI cA 5 t_refusals), ((ad 20), e_X3 (ad 21) t_trial), ((ad 21), eI cA 13 t_trial_heard), ((ad 26), e_X4 (ad 27) t_tried), ((ad 27), eI cA 12 t_tried_sounds)] H → va_D A [((ad 0), e_X5 ad t), ((ad 1), e_X1 (ad 2) (ad 3) (ad 4) t_now), ((ad 2), eI cA 8 t_now_kinds), ((ad 4), eI cA 8 t_now_pitches), ((ad 19), eI cA 5 t_refusals), ((ad 20), e_X3 (ad 21) t_trial), ((ad 21), eI cA 13 t_trial_heard), ((ad 26), e_X4 (ad 27) t_tried), ((ad 27), eI cA 12 t_tried_sounds)] → va_S A s.heap H locs → lv_has ls 3 [(0, .ref (ad 0))] → W p l e rm_X5_ask s m args below meth c H locs 0 0 Q (F0 m 13 ls []) := by
    intro  t_refusals t_trial t_trial_heard t_tried t_tried_sounds H locs ls hm hP hD hS hl
    unfold b_X5_ask_13 at hm
    refine lv_aload_n hx hb dX5_ask_13 rfl (lv_at hl 0 rfl) ?_
    refine lv_bipush (v := (-2 : Int32)) hx hb dX5_ask_14 (by decide) ?_
    obtain ⟨o1, ho2, hm⟩ := bd_s hm
    refine xr_i (wr := [((ad 1), e_X1 (ad 2) (ad 3) (ad 4) t_now), ((ad 2), eI cA 8 t_now_kinds), ((ad 4), eI cA 8 t_now_pitches), ((ad 20), e_X3 (ad 21) t_trial), ((ad 21), eI cA 13 t_trial_heard), ((ad 26), e_X4 (ad 27) t_tried), ((ad 27), eI cA 12 t_tried_sounds)]) (wn := [((ad 0), e_X5 ad t), ((ad 1), e_X1 (ad 2) (ad 3) (ad 4) t_now), ((ad 2), eI cA 8 t_now_kinds), ((ad 4), eI cA 8 t_now_pitches), ((ad 19), eI cA 5 o1.2), ((ad 20), e_X3 (ad 21) t_trial), ((ad 21), eI cA 13 t_trial_heard), ((ad 26), e_X4 (ad 27) t_tried), ((ad 27), eI cA 12 t_tried_sounds)]) (va_runV (As := [.int (-2 : Int32)]) (rest := []) ⟨hx, hb, hml, hown, htg⟩ (c_X5_refuse l D cA _ fu ad t t_refusals (-2 : Int32) o1 ho2) (cwV 1 htg (gV q_2_10 q_2_12 q_p1_0 q_1_1 q_2_13) rfl rfl rfl hd_X5_refuse ⟨Nat.le_of_ble_eq_true rfl, Nat.le_of_ble_eq_true rfl⟩) (xpV hN hK hP hD [0, 4] rfl (by decide) rfl rfl) rfl rfl hl.1 rfl (lv_room (Nat.le_of_ble_eq_true rfl)) dX5_ask_16 ⟨Nat.zero_le _, Nat.zero_le _⟩) hP hD hS hA [0, 4] [1, 2, 3, 5, 6, 7, 8] [7, 0, 1, 2, 8, 3, 4, 5, 6] rfl rfl (by decide) (by decide) rfl (by decide) (fun H locs hP hD hS => ?_)
    rw [hQ]
    exact W.iret (v := o1.1) hx hb hr (fun t9 ht hW => ⟨⟨o1.1, (o1.2, t_trial, t_trial_heard, t_tried, t_tried_sounds), rfl, (Option.some.inj hm), by rw [ht]; exact hP, va_K.moved hW.alike hK, hD⟩, hS.F ht⟩) hS.2.2 dX5_ask_19
  have B_80 : ∀ (s0 : Int32) (t_refusals : Nat → Int32) (t_trial : Nat → Int32) (t_trial_heard : Nat → Int32) (t_tried : Nat → Int32) (t_tried_sounds : Nat → Int32) (H : Heap) (locs : List Loc) (ls : Array Slot), b_X5_ask_80 fu t t_now t_now_kinds t_now_pitches s0 t_refusals t_trial t_trial_heard t_tried t_tried_sounds = some out → va_P D CL [((ad 0), e_X5 ad t), ((ad 1), e_X1 (ad 2) (ad 3) (ad 4) t_now), ((ad 2), eI cA 8 t_now_kinds), ((ad 4), eI cA 8 t_now_pitches), ((ad 19), eI cA 5 t_refusals), ((ad 20), e_X3 (ad 21) t_trial), ((ad 21), eI cA 13 t_trial_heard), ((ad 26), e_X4 (ad 27) t_tried), ((ad 27), eI cA 12 t_tried_sounds)] H → va_D A [((ad 0), e_X5 ad t), ((ad 1), e_X1 (ad 2) (ad 3) (ad 4) t_now), ((ad 2), eI cA 8 t_now_kinds), ((ad 4), eI cA 8 t_now_pitches), ((ad 19), eI cA 5 t_refusals), ((ad 20), e_X3 (ad 21) t_trial), ((ad 21), eI cA 13 t_trial_heard), ((ad 26), e_X4 (ad 27) t_tried), ((ad 27), eI cA 12 t_tried_sounds)] → va_S A s.heap H locs → lv_has ls 3 [(0, .ref (ad 0))] → W p l e rm_X5_ask s m args below meth c H locs 0 0 Q (F0 m 80 ls [.int s0]) := by
    intro  s0 t_refusals t_trial t_trial_heard t_tried t_tried_sounds H locs ls hm hP hD hS hl
    unfold b_X5_ask_80 at hm
    rw [hQ]
    exact W.iret (v := s0) hx hb hr (fun t9 ht hW => ⟨⟨s0, (t_refusals, t_trial, t_trial_heard, t_tried, t_tried_sounds), rfl, (Option.some.inj hm), by rw [ht]; exact hP, va_K.moved hW.alike hK, hD⟩, hS.F ht⟩) hS.2.2 dX5_ask_80
  have B_51 : ∀ (s0 : Int32) (t_refusals : Nat → Int32) (t_trial : Nat → Int32) (t_trial_heard : Nat → Int32) (t_tried : Nat → Int32) (t_tried_sounds : Nat → Int32) (H : Heap) (locs : List Loc) (ls : Array Slot), b_X5_ask_51 fu t t_now t_now_kinds t_now_pitches s0 t_refusals t_trial t_trial_heard t_tried t_tried_sounds = some out → va_P D CL [((ad 0), e_X5 ad t), ((ad 1), e_X1 (ad 2) (ad 3) (ad 4) t_now), ((ad 2), eI cA 8 t_now_kinds), ((ad 4), eI cA 8 t_now_pitches), ((ad 19), eI cA 5 t_refusals), ((ad 20), e_X3 (ad 21) t_trial), ((ad 21), eI cA 13 t_trial_heard), ((ad 26), e_X4 (ad 27) t_tried), ((ad 27), eI cA 12 t_tried_sounds)] H → va_D A [((ad 0), e_X5 ad t), ((ad 1), e_X1 (ad 2) (ad 3) (ad 4) t_now), ((ad 2), eI cA 8 t_now_kinds), ((ad 4), eI cA 8 t_now_pitches), ((ad 19), eI cA 5 t_refusals), ((ad 20), e_X3 (ad 21) t_trial), ((ad 21), eI cA 13 t_trial_heard), ((ad 26), e_X4 (ad 27) t_tried), ((ad 27), eI cA 12 t_tried_sounds)] → va_S A s.heap H locs → lv_has ls 3 [(0, .ref (ad 0))] → W p l e rm_X5_ask s m args below meth c H locs 0 0 Q (F0 m 51 ls [.int s0]) := by
    intro  s0 t_refusals t_trial t_trial_heard t_tried t_tried_sounds H locs ls hm hP hD hS hl
    unfold b_X5_ask_51 at hm
    rw [hQ]
    exact W.iret (v := s0) hx hb hr (fun t9 ht hW => ⟨⟨s0, (t_refusals, t_trial, t_trial_heard, t_tried, t_tried_sounds), rfl, (Option.some.inj hm), by rw [ht]; exact hP, va_K.moved hW.alike hK, hD⟩, hS.F ht⟩) hS.2.2 dX5_ask_51
  unfold m_X5_ask at hm
  subst hargs
  have hl := lv_entry ([.ref (ad 0), .int l1, .int l2]) (n := 3) (Nat.le_of_ble_eq_true rfl)
  rw [lg_entry_eq]
  generalize (lg_sl ([.ref (ad 0), .int l1, .int l2]) ++ List.replicate (3 - (lg_sl ([.ref (ad 0), .int l1, .int l2])).length) Slot.unset).toArray = ls at hl ⊢
  have hl : lv_has ls 3 [(0, .ref (ad 0)), (1, .int l1), (2, .int l2)] := hl
  refine lv_aload_n hx hb dX5_ask_0 rfl (lv_at hl 0 rfl) ?_
  refine lv_iload_n hx hb dX5_ask_1 rfl (lv_at hl 1 rfl) ?_
  obtain ⟨o3, ho4, hm⟩ := bd_s hm
  refine xr_i (wr := [((ad 2), eI cA 8 t_now_kinds), ((ad 4), eI cA 8 t_now_pitches), ((ad 19), eI cA 5 t_refusals), ((ad 20), e_X3 (ad 21) t_trial), ((ad 21), eI cA 13 t_trial_heard), ((ad 26), e_X4 (ad 27) t_tried), ((ad 27), eI cA 12 t_tried_sounds)]) (wn := [((ad 0), e_X5 ad t), ((ad 1), e_X1 (ad 2) (ad 3) (ad 4) t_now), ((ad 2), eI cA 8 t_now_kinds), ((ad 4), eI cA 8 t_now_pitches), ((ad 19), eI cA 5 t_refusals), ((ad 20), e_X3 (ad 21) t_trial), ((ad 21), eI cA 13 t_trial_heard), ((ad 26), e_X4 (ad 27) t_tried), ((ad 27), eI cA 12 t_tried_sounds)]) (va_runV (As := [.int l1]) (rest := []) ⟨hx, hb, hml, hown, htg⟩ (c_X5_isVoice l D cA _ fu ad t t_now l1 o3 ho4) (cwV 1 htg (gV q_2_87 q_2_89 q_p1_10 q_1_1 q_2_90) rfl rfl rfl hd_X5_isVoice ⟨Nat.le_of_ble_eq_true rfl, Nat.le_of_ble_eq_true rfl⟩) (xpV hN hK hP hD [0, 1] rfl (by decide) rfl rfl) rfl rfl hl.1 rfl (lv_room (Nat.le_of_ble_eq_true rfl)) dX5_ask_2 ⟨Nat.zero_le _, Nat.zero_le _⟩) hP hD hS hA [0, 1] [2, 3, 4, 5, 6, 7, 8] [7, 8, 0, 1, 2, 3, 4, 5, 6] rfl rfl (by decide) (by decide) rfl (by decide) (fun H locs hP hD hS => ?_)
  refine lv_if_eq (tgt := 13) hx hb dX5_ask_5 (by decide) (fun c5 => ?_) (fun c5 => ?_)
  · have hm := it_t c5 hm
    exact B_13 _ _ _ _ _ _ _ _ hm hP hD hS (lv_sub hl [0] rfl)
  · have hm := it_f c5 hm
    refine lv_iload_n hx hb dX5_ask_8 rfl (lv_at hl 2 rfl) ?_
    refine lv_iconst (v := (-1 : Int32)) hx hb dX5_ask_9 (by decide) ?_
    refine lv_icmp_ge (tgt := 20) hx hb dX5_ask_10 (by decide) (fun c6 => ?_) (fun c6 => ?_)
    · have hm := it_t c6 hm
      refine lv_aload_n hx hb dX5_ask_20 rfl (lv_at hl 0 rfl) ?_
      refine lv_iload_n hx hb dX5_ask_21 rfl (lv_at hl 1 rfl) ?_
      obtain ⟨o7, ho8, hm⟩ := bd_s hm
      refine xr_v (wr := [((ad 19), eI cA 5 t_refusals)]) (wn := [((ad 0), e_X5 ad t), ((ad 1), e_X1 (ad 2) (ad 3) (ad 4) t_now), ((ad 2), eI cA 8 t_now_kinds), ((ad 4), eI cA 8 t_now_pitches), ((ad 19), eI cA 5 t_refusals), ((ad 20), e_X3 (ad 21) o7.1), ((ad 21), eI cA 13 o7.2.1), ((ad 26), e_X4 (ad 27) o7.2.2.1), ((ad 27), eI cA 12 o7.2.2.2)]) (va_runV (As := [.int l1]) (rest := []) ⟨hx, hb, hml, hown, htg⟩ (c_X5_findShortestYes l D cA _ fu ad t t_now t_now_kinds t_now_pitches t_trial t_trial_heard t_tried t_tried_sounds l1 o7 ho8) (cwV 1 htg (gV q_3_111 q_3_113 q_p3_10 q_1_1 q_3_114) rfl rfl rfl hd_X5_findShortestYes ⟨Nat.le_of_ble_eq_true rfl, Nat.le_of_ble_eq_true rfl⟩) (xpV hN hK hP hD [0, 1, 2, 3, 5, 6, 7, 8] rfl (by decide) rfl rfl) rfl rfl hl.1 rfl (lv_room (Nat.le_of_ble_eq_true rfl)) dX5_ask_22 ⟨Nat.zero_le _, Nat.zero_le _⟩) hP hD hS hA [0, 1, 2, 3, 5, 6, 7, 8] [4] [1, 2, 3, 4, 0, 5, 6, 7, 8] rfl rfl (by decide) (by decide) rfl (by decide) (fun H locs hP hD hS => ?_)
      refine lv_iload_n hx hb dX5_ask_25 rfl (lv_at hl 2 rfl) ?_
      refine lv_iconst (v := (-1 : Int32)) hx hb dX5_ask_26 (by decide) ?_
      refine lv_icmp_ne (tgt := 52) hx hb dX5_ask_27 (by decide) (fun c9 => ?_) (fun c9 => ?_)
      · have hm := it_f c9 hm
        refine lv_iload_n hx hb dX5_ask_52 rfl (lv_at hl 2 rfl) ?_
        refine lv_aload_n hx hb dX5_ask_53 rfl (lv_at hl 0 rfl) ?_
        refine va_get (D := D) (ci := 5) (v := .ref (ad 26)) (C := RX5) (T := TX5) (N := 17) hx hb htg inX5 hown hK hP 0 rfl rfl 10 (by decide) (htg _ q_1_198) (fun _ h9 => h9) rfl dX5_ask_54 ?_
        refine va_getN (D := D) (ci := 4) (v := .int (o7.2.2.1 1)) (C := RX4) (T := TX4) (N := 2) hx hb htg inX4 hown hK hP 7 rfl rfl 1 (by decide) (va_Nw.use rfl (hN _ q_1_182)) (fun _ h9 => h9) rfl dX5_ask_57 ?_
        refine lv_icmp_ge (tgt := 74) hx hb dX5_ask_60 (by decide) (fun c10 => ?_) (fun c10 => ?_)
        · have hm := it_t c10 hm
          refine lv_aload_n hx hb dX5_ask_74 rfl (lv_at hl 0 rfl) ?_
          refine lv_bipush (v := (-5 : Int32)) hx hb dX5_ask_75 (by decide) ?_
          obtain ⟨o11, ho12, hm⟩ := bd_s hm
          refine xr_i (wr := [((ad 1), e_X1 (ad 2) (ad 3) (ad 4) t_now), ((ad 2), eI cA 8 t_now_kinds), ((ad 4), eI cA 8 t_now_pitches), ((ad 20), e_X3 (ad 21) o7.1), ((ad 21), eI cA 13 o7.2.1), ((ad 26), e_X4 (ad 27) o7.2.2.1), ((ad 27), eI cA 12 o7.2.2.2)]) (wn := [((ad 0), e_X5 ad t), ((ad 1), e_X1 (ad 2) (ad 3) (ad 4) t_now), ((ad 2), eI cA 8 t_now_kinds), ((ad 4), eI cA 8 t_now_pitches), ((ad 19), eI cA 5 o11.2), ((ad 20), e_X3 (ad 21) o7.1), ((ad 21), eI cA 13 o7.2.1), ((ad 26), e_X4 (ad 27) o7.2.2.1), ((ad 27), eI cA 12 o7.2.2.2)]) (va_runV (As := [.int (-5 : Int32)]) (rest := []) ⟨hx, hb, hml, hown, htg⟩ (c_X5_refuse l D cA _ fu ad t t_refusals (-5 : Int32) o11 ho12) (cwV 1 htg (gV q_2_10 q_2_12 q_p1_0 q_1_1 q_2_13) rfl rfl rfl hd_X5_refuse ⟨Nat.le_of_ble_eq_true rfl, Nat.le_of_ble_eq_true rfl⟩) (xpV hN hK hP hD [0, 4] rfl (by decide) rfl rfl) rfl rfl hl.1 rfl (lv_room (Nat.le_of_ble_eq_true rfl)) dX5_ask_77 ⟨Nat.zero_le _, Nat.zero_le _⟩) hP hD hS hA [0, 4] [1, 2, 3, 5, 6, 7, 8] [7, 0, 1, 2, 8, 3, 4, 5, 6] rfl rfl (by decide) (by decide) rfl (by decide) (fun H locs hP hD hS => ?_)
          exact B_80 _ _ _ _ _ _ _ _ _ hm hP hD hS (lv_sub hl [0] rfl)
        · have hm := it_f c10 hm
          refine lv_aload_n hx hb dX5_ask_63 rfl (lv_at hl 0 rfl) ?_
          refine va_get (D := D) (ci := 5) (v := .ref (ad 26)) (C := RX5) (T := TX5) (N := 17) hx hb htg inX5 hown hK hP 0 rfl rfl 10 (by decide) (htg _ q_1_198) (fun _ h9 => h9) rfl dX5_ask_64 ?_
          refine lv_iload_n hx hb dX5_ask_67 rfl (lv_at hl 2 rfl) ?_
          obtain ⟨o13, ho14, hm⟩ := bd_s hm
          refine xr_i (wr := [((ad 0), e_X5 ad t), ((ad 1), e_X1 (ad 2) (ad 3) (ad 4) t_now), ((ad 2), eI cA 8 t_now_kinds), ((ad 4), eI cA 8 t_now_pitches), ((ad 19), eI cA 5 t_refusals), ((ad 20), e_X3 (ad 21) o7.1), ((ad 21), eI cA 13 o7.2.1)]) (wn := [((ad 0), e_X5 ad t), ((ad 1), e_X1 (ad 2) (ad 3) (ad 4) t_now), ((ad 2), eI cA 8 t_now_kinds), ((ad 4), eI cA 8 t_now_pitches), ((ad 19), eI cA 5 t_refusals), ((ad 20), e_X3 (ad 21) o7.1), ((ad 21), eI cA 13 o7.2.1), ((ad 26), e_X4 (ad 27) o7.2.2.1), ((ad 27), eI cA 12 o7.2.2.2)]) (va_runVN (As := [.int l2]) (rest := []) ⟨hx, hb, hml, hown, htg⟩ (c_X4_soundAt l D cA _ fu (ad 26) (ad 27) o7.2.2.1 o7.2.2.2 l2 o13 ho14) ⟨va_cnB 1 htg (gU q_2_137) rfl rfl rfl (hN _ q_3_121) (htg _ q_1_7) hd_X4_soundAt.2 ⟨Nat.le_of_ble_eq_true rfl, Nat.le_of_ble_eq_true rfl⟩, htg _ q_2_136, htg _ q_p2_2⟩ (xpV hN hK hP hD [7, 8] rfl (by decide) rfl rfl) rfl rfl hl.1 rfl (lv_room (Nat.le_of_ble_eq_true rfl)) dX5_ask_68 ⟨Nat.zero_le _, Nat.zero_le _⟩) hP hD hS hA [7, 8] [0, 1, 2, 3, 4, 5, 6] [0, 1, 2, 3, 4, 5, 6, 7, 8] rfl rfl (by decide) (by decide) rfl (by decide) (fun H locs hP hD hS => ?_)
          refine lv_goto (tgt := 80) hx hb dX5_ask_71 (by decide) ?_
          exact B_80 _ _ _ _ _ _ _ _ _ hm hP hD hS (lv_sub hl [0] rfl)
      · have hm := it_t c9 hm
        refine lv_aload_n hx hb dX5_ask_30 rfl (lv_at hl 0 rfl) ?_
        refine va_get (D := D) (ci := 5) (v := .ref (ad 26)) (C := RX5) (T := TX5) (N := 17) hx hb htg inX5 hown hK hP 0 rfl rfl 10 (by decide) (htg _ q_1_198) (fun _ h9 => h9) rfl dX5_ask_31 ?_
        refine va_getN (D := D) (ci := 4) (v := .int (o7.2.2.1 1)) (C := RX4) (T := TX4) (N := 2) hx hb htg inX4 hown hK hP 7 rfl rfl 1 (by decide) (va_Nw.use rfl (hN _ q_1_182)) (fun _ h9 => h9) rfl dX5_ask_34 ?_
        refine lv_if_ne (tgt := 44) hx hb dX5_ask_37 (by decide) (fun c15 => ?_) (fun c15 => ?_)
        · have hm := it_f c15 hm
          refine lv_aload_n hx hb dX5_ask_44 rfl (lv_at hl 0 rfl) ?_
          refine va_get (D := D) (ci := 5) (v := .ref (ad 26)) (C := RX5) (T := TX5) (N := 17) hx hb htg inX5 hown hK hP 0 rfl rfl 10 (by decide) (htg _ q_1_198) (fun _ h9 => h9) rfl dX5_ask_45 ?_
          refine va_getN (D := D) (ci := 4) (v := .int (o7.2.2.1 1)) (C := RX4) (T := TX4) (N := 2) hx hb htg inX4 hown hK hP 7 rfl rfl 1 (by decide) (va_Nw.use rfl (hN _ q_1_182)) (fun _ h9 => h9) rfl dX5_ask_48 ?_
          exact B_51 _ _ _ _ _ _ _ _ _ hm hP hD hS (lv_sub hl [0] rfl)
        · have hm := it_t c15 hm
          refine lv_iconst (v := (-1 : Int32)) hx hb dX5_ask_40 (by decide) ?_
          refine lv_goto (tgt := 51) hx hb dX5_ask_41 (by decide) ?_
          exact B_51 _ _ _ _ _ _ _ _ _ hm hP hD hS (lv_sub hl [0] rfl)
    · have hm := it_f c6 hm
      exact B_13 _ _ _ _ _ _ _ _ hm hP hD hS (lv_sub hl [0] rfl)
def b_X5_takeWordAndRow_29 (fu : Nat) (t : Nat → Int32) (t_shelves_holding : Nat → Int32) (t_shelves_sizes : Nat → Int32) (t_shelves_elements : Nat → Int64) (t_refusals : Nat → Int32) (t_told : Nat → Int32) (t_told_sounds : Nat → Int32) : Option (Int32 × ((Nat → Int32) × (Nat → Int32) × (Nat → Int32))) :=
  (m_X5_refuse fu t t_refusals (-2 : Int32)).bind fun o1 =>
    some (o1.1, (o1.2, t_told, t_told_sounds))
def b_X5_takeWordAndRow_58 (fu : Nat) (t : Nat → Int32) (t_shelves_holding : Nat → Int32) (t_shelves_sizes : Nat → Int32) (t_shelves_elements : Nat → Int64) (t_refusals : Nat → Int32) (t_told : Nat → Int32) (t_told_sounds : Nat → Int32) : Option (Int32 × ((Nat → Int32) × (Nat → Int32) × (Nat → Int32))) :=
  (m_X5_refuse fu t t_refusals (-3 : Int32)).bind fun o3 =>
    some (o3.1, (o3.2, t_told, t_told_sounds))
def b_X5_takeWordAndRow_87 (fu : Nat) (t : Nat → Int32) (t_shelves_holding : Nat → Int32) (t_shelves_sizes : Nat → Int32) (t_shelves_elements : Nat → Int64) (t_refusals : Nat → Int32) (t_told : Nat → Int32) (t_told_sounds : Nat → Int32) : Option (Int32 × ((Nat → Int32) × (Nat → Int32) × (Nat → Int32))) :=
  (m_X5_refuse fu t t_refusals (-4 : Int32)).bind fun o5 =>
    some (o5.1, (o5.2, t_told, t_told_sounds))
def b_X5_takeWordAndRow_121 (fu : Nat) (t : Nat → Int32) (t_shelves_holding : Nat → Int32) (t_shelves_sizes : Nat → Int32) (t_shelves_elements : Nat → Int64) (t_refusals : Nat → Int32) (t_told : Nat → Int32) (t_told_sounds : Nat → Int32) : Option (Int32 × ((Nat → Int32) × (Nat → Int32) × (Nat → Int32))) :=
  (m_X5_refuse fu t t_refusals (-2 : Int32)).bind fun o7 =>
    some (o7.1, (o7.2, t_told, t_told_sounds))
def b_X5_takeWordAndRow_172 (fu : Nat) (t : Nat → Int32) (t_shelves_holding : Nat → Int32) (t_shelves_sizes : Nat → Int32) (t_shelves_elements : Nat → Int64) (t_refusals : Nat → Int32) (t_told : Nat → Int32) (t_told_sounds : Nat → Int32) : Option (Int32 × ((Nat → Int32) × (Nat → Int32) × (Nat → Int32))) :=
  (m_X5_refuse fu t t_refusals (-5 : Int32)).bind fun o9 =>
    some (o9.1, (o9.2, t_told, t_told_sounds))
def b_X5_takeWordAndRow_138 (fu : Nat) (t : Nat → Int32) (t_shelves_holding : Nat → Int32) (t_shelves_sizes : Nat → Int32) (t_shelves_elements : Nat → Int64) (k_138 : (Int32 × Int32 × Int32 × (Nat → Int32) × (Nat → Int32) × (Nat → Int32)) → Option (Int32 × ((Nat → Int32) × (Nat → Int32) × (Nat → Int32)))) (x : Int32 × Int32 × Int32 × (Nat → Int32) × (Nat → Int32) × (Nat → Int32)) : Option (Int32 × ((Nat → Int32) × (Nat → Int32) × (Nat → Int32))) :=
  (if x.2.1 ≤ x.2.2.1 then
        some ((0 : Int32), (x.2.2.2.1, x.2.2.2.2.1, x.2.2.2.2.2))
      else
        (m_X0_elementAt fu t_shelves_sizes t_shelves_elements x.1 x.2.2.1).bind fun o12 =>
        (if (lg_cmp o12.1 (0 : Int64)) < 0 then
          b_X5_takeWordAndRow_172 fu t t_shelves_holding t_shelves_sizes t_shelves_elements x.2.2.2.1 x.2.2.2.2.1 x.2.2.2.2.2
        else
          (if (lg_cmp o12.1 (40 : Int64)) < 0 then
            (m_X4_add fu x.2.2.2.2.1 x.2.2.2.2.2 o12.1.toInt32).bind fun o16 =>
            k_138 (x.1, x.2.1, (x.2.2.1 + (1 : Int32)), x.2.2.2.1, o16.1, o16.2)
          else
            b_X5_takeWordAndRow_172 fu t t_shelves_holding t_shelves_sizes t_shelves_elements x.2.2.2.1 x.2.2.2.2.1 x.2.2.2.2.2)))
def m_X5_takeWordAndRow (fu : Nat) (t : Nat → Int32) (t_shelves_holding : Nat → Int32) (t_shelves_sizes : Nat → Int32) (t_shelves_elements : Nat → Int64) (t_refusals : Nat → Int32) (t_told : Nat → Int32) (t_told_sounds : Nat → Int32) (l1 : Int32) (l2 : Int32) (l3 : Int32) (l4 : Int32) (l5 : Int32) : Option (Int32 × ((Nat → Int32) × (Nat → Int32) × (Nat → Int32))) :=
  (m_X5_isShelf fu l1).bind fun o18 =>
  (if o18.1 = 0 then
    b_X5_takeWordAndRow_29 fu t t_shelves_holding t_shelves_sizes t_shelves_elements t_refusals t_told t_told_sounds
  else
    (m_X5_isWithin fu l2 (0 : Int32) (12 : Int32)).bind fun o21 =>
    (if o21.1 = 0 then
      b_X5_takeWordAndRow_29 fu t t_shelves_holding t_shelves_sizes t_shelves_elements t_refusals t_told t_told_sounds
    else
      (m_X5_isShelf fu l3).bind fun o24 =>
      (if o24.1 = 0 then
        b_X5_takeWordAndRow_29 fu t t_shelves_holding t_shelves_sizes t_shelves_elements t_refusals t_told t_told_sounds
      else
        (if l5 = 0 then
          b_X5_takeWordAndRow_29 fu t t_shelves_holding t_shelves_sizes t_shelves_elements t_refusals t_told t_told_sounds
        else
          (m_X0_hasVoice fu t_shelves_holding l1).bind fun o28 =>
          (if o28.1 = 0 then
            (m_X0_hasVoice fu t_shelves_holding l3).bind fun o31 =>
            (if o31.1 = 0 then
              (m_X0_isBare fu t_shelves_holding l1).bind fun o34 =>
              (if o34.1 = 0 then
                (m_X0_isBare fu t_shelves_holding l3).bind fun o37 =>
                (if o37.1 = 0 then
                  (m_X0_hasPlaces fu t_shelves_sizes l1 (0 : Int32) l2).bind fun o40 =>
                  (if o40.1 = 0 then
                    b_X5_takeWordAndRow_121 fu t t_shelves_holding t_shelves_sizes t_shelves_elements t_refusals t_told t_told_sounds
                  else
                    (m_X0_hasPlaces fu t_shelves_sizes l3 (0 : Int32) l4).bind fun o43 =>
                    (if o43.1 = 0 then
                      b_X5_takeWordAndRow_121 fu t t_shelves_holding t_shelves_sizes t_shelves_elements t_refusals t_told t_told_sounds
                    else
                      (m_X4_clear fu t_told).bind fun o46 =>
                      lfix (b_X5_takeWordAndRow_138 fu t t_shelves_holding t_shelves_sizes t_shelves_elements) fu (l1, l2, (0 : Int32), t_refusals, o46, t_told_sounds)))
                else
                  b_X5_takeWordAndRow_87 fu t t_shelves_holding t_shelves_sizes t_shelves_elements t_refusals t_told t_told_sounds)
              else
                b_X5_takeWordAndRow_87 fu t t_shelves_holding t_shelves_sizes t_shelves_elements t_refusals t_told t_told_sounds)
            else
              b_X5_takeWordAndRow_58 fu t t_shelves_holding t_shelves_sizes t_shelves_elements t_refusals t_told t_told_sounds)
          else
            b_X5_takeWordAndRow_58 fu t t_shelves_holding t_shelves_sizes t_shelves_elements t_refusals t_told t_told_sounds)))))
abbrev rm_X5_takeWordAndRow : Room := ({ frames := 4, cells := 0, slots := 0, locals := 87 } : Room)
abbrev w0_X5_takeWordAndRow (cA : Nat → ClassId) (ad : Nat → Nat) (t : Nat → Int32) (t_shelves_holding : Nat → Int32) (t_shelves_sizes : Nat → Int32) (t_shelves_elements : Nat → Int64) (t_refusals : Nat → Int32) (t_told : Nat → Int32) (t_told_sounds : Nat → Int32) : va_W := [((ad 0), e_X5 ad t), ((ad 13), e_X0 (ad 14) (ad 15) (ad 16)), ((ad 14), eI cA 8 t_shelves_holding), ((ad 15), eI cA 8 t_shelves_sizes), ((ad 16), eJ cA 320 t_shelves_elements), ((ad 19), eI cA 5 t_refusals), ((ad 24), e_X4 (ad 25) t_told), ((ad 25), eI cA 12 t_told_sounds)]
abbrev w1_X5_takeWordAndRow (cA : Nat → ClassId) (ad : Nat → Nat) (t : Nat → Int32) (t_shelves_holding : Nat → Int32) (t_shelves_sizes : Nat → Int32) (t_shelves_elements : Nat → Int64) (u : (Nat → Int32) × (Nat → Int32) × (Nat → Int32)) : va_W := [((ad 0), e_X5 ad t), ((ad 13), e_X0 (ad 14) (ad 15) (ad 16)), ((ad 14), eI cA 8 t_shelves_holding), ((ad 15), eI cA 8 t_shelves_sizes), ((ad 16), eJ cA 320 t_shelves_elements), ((ad 19), eI cA 5 u.1), ((ad 24), e_X4 (ad 25) u.2.1), ((ad 25), eI cA 12 u.2.2)]
theorem hd_X5_takeWordAndRow : yX5_takeWordAndRow.cls = RX5 ∧ yX5_takeWordAndRow.cls ≠ "java/lang/invoke/MethodHandle" ∧ yX5_takeWordAndRow.cls ≠ "java/lang/invoke/VarHandle" ∧ (parseMethodDescriptor yX5_takeWordAndRow.desc).map (fun d => d.parameters.length) = some 5 := by decide +kernel
set_option maxHeartbeats 40000000 in
set_option maxRecDepth 100000 in
theorem c_X5_takeWordAndRow (l : Launch) (D : va_G) (cA : Nat → ClassId) (sz : Nat) (fu : Nat) (ad : Nat → Nat) (t : Nat → Int32) (t_shelves_holding : Nat → Int32) (t_shelves_sizes : Nat → Int32) (t_shelves_elements : Nat → Int64) (t_refusals : Nat → Int32) (t_told : Nat → Int32) (t_told_sounds : Nat → Int32) (l1 : Int32) (l2 : Int32) (l3 : Int32) (l4 : Int32) (l5 : Int32) (out : Int32 × ((Nat → Int32) × (Nat → Int32) × (Nat → Int32))) (hm : m_X5_takeWordAndRow fu t t_shelves_holding t_shelves_sizes t_shelves_elements t_refusals t_told t_told_sounds l1 l2 l3 l4 l5 = some out) : MI l yX5_takeWordAndRow (wU yX5_takeWordAndRow cX5_takeWordAndRow 9 ((Option.some Jvm.ClassFile.FieldType.int))) rm_X5_takeWordAndRow D cA sz [.ref (ad 0), .int l1, .int l2, .int l3, .int l4, .int l5] (w0_X5_takeWordAndRow cA ad t t_shelves_holding t_shelves_sizes t_shelves_elements t_refusals t_told t_told_sounds) out (w1_X5_takeWordAndRow cA ad t t_shelves_holding t_shelves_sizes t_shelves_elements) := by
  refine Met.ofW (cc := cX5_takeWordAndRow) (maxL := 9) (ret := (Option.some Jvm.ClassFile.FieldType.int)) (by decide) rfl ?_
  intro p e s m args below meth c s₁ B hml hv
  obtain ⟨hargs, hsz, hP, hK, hD0, hN⟩ := hv
  have hx := B.exec
  have hb := B.bytes
  have hr := B.returns
  have htg : ∀ w ∈ gw, w.before args s = true := fun w h => atoms_spec (ws := wU yX5_takeWordAndRow cX5_takeWordAndRow 9 ((Option.some Jvm.ClassFile.FieldType.int))) B.pre w (List.mem_cons_of_mem _ h)
  have hown : s.vm.findClass RX5 = some m.cls := findClass_of_methodNamed B.named
  have hlocks := B.notSynchronized
  subst hsz
  have hD := hD0.self (sz := s.heap.size)
  have hA : ∀ q : Nat, s.heap.size ≤ q → va_A (w0_X5_takeWordAndRow cA ad t t_shelves_holding t_shelves_sizes t_shelves_elements t_refusals t_told t_told_sounds) s.heap.size q := fun q h => Or.inr h
  have hS : va_S (va_A (w0_X5_takeWordAndRow cA ad t t_shelves_holding t_shelves_sizes t_shelves_elements t_refusals t_told t_told_sounds) s.heap.size) s.heap s.heap [] := va_S.rf
  generalize va_A (w0_X5_takeWordAndRow cA ad t t_shelves_holding t_shelves_sizes t_shelves_elements t_refusals t_told t_told_sounds) s.heap.size = A at hA hD hS ⊢
  obtain ⟨Q, hQ⟩ : ∃ Q : State → Prop, Q = MQ below (va_Qi (fun (r : Int32) (u : (Nat → Int32) × (Nat → Int32) × (Nat → Int32)) => (r, u) = out) (pst0 D cA A (w1_X5_takeWordAndRow cA ad t t_shelves_holding t_shelves_sizes t_shelves_elements)) A) args s 0 0 A := ⟨_, rfl⟩
  refine (?_ : W p l e rm_X5_takeWordAndRow s m args below meth c s.heap [] 0 0 (MQ below (va_Qi (fun (r : Int32) (u : (Nat → Int32) × (Nat → Int32) × (Nat → Int32)) => (r, u) = out) (pst0 D cA A (w1_X5_takeWordAndRow cA ad t t_shelves_holding t_shelves_sizes t_shelves_elements)) A) args s 0 0 A) (entryFrame m args 9))
  rw [← hQ]
  have hP : va_P D CL [((ad 0), e_X5 ad t), ((ad 13), e_X0 (ad 14) (ad 15) (ad 16)), ((ad 14), eI cA 8 t_shelves_holding), ((ad 15), eI cA 8 t_shelves_sizes), ((ad 16), eJ cA 320 t_shelves_elements), ((ad 19), eI cA 5 t_refusals), ((ad 24), e_X4 (ad 25) t_told), ((ad 25), eI cA 12 t_told_sounds)] s.heap := hP
  have hD : va_D A [((ad 0), e_X5 ad t), ((ad 13), e_X0 (ad 14) (ad 15) (ad 16)), ((ad 14), eI cA 8 t_shelves_holding), ((ad 15), eI cA 8 t_shelves_sizes), ((ad 16), eJ cA 320 t_shelves_elements), ((ad 19), eI cA 5 t_refusals), ((ad 24), e_X4 (ad 25) t_told), ((ad 25), eI cA 12 t_told_sounds)] := hD
  have B_29 : ∀ (t_refusals : Nat → Int32) (t_told : Nat → Int32) (t_told_sounds : Nat → Int32) (H : Heap) (locs : List Loc) (ls : Array Slot), b_X5_takeWordAndRow_29 fu t t_shelves_holding t_shelves_sizes t_shelves_elements t_refusals t_told t_told_sounds = some out → va_P D CL [((ad 0), e_X5 ad t), ((ad 13), e_X0 (ad 14) (ad 15) (ad 16)), ((ad 14), eI cA 8 t_shelves_holding), ((ad 15), eI cA 8 t_shelves_sizes), ((ad 16), eJ cA 320 t_shelves_elements), ((ad 19), eI cA 5 t_refusals), ((ad 24), e_X4 (ad 25) t_told), ((ad 25), eI cA 12 t_told_sounds)] H → va_D A [((ad 0), e_X5 ad t), ((ad 13), e_X0 (ad 14) (ad 15) (ad 16)), ((ad 14), eI cA 8 t_shelves_holding), ((ad 15), eI cA 8 t_shelves_sizes), ((ad 16), eJ cA 320 t_shelves_elements), ((ad 19), eI cA 5 t_refusals), ((ad 24), e_X4 (ad 25) t_told), ((ad 25), eI cA 12 t_told_sounds)] → va_S A s.heap H locs → lv_has ls 9 [(0, .ref (ad 0))] → W p l e rm_X5_takeWordAndRow s m args below meth c H locs 0 0 Q (F0 m 29 ls []) := by
    intro  t_refusals t_told t_told_sounds H locs ls hm hP hD hS hl
    unfold b_X5_takeWordAndRow_29 at hm
    refine lv_aload_n hx hb dX5_takeWordAndRow_29 rfl (lv_at hl 0 rfl) ?_
    refine lv_bipush (v := (-2 : Int32)) hx hb dX5_takeWordAndRow_30 (by decide) ?_
    obtain ⟨o1, ho2, hm⟩ := bd_s hm
    refine xr_i (wr := [((ad 13), e_X0 (ad 14) (ad 15) (ad 16)), ((ad 14), eI cA 8 t_shelves_holding), ((ad 15), eI cA 8 t_shelves_sizes), ((ad 16), eJ cA 320 t_shelves_elements), ((ad 24), e_X4 (ad 25) t_told), ((ad 25), eI cA 12 t_told_sounds)]) (wn := [((ad 0), e_X5 ad t), ((ad 13), e_X0 (ad 14) (ad 15) (ad 16)), ((ad 14), eI cA 8 t_shelves_holding), ((ad 15), eI cA 8 t_shelves_sizes), ((ad 16), eJ cA 320 t_shelves_elements), ((ad 19), eI cA 5 o1.2), ((ad 24), e_X4 (ad 25) t_told), ((ad 25), eI cA 12 t_told_sounds)]) (va_runV (As := [.int (-2 : Int32)]) (rest := []) ⟨hx, hb, hml, hown, htg⟩ (c_X5_refuse l D cA _ fu ad t t_refusals (-2 : Int32) o1 ho2) (cwV 1 htg (gV q_2_10 q_2_12 q_p1_0 q_1_1 q_2_13) rfl rfl rfl hd_X5_refuse ⟨Nat.le_of_ble_eq_true rfl, Nat.le_of_ble_eq_true rfl⟩) (xpV hN hK hP hD [0, 5] rfl (by decide) rfl rfl) rfl rfl hl.1 rfl (lv_room (Nat.le_of_ble_eq_true rfl)) dX5_takeWordAndRow_32 ⟨Nat.zero_le _, Nat.zero_le _⟩) hP hD hS hA [0, 5] [1, 2, 3, 4, 6, 7] [6, 0, 1, 2, 3, 7, 4, 5] rfl rfl (by decide) (by decide) rfl (by decide) (fun H locs hP hD hS => ?_)
    rw [hQ]
    exact W.iret (v := o1.1) hx hb hr (fun t9 ht hW => ⟨⟨o1.1, (o1.2, t_told, t_told_sounds), rfl, (Option.some.inj hm), by rw [ht]; exact hP, va_K.moved hW.alike hK, hD⟩, hS.F ht⟩) hS.2.2 dX5_takeWordAndRow_35
  have B_58 : ∀ (t_refusals : Nat → Int32) (t_told : Nat → Int32) (t_told_sounds : Nat → Int32) (H : Heap) (locs : List Loc) (ls : Array Slot), b_X5_takeWordAndRow_58 fu t t_shelves_holding t_shelves_sizes t_shelves_elements t_refusals t_told t_told_sounds = some out → va_P D CL [((ad 0), e_X5 ad t), ((ad 13), e_X0 (ad 14) (ad 15) (ad 16)), ((ad 14), eI cA 8 t_shelves_holding), ((ad 15), eI cA 8 t_shelves_sizes), ((ad 16), eJ cA 320 t_shelves_elements), ((ad 19), eI cA 5 t_refusals), ((ad 24), e_X4 (ad 25) t_told), ((ad 25), eI cA 12 t_told_sounds)] H → va_D A [((ad 0), e_X5 ad t), ((ad 13), e_X0 (ad 14) (ad 15) (ad 16)), ((ad 14), eI cA 8 t_shelves_holding), ((ad 15), eI cA 8 t_shelves_sizes), ((ad 16), eJ cA 320 t_shelves_elements), ((ad 19), eI cA 5 t_refusals), ((ad 24), e_X4 (ad 25) t_told), ((ad 25), eI cA 12 t_told_sounds)] → va_S A s.heap H locs → lv_has ls 9 [(0, .ref (ad 0))] → W p l e rm_X5_takeWordAndRow s m args below meth c H locs 0 0 Q (F0 m 58 ls []) := by
    intro  t_refusals t_told t_told_sounds H locs ls hm hP hD hS hl
    unfold b_X5_takeWordAndRow_58 at hm
    refine lv_aload_n hx hb dX5_takeWordAndRow_58 rfl (lv_at hl 0 rfl) ?_
    refine lv_bipush (v := (-3 : Int32)) hx hb dX5_takeWordAndRow_59 (by decide) ?_
    obtain ⟨o3, ho4, hm⟩ := bd_s hm
    refine xr_i (wr := [((ad 13), e_X0 (ad 14) (ad 15) (ad 16)), ((ad 14), eI cA 8 t_shelves_holding), ((ad 15), eI cA 8 t_shelves_sizes), ((ad 16), eJ cA 320 t_shelves_elements), ((ad 24), e_X4 (ad 25) t_told), ((ad 25), eI cA 12 t_told_sounds)]) (wn := [((ad 0), e_X5 ad t), ((ad 13), e_X0 (ad 14) (ad 15) (ad 16)), ((ad 14), eI cA 8 t_shelves_holding), ((ad 15), eI cA 8 t_shelves_sizes), ((ad 16), eJ cA 320 t_shelves_elements), ((ad 19), eI cA 5 o3.2), ((ad 24), e_X4 (ad 25) t_told), ((ad 25), eI cA 12 t_told_sounds)]) (va_runV (As := [.int (-3 : Int32)]) (rest := []) ⟨hx, hb, hml, hown, htg⟩ (c_X5_refuse l D cA _ fu ad t t_refusals (-3 : Int32) o3 ho4) (cwV 1 htg (gV q_2_10 q_2_12 q_p1_0 q_1_1 q_2_13) rfl rfl rfl hd_X5_refuse ⟨Nat.le_of_ble_eq_true rfl, Nat.le_of_ble_eq_true rfl⟩) (xpV hN hK hP hD [0, 5] rfl (by decide) rfl rfl) rfl rfl hl.1 rfl (lv_room (Nat.le_of_ble_eq_true rfl)) dX5_takeWordAndRow_61 ⟨Nat.zero_le _, Nat.zero_le _⟩) hP hD hS hA [0, 5] [1, 2, 3, 4, 6, 7] [6, 0, 1, 2, 3, 7, 4, 5] rfl rfl (by decide) (by decide) rfl (by decide) (fun H locs hP hD hS => ?_)
    rw [hQ]
    exact W.iret (v := o3.1) hx hb hr (fun t9 ht hW => ⟨⟨o3.1, (o3.2, t_told, t_told_sounds), rfl, (Option.some.inj hm), by rw [ht]; exact hP, va_K.moved hW.alike hK, hD⟩, hS.F ht⟩) hS.2.2 dX5_takeWordAndRow_64
  have B_87 : ∀ (t_refusals : Nat → Int32) (t_told : Nat → Int32) (t_told_sounds : Nat → Int32) (H : Heap) (locs : List Loc) (ls : Array Slot), b_X5_takeWordAndRow_87 fu t t_shelves_holding t_shelves_sizes t_shelves_elements t_refusals t_told t_told_sounds = some out → va_P D CL [((ad 0), e_X5 ad t), ((ad 13), e_X0 (ad 14) (ad 15) (ad 16)), ((ad 14), eI cA 8 t_shelves_holding), ((ad 15), eI cA 8 t_shelves_sizes), ((ad 16), eJ cA 320 t_shelves_elements), ((ad 19), eI cA 5 t_refusals), ((ad 24), e_X4 (ad 25) t_told), ((ad 25), eI cA 12 t_told_sounds)] H → va_D A [((ad 0), e_X5 ad t), ((ad 13), e_X0 (ad 14) (ad 15) (ad 16)), ((ad 14), eI cA 8 t_shelves_holding), ((ad 15), eI cA 8 t_shelves_sizes), ((ad 16), eJ cA 320 t_shelves_elements), ((ad 19), eI cA 5 t_refusals), ((ad 24), e_X4 (ad 25) t_told), ((ad 25), eI cA 12 t_told_sounds)] → va_S A s.heap H locs → lv_has ls 9 [(0, .ref (ad 0))] → W p l e rm_X5_takeWordAndRow s m args below meth c H locs 0 0 Q (F0 m 87 ls []) := by
    intro  t_refusals t_told t_told_sounds H locs ls hm hP hD hS hl
    unfold b_X5_takeWordAndRow_87 at hm
    refine lv_aload_n hx hb dX5_takeWordAndRow_87 rfl (lv_at hl 0 rfl) ?_
    refine lv_bipush (v := (-4 : Int32)) hx hb dX5_takeWordAndRow_88 (by decide) ?_
    obtain ⟨o5, ho6, hm⟩ := bd_s hm
    refine xr_i (wr := [((ad 13), e_X0 (ad 14) (ad 15) (ad 16)), ((ad 14), eI cA 8 t_shelves_holding), ((ad 15), eI cA 8 t_shelves_sizes), ((ad 16), eJ cA 320 t_shelves_elements), ((ad 24), e_X4 (ad 25) t_told), ((ad 25), eI cA 12 t_told_sounds)]) (wn := [((ad 0), e_X5 ad t), ((ad 13), e_X0 (ad 14) (ad 15) (ad 16)), ((ad 14), eI cA 8 t_shelves_holding), ((ad 15), eI cA 8 t_shelves_sizes), ((ad 16), eJ cA 320 t_shelves_elements), ((ad 19), eI cA 5 o5.2), ((ad 24), e_X4 (ad 25) t_told), ((ad 25), eI cA 12 t_told_sounds)]) (va_runV (As := [.int (-4 : Int32)]) (rest := []) ⟨hx, hb, hml, hown, htg⟩ (c_X5_refuse l D cA _ fu ad t t_refusals (-4 : Int32) o5 ho6) (cwV 1 htg (gV q_2_10 q_2_12 q_p1_0 q_1_1 q_2_13) rfl rfl rfl hd_X5_refuse ⟨Nat.le_of_ble_eq_true rfl, Nat.le_of_ble_eq_true rfl⟩) (xpV hN hK hP hD [0, 5] rfl (by decide) rfl rfl) rfl rfl hl.1 rfl (lv_room (Nat.le_of_ble_eq_true rfl)) dX5_takeWordAndRow_90 ⟨Nat.zero_le _, Nat.zero_le _⟩) hP hD hS hA [0, 5] [1, 2, 3, 4, 6, 7] [6, 0, 1, 2, 3, 7, 4, 5] rfl rfl (by decide) (by decide) rfl (by decide) (fun H locs hP hD hS => ?_)
    rw [hQ]
    exact W.iret (v := o5.1) hx hb hr (fun t9 ht hW => ⟨⟨o5.1, (o5.2, t_told, t_told_sounds), rfl, (Option.some.inj hm), by rw [ht]; exact hP, va_K.moved hW.alike hK, hD⟩, hS.F ht⟩) hS.2.2 dX5_takeWordAndRow_93
  have B_121 : ∀ (t_refusals : Nat → Int32) (t_told : Nat → Int32) (t_told_sounds : Nat → Int32) (H : Heap) (locs : List Loc) (ls : Array Slot), b_X5_takeWordAndRow_121 fu t t_shelves_holding t_shelves_sizes t_shelves_elements t_refusals t_told t_told_sounds = some out → va_P D CL [((ad 0), e_X5 ad t), ((ad 13), e_X0 (ad 14) (ad 15) (ad 16)), ((ad 14), eI cA 8 t_shelves_holding), ((ad 15), eI cA 8 t_shelves_sizes), ((ad 16), eJ cA 320 t_shelves_elements), ((ad 19), eI cA 5 t_refusals), ((ad 24), e_X4 (ad 25) t_told), ((ad 25), eI cA 12 t_told_sounds)] H → va_D A [((ad 0), e_X5 ad t), ((ad 13), e_X0 (ad 14) (ad 15) (ad 16)), ((ad 14), eI cA 8 t_shelves_holding), ((ad 15), eI cA 8 t_shelves_sizes), ((ad 16), eJ cA 320 t_shelves_elements), ((ad 19), eI cA 5 t_refusals), ((ad 24), e_X4 (ad 25) t_told), ((ad 25), eI cA 12 t_told_sounds)] → va_S A s.heap H locs → lv_has ls 9 [(0, .ref (ad 0))] → W p l e rm_X5_takeWordAndRow s m args below meth c H locs 0 0 Q (F0 m 121 ls []) := by
    intro  t_refusals t_told t_told_sounds H locs ls hm hP hD hS hl
    unfold b_X5_takeWordAndRow_121 at hm
    refine lv_aload_n hx hb dX5_takeWordAndRow_121 rfl (lv_at hl 0 rfl) ?_
    refine lv_bipush (v := (-2 : Int32)) hx hb dX5_takeWordAndRow_122 (by decide) ?_
    obtain ⟨o7, ho8, hm⟩ := bd_s hm
    refine xr_i (wr := [((ad 13), e_X0 (ad 14) (ad 15) (ad 16)), ((ad 14), eI cA 8 t_shelves_holding), ((ad 15), eI cA 8 t_shelves_sizes), ((ad 16), eJ cA 320 t_shelves_elements), ((ad 24), e_X4 (ad 25) t_told), ((ad 25), eI cA 12 t_told_sounds)]) (wn := [((ad 0), e_X5 ad t), ((ad 13), e_X0 (ad 14) (ad 15) (ad 16)), ((ad 14), eI cA 8 t_shelves_holding), ((ad 15), eI cA 8 t_shelves_sizes), ((ad 16), eJ cA 320 t_shelves_elements), ((ad 19), eI cA 5 o7.2), ((ad 24), e_X4 (ad 25) t_told), ((ad 25), eI cA 12 t_told_sounds)]) (va_runV (As := [.int (-2 : Int32)]) (rest := []) ⟨hx, hb, hml, hown, htg⟩ (c_X5_refuse l D cA _ fu ad t t_refusals (-2 : Int32) o7 ho8) (cwV 1 htg (gV q_2_10 q_2_12 q_p1_0 q_1_1 q_2_13) rfl rfl rfl hd_X5_refuse ⟨Nat.le_of_ble_eq_true rfl, Nat.le_of_ble_eq_true rfl⟩) (xpV hN hK hP hD [0, 5] rfl (by decide) rfl rfl) rfl rfl hl.1 rfl (lv_room (Nat.le_of_ble_eq_true rfl)) dX5_takeWordAndRow_124 ⟨Nat.zero_le _, Nat.zero_le _⟩) hP hD hS hA [0, 5] [1, 2, 3, 4, 6, 7] [6, 0, 1, 2, 3, 7, 4, 5] rfl rfl (by decide) (by decide) rfl (by decide) (fun H locs hP hD hS => ?_)
    rw [hQ]
    exact W.iret (v := o7.1) hx hb hr (fun t9 ht hW => ⟨⟨o7.1, (o7.2, t_told, t_told_sounds), rfl, (Option.some.inj hm), by rw [ht]; exact hP, va_K.moved hW.alike hK, hD⟩, hS.F ht⟩) hS.2.2 dX5_takeWordAndRow_127
  have B_172 : ∀ (t_refusals : Nat → Int32) (t_told : Nat → Int32) (t_told_sounds : Nat → Int32) (H : Heap) (locs : List Loc) (ls : Array Slot), b_X5_takeWordAndRow_172 fu t t_shelves_holding t_shelves_sizes t_shelves_elements t_refusals t_told t_told_sounds = some out → va_P D CL [((ad 0), e_X5 ad t), ((ad 13), e_X0 (ad 14) (ad 15) (ad 16)), ((ad 14), eI cA 8 t_shelves_holding), ((ad 15), eI cA 8 t_shelves_sizes), ((ad 16), eJ cA 320 t_shelves_elements), ((ad 19), eI cA 5 t_refusals), ((ad 24), e_X4 (ad 25) t_told), ((ad 25), eI cA 12 t_told_sounds)] H → va_D A [((ad 0), e_X5 ad t), ((ad 13), e_X0 (ad 14) (ad 15) (ad 16)), ((ad 14), eI cA 8 t_shelves_holding), ((ad 15), eI cA 8 t_shelves_sizes), ((ad 16), eJ cA 320 t_shelves_elements), ((ad 19), eI cA 5 t_refusals), ((ad 24), e_X4 (ad 25) t_told), ((ad 25), eI cA 12 t_told_sounds)] → va_S A s.heap H locs → lv_has ls 9 [(0, .ref (ad 0))] → W p l e rm_X5_takeWordAndRow s m args below meth c H locs 0 0 Q (F0 m 172 ls []) := by
    intro  t_refusals t_told t_told_sounds H locs ls hm hP hD hS hl
    unfold b_X5_takeWordAndRow_172 at hm
    refine lv_aload_n hx hb dX5_takeWordAndRow_172 rfl (lv_at hl 0 rfl) ?_
    refine lv_bipush (v := (-5 : Int32)) hx hb dX5_takeWordAndRow_173 (by decide) ?_
    obtain ⟨o9, ho10, hm⟩ := bd_s hm
    refine xr_i (wr := [((ad 13), e_X0 (ad 14) (ad 15) (ad 16)), ((ad 14), eI cA 8 t_shelves_holding), ((ad 15), eI cA 8 t_shelves_sizes), ((ad 16), eJ cA 320 t_shelves_elements), ((ad 24), e_X4 (ad 25) t_told), ((ad 25), eI cA 12 t_told_sounds)]) (wn := [((ad 0), e_X5 ad t), ((ad 13), e_X0 (ad 14) (ad 15) (ad 16)), ((ad 14), eI cA 8 t_shelves_holding), ((ad 15), eI cA 8 t_shelves_sizes), ((ad 16), eJ cA 320 t_shelves_elements), ((ad 19), eI cA 5 o9.2), ((ad 24), e_X4 (ad 25) t_told), ((ad 25), eI cA 12 t_told_sounds)]) (va_runV (As := [.int (-5 : Int32)]) (rest := []) ⟨hx, hb, hml, hown, htg⟩ (c_X5_refuse l D cA _ fu ad t t_refusals (-5 : Int32) o9 ho10) (cwV 1 htg (gV q_2_10 q_2_12 q_p1_0 q_1_1 q_2_13) rfl rfl rfl hd_X5_refuse ⟨Nat.le_of_ble_eq_true rfl, Nat.le_of_ble_eq_true rfl⟩) (xpV hN hK hP hD [0, 5] rfl (by decide) rfl rfl) rfl rfl hl.1 rfl (lv_room (Nat.le_of_ble_eq_true rfl)) dX5_takeWordAndRow_175 ⟨Nat.zero_le _, Nat.zero_le _⟩) hP hD hS hA [0, 5] [1, 2, 3, 4, 6, 7] [6, 0, 1, 2, 3, 7, 4, 5] rfl rfl (by decide) (by decide) rfl (by decide) (fun H locs hP hD hS => ?_)
    rw [hQ]
    exact W.iret (v := o9.1) hx hb hr (fun t9 ht hW => ⟨⟨o9.1, (o9.2, t_told, t_told_sounds), rfl, (Option.some.inj hm), by rw [ht]; exact hP, va_K.moved hW.alike hK, hD⟩, hS.F ht⟩) hS.2.2 dX5_takeWordAndRow_178
  have B_138 : ∀ (n : Nat) (x : Int32 × Int32 × Int32 × (Nat → Int32) × (Nat → Int32) × (Nat → Int32)) (H : Heap) (locs : List Loc) (ls : Array Slot), lfix (b_X5_takeWordAndRow_138 fu t t_shelves_holding t_shelves_sizes t_shelves_elements) n x = some out → va_P D CL [((ad 0), e_X5 ad t), ((ad 13), e_X0 (ad 14) (ad 15) (ad 16)), ((ad 14), eI cA 8 t_shelves_holding), ((ad 15), eI cA 8 t_shelves_sizes), ((ad 16), eJ cA 320 t_shelves_elements), ((ad 19), eI cA 5 x.2.2.2.1), ((ad 24), e_X4 (ad 25) x.2.2.2.2.1), ((ad 25), eI cA 12 x.2.2.2.2.2)] H → va_D A [((ad 0), e_X5 ad t), ((ad 13), e_X0 (ad 14) (ad 15) (ad 16)), ((ad 14), eI cA 8 t_shelves_holding), ((ad 15), eI cA 8 t_shelves_sizes), ((ad 16), eJ cA 320 t_shelves_elements), ((ad 19), eI cA 5 x.2.2.2.1), ((ad 24), e_X4 (ad 25) x.2.2.2.2.1), ((ad 25), eI cA 12 x.2.2.2.2.2)] → va_S A s.heap H locs → lv_has ls 9 [(0, .ref (ad 0)), (1, .int x.1), (2, .int x.2.1), (6, .int x.2.2.1)] → W p l e rm_X5_takeWordAndRow s m args below meth c H locs 0 0 Q (F0 m 138 ls []) := by
    intro  n
    induction n with
    | zero => intro x H locs ls hm; cases (show none = some out from hm)
    | succ n HK_138 =>
      intro x H locs ls hm hP hD hS hl
      replace hm : b_X5_takeWordAndRow_138 fu t t_shelves_holding t_shelves_sizes t_shelves_elements (lfix (b_X5_takeWordAndRow_138 fu t t_shelves_holding t_shelves_sizes t_shelves_elements) n) x = some out := hm
      unfold b_X5_takeWordAndRow_138 at hm
      refine lv_iload hx hb dX5_takeWordAndRow_138 (lv_at hl 3 rfl) ?_
      refine lv_iload_n hx hb dX5_takeWordAndRow_140 rfl (lv_at hl 2 rfl) ?_
      refine lv_icmp_ge (tgt := 195) hx hb dX5_takeWordAndRow_141 (by decide) (fun c11 => ?_) (fun c11 => ?_)
      · have hm := it_t c11 hm
        refine lv_iconst (v := (0 : Int32)) hx hb dX5_takeWordAndRow_195 (by decide) ?_
        rw [hQ]
        exact W.iret (v := (0 : Int32)) hx hb hr (fun t9 ht hW => ⟨⟨(0 : Int32), (x.2.2.2.1, x.2.2.2.2.1, x.2.2.2.2.2), rfl, (Option.some.inj hm), by rw [ht]; exact hP, va_K.moved hW.alike hK, hD⟩, hS.F ht⟩) hS.2.2 dX5_takeWordAndRow_196
      · have hm := it_f c11 hm
        refine lv_aload_n hx hb dX5_takeWordAndRow_144 rfl (lv_at hl 0 rfl) ?_
        refine va_get (D := D) (ci := 5) (v := .ref (ad 13)) (C := RX5) (T := TX5) (N := 17) hx hb htg inX5 hown hK hP 0 rfl rfl 4 (by decide) (htg _ q_1_192) (fun _ h9 => h9) rfl dX5_takeWordAndRow_145 ?_
        refine lv_iload_n hx hb dX5_takeWordAndRow_148 rfl (lv_at hl 1 rfl) ?_
        refine lv_iload hx hb dX5_takeWordAndRow_149 (lv_at hl 3 rfl) ?_
        obtain ⟨o12, ho13, hm⟩ := bd_s hm
        refine xr_l (wr := [((ad 0), e_X5 ad t), ((ad 14), eI cA 8 t_shelves_holding), ((ad 19), eI cA 5 x.2.2.2.1), ((ad 24), e_X4 (ad 25) x.2.2.2.2.1), ((ad 25), eI cA 12 x.2.2.2.2.2)]) (wn := [((ad 0), e_X5 ad t), ((ad 13), e_X0 (ad 14) (ad 15) (ad 16)), ((ad 14), eI cA 8 t_shelves_holding), ((ad 15), eI cA 8 t_shelves_sizes), ((ad 16), eJ cA 320 t_shelves_elements), ((ad 19), eI cA 5 x.2.2.2.1), ((ad 24), e_X4 (ad 25) x.2.2.2.2.1), ((ad 25), eI cA 12 x.2.2.2.2.2)]) (va_runVN (As := [.int x.1, .int x.2.2.1]) (rest := []) ⟨hx, hb, hml, hown, htg⟩ (c_X0_elementAt l D cA _ fu (ad 13) (ad 14) (ad 15) (ad 16) t_shelves_sizes t_shelves_elements x.1 x.2.2.1 o12 ho13) ⟨va_cnB 2 htg (gU q_2_77) rfl rfl rfl (hN _ q_2_74) (htg _ q_1_3) hd_X0_elementAt.2 ⟨Nat.le_of_ble_eq_true rfl, Nat.le_of_ble_eq_true rfl⟩, htg _ q_2_76, htg _ q_p1_9⟩ (xpV hN hK hP hD [1, 3, 4] rfl (by decide) rfl rfl) rfl rfl hl.1 rfl (lv_room (Nat.le_of_ble_eq_true rfl)) dX5_takeWordAndRow_151 ⟨Nat.zero_le _, Nat.zero_le _⟩) hP hD hS hA [1, 3, 4] [0, 2, 5, 6, 7] [0, 5, 1, 6, 7, 2, 3, 4] rfl rfl (by decide) (by decide) rfl (by decide) (fun H locs hP hD hS => ?_)
        refine lv_lstore (lv' := [(7, .long o12.1), (0, .ref (ad 0)), (1, .int x.1), (2, .int x.2.1), (6, .int x.2.2.1)]) hx hb dX5_takeWordAndRow_154 hl (by decide) rfl (fun ls hl => ?_)
        refine lv_lload hx hb dX5_takeWordAndRow_156 (lv_at hl 0 rfl) ?_
        refine lv_lconst (v := (0 : Int64)) hx hb dX5_takeWordAndRow_158 (by decide) ?_
        refine W.lcmp hx hb dX5_takeWordAndRow_159 ?_
        refine lv_if_lt (tgt := 172) hx hb dX5_takeWordAndRow_160 (by decide) (fun c14 => ?_) (fun c14 => ?_)
        · have hm := it_t c14 hm
          exact B_172 _ _ _ _ _ _ hm hP hD hS (lv_sub hl [1] rfl)
        · have hm := it_f c14 hm
          refine lv_lload hx hb dX5_takeWordAndRow_163 (lv_at hl 0 rfl) ?_
          refine lv_ldc2 (v := (40 : Int64)) hx hb hown (htg _ q_3_134) dX5_takeWordAndRow_165 ?_
          refine W.lcmp hx hb dX5_takeWordAndRow_168 ?_
          refine lv_if_lt (tgt := 179) hx hb dX5_takeWordAndRow_169 (by decide) (fun c15 => ?_) (fun c15 => ?_)
          · have hm := it_t c15 hm
            refine lv_aload_n hx hb dX5_takeWordAndRow_179 rfl (lv_at hl 1 rfl) ?_
            refine va_get (D := D) (ci := 5) (v := .ref (ad 24)) (C := RX5) (T := TX5) (N := 17) hx hb htg inX5 hown hK hP 0 rfl rfl 9 (by decide) (htg _ q_1_197) (fun _ h9 => h9) rfl dX5_takeWordAndRow_180 ?_
            refine lv_lload hx hb dX5_takeWordAndRow_183 (lv_at hl 0 rfl) ?_
            refine lv_l2i hx hb dX5_takeWordAndRow_185 rfl ?_
            obtain ⟨o16, ho17, hm⟩ := bd_s hm
            refine xr_v (wr := [((ad 0), e_X5 ad t), ((ad 13), e_X0 (ad 14) (ad 15) (ad 16)), ((ad 14), eI cA 8 t_shelves_holding), ((ad 15), eI cA 8 t_shelves_sizes), ((ad 16), eJ cA 320 t_shelves_elements), ((ad 19), eI cA 5 x.2.2.2.1)]) (wn := [((ad 0), e_X5 ad t), ((ad 13), e_X0 (ad 14) (ad 15) (ad 16)), ((ad 14), eI cA 8 t_shelves_holding), ((ad 15), eI cA 8 t_shelves_sizes), ((ad 16), eJ cA 320 t_shelves_elements), ((ad 19), eI cA 5 x.2.2.2.1), ((ad 24), e_X4 (ad 25) o16.1), ((ad 25), eI cA 12 o16.2)]) (va_runVN (As := [.int o12.1.toInt32]) (rest := []) ⟨hx, hb, hml, hown, htg⟩ (c_X4_add l D cA _ fu (ad 24) (ad 25) x.2.2.2.2.1 x.2.2.2.2.2 o12.1.toInt32 o16 ho17) ⟨va_cnB 1 htg (gU q_2_121) rfl rfl rfl (hN _ q_2_118) (htg _ q_1_7) hd_X4_add.2 ⟨Nat.le_of_ble_eq_true rfl, Nat.le_of_ble_eq_true rfl⟩, htg _ q_2_120, htg _ q_p1_15⟩ (xpV hN hK hP hD [6, 7] rfl (by decide) rfl rfl) rfl rfl hl.1 rfl (lv_room (Nat.le_of_ble_eq_true rfl)) dX5_takeWordAndRow_186 ⟨Nat.zero_le _, Nat.zero_le _⟩) hP hD hS hA [6, 7] [0, 1, 2, 3, 4, 5] [0, 1, 2, 3, 4, 5, 6, 7] rfl rfl (by decide) (by decide) rfl (by decide) (fun H locs hP hD hS => ?_)
            refine lv_iinc (v := (x.2.2.1 + (1 : Int32))) (lv' := [(6, .int (x.2.2.1 + (1 : Int32))), (7, .long o12.1), (0, .ref (ad 0)), (1, .int x.1), (2, .int x.2.1)]) hx hb dX5_takeWordAndRow_189 hl (k := 4) rfl rfl (by decide) rfl (fun ls hl => ?_)
            refine lv_goto (tgt := 138) hx hb dX5_takeWordAndRow_192 (by decide) ?_
            exact HK_138 _ _ _ _ hm hP hD hS (lv_sub hl [2, 3, 4, 0] rfl)
          · have hm := it_f c15 hm
            exact B_172 _ _ _ _ _ _ hm hP hD hS (lv_sub hl [1] rfl)
  unfold m_X5_takeWordAndRow at hm
  subst hargs
  have hl := lv_entry ([.ref (ad 0), .int l1, .int l2, .int l3, .int l4, .int l5]) (n := 9) (Nat.le_of_ble_eq_true rfl)
  rw [lg_entry_eq]
  generalize (lg_sl ([.ref (ad 0), .int l1, .int l2, .int l3, .int l4, .int l5]) ++ List.replicate (9 - (lg_sl ([.ref (ad 0), .int l1, .int l2, .int l3, .int l4, .int l5])).length) Slot.unset).toArray = ls at hl ⊢
  have hl : lv_has ls 9 [(0, .ref (ad 0)), (1, .int l1), (2, .int l2), (3, .int l3), (4, .int l4), (5, .int l5)] := hl
  refine lv_iload_n hx hb dX5_takeWordAndRow_0 rfl (lv_at hl 1 rfl) ?_
  obtain ⟨o18, ho19, hm⟩ := bd_s hm
  refine xr_i (wr := [((ad 0), e_X5 ad t), ((ad 13), e_X0 (ad 14) (ad 15) (ad 16)), ((ad 14), eI cA 8 t_shelves_holding), ((ad 15), eI cA 8 t_shelves_sizes), ((ad 16), eJ cA 320 t_shelves_elements), ((ad 19), eI cA 5 t_refusals), ((ad 24), e_X4 (ad 25) t_told), ((ad 25), eI cA 12 t_told_sounds)]) (wn := [((ad 0), e_X5 ad t), ((ad 13), e_X0 (ad 14) (ad 15) (ad 16)), ((ad 14), eI cA 8 t_shelves_holding), ((ad 15), eI cA 8 t_shelves_sizes), ((ad 16), eJ cA 320 t_shelves_elements), ((ad 19), eI cA 5 t_refusals), ((ad 24), e_X4 (ad 25) t_told), ((ad 25), eI cA 12 t_told_sounds)]) (va_runS (As := [.int l1]) (rest := []) ⟨hx, hb, hml, hown, htg⟩ (c_X5_isShelf l D cA _ fu l1 o18 ho19) (cwS 1 htg (gS q_2_4 q_2_5 q_1_1 q_2_6) rfl rfl rfl hd_X5_isShelf ⟨Nat.le_of_ble_eq_true rfl, Nat.le_of_ble_eq_true rfl⟩) (xpS hN hK hP hD [] rfl (by decide)) rfl rfl hl.1 rfl (lv_room (Nat.le_of_ble_eq_true rfl)) dX5_takeWordAndRow_1 ⟨Nat.zero_le _, Nat.zero_le _⟩) hP hD hS hA [] [0, 1, 2, 3, 4, 5, 6, 7] [0, 1, 2, 3, 4, 5, 6, 7] rfl rfl (by decide) (by decide) rfl (by decide) (fun H locs hP hD hS => ?_)
  refine lv_if_eq (tgt := 29) hx hb dX5_takeWordAndRow_4 (by decide) (fun c20 => ?_) (fun c20 => ?_)
  · have hm := it_t c20 hm
    exact B_29 _ _ _ _ _ _ hm hP hD hS (lv_sub hl [0] rfl)
  · have hm := it_f c20 hm
    refine lv_iload_n hx hb dX5_takeWordAndRow_7 rfl (lv_at hl 2 rfl) ?_
    refine lv_iconst (v := (0 : Int32)) hx hb dX5_takeWordAndRow_8 (by decide) ?_
    refine lv_bipush (v := (12 : Int32)) hx hb dX5_takeWordAndRow_9 (by decide) ?_
    obtain ⟨o21, ho22, hm⟩ := bd_s hm
    refine xr_i (wr := [((ad 0), e_X5 ad t), ((ad 13), e_X0 (ad 14) (ad 15) (ad 16)), ((ad 14), eI cA 8 t_shelves_holding), ((ad 15), eI cA 8 t_shelves_sizes), ((ad 16), eJ cA 320 t_shelves_elements), ((ad 19), eI cA 5 t_refusals), ((ad 24), e_X4 (ad 25) t_told), ((ad 25), eI cA 12 t_told_sounds)]) (wn := [((ad 0), e_X5 ad t), ((ad 13), e_X0 (ad 14) (ad 15) (ad 16)), ((ad 14), eI cA 8 t_shelves_holding), ((ad 15), eI cA 8 t_shelves_sizes), ((ad 16), eJ cA 320 t_shelves_elements), ((ad 19), eI cA 5 t_refusals), ((ad 24), e_X4 (ad 25) t_told), ((ad 25), eI cA 12 t_told_sounds)]) (va_runS (As := [.int l2, .int (0 : Int32), .int (12 : Int32)]) (rest := []) ⟨hx, hb, hml, hown, htg⟩ (c_X5_isWithin l D cA _ fu l2 (0 : Int32) (12 : Int32) o21 ho22) (cwS 3 htg (gS q_2_7 q_2_8 q_1_1 q_2_9) rfl rfl rfl hd_X5_isWithin ⟨Nat.le_of_ble_eq_true rfl, Nat.le_of_ble_eq_true rfl⟩) (xpS hN hK hP hD [] rfl (by decide)) rfl rfl hl.1 rfl (lv_room (Nat.le_of_ble_eq_true rfl)) dX5_takeWordAndRow_11 ⟨Nat.zero_le _, Nat.zero_le _⟩) hP hD hS hA [] [0, 1, 2, 3, 4, 5, 6, 7] [0, 1, 2, 3, 4, 5, 6, 7] rfl rfl (by decide) (by decide) rfl (by decide) (fun H locs hP hD hS => ?_)
    refine lv_if_eq (tgt := 29) hx hb dX5_takeWordAndRow_14 (by decide) (fun c23 => ?_) (fun c23 => ?_)
    · have hm := it_t c23 hm
      exact B_29 _ _ _ _ _ _ hm hP hD hS (lv_sub hl [0] rfl)
    · have hm := it_f c23 hm
      refine lv_iload_n hx hb dX5_takeWordAndRow_17 rfl (lv_at hl 3 rfl) ?_
      obtain ⟨o24, ho25, hm⟩ := bd_s hm
      refine xr_i (wr := [((ad 0), e_X5 ad t), ((ad 13), e_X0 (ad 14) (ad 15) (ad 16)), ((ad 14), eI cA 8 t_shelves_holding), ((ad 15), eI cA 8 t_shelves_sizes), ((ad 16), eJ cA 320 t_shelves_elements), ((ad 19), eI cA 5 t_refusals), ((ad 24), e_X4 (ad 25) t_told), ((ad 25), eI cA 12 t_told_sounds)]) (wn := [((ad 0), e_X5 ad t), ((ad 13), e_X0 (ad 14) (ad 15) (ad 16)), ((ad 14), eI cA 8 t_shelves_holding), ((ad 15), eI cA 8 t_shelves_sizes), ((ad 16), eJ cA 320 t_shelves_elements), ((ad 19), eI cA 5 t_refusals), ((ad 24), e_X4 (ad 25) t_told), ((ad 25), eI cA 12 t_told_sounds)]) (va_runS (As := [.int l3]) (rest := []) ⟨hx, hb, hml, hown, htg⟩ (c_X5_isShelf l D cA _ fu l3 o24 ho25) (cwS 1 htg (gS q_2_4 q_2_5 q_1_1 q_2_6) rfl rfl rfl hd_X5_isShelf ⟨Nat.le_of_ble_eq_true rfl, Nat.le_of_ble_eq_true rfl⟩) (xpS hN hK hP hD [] rfl (by decide)) rfl rfl hl.1 rfl (lv_room (Nat.le_of_ble_eq_true rfl)) dX5_takeWordAndRow_18 ⟨Nat.zero_le _, Nat.zero_le _⟩) hP hD hS hA [] [0, 1, 2, 3, 4, 5, 6, 7] [0, 1, 2, 3, 4, 5, 6, 7] rfl rfl (by decide) (by decide) rfl (by decide) (fun H locs hP hD hS => ?_)
      refine lv_if_eq (tgt := 29) hx hb dX5_takeWordAndRow_21 (by decide) (fun c26 => ?_) (fun c26 => ?_)
      · have hm := it_t c26 hm
        exact B_29 _ _ _ _ _ _ hm hP hD hS (lv_sub hl [0] rfl)
      · have hm := it_f c26 hm
        refine lv_iload hx hb dX5_takeWordAndRow_24 (lv_at hl 5 rfl) ?_
        refine lv_if_ne (tgt := 36) hx hb dX5_takeWordAndRow_26 (by decide) (fun c27 => ?_) (fun c27 => ?_)
        · have hm := it_f c27 hm
          refine lv_aload_n hx hb dX5_takeWordAndRow_36 rfl (lv_at hl 0 rfl) ?_
          refine va_get (D := D) (ci := 5) (v := .ref (ad 13)) (C := RX5) (T := TX5) (N := 17) hx hb htg inX5 hown hK hP 0 rfl rfl 4 (by decide) (htg _ q_1_192) (fun _ h9 => h9) rfl dX5_takeWordAndRow_37 ?_
          refine lv_iload_n hx hb dX5_takeWordAndRow_40 rfl (lv_at hl 1 rfl) ?_
          obtain ⟨o28, ho29, hm⟩ := bd_s hm
          refine xr_i (wr := [((ad 0), e_X5 ad t), ((ad 15), eI cA 8 t_shelves_sizes), ((ad 16), eJ cA 320 t_shelves_elements), ((ad 19), eI cA 5 t_refusals), ((ad 24), e_X4 (ad 25) t_told), ((ad 25), eI cA 12 t_told_sounds)]) (wn := [((ad 0), e_X5 ad t), ((ad 13), e_X0 (ad 14) (ad 15) (ad 16)), ((ad 14), eI cA 8 t_shelves_holding), ((ad 15), eI cA 8 t_shelves_sizes), ((ad 16), eJ cA 320 t_shelves_elements), ((ad 19), eI cA 5 t_refusals), ((ad 24), e_X4 (ad 25) t_told), ((ad 25), eI cA 12 t_told_sounds)]) (va_runVN (As := [.int l1]) (rest := []) ⟨hx, hb, hml, hown, htg⟩ (c_X0_hasVoice l D cA _ fu (ad 13) (ad 14) (ad 15) (ad 16) t_shelves_holding l1 o28 ho29) ⟨va_cnB 1 htg (gU q_2_33) rfl rfl rfl (hN _ q_2_30) (htg _ q_1_3) hd_X0_hasVoice.2 ⟨Nat.le_of_ble_eq_true rfl, Nat.le_of_ble_eq_true rfl⟩, htg _ q_2_32, htg _ q_p1_2⟩ (xpV hN hK hP hD [1, 2] rfl (by decide) rfl rfl) rfl rfl hl.1 rfl (lv_room (Nat.le_of_ble_eq_true rfl)) dX5_takeWordAndRow_41 ⟨Nat.zero_le _, Nat.zero_le _⟩) hP hD hS hA [1, 2] [0, 3, 4, 5, 6, 7] [0, 6, 7, 1, 2, 3, 4, 5] rfl rfl (by decide) (by decide) rfl (by decide) (fun H locs hP hD hS => ?_)
          refine lv_if_ne (tgt := 58) hx hb dX5_takeWordAndRow_44 (by decide) (fun c30 => ?_) (fun c30 => ?_)
          · have hm := it_f c30 hm
            exact B_58 _ _ _ _ _ _ hm hP hD hS (lv_sub hl [0] rfl)
          · have hm := it_t c30 hm
            refine lv_aload_n hx hb dX5_takeWordAndRow_47 rfl (lv_at hl 0 rfl) ?_
            refine va_get (D := D) (ci := 5) (v := .ref (ad 13)) (C := RX5) (T := TX5) (N := 17) hx hb htg inX5 hown hK hP 0 rfl rfl 4 (by decide) (htg _ q_1_192) (fun _ h9 => h9) rfl dX5_takeWordAndRow_48 ?_
            refine lv_iload_n hx hb dX5_takeWordAndRow_51 rfl (lv_at hl 3 rfl) ?_
            obtain ⟨o31, ho32, hm⟩ := bd_s hm
            refine xr_i (wr := [((ad 0), e_X5 ad t), ((ad 15), eI cA 8 t_shelves_sizes), ((ad 16), eJ cA 320 t_shelves_elements), ((ad 19), eI cA 5 t_refusals), ((ad 24), e_X4 (ad 25) t_told), ((ad 25), eI cA 12 t_told_sounds)]) (wn := [((ad 0), e_X5 ad t), ((ad 13), e_X0 (ad 14) (ad 15) (ad 16)), ((ad 14), eI cA 8 t_shelves_holding), ((ad 15), eI cA 8 t_shelves_sizes), ((ad 16), eJ cA 320 t_shelves_elements), ((ad 19), eI cA 5 t_refusals), ((ad 24), e_X4 (ad 25) t_told), ((ad 25), eI cA 12 t_told_sounds)]) (va_runVN (As := [.int l3]) (rest := []) ⟨hx, hb, hml, hown, htg⟩ (c_X0_hasVoice l D cA _ fu (ad 13) (ad 14) (ad 15) (ad 16) t_shelves_holding l3 o31 ho32) ⟨va_cnB 1 htg (gU q_2_33) rfl rfl rfl (hN _ q_2_30) (htg _ q_1_3) hd_X0_hasVoice.2 ⟨Nat.le_of_ble_eq_true rfl, Nat.le_of_ble_eq_true rfl⟩, htg _ q_2_32, htg _ q_p1_2⟩ (xpV hN hK hP hD [1, 2] rfl (by decide) rfl rfl) rfl rfl hl.1 rfl (lv_room (Nat.le_of_ble_eq_true rfl)) dX5_takeWordAndRow_52 ⟨Nat.zero_le _, Nat.zero_le _⟩) hP hD hS hA [1, 2] [0, 3, 4, 5, 6, 7] [0, 6, 7, 1, 2, 3, 4, 5] rfl rfl (by decide) (by decide) rfl (by decide) (fun H locs hP hD hS => ?_)
            refine lv_if_eq (tgt := 65) hx hb dX5_takeWordAndRow_55 (by decide) (fun c33 => ?_) (fun c33 => ?_)
            · have hm := it_t c33 hm
              refine lv_aload_n hx hb dX5_takeWordAndRow_65 rfl (lv_at hl 0 rfl) ?_
              refine va_get (D := D) (ci := 5) (v := .ref (ad 13)) (C := RX5) (T := TX5) (N := 17) hx hb htg inX5 hown hK hP 0 rfl rfl 4 (by decide) (htg _ q_1_192) (fun _ h9 => h9) rfl dX5_takeWordAndRow_66 ?_
              refine lv_iload_n hx hb dX5_takeWordAndRow_69 rfl (lv_at hl 1 rfl) ?_
              obtain ⟨o34, ho35, hm⟩ := bd_s hm
              refine xr_i (wr := [((ad 0), e_X5 ad t), ((ad 15), eI cA 8 t_shelves_sizes), ((ad 16), eJ cA 320 t_shelves_elements), ((ad 19), eI cA 5 t_refusals), ((ad 24), e_X4 (ad 25) t_told), ((ad 25), eI cA 12 t_told_sounds)]) (wn := [((ad 0), e_X5 ad t), ((ad 13), e_X0 (ad 14) (ad 15) (ad 16)), ((ad 14), eI cA 8 t_shelves_holding), ((ad 15), eI cA 8 t_shelves_sizes), ((ad 16), eJ cA 320 t_shelves_elements), ((ad 19), eI cA 5 t_refusals), ((ad 24), e_X4 (ad 25) t_told), ((ad 25), eI cA 12 t_told_sounds)]) (va_runVN (As := [.int l1]) (rest := []) ⟨hx, hb, hml, hown, htg⟩ (c_X0_isBare l D cA _ fu (ad 13) (ad 14) (ad 15) (ad 16) t_shelves_holding l1 o34 ho35) ⟨va_cnB 1 htg (gU q_2_41) rfl rfl rfl (hN _ q_2_38) (htg _ q_1_3) hd_X0_isBare.2 ⟨Nat.le_of_ble_eq_true rfl, Nat.le_of_ble_eq_true rfl⟩, htg _ q_2_40, htg _ q_p1_4⟩ (xpV hN hK hP hD [1, 2] rfl (by decide) rfl rfl) rfl rfl hl.1 rfl (lv_room (Nat.le_of_ble_eq_true rfl)) dX5_takeWordAndRow_70 ⟨Nat.zero_le _, Nat.zero_le _⟩) hP hD hS hA [1, 2] [0, 3, 4, 5, 6, 7] [0, 6, 7, 1, 2, 3, 4, 5] rfl rfl (by decide) (by decide) rfl (by decide) (fun H locs hP hD hS => ?_)
              refine lv_if_ne (tgt := 87) hx hb dX5_takeWordAndRow_73 (by decide) (fun c36 => ?_) (fun c36 => ?_)
              · have hm := it_f c36 hm
                exact B_87 _ _ _ _ _ _ hm hP hD hS (lv_sub hl [0] rfl)
              · have hm := it_t c36 hm
                refine lv_aload_n hx hb dX5_takeWordAndRow_76 rfl (lv_at hl 0 rfl) ?_
                refine va_get (D := D) (ci := 5) (v := .ref (ad 13)) (C := RX5) (T := TX5) (N := 17) hx hb htg inX5 hown hK hP 0 rfl rfl 4 (by decide) (htg _ q_1_192) (fun _ h9 => h9) rfl dX5_takeWordAndRow_77 ?_
                refine lv_iload_n hx hb dX5_takeWordAndRow_80 rfl (lv_at hl 3 rfl) ?_
                obtain ⟨o37, ho38, hm⟩ := bd_s hm
                refine xr_i (wr := [((ad 0), e_X5 ad t), ((ad 15), eI cA 8 t_shelves_sizes), ((ad 16), eJ cA 320 t_shelves_elements), ((ad 19), eI cA 5 t_refusals), ((ad 24), e_X4 (ad 25) t_told), ((ad 25), eI cA 12 t_told_sounds)]) (wn := [((ad 0), e_X5 ad t), ((ad 13), e_X0 (ad 14) (ad 15) (ad 16)), ((ad 14), eI cA 8 t_shelves_holding), ((ad 15), eI cA 8 t_shelves_sizes), ((ad 16), eJ cA 320 t_shelves_elements), ((ad 19), eI cA 5 t_refusals), ((ad 24), e_X4 (ad 25) t_told), ((ad 25), eI cA 12 t_told_sounds)]) (va_runVN (As := [.int l3]) (rest := []) ⟨hx, hb, hml, hown, htg⟩ (c_X0_isBare l D cA _ fu (ad 13) (ad 14) (ad 15) (ad 16) t_shelves_holding l3 o37 ho38) ⟨va_cnB 1 htg (gU q_2_41) rfl rfl rfl (hN _ q_2_38) (htg _ q_1_3) hd_X0_isBare.2 ⟨Nat.le_of_ble_eq_true rfl, Nat.le_of_ble_eq_true rfl⟩, htg _ q_2_40, htg _ q_p1_4⟩ (xpV hN hK hP hD [1, 2] rfl (by decide) rfl rfl) rfl rfl hl.1 rfl (lv_room (Nat.le_of_ble_eq_true rfl)) dX5_takeWordAndRow_81 ⟨Nat.zero_le _, Nat.zero_le _⟩) hP hD hS hA [1, 2] [0, 3, 4, 5, 6, 7] [0, 6, 7, 1, 2, 3, 4, 5] rfl rfl (by decide) (by decide) rfl (by decide) (fun H locs hP hD hS => ?_)
                refine lv_if_eq (tgt := 94) hx hb dX5_takeWordAndRow_84 (by decide) (fun c39 => ?_) (fun c39 => ?_)
                · have hm := it_t c39 hm
                  refine lv_aload_n hx hb dX5_takeWordAndRow_94 rfl (lv_at hl 0 rfl) ?_
                  refine va_get (D := D) (ci := 5) (v := .ref (ad 13)) (C := RX5) (T := TX5) (N := 17) hx hb htg inX5 hown hK hP 0 rfl rfl 4 (by decide) (htg _ q_1_192) (fun _ h9 => h9) rfl dX5_takeWordAndRow_95 ?_
                  refine lv_iload_n hx hb dX5_takeWordAndRow_98 rfl (lv_at hl 1 rfl) ?_
                  refine lv_iconst (v := (0 : Int32)) hx hb dX5_takeWordAndRow_99 (by decide) ?_
                  refine lv_iload_n hx hb dX5_takeWordAndRow_100 rfl (lv_at hl 2 rfl) ?_
                  obtain ⟨o40, ho41, hm⟩ := bd_s hm
                  refine xr_i (wr := [((ad 0), e_X5 ad t), ((ad 14), eI cA 8 t_shelves_holding), ((ad 16), eJ cA 320 t_shelves_elements), ((ad 19), eI cA 5 t_refusals), ((ad 24), e_X4 (ad 25) t_told), ((ad 25), eI cA 12 t_told_sounds)]) (wn := [((ad 0), e_X5 ad t), ((ad 13), e_X0 (ad 14) (ad 15) (ad 16)), ((ad 14), eI cA 8 t_shelves_holding), ((ad 15), eI cA 8 t_shelves_sizes), ((ad 16), eJ cA 320 t_shelves_elements), ((ad 19), eI cA 5 t_refusals), ((ad 24), e_X4 (ad 25) t_told), ((ad 25), eI cA 12 t_told_sounds)]) (va_runVN (As := [.int l1, .int (0 : Int32), .int l2]) (rest := []) ⟨hx, hb, hml, hown, htg⟩ (c_X0_hasPlaces l D cA _ fu (ad 13) (ad 14) (ad 15) (ad 16) t_shelves_sizes l1 (0 : Int32) l2 o40 ho41) ⟨va_cnB 3 htg (gU q_2_45) rfl rfl rfl (hN _ q_2_42) (htg _ q_1_3) hd_X0_hasPlaces.2 ⟨Nat.le_of_ble_eq_true rfl, Nat.le_of_ble_eq_true rfl⟩, htg _ q_2_44, htg _ q_p1_5⟩ (xpV hN hK hP hD [1, 3] rfl (by decide) rfl rfl) rfl rfl hl.1 rfl (lv_room (Nat.le_of_ble_eq_true rfl)) dX5_takeWordAndRow_101 ⟨Nat.zero_le _, Nat.zero_le _⟩) hP hD hS hA [1, 3] [0, 2, 4, 5, 6, 7] [0, 6, 1, 7, 2, 3, 4, 5] rfl rfl (by decide) (by decide) rfl (by decide) (fun H locs hP hD hS => ?_)
                  refine lv_if_eq (tgt := 121) hx hb dX5_takeWordAndRow_104 (by decide) (fun c42 => ?_) (fun c42 => ?_)
                  · have hm := it_t c42 hm
                    exact B_121 _ _ _ _ _ _ hm hP hD hS (lv_sub hl [0] rfl)
                  · have hm := it_f c42 hm
                    refine lv_aload_n hx hb dX5_takeWordAndRow_107 rfl (lv_at hl 0 rfl) ?_
                    refine va_get (D := D) (ci := 5) (v := .ref (ad 13)) (C := RX5) (T := TX5) (N := 17) hx hb htg inX5 hown hK hP 0 rfl rfl 4 (by decide) (htg _ q_1_192) (fun _ h9 => h9) rfl dX5_takeWordAndRow_108 ?_
                    refine lv_iload_n hx hb dX5_takeWordAndRow_111 rfl (lv_at hl 3 rfl) ?_
                    refine lv_iconst (v := (0 : Int32)) hx hb dX5_takeWordAndRow_112 (by decide) ?_
                    refine lv_iload hx hb dX5_takeWordAndRow_113 (lv_at hl 4 rfl) ?_
                    obtain ⟨o43, ho44, hm⟩ := bd_s hm
                    refine xr_i (wr := [((ad 0), e_X5 ad t), ((ad 14), eI cA 8 t_shelves_holding), ((ad 16), eJ cA 320 t_shelves_elements), ((ad 19), eI cA 5 t_refusals), ((ad 24), e_X4 (ad 25) t_told), ((ad 25), eI cA 12 t_told_sounds)]) (wn := [((ad 0), e_X5 ad t), ((ad 13), e_X0 (ad 14) (ad 15) (ad 16)), ((ad 14), eI cA 8 t_shelves_holding), ((ad 15), eI cA 8 t_shelves_sizes), ((ad 16), eJ cA 320 t_shelves_elements), ((ad 19), eI cA 5 t_refusals), ((ad 24), e_X4 (ad 25) t_told), ((ad 25), eI cA 12 t_told_sounds)]) (va_runVN (As := [.int l3, .int (0 : Int32), .int l4]) (rest := []) ⟨hx, hb, hml, hown, htg⟩ (c_X0_hasPlaces l D cA _ fu (ad 13) (ad 14) (ad 15) (ad 16) t_shelves_sizes l3 (0 : Int32) l4 o43 ho44) ⟨va_cnB 3 htg (gU q_2_45) rfl rfl rfl (hN _ q_2_42) (htg _ q_1_3) hd_X0_hasPlaces.2 ⟨Nat.le_of_ble_eq_true rfl, Nat.le_of_ble_eq_true rfl⟩, htg _ q_2_44, htg _ q_p1_5⟩ (xpV hN hK hP hD [1, 3] rfl (by decide) rfl rfl) rfl rfl hl.1 rfl (lv_room (Nat.le_of_ble_eq_true rfl)) dX5_takeWordAndRow_115 ⟨Nat.zero_le _, Nat.zero_le _⟩) hP hD hS hA [1, 3] [0, 2, 4, 5, 6, 7] [0, 6, 1, 7, 2, 3, 4, 5] rfl rfl (by decide) (by decide) rfl (by decide) (fun H locs hP hD hS => ?_)
                    refine lv_if_ne (tgt := 128) hx hb dX5_takeWordAndRow_118 (by decide) (fun c45 => ?_) (fun c45 => ?_)
                    · have hm := it_f c45 hm
                      refine lv_aload_n hx hb dX5_takeWordAndRow_128 rfl (lv_at hl 0 rfl) ?_
                      refine va_get (D := D) (ci := 5) (v := .ref (ad 24)) (C := RX5) (T := TX5) (N := 17) hx hb htg inX5 hown hK hP 0 rfl rfl 9 (by decide) (htg _ q_1_197) (fun _ h9 => h9) rfl dX5_takeWordAndRow_129 ?_
                      obtain ⟨o46, ho47, hm⟩ := bd_s hm
                      refine xr_v (wr := [((ad 0), e_X5 ad t), ((ad 13), e_X0 (ad 14) (ad 15) (ad 16)), ((ad 14), eI cA 8 t_shelves_holding), ((ad 15), eI cA 8 t_shelves_sizes), ((ad 16), eJ cA 320 t_shelves_elements), ((ad 19), eI cA 5 t_refusals), ((ad 25), eI cA 12 t_told_sounds)]) (wn := [((ad 0), e_X5 ad t), ((ad 13), e_X0 (ad 14) (ad 15) (ad 16)), ((ad 14), eI cA 8 t_shelves_holding), ((ad 15), eI cA 8 t_shelves_sizes), ((ad 16), eJ cA 320 t_shelves_elements), ((ad 19), eI cA 5 t_refusals), ((ad 24), e_X4 (ad 25) o46), ((ad 25), eI cA 12 t_told_sounds)]) (va_runVN (As := []) (rest := []) ⟨hx, hb, hml, hown, htg⟩ (c_X4_clear l D cA _ fu (ad 24) (ad 25) t_told o46 ho47) ⟨va_cnB 0 htg (gU q_2_117) rfl rfl rfl (hN _ q_2_114) (htg _ q_1_7) hd_X4_clear.2 ⟨Nat.le_of_ble_eq_true rfl, Nat.le_of_ble_eq_true rfl⟩, htg _ q_2_116, htg _ q_p1_14⟩ (xpV hN hK hP hD [6] rfl (by decide) rfl rfl) rfl rfl hl.1 rfl (lv_room (Nat.le_of_ble_eq_true rfl)) dX5_takeWordAndRow_132 ⟨Nat.zero_le _, Nat.zero_le _⟩) hP hD hS hA [6] [0, 1, 2, 3, 4, 5, 7] [0, 1, 2, 3, 4, 5, 7, 6] rfl rfl (by decide) (by decide) rfl (by decide) (fun H locs hP hD hS => ?_)
                      refine lv_iconst (v := (0 : Int32)) hx hb dX5_takeWordAndRow_135 (by decide) ?_
                      refine lv_istore (lv' := [(6, .int (0 : Int32)), (0, .ref (ad 0)), (1, .int l1), (2, .int l2), (3, .int l3), (4, .int l4), (5, .int l5)]) hx hb dX5_takeWordAndRow_136 hl (by decide) rfl (fun ls hl => ?_)
                      exact B_138 fu _ _ _ _ hm hP hD hS (lv_sub hl [1, 2, 3, 0] rfl)
                    · have hm := it_t c45 hm
                      exact B_121 _ _ _ _ _ _ hm hP hD hS (lv_sub hl [0] rfl)
                · have hm := it_f c39 hm
                  exact B_87 _ _ _ _ _ _ hm hP hD hS (lv_sub hl [0] rfl)
            · have hm := it_f c33 hm
              exact B_58 _ _ _ _ _ _ hm hP hD hS (lv_sub hl [0] rfl)
        · have hm := it_t c27 hm
          exact B_29 _ _ _ _ _ _ hm hP hD hS (lv_sub hl [0] rfl)
def m_X5_takeWord (fu : Nat) (t : Nat → Int32) (t_shelves_holding : Nat → Int32) (t_shelves_sizes : Nat → Int32) (t_shelves_elements : Nat → Int64) (t_refusals : Nat → Int32) (t_told : Nat → Int32) (t_told_sounds : Nat → Int32) (l1 : Int32) (l2 : Int32) (l3 : Int32) : Option (Int32 × ((Nat → Int32) × (Nat → Int32) × (Nat → Int32))) :=
  (m_X5_takeWordAndRow fu t t_shelves_holding t_shelves_sizes t_shelves_elements t_refusals t_told t_told_sounds l1 l2 l1 (0 : Int32) l3).bind fun o1 =>
  some (o1.1, (o1.2.1, o1.2.2.1, o1.2.2.2))
abbrev rm_X5_takeWord : Room := ({ frames := 5, cells := 0, slots := 0, locals := 115 } : Room)
abbrev w0_X5_takeWord (cA : Nat → ClassId) (ad : Nat → Nat) (t : Nat → Int32) (t_shelves_holding : Nat → Int32) (t_shelves_sizes : Nat → Int32) (t_shelves_elements : Nat → Int64) (t_refusals : Nat → Int32) (t_told : Nat → Int32) (t_told_sounds : Nat → Int32) : va_W := [((ad 0), e_X5 ad t), ((ad 13), e_X0 (ad 14) (ad 15) (ad 16)), ((ad 14), eI cA 8 t_shelves_holding), ((ad 15), eI cA 8 t_shelves_sizes), ((ad 16), eJ cA 320 t_shelves_elements), ((ad 19), eI cA 5 t_refusals), ((ad 24), e_X4 (ad 25) t_told), ((ad 25), eI cA 12 t_told_sounds)]
abbrev w1_X5_takeWord (cA : Nat → ClassId) (ad : Nat → Nat) (t : Nat → Int32) (t_shelves_holding : Nat → Int32) (t_shelves_sizes : Nat → Int32) (t_shelves_elements : Nat → Int64) (u : (Nat → Int32) × (Nat → Int32) × (Nat → Int32)) : va_W := [((ad 0), e_X5 ad t), ((ad 13), e_X0 (ad 14) (ad 15) (ad 16)), ((ad 14), eI cA 8 t_shelves_holding), ((ad 15), eI cA 8 t_shelves_sizes), ((ad 16), eJ cA 320 t_shelves_elements), ((ad 19), eI cA 5 u.1), ((ad 24), e_X4 (ad 25) u.2.1), ((ad 25), eI cA 12 u.2.2)]
theorem hd_X5_takeWord : yX5_takeWord.cls = RX5 ∧ yX5_takeWord.cls ≠ "java/lang/invoke/MethodHandle" ∧ yX5_takeWord.cls ≠ "java/lang/invoke/VarHandle" ∧ (parseMethodDescriptor yX5_takeWord.desc).map (fun d => d.parameters.length) = some 3 := by decide +kernel
set_option maxHeartbeats 40000000 in
set_option maxRecDepth 100000 in
theorem c_X5_takeWord (l : Launch) (D : va_G) (cA : Nat → ClassId) (sz : Nat) (fu : Nat) (ad : Nat → Nat) (t : Nat → Int32) (t_shelves_holding : Nat → Int32) (t_shelves_sizes : Nat → Int32) (t_shelves_elements : Nat → Int64) (t_refusals : Nat → Int32) (t_told : Nat → Int32) (t_told_sounds : Nat → Int32) (l1 : Int32) (l2 : Int32) (l3 : Int32) (out : Int32 × ((Nat → Int32) × (Nat → Int32) × (Nat → Int32))) (hm : m_X5_takeWord fu t t_shelves_holding t_shelves_sizes t_shelves_elements t_refusals t_told t_told_sounds l1 l2 l3 = some out) : MI l yX5_takeWord (wU yX5_takeWord cX5_takeWord 4 ((Option.some Jvm.ClassFile.FieldType.int))) rm_X5_takeWord D cA sz [.ref (ad 0), .int l1, .int l2, .int l3] (w0_X5_takeWord cA ad t t_shelves_holding t_shelves_sizes t_shelves_elements t_refusals t_told t_told_sounds) out (w1_X5_takeWord cA ad t t_shelves_holding t_shelves_sizes t_shelves_elements) := by
  refine Met.ofW (cc := cX5_takeWord) (maxL := 4) (ret := (Option.some Jvm.ClassFile.FieldType.int)) (by decide) rfl ?_
  intro p e s m args below meth c s₁ B hml hv
  obtain ⟨hargs, hsz, hP, hK, hD0, hN⟩ := hv
  have hx := B.exec
  have hb := B.bytes
  have hr := B.returns
  have htg : ∀ w ∈ gw, w.before args s = true := fun w h => atoms_spec (ws := wU yX5_takeWord cX5_takeWord 4 ((Option.some Jvm.ClassFile.FieldType.int))) B.pre w (List.mem_cons_of_mem _ h)
  have hown : s.vm.findClass RX5 = some m.cls := findClass_of_methodNamed B.named
  have hlocks := B.notSynchronized
  subst hsz
  have hD := hD0.self (sz := s.heap.size)
  have hA : ∀ q : Nat, s.heap.size ≤ q → va_A (w0_X5_takeWord cA ad t t_shelves_holding t_shelves_sizes t_shelves_elements t_refusals t_told t_told_sounds) s.heap.size q := fun q h => Or.inr h
  have hS : va_S (va_A (w0_X5_takeWord cA ad t t_shelves_holding t_shelves_sizes t_shelves_elements t_refusals t_told t_told_sounds) s.heap.size) s.heap s.heap [] := va_S.rf
  generalize va_A (w0_X5_takeWord cA ad t t_shelves_holding t_shelves_sizes t_shelves_elements t_refusals t_told t_told_sounds) s.heap.size = A at hA hD hS ⊢
  obtain ⟨Q, hQ⟩ : ∃ Q : State → Prop, Q = MQ below (va_Qi (fun (r : Int32) (u : (Nat → Int32) × (Nat → Int32) × (Nat → Int32)) => (r, u) = out) (pst0 D cA A (w1_X5_takeWord cA ad t t_shelves_holding t_shelves_sizes t_shelves_elements)) A) args s 0 0 A := ⟨_, rfl⟩
  refine (?_ : W p l e rm_X5_takeWord s m args below meth c s.heap [] 0 0 (MQ below (va_Qi (fun (r : Int32) (u : (Nat → Int32) × (Nat → Int32) × (Nat → Int32)) => (r, u) = out) (pst0 D cA A (w1_X5_takeWord cA ad t t_shelves_holding t_shelves_sizes t_shelves_elements)) A) args s 0 0 A) (entryFrame m args 4))
  rw [← hQ]
  have hP : va_P D CL [((ad 0), e_X5 ad t), ((ad 13), e_X0 (ad 14) (ad 15) (ad 16)), ((ad 14), eI cA 8 t_shelves_holding), ((ad 15), eI cA 8 t_shelves_sizes), ((ad 16), eJ cA 320 t_shelves_elements), ((ad 19), eI cA 5 t_refusals), ((ad 24), e_X4 (ad 25) t_told), ((ad 25), eI cA 12 t_told_sounds)] s.heap := hP
  have hD : va_D A [((ad 0), e_X5 ad t), ((ad 13), e_X0 (ad 14) (ad 15) (ad 16)), ((ad 14), eI cA 8 t_shelves_holding), ((ad 15), eI cA 8 t_shelves_sizes), ((ad 16), eJ cA 320 t_shelves_elements), ((ad 19), eI cA 5 t_refusals), ((ad 24), e_X4 (ad 25) t_told), ((ad 25), eI cA 12 t_told_sounds)] := hD
  unfold m_X5_takeWord at hm
  subst hargs
  have hl := lv_entry ([.ref (ad 0), .int l1, .int l2, .int l3]) (n := 4) (Nat.le_of_ble_eq_true rfl)
  rw [lg_entry_eq]
  generalize (lg_sl ([.ref (ad 0), .int l1, .int l2, .int l3]) ++ List.replicate (4 - (lg_sl ([.ref (ad 0), .int l1, .int l2, .int l3])).length) Slot.unset).toArray = ls at hl ⊢
  have hl : lv_has ls 4 [(0, .ref (ad 0)), (1, .int l1), (2, .int l2), (3, .int l3)] := hl
  refine lv_aload_n hx hb dX5_takeWord_0 rfl (lv_at hl 0 rfl) ?_
  refine lv_iload_n hx hb dX5_takeWord_1 rfl (lv_at hl 1 rfl) ?_
  refine lv_iload_n hx hb dX5_takeWord_2 rfl (lv_at hl 2 rfl) ?_
  refine lv_iload_n hx hb dX5_takeWord_3 rfl (lv_at hl 1 rfl) ?_
  refine lv_iconst (v := (0 : Int32)) hx hb dX5_takeWord_4 (by decide) ?_
  refine lv_iload_n hx hb dX5_takeWord_5 rfl (lv_at hl 3 rfl) ?_
  obtain ⟨o1, ho2, hm⟩ := bd_s hm
  refine xr_i (wr := []) (wn := [((ad 0), e_X5 ad t), ((ad 13), e_X0 (ad 14) (ad 15) (ad 16)), ((ad 14), eI cA 8 t_shelves_holding), ((ad 15), eI cA 8 t_shelves_sizes), ((ad 16), eJ cA 320 t_shelves_elements), ((ad 19), eI cA 5 o1.2.1), ((ad 24), e_X4 (ad 25) o1.2.2.1), ((ad 25), eI cA 12 o1.2.2.2)]) (va_runV (As := [.int l1, .int l2, .int l1, .int (0 : Int32), .int l3]) (rest := []) ⟨hx, hb, hml, hown, htg⟩ (c_X5_takeWordAndRow l D cA _ fu ad t t_shelves_holding t_shelves_sizes t_shelves_elements t_refusals t_told t_told_sounds l1 l2 l1 (0 : Int32) l3 o1 ho2) (cwV 5 htg (gV q_3_130 q_3_132 q_p3_13 q_1_1 q_3_133) rfl rfl rfl hd_X5_takeWordAndRow ⟨Nat.le_of_ble_eq_true rfl, Nat.le_of_ble_eq_true rfl⟩) (xpV hN hK hP hD [0, 1, 2, 3, 4, 5, 6, 7] rfl (by decide) rfl rfl) rfl rfl hl.1 rfl (lv_room (Nat.le_of_ble_eq_true rfl)) dX5_takeWord_6 ⟨Nat.zero_le _, Nat.zero_le _⟩) hP hD hS hA [0, 1, 2, 3, 4, 5, 6, 7] [] [0, 1, 2, 3, 4, 5, 6, 7] rfl rfl (by decide) (by decide) rfl (by decide) (fun H locs hP hD hS => ?_)
  rw [hQ]
  exact W.iret (v := o1.1) hx hb hr (fun t9 ht hW => ⟨⟨o1.1, (o1.2.1, o1.2.2.1, o1.2.2.2), rfl, (Option.some.inj hm), by rw [ht]; exact hP, va_K.moved hW.alike hK, hD⟩, hS.F ht⟩) hS.2.2 dX5_takeWord_9
def b_X5_echo_102 (fu : Nat) (t : Nat → Int32) (t_now : Nat → Int32) (t_now_kinds : Nat → Int32) (t_now_pitches : Nat → Int32) (t_shelves_holding : Nat → Int32) (t_shelves_sizes : Nat → Int32) (t_shelves_elements : Nat → Int64) (s0 : Int32) (t_refusals : Nat → Int32) (t_trial : Nat → Int32) (t_trial_heard : Nat → Int32) (t_told : Nat → Int32) (t_told_sounds : Nat → Int32) : Option (Int32 × ((Nat → Int32) × (Nat → Int32) × (Nat → Int32) × (Nat → Int32) × (Nat → Int32))) :=
  some (s0, (t_refusals, t_trial, t_trial_heard, t_told, t_told_sounds))
def b_X5_echo_22 (fu : Nat) (t : Nat → Int32) (t_now : Nat → Int32) (t_now_kinds : Nat → Int32) (t_now_pitches : Nat → Int32) (t_shelves_holding : Nat → Int32) (t_shelves_sizes : Nat → Int32) (t_shelves_elements : Nat → Int64) (l3 : Int32) (l4 : Int32) (s1 : Int32) (s2 : Int32) (s3 : Int32) (t_refusals : Nat → Int32) (t_trial : Nat → Int32) (t_trial_heard : Nat → Int32) (t_told : Nat → Int32) (t_told_sounds : Nat → Int32) : Option (Int32 × ((Nat → Int32) × (Nat → Int32) × (Nat → Int32) × (Nat → Int32) × (Nat → Int32))) :=
  (m_X5_takeWord fu t t_shelves_holding t_shelves_sizes t_shelves_elements t_refusals t_told t_told_sounds s1 s2 s3).bind fun o1 =>
    (if o1.1 = 0 then
      (m_X3_standsFor fu t_trial t_now t_now_kinds t_now_pitches l3).bind fun o4 =>
      (m_X3_hears fu o4 t_trial_heard o1.2.2.1 o1.2.2.2).bind fun o6 =>
      (if l4 = (-1 : Int32) then
        some (o6.1 8, (o1.2.1, o6.1, o6.2, o1.2.2.1, o1.2.2.2))
      else
        (if o6.1 8 ≤ l4 then
          (m_X5_refuse fu t o1.2.1 (-5 : Int32)).bind fun o10 =>
          b_X5_echo_102 fu t t_now t_now_kinds t_now_pitches t_shelves_holding t_shelves_sizes t_shelves_elements o10.1 o10.2 o6.1 o6.2 o1.2.2.1 o1.2.2.2
        else
          (m_X3_heardAt fu o6.1 o6.2 l4).bind fun o12 =>
          b_X5_echo_102 fu t t_now t_now_kinds t_now_pitches t_shelves_holding t_shelves_sizes t_shelves_elements o12.1 o1.2.1 o6.1 o6.2 o1.2.2.1 o1.2.2.2))
    else
      some (o1.1, (o1.2.1, t_trial, t_trial_heard, o1.2.2.1, o1.2.2.2)))
def b_X5_echo_21 (fu : Nat) (t : Nat → Int32) (t_now : Nat → Int32) (t_now_kinds : Nat → Int32) (t_now_pitches : Nat → Int32) (t_shelves_holding : Nat → Int32) (t_shelves_sizes : Nat → Int32) (t_shelves_elements : Nat → Int64) (l3 : Int32) (l4 : Int32) (s1 : Int32) (s2 : Int32) (t_refusals : Nat → Int32) (t_trial : Nat → Int32) (t_trial_heard : Nat → Int32) (t_told : Nat → Int32) (t_told_sounds : Nat → Int32) : Option (Int32 × ((Nat → Int32) × (Nat → Int32) × (Nat → Int32) × (Nat → Int32) × (Nat → Int32))) :=
  b_X5_echo_22 fu t t_now t_now_kinds t_now_pitches t_shelves_holding t_shelves_sizes t_shelves_elements l3 l4 s1 s2 (0 : Int32) t_refusals t_trial t_trial_heard t_told t_told_sounds
def m_X5_echo (fu : Nat) (t : Nat → Int32) (t_now : Nat → Int32) (t_now_kinds : Nat → Int32) (t_now_pitches : Nat → Int32) (t_shelves_holding : Nat → Int32) (t_shelves_sizes : Nat → Int32) (t_shelves_elements : Nat → Int64) (t_refusals : Nat → Int32) (t_trial : Nat → Int32) (t_trial_heard : Nat → Int32) (t_told : Nat → Int32) (t_told_sounds : Nat → Int32) (l1 : Int32) (l2 : Int32) (l3 : Int32) (l4 : Int32) : Option (Int32 × ((Nat → Int32) × (Nat → Int32) × (Nat → Int32) × (Nat → Int32) × (Nat → Int32))) :=
  (m_X5_isVoice fu t t_now l3).bind fun o14 =>
  (if o14.1 = 0 then
    b_X5_echo_21 fu t t_now t_now_kinds t_now_pitches t_shelves_holding t_shelves_sizes t_shelves_elements l3 l4 l1 l2 t_refusals t_trial t_trial_heard t_told t_told_sounds
  else
    (if l4 < (-1 : Int32) then
      b_X5_echo_21 fu t t_now t_now_kinds t_now_pitches t_shelves_holding t_shelves_sizes t_shelves_elements l3 l4 l1 l2 t_refusals t_trial t_trial_heard t_told t_told_sounds
    else
      b_X5_echo_22 fu t t_now t_now_kinds t_now_pitches t_shelves_holding t_shelves_sizes t_shelves_elements l3 l4 l1 l2 (1 : Int32) t_refusals t_trial t_trial_heard t_told t_told_sounds))
abbrev rm_X5_echo : Room := ({ frames := 6, cells := 0, slots := 0, locals := 138 } : Room)
abbrev w0_X5_echo (cA : Nat → ClassId) (ad : Nat → Nat) (t : Nat → Int32) (t_now : Nat → Int32) (t_now_kinds : Nat → Int32) (t_now_pitches : Nat → Int32) (t_shelves_holding : Nat → Int32) (t_shelves_sizes : Nat → Int32) (t_shelves_elements : Nat → Int64) (t_refusals : Nat → Int32) (t_trial : Nat → Int32) (t_trial_heard : Nat → Int32) (t_told : Nat → Int32) (t_told_sounds : Nat → Int32) : va_W := [((ad 0), e_X5 ad t), ((ad 1), e_X1 (ad 2) (ad 3) (ad 4) t_now), ((ad 2), eI cA 8 t_now_kinds), ((ad 4), eI cA 8 t_now_pitches), ((ad 13), e_X0 (ad 14) (ad 15) (ad 16)), ((ad 14), eI cA 8 t_shelves_holding), ((ad 15), eI cA 8 t_shelves_sizes), ((ad 16), eJ cA 320 t_shelves_elements), ((ad 19), eI cA 5 t_refusals), ((ad 20), e_X3 (ad 21) t_trial), ((ad 21), eI cA 13 t_trial_heard), ((ad 24), e_X4 (ad 25) t_told), ((ad 25), eI cA 12 t_told_sounds)]
abbrev w1_X5_echo (cA : Nat → ClassId) (ad : Nat → Nat) (t : Nat → Int32) (t_now : Nat → Int32) (t_now_kinds : Nat → Int32) (t_now_pitches : Nat → Int32) (t_shelves_holding : Nat → Int32) (t_shelves_sizes : Nat → Int32) (t_shelves_elements : Nat → Int64) (u : (Nat → Int32) × (Nat → Int32) × (Nat → Int32) × (Nat → Int32) × (Nat → Int32)) : va_W := [((ad 0), e_X5 ad t), ((ad 1), e_X1 (ad 2) (ad 3) (ad 4) t_now), ((ad 2), eI cA 8 t_now_kinds), ((ad 4), eI cA 8 t_now_pitches), ((ad 13), e_X0 (ad 14) (ad 15) (ad 16)), ((ad 14), eI cA 8 t_shelves_holding), ((ad 15), eI cA 8 t_shelves_sizes), ((ad 16), eJ cA 320 t_shelves_elements), ((ad 19), eI cA 5 u.1), ((ad 20), e_X3 (ad 21) u.2.1), ((ad 21), eI cA 13 u.2.2.1), ((ad 24), e_X4 (ad 25) u.2.2.2.1), ((ad 25), eI cA 12 u.2.2.2.2)]
theorem hd_X5_echo : yX5_echo.cls = RX5 ∧ yX5_echo.cls ≠ "java/lang/invoke/MethodHandle" ∧ yX5_echo.cls ≠ "java/lang/invoke/VarHandle" ∧ (parseMethodDescriptor yX5_echo.desc).map (fun d => d.parameters.length) = some 4 := by decide +kernel
set_option maxHeartbeats 40000000 in
set_option maxRecDepth 100000 in
theorem c_X5_echo (l : Launch) (D : va_G) (cA : Nat → ClassId) (sz : Nat) (fu : Nat) (ad : Nat → Nat) (t : Nat → Int32) (t_now : Nat → Int32) (t_now_kinds : Nat → Int32) (t_now_pitches : Nat → Int32) (t_shelves_holding : Nat → Int32) (t_shelves_sizes : Nat → Int32) (t_shelves_elements : Nat → Int64) (t_refusals : Nat → Int32) (t_trial : Nat → Int32) (t_trial_heard : Nat → Int32) (t_told : Nat → Int32) (t_told_sounds : Nat → Int32) (l1 : Int32) (l2 : Int32) (l3 : Int32) (l4 : Int32) (out : Int32 × ((Nat → Int32) × (Nat → Int32) × (Nat → Int32) × (Nat → Int32) × (Nat → Int32))) (hm : m_X5_echo fu t t_now t_now_kinds t_now_pitches t_shelves_holding t_shelves_sizes t_shelves_elements t_refusals t_trial t_trial_heard t_told t_told_sounds l1 l2 l3 l4 = some out) : MI l yX5_echo (wU yX5_echo cX5_echo 6 ((Option.some Jvm.ClassFile.FieldType.int))) rm_X5_echo D cA sz [.ref (ad 0), .int l1, .int l2, .int l3, .int l4] (w0_X5_echo cA ad t t_now t_now_kinds t_now_pitches t_shelves_holding t_shelves_sizes t_shelves_elements t_refusals t_trial t_trial_heard t_told t_told_sounds) out (w1_X5_echo cA ad t t_now t_now_kinds t_now_pitches t_shelves_holding t_shelves_sizes t_shelves_elements) := by
  refine Met.ofW (cc := cX5_echo) (maxL := 6) (ret := (Option.some Jvm.ClassFile.FieldType.int)) (by decide) rfl ?_
  intro p e s m args below meth c s₁ B hml hv
  obtain ⟨hargs, hsz, hP, hK, hD0, hN⟩ := hv
  have hx := B.exec
  have hb := B.bytes
  have hr := B.returns
  have htg : ∀ w ∈ gw, w.before args s = true := fun w h => atoms_spec (ws := wU yX5_echo cX5_echo 6 ((Option.some Jvm.ClassFile.FieldType.int))) B.pre w (List.mem_cons_of_mem _ h)
  have hown : s.vm.findClass RX5 = some m.cls := findClass_of_methodNamed B.named
  have hlocks := B.notSynchronized
  subst hsz
  have hD := hD0.self (sz := s.heap.size)
  have hA : ∀ q : Nat, s.heap.size ≤ q → va_A (w0_X5_echo cA ad t t_now t_now_kinds t_now_pitches t_shelves_holding t_shelves_sizes t_shelves_elements t_refusals t_trial t_trial_heard t_told t_told_sounds) s.heap.size q := fun q h => Or.inr h
  have hS : va_S (va_A (w0_X5_echo cA ad t t_now t_now_kinds t_now_pitches t_shelves_holding t_shelves_sizes t_shelves_elements t_refusals t_trial t_trial_heard t_told t_told_sounds) s.heap.size) s.heap s.heap [] := va_S.rf
  generalize va_A (w0_X5_echo cA ad t t_now t_now_kinds t_now_pitches t_shelves_holding t_shelves_sizes t_shelves_elements t_refusals t_trial t_trial_heard t_told t_told_sounds) s.heap.size = A at hA hD hS ⊢
  obtain ⟨Q, hQ⟩ : ∃ Q : State → Prop, Q = MQ below (va_Qi (fun (r : Int32) (u : (Nat → Int32) × (Nat → Int32) × (Nat → Int32) × (Nat → Int32) × (Nat → Int32)) => (r, u) = out) (pst0 D cA A (w1_X5_echo cA ad t t_now t_now_kinds t_now_pitches t_shelves_holding t_shelves_sizes t_shelves_elements)) A) args s 0 0 A := ⟨_, rfl⟩
  refine (?_ : W p l e rm_X5_echo s m args below meth c s.heap [] 0 0 (MQ below (va_Qi (fun (r : Int32) (u : (Nat → Int32) × (Nat → Int32) × (Nat → Int32) × (Nat → Int32) × (Nat → Int32)) => (r, u) = out) (pst0 D cA A (w1_X5_echo cA ad t t_now t_now_kinds t_now_pitches t_shelves_holding t_shelves_sizes t_shelves_elements)) A) args s 0 0 A) (entryFrame m args 6))
  rw [← hQ]
  have hP : va_P D CL [((ad 0), e_X5 ad t), ((ad 1), e_X1 (ad 2) (ad 3) (ad 4) t_now), ((ad 2), eI cA 8 t_now_kinds), ((ad 4), eI cA 8 t_now_pitches), ((ad 13), e_X0 (ad 14) (ad 15) (ad 16)), ((ad 14), eI cA 8 t_shelves_holding), ((ad 15), eI cA 8 t_shelves_sizes), ((ad 16), eJ cA 320 t_shelves_elements), ((ad 19), eI cA 5 t_refusals), ((ad 20), e_X3 (ad 21) t_trial), ((ad 21), eI cA 13 t_trial_heard), ((ad 24), e_X4 (ad 25) t_told), ((ad 25), eI cA 12 t_told_sounds)] s.heap := hP
  have hD : va_D A [((ad 0), e_X5 ad t), ((ad 1), e_X1 (ad 2) (ad 3) (ad 4) t_now), ((ad 2), eI cA 8 t_now_kinds), ((ad 4), eI cA 8 t_now_pitches), ((ad 13), e_X0 (ad 14) (ad 15) (ad 16)), ((ad 14), eI cA 8 t_shelves_holding), ((ad 15), eI cA 8 t_shelves_sizes), ((ad 16), eJ cA 320 t_shelves_elements), ((ad 19), eI cA 5 t_refusals), ((ad 20), e_X3 (ad 21) t_trial), ((ad 21), eI cA 13 t_trial_heard), ((ad 24), e_X4 (ad 25) t_told), ((ad 25), eI cA 12 t_told_sounds)] := hD
  have B_102 : ∀ (s0 : Int32) (t_refusals : Nat → Int32) (t_trial : Nat → Int32) (t_trial_heard : Nat → Int32) (t_told : Nat → Int32) (t_told_sounds : Nat → Int32) (H : Heap) (locs : List Loc) (ls : Array Slot), b_X5_echo_102 fu t t_now t_now_kinds t_now_pitches t_shelves_holding t_shelves_sizes t_shelves_elements s0 t_refusals t_trial t_trial_heard t_told t_told_sounds = some out → va_P D CL [((ad 0), e_X5 ad t), ((ad 1), e_X1 (ad 2) (ad 3) (ad 4) t_now), ((ad 2), eI cA 8 t_now_kinds), ((ad 4), eI cA 8 t_now_pitches), ((ad 13), e_X0 (ad 14) (ad 15) (ad 16)), ((ad 14), eI cA 8 t_shelves_holding), ((ad 15), eI cA 8 t_shelves_sizes), ((ad 16), eJ cA 320 t_shelves_elements), ((ad 19), eI cA 5 t_refusals), ((ad 20), e_X3 (ad 21) t_trial), ((ad 21), eI cA 13 t_trial_heard), ((ad 24), e_X4 (ad 25) t_told), ((ad 25), eI cA 12 t_told_sounds)] H → va_D A [((ad 0), e_X5 ad t), ((ad 1), e_X1 (ad 2) (ad 3) (ad 4) t_now), ((ad 2), eI cA 8 t_now_kinds), ((ad 4), eI cA 8 t_now_pitches), ((ad 13), e_X0 (ad 14) (ad 15) (ad 16)), ((ad 14), eI cA 8 t_shelves_holding), ((ad 15), eI cA 8 t_shelves_sizes), ((ad 16), eJ cA 320 t_shelves_elements), ((ad 19), eI cA 5 t_refusals), ((ad 20), e_X3 (ad 21) t_trial), ((ad 21), eI cA 13 t_trial_heard), ((ad 24), e_X4 (ad 25) t_told), ((ad 25), eI cA 12 t_told_sounds)] → va_S A s.heap H locs → lv_has ls 6 [(0, .ref (ad 0))] → W p l e rm_X5_echo s m args below meth c H locs 0 0 Q (F0 m 102 ls [.int s0]) := by
    intro  s0 t_refusals t_trial t_trial_heard t_told t_told_sounds H locs ls hm hP hD hS hl
    unfold b_X5_echo_102 at hm
    rw [hQ]
    exact W.iret (v := s0) hx hb hr (fun t9 ht hW => ⟨⟨s0, (t_refusals, t_trial, t_trial_heard, t_told, t_told_sounds), rfl, (Option.some.inj hm), by rw [ht]; exact hP, va_K.moved hW.alike hK, hD⟩, hS.F ht⟩) hS.2.2 dX5_echo_102
  have B_22 : ∀ (l3 : Int32) (l4 : Int32) (s1 : Int32) (s2 : Int32) (s3 : Int32) (t_refusals : Nat → Int32) (t_trial : Nat → Int32) (t_trial_heard : Nat → Int32) (t_told : Nat → Int32) (t_told_sounds : Nat → Int32) (H : Heap) (locs : List Loc) (ls : Array Slot), b_X5_echo_22 fu t t_now t_now_kinds t_now_pitches t_shelves_holding t_shelves_sizes t_shelves_elements l3 l4 s1 s2 s3 t_refusals t_trial t_trial_heard t_told t_told_sounds = some out → va_P D CL [((ad 0), e_X5 ad t), ((ad 1), e_X1 (ad 2) (ad 3) (ad 4) t_now), ((ad 2), eI cA 8 t_now_kinds), ((ad 4), eI cA 8 t_now_pitches), ((ad 13), e_X0 (ad 14) (ad 15) (ad 16)), ((ad 14), eI cA 8 t_shelves_holding), ((ad 15), eI cA 8 t_shelves_sizes), ((ad 16), eJ cA 320 t_shelves_elements), ((ad 19), eI cA 5 t_refusals), ((ad 20), e_X3 (ad 21) t_trial), ((ad 21), eI cA 13 t_trial_heard), ((ad 24), e_X4 (ad 25) t_told), ((ad 25), eI cA 12 t_told_sounds)] H → va_D A [((ad 0), e_X5 ad t), ((ad 1), e_X1 (ad 2) (ad 3) (ad 4) t_now), ((ad 2), eI cA 8 t_now_kinds), ((ad 4), eI cA 8 t_now_pitches), ((ad 13), e_X0 (ad 14) (ad 15) (ad 16)), ((ad 14), eI cA 8 t_shelves_holding), ((ad 15), eI cA 8 t_shelves_sizes), ((ad 16), eJ cA 320 t_shelves_elements), ((ad 19), eI cA 5 t_refusals), ((ad 20), e_X3 (ad 21) t_trial), ((ad 21), eI cA 13 t_trial_heard), ((ad 24), e_X4 (ad 25) t_told), ((ad 25), eI cA 12 t_told_sounds)] → va_S A s.heap H locs → lv_has ls 6 [(0, .ref (ad 0)), (3, .int l3), (4, .int l4)] → W p l e rm_X5_echo s m args below meth c H locs 0 0 Q (F0 m 22 ls [.int s3, .int s2, .int s1, .ref (ad 0)]) := by
    intro  l3 l4 s1 s2 s3 t_refusals t_trial t_trial_heard t_told t_told_sounds H locs ls hm hP hD hS hl
    unfold b_X5_echo_22 at hm
    obtain ⟨o1, ho2, hm⟩ := bd_s hm
    refine xr_i (wr := [((ad 1), e_X1 (ad 2) (ad 3) (ad 4) t_now), ((ad 2), eI cA 8 t_now_kinds), ((ad 4), eI cA 8 t_now_pitches), ((ad 20), e_X3 (ad 21) t_trial), ((ad 21), eI cA 13 t_trial_heard)]) (wn := [((ad 0), e_X5 ad t), ((ad 1), e_X1 (ad 2) (ad 3) (ad 4) t_now), ((ad 2), eI cA 8 t_now_kinds), ((ad 4), eI cA 8 t_now_pitches), ((ad 13), e_X0 (ad 14) (ad 15) (ad 16)), ((ad 14), eI cA 8 t_shelves_holding), ((ad 15), eI cA 8 t_shelves_sizes), ((ad 16), eJ cA 320 t_shelves_elements), ((ad 19), eI cA 5 o1.2.1), ((ad 20), e_X3 (ad 21) t_trial), ((ad 21), eI cA 13 t_trial_heard), ((ad 24), e_X4 (ad 25) o1.2.2.1), ((ad 25), eI cA 12 o1.2.2.2)]) (va_runV (As := [.int s1, .int s2, .int s3]) (rest := []) ⟨hx, hb, hml, hown, htg⟩ (c_X5_takeWord l D cA _ fu ad t t_shelves_holding t_shelves_sizes t_shelves_elements t_refusals t_told t_told_sounds s1 s2 s3 o1 ho2) (cwV 3 htg (gV q_3_126 q_3_128 q_p3_12 q_1_1 q_3_129) rfl rfl rfl hd_X5_takeWord ⟨Nat.le_of_ble_eq_true rfl, Nat.le_of_ble_eq_true rfl⟩) (xpV hN hK hP hD [0, 4, 5, 6, 7, 8, 11, 12] rfl (by decide) rfl rfl) rfl rfl hl.1 rfl (lv_room (Nat.le_of_ble_eq_true rfl)) dX5_echo_22 ⟨Nat.zero_le _, Nat.zero_le _⟩) hP hD hS hA [0, 4, 5, 6, 7, 8, 11, 12] [1, 2, 3, 9, 10] [5, 0, 1, 2, 6, 7, 8, 9, 10, 3, 4, 11, 12] rfl rfl (by decide) (by decide) rfl (by decide) (fun H locs hP hD hS => ?_)
    refine lv_istore (lv' := [(5, .int o1.1), (0, .ref (ad 0)), (3, .int l3), (4, .int l4)]) hx hb dX5_echo_25 hl (by decide) rfl (fun ls hl => ?_)
    refine lv_iload hx hb dX5_echo_27 (lv_at hl 0 rfl) ?_
    refine lv_if_eq (tgt := 35) hx hb dX5_echo_29 (by decide) (fun c3 => ?_) (fun c3 => ?_)
    · have hm := it_t c3 hm
      refine lv_aload_n hx hb dX5_echo_35 rfl (lv_at hl 1 rfl) ?_
      refine va_get (D := D) (ci := 5) (v := .ref (ad 20)) (C := RX5) (T := TX5) (N := 17) hx hb htg inX5 hown hK hP 0 rfl rfl 7 (by decide) (htg _ q_1_195) (fun _ h9 => h9) rfl dX5_echo_36 ?_
      refine lv_aload_n hx hb dX5_echo_39 rfl (lv_at hl 1 rfl) ?_
      refine va_get (D := D) (ci := 5) (v := .ref (ad 1)) (C := RX5) (T := TX5) (N := 17) hx hb htg inX5 hown hK hP 0 rfl rfl 0 (by decide) (htg _ q_1_188) (fun _ h9 => h9) rfl dX5_echo_40 ?_
      refine lv_iload_n hx hb dX5_echo_43 rfl (lv_at hl 2 rfl) ?_
      obtain ⟨o4, ho5, hm⟩ := bd_s hm
      refine xr_v (wr := [((ad 0), e_X5 ad t), ((ad 13), e_X0 (ad 14) (ad 15) (ad 16)), ((ad 14), eI cA 8 t_shelves_holding), ((ad 15), eI cA 8 t_shelves_sizes), ((ad 16), eJ cA 320 t_shelves_elements), ((ad 19), eI cA 5 o1.2.1), ((ad 21), eI cA 13 t_trial_heard), ((ad 24), e_X4 (ad 25) o1.2.2.1), ((ad 25), eI cA 12 o1.2.2.2)]) (wn := [((ad 0), e_X5 ad t), ((ad 1), e_X1 (ad 2) (ad 3) (ad 4) t_now), ((ad 2), eI cA 8 t_now_kinds), ((ad 4), eI cA 8 t_now_pitches), ((ad 13), e_X0 (ad 14) (ad 15) (ad 16)), ((ad 14), eI cA 8 t_shelves_holding), ((ad 15), eI cA 8 t_shelves_sizes), ((ad 16), eJ cA 320 t_shelves_elements), ((ad 19), eI cA 5 o1.2.1), ((ad 20), e_X3 (ad 21) o4), ((ad 21), eI cA 13 t_trial_heard), ((ad 24), e_X4 (ad 25) o1.2.2.1), ((ad 25), eI cA 12 o1.2.2.2)]) (va_runVN (As := [.ref (ad 1), .int l3]) (rest := []) ⟨hx, hb, hml, hown, htg⟩ (c_X3_standsFor l D cA _ fu (ad 20) (ad 21) (ad 1) (ad 2) (ad 3) (ad 4) t_trial t_now t_now_kinds t_now_pitches l3 o4 ho5) ⟨va_cnB 2 htg (gU q_2_126) rfl rfl rfl (hN _ q_2_123) (htg _ q_1_6) hd_X3_standsFor.2 ⟨Nat.le_of_ble_eq_true rfl, Nat.le_of_ble_eq_true rfl⟩, htg _ q_2_125, htg _ q_p2_0⟩ (xpV hN hK hP hD [9, 1, 2, 3] rfl (by decide) rfl rfl) rfl rfl hl.1 rfl (lv_room (Nat.le_of_ble_eq_true rfl)) dX5_echo_44 ⟨Nat.zero_le _, Nat.zero_le _⟩) hP hD hS hA [9, 1, 2, 3] [0, 4, 5, 6, 7, 8, 10, 11, 12] [0, 10, 11, 12, 1, 2, 3, 4, 5, 9, 6, 7, 8] rfl rfl (by decide) (by decide) rfl (by decide) (fun H locs hP hD hS => ?_)
      refine lv_aload_n hx hb dX5_echo_47 rfl (lv_at hl 1 rfl) ?_
      refine va_get (D := D) (ci := 5) (v := .ref (ad 20)) (C := RX5) (T := TX5) (N := 17) hx hb htg inX5 hown hK hP 0 rfl rfl 7 (by decide) (htg _ q_1_195) (fun _ h9 => h9) rfl dX5_echo_48 ?_
      refine lv_aload_n hx hb dX5_echo_51 rfl (lv_at hl 1 rfl) ?_
      refine va_get (D := D) (ci := 5) (v := .ref (ad 24)) (C := RX5) (T := TX5) (N := 17) hx hb htg inX5 hown hK hP 0 rfl rfl 9 (by decide) (htg _ q_1_197) (fun _ h9 => h9) rfl dX5_echo_52 ?_
      obtain ⟨o6, ho7, hm⟩ := bd_s hm
      refine xr_v (wr := [((ad 0), e_X5 ad t), ((ad 1), e_X1 (ad 2) (ad 3) (ad 4) t_now), ((ad 2), eI cA 8 t_now_kinds), ((ad 4), eI cA 8 t_now_pitches), ((ad 13), e_X0 (ad 14) (ad 15) (ad 16)), ((ad 14), eI cA 8 t_shelves_holding), ((ad 15), eI cA 8 t_shelves_sizes), ((ad 16), eJ cA 320 t_shelves_elements), ((ad 19), eI cA 5 o1.2.1)]) (wn := [((ad 0), e_X5 ad t), ((ad 1), e_X1 (ad 2) (ad 3) (ad 4) t_now), ((ad 2), eI cA 8 t_now_kinds), ((ad 4), eI cA 8 t_now_pitches), ((ad 13), e_X0 (ad 14) (ad 15) (ad 16)), ((ad 14), eI cA 8 t_shelves_holding), ((ad 15), eI cA 8 t_shelves_sizes), ((ad 16), eJ cA 320 t_shelves_elements), ((ad 19), eI cA 5 o1.2.1), ((ad 20), e_X3 (ad 21) o6.1), ((ad 21), eI cA 13 o6.2), ((ad 24), e_X4 (ad 25) o1.2.2.1), ((ad 25), eI cA 12 o1.2.2.2)]) (va_runVN (As := [.ref (ad 24)]) (rest := []) ⟨hx, hb, hml, hown, htg⟩ (c_X3_hears l D cA _ fu (ad 20) (ad 21) (ad 24) (ad 25) o4 t_trial_heard o1.2.2.1 o1.2.2.2 o6 ho7) ⟨va_cnB 1 htg (gU q_2_132) rfl rfl rfl (hN _ q_2_129) (htg _ q_1_6) hd_X3_hears.2 ⟨Nat.le_of_ble_eq_true rfl, Nat.le_of_ble_eq_true rfl⟩, htg _ q_2_131, htg _ q_p2_1⟩ (xpV hN hK hP hD [9, 10, 11, 12] rfl (by decide) rfl rfl) rfl rfl hl.1 rfl (lv_room (Nat.le_of_ble_eq_true rfl)) dX5_echo_55 ⟨Nat.zero_le _, Nat.zero_le _⟩) hP hD hS hA [9, 10, 11, 12] [0, 1, 2, 3, 4, 5, 6, 7, 8] [0, 1, 2, 3, 4, 5, 6, 7, 8, 9, 10, 11, 12] rfl rfl (by decide) (by decide) rfl (by decide) (fun H locs hP hD hS => ?_)
      refine lv_iload hx hb dX5_echo_58 (lv_at hl 3 rfl) ?_
      refine lv_iconst (v := (-1 : Int32)) hx hb dX5_echo_60 (by decide) ?_
      refine lv_icmp_ne (tgt := 72) hx hb dX5_echo_61 (by decide) (fun c8 => ?_) (fun c8 => ?_)
      · have hm := it_f c8 hm
        refine lv_iload hx hb dX5_echo_72 (lv_at hl 3 rfl) ?_
        refine lv_aload_n hx hb dX5_echo_74 rfl (lv_at hl 1 rfl) ?_
        refine va_get (D := D) (ci := 5) (v := .ref (ad 20)) (C := RX5) (T := TX5) (N := 17) hx hb htg inX5 hown hK hP 0 rfl rfl 7 (by decide) (htg _ q_1_195) (fun _ h9 => h9) rfl dX5_echo_75 ?_
        refine va_getN (D := D) (ci := 3) (v := .int (o6.1 8)) (C := RX3) (T := TX3) (N := 9) hx hb htg inX3 hown hK hP 9 rfl rfl 8 (by decide) (va_Nw.use rfl (hN _ q_1_153)) (fun _ h9 => h9) rfl dX5_echo_78 ?_
        refine lv_icmp_ge (tgt := 96) hx hb dX5_echo_81 (by decide) (fun c9 => ?_) (fun c9 => ?_)
        · have hm := it_t c9 hm
          refine lv_aload_n hx hb dX5_echo_96 rfl (lv_at hl 1 rfl) ?_
          refine lv_bipush (v := (-5 : Int32)) hx hb dX5_echo_97 (by decide) ?_
          obtain ⟨o10, ho11, hm⟩ := bd_s hm
          refine xr_i (wr := [((ad 1), e_X1 (ad 2) (ad 3) (ad 4) t_now), ((ad 2), eI cA 8 t_now_kinds), ((ad 4), eI cA 8 t_now_pitches), ((ad 13), e_X0 (ad 14) (ad 15) (ad 16)), ((ad 14), eI cA 8 t_shelves_holding), ((ad 15), eI cA 8 t_shelves_sizes), ((ad 16), eJ cA 320 t_shelves_elements), ((ad 20), e_X3 (ad 21) o6.1), ((ad 21), eI cA 13 o6.2), ((ad 24), e_X4 (ad 25) o1.2.2.1), ((ad 25), eI cA 12 o1.2.2.2)]) (wn := [((ad 0), e_X5 ad t), ((ad 1), e_X1 (ad 2) (ad 3) (ad 4) t_now), ((ad 2), eI cA 8 t_now_kinds), ((ad 4), eI cA 8 t_now_pitches), ((ad 13), e_X0 (ad 14) (ad 15) (ad 16)), ((ad 14), eI cA 8 t_shelves_holding), ((ad 15), eI cA 8 t_shelves_sizes), ((ad 16), eJ cA 320 t_shelves_elements), ((ad 19), eI cA 5 o10.2), ((ad 20), e_X3 (ad 21) o6.1), ((ad 21), eI cA 13 o6.2), ((ad 24), e_X4 (ad 25) o1.2.2.1), ((ad 25), eI cA 12 o1.2.2.2)]) (va_runV (As := [.int (-5 : Int32)]) (rest := []) ⟨hx, hb, hml, hown, htg⟩ (c_X5_refuse l D cA _ fu ad t o1.2.1 (-5 : Int32) o10 ho11) (cwV 1 htg (gV q_2_10 q_2_12 q_p1_0 q_1_1 q_2_13) rfl rfl rfl hd_X5_refuse ⟨Nat.le_of_ble_eq_true rfl, Nat.le_of_ble_eq_true rfl⟩) (xpV hN hK hP hD [0, 8] rfl (by decide) rfl rfl) rfl rfl hl.1 rfl (lv_room (Nat.le_of_ble_eq_true rfl)) dX5_echo_99 ⟨Nat.zero_le _, Nat.zero_le _⟩) hP hD hS hA [0, 8] [1, 2, 3, 4, 5, 6, 7, 9, 10, 11, 12] [11, 0, 1, 2, 3, 4, 5, 6, 12, 7, 8, 9, 10] rfl rfl (by decide) (by decide) rfl (by decide) (fun H locs hP hD hS => ?_)
          exact B_102 _ _ _ _ _ _ _ _ _ hm hP hD hS (lv_sub hl [1] rfl)
        · have hm := it_f c9 hm
          refine lv_aload_n hx hb dX5_echo_84 rfl (lv_at hl 1 rfl) ?_
          refine va_get (D := D) (ci := 5) (v := .ref (ad 20)) (C := RX5) (T := TX5) (N := 17) hx hb htg inX5 hown hK hP 0 rfl rfl 7 (by decide) (htg _ q_1_195) (fun _ h9 => h9) rfl dX5_echo_85 ?_
          refine lv_iload hx hb dX5_echo_88 (lv_at hl 3 rfl) ?_
          obtain ⟨o12, ho13, hm⟩ := bd_s hm
          refine xr_i (wr := [((ad 0), e_X5 ad t), ((ad 1), e_X1 (ad 2) (ad 3) (ad 4) t_now), ((ad 2), eI cA 8 t_now_kinds), ((ad 4), eI cA 8 t_now_pitches), ((ad 13), e_X0 (ad 14) (ad 15) (ad 16)), ((ad 14), eI cA 8 t_shelves_holding), ((ad 15), eI cA 8 t_shelves_sizes), ((ad 16), eJ cA 320 t_shelves_elements), ((ad 19), eI cA 5 o1.2.1), ((ad 24), e_X4 (ad 25) o1.2.2.1), ((ad 25), eI cA 12 o1.2.2.2)]) (wn := [((ad 0), e_X5 ad t), ((ad 1), e_X1 (ad 2) (ad 3) (ad 4) t_now), ((ad 2), eI cA 8 t_now_kinds), ((ad 4), eI cA 8 t_now_pitches), ((ad 13), e_X0 (ad 14) (ad 15) (ad 16)), ((ad 14), eI cA 8 t_shelves_holding), ((ad 15), eI cA 8 t_shelves_sizes), ((ad 16), eJ cA 320 t_shelves_elements), ((ad 19), eI cA 5 o1.2.1), ((ad 20), e_X3 (ad 21) o6.1), ((ad 21), eI cA 13 o6.2), ((ad 24), e_X4 (ad 25) o1.2.2.1), ((ad 25), eI cA 12 o1.2.2.2)]) (va_runVN (As := [.int l4]) (rest := []) ⟨hx, hb, hml, hown, htg⟩ (c_X3_heardAt l D cA _ fu (ad 20) (ad 21) o6.1 o6.2 l4 o12 ho13) ⟨va_cnB 1 htg (gU q_2_162) rfl rfl rfl (hN _ q_3_135) (htg _ q_1_6) hd_X3_heardAt.2 ⟨Nat.le_of_ble_eq_true rfl, Nat.le_of_ble_eq_true rfl⟩, htg _ q_2_161, htg _ q_p2_8⟩ (xpV hN hK hP hD [9, 10] rfl (by decide) rfl rfl) rfl rfl hl.1 rfl (lv_room (Nat.le_of_ble_eq_true rfl)) dX5_echo_90 ⟨Nat.zero_le _, Nat.zero_le _⟩) hP hD hS hA [9, 10] [0, 1, 2, 3, 4, 5, 6, 7, 8, 11, 12] [0, 1, 2, 3, 4, 5, 6, 7, 8, 11, 12, 9, 10] rfl rfl (by decide) (by decide) rfl (by decide) (fun H locs hP hD hS => ?_)
          refine lv_goto (tgt := 102) hx hb dX5_echo_93 (by decide) ?_
          exact B_102 _ _ _ _ _ _ _ _ _ hm hP hD hS (lv_sub hl [1] rfl)
      · have hm := it_t c8 hm
        refine lv_aload_n hx hb dX5_echo_64 rfl (lv_at hl 1 rfl) ?_
        refine va_get (D := D) (ci := 5) (v := .ref (ad 20)) (C := RX5) (T := TX5) (N := 17) hx hb htg inX5 hown hK hP 0 rfl rfl 7 (by decide) (htg _ q_1_195) (fun _ h9 => h9) rfl dX5_echo_65 ?_
        refine va_getN (D := D) (ci := 3) (v := .int (o6.1 8)) (C := RX3) (T := TX3) (N := 9) hx hb htg inX3 hown hK hP 9 rfl rfl 8 (by decide) (va_Nw.use rfl (hN _ q_1_153)) (fun _ h9 => h9) rfl dX5_echo_68 ?_
        rw [hQ]
        exact W.iret (v := o6.1 8) hx hb hr (fun t9 ht hW => ⟨⟨o6.1 8, (o1.2.1, o6.1, o6.2, o1.2.2.1, o1.2.2.2), rfl, (Option.some.inj hm), by rw [ht]; exact hP, va_K.moved hW.alike hK, hD⟩, hS.F ht⟩) hS.2.2 dX5_echo_71
    · have hm := it_f c3 hm
      refine lv_iload hx hb dX5_echo_32 (lv_at hl 0 rfl) ?_
      rw [hQ]
      exact W.iret (v := o1.1) hx hb hr (fun t9 ht hW => ⟨⟨o1.1, (o1.2.1, t_trial, t_trial_heard, o1.2.2.1, o1.2.2.2), rfl, (Option.some.inj hm), by rw [ht]; exact hP, va_K.moved hW.alike hK, hD⟩, hS.F ht⟩) hS.2.2 dX5_echo_34
  have B_21 : ∀ (l3 : Int32) (l4 : Int32) (s1 : Int32) (s2 : Int32) (t_refusals : Nat → Int32) (t_trial : Nat → Int32) (t_trial_heard : Nat → Int32) (t_told : Nat → Int32) (t_told_sounds : Nat → Int32) (H : Heap) (locs : List Loc) (ls : Array Slot), b_X5_echo_21 fu t t_now t_now_kinds t_now_pitches t_shelves_holding t_shelves_sizes t_shelves_elements l3 l4 s1 s2 t_refusals t_trial t_trial_heard t_told t_told_sounds = some out → va_P D CL [((ad 0), e_X5 ad t), ((ad 1), e_X1 (ad 2) (ad 3) (ad 4) t_now), ((ad 2), eI cA 8 t_now_kinds), ((ad 4), eI cA 8 t_now_pitches), ((ad 13), e_X0 (ad 14) (ad 15) (ad 16)), ((ad 14), eI cA 8 t_shelves_holding), ((ad 15), eI cA 8 t_shelves_sizes), ((ad 16), eJ cA 320 t_shelves_elements), ((ad 19), eI cA 5 t_refusals), ((ad 20), e_X3 (ad 21) t_trial), ((ad 21), eI cA 13 t_trial_heard), ((ad 24), e_X4 (ad 25) t_told), ((ad 25), eI cA 12 t_told_sounds)] H → va_D A [((ad 0), e_X5 ad t), ((ad 1), e_X1 (ad 2) (ad 3) (ad 4) t_now), ((ad 2), eI cA 8 t_now_kinds), ((ad 4), eI cA 8 t_now_pitches), ((ad 13), e_X0 (ad 14) (ad 15) (ad 16)), ((ad 14), eI cA 8 t_shelves_holding), ((ad 15), eI cA 8 t_shelves_sizes), ((ad 16), eJ cA 320 t_shelves_elements), ((ad 19), eI cA 5 t_refusals), ((ad 20), e_X3 (ad 21) t_trial), ((ad 21), eI cA 13 t_trial_heard), ((ad 24), e_X4 (ad 25) t_told), ((ad 25), eI cA 12 t_told_sounds)] → va_S A s.heap H locs → lv_has ls 6 [(0, .ref (ad 0)), (3, .int l3), (4, .int l4)] → W p l e rm_X5_echo s m args below meth c H locs 0 0 Q (F0 m 21 ls [.int s2, .int s1, .ref (ad 0)]) := by
    intro  l3 l4 s1 s2 t_refusals t_trial t_trial_heard t_told t_told_sounds H locs ls hm hP hD hS hl
    unfold b_X5_echo_21 at hm
    refine lv_iconst (v := (0 : Int32)) hx hb dX5_echo_21 (by decide) ?_
    exact B_22 _ _ _ _ _ _ _ _ _ _ _ _ _ hm hP hD hS (lv_sub hl [0, 1, 2] rfl)
  unfold m_X5_echo at hm
  subst hargs
  have hl := lv_entry ([.ref (ad 0), .int l1, .int l2, .int l3, .int l4]) (n := 6) (Nat.le_of_ble_eq_true rfl)
  rw [lg_entry_eq]
  generalize (lg_sl ([.ref (ad 0), .int l1, .int l2, .int l3, .int l4]) ++ List.replicate (6 - (lg_sl ([.ref (ad 0), .int l1, .int l2, .int l3, .int l4])).length) Slot.unset).toArray = ls at hl ⊢
  have hl : lv_has ls 6 [(0, .ref (ad 0)), (1, .int l1), (2, .int l2), (3, .int l3), (4, .int l4)] := hl
  refine lv_aload_n hx hb dX5_echo_0 rfl (lv_at hl 0 rfl) ?_
  refine lv_iload_n hx hb dX5_echo_1 rfl (lv_at hl 1 rfl) ?_
  refine lv_iload_n hx hb dX5_echo_2 rfl (lv_at hl 2 rfl) ?_
  refine lv_aload_n hx hb dX5_echo_3 rfl (lv_at hl 0 rfl) ?_
  refine lv_iload_n hx hb dX5_echo_4 rfl (lv_at hl 3 rfl) ?_
  obtain ⟨o14, ho15, hm⟩ := bd_s hm
  refine xr_i (wr := [((ad 2), eI cA 8 t_now_kinds), ((ad 4), eI cA 8 t_now_pitches), ((ad 13), e_X0 (ad 14) (ad 15) (ad 16)), ((ad 14), eI cA 8 t_shelves_holding), ((ad 15), eI cA 8 t_shelves_sizes), ((ad 16), eJ cA 320 t_shelves_elements), ((ad 19), eI cA 5 t_refusals), ((ad 20), e_X3 (ad 21) t_trial), ((ad 21), eI cA 13 t_trial_heard), ((ad 24), e_X4 (ad 25) t_told), ((ad 25), eI cA 12 t_told_sounds)]) (wn := [((ad 0), e_X5 ad t), ((ad 1), e_X1 (ad 2) (ad 3) (ad 4) t_now), ((ad 2), eI cA 8 t_now_kinds), ((ad 4), eI cA 8 t_now_pitches), ((ad 13), e_X0 (ad 14) (ad 15) (ad 16)), ((ad 14), eI cA 8 t_shelves_holding), ((ad 15), eI cA 8 t_shelves_sizes), ((ad 16), eJ cA 320 t_shelves_elements), ((ad 19), eI cA 5 t_refusals), ((ad 20), e_X3 (ad 21) t_trial), ((ad 21), eI cA 13 t_trial_heard), ((ad 24), e_X4 (ad 25) t_told), ((ad 25), eI cA 12 t_told_sounds)]) (va_runV (As := [.int l3]) (rest := [.int l2, .int l1, .ref (ad 0)]) ⟨hx, hb, hml, hown, htg⟩ (c_X5_isVoice l D cA _ fu ad t t_now l3 o14 ho15) (cwV 1 htg (gV q_2_87 q_2_89 q_p1_10 q_1_1 q_2_90) rfl rfl rfl hd_X5_isVoice ⟨Nat.le_of_ble_eq_true rfl, Nat.le_of_ble_eq_true rfl⟩) (xpV hN hK hP hD [0, 1] rfl (by decide) rfl rfl) rfl rfl hl.1 rfl (lv_room (Nat.le_of_ble_eq_true rfl)) dX5_echo_5 ⟨Nat.zero_le _, Nat.zero_le _⟩) hP hD hS hA [0, 1] [2, 3, 4, 5, 6, 7, 8, 9, 10, 11, 12] [11, 12, 0, 1, 2, 3, 4, 5, 6, 7, 8, 9, 10] rfl rfl (by decide) (by decide) rfl (by decide) (fun H locs hP hD hS => ?_)
  refine lv_if_eq (tgt := 21) hx hb dX5_echo_8 (by decide) (fun c16 => ?_) (fun c16 => ?_)
  · have hm := it_t c16 hm
    exact B_21 _ _ _ _ _ _ _ _ _ _ _ _ hm hP hD hS (lv_sub hl [0, 3, 4] rfl)
  · have hm := it_f c16 hm
    refine lv_iload hx hb dX5_echo_11 (lv_at hl 4 rfl) ?_
    refine lv_iconst (v := (-1 : Int32)) hx hb dX5_echo_13 (by decide) ?_
    refine lv_icmp_lt (tgt := 21) hx hb dX5_echo_14 (by decide) (fun c17 => ?_) (fun c17 => ?_)
    · have hm := it_t c17 hm
      exact B_21 _ _ _ _ _ _ _ _ _ _ _ _ hm hP hD hS (lv_sub hl [0, 3, 4] rfl)
    · have hm := it_f c17 hm
      refine lv_iconst (v := (1 : Int32)) hx hb dX5_echo_17 (by decide) ?_
      refine lv_goto (tgt := 22) hx hb dX5_echo_18 (by decide) ?_
      exact B_22 _ _ _ _ _ _ _ _ _ _ _ _ _ hm hP hD hS (lv_sub hl [0, 3, 4] rfl)
