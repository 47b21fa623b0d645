def b_X5_spreadWays_55 (fu : Nat) (t : Nat → Int32) (k_10 : (Int32 × (Nat → Int32) × (Nat → Int32)) → Option ((Nat → Int32) × (Nat → Int32))) (k_18 : (Int32 × Int32 × (Nat → Int32) × (Nat → Int32)) → Option ((Nat → Int32) × (Nat → Int32))) (l1 : Int32) (l2 : Int32) (t_ways : Nat → Int32) (t_waysThen : Nat → Int32) : Option ((Nat → Int32) × (Nat → Int32)) :=
  k_18 (l1, (l2 + (1 : Int32)), t_ways, t_waysThen)
def b_X5_spreadWays_18 (fu : Nat) (t : Nat → Int32) (k_10 : (Int32 × (Nat → Int32) × (Nat → Int32)) → Option ((Nat → Int32) × (Nat → Int32))) (k_18 : (Int32 × Int32 × (Nat → Int32) × (Nat → Int32)) → Option ((Nat → Int32) × (Nat → Int32))) (x : Int32 × Int32 × (Nat → Int32) × (Nat → Int32)) : Option ((Nat → Int32) × (Nat → Int32)) :=
  (if (9 : Int32) < x.2.1 then
        k_10 ((x.1 + (1 : Int32)), x.2.2.1, x.2.2.2)
      else
        (m_X5_depthBehind fu x.1 x.2.1).bind fun o2 =>
        (m_X5_isWithin fu o2.1 (0 : Int32) (40 : Int32)).bind fun o4 =>
        (if o4.1 = 0 then
          b_X5_spreadWays_55 fu t k_10 k_18 x.1 x.2.1 x.2.2.1 x.2.2.2
        else
          gd (inb o2.1 41) (
          gd (inb x.1 41) (
          gd (inb o2.1 41) (
          b_X5_spreadWays_55 fu t k_10 k_18 x.1 x.2.1 x.2.2.1 (upd x.2.2.2 o2.1.toNatClampNeg ((x.2.2.2 o2.1.toNatClampNeg) + (x.2.2.1 x.1.toNatClampNeg))))))))
def b_X5_spreadWays_10 (fu : Nat) (t : Nat → Int32) (k_10 : (Int32 × (Nat → Int32) × (Nat → Int32)) → Option ((Nat → Int32) × (Nat → Int32))) (x : Int32 × (Nat → Int32) × (Nat → Int32)) : Option ((Nat → Int32) × (Nat → Int32)) :=
  (if (40 : Int32) < x.1 then
        gd (¬ (0 : Int32) < 0 ∧ ¬ (0 : Int32) < 0 ∧ ¬ (41 : Int32) < 0 ∧ (0 : Int32).toNatClampNeg + (41 : Int32).toNatClampNeg ≤ 41 ∧ (0 : Int32).toNatClampNeg + (41 : Int32).toNatClampNeg ≤ 41) (
        some ((va_cpy x.2.2 x.2.1 (0 : Int32).toNatClampNeg (0 : Int32).toNatClampNeg (41 : Int32).toNatClampNeg), x.2.2))
      else
        lfix (b_X5_spreadWays_18 fu t k_10) fu (x.1, (0 : Int32), x.2.1, x.2.2))
def m_X5_spreadWays (fu : Nat) (t : Nat → Int32) (t_ways : Nat → Int32) (t_waysThen : Nat → Int32) : Option ((Nat → Int32) × (Nat → Int32)) :=
  (m_J7_fill_53178 fu 41 t_waysThen (0 : Int32)).bind fun o12 =>
  lfix (b_X5_spreadWays_10 fu t) fu ((0 : Int32), t_ways, o12)
abbrev rm_X5_spreadWays : Room := ({ frames := 2, cells := 0, slots := 0, locals := 60 } : Room)
abbrev w0_X5_spreadWays (cA : Nat → ClassId) (ad : Nat → Nat) (t : Nat → Int32) (t_ways : Nat → Int32) (t_waysThen : Nat → Int32) : va_W := [((ad 0), e_X5 ad t), ((ad 31), eI cA 41 t_ways), ((ad 32), eI cA 41 t_waysThen)]
abbrev w1_X5_spreadWays (cA : Nat → ClassId) (ad : Nat → Nat) (t : Nat → Int32) (u : (Nat → Int32) × (Nat → Int32)) : va_W := [((ad 0), e_X5 ad t), ((ad 31), eI cA 41 u.1), ((ad 32), eI cA 41 u.2)]
theorem hd_X5_spreadWays : yX5_spreadWays.cls = RX5 ∧ yX5_spreadWays.cls ≠ "java/lang/invoke/MethodHandle" ∧ yX5_spreadWays.cls ≠ "java/lang/invoke/VarHandle" ∧ (parseMethodDescriptor yX5_spreadWays.desc).map (fun d => d.parameters.length) = some 0 := by decide +kernel
set_option maxHeartbeats 40000000 in
set_option maxRecDepth 100000 in
theorem c_X5_spreadWays (l : Launch) (D : va_G) (cA : Nat → ClassId) (sz : Nat) (fu : Nat) (ad : Nat → Nat) (t : Nat → Int32) (t_ways : Nat → Int32) (t_waysThen : Nat → Int32) (out : (Nat → Int32) × (Nat → Int32)) (hm : m_X5_spreadWays fu t t_ways t_waysThen = some out) : MV l yX5_spreadWays (wU yX5_spreadWays cX5_spreadWays 4 ((Option.none : Option Jvm.ClassFile.FieldType))) rm_X5_spreadWays D cA sz [.ref (ad 0)] (w0_X5_spreadWays cA ad t t_ways t_waysThen) out (w1_X5_spreadWays cA ad t) := by
  refine Met.ofW (cc := cX5_spreadWays) (maxL := 4) (ret := (Option.none : Option Jvm.ClassFile.FieldType)) (by decide) rfl ?_
  intro p e s m args below meth c s₁ B hml hv
  obtain ⟨hargs, hsz, hP, hK, hD0, hN⟩ := hv
  have hx := B.exec
  have hb := B.bytes
  have hr := B.returns
  have htg : ∀ w ∈ gw, w.before args s = true := fun w h => atoms_spec (ws := wU yX5_spreadWays cX5_spreadWays 4 ((Option.none : Option Jvm.ClassFile.FieldType))) B.pre w (List.mem_cons_of_mem _ h)
  have hown : s.vm.findClass RX5 = some m.cls := findClass_of_methodNamed B.named
  have hlocks := B.notSynchronized
  subst hsz
  have hD := hD0.self (sz := s.heap.size)
  have hA : ∀ q : Nat, s.heap.size ≤ q → va_A (w0_X5_spreadWays cA ad t t_ways t_waysThen) s.heap.size q := fun q h => Or.inr h
  have hS : va_S (va_A (w0_X5_spreadWays cA ad t t_ways t_waysThen) s.heap.size) s.heap s.heap [] := va_S.rf
  generalize va_A (w0_X5_spreadWays cA ad t t_ways t_waysThen) s.heap.size = A at hA hD hS ⊢
  obtain ⟨Q, hQ⟩ : ∃ Q : State → Prop, Q = MQ below (va_Qv (fun (u : (Nat → Int32) × (Nat → Int32)) => u = out) (pst0 D cA A (w1_X5_spreadWays cA ad t)) A) args s 0 0 A := ⟨_, rfl⟩
  refine (?_ : W p l e rm_X5_spreadWays s m args below meth c s.heap [] 0 0 (MQ below (va_Qv (fun (u : (Nat → Int32) × (Nat → Int32)) => u = out) (pst0 D cA A (w1_X5_spreadWays cA ad t)) A) args s 0 0 A) (entryFrame m args 4))
  rw [← hQ]
  have hP : va_P D CL [((ad 0), e_X5 ad t), ((ad 31), eI cA 41 t_ways), ((ad 32), eI cA 41 t_waysThen)] s.heap := hP
  have hD : va_D A [((ad 0), e_X5 ad t), ((ad 31), eI cA 41 t_ways), ((ad 32), eI cA 41 t_waysThen)] := hD
  have B_55 : ∀ (k_10 : (Int32 × (Nat → Int32) × (Nat → Int32)) → Option ((Nat → Int32) × (Nat → Int32))) (HK_10 : ∀ (x : Int32 × (Nat → Int32) × (Nat → Int32)) (H : Heap) (locs : List Loc) (ls : Array Slot), k_10 x = some out → va_P D CL [((ad 0), e_X5 ad t), ((ad 31), eI cA 41 x.2.1), ((ad 32), eI cA 41 x.2.2)] H → va_D A [((ad 0), e_X5 ad t), ((ad 31), eI cA 41 x.2.1), ((ad 32), eI cA 41 x.2.2)] → va_S A s.heap H locs → lv_has ls 4 [(0, .ref (ad 0)), (1, .int x.1)] → W p l e rm_X5_spreadWays s m args below meth c H locs 0 0 Q (F0 m 10 ls [])) (k_18 : (Int32 × Int32 × (Nat → Int32) × (Nat → Int32)) → Option ((Nat → Int32) × (Nat → Int32))) (HK_18 : ∀ (x : Int32 × Int32 × (Nat → Int32) × (Nat → Int32)) (H : Heap) (locs : List Loc) (ls : Array Slot), k_18 x = some out → va_P D CL [((ad 0), e_X5 ad t), ((ad 31), eI cA 41 x.2.2.1), ((ad 32), eI cA 41 x.2.2.2)] H → va_D A [((ad 0), e_X5 ad t), ((ad 31), eI cA 41 x.2.2.1), ((ad 32), eI cA 41 x.2.2.2)] → va_S A s.heap H locs → lv_has ls 4 [(0, .ref (ad 0)), (1, .int x.1), (2, .int x.2.1)] → W p l e rm_X5_spreadWays s m args below meth c H locs 0 0 Q (F0 m 18 ls [])) (l1 : Int32) (l2 : Int32) (t_ways : Nat → Int32) (t_waysThen : Nat → Int32) (H : Heap) (locs : List Loc) (ls : Array Slot), b_X5_spreadWays_55 fu t k_10 k_18 l1 l2 t_ways t_waysThen = some out → va_P D CL [((ad 0), e_X5 ad t), ((ad 31), eI cA 41 t_ways), ((ad 32), eI cA 41 t_waysThen)] H → va_D A [((ad 0), e_X5 ad t), ((ad 31), eI cA 41 t_ways), ((ad 32), eI cA 41 t_waysThen)] → va_S A s.heap H locs → lv_has ls 4 [(0, .ref (ad 0)), (1, .int l1), (2, .int l2)] → W p l e rm_X5_spreadWays s m args below meth c H locs 0 0 Q (F0 m 55 ls []) := by
    intro k_10 HK_10 k_18 HK_18 l1 l2 t_ways t_waysThen H locs ls hm hP hD hS hl
    unfold b_X5_spreadWays_55 at hm
    refine lv_iinc (v := (l2 + (1 : Int32))) (lv' := [(2, .int (l2 + (1 : Int32))), (0, .ref (ad 0)), (1, .int l1)]) hx hb dX5_spreadWays_55 hl (k := 2) rfl rfl (by decide) rfl (fun ls hl => ?_)
    refine lv_goto (tgt := 18) hx hb dX5_spreadWays_58 (by decide) ?_
    exact HK_18 _ _ _ _ hm hP hD hS (lv_sub hl [1, 2, 0] rfl)
  have B_18 : ∀ (k_10 : (Int32 × (Nat → Int32) × (Nat → Int32)) → Option ((Nat → Int32) × (Nat → Int32))) (HK_10 : ∀ (x : Int32 × (Nat → Int32) × (Nat → Int32)) (H : Heap) (locs : List Loc) (ls : Array Slot), k_10 x = some out → va_P D CL [((ad 0), e_X5 ad t), ((ad 31), eI cA 41 x.2.1), ((ad 32), eI cA 41 x.2.2)] H → va_D A [((ad 0), e_X5 ad t), ((ad 31), eI cA 41 x.2.1), ((ad 32), eI cA 41 x.2.2)] → va_S A s.heap H locs → lv_has ls 4 [(0, .ref (ad 0)), (1, .int x.1)] → W p l e rm_X5_spreadWays s m args below meth c H locs 0 0 Q (F0 m 10 ls [])) (n : Nat) (x : Int32 × Int32 × (Nat → Int32) × (Nat → Int32)) (H : Heap) (locs : List Loc) (ls : Array Slot), lfix (b_X5_spreadWays_18 fu t k_10) n x = some out → va_P D CL [((ad 0), e_X5 ad t), ((ad 31), eI cA 41 x.2.2.1), ((ad 32), eI cA 41 x.2.2.2)] H → va_D A [((ad 0), e_X5 ad t), ((ad 31), eI cA 41 x.2.2.1), ((ad 32), eI cA 41 x.2.2.2)] → va_S A s.heap H locs → lv_has ls 4 [(0, .ref (ad 0)), (1, .int x.1), (2, .int x.2.1)] → W p l e rm_X5_spreadWays s m args below meth c H locs 0 0 Q (F0 m 18 ls []) := by
    intro k_10 HK_10 n
    induction n with
    | zero => intro x H locs ls hm; cases (show none = some out from hm)
    | succ n HK_18 =>
      intro x H locs ls hm hP hD hS hl
      replace hm : b_X5_spreadWays_18 fu t k_10 (lfix (b_X5_spreadWays_18 fu t k_10) n) x = some out := hm
      unfold b_X5_spreadWays_18 at hm
      refine lv_iload_n hx hb dX5_spreadWays_18 rfl (lv_at hl 2 rfl) ?_
      refine lv_bipush (v := (9 : Int32)) hx hb dX5_spreadWays_19 (by decide) ?_
      refine lv_icmp_gt (tgt := 61) hx hb dX5_spreadWays_21 (by decide) (fun c1 => ?_) (fun c1 => ?_)
      · have hm := it_t c1 hm
        refine lv_iinc (v := (x.1 + (1 : Int32))) (lv' := [(1, .int (x.1 + (1 : Int32))), (0, .ref (ad 0)), (2, .int x.2.1)]) hx hb dX5_spreadWays_61 hl (k := 1) rfl rfl (by decide) rfl (fun ls hl => ?_)
        refine lv_goto (tgt := 10) hx hb dX5_spreadWays_64 (by decide) ?_
        exact HK_10 _ _ _ _ hm hP hD hS (lv_sub hl [1, 0] rfl)
      · have hm := it_f c1 hm
        refine lv_iload_n hx hb dX5_spreadWays_24 rfl (lv_at hl 1 rfl) ?_
        refine lv_iload_n hx hb dX5_spreadWays_25 rfl (lv_at hl 2 rfl) ?_
        obtain ⟨o2, ho3, hm⟩ := bd_s hm
        refine xr_i (wr := [((ad 0), e_X5 ad t), ((ad 31), eI cA 41 x.2.2.1), ((ad 32), eI cA 41 x.2.2.2)]) (wn := [((ad 0), e_X5 ad t), ((ad 31), eI cA 41 x.2.2.1), ((ad 32), eI cA 41 x.2.2.2)]) (va_runS (As := [.int x.1, .int x.2.1]) (rest := []) ⟨hx, hb, hml, hown, htg⟩ (c_X5_depthBehind l D cA _ fu x.1 x.2.1 o2 ho3) (cwS 2 htg (gS q_4_17 q_3_153 q_1_1 q_3_154) rfl rfl rfl hd_X5_depthBehind ⟨Nat.le_of_ble_eq_true rfl, Nat.le_of_ble_eq_true rfl⟩) (xpS hN hK hP hD [] rfl (by decide)) rfl rfl hl.1 rfl (lv_room (Nat.le_of_ble_eq_true rfl)) dX5_spreadWays_26 ⟨Nat.zero_le _, Nat.zero_le _⟩) hP hD hS hA [] [0, 1, 2] [0, 1, 2] rfl rfl (by decide) (by decide) rfl (by decide) (fun H locs hP hD hS => ?_)
        refine lv_istore_n (lv' := [(3, .int o2.1), (0, .ref (ad 0)), (1, .int x.1), (2, .int x.2.1)]) hx hb dX5_spreadWays_29 rfl hl (by decide) rfl (fun ls hl => ?_)
        refine lv_iload_n hx hb dX5_spreadWays_30 rfl (lv_at hl 0 rfl) ?_
        refine lv_iconst (v := (0 : Int32)) hx hb dX5_spreadWays_31 (by decide) ?_
        refine lv_bipush (v := (40 : Int32)) hx hb dX5_spreadWays_32 (by decide) ?_
        obtain ⟨o4, ho5, hm⟩ := bd_s hm
        refine xr_i (wr := [((ad 0), e_X5 ad t), ((ad 31), eI cA 41 x.2.2.1), ((ad 32), eI cA 41 x.2.2.2)]) (wn := [((ad 0), e_X5 ad t), ((ad 31), eI cA 41 x.2.2.1), ((ad 32), eI cA 41 x.2.2.2)]) (va_runS (As := [.int o2.1, .int (0 : Int32), .int (40 : Int32)]) (rest := []) ⟨hx, hb, hml, hown, htg⟩ (c_X5_isWithin l D cA _ fu o2.1 (0 : Int32) (40 : Int32) o4 ho5) (cwS 3 htg (gS q_2_7 q_2_8 q_1_1 q_2_9) rfl rfl rfl hd_X5_isWithin ⟨Nat.le_of_ble_eq_true rfl, Nat.le_of_ble_eq_true rfl⟩) (xpS hN hK hP hD [] rfl (by decide)) rfl rfl hl.1 rfl (lv_room (Nat.le_of_ble_eq_true rfl)) dX5_spreadWays_34 ⟨Nat.zero_le _, Nat.zero_le _⟩) hP hD hS hA [] [0, 1, 2] [0, 1, 2] rfl rfl (by decide) (by decide) rfl (by decide) (fun H locs hP hD hS => ?_)
        refine lv_if_eq (tgt := 55) hx hb dX5_spreadWays_37 (by decide) (fun c6 => ?_) (fun c6 => ?_)
        · have hm := it_t c6 hm
          exact B_55 _ HK_10 _ HK_18 _ _ _ _ _ _ _ hm hP hD hS (lv_sub hl [1, 2, 3] rfl)
        · have hm := it_f c6 hm
          refine lv_aload_n hx hb dX5_spreadWays_40 rfl (lv_at hl 1 rfl) ?_
          refine va_get (D := D) (ci := 5) (v := .ref (ad 32)) (C := RX5) (T := TX5) (N := 17) hx hb htg inX5 hown hK hP 0 rfl rfl 15 (by decide) (htg _ q_1_203) (fun _ h9 => h9) rfl dX5_spreadWays_41 ?_
          refine lv_iload_n hx hb dX5_spreadWays_44 rfl (lv_at hl 0 rfl) ?_
          refine lv_dup2_11 hx hb dX5_spreadWays_45 rfl rfl ?_
          obtain ⟨hi7, hm⟩ := gd_s hm
          refine va_iald hx hb hK hP 2 0 rfl rfl hi7 dX5_spreadWays_46 ?_
          refine lv_aload_n hx hb dX5_spreadWays_47 rfl (lv_at hl 1 rfl) ?_
          refine va_get (D := D) (ci := 5) (v := .ref (ad 31)) (C := RX5) (T := TX5) (N := 17) hx hb htg inX5 hown hK hP 0 rfl rfl 14 (by decide) (htg _ q_1_202) (fun _ h9 => h9) rfl dX5_spreadWays_48 ?_
          refine lv_iload_n hx hb dX5_spreadWays_51 rfl (lv_at hl 2 rfl) ?_
          obtain ⟨hi8, hm⟩ := gd_s hm
          refine va_iald hx hb hK hP 1 0 rfl rfl hi8 dX5_spreadWays_52 ?_
          refine lv_iadd hx hb dX5_spreadWays_53 ?_
          obtain ⟨hi9, hm⟩ := gd_s hm
          refine va_iast hx hb hK hP hD hS 2 0 rfl rfl hi9 dX5_spreadWays_54 (fun H locs (hP : va_P D CL [((ad 0), e_X5 ad t), ((ad 31), eI cA 41 x.2.2.1), ((ad 32), eI cA 41 (upd x.2.2.2 o2.1.toNatClampNeg ((x.2.2.2 o2.1.toNatClampNeg) + (x.2.2.1 x.1.toNatClampNeg))))] H) (hD : va_D A [((ad 0), e_X5 ad t), ((ad 31), eI cA 41 x.2.2.1), ((ad 32), eI cA 41 (upd x.2.2.2 o2.1.toNatClampNeg ((x.2.2.2 o2.1.toNatClampNeg) + (x.2.2.1 x.1.toNatClampNeg))))]) hS => ?_)
          exact B_55 _ HK_10 _ HK_18 _ _ _ _ _ _ _ hm hP hD hS (lv_sub hl [1, 2, 3] rfl)
  have B_10 : ∀ (n : Nat) (x : Int32 × (Nat → Int32) × (Nat → Int32)) (H : Heap) (locs : List Loc) (ls : Array Slot), lfix (b_X5_spreadWays_10 fu t) n x = some out → va_P D CL [((ad 0), e_X5 ad t), ((ad 31), eI cA 41 x.2.1), ((ad 32), eI cA 41 x.2.2)] H → va_D A [((ad 0), e_X5 ad t), ((ad 31), eI cA 41 x.2.1), ((ad 32), eI cA 41 x.2.2)] → va_S A s.heap H locs → lv_has ls 4 [(0, .ref (ad 0)), (1, .int x.1)] → W p l e rm_X5_spreadWays s m args below meth c H locs 0 0 Q (F0 m 10 ls []) := by
    intro  n
    induction n with
    | zero => intro x H locs ls hm; cases (show none = some out from hm)
    | succ n HK_10 =>
      intro x H locs ls hm hP hD hS hl
      replace hm : b_X5_spreadWays_10 fu t (lfix (b_X5_spreadWays_10 fu t) n) x = some out := hm
      unfold b_X5_spreadWays_10 at hm
      refine lv_iload_n hx hb dX5_spreadWays_10 rfl (lv_at hl 1 rfl) ?_
      refine lv_bipush (v := (40 : Int32)) hx hb dX5_spreadWays_11 (by decide) ?_
      refine lv_icmp_gt (tgt := 67) hx hb dX5_spreadWays_13 (by decide) (fun c10 => ?_) (fun c10 => ?_)
      · have hm := it_t c10 hm
        refine lv_aload_n hx hb dX5_spreadWays_67 rfl (lv_at hl 0 rfl) ?_
        refine va_get (D := D) (ci := 5) (v := .ref (ad 32)) (C := RX5) (T := TX5) (N := 17) hx hb htg inX5 hown hK hP 0 rfl rfl 15 (by decide) (htg _ q_1_203) (fun _ h9 => h9) rfl dX5_spreadWays_68 ?_
        refine lv_iconst (v := (0 : Int32)) hx hb dX5_spreadWays_71 (by decide) ?_
        refine lv_aload_n hx hb dX5_spreadWays_72 rfl (lv_at hl 0 rfl) ?_
        refine va_get (D := D) (ci := 5) (v := .ref (ad 31)) (C := RX5) (T := TX5) (N := 17) hx hb htg inX5 hown hK hP 0 rfl rfl 14 (by decide) (htg _ q_1_202) (fun _ h9 => h9) rfl dX5_spreadWays_73 ?_
        refine lv_iconst (v := (0 : Int32)) hx hb dX5_spreadWays_76 (by decide) ?_
        refine lv_bipush (v := (41 : Int32)) hx hb dX5_spreadWays_77 (by decide) ?_
        obtain ⟨⟨hy111, hy112, hy113, hy114, hy115⟩, hm⟩ := gd_s hm
        refine va_copyi hx hb (hml.trans hl.1.symm) hown (htg _ q_4_18) (htg _ q_2_69) (htg _ q_2_68) (htg _ q_1_9) hK hP hD hS 2 1 0 0 rfl rfl rfl rfl rfl hy111 hy112 hy113 hy114 hy115 (fun _ _ => rfl) (Nat.le_of_ble_eq_true rfl) (Nat.le_of_ble_eq_true rfl) dX5_spreadWays_79 (fun H locs (hP : va_P D CL [((ad 0), e_X5 ad t), ((ad 31), eI cA 41 (va_cpy x.2.2 x.2.1 (0 : Int32).toNatClampNeg (0 : Int32).toNatClampNeg (41 : Int32).toNatClampNeg)), ((ad 32), eI cA 41 x.2.2)] H) (hD : va_D A [((ad 0), e_X5 ad t), ((ad 31), eI cA 41 (va_cpy x.2.2 x.2.1 (0 : Int32).toNatClampNeg (0 : Int32).toNatClampNeg (41 : Int32).toNatClampNeg)), ((ad 32), eI cA 41 x.2.2)]) hS => ?_)
        rw [hQ]
        exact W.vret hx hb hr (fun t9 ht hW => ⟨⟨((va_cpy x.2.2 x.2.1 (0 : Int32).toNatClampNeg (0 : Int32).toNatClampNeg (41 : Int32).toNatClampNeg), x.2.2), rfl, (Option.some.inj hm), by rw [ht]; exact hP, va_K.moved hW.alike hK, hD⟩, hS.F ht⟩) hS.2.2 dX5_spreadWays_82
      · have hm := it_f c10 hm
        refine lv_iconst (v := (0 : Int32)) hx hb dX5_spreadWays_16 (by decide) ?_
        refine lv_istore_n (lv' := [(2, .int (0 : Int32)), (0, .ref (ad 0)), (1, .int x.1)]) hx hb dX5_spreadWays_17 rfl hl (by decide) rfl (fun ls hl => ?_)
        exact B_18 _ HK_10 fu _ _ _ _ hm hP hD hS (lv_sub hl [1, 2, 0] rfl)
  unfold m_X5_spreadWays at hm
  subst hargs
  have hl := lv_entry ([.ref (ad 0)]) (n := 4) (Nat.le_of_ble_eq_true rfl)
  rw [lg_entry_eq]
  generalize (lg_sl ([.ref (ad 0)]) ++ List.replicate (4 - (lg_sl ([.ref (ad 0)])).length) Slot.unset).toArray = ls at hl ⊢
  have hl : lv_has ls 4 [(0, .ref (ad 0))] := hl
  refine lv_aload_n hx hb dX5_spreadWays_0 rfl (lv_at hl 0 rfl) ?_
  refine va_get (D := D) (ci := 5) (v := .ref (ad 32)) (C := RX5) (T := TX5) (N := 17) hx hb htg inX5 hown hK hP 0 rfl rfl 15 (by decide) (htg _ q_1_203) (fun _ h9 => h9) rfl dX5_spreadWays_1 ?_
  refine lv_iconst (v := (0 : Int32)) hx hb dX5_spreadWays_4 (by decide) ?_
  obtain ⟨o12, ho13, hm⟩ := bd_s hm
  refine xr_v (wr := [((ad 0), e_X5 ad t), ((ad 31), eI cA 41 t_ways)]) (wn := [((ad 0), e_X5 ad t), ((ad 31), eI cA 41 t_ways), ((ad 32), eI cA 41 o12)]) (va_runS (As := [.ref (ad 32), .int (0 : Int32)]) (rest := []) ⟨hx, hb, hml, hown, htg⟩ (c_J7_fill_53178 l D cA _ fu (ad 32) 41 t_waysThen (0 : Int32) o12 ho13) ⟨callB_of 2 htg (gU q_1_97) rfl rfl rfl (htg _ q_1_4) (htg _ q_4_16) hd_J7_fill_53178.2 ⟨Nat.le_of_ble_eq_true rfl, Nat.le_of_ble_eq_true rfl⟩, htg _ q_1_96⟩ (xpS hN hK hP hD [2] rfl (by decide)) rfl rfl hl.1 rfl (lv_room (Nat.le_of_ble_eq_true rfl)) dX5_spreadWays_5 ⟨Nat.zero_le _, Nat.zero_le _⟩) hP hD hS hA [2] [0, 1] [0, 1, 2] rfl rfl (by decide) (by decide) rfl (by decide) (fun H locs hP hD hS => ?_)
  refine lv_iconst (v := (0 : Int32)) hx hb dX5_spreadWays_8 (by decide) ?_
  refine lv_istore_n (lv' := [(1, .int (0 : Int32)), (0, .ref (ad 0))]) hx hb dX5_spreadWays_9 rfl hl (by decide) rfl (fun ls hl => ?_)
  exact B_10 fu _ _ _ _ hm hP hD hS (lv_sub hl [1, 0] rfl)
def b_X5_waysToYes_51 (fu : Nat) (t : Nat → Int32) (t_told : Nat → Int32) (t_told_sounds : Nat → Int32) (t_ways : Nat → Int32) (k_4 : (Int32 × Int32 × (Nat → Int32) × (Nat → Int32)) → Option (Int32 × ((Nat → Int32) × (Nat → Int32)))) (l1 : Int32) (l2 : Int32) (t_trial : Nat → Int32) (t_trial_heard : Nat → Int32) : Option (Int32 × ((Nat → Int32) × (Nat → Int32))) :=
  k_4 (l1, (l2 + (1 : Int32)), t_trial, t_trial_heard)
def b_X5_waysToYes_4 (fu : Nat) (t : Nat → Int32) (t_told : Nat → Int32) (t_told_sounds : Nat → Int32) (t_ways : Nat → Int32) (k_4 : (Int32 × Int32 × (Nat → Int32) × (Nat → Int32)) → Option (Int32 × ((Nat → Int32) × (Nat → Int32)))) (x : Int32 × Int32 × (Nat → Int32) × (Nat → Int32)) : Option (Int32 × ((Nat → Int32) × (Nat → Int32))) :=
  (if (40 : Int32) < x.2.1 then
        some (x.1, (x.2.2.1, x.2.2.2))
      else
        gd (inb x.2.1 41) (
        (if (t_ways x.2.1.toNatClampNeg) ≤ 0 then
          b_X5_waysToYes_51 fu t t_told t_told_sounds t_ways k_4 x.1 x.2.1 (upd x.2.2.1 2 x.2.1) x.2.2.2
        else
          (m_X3_weighs fu (upd x.2.2.1 2 x.2.1) x.2.2.2 t_told t_told_sounds).bind fun o4 =>
          (if o4.1 = (1 : Int32) then
            gd (inb x.2.1 41) (
            b_X5_waysToYes_51 fu t t_told t_told_sounds t_ways k_4 (x.1 + (t_ways x.2.1.toNatClampNeg)) x.2.1 o4.2.1 o4.2.2)
          else
            b_X5_waysToYes_51 fu t t_told t_told_sounds t_ways k_4 x.1 x.2.1 o4.2.1 o4.2.2))))
def m_X5_waysToYes (fu : Nat) (t : Nat → Int32) (t_trial : Nat → Int32) (t_trial_heard : Nat → Int32) (t_told : Nat → Int32) (t_told_sounds : Nat → Int32) (t_ways : Nat → Int32) : Option (Int32 × ((Nat → Int32) × (Nat → Int32))) :=
  lfix (b_X5_waysToYes_4 fu t t_told t_told_sounds t_ways) fu ((0 : Int32), (0 : Int32), t_trial, t_trial_heard)
abbrev rm_X5_waysToYes : Room := ({ frames := 5, cells := 0, slots := 0, locals := 109 } : Room)
abbrev w0_X5_waysToYes (cA : Nat → ClassId) (ad : Nat → Nat) (t : Nat → Int32) (t_trial : Nat → Int32) (t_trial_heard : Nat → Int32) (t_told : Nat → Int32) (t_told_sounds : Nat → Int32) (t_ways : Nat → Int32) : va_W := [((ad 0), e_X5 ad t), ((ad 20), e_X3 (ad 21) t_trial), ((ad 21), eI cA 13 t_trial_heard), ((ad 24), e_X4 (ad 25) t_told), ((ad 25), eI cA 12 t_told_sounds), ((ad 31), eI cA 41 t_ways)]
abbrev w1_X5_waysToYes (cA : Nat → ClassId) (ad : Nat → Nat) (t : Nat → Int32) (t_told : Nat → Int32) (t_told_sounds : Nat → Int32) (t_ways : Nat → Int32) (u : (Nat → Int32) × (Nat → Int32)) : va_W := [((ad 0), e_X5 ad t), ((ad 20), e_X3 (ad 21) u.1), ((ad 21), eI cA 13 u.2), ((ad 24), e_X4 (ad 25) t_told), ((ad 25), eI cA 12 t_told_sounds), ((ad 31), eI cA 41 t_ways)]
theorem hd_X5_waysToYes : yX5_waysToYes.cls = RX5 ∧ yX5_waysToYes.cls ≠ "java/lang/invoke/MethodHandle" ∧ yX5_waysToYes.cls ≠ "java/lang/invoke/VarHandle" ∧ (parseMethodDescriptor yX5_waysToYes.desc).map (fun d => d.parameters.length) = some 0 := by decide +kernel
set_option maxHeartbeats 40000000 in
set_option maxRecDepth 100000 in
theorem c_X5_waysToYes (l : Launch) (D : va_G) (cA : Nat → ClassId) (sz : Nat) (fu : Nat) (ad : Nat → Nat) (t : Nat → Int32) (t_trial : Nat → Int32) (t_trial_heard : Nat → Int32) (t_told : Nat → Int32) (t_told_sounds : Nat → Int32) (t_ways : Nat → Int32) (out : Int32 × ((Nat → Int32) × (Nat → Int32))) (hm : m_X5_waysToYes fu t t_trial t_trial_heard t_told t_told_sounds t_ways = some out) : MI l yX5_waysToYes (wU yX5_waysToYes cX5_waysToYes 3 ((Option.some Jvm.ClassFile.FieldType.int))) rm_X5_waysToYes D cA sz [.ref (ad 0)] (w0_X5_waysToYes cA ad t t_trial t_trial_heard t_told t_told_sounds t_ways) out (w1_X5_waysToYes cA ad t t_told t_told_sounds t_ways) := by
  refine Met.ofW (cc := cX5_waysToYes) (maxL := 3) (ret := (Option.some Jvm.ClassFile.FieldType.int)) (by decide) rfl ?_
  intro p e s m args below meth c s₁ B hml hv
  obtain ⟨hargs, hsz, hP, hK, hD0, hN⟩ := hv
  have hx := B.exec
  have hb := B.bytes
  have hr := B.returns
  have htg : ∀ w ∈ gw, w.before args s = true := fun w h => atoms_spec (ws := wU yX5_waysToYes cX5_waysToYes 3 ((Option.some Jvm.ClassFile.FieldType.int))) B.pre w (List.mem_cons_of_mem _ h)
  have hown : s.vm.findClass RX5 = some m.cls := findClass_of_methodNamed B.named
  have hlocks := B.notSynchronized
  subst hsz
  have hD := hD0.self (sz := s.heap.size)
  have hA : ∀ q : Nat, s.heap.size ≤ q → va_A (w0_X5_waysToYes cA ad t t_trial t_trial_heard t_told t_told_sounds t_ways) s.heap.size q := fun q h => Or.inr h
  have hS : va_S (va_A (w0_X5_waysToYes cA ad t t_trial t_trial_heard t_told t_told_sounds t_ways) s.heap.size) s.heap s.heap [] := va_S.rf
  generalize va_A (w0_X5_waysToYes cA ad t t_trial t_trial_heard t_told t_told_sounds t_ways) s.heap.size = A at hA hD hS ⊢
  obtain ⟨Q, hQ⟩ : ∃ Q : State → Prop, Q = MQ below (va_Qi (fun (r : Int32) (u : (Nat → Int32) × (Nat → Int32)) => (r, u) = out) (pst0 D cA A (w1_X5_waysToYes cA ad t t_told t_told_sounds t_ways)) A) args s 0 0 A := ⟨_, rfl⟩
  refine (?_ : W p l e rm_X5_waysToYes s m args below meth c s.heap [] 0 0 (MQ below (va_Qi (fun (r : Int32) (u : (Nat → Int32) × (Nat → Int32)) => (r, u) = out) (pst0 D cA A (w1_X5_waysToYes cA ad t t_told t_told_sounds t_ways)) A) args s 0 0 A) (entryFrame m args 3))
  rw [← hQ]
  have hP : va_P D CL [((ad 0), e_X5 ad t), ((ad 20), e_X3 (ad 21) t_trial), ((ad 21), eI cA 13 t_trial_heard), ((ad 24), e_X4 (ad 25) t_told), ((ad 25), eI cA 12 t_told_sounds), ((ad 31), eI cA 41 t_ways)] s.heap := hP
  have hD : va_D A [((ad 0), e_X5 ad t), ((ad 20), e_X3 (ad 21) t_trial), ((ad 21), eI cA 13 t_trial_heard), ((ad 24), e_X4 (ad 25) t_told), ((ad 25), eI cA 12 t_told_sounds), ((ad 31), eI cA 41 t_ways)] := hD
  have B_51 : ∀ (k_4 : (Int32 × Int32 × (Nat → Int32) × (Nat → Int32)) → Option (Int32 × ((Nat → Int32) × (Nat → Int32)))) (HK_4 : ∀ (x : Int32 × Int32 × (Nat → Int32) × (Nat → Int32)) (H : Heap) (locs : List Loc) (ls : Array Slot), k_4 x = some out → va_P D CL [((ad 0), e_X5 ad t), ((ad 20), e_X3 (ad 21) x.2.2.1), ((ad 21), eI cA 13 x.2.2.2), ((ad 24), e_X4 (ad 25) t_told), ((ad 25), eI cA 12 t_told_sounds), ((ad 31), eI cA 41 t_ways)] H → va_D A [((ad 0), e_X5 ad t), ((ad 20), e_X3 (ad 21) x.2.2.1), ((ad 21), eI cA 13 x.2.2.2), ((ad 24), e_X4 (ad 25) t_told), ((ad 25), eI cA 12 t_told_sounds), ((ad 31), eI cA 41 t_ways)] → va_S A s.heap H locs → lv_has ls 3 [(0, .ref (ad 0)), (1, .int x.1), (2, .int x.2.1)] → W p l e rm_X5_waysToYes s m args below meth c H locs 0 0 Q (F0 m 4 ls [])) (l1 : Int32) (l2 : Int32) (t_trial : Nat → Int32) (t_trial_heard : Nat → Int32) (H : Heap) (locs : List Loc) (ls : Array Slot), b_X5_waysToYes_51 fu t t_told t_told_sounds t_ways k_4 l1 l2 t_trial t_trial_heard = some out → va_P D CL [((ad 0), e_X5 ad t), ((ad 20), e_X3 (ad 21) t_trial), ((ad 21), eI cA 13 t_trial_heard), ((ad 24), e_X4 (ad 25) t_told), ((ad 25), eI cA 12 t_told_sounds), ((ad 31), eI cA 41 t_ways)] H → va_D A [((ad 0), e_X5 ad t), ((ad 20), e_X3 (ad 21) t_trial), ((ad 21), eI cA 13 t_trial_heard), ((ad 24), e_X4 (ad 25) t_told), ((ad 25), eI cA 12 t_told_sounds), ((ad 31), eI cA 41 t_ways)] → va_S A s.heap H locs → lv_has ls 3 [(0, .ref (ad 0)), (1, .int l1), (2, .int l2)] → W p l e rm_X5_waysToYes s m args below meth c H locs 0 0 Q (F0 m 51 ls []) := by
    intro k_4 HK_4 l1 l2 t_trial t_trial_heard H locs ls hm hP hD hS hl
    unfold b_X5_waysToYes_51 at hm
    refine lv_iinc (v := (l2 + (1 : Int32))) (lv' := [(2, .int (l2 + (1 : Int32))), (0, .ref (ad 0)), (1, .int l1)]) hx hb dX5_waysToYes_51 hl (k := 2) rfl rfl (by decide) rfl (fun ls hl => ?_)
    refine lv_goto (tgt := 4) hx hb dX5_waysToYes_54 (by decide) ?_
    exact HK_4 _ _ _ _ hm hP hD hS (lv_sub hl [1, 2, 0] rfl)
  have B_4 : ∀ (n : Nat) (x : Int32 × Int32 × (Nat → Int32) × (Nat → Int32)) (H : Heap) (locs : List Loc) (ls : Array Slot), lfix (b_X5_waysToYes_4 fu t t_told t_told_sounds t_ways) n x = some out → va_P D CL [((ad 0), e_X5 ad t), ((ad 20), e_X3 (ad 21) x.2.2.1), ((ad 21), eI cA 13 x.2.2.2), ((ad 24), e_X4 (ad 25) t_told), ((ad 25), eI cA 12 t_told_sounds), ((ad 31), eI cA 41 t_ways)] H → va_D A [((ad 0), e_X5 ad t), ((ad 20), e_X3 (ad 21) x.2.2.1), ((ad 21), eI cA 13 x.2.2.2), ((ad 24), e_X4 (ad 25) t_told), ((ad 25), eI cA 12 t_told_sounds), ((ad 31), eI cA 41 t_ways)] → va_S A s.heap H locs → lv_has ls 3 [(0, .ref (ad 0)), (1, .int x.1), (2, .int x.2.1)] → W p l e rm_X5_waysToYes s m args below meth c H locs 0 0 Q (F0 m 4 ls []) := by
    intro  n
    induction n with
    | zero => intro x H locs ls hm; cases (show none = some out from hm)
    | succ n HK_4 =>
      intro x H locs ls hm hP hD hS hl
      replace hm : b_X5_waysToYes_4 fu t t_told t_told_sounds t_ways (lfix (b_X5_waysToYes_4 fu t t_told t_told_sounds t_ways) n) x = some out := hm
      unfold b_X5_waysToYes_4 at hm
      refine lv_iload_n hx hb dX5_waysToYes_4 rfl (lv_at hl 2 rfl) ?_
      refine lv_bipush (v := (40 : Int32)) hx hb dX5_waysToYes_5 (by decide) ?_
      refine lv_icmp_gt (tgt := 57) hx hb dX5_waysToYes_7 (by decide) (fun c1 => ?_) (fun c1 => ?_)
      · have hm := it_t c1 hm
        refine lv_iload_n hx hb dX5_waysToYes_57 rfl (lv_at hl 1 rfl) ?_
        rw [hQ]
        exact W.iret (v := x.1) hx hb hr (fun t9 ht hW => ⟨⟨x.1, (x.2.2.1, x.2.2.2), rfl, (Option.some.inj hm), by rw [ht]; exact hP, va_K.moved hW.alike hK, hD⟩, hS.F ht⟩) hS.2.2 dX5_waysToYes_58
      · have hm := it_f c1 hm
        refine lv_aload_n hx hb dX5_waysToYes_10 rfl (lv_at hl 0 rfl) ?_
        refine va_get (D := D) (ci := 5) (v := .ref (ad 20)) (C := RX5) (T := TX5) (N := 17) hx hb htg inX5 hown hK hP 0 rfl rfl 7 (by decide) (htg _ q_1_195) (fun _ h9 => h9) rfl dX5_waysToYes_11 ?_
        refine lv_iload_n hx hb dX5_waysToYes_14 rfl (lv_at hl 2 rfl) ?_
        refine va_putN (D := D) (ci := 3) (v := .int x.2.1) (ty := .int) (C := RX3) (T := TX3) (N := 9) hx hb htg inX3 tyX3 tyX3_ok nmX3 hown hK hP hD hS 1 rfl rfl 2 (by decide) (va_Nw.use rfl (hN _ q_1_144)) (fun _ h9 => h9) rfl (by decide +kernel) rfl rfl (Nat.le_of_ble_eq_true rfl) dX5_waysToYes_15 (fun H locs (hP : va_P D CL [((ad 0), e_X5 ad t), ((ad 20), e_X3 (ad 21) (upd x.2.2.1 2 x.2.1)), ((ad 21), eI cA 13 x.2.2.2), ((ad 24), e_X4 (ad 25) t_told), ((ad 25), eI cA 12 t_told_sounds), ((ad 31), eI cA 41 t_ways)] H) (hD : va_D A [((ad 0), e_X5 ad t), ((ad 20), e_X3 (ad 21) (upd x.2.2.1 2 x.2.1)), ((ad 21), eI cA 13 x.2.2.2), ((ad 24), e_X4 (ad 25) t_told), ((ad 25), eI cA 12 t_told_sounds), ((ad 31), eI cA 41 t_ways)]) hS => ?_)
        refine lv_aload_n hx hb dX5_waysToYes_18 rfl (lv_at hl 0 rfl) ?_
        refine va_get (D := D) (ci := 5) (v := .ref (ad 31)) (C := RX5) (T := TX5) (N := 17) hx hb htg inX5 hown hK hP 0 rfl rfl 14 (by decide) (htg _ q_1_202) (fun _ h9 => h9) rfl dX5_waysToYes_19 ?_
        refine lv_iload_n hx hb dX5_waysToYes_22 rfl (lv_at hl 2 rfl) ?_
        obtain ⟨hi2, hm⟩ := gd_s hm
        refine va_iald hx hb hK hP 5 0 rfl rfl hi2 dX5_waysToYes_23 ?_
        refine lv_if_le (tgt := 51) hx hb dX5_waysToYes_24 (by decide) (fun c3 => ?_) (fun c3 => ?_)
        · have hm := it_t c3 hm
          exact B_51 _ HK_4 _ _ _ _ _ _ _ hm hP hD hS (lv_sub hl [0, 1, 2] rfl)
        · have hm := it_f c3 hm
          refine lv_aload_n hx hb dX5_waysToYes_27 rfl (lv_at hl 0 rfl) ?_
          refine va_get (D := D) (ci := 5) (v := .ref (ad 20)) (C := RX5) (T := TX5) (N := 17) hx hb htg inX5 hown hK hP 0 rfl rfl 7 (by decide) (htg _ q_1_195) (fun _ h9 => h9) rfl dX5_waysToYes_28 ?_
          refine lv_aload_n hx hb dX5_waysToYes_31 rfl (lv_at hl 0 rfl) ?_
          refine va_get (D := D) (ci := 5) (v := .ref (ad 24)) (C := RX5) (T := TX5) (N := 17) hx hb htg inX5 hown hK hP 0 rfl rfl 9 (by decide) (htg _ q_1_197) (fun _ h9 => h9) rfl dX5_waysToYes_32 ?_
          obtain ⟨o4, ho5, hm⟩ := bd_s hm
          refine xr_i (wr := [((ad 0), e_X5 ad t), ((ad 31), eI cA 41 t_ways)]) (wn := [((ad 0), e_X5 ad t), ((ad 20), e_X3 (ad 21) o4.2.1), ((ad 21), eI cA 13 o4.2.2), ((ad 24), e_X4 (ad 25) t_told), ((ad 25), eI cA 12 t_told_sounds), ((ad 31), eI cA 41 t_ways)]) (va_runVN (As := [.ref (ad 24)]) (rest := []) ⟨hx, hb, hml, hown, htg⟩ (c_X3_weighs l D cA _ fu (ad 20) (ad 21) (ad 24) (ad 25) (upd x.2.2.1 2 x.2.1) x.2.2.2 t_told t_told_sounds o4 ho5) ⟨va_cnB 1 htg (gU q_3_118) rfl rfl rfl (hN _ q_3_115) (htg _ q_1_6) hd_X3_weighs.2 ⟨Nat.le_of_ble_eq_true rfl, Nat.le_of_ble_eq_true rfl⟩, htg _ q_3_117, htg _ q_p3_11⟩ (xpV hN hK hP hD [1, 2, 3, 4] rfl (by decide) rfl rfl) rfl rfl hl.1 rfl (lv_room (Nat.le_of_ble_eq_true rfl)) dX5_waysToYes_35 ⟨Nat.zero_le _, Nat.zero_le _⟩) hP hD hS hA [1, 2, 3, 4] [0, 5] [0, 2, 3, 4, 5, 1] rfl rfl (by decide) (by decide) rfl (by decide) (fun H locs hP hD hS => ?_)
          refine lv_iconst (v := (1 : Int32)) hx hb dX5_waysToYes_38 (by decide) ?_
          refine lv_icmp_ne (tgt := 51) hx hb dX5_waysToYes_39 (by decide) (fun c6 => ?_) (fun c6 => ?_)
          · have hm := it_f c6 hm
            exact B_51 _ HK_4 _ _ _ _ _ _ _ hm hP hD hS (lv_sub hl [0, 1, 2] rfl)
          · have hm := it_t c6 hm
            refine lv_iload_n hx hb dX5_waysToYes_42 rfl (lv_at hl 1 rfl) ?_
            refine lv_aload_n hx hb dX5_waysToYes_43 rfl (lv_at hl 0 rfl) ?_
            refine va_get (D := D) (ci := 5) (v := .ref (ad 31)) (C := RX5) (T := TX5) (N := 17) hx hb htg inX5 hown hK hP 0 rfl rfl 14 (by decide) (htg _ q_1_202) (fun _ h9 => h9) rfl dX5_waysToYes_44 ?_
            refine lv_iload_n hx hb dX5_waysToYes_47 rfl (lv_at hl 2 rfl) ?_
            obtain ⟨hi7, hm⟩ := gd_s hm
            refine va_iald hx hb hK hP 5 0 rfl rfl hi7 dX5_waysToYes_48 ?_
            refine lv_iadd hx hb dX5_waysToYes_49 ?_
            refine lv_istore_n (lv' := [(1, .int (x.1 + (t_ways x.2.1.toNatClampNeg))), (0, .ref (ad 0)), (2, .int x.2.1)]) hx hb dX5_waysToYes_50 rfl hl (by decide) rfl (fun ls hl => ?_)
            exact B_51 _ HK_4 _ _ _ _ _ _ _ hm hP hD hS (lv_sub hl [1, 0, 2] rfl)
  unfold m_X5_waysToYes at hm
  subst hargs
  have hl := lv_entry ([.ref (ad 0)]) (n := 3) (Nat.le_of_ble_eq_true rfl)
  rw [lg_entry_eq]
  generalize (lg_sl ([.ref (ad 0)]) ++ List.replicate (3 - (lg_sl ([.ref (ad 0)])).length) Slot.unset).toArray = ls at hl ⊢
  have hl : lv_has ls 3 [(0, .ref (ad 0))] := hl
  refine lv_iconst (v := (0 : Int32)) hx hb dX5_waysToYes_0 (by decide) ?_
  refine lv_istore_n (lv' := [(1, .int (0 : Int32)), (0, .ref (ad 0))]) hx hb dX5_waysToYes_1 rfl hl (by decide) rfl (fun ls hl => ?_)
  refine lv_iconst (v := (0 : Int32)) hx hb dX5_waysToYes_2 (by decide) ?_
  refine lv_istore_n (lv' := [(2, .int (0 : Int32)), (1, .int (0 : Int32)), (0, .ref (ad 0))]) hx hb dX5_waysToYes_3 rfl hl (by decide) rfl (fun ls hl => ?_)
  exact B_4 fu _ _ _ _ hm hP hD hS (lv_sub hl [2, 1, 0] rfl)
def b_X5_depthsOfWays_4 (fu : Nat) (t : Nat → Int32) (t_ways : Nat → Int32) (k_4 : (Int32 × Int32) → Option (Int32 × Unit)) (x : Int32 × Int32) : Option (Int32 × Unit) :=
  (if (40 : Int32) < x.2 then
        some (x.1, ())
      else
        gd (inb x.2 41) (
        k_4 ((x.1 + ((t_ways x.2.toNatClampNeg) * x.2)), (x.2 + (1 : Int32)))))
def m_X5_depthsOfWays (fu : Nat) (t : Nat → Int32) (t_ways : Nat → Int32) : Option (Int32 × Unit) :=
  lfix (b_X5_depthsOfWays_4 fu t t_ways) fu ((0 : Int32), (0 : Int32))
abbrev rm_X5_depthsOfWays : Room := ({ frames := 0, cells := 0, slots := 0, locals := 0 } : Room)
abbrev w0_X5_depthsOfWays (cA : Nat → ClassId) (ad : Nat → Nat) (t : Nat → Int32) (t_ways : Nat → Int32) : va_W := [((ad 0), e_X5 ad t), ((ad 31), eI cA 41 t_ways)]
abbrev w1_X5_depthsOfWays (cA : Nat → ClassId) (ad : Nat → Nat) (t : Nat → Int32) (t_ways : Nat → Int32) (u : Unit) : va_W := [((ad 0), e_X5 ad t), ((ad 31), eI cA 41 t_ways)]
theorem hd_X5_depthsOfWays : yX5_depthsOfWays.cls = RX5 ∧ yX5_depthsOfWays.cls ≠ "java/lang/invoke/MethodHandle" ∧ yX5_depthsOfWays.cls ≠ "java/lang/invoke/VarHandle" ∧ (parseMethodDescriptor yX5_depthsOfWays.desc).map (fun d => d.parameters.length) = some 0 := by decide +kernel
set_option maxHeartbeats 40000000 in
set_option maxRecDepth 100000 in
theorem c_X5_depthsOfWays (l : Launch) (D : va_G) (cA : Nat → ClassId) (sz : Nat) (fu : Nat) (ad : Nat → Nat) (t : Nat → Int32) (t_ways : Nat → Int32) (out : Int32 × Unit) (hm : m_X5_depthsOfWays fu t t_ways = some out) : MI l yX5_depthsOfWays (wU yX5_depthsOfWays cX5_depthsOfWays 3 ((Option.some Jvm.ClassFile.FieldType.int))) rm_X5_depthsOfWays D cA sz [.ref (ad 0)] (w0_X5_depthsOfWays cA ad t t_ways) out (w1_X5_depthsOfWays cA ad t t_ways) := by
  refine Met.ofW (cc := cX5_depthsOfWays) (maxL := 3) (ret := (Option.some Jvm.ClassFile.FieldType.int)) (by decide) rfl ?_
  intro p e s m args below meth c s₁ B hml hv
  obtain ⟨hargs, hsz, hP, hK, hD0, hN⟩ := hv
  have hx := B.exec
  have hb := B.bytes
  have hr := B.returns
  have htg : ∀ w ∈ gw, w.before args s = true := fun w h => atoms_spec (ws := wU yX5_depthsOfWays cX5_depthsOfWays 3 ((Option.some Jvm.ClassFile.FieldType.int))) B.pre w (List.mem_cons_of_mem _ h)
  have hown : s.vm.findClass RX5 = some m.cls := findClass_of_methodNamed B.named
  have hlocks := B.notSynchronized
  subst hsz
  have hD := hD0.self (sz := s.heap.size)
  have hA : ∀ q : Nat, s.heap.size ≤ q → va_A (w0_X5_depthsOfWays cA ad t t_ways) s.heap.size q := fun q h => Or.inr h
  have hS : va_S (va_A (w0_X5_depthsOfWays cA ad t t_ways) s.heap.size) s.heap s.heap [] := va_S.rf
  generalize va_A (w0_X5_depthsOfWays cA ad t t_ways) s.heap.size = A at hA hD hS ⊢
  obtain ⟨Q, hQ⟩ : ∃ Q : State → Prop, Q = MQ below (va_Qi (fun (r : Int32) (u : Unit) => (r, u) = out) (pst0 D cA A (w1_X5_depthsOfWays cA ad t t_ways)) A) args s 0 0 A := ⟨_, rfl⟩
  refine (?_ : W p l e rm_X5_depthsOfWays s m args below meth c s.heap [] 0 0 (MQ below (va_Qi (fun (r : Int32) (u : Unit) => (r, u) = out) (pst0 D cA A (w1_X5_depthsOfWays cA ad t t_ways)) A) args s 0 0 A) (entryFrame m args 3))
  rw [← hQ]
  have hP : va_P D CL [((ad 0), e_X5 ad t), ((ad 31), eI cA 41 t_ways)] s.heap := hP
  have hD : va_D A [((ad 0), e_X5 ad t), ((ad 31), eI cA 41 t_ways)] := hD
  have B_4 : ∀ (n : Nat) (x : Int32 × Int32) (H : Heap) (locs : List Loc) (ls : Array Slot), lfix (b_X5_depthsOfWays_4 fu t t_ways) n x = some out → va_P D CL [((ad 0), e_X5 ad t), ((ad 31), eI cA 41 t_ways)] H → va_D A [((ad 0), e_X5 ad t), ((ad 31), eI cA 41 t_ways)] → va_S A s.heap H locs → lv_has ls 3 [(0, .ref (ad 0)), (1, .int x.1), (2, .int x.2)] → W p l e rm_X5_depthsOfWays s m args below meth c H locs 0 0 Q (F0 m 4 ls []) := by
    intro  n
    induction n with
    | zero => intro x H locs ls hm; cases (show none = some out from hm)
    | succ n HK_4 =>
      intro x H locs ls hm hP hD hS hl
      replace hm : b_X5_depthsOfWays_4 fu t t_ways (lfix (b_X5_depthsOfWays_4 fu t t_ways) n) x = some out := hm
      unfold b_X5_depthsOfWays_4 at hm
      refine lv_iload_n hx hb dX5_depthsOfWays_4 rfl (lv_at hl 2 rfl) ?_
      refine lv_bipush (v := (40 : Int32)) hx hb dX5_depthsOfWays_5 (by decide) ?_
      refine lv_icmp_gt (tgt := 27) hx hb dX5_depthsOfWays_7 (by decide) (fun c1 => ?_) (fun c1 => ?_)
      · have hm := it_t c1 hm
        refine lv_iload_n hx hb dX5_depthsOfWays_27 rfl (lv_at hl 1 rfl) ?_
        rw [hQ]
        exact W.iret (v := x.1) hx hb hr (fun t9 ht hW => ⟨⟨x.1, (), rfl, (Option.some.inj hm), by rw [ht]; exact hP, va_K.moved hW.alike hK, hD⟩, hS.F ht⟩) hS.2.2 dX5_depthsOfWays_28
      · have hm := it_f c1 hm
        refine lv_iload_n hx hb dX5_depthsOfWays_10 rfl (lv_at hl 1 rfl) ?_
        refine lv_aload_n hx hb dX5_depthsOfWays_11 rfl (lv_at hl 0 rfl) ?_
        refine va_get (D := D) (ci := 5) (v := .ref (ad 31)) (C := RX5) (T := TX5) (N := 17) hx hb htg inX5 hown hK hP 0 rfl rfl 14 (by decide) (htg _ q_1_202) (fun _ h9 => h9) rfl dX5_depthsOfWays_12 ?_
        refine lv_iload_n hx hb dX5_depthsOfWays_15 rfl (lv_at hl 2 rfl) ?_
        obtain ⟨hi2, hm⟩ := gd_s hm
        refine va_iald hx hb hK hP 1 0 rfl rfl hi2 dX5_depthsOfWays_16 ?_
        refine lv_iload_n hx hb dX5_depthsOfWays_17 rfl (lv_at hl 2 rfl) ?_
        refine lv_imul hx hb dX5_depthsOfWays_18 ?_
        refine lv_iadd hx hb dX5_depthsOfWays_19 ?_
        refine lv_istore_n (lv' := [(1, .int (x.1 + ((t_ways x.2.toNatClampNeg) * x.2))), (0, .ref (ad 0)), (2, .int x.2)]) hx hb dX5_depthsOfWays_20 rfl hl (by decide) rfl (fun ls hl => ?_)
        refine lv_iinc (v := (x.2 + (1 : Int32))) (lv' := [(2, .int (x.2 + (1 : Int32))), (1, .int (x.1 + ((t_ways x.2.toNatClampNeg) * x.2))), (0, .ref (ad 0))]) hx hb dX5_depthsOfWays_21 hl (k := 2) rfl rfl (by decide) rfl (fun ls hl => ?_)
        refine lv_goto (tgt := 4) hx hb dX5_depthsOfWays_24 (by decide) ?_
        exact HK_4 _ _ _ _ hm hP hD hS (lv_sub hl [2, 1, 0] rfl)
  unfold m_X5_depthsOfWays at hm
  subst hargs
  have hl := lv_entry ([.ref (ad 0)]) (n := 3) (Nat.le_of_ble_eq_true rfl)
  rw [lg_entry_eq]
  generalize (lg_sl ([.ref (ad 0)]) ++ List.replicate (3 - (lg_sl ([.ref (ad 0)])).length) Slot.unset).toArray = ls at hl ⊢
  have hl : lv_has ls 3 [(0, .ref (ad 0))] := hl
  refine lv_iconst (v := (0 : Int32)) hx hb dX5_depthsOfWays_0 (by decide) ?_
  refine lv_istore_n (lv' := [(1, .int (0 : Int32)), (0, .ref (ad 0))]) hx hb dX5_depthsOfWays_1 rfl hl (by decide) rfl (fun ls hl => ?_)
  refine lv_iconst (v := (0 : Int32)) hx hb dX5_depthsOfWays_2 (by decide) ?_
  refine lv_istore_n (lv' := [(2, .int (0 : Int32)), (1, .int (0 : Int32)), (0, .ref (ad 0))]) hx hb dX5_depthsOfWays_3 rfl hl (by decide) rfl (fun ls hl => ?_)
  exact B_4 fu _ _ _ _ hm hP hD hS (lv_sub hl [2, 1, 0] rfl)
def b_X5_odds_169 (fu : Nat) (t : Nat → Int32) (t_now : Nat → Int32) (t_now_kinds : Nat → Int32) (t_now_pitches : Nat → Int32) (t_shelves_holding : Nat → Int32) (t_shelves_sizes : Nat → Int32) (t_shelves_elements : Nat → Int64) (s0 : Int32) (s1 : Int32) (t_refusals : Nat → Int32) (t_trial : Nat → Int32) (t_trial_heard : Nat → Int32) (t_told : Nat → Int32) (t_told_sounds : Nat → Int32) (t_ways : Nat → Int32) (t_waysThen : Nat → Int32) : Option (Int32 × ((Nat → Int32) × (Nat → Int32) × (Nat → Int32) × (Nat → Int32) × (Nat → Int32) × (Nat → Int32) × (Nat → Int32))) :=
  some ((s0 * s1), (t_refusals, t_trial, t_trial_heard, t_told, t_told_sounds, t_ways, t_waysThen))
def b_X5_odds_120 (fu : Nat) (t : Nat → Int32) (t_now : Nat → Int32) (t_now_kinds : Nat → Int32) (t_now_pitches : Nat → Int32) (t_shelves_holding : Nat → Int32) (t_shelves_sizes : Nat → Int32) (t_shelves_elements : Nat → Int64) (k_120 : (Int32 × Int32 × Int32 × Int32 × (Nat → Int32) × (Nat → Int32) × (Nat → Int32) × (Nat → Int32) × (Nat → Int32) × (Nat → Int32) × (Nat → Int32)) → Option (Int32 × ((Nat → Int32) × (Nat → Int32) × (Nat → Int32) × (Nat → Int32) × (Nat → Int32) × (Nat → Int32) × (Nat → Int32)))) (x : Int32 × Int32 × Int32 × Int32 × (Nat → Int32) × (Nat → Int32) × (Nat → Int32) × (Nat → Int32) × (Nat → Int32) × (Nat → Int32) × (Nat → Int32)) : Option (Int32 × ((Nat → Int32) × (Nat → Int32) × (Nat → Int32) × (Nat → Int32) × (Nat → Int32) × (Nat → Int32) × (Nat → Int32))) :=
  (if x.1 ≤ x.2.2.2.1 then
        (if x.2.1 = 0 then
          (m_X5_waysToYes fu t x.2.2.2.2.2.1 x.2.2.2.2.2.2.1 x.2.2.2.2.2.2.2.1 x.2.2.2.2.2.2.2.2.1 x.2.2.2.2.2.2.2.2.2.1).bind fun o5 =>
          b_X5_odds_169 fu t t_now t_now_kinds t_now_pitches t_shelves_holding t_shelves_sizes t_shelves_elements x.2.2.1 o5.1 x.2.2.2.2.1 o5.2.1 o5.2.2 x.2.2.2.2.2.2.2.1 x.2.2.2.2.2.2.2.2.1 x.2.2.2.2.2.2.2.2.2.1 x.2.2.2.2.2.2.2.2.2.2
        else
          (m_X5_depthsOfWays fu t x.2.2.2.2.2.2.2.2.2.1).bind fun o3 =>
          b_X5_odds_169 fu t t_now t_now_kinds t_now_pitches t_shelves_holding t_shelves_sizes t_shelves_elements x.2.2.1 o3.1 x.2.2.2.2.1 x.2.2.2.2.2.1 x.2.2.2.2.2.2.1 x.2.2.2.2.2.2.2.1 x.2.2.2.2.2.2.2.2.1 x.2.2.2.2.2.2.2.2.2.1 x.2.2.2.2.2.2.2.2.2.2)
      else
        (m_X5_spreadWays fu t x.2.2.2.2.2.2.2.2.2.1 x.2.2.2.2.2.2.2.2.2.2).bind fun o7 =>
        (m_X3_passDay fu x.2.2.2.2.2.1).bind fun o9 =>
        k_120 (x.1, x.2.1, (x.2.2.1 / (10 : Int32)), (x.2.2.2.1 + (1 : Int32)), x.2.2.2.2.1, o9, x.2.2.2.2.2.2.1, x.2.2.2.2.2.2.2.1, x.2.2.2.2.2.2.2.2.1, o7.1, o7.2))
def b_X5_odds_110 (fu : Nat) (t : Nat → Int32) (t_now : Nat → Int32) (t_now_kinds : Nat → Int32) (t_now_pitches : Nat → Int32) (t_shelves_holding : Nat → Int32) (t_shelves_sizes : Nat → Int32) (t_shelves_elements : Nat → Int64) (k_80 : (Int32 × Int32 × Int32 × Int32 × (Nat → Int32) × (Nat → Int32) × (Nat → Int32) × (Nat → Int32) × (Nat → Int32) × (Nat → Int32) × (Nat → Int32)) → Option (Int32 × ((Nat → Int32) × (Nat → Int32) × (Nat → Int32) × (Nat → Int32) × (Nat → Int32) × (Nat → Int32) × (Nat → Int32)))) (l4 : Int32) (l5 : Int32) (l7 : Int32) (l8 : Int32) (s1 : Int32) (s2 : Int32) (t_refusals : Nat → Int32) (t_trial : Nat → Int32) (t_trial_heard : Nat → Int32) (t_told : Nat → Int32) (t_told_sounds : Nat → Int32) (t_ways : Nat → Int32) (t_waysThen : Nat → Int32) : Option (Int32 × ((Nat → Int32) × (Nat → Int32) × (Nat → Int32) × (Nat → Int32) × (Nat → Int32) × (Nat → Int32) × (Nat → Int32))) :=
  gd (inb s1 41) (
    k_80 (l4, l5, l7, (l8 + (1 : Int32)), t_refusals, t_trial, t_trial_heard, t_told, t_told_sounds, (upd t_ways s1.toNatClampNeg s2), t_waysThen))
def b_X5_odds_80 (fu : Nat) (t : Nat → Int32) (t_now : Nat → Int32) (t_now_kinds : Nat → Int32) (t_now_pitches : Nat → Int32) (t_shelves_holding : Nat → Int32) (t_shelves_sizes : Nat → Int32) (t_shelves_elements : Nat → Int64) (k_80 : (Int32 × Int32 × Int32 × Int32 × (Nat → Int32) × (Nat → Int32) × (Nat → Int32) × (Nat → Int32) × (Nat → Int32) × (Nat → Int32) × (Nat → Int32)) → Option (Int32 × ((Nat → Int32) × (Nat → Int32) × (Nat → Int32) × (Nat → Int32) × (Nat → Int32) × (Nat → Int32) × (Nat → Int32)))) (x : Int32 × Int32 × Int32 × Int32 × (Nat → Int32) × (Nat → Int32) × (Nat → Int32) × (Nat → Int32) × (Nat → Int32) × (Nat → Int32) × (Nat → Int32)) : Option (Int32 × ((Nat → Int32) × (Nat → Int32) × (Nat → Int32) × (Nat → Int32) × (Nat → Int32) × (Nat → Int32) × (Nat → Int32))) :=
  (if (40 : Int32) < x.2.2.2.1 then
        lfix (b_X5_odds_120 fu t t_now t_now_kinds t_now_pitches t_shelves_holding t_shelves_sizes t_shelves_elements) fu (x.1, x.2.1, x.2.2.1, (0 : Int32), x.2.2.2.2.1, x.2.2.2.2.2.1, x.2.2.2.2.2.2.1, x.2.2.2.2.2.2.2.1, x.2.2.2.2.2.2.2.2.1, x.2.2.2.2.2.2.2.2.2.1, x.2.2.2.2.2.2.2.2.2.2)
      else
        (if x.2.2.2.1 = t_now 0 then
          b_X5_odds_110 fu t t_now t_now_kinds t_now_pitches t_shelves_holding t_shelves_sizes t_shelves_elements k_80 x.1 x.2.1 x.2.2.1 x.2.2.2.1 x.2.2.2.1 (1 : Int32) x.2.2.2.2.1 x.2.2.2.2.2.1 x.2.2.2.2.2.2.1 x.2.2.2.2.2.2.2.1 x.2.2.2.2.2.2.2.2.1 x.2.2.2.2.2.2.2.2.2.1 x.2.2.2.2.2.2.2.2.2.2
        else
          b_X5_odds_110 fu t t_now t_now_kinds t_now_pitches t_shelves_holding t_shelves_sizes t_shelves_elements k_80 x.1 x.2.1 x.2.2.1 x.2.2.2.1 x.2.2.2.1 (0 : Int32) x.2.2.2.2.1 x.2.2.2.2.2.1 x.2.2.2.2.2.2.1 x.2.2.2.2.2.2.2.1 x.2.2.2.2.2.2.2.2.1 x.2.2.2.2.2.2.2.2.2.1 x.2.2.2.2.2.2.2.2.2.2))
def b_X5_odds_75 (fu : Nat) (t : Nat → Int32) (t_now : Nat → Int32) (t_now_kinds : Nat → Int32) (t_now_pitches : Nat → Int32) (t_shelves_holding : Nat → Int32) (t_shelves_sizes : Nat → Int32) (t_shelves_elements : Nat → Int64) (l4 : Int32) (l5 : Int32) (s0 : Int32) (t_refusals : Nat → Int32) (t_trial : Nat → Int32) (t_trial_heard : Nat → Int32) (t_told : Nat → Int32) (t_told_sounds : Nat → Int32) (t_ways : Nat → Int32) (t_waysThen : Nat → Int32) : Option (Int32 × ((Nat → Int32) × (Nat → Int32) × (Nat → Int32) × (Nat → Int32) × (Nat → Int32) × (Nat → Int32) × (Nat → Int32))) :=
  lfix (b_X5_odds_80 fu t t_now t_now_kinds t_now_pitches t_shelves_holding t_shelves_sizes t_shelves_elements) fu (l4, l5, s0, (0 : Int32), t_refusals, t_trial, t_trial_heard, t_told, t_told_sounds, t_ways, t_waysThen)
def b_X5_odds_36 (fu : Nat) (t : Nat → Int32) (t_now : Nat → Int32) (t_now_kinds : Nat → Int32) (t_now_pitches : Nat → Int32) (t_shelves_holding : Nat → Int32) (t_shelves_sizes : Nat → Int32) (t_shelves_elements : Nat → Int64) (l3 : Int32) (l4 : Int32) (l5 : Int32) (s1 : Int32) (s2 : Int32) (s3 : Int32) (t_refusals : Nat → Int32) (t_trial : Nat → Int32) (t_trial_heard : Nat → Int32) (t_told : Nat → Int32) (t_told_sounds : Nat → Int32) (t_ways : Nat → Int32) (t_waysThen : Nat → Int32) : Option (Int32 × ((Nat → Int32) × (Nat → Int32) × (Nat → Int32) × (Nat → Int32) × (Nat → Int32) × (Nat → Int32) × (Nat → Int32))) :=
  (m_X5_takeWord fu t t_shelves_holding t_shelves_sizes t_shelves_elements t_refusals t_told t_told_sounds s1 s2 s3).bind fun o15 =>
    (if o15.1 = 0 then
      (m_X3_standsFor fu t_trial t_now t_now_kinds t_now_pitches l3).bind fun o18 =>
      (if l5 = 0 then
        b_X5_odds_75 fu t t_now t_now_kinds t_now_pitches t_shelves_holding t_shelves_sizes t_shelves_elements l4 l5 (1000000 : Int32) o15.2.1 o18 t_trial_heard o15.2.2.1 o15.2.2.2 t_ways t_waysThen
      else
        b_X5_odds_75 fu t t_now t_now_kinds t_now_pitches t_shelves_holding t_shelves_sizes t_shelves_elements l4 l5 (1000 : Int32) o15.2.1 o18 t_trial_heard o15.2.2.1 o15.2.2.2 t_ways t_waysThen)
    else
      some (o15.1, (o15.2.1, t_trial, t_trial_heard, o15.2.2.1, o15.2.2.2, t_ways, t_waysThen)))
def b_X5_odds_35 (fu : Nat) (t : Nat → Int32) (t_now : Nat → Int32) (t_now_kinds : Nat → Int32) (t_now_pitches : Nat → Int32) (t_shelves_holding : Nat → Int32) (t_shelves_sizes : Nat → Int32) (t_shelves_elements : Nat → Int64) (l3 : Int32) (l4 : Int32) (l5 : Int32) (s1 : Int32) (s2 : Int32) (t_refusals : Nat → Int32) (t_trial : Nat → Int32) (t_trial_heard : Nat → Int32) (t_told : Nat → Int32) (t_told_sounds : Nat → Int32) (t_ways : Nat → Int32) (t_waysThen : Nat → Int32) : Option (Int32 × ((Nat → Int32) × (Nat → Int32) × (Nat → Int32) × (Nat → Int32) × (Nat → Int32) × (Nat → Int32) × (Nat → Int32))) :=
  b_X5_odds_36 fu t t_now t_now_kinds t_now_pitches t_shelves_holding t_shelves_sizes t_shelves_elements l3 l4 l5 s1 s2 (0 : Int32) t_refusals t_trial t_trial_heard t_told t_told_sounds t_ways t_waysThen
def m_X5_odds (fu : Nat) (t : Nat → Int32) (t_now : Nat → Int32) (t_now_kinds : Nat → Int32) (t_now_pitches : Nat → Int32) (t_shelves_holding : Nat → Int32) (t_shelves_sizes : Nat → Int32) (t_shelves_elements : Nat → Int64) (t_refusals : Nat → Int32) (t_trial : Nat → Int32) (t_trial_heard : Nat → Int32) (t_told : Nat → Int32) (t_told_sounds : Nat → Int32) (t_ways : Nat → Int32) (t_waysThen : Nat → Int32) (l1 : Int32) (l2 : Int32) (l3 : Int32) (l4 : Int32) (l5 : Int32) : Option (Int32 × ((Nat → Int32) × (Nat → Int32) × (Nat → Int32) × (Nat → Int32) × (Nat → Int32) × (Nat → Int32) × (Nat → Int32))) :=
  (m_X5_isVoice fu t t_now l3).bind fun o21 =>
  (if o21.1 = 0 then
    b_X5_odds_35 fu t t_now t_now_kinds t_now_pitches t_shelves_holding t_shelves_sizes t_shelves_elements l3 l4 l5 l1 l2 t_refusals t_trial t_trial_heard t_told t_told_sounds t_ways t_waysThen
  else
    (m_X5_isWithin fu l4 (0 : Int32) (3 : Int32)).bind fun o24 =>
    (if o24.1 = 0 then
      b_X5_odds_35 fu t t_now t_now_kinds t_now_pitches t_shelves_holding t_shelves_sizes t_shelves_elements l3 l4 l5 l1 l2 t_refusals t_trial t_trial_heard t_told t_told_sounds t_ways t_waysThen
    else
      (m_X5_isWithin fu l5 (0 : Int32) (1 : Int32)).bind fun o27 =>
      (if o27.1 = 0 then
        b_X5_odds_35 fu t t_now t_now_kinds t_now_pitches t_shelves_holding t_shelves_sizes t_shelves_elements l3 l4 l5 l1 l2 t_refusals t_trial t_trial_heard t_told t_told_sounds t_ways t_waysThen
      else
        b_X5_odds_36 fu t t_now t_now_kinds t_now_pitches t_shelves_holding t_shelves_sizes t_shelves_elements l3 l4 l5 l1 l2 (1 : Int32) t_refusals t_trial t_trial_heard t_told t_told_sounds t_ways t_waysThen)))
abbrev rm_X5_odds : Room := ({ frames := 6, cells := 0, slots := 0, locals := 138 } : Room)
abbrev w0_X5_odds (cA : Nat → ClassId) (ad : Nat → Nat) (t : Nat → Int32) (t_now : Nat → Int32) (t_now_kinds : Nat → Int32) (t_now_pitches : Nat → Int32) (t_shelves_holding : Nat → Int32) (t_shelves_sizes : Nat → Int32) (t_shelves_elements : Nat → Int64) (t_refusals : Nat → Int32) (t_trial : Nat → Int32) (t_trial_heard : Nat → Int32) (t_told : Nat → Int32) (t_told_sounds : Nat → Int32) (t_ways : Nat → Int32) (t_waysThen : Nat → Int32) : va_W := [((ad 0), e_X5 ad t), ((ad 1), e_X1 (ad 2) (ad 3) (ad 4) t_now), ((ad 2), eI cA 8 t_now_kinds), ((ad 4), eI cA 8 t_now_pitches), ((ad 13), e_X0 (ad 14) (ad 15) (ad 16)), ((ad 14), eI cA 8 t_shelves_holding), ((ad 15), eI cA 8 t_shelves_sizes), ((ad 16), eJ cA 320 t_shelves_elements), ((ad 19), eI cA 5 t_refusals), ((ad 20), e_X3 (ad 21) t_trial), ((ad 21), eI cA 13 t_trial_heard), ((ad 24), e_X4 (ad 25) t_told), ((ad 25), eI cA 12 t_told_sounds), ((ad 31), eI cA 41 t_ways), ((ad 32), eI cA 41 t_waysThen)]
abbrev w1_X5_odds (cA : Nat → ClassId) (ad : Nat → Nat) (t : Nat → Int32) (t_now : Nat → Int32) (t_now_kinds : Nat → Int32) (t_now_pitches : Nat → Int32) (t_shelves_holding : Nat → Int32) (t_shelves_sizes : Nat → Int32) (t_shelves_elements : Nat → Int64) (u : (Nat → Int32) × (Nat → Int32) × (Nat → Int32) × (Nat → Int32) × (Nat → Int32) × (Nat → Int32) × (Nat → Int32)) : va_W := [((ad 0), e_X5 ad t), ((ad 1), e_X1 (ad 2) (ad 3) (ad 4) t_now), ((ad 2), eI cA 8 t_now_kinds), ((ad 4), eI cA 8 t_now_pitches), ((ad 13), e_X0 (ad 14) (ad 15) (ad 16)), ((ad 14), eI cA 8 t_shelves_holding), ((ad 15), eI cA 8 t_shelves_sizes), ((ad 16), eJ cA 320 t_shelves_elements), ((ad 19), eI cA 5 u.1), ((ad 20), e_X3 (ad 21) u.2.1), ((ad 21), eI cA 13 u.2.2.1), ((ad 24), e_X4 (ad 25) u.2.2.2.1), ((ad 25), eI cA 12 u.2.2.2.2.1), ((ad 31), eI cA 41 u.2.2.2.2.2.1), ((ad 32), eI cA 41 u.2.2.2.2.2.2)]
theorem hd_X5_odds : yX5_odds.cls = RX5 ∧ yX5_odds.cls ≠ "java/lang/invoke/MethodHandle" ∧ yX5_odds.cls ≠ "java/lang/invoke/VarHandle" ∧ (parseMethodDescriptor yX5_odds.desc).map (fun d => d.parameters.length) = some 5 := by decide +kernel
set_option maxHeartbeats 40000000 in
set_option maxRecDepth 100000 in
theorem c_X5_odds (l : Launch) (D : va_G) (cA : Nat → ClassId) (sz : Nat) (fu : Nat) (ad : Nat → Nat) (t : Nat → Int32) (t_now : Nat → Int32) (t_now_kinds : Nat → Int32) (t_now_pitches : Nat → Int32) (t_shelves_holding : Nat → Int32) (t_shelves_sizes : Nat → Int32) (t_shelves_elements : Nat → Int64) (t_refusals : Nat → Int32) (t_trial : Nat → Int32) (t_trial_heard : Nat → Int32) (t_told : Nat → Int32) (t_told_sounds : Nat → Int32) (t_ways : Nat → Int32) (t_waysThen : Nat → Int32) (l1 : Int32) (l2 : Int32) (l3 : Int32) (l4 : Int32) (l5 : Int32) (out : Int32 × ((Nat → Int32) × (Nat → Int32) × (Nat → Int32) × (Nat → Int32) × (Nat → Int32) × (Nat → Int32) × (Nat → Int32))) (hm : m_X5_odds fu t t_now t_now_kinds t_now_pitches t_shelves_holding t_shelves_sizes t_shelves_elements t_refusals t_trial t_trial_heard t_told t_told_sounds t_ways t_waysThen l1 l2 l3 l4 l5 = some out) : MI l yX5_odds (wU yX5_odds cX5_odds 9 ((Option.some Jvm.ClassFile.FieldType.int))) rm_X5_odds D cA sz [.ref (ad 0), .int l1, .int l2, .int l3, .int l4, .int l5] (w0_X5_odds cA ad t t_now t_now_kinds t_now_pitches t_shelves_holding t_shelves_sizes t_shelves_elements t_refusals t_trial t_trial_heard t_told t_told_sounds t_ways t_waysThen) out (w1_X5_odds cA ad t t_now t_now_kinds t_now_pitches t_shelves_holding t_shelves_sizes t_shelves_elements) := by
  refine Met.ofW (cc := cX5_odds) (maxL := 9) (ret := (Option.some Jvm.ClassFile.FieldType.int)) (by decide) rfl ?_
  intro p e s m args below meth c s₁ B hml hv
  obtain ⟨hargs, hsz, hP, hK, hD0, hN⟩ := hv
  have hx := B.exec
  have hb := B.bytes
  have hr := B.returns
  have htg : ∀ w ∈ gw, w.before args s = true := fun w h => atoms_spec (ws := wU yX5_odds cX5_odds 9 ((Option.some Jvm.ClassFile.FieldType.int))) B.pre w (List.mem_cons_of_mem _ h)
  have hown : s.vm.findClass RX5 = some m.cls := findClass_of_methodNamed B.named
  have hlocks := B.notSynchronized
  subst hsz
  have hD := hD0.self (sz := s.heap.size)
  have hA : ∀ q : Nat, s.heap.size ≤ q → va_A (w0_X5_odds cA ad t t_now t_now_kinds t_now_pitches t_shelves_holding t_shelves_sizes t_shelves_elements t_refusals t_trial t_trial_heard t_told t_told_sounds t_ways t_waysThen) s.heap.size q := fun q h => Or.inr h
  have hS : va_S (va_A (w0_X5_odds cA ad t t_now t_now_kinds t_now_pitches t_shelves_holding t_shelves_sizes t_shelves_elements t_refusals t_trial t_trial_heard t_told t_told_sounds t_ways t_waysThen) s.heap.size) s.heap s.heap [] := va_S.rf
  generalize va_A (w0_X5_odds cA ad t t_now t_now_kinds t_now_pitches t_shelves_holding t_shelves_sizes t_shelves_elements t_refusals t_trial t_trial_heard t_told t_told_sounds t_ways t_waysThen) s.heap.size = A at hA hD hS ⊢
  obtain ⟨Q, hQ⟩ : ∃ Q : State → Prop, Q = MQ below (va_Qi (fun (r : Int32) (u : (Nat → Int32) × (Nat → Int32) × (Nat → Int32) × (Nat → Int32) × (Nat → Int32) × (Nat → Int32) × (Nat → Int32)) => (r, u) = out) (pst0 D cA A (w1_X5_odds cA ad t t_now t_now_kinds t_now_pitches t_shelves_holding t_shelves_sizes t_shelves_elements)) A) args s 0 0 A := ⟨_, rfl⟩
  refine (?_ : W p l e rm_X5_odds s m args below meth c s.heap [] 0 0 (MQ below (va_Qi (fun (r : Int32) (u : (Nat → Int32) × (Nat → Int32) × (Nat → Int32) × (Nat → Int32) × (Nat → Int32) × (Nat → Int32) × (Nat → Int32)) => (r, u) = out) (pst0 D cA A (w1_X5_odds cA ad t t_now t_now_kinds t_now_pitches t_shelves_holding t_shelves_sizes t_shelves_elements)) A) args s 0 0 A) (entryFrame m args 9))
  rw [← hQ]
  have hP : va_P D CL [((ad 0), e_X5 ad t), ((ad 1), e_X1 (ad 2) (ad 3) (ad 4) t_now), ((ad 2), eI cA 8 t_now_kinds), ((ad 4), eI cA 8 t_now_pitches), ((ad 13), e_X0 (ad 14) (ad 15) (ad 16)), ((ad 14), eI cA 8 t_shelves_holding), ((ad 15), eI cA 8 t_shelves_sizes), ((ad 16), eJ cA 320 t_shelves_elements), ((ad 19), eI cA 5 t_refusals), ((ad 20), e_X3 (ad 21) t_trial), ((ad 21), eI cA 13 t_trial_heard), ((ad 24), e_X4 (ad 25) t_told), ((ad 25), eI cA 12 t_told_sounds), ((ad 31), eI cA 41 t_ways), ((ad 32), eI cA 41 t_waysThen)] s.heap := hP
  have hD : va_D A [((ad 0), e_X5 ad t), ((ad 1), e_X1 (ad 2) (ad 3) (ad 4) t_now), ((ad 2), eI cA 8 t_now_kinds), ((ad 4), eI cA 8 t_now_pitches), ((ad 13), e_X0 (ad 14) (ad 15) (ad 16)), ((ad 14), eI cA 8 t_shelves_holding), ((ad 15), eI cA 8 t_shelves_sizes), ((ad 16), eJ cA 320 t_shelves_elements), ((ad 19), eI cA 5 t_refusals), ((ad 20), e_X3 (ad 21) t_trial), ((ad 21), eI cA 13 t_trial_heard), ((ad 24), e_X4 (ad 25) t_told), ((ad 25), eI cA 12 t_told_sounds), ((ad 31), eI cA 41 t_ways), ((ad 32), eI cA 41 t_waysThen)] := hD
  have B_169 : ∀ (s0 : Int32) (s1 : Int32) (t_refusals : Nat → Int32) (t_trial : Nat → Int32) (t_trial_heard : Nat → Int32) (t_told : Nat → Int32) (t_told_sounds : Nat → Int32) (t_ways : Nat → Int32) (t_waysThen : Nat → Int32) (H : Heap) (locs : List Loc) (ls : Array Slot), b_X5_odds_169 fu t t_now t_now_kinds t_now_pitches t_shelves_holding t_shelves_sizes t_shelves_elements s0 s1 t_refusals t_trial t_trial_heard t_told t_told_sounds t_ways t_waysThen = some out → va_P D CL [((ad 0), e_X5 ad t), ((ad 1), e_X1 (ad 2) (ad 3) (ad 4) t_now), ((ad 2), eI cA 8 t_now_kinds), ((ad 4), eI cA 8 t_now_pitches), ((ad 13), e_X0 (ad 14) (ad 15) (ad 16)), ((ad 14), eI cA 8 t_shelves_holding), ((ad 15), eI cA 8 t_shelves_sizes), ((ad 16), eJ cA 320 t_shelves_elements), ((ad 19), eI cA 5 t_refusals), ((ad 20), e_X3 (ad 21) t_trial), ((ad 21), eI cA 13 t_trial_heard), ((ad 24), e_X4 (ad 25) t_told), ((ad 25), eI cA 12 t_told_sounds), ((ad 31), eI cA 41 t_ways), ((ad 32), eI cA 41 t_waysThen)] H → va_D A [((ad 0), e_X5 ad t), ((ad 1), e_X1 (ad 2) (ad 3) (ad 4) t_now), ((ad 2), eI cA 8 t_now_kinds), ((ad 4), eI cA 8 t_now_pitches), ((ad 13), e_X0 (ad 14) (ad 15) (ad 16)), ((ad 14), eI cA 8 t_shelves_holding), ((ad 15), eI cA 8 t_shelves_sizes), ((ad 16), eJ cA 320 t_shelves_elements), ((ad 19), eI cA 5 t_refusals), ((ad 20), e_X3 (ad 21) t_trial), ((ad 21), eI cA 13 t_trial_heard), ((ad 24), e_X4 (ad 25) t_told), ((ad 25), eI cA 12 t_told_sounds), ((ad 31), eI cA 41 t_ways), ((ad 32), eI cA 41 t_waysThen)] → va_S A s.heap H locs → lv_has ls 9 [(0, .ref (ad 0))] → W p l e rm_X5_odds s m args below meth c H locs 0 0 Q (F0 m 169 ls [.int s1, .int s0]) := by
    intro  s0 s1 t_refusals t_trial t_trial_heard t_told t_told_sounds t_ways t_waysThen H locs ls hm hP hD hS hl
    unfold b_X5_odds_169 at hm
    refine lv_imul hx hb dX5_odds_169 ?_
    rw [hQ]
    exact W.iret (v := (s0 * s1)) hx hb hr (fun t9 ht hW => ⟨⟨(s0 * s1), (t_refusals, t_trial, t_trial_heard, t_told, t_told_sounds, t_ways, t_waysThen), rfl, (Option.some.inj hm), by rw [ht]; exact hP, va_K.moved hW.alike hK, hD⟩, hS.F ht⟩) hS.2.2 dX5_odds_170
  have B_120 : ∀ (n : Nat) (x : Int32 × Int32 × Int32 × Int32 × (Nat → Int32) × (Nat → Int32) × (Nat → Int32) × (Nat → Int32) × (Nat → Int32) × (Nat → Int32) × (Nat → Int32)) (H : Heap) (locs : List Loc) (ls : Array Slot), lfix (b_X5_odds_120 fu t t_now t_now_kinds t_now_pitches t_shelves_holding t_shelves_sizes t_shelves_elements) n x = some out → va_P D CL [((ad 0), e_X5 ad t), ((ad 1), e_X1 (ad 2) (ad 3) (ad 4) t_now), ((ad 2), eI cA 8 t_now_kinds), ((ad 4), eI cA 8 t_now_pitches), ((ad 13), e_X0 (ad 14) (ad 15) (ad 16)), ((ad 14), eI cA 8 t_shelves_holding), ((ad 15), eI cA 8 t_shelves_sizes), ((ad 16), eJ cA 320 t_shelves_elements), ((ad 19), eI cA 5 x.2.2.2.2.1), ((ad 20), e_X3 (ad 21) x.2.2.2.2.2.1), ((ad 21), eI cA 13 x.2.2.2.2.2.2.1), ((ad 24), e_X4 (ad 25) x.2.2.2.2.2.2.2.1), ((ad 25), eI cA 12 x.2.2.2.2.2.2.2.2.1), ((ad 31), eI cA 41 x.2.2.2.2.2.2.2.2.2.1), ((ad 32), eI cA 41 x.2.2.2.2.2.2.2.2.2.2)] H → va_D A [((ad 0), e_X5 ad t), ((ad 1), e_X1 (ad 2) (ad 3) (ad 4) t_now), ((ad 2), eI cA 8 t_now_kinds), ((ad 4), eI cA 8 t_now_pitches), ((ad 13), e_X0 (ad 14) (ad 15) (ad 16)), ((ad 14), eI cA 8 t_shelves_holding), ((ad 15), eI cA 8 t_shelves_sizes), ((ad 16), eJ cA 320 t_shelves_elements), ((ad 19), eI cA 5 x.2.2.2.2.1), ((ad 20), e_X3 (ad 21) x.2.2.2.2.2.1), ((ad 21), eI cA 13 x.2.2.2.2.2.2.1), ((ad 24), e_X4 (ad 25) x.2.2.2.2.2.2.2.1), ((ad 25), eI cA 12 x.2.2.2.2.2.2.2.2.1), ((ad 31), eI cA 41 x.2.2.2.2.2.2.2.2.2.1), ((ad 32), eI cA 41 x.2.2.2.2.2.2.2.2.2.2)] → va_S A s.heap H locs → lv_has ls 9 [(0, .ref (ad 0)), (4, .int x.1), (5, .int x.2.1), (7, .int x.2.2.1), (8, .int x.2.2.2.1)] → W p l e rm_X5_odds s m args below meth c H locs 0 0 Q (F0 m 120 ls []) := by
    intro  n
    induction n with
    | zero => intro x H locs ls hm; cases (show none = some out from hm)
    | succ n HK_120 =>
      intro x H locs ls hm hP hD hS hl
      replace hm : b_X5_odds_120 fu t t_now t_now_kinds t_now_pitches t_shelves_holding t_shelves_sizes t_shelves_elements (lfix (b_X5_odds_120 fu t t_now t_now_kinds t_now_pitches t_shelves_holding t_shelves_sizes t_shelves_elements) n) x = some out := hm
      unfold b_X5_odds_120 at hm
      refine lv_iload hx hb dX5_odds_120 (lv_at hl 4 rfl) ?_
      refine lv_iload hx hb dX5_odds_122 (lv_at hl 1 rfl) ?_
      refine lv_icmp_ge (tgt := 151) hx hb dX5_odds_124 (by decide) (fun c1 => ?_) (fun c1 => ?_)
      · have hm := it_t c1 hm
        refine lv_iload hx hb dX5_odds_151 (lv_at hl 3 rfl) ?_
        refine lv_iload hx hb dX5_odds_153 (lv_at hl 2 rfl) ?_
        refine lv_if_ne (tgt := 165) hx hb dX5_odds_155 (by decide) (fun c2 => ?_) (fun c2 => ?_)
        · have hm := it_f c2 hm
          refine lv_aload_n hx hb dX5_odds_165 rfl (lv_at hl 0 rfl) ?_
          obtain ⟨o3, ho4, hm⟩ := bd_s hm
          refine xr_i (wr := [((ad 1), e_X1 (ad 2) (ad 3) (ad 4) t_now), ((ad 2), eI cA 8 t_now_kinds), ((ad 4), eI cA 8 t_now_pitches), ((ad 13), e_X0 (ad 14) (ad 15) (ad 16)), ((ad 14), eI cA 8 t_shelves_holding), ((ad 15), eI cA 8 t_shelves_sizes), ((ad 16), eJ cA 320 t_shelves_elements), ((ad 19), eI cA 5 x.2.2.2.2.1), ((ad 20), e_X3 (ad 21) x.2.2.2.2.2.1), ((ad 21), eI cA 13 x.2.2.2.2.2.2.1), ((ad 24), e_X4 (ad 25) x.2.2.2.2.2.2.2.1), ((ad 25), eI cA 12 x.2.2.2.2.2.2.2.2.1), ((ad 32), eI cA 41 x.2.2.2.2.2.2.2.2.2.2)]) (wn := [((ad 0), e_X5 ad t), ((ad 1), e_X1 (ad 2) (ad 3) (ad 4) t_now), ((ad 2), eI cA 8 t_now_kinds), ((ad 4), eI cA 8 t_now_pitches), ((ad 13), e_X0 (ad 14) (ad 15) (ad 16)), ((ad 14), eI cA 8 t_shelves_holding), ((ad 15), eI cA 8 t_shelves_sizes), ((ad 16), eJ cA 320 t_shelves_elements), ((ad 19), eI cA 5 x.2.2.2.2.1), ((ad 20), e_X3 (ad 21) x.2.2.2.2.2.1), ((ad 21), eI cA 13 x.2.2.2.2.2.2.1), ((ad 24), e_X4 (ad 25) x.2.2.2.2.2.2.2.1), ((ad 25), eI cA 12 x.2.2.2.2.2.2.2.2.1), ((ad 31), eI cA 41 x.2.2.2.2.2.2.2.2.2.1), ((ad 32), eI cA 41 x.2.2.2.2.2.2.2.2.2.2)]) (va_runV (As := []) (rest := [.int x.2.2.1]) ⟨hx, hb, hml, hown, htg⟩ (c_X5_depthsOfWays l D cA _ fu ad t x.2.2.2.2.2.2.2.2.2.1 o3 ho4) (cwV 0 htg (gV q_4_23 q_4_25 q_p4_6 q_1_1 q_4_26) rfl rfl rfl hd_X5_depthsOfWays ⟨Nat.le_of_ble_eq_true rfl, Nat.le_of_ble_eq_true rfl⟩) (xpV hN hK hP hD [0, 13] rfl (by decide) rfl rfl) rfl rfl hl.1 rfl (lv_room (Nat.le_of_ble_eq_true rfl)) dX5_odds_166 ⟨Nat.zero_le _, Nat.zero_le _⟩) hP hD hS hA [0, 13] [1, 2, 3, 4, 5, 6, 7, 8, 9, 10, 11, 12, 14] [13, 0, 1, 2, 3, 4, 5, 6, 7, 8, 9, 10, 11, 14, 12] rfl rfl (by decide) (by decide) rfl (by decide) (fun H locs hP hD hS => ?_)
          exact B_169 _ _ _ _ _ _ _ _ _ _ _ _ hm hP hD hS (lv_sub hl [0] rfl)
        · have hm := it_t c2 hm
          refine lv_aload_n hx hb dX5_odds_158 rfl (lv_at hl 0 rfl) ?_
          obtain ⟨o5, ho6, hm⟩ := bd_s hm
          refine xr_i (wr := [((ad 1), e_X1 (ad 2) (ad 3) (ad 4) t_now), ((ad 2), eI cA 8 t_now_kinds), ((ad 4), eI cA 8 t_now_pitches), ((ad 13), e_X0 (ad 14) (ad 15) (ad 16)), ((ad 14), eI cA 8 t_shelves_holding), ((ad 15), eI cA 8 t_shelves_sizes), ((ad 16), eJ cA 320 t_shelves_elements), ((ad 19), eI cA 5 x.2.2.2.2.1), ((ad 32), eI cA 41 x.2.2.2.2.2.2.2.2.2.2)]) (wn := [((ad 0), e_X5 ad t), ((ad 1), e_X1 (ad 2) (ad 3) (ad 4) t_now), ((ad 2), eI cA 8 t_now_kinds), ((ad 4), eI cA 8 t_now_pitches), ((ad 13), e_X0 (ad 14) (ad 15) (ad 16)), ((ad 14), eI cA 8 t_shelves_holding), ((ad 15), eI cA 8 t_shelves_sizes), ((ad 16), eJ cA 320 t_shelves_elements), ((ad 19), eI cA 5 x.2.2.2.2.1), ((ad 20), e_X3 (ad 21) o5.2.1), ((ad 21), eI cA 13 o5.2.2), ((ad 24), e_X4 (ad 25) x.2.2.2.2.2.2.2.1), ((ad 25), eI cA 12 x.2.2.2.2.2.2.2.2.1), ((ad 31), eI cA 41 x.2.2.2.2.2.2.2.2.2.1), ((ad 32), eI cA 41 x.2.2.2.2.2.2.2.2.2.2)]) (va_runV (As := []) (rest := [.int x.2.2.1]) ⟨hx, hb, hml, hown, htg⟩ (c_X5_waysToYes l D cA _ fu ad t x.2.2.2.2.2.1 x.2.2.2.2.2.2.1 x.2.2.2.2.2.2.2.1 x.2.2.2.2.2.2.2.2.1 x.2.2.2.2.2.2.2.2.2.1 o5 ho6) (cwV 0 htg (gV q_4_19 q_4_21 q_p4_5 q_1_1 q_4_22) rfl rfl rfl hd_X5_waysToYes ⟨Nat.le_of_ble_eq_true rfl, Nat.le_of_ble_eq_true rfl⟩) (xpV hN hK hP hD [0, 9, 10, 11, 12, 13] rfl (by decide) rfl rfl) rfl rfl hl.1 rfl (lv_room (Nat.le_of_ble_eq_true rfl)) dX5_odds_159 ⟨Nat.zero_le _, Nat.zero_le _⟩) hP hD hS hA [0, 9, 10, 11, 12, 13] [1, 2, 3, 4, 5, 6, 7, 8, 14] [9, 0, 1, 2, 3, 4, 5, 6, 7, 10, 11, 12, 13, 14, 8] rfl rfl (by decide) (by decide) rfl (by decide) (fun H locs hP hD hS => ?_)
          refine lv_goto (tgt := 169) hx hb dX5_odds_162 (by decide) ?_
          exact B_169 _ _ _ _ _ _ _ _ _ _ _ _ hm hP hD hS (lv_sub hl [0] rfl)
      · have hm := it_f c1 hm
        refine lv_aload_n hx hb dX5_odds_127 rfl (lv_at hl 0 rfl) ?_
        obtain ⟨o7, ho8, hm⟩ := bd_s hm
        refine xr_v (wr := [((ad 1), e_X1 (ad 2) (ad 3) (ad 4) t_now), ((ad 2), eI cA 8 t_now_kinds), ((ad 4), eI cA 8 t_now_pitches), ((ad 13), e_X0 (ad 14) (ad 15) (ad 16)), ((ad 14), eI cA 8 t_shelves_holding), ((ad 15), eI cA 8 t_shelves_sizes), ((ad 16), eJ cA 320 t_shelves_elements), ((ad 19), eI cA 5 x.2.2.2.2.1), ((ad 20), e_X3 (ad 21) x.2.2.2.2.2.1), ((ad 21), eI cA 13 x.2.2.2.2.2.2.1), ((ad 24), e_X4 (ad 25) x.2.2.2.2.2.2.2.1), ((ad 25), eI cA 12 x.2.2.2.2.2.2.2.2.1)]) (wn := [((ad 0), e_X5 ad t), ((ad 1), e_X1 (ad 2) (ad 3) (ad 4) t_now), ((ad 2), eI cA 8 t_now_kinds), ((ad 4), eI cA 8 t_now_pitches), ((ad 13), e_X0 (ad 14) (ad 15) (ad 16)), ((ad 14), eI cA 8 t_shelves_holding), ((ad 15), eI cA 8 t_shelves_sizes), ((ad 16), eJ cA 320 t_shelves_elements), ((ad 19), eI cA 5 x.2.2.2.2.1), ((ad 20), e_X3 (ad 21) x.2.2.2.2.2.1), ((ad 21), eI cA 13 x.2.2.2.2.2.2.1), ((ad 24), e_X4 (ad 25) x.2.2.2.2.2.2.2.1), ((ad 25), eI cA 12 x.2.2.2.2.2.2.2.2.1), ((ad 31), eI cA 41 o7.1), ((ad 32), eI cA 41 o7.2)]) (va_runV (As := []) (rest := []) ⟨hx, hb, hml, hown, htg⟩ (c_X5_spreadWays l D cA _ fu ad t x.2.2.2.2.2.2.2.2.2.1 x.2.2.2.2.2.2.2.2.2.2 o7 ho8) (cwV 0 htg (gV q_4_12 q_4_14 q_p4_4 q_1_1 q_4_15) rfl rfl rfl hd_X5_spreadWays ⟨Nat.le_of_ble_eq_true rfl, Nat.le_of_ble_eq_true rfl⟩) (xpV hN hK hP hD [0, 13, 14] rfl (by decide) rfl rfl) rfl rfl hl.1 rfl (lv_room (Nat.le_of_ble_eq_true rfl)) dX5_odds_128 ⟨Nat.zero_le _, Nat.zero_le _⟩) hP hD hS hA [0, 13, 14] [1, 2, 3, 4, 5, 6, 7, 8, 9, 10, 11, 12] [12, 0, 1, 2, 3, 4, 5, 6, 7, 8, 9, 10, 11, 13, 14] rfl rfl (by decide) (by decide) rfl (by decide) (fun H locs hP hD hS => ?_)
        refine lv_aload_n hx hb dX5_odds_131 rfl (lv_at hl 0 rfl) ?_
        refine va_get (D := D) (ci := 5) (v := .ref (ad 20)) (C := RX5) (T := TX5) (N := 17) hx hb htg inX5 hown hK hP 0 rfl rfl 7 (by decide) (htg _ q_1_195) (fun _ h9 => h9) rfl dX5_odds_132 ?_
        obtain ⟨o9, ho10, hm⟩ := bd_s hm
        refine xr_v (wr := [((ad 0), e_X5 ad t), ((ad 1), e_X1 (ad 2) (ad 3) (ad 4) t_now), ((ad 2), eI cA 8 t_now_kinds), ((ad 4), eI cA 8 t_now_pitches), ((ad 13), e_X0 (ad 14) (ad 15) (ad 16)), ((ad 14), eI cA 8 t_shelves_holding), ((ad 15), eI cA 8 t_shelves_sizes), ((ad 16), eJ cA 320 t_shelves_elements), ((ad 19), eI cA 5 x.2.2.2.2.1), ((ad 21), eI cA 13 x.2.2.2.2.2.2.1), ((ad 24), e_X4 (ad 25) x.2.2.2.2.2.2.2.1), ((ad 25), eI cA 12 x.2.2.2.2.2.2.2.2.1), ((ad 31), eI cA 41 o7.1), ((ad 32), eI cA 41 o7.2)]) (wn := [((ad 0), e_X5 ad t), ((ad 1), e_X1 (ad 2) (ad 3) (ad 4) t_now), ((ad 2), eI cA 8 t_now_kinds), ((ad 4), eI cA 8 t_now_pitches), ((ad 13), e_X0 (ad 14) (ad 15) (ad 16)), ((ad 14), eI cA 8 t_shelves_holding), ((ad 15), eI cA 8 t_shelves_sizes), ((ad 16), eJ cA 320 t_shelves_elements), ((ad 19), eI cA 5 x.2.2.2.2.1), ((ad 20), e_X3 (ad 21) o9), ((ad 21), eI cA 13 x.2.2.2.2.2.2.1), ((ad 24), e_X4 (ad 25) x.2.2.2.2.2.2.2.1), ((ad 25), eI cA 12 x.2.2.2.2.2.2.2.2.1), ((ad 31), eI cA 41 o7.1), ((ad 32), eI cA 41 o7.2)]) (va_runVN (As := []) (rest := []) ⟨hx, hb, hml, hown, htg⟩ (c_X3_passDay l D cA _ fu (ad 20) (ad 21) x.2.2.2.2.2.1 o9 ho10) ⟨va_cnB 0 htg (gU q_3_151) rfl rfl rfl (hN _ q_3_148) (htg _ q_1_6) hd_X3_passDay.2 ⟨Nat.le_of_ble_eq_true rfl, Nat.le_of_ble_eq_true rfl⟩, htg _ q_3_150, htg _ q_p3_14⟩ (xpV hN hK hP hD [9] rfl (by decide) rfl rfl) rfl rfl hl.1 rfl (lv_room (Nat.le_of_ble_eq_true rfl)) dX5_odds_135 ⟨Nat.zero_le _, Nat.zero_le _⟩) hP hD hS hA [9] [0, 1, 2, 3, 4, 5, 6, 7, 8, 10, 11, 12, 13, 14] [0, 1, 2, 3, 4, 5, 6, 7, 8, 14, 9, 10, 11, 12, 13] rfl rfl (by decide) (by decide) rfl (by decide) (fun H locs hP hD hS => ?_)
        refine lv_iload hx hb dX5_odds_138 (lv_at hl 3 rfl) ?_
        refine lv_bipush (v := (10 : Int32)) hx hb dX5_odds_140 (by decide) ?_
        refine lv_idiv hx hb dX5_odds_142 (by decide) ?_
        refine lv_istore (lv' := [(7, .int (x.2.2.1 / (10 : Int32))), (0, .ref (ad 0)), (4, .int x.1), (5, .int x.2.1), (8, .int x.2.2.2.1)]) hx hb dX5_odds_143 hl (by decide) rfl (fun ls hl => ?_)
        refine lv_iinc (v := (x.2.2.2.1 + (1 : Int32))) (lv' := [(8, .int (x.2.2.2.1 + (1 : Int32))), (7, .int (x.2.2.1 / (10 : Int32))), (0, .ref (ad 0)), (4, .int x.1), (5, .int x.2.1)]) hx hb dX5_odds_145 hl (k := 4) rfl rfl (by decide) rfl (fun ls hl => ?_)
        refine lv_goto (tgt := 120) hx hb dX5_odds_148 (by decide) ?_
        exact HK_120 _ _ _ _ hm hP hD hS (lv_sub hl [2, 3, 4, 1, 0] rfl)
  have B_110 : ∀ (k_80 : (Int32 × Int32 × Int32 × Int32 × (Nat → Int32) × (Nat → Int32) × (Nat → Int32) × (Nat → Int32) × (Nat → Int32) × (Nat → Int32) × (Nat → Int32)) → Option (Int32 × ((Nat → Int32) × (Nat → Int32) × (Nat → Int32) × (Nat → Int32) × (Nat → Int32) × (Nat → Int32) × (Nat → Int32)))) (HK_80 : ∀ (x : Int32 × Int32 × Int32 × Int32 × (Nat → Int32) × (Nat → Int32) × (Nat → Int32) × (Nat → Int32) × (Nat → Int32) × (Nat → Int32) × (Nat → Int32)) (H : Heap) (locs : List Loc) (ls : Array Slot), k_80 x = some out → va_P D CL [((ad 0), e_X5 ad t), ((ad 1), e_X1 (ad 2) (ad 3) (ad 4) t_now), ((ad 2), eI cA 8 t_now_kinds), ((ad 4), eI cA 8 t_now_pitches), ((ad 13), e_X0 (ad 14) (ad 15) (ad 16)), ((ad 14), eI cA 8 t_shelves_holding), ((ad 15), eI cA 8 t_shelves_sizes), ((ad 16), eJ cA 320 t_shelves_elements), ((ad 19), eI cA 5 x.2.2.2.2.1), ((ad 20), e_X3 (ad 21) x.2.2.2.2.2.1), ((ad 21), eI cA 13 x.2.2.2.2.2.2.1), ((ad 24), e_X4 (ad 25) x.2.2.2.2.2.2.2.1), ((ad 25), eI cA 12 x.2.2.2.2.2.2.2.2.1), ((ad 31), eI cA 41 x.2.2.2.2.2.2.2.2.2.1), ((ad 32), eI cA 41 x.2.2.2.2.2.2.2.2.2.2)] H → va_D A [((ad 0), e_X5 ad t), ((ad 1), e_X1 (ad 2) (ad 3) (ad 4) t_now), ((ad 2), eI cA 8 t_now_kinds), ((ad 4), eI cA 8 t_now_pitches), ((ad 13), e_X0 (ad 14) (ad 15) (ad 16)), ((ad 14), eI cA 8 t_shelves_holding), ((ad 15), eI cA 8 t_shelves_sizes), ((ad 16), eJ cA 320 t_shelves_elements), ((ad 19), eI cA 5 x.2.2.2.2.1), ((ad 20), e_X3 (ad 21) x.2.2.2.2.2.1), ((ad 21), eI cA 13 x.2.2.2.2.2.2.1), ((ad 24), e_X4 (ad 25) x.2.2.2.2.2.2.2.1), ((ad 25), eI cA 12 x.2.2.2.2.2.2.2.2.1), ((ad 31), eI cA 41 x.2.2.2.2.2.2.2.2.2.1), ((ad 32), eI cA 41 x.2.2.2.2.2.2.2.2.2.2)] → va_S A s.heap H locs → lv_has ls 9 [(0, .ref (ad 0)), (4, .int x.1), (5, .int x.2.1), (7, .int x.2.2.1), (8, .int x.2.2.2.1)] → W p l e rm_X5_odds s m args below meth c H locs 0 0 Q (F0 m 80 ls [])) (l4 : Int32) (l5 : Int32) (l7 : Int32) (l8 : Int32) (s1 : Int32) (s2 : Int32) (t_refusals : Nat → Int32) (t_trial : Nat → Int32) (t_trial_heard : Nat → Int32) (t_told : Nat → Int32) (t_told_sounds : Nat → Int32) (t_ways : Nat → Int32) (t_waysThen : Nat → Int32) (H : Heap) (locs : List Loc) (ls : Array Slot), b_X5_odds_110 fu t t_now t_now_kinds t_now_pitches t_shelves_holding t_shelves_sizes t_shelves_elements k_80 l4 l5 l7 l8 s1 s2 t_refusals t_trial t_trial_heard t_told t_told_sounds t_ways t_waysThen = some out → va_P D CL [((ad 0), e_X5 ad t), ((ad 1), e_X1 (ad 2) (ad 3) (ad 4) t_now), ((ad 2), eI cA 8 t_now_kinds), ((ad 4), eI cA 8 t_now_pitches), ((ad 13), e_X0 (ad 14) (ad 15) (ad 16)), ((ad 14), eI cA 8 t_shelves_holding), ((ad 15), eI cA 8 t_shelves_sizes), ((ad 16), eJ cA 320 t_shelves_elements), ((ad 19), eI cA 5 t_refusals), ((ad 20), e_X3 (ad 21) t_trial), ((ad 21), eI cA 13 t_trial_heard), ((ad 24), e_X4 (ad 25) t_told), ((ad 25), eI cA 12 t_told_sounds), ((ad 31), eI cA 41 t_ways), ((ad 32), eI cA 41 t_waysThen)] H → va_D A [((ad 0), e_X5 ad t), ((ad 1), e_X1 (ad 2) (ad 3) (ad 4) t_now), ((ad 2), eI cA 8 t_now_kinds), ((ad 4), eI cA 8 t_now_pitches), ((ad 13), e_X0 (ad 14) (ad 15) (ad 16)), ((ad 14), eI cA 8 t_shelves_holding), ((ad 15), eI cA 8 t_shelves_sizes), ((ad 16), eJ cA 320 t_shelves_elements), ((ad 19), eI cA 5 t_refusals), ((ad 20), e_X3 (ad 21) t_trial), ((ad 21), eI cA 13 t_trial_heard), ((ad 24), e_X4 (ad 25) t_told), ((ad 25), eI cA 12 t_told_sounds), ((ad 31), eI cA 41 t_ways), ((ad 32), eI cA 41 t_waysThen)] → va_S A s.heap H locs → lv_has ls 9 [(0, .ref (ad 0)), (4, .int l4), (5, .int l5), (7, .int l7), (8, .int l8)] → W p l e rm_X5_odds s m args below meth c H locs 0 0 Q (F0 m 110 ls [.int s2, .int s1, .ref (ad 31)]) := by
    intro k_80 HK_80 l4 l5 l7 l8 s1 s2 t_refusals t_trial t_trial_heard t_told t_told_sounds t_ways t_waysThen H locs ls hm hP hD hS hl
    unfold b_X5_odds_110 at hm
    obtain ⟨hi12, hm⟩ := gd_s hm
    refine va_iast hx hb hK hP hD hS 13 0 rfl rfl hi12 dX5_odds_110 (fun H locs (hP : va_P D CL [((ad 0), e_X5 ad t), ((ad 1), e_X1 (ad 2) (ad 3) (ad 4) t_now), ((ad 2), eI cA 8 t_now_kinds), ((ad 4), eI cA 8 t_now_pitches), ((ad 13), e_X0 (ad 14) (ad 15) (ad 16)), ((ad 14), eI cA 8 t_shelves_holding), ((ad 15), eI cA 8 t_shelves_sizes), ((ad 16), eJ cA 320 t_shelves_elements), ((ad 19), eI cA 5 t_refusals), ((ad 20), e_X3 (ad 21) t_trial), ((ad 21), eI cA 13 t_trial_heard), ((ad 24), e_X4 (ad 25) t_told), ((ad 25), eI cA 12 t_told_sounds), ((ad 31), eI cA 41 (upd t_ways s1.toNatClampNeg s2)), ((ad 32), eI cA 41 t_waysThen)] H) (hD : va_D A [((ad 0), e_X5 ad t), ((ad 1), e_X1 (ad 2) (ad 3) (ad 4) t_now), ((ad 2), eI cA 8 t_now_kinds), ((ad 4), eI cA 8 t_now_pitches), ((ad 13), e_X0 (ad 14) (ad 15) (ad 16)), ((ad 14), eI cA 8 t_shelves_holding), ((ad 15), eI cA 8 t_shelves_sizes), ((ad 16), eJ cA 320 t_shelves_elements), ((ad 19), eI cA 5 t_refusals), ((ad 20), e_X3 (ad 21) t_trial), ((ad 21), eI cA 13 t_trial_heard), ((ad 24), e_X4 (ad 25) t_told), ((ad 25), eI cA 12 t_told_sounds), ((ad 31), eI cA 41 (upd t_ways s1.toNatClampNeg s2)), ((ad 32), eI cA 41 t_waysThen)]) hS => ?_)
    refine lv_iinc (v := (l8 + (1 : Int32))) (lv' := [(8, .int (l8 + (1 : Int32))), (0, .ref (ad 0)), (4, .int l4), (5, .int l5), (7, .int l7)]) hx hb dX5_odds_111 hl (k := 4) rfl rfl (by decide) rfl (fun ls hl => ?_)
    refine lv_goto (tgt := 80) hx hb dX5_odds_114 (by decide) ?_
    exact HK_80 _ _ _ _ hm hP hD hS (lv_sub hl [1, 2, 3, 4, 0] rfl)
  have B_80 : ∀ (n : Nat) (x : Int32 × Int32 × Int32 × Int32 × (Nat → Int32) × (Nat → Int32) × (Nat → Int32) × (Nat → Int32) × (Nat → Int32) × (Nat → Int32) × (Nat → Int32)) (H : Heap) (locs : List Loc) (ls : Array Slot), lfix (b_X5_odds_80 fu t t_now t_now_kinds t_now_pitches t_shelves_holding t_shelves_sizes t_shelves_elements) n x = some out → va_P D CL [((ad 0), e_X5 ad t), ((ad 1), e_X1 (ad 2) (ad 3) (ad 4) t_now), ((ad 2), eI cA 8 t_now_kinds), ((ad 4), eI cA 8 t_now_pitches), ((ad 13), e_X0 (ad 14) (ad 15) (ad 16)), ((ad 14), eI cA 8 t_shelves_holding), ((ad 15), eI cA 8 t_shelves_sizes), ((ad 16), eJ cA 320 t_shelves_elements), ((ad 19), eI cA 5 x.2.2.2.2.1), ((ad 20), e_X3 (ad 21) x.2.2.2.2.2.1), ((ad 21), eI cA 13 x.2.2.2.2.2.2.1), ((ad 24), e_X4 (ad 25) x.2.2.2.2.2.2.2.1), ((ad 25), eI cA 12 x.2.2.2.2.2.2.2.2.1), ((ad 31), eI cA 41 x.2.2.2.2.2.2.2.2.2.1), ((ad 32), eI cA 41 x.2.2.2.2.2.2.2.2.2.2)] H → va_D A [((ad 0), e_X5 ad t), ((ad 1), e_X1 (ad 2) (ad 3) (ad 4) t_now), ((ad 2), eI cA 8 t_now_kinds), ((ad 4), eI cA 8 t_now_pitches), ((ad 13), e_X0 (ad 14) (ad 15) (ad 16)), ((ad 14), eI cA 8 t_shelves_holding), ((ad 15), eI cA 8 t_shelves_sizes), ((ad 16), eJ cA 320 t_shelves_elements), ((ad 19), eI cA 5 x.2.2.2.2.1), ((ad 20), e_X3 (ad 21) x.2.2.2.2.2.1), ((ad 21), eI cA 13 x.2.2.2.2.2.2.1), ((ad 24), e_X4 (ad 25) x.2.2.2.2.2.2.2.1), ((ad 25), eI cA 12 x.2.2.2.2.2.2.2.2.1), ((ad 31), eI cA 41 x.2.2.2.2.2.2.2.2.2.1), ((ad 32), eI cA 41 x.2.2.2.2.2.2.2.2.2.2)] → va_S A s.heap H locs → lv_has ls 9 [(0, .ref (ad 0)), (4, .int x.1), (5, .int x.2.1), (7, .int x.2.2.1), (8, .int x.2.2.2.1)] → W p l e rm_X5_odds s m args below meth c H locs 0 0 Q (F0 m 80 ls []) := by
    intro  n
    induction n with
    | zero => intro x H locs ls hm; cases (show none = some out from hm)
    | succ n HK_80 =>
      intro x H locs ls hm hP hD hS hl
      replace hm : b_X5_odds_80 fu t t_now t_now_kinds t_now_pitches t_shelves_holding t_shelves_sizes t_shelves_elements (lfix (b_X5_odds_80 fu t t_now t_now_kinds t_now_pitches t_shelves_holding t_shelves_sizes t_shelves_elements) n) x = some out := hm
      unfold b_X5_odds_80 at hm
      refine lv_iload hx hb dX5_odds_80 (lv_at hl 4 rfl) ?_
      refine lv_bipush (v := (40 : Int32)) hx hb dX5_odds_82 (by decide) ?_
      refine lv_icmp_gt (tgt := 117) hx hb dX5_odds_84 (by decide) (fun c13 => ?_) (fun c13 => ?_)
      · have hm := it_t c13 hm
        refine lv_iconst (v := (0 : Int32)) hx hb dX5_odds_117 (by decide) ?_
        refine lv_istore (lv' := [(8, .int (0 : Int32)), (0, .ref (ad 0)), (4, .int x.1), (5, .int x.2.1), (7, .int x.2.2.1)]) hx hb dX5_odds_118 hl (by decide) rfl (fun ls hl => ?_)
        exact B_120 fu _ _ _ _ hm hP hD hS (lv_sub hl [1, 2, 3, 4, 0] rfl)
      · have hm := it_f c13 hm
        refine lv_aload_n hx hb dX5_odds_87 rfl (lv_at hl 0 rfl) ?_
        refine va_get (D := D) (ci := 5) (v := .ref (ad 31)) (C := RX5) (T := TX5) (N := 17) hx hb htg inX5 hown hK hP 0 rfl rfl 14 (by decide) (htg _ q_1_202) (fun _ h9 => h9) rfl dX5_odds_88 ?_
        refine lv_iload hx hb dX5_odds_91 (lv_at hl 4 rfl) ?_
        refine lv_iload hx hb dX5_odds_93 (lv_at hl 4 rfl) ?_
        refine lv_aload_n hx hb dX5_odds_95 rfl (lv_at hl 0 rfl) ?_
        refine va_get (D := D) (ci := 5) (v := .ref (ad 1)) (C := RX5) (T := TX5) (N := 17) hx hb htg inX5 hown hK hP 0 rfl rfl 0 (by decide) (htg _ q_1_188) (fun _ h9 => h9) rfl dX5_odds_96 ?_
        refine va_getN (D := D) (ci := 1) (v := .int (t_now 0)) (C := RX1) (T := TX1) (N := 12) hx hb htg inX1 hown hK hP 1 rfl rfl 0 (by decide) (va_Nw.use rfl (hN _ q_1_34)) (fun _ h9 => h9) rfl dX5_odds_99 ?_
        refine lv_icmp_ne (tgt := 109) hx hb dX5_odds_102 (by decide) (fun c14 => ?_) (fun c14 => ?_)
        · have hm := it_f c14 hm
          refine lv_iconst (v := (0 : Int32)) hx hb dX5_odds_109 (by decide) ?_
          exact B_110 _ HK_80 _ _ _ _ _ _ _ _ _ _ _ _ _ _ _ _ hm hP hD hS (lv_sub hl [0, 1, 2, 3, 4] rfl)
        · have hm := it_t c14 hm
          refine lv_iconst (v := (1 : Int32)) hx hb dX5_odds_105 (by decide) ?_
          refine lv_goto (tgt := 110) hx hb dX5_odds_106 (by decide) ?_
          exact B_110 _ HK_80 _ _ _ _ _ _ _ _ _ _ _ _ _ _ _ _ hm hP hD hS (lv_sub hl [0, 1, 2, 3, 4] rfl)
  have B_75 : ∀ (l4 : Int32) (l5 : Int32) (s0 : Int32) (t_refusals : Nat → Int32) (t_trial : Nat → Int32) (t_trial_heard : Nat → Int32) (t_told : Nat → Int32) (t_told_sounds : Nat → Int32) (t_ways : Nat → Int32) (t_waysThen : Nat → Int32) (H : Heap) (locs : List Loc) (ls : Array Slot), b_X5_odds_75 fu t t_now t_now_kinds t_now_pitches t_shelves_holding t_shelves_sizes t_shelves_elements l4 l5 s0 t_refusals t_trial t_trial_heard t_told t_told_sounds t_ways t_waysThen = some out → va_P D CL [((ad 0), e_X5 ad t), ((ad 1), e_X1 (ad 2) (ad 3) (ad 4) t_now), ((ad 2), eI cA 8 t_now_kinds), ((ad 4), eI cA 8 t_now_pitches), ((ad 13), e_X0 (ad 14) (ad 15) (ad 16)), ((ad 14), eI cA 8 t_shelves_holding), ((ad 15), eI cA 8 t_shelves_sizes), ((ad 16), eJ cA 320 t_shelves_elements), ((ad 19), eI cA 5 t_refusals), ((ad 20), e_X3 (ad 21) t_trial), ((ad 21), eI cA 13 t_trial_heard), ((ad 24), e_X4 (ad 25) t_told), ((ad 25), eI cA 12 t_told_sounds), ((ad 31), eI cA 41 t_ways), ((ad 32), eI cA 41 t_waysThen)] H → va_D A [((ad 0), e_X5 ad t), ((ad 1), e_X1 (ad 2) (ad 3) (ad 4) t_now), ((ad 2), eI cA 8 t_now_kinds), ((ad 4), eI cA 8 t_now_pitches), ((ad 13), e_X0 (ad 14) (ad 15) (ad 16)), ((ad 14), eI cA 8 t_shelves_holding), ((ad 15), eI cA 8 t_shelves_sizes), ((ad 16), eJ cA 320 t_shelves_elements), ((ad 19), eI cA 5 t_refusals), ((ad 20), e_X3 (ad 21) t_trial), ((ad 21), eI cA 13 t_trial_heard), ((ad 24), e_X4 (ad 25) t_told), ((ad 25), eI cA 12 t_told_sounds), ((ad 31), eI cA 41 t_ways), ((ad 32), eI cA 41 t_waysThen)] → va_S A s.heap H locs → lv_has ls 9 [(0, .ref (ad 0)), (4, .int l4), (5, .int l5)] → W p l e rm_X5_odds s m args below meth c H locs 0 0 Q (F0 m 75 ls [.int s0]) := by
    intro  l4 l5 s0 t_refusals t_trial t_trial_heard t_told t_told_sounds t_ways t_waysThen H locs ls hm hP hD hS hl
    unfold b_X5_odds_75 at hm
    refine lv_istore (lv' := [(7, .int s0), (0, .ref (ad 0)), (4, .int l4), (5, .int l5)]) hx hb dX5_odds_75 hl (by decide) rfl (fun ls hl => ?_)
    refine lv_iconst (v := (0 : Int32)) hx hb dX5_odds_77 (by decide) ?_
    refine lv_istore (lv' := [(8, .int (0 : Int32)), (7, .int s0), (0, .ref (ad 0)), (4, .int l4), (5, .int l5)]) hx hb dX5_odds_78 hl (by decide) rfl (fun ls hl => ?_)
    exact B_80 fu _ _ _ _ hm hP hD hS (lv_sub hl [2, 3, 4, 1, 0] rfl)
  have B_36 : ∀ (l3 : Int32) (l4 : Int32) (l5 : Int32) (s1 : Int32) (s2 : Int32) (s3 : Int32) (t_refusals : Nat → Int32) (t_trial : Nat → Int32) (t_trial_heard : Nat → Int32) (t_told : Nat → Int32) (t_told_sounds : Nat → Int32) (t_ways : Nat → Int32) (t_waysThen : Nat → Int32) (H : Heap) (locs : List Loc) (ls : Array Slot), b_X5_odds_36 fu t t_now t_now_kinds t_now_pitches t_shelves_holding t_shelves_sizes t_shelves_elements l3 l4 l5 s1 s2 s3 t_refusals t_trial t_trial_heard t_told t_told_sounds t_ways t_waysThen = some out → va_P D CL [((ad 0), e_X5 ad t), ((ad 1), e_X1 (ad 2) (ad 3) (ad 4) t_now), ((ad 2), eI cA 8 t_now_kinds), ((ad 4), eI cA 8 t_now_pitches), ((ad 13), e_X0 (ad 14) (ad 15) (ad 16)), ((ad 14), eI cA 8 t_shelves_holding), ((ad 15), eI cA 8 t_shelves_sizes), ((ad 16), eJ cA 320 t_shelves_elements), ((ad 19), eI cA 5 t_refusals), ((ad 20), e_X3 (ad 21) t_trial), ((ad 21), eI cA 13 t_trial_heard), ((ad 24), e_X4 (ad 25) t_told), ((ad 25), eI cA 12 t_told_sounds), ((ad 31), eI cA 41 t_ways), ((ad 32), eI cA 41 t_waysThen)] H → va_D A [((ad 0), e_X5 ad t), ((ad 1), e_X1 (ad 2) (ad 3) (ad 4) t_now), ((ad 2), eI cA 8 t_now_kinds), ((ad 4), eI cA 8 t_now_pitches), ((ad 13), e_X0 (ad 14) (ad 15) (ad 16)), ((ad 14), eI cA 8 t_shelves_holding), ((ad 15), eI cA 8 t_shelves_sizes), ((ad 16), eJ cA 320 t_shelves_elements), ((ad 19), eI cA 5 t_refusals), ((ad 20), e_X3 (ad 21) t_trial), ((ad 21), eI cA 13 t_trial_heard), ((ad 24), e_X4 (ad 25) t_told), ((ad 25), eI cA 12 t_told_sounds), ((ad 31), eI cA 41 t_ways), ((ad 32), eI cA 41 t_waysThen)] → va_S A s.heap H locs → lv_has ls 9 [(0, .ref (ad 0)), (3, .int l3), (4, .int l4), (5, .int l5)] → W p l e rm_X5_odds s m args below meth c H locs 0 0 Q (F0 m 36 ls [.int s3, .int s2, .int s1, .ref (ad 0)]) := by
    intro  l3 l4 l5 s1 s2 s3 t_refusals t_trial t_trial_heard t_told t_told_sounds t_ways t_waysThen H locs ls hm hP hD hS hl
    unfold b_X5_odds_36 at hm
    obtain ⟨o15, ho16, hm⟩ := bd_s hm
    refine xr_i (wr := [((ad 1), e_X1 (ad 2) (ad 3) (ad 4) t_now), ((ad 2), eI cA 8 t_now_kinds), ((ad 4), eI cA 8 t_now_pitches), ((ad 20), e_X3 (ad 21) t_trial), ((ad 21), eI cA 13 t_trial_heard), ((ad 31), eI cA 41 t_ways), ((ad 32), eI cA 41 t_waysThen)]) (wn := [((ad 0), e_X5 ad t), ((ad 1), e_X1 (ad 2) (ad 3) (ad 4) t_now), ((ad 2), eI cA 8 t_now_kinds), ((ad 4), eI cA 8 t_now_pitches), ((ad 13), e_X0 (ad 14) (ad 15) (ad 16)), ((ad 14), eI cA 8 t_shelves_holding), ((ad 15), eI cA 8 t_shelves_sizes), ((ad 16), eJ cA 320 t_shelves_elements), ((ad 19), eI cA 5 o15.2.1), ((ad 20), e_X3 (ad 21) t_trial), ((ad 21), eI cA 13 t_trial_heard), ((ad 24), e_X4 (ad 25) o15.2.2.1), ((ad 25), eI cA 12 o15.2.2.2), ((ad 31), eI cA 41 t_ways), ((ad 32), eI cA 41 t_waysThen)]) (va_runV (As := [.int s1, .int s2, .int s3]) (rest := []) ⟨hx, hb, hml, hown, htg⟩ (c_X5_takeWord l D cA _ fu ad t t_shelves_holding t_shelves_sizes t_shelves_elements t_refusals t_told t_told_sounds s1 s2 s3 o15 ho16) (cwV 3 htg (gV q_3_126 q_3_128 q_p3_12 q_1_1 q_3_129) rfl rfl rfl hd_X5_takeWord ⟨Nat.le_of_ble_eq_true rfl, Nat.le_of_ble_eq_true rfl⟩) (xpV hN hK hP hD [0, 4, 5, 6, 7, 8, 11, 12] rfl (by decide) rfl rfl) rfl rfl hl.1 rfl (lv_room (Nat.le_of_ble_eq_true rfl)) dX5_odds_36 ⟨Nat.zero_le _, Nat.zero_le _⟩) hP hD hS hA [0, 4, 5, 6, 7, 8, 11, 12] [1, 2, 3, 9, 10, 13, 14] [7, 0, 1, 2, 8, 9, 10, 11, 12, 3, 4, 13, 14, 5, 6] rfl rfl (by decide) (by decide) rfl (by decide) (fun H locs hP hD hS => ?_)
    refine lv_istore (lv' := [(6, .int o15.1), (0, .ref (ad 0)), (3, .int l3), (4, .int l4), (5, .int l5)]) hx hb dX5_odds_39 hl (by decide) rfl (fun ls hl => ?_)
    refine lv_iload hx hb dX5_odds_41 (lv_at hl 0 rfl) ?_
    refine lv_if_eq (tgt := 49) hx hb dX5_odds_43 (by decide) (fun c17 => ?_) (fun c17 => ?_)
    · have hm := it_t c17 hm
      refine lv_aload_n hx hb dX5_odds_49 rfl (lv_at hl 1 rfl) ?_
      refine va_get (D := D) (ci := 5) (v := .ref (ad 20)) (C := RX5) (T := TX5) (N := 17) hx hb htg inX5 hown hK hP 0 rfl rfl 7 (by decide) (htg _ q_1_195) (fun _ h9 => h9) rfl dX5_odds_50 ?_
      refine lv_aload_n hx hb dX5_odds_53 rfl (lv_at hl 1 rfl) ?_
      refine va_get (D := D) (ci := 5) (v := .ref (ad 1)) (C := RX5) (T := TX5) (N := 17) hx hb htg inX5 hown hK hP 0 rfl rfl 0 (by decide) (htg _ q_1_188) (fun _ h9 => h9) rfl dX5_odds_54 ?_
      refine lv_iload_n hx hb dX5_odds_57 rfl (lv_at hl 2 rfl) ?_
      obtain ⟨o18, ho19, hm⟩ := bd_s hm
      refine xr_v (wr := [((ad 0), e_X5 ad t), ((ad 13), e_X0 (ad 14) (ad 15) (ad 16)), ((ad 14), eI cA 8 t_shelves_holding), ((ad 15), eI cA 8 t_shelves_sizes), ((ad 16), eJ cA 320 t_shelves_elements), ((ad 19), eI cA 5 o15.2.1), ((ad 21), eI cA 13 t_trial_heard), ((ad 24), e_X4 (ad 25) o15.2.2.1), ((ad 25), eI cA 12 o15.2.2.2), ((ad 31), eI cA 41 t_ways), ((ad 32), eI cA 41 t_waysThen)]) (wn := [((ad 0), e_X5 ad t), ((ad 1), e_X1 (ad 2) (ad 3) (ad 4) t_now), ((ad 2), eI cA 8 t_now_kinds), ((ad 4), eI cA 8 t_now_pitches), ((ad 13), e_X0 (ad 14) (ad 15) (ad 16)), ((ad 14), eI cA 8 t_shelves_holding), ((ad 15), eI cA 8 t_shelves_sizes), ((ad 16), eJ cA 320 t_shelves_elements), ((ad 19), eI cA 5 o15.2.1), ((ad 20), e_X3 (ad 21) o18), ((ad 21), eI cA 13 t_trial_heard), ((ad 24), e_X4 (ad 25) o15.2.2.1), ((ad 25), eI cA 12 o15.2.2.2), ((ad 31), eI cA 41 t_ways), ((ad 32), eI cA 41 t_waysThen)]) (va_runVN (As := [.ref (ad 1), .int l3]) (rest := []) ⟨hx, hb, hml, hown, htg⟩ (c_X3_standsFor l D cA _ fu (ad 20) (ad 21) (ad 1) (ad 2) (ad 3) (ad 4) t_trial t_now t_now_kinds t_now_pitches l3 o18 ho19) ⟨va_cnB 2 htg (gU q_2_126) rfl rfl rfl (hN _ q_2_123) (htg _ q_1_6) hd_X3_standsFor.2 ⟨Nat.le_of_ble_eq_true rfl, Nat.le_of_ble_eq_true rfl⟩, htg _ q_2_125, htg _ q_p2_0⟩ (xpV hN hK hP hD [9, 1, 2, 3] rfl (by decide) rfl rfl) rfl rfl hl.1 rfl (lv_room (Nat.le_of_ble_eq_true rfl)) dX5_odds_58 ⟨Nat.zero_le _, Nat.zero_le _⟩) hP hD hS hA [9, 1, 2, 3] [0, 4, 5, 6, 7, 8, 10, 11, 12, 13, 14] [0, 12, 13, 14, 1, 2, 3, 4, 5, 11, 6, 7, 8, 9, 10] rfl rfl (by decide) (by decide) rfl (by decide) (fun H locs hP hD hS => ?_)
      refine lv_iload hx hb dX5_odds_61 (lv_at hl 4 rfl) ?_
      refine lv_if_ne (tgt := 72) hx hb dX5_odds_63 (by decide) (fun c20 => ?_) (fun c20 => ?_)
      · have hm := it_f c20 hm
        refine lv_sipush (v := (1000 : Int32)) hx hb dX5_odds_72 (by decide) ?_
        exact B_75 _ _ _ _ _ _ _ _ _ _ _ _ _ hm hP hD hS (lv_sub hl [1, 3, 4] rfl)
      · have hm := it_t c20 hm
        refine lv_ldcw (v := (1000000 : Int32)) hx hb hown (htg _ q_4_11) dX5_odds_66 ?_
        refine lv_goto (tgt := 75) hx hb dX5_odds_69 (by decide) ?_
        exact B_75 _ _ _ _ _ _ _ _ _ _ _ _ _ hm hP hD hS (lv_sub hl [1, 3, 4] rfl)
    · have hm := it_f c17 hm
      refine lv_iload hx hb dX5_odds_46 (lv_at hl 0 rfl) ?_
      rw [hQ]
      exact W.iret (v := o15.1) hx hb hr (fun t9 ht hW => ⟨⟨o15.1, (o15.2.1, t_trial, t_trial_heard, o15.2.2.1, o15.2.2.2, t_ways, t_waysThen), rfl, (Option.some.inj hm), by rw [ht]; exact hP, va_K.moved hW.alike hK, hD⟩, hS.F ht⟩) hS.2.2 dX5_odds_48
  have B_35 : ∀ (l3 : Int32) (l4 : Int32) (l5 : Int32) (s1 : Int32) (s2 : Int32) (t_refusals : Nat → Int32) (t_trial : Nat → Int32) (t_trial_heard : Nat → Int32) (t_told : Nat → Int32) (t_told_sounds : Nat → Int32) (t_ways : Nat → Int32) (t_waysThen : Nat → Int32) (H : Heap) (locs : List Loc) (ls : Array Slot), b_X5_odds_35 fu t t_now t_now_kinds t_now_pitches t_shelves_holding t_shelves_sizes t_shelves_elements l3 l4 l5 s1 s2 t_refusals t_trial t_trial_heard t_told t_told_sounds t_ways t_waysThen = some out → va_P D CL [((ad 0), e_X5 ad t), ((ad 1), e_X1 (ad 2) (ad 3) (ad 4) t_now), ((ad 2), eI cA 8 t_now_kinds), ((ad 4), eI cA 8 t_now_pitches), ((ad 13), e_X0 (ad 14) (ad 15) (ad 16)), ((ad 14), eI cA 8 t_shelves_holding), ((ad 15), eI cA 8 t_shelves_sizes), ((ad 16), eJ cA 320 t_shelves_elements), ((ad 19), eI cA 5 t_refusals), ((ad 20), e_X3 (ad 21) t_trial), ((ad 21), eI cA 13 t_trial_heard), ((ad 24), e_X4 (ad 25) t_told), ((ad 25), eI cA 12 t_told_sounds), ((ad 31), eI cA 41 t_ways), ((ad 32), eI cA 41 t_waysThen)] H → va_D A [((ad 0), e_X5 ad t), ((ad 1), e_X1 (ad 2) (ad 3) (ad 4) t_now), ((ad 2), eI cA 8 t_now_kinds), ((ad 4), eI cA 8 t_now_pitches), ((ad 13), e_X0 (ad 14) (ad 15) (ad 16)), ((ad 14), eI cA 8 t_shelves_holding), ((ad 15), eI cA 8 t_shelves_sizes), ((ad 16), eJ cA 320 t_shelves_elements), ((ad 19), eI cA 5 t_refusals), ((ad 20), e_X3 (ad 21) t_trial), ((ad 21), eI cA 13 t_trial_heard), ((ad 24), e_X4 (ad 25) t_told), ((ad 25), eI cA 12 t_told_sounds), ((ad 31), eI cA 41 t_ways), ((ad 32), eI cA 41 t_waysThen)] → va_S A s.heap H locs → lv_has ls 9 [(0, .ref (ad 0)), (3, .int l3), (4, .int l4), (5, .int l5)] → W p l e rm_X5_odds s m args below meth c H locs 0 0 Q (F0 m 35 ls [.int s2, .int s1, .ref (ad 0)]) := by
    intro  l3 l4 l5 s1 s2 t_refusals t_trial t_trial_heard t_told t_told_sounds t_ways t_waysThen H locs ls hm hP hD hS hl
    unfold b_X5_odds_35 at hm
    refine lv_iconst (v := (0 : Int32)) hx hb dX5_odds_35 (by decide) ?_
    exact B_36 _ _ _ _ _ _ _ _ _ _ _ _ _ _ _ _ hm hP hD hS (lv_sub hl [0, 1, 2, 3] rfl)
  unfold m_X5_odds at hm
  subst hargs
  have hl := lv_entry ([.ref (ad 0), .int l1, .int l2, .int l3, .int l4, .int l5]) (n := 9) (Nat.le_of_ble_eq_true rfl)
  rw [lg_entry_eq]
  generalize (lg_sl ([.ref (ad 0), .int l1, .int l2, .int l3, .int l4, .int l5]) ++ List.replicate (9 - (lg_sl ([.ref (ad 0), .int l1, .int l2, .int l3, .int l4, .int l5])).length) Slot.unset).toArray = ls at hl ⊢
  have hl : lv_has ls 9 [(0, .ref (ad 0)), (1, .int l1), (2, .int l2), (3, .int l3), (4, .int l4), (5, .int l5)] := hl
  refine lv_aload_n hx hb dX5_odds_0 rfl (lv_at hl 0 rfl) ?_
  refine lv_iload_n hx hb dX5_odds_1 rfl (lv_at hl 1 rfl) ?_
  refine lv_iload_n hx hb dX5_odds_2 rfl (lv_at hl 2 rfl) ?_
  refine lv_aload_n hx hb dX5_odds_3 rfl (lv_at hl 0 rfl) ?_
  refine lv_iload_n hx hb dX5_odds_4 rfl (lv_at hl 3 rfl) ?_
  obtain ⟨o21, ho22, hm⟩ := bd_s hm
  refine xr_i (wr := [((ad 2), eI cA 8 t_now_kinds), ((ad 4), eI cA 8 t_now_pitches), ((ad 13), e_X0 (ad 14) (ad 15) (ad 16)), ((ad 14), eI cA 8 t_shelves_holding), ((ad 15), eI cA 8 t_shelves_sizes), ((ad 16), eJ cA 320 t_shelves_elements), ((ad 19), eI cA 5 t_refusals), ((ad 20), e_X3 (ad 21) t_trial), ((ad 21), eI cA 13 t_trial_heard), ((ad 24), e_X4 (ad 25) t_told), ((ad 25), eI cA 12 t_told_sounds), ((ad 31), eI cA 41 t_ways), ((ad 32), eI cA 41 t_waysThen)]) (wn := [((ad 0), e_X5 ad t), ((ad 1), e_X1 (ad 2) (ad 3) (ad 4) t_now), ((ad 2), eI cA 8 t_now_kinds), ((ad 4), eI cA 8 t_now_pitches), ((ad 13), e_X0 (ad 14) (ad 15) (ad 16)), ((ad 14), eI cA 8 t_shelves_holding), ((ad 15), eI cA 8 t_shelves_sizes), ((ad 16), eJ cA 320 t_shelves_elements), ((ad 19), eI cA 5 t_refusals), ((ad 20), e_X3 (ad 21) t_trial), ((ad 21), eI cA 13 t_trial_heard), ((ad 24), e_X4 (ad 25) t_told), ((ad 25), eI cA 12 t_told_sounds), ((ad 31), eI cA 41 t_ways), ((ad 32), eI cA 41 t_waysThen)]) (va_runV (As := [.int l3]) (rest := [.int l2, .int l1, .ref (ad 0)]) ⟨hx, hb, hml, hown, htg⟩ (c_X5_isVoice l D cA _ fu ad t t_now l3 o21 ho22) (cwV 1 htg (gV q_2_87 q_2_89 q_p1_10 q_1_1 q_2_90) rfl rfl rfl hd_X5_isVoice ⟨Nat.le_of_ble_eq_true rfl, Nat.le_of_ble_eq_true rfl⟩) (xpV hN hK hP hD [0, 1] rfl (by decide) rfl rfl) rfl rfl hl.1 rfl (lv_room (Nat.le_of_ble_eq_true rfl)) dX5_odds_5 ⟨Nat.zero_le _, Nat.zero_le _⟩) hP hD hS hA [0, 1] [2, 3, 4, 5, 6, 7, 8, 9, 10, 11, 12, 13, 14] [13, 14, 0, 1, 2, 3, 4, 5, 6, 7, 8, 9, 10, 11, 12] rfl rfl (by decide) (by decide) rfl (by decide) (fun H locs hP hD hS => ?_)
  refine lv_if_eq (tgt := 35) hx hb dX5_odds_8 (by decide) (fun c23 => ?_) (fun c23 => ?_)
  · have hm := it_t c23 hm
    exact B_35 _ _ _ _ _ _ _ _ _ _ _ _ _ _ _ hm hP hD hS (lv_sub hl [0, 3, 4, 5] rfl)
  · have hm := it_f c23 hm
    refine lv_iload hx hb dX5_odds_11 (lv_at hl 4 rfl) ?_
    refine lv_iconst (v := (0 : Int32)) hx hb dX5_odds_13 (by decide) ?_
    refine lv_iconst (v := (3 : Int32)) hx hb dX5_odds_14 (by decide) ?_
    obtain ⟨o24, ho25, hm⟩ := bd_s hm
    refine xr_i (wr := [((ad 0), e_X5 ad t), ((ad 1), e_X1 (ad 2) (ad 3) (ad 4) t_now), ((ad 2), eI cA 8 t_now_kinds), ((ad 4), eI cA 8 t_now_pitches), ((ad 13), e_X0 (ad 14) (ad 15) (ad 16)), ((ad 14), eI cA 8 t_shelves_holding), ((ad 15), eI cA 8 t_shelves_sizes), ((ad 16), eJ cA 320 t_shelves_elements), ((ad 19), eI cA 5 t_refusals), ((ad 20), e_X3 (ad 21) t_trial), ((ad 21), eI cA 13 t_trial_heard), ((ad 24), e_X4 (ad 25) t_told), ((ad 25), eI cA 12 t_told_sounds), ((ad 31), eI cA 41 t_ways), ((ad 32), eI cA 41 t_waysThen)]) (wn := [((ad 0), e_X5 ad t), ((ad 1), e_X1 (ad 2) (ad 3) (ad 4) t_now), ((ad 2), eI cA 8 t_now_kinds), ((ad 4), eI cA 8 t_now_pitches), ((ad 13), e_X0 (ad 14) (ad 15) (ad 16)), ((ad 14), eI cA 8 t_shelves_holding), ((ad 15), eI cA 8 t_shelves_sizes), ((ad 16), eJ cA 320 t_shelves_elements), ((ad 19), eI cA 5 t_refusals), ((ad 20), e_X3 (ad 21) t_trial), ((ad 21), eI cA 13 t_trial_heard), ((ad 24), e_X4 (ad 25) t_told), ((ad 25), eI cA 12 t_told_sounds), ((ad 31), eI cA 41 t_ways), ((ad 32), eI cA 41 t_waysThen)]) (va_runS (As := [.int l4, .int (0 : Int32), .int (3 : Int32)]) (rest := [.int l2, .int l1, .ref (ad 0)]) ⟨hx, hb, hml, hown, htg⟩ (c_X5_isWithin l D cA _ fu l4 (0 : Int32) (3 : Int32) o24 ho25) (cwS 3 htg (gS q_2_7 q_2_8 q_1_1 q_2_9) rfl rfl rfl hd_X5_isWithin ⟨Nat.le_of_ble_eq_true rfl, Nat.le_of_ble_eq_true rfl⟩) (xpS hN hK hP hD [] rfl (by decide)) rfl rfl hl.1 rfl (lv_room (Nat.le_of_ble_eq_true rfl)) dX5_odds_15 ⟨Nat.zero_le _, Nat.zero_le _⟩) hP hD hS hA [] [0, 1, 2, 3, 4, 5, 6, 7, 8, 9, 10, 11, 12, 13, 14] [0, 1, 2, 3, 4, 5, 6, 7, 8, 9, 10, 11, 12, 13, 14] rfl rfl (by decide) (by decide) rfl (by decide) (fun H locs hP hD hS => ?_)
    refine lv_if_eq (tgt := 35) hx hb dX5_odds_18 (by decide) (fun c26 => ?_) (fun c26 => ?_)
    · have hm := it_t c26 hm
      exact B_35 _ _ _ _ _ _ _ _ _ _ _ _ _ _ _ hm hP hD hS (lv_sub hl [0, 3, 4, 5] rfl)
    · have hm := it_f c26 hm
      refine lv_iload hx hb dX5_odds_21 (lv_at hl 5 rfl) ?_
      refine lv_iconst (v := (0 : Int32)) hx hb dX5_odds_23 (by decide) ?_
      refine lv_iconst (v := (1 : Int32)) hx hb dX5_odds_24 (by decide) ?_
      obtain ⟨o27, ho28, hm⟩ := bd_s hm
      refine xr_i (wr := [((ad 0), e_X5 ad t), ((ad 1), e_X1 (ad 2) (ad 3) (ad 4) t_now), ((ad 2), eI cA 8 t_now_kinds), ((ad 4), eI cA 8 t_now_pitches), ((ad 13), e_X0 (ad 14) (ad 15) (ad 16)), ((ad 14), eI cA 8 t_shelves_holding), ((ad 15), eI cA 8 t_shelves_sizes), ((ad 16), eJ cA 320 t_shelves_elements), ((ad 19), eI cA 5 t_refusals), ((ad 20), e_X3 (ad 21) t_trial), ((ad 21), eI cA 13 t_trial_heard), ((ad 24), e_X4 (ad 25) t_told), ((ad 25), eI cA 12 t_told_sounds), ((ad 31), eI cA 41 t_ways), ((ad 32), eI cA 41 t_waysThen)]) (wn := [((ad 0), e_X5 ad t), ((ad 1), e_X1 (ad 2) (ad 3) (ad 4) t_now), ((ad 2), eI cA 8 t_now_kinds), ((ad 4), eI cA 8 t_now_pitches), ((ad 13), e_X0 (ad 14) (ad 15) (ad 16)), ((ad 14), eI cA 8 t_shelves_holding), ((ad 15), eI cA 8 t_shelves_sizes), ((ad 16), eJ cA 320 t_shelves_elements), ((ad 19), eI cA 5 t_refusals), ((ad 20), e_X3 (ad 21) t_trial), ((ad 21), eI cA 13 t_trial_heard), ((ad 24), e_X4 (ad 25) t_told), ((ad 25), eI cA 12 t_told_sounds), ((ad 31), eI cA 41 t_ways), ((ad 32), eI cA 41 t_waysThen)]) (va_runS (As := [.int l5, .int (0 : Int32), .int (1 : Int32)]) (rest := [.int l2, .int l1, .ref (ad 0)]) ⟨hx, hb, hml, hown, htg⟩ (c_X5_isWithin l D cA _ fu l5 (0 : Int32) (1 : Int32) o27 ho28) (cwS 3 htg (gS q_2_7 q_2_8 q_1_1 q_2_9) rfl rfl rfl hd_X5_isWithin ⟨Nat.le_of_ble_eq_true rfl, Nat.le_of_ble_eq_true rfl⟩) (xpS hN hK hP hD [] rfl (by decide)) rfl rfl hl.1 rfl (lv_room (Nat.le_of_ble_eq_true rfl)) dX5_odds_25 ⟨Nat.zero_le _, Nat.zero_le _⟩) hP hD hS hA [] [0, 1, 2, 3, 4, 5, 6, 7, 8, 9, 10, 11, 12, 13, 14] [0, 1, 2, 3, 4, 5, 6, 7, 8, 9, 10, 11, 12, 13, 14] rfl rfl (by decide) (by decide) rfl (by decide) (fun H locs hP hD hS => ?_)
      refine lv_if_eq (tgt := 35) hx hb dX5_odds_28 (by decide) (fun c29 => ?_) (fun c29 => ?_)
      · have hm := it_t c29 hm
        exact B_35 _ _ _ _ _ _ _ _ _ _ _ _ _ _ _ hm hP hD hS (lv_sub hl [0, 3, 4, 5] rfl)
      · have hm := it_f c29 hm
        refine lv_iconst (v := (1 : Int32)) hx hb dX5_odds_31 (by decide) ?_
        refine lv_goto (tgt := 36) hx hb dX5_odds_32 (by decide) ?_
        exact B_36 _ _ _ _ _ _ _ _ _ _ _ _ _ _ _ _ hm hP hD hS (lv_sub hl [0, 3, 4, 5] rfl)
def b_X5_voicesOfYes_68 (fu : Nat) (t : Nat → Int32) (t_now : Nat → Int32) (t_now_kinds : Nat → Int32) (t_now_pitches : Nat → Int32) (t_told : Nat → Int32) (t_told_sounds : Nat → Int32) (k_5 : (Int32 × Int32 × Int32 × Int32 × (Nat → Int32) × (Nat → Int32)) → Option (Int32 × ((Nat → Int32) × (Nat → Int32)))) (l1 : Int32) (l2 : Int32) (l3 : Int32) (l4 : Int32) (t_trial : Nat → Int32) (t_trial_heard : Nat → Int32) : Option (Int32 × ((Nat → Int32) × (Nat → Int32))) :=
  k_5 (l1, l2, l3, (l4 + (1 : Int32)), t_trial, t_trial_heard)
def b_X5_voicesOfYes_5 (fu : Nat) (t : Nat → Int32) (t_now : Nat → Int32) (t_now_kinds : Nat → Int32) (t_now_pitches : Nat → Int32) (t_told : Nat → Int32) (t_told_sounds : Nat → Int32) (k_5 : (Int32 × Int32 × Int32 × Int32 × (Nat → Int32) × (Nat → Int32)) → Option (Int32 × ((Nat → Int32) × (Nat → Int32)))) (x : Int32 × Int32 × Int32 × Int32 × (Nat → Int32) × (Nat → Int32)) : Option (Int32 × ((Nat → Int32) × (Nat → Int32))) :=
  (if t_now 8 ≤ x.2.2.2.1 then
        some (x.2.2.1, (x.2.2.2.2.1, x.2.2.2.2.2))
      else
        (m_X3_standsFor fu x.2.2.2.2.1 t_now t_now_kinds t_now_pitches x.2.2.2.1).bind fun o2 =>
        (m_X3_weighs fu (upd (upd o2 2 x.1) 5 x.2.1) x.2.2.2.2.2 t_told t_told_sounds).bind fun o4 =>
        (if o4.1 = (1 : Int32) then
          b_X5_voicesOfYes_68 fu t t_now t_now_kinds t_now_pitches t_told t_told_sounds k_5 x.1 x.2.1 (x.2.2.1 ||| ((1 : Int32) <<< (x.2.2.2.1 &&& 31))) x.2.2.2.1 o4.2.1 o4.2.2
        else
          b_X5_voicesOfYes_68 fu t t_now t_now_kinds t_now_pitches t_told t_told_sounds k_5 x.1 x.2.1 x.2.2.1 x.2.2.2.1 o4.2.1 o4.2.2))
def m_X5_voicesOfYes (fu : Nat) (t : Nat → Int32) (t_now : Nat → Int32) (t_now_kinds : Nat → Int32) (t_now_pitches : Nat → Int32) (t_trial : Nat → Int32) (t_trial_heard : Nat → Int32) (t_told : Nat → Int32) (t_told_sounds : Nat → Int32) (l1 : Int32) (l2 : Int32) : Option (Int32 × ((Nat → Int32) × (Nat → Int32))) :=
  lfix (b_X5_voicesOfYes_5 fu t t_now t_now_kinds t_now_pitches t_told t_told_sounds) fu (l1, l2, (0 : Int32), (0 : Int32), t_trial, t_trial_heard)
abbrev rm_X5_voicesOfYes : Room := ({ frames := 5, cells := 0, slots := 0, locals := 109 } : Room)
abbrev w0_X5_voicesOfYes (cA : Nat → ClassId) (ad : Nat → Nat) (t : Nat → Int32) (t_now : Nat → Int32) (t_now_kinds : Nat → Int32) (t_now_pitches : Nat → Int32) (t_trial : Nat → Int32) (t_trial_heard : Nat → Int32) (t_told : Nat → Int32) (t_told_sounds : Nat → Int32) : va_W := [((ad 0), e_X5 ad t), ((ad 1), e_X1 (ad 2) (ad 3) (ad 4) t_now), ((ad 2), eI cA 8 t_now_kinds), ((ad 4), eI cA 8 t_now_pitches), ((ad 20), e_X3 (ad 21) t_trial), ((ad 21), eI cA 13 t_trial_heard), ((ad 24), e_X4 (ad 25) t_told), ((ad 25), eI cA 12 t_told_sounds)]
abbrev w1_X5_voicesOfYes (cA : Nat → ClassId) (ad : Nat → Nat) (t : Nat → Int32) (t_now : Nat → Int32) (t_now_kinds : Nat → Int32) (t_now_pitches : Nat → Int32) (t_told : Nat → Int32) (t_told_sounds : Nat → Int32) (u : (Nat → Int32) × (Nat → Int32)) : va_W := [((ad 0), e_X5 ad t), ((ad 1), e_X1 (ad 2) (ad 3) (ad 4) t_now), ((ad 2), eI cA 8 t_now_kinds), ((ad 4), eI cA 8 t_now_pitches), ((ad 20), e_X3 (ad 21) u.1), ((ad 21), eI cA 13 u.2), ((ad 24), e_X4 (ad 25) t_told), ((ad 25), eI cA 12 t_told_sounds)]
theorem hd_X5_voicesOfYes : yX5_voicesOfYes.cls = RX5 ∧ yX5_voicesOfYes.cls ≠ "java/lang/invoke/MethodHandle" ∧ yX5_voicesOfYes.cls ≠ "java/lang/invoke/VarHandle" ∧ (parseMethodDescriptor yX5_voicesOfYes.desc).map (fun d => d.parameters.length) = some 2 := by decide +kernel
set_option maxHeartbeats 40000000 in
set_option maxRecDepth 100000 in
theorem c_X5_voicesOfYes (l : Launch) (D : va_G) (cA : Nat → ClassId) (sz : Nat) (fu : Nat) (ad : Nat → Nat) (t : Nat → Int32) (t_now : Nat → Int32) (t_now_kinds : Nat → Int32) (t_now_pitches : Nat → Int32) (t_trial : Nat → Int32) (t_trial_heard : Nat → Int32) (t_told : Nat → Int32) (t_told_sounds : Nat → Int32) (l1 : Int32) (l2 : Int32) (out : Int32 × ((Nat → Int32) × (Nat → Int32))) (hm : m_X5_voicesOfYes fu t t_now t_now_kinds t_now_pitches t_trial t_trial_heard t_told t_told_sounds l1 l2 = some out) : MI l yX5_voicesOfYes (wU yX5_voicesOfYes cX5_voicesOfYes 5 ((Option.some Jvm.ClassFile.FieldType.int))) rm_X5_voicesOfYes D cA sz [.ref (ad 0), .int l1, .int l2] (w0_X5_voicesOfYes cA ad t t_now t_now_kinds t_now_pitches t_trial t_trial_heard t_told t_told_sounds) out (w1_X5_voicesOfYes cA ad t t_now t_now_kinds t_now_pitches t_told t_told_sounds) := by
  refine Met.ofW (cc := cX5_voicesOfYes) (maxL := 5) (ret := (Option.some Jvm.ClassFile.FieldType.int)) (by decide) rfl ?_
  intro p e s m args below meth c s₁ B hml hv
  obtain ⟨hargs, hsz, hP, hK, hD0, hN⟩ := hv
  have hx := B.exec
  have hb := B.bytes
  have hr := B.returns
  have htg : ∀ w ∈ gw, w.before args s = true := fun w h => atoms_spec (ws := wU yX5_voicesOfYes cX5_voicesOfYes 5 ((Option.some Jvm.ClassFile.FieldType.int))) B.pre w (List.mem_cons_of_mem _ h)
  have hown : s.vm.findClass RX5 = some m.cls := findClass_of_methodNamed B.named
  have hlocks := B.notSynchronized
  subst hsz
  have hD := hD0.self (sz := s.heap.size)
  have hA : ∀ q : Nat, s.heap.size ≤ q → va_A (w0_X5_voicesOfYes cA ad t t_now t_now_kinds t_now_pitches t_trial t_trial_heard t_told t_told_sounds) s.heap.size q := fun q h => Or.inr h
  have hS : va_S (va_A (w0_X5_voicesOfYes cA ad t t_now t_now_kinds t_now_pitches t_trial t_trial_heard t_told t_told_sounds) s.heap.size) s.heap s.heap [] := va_S.rf
  generalize va_A (w0_X5_voicesOfYes cA ad t t_now t_now_kinds t_now_pitches t_trial t_trial_heard t_told t_told_sounds) s.heap.size = A at hA hD hS ⊢
  obtain ⟨Q, hQ⟩ : ∃ Q : State → Prop, Q = MQ below (va_Qi (fun (r : Int32) (u : (Nat → Int32) × (Nat → Int32)) => (r, u) = out) (pst0 D cA A (w1_X5_voicesOfYes cA ad t t_now t_now_kinds t_now_pitches t_told t_told_sounds)) A) args s 0 0 A := ⟨_, rfl⟩
  refine (?_ : W p l e rm_X5_voicesOfYes s m args below meth c s.heap [] 0 0 (MQ below (va_Qi (fun (r : Int32) (u : (Nat → Int32) × (Nat → Int32)) => (r, u) = out) (pst0 D cA A (w1_X5_voicesOfYes cA ad t t_now t_now_kinds t_now_pitches t_told t_told_sounds)) A) args s 0 0 A) (entryFrame m args 5))
  rw [← hQ]
  have hP : va_P D CL [((ad 0), e_X5 ad t), ((ad 1), e_X1 (ad 2) (ad 3) (ad 4) t_now), ((ad 2), eI cA 8 t_now_kinds), ((ad 4), eI cA 8 t_now_pitches), ((ad 20), e_X3 (ad 21) t_trial), ((ad 21), eI cA 13 t_trial_heard), ((ad 24), e_X4 (ad 25) t_told), ((ad 25), eI cA 12 t_told_sounds)] s.heap := hP
  have hD : va_D A [((ad 0), e_X5 ad t), ((ad 1), e_X1 (ad 2) (ad 3) (ad 4) t_now), ((ad 2), eI cA 8 t_now_kinds), ((ad 4), eI cA 8 t_now_pitches), ((ad 20), e_X3 (ad 21) t_trial), ((ad 21), eI cA 13 t_trial_heard), ((ad 24), e_X4 (ad 25) t_told), ((ad 25), eI cA 12 t_told_sounds)] := hD
  have B_68 : ∀ (k_5 : (Int32 × Int32 × Int32 × Int32 × (Nat → Int32) × (Nat → Int32)) → Option (Int32 × ((Nat → Int32) × (Nat → Int32)))) (HK_5 : ∀ (x : Int32 × Int32 × Int32 × Int32 × (Nat → Int32) × (Nat → Int32)) (H : Heap) (locs : List Loc) (ls : Array Slot), k_5 x = some out → va_P D CL [((ad 0), e_X5 ad t), ((ad 1), e_X1 (ad 2) (ad 3) (ad 4) t_now), ((ad 2), eI cA 8 t_now_kinds), ((ad 4), eI cA 8 t_now_pitches), ((ad 20), e_X3 (ad 21) x.2.2.2.2.1), ((ad 21), eI cA 13 x.2.2.2.2.2), ((ad 24), e_X4 (ad 25) t_told), ((ad 25), eI cA 12 t_told_sounds)] H → va_D A [((ad 0), e_X5 ad t), ((ad 1), e_X1 (ad 2) (ad 3) (ad 4) t_now), ((ad 2), eI cA 8 t_now_kinds), ((ad 4), eI cA 8 t_now_pitches), ((ad 20), e_X3 (ad 21) x.2.2.2.2.1), ((ad 21), eI cA 13 x.2.2.2.2.2), ((ad 24), e_X4 (ad 25) t_told), ((ad 25), eI cA 12 t_told_sounds)] → va_S A s.heap H locs → lv_has ls 5 [(0, .ref (ad 0)), (1, .int x.1), (2, .int x.2.1), (3, .int x.2.2.1), (4, .int x.2.2.2.1)] → W p l e rm_X5_voicesOfYes s m args below meth c H locs 0 0 Q (F0 m 5 ls [])) (l1 : Int32) (l2 : Int32) (l3 : Int32) (l4 : Int32) (t_trial : Nat → Int32) (t_trial_heard : Nat → Int32) (H : Heap) (locs : List Loc) (ls : Array Slot), b_X5_voicesOfYes_68 fu t t_now t_now_kinds t_now_pitches t_told t_told_sounds k_5 l1 l2 l3 l4 t_trial t_trial_heard = some out → va_P D CL [((ad 0), e_X5 ad t), ((ad 1), e_X1 (ad 2) (ad 3) (ad 4) t_now), ((ad 2), eI cA 8 t_now_kinds), ((ad 4), eI cA 8 t_now_pitches), ((ad 20), e_X3 (ad 21) t_trial), ((ad 21), eI cA 13 t_trial_heard), ((ad 24), e_X4 (ad 25) t_told), ((ad 25), eI cA 12 t_told_sounds)] H → va_D A [((ad 0), e_X5 ad t), ((ad 1), e_X1 (ad 2) (ad 3) (ad 4) t_now), ((ad 2), eI cA 8 t_now_kinds), ((ad 4), eI cA 8 t_now_pitches), ((ad 20), e_X3 (ad 21) t_trial), ((ad 21), eI cA 13 t_trial_heard), ((ad 24), e_X4 (ad 25) t_told), ((ad 25), eI cA 12 t_told_sounds)] → va_S A s.heap H locs → lv_has ls 5 [(0, .ref (ad 0)), (1, .int l1), (2, .int l2), (3, .int l3), (4, .int l4)] → W p l e rm_X5_voicesOfYes s m args below meth c H locs 0 0 Q (F0 m 68 ls []) := by
    intro k_5 HK_5 l1 l2 l3 l4 t_trial t_trial_heard H locs ls hm hP hD hS hl
    unfold b_X5_voicesOfYes_68 at hm
    refine lv_iinc (v := (l4 + (1 : Int32))) (lv' := [(4, .int (l4 + (1 : Int32))), (0, .ref (ad 0)), (1, .int l1), (2, .int l2), (3, .int l3)]) hx hb dX5_voicesOfYes_68 hl (k := 4) rfl rfl (by decide) rfl (fun ls hl => ?_)
    refine lv_goto (tgt := 5) hx hb dX5_voicesOfYes_71 (by decide) ?_
    exact HK_5 _ _ _ _ hm hP hD hS (lv_sub hl [1, 2, 3, 4, 0] rfl)
  have B_5 : ∀ (n : Nat) (x : Int32 × Int32 × Int32 × Int32 × (Nat → Int32) × (Nat → Int32)) (H : Heap) (locs : List Loc) (ls : Array Slot), lfix (b_X5_voicesOfYes_5 fu t t_now t_now_kinds t_now_pitches t_told t_told_sounds) n x = some out → va_P D CL [((ad 0), e_X5 ad t), ((ad 1), e_X1 (ad 2) (ad 3) (ad 4) t_now), ((ad 2), eI cA 8 t_now_kinds), ((ad 4), eI cA 8 t_now_pitches), ((ad 20), e_X3 (ad 21) x.2.2.2.2.1), ((ad 21), eI cA 13 x.2.2.2.2.2), ((ad 24), e_X4 (ad 25) t_told), ((ad 25), eI cA 12 t_told_sounds)] H → va_D A [((ad 0), e_X5 ad t), ((ad 1), e_X1 (ad 2) (ad 3) (ad 4) t_now), ((ad 2), eI cA 8 t_now_kinds), ((ad 4), eI cA 8 t_now_pitches), ((ad 20), e_X3 (ad 21) x.2.2.2.2.1), ((ad 21), eI cA 13 x.2.2.2.2.2), ((ad 24), e_X4 (ad 25) t_told), ((ad 25), eI cA 12 t_told_sounds)] → va_S A s.heap H locs → lv_has ls 5 [(0, .ref (ad 0)), (1, .int x.1), (2, .int x.2.1), (3, .int x.2.2.1), (4, .int x.2.2.2.1)] → W p l e rm_X5_voicesOfYes s m args below meth c H locs 0 0 Q (F0 m 5 ls []) := by
    intro  n
    induction n with
    | zero => intro x H locs ls hm; cases (show none = some out from hm)
    | succ n HK_5 =>
      intro x H locs ls hm hP hD hS hl
      replace hm : b_X5_voicesOfYes_5 fu t t_now t_now_kinds t_now_pitches t_told t_told_sounds (lfix (b_X5_voicesOfYes_5 fu t t_now t_now_kinds t_now_pitches t_told t_told_sounds) n) x = some out := hm
      unfold b_X5_voicesOfYes_5 at hm
      refine lv_iload hx hb dX5_voicesOfYes_5 (lv_at hl 4 rfl) ?_
      refine lv_aload_n hx hb dX5_voicesOfYes_7 rfl (lv_at hl 0 rfl) ?_
      refine va_get (D := D) (ci := 5) (v := .ref (ad 1)) (C := RX5) (T := TX5) (N := 17) hx hb htg inX5 hown hK hP 0 rfl rfl 0 (by decide) (htg _ q_1_188) (fun _ h9 => h9) rfl dX5_voicesOfYes_8 ?_
      refine va_getN (D := D) (ci := 1) (v := .int (t_now 8)) (C := RX1) (T := TX1) (N := 12) hx hb htg inX1 hown hK hP 1 rfl rfl 8 (by decide) (va_Nw.use rfl (hN _ q_1_58)) (fun _ h9 => h9) rfl dX5_voicesOfYes_11 ?_
      refine lv_icmp_ge (tgt := 74) hx hb dX5_voicesOfYes_14 (by decide) (fun c1 => ?_) (fun c1 => ?_)
      · have hm := it_t c1 hm
        refine lv_iload_n hx hb dX5_voicesOfYes_74 rfl (lv_at hl 3 rfl) ?_
        rw [hQ]
        exact W.iret (v := x.2.2.1) hx hb hr (fun t9 ht hW => ⟨⟨x.2.2.1, (x.2.2.2.2.1, x.2.2.2.2.2), rfl, (Option.some.inj hm), by rw [ht]; exact hP, va_K.moved hW.alike hK, hD⟩, hS.F ht⟩) hS.2.2 dX5_voicesOfYes_75
      · have hm := it_f c1 hm
        refine lv_aload_n hx hb dX5_voicesOfYes_17 rfl (lv_at hl 0 rfl) ?_
        refine va_get (D := D) (ci := 5) (v := .ref (ad 20)) (C := RX5) (T := TX5) (N := 17) hx hb htg inX5 hown hK hP 0 rfl rfl 7 (by decide) (htg _ q_1_195) (fun _ h9 => h9) rfl dX5_voicesOfYes_18 ?_
        refine lv_aload_n hx hb dX5_voicesOfYes_21 rfl (lv_at hl 0 rfl) ?_
        refine va_get (D := D) (ci := 5) (v := .ref (ad 1)) (C := RX5) (T := TX5) (N := 17) hx hb htg inX5 hown hK hP 0 rfl rfl 0 (by decide) (htg _ q_1_188) (fun _ h9 => h9) rfl dX5_voicesOfYes_22 ?_
        refine lv_iload hx hb dX5_voicesOfYes_25 (lv_at hl 4 rfl) ?_
        obtain ⟨o2, ho3, hm⟩ := bd_s hm
        refine xr_v (wr := [((ad 0), e_X5 ad t), ((ad 21), eI cA 13 x.2.2.2.2.2), ((ad 24), e_X4 (ad 25) t_told), ((ad 25), eI cA 12 t_told_sounds)]) (wn := [((ad 0), e_X5 ad t), ((ad 1), e_X1 (ad 2) (ad 3) (ad 4) t_now), ((ad 2), eI cA 8 t_now_kinds), ((ad 4), eI cA 8 t_now_pitches), ((ad 20), e_X3 (ad 21) o2), ((ad 21), eI cA 13 x.2.2.2.2.2), ((ad 24), e_X4 (ad 25) t_told), ((ad 25), eI cA 12 t_told_sounds)]) (va_runVN (As := [.ref (ad 1), .int x.2.2.2.1]) (rest := []) ⟨hx, hb, hml, hown, htg⟩ (c_X3_standsFor l D cA _ fu (ad 20) (ad 21) (ad 1) (ad 2) (ad 3) (ad 4) x.2.2.2.2.1 t_now t_now_kinds t_now_pitches x.2.2.2.1 o2 ho3) ⟨va_cnB 2 htg (gU q_2_126) rfl rfl rfl (hN _ q_2_123) (htg _ q_1_6) hd_X3_standsFor.2 ⟨Nat.le_of_ble_eq_true rfl, Nat.le_of_ble_eq_true rfl⟩, htg _ q_2_125, htg _ q_p2_0⟩ (xpV hN hK hP hD [4, 1, 2, 3] rfl (by decide) rfl rfl) rfl rfl hl.1 rfl (lv_room (Nat.le_of_ble_eq_true rfl)) dX5_voicesOfYes_27 ⟨Nat.zero_le _, Nat.zero_le _⟩) hP hD hS hA [4, 1, 2, 3] [0, 5, 6, 7] [0, 5, 6, 7, 4, 1, 2, 3] rfl rfl (by decide) (by decide) rfl (by decide) (fun H locs hP hD hS => ?_)
        refine lv_aload_n hx hb dX5_voicesOfYes_30 rfl (lv_at hl 0 rfl) ?_
        refine va_get (D := D) (ci := 5) (v := .ref (ad 20)) (C := RX5) (T := TX5) (N := 17) hx hb htg inX5 hown hK hP 0 rfl rfl 7 (by decide) (htg _ q_1_195) (fun _ h9 => h9) rfl dX5_voicesOfYes_31 ?_
        refine lv_iload_n hx hb dX5_voicesOfYes_34 rfl (lv_at hl 1 rfl) ?_
        refine va_putN (D := D) (ci := 3) (v := .int x.1) (ty := .int) (C := RX3) (T := TX3) (N := 9) hx hb htg inX3 tyX3 tyX3_ok nmX3 hown hK hP hD hS 4 rfl rfl 2 (by decide) (va_Nw.use rfl (hN _ q_1_144)) (fun _ h9 => h9) rfl (by decide +kernel) rfl rfl (Nat.le_of_ble_eq_true rfl) dX5_voicesOfYes_35 (fun H locs (hP : va_P D CL [((ad 0), e_X5 ad t), ((ad 1), e_X1 (ad 2) (ad 3) (ad 4) t_now), ((ad 2), eI cA 8 t_now_kinds), ((ad 4), eI cA 8 t_now_pitches), ((ad 20), e_X3 (ad 21) (upd o2 2 x.1)), ((ad 21), eI cA 13 x.2.2.2.2.2), ((ad 24), e_X4 (ad 25) t_told), ((ad 25), eI cA 12 t_told_sounds)] H) (hD : va_D A [((ad 0), e_X5 ad t), ((ad 1), e_X1 (ad 2) (ad 3) (ad 4) t_now), ((ad 2), eI cA 8 t_now_kinds), ((ad 4), eI cA 8 t_now_pitches), ((ad 20), e_X3 (ad 21) (upd o2 2 x.1)), ((ad 21), eI cA 13 x.2.2.2.2.2), ((ad 24), e_X4 (ad 25) t_told), ((ad 25), eI cA 12 t_told_sounds)]) hS => ?_)
        refine lv_aload_n hx hb dX5_voicesOfYes_38 rfl (lv_at hl 0 rfl) ?_
        refine va_get (D := D) (ci := 5) (v := .ref (ad 20)) (C := RX5) (T := TX5) (N := 17) hx hb htg inX5 hown hK hP 0 rfl rfl 7 (by decide) (htg _ q_1_195) (fun _ h9 => h9) rfl dX5_voicesOfYes_39 ?_
        refine lv_iload_n hx hb dX5_voicesOfYes_42 rfl (lv_at hl 2 rfl) ?_
        refine va_putN (D := D) (ci := 3) (v := .int x.2.1) (ty := .int) (C := RX3) (T := TX3) (N := 9) hx hb htg inX3 tyX3 tyX3_ok nmX3 hown hK hP hD hS 4 rfl rfl 5 (by decide) (va_Nw.use rfl (hN _ q_1_149)) (fun _ h9 => h9) rfl (by decide +kernel) rfl rfl (Nat.le_of_ble_eq_true rfl) dX5_voicesOfYes_43 (fun H locs (hP : va_P D CL [((ad 0), e_X5 ad t), ((ad 1), e_X1 (ad 2) (ad 3) (ad 4) t_now), ((ad 2), eI cA 8 t_now_kinds), ((ad 4), eI cA 8 t_now_pitches), ((ad 20), e_X3 (ad 21) (upd (upd o2 2 x.1) 5 x.2.1)), ((ad 21), eI cA 13 x.2.2.2.2.2), ((ad 24), e_X4 (ad 25) t_told), ((ad 25), eI cA 12 t_told_sounds)] H) (hD : va_D A [((ad 0), e_X5 ad t), ((ad 1), e_X1 (ad 2) (ad 3) (ad 4) t_now), ((ad 2), eI cA 8 t_now_kinds), ((ad 4), eI cA 8 t_now_pitches), ((ad 20), e_X3 (ad 21) (upd (upd o2 2 x.1) 5 x.2.1)), ((ad 21), eI cA 13 x.2.2.2.2.2), ((ad 24), e_X4 (ad 25) t_told), ((ad 25), eI cA 12 t_told_sounds)]) hS => ?_)
        refine lv_aload_n hx hb dX5_voicesOfYes_46 rfl (lv_at hl 0 rfl) ?_
        refine va_get (D := D) (ci := 5) (v := .ref (ad 20)) (C := RX5) (T := TX5) (N := 17) hx hb htg inX5 hown hK hP 0 rfl rfl 7 (by decide) (htg _ q_1_195) (fun _ h9 => h9) rfl dX5_voicesOfYes_47 ?_
        refine lv_aload_n hx hb dX5_voicesOfYes_50 rfl (lv_at hl 0 rfl) ?_
        refine va_get (D := D) (ci := 5) (v := .ref (ad 24)) (C := RX5) (T := TX5) (N := 17) hx hb htg inX5 hown hK hP 0 rfl rfl 9 (by decide) (htg _ q_1_197) (fun _ h9 => h9) rfl dX5_voicesOfYes_51 ?_
        obtain ⟨o4, ho5, hm⟩ := bd_s hm
        refine xr_i (wr := [((ad 0), e_X5 ad t), ((ad 1), e_X1 (ad 2) (ad 3) (ad 4) t_now), ((ad 2), eI cA 8 t_now_kinds), ((ad 4), eI cA 8 t_now_pitches)]) (wn := [((ad 0), e_X5 ad t), ((ad 1), e_X1 (ad 2) (ad 3) (ad 4) t_now), ((ad 2), eI cA 8 t_now_kinds), ((ad 4), eI cA 8 t_now_pitches), ((ad 20), e_X3 (ad 21) o4.2.1), ((ad 21), eI cA 13 o4.2.2), ((ad 24), e_X4 (ad 25) t_told), ((ad 25), eI cA 12 t_told_sounds)]) (va_runVN (As := [.ref (ad 24)]) (rest := []) ⟨hx, hb, hml, hown, htg⟩ (c_X3_weighs l D cA _ fu (ad 20) (ad 21) (ad 24) (ad 25) (upd (upd o2 2 x.1) 5 x.2.1) x.2.2.2.2.2 t_told t_told_sounds o4 ho5) ⟨va_cnB 1 htg (gU q_3_118) rfl rfl rfl (hN _ q_3_115) (htg _ q_1_6) hd_X3_weighs.2 ⟨Nat.le_of_ble_eq_true rfl, Nat.le_of_ble_eq_true rfl⟩, htg _ q_3_117, htg _ q_p3_11⟩ (xpV hN hK hP hD [4, 5, 6, 7] rfl (by decide) rfl rfl) rfl rfl hl.1 rfl (lv_room (Nat.le_of_ble_eq_true rfl)) dX5_voicesOfYes_54 ⟨Nat.zero_le _, Nat.zero_le _⟩) hP hD hS hA [4, 5, 6, 7] [0, 1, 2, 3] [0, 1, 2, 3, 4, 5, 6, 7] rfl rfl (by decide) (by decide) rfl (by decide) (fun H locs hP hD hS => ?_)
        refine lv_iconst (v := (1 : Int32)) hx hb dX5_voicesOfYes_57 (by decide) ?_
        refine lv_icmp_ne (tgt := 68) hx hb dX5_voicesOfYes_58 (by decide) (fun c6 => ?_) (fun c6 => ?_)
        · have hm := it_f c6 hm
          exact B_68 _ HK_5 _ _ _ _ _ _ _ _ _ hm hP hD hS (lv_sub hl [0, 1, 2, 3, 4] rfl)
        · have hm := it_t c6 hm
          refine lv_iload_n hx hb dX5_voicesOfYes_61 rfl (lv_at hl 3 rfl) ?_
          refine lv_iconst (v := (1 : Int32)) hx hb dX5_voicesOfYes_62 (by decide) ?_
          refine lv_iload hx hb dX5_voicesOfYes_63 (lv_at hl 4 rfl) ?_
          refine lv_ishl hx hb dX5_voicesOfYes_65 ?_
          refine lv_ior hx hb dX5_voicesOfYes_66 ?_
          refine lv_istore_n (lv' := [(3, .int (x.2.2.1 ||| ((1 : Int32) <<< (x.2.2.2.1 &&& 31)))), (0, .ref (ad 0)), (1, .int x.1), (2, .int x.2.1), (4, .int x.2.2.2.1)]) hx hb dX5_voicesOfYes_67 rfl hl (by decide) rfl (fun ls hl => ?_)
          exact B_68 _ HK_5 _ _ _ _ _ _ _ _ _ hm hP hD hS (lv_sub hl [1, 2, 3, 0, 4] rfl)
  unfold m_X5_voicesOfYes at hm
  subst hargs
  have hl := lv_entry ([.ref (ad 0), .int l1, .int l2]) (n := 5) (Nat.le_of_ble_eq_true rfl)
  rw [lg_entry_eq]
  generalize (lg_sl ([.ref (ad 0), .int l1, .int l2]) ++ List.replicate (5 - (lg_sl ([.ref (ad 0), .int l1, .int l2])).length) Slot.unset).toArray = ls at hl ⊢
  have hl : lv_has ls 5 [(0, .ref (ad 0)), (1, .int l1), (2, .int l2)] := hl
  refine lv_iconst (v := (0 : Int32)) hx hb dX5_voicesOfYes_0 (by decide) ?_
  refine lv_istore_n (lv' := [(3, .int (0 : Int32)), (0, .ref (ad 0)), (1, .int l1), (2, .int l2)]) hx hb dX5_voicesOfYes_1 rfl hl (by decide) rfl (fun ls hl => ?_)
  refine lv_iconst (v := (0 : Int32)) hx hb dX5_voicesOfYes_2 (by decide) ?_
  refine lv_istore (lv' := [(4, .int (0 : Int32)), (3, .int (0 : Int32)), (0, .ref (ad 0)), (1, .int l1), (2, .int l2)]) hx hb dX5_voicesOfYes_3 hl (by decide) rfl (fun ls hl => ?_)
  exact B_5 fu _ _ _ _ hm hP hD hS (lv_sub hl [2, 3, 4, 1, 0] rfl)
def m_X5_heard (fu : Nat) (t : Nat → Int32) (t_now : Nat → Int32) (t_now_kinds : Nat → Int32) (t_now_pitches : Nat → Int32) (t_shelves_holding : Nat → Int32) (t_shelves_sizes : Nat → Int32) (t_shelves_elements : Nat → Int64) (t_refusals : Nat → Int32) (t_trial : Nat → Int32) (t_trial_heard : Nat → Int32) (t_told : Nat → Int32) (t_told_sounds : Nat → Int32) (l1 : Int32) (l2 : Int32) : Option (Int32 × ((Nat → Int32) × (Nat → Int32) × (Nat → Int32) × (Nat → Int32) × (Nat → Int32))) :=
  (m_X5_takeWord fu t t_shelves_holding t_shelves_sizes t_shelves_elements t_refusals t_told t_told_sounds l1 l2 (1 : Int32)).bind fun o1 =>
  (if o1.1 = 0 then
    (m_X5_voicesOfYes fu t t_now t_now_kinds t_now_pitches t_trial t_trial_heard o1.2.2.1 o1.2.2.2 (t_now 0) (t_now 3)).bind fun o4 =>
    some (o4.1, (o1.2.1, o4.2.1, o4.2.2, o1.2.2.1, o1.2.2.2))
  else
    some (o1.1, (o1.2.1, t_trial, t_trial_heard, o1.2.2.1, o1.2.2.2)))
abbrev rm_X5_heard : Room := ({ frames := 6, cells := 0, slots := 0, locals := 138 } : Room)
abbrev w0_X5_heard (cA : Nat → ClassId) (ad : Nat → Nat) (t : Nat → Int32) (t_now : Nat → Int32) (t_now_kinds : Nat → Int32) (t_now_pitches : Nat → Int32) (t_shelves_holding : Nat → Int32) (t_shelves_sizes : Nat → Int32) (t_shelves_elements : Nat → Int64) (t_refusals : Nat → Int32) (t_trial : Nat → Int32) (t_trial_heard : Nat → Int32) (t_told : Nat → Int32) (t_told_sounds : Nat → Int32) : va_W := [((ad 0), e_X5 ad t), ((ad 1), e_X1 (ad 2) (ad 3) (ad 4) t_now), ((ad 2), eI cA 8 t_now_kinds), ((ad 4), eI cA 8 t_now_pitches), ((ad 13), e_X0 (ad 14) (ad 15) (ad 16)), ((ad 14), eI cA 8 t_shelves_holding), ((ad 15), eI cA 8 t_shelves_sizes), ((ad 16), eJ cA 320 t_shelves_elements), ((ad 19), eI cA 5 t_refusals), ((ad 20), e_X3 (ad 21) t_trial), ((ad 21), eI cA 13 t_trial_heard), ((ad 24), e_X4 (ad 25) t_told), ((ad 25), eI cA 12 t_told_sounds)]
abbrev w1_X5_heard (cA : Nat → ClassId) (ad : Nat → Nat) (t : Nat → Int32) (t_now : Nat → Int32) (t_now_kinds : Nat → Int32) (t_now_pitches : Nat → Int32) (t_shelves_holding : Nat → Int32) (t_shelves_sizes : Nat → Int32) (t_shelves_elements : Nat → Int64) (u : (Nat → Int32) × (Nat → Int32) × (Nat → Int32) × (Nat → Int32) × (Nat → Int32)) : va_W := [((ad 0), e_X5 ad t), ((ad 1), e_X1 (ad 2) (ad 3) (ad 4) t_now), ((ad 2), eI cA 8 t_now_kinds), ((ad 4), eI cA 8 t_now_pitches), ((ad 13), e_X0 (ad 14) (ad 15) (ad 16)), ((ad 14), eI cA 8 t_shelves_holding), ((ad 15), eI cA 8 t_shelves_sizes), ((ad 16), eJ cA 320 t_shelves_elements), ((ad 19), eI cA 5 u.1), ((ad 20), e_X3 (ad 21) u.2.1), ((ad 21), eI cA 13 u.2.2.1), ((ad 24), e_X4 (ad 25) u.2.2.2.1), ((ad 25), eI cA 12 u.2.2.2.2)]
theorem hd_X5_heard : yX5_heard.cls = RX5 ∧ yX5_heard.cls ≠ "java/lang/invoke/MethodHandle" ∧ yX5_heard.cls ≠ "java/lang/invoke/VarHandle" ∧ (parseMethodDescriptor yX5_heard.desc).map (fun d => d.parameters.length) = some 2 := by decide +kernel
set_option maxHeartbeats 40000000 in
set_option maxRecDepth 100000 in
theorem c_X5_heard (l : Launch) (D : va_G) (cA : Nat → ClassId) (sz : Nat) (fu : Nat) (ad : Nat → Nat) (t : Nat → Int32) (t_now : Nat → Int32) (t_now_kinds : Nat → Int32) (t_now_pitches : Nat → Int32) (t_shelves_holding : Nat → Int32) (t_shelves_sizes : Nat → Int32) (t_shelves_elements : Nat → Int64) (t_refusals : Nat → Int32) (t_trial : Nat → Int32) (t_trial_heard : Nat → Int32) (t_told : Nat → Int32) (t_told_sounds : Nat → Int32) (l1 : Int32) (l2 : Int32) (out : Int32 × ((Nat → Int32) × (Nat → Int32) × (Nat → Int32) × (Nat → Int32) × (Nat → Int32))) (hm : m_X5_heard fu t t_now t_now_kinds t_now_pitches t_shelves_holding t_shelves_sizes t_shelves_elements t_refusals t_trial t_trial_heard t_told t_told_sounds l1 l2 = some out) : MI l yX5_heard (wU yX5_heard cX5_heard 4 ((Option.some Jvm.ClassFile.FieldType.int))) rm_X5_heard D cA sz [.ref (ad 0), .int l1, .int l2] (w0_X5_heard cA ad t t_now t_now_kinds t_now_pitches t_shelves_holding t_shelves_sizes t_shelves_elements t_refusals t_trial t_trial_heard t_told t_told_sounds) out (w1_X5_heard cA ad t t_now t_now_kinds t_now_pitches t_shelves_holding t_shelves_sizes t_shelves_elements) := by
  refine Met.ofW (cc := cX5_heard) (maxL := 4) (ret := (Option.some Jvm.ClassFile.FieldType.int)) (by decide) rfl ?_
  intro p e s m args below meth c s₁ B hml hv
  obtain ⟨hargs, hsz, hP, hK, hD0, hN⟩ := hv
  have hx := B.exec
  have hb := B.bytes
  have hr := B.returns
  have htg : ∀ w ∈ gw, w.before args s = true := fun w h => atoms_spec (ws := wU yX5_heard cX5_heard 4 ((Option.some Jvm.ClassFile.FieldType.int))) B.pre w (List.mem_cons_of_mem _ h)
  have hown : s.vm.findClass RX5 = some m.cls := findClass_of_methodNamed B.named
  have hlocks := B.notSynchronized
  subst hsz
  have hD := hD0.self (sz := s.heap.size)
  have hA : ∀ q : Nat, s.heap.size ≤ q → va_A (w0_X5_heard cA ad t t_now t_now_kinds t_now_pitches t_shelves_holding t_shelves_sizes t_shelves_elements t_refusals t_trial t_trial_heard t_told t_told_sounds) s.heap.size q := fun q h => Or.inr h
  have hS : va_S (va_A (w0_X5_heard cA ad t t_now t_now_kinds t_now_pitches t_shelves_holding t_shelves_sizes t_shelves_elements t_refusals t_trial t_trial_heard t_told t_told_sounds) s.heap.size) s.heap s.heap [] := va_S.rf
  generalize va_A (w0_X5_heard cA ad t t_now t_now_kinds t_now_pitches t_shelves_holding t_shelves_sizes t_shelves_elements t_refusals t_trial t_trial_heard t_told t_told_sounds) s.heap.size = A at hA hD hS ⊢
  obtain ⟨Q, hQ⟩ : ∃ Q : State → Prop, Q = MQ below (va_Qi (fun (r : Int32) (u : (Nat → Int32) × (Nat → Int32) × (Nat → Int32) × (Nat → Int32) × (Nat → Int32)) => (r, u) = out) (pst0 D cA A (w1_X5_heard cA ad t t_now t_now_kinds t_now_pitches t_shelves_holding t_shelves_sizes t_shelves_elements)) A) args s 0 0 A := ⟨_, rfl⟩
  refine (?_ : W p l e rm_X5_heard s m args below meth c s.heap [] 0 0 (MQ below (va_Qi (fun (r : Int32) (u : (Nat → Int32) × (Nat → Int32) × (Nat → Int32) × (Nat → Int32) × (Nat → Int32)) => (r, u) = out) (pst0 D cA A (w1_X5_heard cA ad t t_now t_now_kinds t_now_pitches t_shelves_holding t_shelves_sizes t_shelves_elements)) A) args s 0 0 A) (entryFrame m args 4))
  rw [← hQ]
  have hP : va_P D CL [((ad 0), e_X5 ad t), ((ad 1), e_X1 (ad 2) (ad 3) (ad 4) t_now), ((ad 2), eI cA 8 t_now_kinds), ((ad 4), eI cA 8 t_now_pitches), ((ad 13), e_X0 (ad 14) (ad 15) (ad 16)), ((ad 14), eI cA 8 t_shelves_holding), ((ad 15), eI cA 8 t_shelves_sizes), ((ad 16), eJ cA 320 t_shelves_elements), ((ad 19), eI cA 5 t_refusals), ((ad 20), e_X3 (ad 21) t_trial), ((ad 21), eI cA 13 t_trial_heard), ((ad 24), e_X4 (ad 25) t_told), ((ad 25), eI cA 12 t_told_sounds)] s.heap := hP
  have hD : va_D A [((ad 0), e_X5 ad t), ((ad 1), e_X1 (ad 2) (ad 3) (ad 4) t_now), ((ad 2), eI cA 8 t_now_kinds), ((ad 4), eI cA 8 t_now_pitches), ((ad 13), e_X0 (ad 14) (ad 15) (ad 16)), ((ad 14), eI cA 8 t_shelves_holding), ((ad 15), eI cA 8 t_shelves_sizes), ((ad 16), eJ cA 320 t_shelves_elements), ((ad 19), eI cA 5 t_refusals), ((ad 20), e_X3 (ad 21) t_trial), ((ad 21), eI cA 13 t_trial_heard), ((ad 24), e_X4 (ad 25) t_told), ((ad 25), eI cA 12 t_told_sounds)] := hD
  unfold m_X5_heard at hm
  subst hargs
  have hl := lv_entry ([.ref (ad 0), .int l1, .int l2]) (n := 4) (Nat.le_of_ble_eq_true rfl)
  rw [lg_entry_eq]
  generalize (lg_sl ([.ref (ad 0), .int l1, .int l2]) ++ List.replicate (4 - (lg_sl ([.ref (ad 0), .int l1, .int l2])).length) Slot.unset).toArray = ls at hl ⊢
  have hl : lv_has ls 4 [(0, .ref (ad 0)), (1, .int l1), (2, .int l2)] := hl
  refine lv_aload_n hx hb dX5_heard_0 rfl (lv_at hl 0 rfl) ?_
  refine lv_iload_n hx hb dX5_heard_1 rfl (lv_at hl 1 rfl) ?_
  refine lv_iload_n hx hb dX5_heard_2 rfl (lv_at hl 2 rfl) ?_
  refine lv_iconst (v := (1 : Int32)) hx hb dX5_heard_3 (by decide) ?_
  obtain ⟨o1, ho2, hm⟩ := bd_s hm
  refine xr_i (wr := [((ad 1), e_X1 (ad 2) (ad 3) (ad 4) t_now), ((ad 2), eI cA 8 t_now_kinds), ((ad 4), eI cA 8 t_now_pitches), ((ad 20), e_X3 (ad 21) t_trial), ((ad 21), eI cA 13 t_trial_heard)]) (wn := [((ad 0), e_X5 ad t), ((ad 1), e_X1 (ad 2) (ad 3) (ad 4) t_now), ((ad 2), eI cA 8 t_now_kinds), ((ad 4), eI cA 8 t_now_pitches), ((ad 13), e_X0 (ad 14) (ad 15) (ad 16)), ((ad 14), eI cA 8 t_shelves_holding), ((ad 15), eI cA 8 t_shelves_sizes), ((ad 16), eJ cA 320 t_shelves_elements), ((ad 19), eI cA 5 o1.2.1), ((ad 20), e_X3 (ad 21) t_trial), ((ad 21), eI cA 13 t_trial_heard), ((ad 24), e_X4 (ad 25) o1.2.2.1), ((ad 25), eI cA 12 o1.2.2.2)]) (va_runV (As := [.int l1, .int l2, .int (1 : Int32)]) (rest := []) ⟨hx, hb, hml, hown, htg⟩ (c_X5_takeWord l D cA _ fu ad t t_shelves_holding t_shelves_sizes t_shelves_elements t_refusals t_told t_told_sounds l1 l2 (1 : Int32) o1 ho2) (cwV 3 htg (gV q_3_126 q_3_128 q_p3_12 q_1_1 q_3_129) rfl rfl rfl hd_X5_takeWord ⟨Nat.le_of_ble_eq_true rfl, Nat.le_of_ble_eq_true rfl⟩) (xpV hN hK hP hD [0, 4, 5, 6, 7, 8, 11, 12] rfl (by decide) rfl rfl) rfl rfl hl.1 rfl (lv_room (Nat.le_of_ble_eq_true rfl)) dX5_heard_4 ⟨Nat.zero_le _, Nat.zero_le _⟩) hP hD hS hA [0, 4, 5, 6, 7, 8, 11, 12] [1, 2, 3, 9, 10] [5, 0, 1, 2, 6, 7, 8, 9, 10, 3, 4, 11, 12] rfl rfl (by decide) (by decide) rfl (by decide) (fun H locs hP hD hS => ?_)
  refine lv_istore_n (lv' := [(3, .int o1.1), (0, .ref (ad 0)), (1, .int l1), (2, .int l2)]) hx hb dX5_heard_7 rfl hl (by decide) rfl (fun ls hl => ?_)
  refine lv_iload_n hx hb dX5_heard_8 rfl (lv_at hl 0 rfl) ?_
  refine lv_if_eq (tgt := 14) hx hb dX5_heard_9 (by decide) (fun c3 => ?_) (fun c3 => ?_)
  · have hm := it_t c3 hm
    refine lv_aload_n hx hb dX5_heard_14 rfl (lv_at hl 1 rfl) ?_
    refine lv_aload_n hx hb dX5_heard_15 rfl (lv_at hl 1 rfl) ?_
    refine va_get (D := D) (ci := 5) (v := .ref (ad 1)) (C := RX5) (T := TX5) (N := 17) hx hb htg inX5 hown hK hP 0 rfl rfl 0 (by decide) (htg _ q_1_188) (fun _ h9 => h9) rfl dX5_heard_16 ?_
    refine va_getN (D := D) (ci := 1) (v := .int (t_now 0)) (C := RX1) (T := TX1) (N := 12) hx hb htg inX1 hown hK hP 1 rfl rfl 0 (by decide) (va_Nw.use rfl (hN _ q_1_34)) (fun _ h9 => h9) rfl dX5_heard_19 ?_
    refine lv_aload_n hx hb dX5_heard_22 rfl (lv_at hl 1 rfl) ?_
    refine va_get (D := D) (ci := 5) (v := .ref (ad 1)) (C := RX5) (T := TX5) (N := 17) hx hb htg inX5 hown hK hP 0 rfl rfl 0 (by decide) (htg _ q_1_188) (fun _ h9 => h9) rfl dX5_heard_23 ?_
    refine va_getN (D := D) (ci := 1) (v := .int (t_now 3)) (C := RX1) (T := TX1) (N := 12) hx hb htg inX1 hown hK hP 1 rfl rfl 3 (by decide) (va_Nw.use rfl (hN _ q_1_46)) (fun _ h9 => h9) rfl dX5_heard_26 ?_
    obtain ⟨o4, ho5, hm⟩ := bd_s hm
    refine xr_i (wr := [((ad 13), e_X0 (ad 14) (ad 15) (ad 16)), ((ad 14), eI cA 8 t_shelves_holding), ((ad 15), eI cA 8 t_shelves_sizes), ((ad 16), eJ cA 320 t_shelves_elements), ((ad 19), eI cA 5 o1.2.1)]) (wn := [((ad 0), e_X5 ad t), ((ad 1), e_X1 (ad 2) (ad 3) (ad 4) t_now), ((ad 2), eI cA 8 t_now_kinds), ((ad 4), eI cA 8 t_now_pitches), ((ad 13), e_X0 (ad 14) (ad 15) (ad 16)), ((ad 14), eI cA 8 t_shelves_holding), ((ad 15), eI cA 8 t_shelves_sizes), ((ad 16), eJ cA 320 t_shelves_elements), ((ad 19), eI cA 5 o1.2.1), ((ad 20), e_X3 (ad 21) o4.2.1), ((ad 21), eI cA 13 o4.2.2), ((ad 24), e_X4 (ad 25) o1.2.2.1), ((ad 25), eI cA 12 o1.2.2.2)]) (va_runV (As := [.int (t_now 0), .int (t_now 3)]) (rest := []) ⟨hx, hb, hml, hown, htg⟩ (c_X5_voicesOfYes l D cA _ fu ad t t_now t_now_kinds t_now_pitches t_trial t_trial_heard o1.2.2.1 o1.2.2.2 (t_now 0) (t_now 3) o4 ho5) (cwV 2 htg (gV q_4_31 q_4_33 q_p4_7 q_1_1 q_4_34) rfl rfl rfl hd_X5_voicesOfYes ⟨Nat.le_of_ble_eq_true rfl, Nat.le_of_ble_eq_true rfl⟩) (xpV hN hK hP hD [0, 1, 2, 3, 9, 10, 11, 12] rfl (by decide) rfl rfl) rfl rfl hl.1 rfl (lv_room (Nat.le_of_ble_eq_true rfl)) dX5_heard_29 ⟨Nat.zero_le _, Nat.zero_le _⟩) hP hD hS hA [0, 1, 2, 3, 9, 10, 11, 12] [4, 5, 6, 7, 8] [5, 6, 7, 8, 0, 1, 2, 3, 4, 9, 10, 11, 12] rfl rfl (by decide) (by decide) rfl (by decide) (fun H locs hP hD hS => ?_)
    rw [hQ]
    exact W.iret (v := o4.1) hx hb hr (fun t9 ht hW => ⟨⟨o4.1, (o1.2.1, o4.2.1, o4.2.2, o1.2.2.1, o1.2.2.2), rfl, (Option.some.inj hm), by rw [ht]; exact hP, va_K.moved hW.alike hK, hD⟩, hS.F ht⟩) hS.2.2 dX5_heard_32
  · have hm := it_f c3 hm
    refine lv_iload_n hx hb dX5_heard_12 rfl (lv_at hl 0 rfl) ?_
    rw [hQ]
    exact W.iret (v := o1.1) hx hb hr (fun t9 ht hW => ⟨⟨o1.1, (o1.2.1, t_trial, t_trial_heard, o1.2.2.1, o1.2.2.2), rfl, (Option.some.inj hm), by rw [ht]; exact hP, va_K.moved hW.alike hK, hD⟩, hS.F ht⟩) hS.2.2 dX5_heard_13
def b_X5_mute_69 (fu : Nat) (t : Nat → Int32) (t_now : Nat → Int32) (t_now_kinds : Nat → Int32) (t_now_pitches : Nat → Int32) (t_shelves_holding : Nat → Int32) (t_shelves_sizes : Nat → Int32) (t_shelves_elements : Nat → Int64) (k_20 : (Int32 × Int32 × (Nat → Int32) × (Nat → Int32) × (Nat → Int32) × (Nat → Int32) × (Nat → Int32)) → Option (Int32 × ((Nat → Int32) × (Nat → Int32) × (Nat → Int32) × (Nat → Int32) × (Nat → Int32)))) (l4 : Int32) (l5 : Int32) (t_refusals : Nat → Int32) (t_trial : Nat → Int32) (t_trial_heard : Nat → Int32) (t_told : Nat → Int32) (t_told_sounds : Nat → Int32) : Option (Int32 × ((Nat → Int32) × (Nat → Int32) × (Nat → Int32) × (Nat → Int32) × (Nat → Int32))) :=
  k_20 (l4, (l5 + (1 : Int32)), t_refusals, t_trial, t_trial_heard, t_told, t_told_sounds)
def b_X5_mute_20 (fu : Nat) (t : Nat → Int32) (t_now : Nat → Int32) (t_now_kinds : Nat → Int32) (t_now_pitches : Nat → Int32) (t_shelves_holding : Nat → Int32) (t_shelves_sizes : Nat → Int32) (t_shelves_elements : Nat → Int64) (k_20 : (Int32 × Int32 × (Nat → Int32) × (Nat → Int32) × (Nat → Int32) × (Nat → Int32) × (Nat → Int32)) → Option (Int32 × ((Nat → Int32) × (Nat → Int32) × (Nat → Int32) × (Nat → Int32) × (Nat → Int32)))) (x : Int32 × Int32 × (Nat → Int32) × (Nat → Int32) × (Nat → Int32) × (Nat → Int32) × (Nat → Int32)) : Option (Int32 × ((Nat → Int32) × (Nat → Int32) × (Nat → Int32) × (Nat → Int32) × (Nat → Int32))) :=
  (if t_now 8 ≤ x.2.1 then
        some (x.1, (x.2.2.1, x.2.2.2.1, x.2.2.2.2.1, x.2.2.2.2.2.1, x.2.2.2.2.2.2))
      else
        (m_X3_standsFor fu x.2.2.2.1 t_now t_now_kinds t_now_pitches x.2.1).bind fun o2 =>
        (m_X3_weighs fu o2 x.2.2.2.2.1 x.2.2.2.2.2.1 x.2.2.2.2.2.2).bind fun o4 =>
        (if o4.1 = (-1 : Int32) then
          b_X5_mute_69 fu t t_now t_now_kinds t_now_pitches t_shelves_holding t_shelves_sizes t_shelves_elements k_20 (x.1 ||| ((1 : Int32) <<< (x.2.1 &&& 31))) x.2.1 x.2.2.1 o4.2.1 o4.2.2 x.2.2.2.2.2.1 x.2.2.2.2.2.2
        else
          b_X5_mute_69 fu t t_now t_now_kinds t_now_pitches t_shelves_holding t_shelves_sizes t_shelves_elements k_20 x.1 x.2.1 x.2.2.1 o4.2.1 o4.2.2 x.2.2.2.2.2.1 x.2.2.2.2.2.2))
def m_X5_mute (fu : Nat) (t : Nat → Int32) (t_now : Nat → Int32) (t_now_kinds : Nat → Int32) (t_now_pitches : Nat → Int32) (t_shelves_holding : Nat → Int32) (t_shelves_sizes : Nat → Int32) (t_shelves_elements : Nat → Int64) (t_refusals : Nat → Int32) (t_trial : Nat → Int32) (t_trial_heard : Nat → Int32) (t_told : Nat → Int32) (t_told_sounds : Nat → Int32) (l1 : Int32) (l2 : Int32) : Option (Int32 × ((Nat → Int32) × (Nat → Int32) × (Nat → Int32) × (Nat → Int32) × (Nat → Int32))) :=
  (m_X5_takeWord fu t t_shelves_holding t_shelves_sizes t_shelves_elements t_refusals t_told t_told_sounds l1 l2 (1 : Int32)).bind fun o7 =>
  (if o7.1 = 0 then
    lfix (b_X5_mute_20 fu t t_now t_now_kinds t_now_pitches t_shelves_holding t_shelves_sizes t_shelves_elements) fu ((0 : Int32), (0 : Int32), o7.2.1, t_trial, t_trial_heard, o7.2.2.1, o7.2.2.2)
  else
    some (o7.1, (o7.2.1, t_trial, t_trial_heard, o7.2.2.1, o7.2.2.2)))
abbrev rm_X5_mute : Room := ({ frames := 6, cells := 0, slots := 0, locals := 138 } : Room)
abbrev w0_X5_mute (cA : Nat → ClassId) (ad : Nat → Nat) (t : Nat → Int32) (t_now : Nat → Int32) (t_now_kinds : Nat → Int32) (t_now_pitches : Nat → Int32) (t_shelves_holding : Nat → Int32) (t_shelves_sizes : Nat → Int32) (t_shelves_elements : Nat → Int64) (t_refusals : Nat → Int32) (t_trial : Nat → Int32) (t_trial_heard : Nat → Int32) (t_told : Nat → Int32) (t_told_sounds : Nat → Int32) : va_W := [((ad 0), e_X5 ad t), ((ad 1), e_X1 (ad 2) (ad 3) (ad 4) t_now), ((ad 2), eI cA 8 t_now_kinds), ((ad 4), eI cA 8 t_now_pitches), ((ad 13), e_X0 (ad 14) (ad 15) (ad 16)), ((ad 14), eI cA 8 t_shelves_holding), ((ad 15), eI cA 8 t_shelves_sizes), ((ad 16), eJ cA 320 t_shelves_elements), ((ad 19), eI cA 5 t_refusals), ((ad 20), e_X3 (ad 21) t_trial), ((ad 21), eI cA 13 t_trial_heard), ((ad 24), e_X4 (ad 25) t_told), ((ad 25), eI cA 12 t_told_sounds)]
abbrev w1_X5_mute (cA : Nat → ClassId) (ad : Nat → Nat) (t : Nat → Int32) (t_now : Nat → Int32) (t_now_kinds : Nat → Int32) (t_now_pitches : Nat → Int32) (t_shelves_holding : Nat → Int32) (t_shelves_sizes : Nat → Int32) (t_shelves_elements : Nat → Int64) (u : (Nat → Int32) × (Nat → Int32) × (Nat → Int32) × (Nat → Int32) × (Nat → Int32)) : va_W := [((ad 0), e_X5 ad t), ((ad 1), e_X1 (ad 2) (ad 3) (ad 4) t_now), ((ad 2), eI cA 8 t_now_kinds), ((ad 4), eI cA 8 t_now_pitches), ((ad 13), e_X0 (ad 14) (ad 15) (ad 16)), ((ad 14), eI cA 8 t_shelves_holding), ((ad 15), eI cA 8 t_shelves_sizes), ((ad 16), eJ cA 320 t_shelves_elements), ((ad 19), eI cA 5 u.1), ((ad 20), e_X3 (ad 21) u.2.1), ((ad 21), eI cA 13 u.2.2.1), ((ad 24), e_X4 (ad 25) u.2.2.2.1), ((ad 25), eI cA 12 u.2.2.2.2)]
theorem hd_X5_mute : yX5_mute.cls = RX5 ∧ yX5_mute.cls ≠ "java/lang/invoke/MethodHandle" ∧ yX5_mute.cls ≠ "java/lang/invoke/VarHandle" ∧ (parseMethodDescriptor yX5_mute.desc).map (fun d => d.parameters.length) = some 2 := by decide +kernel
set_option maxHeartbeats 40000000 in
set_option maxRecDepth 100000 in
theorem c_X5_mute (l : Launch) (D : va_G) (cA : Nat → ClassId) (sz : Nat) (fu : Nat) (ad : Nat → Nat) (t : Nat → Int32) (t_now : Nat → Int32) (t_now_kinds : Nat → Int32) (t_now_pitches : Nat → Int32) (t_shelves_holding : Nat → Int32) (t_shelves_sizes : Nat → Int32) (t_shelves_elements : Nat → Int64) (t_refusals : Nat → Int32) (t_trial : Nat → Int32) (t_trial_heard : Nat → Int32) (t_told : Nat → Int32) (t_told_sounds : Nat → Int32) (l1 : Int32) (l2 : Int32) (out : Int32 × ((Nat → Int32) × (Nat → Int32) × (Nat → Int32) × (Nat → Int32) × (Nat → Int32))) (hm : m_X5_mute fu t t_now t_now_kinds t_now_pitches t_shelves_holding t_shelves_sizes t_shelves_elements t_refusals t_trial t_trial_heard t_told t_told_sounds l1 l2 = some out) : MI l yX5_mute (wU yX5_mute cX5_mute 6 ((Option.some Jvm.ClassFile.FieldType.int))) rm_X5_mute D cA sz [.ref (ad 0), .int l1, .int l2] (w0_X5_mute cA ad t t_now t_now_kinds t_now_pitches t_shelves_holding t_shelves_sizes t_shelves_elements t_refusals t_trial t_trial_heard t_told t_told_sounds) out (w1_X5_mute cA ad t t_now t_now_kinds t_now_pitches t_shelves_holding t_shelves_sizes t_shelves_elements) := by
  refine Met.ofW (cc := cX5_mute) (maxL := 6) (ret := (Option.some Jvm.ClassFile.FieldType.int)) (by decide) rfl ?_
  intro p e s m args below meth c s₁ B hml hv
  obtain ⟨hargs, hsz, hP, hK, hD0, hN⟩ := hv
  have hx := B.exec
  have hb := B.bytes
  have hr := B.returns
  have htg : ∀ w ∈ gw, w.before args s = true := fun w h => atoms_spec (ws := wU yX5_mute cX5_mute 6 ((Option.some Jvm.ClassFile.FieldType.int))) B.pre w (List.mem_cons_of_mem _ h)
  have hown : s.vm.findClass RX5 = some m.cls := findClass_of_methodNamed B.named
  have hlocks := B.notSynchronized
  subst hsz
  have hD := hD0.self (sz := s.heap.size)
  have hA : ∀ q : Nat, s.heap.size ≤ q → va_A (w0_X5_mute cA ad t t_now t_now_kinds t_now_pitches t_shelves_holding t_shelves_sizes t_shelves_elements t_refusals t_trial t_trial_heard t_told t_told_sounds) s.heap.size q := fun q h => Or.inr h
  have hS : va_S (va_A (w0_X5_mute cA ad t t_now t_now_kinds t_now_pitches t_shelves_holding t_shelves_sizes t_shelves_elements t_refusals t_trial t_trial_heard t_told t_told_sounds) s.heap.size) s.heap s.heap [] := va_S.rf
  generalize va_A (w0_X5_mute cA ad t t_now t_now_kinds t_now_pitches t_shelves_holding t_shelves_sizes t_shelves_elements t_refusals t_trial t_trial_heard t_told t_told_sounds) s.heap.size = A at hA hD hS ⊢
  obtain ⟨Q, hQ⟩ : ∃ Q : State → Prop, Q = MQ below (va_Qi (fun (r : Int32) (u : (Nat → Int32) × (Nat → Int32) × (Nat → Int32) × (Nat → Int32) × (Nat → Int32)) => (r, u) = out) (pst0 D cA A (w1_X5_mute cA ad t t_now t_now_kinds t_now_pitches t_shelves_holding t_shelves_sizes t_shelves_elements)) A) args s 0 0 A := ⟨_, rfl⟩
  refine (?_ : W p l e rm_X5_mute s m args below meth c s.heap [] 0 0 (MQ below (va_Qi (fun (r : Int32) (u : (Nat → Int32) × (Nat → Int32) × (Nat → Int32) × (Nat → Int32) × (Nat → Int32)) => (r, u) = out) (pst0 D cA A (w1_X5_mute cA ad t t_now t_now_kinds t_now_pitches t_shelves_holding t_shelves_sizes t_shelves_elements)) A) args s 0 0 A) (entryFrame m args 6))
  rw [← hQ]
  have hP : va_P D CL [((ad 0), e_X5 ad t), ((ad 1), e_X1 (ad 2) (ad 3) (ad 4) t_now), ((ad 2), eI cA 8 t_now_kinds), ((ad 4), eI cA 8 t_now_pitches), ((ad 13), e_X0 (ad 14) (ad 15) (ad 16)), ((ad 14), eI cA 8 t_shelves_holding), ((ad 15), eI cA 8 t_shelves_sizes), ((ad 16), eJ cA 320 t_shelves_elements), ((ad 19), eI cA 5 t_refusals), ((ad 20), e_X3 (ad 21) t_trial), ((ad 21), eI cA 13 t_trial_heard), ((ad 24), e_X4 (ad 25) t_told), ((ad 25), eI cA 12 t_told_sounds)] s.heap := hP
  have hD : va_D A [((ad 0), e_X5 ad t), ((ad 1), e_X1 (ad 2) (ad 3) (ad 4) t_now), ((ad 2), eI cA 8 t_now_kinds), ((ad 4), eI cA 8 t_now_pitches), ((ad 13), e_X0 (ad 14) (ad 15) (ad 16)), ((ad 14), eI cA 8 t_shelves_holding), ((ad 15), eI cA 8 t_shelves_sizes), ((ad 16), eJ cA 320 t_shelves_elements), ((ad 19), eI cA 5 t_refusals), ((ad 20), e_X3 (ad 21) t_trial), ((ad 21), eI cA 13 t_trial_heard), ((ad 24), e_X4 (ad 25) t_told), ((ad 25), eI cA 12 t_told_sounds)] := hD
  have B_69 : ∀ (k_20 : (Int32 × Int32 × (Nat → Int32) × (Nat → Int32) × (Nat → Int32) × (Nat → Int32) × (Nat → Int32)) → Option (Int32 × ((Nat → Int32) × (Nat → Int32) × (Nat → Int32) × (Nat → Int32) × (Nat → Int32)))) (HK_20 : ∀ (x : Int32 × Int32 × (Nat → Int32) × (Nat → Int32) × (Nat → Int32) × (Nat → Int32) × (Nat → Int32)) (H : Heap) (locs : List Loc) (ls : Array Slot), k_20 x = some out → va_P D CL [((ad 0), e_X5 ad t), ((ad 1), e_X1 (ad 2) (ad 3) (ad 4) t_now), ((ad 2), eI cA 8 t_now_kinds), ((ad 4), eI cA 8 t_now_pitches), ((ad 13), e_X0 (ad 14) (ad 15) (ad 16)), ((ad 14), eI cA 8 t_shelves_holding), ((ad 15), eI cA 8 t_shelves_sizes), ((ad 16), eJ cA 320 t_shelves_elements), ((ad 19), eI cA 5 x.2.2.1), ((ad 20), e_X3 (ad 21) x.2.2.2.1), ((ad 21), eI cA 13 x.2.2.2.2.1), ((ad 24), e_X4 (ad 25) x.2.2.2.2.2.1), ((ad 25), eI cA 12 x.2.2.2.2.2.2)] H → va_D A [((ad 0), e_X5 ad t), ((ad 1), e_X1 (ad 2) (ad 3) (ad 4) t_now), ((ad 2), eI cA 8 t_now_kinds), ((ad 4), eI cA 8 t_now_pitches), ((ad 13), e_X0 (ad 14) (ad 15) (ad 16)), ((ad 14), eI cA 8 t_shelves_holding), ((ad 15), eI cA 8 t_shelves_sizes), ((ad 16), eJ cA 320 t_shelves_elements), ((ad 19), eI cA 5 x.2.2.1), ((ad 20), e_X3 (ad 21) x.2.2.2.1), ((ad 21), eI cA 13 x.2.2.2.2.1), ((ad 24), e_X4 (ad 25) x.2.2.2.2.2.1), ((ad 25), eI cA 12 x.2.2.2.2.2.2)] → va_S A s.heap H locs → lv_has ls 6 [(0, .ref (ad 0)), (4, .int x.1), (5, .int x.2.1)] → W p l e rm_X5_mute s m args below meth c H locs 0 0 Q (F0 m 20 ls [])) (l4 : Int32) (l5 : Int32) (t_refusals : Nat → Int32) (t_trial : Nat → Int32) (t_trial_heard : Nat → Int32) (t_told : Nat → Int32) (t_told_sounds : Nat → Int32) (H : Heap) (locs : List Loc) (ls : Array Slot), b_X5_mute_69 fu t t_now t_now_kinds t_now_pitches t_shelves_holding t_shelves_sizes t_shelves_elements k_20 l4 l5 t_refusals t_trial t_trial_heard t_told t_told_sounds = some out → va_P D CL [((ad 0), e_X5 ad t), ((ad 1), e_X1 (ad 2) (ad 3) (ad 4) t_now), ((ad 2), eI cA 8 t_now_kinds), ((ad 4), eI cA 8 t_now_pitches), ((ad 13), e_X0 (ad 14) (ad 15) (ad 16)), ((ad 14), eI cA 8 t_shelves_holding), ((ad 15), eI cA 8 t_shelves_sizes), ((ad 16), eJ cA 320 t_shelves_elements), ((ad 19), eI cA 5 t_refusals), ((ad 20), e_X3 (ad 21) t_trial), ((ad 21), eI cA 13 t_trial_heard), ((ad 24), e_X4 (ad 25) t_told), ((ad 25), eI cA 12 t_told_sounds)] H → va_D A [((ad 0), e_X5 ad t), ((ad 1), e_X1 (ad 2) (ad 3) (ad 4) t_now), ((ad 2), eI cA 8 t_now_kinds), ((ad 4), eI cA 8 t_now_pitches), ((ad 13), e_X0 (ad 14) (ad 15) (ad 16)), ((ad 14), eI cA 8 t_shelves_holding), ((ad 15), eI cA 8 t_shelves_sizes), ((ad 16), eJ cA 320 t_shelves_elements), ((ad 19), eI cA 5 t_refusals), ((ad 20), e_X3 (ad 21) t_trial), ((ad 21), eI cA 13 t_trial_heard), ((ad 24), e_X4 (ad 25) t_told), ((ad 25), eI cA 12 t_told_sounds)] → va_S A s.heap H locs → lv_has ls 6 [(0, .ref (ad 0)), (4, .int l4), (5, .int l5)] → W p l e rm_X5_mute s m args below meth c H locs 0 0 Q (F0 m 69 ls []) := by
    intro k_20 HK_20 l4 l5 t_refusals t_trial t_trial_heard t_told t_told_sounds H locs ls hm hP hD hS hl
    unfold b_X5_mute_69 at hm
    refine lv_iinc (v := (l5 + (1 : Int32))) (lv' := [(5, .int (l5 + (1 : Int32))), (0, .ref (ad 0)), (4, .int l4)]) hx hb dX5_mute_69 hl (k := 2) rfl rfl (by decide) rfl (fun ls hl => ?_)
    refine lv_goto (tgt := 20) hx hb dX5_mute_72 (by decide) ?_
    exact HK_20 _ _ _ _ hm hP hD hS (lv_sub hl [1, 2, 0] rfl)
  have B_20 : ∀ (n : Nat) (x : Int32 × Int32 × (Nat → Int32) × (Nat → Int32) × (Nat → Int32) × (Nat → Int32) × (Nat → Int32)) (H : Heap) (locs : List Loc) (ls : Array Slot), lfix (b_X5_mute_20 fu t t_now t_now_kinds t_now_pitches t_shelves_holding t_shelves_sizes t_shelves_elements) n x = some out → va_P D CL [((ad 0), e_X5 ad t), ((ad 1), e_X1 (ad 2) (ad 3) (ad 4) t_now), ((ad 2), eI cA 8 t_now_kinds), ((ad 4), eI cA 8 t_now_pitches), ((ad 13), e_X0 (ad 14) (ad 15) (ad 16)), ((ad 14), eI cA 8 t_shelves_holding), ((ad 15), eI cA 8 t_shelves_sizes), ((ad 16), eJ cA 320 t_shelves_elements), ((ad 19), eI cA 5 x.2.2.1), ((ad 20), e_X3 (ad 21) x.2.2.2.1), ((ad 21), eI cA 13 x.2.2.2.2.1), ((ad 24), e_X4 (ad 25) x.2.2.2.2.2.1), ((ad 25), eI cA 12 x.2.2.2.2.2.2)] H → va_D A [((ad 0), e_X5 ad t), ((ad 1), e_X1 (ad 2) (ad 3) (ad 4) t_now), ((ad 2), eI cA 8 t_now_kinds), ((ad 4), eI cA 8 t_now_pitches), ((ad 13), e_X0 (ad 14) (ad 15) (ad 16)), ((ad 14), eI cA 8 t_shelves_holding), ((ad 15), eI cA 8 t_shelves_sizes), ((ad 16), eJ cA 320 t_shelves_elements), ((ad 19), eI cA 5 x.2.2.1), ((ad 20), e_X3 (ad 21) x.2.2.2.1), ((ad 21), eI cA 13 x.2.2.2.2.1), ((ad 24), e_X4 (ad 25) x.2.2.2.2.2.1), ((ad 25), eI cA 12 x.2.2.2.2.2.2)] → va_S A s.heap H locs → lv_has ls 6 [(0, .ref (ad 0)), (4, .int x.1), (5, .int x.2.1)] → W p l e rm_X5_mute s m args below meth c H locs 0 0 Q (F0 m 20 ls []) := by
    intro  n
    induction n with
    | zero => intro x H locs ls hm; cases (show none = some out from hm)
    | succ n HK_20 =>
      intro x H locs ls hm hP hD hS hl
      replace hm : b_X5_mute_20 fu t t_now t_now_kinds t_now_pitches t_shelves_holding t_shelves_sizes t_shelves_elements (lfix (b_X5_mute_20 fu t t_now t_now_kinds t_now_pitches t_shelves_holding t_shelves_sizes t_shelves_elements) n) x = some out := hm
      unfold b_X5_mute_20 at hm
      refine lv_iload hx hb dX5_mute_20 (lv_at hl 2 rfl) ?_
      refine lv_aload_n hx hb dX5_mute_22 rfl (lv_at hl 0 rfl) ?_
      refine va_get (D := D) (ci := 5) (v := .ref (ad 1)) (C := RX5) (T := TX5) (N := 17) hx hb htg inX5 hown hK hP 0 rfl rfl 0 (by decide) (htg _ q_1_188) (fun _ h9 => h9) rfl dX5_mute_23 ?_
      refine va_getN (D := D) (ci := 1) (v := .int (t_now 8)) (C := RX1) (T := TX1) (N := 12) hx hb htg inX1 hown hK hP 1 rfl rfl 8 (by decide) (va_Nw.use rfl (hN _ q_1_58)) (fun _ h9 => h9) rfl dX5_mute_26 ?_
      refine lv_icmp_ge (tgt := 75) hx hb dX5_mute_29 (by decide) (fun c1 => ?_) (fun c1 => ?_)
      · have hm := it_t c1 hm
        refine lv_iload hx hb dX5_mute_75 (lv_at hl 1 rfl) ?_
        rw [hQ]
        exact W.iret (v := x.1) hx hb hr (fun t9 ht hW => ⟨⟨x.1, (x.2.2.1, x.2.2.2.1, x.2.2.2.2.1, x.2.2.2.2.2.1, x.2.2.2.2.2.2), rfl, (Option.some.inj hm), by rw [ht]; exact hP, va_K.moved hW.alike hK, hD⟩, hS.F ht⟩) hS.2.2 dX5_mute_77
      · have hm := it_f c1 hm
        refine lv_aload_n hx hb dX5_mute_32 rfl (lv_at hl 0 rfl) ?_
        refine va_get (D := D) (ci := 5) (v := .ref (ad 20)) (C := RX5) (T := TX5) (N := 17) hx hb htg inX5 hown hK hP 0 rfl rfl 7 (by decide) (htg _ q_1_195) (fun _ h9 => h9) rfl dX5_mute_33 ?_
        refine lv_aload_n hx hb dX5_mute_36 rfl (lv_at hl 0 rfl) ?_
        refine va_get (D := D) (ci := 5) (v := .ref (ad 1)) (C := RX5) (T := TX5) (N := 17) hx hb htg inX5 hown hK hP 0 rfl rfl 0 (by decide) (htg _ q_1_188) (fun _ h9 => h9) rfl dX5_mute_37 ?_
        refine lv_iload hx hb dX5_mute_40 (lv_at hl 2 rfl) ?_
        obtain ⟨o2, ho3, hm⟩ := bd_s hm
        refine xr_v (wr := [((ad 0), e_X5 ad t), ((ad 13), e_X0 (ad 14) (ad 15) (ad 16)), ((ad 14), eI cA 8 t_shelves_holding), ((ad 15), eI cA 8 t_shelves_sizes), ((ad 16), eJ cA 320 t_shelves_elements), ((ad 19), eI cA 5 x.2.2.1), ((ad 21), eI cA 13 x.2.2.2.2.1), ((ad 24), e_X4 (ad 25) x.2.2.2.2.2.1), ((ad 25), eI cA 12 x.2.2.2.2.2.2)]) (wn := [((ad 0), e_X5 ad t), ((ad 1), e_X1 (ad 2) (ad 3) (ad 4) t_now), ((ad 2), eI cA 8 t_now_kinds), ((ad 4), eI cA 8 t_now_pitches), ((ad 13), e_X0 (ad 14) (ad 15) (ad 16)), ((ad 14), eI cA 8 t_shelves_holding), ((ad 15), eI cA 8 t_shelves_sizes), ((ad 16), eJ cA 320 t_shelves_elements), ((ad 19), eI cA 5 x.2.2.1), ((ad 20), e_X3 (ad 21) o2), ((ad 21), eI cA 13 x.2.2.2.2.1), ((ad 24), e_X4 (ad 25) x.2.2.2.2.2.1), ((ad 25), eI cA 12 x.2.2.2.2.2.2)]) (va_runVN (As := [.ref (ad 1), .int x.2.1]) (rest := []) ⟨hx, hb, hml, hown, htg⟩ (c_X3_standsFor l D cA _ fu (ad 20) (ad 21) (ad 1) (ad 2) (ad 3) (ad 4) x.2.2.2.1 t_now t_now_kinds t_now_pitches x.2.1 o2 ho3) ⟨va_cnB 2 htg (gU q_2_126) rfl rfl rfl (hN _ q_2_123) (htg _ q_1_6) hd_X3_standsFor.2 ⟨Nat.le_of_ble_eq_true rfl, Nat.le_of_ble_eq_true rfl⟩, htg _ q_2_125, htg _ q_p2_0⟩ (xpV hN hK hP hD [9, 1, 2, 3] rfl (by decide) rfl rfl) rfl rfl hl.1 rfl (lv_room (Nat.le_of_ble_eq_true rfl)) dX5_mute_42 ⟨Nat.zero_le _, Nat.zero_le _⟩) hP hD hS hA [9, 1, 2, 3] [0, 4, 5, 6, 7, 8, 10, 11, 12] [0, 10, 11, 12, 1, 2, 3, 4, 5, 9, 6, 7, 8] rfl rfl (by decide) (by decide) rfl (by decide) (fun H locs hP hD hS => ?_)
        refine lv_aload_n hx hb dX5_mute_45 rfl (lv_at hl 0 rfl) ?_
        refine va_get (D := D) (ci := 5) (v := .ref (ad 20)) (C := RX5) (T := TX5) (N := 17) hx hb htg inX5 hown hK hP 0 rfl rfl 7 (by decide) (htg _ q_1_195) (fun _ h9 => h9) rfl dX5_mute_46 ?_
        refine lv_aload_n hx hb dX5_mute_49 rfl (lv_at hl 0 rfl) ?_
        refine va_get (D := D) (ci := 5) (v := .ref (ad 24)) (C := RX5) (T := TX5) (N := 17) hx hb htg inX5 hown hK hP 0 rfl rfl 9 (by decide) (htg _ q_1_197) (fun _ h9 => h9) rfl dX5_mute_50 ?_
        obtain ⟨o4, ho5, hm⟩ := bd_s hm
        refine xr_i (wr := [((ad 0), e_X5 ad t), ((ad 1), e_X1 (ad 2) (ad 3) (ad 4) t_now), ((ad 2), eI cA 8 t_now_kinds), ((ad 4), eI cA 8 t_now_pitches), ((ad 13), e_X0 (ad 14) (ad 15) (ad 16)), ((ad 14), eI cA 8 t_shelves_holding), ((ad 15), eI cA 8 t_shelves_sizes), ((ad 16), eJ cA 320 t_shelves_elements), ((ad 19), eI cA 5 x.2.2.1)]) (wn := [((ad 0), e_X5 ad t), ((ad 1), e_X1 (ad 2) (ad 3) (ad 4) t_now), ((ad 2), eI cA 8 t_now_kinds), ((ad 4), eI cA 8 t_now_pitches), ((ad 13), e_X0 (ad 14) (ad 15) (ad 16)), ((ad 14), eI cA 8 t_shelves_holding), ((ad 15), eI cA 8 t_shelves_sizes), ((ad 16), eJ cA 320 t_shelves_elements), ((ad 19), eI cA 5 x.2.2.1), ((ad 20), e_X3 (ad 21) o4.2.1), ((ad 21), eI cA 13 o4.2.2), ((ad 24), e_X4 (ad 25) x.2.2.2.2.2.1), ((ad 25), eI cA 12 x.2.2.2.2.2.2)]) (va_runVN (As := [.ref (ad 24)]) (rest := []) ⟨hx, hb, hml, hown, htg⟩ (c_X3_weighs l D cA _ fu (ad 20) (ad 21) (ad 24) (ad 25) o2 x.2.2.2.2.1 x.2.2.2.2.2.1 x.2.2.2.2.2.2 o4 ho5) ⟨va_cnB 1 htg (gU q_3_118) rfl rfl rfl (hN _ q_3_115) (htg _ q_1_6) hd_X3_weighs.2 ⟨Nat.le_of_ble_eq_true rfl, Nat.le_of_ble_eq_true rfl⟩, htg _ q_3_117, htg _ q_p3_11⟩ (xpV hN hK hP hD [9, 10, 11, 12] rfl (by decide) rfl rfl) rfl rfl hl.1 rfl (lv_room (Nat.le_of_ble_eq_true rfl)) dX5_mute_53 ⟨Nat.zero_le _, Nat.zero_le _⟩) hP hD hS hA [9, 10, 11, 12] [0, 1, 2, 3, 4, 5, 6, 7, 8] [0, 1, 2, 3, 4, 5, 6, 7, 8, 9, 10, 11, 12] rfl rfl (by decide) (by decide) rfl (by decide) (fun H locs hP hD hS => ?_)
        refine lv_iconst (v := (-1 : Int32)) hx hb dX5_mute_56 (by decide) ?_
        refine lv_icmp_ne (tgt := 69) hx hb dX5_mute_57 (by decide) (fun c6 => ?_) (fun c6 => ?_)
        · have hm := it_f c6 hm
          exact B_69 _ HK_20 _ _ _ _ _ _ _ _ _ _ hm hP hD hS (lv_sub hl [0, 1, 2] rfl)
        · have hm := it_t c6 hm
          refine lv_iload hx hb dX5_mute_60 (lv_at hl 1 rfl) ?_
          refine lv_iconst (v := (1 : Int32)) hx hb dX5_mute_62 (by decide) ?_
          refine lv_iload hx hb dX5_mute_63 (lv_at hl 2 rfl) ?_
          refine lv_ishl hx hb dX5_mute_65 ?_
          refine lv_ior hx hb dX5_mute_66 ?_
          refine lv_istore (lv' := [(4, .int (x.1 ||| ((1 : Int32) <<< (x.2.1 &&& 31)))), (0, .ref (ad 0)), (5, .int x.2.1)]) hx hb dX5_mute_67 hl (by decide) rfl (fun ls hl => ?_)
          exact B_69 _ HK_20 _ _ _ _ _ _ _ _ _ _ hm hP hD hS (lv_sub hl [1, 0, 2] rfl)
  unfold m_X5_mute at hm
  subst hargs
  have hl := lv_entry ([.ref (ad 0), .int l1, .int l2]) (n := 6) (Nat.le_of_ble_eq_true rfl)
  rw [lg_entry_eq]
  generalize (lg_sl ([.ref (ad 0), .int l1, .int l2]) ++ List.replicate (6 - (lg_sl ([.ref (ad 0), .int l1, .int l2])).length) Slot.unset).toArray = ls at hl ⊢
  have hl : lv_has ls 6 [(0, .ref (ad 0)), (1, .int l1), (2, .int l2)] := hl
  refine lv_aload_n hx hb dX5_mute_0 rfl (lv_at hl 0 rfl) ?_
  refine lv_iload_n hx hb dX5_mute_1 rfl (lv_at hl 1 rfl) ?_
  refine lv_iload_n hx hb dX5_mute_2 rfl (lv_at hl 2 rfl) ?_
  refine lv_iconst (v := (1 : Int32)) hx hb dX5_mute_3 (by decide) ?_
  obtain ⟨o7, ho8, hm⟩ := bd_s hm
  refine xr_i (wr := [((ad 1), e_X1 (ad 2) (ad 3) (ad 4) t_now), ((ad 2), eI cA 8 t_now_kinds), ((ad 4), eI cA 8 t_now_pitches), ((ad 20), e_X3 (ad 21) t_trial), ((ad 21), eI cA 13 t_trial_heard)]) (wn := [((ad 0), e_X5 ad t), ((ad 1), e_X1 (ad 2) (ad 3) (ad 4) t_now), ((ad 2), eI cA 8 t_now_kinds), ((ad 4), eI cA 8 t_now_pitches), ((ad 13), e_X0 (ad 14) (ad 15) (ad 16)), ((ad 14), eI cA 8 t_shelves_holding), ((ad 15), eI cA 8 t_shelves_sizes), ((ad 16), eJ cA 320 t_shelves_elements), ((ad 19), eI cA 5 o7.2.1), ((ad 20), e_X3 (ad 21) t_trial), ((ad 21), eI cA 13 t_trial_heard), ((ad 24), e_X4 (ad 25) o7.2.2.1), ((ad 25), eI cA 12 o7.2.2.2)]) (va_runV (As := [.int l1, .int l2, .int (1 : Int32)]) (rest := []) ⟨hx, hb, hml, hown, htg⟩ (c_X5_takeWord l D cA _ fu ad t t_shelves_holding t_shelves_sizes t_shelves_elements t_refusals t_told t_told_sounds l1 l2 (1 : Int32) o7 ho8) (cwV 3 htg (gV q_3_126 q_3_128 q_p3_12 q_1_1 q_3_129) rfl rfl rfl hd_X5_takeWord ⟨Nat.le_of_ble_eq_true rfl, Nat.le_of_ble_eq_true rfl⟩) (xpV hN hK hP hD [0, 4, 5, 6, 7, 8, 11, 12] rfl (by decide) rfl rfl) rfl rfl hl.1 rfl (lv_room (Nat.le_of_ble_eq_true rfl)) dX5_mute_4 ⟨Nat.zero_le _, Nat.zero_le _⟩) hP hD hS hA [0, 4, 5, 6, 7, 8, 11, 12] [1, 2, 3, 9, 10] [5, 0, 1, 2, 6, 7, 8, 9, 10, 3, 4, 11, 12] rfl rfl (by decide) (by decide) rfl (by decide) (fun H locs hP hD hS => ?_)
  refine lv_istore_n (lv' := [(3, .int o7.1), (0, .ref (ad 0)), (1, .int l1), (2, .int l2)]) hx hb dX5_mute_7 rfl hl (by decide) rfl (fun ls hl => ?_)
  refine lv_iload_n hx hb dX5_mute_8 rfl (lv_at hl 0 rfl) ?_
  refine lv_if_eq (tgt := 14) hx hb dX5_mute_9 (by decide) (fun c9 => ?_) (fun c9 => ?_)
  · have hm := it_t c9 hm
    refine lv_iconst (v := (0 : Int32)) hx hb dX5_mute_14 (by decide) ?_
    refine lv_istore (lv' := [(4, .int (0 : Int32)), (3, .int o7.1), (0, .ref (ad 0)), (1, .int l1), (2, .int l2)]) hx hb dX5_mute_15 hl (by decide) rfl (fun ls hl => ?_)
    refine lv_iconst (v := (0 : Int32)) hx hb dX5_mute_17 (by decide) ?_
    refine lv_istore (lv' := [(5, .int (0 : Int32)), (4, .int (0 : Int32)), (3, .int o7.1), (0, .ref (ad 0)), (1, .int l1), (2, .int l2)]) hx hb dX5_mute_18 hl (by decide) rfl (fun ls hl => ?_)
    exact B_20 fu _ _ _ _ hm hP hD hS (lv_sub hl [3, 1, 0] rfl)
  · have hm := it_f c9 hm
    refine lv_iload_n hx hb dX5_mute_12 rfl (lv_at hl 0 rfl) ?_
    rw [hQ]
    exact W.iret (v := o7.1) hx hb hr (fun t9 ht hW => ⟨⟨o7.1, (o7.2.1, t_trial, t_trial_heard, o7.2.2.1, o7.2.2.2), rfl, (Option.some.inj hm), by rw [ht]; exact hP, va_K.moved hW.alike hK, hD⟩, hS.F ht⟩) hS.2.2 dX5_mute_13
