abbrev wL (cA : Nat → ClassId) (ad am : Nat → Nat) (kv tv : Value) (C : Nat → Nat → Int32) (E : Nat → Int64) (M : Nat → Nat → Int32) (ML : Nat → Int64) (MR : Nat → Nat → Int64) (MV : Nat → Int64) (MY : Nat → Nat → Int32) : va_W := [((ad 0), e_X5 ad (C 0)), ((ad 1), e_X1 (ad 2) (ad 3) (ad 4) (C 1)), ((ad 2), eI cA 8 (C 2)), ((ad 3), eI cA 8 (C 3)), ((ad 4), eI cA 8 (C 4)), ((ad 5), e_X1 (ad 6) (ad 7) (ad 8) (C 5)), ((ad 6), eI cA 8 (C 6)), ((ad 7), eI cA 8 (C 7)), ((ad 8), eI cA 8 (C 8)), ((ad 9), e_X1 (ad 10) (ad 11) (ad 12) (C 9)), ((ad 10), eI cA 8 (C 10)), ((ad 11), eI cA 8 (C 11)), ((ad 12), eI cA 8 (C 12)), ((ad 13), e_X0 (ad 14) (ad 15) (ad 16)), ((ad 14), eI cA 8 (C 14)), ((ad 15), eI cA 8 (C 15)), ((ad 16), eJ cA 320 E), ((ad 17), e_X2 (ad 18) (C 17)), ((ad 18), eI cA 250 (C 18)), ((ad 19), eI cA 5 (C 19)), ((ad 20), e_X3 (ad 21) (C 20)), ((ad 21), eI cA 13 (C 21)), ((ad 22), e_X3 (ad 23) (C 22)), ((ad 23), eI cA 13 (C 23)), ((ad 24), e_X4 (ad 25) (C 24)), ((ad 25), eI cA 12 (C 25)), ((ad 26), e_X4 (ad 27) (C 26)), ((ad 27), eI cA 12 (C 27)), ((ad 28), eI cA 8 (C 28)), ((ad 29), eI cA 256 (C 29)), ((ad 30), eI cA 256 (C 30)), ((ad 31), eI cA 41 (C 31)), ((ad 32), eI cA 41 (C 32)), ((ad 33), eI cA 41 (C 33)), ((am 0), e_X6 am kv tv (M 0) ML), ((am 1), eI cA 8 (M 1)), ((am 2), eI cA 8 (M 2)), ((am 3), eI cA 8 (M 3)), ((am 4), eOJ cA am 5), (am 5, eJ cA 40 (MR 0)), (am 6, eJ cA 40 (MR 1)), (am 7, eJ cA 40 (MR 2)), (am 8, eJ cA 40 (MR 3)), (am 9, eJ cA 40 (MR 4)), (am 10, eJ cA 40 (MR 5)), (am 11, eJ cA 40 (MR 6)), (am 12, eJ cA 40 (MR 7)), ((am 13), eJ cA 40 MV), ((am 14), eI cA 8 (M 14)), ((am 15), eI cA 250 (M 15)), ((am 16), eI cA 8 (M 16)), ((am 17), eI cA 8 (M 17)), ((am 18), eI cA 8 (M 18)), ((am 19), eI cA 8 (M 19)), ((am 20), eI cA 4 (M 20)), ((am 21), eI cA 12 (M 21)), ((am 22), eI cA 13 (M 22)), ((am 23), eI cA 13 (M 23)), ((am 24), eZ cA 41 (M 24)), ((am 25), eI cA 41 (M 25)), ((am 26), eOZ cA am 27), (am 27, eZ cA 8 (MY 0)), (am 28, eZ cA 8 (MY 1)), (am 29, eZ cA 8 (MY 2)), (am 30, eZ cA 8 (MY 3)), (am 31, eZ cA 8 (MY 4)), (am 32, eZ cA 8 (MY 5)), (am 33, eZ cA 8 (MY 6)), (am 34, eZ cA 8 (MY 7)), ((am 35), eI cA 256 (M 35)), ((am 36), eZ cA 41 (M 36))]
def upC (C : Nat → Nat → Int32) (i : Nat) (f : Nat → Int32) : Nat → Nat → Int32 := fun j => if j = i then f else C j
theorem upC_s {C : Nat → Nat → Int32} {i : Nat} {f : Nat → Int32} : upC C i f i = f := if_pos rfl
theorem upC_n {C : Nat → Nat → Int32} {i j : Nat} {f : Nat → Int32} (h : j ≠ i) : upC C i f j = C j := if_neg h
abbrev kvO (o : Option (Nat → Nat)) : Value := match o with | none => .null | some km => .ref (km 0)
abbrev w4 (cA : Nat → ClassId) (o : Option (Nat → Nat)) (f : Nat → Int32) (g : Nat → Int64) (kK kB kP : Nat → Int32) : va_W := match o with | none => [] | some km => [(km 0, e_X6 km .null .null f g), (km 17, eI cA 8 kK), (km 18, eI cA 8 kB), (km 19, eI cA 8 kP)]
section XLW
variable {p : Program} {l : Launch} {e : Env} {R : Room} {s : State} {m : MethodId} {args : Array Value} {below : List Frame} {meth : Method} {c : Code} {H : Heap} {locs : List Loc} {cells slots : Nat} {Q : State → Prop}
variable {D : va_G} {cA : Nat → ClassId} {A : Nat → Prop} {X pl wc wr wn : va_W} {S : Type} {T : Type} {w1 : T → va_W} {As rest st0 : List Value} {pc : Nat} {ls : Array Slot} {a : Array Value} {H0 : Heap}
theorem xP_left {Y : va_W} (h : va_P D CL (X ++ Y) H) : va_P D CL X H := fun k q hk => h k q (by rw [List.getElem?_append_left (List.getElem?_eq_some_iff.mp hk).1]; exact hk)
theorem xD_left {Y : va_W} (h : va_D A (X ++ Y)) : va_D A X := ⟨fun i j p q hi hj => h.1 i j p q (by rw [List.getElem?_append_left (List.getElem?_eq_some_iff.mp hi).1]; exact hi) (by rw [List.getElem?_append_left (List.getElem?_eq_some_iff.mp hj).1]; exact hj), fun k q hk => h.2 k q (by rw [List.getElem?_append_left (List.getElem?_eq_some_iff.mp hk).1]; exact hk)⟩
theorem xF_q (hD : va_D A (X ++ pl)) (hS : va_S A H0 H locs) (hA : ∀ q : Nat, H0.size ≤ q → A q) (isC : List Nat) (hC : isC.map (fun i => X[i]?) = wc.map some) : ∀ q, va_A wc H.size q → A q := fun q h => va_freeP (cx := wc) hD hS hA isC hC q (by
  rcases h with ⟨k, e, h⟩ | h
  · exact Or.inl ⟨k, e, by rw [List.getElem?_append_left (List.getElem?_eq_some_iff.mp h).1]; exact h⟩
  · exact Or.inr h)
theorem xpVq {b : Nat} {ci N : Nat} {C : String} {T : u_T} {fs : List Value} (hN : NW s) (hK : va_K D CL (TY cA) s) (hP : va_P D CL (X ++ pl) H) (hD : va_D A (X ++ pl)) (isC : List Nat) (hC : isC.map (fun i => X[i]?) = wc.map some) (hnd : va_nd isC = true) (h0 : wc[0]? = some (b, .inr (ci, fs))) (hcl : CL[ci]? = some (C, T, N)) : PreV s H C b (va_Pc (.ref b :: As) (pre0 D cA H.size wc)) As :=
  have hPc : va_P D CL wc H := xP_left (hP.part isC hC)
  have hDc : va_D A wc := xD_left (hD.part isC hnd hC)
  ⟨blind0, va_recv hK hPc (ci := ci) (q0 := 0) hcl h0, fun U hU hW => ⟨rfl, by rw [hU], by rw [hU]; exact hPc, va_K.moved hW.alike hK, hDc.weaken (fun _ _ _ _ => trivial), hN.warm hW⟩⟩
theorem xpVq1 {Ks Vs : Nat → Nat} {fv : Value} {b : Nat} {ci N : Nat} {C : String} {T : u_T} {fs : List Value} (hSS : SS Ks Vs fv A s) (hS : va_S A s.heap H locs) (hA : ∀ q : Nat, s.heap.size ≤ q → A q) (hN : NW s) (hK : va_K D CL (TY cA) s) (hP : va_P D CL (X ++ pl) H) (hD : va_D A (X ++ pl)) (isC : List Nat) (hC : isC.map (fun i => X[i]?) = wc.map some) (hnd : va_nd isC = true) (h0 : wc[0]? = some (b, .inr (ci, fs))) (hcl : CL[ci]? = some (C, T, N)) : PreV s H C b (va_Pc (.ref b :: As) (pre1 D cA Ks Vs fv H.size wc)) As :=
  have h1 := xpVq (As := As) hN hK hP hD isC hC hnd h0 hcl
  ⟨blind1, h1.2.1, fun U hU hW => ⟨rfl, (h1.2.2 U hU hW).2, hSS.goes hW (fun q h2 h3 => by rw [hU]; exact hS.2.1 q h2 h3) (xF_q hD hS hA isC hC)⟩⟩
theorem xr_iq {o : Int32 × T} (hr : va_Run p l e R s m args below meth c H locs cells slots 0 0 (F0 m pc ls st0) rest (va_Qi (fun r u => (r, u) = o) (pst0 D cA (va_A wc H.size) w1) (va_A wc H.size) a) (va_A wc H.size))
    (hP : va_P D CL (X ++ pl) H) (hD : va_D A (X ++ pl)) (hS : va_S A H0 H locs) (hA : ∀ q : Nat, H0.size ≤ q → A q) (isC isR pm : List Nat) (hC : isC.map (fun i => X[i]?) = wc.map some) (hR : isR.map (fun i => X[i]?) = wr.map some) (hn : va_nd isR = true) (hdis : ∀ i ∈ isR, i ∉ isC)
    (hpm : pm.map (fun i => (wr ++ w1 o.2)[i]?) = wn.map some) (hnp : va_nd pm = true)
    (kk : ∀ (H1 : Heap) (locs1 : List Loc), va_P D CL (wn ++ pl) H1 → va_D A (wn ++ pl) → va_S A H0 H1 locs1 → W p l e R s m args below meth c H1 locs1 cells slots Q (F0 m (pc + 3) ls (.int o.1 :: rest))) : W p l e R s m args below meth c H locs cells slots Q (F0 m pc ls st0) := by
  have hF := xF_q (wc := wc) hD hS hA isC hC
  refine va_calli hr hS (fun q _ h => hF q h) hF (fun r u t H1 locs1 ht hvm hw hB hz1 hk1 hS1 => ?_)
  obtain ⟨hP1, -, hD1⟩ := hB
  rw [ht] at hP1
  subst hw
  obtain ⟨hP2, hD2⟩ := va_joinQ (wr := wr) hP hD isC isR hC hR hn hdis hk1 hF hP1 hD1
  exact kk H1 locs1 (hP2.part pm hpm) (hD2.part pm hnp hpm) hS1
theorem xr_lq {o : Int64 × T} (hr : va_Run p l e R s m args below meth c H locs cells slots 0 0 (F0 m pc ls st0) rest (va_Ql (fun r u => (r, u) = o) (pst0 D cA (va_A wc H.size) w1) (va_A wc H.size) a) (va_A wc H.size))
    (hP : va_P D CL (X ++ pl) H) (hD : va_D A (X ++ pl)) (hS : va_S A H0 H locs) (hA : ∀ q : Nat, H0.size ≤ q → A q) (isC isR pm : List Nat) (hC : isC.map (fun i => X[i]?) = wc.map some) (hR : isR.map (fun i => X[i]?) = wr.map some) (hn : va_nd isR = true) (hdis : ∀ i ∈ isR, i ∉ isC)
    (hpm : pm.map (fun i => (wr ++ w1 o.2)[i]?) = wn.map some) (hnp : va_nd pm = true)
    (kk : ∀ (H1 : Heap) (locs1 : List Loc), va_P D CL (wn ++ pl) H1 → va_D A (wn ++ pl) → va_S A H0 H1 locs1 → W p l e R s m args below meth c H1 locs1 cells slots Q (F0 m (pc + 3) ls (.long o.1 :: rest))) : W p l e R s m args below meth c H locs cells slots Q (F0 m pc ls st0) := by
  have hF := xF_q (wc := wc) hD hS hA isC hC
  refine va_calll hr hS (fun q _ h => hF q h) hF (fun r u t H1 locs1 ht hvm hw hB hz1 hk1 hS1 => ?_)
  obtain ⟨hP1, -, hD1⟩ := hB
  rw [ht] at hP1
  subst hw
  obtain ⟨hP2, hD2⟩ := va_joinQ (wr := wr) hP hD isC isR hC hR hn hdis hk1 hF hP1 hD1
  exact kk H1 locs1 (hP2.part pm hpm) (hD2.part pm hnp hpm) hS1
theorem xr_icq {post : Int32 → T → Prop} {mc ms : Nat} (hr : va_Run p l e R s m args below meth c H locs cells slots mc ms (F0 m pc ls st0) rest (va_Qi post (pst0 D cA (va_A wc H.size) w1) (va_A wc H.size) a) (va_A wc H.size))
    (hP : va_P D CL (X ++ pl) H) (hD : va_D A (X ++ pl)) (hS : va_S A H0 H locs) (hA : ∀ q : Nat, H0.size ≤ q → A q) (isC isR : List Nat) (hC : isC.map (fun i => X[i]?) = wc.map some) (hR : isR.map (fun i => X[i]?) = wr.map some) (hn : va_nd isR = true) (hdis : ∀ i ∈ isR, i ∉ isC)
    (kk : ∀ (r : Int32) (u : T) (H1 : Heap) (locs1 : List Loc), post r u → va_P D CL ((wr ++ w1 u) ++ pl) H1 → va_D A ((wr ++ w1 u) ++ pl) → va_S A H0 H1 locs1 → W p l e R s m args below meth c H1 locs1 (cells + mc) (slots + ms) Q (F0 m (pc + 3) ls (.int r :: rest))) : W p l e R s m args below meth c H locs cells slots Q (F0 m pc ls st0) := by
  have hF := xF_q (wc := wc) hD hS hA isC hC
  refine va_calli hr hS (fun q _ h => hF q h) hF (fun r u t H1 locs1 ht hvm hw hB hz1 hk1 hS1 => ?_)
  obtain ⟨hP1, -, hD1⟩ := hB
  rw [ht] at hP1
  obtain ⟨hP2, hD2⟩ := va_joinQ (wr := wr) hP hD isC isR hC hR hn hdis hk1 hF hP1 hD1
  exact kk r u H1 locs1 hw hP2 hD2 hS1
end XLW
theorem lg_self (x : Int64) : lg_cmp x x = 0 := by simp [lg_cmp]
def LC (p : Program) (s : State) (m : MethodId) (meth : Method) (c : Code) (b L : Nat) (xs : Nat → Int32) (D : va_G) (cA : Nat → ClassId) (Ks Vs : Nat → Nat) (fv : Value) : Prop := lw_At p s m meth c b L xs ∧ va_K D CL (TY cA) s ∧ NW s ∧ SS Ks Vs fv (fun q : Nat => s.heap.size ≤ q) s
