theorem xmna_J {p : Program} {l : Launch} {e : Env} {R : Room} {s : State} {m : MethodId} {args : Array Value} {below : List Frame} {meth : Method} {c : Code} {H : Heap} {locs : List Loc} {cells slots : Nat} {Q : State → Prop}
 {D : va_G} {cA : Nat → ClassId} {A : Nat → Prop} {ws : va_W} {rest : List Value} {pc : Nat} {ls : Array Slot} {cc : ByteArray} {H0 : Heap} {own : String} {index : Nat} {n k : Int32} (hexec : p.tables.exec = Jvm.exec) (hb : c.code = cc) (K : Nat) (hown : s.vm.findClass own = some m.cls) (hclink : (Cond.classLink own index "[[J").before args s = true) (hover : (Cond.arrayOver (.array .long)).before args s = true) (harr : (Cond.arrayClass .long).before args s = true)
 (hK : va_K D CL (TY cA) s) (hP : va_P D CL ws H) (hD : va_D A ws) (hS : va_S A H0 H locs) (hA : ∀ q, H0.size ≤ q → A q) (hn : ¬ n < 0 ∧ n.toNatClampNeg = 8) (hk : ¬ k < 0 ∧ k.toNatClampNeg = K) (hb2 : K * 8 ≤ 536870912) (hb3 : K ≤ 536870912) (hcells : cells + (1 + 8) ≤ R.cells) (hslots : slots + (8 + 8 * K) ≤ R.slots) (hdg : decode cc pc = .ok (.multianewarray index 2, 4))
 (kk : ∀ (q : Nat) (r : Nat → Nat) (H1 : Heap), va_P D CL (ws ++ [(q, .inl (cA 3, 8, .inr (.inr (.inr (.inr (fun i => if i < 8 then some (r i) else none)))))), (r 0, eJ cA K (fun _ => 0)), (r 1, eJ cA K (fun _ => 0)), (r 2, eJ cA K (fun _ => 0)), (r 3, eJ cA K (fun _ => 0)), (r 4, eJ cA K (fun _ => 0)), (r 5, eJ cA K (fun _ => 0)), (r 6, eJ cA K (fun _ => 0)), (r 7, eJ cA K (fun _ => 0))]) H1 → va_D A (ws ++ [(q, .inl (cA 3, 8, .inr (.inr (.inr (.inr (fun i => if i < 8 then some (r i) else none)))))), (r 0, eJ cA K (fun _ => 0)), (r 1, eJ cA K (fun _ => 0)), (r 2, eJ cA K (fun _ => 0)), (r 3, eJ cA K (fun _ => 0)), (r 4, eJ cA K (fun _ => 0)), (r 5, eJ cA K (fun _ => 0)), (r 6, eJ cA K (fun _ => 0)), (r 7, eJ cA K (fun _ => 0))]) → va_S A H0 H1 locs → W p l e R s m args below meth c H1 locs (cells + 9) (slots + (8 + 8 * K)) Q (F0 m (pc + 4) ls (.ref q :: rest))) : W p l e R s m args below meth c H locs cells slots Q (F0 m pc ls (.int k :: .int n :: rest)) := by
  have hcy : s.vm.findClass (FieldType.array .long).toString = some (cA 1) := (hK.2 1 (cA 1, .long) rfl).2
  have hP' : va_P D CL (ws ++ va_pl [] (fun _ => .inl (cA 1, K, .inr (.inl (fun _ => 0))))) H := by rw [show va_pl [] (fun _ => (.inl (cA 1, K, .inr (.inl (fun _ => 0))) : va_E)) = [] from rfl, List.append_nil]; exact hP
  have hD' : va_D A (ws ++ va_pl [] (fun _ => .inl (cA 1, K, .inr (.inl (fun _ => 0))))) := by rw [show va_pl [] (fun _ => (.inl (cA 1, K, .inr (.inl (fun _ => 0))) : va_E)) = [] from rfl, List.append_nil]; exact hD
  refine va_mna (ty := .long) (z := (K, .inr (.inl (fun _ => 0)))) hexec hb hown hclink hover harr hcy hK hP' hD' hS hA hn.1 hk.1 hn.2 hk.2 (by decide) hb2 hb3 (by decide) (by decide) hcells hslots (fun c => by show ({ cls := c, slots := Array.replicate K (defaultValue .long), vm := .none } : Cell) = _; rw [arrV_new]; rfl) hdg (fun q r c9 H1 hr1 hr2 hK1 hP1 hD1 hS1 => ?_)
  have e9 : c9 = cA 3 := Option.some.inj ((hK1.2 5 (c9, .array .long) rfl).2.symm.trans (hK.2 3 (cA 3, .array .long) rfl).2)
  subst e9
  have hpl : va_pl ([] ++ (List.range 8).map r) (vr_up (fun _ => (.inl (cA 1, K, .inr (.inl (fun _ => 0))) : va_E)) ((List.range 8).map r) (.inl (cA 1, K, .inr (.inl (fun _ => 0))))) = [(r 0, eJ cA K (fun _ => 0)), (r 1, eJ cA K (fun _ => 0)), (r 2, eJ cA K (fun _ => 0)), (r 3, eJ cA K (fun _ => 0)), (r 4, eJ cA K (fun _ => 0)), (r 5, eJ cA K (fun _ => 0)), (r 6, eJ cA K (fun _ => 0)), (r 7, eJ cA K (fun _ => 0))] := by
    have hv : vr_up (fun _ => (.inl (cA 1, K, .inr (.inl (fun _ => 0))) : va_E)) ((List.range 8).map r) (.inl (cA 1, K, .inr (.inl (fun _ => 0)))) = fun _ => .inl (cA 1, K, .inr (.inl (fun _ => 0))) := by
      funext a; unfold vr_up; split <;> rfl
    rw [hv]
    rfl
  rw [hpl, List.append_assoc] at hP1 hD1
  have hc9 : cells + 1 + 8 = cells + 9 := rfl
  have hs9 : slots + 8 + 8 * K = slots + (8 + 8 * K) := by omega
  have := kk q r H1 hP1 hD1 hS1
  rw [← hc9, ← hs9] at this
  exact this

theorem xmna_Z {p : Program} {l : Launch} {e : Env} {R : Room} {s : State} {m : MethodId} {args : Array Value} {below : List Frame} {meth : Method} {c : Code} {H : Heap} {locs : List Loc} {cells slots : Nat} {Q : State → Prop}
 {D : va_G} {cA : Nat → ClassId} {A : Nat → Prop} {ws : va_W} {rest : List Value} {pc : Nat} {ls : Array Slot} {cc : ByteArray} {H0 : Heap} {own : String} {index : Nat} {n k : Int32} (hexec : p.tables.exec = Jvm.exec) (hb : c.code = cc) (K : Nat) (hown : s.vm.findClass own = some m.cls) (hclink : (Cond.classLink own index "[[Z").before args s = true) (hover : (Cond.arrayOver (.array .boolean)).before args s = true) (harr : (Cond.arrayClass .boolean).before args s = true)
 (hK : va_K D CL (TY cA) s) (hP : va_P D CL ws H) (hD : va_D A ws) (hS : va_S A H0 H locs) (hA : ∀ q, H0.size ≤ q → A q) (hn : ¬ n < 0 ∧ n.toNatClampNeg = 8) (hk : ¬ k < 0 ∧ k.toNatClampNeg = K) (hb2 : K * 1 ≤ 536870912) (hb3 : K ≤ 536870912) (hcells : cells + (1 + 8) ≤ R.cells) (hslots : slots + (8 + 8 * K) ≤ R.slots) (hdg : decode cc pc = .ok (.multianewarray index 2, 4))
 (kk : ∀ (q : Nat) (r : Nat → Nat) (H1 : Heap), va_P D CL (ws ++ [(q, .inl (cA 4, 8, .inr (.inr (.inr (.inr (fun i => if i < 8 then some (r i) else none)))))), (r 0, eZ cA K (fun _ => 0)), (r 1, eZ cA K (fun _ => 0)), (r 2, eZ cA K (fun _ => 0)), (r 3, eZ cA K (fun _ => 0)), (r 4, eZ cA K (fun _ => 0)), (r 5, eZ cA K (fun _ => 0)), (r 6, eZ cA K (fun _ => 0)), (r 7, eZ cA K (fun _ => 0))]) H1 → va_D A (ws ++ [(q, .inl (cA 4, 8, .inr (.inr (.inr (.inr (fun i => if i < 8 then some (r i) else none)))))), (r 0, eZ cA K (fun _ => 0)), (r 1, eZ cA K (fun _ => 0)), (r 2, eZ cA K (fun _ => 0)), (r 3, eZ cA K (fun _ => 0)), (r 4, eZ cA K (fun _ => 0)), (r 5, eZ cA K (fun _ => 0)), (r 6, eZ cA K (fun _ => 0)), (r 7, eZ cA K (fun _ => 0))]) → va_S A H0 H1 locs → W p l e R s m args below meth c H1 locs (cells + 9) (slots + (8 + 8 * K)) Q (F0 m (pc + 4) ls (.ref q :: rest))) : W p l e R s m args below meth c H locs cells slots Q (F0 m pc ls (.int k :: .int n :: rest)) := by
  have hcy : s.vm.findClass (FieldType.array .boolean).toString = some (cA 2) := (hK.2 2 (cA 2, .boolean) rfl).2
  have hP' : va_P D CL (ws ++ va_pl [] (fun _ => .inl (cA 2, K, .inl (fun _ => 0)))) H := by rw [show va_pl [] (fun _ => (.inl (cA 2, K, .inl (fun _ => 0)) : va_E)) = [] from rfl, List.append_nil]; exact hP
  have hD' : va_D A (ws ++ va_pl [] (fun _ => .inl (cA 2, K, .inl (fun _ => 0)))) := by rw [show va_pl [] (fun _ => (.inl (cA 2, K, .inl (fun _ => 0)) : va_E)) = [] from rfl, List.append_nil]; exact hD
  refine va_mna (ty := .boolean) (z := (K, .inl (fun _ => 0))) hexec hb hown hclink hover harr hcy hK hP' hD' hS hA hn.1 hk.1 hn.2 hk.2 (by decide) hb2 hb3 (by decide) (by decide) hcells hslots (fun c => by show ({ cls := c, slots := Array.replicate K (defaultValue .boolean), vm := .none } : Cell) = _; rw [arrV_new]; rfl) hdg (fun q r c9 H1 hr1 hr2 hK1 hP1 hD1 hS1 => ?_)
  have e9 : c9 = cA 4 := Option.some.inj ((hK1.2 5 (c9, .array .boolean) rfl).2.symm.trans (hK.2 4 (cA 4, .array .boolean) rfl).2)
  subst e9
  have hpl : va_pl ([] ++ (List.range 8).map r) (vr_up (fun _ => (.inl (cA 2, K, .inl (fun _ => 0)) : va_E)) ((List.range 8).map r) (.inl (cA 2, K, .inl (fun _ => 0)))) = [(r 0, eZ cA K (fun _ => 0)), (r 1, eZ cA K (fun _ => 0)), (r 2, eZ cA K (fun _ => 0)), (r 3, eZ cA K (fun _ => 0)), (r 4, eZ cA K (fun _ => 0)), (r 5, eZ cA K (fun _ => 0)), (r 6, eZ cA K (fun _ => 0)), (r 7, eZ cA K (fun _ => 0))] := by
    have hv : vr_up (fun _ => (.inl (cA 2, K, .inl (fun _ => 0)) : va_E)) ((List.range 8).map r) (.inl (cA 2, K, .inl (fun _ => 0))) = fun _ => .inl (cA 2, K, .inl (fun _ => 0)) := by
      funext a; unfold vr_up; split <;> rfl
    rw [hv]
    rfl
  rw [hpl, List.append_assoc] at hP1 hD1
  have hc9 : cells + 1 + 8 = cells + 9 := rfl
  have hs9 : slots + 8 + 8 * K = slots + (8 + 8 * K) := by omega
  have := kk q r H1 hP1 hD1 hS1
  rw [← hc9, ← hs9] at this
  exact this
