-- PURE 1: a sound, what comes back; buffers
def pt (k p y : Nat) : Nat := if k = 5 then p + y / 10 else p
def rt (k p d s : Nat) : Option Nat := if ¬ (k = 1 ∨ k = 3) ∧ (s + d) % 7 = 0 then none else some ((s + ((if k = 3 then d / 2 else d) + p) / 3 * (1 + s % 3)) % 40)
def ro (o : Option Nat) : Int32 := match o with | none => -1 | some x => nI x
theorem rt_lt {k p d s x : Nat} (h : rt k p d s = some x) : x < 40 := by
  unfold rt at h
  split at h
  · cases h
  · cases h; exact Nat.mod_lt _ (by decide)
theorem x_ret (s dh p : Nat) (hs : s < 40) (hd : dh ≤ 40) (hp : p ≤ 2000) : ((nI s + (((nI dh + nI p) / (3 : Int32)) * ((1 : Int32) + (nI s - nI s / (3 : Int32) * (3 : Int32))))) - (nI s + (((nI dh + nI p) / (3 : Int32)) * ((1 : Int32) + (nI s - nI s / (3 : Int32) * (3 : Int32))))) / (40 : Int32) * (40 : Int32)) = nI ((s + (dh + p) / 3 * (1 + s % 3)) % 40) := by
  have hb : (dh + p) / 3 * (1 + s % 3) ≤ 680 * 3 := Nat.mul_le_mul (by omega) (by omega)
  rw [show (3 : Int32) = nI 3 from rfl, show (1 : Int32) = nI 1 from rfl, show (40 : Int32) = nI 40 from rfl, nI_add, pk_div (by omega) (by decide) (by decide), pk_rem (by omega) (by decide) (by decide), nI_add, pk_mul, nI_add, pk_rem (by omega) (by decide) (by decide)]
theorem x_7 (s d : Nat) (hs : s < 40) (hd : d ≤ 40) : ((nI s + nI d) - (nI s + nI d) / (7 : Int32) * (7 : Int32)) = 0 ↔ (s + d) % 7 = 0 := by
  rw [show (7 : Int32) = nI 7 from rfl, nI_add, pk_rem (by omega) (by decide) (by decide), show (0 : Int32) = nI 0 from rfl, nI_eq (by omega) (by omega)]
/-- the words of a list of numbers -/
def Bf (h : Nat → Int32) (l : List Nat) : Prop := ∀ i x, l[i]? = some x → h i = nI x
theorem Bf_nil {h : Nat → Int32} : Bf h [] := fun i x q => by simp at q
theorem Bf_push {h : Nat → Int32} {l : List Nat} {x : Nat} (b : Bf h l) : Bf (upd h l.length (nI x)) (l ++ [x]) := fun i y q => by
  rcases Nat.lt_trichotomy i l.length with c | c | c
  · rw [List.getElem?_append_left c] at q
    rw [pk_un (by omega)]; exact b i y q
  · subst c
    rw [List.getElem?_append_right (Nat.le_refl _), Nat.sub_self] at q
    cases q
    exact pk_us
  · rw [List.getElem?_append_right (by omega)] at q
    have : 1 ≤ i - l.length := by omega
    rw [List.getElem?_eq_none (by simpa using this)] at q
    cases q
theorem Bf_cong {h h' : Nat → Int32} {l : List Nat} (b : Bf h l) (e : ∀ i, i < l.length → h' i = h i) : Bf h' l := fun i x q => by
  rw [e i (List.getElem?_eq_some_iff.mp q).1]; exact b i x q
/-- turned round as far as i -/
def RV (n : Nat) (l : List Nat) (i : Nat) (h : Nat → Int32) : Prop := ∀ j y, j < n → (if j < i ∨ n ≤ j + i then l[n - 1 - j]? else l[j]?) = some y → h j = nI y
theorem RV_0 {h : Nat → Int32} {l : List Nat} (b : Bf h l) : RV l.length l 0 h := fun j y hj q => by
  rw [if_neg (by omega)] at q
  exact b j y q
theorem RV_step {n i : Nat} {l : List Nat} {h : Nat → Int32} (hl : l.length = n) (hi : i < n / 2) (b : RV n l i h) : RV n l (i + 1) (upd (upd h i (h (n - 1 - i))) (n - 1 - i) (h i)) := fun j y hj q => by
  by_cases c1 : j = n - 1 - i
  · subst c1
    rw [pk_us]
    rw [if_pos (by omega), show n - 1 - (n - 1 - i) = i by omega] at q
    exact b i y (by omega) (by rw [if_neg (by omega)]; exact q)
  · rw [pk_un c1]
    by_cases c2 : j = i
    · subst c2
      rw [pk_us]
      rw [if_pos (by omega)] at q
      exact b (n - 1 - j) y (by omega) (by rw [if_neg (by omega)]; exact q)
    · rw [pk_un c2]
      refine b j y hj ?_
      by_cases c3 : j < i ∨ n ≤ j + i
      · rw [if_pos c3]; rw [if_pos (by omega)] at q; exact q
      · rw [if_neg c3]; rw [if_neg (by omega)] at q; exact q
theorem RV_end {h : Nat → Int32} {l : List Nat} (b : RV l.length l (l.length / 2) h) : Bf h l.reverse := fun i x q => by
  have hi : i < l.length := by
    have := (List.getElem?_eq_some_iff.mp q).1
    simpa using this
  rw [List.getElem?_reverse hi] at q
  refine b i x hi ?_
  by_cases c : i < l.length / 2 ∨ l.length ≤ i + l.length / 2
  · rw [if_pos c]; exact q
  · rw [if_neg c]; rw [show l.length - 1 - i = i by omega] at q; exact q
def sm (l : List Nat) : Nat := l.foldl (· + ·) 0
theorem sm_take {l : List Nat} {i x : Nat} (h : l[i]? = some x) : sm (l.take (i + 1)) = sm (l.take i) + x := by
  rw [List.take_add_one, h]
  unfold sm
  rw [List.foldl_append]
  rfl
theorem sm_le {l : List Nat} (h : ∀ x ∈ l, x < 40) : ∀ n, sm (l.take n) ≤ 40 * n := by
  intro n
  induction n with
  | zero => simp [sm]
  | succ n ih =>
    cases e : l[n]? with
    | none =>
      have : l.length ≤ n := by simpa using e
      rw [List.take_of_length_le (by omega)]
      rw [List.take_of_length_le this] at ih
      omega
    | some x =>
      rw [sm_take e]
      have := h x (List.mem_of_getElem? e)
      omega
/-- a voice's echo of a word -/
def stw (k : Nat) (w : List Nat) : List Nat := if k = 2 ∨ k = 4 then w.take 1 ++ w else w
def ec (k p d : Nat) (w : List Nat) : List Nat := if k = 4 then ((stw k w).filterMap (rt k p d)).reverse else (stw k w).filterMap (rt k p d)
theorem ec_lt {k p d : Nat} {w : List Nat} : ∀ x ∈ ec k p d w, x < 40 := by
  intro x hx
  have : x ∈ (stw k w).filterMap (rt k p d) := by
    unfold ec at hx
    split at hx
    · exact List.mem_reverse.mp hx
    · exact hx
  obtain ⟨a, -, ha⟩ := List.mem_filterMap.mp this
  exact rt_lt ha
theorem ec_len {k p d : Nat} {w : List Nat} : (ec k p d w).length ≤ w.length + 1 := by
  have h1 : (ec k p d w).length = ((stw k w).filterMap (rt k p d)).length := by
    unfold ec
    split
    · exact List.length_reverse
    · rfl
  have h2 : ((stw k w).filterMap (rt k p d)).length ≤ (stw k w).length := List.length_filterMap_le ..
  have h3 : (stw k w).length ≤ w.length + 1 := by
    unfold stw
    split
    · rw [List.length_append, List.length_take]; omega
    · omega
  omega
/-- how it is weighed -/
def wg (k p d w q : Nat) (l : List Nat) : Int32 := if (ec k p d l).length = 0 then -1 else if sm (ec k p d l) % w = q then 1 else 0
