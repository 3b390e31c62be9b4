/-- a thing: an array (its kind, what it holds); an object of a class by its number (its fields); an object that is only read (its class, some of its fields) -/
abbrev hm_E : Type := (FieldType × List Value) ⊕ (Nat × List Value) ⊕ (String × List (String × String × String × Value))
abbrev hm_H : Type := List hm_E
/-- how many slots a thing has -/
def hm_len (x : hm_E) : Nat := match x with
  | .inl q => q.2.length
  | .inr (.inl q) => q.2.length
  | .inr (.inr _) => 0
def hm_cell (D : va_G) (cl : List vw_C) (as : List Nat) (U : State) (H : Heap) (a : Nat) (x : hm_E) : Prop := match x with
  | .inl q => ∃ cell : Cell, H[a]? = some cell ∧ U.isArrayOf cell q.1 ∧ (∀ C : String, q.1 = .object C → ∃ (kA : Class) (comp : ClassId), U.vm.classes[cell.cls]? = some kA ∧ kA.kind = .array comp (.object C) ∧ U.vm.findClass C = some comp) ∧ cell.vm ≠ .unknown ∧ q.2.length ≤ cell.slots.size ∧ cell.slots.size.toInt32 = Int32.ofNat q.2.length ∧ ∀ (j : Nat) (v : Value), q.2[j]? = some v → ∃ w, cell.slots[j]? = some w ∧ hm_v as v w
  | .inr (.inl q) => ∃ (r : vw_C) (cell : Cell), cl[q.1]? = some r ∧ q.2.length = r.2.2 ∧ H[a]? = some cell ∧ cell.cls = D.1 q.1 ∧ cell.vm = .none ∧ ∀ (k : Nat) (v : Value), q.2[k]? = some v → ∃ w, cell.slots[D.2 q.1 k]? = some w ∧ hm_v as v w
  | .inr (.inr q) => ∃ cell : Cell, H[a]? = some cell ∧ cell.vm.isStatics = false ∧ cell.vm ≠ .unknown ∧ U.vm.findClass q.1 = some cell.cls ∧ ∀ x ∈ q.2, ∃ (cf : ClassId) (k : Class) (i : Nat) (f : Field) (w : Value), U.fieldFound? x.1 x.2.1 x.2.2.1 = some (cf, k, i, f) ∧ f.isStatic = false ∧ cell.slots[f.slot]? = some w ∧ hm_v as x.2.2.2 w
theorem hm_cell_at {D : va_G} {cl : List vw_C} {as : List Nat} {U : State} {H : Heap} {a : Nat} {x : hm_E} (h : hm_cell D cl as U H a x) : a < H.size := by
  match x, h with
  | .inl q, ⟨ce, h1, _⟩ => exact (Array.getElem?_eq_some_iff.mp h1).1
  | .inr (.inl q), ⟨r, ce, _, _, h1, _⟩ => exact (Array.getElem?_eq_some_iff.mp h1).1
  | .inr (.inr q), ⟨ce, h1, _⟩ => exact (Array.getElem?_eq_some_iff.mp h1).1
theorem hm_cell_kept {D : va_G} {cl : List vw_C} {as : List Nat} {U : State} {H H1 : Heap} {a : Nat} {x : hm_E} (h : hm_cell D cl as U H a x) (hq : H1[a]? = H[a]?) : hm_cell D cl as U H1 a x := by
  match x, h with
  | .inl q, ⟨ce, h1, h2⟩ => exact ⟨ce, hq.trans h1, h2⟩
  | .inr (.inl q), ⟨r, ce, h3, h4, h1, h2⟩ => exact ⟨r, ce, h3, h4, hq.trans h1, h2⟩
  | .inr (.inr q), ⟨ce, h1, h2⟩ => exact ⟨ce, hq.trans h1, h2⟩
theorem hm_cell_grow {D : va_G} {cl : List vw_C} {as as2 : List Nat} (hg : hm_le as as2) {U : State} {H : Heap} {a : Nat} {x : hm_E} (h : hm_cell D cl as U H a x) : hm_cell D cl as2 U H a x := by
  match x, h with
  | .inl q, ⟨ce, h1, h2, h3, h4, h5, h6, h7⟩ =>
    exact ⟨ce, h1, h2, h3, h4, h5, h6, fun j v hv => by obtain ⟨w, g1, g2⟩ := h7 j v hv; exact ⟨w, g1, hm_v_grow hg g2⟩⟩
  | .inr (.inl q), ⟨r, ce, h1, h2, h3, h4, h5, h6⟩ =>
    exact ⟨r, ce, h1, h2, h3, h4, h5, fun j v hv => by obtain ⟨w, g1, g2⟩ := h6 j v hv; exact ⟨w, g1, hm_v_grow hg g2⟩⟩
  | .inr (.inr q), ⟨ce, h1, h2, h3, h4, h5⟩ =>
    exact ⟨ce, h1, h2, h3, h4, fun x hx => by obtain ⟨cf, k, i, f, w, g1, g2, g3, g4⟩ := h5 x hx; exact ⟨cf, k, i, f, w, g1, g2, g3, hm_v_grow hg g4⟩⟩
theorem hm_cell_moved {D : va_G} {cl : List vw_C} {as : List Nat} {u U : State} (hvm : u.vm.Alike U.vm) {H : Heap} {a : Nat} {x : hm_E} (h : hm_cell D cl as u H a x) : hm_cell D cl as U H a x := by
  match x, h with
  | .inl q, ⟨ce, h1, h2, h3, h4⟩ =>
    refine ⟨ce, h1, State.isArrayOf_alike hvm h2, fun C hC => ?_, h4⟩
    obtain ⟨kA, comp, g1, g2, g3⟩ := h3 C hC
    obtain ⟨k', hk', he⟩ := hvm.2.2 _ _ g1
    exact ⟨k', comp, hk', by rw [he]; exact g2, by rw [hvm.findClass]; exact g3⟩
  | .inr (.inl q), h => exact h
  | .inr (.inr q), ⟨ce, h1, h2, h3, h4, h5⟩ =>
    refine ⟨ce, h1, h2, h3, by rw [hvm.findClass]; exact h4, fun x hx => ?_⟩
    obtain ⟨cf, k, i, f, w, g1, g2⟩ := h5 x hx
    obtain ⟨k', hi', -⟩ := State.fieldFound?_setVm hvm g1
    exact ⟨cf, k', i, f, w, hi', g2⟩
/-- the world: thing k lies at as[k]; those from nro on are ours (from B on, apart); those below are only read -/
def hm_W (D : va_G) (cl : List vw_C) (B nro : Nat) (as : List Nat) (U : State) (H : Heap) (h : hm_H) : Prop :=
  as.length = h.length ∧ (∀ (k a : Nat) (x : hm_E), as[k]? = some a → h[k]? = some x → hm_cell D cl as U H a x) ∧ (∀ k a : Nat, nro ≤ k → as[k]? = some a → B ≤ a) ∧ (∀ j k a : Nat, nro ≤ j → nro ≤ k → as[j]? = some a → as[k]? = some a → j = k) ∧ (∀ k a : Nat, k < nro → as[k]? = some a → a < B) ∧ B ≤ H.size ∧ nro ≤ h.length
section WORLD
variable {D : va_G} {cl : List vw_C} {B nro : Nat} {as : List Nat} {u U : State} {H H1 : Heap} {h : hm_H}
theorem hm_W_moved (hvm : u.vm.Alike U.vm) (hw : hm_W D cl B nro as u H h) : hm_W D cl B nro as U H h := ⟨hw.1, fun k a x h1 h2 => hm_cell_moved hvm (hw.2.1 k a x h1 h2), hw.2.2⟩
/-- thing k: its place, and what lies there -/
theorem hm_W_get (hw : hm_W D cl B nro as U H h) {k : Nat} {x : hm_E} (hk : h[k]? = some x) : ∃ a, as[k]? = some a ∧ hm_cell D cl as U H a x := by
  have hlt : k < as.length := by rw [hw.1]; exact (List.getElem?_eq_some_iff.mp hk).1
  exact ⟨as[k], List.getElem?_eq_getElem hlt, hw.2.1 k _ x (List.getElem?_eq_getElem hlt) hk⟩
/-- thing k of ours has changed -/
theorem hm_W_set (hw : hm_W D cl B nro as U H h) {k a : Nat} {x : hm_E} (hn : nro ≤ k) (ha : as[k]? = some a) (hz : H1.size = H.size) (ho : ∀ q : Nat, q ≠ a → H1[q]? = H[q]?) (hx : hm_cell D cl as U H1 a x) : hm_W D cl B nro as U H1 (h.set k x) := by
  obtain ⟨h1, h2, h3, h4, h5, h6, h7⟩ := hw
  refine ⟨by rw [List.length_set]; exact h1, fun j b y hj hy => ?_, h3, h4, h5, by rw [hz]; exact h6, by rw [List.length_set]; exact h7⟩
  by_cases e : k = j
  · subst e
    rw [ha] at hj
    cases hj
    have hlt : k < h.length := by rw [← h1]; exact (List.getElem?_eq_some_iff.mp ha).1
    rw [List.getElem?_set_self hlt] at hy
    cases hy
    exact hx
  · rw [List.getElem?_set_ne e] at hy
    refine hm_cell_kept (h2 j b y hj hy) (ho b fun z => ?_)
    subst z
    by_cases hjn : nro ≤ j
    · exact e (h4 k j b hn hjn ha hj)
    · have g1 := h5 j b (by omega) hj
      have g2 := h3 k b hn ha
      omega
/-- a new thing, at the heap's end -/
theorem hm_W_push (hw : hm_W D cl B nro as U H h) {x : hm_E} (hz : H.size + 1 ≤ H1.size) (ho : ∀ q : Nat, q < H.size → H1[q]? = H[q]?) (hx : hm_cell D cl (as ++ [H.size]) U H1 H.size x) : hm_W D cl B nro (as ++ [H.size]) U H1 (h ++ [x]) := by
  obtain ⟨h1, h2, h3, h4, h5, h6, h7⟩ := hw
  have hat : ∀ (k b : Nat), (as ++ [H.size])[k]? = some b → (k < as.length ∧ as[k]? = some b) ∨ (k = as.length ∧ b = H.size) := by
    intro k b hk
    by_cases e : k < as.length
    · rw [List.getElem?_append_left e] at hk
      exact Or.inl ⟨e, hk⟩
    · rw [List.getElem?_append_right (by omega)] at hk
      have e2 : k - as.length < 1 := (List.getElem?_eq_some_iff.mp hk).1
      have e3 : k = as.length := by omega
      subst e3
      simp at hk
      exact Or.inr ⟨rfl, hk.symm⟩
  have hin : ∀ (k b : Nat), as[k]? = some b → b < H.size := by
    intro k b hk
    have e : k < h.length := by rw [← h1]; exact (List.getElem?_eq_some_iff.mp hk).1
    exact hm_cell_at (h2 k b h[k] hk (List.getElem?_eq_getElem e))
  refine ⟨by simp [h1], fun k b y hk hy => ?_, fun k b hn hk => ?_, fun j k b hj hk h8 h9 => ?_, fun k b hk h8 => ?_, by omega, by simp; omega⟩
  · rcases hat k b hk with ⟨e, hk⟩ | ⟨e, rfl⟩
    · rw [List.getElem?_append_left (by rw [← h1]; exact e)] at hy
      exact hm_cell_grow hm_le_app (hm_cell_kept (h2 k b y hk hy) (ho b (hin k b hk)))
    · subst e
      rw [h1] at hy
      simp at hy
      subst hy
      exact hx
  · rcases hat k b hk with ⟨e, hk⟩ | ⟨e, rfl⟩
    · exact h3 k b hn hk
    · exact h6
  · rcases hat j b h8 with ⟨e, h8⟩ | ⟨e, e2⟩
    · rcases hat k b h9 with ⟨e3, h9⟩ | ⟨e3, e4⟩
      · exact h4 j k b hj hk h8 h9
      · have := hin j b h8
        omega
    · rcases hat k b h9 with ⟨e3, h9⟩ | ⟨e3, e4⟩
      · have := hin k b h9
        omega
      · omega
  · rcases hat k b h8 with ⟨e, h8⟩ | ⟨e, e2⟩
    · exact h5 k b hk h8
    · omega
/-- garbage beyond our things: the heap has only grown -/
theorem hm_W_more (hw : hm_W D cl B nro as U H h) (hz : H.size ≤ H1.size) (ho : ∀ q : Nat, q < H.size → H1[q]? = H[q]?) : hm_W D cl B nro as U H1 h := by
  obtain ⟨h1, h2, h3, h4, h5, h6, h7⟩ := hw
  refine ⟨h1, fun k a x hk hx => ?_, h3, h4, h5, by omega, h7⟩
  have hc := h2 k a x hk hx
  exact hm_cell_kept hc (ho a (hm_cell_at hc))
end WORLD
/-- what a value must be to be kept in a field or array of a kind -/
def hm_fit (ty : FieldType) (v : Value) : Bool := decide (narrow ty v = v) && fits ty v
theorem hm_fit_v {as : List Nat} {ty : FieldType} {v w : Value} (h : hm_fit ty v = true) (hv : hm_v as v w) : narrow ty w = w ∧ fits ty w = true := by
  simp only [hm_fit, Bool.and_eq_true, decide_eq_true_eq] at h
  cases v with
  | ref k =>
    obtain ⟨a, -, rfl⟩ := hv
    cases ty <;> first | exact ⟨rfl, rfl⟩ | (have h2 := h.2; simp [fits] at h2)
  | retAddr k =>
    have h2 := h.2
    cases ty <;> simp [fits] at h2
  | _ => cases hv; exact h
