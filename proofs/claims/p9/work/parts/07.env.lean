/-- words that stay as the tables grow warmer, each by a law of its own -/
def hm_nw (w : Cond) : Bool := match w with
  | .fieldLinkNest .. => true
  | .methodLinkNest .. => true
  | .declares _ => true
  | .castable .. => true
  | _ => false
theorem hm_nw_warm {w : Cond} (h : hm_nw w = true) {s U : State} (hW : s.WarmedH U.vm) (hZ : va_Nw w s) : va_Nw w U := by
  unfold hm_nw at h
  split at h
  · exact va_Nw.warmF hW hZ
  · exact va_Nw.warmM hW hZ
  · exact va_Nw.warmD hW hZ
  · exact va_Nw.warmC hW hZ
  · cases h
theorem hm_nw_tab {w : Cond} (h : hm_nw w = true) : w.onTables = true := by
  unfold hm_nw at h
  split at h
  · rfl
  · rfl
  · rfl
  · rfl
  · cases h
/-- an array class over int rows -/
def hm_AA (U : State) : Prop := (Cond.arrayOver (.array .int)).before #[] U = true
theorem hm_AA_spec {u : State} (h : hm_AA u) : ∃ (comp c : ClassId) (k : Class), u.vm.findClass (FieldType.array .int).toString = some comp ∧ (u.vm.classes.findIdx? fun (x : Class) => match x.kind with | .array component _ => component == comp | _ => false) = some c ∧ u.vm.classes[c]? = some k ∧ k.kind = .array comp (.array .int) ∧ u.vm.findClass ("[" ++ (FieldType.array .int).toString) = some c := by
  unfold hm_AA Cond.before Cond.holds at h
  simp only [Cond.value] at h
  cases h1 : u.vm.findClass (FieldType.array .int).toString with
  | none => rw [h1] at h; simp at h
  | some comp =>
    rw [h1, Option.bind_some] at h
    cases h2 : (u.vm.classes.findIdx? fun (x : Class) => match x.kind with | .array component _ => component == comp | _ => false) with
    | none =>
      have h' := (congrArg (fun o : Option Nat => (o.bind (fun c => (u.vm.classes[c]?).map fun (k : Class) => match k.kind with | .array _ ty => decide (ty = FieldType.array .int) && decide (u.vm.findClass ("[" ++ (FieldType.array .int).toString) = some c) | _ => false) == some true)) h2).symm.trans h
      simp at h'
    | some c =>
      have h' := (congrArg (fun o : Option Nat => (o.bind (fun c => (u.vm.classes[c]?).map fun (k : Class) => match k.kind with | .array _ ty => decide (ty = FieldType.array .int) && decide (u.vm.findClass ("[" ++ (FieldType.array .int).toString) = some c) | _ => false) == some true)) h2).symm.trans h
      obtain ⟨hlt, hp, -⟩ := Array.findIdx?_eq_some_iff_getElem.mp h2
      have h3 : u.vm.classes[c]? = some u.vm.classes[c] := Array.getElem?_eq_getElem hlt
      simp only [Option.bind_some, h3, Option.map_some] at h'
      generalize u.vm.classes[c] = k at h' h3 hp
      cases hk : k.kind with
      | array c9 ty =>
        rw [hk] at h' hp
        simp at h' hp
        exact ⟨comp, c, k, rfl, h2, h3, by rw [hk, hp, h'.1], h'.2⟩
      | _ => rw [hk] at h'; simp at h'
theorem hm_AA_moved {u U : State} (hvm : u.vm.Alike U.vm) (h : hm_AA u) : hm_AA U := by
  obtain ⟨comp, c, k, h1, h2, h3, h4, h5⟩ := hm_AA_spec h
  obtain ⟨k', hk', he⟩ := hvm.2.2 _ _ h3
  have hi : (U.vm.classes.findIdx? fun (x : Class) => match x.kind with | .array component _ => component == comp | _ => false) = some c := by
    have e1 := va_idx_bare U.vm comp
    have e2 := va_idx_bare u.vm comp
    first | rw [hvm.bare_eq] at e1 | rw [← hvm.bare_eq] at e1
    exact (e1.symm.trans e2).trans h2
  have hkind : k'.kind = .array comp (.array .int) := by rw [he]; exact h4
  have f1 : U.vm.findClass (FieldType.array .int).toString = some comp := by rw [hvm.findClass]; exact h1
  have f2 : U.vm.findClass ("[" ++ (FieldType.array .int).toString) = some c := by rw [hvm.findClass]; exact h5
  unfold hm_AA Cond.before Cond.holds
  simp only [Cond.value]
  rw [f1, Option.bind_some]
  refine (congrArg (fun o : Option Nat => (o.bind (fun c => (U.vm.classes[c]?).map fun (k : Class) => match k.kind with | .array _ ty => decide (ty = FieldType.array .int) && decide (U.vm.findClass ("[" ++ (FieldType.array .int).toString) = some c) | _ => false) == some true)) hi).trans ?_
  simp [hk', hkind, f2]
/-- what stands about the world all the while: class tables, words, arrays of objects, static fields, texts, what a throw reads -/
def hm_env (G : hm_T) (cn : List String) (nw : List Cond) (D : va_G) (B : Nat) (as : List Nat) (U : State) (H : Heap) : Prop :=
  va_K D (hm_Tcl G) [] U ∧ (∀ w ∈ nw, va_Nw w U) ∧ (∀ x ∈ hm_Ta G, va_AO x.2.2 U) ∧ (hm_Tm G ≠ [] → hm_AA U) ∧
  (∀ x ∈ hm_Tz G, ∃ w, hm_v as x.2.2.2.2.2 w ∧ va_Z x.2.2.1 x.2.2.2.1 x.2.2.2.2.1 w (fun q => B ≤ q) U H) ∧
  (∀ x ∈ hm_Ts G, ∃ (a : Nat) (own : String), cn[x.1]? = some own ∧ as[x.2.2.2]? = some a ∧ vk_R own x.2.1 x.2.2.1 a U) ∧
  vx_Zq Bundle.tN "UNASSIGNED_STACK" Bundle.steD (fun q => B ≤ q) U H ∧ vx_Zq Bundle.tN "SUPPRESSED_SENTINEL" Bundle.listD (fun q => B ≤ q) U H
section ENV
variable {G : hm_T} {cn : List String} {nw : List Cond} {D : va_G} {B : Nat} {as as2 : List Nat} {s u U : State} {H H1 : Heap}
theorem hm_env_grow (hg : hm_le as as2) (h : hm_env G cn nw D B as U H) : hm_env G cn nw D B as2 U H := by
  obtain ⟨h1, h2, h3, h4, h5, h6, h7⟩ := h
  exact ⟨h1, h2, h3, h4, fun x hx => by obtain ⟨w, g1, g2⟩ := h5 x hx; exact ⟨w, hm_v_grow hg g1, g2⟩, fun x hx => by obtain ⟨a, own, g1, g2, g3⟩ := h6 x hx; exact ⟨a, own, g1, hg _ _ g2, g3⟩, h7⟩
theorem hm_env_warm (hn : ∀ w ∈ nw, hm_nw w = true) (hW : s.WarmedH U.vm) (h : hm_env G cn nw D B as s H) : hm_env G cn nw D B as U H := by
  obtain ⟨h1, h2, h3, h4, h5, h6, h7, h8⟩ := h
  exact ⟨va_K.moved hW.alike h1, fun w hw => hm_nw_warm (hn w hw) hW (h2 w hw), fun x hx => (h3 x hx).moved hW.alike, fun z => hm_AA_moved hW.alike (h4 z), fun x hx => by obtain ⟨w, g1, g2⟩ := h5 x hx; exact ⟨w, g1, g2.moved hW.alike⟩, fun x hx => by obtain ⟨a, own, g1, g2, g3⟩ := h6 x hx; exact ⟨a, own, g1, g2, g3.warm hW⟩, h7.moved hW.alike, h8.moved hW.alike⟩
theorem hm_env_same (hn : ∀ w ∈ nw, hm_nw w = true) (hv : U.vm = u.vm) (h : hm_env G cn nw D B as u H) : hm_env G cn nw D B as U H := by
  obtain ⟨h1, h2, h3, h4, h5, h6, h7, h8⟩ := h
  have ha : u.vm.Alike U.vm := by rw [hv]; exact Vm.Alike.refl _
  exact ⟨va_K.moved ha h1, fun w hw => (h2 w hw).same (hm_nw_tab (hn w hw)) hv.symm, fun x hx => (h3 x hx).moved ha, fun z => hm_AA_moved ha (h4 z), fun x hx => by obtain ⟨w, g1, g2⟩ := h5 x hx; exact ⟨w, g1, g2.moved ha⟩, fun x hx => by obtain ⟨a, own, g1, g2, g3⟩ := h6 x hx; exact ⟨a, own, g1, g2, g3.same hv⟩, h7.moved ha, h8.moved ha⟩
theorem hm_env_kept (hq : ∀ a : Nat, a < H.size → ¬ B ≤ a → H1[a]? = H[a]?) (h : hm_env G cn nw D B as U H) : hm_env G cn nw D B as U H1 := by
  obtain ⟨h1, h2, h3, h4, h5, h6, h7, h8⟩ := h
  exact ⟨h1, h2, h3, h4, fun x hx => by obtain ⟨w, g1, g2⟩ := h5 x hx; exact ⟨w, g1, g2.kept hq⟩, h6, h7.kept hq, h8.kept hq⟩
end ENV
/-- the tables' rows hold: Ts are words that stay, nw those of hm_nw -/
def hm_okT (G : hm_T) (cn : List String) (Ts nw : List Cond) : Prop :=
  hm_cls (hm_Tcl G) (hm_Tty G) Ts ∧
  (∀ x ∈ hm_Tf G, ∃ (q : vw_C) (own : String), (hm_Tcl G)[x.2.2.1]? = some q ∧ x.2.2.2 < q.2.2 ∧ cn[x.1]? = some own ∧ ((Cond.fieldLink own x.2.1 (q.2.1 x.2.2.2).1 (q.2.1 x.2.2.2).2.1 (q.2.1 x.2.2.2).2.2.1) ∈ Ts ∨ ((q.2.1 x.2.2.2).1 ≠ own ∧ ∃ host, (Cond.fieldLinkNest own x.2.1 (q.2.1 x.2.2.2).1 (q.2.1 x.2.2.2).2.1 (q.2.1 x.2.2.2).2.2.1 host) ∈ nw))) ∧
  (∀ x ∈ hm_Tg G, ∃ own : String, cn[x.1]? = some own ∧ (Cond.fieldLink own x.2.1 x.2.2.2.1 x.2.2.2.2.1 x.2.2.2.2.2) ∈ Ts) ∧
  (∀ x ∈ hm_Tn G, ∃ (q : vw_C) (own : String), (hm_Tcl G)[x.2.2]? = some q ∧ cn[x.1]? = some own ∧ Cond.classLink own x.2.1 q.1 ∈ Ts ∧ Cond.instantiable q.1 q.2.2 ∈ Ts ∧ Cond.initialized q.1 ∈ Ts) ∧
  (Cond.arrayClass .int ∈ Ts ∧ Cond.arrayClass .long ∈ Ts ∧ Cond.arrayClass .byte ∈ Ts) ∧
  (∀ x ∈ hm_Ta G, ∃ own : String, cn[x.1]? = some own ∧ Cond.classLink own x.2.1 x.2.2 ∈ Ts) ∧
  (∀ x ∈ hm_Tm G, ∃ own : String, cn[x.1]? = some own ∧ Cond.classLink own x.2 "[[I" ∈ Ts) ∧
  (∀ x ∈ hm_Tk G, ∃ own : String, cn[x.1]? = some own ∧ match x.2.2 with
    | .int v => Cond.constant own x.2.1 v ∈ Ts
    | .long v => Cond.constantLong own x.2.1 v ∈ Ts
    | _ => True) ∧
  (∀ x ∈ hm_Tz G, ∃ own : String, cn[x.1]? = some own ∧ (Cond.fieldLink own x.2.1 x.2.2.1 x.2.2.2.1 x.2.2.2.2.1) ∈ Ts)
