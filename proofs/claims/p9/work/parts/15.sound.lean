/-- the methods' rows hold -/
def hm_okM (cn : List String) (Ts nw : List Cond) (pg : List hm_M) : Prop := ∀ (i : Nat) (M : hm_M), pg[i]? = some M → plainName (hm_My M).cls = true ∧ cn[hm_Mo M]? = some (hm_My M).cls ∧ hm_Ml M ≤ 45 ∧ (∀ (pc : Nat) (o : hm_O), (hm_Mi M)[pc]? = some (some o) → decode (hm_Mc M) pc = .ok (o.1, o.2.1)) ∧ ∀ x, hm_Mh M = [x] → x.2.2.2 ≠ 0 ∧ Cond.classLink (hm_My M).cls x.2.2.2 hm_xn ∈ Ts ∧ Cond.castable hm_xn hm_xn ∈ nw
theorem hm_sl_len {as : List Nat} : ∀ {l m : List Value}, hm_vs as l m → (lg_sl m).length = (lg_sl l).length
  | [], [], _ => rfl
  | v :: l, w :: m, h => by
    have e1 := hm_v_cat h.1
    have e2 := hm_sl_len h.2
    unfold lg_sl at e2 ⊢
    rw [List.flatMap_cons, List.flatMap_cons, List.length_append, List.length_append, e2, e1]
    by_cases c : v.category = 2
    · rw [if_pos c, if_pos c]; rfl
    · rw [if_neg c, if_neg c]; rfl
  | [], _ :: _, h => h.elim
  | _ :: _, [], h => h.elim
theorem hm_lv_args {as : List Nat} : ∀ {l m : List Value} (i : Nat), hm_vs as l m → hm_lv as (lv_args i l) (lv_args i m)
  | [], [], _, _ => trivial
  | v :: l, w :: m, i, h => by
    have e1 := hm_v_cat h.1
    unfold lv_args
    rw [e1]
    exact ⟨rfl, h.1, hm_lv_args _ h.2⟩
  | [], _ :: _, _, h => h.elim
  | _ :: _, [], _, h => h.elim
theorem hm_sound_all {l : Launch} {G : hm_T} {cn : List String} {nw Ts : List Cond} {D : va_G} {B : Nat} {pg : List hm_M} {K : Nat} (hl : l.stackTraces = false) (hok : hm_ok G cn Ts nw pg) (hM : hm_okM cn Ts nw pg) : ∀ d, hm_sound l G cn nw Ts D B pg d (hm_call G pg K d) := by
  intro d
  induction d with
  | zero => intro i vs g g2 out h; cases h
  | succ d ih =>
    intro i vs g g2 out h
    refine ⟨hm_up_call _ _ _ _ _ _ h, ?_⟩
    unfold hm_call at h
    split at h
    · cases h
    · rename_i M hi
      obtain ⟨m1, m2, m3, m4, m5⟩ := hM i M hi
      refine ⟨M, hi, m3, fun as => ?_⟩
      split at h
      · rename_i hsl
        have body : ∀ (p : Program) (e : Env) (s : State) (m : MethodId) (args : Array Value) (below : List Frame) (meth : Method) (c : Code) (s₁ : State), BodyLoose p l (hm_My M) (headSpec (hm_cw M :: Ts) (hm_rm (d + 1) (g2.2.1 - g.2.1) (g2.2.2 - g.2.2))) (hm_Mc M) (hm_Ml M) (hm_Mr M) e s m args below meth c s₁ → c.maxLocals = hm_Ml M → c.exceptionTable.toList = tableOf (hm_Mh M) → hm_Pc G cn nw D B as vs g.1 args s →
            W p l e (hm_rm (d + 1) (g2.2.1 - g.2.1) (g2.2.2 - g.2.2)) s m args below meth c s.heap [] 0 0 (vx_MQ below (hm_Qc G D B as g2.1 out) (hm_Xc G D B as g2.1 out) args s (g2.2.1 - g.2.1) (g2.2.2 - g.2.2) (fun q => B ≤ q)) (entryFrame m args (hm_Ml M)) := by
          intro p e s m args below meth c s₁ Bd hml htab hPc
          obtain ⟨ws, rfl, hv, hW, hE⟩ := hPc
          have hts := atoms_spec (ws := hm_cw M :: Ts) Bd.pre
          have hctx : hm_ctx p l s m ws.toArray meth c G cn nw Ts D B M as := ⟨Bd.exec, Bd.bytes, hml, fun w hw => hts w (List.mem_cons_of_mem _ hw), findClass_of_methodNamed Bd.named, Bd.returns, Bd.notSynchronized, (name_of_methodNamed Bd.named Bd.method).1, hE, htab, hl, m2, m4⟩
          have hle := lv_entry ws (n := hm_Ml M) (by rw [hm_sl_len hv]; exact hsl)
          rw [lg_entry_eq]
          generalize (lg_sl ws ++ List.replicate (hm_Ml M - (lg_sl ws).length) Slot.unset).toArray = ls at hle ⊢
          have key := hm_body (e := e) (below := below) (R := hm_rm (d + 1) (g2.2.1 - g.2.1) (g2.2.2 - g.2.2)) (n0 := g.2.1) (s0 := g.2.2) hctx hok ih ⟨Nat.le_of_eq (by show d + 9 = d + 1 + 8; omega), Nat.le_refl _⟩ ⟨Nat.le_refl _, Nat.le_refl _⟩ m5 K (0, lv_args 0 vs, [], g) h ⟨Nat.le_refl _, Nat.le_refl _⟩ [] s.heap [] ls [] (by rw [List.append_nil]; exact ⟨lv_args 0 ws, hle, hm_lv_args 0 hv, trivial, hW, va_S.rf⟩)
          dsimp only at key
          rw [Nat.sub_self, Nat.sub_self] at key
          exact key
        show vx_Met _ _ _ _ _ _ _ _ _ _
        by_cases hh : hm_Mh M = []
        · refine vx_ofW m1 (by rw [hm_cw0 hh]) (fun p e s m args below meth c s₁ Bd hml ht hP => body p e s m args below meth c s₁ Bd hml ?_ hP)
          rw [hh]
          cases hc : c.exceptionTable.toList with
          | nil => rfl
          | cons x r => exact (ht x (by rw [hc]; exact List.mem_cons_self)).elim
        · have hcw : hm_cw M = .codeWith (hm_My M) (hm_Mc M) (hm_Ml M) (hm_Mr M) (hm_Mh M) := by
            unfold hm_cw
            split
            · rename_i z9; exact absurd z9 hh
            · rfl
          refine vx_ofWH m1 (by rw [hcw]) (fun p e s m args below meth c s₁ Bd hml hP => body p e s m args below meth c s₁ Bd hml ?_ hP)
          have hts := atoms_spec (ws := hm_cw M :: Ts) Bd.pre
          exact vx_table (x := hm_My M) Bd (by rw [← hcw]; exact hts _ List.mem_cons_self)
      · cases h
