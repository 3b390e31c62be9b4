/-- the rows on methods hold -/
def hm_okC (G : hm_T) (cn : List String) (Ts nw : List Cond) (pg : List hm_M) : Prop := ∀ x ∈ hm_Tc G, ∃ (own : String) (M : hm_M), cn[x.1]? = some own ∧ pg[x.2.2.2.1]? = some M ∧ (parseMethodDescriptor (hm_My M).desc).map (fun d => d.parameters.length) = some x.2.2.2.2.1 ∧ ((hm_My M).cls ≠ "java/lang/invoke/MethodHandle" ∧ (hm_My M).cls ≠ "java/lang/invoke/VarHandle") ∧ Cond.initialized (hm_My M).cls ∈ Ts ∧ hm_cw M ∈ Ts ∧ match x.2.2.1 with
  | 0 => Cond.methodLink own x.2.1 (hm_My M) ∈ Ts ∧ Cond.static (hm_My M) ∈ Ts ∧ hm_Mh M = []
  | 1 => Cond.methodLink own x.2.1 (hm_My M) ∈ Ts ∧ Cond.instanceMethod (hm_My M) ∈ Ts ∧ Cond.selects (hm_My M).cls (hm_My M) (hm_My M) ∈ Ts ∧ ∃ q, (hm_Tcl G)[x.2.2.2.2.2]? = some q ∧ q.1 = (hm_My M).cls
  | 2 => Cond.methodLink own x.2.1 (hm_My M) ∈ Ts ∧ Cond.instanceMethod (hm_My M) ∈ Ts ∧ (hm_My M).name = "<init>" ∧ hm_Mh M = [] ∧ hm_Mr M = none
  | 3 => (∃ host, Cond.methodLinkNest own x.2.1 (hm_My M) host ∈ nw) ∧ Cond.instanceMethod (hm_My M) ∈ Ts ∧ (hm_My M).name = "<init>" ∧ hm_Mh M = [] ∧ hm_Mr M = none
  | 4 => Cond.methodLink own x.2.1 (hm_My M) ∈ Ts ∧ Cond.instanceMethod (hm_My M) ∈ Ts ∧ Cond.selects (hm_My M).cls (hm_My M) (hm_My M) ∈ Ts ∧ (hm_My M).cls = "java/lang/String" ∧ hm_Mh M = []
  | _ => True
/-- what is called meets its contract -/
def hm_sound (l : Launch) (G : hm_T) (cn : List String) (nw Ts : List Cond) (D : va_G) (B : Nat) (pg : List hm_M) (d : Nat) (call : Nat → List Value → hm_G → Option (hm_G × hm_Out)) : Prop :=
  ∀ i vs g g2 out, call i vs g = some (g2, out) → hm_up g g2 ∧ ∃ M, pg[i]? = some M ∧ hm_Ml M ≤ 45 ∧ ∀ as, hm_Met l G cn nw Ts D B M d vs g g2 out as
section STEPC
variable {p : Program} {l : Launch} {e : Env} {R : Room} {s : State} {m : MethodId} {args : Array Value} {below : List Frame} {meth : Method} {c : Code} {Q : State → Prop}
variable {G : hm_T} {cn : List String} {nw Ts : List Cond} {D : va_G} {B n0 s0 d : Nat} {M M2 : hm_M} {as0 as : List Nat} {call : Nat → List Value → hm_G → Option (hm_G × hm_Out)} {pg : List hm_M}
variable {o : hm_O} {pc : Nat} {lv : List (Nat × Value)} {st : List Value} {g g2 : hm_G} {out : hm_Out} {S2 : hm_S} {H : Heap} {locs : List Loc} {ls : Array Slot} {st' : List Value}
theorem hm_good (hg : ∀ w ∈ Ts, goodWord w = true) (hm : hm_cw M2 ∈ Ts) : ∀ w ∈ hm_cw M2 :: Ts, w ∈ Ts ∧ ((w.onTables && w.keeps) = true ∨ ∃ ty, w = .arrayClass ty) := fun w hw => by
  have h : w ∈ Ts := by rcases List.mem_cons.mp hw with rfl | h; exact hm; exact h
  exact ⟨h, good_of_word (hg w h)⟩
theorem hm_cw0 (hh : hm_Mh M2 = []) : hm_cw M2 = .code (hm_My M2) (hm_Mc M2) (hm_Ml M2) (hm_Mr M2) := by unfold hm_cw; rw [hh]
theorem hm_len_of {y : MethodName} {n : Nat} (h : (parseMethodDescriptor y.desc).map (fun d => d.parameters.length) = some n) : ∀ sig, parseMethodDescriptor y.desc = some sig → n = sig.parameters.length := fun sig hs => by
  rw [hs] at h
  exact (Option.some.inj h).symm
theorem hm_cb {own : String} {index n mc ms : Nat} (hts : ∀ w ∈ Ts, w.before args s = true) (hg : ∀ w ∈ Ts, goodWord w = true) (hm : hm_cw M2 ∈ Ts) (hh : hm_Mh M2 = []) (hini : Cond.initialized (hm_My M2).cls ∈ Ts) (hl : Cond.methodLink own index (hm_My M2) ∈ Ts) (hd : (hm_My M2).cls ≠ "java/lang/invoke/MethodHandle" ∧ (hm_My M2).cls ≠ "java/lang/invoke/VarHandle") (hn : (parseMethodDescriptor (hm_My M2).desc).map (fun d => d.parameters.length) = some n)
    (hR : d + 9 ≤ R.frames ∧ (d + 1) * 64 + 128 ≤ R.locals) (hml : hm_Ml M2 ≤ 45) : CallB R s args own index (hm_My M2) (hm_Mc M2) (hm_Ml M2) (hm_Mr M2) (hm_cw M2 :: Ts) (hm_rm d mc ms) mc ms n :=
  ⟨rfl, rfl, by show d + 8 + 1 ≤ _; omega, by show 8 + (hm_Ml M2 + 11) + (d * 64 + 128) ≤ _; omega, pay_in hts (hm_good hg hm), by rw [hm_cw0 hh]; exact List.mem_cons_self, by rw [← hm_cw0 hh]; exact hts _ hm, hts _ hini, hd, hm_len_of hn, hts _ hl⟩
/-- the callee's start, from where the caller stands -/
theorem hm_pre {vs ws : List Value} {h : hm_H} (hx : hm_ctx p l s m args meth c G cn nw Ts D B M as0) (hnw : ∀ w ∈ nw, hm_nw w = true) (has : hm_le as0 as) (hv : hm_vs as vs ws) (h4 : hm_W D (hm_Tcl G) B (hm_Tro G) as s H h) (h5 : va_S (fun q => B ≤ q) s.heap H locs) : ∀ U : State, U.heap = H → s.WarmedH U.vm → hm_Pc G cn nw D B as vs h ws.toArray U := fun U hU hW => by
  obtain ⟨c1, c2, c3, c4, c5, c6, c7, c8, c9, c10, c11, c12, c13⟩ := hx
  exact ⟨ws, rfl, hv, by rw [hU]; exact hm_W_moved hW.alike h4, hm_env_grow has (hm_env_warm hnw hW (by rw [hU]; exact hm_env_kept h5.2.1 c9))⟩
/-- behind a call of which the small machine says out: the frame goes on, or what was thrown is caught, or goes on -/
theorem hm_stB {a9 : Array Value} {res : hm_S ⊕ (hm_G × hm_Out)} {rest rest' st0 : List Value} {lv' : List (Nat × Value)} (hx : hm_ctx p l s m args meth c G cn nw Ts D B M as0) (hH : ∀ x, hm_Mh M = [x] → x.2.2.2 ≠ 0 ∧ Cond.classLink (hm_My M).cls x.2.2.2 hm_xn ∈ Ts ∧ Cond.castable hm_xn hm_xn ∈ nw) (hup : hm_up g g2) (hn0 : n0 ≤ g.2.1 ∧ s0 ≤ g.2.2)
    (hr : vx_Run p l e R s m args below meth c H locs (g.2.1 - n0) (g.2.2 - s0) (g2.2.1 - g.2.1) (g2.2.2 - g.2.2) (F0 m pc ls st0) rest' (hm_Qc G D B as g2.1 out a9) (hm_Xc G D B as g2.1 out) (fun q => B ≤ q)) (h1 : lv_has ls (hm_Ml M) lv') (h2 : hm_lv as lv lv') (h3 : hm_vs as rest rest') (h5 : va_S (fun q => B ≤ q) s.heap H locs)
    (hb : hm_back M pc lv rest (some (g2, out)) = some res) (kk : ∀ S2, res = .inl S2 → hm_on2 p l e R s m args below meth c Q D (hm_Tcl G) B (hm_Tro G) (hm_Ml M) n0 s0 as S2)
    (kx : res = .inr (g2, none) → hm_Mh M = [] → ∀ (ex : List Nat) (H1 : Heap) (locs1 : List Loc) (q9 : Addr) (ce : Cell), hm_W D (hm_Tcl G) B (hm_Tro G) (as ++ ex) s H1 g2.1 → va_S (fun q => B ≤ q) s.heap H1 locs1 → H1[q9]? = some ce → ce.vm = .none → s.vm.findClass hm_xn = some ce.cls → vx_W p l e R s m args below meth c H1 locs1 (g2.2.1 - n0) (g2.2.2 - s0) Q (F0 m pc ls rest') q9) :
    W p l e R s m args below meth c H locs (g.2.1 - n0) (g.2.2 - s0) Q (F0 m pc ls st0) := by
  obtain ⟨c1, c2, c3, c4, c5, c6, c7, c8, c9, c10, c11, c12, c13⟩ := hx
  have e1 : g.2.1 - n0 + (g2.2.1 - g.2.1) = g2.2.1 - n0 := by have := hup.1; omega
  have e2 : g.2.2 - s0 + (g2.2.2 - g.2.2) = g2.2.2 - s0 := by have := hup.2; omega
  refine hm_callX hr h5 (fun ho ex H1 locs1 q9 ce k1 k2 k3 k4 k5 => ?_) (fun r w ex H1 locs1 ho k1 k2 k3 => ?_)
  · rw [e1, e2]
    subst ho
    unfold hm_back at hb
    dsimp only at hb
    split at hb
    · rename_i hM
      cases hb
      exact kx rfl hM ex H1 locs1 q9 ce k1 k2 k3 k4 k5
    · rename_i x hM
      split at hb
      · rename_i hc
        cases hb
        obtain ⟨x1, x2, x3⟩ := hH x hM
        refine vx_catch (E := hm_xn) (name := hm_xn) c5 [] ⟨x.1, x.2.1, x.2.2.1, x.2.2.2⟩ [] (by rw [c10, hM]; rfl) (fun z hz => by cases hz) (by simp [covers, hc.1, hc.2]) x1 (c4 _ x2) ((c9.2.1 _ x3).use rfl) k3 k4 k5 ?_
        exact kk _ rfl ex H1 locs1 ls [.ref q9] ⟨lv', h1, hm_lv_grow hm_le_app h2, ⟨Or.inr ⟨q9, rfl⟩, trivial⟩, k1, k2⟩
      · cases hb
    · cases hb
  · rw [e1, e2]
    subst ho
    unfold hm_back at hb
    dsimp only at hb
    cases hb
    exact kk _ rfl ex H1 locs1 ls (w.toList ++ rest') ⟨lv', h1, hm_lv_grow hm_le_app h2, hm_vs_app (hm_ov_list k1) (hm_vs_grow hm_le_app h3), k2, k3⟩
theorem hm_take_drop {n : Nat} (h : hm_vs as st st') : hm_vs as (st.take n) (st'.take n) ∧ hm_vs as (st.drop n) (st'.drop n) := by
  have e : st = st.take n ++ st.drop n := (List.take_append_drop n st).symm
  rw [e] at h
  obtain ⟨m1, m2, rfl, g1, g2⟩ := hm_vs_split h
  by_cases hn : n ≤ st.length
  · have hl : m1.length = n := by rw [hm_vs_len g1, List.length_take]; omega
    have t1 : (m1 ++ m2).take n = m1 := by rw [← hl]; simp
    have t2 : (m1 ++ m2).drop n = m2 := by rw [← hl]; simp
    rw [t1, t2]
    exact ⟨g1, g2⟩
  · have hd : st.drop n = [] := List.drop_of_length_le (by omega)
    rw [hd] at g2
    have hm2 := hm_vs_nil g2
    subst hm2
    have hl : m1.length ≤ n := by rw [hm_vs_len g1, List.length_take]; omega
    have t1 : (m1 ++ []).take n = m1 := by rw [List.append_nil, List.take_of_length_le hl]
    have t2 : (m1 ++ []).drop n = [] := by rw [List.append_nil, List.drop_of_length_le hl]
    rw [t1, t2, hd]
    exact ⟨g1, trivial⟩
theorem hm_stC {res : hm_S ⊕ (hm_G × hm_Out)} (hx : hm_ctx p l s m args meth c G cn nw Ts D B M as0) (hC : hm_okC G cn Ts nw pg) (hg : ∀ w ∈ Ts, goodWord w = true) (hnw : ∀ w ∈ nw, hm_nw w = true) (hsd : hm_sound l G cn nw Ts D B pg d call) (hRd : d + 9 ≤ R.frames ∧ (d + 1) * 64 + 128 ≤ R.locals) (has : hm_le as0 as)
    (hH : ∀ x, hm_Mh M = [x] → x.2.2.2 ≠ 0 ∧ Cond.classLink (hm_My M).cls x.2.2.2 hm_xn ∈ Ts ∧ Cond.castable hm_xn hm_xn ∈ nw) (hdg : decode (hm_Mc M) pc = .ok (o.1, o.2.1)) (hs : hm_dC G call M o pc lv st g = some res) (hp : hm_pt s D (hm_Tcl G) B (hm_Tro G) (hm_Ml M) as (pc, lv, st, g) H locs ls st') (hn0 : n0 ≤ g.2.1 ∧ s0 ≤ g.2.2)
    (hR : (∀ S2, res = .inl S2 → S2.2.2.2.2.1 - n0 ≤ R.cells ∧ S2.2.2.2.2.2 - s0 ≤ R.slots) ∧ ∀ g2 out, res = .inr (g2, out) → g2.2.1 - n0 ≤ R.cells ∧ g2.2.2 - s0 ≤ R.slots)
    (kk : ∀ S2, res = .inl S2 → hm_on2 p l e R s m args below meth c Q D (hm_Tcl G) B (hm_Tro G) (hm_Ml M) n0 s0 as S2)
    (kx : ∀ g2, res = .inr (g2, none) → hm_Mh M = [] → ∀ (ex : List Nat) (H1 : Heap) (locs1 : List Loc) (q9 : Addr) (ce : Cell) (rest' : List Value), hm_W D (hm_Tcl G) B (hm_Tro G) (as ++ ex) s H1 g2.1 → va_S (fun q => B ≤ q) s.heap H1 locs1 → H1[q9]? = some ce → ce.vm = .none → s.vm.findClass hm_xn = some ce.cls → vx_W p l e R s m args below meth c H1 locs1 (g2.2.1 - n0) (g2.2.2 - s0) Q (F0 m pc ls rest') q9) :
    W p l e R s m args below meth c H locs (g.2.1 - n0) (g.2.2 - s0) Q (F0 m pc ls st') := by
  have hx0 := hx
  obtain ⟨c1, c2, c3, c4, c5, c6, c7, c8, c9, c10, c11, c12, c13⟩ := hx
  obtain ⟨lv', h1, h2, h3, h4, h5⟩ := hp
  have h3 : hm_vs as st st' := h3
  have h4 : hm_W D (hm_Tcl G) B (hm_Tro G) as s H g.1 := h4
  have room : ∀ {g2 : hm_G} {out : hm_Out} {rest : List Value}, hm_up g g2 → hm_back M pc lv rest (some (g2, out)) = some res → g.2.1 - n0 + (g2.2.1 - g.2.1) ≤ R.cells ∧ g.2.2 - s0 + (g2.2.2 - g.2.2) ≤ R.slots := by
    intro g2 out rest hup hb
    have h9 : g2.2.1 - n0 ≤ R.cells ∧ g2.2.2 - s0 ≤ R.slots := by
      unfold hm_back at hb
      split at hb
      · cases hb
      · rename_i h8; cases h8; cases hb; exact hR.1 _ rfl
      · rename_i h8
        cases h8
        split at hb
        · cases hb; exact hR.2 _ _ rfl
        · split at hb
          · cases hb; exact hR.1 _ rfl
          · cases hb
        · cases hb
    have := hup.1
    have := hup.2
    omega
  have fix : CallFix p m c (hm_Mc M) (hm_Ml M) s args Ts (hm_My M).cls := ⟨c1, c2, c3, c5, c4⟩
  unfold hm_dC at hs
  split at hs
  · cases hs
  · rename_i x hx
    obtain ⟨own, M2, t1, t2, t3, t4, t5, t6, t7⟩ := hC x (List.mem_of_getElem? hx)
    obtain ⟨oc, ix, kd, im, na, ci⟩ := x
    dsimp only at hs t1 t2 t3 t7
    split at hs
    · rename_i hi
      have hown : own = (hm_My M).cls := by rw [hi.1] at t1; exact Option.some.inj (t1.symm.trans c12)
      subst hown
      obtain ⟨hv, hr9⟩ := hm_take_drop (n := na) h3
      have hsp : st' = (st'.take na).reverse.reverse ++ st'.drop na := by rw [List.reverse_reverse, List.take_append_drop]
      have hln : (st'.take na).reverse.length = na := by rw [List.length_reverse, List.length_take, hm_vs_len h3]; omega
      have hvr : hm_vs as (st.take na).reverse (st'.take na).reverse := hm_vs_rev hv
      split at hs
      · split at hs
        · rename_i ho
          cases hcl : call im (st.take na).reverse g with
          | none => rw [hcl] at hs; cases hs
          | some q =>
            obtain ⟨g2, out⟩ := q
            rw [hcl] at hs
            obtain ⟨hup, M3, p1, p2, p3⟩ := hsd _ _ _ _ _ hcl
            cases t2.symm.trans p1
            rw [ho.1, hi.2.1] at hdg
            refine hm_stB hx0 hH hup hn0 (vx_runS (n := na) (As := (st'.take na).reverse) (rest := st'.drop na) fix (p3 as) ⟨hm_cb c4 hg t6 t7.2.2 t5 t7.1 t4 t3 hRd p2, c4 _ t7.2.1⟩ ⟨hm_blind hnw, hm_pre hx0 hnw has hvr h4 h5⟩ rfl hln h1.1 hsp (lv_room (by rw [hm_vs_cat hr9]; exact ho.2)) hdg (room hup hs)) h1 h2 hr9 h5 hs kk (fun hk hM ex H1 locs1 q9 ce => kx g2 hk hM ex H1 locs1 q9 ce _)
        · cases hs
      · split at hs
        · rename_i b rest hdr
          split at hs
          · rename_i z hz
            split at hs
            · rename_i ho
              cases hcl : call im (.ref b :: (st.take na).reverse) g with
              | none => rw [hcl] at hs; cases hs
              | some q =>
                obtain ⟨g2, out⟩ := q
                rw [hcl] at hs
                obtain ⟨hup, M3, p1, p2, p3⟩ := hsd _ _ _ _ _ hcl
                cases t2.symm.trans p1
                rw [hdr] at hr9
                obtain ⟨w, st4, hd4, hwv, hs4⟩ := hm_vs_cons hr9
                have hwv0 := hwv
                obtain ⟨a, ha, rfl⟩ := hwv
                rw [hd4] at hsp
                rw [ho.2.1, hi.2.1] at hdg
                have hrc : ∃ cellB : Cell, H[a]? = some cellB ∧ cellB.vm.isStatics = false ∧ s.vm.findClass (hm_My M2).cls = some cellB.cls := by
                  obtain ⟨a2, ha2, r3, ce, g1, g22, g3, g4, g5, g6⟩ := hm_W_get h4 hz
                  cases ha.symm.trans ha2
                  obtain ⟨q, q1, q2⟩ := t7.2.2.2
                  refine ⟨ce, g3, by rw [g5]; rfl, ?_⟩
                  rw [g4, ho.1, ← q2]
                  exact (c9.1.1 ci q q1).2.1
                have hpv : PreV s H (hm_My M2).cls a (hm_Pc G cn nw D B as (.ref b :: (st.take na).reverse) g.1) (st'.take na).reverse := ⟨hm_blind hnw, hrc, hm_pre hx0 hnw has (ws := .ref a :: (st'.take na).reverse) ⟨hwv0, hvr⟩ h4 h5⟩
                by_cases hh : hm_Mh M2 = []
                · exact hm_stB hx0 hH hup hn0 (vx_runV (n := na) (As := (st'.take na).reverse) (rest := st4) fix (p3 as) ⟨hm_cb c4 hg t6 hh t5 t7.1 t4 t3 hRd p2, c4 _ t7.2.1, c4 _ t7.2.2.1⟩ hpv rfl hln h1.1 hsp (lv_room (by rw [hm_vs_cat hs4]; exact ho.2.2)) hdg (room hup hs)) h1 h2 hs4 h5 hs kk (fun hk hM ex H1 locs1 q9 ce => kx g2 hk hM ex H1 locs1 q9 ce _)
                · have hcw : hm_cw M2 = .codeWith (hm_My M2) (hm_Mc M2) (hm_Ml M2) (hm_Mr M2) (hm_Mh M2) := by
                    unfold hm_cw
                    split
                    · rename_i z9; exact absurd z9 hh
                    · rfl
                  exact hm_stB hx0 hH hup hn0 (vx_runVX (hh := hm_Mh M2) (n := na) (As := (st'.take na).reverse) (rest := st4) fix (p3 as) ⟨⟨rfl, rfl, by show d + 8 + 1 ≤ _; omega, by show 8 + (hm_Ml M2 + 11) + (d * 64 + 128) ≤ _; omega, pay_in c4 (hm_good hg t6), by rw [hcw]; exact List.mem_cons_self⟩, by rw [← hcw]; exact c4 _ t6, c4 _ t5, t4, hm_len_of t3, c4 _ t7.1, c4 _ t7.2.1, c4 _ t7.2.2.1⟩ hpv rfl hln h1.1 hsp (lv_room (by rw [hm_vs_cat hs4]; exact ho.2.2)) hdg (room hup hs)) h1 h2 hs4 h5 hs kk (fun hk hM ex H1 locs1 q9 ce => kx g2 hk hM ex H1 locs1 q9 ce _)
            · cases hs
          · cases hs
        · cases hs
      · split at hs
        · rename_i b rest hdr
          split at hs
          · rename_i ho
            split at hs
            · rename_i g2 hcl
              obtain ⟨hup, M3, p1, p2, p3⟩ := hsd _ _ _ _ _ hcl
              cases t2.symm.trans p1
              rw [hdr] at hr9
              obtain ⟨w, st4, hd4, hwv, hs4⟩ := hm_vs_cons hr9
              have hwv0 := hwv
              obtain ⟨a, ha, rfl⟩ := hwv
              rw [hd4] at hsp
              rw [ho.1, hi.2.1] at hdg
              have hMet := hm_noX (p3 as) (fun E st t z => by cases z.1.1)
              have hb : hm_back M pc lv rest (some (g2, some none)) = some res := hs
              have hps : PreS s H (hm_Pc G cn nw D B as (.ref b :: (st.take na).reverse) g.1) (.ref a :: (st'.take na).reverse) := ⟨hm_blind hnw, hm_pre hx0 hnw has (ws := .ref a :: (st'.take na).reverse) ⟨hwv0, hvr⟩ h4 h5⟩
              have hcb : CallB R s args (hm_My M).cls ix (hm_My M2) (hm_Mc M2) (hm_Ml M2) (hm_Mr M2) (hm_cw M2 :: Ts) (hm_rm d (g2.2.1 - g.2.1) (g2.2.2 - g.2.2)) (g2.2.1 - g.2.1) (g2.2.2 - g.2.2) na := hm_cb c4 hg t6 t7.2.2.2.1 t5 t7.1 t4 t3 hRd p2
              rw [t7.2.2.2.2] at hcb
              exact hm_stB hx0 hH hup hn0 (hm_run_of (va_runI (n := na) (As := (st'.take na).reverse) (rest := st4) fix hMet ⟨hcb, t7.2.2.1, c4 _ t7.2.1⟩ hps rfl hln h1.1 hsp (lv_room (by rw [hm_vs_cat hs4]; exact ho.2)) hdg (room hup hb))) h1 h2 hs4 h5 hb kk (fun hk hM ex H1 locs1 q9 ce => kx g2 hk hM ex H1 locs1 q9 ce _)
            · cases hs
          · cases hs
        · cases hs
      · split at hs
        · rename_i b rest hdr
          split at hs
          · rename_i ho
            split at hs
            · rename_i g2 hcl
              obtain ⟨hup, M3, p1, p2, p3⟩ := hsd _ _ _ _ _ hcl
              cases t2.symm.trans p1
              rw [hdr] at hr9
              obtain ⟨w, st4, hd4, hwv, hs4⟩ := hm_vs_cons hr9
              have hwv0 := hwv
              obtain ⟨a, ha, rfl⟩ := hwv
              rw [hd4] at hsp
              rw [ho.1, hi.2.1] at hdg
              have hMet := hm_noX (p3 as) (fun E st t z => by cases z.1.1)
              have hb : hm_back M pc lv rest (some (g2, some none)) = some res := hs
              have hps : PreS s H (hm_Pc G cn nw D B as (.ref b :: (st.take na).reverse) g.1) (.ref a :: (st'.take na).reverse) := ⟨hm_blind hnw, hm_pre hx0 hnw has (ws := .ref a :: (st'.take na).reverse) ⟨hwv0, hvr⟩ h4 h5⟩
              obtain ⟨host, hh9⟩ := t7.1
              have hcn : va_CN R s args (hm_My M).cls ix (hm_My M2) host (hm_Mc M2) (hm_Ml M2) (hm_Mr M2) (hm_cw M2 :: Ts) (hm_rm d (g2.2.1 - g.2.1) (g2.2.2 - g.2.2)) (g2.2.1 - g.2.1) (g2.2.2 - g.2.2) na := ⟨⟨rfl, rfl, by show d + 8 + 1 ≤ _; omega, by show 8 + (hm_Ml M2 + 11) + (d * 64 + 128) ≤ _; omega, pay_in c4 (hm_good hg t6), by rw [hm_cw0 t7.2.2.2.1]; exact List.mem_cons_self⟩, by rw [← hm_cw0 t7.2.2.2.1]; exact c4 _ t6, c4 _ t5, t4, hm_len_of t3, (c9.2.1 _ hh9).use rfl⟩
              rw [t7.2.2.2.2] at hcn
              exact hm_stB hx0 hH hup hn0 (hm_run_of (va_runIN (n := na) (As := (st'.take na).reverse) (rest := st4) fix hMet ⟨hcn, t7.2.2.1, c4 _ t7.2.1⟩ hps rfl hln h1.1 hsp (lv_room (by rw [hm_vs_cat hs4]; exact ho.2)) hdg (room hup hb))) h1 h2 hs4 h5 hb kk (fun hk hM ex H1 locs1 q9 ce => kx g2 hk hM ex H1 locs1 q9 ce _)
            · cases hs
          · cases hs
        · cases hs
      · split at hs
        · rename_i b rest hdr
          split at hs
          · rename_i z hz
            split at hs
            · rename_i ho
              cases hcl : call im (.ref b :: (st.take na).reverse) g with
              | none => rw [hcl] at hs; cases hs
              | some q =>
                obtain ⟨g2, out⟩ := q
                rw [hcl] at hs
                obtain ⟨hup, M3, p1, p2, p3⟩ := hsd _ _ _ _ _ hcl
                cases t2.symm.trans p1
                rw [hdr] at hr9
                obtain ⟨w, st4, hd4, hwv, hs4⟩ := hm_vs_cons hr9
                have hwv0 := hwv
                obtain ⟨a, ha, rfl⟩ := hwv
                rw [hd4] at hsp
                rw [ho.2.1, hi.2.1] at hdg
                have hrc : ∃ cellB : Cell, H[a]? = some cellB ∧ cellB.vm.isStatics = false ∧ s.vm.findClass (hm_My M2).cls = some cellB.cls := by
                  obtain ⟨a2, ha2, ce, g1, g22, g3, g4, g5⟩ := hm_W_get h4 hz
                  cases ha.symm.trans ha2
                  exact ⟨ce, g1, g22, by rw [t7.2.2.2.1, ← ho.1]; exact g4⟩
                have hpv : PreV s H (hm_My M2).cls a (hm_Pc G cn nw D B as (.ref b :: (st.take na).reverse) g.1) (st'.take na).reverse := ⟨hm_blind hnw, hrc, hm_pre hx0 hnw has (ws := .ref a :: (st'.take na).reverse) ⟨hwv0, hvr⟩ h4 h5⟩
                exact hm_stB hx0 hH hup hn0 (vx_runV (n := na) (As := (st'.take na).reverse) (rest := st4) fix (p3 as) ⟨hm_cb c4 hg t6 t7.2.2.2.2 t5 t7.1 t4 t3 hRd p2, c4 _ t7.2.1, c4 _ t7.2.2.1⟩ hpv rfl hln h1.1 hsp (lv_room (by rw [hm_vs_cat hs4]; exact ho.2.2)) hdg (room hup hs)) h1 h2 hs4 h5 hs kk (fun hk hM ex H1 locs1 q9 ce => kx g2 hk hM ex H1 locs1 q9 ce _)
            · cases hs
          · cases hs
        · cases hs
      · cases hs
    · cases hs
end STEPC
