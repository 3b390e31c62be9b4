def hm_rm (d mc ms : Nat) : Room := { frames := d + 8, cells := mc, slots := ms, locals := d * 64 + 128 }
def hm_ov (as : List Nat) (r w : Option Value) : Prop := match r, w with
  | none, none => True
  | some a, some b => hm_v as a b
  | _, _ => False
theorem hm_ov_list {as : List Nat} {r w : Option Value} (h : hm_ov as r w) : hm_vs as r.toList w.toList := by
  cases r <;> cases w
  · exact trivial
  · exact h.elim
  · exact h.elim
  · exact ⟨h, trivial⟩
def hm_xn : String := "java/lang/IllegalStateException"
def hm_Pc (G : hm_T) (cn : List String) (nw : List Cond) (D : va_G) (B : Nat) (as : List Nat) (vs : List Value) (h : hm_H) : Array Value → State → Prop := fun v U => ∃ ws : List Value, v = ws.toArray ∧ hm_vs as vs ws ∧ hm_W D (hm_Tcl G) B (hm_Tro G) as U U.heap h ∧ hm_env G cn nw D B as U U.heap
def hm_Qc (G : hm_T) (D : va_G) (B : Nat) (as : List Nat) (hf : hm_H) (out : hm_Out) : Array Value → State → Outcome → State → Prop := fun _ st o t => (∃ (ex : List Nat) (r w : Option Value), out = some r ∧ o = .returned w ∧ hm_ov (as ++ ex) r w ∧ hm_W D (hm_Tcl G) B (hm_Tro G) (as ++ ex) t t.heap hf) ∧ va_F (fun q => B ≤ q) st t
def hm_Xc (G : hm_T) (D : va_G) (B : Nat) (as : List Nat) (hf : hm_H) (out : hm_Out) : String → State → State → Prop := fun E st t => (out = none ∧ E = hm_xn ∧ ∃ ex : List Nat, hm_W D (hm_Tcl G) B (hm_Tro G) (as ++ ex) t t.heap hf) ∧ va_F (fun q => B ≤ q) st t
/-- a method's own word -/
def hm_cw (M : hm_M) : Cond := match hm_Mh M with
  | [] => .code (hm_My M) (hm_Mc M) (hm_Ml M) (hm_Mr M)
  | hh => .codeWith (hm_My M) (hm_Mc M) (hm_Ml M) (hm_Mr M) hh
/-- method M, called with vs on the things g.1, ends by out, with g2 -/
def hm_Met (l : Launch) (G : hm_T) (cn : List String) (nw Ts : List Cond) (D : va_G) (B : Nat) (M : hm_M) (d : Nat) (vs : List Value) (g g2 : hm_G) (out : hm_Out) (as : List Nat) : Prop :=
  vx_Met l (hm_My M) (hm_cw M :: Ts) (hm_rm d (g2.2.1 - g.2.1) (g2.2.2 - g.2.2)) (hm_Pc G cn nw D B as vs g.1) (hm_Qc G D B as g2.1 out) (hm_Xc G D B as g2.1 out) (g2.2.1 - g.2.1) (g2.2.2 - g.2.2) (fun q => B ≤ q)
theorem hm_blind {G : hm_T} {cn : List String} {nw : List Cond} {D : va_G} {B : Nat} {as : List Nat} {vs : List Value} {h : hm_H} (hn : ∀ w ∈ nw, hm_nw w = true) : FrameBlind (hm_Pc G cn nw D B as vs h) := by
  intro a U g mk ⟨ws, h1, h2, h3, h4⟩
  exact ⟨ws, h1, h2, hm_W_moved (u := U) (U := U.calling g mk a) (Vm.Alike.refl U.vm) h3, hm_env_same (u := U) (U := U.calling g mk a) hn rfl h4⟩
/-- a contract that never throws -/
theorem hm_noX {l : Launch} {y : MethodName} {ws : List Cond} {rm : Room} {Pc : Array Value → State → Prop} {Qc : Array Value → State → Outcome → State → Prop} {XC : String → State → State → Prop} {mc ms : Nat} {free : Addr → Prop} (h : vx_Met l y ws rm Pc Qc XC mc ms free) (hx : ∀ E st t, ¬ XC E st t) : Met l y ws rm Pc Qc mc ms free := by
  intro p e h1 h2 h3 s m args below h4 h5 h6 h7
  obtain ⟨n, o, a1, a2, a3, a4⟩ := h p e h1 h2 h3 s m args below h4 h5 h6 h7
  rcases a4 with a4 | ⟨q, -, E, ce, L, hX, -⟩
  · exact ⟨n, o, a1, a2, a3, a4⟩
  · exact absurd hX (hx _ _ _)
section CALL
variable {p : Program} {l : Launch} {e : Env} {R : Room} {s : State} {m : MethodId} {args : Array Value} {below : List Frame} {meth : Method} {c : Code} {H : Heap} {locs : List Loc} {cells slots : Nat} {Q : State → Prop}
variable {G : hm_T} {cn : List String} {nw Ts : List Cond} {D : va_G} {B : Nat} {as : List Nat} {mc ms pc : Nat} {ls : Array Slot} {st0 rest : List Value} {hf : hm_H} {out : hm_Out} {a : Array Value}
theorem hm_run_of (h : va_Run p l e R s m args below meth c H locs cells slots mc ms (F0 m pc ls st0) rest (hm_Qc G D B as hf out a) (fun q => B ≤ q)) : vx_Run p l e R s m args below meth c H locs cells slots mc ms (F0 m pc ls st0) rest (hm_Qc G D B as hf out a) (hm_Xc G D B as hf out) (fun q => B ≤ q) := fun T hT X => by
  obtain ⟨v, st₀, t, T', L, h0, X', hL, e1, e2, hq, st⟩ := h T hT X
  exact Or.inl ⟨v, st₀, t, T', L, h0, X', hL, e1, e2, hq, st⟩
/-- behind a call -/
theorem hm_callX (hr : vx_Run p l e R s m args below meth c H locs cells slots mc ms (F0 m pc ls st0) rest (hm_Qc G D B as hf out a) (hm_Xc G D B as hf out) (fun q => B ≤ q)) (hS : va_S (fun q => B ≤ q) s.heap H locs)
    (kx : out = none → ∀ (ex : List Nat) (H1 : Heap) (locs1 : List Loc) (q9 : Addr) (ce : Cell), hm_W D (hm_Tcl G) B (hm_Tro G) (as ++ ex) s H1 hf → va_S (fun q => B ≤ q) s.heap H1 locs1 → H1[q9]? = some ce → ce.vm = .none → s.vm.findClass hm_xn = some ce.cls → vx_W p l e R s m args below meth c H1 locs1 (cells + mc) (slots + ms) Q (F0 m pc ls rest) q9)
    (kk : ∀ (r w : Option Value) (ex : List Nat) (H1 : Heap) (locs1 : List Loc), out = some r → hm_ov (as ++ ex) r w → hm_W D (hm_Tcl G) B (hm_Tro G) (as ++ ex) s H1 hf → va_S (fun q => B ≤ q) s.heap H1 locs1 → W p l e R s m args below meth c H1 locs1 (cells + mc) (slots + ms) Q (F0 m (pc + 3) ls (w.toList ++ rest))) : W p l e R s m args below meth c H locs cells slots Q (F0 m pc ls st0) := by
  intro T hT X
  rcases hr T hT X with ⟨v, st₀, t, T', L, h0, X', hL, e1, e2, ⟨⟨ex, r, w, ho, hv, hov, hW⟩, hF⟩, st⟩ | ⟨q, st₀, t, T', L, E, ce, h0, X', hL, e1, e2, ⟨⟨ho, hE, ex, hW⟩, hF⟩, hce, hcv, hcl, st⟩
  · cases hv
    obtain ⟨k1, k2, k3⟩ := vx_keep h0 e1 hS (fun _ _ z => z) (fun _ z => z) hL hF
    have hal : s.vm.Alike t.vm := by rw [← e2]; exact X'.warmed.alike
    obtain ⟨t2, a1, b1⟩ := kk r v ex T'.heap (locs ++ L) ho hov (by rw [e1]; exact hm_W_moved hal.symm hW) k3 T' rfl X'
    exact ⟨t2, st t2 a1, b1⟩
  · obtain ⟨k1, k2, k3⟩ := vx_keep h0 e1 hS (fun _ _ z => z) (fun _ z => z) hL hF
    have hal : s.vm.Alike t.vm := by rw [← e2]; exact X'.warmed.alike
    obtain ⟨t2, a1, b1⟩ := kx ho ex T'.heap (locs ++ L) q ce (by rw [e1]; exact hm_W_moved hal.symm hW) k3 (by rw [e1]; exact hce) hcv (by rw [← hE]; exact hcl) T' rfl X'
    exact ⟨t2, st.trans a1, b1⟩
end CALL
