def R_law : String := "HandshakeForgeLaw"
def lw_P (b : Addr) (xs : List Int32) (args : Array Value) (s : State) : Prop := args = #[.ref b] ∧ s.IntsAt b xs ∧ xs.length ≤ 384 ∧ (Jvm.Cond.and given_1 narrow_1).before args s = true
def lw_Q (_ : Array Value) (s : State) (o : Outcome) (t : State) : Prop := o = .returned (some (.int 1)) ∧ Framed s o t [] 600128 7301098
/-- the small machine runs the law on the script xs to 1, within the claim's room -/
def tb_good (xs : List Int32) : Prop := ∃ (K d n : Nat) (gf : hm_G), hm_run tb_T (hm_call tb_T tb_pg K d) tb_M0 n (0, [(0, .ref 0)], [], tb_ro xs, 0, 0) = some (gf, some (some (.int 1))) ∧ gf.2.1 ≤ 600128 ∧ gf.2.2 ≤ 7301098 ∧ d + 9 ≤ 2048 ∧ (d + 1) * 64 + 128 ≤ 84000
set_option maxHeartbeats 4000000 in
theorem lw_walk (hall : ∀ xs : List Int32, xs.length ≤ 384 → tb_good xs) (l : Launch) (hl : l.stackTraces = false) (b : Addr) (xs : List Int32) : MetFree l x (headSpec (Jvm.Cond.code x code maxLocals ret :: tables_1) room_1) (lw_P b xs) (fun _ _ _ _ _ => True) lw_Q := by
  refine MetFree.of_bodyS (code := code) (maxLocals := maxLocals) (ret := ret) (by decide) ?_ ?_
  · intro args s m h hn
    obtain ⟨meth, c, h1, h2, h3, h4, h5, h6, -, -⟩ := Cond.code_spec hn (atoms_spec (ws := Jvm.Cond.code x code maxLocals ret :: tables_1) h _ List.mem_cons_self)
    exact ⟨meth, c, h1, h2, h3, h4, h5, h6⟩
  · intro p e s m args below meth c s₁ B hml0 hP _
    obtain ⟨rfl, hx, hbd, hgv⟩ := hP
    obtain ⟨scr, harrAt, hlist, hof, hsmall⟩ := hx
    obtain ⟨hcb, hkn, -, -⟩ := State.arrayAt?_spec harrAt
    have hown : s.vm.findClass R_law = some m.cls := findClass_of_methodNamed B.named
    have hts0 : ∀ c ∈ (Jvm.Cond.code x code maxLocals ret :: tables_1), c.before #[Value.ref b] s = true := atoms_spec (ws := Jvm.Cond.code x code maxLocals ret :: tables_1) B.pre
    have hts : ∀ w ∈ lw_tbl, w.before #[Value.ref b] s = true := k2_hts_sels lw_privs (fun w hw => hts0 w (List.mem_cons_of_mem _ hw)) lw_privs_ok
    have hml : c.maxLocals = maxLocals := B.maxLocals_eq (hts0 _ List.mem_cons_self)
    have X₀ : Stand p l e room_1 s m #[Value.ref b] below meth c s₁ [] 0 0 := Stand.of_body B
    have hh0 : s₁.heap = s.heap := by rw [B.state]; rfl
    have hsz : scr.slots.size = xs.length := by rw [← Array.length_toList, hlist, List.length_map]
    have hval : ∀ j : Nat, j < xs.length → scr.slots[j]? = some (.int (xs.getD j 0)) := fun j hj => by
      rw [← Array.getElem?_toList, hlist]
      simp [hj]
    have hbl : b < s.heap.size := (Array.getElem?_eq_some_iff.mp hcb).1
    have hX : va_X b xs.length (fun j => xs.getD j 0) s s.heap := ⟨scr, hcb, hof, hkn, hsz, hval⟩
    have htab : c.exceptionTable.toList = tableOf (hm_Mh tb_M0) := by
      obtain ⟨meth9, c9, h1, h2, -, -, -, -, h7, -⟩ := Cond.code_spec B.named (hts0 _ List.mem_cons_self)
      cases Option.some.inj (h1.symm.trans B.method)
      cases Option.some.inj (h2.symm.trans (Stand.of_body B).code)
      rw [Array.isEmpty_iff.mp h7]
      rfl
    obtain ⟨K, d, n, gf, hrun, hc, hs, hd1, hd2⟩ := hall xs hbd
    obtain ⟨D, as0, ha0, hW, hE⟩ := tb_start hts hgv hX hbl
    have hctx : hm_ctx p l s m #[Value.ref b] meth c tb_T tb_cn tb_nw tb_Ts D s.heap.size tb_M0 as0 := ⟨B.exec, B.bytes, hml, fun w hw => hts w (List.mem_filter.mp hw).1, hown, B.returns, B.notSynchronized, (name_of_methodNamed B.named B.method).1, hE, htab, hl, rfl, hm_dec_ok tb_d0 tb_e0⟩
    have hle := lv_entry ([.ref b]) (n := maxLocals) (Nat.le_of_ble_eq_true rfl)
    have key := hm_body (e := e) (below := below) (R := room_1) (n0 := 0) (s0 := 0) hctx tb_ok (hm_sound_all (K := K) hl tb_ok tb_okM d) ⟨hd1, hd2⟩ ⟨by rw [Nat.sub_zero]; exact hc, by rw [Nat.sub_zero]; exact hs⟩ (fun x hx => by cases hx) n _ hrun ⟨Nat.le_refl _, Nat.le_refl _⟩ [] s.heap [] _ [] (by rw [List.append_nil]; exact ⟨_, hle, ⟨rfl, ⟨b, ha0, rfl⟩, trivial⟩, trivial, hW, va_S.rf⟩)
    have K0 : W p l e room_1 s m #[Value.ref b] below meth c s₁.heap [] 0 0 (vx_MQ below (hm_Qc tb_T D s.heap.size as0 gf.1 (some (some (.int 1)))) (hm_Xc tb_T D s.heap.size as0 gf.1 (some (some (.int 1)))) #[Value.ref b] s (gf.2.1 - 0) (gf.2.2 - 0) (fun q => s.heap.size ≤ q)) (entryFrame m ([Value.ref b] : List Value).toArray maxLocals) := by
      rw [hh0, lg_entry_eq]
      exact key
    obtain ⟨t, a1, o, b1, b2, b3⟩ := K0 s₁ rfl X₀
    rcases b3 with ⟨⟨⟨ex, r, w, e1, e2, e3, -⟩, -⟩, L, hF, hL⟩ | ⟨q, ho, E, ce, L, hX9, -⟩
    · cases e1
      have hw : w = some (.int 1) := by
        cases w with
        | none => exact e3.elim
        | some v => exact congrArg some e3
      subst hw
      refine ⟨t, o, a1, b1, b2, e2, hF.1, hF.2.1, hF.2.2.weaken (fun y hy hlt => absurd hlt (Nat.not_lt.mpr (hL y hy))) ?_ ?_⟩
      · rw [Nat.sub_zero]; exact hc
      · rw [Nat.sub_zero]; exact hs
    · cases hX9.1.1
theorem lw_pre_spec {args : Array Value} {s : State} (h : (Jvm.Cond.and given_1 narrow_1).before args s = true) (hr : rest_1_c.before args s = true) : ∃ (b : Addr) (xs : List Int32), lw_P b xs args s := by
  have hs := flat_of_before _ h
  have hq := flat_of_before _ hr
  have hc : (Cond.count 1).before args s = true := hs _ (by decide +kernel)
  have harr : (Cond.arrayOf (.arg 0) .int).before args s = true := hs _ (by decide +kernel)
  have hle : (Cond.le (.length (.arg 0)) (.int 384)).before args s = true := hs _ (by decide +kernel)
  have hlen : (Cond.isInt (.length (.arg 0))).before args s = true := hq _ (by decide +kernel)
  have hall : (Cond.all (.arg 0) (.isInt (.elem (.arg 0) (.index 0)))).before args s = true := hq _ (by decide +kernel)
  obtain ⟨b, xs, hb, hx⟩ := State.ints_of_pre rfl harr hlen hall
  have hsm : xs.length < 2 ^ 31 := hx.choose_spec.2.2.2
  have hev : (Term.length (.arg 0)).eval args s none [] s = some (.int xs.length.toInt32) := hx.length_eval hb
  have hv := Cond.le_ints hev (show (Term.int 384).eval args s none [] s = some (.int 384) from rfl)
  have hd : xs.length.toInt32 ≤ 384 := by
    simpa [Cond.before, Cond.holds, hv] using hle
  have hN : xs.length ≤ 384 := (Int32.ofNat_le_ofNat hsm (by decide)).mp (show Int32.ofNat xs.length ≤ Int32.ofNat 384 from hd)
  exact ⟨b, xs, Cond.one_arg hc (show args[0]? = some (.ref b) from hb), hx, hN, h⟩
theorem lw_comes (hall : ∀ xs : List Int32, xs.length ≤ 384 → tb_good xs) (l : Launch) (hl : l.stackTraces = false) : Comes l x (Jvm.Cond.code x code maxLocals ret :: tables_1) room_1 (fun tb e args s => Calls_1 tb e args s ∧ rest_1 tb e args s ∧ Pre_1 tb e args s)
    (fun _ _ args s o t => lw_Q args s o t) := by
  intro p e ha hc hk s m args below hf hfit hheap happ hpre
  obtain ⟨b, xs, hP⟩ := lw_pre_spec hpre.2.2 hpre.2.1
  obtain ⟨k, o, h1, h2, h3, hQ⟩ := lw_walk hall l hl b xs p e ha hc hk s m args below hf ((Spec.applies_iff_loose hf).mp happ).1 hP trivial
  exact ⟨k, o, h1, h2, h3, hQ⟩
theorem lw_frame {s t : State} {o : Outcome} {args : Array Value} (h : Framed s o t [] 600128 7301098) :
    Framed s o t (fieldLocs frame_1_writes args s ++ arrayLocs frame_1_arrays args s ++ staticLocs frame_1_statics s) 600128 7301098 := h
theorem lw_limb (hall : ∀ xs : List Int32, xs.length ≤ 384 → tb_good xs) (L : Cond) (hL : ∀ (args : Array Value) (s t : State), L.after args s (.returned (some (.int 1))) t = true) :
    ArmFor flags0 classFile x code maxLocals ret World_1 tables_1 room_1 Calls_1 rest_1 Pre_1
      (fun tb e a s o t => postC L tb e a s o t ∧ Framed s o t (fieldLocs frame_1_writes a s ++ arrayLocs frame_1_arrays a s ++ staticLocs frame_1_statics s) 600128 7301098) := by
  intro l hfl _ _ p e ha hc hk s m args below hf hfit hheap happ hpre
  obtain ⟨k, o, h1, h2, h3, rfl, hF⟩ := lw_comes hall l (by unfold Launch.stackTraces; rw [hfl]; decide +kernel) p e ha hc hk s m args below hf hfit hheap happ hpre
  exact ⟨k, _, h1, h2, h3, hL args s _, lw_frame hF⟩
theorem tb_final (hall : ∀ xs : List Int32, xs.length ≤ 384 → tb_good xs) : Claimed_1_1 ∧ Claimed_1_2 := ⟨lw_limb hall limb_1_1 (fun args s t => by simp [limb_1_1, Cond.after, Cond.holds, Cond.value]), lw_limb hall limb_1_2 (fun args s t => Cond.after_iff.mpr (by
  first | (rw [show limb_1_2 = Cond.eq .result (.int 1) from rfl, Cond.eq_ints (x := 1) (y := 1) rfl rfl]; simp; done) | (simp [limb_1_2, Cond.value, Term.eval]; done)))⟩
