/-! More rules: throws, switches, bytes, remainders, the library's. -/
section RULES3
variable {M : hm_M} {pc row k ci fi q d n : Nat} {lv : List (Nat × Value)} {st rest args : List Value} {s : rS} {v w : Value} {i : Instr} {x y : Int32} {Q Q2 : rS → hm_Out → Prop} {ty : FieldType} {a b z : Int}
theorem wr_throw (h : ∀ call g, hm_step tb_T call M (pc, lv, st, g) = some (.inr ((g.1, g.2.1 + 1, g.2.2 + 6), none))) (hq : Q (s.1, s.2.1 + 1, s.2.2 + 6) none) : wr d M pc lv st s Q := fun g hg hc => ⟨(g.1, g.2.1 + 1, g.2.2 + 6), none, hm_bo_end (fun call => h call g), (s.1, s.2.1 + 1, s.2.2 + 6), hg, by rw [hc], hq⟩
theorem hs_call1b {G : hm_T} {g : hm_G} {call : Nat → List Value → hm_G → Option (hm_G × hm_Out)} {l : List Value} {ix im na : Nat} (ho : (hm_Mi M)[pc]? = some (some (.invokevirtual ix, 3, 14, row))) (hx : (hm_Tc G)[row]? = some (hm_Mo M, ix, 1, im, na, ci)) (ha : args.length = na) (hb : g.1[q]? = some (.inr (.inl (ci, l)))) (hs : (rest.map fun v => v.category).sum ≤ 8) : hm_step G call M (pc, lv, args.reverse ++ .ref q :: rest, g) = hm_back M pc lv rest (call im (.ref q :: args) g) := by
  rw [hs_of ho]
  show hm_dC G call M _ pc lv _ g = _
  have hd : (args.reverse ++ .ref q :: rest).drop na = .ref q :: rest := by rw [List.drop_append_of_le_length (by simp [ha])]; simp [ha]
  have ht : ((args.reverse ++ .ref q :: rest).take na).reverse = args := by rw [List.take_append_of_le_length (by simp [ha]), List.take_of_length_le (by simp [ha]), List.reverse_reverse]
  have hal : na ≤ (args.reverse ++ .ref q :: rest).length := by simp [ha]
  unfold hm_dC
  rw [hx]
  simp only [hd, ht, hb]
  rw [if_pos ⟨trivial, trivial, hal⟩, if_pos ⟨trivial, trivial, hs⟩]
theorem wr_call1T {ix im na : Nat} (ho : (hm_Mi M)[pc]? = some (some (.invokevirtual ix, 3, 14, row))) (hx : (hm_Tc tb_T)[row]? = some (hm_Mo M, ix, 1, im, na, ci)) (ha : args.length = na) (hb : tb_TG q = some (.inr ci, n)) (hs : (rest.map fun v => v.category).sum ≤ 8) (hh : hm_Mh M = []) (he : cr d im (.ref q :: args) s fun s2 out => (∃ ob, out = some ob ∧ wr d M (pc + 3) lv (ob.toList ++ rest) s2 Q) ∨ out = none ∧ Q s2 none) : wr d M pc lv (args.reverse ++ .ref q :: rest) s Q := fun g hg hc => by
  obtain ⟨l, h1, h2⟩ := tg_obj (Rp_tg hg hb)
  obtain ⟨g2, out, e1, s2, e2, e3, e4⟩ := he g hg hc
  rcases e4 with ⟨ob, rfl, e4⟩ | ⟨rfl, e4⟩
  · obtain ⟨gf, o2, e5, e6⟩ := e4 g2 e2 e3
    exact ⟨gf, o2, hs_bo e1 (fun call hc => hs_call1 ho hx ha h1 hs hc) e5, e6⟩
  · exact ⟨g2, none, hm_bo_callX e1 (fun call hc => by rw [hs_call1b ho hx ha h1 hs, hc]; unfold hm_back; dsimp only; rw [hh]), s2, e2, e3, e4⟩
theorem wr_call1H {ix im na : Nat} {t : Nat × Nat × Nat × Nat} (ho : (hm_Mi M)[pc]? = some (some (.invokevirtual ix, 3, 14, row))) (hx : (hm_Tc tb_T)[row]? = some (hm_Mo M, ix, 1, im, na, ci)) (ha : args.length = na) (hb : tb_TG q = some (.inr ci, n)) (hs : (rest.map fun v => v.category).sum ≤ 8) (hh : hm_Mh M = [t]) (ht : t.1 ≤ pc ∧ pc < t.2.1) (he : cr d im (.ref q :: args) s fun s2 out => (∃ ob, out = some ob ∧ wr d M (pc + 3) lv (ob.toList ++ rest) s2 Q) ∨ out = none ∧ wr d M t.2.2.1 lv [.retAddr 0] s2 Q) : wr d M pc lv (args.reverse ++ .ref q :: rest) s Q := fun g hg hc => by
  obtain ⟨l, h1, h2⟩ := tg_obj (Rp_tg hg hb)
  obtain ⟨g2, out, e1, s2, e2, e3, e4⟩ := he g hg hc
  rcases e4 with ⟨ob, rfl, e4⟩ | ⟨rfl, e4⟩
  · obtain ⟨gf, o2, e5, e6⟩ := e4 g2 e2 e3
    exact ⟨gf, o2, hs_bo e1 (fun call hc => hs_call1 ho hx ha h1 hs hc) e5, e6⟩
  · obtain ⟨gf, o2, e5, e6⟩ := e4 g2 e2 e3
    exact ⟨gf, o2, hm_bo_call e1 (fun call hc => by rw [hs_call1b ho hx ha h1 hs, hc]; unfold hm_back; dsimp only; rw [hh]; dsimp only; rw [if_pos ht]) e5, e6⟩
theorem wr_tsw2 {len : Nat} {dflt lo hi : Int} {offs : Array Int} (ho : (hm_Mi M)[pc]? = some (some (.tableswitch dflt lo hi offs, len, 8, row))) (hsz : ∀ n, n ≤ (hi - lo).toNat → n < offs.size) (ha : i32 a) (k1 : lo ≤ a → a ≤ hi → ∀ off, off ∈ offs.toList → ∃ t, hm_tg pc off = some t ∧ wr d M t lv st s Q) (k2 : a < lo ∨ hi < a → ∃ t, hm_tg pc dflt = some t ∧ wr d M t lv st s Q) : wr d M pc lv (vi a :: st) s Q := by
  by_cases e : a < lo ∨ hi < a
  · obtain ⟨t, h1, h2⟩ := k2 e
    refine wr_go (fun call g => ?_) h2
    rw [hs_of ho]
    show (hm_gW (.tableswitch dflt lo hi offs) pc lv (vi a :: st)).map (fun q => Sum.inl (q.1, q.2.1, q.2.2, g)) = _
    unfold hm_gW
    dsimp only
    rw [i32_to ha.1 ha.2, if_pos e, h1]
    rfl
  · have hn : (a - lo).toNat < offs.size := hsz _ (by omega)
    obtain ⟨t, h1, h2⟩ := k1 (by omega) (by omega) (offs[(a - lo).toNat]) (Array.getElem_mem_toList hn)
    refine wr_go (fun call g => ?_) h2
    rw [hs_of ho]
    show (hm_gW (.tableswitch dflt lo hi offs) pc lv (vi a :: st)).map (fun q => Sum.inl (q.1, q.2.1, q.2.2, g)) = _
    unfold hm_gW
    dsimp only
    rw [i32_to ha.1 ha.2, if_neg e, Array.getElem?_eq_getElem hn]
    dsimp only
    rw [h1]
    rfl
theorem wr_bst (ho : (hm_Mi M)[pc]? = some (some (.bastore, 1, 11, 1))) (hro : hm_Tro tb_T ≤ q) (ht : tb_TG q = some (.inl .byte, n)) (h0 : 0 ≤ a) (h1 : a < n) (hn : n ≤ 2147483647) (kk : ∀ z, -128 ≤ z ∧ z ≤ 127 → wr d M (pc + 1) lv st (up2 s.1 q a.toNat z, s.2) Q) : wr d M pc lv (.int x :: vi a :: .ref q :: st) s Q := by
  obtain ⟨z, hz, g1, g2⟩ := i32_of (x.toInt8.toInt32)
  have hb : -128 ≤ z ∧ z ≤ 127 := by
    have h3 := congrArg Int32.toInt hz
    rw [i32_to g1 g2, Int8.toInt_toInt32] at h3
    have h4 := x.toInt8.le_toInt
    have h5 := x.toInt8.toInt_lt
    omega
  exact wr_ast (ty := .byte) ho hro ht rfl h0 h1 hn (by show some (Value.int x.toInt8.toInt32) = some (Value.int (Int32.ofInt z)); rw [hz]) hb (kk z hb)
theorem wr_remr (ho : (hm_Mi M)[pc]? = some (some (.irem, 1, 6, row))) (ha : 0 ≤ a ∧ a ≤ 2147483647) (hb : 1 ≤ b ∧ b ≤ 2147483647) (kk : wr d M (pc + 1) lv (vi (a - a / b * b) :: st) s Q) : wr d M pc lv (vi b :: vi a :: st) s Q := by
  refine wr_go (fun call g => ?_) kk
  rw [hs_of ho]
  have hb0 : i32 b := by unfold i32; omega
  show hm_pu 1 g (if Int32.ofInt b = 0 then none else some (1, pc + 1, lv, Value.int (Int32.ofInt a - Int32.ofInt a / Int32.ofInt b * Int32.ofInt b) :: st)) = _
  have hd : Int32.ofInt a / Int32.ofInt b = Int32.ofInt (a / b) := by
    rw [← Int.tdiv_eq_ediv_of_nonneg ha.1]
    exact (Int32.ofInt_tdiv (by show -2147483648 ≤ a; omega) (by show a ≤ 2147483647; omega) (by show -2147483648 ≤ b; omega) (by show b ≤ 2147483647; omega)).symm
  rw [if_neg (ofInt_ne hb0 (by omega)), hd, i32_mul, i32_sub]
  rfl
theorem wr_max {ix : Nat} (ho : (hm_Mi M)[pc]? = some (some (.invokestatic ix, 3, 15, row))) (hx : (hm_Tl tb_T)[row]? = some (hm_Mo M, ix, 1)) (ha : i32 a) (hb : i32 b) (hs : (st.map fun v => v.category).sum ≤ 8) (kk : ∀ z, (a ≤ z ∧ b ≤ z ∧ (z = a ∨ z = b)) → wr d M (pc + 3) lv (vi z :: st) s Q) : wr d M pc lv (vi b :: vi a :: st) s Q := by
  refine wr_go (fun call g => ?_) (kk (if a < b then b else a) (by split <;> omega))
  rw [hs_of ho]
  show hm_dL tb_T M (.invokestatic ix, 3, 15, row) pc lv (vi b :: vi a :: st) g = _
  have h1 : (Int32.ofInt a < Int32.ofInt b) ↔ a < b := by rw [Int32.lt_iff_toInt_lt, i32_to ha.1 ha.2, i32_to hb.1 hb.2]
  have h2 : ((vi b :: vi a :: st).map fun v => v.category).sum ≤ 16 := by
    show 1 + (1 + (st.map fun v => v.category).sum) ≤ 16
    omega
  unfold hm_dL
  rw [hx]
  dsimp only
  rw [if_pos ⟨rfl, rfl, rfl, h2⟩]
  show some (Sum.inl (pc + 3, lv, Value.int (if Int32.ofInt a < Int32.ofInt b then Int32.ofInt b else Int32.ofInt a) :: st, g)) = _
  by_cases e : a < b
  · rw [if_pos (h1.mpr e), if_pos e]
  · rw [if_neg (fun q => e (h1.mp q)), if_neg e]
theorem wr_minl {ix : Nat} (ho : (hm_Mi M)[pc]? = some (some (.invokestatic ix, 3, 15, row))) (hx : (hm_Tl tb_T)[row]? = some (hm_Mo M, ix, 3)) (hs : (st.map fun v => v.category).sum ≤ 8) (kk : ∀ z, i64 z → wr d M (pc + 3) lv (vl z :: st) s Q) : wr d M pc lv (vl b :: vl a :: st) s Q := by
  obtain ⟨z, hz, g1, g2⟩ := i64_of (if Int64.ofInt b < Int64.ofInt a then Int64.ofInt b else Int64.ofInt a)
  refine wr_go (fun call g => ?_) (kk z ⟨g1, g2⟩)
  rw [hs_of ho]
  show hm_dL tb_T M (.invokestatic ix, 3, 15, row) pc lv (vl b :: vl a :: st) g = _
  have h2 : ((vl b :: vl a :: st).map fun v => v.category).sum ≤ 16 := by
    show 2 + (2 + (st.map fun v => v.category).sum) ≤ 16
    omega
  unfold hm_dL
  rw [hx]
  dsimp only
  rw [if_pos ⟨rfl, rfl, rfl, h2⟩]
  show some (Sum.inl (pc + 3, lv, Value.long (if Int64.ofInt b < Int64.ofInt a then Int64.ofInt b else Int64.ofInt a) :: st, g)) = _
  rw [hz]
theorem wr_l2i (ho : (hm_Mi M)[pc]? = some (some (.l2i, 1, 5, row))) (ha : i32 a) (kk : wr d M (pc + 1) lv (vi a :: st) s Q) : wr d M pc lv (vl a :: st) s Q := by
  refine wr_go (fun call g => ?_) kk
  rw [hs_of ho]
  show some (Sum.inl (pc + 1, lv, Value.int (Int64.ofInt a).toInt32 :: st, g)) = _
  have : (Int64.ofInt a).toInt32 = Int32.ofInt a := by
    unfold i32 at ha
    apply Int32.toInt_inj.mp
    rw [Int64.toInt_toInt32, i64_to (by omega) (by omega), i32_to ha.1 ha.2]
    exact Int.bmod_eq_of_le (by omega) (by omega)
  rw [this]
end RULES3
