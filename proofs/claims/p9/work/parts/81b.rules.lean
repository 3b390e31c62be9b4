/-! More rules: instructions whose answer is any int, switches by all their ways. -/
theorem ls_mem (dflt k : Int) : ∀ l : List (Int × Int), Jvm.Op.lookupswitch.offset l dflt k ∈ dflt :: l.map (fun q => q.2)
  | [] => List.mem_cons_self
  | (a, o) :: r => by
    show (if a = k then o else Jvm.Op.lookupswitch.offset r dflt k) ∈ _
    by_cases e : a = k
    · rw [if_pos e]
      simp
    · rw [if_neg e]
      have := ls_mem dflt k r
      simp only [List.map_cons, List.mem_cons] at this ⊢
      rcases this with h | h
      · exact .inl h
      · exact .inr (.inr h)
section RULES2
variable {M : hm_M} {pc row len d : Nat} {lv : List (Nat × Value)} {st : List Value} {s : rS} {i : Instr} {Q : rS → hm_Out → Prop} {a b : Int}
theorem wr_lsw {dflt : Int} {ps : Array (Int × Int)} (ho : (hm_Mi M)[pc]? = some (some (.lookupswitch dflt ps, len, 8, row))) (hs : (ps.toList.zip (ps.toList.drop 1)).all (fun (a, next) => a.1 < next.1) = true) (kk : ∀ off, off ∈ dflt :: ps.toList.map (fun q => q.2) → ∃ t, hm_tg pc off = some t ∧ wr d M t lv st s Q) : wr d M pc lv (vi a :: st) s Q := by
  obtain ⟨t, h1, h2⟩ := kk _ (ls_mem dflt (Int32.ofInt a).toInt ps.toList)
  refine wr_go (fun call g => ?_) h2
  rw [hs_of ho]
  show (hm_gW (.lookupswitch dflt ps) pc lv (vi a :: st)).map (fun q => Sum.inl (q.1, q.2.1, q.2.2, g)) = _
  unfold hm_gW
  dsimp only
  rw [if_pos hs, h1]
  rfl
theorem wr_tsw {dflt lo hi : Int} {offs : Array Int} (ho : (hm_Mi M)[pc]? = some (some (.tableswitch dflt lo hi offs, len, 8, row))) (hsz : ∀ n, n ≤ (hi - lo).toNat → n < offs.size) (ha : i32 a) (kk : ∀ off, off ∈ dflt :: offs.toList → ∃ t, hm_tg pc off = some t ∧ wr d M t lv st s Q) : wr d M pc lv (vi a :: st) s Q := by
  by_cases e : a < lo ∨ hi < a
  · obtain ⟨t, h1, h2⟩ := kk dflt List.mem_cons_self
    refine wr_go (fun call g => ?_) h2
    rw [hs_of ho]
    show (hm_gW (.tableswitch dflt lo hi offs) pc lv (vi a :: st)).map (fun q => Sum.inl (q.1, q.2.1, q.2.2, g)) = _
    unfold hm_gW
    dsimp only
    rw [i32_to ha.1 ha.2, if_pos e, h1]
    rfl
  · have hn : (a - lo).toNat < offs.size := hsz _ (by omega)
    obtain ⟨t, h1, h2⟩ := kk (offs[(a - lo).toNat]) (List.mem_cons_of_mem _ (Array.getElem_mem_toList hn))
    refine wr_go (fun call g => ?_) h2
    rw [hs_of ho]
    show (hm_gW (.tableswitch dflt lo hi offs) pc lv (vi a :: st)).map (fun q => Sum.inl (q.1, q.2.1, q.2.2, g)) = _
    unfold hm_gW
    dsimp only
    rw [i32_to ha.1 ha.2, if_neg e, Array.getElem?_eq_getElem hn]
    dsimp only
    rw [h1]
    rfl
theorem wr_anyu (ho : (hm_Mi M)[pc]? = some (some (i, 1, 5, row))) (hf : ∀ x : Int32, ∃ z : Int32, hm_u1 i (.int x) = some (.int z)) (kk : ∀ z, i32 z → wr d M (pc + 1) lv (vi z :: st) s Q) : wr d M pc lv (vi a :: st) s Q := by
  obtain ⟨w, hw⟩ := hf (Int32.ofInt a)
  obtain ⟨z, hz, h1, h2⟩ := i32_of w
  refine wr_go (fun call g => ?_) (kk z ⟨h1, h2⟩)
  rw [hs_of ho]
  show hm_pu 1 g (hm_gU i pc lv (vi a :: st)) = _
  unfold hm_gU
  dsimp only
  rw [hw, hz]
  rfl
theorem ofInt_ne {z : Int} (h : i32 z) (hz : z ≠ 0) : ¬ Int32.ofInt z = 0 := fun e => by
  have := congrArg Int32.toInt e
  rw [i32_to h.1 h.2, i0] at this
  exact hz this
theorem wr_div (ho : (hm_Mi M)[pc]? = some (some (.idiv, 1, 6, row))) (hb : i32 b) (hb0 : b ≠ 0) (kk : ∀ z, i32 z → wr d M (pc + 1) lv (vi z :: st) s Q) : wr d M pc lv (vi b :: vi a :: st) s Q := by
  obtain ⟨z, hz, h1, h2⟩ := i32_of (Int32.ofInt a / Int32.ofInt b)
  refine wr_go (fun call g => ?_) (kk z ⟨h1, h2⟩)
  rw [hs_of ho]
  show hm_pu 1 g (if Int32.ofInt b = 0 then none else some (1, pc + 1, lv, Value.int (Int32.ofInt a / Int32.ofInt b) :: st)) = _
  rw [if_neg (ofInt_ne hb hb0), hz]
  rfl
theorem wr_rem (ho : (hm_Mi M)[pc]? = some (some (.irem, 1, 6, row))) (hb : i32 b) (hb0 : b ≠ 0) (kk : ∀ z, i32 z → wr d M (pc + 1) lv (vi z :: st) s Q) : wr d M pc lv (vi b :: vi a :: st) s Q := by
  obtain ⟨z, hz, h1, h2⟩ := i32_of (Int32.ofInt a - Int32.ofInt a / Int32.ofInt b * Int32.ofInt b)
  refine wr_go (fun call g => ?_) (kk z ⟨h1, h2⟩)
  rw [hs_of ho]
  show hm_pu 1 g (if Int32.ofInt b = 0 then none else some (1, pc + 1, lv, Value.int (Int32.ofInt a - Int32.ofInt a / Int32.ofInt b * Int32.ofInt b) :: st)) = _
  rw [if_neg (ofInt_ne hb hb0), hz]
  rfl
/-- the lowest bits of an int -/
theorem and_rng {x : Int32} {n : Int} (hn : 0 ≤ n ∧ n ≤ 63) : 0 ≤ (x &&& Int32.ofInt n).toInt ∧ (x &&& Int32.ofInt n).toInt ≤ n := by
  obtain ⟨N, rfl⟩ : ∃ N : Nat, n = (N : Int) := ⟨n.toNat, by omega⟩
  have h1 : (x &&& Int32.ofInt (N : Int)).toInt = ((x &&& Int32.ofInt (N : Int)).toBitVec).toInt := rfl
  have h2 : (x &&& Int32.ofInt (N : Int)).toBitVec = x.toBitVec &&& BitVec.ofNat 32 N := by
    rw [Int32.toBitVec_and, Int32.ofInt_eq_ofNat]
    rfl
  have h3 : (x.toBitVec &&& BitVec.ofNat 32 N).toNat ≤ N := by
    rw [BitVec.toNat_and, BitVec.toNat_ofNat]
    exact Nat.le_trans Nat.and_le_right (Nat.mod_le _ _)
  rw [h1, h2, BitVec.toInt_eq_toNat_of_lt (by omega)]
  omega
theorem wr_and (ho : (hm_Mi M)[pc]? = some (some (.iand, 1, 3, row))) (hb : 0 ≤ b ∧ b ≤ 63) (kk : ∀ z, 0 ≤ z ∧ z ≤ b → wr d M (pc + 1) lv (vi z :: st) s Q) : wr d M pc lv (vi b :: vi a :: st) s Q := by
  have h := and_rng (x := Int32.ofInt a) hb
  obtain ⟨z, hz, h1, h2⟩ := i32_of (Int32.ofInt a &&& Int32.ofInt b)
  rw [hz, i32_to h1 h2] at h
  refine wr_go (fun call g => ?_) (kk z h)
  rw [hs_of ho]
  show hm_pu 1 g (some (1, pc + 1, lv, Value.int (Int32.ofInt a &&& Int32.ofInt b) :: st)) = _
  rw [hz]
  rfl
end RULES2
