/-! Texts: their length, their characters (of these only that they are some). -/
section TEXT
variable {M : hm_M} {pc row k q d : Nat} {lv : List (Nat × Value)} {st rest args : List Value} {s : rS} {v : Value} {i : Instr} {Q : rS → hm_Out → Prop} {a : Int}
theorem wr_getR {yi : Nat} {nm : String} {fd : String × String × String} {l : List (String × String × String × Value)} (ho : (hm_Mi M)[pc]? = some (some (.getfield k, 3, 10, row))) (hx : (hm_Tg tb_T)[row]? = some (hm_Mo M, k, yi, fd)) (hq : tb_RO q = some (.inr (.inr (nm, l)))) (hy : l[yi]? = some (fd.1, fd.2.1, fd.2.2, v)) (kk : wr d M (pc + 3) lv (v :: st) s Q) : wr d M pc lv (.ref q :: st) s Q := fun g hg hc => by
  have h1 := hg.2 q _ hq
  obtain ⟨gf, out, h4, h5⟩ := kk g hg hc
  refine ⟨gf, out, hm_bo_go (fun call => ?_) h4, h5⟩
  rw [hs_of ho]
  show hm_dG tb_T M _ pc lv _ g = _
  unfold hm_dG
  rw [hx]
  simp [hm_getR, h1, hy]
theorem wr_alenR {o : FieldType × List Value} (ho : (hm_Mi M)[pc]? = some (some (.arraylength, 1, 11, 2))) (hq : tb_RO q = some (.inl o)) (kk : wr d M (pc + 1) lv (.int (Int32.ofNat o.2.length) :: st) s Q) : wr d M pc lv (.ref q :: st) s Q := fun g hg hc => by
  obtain ⟨gf, out, h4, h5⟩ := kk g hg hc
  exact ⟨gf, out, hm_bo_go (fun call => hs_alen ho (hg.2 q _ hq)) h4, h5⟩
theorem wr_aldR {o : FieldType × List Value} (ho : (hm_Mi M)[pc]? = some (some (i, 1, 11, 0))) (hq : tb_RO q = some (.inl o)) (hty : hm_aty i o.1 = true) (h0 : 0 ≤ a) (h1 : a ≤ 2147483647) (hv : o.2[a.toNat]? = some v) (kk : wr d M (pc + 1) lv (v :: st) s Q) : wr d M pc lv (vi a :: .ref q :: st) s Q := fun g hg hc => by
  obtain ⟨gf, out, h4, h5⟩ := kk g hg hc
  exact ⟨gf, out, hm_bo_go (fun call => hs_ald ho (hg.2 q _ hq) hty (nn_i h0 h1) (by rw [i32_nat h0 h1]; exact hv)) h4, h5⟩
theorem wr_call4 {ix im na ci : Nat} {l : List (String × String × String × Value)} (ho : (hm_Mi M)[pc]? = some (some (.invokevirtual ix, 3, 14, row))) (hx : (hm_Tc tb_T)[row]? = some (hm_Mo M, ix, 4, im, na, ci)) (ha : args.length = na) (hb : tb_RO q = some (.inr (.inr ("java/lang/String", l)))) (hs : (rest.map fun v => v.category).sum ≤ 8) (he : cr d im (.ref q :: args) s fun s2 out => ∃ ob, out = some ob ∧ wr d M (pc + 3) lv (ob.toList ++ rest) s2 Q) : wr d M pc lv (args.reverse ++ .ref q :: rest) s Q := fun g hg hc => by
  have h1 := hg.2 q _ hb
  obtain ⟨g2, out, e1, s2, e2, e3, ob, rfl, e4⟩ := he g hg hc
  obtain ⟨gf, o2, e5, e6⟩ := e4 g2 e2 e3
  refine ⟨gf, o2, hs_bo e1 (fun call hc => ?_) e5, e6⟩
  rw [hs_of ho]
  show hm_dC tb_T call M _ pc lv _ g = _
  have hd : (args.reverse ++ .ref q :: rest).drop na = .ref q :: rest := by rw [List.drop_append_of_le_length (by simp [ha])]; simp [ha]
  have ht : ((args.reverse ++ .ref q :: rest).take na).reverse = args := by rw [List.take_append_of_le_length (by simp [ha]), List.take_of_length_le (by simp [ha]), List.reverse_reverse]
  have hal : na ≤ (args.reverse ++ .ref q :: rest).length := by simp [ha]
  unfold hm_dC
  rw [hx]
  simp only [hd, ht, h1, hc]
  rw [if_pos ⟨trivial, trivial, hal⟩, if_pos ⟨trivial, trivial, hs⟩]
  rfl
end TEXT
/-- thing q is a text, its bytes l in thing q1 -/
def isT (q q1 : Nat) (l : List Value) : Prop := tb_RO q = some (.inr (.inr ("java/lang/String", [("java/lang/String", "value", "[B", .ref q1), ("java/lang/String", "coder", "B", .int 0)]))) ∧ tb_RO q1 = some (.inl (.byte, l)) ∧ hm_allI .byte l = true ∧ l.length ≤ 1000
section TC
variable {q q1 d : Nat} {l : List Value} {s : rS}
theorem c_coder (h : isT q q1 l) : cr (d + 1) 8 [.ref q] s fun s2 out => out = some (some (.int 0)) ∧ s2 = s := by
  refine cr_of (M := tb_M8) rfl (Nat.le_of_ble_eq_true rfl) ?_
  refine wr_n (pc2 := 7) (lv2 := [(0, .ref q)]) (st2 := [.ref q]) 3 (fun _ _ => rfl) ?_
  refine wr_getR rfl rfl h.1 rfl ?_
  refine wr_n (pc2 := 14) (lv2 := [(0, .ref q)]) (st2 := [.int 0]) 1 (fun _ _ => rfl) ?_
  exact wr_end (fun _ _ => rfl) ⟨rfl, rfl⟩
theorem c_isLatin1 (h : isT q q1 l) : cr (d + 1) 10 [.ref q] s fun s2 out => out = some (some (.int 1)) ∧ s2 = s := by
  refine cr_of (M := tb_M10) rfl (Nat.le_of_ble_eq_true rfl) ?_
  refine wr_n (pc2 := 7) (lv2 := [(0, .ref q)]) (st2 := [.ref q]) 3 (fun _ _ => rfl) ?_
  refine wr_getR rfl rfl h.1 rfl ?_
  refine wr_n (pc2 := 18) (lv2 := [(0, .ref q)]) (st2 := [.int 1]) 3 (fun _ _ => rfl) ?_
  exact wr_end (fun _ _ => rfl) ⟨rfl, rfl⟩
theorem i32_ofNat (n : Nat) : Int32.ofNat n = Int32.ofInt (n : Int) := Int32.ofInt_eq_ofNat.symm
theorem shr0 (x : Int32) : x >>> ((0 : Int32) &&& 31) = x := by
  have : ((0 : Int32) &&& 31) = 0 := by decide
  rw [this]
  simp
theorem c_length (h : isT q q1 l) : cr (d + 2) 7 [.ref q] s fun s2 out => out = some (some (vi (l.length : Int))) ∧ s2 = s := by
  refine cr_of (M := tb_M7) rfl (Nat.le_of_ble_eq_true rfl) ?_
  refine wr_n (pc2 := 1) (lv2 := [(0, .ref q)]) (st2 := [.ref q]) 1 (fun _ _ => rfl) ?_
  refine wr_getR rfl rfl h.1 rfl ?_
  refine wr_alenR rfl h.2.1 ?_
  refine wr_n (pc2 := 6) (lv2 := [(0, .ref q)]) (st2 := [.ref q, .int (Int32.ofNat l.length)]) 1 (fun _ _ => rfl) ?_
  refine wr_call4 (args := []) (rest := [.int (Int32.ofNat l.length)]) rfl rfl rfl h.1 (by simp [Value.category]) (cr_mono (c_coder (d := d) h) ?_)
  rintro s2 out ⟨rfl, rfl⟩
  refine ⟨_, rfl, ?_⟩
  refine wr_n (pc2 := 10) (lv2 := [(0, .ref q)]) (st2 := [.int (Int32.ofNat l.length >>> ((0 : Int32) &&& 31))]) 1 (fun _ _ => rfl) ?_
  rw [shr0, i32_ofNat]
  exact wr_reti rfl rfl ⟨rfl, rfl⟩
theorem c_chk13 {i n : Int} (h0 : 0 ≤ i) (h1 : i < n) (hn : n ≤ 2147483647) : cr (d + 1) 13 [vi i, vi n, .retAddr 0] s fun s2 out => out = some (some (vi i)) ∧ s2 = s := by
  refine cr_of (M := tb_M13) rfl (Nat.le_of_ble_eq_true rfl) ?_
  refine wr_n (pc2 := 1) (lv2 := [(0, vi i), (1, vi n), (2, .retAddr 0)]) (st2 := [vi i]) 1 (fun _ _ => rfl) ?_
  refine wr_if1f rfl rfl (by unfold i32; omega) (by show ¬ i < 0; omega) ?_
  refine wr_n (pc2 := 6) (lv2 := [(0, vi i), (1, vi n), (2, .retAddr 0)]) (st2 := [vi n, vi i]) 2 (fun _ _ => rfl) ?_
  refine wr_if2t rfl rfl (by unfold i32; omega) (by unfold i32; omega) (show i < n from h1) ?_
  refine wr_n (pc2 := 17) (lv2 := [(0, vi i), (1, vi n), (2, .retAddr 0)]) (st2 := [vi i]) 1 (fun _ _ => rfl) ?_
  exact wr_reti rfl rfl ⟨rfl, rfl⟩
theorem c_chk12 {i n : Int} (h0 : 0 ≤ i) (h1 : i < n) (hn : n ≤ 2147483647) : cr (d + 2) 12 [vi i, vi n] s fun s2 out => out = some none ∧ s2 = s := by
  refine cr_of (M := tb_M12) rfl (Nat.le_of_ble_eq_true rfl) ?_
  refine wr_n (pc2 := 5) (lv2 := [(0, vi i), (1, vi n)]) (st2 := [.retAddr 0, vi n, vi i]) 3 (fun _ _ => rfl) ?_
  refine wr_call0 (args := [vi i, vi n, .retAddr 0]) (rest := []) rfl rfl rfl (by decide) (cr_mono (c_chk13 (d := d) h0 h1 hn) ?_)
  rintro s2 out ⟨rfl, rfl⟩
  refine ⟨_, rfl, ?_⟩
  refine wr_n (pc2 := 9) (lv2 := [(0, vi i), (1, vi n)]) (st2 := []) 1 (fun _ _ => rfl) ?_
  exact wr_end (fun _ _ => rfl) ⟨rfl, rfl⟩
theorem u32_i (x : UInt32) (h : x.toNat < 2147483648) : x.toInt32.toInt = (x.toNat : Int) := by
  show x.toBitVec.toInt = _
  rw [BitVec.toInt_eq_toNat_bmod]
  show ((x.toNat : Nat) : Int).bmod (2 ^ 32) = _
  exact Int.bmod_eq_of_le (by omega) (by omega)
theorem nar_char {z : Int} (h0 : 0 ≤ z) (h1 : z ≤ 65535) : narrow .char (vi z) = vi z := by
  show Value.int (Int32.ofInt z).toUInt32.toUInt16.toUInt32.toInt32 = Value.int (Int32.ofInt z)
  congr 1
  apply Int32.toInt_inj.mp
  have e : (Int32.ofInt z).toUInt32.toNat = z.toNat := by
    show (BitVec.ofInt 32 z).toNat = z.toNat
    rw [BitVec.toNat_ofInt]
    omega
  have e2 : (Int32.ofInt z).toUInt32.toUInt16.toUInt32.toNat = z.toNat := by
    rw [UInt16.toNat_toUInt32, UInt32.toNat_toUInt16, e]
    omega
  rw [u32_i _ (by omega), e2, i32_to (by omega) (by omega)]
  omega
theorem wr_retc {d row pc : Nat} {M : hm_M} {lv : List (Nat × Value)} {s : rS} {Q : rS → hm_Out → Prop} {z : Int} (ho : (hm_Mi M)[pc]? = some (some (.ireturn, 1, 16, row))) (hr : hm_Mr M = some .char) (hz : 0 ≤ z ∧ z ≤ 65535) (hq : Q s (some (some (vi z)))) : wr d M pc lv [vi z] s Q := wr_end (fun call g => by
  rw [hs_of ho]
  show hm_dE M (.ireturn, 1, 16, row) [vi z] g = _
  have hn2 : narrow .char (.int (Int32.ofInt z)) = .int (Int32.ofInt z) := nar_char hz.1 hz.2
  simp [hm_dE, hm_ret, hr, hn2]) hq
theorem i2c_ok (y : Int32) : ∃ z : Int, 0 ≤ z ∧ z ≤ 65535 ∧ (y.toUInt32 % 65536).toInt32 = Int32.ofInt z ∧ narrow .char (vi z) = vi z := by
  have hm : (y.toUInt32 % 65536).toNat = y.toUInt32.toNat % 65536 := by simp
  refine ⟨((y.toUInt32.toNat % 65536 : Nat) : Int), by omega, by omega, ?_, ?_⟩
  · apply Int32.toInt_inj.mp
    rw [i32_to (by omega) (by omega), u32_i _ (by omega), hm]
  · exact nar_char (by omega) (by omega)
theorem c_l1 {i : Int} (h : isT q q1 l) (h0 : 0 ≤ i) (h1 : i < l.length) : cr (d + 3) 11 [.ref q1, vi i] s fun s2 out => ∃ z : Int, out = some (some (vi z)) ∧ (0 ≤ z ∧ z ≤ 65535) ∧ s2 = s := by
  have hl := h.2.2.2
  refine cr_of (M := tb_M11) rfl (Nat.le_of_ble_eq_true rfl) ?_
  refine wr_n (pc2 := 2) (lv2 := [(0, .ref q1), (1, vi i)]) (st2 := [.ref q1, vi i]) 2 (fun _ _ => rfl) ?_
  refine wr_alenR rfl h.2.1 ?_
  rw [i32_ofNat]
  refine wr_call0 (args := [vi i, vi (l.length : Int)]) (rest := []) rfl rfl rfl (by decide) (cr_mono (c_chk12 (d := d) h0 h1 (by omega)) ?_)
  rintro s2 out ⟨rfl, rfl⟩
  refine ⟨_, rfl, ?_⟩
  refine wr_n (pc2 := 8) (lv2 := [(0, .ref q1), (1, vi i)]) (st2 := [vi i, .ref q1]) 2 (fun _ _ => rfl) ?_
  have hlt : i.toNat < l.length := by omega
  obtain ⟨x, hx, -⟩ := hm_allI_at h.2.2.1 (List.getElem?_eq_getElem hlt)
  refine wr_aldR (v := .int x) rfl h.2.1 rfl h0 (by omega) (by show l[i.toNat]? = _; rw [List.getElem?_eq_getElem hlt, hx]) ?_
  refine wr_n (pc2 := 13) (lv2 := [(0, .ref q1), (1, vi i)]) (st2 := [.int (x &&& 255)]) 2 (fun _ _ => rfl) ?_
  obtain ⟨z, z0, z1, z2, z3⟩ := i2c_ok (x &&& 255)
  refine wr_n (pc2 := 14) (lv2 := [(0, .ref q1), (1, vi i)]) (st2 := [vi z]) 1 (fun _ _ => by rw [show vi z = .int ((x &&& 255).toUInt32 % 65536).toInt32 from by rw [z2]]; rfl) ?_
  exact wr_retc rfl rfl ⟨z0, z1⟩ ⟨z, rfl, ⟨z0, z1⟩, rfl⟩
theorem c_charAt {i : Int} (h : isT q q1 l) (h0 : 0 ≤ i) (h1 : i < l.length) : cr (d + 4) 9 [.ref q, vi i] s fun s2 out => ∃ z : Int, out = some (some (vi z)) ∧ (0 ≤ z ∧ z ≤ 65535) ∧ s2 = s := by
  refine cr_of (M := tb_M9) rfl (Nat.le_of_ble_eq_true rfl) ?_
  refine wr_n (pc2 := 1) (lv2 := [(0, .ref q), (1, vi i)]) (st2 := [.ref q]) 1 (fun _ _ => rfl) ?_
  refine wr_call4 (args := []) (rest := []) rfl rfl rfl h.1 (by decide) (cr_mono (c_isLatin1 (d := d + 2) h) ?_)
  rintro s2 out ⟨rfl, rfl⟩
  refine ⟨_, rfl, ?_⟩
  refine wr_n (pc2 := 8) (lv2 := [(0, .ref q), (1, vi i)]) (st2 := [.ref q]) 2 (fun _ _ => rfl) ?_
  refine wr_getR rfl rfl h.1 rfl ?_
  refine wr_n (pc2 := 12) (lv2 := [(0, .ref q), (1, vi i)]) (st2 := [vi i, .ref q1]) 1 (fun _ _ => rfl) ?_
  refine wr_call0 (args := [.ref q1, vi i]) (rest := []) rfl rfl rfl (by decide) (cr_mono (c_l1 (d := d) h h0 h1) ?_)
  rintro s2 out ⟨z, rfl, hz, rfl⟩
  refine ⟨_, rfl, ?_⟩
  exact wr_retc rfl rfl hz ⟨z, rfl, hz, rfl⟩
end TC
