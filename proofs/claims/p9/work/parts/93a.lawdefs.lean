/-! The law: calls beside the script. -/
theorem set_own {h : hm_H} {E : hm_E} (hE : h[0]? = some E) : h.set 0 E = h := by
  cases h with
  | nil => cases hE
  | cons x l => cases hE; rfl
section LAW
variable {M : hm_M} {pc row k ci p d n : Nat} {E : hm_E} {lv : List (Nat × Value)} {st rest args : List Value} {s : rS} {v : Value} {x y : Int32} {Q : rS → hm_Out → Prop} {a b z : Int}
theorem wv_call1 {ix im na : Nat} (ho : (hm_Mi M)[pc]? = some (some (.invokevirtual ix, 3, 14, row))) (hx : (hm_Tc tb_T)[row]? = some (hm_Mo M, ix, 1, im, na, ci)) (ha : args.length = na) (hb : tb_TG p = some (.inr ci, n)) (hs : (rest.map fun v => v.category).sum ≤ 8) (he : cr d im (.ref p :: args) s fun s2 out => ∃ ob, out = some ob ∧ wv 0 E d M (pc + 3) lv (ob.toList ++ rest) s2 Q) : wv 0 E d M pc lv (args.reverse ++ .ref p :: rest) s Q := fun g hg hc hE => by
  have h0 : 0 < g.1.length := (List.getElem?_eq_some_iff.mp hE).1
  have hz : hz_ok (g.1.set 0 hz_D) := List.getElem?_set_self h0
  have hg0 : rP (g.1.set 0 hz_D, g.2) s.1 := Rp_out hg rfl (fun e he => by cases he)
  obtain ⟨g2, out, ⟨K, e1⟩, s2, e2, e3, ob, rfl, e4⟩ := he (g.1.set 0 hz_D, g.2) hg0 hc
  obtain ⟨k1, k2⟩ := hz_calls (E := E) (G := tb_T) (pg := tb_pg) (K := K) (by decide) d im (.ref p :: args) (g.1.set 0 hz_D, g.2) (g2, some ob) hz e1
  have hgE : hz_g E (g.1.set 0 hz_D, g.2) = g := by
    show ((g.1.set 0 hz_D).set 0 E, g.2) = g
    rw [List.set_set, set_own hE]
  rw [hgE] at k1
  obtain ⟨gf, o2, e5, e6⟩ := e4 (hz_g E g2) (Rp_out e2 rfl (fun e he => by cases he)) e3 (List.getElem?_set_self (hz_len k2))
  obtain ⟨l, h1, h2⟩ := tg_obj (Rp_tg hg hb)
  exact ⟨gf, o2, hs_bo ⟨K, k1⟩ (fun call hc => hs_call1 ho hx ha h1 hs hc) e5, e6⟩
theorem wv_pop {q : Nat} (ho : (hm_Mi M)[pc]? = some (some (.pop, 1, 6, row))) (hv : v.category = 1) (kk : wv q E d M (pc + 1) lv st s Q) : wv q E d M pc lv (v :: st) s Q := wv_go (fun call g => by
  rw [hs_of ho]
  show hm_pu 1 g (if v.category = 1 then some (1, pc + 1, lv, st) else none) = _
  rw [if_pos hv]
  rfl) kk
theorem wv_pop2 {q : Nat} (ho : (hm_Mi M)[pc]? = some (some (.pop2, 1, 6, row))) (hv : v.category = 2) (kk : wv q E d M (pc + 1) lv st s Q) : wv q E d M pc lv (v :: st) s Q := wv_go (fun call g => by
  rw [hs_of ho]
  show hm_pu 1 g (if v.category = 2 then some (1, pc + 1, lv, st) else none) = _
  rw [if_pos hv]
  rfl) kk
theorem wv_and {q : Nat} (ho : (hm_Mi M)[pc]? = some (some (.iand, 1, 3, row))) (hb : 0 ≤ b ∧ b ≤ 63) (kk : ∀ z, 0 ≤ z ∧ z ≤ b → wv q E d M (pc + 1) lv (vi z :: st) s Q) : wv q E d M pc lv (vi b :: vi a :: st) s Q := by
  have h := and_rng (x := Int32.ofInt a) hb
  obtain ⟨z, hz, h1, h2⟩ := i32_of (Int32.ofInt a &&& Int32.ofInt b)
  rw [hz, i32_to h1 h2] at h
  refine wv_go (fun call g => ?_) (kk z h)
  rw [hs_of ho]
  show hm_pu 1 g (some (1, pc + 1, lv, Value.int (Int32.ofInt a &&& Int32.ofInt b) :: st)) = _
  rw [hz]
  rfl
theorem wv_tsw {q len : Nat} {dflt lo hi : Int} {offs : Array Int} (ho : (hm_Mi M)[pc]? = some (some (.tableswitch dflt lo hi offs, len, 8, row))) (hsz : ∀ n, n ≤ (hi - lo).toNat → n < offs.size) (ha : i32 a) (kk : ∀ off, off ∈ dflt :: offs.toList → ∃ t, hm_tg pc off = some t ∧ wv q E d M t lv st s Q) : wv q E d M pc lv (vi a :: st) s Q := by
  by_cases e : a < lo ∨ hi < a
  · obtain ⟨t, h1, h2⟩ := kk dflt List.mem_cons_self
    refine wv_go (fun call g => ?_) h2
    rw [hs_of ho]
    show (hm_gW (.tableswitch dflt lo hi offs) pc lv (vi a :: st)).map (fun q => Sum.inl (q.1, q.2.1, q.2.2, g)) = _
    unfold hm_gW
    dsimp only
    rw [i32_to ha.1 ha.2, if_pos e, h1]
    rfl
  · have hn : (a - lo).toNat < offs.size := hsz _ (by omega)
    obtain ⟨t, h1, h2⟩ := kk (offs[(a - lo).toNat]) (List.mem_cons_of_mem _ (Array.getElem_mem_toList hn))
    refine wv_go (fun call g => ?_) h2
    rw [hs_of ho]
    show (hm_gW (.tableswitch dflt lo hi offs) pc lv (vi a :: st)).map (fun q => Sum.inl (q.1, q.2.1, q.2.2, g)) = _
    unfold hm_gW
    dsimp only
    rw [i32_to ha.1 ha.2, if_neg e, Array.getElem?_eq_getElem hn]
    dsimp only
    rw [h1]
    rfl
end LAW
section LINV
variable {C D F : Nat} {r r2 : tab}
theorem SI_HI (h : SI C D r) (hf : HI r r2) : SI C D r2 := by
  have hC := SI_C h
  obtain ⟨h1, h2, h3, h4, h5⟩ := h
  exact ⟨h1, by rw [hf _ _ (by omega)]; exact h2, (hf _ _ (by omega)).trans h3, (hf _ _ (by omega)).trans h4, SA_at hC h5 (fun k j a b => hf k j (by omega)) (hf _ _ (by omega)) (fun q => HD_at q (fun i => hf _ _ (by omega))) (fun F q => SW_at q (fun k e1 e2 e3 => funext fun j => hf k j (by omega)) (hf _ _ (by omega)) (hf _ _ (by omega)))⟩
theorem kbd_hi {k j : Nat} (h : 170 ≤ k) : kbd k j = none := by
  unfold kbd
  rw [if_neg (by omega), if_neg (by omega), if_neg (by omega), if_neg (by omega), if_neg (by omega), if_neg (by omega), if_neg (by omega), if_neg (by omega), if_neg (by omega), if_neg (by omega), if_neg (by omega)]
theorem XI_LO (h : XI C D F r) (hf : LO r r2) (hR : RF r2) : XI C D F r2 := by
  obtain ⟨h1, h2, h3, h4, h5, h6, h7⟩ := h
  refine ⟨⟨hR, fun k j => ?_⟩, h2, h3, h4, (hf _ _ (by omega)).trans h5, (hf _ _ (by omega)).trans h6, (hf _ _ (by omega)).trans h7⟩
  by_cases e : k < 170
  · rw [hf k j e]
    exact h1.2 k j
  · exact kb_no (kbd_hi (by omega))
end LINV
/-- behind n calls -/
def LI (n : Nat) (s : rS) : Prop := RF s.1 ∧ (∃ C D F, XI C D F s.1) ∧ (∃ C D, SI C D s.1) ∧ s.1 97 1 = s.1 170 1 ∧ s.2.1 ≤ 1535 + 2 * n ∧ s.2.2 ≤ 815634 + 11 * n
/-- behind our own object's call -/
def L1 (n : Nat) (t m : Int) (s : rS) : Prop := RF s.1 ∧ (∃ C D F, XI C D F s.1) ∧ (∃ C D, SI C D s.1) ∧ s.1 97 1 = t ∧ s.1 170 1 = m ∧ s.2.1 ≤ 1536 + 2 * n ∧ s.2.2 ≤ 815640 + 11 * n
def LQ : rS → hm_Out → Prop := fun s2 out => out = some (some (.int 1)) ∧ s2.2.1 ≤ 600128 ∧ s2.2.2 ≤ 7301098
section LSTEP
variable {n : Nat} {s s2 : rS} {t m : Int} {P : Int → Prop} {c : Nat} {out : hm_Out}
theorem L1_X (h : LI n s) (hx : XP c P s s2 out) : (∃ v : Value, out = some (some v) ∧ v.category = c) ∧ L1 n (s2.1 97 1) (s.1 170 1) s2 ∧ P (s2.1 97 1) := by
  obtain ⟨hv, hc, ⟨C, D, F, hX⟩, hi, hp⟩ := hx
  obtain ⟨h1, h2, ⟨C2, D2, hS⟩, h4, h5, h6⟩ := h
  refine ⟨hv, ⟨hX.1.1, ⟨C, D, F, hX⟩, ⟨C2, D2, SI_HI hS hi⟩, rfl, hi _ _ (by omega), ?_, ?_⟩, hp⟩
  · rcases hc with q | q <;> rw [q]
    · omega
    · show s.2.1 + 1 ≤ _; omega
  · rcases hc with q | q <;> rw [q]
    · omega
    · show s.2.2 + 6 ≤ _; omega
theorem LI_M (h : L1 n t m s) (hx : MP c P s s2 out) (he : ∀ z, P z → z = t) : (∃ v : Value, out = some (some v) ∧ v.category = c) ∧ LI (n + 1) s2 := by
  obtain ⟨hv, hc, hR, hlo, hS, hp⟩ := hx
  obtain ⟨h1, ⟨C, D, F, hX⟩, h3, h4, h5, h6, h7⟩ := h
  refine ⟨hv, hR, ⟨C, D, F, XI_LO hX hlo hR⟩, hS, ?_, by rw [hc]; omega, by rw [hc]; omega⟩
  rw [he _ hp, ← h4]
  exact hlo _ _ (by omega)
end LSTEP
