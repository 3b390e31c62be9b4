theorem hf_int (x : Int32) : hm_fit .int (.int x) = true := by simp [hm_fit, narrow, fits]
def pz_P (g : hm_G) (s : Int32) : Prop := g.1[97]? = some (pz_t s) ∧ ∃ l, g.1[98]? = some (.inl (.byte, l)) ∧ l.length = 2000
def pz_fr (ks : List Nat) (g g2 : hm_G) : Prop := g2.1.length = g.1.length ∧ g2.2 = g.2 ∧ ∀ k, k ∉ ks → g2.1[k]? = g.1[k]?
theorem pz_fr_tr {ks : List Nat} {g g2 g3 : hm_G} (h : pz_fr ks g g2) (h2 : pz_fr ks g2 g3) : pz_fr ks g g3 := ⟨h2.1.trans h.1, h2.2.1.trans h.2.1, fun k hk => (h2.2.2 k hk).trans (h.2.2 k hk)⟩
set_option maxRecDepth 100000 in
theorem pz_it {g : hm_G} {s a sh s2 sh2 : Int32} {d : Nat} (H : pz_P g s) (hs : hm_c2 .ge s 2000 = false) (h0 : ¬ s < 0) (h1 : s.toNatClampNeg < 2000) (hsh : hm_c1 .lt sh = false) (hs2 : s + 1 = s2) (hsh2 : sh + (-8) = sh2) : ∃ g2, pz_P g2 s2 ∧ pz_fr [97, 98] g g2 ∧ ∀ gf out, hm_bo tb_T tb_pg d tb_M17 (3, [(2, .int sh2), (0, .ref 97), (1, .int a)], [], g2) gf out → hm_bo tb_T tb_pg d tb_M17 (3, [(2, .int sh), (0, .ref 97), (1, .int a)], [], g) gf out := by
  obtain ⟨hT, l, hB, hl⟩ := H
  subst hs2
  subst hsh2
  let g1 : hm_G := (g.1.set 98 (.inl (.byte, l.set s.toNatClampNeg (.int (a >>> (sh &&& 31)).toInt8.toInt32.toInt8.toInt32))), g.2)
  have hT' : g1.1[97]? = some (pz_t s) := (List.getElem?_set_ne (by decide)).trans hT
  have hB' : g1.1[98]? = some (.inl (.byte, l.set s.toNatClampNeg (.int (a >>> (sh &&& 31)).toInt8.toInt32.toInt8.toInt32))) := List.getElem?_set_self (List.getElem?_eq_some_iff.mp hB).1
  let g2 : hm_G := (g1.1.set 97 (.inr (.inl (4, [.ref 98, .int (s + 1)]))), g1.2)
  refine ⟨g2, ⟨List.getElem?_set_self (List.getElem?_eq_some_iff.mp hT').1, _, (List.getElem?_set_ne (by decide)).trans hB', by rw [List.length_set]; exact hl⟩, ⟨by show (List.set (List.set _ _ _) _ _).length = _; simp, rfl, fun k hk => ?_⟩, fun gf out kk => ?_⟩
  · have e1 : 97 ≠ k := fun e => hk (by simp [← e])
    have e2 : 98 ≠ k := fun e => hk (by simp [← e])
    exact (List.getElem?_set_ne e1).trans (List.getElem?_set_ne e2)
  · refine hs_n 1 (S2 := (4, [(2, .int sh), (0, .ref 97), (1, .int a)], [.int sh], g)) (fun _ => rfl) ?_
    refine hm_bo_go (S2 := (7, [(2, .int sh), (0, .ref 97), (1, .int a)], [], g)) (fun _ => hs_if1 (b := false) rfl rfl hsh) ?_
    refine hs_n 1 (S2 := (8, [(2, .int sh), (0, .ref 97), (1, .int a)], [.ref 97], g)) (fun _ => rfl) ?_
    refine hm_bo_go (S2 := (11, [(2, .int sh), (0, .ref 97), (1, .int a)], [.int s], g)) (fun _ => hs_get rfl rfl hT rfl) ?_
    refine hs_n 1 (S2 := (14, [(2, .int sh), (0, .ref 97), (1, .int a)], [.int 2000, .int s], g)) (fun _ => rfl) ?_
    refine hm_bo_go (S2 := (17, [(2, .int sh), (0, .ref 97), (1, .int a)], [], g)) (fun _ => hs_if2 (b := false) rfl rfl hs) ?_
    refine hs_n 1 (S2 := (18, [(2, .int sh), (0, .ref 97), (1, .int a)], [.ref 97], g)) (fun _ => rfl) ?_
    refine hm_bo_go (S2 := (21, [(2, .int sh), (0, .ref 97), (1, .int a)], [.ref 98], g)) (fun _ => hs_get rfl rfl hT rfl) ?_
    refine hs_n 1 (S2 := (22, [(2, .int sh), (0, .ref 97), (1, .int a)], [.ref 97, .ref 98], g)) (fun _ => rfl) ?_
    refine hm_bo_go (S2 := (25, [(2, .int sh), (0, .ref 97), (1, .int a)], [.int s, .ref 98], g)) (fun _ => hs_get rfl rfl hT rfl) ?_
    refine hs_n 4 (S2 := (29, [(2, .int sh), (0, .ref 97), (1, .int a)], [.int ((a >>> (sh &&& 31)).toInt8.toInt32), .int s, .ref 98], g)) (fun _ => rfl) ?_
    refine hm_bo_go (S2 := (30, [(2, .int sh), (0, .ref 97), (1, .int a)], [], g1)) (fun _ => hs_ast (G := tb_T) (q := 98) rfl (by decide) hB rfl h0 (by rw [hl]; exact h1) rfl) ?_
    refine hs_n 2 (S2 := (32, [(2, .int sh), (0, .ref 97), (1, .int a)], [.ref 97, .ref 97], g1)) (fun _ => rfl) ?_
    refine hm_bo_go (S2 := (35, [(2, .int sh), (0, .ref 97), (1, .int a)], [.int s, .ref 97], g1)) (fun _ => hs_get rfl rfl hT' rfl) ?_
    refine hs_n 2 (S2 := (37, [(2, .int sh), (0, .ref 97), (1, .int a)], [.int (s + 1), .ref 97], g1)) (fun _ => rfl) ?_
    refine hm_bo_go (S2 := (40, [(2, .int sh), (0, .ref 97), (1, .int a)], [], g2)) (fun _ => hs_put (G := tb_T) (ci := 4) (fi := 1) (q := 97) (v := .int (s + 1)) (l := [.ref 98, .int s]) rfl rfl rfl rfl (by decide) hT' (Nat.le_of_ble_eq_true rfl) (hf_int _)) ?_
    refine hs_n 1 (S2 := (43, [(2, .int (sh + (-8))), (0, .ref 97), (1, .int a)], [], g2)) (fun _ => rfl) ?_
    refine hs_n 1 (S2 := (3, [(2, .int (sh + (-8))), (0, .ref 97), (1, .int a)], [], g2)) (fun _ => rfl) ?_
    exact kk
set_option maxRecDepth 100000 in
theorem pz_add {g : hm_G} {a s s1 s2 s3 s4 : Int32} (H : pz_P g s) (hs : hm_c2 .ge s 2000 = false ∧ ¬ s < 0 ∧ s.toNatClampNeg < 2000 ∧ s + 1 = s1) (hs1 : hm_c2 .ge s1 2000 = false ∧ ¬ s1 < 0 ∧ s1.toNatClampNeg < 2000 ∧ s1 + 1 = s2) (hs2 : hm_c2 .ge s2 2000 = false ∧ ¬ s2 < 0 ∧ s2.toNatClampNeg < 2000 ∧ s2 + 1 = s3) (hs3 : hm_c2 .ge s3 2000 = false ∧ ¬ s3 < 0 ∧ s3.toNatClampNeg < 2000 ∧ s3 + 1 = s4) : ∃ g2, pz_P g2 s4 ∧ pz_fr [97, 98] g g2 ∧ hm_ev tb_T tb_pg 1 17 [.ref 97, .int a] g g2 (some none) := by
  obtain ⟨g1, H1, F1, k1⟩ := pz_it (d := 0) (a := a) (sh := 24) (sh2 := 16) H hs.1 hs.2.1 hs.2.2.1 rfl hs.2.2.2 rfl
  obtain ⟨g2, H2, F2, k2⟩ := pz_it (d := 0) (a := a) (sh := 16) (sh2 := 8) H1 hs1.1 hs1.2.1 hs1.2.2.1 rfl hs1.2.2.2 rfl
  obtain ⟨g3, H3, F3, k3⟩ := pz_it (d := 0) (a := a) (sh := 8) (sh2 := 0) H2 hs2.1 hs2.2.1 hs2.2.2.1 rfl hs2.2.2.2 rfl
  obtain ⟨g4, H4, F4, k4⟩ := pz_it (d := 0) (a := a) (sh := 0) (sh2 := -8) H3 hs3.1 hs3.2.1 hs3.2.2.1 rfl hs3.2.2.2 rfl
  refine ⟨g4, H4, pz_fr_tr F1 (pz_fr_tr F2 (pz_fr_tr F3 F4)), ?_⟩
  refine hm_ev_of (d := 0) (M := tb_M17) rfl (Nat.le_of_ble_eq_true rfl) ?_
  refine hs_n 2 (S2 := (3, [(2, .int 24), (0, .ref 97), (1, .int a)], [], g)) (fun _ => rfl) ?_
  refine k1 _ _ (k2 _ _ (k3 _ _ (k4 _ _ ?_)))
  refine hs_n 2 (S2 := (46, [(2, .int (-8)), (0, .ref 97), (1, .int a)], [], g4)) (fun _ => rfl) ?_
  exact hm_bo_end (fun _ => rfl)
set_option maxRecDepth 100000 in
theorem pz_feed1 {g : hm_G} (a b c d e : Int32) (hX0 : g.1[96]? = some pz_X) (H0 : pz_P g 0) : ∃ g2, pz_fr [97, 98] g g2 ∧ hm_ev tb_T tb_pg 2 16 [.ref 96, .int a, .int b, .int c, .int d, .int e] g g2 (some (some (.int 20))) := by
  obtain ⟨g1, H1, F1, E1⟩ := pz_add (a := a) (s := 0) (s1 := 1) (s2 := 2) (s3 := 3) (s4 := 4) H0 (by decide) (by decide) (by decide) (by decide)
  have hX1 : g1.1[96]? = some pz_X := (F1.2.2 96 (by decide)).trans hX0
  obtain ⟨g2, H2, F2, E2⟩ := pz_add (a := b) (s := 4) (s1 := 5) (s2 := 6) (s3 := 7) (s4 := 8) H1 (by decide) (by decide) (by decide) (by decide)
  have hX2 : g2.1[96]? = some pz_X := (F2.2.2 96 (by decide)).trans hX1
  obtain ⟨g3, H3, F3, E3⟩ := pz_add (a := c) (s := 8) (s1 := 9) (s2 := 10) (s3 := 11) (s4 := 12) H2 (by decide) (by decide) (by decide) (by decide)
  have hX3 : g3.1[96]? = some pz_X := (F3.2.2 96 (by decide)).trans hX2
  obtain ⟨g4, H4, F4, E4⟩ := pz_add (a := d) (s := 12) (s1 := 13) (s2 := 14) (s3 := 15) (s4 := 16) H3 (by decide) (by decide) (by decide) (by decide)
  have hX4 : g4.1[96]? = some pz_X := (F4.2.2 96 (by decide)).trans hX3
  obtain ⟨g5, H5, F5, E5⟩ := pz_add (a := e) (s := 16) (s1 := 17) (s2 := 18) (s3 := 19) (s4 := 20) H4 (by decide) (by decide) (by decide) (by decide)
  have hX5 : g5.1[96]? = some pz_X := (F5.2.2 96 (by decide)).trans hX4
  refine ⟨g5, pz_fr_tr F1 (pz_fr_tr F2 (pz_fr_tr F3 (pz_fr_tr F4 F5))), ?_⟩
  refine hm_ev_of (d := 1) (M := tb_M16) rfl (Nat.le_of_ble_eq_true rfl) ?_
  show hm_bo tb_T tb_pg 1 tb_M16 (0, [(0, .ref 96), (1, .int a), (2, .int b), (3, .int c), (4, .int d), (5, .int e)], [], g) _ _
  refine hs_n 1 (S2 := (1, [(0, .ref 96), (1, .int a), (2, .int b), (3, .int c), (4, .int d), (5, .int e)], [.ref 96], g)) (fun _ => rfl) ?_
  refine hm_bo_go (S2 := (4, [(0, .ref 96), (1, .int a), (2, .int b), (3, .int c), (4, .int d), (5, .int e)], [.ref 97], g)) (fun _ => hs_get rfl rfl hX0 rfl) ?_
  refine hm_bo_go (S2 := (7, [(0, .ref 96), (1, .int a), (2, .int b), (3, .int c), (4, .int d), (5, .int e)], [.int 0], g)) (fun _ => hs_get rfl rfl H0.1 rfl) ?_
  refine hs_n 5 (S2 := (20, [(0, .ref 96), (1, .int a), (2, .int b), (3, .int c), (4, .int d), (5, .int e)], [.ref 96], g)) (fun _ => rfl) ?_
  refine hm_bo_go (S2 := (23, [(0, .ref 96), (1, .int a), (2, .int b), (3, .int c), (4, .int d), (5, .int e)], [.ref 97], g)) (fun _ => hs_get rfl rfl hX0 rfl) ?_
  refine hs_n 1 (S2 := (24, [(0, .ref 96), (1, .int a), (2, .int b), (3, .int c), (4, .int d), (5, .int e)], [.int a, .ref 97], g)) (fun _ => rfl) ?_
  refine hs_bo E1 (S2 := (27, [(0, .ref 96), (1, .int a), (2, .int b), (3, .int c), (4, .int d), (5, .int e)], [], g1)) (fun call hc => hs_call1 (args := [.int a]) (rest := []) rfl rfl rfl H0.1 (by decide) hc) ?_
  refine hs_n 1 (S2 := (28, [(0, .ref 96), (1, .int a), (2, .int b), (3, .int c), (4, .int d), (5, .int e)], [.ref 96], g1)) (fun _ => rfl) ?_
  refine hm_bo_go (S2 := (31, [(0, .ref 96), (1, .int a), (2, .int b), (3, .int c), (4, .int d), (5, .int e)], [.ref 97], g1)) (fun _ => hs_get rfl rfl hX1 rfl) ?_
  refine hs_n 1 (S2 := (32, [(0, .ref 96), (1, .int a), (2, .int b), (3, .int c), (4, .int d), (5, .int e)], [.int b, .ref 97], g1)) (fun _ => rfl) ?_
  refine hs_bo E2 (S2 := (35, [(0, .ref 96), (1, .int a), (2, .int b), (3, .int c), (4, .int d), (5, .int e)], [], g2)) (fun call hc => hs_call1 (args := [.int b]) (rest := []) rfl rfl rfl H1.1 (by decide) hc) ?_
  refine hs_n 1 (S2 := (36, [(0, .ref 96), (1, .int a), (2, .int b), (3, .int c), (4, .int d), (5, .int e)], [.ref 96], g2)) (fun _ => rfl) ?_
  refine hm_bo_go (S2 := (39, [(0, .ref 96), (1, .int a), (2, .int b), (3, .int c), (4, .int d), (5, .int e)], [.ref 97], g2)) (fun _ => hs_get rfl rfl hX2 rfl) ?_
  refine hs_n 1 (S2 := (40, [(0, .ref 96), (1, .int a), (2, .int b), (3, .int c), (4, .int d), (5, .int e)], [.int c, .ref 97], g2)) (fun _ => rfl) ?_
  refine hs_bo E3 (S2 := (43, [(0, .ref 96), (1, .int a), (2, .int b), (3, .int c), (4, .int d), (5, .int e)], [], g3)) (fun call hc => hs_call1 (args := [.int c]) (rest := []) rfl rfl rfl H2.1 (by decide) hc) ?_
  refine hs_n 1 (S2 := (44, [(0, .ref 96), (1, .int a), (2, .int b), (3, .int c), (4, .int d), (5, .int e)], [.ref 96], g3)) (fun _ => rfl) ?_
  refine hm_bo_go (S2 := (47, [(0, .ref 96), (1, .int a), (2, .int b), (3, .int c), (4, .int d), (5, .int e)], [.ref 97], g3)) (fun _ => hs_get rfl rfl hX3 rfl) ?_
  refine hs_n 1 (S2 := (49, [(0, .ref 96), (1, .int a), (2, .int b), (3, .int c), (4, .int d), (5, .int e)], [.int d, .ref 97], g3)) (fun _ => rfl) ?_
  refine hs_bo E4 (S2 := (52, [(0, .ref 96), (1, .int a), (2, .int b), (3, .int c), (4, .int d), (5, .int e)], [], g4)) (fun call hc => hs_call1 (args := [.int d]) (rest := []) rfl rfl rfl H3.1 (by decide) hc) ?_
  refine hs_n 1 (S2 := (53, [(0, .ref 96), (1, .int a), (2, .int b), (3, .int c), (4, .int d), (5, .int e)], [.ref 96], g4)) (fun _ => rfl) ?_
  refine hm_bo_go (S2 := (56, [(0, .ref 96), (1, .int a), (2, .int b), (3, .int c), (4, .int d), (5, .int e)], [.ref 97], g4)) (fun _ => hs_get rfl rfl hX4 rfl) ?_
  refine hs_n 1 (S2 := (58, [(0, .ref 96), (1, .int a), (2, .int b), (3, .int c), (4, .int d), (5, .int e)], [.int e, .ref 97], g4)) (fun _ => rfl) ?_
  refine hs_bo E5 (S2 := (61, [(0, .ref 96), (1, .int a), (2, .int b), (3, .int c), (4, .int d), (5, .int e)], [], g5)) (fun call hc => hs_call1 (args := [.int e]) (rest := []) rfl rfl rfl H4.1 (by decide) hc) ?_
  refine hs_n 1 (S2 := (62, [(0, .ref 96), (1, .int a), (2, .int b), (3, .int c), (4, .int d), (5, .int e)], [.ref 96], g5)) (fun _ => rfl) ?_
  refine hm_bo_go (S2 := (65, [(0, .ref 96), (1, .int a), (2, .int b), (3, .int c), (4, .int d), (5, .int e)], [.ref 97], g5)) (fun _ => hs_get rfl rfl hX5 rfl) ?_
  refine hm_bo_go (S2 := (68, [(0, .ref 96), (1, .int a), (2, .int b), (3, .int c), (4, .int d), (5, .int e)], [.int 20], g5)) (fun _ => hs_get rfl rfl H5.1 rfl) ?_
  exact hm_bo_end (fun _ => rfl)
def pz_Q (g : hm_G) (N : Nat) (A : List Value) : Prop := g.1[170]? = some pz_M ∧ (∃ l, g.1[171]? = some (.inl (.byte, l)) ∧ l.length = 2000) ∧ g.1[N]? = some (.inl (.int, A)) ∧ 171 ≠ N
set_option maxRecDepth 100000 in
theorem pz_itr {g : hm_G} {N : Nat} {A : List Value} {a b c d e w k k2 : Int32} {dd : Nat} (H : pz_Q g N A) (hk : hm_c2 .ge k 20 = false) (hi : ¬ k / 4 < 0) (hw : A[(k / 4).toNatClampNeg]? = some (.int w)) (hj : ¬ 0 + k < 0) (hj2 : (0 + k).toNatClampNeg < 2000) (hk2 : k + 1 = k2) : ∃ g2, pz_Q g2 N A ∧ pz_fr [171] g g2 ∧ ∀ gf out, hm_bo tb_T tb_pg dd tb_M118 (46, [(7, .int k2), (6, .ref N), (0, .ref 170), (1, .int a), (2, .int b), (3, .int c), (4, .int d), (5, .int e)], [], g2) gf out → hm_bo tb_T tb_pg dd tb_M118 (46, [(7, .int k), (6, .ref N), (0, .ref 170), (1, .int a), (2, .int b), (3, .int c), (4, .int d), (5, .int e)], [], g) gf out := by
  obtain ⟨hM, ⟨l, hB, hl⟩, hA, hN⟩ := H
  subst hk2
  let g2 : hm_G := (g.1.set 171 (.inl (.byte, l.set (0 + k).toNatClampNeg (.int (w >>> ((24 - 8 * (k - k / 4 * 4)) &&& 31)).toInt8.toInt32.toInt8.toInt32))), g.2)
  refine ⟨g2, ⟨(List.getElem?_set_ne (by decide)).trans hM, ⟨_, List.getElem?_set_self (List.getElem?_eq_some_iff.mp hB).1, by rw [List.length_set]; exact hl⟩, (List.getElem?_set_ne hN).trans hA, hN⟩, ⟨by show (List.set _ _ _).length = _; simp, rfl, fun j hj9 => List.getElem?_set_ne (fun e9 => hj9 (by simp [← e9]))⟩, fun gf out kk => ?_⟩
  refine hs_n 2 (S2 := (50, [(7, .int k), (6, .ref N), (0, .ref 170), (1, .int a), (2, .int b), (3, .int c), (4, .int d), (5, .int e)], [.int 20, .int k], g)) (fun _ => rfl) ?_
  refine hm_bo_go (S2 := (53, [(7, .int k), (6, .ref N), (0, .ref 170), (1, .int a), (2, .int b), (3, .int c), (4, .int d), (5, .int e)], [], g)) (fun _ => hs_if2 (b := false) rfl rfl hk) ?_
  refine hs_n 1 (S2 := (54, [(7, .int k), (6, .ref N), (0, .ref 170), (1, .int a), (2, .int b), (3, .int c), (4, .int d), (5, .int e)], [.ref 170], g)) (fun _ => rfl) ?_
  refine hm_bo_go (S2 := (57, [(7, .int k), (6, .ref N), (0, .ref 170), (1, .int a), (2, .int b), (3, .int c), (4, .int d), (5, .int e)], [.ref 171], g)) (fun _ => hs_get rfl rfl hM rfl) ?_
  refine hs_n 1 (S2 := (58, [(7, .int k), (6, .ref N), (0, .ref 170), (1, .int a), (2, .int b), (3, .int c), (4, .int d), (5, .int e)], [.ref 170, .ref 171], g)) (fun _ => rfl) ?_
  refine hm_bo_go (S2 := (61, [(7, .int k), (6, .ref N), (0, .ref 170), (1, .int a), (2, .int b), (3, .int c), (4, .int d), (5, .int e)], [.int 0, .ref 171], g)) (fun _ => hs_get rfl rfl hM rfl) ?_
  refine hs_n 6 (S2 := (70, [(7, .int k), (6, .ref N), (0, .ref 170), (1, .int a), (2, .int b), (3, .int c), (4, .int d), (5, .int e)], [.int (k / 4), .ref N, .int (0 + k), .ref 171], g)) (fun _ => rfl) ?_
  refine hm_bo_go (S2 := (71, [(7, .int k), (6, .ref N), (0, .ref 170), (1, .int a), (2, .int b), (3, .int c), (4, .int d), (5, .int e)], [.int w, .int (0 + k), .ref 171], g)) (fun _ => hs_ald rfl hA rfl hi hw) ?_
  refine hs_n 9 (S2 := (83, [(7, .int k), (6, .ref N), (0, .ref 170), (1, .int a), (2, .int b), (3, .int c), (4, .int d), (5, .int e)], [.int ((w >>> ((24 - (8 * (k - k / 4 * 4))) &&& 31)).toInt8.toInt32), .int (0 + k), .ref 171], g)) (fun _ => rfl) ?_
  refine hm_bo_go (S2 := (84, [(7, .int k), (6, .ref N), (0, .ref 170), (1, .int a), (2, .int b), (3, .int c), (4, .int d), (5, .int e)], [], g2)) (fun _ => hs_ast (G := tb_T) (q := 171) rfl (by decide) hB rfl hj (by rw [hl]; exact hj2) rfl) ?_
  refine hs_n 1 (S2 := (87, [(7, .int (k + 1)), (6, .ref N), (0, .ref 170), (1, .int a), (2, .int b), (3, .int c), (4, .int d), (5, .int e)], [], g2)) (fun _ => rfl) ?_
  refine hs_n 1 (S2 := (46, [(7, .int (k + 1)), (6, .ref N), (0, .ref 170), (1, .int a), (2, .int b), (3, .int c), (4, .int d), (5, .int e)], [], g2)) (fun _ => rfl) ?_
  exact kk
set_option maxRecDepth 100000 in
theorem pz_feed2 {g : hm_G} {E : hm_E} (a b c d e : Int32) (hM : g.1[170]? = some pz_M) (hB : ∃ l, g.1[171]? = some (.inl (.byte, l)) ∧ l.length = 2000) (h0 : g.1[0]? = some E) : ∃ g2 : hm_G, g2.1[0]? = some E ∧ g2.2 = (g.2.1 + 1, g.2.2 + 5) ∧ hm_ev tb_T tb_pg 1 118 [.ref 170, .int a, .int b, .int c, .int d, .int e] g g2 (some (some (.int 20))) := by
  obtain ⟨l, hB, hl⟩ := hB
  let N : Nat := g.1.length
  have hNM : 170 < N := (List.getElem?_eq_some_iff.mp hM).1
  have hNT : 171 < N := (List.getElem?_eq_some_iff.mp hB).1
  have hNZ : 0 < N := (List.getElem?_eq_some_iff.mp h0).1
  have hN0 : hm_Tro tb_T ≤ N := Nat.le_trans (show 96 ≤ 170 by decide) (Nat.le_of_lt hNM)
  let q0 : hm_G := (g.1 ++ [hm_newa .int 5], g.2.1 + 1, g.2.2 + 5)
  have hA0 : q0.1[N]? = some (.inl (.int, [.int 0, .int 0, .int 0, .int 0, .int 0])) := by show (g.1 ++ [_])[g.1.length]? = _; simp; rfl
  let q1 : hm_G := (q0.1.set N (.inl (.int, [.int a, .int 0, .int 0, .int 0, .int 0])), q0.2)
  have hA1 : q1.1[N]? = some (.inl (.int, [.int a, .int 0, .int 0, .int 0, .int 0])) := List.getElem?_set_self (List.getElem?_eq_some_iff.mp hA0).1
  let q2 : hm_G := (q1.1.set N (.inl (.int, [.int a, .int b, .int 0, .int 0, .int 0])), q1.2)
  have hA2 : q2.1[N]? = some (.inl (.int, [.int a, .int b, .int 0, .int 0, .int 0])) := List.getElem?_set_self (List.getElem?_eq_some_iff.mp hA1).1
  let q3 : hm_G := (q2.1.set N (.inl (.int, [.int a, .int b, .int c, .int 0, .int 0])), q2.2)
  have hA3 : q3.1[N]? = some (.inl (.int, [.int a, .int b, .int c, .int 0, .int 0])) := List.getElem?_set_self (List.getElem?_eq_some_iff.mp hA2).1
  let q4 : hm_G := (q3.1.set N (.inl (.int, [.int a, .int b, .int c, .int d, .int 0])), q3.2)
  have hA4 : q4.1[N]? = some (.inl (.int, [.int a, .int b, .int c, .int d, .int 0])) := List.getElem?_set_self (List.getElem?_eq_some_iff.mp hA3).1
  let q5 : hm_G := (q4.1.set N (.inl (.int, [.int a, .int b, .int c, .int d, .int e])), q4.2)
  have hA5 : q5.1[N]? = some (.inl (.int, [.int a, .int b, .int c, .int d, .int e])) := List.getElem?_set_self (List.getElem?_eq_some_iff.mp hA4).1
  have Q0 : pz_Q q5 N [.int a, .int b, .int c, .int d, .int e] := ⟨(List.getElem?_set_ne (by omega)).trans ((List.getElem?_set_ne (by omega)).trans ((List.getElem?_set_ne (by omega)).trans ((List.getElem?_set_ne (by omega)).trans ((List.getElem?_set_ne (by omega)).trans ((List.getElem?_append_left (by omega)).trans hM))))), ⟨l, (List.getElem?_set_ne (by omega)).trans ((List.getElem?_set_ne (by omega)).trans ((List.getElem?_set_ne (by omega)).trans ((List.getElem?_set_ne (by omega)).trans ((List.getElem?_set_ne (by omega)).trans ((List.getElem?_append_left (by omega)).trans hB))))), hl⟩, hA5, by omega⟩
  obtain ⟨r0, Q1, F1, k1⟩ := pz_itr (dd := 0) (a := a) (b := b) (c := c) (d := d) (e := e) (k := 0) (k2 := 1) (w := a) Q0 rfl (by decide) rfl (by decide) (by decide) rfl
  obtain ⟨r1, Q2, F2, k2⟩ := pz_itr (dd := 0) (a := a) (b := b) (c := c) (d := d) (e := e) (k := 1) (k2 := 2) (w := a) Q1 rfl (by decide) rfl (by decide) (by decide) rfl
  obtain ⟨r2, Q3, F3, k3⟩ := pz_itr (dd := 0) (a := a) (b := b) (c := c) (d := d) (e := e) (k := 2) (k2 := 3) (w := a) Q2 rfl (by decide) rfl (by decide) (by decide) rfl
  obtain ⟨r3, Q4, F4, k4⟩ := pz_itr (dd := 0) (a := a) (b := b) (c := c) (d := d) (e := e) (k := 3) (k2 := 4) (w := a) Q3 rfl (by decide) rfl (by decide) (by decide) rfl
  obtain ⟨r4, Q5, F5, k5⟩ := pz_itr (dd := 0) (a := a) (b := b) (c := c) (d := d) (e := e) (k := 4) (k2 := 5) (w := b) Q4 rfl (by decide) rfl (by decide) (by decide) rfl
  obtain ⟨r5, Q6, F6, k6⟩ := pz_itr (dd := 0) (a := a) (b := b) (c := c) (d := d) (e := e) (k := 5) (k2 := 6) (w := b) Q5 rfl (by decide) rfl (by decide) (by decide) rfl
  obtain ⟨r6, Q7, F7, k7⟩ := pz_itr (dd := 0) (a := a) (b := b) (c := c) (d := d) (e := e) (k := 6) (k2 := 7) (w := b) Q6 rfl (by decide) rfl (by decide) (by decide) rfl
  obtain ⟨r7, Q8, F8, k8⟩ := pz_itr (dd := 0) (a := a) (b := b) (c := c) (d := d) (e := e) (k := 7) (k2 := 8) (w := b) Q7 rfl (by decide) rfl (by decide) (by decide) rfl
  obtain ⟨r8, Q9, F9, k9⟩ := pz_itr (dd := 0) (a := a) (b := b) (c := c) (d := d) (e := e) (k := 8) (k2 := 9) (w := c) Q8 rfl (by decide) rfl (by decide) (by decide) rfl
  obtain ⟨r9, Q10, F10, k10⟩ := pz_itr (dd := 0) (a := a) (b := b) (c := c) (d := d) (e := e) (k := 9) (k2 := 10) (w := c) Q9 rfl (by decide) rfl (by decide) (by decide) rfl
  obtain ⟨r10, Q11, F11, k11⟩ := pz_itr (dd := 0) (a := a) (b := b) (c := c) (d := d) (e := e) (k := 10) (k2 := 11) (w := c) Q10 rfl (by decide) rfl (by decide) (by decide) rfl
  obtain ⟨r11, Q12, F12, k12⟩ := pz_itr (dd := 0) (a := a) (b := b) (c := c) (d := d) (e := e) (k := 11) (k2 := 12) (w := c) Q11 rfl (by decide) rfl (by decide) (by decide) rfl
  obtain ⟨r12, Q13, F13, k13⟩ := pz_itr (dd := 0) (a := a) (b := b) (c := c) (d := d) (e := e) (k := 12) (k2 := 13) (w := d) Q12 rfl (by decide) rfl (by decide) (by decide) rfl
  obtain ⟨r13, Q14, F14, k14⟩ := pz_itr (dd := 0) (a := a) (b := b) (c := c) (d := d) (e := e) (k := 13) (k2 := 14) (w := d) Q13 rfl (by decide) rfl (by decide) (by decide) rfl
  obtain ⟨r14, Q15, F15, k15⟩ := pz_itr (dd := 0) (a := a) (b := b) (c := c) (d := d) (e := e) (k := 14) (k2 := 15) (w := d) Q14 rfl (by decide) rfl (by decide) (by decide) rfl
  obtain ⟨r15, Q16, F16, k16⟩ := pz_itr (dd := 0) (a := a) (b := b) (c := c) (d := d) (e := e) (k := 15) (k2 := 16) (w := d) Q15 rfl (by decide) rfl (by decide) (by decide) rfl
  obtain ⟨r16, Q17, F17, k17⟩ := pz_itr (dd := 0) (a := a) (b := b) (c := c) (d := d) (e := e) (k := 16) (k2 := 17) (w := e) Q16 rfl (by decide) rfl (by decide) (by decide) rfl
  obtain ⟨r17, Q18, F18, k18⟩ := pz_itr (dd := 0) (a := a) (b := b) (c := c) (d := d) (e := e) (k := 17) (k2 := 18) (w := e) Q17 rfl (by decide) rfl (by decide) (by decide) rfl
  obtain ⟨r18, Q19, F19, k19⟩ := pz_itr (dd := 0) (a := a) (b := b) (c := c) (d := d) (e := e) (k := 18) (k2 := 19) (w := e) Q18 rfl (by decide) rfl (by decide) (by decide) rfl
  obtain ⟨r19, Q20, F20, k20⟩ := pz_itr (dd := 0) (a := a) (b := b) (c := c) (d := d) (e := e) (k := 19) (k2 := 20) (w := e) Q19 rfl (by decide) rfl (by decide) (by decide) rfl
  have F : pz_fr [171] q5 r19 := pz_fr_tr F1 (pz_fr_tr F2 (pz_fr_tr F3 (pz_fr_tr F4 (pz_fr_tr F5 (pz_fr_tr F6 (pz_fr_tr F7 (pz_fr_tr F8 (pz_fr_tr F9 (pz_fr_tr F10 (pz_fr_tr F11 (pz_fr_tr F12 (pz_fr_tr F13 (pz_fr_tr F14 (pz_fr_tr F15 (pz_fr_tr F16 (pz_fr_tr F17 (pz_fr_tr F18 (pz_fr_tr F19 (F20)))))))))))))))))))
  have hM20 : r19.1[170]? = some pz_M := Q20.1
  let z : hm_G := (r19.1.set 170 (.inr (.inl (9, [.ref 171, .int 20, .int 0, .int 0, .int 0, .int 0, .int 0, .int 0, .int 0, .ref 172, .ref 173, .ref 174, .ref 175, .ref 176, .int 0, .int 0, .int 0, .ref 177, .ref 186, .null, .int 0, .int 0, .long 0, .long 0, .long 0, .long 0, .long 0, .ref 195, .ref 196, .ref 197, .ref 198, .ref 199, .ref 200, .ref 201, .ref 202, .int 0, .int 0, .int 0, .ref 203, .ref 204, .ref 205, .ref 206, .ref 207, .ref 208, .ref 209, .ref 210, .ref 211, .ref 212, .ref 219, .ref 920, .ref 1621, .ref 1630, .int 0, .int 0, .int 0, .int 0]))), r19.2)
  have hMz : z.1[170]? = some (.inr (.inl (9, [.ref 171, .int 20, .int 0, .int 0, .int 0, .int 0, .int 0, .int 0, .int 0, .ref 172, .ref 173, .ref 174, .ref 175, .ref 176, .int 0, .int 0, .int 0, .ref 177, .ref 186, .null, .int 0, .int 0, .long 0, .long 0, .long 0, .long 0, .long 0, .ref 195, .ref 196, .ref 197, .ref 198, .ref 199, .ref 200, .ref 201, .ref 202, .int 0, .int 0, .int 0, .ref 203, .ref 204, .ref 205, .ref 206, .ref 207, .ref 208, .ref 209, .ref 210, .ref 211, .ref 212, .ref 219, .ref 920, .ref 1621, .ref 1630, .int 0, .int 0, .int 0, .int 0]))) := List.getElem?_set_self (List.getElem?_eq_some_iff.mp hM20).1
  refine ⟨z, (List.getElem?_set_ne (by decide)).trans ((F.2.2 0 (by decide)).trans ((List.getElem?_set_ne (by omega)).trans ((List.getElem?_set_ne (by omega)).trans ((List.getElem?_set_ne (by omega)).trans ((List.getElem?_set_ne (by omega)).trans ((List.getElem?_set_ne (by omega)).trans ((List.getElem?_append_left (by omega)).trans h0))))))), F.2.1, ?_⟩
  refine hm_ev_of (d := 0) (M := tb_M118) rfl (Nat.le_of_ble_eq_true rfl) ?_
  show hm_bo tb_T tb_pg 0 tb_M118 (0, [(0, .ref 170), (1, .int a), (2, .int b), (3, .int c), (4, .int d), (5, .int e)], [], g) _ _
  refine hs_n 1 (S2 := (1, [(0, .ref 170), (1, .int a), (2, .int b), (3, .int c), (4, .int d), (5, .int e)], [.ref 170], g)) (fun _ => rfl) ?_
  refine hm_bo_go (S2 := (4, [(0, .ref 170), (1, .int a), (2, .int b), (3, .int c), (4, .int d), (5, .int e)], [.int 0], g)) (fun _ => hs_get rfl rfl hM rfl) ?_
  refine hs_n 5 (S2 := (17, [(0, .ref 170), (1, .int a), (2, .int b), (3, .int c), (4, .int d), (5, .int e)], [.int 5], g)) (fun _ => rfl) ?_
  refine hm_bo_go (S2 := (19, [(0, .ref 170), (1, .int a), (2, .int b), (3, .int c), (4, .int d), (5, .int e)], [.ref N], q0)) (fun _ => hs_newi rfl (by decide) (by decide)) ?_
  refine hs_n 3 (S2 := (22, [(0, .ref 170), (1, .int a), (2, .int b), (3, .int c), (4, .int d), (5, .int e)], [.int a, .int 0, .ref N, .ref N], q0)) (fun _ => rfl) ?_
  refine hm_bo_go (S2 := (23, [(0, .ref 170), (1, .int a), (2, .int b), (3, .int c), (4, .int d), (5, .int e)], [.ref N], q1)) (fun _ => hs_ast (G := tb_T) (x := 0) rfl hN0 hA0 rfl (by decide) (Nat.le_of_ble_eq_true rfl) rfl) ?_
  refine hs_n 3 (S2 := (26, [(0, .ref 170), (1, .int a), (2, .int b), (3, .int c), (4, .int d), (5, .int e)], [.int b, .int 1, .ref N, .ref N], q1)) (fun _ => rfl) ?_
  refine hm_bo_go (S2 := (27, [(0, .ref 170), (1, .int a), (2, .int b), (3, .int c), (4, .int d), (5, .int e)], [.ref N], q2)) (fun _ => hs_ast (G := tb_T) (x := 1) rfl hN0 hA1 rfl (by decide) (Nat.le_of_ble_eq_true rfl) rfl) ?_
  refine hs_n 3 (S2 := (30, [(0, .ref 170), (1, .int a), (2, .int b), (3, .int c), (4, .int d), (5, .int e)], [.int c, .int 2, .ref N, .ref N], q2)) (fun _ => rfl) ?_
  refine hm_bo_go (S2 := (31, [(0, .ref 170), (1, .int a), (2, .int b), (3, .int c), (4, .int d), (5, .int e)], [.ref N], q3)) (fun _ => hs_ast (G := tb_T) (x := 2) rfl hN0 hA2 rfl (by decide) (Nat.le_of_ble_eq_true rfl) rfl) ?_
  refine hs_n 3 (S2 := (35, [(0, .ref 170), (1, .int a), (2, .int b), (3, .int c), (4, .int d), (5, .int e)], [.int d, .int 3, .ref N, .ref N], q3)) (fun _ => rfl) ?_
  refine hm_bo_go (S2 := (36, [(0, .ref 170), (1, .int a), (2, .int b), (3, .int c), (4, .int d), (5, .int e)], [.ref N], q4)) (fun _ => hs_ast (G := tb_T) (x := 3) rfl hN0 hA3 rfl (by decide) (Nat.le_of_ble_eq_true rfl) rfl) ?_
  refine hs_n 3 (S2 := (40, [(0, .ref 170), (1, .int a), (2, .int b), (3, .int c), (4, .int d), (5, .int e)], [.int e, .int 4, .ref N, .ref N], q4)) (fun _ => rfl) ?_
  refine hm_bo_go (S2 := (41, [(0, .ref 170), (1, .int a), (2, .int b), (3, .int c), (4, .int d), (5, .int e)], [.ref N], q5)) (fun _ => hs_ast (G := tb_T) (x := 4) rfl hN0 hA4 rfl (by decide) (Nat.le_of_ble_eq_true rfl) rfl) ?_
  refine hs_n 3 (S2 := (46, [(7, .int 0), (6, .ref N), (0, .ref 170), (1, .int a), (2, .int b), (3, .int c), (4, .int d), (5, .int e)], [], q5)) (fun _ => rfl) ?_
  refine k1 _ _ (k2 _ _ (k3 _ _ (k4 _ _ (k5 _ _ (k6 _ _ (k7 _ _ (k8 _ _ (k9 _ _ (k10 _ _ (k11 _ _ (k12 _ _ (k13 _ _ (k14 _ _ (k15 _ _ (k16 _ _ (k17 _ _ (k18 _ _ (k19 _ _ (k20 _ _ (?_))))))))))))))))))))
  refine hs_n 5 (S2 := (92, [(7, .int 20), (6, .ref N), (0, .ref 170), (1, .int a), (2, .int b), (3, .int c), (4, .int d), (5, .int e)], [.ref 170, .ref 170], r19)) (fun _ => rfl) ?_
  refine hm_bo_go (S2 := (95, [(7, .int 20), (6, .ref N), (0, .ref 170), (1, .int a), (2, .int b), (3, .int c), (4, .int d), (5, .int e)], [.int 0, .ref 170], r19)) (fun _ => hs_get rfl rfl hM20 rfl) ?_
  refine hs_n 2 (S2 := (98, [(7, .int 20), (6, .ref N), (0, .ref 170), (1, .int a), (2, .int b), (3, .int c), (4, .int d), (5, .int e)], [.int 20, .ref 170], r19)) (fun _ => rfl) ?_
  refine hm_bo_go (S2 := (101, [(7, .int 20), (6, .ref N), (0, .ref 170), (1, .int a), (2, .int b), (3, .int c), (4, .int d), (5, .int e)], [], z)) (fun _ => hs_put (G := tb_T) (ci := 9) (fi := 1) (q := 170) (v := .int 20) (l := [.ref 171, .int 0, .int 0, .int 0, .int 0, .int 0, .int 0, .int 0, .int 0, .ref 172, .ref 173, .ref 174, .ref 175, .ref 176, .int 0, .int 0, .int 0, .ref 177, .ref 186, .null, .int 0, .int 0, .long 0, .long 0, .long 0, .long 0, .long 0, .ref 195, .ref 196, .ref 197, .ref 198, .ref 199, .ref 200, .ref 201, .ref 202, .int 0, .int 0, .int 0, .ref 203, .ref 204, .ref 205, .ref 206, .ref 207, .ref 208, .ref 209, .ref 210, .ref 211, .ref 212, .ref 219, .ref 920, .ref 1621, .ref 1630, .int 0, .int 0, .int 0, .int 0]) rfl rfl rfl rfl (by decide) hM20 (by decide) (hf_int _)) ?_
  refine hs_n 1 (S2 := (102, [(7, .int 20), (6, .ref N), (0, .ref 170), (1, .int a), (2, .int b), (3, .int c), (4, .int d), (5, .int e)], [.ref 170], z)) (fun _ => rfl) ?_
  refine hm_bo_go (S2 := (105, [(7, .int 20), (6, .ref N), (0, .ref 170), (1, .int a), (2, .int b), (3, .int c), (4, .int d), (5, .int e)], [.int 20], z)) (fun _ => hs_get rfl rfl hMz rfl) ?_
  exact hm_bo_end (fun _ => rfl)
