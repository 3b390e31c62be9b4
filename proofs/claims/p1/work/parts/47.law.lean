theorem hs_tswd {G : hm_T} {M : hm_M} {pc row len t : Nat} {lv : List (Nat × Value)} {r : List Value} {g : hm_G} {x : Int32} {call : Nat → List Value → hm_G → Option (hm_G × hm_Out)} {dflt lo hi : Int} {offs : Array Int} (ho : (hm_Mi M)[pc]? = some (some (.tableswitch dflt lo hi offs, len, 8, row))) (hx : x.toInt < lo ∨ hi < x.toInt) (ht : hm_tg pc dflt = some t) : hm_step G call M (pc, lv, .int x :: r, g) = some (.inl (t, lv, r, g)) := by
  rw [hs_of ho]
  show (hm_gW _ pc lv _).map _ = _
  simp [hm_gW, hx, ht]
/-- a good end from S on -/
def pz_win (S : hm_S) : Prop := ∃ gf : hm_G, hm_bo tb_T tb_pg 30 tb_M0 S gf (some (some (.int 1))) ∧ gf.2.1 ≤ 600002 ∧ gf.2.2 ≤ 7302232
theorem pz_on {S S2 : hm_S} (h : ∀ gf out, hm_bo tb_T tb_pg 30 tb_M0 S2 gf out → hm_bo tb_T tb_pg 30 tb_M0 S gf out) (w : pz_win S2) : pz_win S := by
  obtain ⟨gf, h1, h2⟩ := w
  exact ⟨gf, h _ _ h1, h2⟩
set_option maxRecDepth 100000 in
theorem pz_exit {g : hm_G} {i : Int32} {l : List Value} (h0 : g.1[0]? = some (.inl (.int, l))) (hi : hm_c2 .gt i (Int32.ofNat l.length - 6) = true) (hc : g.2.1 ≤ 600002) (hs : g.2.2 ≤ 7302232) : pz_win (18, [(3, .int i), (2, .ref 170), (1, .ref 96), (0, .ref 0)], [], g) := by
  refine ⟨g, ?_, hc, hs⟩
  refine hs_n 2 (S2 := (20, [(3, .int i), (2, .ref 170), (1, .ref 96), (0, .ref 0)], [.ref 0, .int i], g)) (fun _ => rfl) ?_
  refine hm_bo_go (S2 := (21, [(3, .int i), (2, .ref 170), (1, .ref 96), (0, .ref 0)], [.int (Int32.ofNat l.length), .int i], g)) (fun _ => hs_alen rfl h0) ?_
  refine hs_n 2 (S2 := (24, [(3, .int i), (2, .ref 170), (1, .ref 96), (0, .ref 0)], [.int ((Int32.ofNat l.length) - 6), .int i], g)) (fun _ => rfl) ?_
  refine hm_bo_go (S2 := (329, [(3, .int i), (2, .ref 170), (1, .ref 96), (0, .ref 0)], [], g)) (fun _ => hs_if2 (b := true) rfl rfl hi) ?_
  refine hs_n 1 (S2 := (330, [(3, .int i), (2, .ref 170), (1, .ref 96), (0, .ref 0)], [.int 1], g)) (fun _ => rfl) ?_
  exact hm_bo_end (fun _ => rfl)
set_option maxRecDepth 100000 in
theorem pz_sw {g : hm_G} {x0 x1 x2 x3 x4 x5 : Int32} (h0 : g.1[0]? = some (.inl (.int, [.int x0, .int x1, .int x2, .int x3, .int x4, .int x5]))) (w : pz_win (33, [(3, .int 0), (2, .ref 170), (1, .ref 96), (0, .ref 0)], [.int (x0 &&& 15)], g)) : pz_win (18, [(3, .int 0), (2, .ref 170), (1, .ref 96), (0, .ref 0)], [], g) := by
  refine pz_on (fun gf out kk => ?_) w
  refine hs_n 2 (S2 := (20, [(3, .int 0), (2, .ref 170), (1, .ref 96), (0, .ref 0)], [.ref 0, .int 0], g)) (fun _ => rfl) ?_
  refine hm_bo_go (S2 := (21, [(3, .int 0), (2, .ref 170), (1, .ref 96), (0, .ref 0)], [.int 6, .int 0], g)) (fun _ => hs_alen rfl h0) ?_
  refine hs_n 5 (S2 := (29, [(3, .int 0), (2, .ref 170), (1, .ref 96), (0, .ref 0)], [.int 0, .ref 0], g)) (fun _ => rfl) ?_
  refine hm_bo_go (S2 := (30, [(3, .int 0), (2, .ref 170), (1, .ref 96), (0, .ref 0)], [.int x0], g)) (fun _ => hs_ald rfl h0 rfl (by decide) rfl) ?_
  refine hs_n 2 (S2 := (33, [(3, .int 0), (2, .ref 170), (1, .ref 96), (0, .ref 0)], [.int (x0 &&& 15)], g)) (fun _ => rfl) ?_
  exact kk
set_option maxRecDepth 100000 in
theorem pz_off {g : hm_G} {x0 x1 x2 x3 x4 x5 : Int32} (h0 : g.1[0]? = some (.inl (.int, [.int x0, .int x1, .int x2, .int x3, .int x4, .int x5]))) (hc : g.2.1 ≤ 600002) (hs : g.2.2 ≤ 7302232) : pz_win (323, [(3, .int 0), (2, .ref 170), (1, .ref 96), (0, .ref 0)], [], g) := by
  refine pz_on (fun gf out kk => ?_) (pz_exit (i := 6) h0 (show hm_c2 .gt 6 (Int32.ofNat 6 - 6) = true by decide) hc hs)
  refine hs_n 2 (S2 := (18, [(3, .int 6), (2, .ref 170), (1, .ref 96), (0, .ref 0)], [], g)) (fun _ => rfl) ?_
  exact kk
set_option maxRecDepth 100000 in
theorem pz_k4 {g : hm_G} {x0 x1 x2 x3 x4 x5 : Int32} (hF : pz_F g (.inl (.int, [.int x0, .int x1, .int x2, .int x3, .int x4, .int x5]))) (hc : g.2 = (1535, 815634)) : pz_win (33, [(3, .int 0), (2, .ref 170), (1, .ref 96), (0, .ref 0)], [.int 4], g) := by
  obtain ⟨h0, hX, hT, hB, hM, hC⟩ := hF
  refine pz_on (fun gf out kk => ?_) (pz_off h0 (by rw [hc]; decide) (by rw [hc]; decide))
  refine hs_n 1 (S2 := (196, [(3, .int 0), (2, .ref 170), (1, .ref 96), (0, .ref 0)], [], g)) (fun _ => rfl) ?_
  refine hs_n 5 (S2 := (201, [(3, .int 0), (2, .ref 170), (1, .ref 96), (0, .ref 0)], [.int 1, .ref 0, .ref 96], g)) (fun _ => rfl) ?_
  refine hm_bo_go (S2 := (202, [(3, .int 0), (2, .ref 170), (1, .ref 96), (0, .ref 0)], [.int x1, .ref 96], g)) (fun _ => hs_ald rfl h0 rfl (by decide) rfl) ?_
  refine hs_bo (hm_ev_up (by decide) (pz_run1 x1 hX)) (S2 := (205, [(3, .int 0), (2, .ref 170), (1, .ref 96), (0, .ref 0)], [.int (-2)], g)) (fun call hc => hs_call1 (args := [.int x1]) (rest := []) rfl rfl rfl hX (by decide) hc) ?_
  refine hs_n 5 (S2 := (210, [(3, .int 0), (2, .ref 170), (1, .ref 96), (0, .ref 0)], [.int 1, .ref 0, .ref 170, .int (-2)], g)) (fun _ => rfl) ?_
  refine hm_bo_go (S2 := (211, [(3, .int 0), (2, .ref 170), (1, .ref 96), (0, .ref 0)], [.int x1, .ref 170, .int (-2)], g)) (fun _ => hs_ald rfl h0 rfl (by decide) rfl) ?_
  refine hs_bo (hm_ev_up (by decide) (pz_run2 x1 hM)) (S2 := (214, [(3, .int 0), (2, .ref 170), (1, .ref 96), (0, .ref 0)], [.int (-2), .int (-2)], g)) (fun call hc => hs_call1 (args := [.int x1]) (rest := [.int (-2)]) rfl rfl rfl hM (by decide) hc) ?_
  refine hs_n 1 (S2 := (323, [(3, .int 0), (2, .ref 170), (1, .ref 96), (0, .ref 0)], [], g)) (fun _ => rfl) ?_
  exact kk
set_option maxRecDepth 100000 in
theorem pz_k5 {g : hm_G} {x0 x1 x2 x3 x4 x5 : Int32} (hF : pz_F g (.inl (.int, [.int x0, .int x1, .int x2, .int x3, .int x4, .int x5]))) (hc : g.2 = (1535, 815634)) : pz_win (33, [(3, .int 0), (2, .ref 170), (1, .ref 96), (0, .ref 0)], [.int 5], g) := by
  obtain ⟨h0, hX, hT, hB, hM, hC⟩ := hF
  refine pz_on (fun gf out kk => ?_) (pz_off h0 (by rw [hc]; decide) (by rw [hc]; decide))
  refine hs_n 1 (S2 := (219, [(3, .int 0), (2, .ref 170), (1, .ref 96), (0, .ref 0)], [], g)) (fun _ => rfl) ?_
  refine hs_n 5 (S2 := (224, [(3, .int 0), (2, .ref 170), (1, .ref 96), (0, .ref 0)], [.int 1, .ref 0, .ref 96], g)) (fun _ => rfl) ?_
  refine hm_bo_go (S2 := (225, [(3, .int 0), (2, .ref 170), (1, .ref 96), (0, .ref 0)], [.int x1, .ref 96], g)) (fun _ => hs_ald rfl h0 rfl (by decide) rfl) ?_
  refine hs_n 4 (S2 := (229, [(3, .int 0), (2, .ref 170), (1, .ref 96), (0, .ref 0)], [.int 2, .ref 0, .int x1, .ref 96], g)) (fun _ => rfl) ?_
  refine hm_bo_go (S2 := (230, [(3, .int 0), (2, .ref 170), (1, .ref 96), (0, .ref 0)], [.int x2, .int x1, .ref 96], g)) (fun _ => hs_ald rfl h0 rfl (by decide) rfl) ?_
  refine hs_bo (hm_ev_up (by decide) (pz_give1 x1 x2 hX)) (S2 := (233, [(3, .int 0), (2, .ref 170), (1, .ref 96), (0, .ref 0)], [.int (-2)], g)) (fun call hc => hs_call1 (args := [.int x1, .int x2]) (rest := []) rfl rfl rfl hX (by decide) hc) ?_
  refine hs_n 5 (S2 := (238, [(3, .int 0), (2, .ref 170), (1, .ref 96), (0, .ref 0)], [.int 1, .ref 0, .ref 170, .int (-2)], g)) (fun _ => rfl) ?_
  refine hm_bo_go (S2 := (239, [(3, .int 0), (2, .ref 170), (1, .ref 96), (0, .ref 0)], [.int x1, .ref 170, .int (-2)], g)) (fun _ => hs_ald rfl h0 rfl (by decide) rfl) ?_
  refine hs_n 4 (S2 := (243, [(3, .int 0), (2, .ref 170), (1, .ref 96), (0, .ref 0)], [.int 2, .ref 0, .int x1, .ref 170, .int (-2)], g)) (fun _ => rfl) ?_
  refine hm_bo_go (S2 := (244, [(3, .int 0), (2, .ref 170), (1, .ref 96), (0, .ref 0)], [.int x2, .int x1, .ref 170, .int (-2)], g)) (fun _ => hs_ald rfl h0 rfl (by decide) rfl) ?_
  refine hs_bo (hm_ev_up (by decide) (pz_give2 x1 x2 hM)) (S2 := (247, [(3, .int 0), (2, .ref 170), (1, .ref 96), (0, .ref 0)], [.int (-2), .int (-2)], g)) (fun call hc => hs_call1 (args := [.int x1, .int x2]) (rest := [.int (-2)]) rfl rfl rfl hM (by decide) hc) ?_
  refine hs_n 1 (S2 := (323, [(3, .int 0), (2, .ref 170), (1, .ref 96), (0, .ref 0)], [], g)) (fun _ => rfl) ?_
  exact kk
set_option maxRecDepth 100000 in
theorem pz_k6 {g : hm_G} {x0 x1 x2 x3 x4 x5 : Int32} (hF : pz_F g (.inl (.int, [.int x0, .int x1, .int x2, .int x3, .int x4, .int x5]))) (hc : g.2 = (1535, 815634)) : pz_win (33, [(3, .int 0), (2, .ref 170), (1, .ref 96), (0, .ref 0)], [.int 6], g) := by
  obtain ⟨h0, hX, hT, hB, hM, hC⟩ := hF
  refine pz_on (fun gf out kk => ?_) (pz_off h0 (by rw [hc]; decide) (by rw [hc]; decide))
  refine hs_n 1 (S2 := (252, [(3, .int 0), (2, .ref 170), (1, .ref 96), (0, .ref 0)], [], g)) (fun _ => rfl) ?_
  refine hs_n 5 (S2 := (257, [(3, .int 0), (2, .ref 170), (1, .ref 96), (0, .ref 0)], [.int 1, .ref 0, .ref 96], g)) (fun _ => rfl) ?_
  refine hm_bo_go (S2 := (258, [(3, .int 0), (2, .ref 170), (1, .ref 96), (0, .ref 0)], [.int x1, .ref 96], g)) (fun _ => hs_ald rfl h0 rfl (by decide) rfl) ?_
  refine hs_bo (hm_ev_up (by decide) (pz_take1 x1 hX)) (S2 := (261, [(3, .int 0), (2, .ref 170), (1, .ref 96), (0, .ref 0)], [.long 1099511627776], g)) (fun call hc => hs_call1 (args := [.int x1]) (rest := []) rfl rfl rfl hX (by decide) hc) ?_
  refine hs_n 5 (S2 := (266, [(3, .int 0), (2, .ref 170), (1, .ref 96), (0, .ref 0)], [.int 1, .ref 0, .ref 170, .long 1099511627776], g)) (fun _ => rfl) ?_
  refine hm_bo_go (S2 := (267, [(3, .int 0), (2, .ref 170), (1, .ref 96), (0, .ref 0)], [.int x1, .ref 170, .long 1099511627776], g)) (fun _ => hs_ald rfl h0 rfl (by decide) rfl) ?_
  refine hs_bo (hm_ev_up (by decide) (pz_take2 x1 hM)) (S2 := (270, [(3, .int 0), (2, .ref 170), (1, .ref 96), (0, .ref 0)], [.long 1099511627776, .long 1099511627776], g)) (fun call hc => hs_call1 (args := [.int x1]) (rest := [.long 1099511627776]) rfl rfl rfl hM (by decide) hc) ?_
  refine hs_n 2 (S2 := (323, [(3, .int 0), (2, .ref 170), (1, .ref 96), (0, .ref 0)], [], g)) (fun _ => rfl) ?_
  exact kk
set_option maxRecDepth 100000 in
theorem pz_k8_lo {g : hm_G} {x0 x1 x2 x3 x4 x5 : Int32} (hF : pz_F g (.inl (.int, [.int x0, .int x1, .int x2, .int x3, .int x4, .int x5]))) (hc : g.2 = (1535, 815634)) (h : x1 < 0) (h2 : x1.toInt64 < 0) : pz_win (33, [(3, .int 0), (2, .ref 170), (1, .ref 96), (0, .ref 0)], [.int 8], g) := by
  obtain ⟨h0, hX, hT, hB, hM, hC⟩ := hF
  refine pz_on (fun gf out kk => ?_) (pz_off h0 (by rw [hc]; decide) (by rw [hc]; decide))
  refine hs_n 1 (S2 := (300, [(3, .int 0), (2, .ref 170), (1, .ref 96), (0, .ref 0)], [], g)) (fun _ => rfl) ?_
  refine hs_n 5 (S2 := (305, [(3, .int 0), (2, .ref 170), (1, .ref 96), (0, .ref 0)], [.int 1, .ref 0, .ref 96], g)) (fun _ => rfl) ?_
  refine hm_bo_go (S2 := (306, [(3, .int 0), (2, .ref 170), (1, .ref 96), (0, .ref 0)], [.int x1, .ref 96], g)) (fun _ => hs_ald rfl h0 rfl (by decide) rfl) ?_
  refine hs_bo (hm_ev_up (by decide) (pz_cnt1_lo x1 hX h)) (S2 := (309, [(3, .int 0), (2, .ref 170), (1, .ref 96), (0, .ref 0)], [.int (-1)], g)) (fun call hc => hs_call1 (args := [.int x1]) (rest := []) rfl rfl rfl hX (by decide) hc) ?_
  refine hs_n 5 (S2 := (314, [(3, .int 0), (2, .ref 170), (1, .ref 96), (0, .ref 0)], [.int 1, .ref 0, .ref 170, .int (-1)], g)) (fun _ => rfl) ?_
  refine hm_bo_go (S2 := (315, [(3, .int 0), (2, .ref 170), (1, .ref 96), (0, .ref 0)], [.int x1, .ref 170, .int (-1)], g)) (fun _ => hs_ald rfl h0 rfl (by decide) rfl) ?_
  refine hs_bo (hm_ev_up (by decide) (pz_cnt2_lo x1 hM h2)) (S2 := (318, [(3, .int 0), (2, .ref 170), (1, .ref 96), (0, .ref 0)], [.int (-1), .int (-1)], g)) (fun call hc => hs_call1 (args := [.int x1]) (rest := [.int (-1)]) rfl rfl rfl hM (by decide) hc) ?_
  refine hs_n 1 (S2 := (323, [(3, .int 0), (2, .ref 170), (1, .ref 96), (0, .ref 0)], [], g)) (fun _ => rfl) ?_
  exact kk
set_option maxRecDepth 100000 in
theorem pz_k8_hi {g : hm_G} {x0 x1 x2 x3 x4 x5 : Int32} (hF : pz_F g (.inl (.int, [.int x0, .int x1, .int x2, .int x3, .int x4, .int x5]))) (hc : g.2 = (1535, 815634)) (h1 : ¬ x1 < 0) (h : ¬ x1 ≤ 12) (h3 : ¬ x1.toInt64 < 0) (h2 : 12 < x1.toInt64) : pz_win (33, [(3, .int 0), (2, .ref 170), (1, .ref 96), (0, .ref 0)], [.int 8], g) := by
  obtain ⟨h0, hX, hT, hB, hM, hC⟩ := hF
  refine pz_on (fun gf out kk => ?_) (pz_off h0 (by rw [hc]; decide) (by rw [hc]; decide))
  refine hs_n 1 (S2 := (300, [(3, .int 0), (2, .ref 170), (1, .ref 96), (0, .ref 0)], [], g)) (fun _ => rfl) ?_
  refine hs_n 5 (S2 := (305, [(3, .int 0), (2, .ref 170), (1, .ref 96), (0, .ref 0)], [.int 1, .ref 0, .ref 96], g)) (fun _ => rfl) ?_
  refine hm_bo_go (S2 := (306, [(3, .int 0), (2, .ref 170), (1, .ref 96), (0, .ref 0)], [.int x1, .ref 96], g)) (fun _ => hs_ald rfl h0 rfl (by decide) rfl) ?_
  refine hs_bo (hm_ev_up (by decide) (pz_cnt1_hi x1 hX h1 h)) (S2 := (309, [(3, .int 0), (2, .ref 170), (1, .ref 96), (0, .ref 0)], [.int (-1)], g)) (fun call hc => hs_call1 (args := [.int x1]) (rest := []) rfl rfl rfl hX (by decide) hc) ?_
  refine hs_n 5 (S2 := (314, [(3, .int 0), (2, .ref 170), (1, .ref 96), (0, .ref 0)], [.int 1, .ref 0, .ref 170, .int (-1)], g)) (fun _ => rfl) ?_
  refine hm_bo_go (S2 := (315, [(3, .int 0), (2, .ref 170), (1, .ref 96), (0, .ref 0)], [.int x1, .ref 170, .int (-1)], g)) (fun _ => hs_ald rfl h0 rfl (by decide) rfl) ?_
  refine hs_bo (hm_ev_up (by decide) (pz_cnt2_hi x1 hM h3 h2)) (S2 := (318, [(3, .int 0), (2, .ref 170), (1, .ref 96), (0, .ref 0)], [.int (-1), .int (-1)], g)) (fun call hc => hs_call1 (args := [.int x1]) (rest := [.int (-1)]) rfl rfl rfl hM (by decide) hc) ?_
  refine hs_n 1 (S2 := (323, [(3, .int 0), (2, .ref 170), (1, .ref 96), (0, .ref 0)], [], g)) (fun _ => rfl) ?_
  exact kk
set_option maxRecDepth 100000 in
theorem pz_k8_ok {g : hm_G} {x0 x1 x2 x3 x4 x5 : Int32} (hF : pz_F g (.inl (.int, [.int x0, .int x1, .int x2, .int x3, .int x4, .int x5]))) (hc : g.2 = (1535, 815634)) (h1 : ¬ x1 < 0) (h : x1 ≤ 12) (h3 : ¬ x1.toInt64 < 0) (h2 : ¬ 12 < x1.toInt64) : pz_win (33, [(3, .int 0), (2, .ref 170), (1, .ref 96), (0, .ref 0)], [.int 8], g) := by
  obtain ⟨h0, hX, hT, hB, hM, hC⟩ := hF
  refine pz_on (fun gf out kk => ?_) (pz_off h0 (by rw [hc]; decide) (by rw [hc]; decide))
  refine hs_n 1 (S2 := (300, [(3, .int 0), (2, .ref 170), (1, .ref 96), (0, .ref 0)], [], g)) (fun _ => rfl) ?_
  refine hs_n 5 (S2 := (305, [(3, .int 0), (2, .ref 170), (1, .ref 96), (0, .ref 0)], [.int 1, .ref 0, .ref 96], g)) (fun _ => rfl) ?_
  refine hm_bo_go (S2 := (306, [(3, .int 0), (2, .ref 170), (1, .ref 96), (0, .ref 0)], [.int x1, .ref 96], g)) (fun _ => hs_ald rfl h0 rfl (by decide) rfl) ?_
  refine hs_bo (hm_ev_up (by decide) (pz_cnt1_ok x1 hX h1 h)) (S2 := (309, [(3, .int 0), (2, .ref 170), (1, .ref 96), (0, .ref 0)], [.int 0], g)) (fun call hc => hs_call1 (args := [.int x1]) (rest := []) rfl rfl rfl hX (by decide) hc) ?_
  refine hs_n 5 (S2 := (314, [(3, .int 0), (2, .ref 170), (1, .ref 96), (0, .ref 0)], [.int 1, .ref 0, .ref 170, .int 0], g)) (fun _ => rfl) ?_
  refine hm_bo_go (S2 := (315, [(3, .int 0), (2, .ref 170), (1, .ref 96), (0, .ref 0)], [.int x1, .ref 170, .int 0], g)) (fun _ => hs_ald rfl h0 rfl (by decide) rfl) ?_
  refine hs_bo (hm_ev_up (by decide) (pz_cnt2_ok x1 hM h3 h2)) (S2 := (318, [(3, .int 0), (2, .ref 170), (1, .ref 96), (0, .ref 0)], [.int 0, .int 0], g)) (fun call hc => hs_call1 (args := [.int x1]) (rest := [.int 0]) rfl rfl rfl hM (by decide) hc) ?_
  refine hs_n 1 (S2 := (323, [(3, .int 0), (2, .ref 170), (1, .ref 96), (0, .ref 0)], [], g)) (fun _ => rfl) ?_
  exact kk
set_option maxRecDepth 100000 in
theorem pz_k1_lo {g : hm_G} {x0 x1 x2 x3 x4 x5 : Int32} (hF : pz_F g (.inl (.int, [.int x0, .int x1, .int x2, .int x3, .int x4, .int x5]))) (hc : g.2 = (1535, 815634)) (h : x1 < 0) (h2 : x1.toInt64 < 0) : pz_win (33, [(3, .int 0), (2, .ref 170), (1, .ref 96), (0, .ref 0)], [.int 1], g) := by
  obtain ⟨h0, hX, hT, hB, hM, hC⟩ := hF
  refine pz_on (fun gf out kk => ?_) (pz_off h0 (by rw [hc]; decide) (by rw [hc]; decide))
  refine hs_n 1 (S2 := (147, [(3, .int 0), (2, .ref 170), (1, .ref 96), (0, .ref 0)], [], g)) (fun _ => rfl) ?_
  refine hs_n 5 (S2 := (152, [(3, .int 0), (2, .ref 170), (1, .ref 96), (0, .ref 0)], [.int 1, .ref 0, .ref 96], g)) (fun _ => rfl) ?_
  refine hm_bo_go (S2 := (153, [(3, .int 0), (2, .ref 170), (1, .ref 96), (0, .ref 0)], [.int x1, .ref 96], g)) (fun _ => hs_ald rfl h0 rfl (by decide) rfl) ?_
  refine hs_bo (hm_ev_up (by decide) (pz_end1_lo x1 hX hT h)) (S2 := (156, [(3, .int 0), (2, .ref 170), (1, .ref 96), (0, .ref 0)], [.int (-1)], g)) (fun call hc => hs_call1 (args := [.int x1]) (rest := []) rfl rfl rfl hX (by decide) hc) ?_
  refine hs_n 5 (S2 := (161, [(3, .int 0), (2, .ref 170), (1, .ref 96), (0, .ref 0)], [.int 1, .ref 0, .ref 170, .int (-1)], g)) (fun _ => rfl) ?_
  refine hm_bo_go (S2 := (162, [(3, .int 0), (2, .ref 170), (1, .ref 96), (0, .ref 0)], [.int x1, .ref 170, .int (-1)], g)) (fun _ => hs_ald rfl h0 rfl (by decide) rfl) ?_
  refine hs_bo (hm_ev_up (by decide) (pz_end2_lo x1 hM h2)) (S2 := (165, [(3, .int 0), (2, .ref 170), (1, .ref 96), (0, .ref 0)], [.int (-1), .int (-1)], g)) (fun call hc => hs_call1 (args := [.int x1]) (rest := [.int (-1)]) rfl rfl rfl hM (by decide) hc) ?_
  refine hs_n 1 (S2 := (323, [(3, .int 0), (2, .ref 170), (1, .ref 96), (0, .ref 0)], [], g)) (fun _ => rfl) ?_
  exact kk
set_option maxRecDepth 100000 in
theorem pz_k1_hi {g : hm_G} {x0 x1 x2 x3 x4 x5 : Int32} (hF : pz_F g (.inl (.int, [.int x0, .int x1, .int x2, .int x3, .int x4, .int x5]))) (hc : g.2 = (1535, 815634)) (h1 : ¬ x1 < 0) (h : ¬ x1 ≤ 0) (h3 : ¬ x1.toInt64 < 0) (h2 : 0 < x1.toInt64) : pz_win (33, [(3, .int 0), (2, .ref 170), (1, .ref 96), (0, .ref 0)], [.int 1], g) := by
  obtain ⟨h0, hX, hT, hB, hM, hC⟩ := hF
  refine pz_on (fun gf out kk => ?_) (pz_off h0 (by rw [hc]; decide) (by rw [hc]; decide))
  refine hs_n 1 (S2 := (147, [(3, .int 0), (2, .ref 170), (1, .ref 96), (0, .ref 0)], [], g)) (fun _ => rfl) ?_
  refine hs_n 5 (S2 := (152, [(3, .int 0), (2, .ref 170), (1, .ref 96), (0, .ref 0)], [.int 1, .ref 0, .ref 96], g)) (fun _ => rfl) ?_
  refine hm_bo_go (S2 := (153, [(3, .int 0), (2, .ref 170), (1, .ref 96), (0, .ref 0)], [.int x1, .ref 96], g)) (fun _ => hs_ald rfl h0 rfl (by decide) rfl) ?_
  refine hs_bo (hm_ev_up (by decide) (pz_end1_hi x1 hX hT h1 h)) (S2 := (156, [(3, .int 0), (2, .ref 170), (1, .ref 96), (0, .ref 0)], [.int (-1)], g)) (fun call hc => hs_call1 (args := [.int x1]) (rest := []) rfl rfl rfl hX (by decide) hc) ?_
  refine hs_n 5 (S2 := (161, [(3, .int 0), (2, .ref 170), (1, .ref 96), (0, .ref 0)], [.int 1, .ref 0, .ref 170, .int (-1)], g)) (fun _ => rfl) ?_
  refine hm_bo_go (S2 := (162, [(3, .int 0), (2, .ref 170), (1, .ref 96), (0, .ref 0)], [.int x1, .ref 170, .int (-1)], g)) (fun _ => hs_ald rfl h0 rfl (by decide) rfl) ?_
  refine hs_bo (hm_ev_up (by decide) (pz_end2_hi x1 hM h3 h2)) (S2 := (165, [(3, .int 0), (2, .ref 170), (1, .ref 96), (0, .ref 0)], [.int (-1), .int (-1)], g)) (fun call hc => hs_call1 (args := [.int x1]) (rest := [.int (-1)]) rfl rfl rfl hM (by decide) hc) ?_
  refine hs_n 1 (S2 := (323, [(3, .int 0), (2, .ref 170), (1, .ref 96), (0, .ref 0)], [], g)) (fun _ => rfl) ?_
  exact kk
set_option maxRecDepth 100000 in
theorem pz_k7 {g : hm_G} {x0 x1 x2 x3 x4 x5 : Int32} (hF : pz_F g (.inl (.int, [.int x0, .int x1, .int x2, .int x3, .int x4, .int x5]))) (hc : g.2 = (1535, 815634)) : pz_win (33, [(3, .int 0), (2, .ref 170), (1, .ref 96), (0, .ref 0)], [.int 7], g) := by
  obtain ⟨h0, hX, hT, hB, hM, hC⟩ := hF
  let g1 : hm_G := (g.1.set 97 (pz_t 0), g.2)
  have h01 : g1.1[0]? = some (.inl (.int, [.int x0, .int x1, .int x2, .int x3, .int x4, .int x5])) := (List.getElem?_set_ne (by decide)).trans h0
  have hM1 : g1.1[170]? = some pz_M := (List.getElem?_set_ne (by decide)).trans hM
  let g2 : hm_G := (g1.1.set 170 pz_M, g1.2)
  have h02 : g2.1[0]? = some (.inl (.int, [.int x0, .int x1, .int x2, .int x3, .int x4, .int x5])) := (List.getElem?_set_ne (by decide)).trans h01
  refine pz_on (fun gf out kk => ?_) (pz_off h02 (by show g.2.1 ≤ _; rw [hc]; decide) (by show g.2.2 ≤ _; rw [hc]; decide))
  refine hs_n 1 (S2 := (276, [(3, .int 0), (2, .ref 170), (1, .ref 96), (0, .ref 0)], [], g)) (fun _ => rfl) ?_
  refine hs_n 5 (S2 := (281, [(3, .int 0), (2, .ref 170), (1, .ref 96), (0, .ref 0)], [.int 1, .ref 0, .ref 96], g)) (fun _ => rfl) ?_
  refine hm_bo_go (S2 := (282, [(3, .int 0), (2, .ref 170), (1, .ref 96), (0, .ref 0)], [.int x1, .ref 96], g)) (fun _ => hs_ald rfl h0 rfl (by decide) rfl) ?_
  refine hs_bo (hm_ev_up (by decide) (pz_look1 x1 hX hT)) (S2 := (285, [(3, .int 0), (2, .ref 170), (1, .ref 96), (0, .ref 0)], [.long 1099511627776], g1)) (fun call hc => hs_call1 (args := [.int x1]) (rest := []) rfl rfl rfl hX (by decide) hc) ?_
  refine hs_n 5 (S2 := (290, [(3, .int 0), (2, .ref 170), (1, .ref 96), (0, .ref 0)], [.int 1, .ref 0, .ref 170, .long 1099511627776], g1)) (fun _ => rfl) ?_
  refine hm_bo_go (S2 := (291, [(3, .int 0), (2, .ref 170), (1, .ref 96), (0, .ref 0)], [.int x1, .ref 170, .long 1099511627776], g1)) (fun _ => hs_ald rfl h01 rfl (by decide) rfl) ?_
  refine hs_bo (hm_ev_up (by decide) (pz_look2 x1 hM1)) (S2 := (294, [(3, .int 0), (2, .ref 170), (1, .ref 96), (0, .ref 0)], [.long 1099511627776, .long 1099511627776], g2)) (fun call hc => hs_call1 (args := [.int x1]) (rest := [.long 1099511627776]) rfl rfl rfl hM1 (by decide) hc) ?_
  refine hs_n 2 (S2 := (323, [(3, .int 0), (2, .ref 170), (1, .ref 96), (0, .ref 0)], [], g2)) (fun _ => rfl) ?_
  exact kk
set_option maxRecDepth 100000 in
theorem pz_k0 {g : hm_G} {x0 x1 x2 x3 x4 x5 : Int32} (hF : pz_F g (.inl (.int, [.int x0, .int x1, .int x2, .int x3, .int x4, .int x5]))) (hc : g.2 = (1535, 815634)) : pz_win (33, [(3, .int 0), (2, .ref 170), (1, .ref 96), (0, .ref 0)], [.int 0], g) := by
  obtain ⟨h0, hX, hT, hB, hM, hC⟩ := hF
  obtain ⟨g1, F1, E1⟩ := pz_feed1 x1 x2 x3 x4 x5 hX ⟨hT, hB⟩
  have h01 : g1.1[0]? = some (.inl (.int, [.int x0, .int x1, .int x2, .int x3, .int x4, .int x5])) := (F1.2.2 0 (by decide)).trans h0
  have hM1 : g1.1[170]? = some pz_M := (F1.2.2 170 (by decide)).trans hM
  obtain ⟨lc, hC1, hC2⟩ := hC
  obtain ⟨g2, h02, c2, E2⟩ := pz_feed2 x1 x2 x3 x4 x5 hM1 ⟨lc, (F1.2.2 171 (by decide)).trans hC1, hC2⟩ h01
  refine pz_on (fun gf out kk => ?_) (pz_off h02 (by rw [c2, F1.2.1, hc]; decide) (by rw [c2, F1.2.1, hc]; decide))
  refine hs_n 1 (S2 := (84, [(3, .int 0), (2, .ref 170), (1, .ref 96), (0, .ref 0)], [], g)) (fun _ => rfl) ?_
  refine hs_n 5 (S2 := (89, [(3, .int 0), (2, .ref 170), (1, .ref 96), (0, .ref 0)], [.int 1, .ref 0, .ref 96], g)) (fun _ => rfl) ?_
  refine hm_bo_go (S2 := (90, [(3, .int 0), (2, .ref 170), (1, .ref 96), (0, .ref 0)], [.int x1, .ref 96], g)) (fun _ => hs_ald rfl h0 rfl (by decide) rfl) ?_
  refine hs_n 4 (S2 := (94, [(3, .int 0), (2, .ref 170), (1, .ref 96), (0, .ref 0)], [.int 2, .ref 0, .int x1, .ref 96], g)) (fun _ => rfl) ?_
  refine hm_bo_go (S2 := (95, [(3, .int 0), (2, .ref 170), (1, .ref 96), (0, .ref 0)], [.int x2, .int x1, .ref 96], g)) (fun _ => hs_ald rfl h0 rfl (by decide) rfl) ?_
  refine hs_n 4 (S2 := (99, [(3, .int 0), (2, .ref 170), (1, .ref 96), (0, .ref 0)], [.int 3, .ref 0, .int x2, .int x1, .ref 96], g)) (fun _ => rfl) ?_
  refine hm_bo_go (S2 := (100, [(3, .int 0), (2, .ref 170), (1, .ref 96), (0, .ref 0)], [.int x3, .int x2, .int x1, .ref 96], g)) (fun _ => hs_ald rfl h0 rfl (by decide) rfl) ?_
  refine hs_n 4 (S2 := (104, [(3, .int 0), (2, .ref 170), (1, .ref 96), (0, .ref 0)], [.int 4, .ref 0, .int x3, .int x2, .int x1, .ref 96], g)) (fun _ => rfl) ?_
  refine hm_bo_go (S2 := (105, [(3, .int 0), (2, .ref 170), (1, .ref 96), (0, .ref 0)], [.int x4, .int x3, .int x2, .int x1, .ref 96], g)) (fun _ => hs_ald rfl h0 rfl (by decide) rfl) ?_
  refine hs_n 4 (S2 := (109, [(3, .int 0), (2, .ref 170), (1, .ref 96), (0, .ref 0)], [.int 5, .ref 0, .int x4, .int x3, .int x2, .int x1, .ref 96], g)) (fun _ => rfl) ?_
  refine hm_bo_go (S2 := (110, [(3, .int 0), (2, .ref 170), (1, .ref 96), (0, .ref 0)], [.int x5, .int x4, .int x3, .int x2, .int x1, .ref 96], g)) (fun _ => hs_ald rfl h0 rfl (by decide) rfl) ?_
  refine hs_bo (hm_ev_up (by decide) (E1)) (S2 := (113, [(3, .int 0), (2, .ref 170), (1, .ref 96), (0, .ref 0)], [.int 20], g1)) (fun call hc => hs_call1 (args := [.int x1, .int x2, .int x3, .int x4, .int x5]) (rest := []) rfl rfl rfl hX (by decide) hc) ?_
  refine hs_n 5 (S2 := (118, [(3, .int 0), (2, .ref 170), (1, .ref 96), (0, .ref 0)], [.int 1, .ref 0, .ref 170, .int 20], g1)) (fun _ => rfl) ?_
  refine hm_bo_go (S2 := (119, [(3, .int 0), (2, .ref 170), (1, .ref 96), (0, .ref 0)], [.int x1, .ref 170, .int 20], g1)) (fun _ => hs_ald rfl h01 rfl (by decide) rfl) ?_
  refine hs_n 4 (S2 := (123, [(3, .int 0), (2, .ref 170), (1, .ref 96), (0, .ref 0)], [.int 2, .ref 0, .int x1, .ref 170, .int 20], g1)) (fun _ => rfl) ?_
  refine hm_bo_go (S2 := (124, [(3, .int 0), (2, .ref 170), (1, .ref 96), (0, .ref 0)], [.int x2, .int x1, .ref 170, .int 20], g1)) (fun _ => hs_ald rfl h01 rfl (by decide) rfl) ?_
  refine hs_n 4 (S2 := (128, [(3, .int 0), (2, .ref 170), (1, .ref 96), (0, .ref 0)], [.int 3, .ref 0, .int x2, .int x1, .ref 170, .int 20], g1)) (fun _ => rfl) ?_
  refine hm_bo_go (S2 := (129, [(3, .int 0), (2, .ref 170), (1, .ref 96), (0, .ref 0)], [.int x3, .int x2, .int x1, .ref 170, .int 20], g1)) (fun _ => hs_ald rfl h01 rfl (by decide) rfl) ?_
  refine hs_n 4 (S2 := (133, [(3, .int 0), (2, .ref 170), (1, .ref 96), (0, .ref 0)], [.int 4, .ref 0, .int x3, .int x2, .int x1, .ref 170, .int 20], g1)) (fun _ => rfl) ?_
  refine hm_bo_go (S2 := (134, [(3, .int 0), (2, .ref 170), (1, .ref 96), (0, .ref 0)], [.int x4, .int x3, .int x2, .int x1, .ref 170, .int 20], g1)) (fun _ => hs_ald rfl h01 rfl (by decide) rfl) ?_
  refine hs_n 4 (S2 := (138, [(3, .int 0), (2, .ref 170), (1, .ref 96), (0, .ref 0)], [.int 5, .ref 0, .int x4, .int x3, .int x2, .int x1, .ref 170, .int 20], g1)) (fun _ => rfl) ?_
  refine hm_bo_go (S2 := (139, [(3, .int 0), (2, .ref 170), (1, .ref 96), (0, .ref 0)], [.int x5, .int x4, .int x3, .int x2, .int x1, .ref 170, .int 20], g1)) (fun _ => hs_ald rfl h01 rfl (by decide) rfl) ?_
  refine hs_bo (hm_ev_up (by decide) (E2)) (S2 := (142, [(3, .int 0), (2, .ref 170), (1, .ref 96), (0, .ref 0)], [.int 20, .int 20], g2)) (fun call hc => hs_call1 (args := [.int x1, .int x2, .int x3, .int x4, .int x5]) (rest := [.int 20]) rfl rfl rfl hM1 (by decide) hc) ?_
  refine hs_n 1 (S2 := (323, [(3, .int 0), (2, .ref 170), (1, .ref 96), (0, .ref 0)], [], g2)) (fun _ => rfl) ?_
  exact kk
set_option maxRecDepth 100000 in
theorem pz_k2 {g : hm_G} {x0 x1 x2 x3 x4 x5 : Int32} (hF : pz_F g (.inl (.int, [.int x0, .int x1, .int x2, .int x3, .int x4, .int x5]))) (hc : g.2 = (1535, 815634)) (hM2 : ∃ (g2 g3 : hm_G) (v : Int32), hm_ev tb_T tb_pg 30 19 [.ref 96] g g2 (some (some (.int v))) ∧ hm_ev tb_T tb_pg 30 121 [.ref 170] g2 g3 (some (some (.int v))) ∧ g3.2.1 ≤ 600002 ∧ g3.2.2 ≤ 7302232 ∧ g3.1[0]? = some (.inl (.int, [.int x0, .int x1, .int x2, .int x3, .int x4, .int x5])) ∧ g2.1[170]? = some pz_M ∧ g2.1[0]? = some (.inl (.int, [.int x0, .int x1, .int x2, .int x3, .int x4, .int x5]))) : pz_win (33, [(3, .int 0), (2, .ref 170), (1, .ref 96), (0, .ref 0)], [.int 2], g) := by
  obtain ⟨h0, hX, hT, hB, hM, hC⟩ := hF
  obtain ⟨g2, g3, v, e1, e2, c1, c2, h03, hM3, h02⟩ := hM2
  refine pz_on (fun gf out kk => ?_) (pz_off h03 c1 c2)
  refine hs_n 1 (S2 := (170, [(3, .int 0), (2, .ref 170), (1, .ref 96), (0, .ref 0)], [], g)) (fun _ => rfl) ?_
  refine hs_n 1 (S2 := (171, [(3, .int 0), (2, .ref 170), (1, .ref 96), (0, .ref 0)], [.ref 96], g)) (fun _ => rfl) ?_
  refine hs_bo (hm_ev_up (by decide) (e1)) (S2 := (174, [(3, .int 0), (2, .ref 170), (1, .ref 96), (0, .ref 0)], [.int v], g2)) (fun call hc => hs_call1 (args := []) (rest := []) rfl rfl rfl hX (by decide) hc) ?_
  refine hs_n 1 (S2 := (175, [(3, .int 0), (2, .ref 170), (1, .ref 96), (0, .ref 0)], [.ref 170, .int v], g2)) (fun _ => rfl) ?_
  refine hs_bo (hm_ev_up (by decide) (e2)) (S2 := (178, [(3, .int 0), (2, .ref 170), (1, .ref 96), (0, .ref 0)], [.int v, .int v], g3)) (fun call hc => hs_call1 (args := []) (rest := [.int v]) rfl rfl rfl hM3 (by simp [Value.category]) hc) ?_
  refine hm_bo_go (S2 := (323, [(3, .int 0), (2, .ref 170), (1, .ref 96), (0, .ref 0)], [], g3)) (fun _ => hs_if2 (b := true) rfl rfl (decide_eq_true rfl)) ?_
  exact kk
set_option maxRecDepth 100000 in
theorem pz_k3 {g : hm_G} {x0 x1 x2 x3 x4 x5 : Int32} (hF : pz_F g (.inl (.int, [.int x0, .int x1, .int x2, .int x3, .int x4, .int x5]))) (hc : g.2 = (1535, 815634)) (hM2 : ∃ (g2 g3 : hm_G) (v : Int32), hm_ev tb_T tb_pg 30 80 [.ref 96] g g2 (some (some (.int v))) ∧ hm_ev tb_T tb_pg 30 160 [.ref 170] g2 g3 (some (some (.int v))) ∧ g3.2.1 ≤ 600002 ∧ g3.2.2 ≤ 7302232 ∧ g3.1[0]? = some (.inl (.int, [.int x0, .int x1, .int x2, .int x3, .int x4, .int x5])) ∧ g2.1[170]? = some pz_M ∧ g2.1[0]? = some (.inl (.int, [.int x0, .int x1, .int x2, .int x3, .int x4, .int x5]))) : pz_win (33, [(3, .int 0), (2, .ref 170), (1, .ref 96), (0, .ref 0)], [.int 3], g) := by
  obtain ⟨h0, hX, hT, hB, hM, hC⟩ := hF
  obtain ⟨g2, g3, v, e1, e2, c1, c2, h03, hM3, h02⟩ := hM2
  refine pz_on (fun gf out kk => ?_) (pz_off h03 c1 c2)
  refine hs_n 1 (S2 := (183, [(3, .int 0), (2, .ref 170), (1, .ref 96), (0, .ref 0)], [], g)) (fun _ => rfl) ?_
  refine hs_n 1 (S2 := (184, [(3, .int 0), (2, .ref 170), (1, .ref 96), (0, .ref 0)], [.ref 96], g)) (fun _ => rfl) ?_
  refine hs_bo (hm_ev_up (by decide) (e1)) (S2 := (187, [(3, .int 0), (2, .ref 170), (1, .ref 96), (0, .ref 0)], [.int v], g2)) (fun call hc => hs_call1 (args := []) (rest := []) rfl rfl rfl hX (by decide) hc) ?_
  refine hs_n 1 (S2 := (188, [(3, .int 0), (2, .ref 170), (1, .ref 96), (0, .ref 0)], [.ref 170, .int v], g2)) (fun _ => rfl) ?_
  refine hs_bo (hm_ev_up (by decide) (e2)) (S2 := (191, [(3, .int 0), (2, .ref 170), (1, .ref 96), (0, .ref 0)], [.int v, .int v], g3)) (fun call hc => hs_call1 (args := []) (rest := [.int v]) rfl rfl rfl hM3 (by simp [Value.category]) hc) ?_
  refine hm_bo_go (S2 := (323, [(3, .int 0), (2, .ref 170), (1, .ref 96), (0, .ref 0)], [], g3)) (fun _ => hs_if2 (b := true) rfl rfl (decide_eq_true rfl)) ?_
  exact kk
set_option maxRecDepth 100000 in
theorem pz_k1_eq {g : hm_G} {x0 x1 x2 x3 x4 x5 : Int32} (hF : pz_F g (.inl (.int, [.int x0, .int x1, .int x2, .int x3, .int x4, .int x5]))) (hc : g.2 = (1535, 815634)) (hM2 : ∃ (g2 g3 : hm_G) (v : Int32), hm_ev tb_T tb_pg 30 18 [.ref 96, .int x1] g g2 (some (some (.int v))) ∧ hm_ev tb_T tb_pg 30 119 [.ref 170, .int x1] g2 g3 (some (some (.int v))) ∧ g3.2.1 ≤ 600002 ∧ g3.2.2 ≤ 7302232 ∧ g3.1[0]? = some (.inl (.int, [.int x0, .int x1, .int x2, .int x3, .int x4, .int x5])) ∧ g2.1[170]? = some pz_M ∧ g2.1[0]? = some (.inl (.int, [.int x0, .int x1, .int x2, .int x3, .int x4, .int x5]))) : pz_win (33, [(3, .int 0), (2, .ref 170), (1, .ref 96), (0, .ref 0)], [.int 1], g) := by
  obtain ⟨h0, hX, hT, hB, hM, hC⟩ := hF
  obtain ⟨g2, g3, v, e1, e2, c1, c2, h03, hM3, h02⟩ := hM2
  refine pz_on (fun gf out kk => ?_) (pz_off h03 c1 c2)
  refine hs_n 1 (S2 := (147, [(3, .int 0), (2, .ref 170), (1, .ref 96), (0, .ref 0)], [], g)) (fun _ => rfl) ?_
  refine hs_n 5 (S2 := (152, [(3, .int 0), (2, .ref 170), (1, .ref 96), (0, .ref 0)], [.int 1, .ref 0, .ref 96], g)) (fun _ => rfl) ?_
  refine hm_bo_go (S2 := (153, [(3, .int 0), (2, .ref 170), (1, .ref 96), (0, .ref 0)], [.int x1, .ref 96], g)) (fun _ => hs_ald rfl h0 rfl (by decide) rfl) ?_
  refine hs_bo (hm_ev_up (by decide) (e1)) (S2 := (156, [(3, .int 0), (2, .ref 170), (1, .ref 96), (0, .ref 0)], [.int v], g2)) (fun call hc => hs_call1 (args := [.int x1]) (rest := []) rfl rfl rfl hX (by decide) hc) ?_
  refine hs_n 5 (S2 := (161, [(3, .int 0), (2, .ref 170), (1, .ref 96), (0, .ref 0)], [.int 1, .ref 0, .ref 170, .int v], g2)) (fun _ => rfl) ?_
  refine hm_bo_go (S2 := (162, [(3, .int 0), (2, .ref 170), (1, .ref 96), (0, .ref 0)], [.int x1, .ref 170, .int v], g2)) (fun _ => hs_ald rfl h02 rfl (by decide) rfl) ?_
  refine hs_bo (hm_ev_up (by decide) (e2)) (S2 := (165, [(3, .int 0), (2, .ref 170), (1, .ref 96), (0, .ref 0)], [.int v, .int v], g3)) (fun call hc => hs_call1 (args := [.int x1]) (rest := [.int v]) rfl rfl rfl hM3 (by simp [Value.category]) hc) ?_
  refine hm_bo_go (S2 := (323, [(3, .int 0), (2, .ref 170), (1, .ref 96), (0, .ref 0)], [], g3)) (fun _ => hs_if2 (b := true) rfl rfl (decide_eq_true rfl)) ?_
  exact kk
set_option maxRecDepth 100000 in
theorem pz_kd {g : hm_G} {x0 x1 x2 x3 x4 x5 v : Int32} (hF : pz_F g (.inl (.int, [.int x0, .int x1, .int x2, .int x3, .int x4, .int x5]))) (hc : g.2 = (1535, 815634)) (hv : v.toInt < 0 ∨ 8 < v.toInt) : pz_win (33, [(3, .int 0), (2, .ref 170), (1, .ref 96), (0, .ref 0)], [.int v], g) := by
  refine pz_on (fun gf out kk => ?_) (pz_off hF.1 (by rw [hc]; decide) (by rw [hc]; decide))
  exact hm_bo_go (fun _ => hs_tswd rfl hv rfl) kk
