/-! A first call on a fresh object: what stands there, and the methods along the one way that they go. -/
def pz_X : hm_E := .inr (.inl (7, [.ref 97, .ref 99, .ref 115, .int 0, .ref 131, .ref 142]))
def pz_t (s : Int32) : hm_E := .inr (.inl (4, [.ref 98, .int s]))
def pz_M : hm_E := .inr (.inl (9, [.ref 171, .int 0, .int 0, .int 0, .int 0, .int 0, .int 0, .int 0, .int 0, .ref 172, .ref 173, .ref 174, .ref 175, .ref 176, .int 0, .int 0, .int 0, .ref 177, .ref 186, .null, .int 0, .int 0, .long 0, .long 0, .long 0, .long 0, .long 0, .ref 195, .ref 196, .ref 197, .ref 198, .ref 199, .ref 200, .ref 201, .ref 202, .int 0, .int 0, .int 0, .ref 203, .ref 204, .ref 205, .ref 206, .ref 207, .ref 208, .ref 209, .ref 210, .ref 211, .ref 212, .ref 219, .ref 920, .ref 1621, .ref 1630, .int 0, .int 0, .int 0, .int 0]))
/-- what the methods look at -/
def pz_F (g : hm_G) (E : hm_E) : Prop := g.1[0]? = some E ∧ g.1[96]? = some pz_X ∧ g.1[97]? = some (pz_t 0) ∧ (∃ l, g.1[98]? = some (.inl (.byte, l)) ∧ l.length = 2000) ∧ g.1[170]? = some pz_M ∧ (∃ l, g.1[171]? = some (.inl (.byte, l)) ∧ l.length = 2000)
set_option maxRecDepth 100000 in
theorem pz_run1 {g : hm_G} (n : Int32) (hX : g.1[96]? = some pz_X) : hm_ev tb_T tb_pg 1 81 [.ref 96, .int n] g g (some (some (.int (-2)))) := by
  refine hm_ev_of (d := 0) (M := tb_M81) rfl (Nat.le_of_ble_eq_true rfl) ?_
  show hm_bo tb_T tb_pg 0 tb_M81 (0, [(0, .ref 96), (1, .int n)], [], g) _ _
  refine hs_n 1 (S2 := (1, [(0, .ref 96), (1, .int n)], [.ref 96], g)) (fun _ => rfl) ?_
  refine hm_bo_go (S2 := (4, [(0, .ref 96), (1, .int n)], [.int 0], g)) (fun _ => hs_get rfl rfl hX rfl) ?_
  refine hs_n 2 (S2 := (9, [(0, .ref 96), (1, .int n)], [.int (-2)], g)) (fun _ => rfl) ?_
  exact hm_bo_end (fun _ => rfl)
set_option maxRecDepth 100000 in
theorem pz_run2 {g : hm_G} (n : Int32) (hM : g.1[170]? = some pz_M) : hm_ev tb_T tb_pg 1 162 [.ref 170, .int n] g g (some (some (.int (-2)))) := by
  refine hm_ev_of (d := 0) (M := tb_M162) rfl (Nat.le_of_ble_eq_true rfl) ?_
  show hm_bo tb_T tb_pg 0 tb_M162 (0, [(0, .ref 170), (1, .int n)], [], g) _ _
  refine hs_n 1 (S2 := (1, [(0, .ref 170), (1, .int n)], [.ref 170], g)) (fun _ => rfl) ?_
  refine hm_bo_go (S2 := (4, [(0, .ref 170), (1, .int n)], [.int 0], g)) (fun _ => hs_get rfl rfl hM rfl) ?_
  refine hs_n 2 (S2 := (9, [(0, .ref 170), (1, .int n)], [.int (-2)], g)) (fun _ => rfl) ?_
  exact hm_bo_end (fun _ => rfl)
set_option maxRecDepth 100000 in
theorem pz_give1 {g : hm_G} (n v : Int32) (hX : g.1[96]? = some pz_X) : hm_ev tb_T tb_pg 1 111 [.ref 96, .int n, .int v] g g (some (some (.int (-2)))) := by
  refine hm_ev_of (d := 0) (M := tb_M111) rfl (Nat.le_of_ble_eq_true rfl) ?_
  show hm_bo tb_T tb_pg 0 tb_M111 (0, [(0, .ref 96), (1, .int n), (2, .int v)], [], g) _ _
  refine hs_n 1 (S2 := (1, [(0, .ref 96), (1, .int n), (2, .int v)], [.ref 96], g)) (fun _ => rfl) ?_
  refine hm_bo_go (S2 := (4, [(0, .ref 96), (1, .int n), (2, .int v)], [.int 0], g)) (fun _ => hs_get rfl rfl hX rfl) ?_
  refine hs_n 2 (S2 := (37, [(0, .ref 96), (1, .int n), (2, .int v)], [.int (-2)], g)) (fun _ => rfl) ?_
  exact hm_bo_end (fun _ => rfl)
set_option maxRecDepth 100000 in
theorem pz_give2 {g : hm_G} (n v : Int32) (hM : g.1[170]? = some pz_M) : hm_ev tb_T tb_pg 1 173 [.ref 170, .int n, .int v] g g (some (some (.int (-2)))) := by
  refine hm_ev_of (d := 0) (M := tb_M173) rfl (Nat.le_of_ble_eq_true rfl) ?_
  show hm_bo tb_T tb_pg 0 tb_M173 (0, [(0, .ref 170), (1, .int n), (2, .int v)], [], g) _ _
  refine hs_n 1 (S2 := (1, [(0, .ref 170), (1, .int n), (2, .int v)], [.ref 170], g)) (fun _ => rfl) ?_
  refine hm_bo_go (S2 := (4, [(0, .ref 170), (1, .int n), (2, .int v)], [.int 0], g)) (fun _ => hs_get rfl rfl hM rfl) ?_
  refine hs_n 2 (S2 := (36, [(0, .ref 170), (1, .int n), (2, .int v)], [.int (-2)], g)) (fun _ => rfl) ?_
  exact hm_bo_end (fun _ => rfl)
set_option maxRecDepth 100000 in
theorem pz_take1 {g : hm_G} (n : Int32) (hX : g.1[96]? = some pz_X) : hm_ev tb_T tb_pg 1 112 [.ref 96, .int n] g g (some (some (.long 1099511627776))) := by
  refine hm_ev_of (d := 0) (M := tb_M112) rfl (Nat.le_of_ble_eq_true rfl) ?_
  show hm_bo tb_T tb_pg 0 tb_M112 (0, [(0, .ref 96), (1, .int n)], [], g) _ _
  refine hs_n 1 (S2 := (1, [(0, .ref 96), (1, .int n)], [.ref 96], g)) (fun _ => rfl) ?_
  refine hm_bo_go (S2 := (4, [(0, .ref 96), (1, .int n)], [.int 0], g)) (fun _ => hs_get rfl rfl hX rfl) ?_
  refine hs_n 2 (S2 := (38, [(0, .ref 96), (1, .int n)], [.long 1099511627776], g)) (fun _ => rfl) ?_
  exact hm_bo_end (fun _ => rfl)
set_option maxRecDepth 100000 in
theorem pz_take2 {g : hm_G} (n : Int32) (hM : g.1[170]? = some pz_M) : hm_ev tb_T tb_pg 1 174 [.ref 170, .int n] g g (some (some (.long 1099511627776))) := by
  refine hm_ev_of (d := 0) (M := tb_M174) rfl (Nat.le_of_ble_eq_true rfl) ?_
  show hm_bo tb_T tb_pg 0 tb_M174 (0, [(0, .ref 170), (1, .int n)], [], g) _ _
  refine hs_n 1 (S2 := (1, [(0, .ref 170), (1, .int n)], [.ref 170], g)) (fun _ => rfl) ?_
  refine hm_bo_go (S2 := (4, [(0, .ref 170), (1, .int n)], [.int 0], g)) (fun _ => hs_get rfl rfl hM rfl) ?_
  refine hs_n 2 (S2 := (48, [(0, .ref 170), (1, .int n)], [.long 1099511627776], g)) (fun _ => rfl) ?_
  exact hm_bo_end (fun _ => rfl)
set_option maxRecDepth 100000 in
theorem pz_word {g : hm_G}  (hT : g.1[97]? = some (pz_t 0)) : hm_ev tb_T tb_pg 1 114 [.ref 97] g g (some (some (.long 0))) := by
  refine hm_ev_of (d := 0) (M := tb_M114) rfl (Nat.le_of_ble_eq_true rfl) ?_
  show hm_bo tb_T tb_pg 0 tb_M114 (0, [(0, .ref 97)], [], g) _ _
  refine hs_n 6 (S2 := (6, [(3, .int 0), (1, .long 0), (0, .ref 97)], [.ref 97, .int 0], g)) (fun _ => rfl) ?_
  refine hm_bo_go (S2 := (9, [(3, .int 0), (1, .long 0), (0, .ref 97)], [.int 0, .int 0], g)) (fun _ => hs_get rfl rfl hT rfl) ?_
  refine hs_n 2 (S2 := (50, [(3, .int 0), (1, .long 0), (0, .ref 97)], [.long 0], g)) (fun _ => rfl) ?_
  exact hm_bo_end (fun _ => rfl)
set_option maxRecDepth 100000 in
theorem pz_look1 {g : hm_G} (n : Int32) (hX : g.1[96]? = some pz_X) (hT : g.1[97]? = some (pz_t 0)) : hm_ev tb_T tb_pg 2 113 [.ref 96, .int n] g (g.1.set 97 (pz_t 0), g.2) (some (some (.long 1099511627776))) := by
  refine hm_ev_of (d := 1) (M := tb_M113) rfl (Nat.le_of_ble_eq_true rfl) ?_
  show hm_bo tb_T tb_pg 1 tb_M113 (0, [(0, .ref 96), (1, .int n)], [], g) _ _
  refine hs_n 1 (S2 := (1, [(0, .ref 96), (1, .int n)], [.ref 96], g)) (fun _ => rfl) ?_
  refine hm_bo_go (S2 := (4, [(0, .ref 96), (1, .int n)], [.ref 97], g)) (fun _ => hs_get rfl rfl hX rfl) ?_
  refine hs_bo (pz_word hT) (S2 := (7, [(0, .ref 96), (1, .int n)], [.long 0], g)) (fun call hc => hs_call1 (args := []) (rest := []) rfl rfl rfl hT (by decide) hc) ?_
  refine hs_n 2 (S2 := (9, [(2, .long 0), (0, .ref 96), (1, .int n)], [.ref 96], g)) (fun _ => rfl) ?_
  refine hm_bo_go (S2 := (12, [(2, .long 0), (0, .ref 96), (1, .int n)], [.ref 97], g)) (fun _ => hs_get rfl rfl hX rfl) ?_
  refine hs_n 1 (S2 := (13, [(2, .long 0), (0, .ref 96), (1, .int n)], [.int 0, .ref 97], g)) (fun _ => rfl) ?_
  refine hm_bo_go (S2 := (16, [(2, .long 0), (0, .ref 96), (1, .int n)], [], (g.1.set 97 (.inr (.inl (4, [.ref 98, .int 0]))), g.2))) (fun _ => hs_put (G := tb_T) (ci := 4) (fi := 1) (q := 97) (v := .int 0) (l := [.ref 98, .int 0]) rfl rfl rfl rfl (by decide) hT (by decide) (by decide)) ?_
  have hX' : (g.1.set 97 (.inr (.inl (4, [.ref 98, .int 0]))), g.2).1[96]? = _ := (List.getElem?_set_ne (by decide)).trans hX
  have hT' : (g.1.set 97 (.inr (.inl (4, [.ref 98, .int 0]))), g.2).1[97]? = some (.inr (.inl (4, [.ref 98, .int 0]))) := by show (List.set _ _ _)[_]? = _; rw [List.getElem?_set_self (List.getElem?_eq_some_iff.mp hT).1]
  refine hs_n 1 (S2 := (17, [(2, .long 0), (0, .ref 96), (1, .int n)], [.ref 96], (g.1.set 97 (.inr (.inl (4, [.ref 98, .int 0]))), g.2))) (fun _ => rfl) ?_
  refine hm_bo_go (S2 := (20, [(2, .long 0), (0, .ref 96), (1, .int n)], [.int 0], (g.1.set 97 (.inr (.inl (4, [.ref 98, .int 0]))), g.2))) (fun _ => hs_get rfl rfl hX' rfl) ?_
  refine hs_n 2 (S2 := (37, [(2, .long 0), (0, .ref 96), (1, .int n)], [.long 1099511627776], (g.1.set 97 (.inr (.inl (4, [.ref 98, .int 0]))), g.2))) (fun _ => rfl) ?_
  exact hm_bo_end (fun _ => rfl)
set_option maxRecDepth 100000 in
theorem pz_look2 {g : hm_G} (n : Int32) (hM : g.1[170]? = some pz_M) : hm_ev tb_T tb_pg 1 175 [.ref 170, .int n] g (g.1.set 170 pz_M, g.2) (some (some (.long 1099511627776))) := by
  refine hm_ev_of (d := 0) (M := tb_M175) rfl (Nat.le_of_ble_eq_true rfl) ?_
  show hm_bo tb_T tb_pg 0 tb_M175 (0, [(0, .ref 170), (1, .int n)], [], g) _ _
  refine hs_n 1 (S2 := (1, [(0, .ref 170), (1, .int n)], [.ref 170], g)) (fun _ => rfl) ?_
  refine hm_bo_go (S2 := (4, [(0, .ref 170), (1, .int n)], [.int 0], g)) (fun _ => hs_get rfl rfl hM rfl) ?_
  refine hs_n 3 (S2 := (7, [(2, .int 0), (0, .ref 170), (1, .int n)], [.int 0, .ref 170], g)) (fun _ => rfl) ?_
  refine hm_bo_go (S2 := (10, [(2, .int 0), (0, .ref 170), (1, .int n)], [], (g.1.set 170 (.inr (.inl (9, [.ref 171, .int 0, .int 0, .int 0, .int 0, .int 0, .int 0, .int 0, .int 0, .ref 172, .ref 173, .ref 174, .ref 175, .ref 176, .int 0, .int 0, .int 0, .ref 177, .ref 186, .null, .int 0, .int 0, .long 0, .long 0, .long 0, .long 0, .long 0, .ref 195, .ref 196, .ref 197, .ref 198, .ref 199, .ref 200, .ref 201, .ref 202, .int 0, .int 0, .int 0, .ref 203, .ref 204, .ref 205, .ref 206, .ref 207, .ref 208, .ref 209, .ref 210, .ref 211, .ref 212, .ref 219, .ref 920, .ref 1621, .ref 1630, .int 0, .int 0, .int 0, .int 0]))), g.2))) (fun _ => hs_put (G := tb_T) (ci := 9) (fi := 1) (q := 170) (v := .int 0) (l := [.ref 171, .int 0, .int 0, .int 0, .int 0, .int 0, .int 0, .int 0, .int 0, .ref 172, .ref 173, .ref 174, .ref 175, .ref 176, .int 0, .int 0, .int 0, .ref 177, .ref 186, .null, .int 0, .int 0, .long 0, .long 0, .long 0, .long 0, .long 0, .ref 195, .ref 196, .ref 197, .ref 198, .ref 199, .ref 200, .ref 201, .ref 202, .int 0, .int 0, .int 0, .ref 203, .ref 204, .ref 205, .ref 206, .ref 207, .ref 208, .ref 209, .ref 210, .ref 211, .ref 212, .ref 219, .ref 920, .ref 1621, .ref 1630, .int 0, .int 0, .int 0, .int 0]) rfl rfl rfl rfl (by decide) hM (by decide) (by decide)) ?_
  have hM' : (g.1.set 170 (.inr (.inl (9, [.ref 171, .int 0, .int 0, .int 0, .int 0, .int 0, .int 0, .int 0, .int 0, .ref 172, .ref 173, .ref 174, .ref 175, .ref 176, .int 0, .int 0, .int 0, .ref 177, .ref 186, .null, .int 0, .int 0, .long 0, .long 0, .long 0, .long 0, .long 0, .ref 195, .ref 196, .ref 197, .ref 198, .ref 199, .ref 200, .ref 201, .ref 202, .int 0, .int 0, .int 0, .ref 203, .ref 204, .ref 205, .ref 206, .ref 207, .ref 208, .ref 209, .ref 210, .ref 211, .ref 212, .ref 219, .ref 920, .ref 1621, .ref 1630, .int 0, .int 0, .int 0, .int 0]))), g.2).1[170]? = some (.inr (.inl (9, [.ref 171, .int 0, .int 0, .int 0, .int 0, .int 0, .int 0, .int 0, .int 0, .ref 172, .ref 173, .ref 174, .ref 175, .ref 176, .int 0, .int 0, .int 0, .ref 177, .ref 186, .null, .int 0, .int 0, .long 0, .long 0, .long 0, .long 0, .long 0, .ref 195, .ref 196, .ref 197, .ref 198, .ref 199, .ref 200, .ref 201, .ref 202, .int 0, .int 0, .int 0, .ref 203, .ref 204, .ref 205, .ref 206, .ref 207, .ref 208, .ref 209, .ref 210, .ref 211, .ref 212, .ref 219, .ref 920, .ref 1621, .ref 1630, .int 0, .int 0, .int 0, .int 0]))) := by show (List.set _ _ _)[_]? = _; rw [List.getElem?_set_self (List.getElem?_eq_some_iff.mp hM).1]
  refine hs_n 1 (S2 := (11, [(2, .int 0), (0, .ref 170), (1, .int n)], [.ref 170], (g.1.set 170 (.inr (.inl (9, [.ref 171, .int 0, .int 0, .int 0, .int 0, .int 0, .int 0, .int 0, .int 0, .ref 172, .ref 173, .ref 174, .ref 175, .ref 176, .int 0, .int 0, .int 0, .ref 177, .ref 186, .null, .int 0, .int 0, .long 0, .long 0, .long 0, .long 0, .long 0, .ref 195, .ref 196, .ref 197, .ref 198, .ref 199, .ref 200, .ref 201, .ref 202, .int 0, .int 0, .int 0, .ref 203, .ref 204, .ref 205, .ref 206, .ref 207, .ref 208, .ref 209, .ref 210, .ref 211, .ref 212, .ref 219, .ref 920, .ref 1621, .ref 1630, .int 0, .int 0, .int 0, .int 0]))), g.2))) (fun _ => rfl) ?_
  refine hm_bo_go (S2 := (14, [(2, .int 0), (0, .ref 170), (1, .int n)], [.int 0], (g.1.set 170 (.inr (.inl (9, [.ref 171, .int 0, .int 0, .int 0, .int 0, .int 0, .int 0, .int 0, .int 0, .ref 172, .ref 173, .ref 174, .ref 175, .ref 176, .int 0, .int 0, .int 0, .ref 177, .ref 186, .null, .int 0, .int 0, .long 0, .long 0, .long 0, .long 0, .long 0, .ref 195, .ref 196, .ref 197, .ref 198, .ref 199, .ref 200, .ref 201, .ref 202, .int 0, .int 0, .int 0, .ref 203, .ref 204, .ref 205, .ref 206, .ref 207, .ref 208, .ref 209, .ref 210, .ref 211, .ref 212, .ref 219, .ref 920, .ref 1621, .ref 1630, .int 0, .int 0, .int 0, .int 0]))), g.2))) (fun _ => hs_get rfl rfl hM' rfl) ?_
  refine hs_n 2 (S2 := (28, [(2, .int 0), (0, .ref 170), (1, .int n)], [.long 1099511627776], (g.1.set 170 (.inr (.inl (9, [.ref 171, .int 0, .int 0, .int 0, .int 0, .int 0, .int 0, .int 0, .int 0, .ref 172, .ref 173, .ref 174, .ref 175, .ref 176, .int 0, .int 0, .int 0, .ref 177, .ref 186, .null, .int 0, .int 0, .long 0, .long 0, .long 0, .long 0, .long 0, .ref 195, .ref 196, .ref 197, .ref 198, .ref 199, .ref 200, .ref 201, .ref 202, .int 0, .int 0, .int 0, .ref 203, .ref 204, .ref 205, .ref 206, .ref 207, .ref 208, .ref 209, .ref 210, .ref 211, .ref 212, .ref 219, .ref 920, .ref 1621, .ref 1630, .int 0, .int 0, .int 0, .int 0]))), g.2))) (fun _ => rfl) ?_
  exact hm_bo_end (fun _ => rfl)
set_option maxRecDepth 100000 in
theorem pz_in_lo {g : hm_G} {v a b : Int64}  (h : v < a) : hm_ev tb_T tb_pg 1 120 [.long v, .long a, .long b] g g (some (some (.int 0))) := by
  refine hm_ev_of (d := 0) (M := tb_M120) rfl (Nat.le_of_ble_eq_true rfl) ?_
  show hm_bo tb_T tb_pg 0 tb_M120 (0, [(0, .long v), (2, .long a), (4, .long b)], [], g) _ _
  refine hs_n 3 (S2 := (3, [(0, .long v), (2, .long a), (4, .long b)], [.int (lg_cmp v a)], g)) (fun _ => rfl) ?_
  refine hm_bo_go (S2 := (17, [(0, .long v), (2, .long a), (4, .long b)], [], g)) (fun _ => hs_if1 (b := true) rfl rfl (decide_eq_true ((lg_cmp_lt v a).mpr h))) ?_
  refine hs_n 1 (S2 := (18, [(0, .long v), (2, .long a), (4, .long b)], [.int 0], g)) (fun _ => rfl) ?_
  exact hm_bo_end (fun _ => rfl)
set_option maxRecDepth 100000 in
theorem pz_in_hi {g : hm_G} {v a b : Int64}  (h1 : ¬ v < a) (h : b < v) : hm_ev tb_T tb_pg 1 120 [.long v, .long a, .long b] g g (some (some (.int 0))) := by
  refine hm_ev_of (d := 0) (M := tb_M120) rfl (Nat.le_of_ble_eq_true rfl) ?_
  show hm_bo tb_T tb_pg 0 tb_M120 (0, [(0, .long v), (2, .long a), (4, .long b)], [], g) _ _
  refine hs_n 3 (S2 := (3, [(0, .long v), (2, .long a), (4, .long b)], [.int (lg_cmp v a)], g)) (fun _ => rfl) ?_
  refine hm_bo_go (S2 := (6, [(0, .long v), (2, .long a), (4, .long b)], [], g)) (fun _ => hs_if1 (b := false) rfl rfl (decide_eq_false (fun q => h1 ((lg_cmp_lt v a).mp q)))) ?_
  refine hs_n 3 (S2 := (10, [(0, .long v), (2, .long a), (4, .long b)], [.int (lg_cmp v b)], g)) (fun _ => rfl) ?_
  refine hm_bo_go (S2 := (17, [(0, .long v), (2, .long a), (4, .long b)], [], g)) (fun _ => hs_if1 (b := true) rfl rfl (decide_eq_true ((lg_cmp_gt v b).mpr h))) ?_
  refine hs_n 1 (S2 := (18, [(0, .long v), (2, .long a), (4, .long b)], [.int 0], g)) (fun _ => rfl) ?_
  exact hm_bo_end (fun _ => rfl)
set_option maxRecDepth 100000 in
theorem pz_in_ok {g : hm_G} {v a b : Int64}  (h1 : ¬ v < a) (h : ¬ b < v) : hm_ev tb_T tb_pg 1 120 [.long v, .long a, .long b] g g (some (some (.int 1))) := by
  refine hm_ev_of (d := 0) (M := tb_M120) rfl (Nat.le_of_ble_eq_true rfl) ?_
  show hm_bo tb_T tb_pg 0 tb_M120 (0, [(0, .long v), (2, .long a), (4, .long b)], [], g) _ _
  refine hs_n 3 (S2 := (3, [(0, .long v), (2, .long a), (4, .long b)], [.int (lg_cmp v a)], g)) (fun _ => rfl) ?_
  refine hm_bo_go (S2 := (6, [(0, .long v), (2, .long a), (4, .long b)], [], g)) (fun _ => hs_if1 (b := false) rfl rfl (decide_eq_false (fun q => h1 ((lg_cmp_lt v a).mp q)))) ?_
  refine hs_n 3 (S2 := (10, [(0, .long v), (2, .long a), (4, .long b)], [.int (lg_cmp v b)], g)) (fun _ => rfl) ?_
  refine hm_bo_go (S2 := (13, [(0, .long v), (2, .long a), (4, .long b)], [], g)) (fun _ => hs_if1 (b := false) rfl rfl (decide_eq_false (fun q => h ((lg_cmp_gt v b).mp q)))) ?_
  refine hs_n 2 (S2 := (18, [(0, .long v), (2, .long a), (4, .long b)], [.int 1], g)) (fun _ => rfl) ?_
  exact hm_bo_end (fun _ => rfl)
set_option maxRecDepth 100000 in
theorem pz_end1_lo {g : hm_G} (n : Int32) (hX : g.1[96]? = some pz_X) (hT : g.1[97]? = some (pz_t 0)) (h : n < 0) : hm_ev tb_T tb_pg 1 18 [.ref 96, .int n] g g (some (some (.int (-1)))) := by
  refine hm_ev_of (d := 0) (M := tb_M18) rfl (Nat.le_of_ble_eq_true rfl) ?_
  show hm_bo tb_T tb_pg 0 tb_M18 (0, [(0, .ref 96), (1, .int n)], [], g) _ _
  refine hs_n 1 (S2 := (1, [(0, .ref 96), (1, .int n)], [.int n], g)) (fun _ => rfl) ?_
  refine hm_bo_go (S2 := (15, [(0, .ref 96), (1, .int n)], [], g)) (fun _ => hs_if1 (b := true) rfl rfl (decide_eq_true h)) ?_
  refine hs_n 1 (S2 := (16, [(0, .ref 96), (1, .int n)], [.int (-1)], g)) (fun _ => rfl) ?_
  exact hm_bo_end (fun _ => rfl)
set_option maxRecDepth 100000 in
theorem pz_end1_hi {g : hm_G} (n : Int32) (hX : g.1[96]? = some pz_X) (hT : g.1[97]? = some (pz_t 0)) (h1 : ¬ n < 0) (h : ¬ n ≤ 0) : hm_ev tb_T tb_pg 1 18 [.ref 96, .int n] g g (some (some (.int (-1)))) := by
  refine hm_ev_of (d := 0) (M := tb_M18) rfl (Nat.le_of_ble_eq_true rfl) ?_
  show hm_bo tb_T tb_pg 0 tb_M18 (0, [(0, .ref 96), (1, .int n)], [], g) _ _
  refine hs_n 1 (S2 := (1, [(0, .ref 96), (1, .int n)], [.int n], g)) (fun _ => rfl) ?_
  refine hm_bo_go (S2 := (4, [(0, .ref 96), (1, .int n)], [], g)) (fun _ => hs_if1 (b := false) rfl rfl (decide_eq_false h1)) ?_
  refine hs_n 2 (S2 := (6, [(0, .ref 96), (1, .int n)], [.ref 96, .int n], g)) (fun _ => rfl) ?_
  refine hm_bo_go (S2 := (9, [(0, .ref 96), (1, .int n)], [.ref 97, .int n], g)) (fun _ => hs_get rfl rfl hX rfl) ?_
  refine hm_bo_go (S2 := (12, [(0, .ref 96), (1, .int n)], [.int 0, .int n], g)) (fun _ => hs_get rfl rfl hT rfl) ?_
  refine hm_bo_go (S2 := (15, [(0, .ref 96), (1, .int n)], [], g)) (fun _ => hs_if2 (b := false) rfl rfl (decide_eq_false h)) ?_
  refine hs_n 1 (S2 := (16, [(0, .ref 96), (1, .int n)], [.int (-1)], g)) (fun _ => rfl) ?_
  exact hm_bo_end (fun _ => rfl)
set_option maxRecDepth 100000 in
theorem pz_end2_lo {g : hm_G} (n : Int32) (hM : g.1[170]? = some pz_M) (h : n.toInt64 < 0) : hm_ev tb_T tb_pg 2 119 [.ref 170, .int n] g g (some (some (.int (-1)))) := by
  refine hm_ev_of (d := 1) (M := tb_M119) rfl (Nat.le_of_ble_eq_true rfl) ?_
  show hm_bo tb_T tb_pg 1 tb_M119 (0, [(0, .ref 170), (1, .int n)], [], g) _ _
  refine hs_n 4 (S2 := (4, [(0, .ref 170), (1, .int n)], [.ref 170, .long 0, .long n.toInt64], g)) (fun _ => rfl) ?_
  refine hm_bo_go (S2 := (7, [(0, .ref 170), (1, .int n)], [.int 0, .long 0, .long n.toInt64], g)) (fun _ => hs_get rfl rfl hM rfl) ?_
  refine hs_n 1 (S2 := (8, [(0, .ref 170), (1, .int n)], [.long 0, .long 0, .long n.toInt64], g)) (fun _ => rfl) ?_
  refine hs_bo (pz_in_lo h) (S2 := (11, [(0, .ref 170), (1, .int n)], [.int 0], g)) (fun call hc => hs_call0 (args := [.long n.toInt64, .long 0, .long 0]) (rest := []) rfl rfl rfl (by decide) hc) ?_
  refine hs_n 2 (S2 := (15, [(0, .ref 170), (1, .int n)], [.int (-1)], g)) (fun _ => rfl) ?_
  exact hm_bo_end (fun _ => rfl)
set_option maxRecDepth 100000 in
theorem pz_end2_hi {g : hm_G} (n : Int32) (hM : g.1[170]? = some pz_M) (h1 : ¬ n.toInt64 < 0) (h : 0 < n.toInt64) : hm_ev tb_T tb_pg 2 119 [.ref 170, .int n] g g (some (some (.int (-1)))) := by
  refine hm_ev_of (d := 1) (M := tb_M119) rfl (Nat.le_of_ble_eq_true rfl) ?_
  show hm_bo tb_T tb_pg 1 tb_M119 (0, [(0, .ref 170), (1, .int n)], [], g) _ _
  refine hs_n 4 (S2 := (4, [(0, .ref 170), (1, .int n)], [.ref 170, .long 0, .long n.toInt64], g)) (fun _ => rfl) ?_
  refine hm_bo_go (S2 := (7, [(0, .ref 170), (1, .int n)], [.int 0, .long 0, .long n.toInt64], g)) (fun _ => hs_get rfl rfl hM rfl) ?_
  refine hs_n 1 (S2 := (8, [(0, .ref 170), (1, .int n)], [.long 0, .long 0, .long n.toInt64], g)) (fun _ => rfl) ?_
  refine hs_bo (pz_in_hi h1 h) (S2 := (11, [(0, .ref 170), (1, .int n)], [.int 0], g)) (fun call hc => hs_call0 (args := [.long n.toInt64, .long 0, .long 0]) (rest := []) rfl rfl rfl (by decide) hc) ?_
  refine hs_n 2 (S2 := (15, [(0, .ref 170), (1, .int n)], [.int (-1)], g)) (fun _ => rfl) ?_
  exact hm_bo_end (fun _ => rfl)
set_option maxRecDepth 100000 in
theorem pz_cnt1_lo {g : hm_G} (n : Int32) (hX : g.1[96]? = some pz_X) (h : n < 0) : hm_ev tb_T tb_pg 1 115 [.ref 96, .int n] g g (some (some (.int (-1)))) := by
  refine hm_ev_of (d := 0) (M := tb_M115) rfl (Nat.le_of_ble_eq_true rfl) ?_
  show hm_bo tb_T tb_pg 0 tb_M115 (0, [(0, .ref 96), (1, .int n)], [], g) _ _
  refine hs_n 1 (S2 := (1, [(0, .ref 96), (1, .int n)], [.int n], g)) (fun _ => rfl) ?_
  refine hm_bo_go (S2 := (10, [(0, .ref 96), (1, .int n)], [], g)) (fun _ => hs_if1 (b := true) rfl rfl (decide_eq_true h)) ?_
  refine hs_n 1 (S2 := (11, [(0, .ref 96), (1, .int n)], [.int (-1)], g)) (fun _ => rfl) ?_
  exact hm_bo_end (fun _ => rfl)
set_option maxRecDepth 100000 in
theorem pz_cnt1_hi {g : hm_G} (n : Int32) (hX : g.1[96]? = some pz_X) (h1 : ¬ n < 0) (h : ¬ n ≤ 12) : hm_ev tb_T tb_pg 1 115 [.ref 96, .int n] g g (some (some (.int (-1)))) := by
  refine hm_ev_of (d := 0) (M := tb_M115) rfl (Nat.le_of_ble_eq_true rfl) ?_
  show hm_bo tb_T tb_pg 0 tb_M115 (0, [(0, .ref 96), (1, .int n)], [], g) _ _
  refine hs_n 1 (S2 := (1, [(0, .ref 96), (1, .int n)], [.int n], g)) (fun _ => rfl) ?_
  refine hm_bo_go (S2 := (4, [(0, .ref 96), (1, .int n)], [], g)) (fun _ => hs_if1 (b := false) rfl rfl (decide_eq_false h1)) ?_
  refine hs_n 2 (S2 := (7, [(0, .ref 96), (1, .int n)], [.int 12, .int n], g)) (fun _ => rfl) ?_
  refine hm_bo_go (S2 := (10, [(0, .ref 96), (1, .int n)], [], g)) (fun _ => hs_if2 (b := false) rfl rfl (decide_eq_false h)) ?_
  refine hs_n 1 (S2 := (11, [(0, .ref 96), (1, .int n)], [.int (-1)], g)) (fun _ => rfl) ?_
  exact hm_bo_end (fun _ => rfl)
set_option maxRecDepth 100000 in
theorem pz_cnt1_ok {g : hm_G} (n : Int32) (hX : g.1[96]? = some pz_X) (h1 : ¬ n < 0) (h : n ≤ 12) : hm_ev tb_T tb_pg 1 115 [.ref 96, .int n] g g (some (some (.int 0))) := by
  refine hm_ev_of (d := 0) (M := tb_M115) rfl (Nat.le_of_ble_eq_true rfl) ?_
  show hm_bo tb_T tb_pg 0 tb_M115 (0, [(0, .ref 96), (1, .int n)], [], g) _ _
  refine hs_n 1 (S2 := (1, [(0, .ref 96), (1, .int n)], [.int n], g)) (fun _ => rfl) ?_
  refine hm_bo_go (S2 := (4, [(0, .ref 96), (1, .int n)], [], g)) (fun _ => hs_if1 (b := false) rfl rfl (decide_eq_false h1)) ?_
  refine hs_n 2 (S2 := (7, [(0, .ref 96), (1, .int n)], [.int 12, .int n], g)) (fun _ => rfl) ?_
  refine hm_bo_go (S2 := (12, [(0, .ref 96), (1, .int n)], [], g)) (fun _ => hs_if2 (b := true) rfl rfl (decide_eq_true h)) ?_
  refine hs_n 1 (S2 := (13, [(0, .ref 96), (1, .int n)], [.ref 96], g)) (fun _ => rfl) ?_
  refine hm_bo_go (S2 := (16, [(0, .ref 96), (1, .int n)], [.int 0], g)) (fun _ => hs_get rfl rfl hX rfl) ?_
  refine hs_n 2 (S2 := (20, [(0, .ref 96), (1, .int n)], [.int 0], g)) (fun _ => rfl) ?_
  exact hm_bo_end (fun _ => rfl)
set_option maxRecDepth 100000 in
theorem pz_cnt2_lo {g : hm_G} (n : Int32) (hM : g.1[170]? = some pz_M) (h : n.toInt64 < 0) : hm_ev tb_T tb_pg 2 176 [.ref 170, .int n] g g (some (some (.int (-1)))) := by
  refine hm_ev_of (d := 1) (M := tb_M176) rfl (Nat.le_of_ble_eq_true rfl) ?_
  show hm_bo tb_T tb_pg 1 tb_M176 (0, [(0, .ref 170), (1, .int n)], [], g) _ _
  refine hs_n 4 (S2 := (6, [(0, .ref 170), (1, .int n)], [.long 12, .long 0, .long n.toInt64], g)) (fun _ => rfl) ?_
  refine hs_bo (pz_in_lo h) (S2 := (9, [(0, .ref 170), (1, .int n)], [.int 0], g)) (fun call hc => hs_call0 (args := [.long n.toInt64, .long 0, .long 12]) (rest := []) rfl rfl rfl (by decide) hc) ?_
  refine hs_n 2 (S2 := (13, [(0, .ref 170), (1, .int n)], [.int (-1)], g)) (fun _ => rfl) ?_
  exact hm_bo_end (fun _ => rfl)
set_option maxRecDepth 100000 in
theorem pz_cnt2_hi {g : hm_G} (n : Int32) (hM : g.1[170]? = some pz_M) (h1 : ¬ n.toInt64 < 0) (h : 12 < n.toInt64) : hm_ev tb_T tb_pg 2 176 [.ref 170, .int n] g g (some (some (.int (-1)))) := by
  refine hm_ev_of (d := 1) (M := tb_M176) rfl (Nat.le_of_ble_eq_true rfl) ?_
  show hm_bo tb_T tb_pg 1 tb_M176 (0, [(0, .ref 170), (1, .int n)], [], g) _ _
  refine hs_n 4 (S2 := (6, [(0, .ref 170), (1, .int n)], [.long 12, .long 0, .long n.toInt64], g)) (fun _ => rfl) ?_
  refine hs_bo (pz_in_hi h1 h) (S2 := (9, [(0, .ref 170), (1, .int n)], [.int 0], g)) (fun call hc => hs_call0 (args := [.long n.toInt64, .long 0, .long 12]) (rest := []) rfl rfl rfl (by decide) hc) ?_
  refine hs_n 2 (S2 := (13, [(0, .ref 170), (1, .int n)], [.int (-1)], g)) (fun _ => rfl) ?_
  exact hm_bo_end (fun _ => rfl)
set_option maxRecDepth 100000 in
theorem pz_cnt2_ok {g : hm_G} (n : Int32) (hM : g.1[170]? = some pz_M) (h1 : ¬ n.toInt64 < 0) (h : ¬ 12 < n.toInt64) : hm_ev tb_T tb_pg 2 176 [.ref 170, .int n] g g (some (some (.int 0))) := by
  refine hm_ev_of (d := 1) (M := tb_M176) rfl (Nat.le_of_ble_eq_true rfl) ?_
  show hm_bo tb_T tb_pg 1 tb_M176 (0, [(0, .ref 170), (1, .int n)], [], g) _ _
  refine hs_n 4 (S2 := (6, [(0, .ref 170), (1, .int n)], [.long 12, .long 0, .long n.toInt64], g)) (fun _ => rfl) ?_
  refine hs_bo (pz_in_ok h1 h) (S2 := (9, [(0, .ref 170), (1, .int n)], [.int 1], g)) (fun call hc => hs_call0 (args := [.long n.toInt64, .long 0, .long 12]) (rest := []) rfl rfl rfl (by decide) hc) ?_
  refine hs_n 2 (S2 := (15, [(0, .ref 170), (1, .int n)], [.ref 170], g)) (fun _ => rfl) ?_
  refine hm_bo_go (S2 := (18, [(0, .ref 170), (1, .int n)], [.int 0], g)) (fun _ => hs_get rfl rfl hM rfl) ?_
  refine hs_n 2 (S2 := (22, [(0, .ref 170), (1, .int n)], [.int 0], g)) (fun _ => rfl) ?_
  exact hm_bo_end (fun _ => rfl)
