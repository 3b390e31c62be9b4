/-! The two objects as they are made, by the kernel; thing 0 out of sight. -/
def pz_S0 : hm_S := (0, [(0, .ref 0)], [], hz_D :: (tb_ro []).drop 1, 0, 0)
def pz_ob (e : Option hm_E) (ci : Nat) (l : List Value) : Bool := match e with
  | some (.inr (.inl (c, m))) => Nat.beq c ci && decide (m = l)
  | _ => false
theorem pz_ob_ok {e : Option hm_E} {ci : Nat} {l : List Value} (h : pz_ob e ci l = true) : e = some (.inr (.inl (ci, l))) := by
  unfold pz_ob at h
  split at h
  · simp only [Bool.and_eq_true, decide_eq_true_eq] at h
    rw [Nat.eq_of_beq_eq_true h.1, h.2]
  · cases h
def pz_two (i j : Nat) (vi vj : List Value) (g : hm_G) : Bool := match hm_call tb_T tb_pg 100000 30 i vi g with
  | some (g2, some (some (.int v))) => match hm_call tb_T tb_pg 100000 30 j vj g2 with
    | some (g3, some (some (.int w))) => decide (v = w) && (Nat.ble g3.2.1 600002 && (Nat.ble g3.2.2 7302232 && pz_ob g2.1[170]? 9 [.ref 171, .int 0, .int 0, .int 0, .int 0, .int 0, .int 0, .int 0, .int 0, .ref 172, .ref 173, .ref 174, .ref 175, .ref 176, .int 0, .int 0, .int 0, .ref 177, .ref 186, .null, .int 0, .int 0, .long 0, .long 0, .long 0, .long 0, .long 0, .ref 195, .ref 196, .ref 197, .ref 198, .ref 199, .ref 200, .ref 201, .ref 202, .int 0, .int 0, .int 0, .ref 203, .ref 204, .ref 205, .ref 206, .ref 207, .ref 208, .ref 209, .ref 210, .ref 211, .ref 212, .ref 219, .ref 920, .ref 1621, .ref 1630, .int 0, .int 0, .int 0, .int 0]))
    | _ => false
  | _ => false
def pz_by (e : Option hm_E) : Bool := match e with
  | some (.inl (.byte, l)) => Nat.beq l.length 2000
  | _ => false
def pz_chk (S : hm_S) : Bool := decide (S.1 = 18) && (decide (S.2.1 = [(3, .int 0), (2, .ref 170), (1, .ref 96), (0, .ref 0)]) && (decide (S.2.2.1 = []) && (decide (S.2.2.2.2 = (1535, 815634)) && (pz_ob S.2.2.2.1[96]? 7 [.ref 97, .ref 99, .ref 115, .int 0, .ref 131, .ref 142] && (pz_ob S.2.2.2.1[97]? 4 [.ref 98, .int 0] && (pz_by S.2.2.2.1[98]? && (pz_ob S.2.2.2.1[170]? 9 [.ref 171, .int 0, .int 0, .int 0, .int 0, .int 0, .int 0, .int 0, .int 0, .ref 172, .ref 173, .ref 174, .ref 175, .ref 176, .int 0, .int 0, .int 0, .ref 177, .ref 186, .null, .int 0, .int 0, .long 0, .long 0, .long 0, .long 0, .long 0, .ref 195, .ref 196, .ref 197, .ref 198, .ref 199, .ref 200, .ref 201, .ref 202, .int 0, .int 0, .int 0, .ref 203, .ref 204, .ref 205, .ref 206, .ref 207, .ref 208, .ref 209, .ref 210, .ref 211, .ref 212, .ref 219, .ref 920, .ref 1621, .ref 1630, .int 0, .int 0, .int 0, .int 0] && (pz_by S.2.2.2.1[171]? && (pz_two 19 121 [.ref 96] [.ref 170] S.2.2.2 && (pz_two 80 160 [.ref 96] [.ref 170] S.2.2.2 && pz_two 18 119 [.ref 96, .int 0] [.ref 170, .int 0] S.2.2.2))))))))))
def pz_fin (a : Option hm_S) : Bool := match a with
  | some S => pz_chk S
  | none => false
set_option maxRecDepth 100000 in
theorem pz_closed : pz_fin (hm_go_n tb_T (hm_call tb_T tb_pg 100000 30) tb_M0 10 pz_S0) = true := by decide +kernel
theorem pz_by_ok {e : Option hm_E} (h : pz_by e = true) : ∃ l, e = some (.inl (.byte, l)) ∧ l.length = 2000 := by
  unfold pz_by at h
  split at h
  · rename_i l
    exact ⟨l, rfl, Nat.eq_of_beq_eq_true h⟩
  · cases h
theorem pz_two_ok {i j : Nat} {vi vj : List Value} {g : hm_G} {E : hm_E} (hz : hz_ok g.1) (h : pz_two i j vi vj g = true) : ∃ (g2 g3 : hm_G) (v : Int32), hm_ev tb_T tb_pg 30 i vi (hz_g E g) g2 (some (some (.int v))) ∧ hm_ev tb_T tb_pg 30 j vj g2 g3 (some (some (.int v))) ∧ g3.2.1 ≤ 600002 ∧ g3.2.2 ≤ 7302232 ∧ g3.1[0]? = some E ∧ g2.1[170]? = some pz_M ∧ g2.1[0]? = some E := by
  unfold pz_two at h
  split at h
  · rename_i g2 v e1
    split at h
    · rename_i g3 w e2
      simp only [Bool.and_eq_true, decide_eq_true_eq] at h
      obtain ⟨h1, h2, h3, h4⟩ := h
      subst h1
      have q1 := hz_calls (E := E) (G := tb_T) (pg := tb_pg) (K := 100000) (by decide) 30 _ _ _ _ hz e1
      have q2 := hz_calls (E := E) (G := tb_T) (pg := tb_pg) (K := 100000) (by decide) 30 _ _ _ _ q1.2 e2
      exact ⟨hz_g E g2, hz_g E g3, v, ⟨_, q1.1⟩, ⟨_, q2.1⟩, Nat.le_of_ble_eq_true h2, Nat.le_of_ble_eq_true h3, List.getElem?_set_self (hz_len q2.2), (List.getElem?_set_ne (by decide)).trans (pz_ob_ok h4), List.getElem?_set_self (hz_len q1.2)⟩
    · cases h
  · cases h
