section PSIM
variable {p : Program} {l : Launch} {e : Env} {R : Room} {s : State} {m : MethodId} {args : Array Value} {below : List Frame} {meth : Method} {c : Code} {H : Heap} {locs : List Loc} {cells slots : Nat} {Q : State → Prop}
variable {cc : ByteArray} {as : List Nat} {i : Instr} {len pc nL : Nat} {lv lv' : List (Nat × Value)} {st st' : List Value} {ls : Array Slot} {r : hm_P}
/-- the walk goes on at r: whatever the real places and operands are that r pictures -/
def hm_on (p : Program) (l : Launch) (e : Env) (R : Room) (s : State) (m : MethodId) (args : Array Value) (below : List Frame) (meth : Method) (c : Code) (H : Heap) (locs : List Loc) (cells slots : Nat) (Q : State → Prop) (as : List Nat) (nL : Nat) (r : hm_P) : Prop :=
  ∀ (ls : Array Slot) (lv' : List (Nat × Value)) (st' : List Value), lv_has ls nL lv' → hm_lv as r.2.1 lv' → hm_vs as r.2.2 st' → W p l e R s m args below meth c H locs cells slots Q (F0 m r.1 ls st')
theorem hm_simK (hx : p.tables.exec = Jvm.exec) (hb : c.code = cc) (hdg : decode cc pc = .ok (i, len)) (hl : lv_has ls nL lv') (hlv : hm_lv as lv lv') (hst : hm_vs as st st') (h : hm_gK i pc lv st = some (len, r))
    (kk : hm_on p l e R s m args below meth c H locs cells slots Q as nL r) : W p l e R s m args below meth c H locs cells slots Q (F0 m pc ls st') := by
  unfold hm_gK at h
  split at h
  · cases h; exact lv_iconst hx hb hdg rfl (kk ls lv' _ hl hlv ⟨rfl, hst⟩)
  · cases h; exact lv_bipush hx hb hdg rfl (kk ls lv' _ hl hlv ⟨rfl, hst⟩)
  · cases h; exact lv_sipush hx hb hdg rfl (kk ls lv' _ hl hlv ⟨rfl, hst⟩)
  · cases h; exact lv_lconst hx hb hdg rfl (kk ls lv' _ hl hlv ⟨rfl, hst⟩)
  · cases h; exact lv_null hx hb hdg (kk ls lv' _ hl hlv ⟨rfl, hst⟩)
  · cases h
theorem hm_simL (hx : p.tables.exec = Jvm.exec) (hb : c.code = cc) (hdg : decode cc pc = .ok (i, len)) (hl : lv_has ls nL lv') (hlv : hm_lv as lv lv') (hst : hm_vs as st st') (h : hm_gL i pc lv st = some (len, r))
    (kk : hm_on p l e R s m args below meth c H locs cells slots Q as nL r) : W p l e R s m args below meth c H locs cells slots Q (F0 m pc ls st') := by
  unfold hm_gL at h
  split at h
  · cases h
  · rename_i q hq
    split at h
    · cases h
    · rename_i v hv
      by_cases hk : hm_kind q.1 v = true
      · rw [if_pos hk] at h
        cases h
        obtain ⟨w, hw, hls⟩ := hm_lv_at hl hlv hv
        have K := kk ls lv' (w :: st') hl hlv ⟨hw, hst⟩
        unfold hm_ld at hq
        split at hq <;> cases hq <;> cases v <;> simp [hm_kind] at hk
        · cases hw; exact lv_iload hx hb hdg hls K
        · cases hw; exact lv_iload_n hx hb hdg rfl hls K
        · cases hw; exact lv_lload hx hb hdg hls K
        · cases hw; exact lv_lload_n hx hb hdg rfl hls K
        · cases hw; exact lv_aloadN hx hb hdg hls K
        · obtain ⟨a, -, rfl⟩ := hw; exact lv_aload hx hb hdg hls K
        · rcases hw with rfl | ⟨a, rfl⟩
          · exact lv_aloadN hx hb hdg hls K
          · exact lv_aload hx hb hdg hls K
        · cases hw; exact lv_aload_nN hx hb hdg rfl hls K
        · obtain ⟨a, -, rfl⟩ := hw; exact lv_aload_n hx hb hdg rfl hls K
        · rcases hw with rfl | ⟨a, rfl⟩
          · exact lv_aload_nN hx hb hdg rfl hls K
          · exact lv_aload_n hx hb hdg rfl hls K
      · rw [if_neg hk] at h
        cases h
theorem hm_simS (hx : p.tables.exec = Jvm.exec) (hb : c.code = cc) (hdg : decode cc pc = .ok (i, len)) (hl : lv_has ls nL lv') (hlv : hm_lv as lv lv') (hst : hm_vs as st st') (h : hm_gS nL i pc lv st = some (len, r))
    (kk : hm_on p l e R s m args below meth c H locs cells slots Q as nL r) : W p l e R s m args below meth c H locs cells slots Q (F0 m pc ls st') := by
  unfold hm_gS at h
  split at h
  · rename_i q v st2 hq
    by_cases hk : hm_kind q.1 v = true ∧ q.2.1 + v.category ≤ nL
    · rw [if_pos hk] at h
      cases h
      obtain ⟨w, st3, rfl, hw, hs2⟩ := hm_vs_cons hst
      obtain ⟨hk1, hk2⟩ := hk
      have K1 : ∀ ls2 : Array Slot, lv_has ls2 nL (hm_st1 lv' q.2.1 w) → ¬ q.1 = 1 → W p l e R s m args below meth c H locs cells slots Q (F0 m (pc + q.2.2) ls2 st3) := fun ls2 h2 hn => kk ls2 _ _ h2 (by show hm_lv as (if q.1 = 1 then _ else _) _; rw [if_neg hn]; exact hm_lv_st1 hlv q.2.1 hw) hs2
      have K2 : ∀ ls2 : Array Slot, lv_has ls2 nL (hm_st2 lv' q.2.1 w) → q.1 = 1 → W p l e R s m args below meth c H locs cells slots Q (F0 m (pc + q.2.2) ls2 st3) := fun ls2 h2 hn => kk ls2 _ _ h2 (by show hm_lv as (if q.1 = 1 then _ else _) _; rw [if_pos hn]; exact hm_lv_st2 hlv q.2.1 hw) hs2
      unfold hm_sto at hq
      split at hq <;> cases hq <;> cases v <;> simp [hm_kind] at hk1 <;> simp only [Value.category] at hk2
      · cases hw; exact lv_istore hx hb hdg hl (by omega) rfl (fun ls2 h2 => K1 ls2 h2 (fun z => by simp at z))
      · cases hw; exact lv_istore_n hx hb hdg rfl hl (by omega) rfl (fun ls2 h2 => K1 ls2 h2 (fun z => by simp at z))
      · cases hw; exact lv_lstore hx hb hdg hl (by omega) rfl (fun ls2 h2 => K2 ls2 h2 rfl)
      · cases hw; exact lv_lstore_n hx hb hdg rfl hl (by omega) rfl (fun ls2 h2 => K2 ls2 h2 rfl)
      · cases hw; exact lv_astoreN hx hb hdg hl (by omega) rfl (fun ls2 h2 => K1 ls2 h2 (fun z => by simp at z))
      · obtain ⟨a, -, rfl⟩ := hw; exact lv_astore hx hb hdg hl (by omega) rfl (fun ls2 h2 => K1 ls2 h2 (fun z => by simp at z))
      · rcases hw with rfl | ⟨a, rfl⟩
        · exact lv_astoreN hx hb hdg hl (by omega) rfl (fun ls2 h2 => K1 ls2 h2 (fun z => by simp at z))
        · exact lv_astore hx hb hdg hl (by omega) rfl (fun ls2 h2 => K1 ls2 h2 (fun z => by simp at z))
      · cases hw; exact lv_astore_nN hx hb hdg rfl hl (by omega) rfl (fun ls2 h2 => K1 ls2 h2 (fun z => by simp at z))
      · obtain ⟨a, -, rfl⟩ := hw; exact lv_astore_n hx hb hdg rfl hl (by omega) rfl (fun ls2 h2 => K1 ls2 h2 (fun z => by simp at z))
      · rcases hw with rfl | ⟨a, rfl⟩
        · exact lv_astore_nN hx hb hdg rfl hl (by omega) rfl (fun ls2 h2 => K1 ls2 h2 (fun z => by simp at z))
        · exact lv_astore_n hx hb hdg rfl hl (by omega) rfl (fun ls2 h2 => K1 ls2 h2 (fun z => by simp at z))
    · rw [if_neg hk] at h
      cases h
  · cases h
theorem hm_simA (hx : p.tables.exec = Jvm.exec) (hb : c.code = cc) (hdg : decode cc pc = .ok (i, len)) (hl : lv_has ls nL lv') (hlv : hm_lv as lv lv') (hst : hm_vs as st st') (h : hm_gA i pc lv st = some (len, r))
    (kk : hm_on p l e R s m args below meth c H locs cells slots Q as nL r) : W p l e R s m args below meth c H locs cells slots Q (F0 m pc ls st') := by
  unfold hm_gA at h
  split at h
  · rename_i f y x r2 hf
    cases h
    obtain ⟨w, st3, rfl, hw, hs2⟩ := hm_vs_cons hst
    cases hw
    obtain ⟨w, st4, rfl, hw, hs3⟩ := hm_vs_cons hs2
    cases hw
    have K := kk ls lv' (.int (f x y) :: st4) hl hlv ⟨rfl, hs3⟩
    unfold hm_b2 at hf
    split at hf <;> cases hf
    · exact lv_iadd hx hb hdg K
    · exact lv_isub hx hb hdg K
    · exact lv_imul hx hb hdg K
    · exact lv_iand hx hb hdg K
    · exact lv_ior hx hb hdg K
    · exact lv_ixor hx hb hdg K
    · exact lv_ishl hx hb hdg K
    · exact lv_ishr hx hb hdg K
    · exact lv_iushr hx hb hdg rfl K
  · cases h
theorem hm_simJ (hx : p.tables.exec = Jvm.exec) (hb : c.code = cc) (hdg : decode cc pc = .ok (i, len)) (hl : lv_has ls nL lv') (hlv : hm_lv as lv lv') (hst : hm_vs as st st') (h : hm_gJ i pc lv st = some (len, r))
    (kk : hm_on p l e R s m args below meth c H locs cells slots Q as nL r) : W p l e R s m args below meth c H locs cells slots Q (F0 m pc ls st') := by
  unfold hm_gJ at h
  split at h
  · rename_i f y x r2 hf
    cases h
    obtain ⟨w, st3, rfl, hw, hs2⟩ := hm_vs_cons hst
    cases hw
    obtain ⟨w, st4, rfl, hw, hs3⟩ := hm_vs_cons hs2
    cases hw
    have K := kk ls lv' (.long (f x y) :: st4) hl hlv ⟨rfl, hs3⟩
    unfold hm_l2 at hf
    split at hf <;> cases hf
    · exact lv_ladd hx hb hdg K
    · exact lv_lsub hx hb hdg K
    · exact lv_lmul hx hb hdg K
    · exact lv_land hx hb hdg K
    · exact lv_lor hx hb hdg K
  · cases h
theorem hm_simU (hx : p.tables.exec = Jvm.exec) (hb : c.code = cc) (hdg : decode cc pc = .ok (i, len)) (hl : lv_has ls nL lv') (hlv : hm_lv as lv lv') (hst : hm_vs as st st') (h : hm_gU i pc lv st = some (len, r))
    (kk : hm_on p l e R s m args below meth c H locs cells slots Q as nL r) : W p l e R s m args below meth c H locs cells slots Q (F0 m pc ls st') := by
  unfold hm_gU at h
  split at h
  · rename_i v r2
    split at h
    · rename_i w2 hu
      cases h
      obtain ⟨w, st3, rfl, hw, hs2⟩ := hm_vs_cons hst
      have K : hm_v as w2 w2 → _ := fun hv => kk ls lv' (w2 :: st3) hl hlv ⟨hv, hs2⟩
      unfold hm_u1 at hu
      split at hu <;> cases hu <;> cases hw
      · exact lv_ineg hx hb hdg (K rfl)
      · exact lv_i2l hx hb hdg rfl (K rfl)
      · exact lv_l2i hx hb hdg rfl (K rfl)
      · exact lv_i2b hx hb hdg rfl (K rfl)
      · exact lv_i2s hx hb hdg rfl (K rfl)
      · exact lv_i2c hx hb hdg rfl (K rfl)
    · cases h
  · cases h
theorem hm_simD (hx : p.tables.exec = Jvm.exec) (hb : c.code = cc) (hdg : decode cc pc = .ok (i, len)) (hl : lv_has ls nL lv') (hlv : hm_lv as lv lv') (hst : hm_vs as st st') (h : hm_gD i pc lv st = some (len, r))
    (kk : hm_on p l e R s m args below meth c H locs cells slots Q as nL r) : W p l e R s m args below meth c H locs cells slots Q (F0 m pc ls st') := by
  unfold hm_gD at h
  split at h
  · split at h
    · rename_i y x r2
      by_cases hy : y = 0
      · rw [if_pos hy] at h; cases h
      · rw [if_neg hy] at h; cases h
        obtain ⟨w, st3, rfl, hw, hs2⟩ := hm_vs_cons hst
        cases hw
        obtain ⟨w, st4, rfl, hw, hs3⟩ := hm_vs_cons hs2
        cases hw
        exact lv_idiv hx hb hdg hy (kk ls lv' _ hl hlv ⟨rfl, hs3⟩)
    · cases h
  · split at h
    · rename_i y x r2
      by_cases hy : y = 0
      · rw [if_pos hy] at h; cases h
      · rw [if_neg hy] at h; cases h
        obtain ⟨w, st3, rfl, hw, hs2⟩ := hm_vs_cons hst
        cases hw
        obtain ⟨w, st4, rfl, hw, hs3⟩ := hm_vs_cons hs2
        cases hw
        exact lv_irem hx hb hdg hy (kk ls lv' _ hl hlv ⟨rfl, hs3⟩)
    · cases h
  · split at h
    · cases h
      obtain ⟨w, st3, rfl, hw, hs2⟩ := hm_vs_cons hst
      cases hw
      obtain ⟨w, st4, rfl, hw, hs3⟩ := hm_vs_cons hs2
      cases hw
      exact lv_lshl hx hb hdg rfl (kk ls lv' _ hl hlv ⟨rfl, hs3⟩)
    · cases h
  · split at h
    · cases h
      obtain ⟨w, st3, rfl, hw, hs2⟩ := hm_vs_cons hst
      cases hw
      obtain ⟨w, st4, rfl, hw, hs3⟩ := hm_vs_cons hs2
      cases hw
      exact W.lcmp hx hb hdg (kk ls lv' _ hl hlv ⟨rfl, hs3⟩)
    · cases h
  · split at h
    · rename_i v r2
      by_cases hc : v.category = 1
      · rw [if_pos hc] at h; cases h
        obtain ⟨w, st3, rfl, hw, hs2⟩ := hm_vs_cons hst
        exact lv_dup hx hb hdg ((hm_v_cat hw).trans hc) (kk ls lv' _ hl hlv ⟨hw, hw, hs2⟩)
      · rw [if_neg hc] at h; cases h
    · cases h
  · split at h
    · rename_i v r2
      by_cases hc : v.category = 1
      · rw [if_pos hc] at h; cases h
        obtain ⟨w, st3, rfl, hw, hs2⟩ := hm_vs_cons hst
        exact lv_pop hx hb hdg ((hm_v_cat hw).trans hc) (kk ls lv' _ hl hlv hs2)
      · rw [if_neg hc] at h; cases h
    · cases h
  · split at h
    · rename_i v v2 r2
      by_cases hc : v.category = 1 ∧ v2.category = 1
      · rw [if_pos hc] at h; cases h
        obtain ⟨w, st3, rfl, hw, hs2⟩ := hm_vs_cons hst
        obtain ⟨w2, st4, rfl, hw2, hs3⟩ := hm_vs_cons hs2
        exact lv_dup2_11 hx hb hdg ((hm_v_cat hw).trans hc.1) ((hm_v_cat hw2).trans hc.2) (kk ls lv' _ hl hlv ⟨hw, hw2, hw, hw2, hs3⟩)
      · rw [if_neg hc] at h; cases h
    · cases h
  · split at h
    · rename_i v r2
      by_cases hc : v.category = 2
      · rw [if_pos hc] at h; cases h
        obtain ⟨w, st3, rfl, hw, hs2⟩ := hm_vs_cons hst
        exact lv_pop2_2 hx hb hdg ((hm_v_cat hw).trans hc) (kk ls lv' _ hl hlv hs2)
      · rw [if_neg hc] at h; cases h
    · cases h
  · rename_i k n
    split at h
    · rename_i x hv
      cases h
      obtain ⟨w, hw, hmem⟩ := hm_lv_mem hlv k (.int x) (hm_at_mem hv)
      cases hw
      obtain ⟨j, hj⟩ := List.getElem?_of_mem hmem
      have hlt : k < nL := by
        have h3 := hl.2.2 _ hmem
        have h4 := lv_lt h3
        rw [hl.1] at h4
        exact h4
      exact lv_iinc hx hb hdg hl hj rfl hlt rfl (fun ls2 h2 => kk ls2 _ _ h2 (hm_lv_st1 hlv k rfl) hst)
    · cases h
  · cases h
theorem hm_go_some {b : Bool} {off : Int} {st2 : List Value} (h : hm_go b pc off lv st2 = some (len, r)) : ∃ t : Nat, (pc : Int) + off = (t : Int) ∧ len = 3 ∧ r = (((if b = true then t else pc + 3 : Nat), lv, st2) : hm_P) := by
  unfold hm_go at h
  split at h
  · cases h
  · rename_i t ht
    cases h
    exact ⟨t, hm_tg_ok ht, rfl, rfl⟩
theorem hm_simB (hx : p.tables.exec = Jvm.exec) (hb : c.code = cc) (hdg : decode cc pc = .ok (i, len)) (hl : lv_has ls nL lv') (hlv : hm_lv as lv lv') (hst : hm_vs as st st') (h : hm_gB i pc lv st = some (len, r))
    (kk : hm_on p l e R s m args below meth c H locs cells slots Q as nL r) : W p l e R s m args below meth c H locs cells slots Q (F0 m pc ls st') := by
  unfold hm_gB at h
  split at h
  · rename_i cd off
    split at h
    · rename_i x r2
      obtain ⟨t, ht, rfl, rfl⟩ := hm_go_some h
      obtain ⟨w, st3, rfl, hw, hs2⟩ := hm_vs_cons hst
      cases hw
      have K := kk ls lv' st3 hl hlv hs2
      dsimp only at K
      cases cd
      · exact lv_if_eq hx hb hdg ht (fun z => by rw [hm_c1, if_pos (by simp [z])] at K; exact K) (fun z => by rw [hm_c1, if_neg (by simp [z])] at K; exact K)
      · exact lv_if_ne hx hb hdg ht (fun z => by rw [hm_c1, if_pos (by simp [z])] at K; exact K) (fun z => by rw [hm_c1, if_neg (by simp [z])] at K; exact K)
      · exact lv_if_lt hx hb hdg ht (fun z => by rw [hm_c1, if_pos (by simp [z])] at K; exact K) (fun z => by rw [hm_c1, if_neg (by simp [z])] at K; exact K)
      · exact lv_if_ge hx hb hdg ht (fun z => by rw [hm_c1, if_pos (by simp [z])] at K; exact K) (fun z => by rw [hm_c1, if_neg (by simp [z])] at K; exact K)
      · exact lv_if_gt hx hb hdg ht (fun z => by rw [hm_c1, if_pos (by simp [z])] at K; exact K) (fun z => by rw [hm_c1, if_neg (by simp [z])] at K; exact K)
      · exact lv_if_le hx hb hdg ht (fun z => by rw [hm_c1, if_pos (by simp [z])] at K; exact K) (fun z => by rw [hm_c1, if_neg (by simp [z])] at K; exact K)
    · cases h
  · rename_i cd off
    split at h
    · rename_i y x r2
      obtain ⟨t, ht, rfl, rfl⟩ := hm_go_some h
      obtain ⟨w, st3, rfl, hw, hs2⟩ := hm_vs_cons hst
      cases hw
      obtain ⟨w, st4, rfl, hw, hs3⟩ := hm_vs_cons hs2
      cases hw
      have K := kk ls lv' st4 hl hlv hs3
      dsimp only at K
      cases cd
      · exact lv_icmp_eq hx hb hdg ht (fun z => by rw [hm_c2, if_pos (by simp [z])] at K; exact K) (fun z => by rw [hm_c2, if_neg (by simp [z])] at K; exact K)
      · exact lv_icmp_ne hx hb hdg ht (fun z => by rw [hm_c2, if_pos (by simp [z])] at K; exact K) (fun z => by rw [hm_c2, if_neg (by simp [z])] at K; exact K)
      · exact lv_icmp_lt hx hb hdg ht (fun z => by rw [hm_c2, if_pos (by simp [z])] at K; exact K) (fun z => by rw [hm_c2, if_neg (by simp [z])] at K; exact K)
      · exact lv_icmp_ge hx hb hdg ht (fun z => by rw [hm_c2, if_pos (by simp [z])] at K; exact K) (fun z => by rw [hm_c2, if_neg (by simp [z])] at K; exact K)
      · exact lv_icmp_gt hx hb hdg ht (fun z => by rw [hm_c2, if_pos (by simp [z])] at K; exact K) (fun z => by rw [hm_c2, if_neg (by simp [z])] at K; exact K)
      · exact lv_icmp_le hx hb hdg ht (fun z => by rw [hm_c2, if_pos (by simp [z])] at K; exact K) (fun z => by rw [hm_c2, if_neg (by simp [z])] at K; exact K)
    · cases h
  · rename_i off
    split at h
    · obtain ⟨t, ht, rfl, rfl⟩ := hm_go_some h
      obtain ⟨w, st3, rfl, hw, hs2⟩ := hm_vs_cons hst
      obtain ⟨a, -, rfl⟩ := hw
      exact lv_ifnull hx hb hdg (kk ls lv' st3 hl hlv hs2)
    · obtain ⟨t, ht, rfl, rfl⟩ := hm_go_some h
      obtain ⟨w, st3, rfl, hw, hs2⟩ := hm_vs_cons hst
      cases hw
      exact lv_ifnullN hx hb hdg ht (kk ls lv' st3 hl hlv hs2)
    · cases h
  · rename_i off
    split at h
    · obtain ⟨t, ht, rfl, rfl⟩ := hm_go_some h
      obtain ⟨w, st3, rfl, hw, hs2⟩ := hm_vs_cons hst
      obtain ⟨a, -, rfl⟩ := hw
      exact lv_ifnonnull hx hb hdg ht (kk ls lv' st3 hl hlv hs2)
    · obtain ⟨t, ht, rfl, rfl⟩ := hm_go_some h
      obtain ⟨w, st3, rfl, hw, hs2⟩ := hm_vs_cons hst
      cases hw
      exact lv_ifnonnullN hx hb hdg (kk ls lv' st3 hl hlv hs2)
    · cases h
  · obtain ⟨t, ht, rfl, rfl⟩ := hm_go_some h
    exact lv_goto hx hb hdg ht (kk ls lv' st' hl hlv hst)
  · cases h
theorem hm_simW (hx : p.tables.exec = Jvm.exec) (hb : c.code = cc) (hdg : decode cc pc = .ok (i, len)) (hl : lv_has ls nL lv') (hlv : hm_lv as lv lv') (hst : hm_vs as st st') (h : hm_gW i pc lv st = some r)
    (kk : hm_on p l e R s m args below meth c H locs cells slots Q as nL r) : W p l e R s m args below meth c H locs cells slots Q (F0 m pc ls st') := by
  unfold hm_gW at h
  split at h
  · split at h
    · rename_i dflt ps _ x r2
      by_cases hp : (ps.toList.zip (ps.toList.drop 1)).all (fun (a, next) => a.1 < next.1) = true
      · rw [if_pos hp] at h
        obtain ⟨t, ht, rfl⟩ := Option.map_eq_some_iff.mp h
        obtain ⟨w, st3, rfl, hw, hs2⟩ := hm_vs_cons hst
        cases hw
        exact lv_lookup hx hb hdg hp rfl (hm_tg_ok ht) (kk ls lv' st3 hl hlv hs2)
      · rw [if_neg hp] at h; cases h
    · cases h
  · split at h
    · rename_i dflt lo hi offs _ x r2
      obtain ⟨w, st3, rfl, hw, hs2⟩ := hm_vs_cons hst
      cases hw
      by_cases ho : x.toInt < lo ∨ hi < x.toInt
      · rw [if_pos ho] at h
        obtain ⟨t, ht, rfl⟩ := Option.map_eq_some_iff.mp h
        exact lv_tableOut hx hb hdg ho (hm_tg_ok ht) (kk ls lv' st3 hl hlv hs2)
      · rw [if_neg ho] at h
        split at h
        · rename_i off hoff
          obtain ⟨t, ht, rfl⟩ := Option.map_eq_some_iff.mp h
          exact lv_tableIn hx hb hdg (fun z => ho (Or.inl z)) (fun z => ho (Or.inr z)) hoff (hm_tg_ok ht) (kk ls lv' st3 hl hlv hs2)
        · cases h
    · cases h
  · cases h
end PSIM
