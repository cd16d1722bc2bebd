set_option maxHeartbeats 4000000 in
set_option maxRecDepth 100000 in
theorem t_T_isOffice (l : Launch) (D : va_G) (cM cG cI cJ : ClassId) (o am ag : Nat) (pm pg : Nat → Nat) (off : Int32) (nm ng : Nat) (now : Int32) (F : Nat → Nat → Int32) (R : Nat → Int32) (x : Int32) : Met l y_T_isOffice (Cond.code y_T_isOffice c_T_isOffice 2 (some .boolean) :: tw_L) ({ frames := 0, cells := 0, slots := 0, locals := 0 } : Room) (pu_P (fun _ => va_P D cl_L (ws_C cM cG o am ag pm pg (off, nm, ng, now, F, R))) (yt_P D cM cG cI cJ) [.ref o, .int x]) (vp_Si (fun r => (r = 1 ∧ is_of off x) ∨ (r = 0 ∧ ¬ is_of off x))) 0 0 no_A := by
  refine Met.ofW (cc := c_T_isOffice) (maxL := 2) (ret := (some .boolean)) (by decide) rfl ?_
  intro p e s m args below meth c s₁ B hml hv
  obtain ⟨rfl, hX, hY⟩ := hv
  have hx := B.exec
  have hb := B.bytes
  have hr := B.returns
  have htw : ∀ w ∈ tw_L, w.before _ s = true := fun w hw => atoms_spec (ws := (Cond.code y_T_isOffice c_T_isOffice 2 (some .boolean) :: tw_L)) B.pre w (List.mem_cons_of_mem _ hw)
  have hown : s.vm.findClass R_T = some m.cls := findClass_of_methodNamed B.named
  have hlocks := B.notSynchronized
  have hC : CallFix p m c c_T_isOffice 2 s _ tw_L R_T := ⟨hx, hb, hml, hown, htw⟩
  have hK := hY.1
  have hl := lv_entry ([.ref o, .int x]) (n := 2) (Nat.le_of_ble_eq_true rfl)
  rw [lg_entry_eq]
  generalize (lg_sl ([.ref o, .int x]) ++ List.replicate (2 - (lg_sl ([.ref o, .int x])).length) Slot.unset).toArray = ls at hl ⊢
  have hl : lv_has ls 2 [(0, .ref o), (1, .int x)] := hl
  have hP := hX
  refine lv_iload_n hx hb d_T_isOffice_0 rfl (lv_at hl 1 rfl) ?_
  refine lv_if_lt (tgt := 16) hx hb d_T_isOffice_1 (by decide) (fun c1 => ?_) (fun c1 => ?_)
  · refine lv_iconst (v := 0) hx hb d_T_isOffice_16 (by decide) ?_
    exact W.zret (v := 0) hx hb hr (by decide) (fun t ht hW => ⟨_, rfl, Or.inr ⟨rfl, fun q => q.1 c1⟩, ht⟩) (fun q h => nomatch h) d_T_isOffice_17
  · refine lv_iload_n hx hb d_T_isOffice_4 rfl (lv_at hl 1 rfl) ?_
    refine lv_aload_n hx hb d_T_isOffice_5 rfl (lv_at hl 0 rfl) ?_
    refine va_get (D := D) (C := R_T) (T := F_T) (N := 6) hx hb htw uw_T hown hK hP 0 rfl rfl 0 (by decide) (htw _ k_T_31) (fun _ h9 => h9) rfl d_T_isOffice_6 ?_
    refine lv_icmp_ge (tgt := 16) hx hb d_T_isOffice_9 (by decide) (fun c2 => ?_) (fun c2 => ?_)
    · refine lv_iconst (v := 0) hx hb d_T_isOffice_16 (by decide) ?_
      exact W.zret (v := 0) hx hb hr (by decide) (fun t ht hW => ⟨_, rfl, Or.inr ⟨rfl, fun q => absurd q.2 (Int32.not_lt.mpr c2)⟩, ht⟩) (fun q h => nomatch h) d_T_isOffice_17
    · refine lv_iconst (v := 1) hx hb d_T_isOffice_12 (by decide) ?_
      refine lv_goto (tgt := 17) hx hb d_T_isOffice_13 (by decide) ?_
      exact W.zret (v := 1) hx hb hr (by decide) (fun t ht hW => ⟨_, rfl, Or.inl ⟨rfl, c1, Int32.not_le.mp c2⟩, ht⟩) (fun q h => nomatch h) d_T_isOffice_17
theorem fd_ix {x : Int32} {n : Nat} {N : Int32} (h1 : ¬ x < 0) (h2 : ¬ N ≤ x) (hN : N.toInt = n := by rfl) (hn : n < 2147483648 := by decide) : ∃ j : Nat, j < n ∧ x = nI j := by
  refine ix_of hn ⟨h1, ?_⟩
  rw [i_lt, i_nI hn, ← hN]
  rw [i_le] at h2
  omega
theorem fd_post {n j cap : Nat} {p : Nat → Nat} (hj : j < cap) (hc : cap ≤ 200 := by decide) : (∃ k : Nat, k < n ∧ nI j = nI k ∧ rf_s p n j = some (p k)) ∨ (rf_s p n j = none ∧ ¬ is_ix n (nI j)) := by
  by_cases h : j < n
  · exact Or.inl ⟨j, h, rfl, rf_at h⟩
  · refine Or.inr ⟨rf_no (by omega), fun q => ?_⟩
    have h2 := q.2
    by_cases hn : n < 2147483648
    · rw [i_lt, i_nI (by omega), i_nI hn] at h2; omega
    · omega
theorem fd_no {x N : Int32} {n cap : Nat} (h : N ≤ x) (hc : n ≤ cap) (q : is_ix n x) (hN : N.toInt = cap := by rfl) (hk : cap ≤ 200 := by decide) : False := by
  have h2 := q.2
  rw [i_lt, i_nI (by omega)] at h2
  rw [i_le] at h
  omega
set_option maxHeartbeats 4000000 in
set_option maxRecDepth 100000 in
theorem t_T_findMovement (l : Launch) (D : va_G) (cM cG cI cJ : ClassId) (o am ag : Nat) (pm pg : Nat → Nat) (off : Int32) (nm ng : Nat) (now : Int32) (F : Nat → Nat → Int32) (R : Nat → Int32) (x : Int32) (hcap : nm ≤ 20) : Met l y_T_findMovement (Cond.code y_T_findMovement c_T_findMovement 2 (some (.object "TransitSteps$Movement")) :: tw_L) ({ frames := 0, cells := 0, slots := 0, locals := 0 } : Room) (pu_P (fun _ => va_P D cl_L (ws_C cM cG o am ag pm pg (off, nm, ng, now, F, R))) (yt_P D cM cG cI cJ) [.ref o, .int x]) (va_Sq (fun r => (∃ j : Nat, j < nm ∧ x = nI j ∧ r = some (pm j)) ∨ (r = none ∧ ¬ is_ix nm x))) 0 0 no_A := by
  refine Met.ofW (cc := c_T_findMovement) (maxL := 2) (ret := (some (.object "TransitSteps$Movement"))) (by decide) rfl ?_
  intro p e s m args below meth c s₁ B hml hv
  obtain ⟨rfl, hX, hY⟩ := hv
  have hx := B.exec
  have hb := B.bytes
  have hr := B.returns
  have htw : ∀ w ∈ tw_L, w.before _ s = true := fun w hw => atoms_spec (ws := (Cond.code y_T_findMovement c_T_findMovement 2 (some (.object "TransitSteps$Movement")) :: tw_L)) B.pre w (List.mem_cons_of_mem _ hw)
  have hown : s.vm.findClass R_T = some m.cls := findClass_of_methodNamed B.named
  have hlocks := B.notSynchronized
  have hC : CallFix p m c c_T_findMovement 2 s _ tw_L R_T := ⟨hx, hb, hml, hown, htw⟩
  have hK := hY.1
  have hl := lv_entry ([.ref o, .int x]) (n := 2) (Nat.le_of_ble_eq_true rfl)
  rw [lg_entry_eq]
  generalize (lg_sl ([.ref o, .int x]) ++ List.replicate (2 - (lg_sl ([.ref o, .int x])).length) Slot.unset).toArray = ls at hl ⊢
  have hl : lv_has ls 2 [(0, .ref o), (1, .int x)] := hl
  have hP := hX
  refine lv_iload_n hx hb d_T_findMovement_0 rfl (lv_at hl 1 rfl) ?_
  refine lv_if_lt (tgt := 22) hx hb d_T_findMovement_1 (by decide) (fun c1 => ?_) (fun c1 => ?_)
  · refine lv_null hx hb d_T_findMovement_22 ?_
    exact W.aret (v := .null) hx hb hr (Or.inl ⟨_, rfl⟩) (Or.inl rfl) (fun t ht hW => ⟨none, rfl, Or.inr ⟨rfl, fun q => q.1 c1⟩, ht⟩) (fun q h => nomatch h) d_T_findMovement_23
  · refine lv_iload_n hx hb d_T_findMovement_4 rfl (lv_at hl 1 rfl) ?_
    refine lv_aload_n hx hb d_T_findMovement_5 rfl (lv_at hl 0 rfl) ?_
    refine va_get (D := D) (C := R_T) (T := F_T) (N := 6) hx hb htw uw_T hown hK hP 0 rfl rfl 1 (by decide) (htw _ k_T_11) (fun _ h9 => h9) rfl d_T_findMovement_6 ?_
    refine va_alen (v := 20) hx hb hK hP 1 0 rfl rfl rfl d_T_findMovement_9 ?_
    refine lv_icmp_ge (tgt := 22) hx hb d_T_findMovement_10 (by decide) (fun c2 => ?_) (fun c2 => ?_)
    · refine lv_null hx hb d_T_findMovement_22 ?_
      exact W.aret (v := .null) hx hb hr (Or.inl ⟨_, rfl⟩) (Or.inl rfl) (fun t ht hW => ⟨none, rfl, Or.inr ⟨rfl, fun q => fd_no c2 hcap q⟩, ht⟩) (fun q h => nomatch h) d_T_findMovement_23
    · refine lv_aload_n hx hb d_T_findMovement_13 rfl (lv_at hl 0 rfl) ?_
      refine va_get (D := D) (C := R_T) (T := F_T) (N := 6) hx hb htw uw_T hown hK hP 0 rfl rfl 1 (by decide) (htw _ k_T_11) (fun _ h9 => h9) rfl d_T_findMovement_14 ?_
      refine lv_iload_n hx hb d_T_findMovement_17 rfl (lv_at hl 1 rfl) ?_
      obtain ⟨j, hj, rfl⟩ : ∃ j : Nat, j < 20 ∧ x = nI j := fd_ix c1 c2
      refine va_aldq hx hb hK hP 1 0 rfl rfl (vp_in_nI hj (by decide)) d_T_findMovement_18 ?_
      rw [nI_clamp (Nat.lt_trans hj (by decide))]
      refine lv_goto (tgt := 23) hx hb d_T_findMovement_19 (by decide) ?_
      exact W.aret (v := va_rf (rf_s pm nm j)) hx hb hr (Or.inl ⟨_, rfl⟩) (va_rf_or _) (fun t ht hW => ⟨(rf_s pm nm j), rfl, fd_post hj, ht⟩) (fun q h => nomatch h) d_T_findMovement_23
set_option maxHeartbeats 4000000 in
set_option maxRecDepth 100000 in
theorem t_T_findMessage (l : Launch) (D : va_G) (cM cG cI cJ : ClassId) (o am ag : Nat) (pm pg : Nat → Nat) (off : Int32) (nm ng : Nat) (now : Int32) (F : Nat → Nat → Int32) (R : Nat → Int32) (x : Int32) (hcap : ng ≤ 200) : Met l y_T_findMessage (Cond.code y_T_findMessage c_T_findMessage 2 (some (.object "TransitSteps$Message")) :: tw_L) ({ frames := 0, cells := 0, slots := 0, locals := 0 } : Room) (pu_P (fun _ => va_P D cl_L (ws_C cM cG o am ag pm pg (off, nm, ng, now, F, R))) (yt_P D cM cG cI cJ) [.ref o, .int x]) (va_Sq (fun r => (∃ j : Nat, j < ng ∧ x = nI j ∧ r = some (pg j)) ∨ (r = none ∧ ¬ is_ix ng x))) 0 0 no_A := by
  refine Met.ofW (cc := c_T_findMessage) (maxL := 2) (ret := (some (.object "TransitSteps$Message"))) (by decide) rfl ?_
  intro p e s m args below meth c s₁ B hml hv
  obtain ⟨rfl, hX, hY⟩ := hv
  have hx := B.exec
  have hb := B.bytes
  have hr := B.returns
  have htw : ∀ w ∈ tw_L, w.before _ s = true := fun w hw => atoms_spec (ws := (Cond.code y_T_findMessage c_T_findMessage 2 (some (.object "TransitSteps$Message")) :: tw_L)) B.pre w (List.mem_cons_of_mem _ hw)
  have hown : s.vm.findClass R_T = some m.cls := findClass_of_methodNamed B.named
  have hlocks := B.notSynchronized
  have hC : CallFix p m c c_T_findMessage 2 s _ tw_L R_T := ⟨hx, hb, hml, hown, htw⟩
  have hK := hY.1
  have hl := lv_entry ([.ref o, .int x]) (n := 2) (Nat.le_of_ble_eq_true rfl)
  rw [lg_entry_eq]
  generalize (lg_sl ([.ref o, .int x]) ++ List.replicate (2 - (lg_sl ([.ref o, .int x])).length) Slot.unset).toArray = ls at hl ⊢
  have hl : lv_has ls 2 [(0, .ref o), (1, .int x)] := hl
  have hP := hX
  refine lv_iload_n hx hb d_T_findMessage_0 rfl (lv_at hl 1 rfl) ?_
  refine lv_if_lt (tgt := 22) hx hb d_T_findMessage_1 (by decide) (fun c1 => ?_) (fun c1 => ?_)
  · refine lv_null hx hb d_T_findMessage_22 ?_
    exact W.aret (v := .null) hx hb hr (Or.inl ⟨_, rfl⟩) (Or.inl rfl) (fun t ht hW => ⟨none, rfl, Or.inr ⟨rfl, fun q => q.1 c1⟩, ht⟩) (fun q h => nomatch h) d_T_findMessage_23
  · refine lv_iload_n hx hb d_T_findMessage_4 rfl (lv_at hl 1 rfl) ?_
    refine lv_aload_n hx hb d_T_findMessage_5 rfl (lv_at hl 0 rfl) ?_
    refine va_get (D := D) (C := R_T) (T := F_T) (N := 6) hx hb htw uw_T hown hK hP 0 rfl rfl 2 (by decide) (htw _ k_T_17) (fun _ h9 => h9) rfl d_T_findMessage_6 ?_
    refine va_alen (v := 200) hx hb hK hP 2 1 rfl rfl rfl d_T_findMessage_9 ?_
    refine lv_icmp_ge (tgt := 22) hx hb d_T_findMessage_10 (by decide) (fun c2 => ?_) (fun c2 => ?_)
    · refine lv_null hx hb d_T_findMessage_22 ?_
      exact W.aret (v := .null) hx hb hr (Or.inl ⟨_, rfl⟩) (Or.inl rfl) (fun t ht hW => ⟨none, rfl, Or.inr ⟨rfl, fun q => fd_no c2 hcap q⟩, ht⟩) (fun q h => nomatch h) d_T_findMessage_23
    · refine lv_aload_n hx hb d_T_findMessage_13 rfl (lv_at hl 0 rfl) ?_
      refine va_get (D := D) (C := R_T) (T := F_T) (N := 6) hx hb htw uw_T hown hK hP 0 rfl rfl 2 (by decide) (htw _ k_T_17) (fun _ h9 => h9) rfl d_T_findMessage_14 ?_
      refine lv_iload_n hx hb d_T_findMessage_17 rfl (lv_at hl 1 rfl) ?_
      obtain ⟨j, hj, rfl⟩ : ∃ j : Nat, j < 200 ∧ x = nI j := fd_ix c1 c2
      refine va_aldq hx hb hK hP 2 1 rfl rfl (vp_in_nI hj (by decide)) d_T_findMessage_18 ?_
      rw [nI_clamp (Nat.lt_trans hj (by decide))]
      refine lv_goto (tgt := 23) hx hb d_T_findMessage_19 (by decide) ?_
      exact W.aret (v := va_rf (rf_s pg ng j)) hx hb hr (Or.inl ⟨_, rfl⟩) (va_rf_or _) (fun t ht hW => ⟨(rf_s pg ng j), rfl, fd_post hj, ht⟩) (fun q h => nomatch h) d_T_findMessage_23
