set_option maxHeartbeats 4000000 in
set_option maxRecDepth 100000 in
theorem t_V_haveArrived (l : Launch) (D : va_G) (cM cG cI cJ : ClassId) (h : Nat) (F : Nat → Nat → Int32) (i : Nat) : Met l y_V_haveArrived (Cond.code y_V_haveArrived c_V_haveArrived 1 (some .boolean) :: tw_L) ({ frames := 0, cells := 0, slots := 0, locals := 0 } : Room) (pu_P (fun _ => va_P D cl_L [(h, .inr (1, mv_L F i))]) (yt_P D cM cG cI cJ) [.ref h]) (vp_Si (fun r => (r = 1 ∧ ¬ F 6 i = -1) ∨ (r = 0 ∧ F 6 i = -1))) 0 0 no_A := by
  refine Met.ofW (cc := c_V_haveArrived) (maxL := 1) (ret := (some .boolean)) (by decide) rfl ?_
  intro p e s m args below meth c s₁ B hml hv
  obtain ⟨rfl, hX, hY⟩ := hv
  have hx := B.exec
  have hb := B.bytes
  have hr := B.returns
  have htw : ∀ w ∈ tw_L, w.before _ s = true := fun w hw => atoms_spec (ws := (Cond.code y_V_haveArrived c_V_haveArrived 1 (some .boolean) :: tw_L)) B.pre w (List.mem_cons_of_mem _ hw)
  have hown : s.vm.findClass R_V = some m.cls := findClass_of_methodNamed B.named
  have hlocks := B.notSynchronized
  have hC : CallFix p m c c_V_haveArrived 1 s _ tw_L R_V := ⟨hx, hb, hml, hown, htw⟩
  have hK := hY.1
  have hl := lv_entry ([.ref h]) (n := 1) (Nat.le_of_ble_eq_true rfl)
  rw [lg_entry_eq]
  generalize (lg_sl ([.ref h]) ++ List.replicate (1 - (lg_sl ([.ref h])).length) Slot.unset).toArray = ls at hl ⊢
  have hl : lv_has ls 1 [(0, .ref h)] := hl
  have hP := hX
  refine lv_aload_n hx hb d_V_haveArrived_0 rfl (lv_at hl 0 rfl) ?_
  refine va_get (D := D) (C := R_V) (T := F_V) (N := 19) hx hb htw uw_V hown hK hP 0 rfl rfl 6 (by decide) (htw _ k_V_9) (fun _ h9 => h9) rfl d_V_haveArrived_1 ?_
  refine lv_iconst (v := (-1)) hx hb d_V_haveArrived_4 (by decide) ?_
  refine lv_icmp_eq (tgt := 12) hx hb d_V_haveArrived_5 (by decide) (fun c1 => ?_) (fun c1 => ?_)
  · refine lv_iconst (v := 0) hx hb d_V_haveArrived_12 (by decide) ?_
    exact W.zret (v := 0) hx hb hr (by decide) (fun t ht hW => ⟨_, rfl, Or.inr ⟨rfl, c1⟩, ht⟩) (fun q h => nomatch h) d_V_haveArrived_13
  · refine lv_iconst (v := 1) hx hb d_V_haveArrived_8 (by decide) ?_
    refine lv_goto (tgt := 13) hx hb d_V_haveArrived_9 (by decide) ?_
    exact W.zret (v := 1) hx hb hr (by decide) (fun t ht hW => ⟨_, rfl, Or.inl ⟨rfl, c1⟩, ht⟩) (fun q h => nomatch h) d_V_haveArrived_13
set_option maxHeartbeats 4000000 in
set_option maxRecDepth 100000 in
theorem t_V_wereControlled (l : Launch) (D : va_G) (cM cG cI cJ : ClassId) (h : Nat) (F : Nat → Nat → Int32) (i : Nat) : Met l y_V_wereControlled (Cond.code y_V_wereControlled c_V_wereControlled 1 (some .boolean) :: tw_L) ({ frames := 0, cells := 0, slots := 0, locals := 0 } : Room) (pu_P (fun _ => va_P D cl_L [(h, .inr (1, mv_L F i))]) (yt_P D cM cG cI cJ) [.ref h]) (vp_Si (fun r => (r = 1 ∧ ¬ F 9 i = -1) ∨ (r = 0 ∧ F 9 i = -1))) 0 0 no_A := by
  refine Met.ofW (cc := c_V_wereControlled) (maxL := 1) (ret := (some .boolean)) (by decide) rfl ?_
  intro p e s m args below meth c s₁ B hml hv
  obtain ⟨rfl, hX, hY⟩ := hv
  have hx := B.exec
  have hb := B.bytes
  have hr := B.returns
  have htw : ∀ w ∈ tw_L, w.before _ s = true := fun w hw => atoms_spec (ws := (Cond.code y_V_wereControlled c_V_wereControlled 1 (some .boolean) :: tw_L)) B.pre w (List.mem_cons_of_mem _ hw)
  have hown : s.vm.findClass R_V = some m.cls := findClass_of_methodNamed B.named
  have hlocks := B.notSynchronized
  have hC : CallFix p m c c_V_wereControlled 1 s _ tw_L R_V := ⟨hx, hb, hml, hown, htw⟩
  have hK := hY.1
  have hl := lv_entry ([.ref h]) (n := 1) (Nat.le_of_ble_eq_true rfl)
  rw [lg_entry_eq]
  generalize (lg_sl ([.ref h]) ++ List.replicate (1 - (lg_sl ([.ref h])).length) Slot.unset).toArray = ls at hl ⊢
  have hl : lv_has ls 1 [(0, .ref h)] := hl
  have hP := hX
  refine lv_aload_n hx hb d_V_wereControlled_0 rfl (lv_at hl 0 rfl) ?_
  refine va_get (D := D) (C := R_V) (T := F_V) (N := 19) hx hb htw uw_V hown hK hP 0 rfl rfl 9 (by decide) (htw _ k_V_22) (fun _ h9 => h9) rfl d_V_wereControlled_1 ?_
  refine lv_iconst (v := (-1)) hx hb d_V_wereControlled_4 (by decide) ?_
  refine lv_icmp_eq (tgt := 12) hx hb d_V_wereControlled_5 (by decide) (fun c1 => ?_) (fun c1 => ?_)
  · refine lv_iconst (v := 0) hx hb d_V_wereControlled_12 (by decide) ?_
    exact W.zret (v := 0) hx hb hr (by decide) (fun t ht hW => ⟨_, rfl, Or.inr ⟨rfl, c1⟩, ht⟩) (fun q h => nomatch h) d_V_wereControlled_13
  · refine lv_iconst (v := 1) hx hb d_V_wereControlled_8 (by decide) ?_
    refine lv_goto (tgt := 13) hx hb d_V_wereControlled_9 (by decide) ?_
    exact W.zret (v := 1) hx hb hr (by decide) (fun t ht hW => ⟨_, rfl, Or.inl ⟨rfl, c1⟩, ht⟩) (fun q h => nomatch h) d_V_wereControlled_13
set_option maxHeartbeats 4000000 in
set_option maxRecDepth 100000 in
theorem t_V_hasEnded (l : Launch) (D : va_G) (cM cG cI cJ : ClassId) (h : Nat) (F : Nat → Nat → Int32) (i : Nat) : Met l y_V_hasEnded (Cond.code y_V_hasEnded c_V_hasEnded 1 (some .boolean) :: tw_L) ({ frames := 0, cells := 0, slots := 0, locals := 0 } : Room) (pu_P (fun _ => va_P D cl_L [(h, .inr (1, mv_L F i))]) (yt_P D cM cG cI cJ) [.ref h]) (vp_Si (fun r => (r = 1 ∧ is_en (F 10 i)) ∨ (r = 0 ∧ ¬ is_en (F 10 i)))) 0 0 no_A := by
  refine Met.ofW (cc := c_V_hasEnded) (maxL := 1) (ret := (some .boolean)) (by decide) rfl ?_
  intro p e s m args below meth c s₁ B hml hv
  obtain ⟨rfl, hX, hY⟩ := hv
  have hx := B.exec
  have hb := B.bytes
  have hr := B.returns
  have htw : ∀ w ∈ tw_L, w.before _ s = true := fun w hw => atoms_spec (ws := (Cond.code y_V_hasEnded c_V_hasEnded 1 (some .boolean) :: tw_L)) B.pre w (List.mem_cons_of_mem _ hw)
  have hown : s.vm.findClass R_V = some m.cls := findClass_of_methodNamed B.named
  have hlocks := B.notSynchronized
  have hC : CallFix p m c c_V_hasEnded 1 s _ tw_L R_V := ⟨hx, hb, hml, hown, htw⟩
  have hK := hY.1
  have hl := lv_entry ([.ref h]) (n := 1) (Nat.le_of_ble_eq_true rfl)
  rw [lg_entry_eq]
  generalize (lg_sl ([.ref h]) ++ List.replicate (1 - (lg_sl ([.ref h])).length) Slot.unset).toArray = ls at hl ⊢
  have hl : lv_has ls 1 [(0, .ref h)] := hl
  have hP := hX
  refine lv_aload_n hx hb d_V_hasEnded_0 rfl (lv_at hl 0 rfl) ?_
  refine va_get (D := D) (C := R_V) (T := F_V) (N := 19) hx hb htw uw_V hown hK hP 0 rfl rfl 10 (by decide) (htw _ k_V_25) (fun _ h9 => h9) rfl d_V_hasEnded_1 ?_
  refine lv_iconst (v := 5) hx hb d_V_hasEnded_4 (by decide) ?_
  refine lv_icmp_eq (tgt := 17) hx hb d_V_hasEnded_5 (by decide) (fun c1 => ?_) (fun c1 => ?_)
  · refine lv_iconst (v := 1) hx hb d_V_hasEnded_17 (by decide) ?_
    refine lv_goto (tgt := 22) hx hb d_V_hasEnded_18 (by decide) ?_
    exact W.zret (v := 1) hx hb hr (by decide) (fun t ht hW => ⟨_, rfl, Or.inl ⟨rfl, Or.inl c1⟩, ht⟩) (fun q h => nomatch h) d_V_hasEnded_22
  · refine lv_aload_n hx hb d_V_hasEnded_8 rfl (lv_at hl 0 rfl) ?_
    refine va_get (D := D) (C := R_V) (T := F_V) (N := 19) hx hb htw uw_V hown hK hP 0 rfl rfl 10 (by decide) (htw _ k_V_25) (fun _ h9 => h9) rfl d_V_hasEnded_9 ?_
    refine lv_bipush (v := 6) hx hb d_V_hasEnded_12 (by decide) ?_
    refine lv_icmp_ne (tgt := 21) hx hb d_V_hasEnded_14 (by decide) (fun c2 => ?_) (fun c2 => ?_)
    · refine lv_iconst (v := 0) hx hb d_V_hasEnded_21 (by decide) ?_
      exact W.zret (v := 0) hx hb hr (by decide) (fun t ht hW => ⟨_, rfl, Or.inr ⟨rfl, fun q => q.elim c1 c2⟩, ht⟩) (fun q h => nomatch h) d_V_hasEnded_22
    · refine lv_iconst (v := 1) hx hb d_V_hasEnded_17 (by decide) ?_
      refine lv_goto (tgt := 22) hx hb d_V_hasEnded_18 (by decide) ?_
      exact W.zret (v := 1) hx hb hr (by decide) (fun t ht hW => ⟨_, rfl, Or.inl ⟨rfl, Or.inr c2⟩, ht⟩) (fun q h => nomatch h) d_V_hasEnded_22
set_option maxHeartbeats 4000000 in
set_option maxRecDepth 100000 in
theorem t_V_isAwaited (l : Launch) (D : va_G) (cM cG cI cJ : ClassId) (h : Nat) (F : Nat → Nat → Int32) (i : Nat) : Met l y_V_isAwaited (Cond.code y_V_isAwaited c_V_isAwaited 1 (some .boolean) :: tw_L) ({ frames := 0, cells := 0, slots := 0, locals := 0 } : Room) (pu_P (fun _ => va_P D cl_L [(h, .inr (1, mv_L F i))]) (yt_P D cM cG cI cJ) [.ref h]) (vp_Si (fun r => (r = 1 ∧ is_aw (F 10 i)) ∨ (r = 0 ∧ ¬ is_aw (F 10 i)))) 0 0 no_A := by
  refine Met.ofW (cc := c_V_isAwaited) (maxL := 1) (ret := (some .boolean)) (by decide) rfl ?_
  intro p e s m args below meth c s₁ B hml hv
  obtain ⟨rfl, hX, hY⟩ := hv
  have hx := B.exec
  have hb := B.bytes
  have hr := B.returns
  have htw : ∀ w ∈ tw_L, w.before _ s = true := fun w hw => atoms_spec (ws := (Cond.code y_V_isAwaited c_V_isAwaited 1 (some .boolean) :: tw_L)) B.pre w (List.mem_cons_of_mem _ hw)
  have hown : s.vm.findClass R_V = some m.cls := findClass_of_methodNamed B.named
  have hlocks := B.notSynchronized
  have hC : CallFix p m c c_V_isAwaited 1 s _ tw_L R_V := ⟨hx, hb, hml, hown, htw⟩
  have hK := hY.1
  have hl := lv_entry ([.ref h]) (n := 1) (Nat.le_of_ble_eq_true rfl)
  rw [lg_entry_eq]
  generalize (lg_sl ([.ref h]) ++ List.replicate (1 - (lg_sl ([.ref h])).length) Slot.unset).toArray = ls at hl ⊢
  have hl : lv_has ls 1 [(0, .ref h)] := hl
  have hP := hX
  refine lv_aload_n hx hb d_V_isAwaited_0 rfl (lv_at hl 0 rfl) ?_
  refine va_get (D := D) (C := R_V) (T := F_V) (N := 19) hx hb htw uw_V hown hK hP 0 rfl rfl 10 (by decide) (htw _ k_V_25) (fun _ h9 => h9) rfl d_V_isAwaited_1 ?_
  refine lv_iconst (v := 1) hx hb d_V_isAwaited_4 (by decide) ?_
  refine lv_icmp_eq (tgt := 16) hx hb d_V_isAwaited_5 (by decide) (fun c1 => ?_) (fun c1 => ?_)
  · refine lv_iconst (v := 1) hx hb d_V_isAwaited_16 (by decide) ?_
    refine lv_goto (tgt := 21) hx hb d_V_isAwaited_17 (by decide) ?_
    exact W.zret (v := 1) hx hb hr (by decide) (fun t ht hW => ⟨_, rfl, Or.inl ⟨rfl, Or.inl c1⟩, ht⟩) (fun q h => nomatch h) d_V_isAwaited_21
  · refine lv_aload_n hx hb d_V_isAwaited_8 rfl (lv_at hl 0 rfl) ?_
    refine va_get (D := D) (C := R_V) (T := F_V) (N := 19) hx hb htw uw_V hown hK hP 0 rfl rfl 10 (by decide) (htw _ k_V_25) (fun _ h9 => h9) rfl d_V_isAwaited_9 ?_
    refine lv_iconst (v := 4) hx hb d_V_isAwaited_12 (by decide) ?_
    refine lv_icmp_ne (tgt := 20) hx hb d_V_isAwaited_13 (by decide) (fun c2 => ?_) (fun c2 => ?_)
    · refine lv_iconst (v := 0) hx hb d_V_isAwaited_20 (by decide) ?_
      exact W.zret (v := 0) hx hb hr (by decide) (fun t ht hW => ⟨_, rfl, Or.inr ⟨rfl, fun q => q.elim c1 c2⟩, ht⟩) (fun q h => nomatch h) d_V_isAwaited_21
    · refine lv_iconst (v := 1) hx hb d_V_isAwaited_16 (by decide) ?_
      refine lv_goto (tgt := 21) hx hb d_V_isAwaited_17 (by decide) ?_
      exact W.zret (v := 1) hx hb hr (by decide) (fun t ht hW => ⟨_, rfl, Or.inl ⟨rfl, Or.inr c2⟩, ht⟩) (fun q h => nomatch h) d_V_isAwaited_21
set_option maxHeartbeats 4000000 in
set_option maxRecDepth 100000 in
theorem t_V_piecesLeft (l : Launch) (D : va_G) (cM cG cI cJ : ClassId) (h : Nat) (F : Nat → Nat → Int32) (i : Nat) : Met l y_V_piecesLeft (Cond.code y_V_piecesLeft c_V_piecesLeft 1 (some .int) :: tw_L) ({ frames := 0, cells := 0, slots := 0, locals := 0 } : Room) (pu_P (fun _ => va_P D cl_L [(h, .inr (1, mv_L F i))]) (yt_P D cM cG cI cJ) [.ref h]) (vp_Si (fun r => r = F 4 i - F 11 i)) 0 0 no_A := by
  refine Met.ofW (cc := c_V_piecesLeft) (maxL := 1) (ret := (some .int)) (by decide) rfl ?_
  intro p e s m args below meth c s₁ B hml hv
  obtain ⟨rfl, hX, hY⟩ := hv
  have hx := B.exec
  have hb := B.bytes
  have hr := B.returns
  have htw : ∀ w ∈ tw_L, w.before _ s = true := fun w hw => atoms_spec (ws := (Cond.code y_V_piecesLeft c_V_piecesLeft 1 (some .int) :: tw_L)) B.pre w (List.mem_cons_of_mem _ hw)
  have hown : s.vm.findClass R_V = some m.cls := findClass_of_methodNamed B.named
  have hlocks := B.notSynchronized
  have hC : CallFix p m c c_V_piecesLeft 1 s _ tw_L R_V := ⟨hx, hb, hml, hown, htw⟩
  have hK := hY.1
  have hl := lv_entry ([.ref h]) (n := 1) (Nat.le_of_ble_eq_true rfl)
  rw [lg_entry_eq]
  generalize (lg_sl ([.ref h]) ++ List.replicate (1 - (lg_sl ([.ref h])).length) Slot.unset).toArray = ls at hl ⊢
  have hl : lv_has ls 1 [(0, .ref h)] := hl
  have hP := hX
  refine lv_aload_n hx hb d_V_piecesLeft_0 rfl (lv_at hl 0 rfl) ?_
  refine va_get (D := D) (C := R_V) (T := F_V) (N := 19) hx hb htw uw_V hown hK hP 0 rfl rfl 4 (by decide) (htw _ k_V_64) (fun _ h9 => h9) rfl d_V_piecesLeft_1 ?_
  refine lv_aload_n hx hb d_V_piecesLeft_4 rfl (lv_at hl 0 rfl) ?_
  refine va_get (D := D) (C := R_V) (T := F_V) (N := 19) hx hb htw uw_V hown hK hP 0 rfl rfl 11 (by decide) (htw _ k_V_28) (fun _ h9 => h9) rfl d_V_piecesLeft_5 ?_
  refine lv_isub hx hb d_V_piecesLeft_8 ?_
  exact W.iret (v := ((F 4 i) - (F 11 i))) hx hb hr (fun t ht hW => ⟨_, rfl, rfl, ht⟩) (fun q h => nomatch h) d_V_piecesLeft_9
set_option maxHeartbeats 4000000 in
set_option maxRecDepth 100000 in
theorem t_T_isWithin (l : Launch) (D : va_G) (cM cG cI cJ : ClassId) (x : Int32) (lo : Int32) (hi : Int32) : Met l y_T_isWithin (Cond.code y_T_isWithin c_T_isWithin 3 (some .boolean) :: tw_L) ({ frames := 0, cells := 0, slots := 0, locals := 0 } : Room) (pu_P (fun _ _ => True) (yt_P D cM cG cI cJ) [.int x, .int lo, .int hi]) (vp_Si (fun r => (r = 1 ∧ is_wi x lo hi) ∨ (r = 0 ∧ ¬ is_wi x lo hi))) 0 0 no_A := by
  refine Met.ofW (cc := c_T_isWithin) (maxL := 3) (ret := (some .boolean)) (by decide) rfl ?_
  intro p e s m args below meth c s₁ B hml hv
  obtain ⟨rfl, hX, hY⟩ := hv
  have hx := B.exec
  have hb := B.bytes
  have hr := B.returns
  have htw : ∀ w ∈ tw_L, w.before _ s = true := fun w hw => atoms_spec (ws := (Cond.code y_T_isWithin c_T_isWithin 3 (some .boolean) :: tw_L)) B.pre w (List.mem_cons_of_mem _ hw)
  have hown : s.vm.findClass R_T = some m.cls := findClass_of_methodNamed B.named
  have hlocks := B.notSynchronized
  have hC : CallFix p m c c_T_isWithin 3 s _ tw_L R_T := ⟨hx, hb, hml, hown, htw⟩
  have hK := hY.1
  have hl := lv_entry ([.int x, .int lo, .int hi]) (n := 3) (Nat.le_of_ble_eq_true rfl)
  rw [lg_entry_eq]
  generalize (lg_sl ([.int x, .int lo, .int hi]) ++ List.replicate (3 - (lg_sl ([.int x, .int lo, .int hi])).length) Slot.unset).toArray = ls at hl ⊢
  have hl : lv_has ls 3 [(0, .int x), (1, .int lo), (2, .int hi)] := hl
  refine lv_iload_n hx hb d_T_isWithin_0 rfl (lv_at hl 0 rfl) ?_
  refine lv_iload_n hx hb d_T_isWithin_1 rfl (lv_at hl 1 rfl) ?_
  refine lv_icmp_lt (tgt := 14) hx hb d_T_isWithin_2 (by decide) (fun c1 => ?_) (fun c1 => ?_)
  · refine lv_iconst (v := 0) hx hb d_T_isWithin_14 (by decide) ?_
    exact W.zret (v := 0) hx hb hr (by decide) (fun t ht hW => ⟨_, rfl, Or.inr ⟨rfl, fun q => q.1 c1⟩, ht⟩) (fun q h => nomatch h) d_T_isWithin_15
  · refine lv_iload_n hx hb d_T_isWithin_5 rfl (lv_at hl 0 rfl) ?_
    refine lv_iload_n hx hb d_T_isWithin_6 rfl (lv_at hl 2 rfl) ?_
    refine lv_icmp_gt (tgt := 14) hx hb d_T_isWithin_7 (by decide) (fun c2 => ?_) (fun c2 => ?_)
    · refine lv_iconst (v := 0) hx hb d_T_isWithin_14 (by decide) ?_
      exact W.zret (v := 0) hx hb hr (by decide) (fun t ht hW => ⟨_, rfl, Or.inr ⟨rfl, fun q => q.2 c2⟩, ht⟩) (fun q h => nomatch h) d_T_isWithin_15
    · refine lv_iconst (v := 1) hx hb d_T_isWithin_10 (by decide) ?_
      refine lv_goto (tgt := 15) hx hb d_T_isWithin_11 (by decide) ?_
      exact W.zret (v := 1) hx hb hr (by decide) (fun t ht hW => ⟨_, rfl, Or.inl ⟨rfl, c1, c2⟩, ht⟩) (fun q h => nomatch h) d_T_isWithin_15
set_option maxHeartbeats 4000000 in
set_option maxRecDepth 100000 in
theorem t_N_in (l : Launch) (D : va_G) (cM cG cI cJ : ClassId) (x : Int32) (lo : Int32) (hi : Int32) : Met l y_N_in (Cond.code y_N_in c_N_in 3 (some .boolean) :: tw_L) ({ frames := 0, cells := 0, slots := 0, locals := 0 } : Room) (pu_P (fun _ _ => True) (yt_P D cM cG cI cJ) [.int x, .int lo, .int hi]) (vp_Si (fun r => (r = 1 ∧ is_wi x lo hi) ∨ (r = 0 ∧ ¬ is_wi x lo hi))) 0 0 no_A := by
  refine Met.ofW (cc := c_N_in) (maxL := 3) (ret := (some .boolean)) (by decide) rfl ?_
  intro p e s m args below meth c s₁ B hml hv
  obtain ⟨rfl, hX, hY⟩ := hv
  have hx := B.exec
  have hb := B.bytes
  have hr := B.returns
  have htw : ∀ w ∈ tw_L, w.before _ s = true := fun w hw => atoms_spec (ws := (Cond.code y_N_in c_N_in 3 (some .boolean) :: tw_L)) B.pre w (List.mem_cons_of_mem _ hw)
  have hown : s.vm.findClass R_N = some m.cls := findClass_of_methodNamed B.named
  have hlocks := B.notSynchronized
  have hC : CallFix p m c c_N_in 3 s _ tw_L R_N := ⟨hx, hb, hml, hown, htw⟩
  have hK := hY.1
  have hl := lv_entry ([.int x, .int lo, .int hi]) (n := 3) (Nat.le_of_ble_eq_true rfl)
  rw [lg_entry_eq]
  generalize (lg_sl ([.int x, .int lo, .int hi]) ++ List.replicate (3 - (lg_sl ([.int x, .int lo, .int hi])).length) Slot.unset).toArray = ls at hl ⊢
  have hl : lv_has ls 3 [(0, .int x), (1, .int lo), (2, .int hi)] := hl
  refine lv_iload_n hx hb d_N_in_0 rfl (lv_at hl 0 rfl) ?_
  refine lv_iload_n hx hb d_N_in_1 rfl (lv_at hl 1 rfl) ?_
  refine lv_icmp_lt (tgt := 14) hx hb d_N_in_2 (by decide) (fun c1 => ?_) (fun c1 => ?_)
  · refine lv_iconst (v := 0) hx hb d_N_in_14 (by decide) ?_
    exact W.zret (v := 0) hx hb hr (by decide) (fun t ht hW => ⟨_, rfl, Or.inr ⟨rfl, fun q => q.1 c1⟩, ht⟩) (fun q h => nomatch h) d_N_in_15
  · refine lv_iload_n hx hb d_N_in_5 rfl (lv_at hl 0 rfl) ?_
    refine lv_iload_n hx hb d_N_in_6 rfl (lv_at hl 2 rfl) ?_
    refine lv_icmp_gt (tgt := 14) hx hb d_N_in_7 (by decide) (fun c2 => ?_) (fun c2 => ?_)
    · refine lv_iconst (v := 0) hx hb d_N_in_14 (by decide) ?_
      exact W.zret (v := 0) hx hb hr (by decide) (fun t ht hW => ⟨_, rfl, Or.inr ⟨rfl, fun q => q.2 c2⟩, ht⟩) (fun q h => nomatch h) d_N_in_15
    · refine lv_iconst (v := 1) hx hb d_N_in_10 (by decide) ?_
      refine lv_goto (tgt := 15) hx hb d_N_in_11 (by decide) ?_
      exact W.zret (v := 1) hx hb hr (by decide) (fun t ht hW => ⟨_, rfl, Or.inl ⟨rfl, c1, c2⟩, ht⟩) (fun q h => nomatch h) d_N_in_15
set_option maxHeartbeats 4000000 in
set_option maxRecDepth 100000 in
theorem t_T_bit (l : Launch) (D : va_G) (cM cG cI cJ : ClassId) (x : Int32) : Met l y_T_bit (Cond.code y_T_bit c_T_bit 1 (some .int) :: tw_L) ({ frames := 0, cells := 0, slots := 0, locals := 0 } : Room) (pu_P (fun _ _ => True) (yt_P D cM cG cI cJ) [.int x]) (vp_Si (fun r => (r = 1 ∧ ¬ x = 0) ∨ (r = 0 ∧ x = 0))) 0 0 no_A := by
  refine Met.ofW (cc := c_T_bit) (maxL := 1) (ret := (some .int)) (by decide) rfl ?_
  intro p e s m args below meth c s₁ B hml hv
  obtain ⟨rfl, hX, hY⟩ := hv
  have hx := B.exec
  have hb := B.bytes
  have hr := B.returns
  have htw : ∀ w ∈ tw_L, w.before _ s = true := fun w hw => atoms_spec (ws := (Cond.code y_T_bit c_T_bit 1 (some .int) :: tw_L)) B.pre w (List.mem_cons_of_mem _ hw)
  have hown : s.vm.findClass R_T = some m.cls := findClass_of_methodNamed B.named
  have hlocks := B.notSynchronized
  have hC : CallFix p m c c_T_bit 1 s _ tw_L R_T := ⟨hx, hb, hml, hown, htw⟩
  have hK := hY.1
  have hl := lv_entry ([.int x]) (n := 1) (Nat.le_of_ble_eq_true rfl)
  rw [lg_entry_eq]
  generalize (lg_sl ([.int x]) ++ List.replicate (1 - (lg_sl ([.int x])).length) Slot.unset).toArray = ls at hl ⊢
  have hl : lv_has ls 1 [(0, .int x)] := hl
  refine lv_iload_n hx hb d_T_bit_0 rfl (lv_at hl 0 rfl) ?_
  refine lv_if_eq (tgt := 8) hx hb d_T_bit_1 (by decide) (fun c1 => ?_) (fun c1 => ?_)
  · refine lv_iconst (v := 0) hx hb d_T_bit_8 (by decide) ?_
    exact W.iret (v := 0) hx hb hr (fun t ht hW => ⟨_, rfl, Or.inr ⟨rfl, c1⟩, ht⟩) (fun q h => nomatch h) d_T_bit_9
  · refine lv_iconst (v := 1) hx hb d_T_bit_4 (by decide) ?_
    refine lv_goto (tgt := 9) hx hb d_T_bit_5 (by decide) ?_
    exact W.iret (v := 1) hx hb hr (fun t ht hW => ⟨_, rfl, Or.inl ⟨rfl, c1⟩, ht⟩) (fun q h => nomatch h) d_T_bit_9
